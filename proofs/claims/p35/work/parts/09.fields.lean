section
theorem dv_X0 : ∀ j, j < 4 → defaultValue (tyX0 j) = vp_V ((ax_ft 0).map fun t => if t = 0 then .int 0 else if t = 1 then .long 0 else .null) j := by decide +kernel
theorem dv_X1 : ∀ j, j < 2 → defaultValue (tyX1 j) = vp_V ((ax_ft 1).map fun t => if t = 0 then .int 0 else if t = 1 then .long 0 else .null) j := by decide +kernel
theorem dv_X10 : ∀ j, j < 59 → defaultValue (tyX10 j) = vp_V ((ax_ft 10).map fun t => if t = 0 then .int 0 else if t = 1 then .long 0 else .null) j := by decide +kernel
theorem dv_X2 : ∀ j, j < 4 → defaultValue (tyX2 j) = vp_V ((ax_ft 2).map fun t => if t = 0 then .int 0 else if t = 1 then .long 0 else .null) j := by decide +kernel
theorem dv_X3 : ∀ j, j < 3 → defaultValue (tyX3 j) = vp_V ((ax_ft 3).map fun t => if t = 0 then .int 0 else if t = 1 then .long 0 else .null) j := by decide +kernel
theorem dv_X4 : ∀ j, j < 9 → defaultValue (tyX4 j) = vp_V ((ax_ft 4).map fun t => if t = 0 then .int 0 else if t = 1 then .long 0 else .null) j := by decide +kernel
theorem dv_X5 : ∀ j, j < 14 → defaultValue (tyX5 j) = vp_V ((ax_ft 5).map fun t => if t = 0 then .int 0 else if t = 1 then .long 0 else .null) j := by decide +kernel
theorem dv_X6 : ∀ j, j < 7 → defaultValue (tyX6 j) = vp_V ((ax_ft 6).map fun t => if t = 0 then .int 0 else if t = 1 then .long 0 else .null) j := by decide +kernel
theorem dv_X7 : ∀ j, j < 5 → defaultValue (tyX7 j) = vp_V ((ax_ft 7).map fun t => if t = 0 then .int 0 else if t = 1 then .long 0 else .null) j := by decide +kernel
theorem dv_X8 : ∀ j, j < 7 → defaultValue (tyX8 j) = vp_V ((ax_ft 8).map fun t => if t = 0 then .int 0 else if t = 1 then .long 0 else .null) j := by decide +kernel
theorem dv_X9 : ∀ j, j < 9 → defaultValue (tyX9 j) = vp_V ((ax_ft 9).map fun t => if t = 0 then .int 0 else if t = 1 then .long 0 else .null) j := by decide +kernel
theorem fF_X9_10 : ax_F RX9 10 9 0 2 := ⟨by decide, by decide, _, _, _, tyX9, rfl, ig_X9, tyX9_ok, nmX9, by decide, wd_419⟩
theorem fF_X9_16 : ax_F RX9 16 9 1 2 := ⟨by decide, by decide, _, _, _, tyX9, rfl, ig_X9, tyX9_ok, nmX9, by decide, wd_420⟩
theorem fF_X9_22 : ax_F RX9 22 8 0 2 := ⟨by decide, by decide, _, _, _, tyX8, rfl, ig_X8, tyX8_ok, nmX8, by decide, wd_209⟩
theorem fF_X9_29 : ax_F RX9 29 9 2 2 := ⟨by decide, by decide, _, _, _, tyX9, rfl, ig_X9, tyX9_ok, nmX9, by decide, wd_421⟩
theorem fF_X9_36 : ax_F RX9 36 9 3 2 := ⟨by decide, by decide, _, _, _, tyX9, rfl, ig_X9, tyX9_ok, nmX9, by decide, wd_422⟩
theorem fF_X9_43 : ax_F RX9 43 9 4 2 := ⟨by decide, by decide, _, _, _, tyX9, rfl, ig_X9, tyX9_ok, nmX9, by decide, wd_423⟩
theorem fF_X9_47 : ax_F RX9 47 9 5 2 := ⟨by decide, by decide, _, _, _, tyX9, rfl, ig_X9, tyX9_ok, nmX9, by decide, wd_424⟩
theorem fF_X9_53 : ax_F RX9 53 9 6 2 := ⟨by decide, by decide, _, _, _, tyX9, rfl, ig_X9, tyX9_ok, nmX9, by decide, wd_425⟩
theorem fF_X9_60 : ax_F RX9 60 9 7 2 := ⟨by decide, by decide, _, _, _, tyX9, rfl, ig_X9, tyX9_ok, nmX9, by decide, wd_426⟩
theorem fF_X9_67 : ax_F RX9 67 9 8 2 := ⟨by decide, by decide, _, _, _, tyX9, rfl, ig_X9, tyX9_ok, nmX9, by decide, wd_427⟩
theorem fF_X9_71 : ax_F RX9 71 8 4 0 := ⟨by decide, by decide, _, _, _, tyX8, rfl, ig_X8, tyX8_ok, nmX8, by decide, wd_215⟩
theorem fF_X9_79 : ax_F RX9 79 8 5 0 := ⟨by decide, by decide, _, _, _, tyX8, rfl, ig_X8, tyX8_ok, nmX8, by decide, wd_217⟩
theorem fF_X9_82 : ax_F RX9 82 8 6 0 := ⟨by decide, by decide, _, _, _, tyX8, rfl, ig_X8, tyX8_ok, nmX8, by decide, wd_219⟩
theorem fF_X9_85 : ax_F RX9 85 8 1 2 := ⟨by decide, by decide, _, _, _, tyX8, rfl, ig_X8, tyX8_ok, nmX8, by decide, wd_211⟩
theorem fF_X9_93 : ax_F RX9 93 5 4 0 := ⟨by decide, by decide, _, _, _, tyX5, rfl, ig_X5, tyX5_ok, nmX5, by decide, wd_253⟩
theorem fF_X9_94 : ax_F RX9 94 5 5 0 := ⟨by decide, by decide, _, _, _, tyX5, rfl, ig_X5, tyX5_ok, nmX5, by decide, wd_255⟩
theorem fF_X9_112 : ax_F RX9 112 6 5 0 := ⟨by decide, by decide, _, _, _, tyX6, rfl, ig_X6, tyX6_ok, nmX6, by decide, wd_158⟩
theorem fF_X9_115 : ax_F RX9 115 6 6 0 := ⟨by decide, by decide, _, _, _, tyX6, rfl, ig_X6, tyX6_ok, nmX6, by decide, wd_162⟩
theorem fF_X9_129 : ax_F RX9 129 6 2 2 := ⟨by decide, by decide, _, _, _, tyX6, rfl, ig_X6, tyX6_ok, nmX6, by decide, wd_146⟩
theorem fF_X9_149 : ax_F RX9 149 3 0 2 := ⟨by decide, by decide, _, _, _, tyX3, rfl, ig_X3, tyX3_ok, nmX3, by decide, wd_324⟩
theorem fF_X9_152 : ax_F RX9 152 3 2 0 := ⟨by decide, by decide, _, _, _, tyX3, rfl, ig_X3, tyX3_ok, nmX3, by decide, wd_328⟩
theorem fF_X9_163 : ax_F RX9 163 2 3 0 := ⟨by decide, by decide, _, _, _, tyX2, rfl, ig_X2, tyX2_ok, nmX2, by decide, wd_198⟩
theorem fF_X9_181 : ax_F RX9 181 0 0 2 := ⟨by decide, by decide, _, _, _, tyX0, rfl, ig_X0, tyX0_ok, nmX0, by decide, wd_301⟩
theorem fF_X9_228 : ax_F RX9 228 4 0 2 := ⟨by decide, by decide, _, _, _, tyX4, rfl, ig_X4, tyX4_ok, nmX4, by decide, wd_345⟩
theorem fF_X9_231 : ax_F RX9 231 4 1 1 := ⟨by decide, by decide, _, _, _, tyX4, rfl, ig_X4, tyX4_ok, nmX4, by decide, wd_347⟩
theorem fF_X9_239 : ax_F RX9 239 4 2 1 := ⟨by decide, by decide, _, _, _, tyX4, rfl, ig_X4, tyX4_ok, nmX4, by decide, wd_349⟩
theorem fF_X9_242 : ax_F RX9 242 4 3 0 := ⟨by decide, by decide, _, _, _, tyX4, rfl, ig_X4, tyX4_ok, nmX4, by decide, wd_351⟩
theorem fF_X9_266 : ax_F RX9 266 7 2 0 := ⟨by decide, by decide, _, _, _, tyX7, rfl, ig_X7, tyX7_ok, nmX7, by decide, wd_392⟩
theorem fF_X9_269 : ax_F RX9 269 7 1 0 := ⟨by decide, by decide, _, _, _, tyX7, rfl, ig_X7, tyX7_ok, nmX7, by decide, wd_390⟩
theorem fF_X9_275 : ax_F RX9 275 7 0 2 := ⟨by decide, by decide, _, _, _, tyX7, rfl, ig_X7, tyX7_ok, nmX7, by decide, wd_388⟩
theorem fF_X9_296 : ax_F RX9 296 4 4 1 := ⟨by decide, by decide, _, _, _, tyX4, rfl, ig_X4, tyX4_ok, nmX4, by decide, wd_353⟩
theorem fF_X0_9 : ax_F RX0 9 0 0 2 := ⟨by decide, by decide, _, _, _, tyX0, rfl, ig_X0, tyX0_ok, nmX0, by decide, wd_299⟩
theorem fF_X0_15 : ax_F RX0 15 0 1 2 := ⟨by decide, by decide, _, _, _, tyX0, rfl, ig_X0, tyX0_ok, nmX0, by decide, wd_302⟩
theorem fF_X0_18 : ax_F RX0 18 0 2 0 := ⟨by decide, by decide, _, _, _, tyX0, rfl, ig_X0, tyX0_ok, nmX0, by decide, wd_303⟩
theorem fF_X0_22 : ax_F RX0 22 0 3 0 := ⟨by decide, by decide, _, _, _, tyX0, rfl, ig_X0, tyX0_ok, nmX0, by decide, wd_304⟩
theorem fF_X0_25 : ax_F RX0 25 6 6 0 := ⟨by decide, by decide, _, _, _, tyX6, rfl, ig_X6, tyX6_ok, nmX6, by decide, wd_159⟩
theorem fF_X0_28 : ax_F RX0 28 6 5 0 := ⟨by decide, by decide, _, _, _, tyX6, rfl, ig_X6, tyX6_ok, nmX6, by decide, wd_154⟩
theorem fF_X0_29 : ax_F RX0 29 6 2 2 := ⟨by decide, by decide, _, _, _, tyX6, rfl, ig_X6, tyX6_ok, nmX6, by decide, wd_145⟩
theorem fF_X0_46 : ax_F RX0 46 3 0 2 := ⟨by decide, by decide, _, _, _, tyX3, rfl, ig_X3, tyX3_ok, nmX3, by decide, wd_323⟩
theorem fF_X1_7 : ax_F RX1 7 1 0 1 := ⟨by decide, by decide, _, _, _, tyX1, rfl, ig_X1, tyX1_ok, nmX1, by decide, wd_412⟩
theorem fF_X1_13 : ax_F RX1 13 1 1 1 := ⟨by decide, by decide, _, _, _, tyX1, rfl, ig_X1, tyX1_ok, nmX1, by decide, wd_413⟩
theorem fF_X2_9 : ax_F RX2 9 2 3 0 := ⟨by decide, by decide, _, _, _, tyX2, rfl, ig_X2, tyX2_ok, nmX2, by decide, wd_193⟩
theorem fF_X2_19 : ax_F RX2 19 2 0 0 := ⟨by decide, by decide, _, _, _, tyX2, rfl, ig_X2, tyX2_ok, nmX2, by decide, wd_189⟩
theorem fF_X2_25 : ax_F RX2 25 2 1 0 := ⟨by decide, by decide, _, _, _, tyX2, rfl, ig_X2, tyX2_ok, nmX2, by decide, wd_190⟩
theorem fF_X2_28 : ax_F RX2 28 2 2 2 := ⟨by decide, by decide, _, _, _, tyX2, rfl, ig_X2, tyX2_ok, nmX2, by decide, wd_192⟩
theorem fF_X3_9 : ax_F RX3 9 3 0 2 := ⟨by decide, by decide, _, _, _, tyX3, rfl, ig_X3, tyX3_ok, nmX3, by decide, wd_320⟩
theorem fF_X3_15 : ax_F RX3 15 3 1 0 := ⟨by decide, by decide, _, _, _, tyX3, rfl, ig_X3, tyX3_ok, nmX3, by decide, wd_325⟩
theorem fF_X3_19 : ax_F RX3 19 3 2 0 := ⟨by decide, by decide, _, _, _, tyX3, rfl, ig_X3, tyX3_ok, nmX3, by decide, wd_326⟩
theorem fF_X3_22 : ax_F RX3 22 6 5 0 := ⟨by decide, by decide, _, _, _, tyX6, rfl, ig_X6, tyX6_ok, nmX6, by decide, wd_152⟩
theorem fF_X4_9 : ax_F RX4 9 4 0 2 := ⟨by decide, by decide, _, _, _, tyX4, rfl, ig_X4, tyX4_ok, nmX4, by decide, wd_344⟩
theorem fF_X4_15 : ax_F RX4 15 4 1 1 := ⟨by decide, by decide, _, _, _, tyX4, rfl, ig_X4, tyX4_ok, nmX4, by decide, wd_346⟩
theorem fF_X4_19 : ax_F RX4 19 4 2 1 := ⟨by decide, by decide, _, _, _, tyX4, rfl, ig_X4, tyX4_ok, nmX4, by decide, wd_348⟩
theorem fF_X4_22 : ax_F RX4 22 4 3 0 := ⟨by decide, by decide, _, _, _, tyX4, rfl, ig_X4, tyX4_ok, nmX4, by decide, wd_350⟩
theorem fF_X4_26 : ax_F RX4 26 4 4 1 := ⟨by decide, by decide, _, _, _, tyX4, rfl, ig_X4, tyX4_ok, nmX4, by decide, wd_352⟩
theorem fF_X4_29 : ax_F RX4 29 4 5 2 := ⟨by decide, by decide, _, _, _, tyX4, rfl, ig_X4, tyX4_ok, nmX4, by decide, wd_354⟩
theorem fF_X4_32 : ax_F RX4 32 4 6 2 := ⟨by decide, by decide, _, _, _, tyX4, rfl, ig_X4, tyX4_ok, nmX4, by decide, wd_355⟩
theorem fF_X4_36 : ax_F RX4 36 4 7 2 := ⟨by decide, by decide, _, _, _, tyX4, rfl, ig_X4, tyX4_ok, nmX4, by decide, wd_356⟩
theorem fF_X4_42 : ax_F RX4 42 4 8 2 := ⟨by decide, by decide, _, _, _, tyX4, rfl, ig_X4, tyX4_ok, nmX4, by decide, wd_357⟩
theorem fF_X4_56 : ax_F RX4 56 6 5 0 := ⟨by decide, by decide, _, _, _, tyX6, rfl, ig_X6, tyX6_ok, nmX6, by decide, wd_156⟩
theorem fF_X4_65 : ax_F RX4 65 3 0 2 := ⟨by decide, by decide, _, _, _, tyX3, rfl, ig_X3, tyX3_ok, nmX3, by decide, wd_321⟩
theorem fF_X4_72 : ax_F RX4 72 2 3 0 := ⟨by decide, by decide, _, _, _, tyX2, rfl, ig_X2, tyX2_ok, nmX2, by decide, wd_196⟩
theorem fF_X4_107 : ax_F RX4 107 3 2 0 := ⟨by decide, by decide, _, _, _, tyX3, rfl, ig_X3, tyX3_ok, nmX3, by decide, wd_327⟩
theorem fF_X5_12 : ax_F RX5 12 5 1 2 := ⟨by decide, by decide, _, _, _, tyX5, rfl, ig_X5, tyX5_ok, nmX5, by decide, wd_247⟩
theorem fF_X5_20 : ax_F RX5 20 5 2 2 := ⟨by decide, by decide, _, _, _, tyX5, rfl, ig_X5, tyX5_ok, nmX5, by decide, wd_249⟩
theorem fF_X5_24 : ax_F RX5 24 5 3 2 := ⟨by decide, by decide, _, _, _, tyX5, rfl, ig_X5, tyX5_ok, nmX5, by decide, wd_251⟩
theorem fF_X5_28 : ax_F RX5 28 5 4 0 := ⟨by decide, by decide, _, _, _, tyX5, rfl, ig_X5, tyX5_ok, nmX5, by decide, wd_252⟩
theorem fF_X5_32 : ax_F RX5 32 5 5 0 := ⟨by decide, by decide, _, _, _, tyX5, rfl, ig_X5, tyX5_ok, nmX5, by decide, wd_254⟩
theorem fF_X5_35 : ax_F RX5 35 5 6 0 := ⟨by decide, by decide, _, _, _, tyX5, rfl, ig_X5, tyX5_ok, nmX5, by decide, wd_256⟩
theorem fF_X5_38 : ax_F RX5 38 5 7 0 := ⟨by decide, by decide, _, _, _, tyX5, rfl, ig_X5, tyX5_ok, nmX5, by decide, wd_257⟩
theorem fF_X5_41 : ax_F RX5 41 5 8 0 := ⟨by decide, by decide, _, _, _, tyX5, rfl, ig_X5, tyX5_ok, nmX5, by decide, wd_258⟩
theorem fF_X5_44 : ax_F RX5 44 5 9 0 := ⟨by decide, by decide, _, _, _, tyX5, rfl, ig_X5, tyX5_ok, nmX5, by decide, wd_259⟩
theorem fF_X5_47 : ax_F RX5 47 5 10 0 := ⟨by decide, by decide, _, _, _, tyX5, rfl, ig_X5, tyX5_ok, nmX5, by decide, wd_260⟩
theorem fF_X5_50 : ax_F RX5 50 5 11 0 := ⟨by decide, by decide, _, _, _, tyX5, rfl, ig_X5, tyX5_ok, nmX5, by decide, wd_261⟩
theorem fF_X5_53 : ax_F RX5 53 5 12 0 := ⟨by decide, by decide, _, _, _, tyX5, rfl, ig_X5, tyX5_ok, nmX5, by decide, wd_262⟩
theorem fF_X5_56 : ax_F RX5 56 5 13 0 := ⟨by decide, by decide, _, _, _, tyX5, rfl, ig_X5, tyX5_ok, nmX5, by decide, wd_263⟩
theorem fF_X5_59 : ax_F RX5 59 5 0 2 := ⟨by decide, by decide, _, _, _, tyX5, rfl, ig_X5, tyX5_ok, nmX5, by decide, wd_246⟩
theorem fF_X5_77 : ax_F RX5 77 6 5 0 := ⟨by decide, by decide, _, _, _, tyX6, rfl, ig_X6, tyX6_ok, nmX6, by decide, wd_155⟩
theorem fF_X5_80 : ax_F RX5 80 6 6 0 := ⟨by decide, by decide, _, _, _, tyX6, rfl, ig_X6, tyX6_ok, nmX6, by decide, wd_161⟩
theorem fF_X5_102 : ax_F RX5 102 2 3 0 := ⟨by decide, by decide, _, _, _, tyX2, rfl, ig_X2, tyX2_ok, nmX2, by decide, wd_195⟩
theorem fF_X5_147 : ax_F RX5 147 6 0 2 := ⟨by decide, by decide, _, _, _, tyX6, rfl, ig_X6, tyX6_ok, nmX6, by decide, wd_141⟩
theorem fF_X5_150 : ax_F RX5 150 6 1 2 := ⟨by decide, by decide, _, _, _, tyX6, rfl, ig_X6, tyX6_ok, nmX6, by decide, wd_143⟩
theorem fF_X5_153 : ax_F RX5 153 6 2 2 := ⟨by decide, by decide, _, _, _, tyX6, rfl, ig_X6, tyX6_ok, nmX6, by decide, wd_147⟩
theorem fF_X5_156 : ax_F RX5 156 6 3 2 := ⟨by decide, by decide, _, _, _, tyX6, rfl, ig_X6, tyX6_ok, nmX6, by decide, wd_149⟩
theorem fF_X5_159 : ax_F RX5 159 6 4 2 := ⟨by decide, by decide, _, _, _, tyX6, rfl, ig_X6, tyX6_ok, nmX6, by decide, wd_151⟩
theorem fF_X6_9 : ax_F RX6 9 6 0 2 := ⟨by decide, by decide, _, _, _, tyX6, rfl, ig_X6, tyX6_ok, nmX6, by decide, wd_140⟩
theorem fF_X6_15 : ax_F RX6 15 6 1 2 := ⟨by decide, by decide, _, _, _, tyX6, rfl, ig_X6, tyX6_ok, nmX6, by decide, wd_142⟩
theorem fF_X6_18 : ax_F RX6 18 6 2 2 := ⟨by decide, by decide, _, _, _, tyX6, rfl, ig_X6, tyX6_ok, nmX6, by decide, wd_144⟩
theorem fF_X6_21 : ax_F RX6 21 6 3 2 := ⟨by decide, by decide, _, _, _, tyX6, rfl, ig_X6, tyX6_ok, nmX6, by decide, wd_148⟩
theorem fF_X6_24 : ax_F RX6 24 6 4 2 := ⟨by decide, by decide, _, _, _, tyX6, rfl, ig_X6, tyX6_ok, nmX6, by decide, wd_150⟩
theorem fF_X6_30 : ax_F RX6 30 6 5 0 := ⟨by decide, by decide, _, _, _, tyX6, rfl, ig_X6, tyX6_ok, nmX6, by decide, wd_153⟩
theorem fF_X6_34 : ax_F RX6 34 6 6 0 := ⟨by decide, by decide, _, _, _, tyX6, rfl, ig_X6, tyX6_ok, nmX6, by decide, wd_160⟩
theorem fF_X7_9 : ax_F RX7 9 7 0 2 := ⟨by decide, by decide, _, _, _, tyX7, rfl, ig_X7, tyX7_ok, nmX7, by decide, wd_387⟩
theorem fF_X7_15 : ax_F RX7 15 7 1 0 := ⟨by decide, by decide, _, _, _, tyX7, rfl, ig_X7, tyX7_ok, nmX7, by decide, wd_389⟩
theorem fF_X7_19 : ax_F RX7 19 7 2 0 := ⟨by decide, by decide, _, _, _, tyX7, rfl, ig_X7, tyX7_ok, nmX7, by decide, wd_391⟩
theorem fF_X7_22 : ax_F RX7 22 7 3 2 := ⟨by decide, by decide, _, _, _, tyX7, rfl, ig_X7, tyX7_ok, nmX7, by decide, wd_393⟩
theorem fF_X7_27 : ax_F RX7 27 7 4 2 := ⟨by decide, by decide, _, _, _, tyX7, rfl, ig_X7, tyX7_ok, nmX7, by decide, wd_394⟩
theorem fF_X7_32 : ax_F RX7 32 2 3 0 := ⟨by decide, by decide, _, _, _, tyX2, rfl, ig_X2, tyX2_ok, nmX2, by decide, wd_194⟩
theorem fF_X7_66 : ax_F RX7 66 6 5 0 := ⟨by decide, by decide, _, _, _, tyX6, rfl, ig_X6, tyX6_ok, nmX6, by decide, wd_157⟩
theorem fF_X7_71 : ax_F RX7 71 3 0 2 := ⟨by decide, by decide, _, _, _, tyX3, rfl, ig_X3, tyX3_ok, nmX3, by decide, wd_322⟩
theorem fF_X7_89 : ax_F RX7 89 0 0 2 := ⟨by decide, by decide, _, _, _, tyX0, rfl, ig_X0, tyX0_ok, nmX0, by decide, wd_300⟩
theorem fF_X8_9 : ax_F RX8 9 8 0 2 := ⟨by decide, by decide, _, _, _, tyX8, rfl, ig_X8, tyX8_ok, nmX8, by decide, wd_208⟩
theorem fF_X8_15 : ax_F RX8 15 8 1 2 := ⟨by decide, by decide, _, _, _, tyX8, rfl, ig_X8, tyX8_ok, nmX8, by decide, wd_210⟩
theorem fF_X8_21 : ax_F RX8 21 8 2 2 := ⟨by decide, by decide, _, _, _, tyX8, rfl, ig_X8, tyX8_ok, nmX8, by decide, wd_212⟩
theorem fF_X8_27 : ax_F RX8 27 8 3 2 := ⟨by decide, by decide, _, _, _, tyX8, rfl, ig_X8, tyX8_ok, nmX8, by decide, wd_213⟩
theorem fF_X8_31 : ax_F RX8 31 8 4 0 := ⟨by decide, by decide, _, _, _, tyX8, rfl, ig_X8, tyX8_ok, nmX8, by decide, wd_214⟩
theorem fF_X8_35 : ax_F RX8 35 8 5 0 := ⟨by decide, by decide, _, _, _, tyX8, rfl, ig_X8, tyX8_ok, nmX8, by decide, wd_216⟩
theorem fF_X8_38 : ax_F RX8 38 8 6 0 := ⟨by decide, by decide, _, _, _, tyX8, rfl, ig_X8, tyX8_ok, nmX8, by decide, wd_218⟩
theorem fF_X8_49 : ax_F RX8 49 2 3 0 := ⟨by decide, by decide, _, _, _, tyX2, rfl, ig_X2, tyX2_ok, nmX2, by decide, wd_197⟩
theorem fF_X8_56 : ax_F RX8 56 2 1 0 := ⟨by decide, by decide, _, _, _, tyX2, rfl, ig_X2, tyX2_ok, nmX2, by decide, wd_191⟩
theorem fF_X8_68 : ax_F RX8 68 5 1 2 := ⟨by decide, by decide, _, _, _, tyX5, rfl, ig_X5, tyX5_ok, nmX5, by decide, wd_248⟩
theorem fF_X8_78 : ax_F RX8 78 5 2 2 := ⟨by decide, by decide, _, _, _, tyX5, rfl, ig_X5, tyX5_ok, nmX5, by decide, wd_250⟩
theorem fF_X10_7 : ax_F RX10 7 10 1 2 := ⟨by decide, by decide, _, _, _, tyX10, rfl, ig_X10, tyX10_ok, nmX10, by decide, wd_1054⟩
theorem fF_X10_13 : ax_F RX10 13 10 2 2 := ⟨by decide, by decide, _, _, _, tyX10, rfl, ig_X10, tyX10_ok, nmX10, by decide, wd_1055⟩
theorem fF_X10_17 : ax_F RX10 17 10 3 2 := ⟨by decide, by decide, _, _, _, tyX10, rfl, ig_X10, tyX10_ok, nmX10, by decide, wd_1056⟩
theorem fF_X10_20 : ax_F RX10 20 10 4 2 := ⟨by decide, by decide, _, _, _, tyX10, rfl, ig_X10, tyX10_ok, nmX10, by decide, wd_1057⟩
theorem fF_X10_23 : ax_F RX10 23 10 5 2 := ⟨by decide, by decide, _, _, _, tyX10, rfl, ig_X10, tyX10_ok, nmX10, by decide, wd_1058⟩
theorem fF_X10_26 : ax_F RX10 26 10 6 2 := ⟨by decide, by decide, _, _, _, tyX10, rfl, ig_X10, tyX10_ok, nmX10, by decide, wd_1059⟩
theorem fF_X10_29 : ax_F RX10 29 10 7 2 := ⟨by decide, by decide, _, _, _, tyX10, rfl, ig_X10, tyX10_ok, nmX10, by decide, wd_1060⟩
theorem fF_X10_32 : ax_F RX10 32 10 8 2 := ⟨by decide, by decide, _, _, _, tyX10, rfl, ig_X10, tyX10_ok, nmX10, by decide, wd_1061⟩
theorem fF_X10_35 : ax_F RX10 35 10 9 2 := ⟨by decide, by decide, _, _, _, tyX10, rfl, ig_X10, tyX10_ok, nmX10, by decide, wd_1062⟩
theorem fF_X10_38 : ax_F RX10 38 10 10 2 := ⟨by decide, by decide, _, _, _, tyX10, rfl, ig_X10, tyX10_ok, nmX10, by decide, wd_1063⟩
theorem fF_X10_41 : ax_F RX10 41 10 20 2 := ⟨by decide, by decide, _, _, _, tyX10, rfl, ig_X10, tyX10_ok, nmX10, by decide, wd_1073⟩
theorem fF_X10_44 : ax_F RX10 44 10 21 2 := ⟨by decide, by decide, _, _, _, tyX10, rfl, ig_X10, tyX10_ok, nmX10, by decide, wd_1074⟩
theorem fF_X10_47 : ax_F RX10 47 10 28 2 := ⟨by decide, by decide, _, _, _, tyX10, rfl, ig_X10, tyX10_ok, nmX10, by decide, wd_1081⟩
theorem fF_X10_50 : ax_F RX10 50 10 29 2 := ⟨by decide, by decide, _, _, _, tyX10, rfl, ig_X10, tyX10_ok, nmX10, by decide, wd_1082⟩
theorem fF_X10_53 : ax_F RX10 53 10 30 2 := ⟨by decide, by decide, _, _, _, tyX10, rfl, ig_X10, tyX10_ok, nmX10, by decide, wd_1083⟩
theorem fF_X10_56 : ax_F RX10 56 10 31 2 := ⟨by decide, by decide, _, _, _, tyX10, rfl, ig_X10, tyX10_ok, nmX10, by decide, wd_1084⟩
theorem fF_X10_59 : ax_F RX10 59 10 40 2 := ⟨by decide, by decide, _, _, _, tyX10, rfl, ig_X10, tyX10_ok, nmX10, by decide, wd_1093⟩
theorem fF_X10_62 : ax_F RX10 62 10 43 2 := ⟨by decide, by decide, _, _, _, tyX10, rfl, ig_X10, tyX10_ok, nmX10, by decide, wd_1096⟩
theorem fF_X10_66 : ax_F RX10 66 10 44 2 := ⟨by decide, by decide, _, _, _, tyX10, rfl, ig_X10, tyX10_ok, nmX10, by decide, wd_1097⟩
theorem fF_X10_69 : ax_F RX10 69 10 48 2 := ⟨by decide, by decide, _, _, _, tyX10, rfl, ig_X10, tyX10_ok, nmX10, by decide, wd_1101⟩
theorem fF_X10_72 : ax_F RX10 72 10 52 2 := ⟨by decide, by decide, _, _, _, tyX10, rfl, ig_X10, tyX10_ok, nmX10, by decide, wd_1105⟩
theorem fF_X10_75 : ax_F RX10 75 10 53 2 := ⟨by decide, by decide, _, _, _, tyX10, rfl, ig_X10, tyX10_ok, nmX10, by decide, wd_1106⟩
theorem fF_X10_78 : ax_F RX10 78 10 54 2 := ⟨by decide, by decide, _, _, _, tyX10, rfl, ig_X10, tyX10_ok, nmX10, by decide, wd_1107⟩
theorem fF_X10_81 : ax_F RX10 81 10 55 2 := ⟨by decide, by decide, _, _, _, tyX10, rfl, ig_X10, tyX10_ok, nmX10, by decide, wd_1108⟩
theorem fF_X10_84 : ax_F RX10 84 10 58 2 := ⟨by decide, by decide, _, _, _, tyX10, rfl, ig_X10, tyX10_ok, nmX10, by decide, wd_1111⟩
theorem fF_X10_88 : ax_F RX10 88 10 0 0 := ⟨by decide, by decide, _, _, _, tyX10, rfl, ig_X10, tyX10_ok, nmX10, by decide, wd_1053⟩
theorem fF_X10_104 : ax_F RX10 104 10 11 0 := ⟨by decide, by decide, _, _, _, tyX10, rfl, ig_X10, tyX10_ok, nmX10, by decide, wd_1064⟩
theorem fF_X10_107 : ax_F RX10 107 10 12 0 := ⟨by decide, by decide, _, _, _, tyX10, rfl, ig_X10, tyX10_ok, nmX10, by decide, wd_1065⟩
theorem fF_X10_114 : ax_F RX10 114 10 13 0 := ⟨by decide, by decide, _, _, _, tyX10, rfl, ig_X10, tyX10_ok, nmX10, by decide, wd_1066⟩
theorem fF_X10_117 : ax_F RX10 117 10 16 1 := ⟨by decide, by decide, _, _, _, tyX10, rfl, ig_X10, tyX10_ok, nmX10, by decide, wd_1069⟩
theorem fF_X10_121 : ax_F RX10 121 10 14 0 := ⟨by decide, by decide, _, _, _, tyX10, rfl, ig_X10, tyX10_ok, nmX10, by decide, wd_1067⟩
theorem fF_X10_124 : ax_F RX10 124 10 15 0 := ⟨by decide, by decide, _, _, _, tyX10, rfl, ig_X10, tyX10_ok, nmX10, by decide, wd_1068⟩
theorem fF_X10_127 : ax_F RX10 127 10 17 0 := ⟨by decide, by decide, _, _, _, tyX10, rfl, ig_X10, tyX10_ok, nmX10, by decide, wd_1070⟩
theorem fF_X10_130 : ax_F RX10 130 10 18 0 := ⟨by decide, by decide, _, _, _, tyX10, rfl, ig_X10, tyX10_ok, nmX10, by decide, wd_1071⟩
theorem fF_X10_133 : ax_F RX10 133 10 19 0 := ⟨by decide, by decide, _, _, _, tyX10, rfl, ig_X10, tyX10_ok, nmX10, by decide, wd_1072⟩
theorem fF_X10_144 : ax_F RX10 144 10 24 0 := ⟨by decide, by decide, _, _, _, tyX10, rfl, ig_X10, tyX10_ok, nmX10, by decide, wd_1077⟩
theorem fF_X10_160 : ax_F RX10 160 10 23 0 := ⟨by decide, by decide, _, _, _, tyX10, rfl, ig_X10, tyX10_ok, nmX10, by decide, wd_1076⟩
theorem fF_X10_167 : ax_F RX10 167 10 22 0 := ⟨by decide, by decide, _, _, _, tyX10, rfl, ig_X10, tyX10_ok, nmX10, by decide, wd_1075⟩
theorem fF_X10_244 : ax_F RX10 244 10 25 0 := ⟨by decide, by decide, _, _, _, tyX10, rfl, ig_X10, tyX10_ok, nmX10, by decide, wd_1078⟩
theorem fF_X10_247 : ax_F RX10 247 10 34 0 := ⟨by decide, by decide, _, _, _, tyX10, rfl, ig_X10, tyX10_ok, nmX10, by decide, wd_1087⟩
theorem fF_X10_250 : ax_F RX10 250 10 35 0 := ⟨by decide, by decide, _, _, _, tyX10, rfl, ig_X10, tyX10_ok, nmX10, by decide, wd_1088⟩
theorem fF_X10_263 : ax_F RX10 263 10 26 0 := ⟨by decide, by decide, _, _, _, tyX10, rfl, ig_X10, tyX10_ok, nmX10, by decide, wd_1079⟩
theorem fF_X10_273 : ax_F RX10 273 10 33 0 := ⟨by decide, by decide, _, _, _, tyX10, rfl, ig_X10, tyX10_ok, nmX10, by decide, wd_1086⟩
theorem fF_X10_276 : ax_F RX10 276 10 27 0 := ⟨by decide, by decide, _, _, _, tyX10, rfl, ig_X10, tyX10_ok, nmX10, by decide, wd_1080⟩
theorem fF_X10_279 : ax_F RX10 279 10 32 0 := ⟨by decide, by decide, _, _, _, tyX10, rfl, ig_X10, tyX10_ok, nmX10, by decide, wd_1085⟩
theorem fF_X10_312 : ax_F RX10 312 10 36 0 := ⟨by decide, by decide, _, _, _, tyX10, rfl, ig_X10, tyX10_ok, nmX10, by decide, wd_1089⟩
theorem fF_X10_321 : ax_F RX10 321 10 37 1 := ⟨by decide, by decide, _, _, _, tyX10, rfl, ig_X10, tyX10_ok, nmX10, by decide, wd_1090⟩
theorem fF_X10_324 : ax_F RX10 324 10 38 1 := ⟨by decide, by decide, _, _, _, tyX10, rfl, ig_X10, tyX10_ok, nmX10, by decide, wd_1091⟩
theorem fF_X10_335 : ax_F RX10 335 10 39 0 := ⟨by decide, by decide, _, _, _, tyX10, rfl, ig_X10, tyX10_ok, nmX10, by decide, wd_1092⟩
theorem fF_X10_365 : ax_F RX10 365 10 41 0 := ⟨by decide, by decide, _, _, _, tyX10, rfl, ig_X10, tyX10_ok, nmX10, by decide, wd_1094⟩
theorem fF_X10_368 : ax_F RX10 368 10 45 0 := ⟨by decide, by decide, _, _, _, tyX10, rfl, ig_X10, tyX10_ok, nmX10, by decide, wd_1098⟩
theorem fF_X10_374 : ax_F RX10 374 10 42 0 := ⟨by decide, by decide, _, _, _, tyX10, rfl, ig_X10, tyX10_ok, nmX10, by decide, wd_1095⟩
theorem fF_X10_398 : ax_F RX10 398 10 46 1 := ⟨by decide, by decide, _, _, _, tyX10, rfl, ig_X10, tyX10_ok, nmX10, by decide, wd_1099⟩
theorem fF_X10_413 : ax_F RX10 413 10 47 0 := ⟨by decide, by decide, _, _, _, tyX10, rfl, ig_X10, tyX10_ok, nmX10, by decide, wd_1100⟩
theorem fF_X10_440 : ax_F RX10 440 10 49 0 := ⟨by decide, by decide, _, _, _, tyX10, rfl, ig_X10, tyX10_ok, nmX10, by decide, wd_1102⟩
theorem fF_X10_449 : ax_F RX10 449 10 51 0 := ⟨by decide, by decide, _, _, _, tyX10, rfl, ig_X10, tyX10_ok, nmX10, by decide, wd_1104⟩
theorem fF_X10_455 : ax_F RX10 455 10 50 0 := ⟨by decide, by decide, _, _, _, tyX10, rfl, ig_X10, tyX10_ok, nmX10, by decide, wd_1103⟩
theorem fF_X10_470 : ax_F RX10 470 10 57 1 := ⟨by decide, by decide, _, _, _, tyX10, rfl, ig_X10, tyX10_ok, nmX10, by decide, wd_1110⟩
theorem fF_X10_473 : ax_F RX10 473 10 56 1 := ⟨by decide, by decide, _, _, _, tyX10, rfl, ig_X10, tyX10_ok, nmX10, by decide, wd_1109⟩
theorem fW_X0_15_i : ax_Fw RX0 "<init>" 0 1 (.array .int) := fun _ _ _ h => by cases h; exact ⟨Or.inr ⟨rfl, rfl, rfl⟩, tyX0_ok _ (by decide)⟩
theorem fW_X0_18_a {nm : String} : ax_Fw RX0 nm 0 2 .int := fun _ _ _ h => by cases h; exact ⟨Or.inl rfl, tyX0_ok _ (by decide)⟩
theorem fW_X0_22_a {nm : String} : ax_Fw RX0 nm 0 3 .int := fun _ _ _ h => by cases h; exact ⟨Or.inl rfl, tyX0_ok _ (by decide)⟩
theorem fW_X0_9_i : ax_Fw RX0 "<init>" 0 0 (.array .int) := fun _ _ _ h => by cases h; exact ⟨Or.inr ⟨rfl, rfl, rfl⟩, tyX0_ok _ (by decide)⟩
theorem fW_X10_104_a {nm : String} : ax_Fw RX10 nm 10 11 .int := fun _ _ _ h => by cases h; exact ⟨Or.inl rfl, tyX10_ok _ (by decide)⟩
theorem fW_X10_107_a {nm : String} : ax_Fw RX10 nm 10 12 .int := fun _ _ _ h => by cases h; exact ⟨Or.inl rfl, tyX10_ok _ (by decide)⟩
theorem fW_X10_114_a {nm : String} : ax_Fw RX10 nm 10 13 .int := fun _ _ _ h => by cases h; exact ⟨Or.inl rfl, tyX10_ok _ (by decide)⟩
theorem fW_X10_117_a {nm : String} : ax_Fw RX10 nm 10 16 .long := fun _ _ _ h => by cases h; exact ⟨Or.inl rfl, tyX10_ok _ (by decide)⟩
theorem fW_X10_121_a {nm : String} : ax_Fw RX10 nm 10 14 .int := fun _ _ _ h => by cases h; exact ⟨Or.inl rfl, tyX10_ok _ (by decide)⟩
theorem fW_X10_124_a {nm : String} : ax_Fw RX10 nm 10 15 .int := fun _ _ _ h => by cases h; exact ⟨Or.inl rfl, tyX10_ok _ (by decide)⟩
theorem fW_X10_127_a {nm : String} : ax_Fw RX10 nm 10 17 .int := fun _ _ _ h => by cases h; exact ⟨Or.inl rfl, tyX10_ok _ (by decide)⟩
theorem fW_X10_130_a {nm : String} : ax_Fw RX10 nm 10 18 .int := fun _ _ _ h => by cases h; exact ⟨Or.inl rfl, tyX10_ok _ (by decide)⟩
theorem fW_X10_133_a {nm : String} : ax_Fw RX10 nm 10 19 .int := fun _ _ _ h => by cases h; exact ⟨Or.inl rfl, tyX10_ok _ (by decide)⟩
theorem fW_X10_13_i : ax_Fw RX10 "<init>" 10 2 (.array .int) := fun _ _ _ h => by cases h; exact ⟨Or.inr ⟨rfl, rfl, rfl⟩, tyX10_ok _ (by decide)⟩
theorem fW_X10_144_a {nm : String} : ax_Fw RX10 nm 10 24 .boolean := fun _ _ _ h => by cases h; exact ⟨Or.inl rfl, tyX10_ok _ (by decide)⟩
theorem fW_X10_160_a {nm : String} : ax_Fw RX10 nm 10 23 .int := fun _ _ _ h => by cases h; exact ⟨Or.inl rfl, tyX10_ok _ (by decide)⟩
theorem fW_X10_167_a {nm : String} : ax_Fw RX10 nm 10 22 .int := fun _ _ _ h => by cases h; exact ⟨Or.inl rfl, tyX10_ok _ (by decide)⟩
theorem fW_X10_17_i : ax_Fw RX10 "<init>" 10 3 (.array .int) := fun _ _ _ h => by cases h; exact ⟨Or.inr ⟨rfl, rfl, rfl⟩, tyX10_ok _ (by decide)⟩
theorem fW_X10_20_i : ax_Fw RX10 "<init>" 10 4 (.array .int) := fun _ _ _ h => by cases h; exact ⟨Or.inr ⟨rfl, rfl, rfl⟩, tyX10_ok _ (by decide)⟩
theorem fW_X10_23_i : ax_Fw RX10 "<init>" 10 5 (.array .int) := fun _ _ _ h => by cases h; exact ⟨Or.inr ⟨rfl, rfl, rfl⟩, tyX10_ok _ (by decide)⟩
theorem fW_X10_244_a {nm : String} : ax_Fw RX10 nm 10 25 .int := fun _ _ _ h => by cases h; exact ⟨Or.inl rfl, tyX10_ok _ (by decide)⟩
theorem fW_X10_247_a {nm : String} : ax_Fw RX10 nm 10 34 .int := fun _ _ _ h => by cases h; exact ⟨Or.inl rfl, tyX10_ok _ (by decide)⟩
theorem fW_X10_250_a {nm : String} : ax_Fw RX10 nm 10 35 .int := fun _ _ _ h => by cases h; exact ⟨Or.inl rfl, tyX10_ok _ (by decide)⟩
theorem fW_X10_263_a {nm : String} : ax_Fw RX10 nm 10 26 .int := fun _ _ _ h => by cases h; exact ⟨Or.inl rfl, tyX10_ok _ (by decide)⟩
theorem fW_X10_26_i : ax_Fw RX10 "<init>" 10 6 (.array .int) := fun _ _ _ h => by cases h; exact ⟨Or.inr ⟨rfl, rfl, rfl⟩, tyX10_ok _ (by decide)⟩
theorem fW_X10_273_a {nm : String} : ax_Fw RX10 nm 10 33 .int := fun _ _ _ h => by cases h; exact ⟨Or.inl rfl, tyX10_ok _ (by decide)⟩
theorem fW_X10_276_a {nm : String} : ax_Fw RX10 nm 10 27 .int := fun _ _ _ h => by cases h; exact ⟨Or.inl rfl, tyX10_ok _ (by decide)⟩
theorem fW_X10_279_a {nm : String} : ax_Fw RX10 nm 10 32 .int := fun _ _ _ h => by cases h; exact ⟨Or.inl rfl, tyX10_ok _ (by decide)⟩
theorem fW_X10_29_i : ax_Fw RX10 "<init>" 10 7 (.array .int) := fun _ _ _ h => by cases h; exact ⟨Or.inr ⟨rfl, rfl, rfl⟩, tyX10_ok _ (by decide)⟩
theorem fW_X10_312_a {nm : String} : ax_Fw RX10 nm 10 36 .int := fun _ _ _ h => by cases h; exact ⟨Or.inl rfl, tyX10_ok _ (by decide)⟩
theorem fW_X10_321_a {nm : String} : ax_Fw RX10 nm 10 37 .long := fun _ _ _ h => by cases h; exact ⟨Or.inl rfl, tyX10_ok _ (by decide)⟩
theorem fW_X10_324_a {nm : String} : ax_Fw RX10 nm 10 38 .long := fun _ _ _ h => by cases h; exact ⟨Or.inl rfl, tyX10_ok _ (by decide)⟩
theorem fW_X10_32_i : ax_Fw RX10 "<init>" 10 8 (.array .int) := fun _ _ _ h => by cases h; exact ⟨Or.inr ⟨rfl, rfl, rfl⟩, tyX10_ok _ (by decide)⟩
theorem fW_X10_335_a {nm : String} : ax_Fw RX10 nm 10 39 .int := fun _ _ _ h => by cases h; exact ⟨Or.inl rfl, tyX10_ok _ (by decide)⟩
theorem fW_X10_35_i : ax_Fw RX10 "<init>" 10 9 (.array .int) := fun _ _ _ h => by cases h; exact ⟨Or.inr ⟨rfl, rfl, rfl⟩, tyX10_ok _ (by decide)⟩
theorem fW_X10_365_a {nm : String} : ax_Fw RX10 nm 10 41 .int := fun _ _ _ h => by cases h; exact ⟨Or.inl rfl, tyX10_ok _ (by decide)⟩
theorem fW_X10_368_a {nm : String} : ax_Fw RX10 nm 10 45 .boolean := fun _ _ _ h => by cases h; exact ⟨Or.inl rfl, tyX10_ok _ (by decide)⟩
theorem fW_X10_374_a {nm : String} : ax_Fw RX10 nm 10 42 .int := fun _ _ _ h => by cases h; exact ⟨Or.inl rfl, tyX10_ok _ (by decide)⟩
theorem fW_X10_38_i : ax_Fw RX10 "<init>" 10 10 (.array .int) := fun _ _ _ h => by cases h; exact ⟨Or.inr ⟨rfl, rfl, rfl⟩, tyX10_ok _ (by decide)⟩
theorem fW_X10_398_a {nm : String} : ax_Fw RX10 nm 10 46 .long := fun _ _ _ h => by cases h; exact ⟨Or.inl rfl, tyX10_ok _ (by decide)⟩
theorem fW_X10_413_a {nm : String} : ax_Fw RX10 nm 10 47 .int := fun _ _ _ h => by cases h; exact ⟨Or.inl rfl, tyX10_ok _ (by decide)⟩
theorem fW_X10_41_i : ax_Fw RX10 "<init>" 10 20 (.array .int) := fun _ _ _ h => by cases h; exact ⟨Or.inr ⟨rfl, rfl, rfl⟩, tyX10_ok _ (by decide)⟩
theorem fW_X10_440_a {nm : String} : ax_Fw RX10 nm 10 49 .int := fun _ _ _ h => by cases h; exact ⟨Or.inl rfl, tyX10_ok _ (by decide)⟩
theorem fW_X10_449_a {nm : String} : ax_Fw RX10 nm 10 51 .int := fun _ _ _ h => by cases h; exact ⟨Or.inl rfl, tyX10_ok _ (by decide)⟩
theorem fW_X10_44_i : ax_Fw RX10 "<init>" 10 21 (.array .int) := fun _ _ _ h => by cases h; exact ⟨Or.inr ⟨rfl, rfl, rfl⟩, tyX10_ok _ (by decide)⟩
theorem fW_X10_455_a {nm : String} : ax_Fw RX10 nm 10 50 .int := fun _ _ _ h => by cases h; exact ⟨Or.inl rfl, tyX10_ok _ (by decide)⟩
theorem fW_X10_470_a {nm : String} : ax_Fw RX10 nm 10 57 .long := fun _ _ _ h => by cases h; exact ⟨Or.inl rfl, tyX10_ok _ (by decide)⟩
theorem fW_X10_473_a {nm : String} : ax_Fw RX10 nm 10 56 .long := fun _ _ _ h => by cases h; exact ⟨Or.inl rfl, tyX10_ok _ (by decide)⟩
theorem fW_X10_47_i : ax_Fw RX10 "<init>" 10 28 (.array .int) := fun _ _ _ h => by cases h; exact ⟨Or.inr ⟨rfl, rfl, rfl⟩, tyX10_ok _ (by decide)⟩
theorem fW_X10_50_i : ax_Fw RX10 "<init>" 10 29 (.array .int) := fun _ _ _ h => by cases h; exact ⟨Or.inr ⟨rfl, rfl, rfl⟩, tyX10_ok _ (by decide)⟩
theorem fW_X10_53_i : ax_Fw RX10 "<init>" 10 30 (.array .int) := fun _ _ _ h => by cases h; exact ⟨Or.inr ⟨rfl, rfl, rfl⟩, tyX10_ok _ (by decide)⟩
theorem fW_X10_56_i : ax_Fw RX10 "<init>" 10 31 (.array .int) := fun _ _ _ h => by cases h; exact ⟨Or.inr ⟨rfl, rfl, rfl⟩, tyX10_ok _ (by decide)⟩
theorem fW_X10_59_i : ax_Fw RX10 "<init>" 10 40 (.array .int) := fun _ _ _ h => by cases h; exact ⟨Or.inr ⟨rfl, rfl, rfl⟩, tyX10_ok _ (by decide)⟩
theorem fW_X10_62_i : ax_Fw RX10 "<init>" 10 43 (.array .long) := fun _ _ _ h => by cases h; exact ⟨Or.inr ⟨rfl, rfl, rfl⟩, tyX10_ok _ (by decide)⟩
theorem fW_X10_66_i : ax_Fw RX10 "<init>" 10 44 (.array .int) := fun _ _ _ h => by cases h; exact ⟨Or.inr ⟨rfl, rfl, rfl⟩, tyX10_ok _ (by decide)⟩
theorem fW_X10_69_i : ax_Fw RX10 "<init>" 10 48 (.array .int) := fun _ _ _ h => by cases h; exact ⟨Or.inr ⟨rfl, rfl, rfl⟩, tyX10_ok _ (by decide)⟩
theorem fW_X10_72_i : ax_Fw RX10 "<init>" 10 52 (.array .int) := fun _ _ _ h => by cases h; exact ⟨Or.inr ⟨rfl, rfl, rfl⟩, tyX10_ok _ (by decide)⟩
theorem fW_X10_75_i : ax_Fw RX10 "<init>" 10 53 (.array .int) := fun _ _ _ h => by cases h; exact ⟨Or.inr ⟨rfl, rfl, rfl⟩, tyX10_ok _ (by decide)⟩
theorem fW_X10_78_i : ax_Fw RX10 "<init>" 10 54 (.array .int) := fun _ _ _ h => by cases h; exact ⟨Or.inr ⟨rfl, rfl, rfl⟩, tyX10_ok _ (by decide)⟩
theorem fW_X10_7_i : ax_Fw RX10 "<init>" 10 1 (.array .byte) := fun _ _ _ h => by cases h; exact ⟨Or.inr ⟨rfl, rfl, rfl⟩, tyX10_ok _ (by decide)⟩
theorem fW_X10_81_i : ax_Fw RX10 "<init>" 10 55 (.array .int) := fun _ _ _ h => by cases h; exact ⟨Or.inr ⟨rfl, rfl, rfl⟩, tyX10_ok _ (by decide)⟩
theorem fW_X10_84_i : ax_Fw RX10 "<init>" 10 58 (.array .boolean) := fun _ _ _ h => by cases h; exact ⟨Or.inr ⟨rfl, rfl, rfl⟩, tyX10_ok _ (by decide)⟩
theorem fW_X10_88_a {nm : String} : ax_Fw RX10 nm 10 0 .int := fun _ _ _ h => by cases h; exact ⟨Or.inl rfl, tyX10_ok _ (by decide)⟩
theorem fW_X1_13_a {nm : String} : ax_Fw RX1 nm 1 1 .long := fun _ _ _ h => by cases h; exact ⟨Or.inl rfl, tyX1_ok _ (by decide)⟩
theorem fW_X1_7_a {nm : String} : ax_Fw RX1 nm 1 0 .long := fun _ _ _ h => by cases h; exact ⟨Or.inl rfl, tyX1_ok _ (by decide)⟩
theorem fW_X2_19_i : ax_Fw RX2 "<init>" 2 0 .int := fun _ _ _ h => by cases h; exact ⟨Or.inr ⟨rfl, rfl, rfl⟩, tyX2_ok _ (by decide)⟩
theorem fW_X2_25_i : ax_Fw RX2 "<init>" 2 1 .int := fun _ _ _ h => by cases h; exact ⟨Or.inr ⟨rfl, rfl, rfl⟩, tyX2_ok _ (by decide)⟩
theorem fW_X2_28_i : ax_Fw RX2 "<init>" 2 2 (.array .int) := fun _ _ _ h => by cases h; exact ⟨Or.inr ⟨rfl, rfl, rfl⟩, tyX2_ok _ (by decide)⟩
theorem fW_X2_9_a {nm : String} : ax_Fw RX2 nm 2 3 .int := fun _ _ _ h => by cases h; exact ⟨Or.inl rfl, tyX2_ok _ (by decide)⟩
theorem fW_X3_15_a {nm : String} : ax_Fw RX3 nm 3 1 .int := fun _ _ _ h => by cases h; exact ⟨Or.inl rfl, tyX3_ok _ (by decide)⟩
theorem fW_X3_19_a {nm : String} : ax_Fw RX3 nm 3 2 .int := fun _ _ _ h => by cases h; exact ⟨Or.inl rfl, tyX3_ok _ (by decide)⟩
theorem fW_X3_9_i : ax_Fw RX3 "<init>" 3 0 (.array .int) := fun _ _ _ h => by cases h; exact ⟨Or.inr ⟨rfl, rfl, rfl⟩, tyX3_ok _ (by decide)⟩
theorem fW_X4_15_a {nm : String} : ax_Fw RX4 nm 4 1 .long := fun _ _ _ h => by cases h; exact ⟨Or.inl rfl, tyX4_ok _ (by decide)⟩
theorem fW_X4_19_a {nm : String} : ax_Fw RX4 nm 4 2 .long := fun _ _ _ h => by cases h; exact ⟨Or.inl rfl, tyX4_ok _ (by decide)⟩
theorem fW_X4_22_a {nm : String} : ax_Fw RX4 nm 4 3 .int := fun _ _ _ h => by cases h; exact ⟨Or.inl rfl, tyX4_ok _ (by decide)⟩
theorem fW_X4_26_a {nm : String} : ax_Fw RX4 nm 4 4 .long := fun _ _ _ h => by cases h; exact ⟨Or.inl rfl, tyX4_ok _ (by decide)⟩
theorem fW_X4_29_i : ax_Fw RX4 "<init>" 4 5 (.array .int) := fun _ _ _ h => by cases h; exact ⟨Or.inr ⟨rfl, rfl, rfl⟩, tyX4_ok _ (by decide)⟩
theorem fW_X4_32_i : ax_Fw RX4 "<init>" 4 6 (.array .long) := fun _ _ _ h => by cases h; exact ⟨Or.inr ⟨rfl, rfl, rfl⟩, tyX4_ok _ (by decide)⟩
theorem fW_X4_36_i : ax_Fw RX4 "<init>" 4 7 (.array .long) := fun _ _ _ h => by cases h; exact ⟨Or.inr ⟨rfl, rfl, rfl⟩, tyX4_ok _ (by decide)⟩
theorem fW_X4_42_i : ax_Fw RX4 "<init>" 4 8 (.object "GluedHour$Odds") := fun _ _ _ h => by cases h; exact ⟨Or.inr ⟨rfl, rfl, rfl⟩, tyX4_ok _ (by decide)⟩
theorem fW_X4_9_i : ax_Fw RX4 "<init>" 4 0 (.array .int) := fun _ _ _ h => by cases h; exact ⟨Or.inr ⟨rfl, rfl, rfl⟩, tyX4_ok _ (by decide)⟩
theorem fW_X5_102_a {nm : String} : ax_Fw RX5 nm 2 3 .int := fun _ _ _ h => by cases h; exact ⟨Or.inl rfl, tyX2_ok _ (by decide)⟩
theorem fW_X5_12_i : ax_Fw RX5 "<init>" 5 1 (.object "GluedHour$Republic") := fun _ _ _ h => by cases h; exact ⟨Or.inr ⟨rfl, rfl, rfl⟩, tyX5_ok _ (by decide)⟩
theorem fW_X5_20_i : ax_Fw RX5 "<init>" 5 2 (.array (.object "GluedHour$Lines")) := fun _ _ _ h => by cases h; exact ⟨Or.inr ⟨rfl, rfl, rfl⟩, tyX5_ok _ (by decide)⟩
theorem fW_X5_24_i : ax_Fw RX5 "<init>" 5 3 (.array .int) := fun _ _ _ h => by cases h; exact ⟨Or.inr ⟨rfl, rfl, rfl⟩, tyX5_ok _ (by decide)⟩
theorem fW_X5_28_a {nm : String} : ax_Fw RX5 nm 5 4 .int := fun _ _ _ h => by cases h; exact ⟨Or.inl rfl, tyX5_ok _ (by decide)⟩
theorem fW_X5_32_a {nm : String} : ax_Fw RX5 nm 5 5 .int := fun _ _ _ h => by cases h; exact ⟨Or.inl rfl, tyX5_ok _ (by decide)⟩
theorem fW_X5_35_a {nm : String} : ax_Fw RX5 nm 5 6 .int := fun _ _ _ h => by cases h; exact ⟨Or.inl rfl, tyX5_ok _ (by decide)⟩
theorem fW_X5_38_a {nm : String} : ax_Fw RX5 nm 5 7 .int := fun _ _ _ h => by cases h; exact ⟨Or.inl rfl, tyX5_ok _ (by decide)⟩
theorem fW_X5_41_a {nm : String} : ax_Fw RX5 nm 5 8 .int := fun _ _ _ h => by cases h; exact ⟨Or.inl rfl, tyX5_ok _ (by decide)⟩
theorem fW_X5_44_a {nm : String} : ax_Fw RX5 nm 5 9 .int := fun _ _ _ h => by cases h; exact ⟨Or.inl rfl, tyX5_ok _ (by decide)⟩
theorem fW_X5_47_a {nm : String} : ax_Fw RX5 nm 5 10 .int := fun _ _ _ h => by cases h; exact ⟨Or.inl rfl, tyX5_ok _ (by decide)⟩
theorem fW_X5_50_a {nm : String} : ax_Fw RX5 nm 5 11 .int := fun _ _ _ h => by cases h; exact ⟨Or.inl rfl, tyX5_ok _ (by decide)⟩
theorem fW_X5_53_a {nm : String} : ax_Fw RX5 nm 5 12 .int := fun _ _ _ h => by cases h; exact ⟨Or.inl rfl, tyX5_ok _ (by decide)⟩
theorem fW_X5_56_a {nm : String} : ax_Fw RX5 nm 5 13 .int := fun _ _ _ h => by cases h; exact ⟨Or.inl rfl, tyX5_ok _ (by decide)⟩
theorem fW_X5_59_i : ax_Fw RX5 "<init>" 5 0 (.array .byte) := fun _ _ _ h => by cases h; exact ⟨Or.inr ⟨rfl, rfl, rfl⟩, tyX5_ok _ (by decide)⟩
theorem fW_X5_77_a {nm : String} : ax_Fw RX5 nm 6 5 .int := fun _ _ _ h => by cases h; exact ⟨Or.inl rfl, tyX6_ok _ (by decide)⟩
theorem fW_X5_80_a {nm : String} : ax_Fw RX5 nm 6 6 .int := fun _ _ _ h => by cases h; exact ⟨Or.inl rfl, tyX6_ok _ (by decide)⟩
theorem fW_X6_15_i : ax_Fw RX6 "<init>" 6 1 (.array .int) := fun _ _ _ h => by cases h; exact ⟨Or.inr ⟨rfl, rfl, rfl⟩, tyX6_ok _ (by decide)⟩
theorem fW_X6_18_i : ax_Fw RX6 "<init>" 6 2 (.array .int) := fun _ _ _ h => by cases h; exact ⟨Or.inr ⟨rfl, rfl, rfl⟩, tyX6_ok _ (by decide)⟩
theorem fW_X6_21_i : ax_Fw RX6 "<init>" 6 3 (.array .int) := fun _ _ _ h => by cases h; exact ⟨Or.inr ⟨rfl, rfl, rfl⟩, tyX6_ok _ (by decide)⟩
theorem fW_X6_24_i : ax_Fw RX6 "<init>" 6 4 (.array .int) := fun _ _ _ h => by cases h; exact ⟨Or.inr ⟨rfl, rfl, rfl⟩, tyX6_ok _ (by decide)⟩
theorem fW_X6_30_a {nm : String} : ax_Fw RX6 nm 6 5 .int := fun _ _ _ h => by cases h; exact ⟨Or.inl rfl, tyX6_ok _ (by decide)⟩
theorem fW_X6_34_a {nm : String} : ax_Fw RX6 nm 6 6 .int := fun _ _ _ h => by cases h; exact ⟨Or.inl rfl, tyX6_ok _ (by decide)⟩
theorem fW_X6_9_i : ax_Fw RX6 "<init>" 6 0 (.array .int) := fun _ _ _ h => by cases h; exact ⟨Or.inr ⟨rfl, rfl, rfl⟩, tyX6_ok _ (by decide)⟩
theorem fW_X7_15_a {nm : String} : ax_Fw RX7 nm 7 1 .int := fun _ _ _ h => by cases h; exact ⟨Or.inl rfl, tyX7_ok _ (by decide)⟩
theorem fW_X7_19_a {nm : String} : ax_Fw RX7 nm 7 2 .int := fun _ _ _ h => by cases h; exact ⟨Or.inl rfl, tyX7_ok _ (by decide)⟩
theorem fW_X7_22_i : ax_Fw RX7 "<init>" 7 3 (.array .int) := fun _ _ _ h => by cases h; exact ⟨Or.inr ⟨rfl, rfl, rfl⟩, tyX7_ok _ (by decide)⟩
theorem fW_X7_27_i : ax_Fw RX7 "<init>" 7 4 (.array (.object "GluedHour$Odds")) := fun _ _ _ h => by cases h; exact ⟨Or.inr ⟨rfl, rfl, rfl⟩, tyX7_ok _ (by decide)⟩
theorem fW_X7_9_i : ax_Fw RX7 "<init>" 7 0 (.array .int) := fun _ _ _ h => by cases h; exact ⟨Or.inr ⟨rfl, rfl, rfl⟩, tyX7_ok _ (by decide)⟩
theorem fW_X8_15_i : ax_Fw RX8 "<init>" 8 1 (.array .int) := fun _ _ _ h => by cases h; exact ⟨Or.inr ⟨rfl, rfl, rfl⟩, tyX8_ok _ (by decide)⟩
theorem fW_X8_21_i : ax_Fw RX8 "<init>" 8 2 (.array (.object "GluedHour$Republic")) := fun _ _ _ h => by cases h; exact ⟨Or.inr ⟨rfl, rfl, rfl⟩, tyX8_ok _ (by decide)⟩
theorem fW_X8_27_i : ax_Fw RX8 "<init>" 8 3 (.array (.object "GluedHour$Lines")) := fun _ _ _ h => by cases h; exact ⟨Or.inr ⟨rfl, rfl, rfl⟩, tyX8_ok _ (by decide)⟩
theorem fW_X8_31_a {nm : String} : ax_Fw RX8 nm 8 4 .int := fun _ _ _ h => by cases h; exact ⟨Or.inl rfl, tyX8_ok _ (by decide)⟩
theorem fW_X8_35_a {nm : String} : ax_Fw RX8 nm 8 5 .int := fun _ _ _ h => by cases h; exact ⟨Or.inl rfl, tyX8_ok _ (by decide)⟩
theorem fW_X8_38_a {nm : String} : ax_Fw RX8 nm 8 6 .int := fun _ _ _ h => by cases h; exact ⟨Or.inl rfl, tyX8_ok _ (by decide)⟩
theorem fW_X8_9_i : ax_Fw RX8 "<init>" 8 0 (.array .byte) := fun _ _ _ h => by cases h; exact ⟨Or.inr ⟨rfl, rfl, rfl⟩, tyX8_ok _ (by decide)⟩
theorem fW_X9_10_i : ax_Fw RX9 "<init>" 9 0 (.object "GluedHour$Told") := fun _ _ _ h => by cases h; exact ⟨Or.inr ⟨rfl, rfl, rfl⟩, tyX9_ok _ (by decide)⟩
theorem fW_X9_16_i : ax_Fw RX9 "<init>" 9 1 (.array (.object "GluedHour$Told")) := fun _ _ _ h => by cases h; exact ⟨Or.inr ⟨rfl, rfl, rfl⟩, tyX9_ok _ (by decide)⟩
theorem fW_X9_29_i : ax_Fw RX9 "<init>" 9 2 (.object "GluedHour$Reader") := fun _ _ _ h => by cases h; exact ⟨Or.inr ⟨rfl, rfl, rfl⟩, tyX9_ok _ (by decide)⟩
theorem fW_X9_36_i : ax_Fw RX9 "<init>" 9 3 (.object "GluedHour$Course") := fun _ _ _ h => by cases h; exact ⟨Or.inr ⟨rfl, rfl, rfl⟩, tyX9_ok _ (by decide)⟩
theorem fW_X9_43_i : ax_Fw RX9 "<init>" 9 4 (.object "GluedHour$Odds") := fun _ _ _ h => by cases h; exact ⟨Or.inr ⟨rfl, rfl, rfl⟩, tyX9_ok _ (by decide)⟩
theorem fW_X9_47_i : ax_Fw RX9 "<init>" 9 5 (.object "GluedHour$Odds") := fun _ _ _ h => by cases h; exact ⟨Or.inr ⟨rfl, rfl, rfl⟩, tyX9_ok _ (by decide)⟩
theorem fW_X9_53_i : ax_Fw RX9 "<init>" 9 6 (.object "GluedHour$Planner") := fun _ _ _ h => by cases h; exact ⟨Or.inr ⟨rfl, rfl, rfl⟩, tyX9_ok _ (by decide)⟩
theorem fW_X9_60_i : ax_Fw RX9 "<init>" 9 7 (.object "GluedHour$Search") := fun _ _ _ h => by cases h; exact ⟨Or.inr ⟨rfl, rfl, rfl⟩, tyX9_ok _ (by decide)⟩
theorem fW_X9_67_i : ax_Fw RX9 "<init>" 9 8 (.object "GluedHour$Fraction") := fun _ _ _ h => by cases h; exact ⟨Or.inr ⟨rfl, rfl, rfl⟩, tyX9_ok _ (by decide)⟩
theorem fW_X9_71_a {nm : String} : ax_Fw RX9 nm 8 4 .int := fun _ _ _ h => by cases h; exact ⟨Or.inl rfl, tyX8_ok _ (by decide)⟩
theorem fW_X9_79_a {nm : String} : ax_Fw RX9 nm 8 5 .int := fun _ _ _ h => by cases h; exact ⟨Or.inl rfl, tyX8_ok _ (by decide)⟩
theorem fW_X9_82_a {nm : String} : ax_Fw RX9 nm 8 6 .int := fun _ _ _ h => by cases h; exact ⟨Or.inl rfl, tyX8_ok _ (by decide)⟩
end
