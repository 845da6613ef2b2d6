section
theorem dX10_init_0 : decode cX10_init 0 = .ok (.aload_n 0, 1) := by decide +kernel
theorem dX10_init_1 : decode cX10_init 1 = .ok (.invokespecial 1, 3) := by decide +kernel
theorem dX10_init_4 : decode cX10_init 4 = .ok (.aload_n 0, 1) := by decide +kernel
theorem dX10_init_5 : decode cX10_init 5 = .ok (.sipush 2400, 3) := by decide +kernel
theorem dX10_init_8 : decode cX10_init 8 = .ok (.newarray .byte, 2) := by decide +kernel
theorem dX10_init_10 : decode cX10_init 10 = .ok (.putfield 7, 3) := by decide +kernel
theorem dX10_init_13 : decode cX10_init 13 = .ok (.aload_n 0, 1) := by decide +kernel
theorem dX10_init_14 : decode cX10_init 14 = .ok (.iconst 4, 1) := by decide +kernel
theorem dX10_init_15 : decode cX10_init 15 = .ok (.newarray .int, 2) := by decide +kernel
theorem dX10_init_17 : decode cX10_init 17 = .ok (.putfield 13, 3) := by decide +kernel
theorem dX10_init_20 : decode cX10_init 20 = .ok (.aload_n 0, 1) := by decide +kernel
theorem dX10_init_21 : decode cX10_init 21 = .ok (.iconst 4, 1) := by decide +kernel
theorem dX10_init_22 : decode cX10_init 22 = .ok (.newarray .int, 2) := by decide +kernel
theorem dX10_init_24 : decode cX10_init 24 = .ok (.putfield 17, 3) := by decide +kernel
theorem dX10_init_27 : decode cX10_init 27 = .ok (.aload_n 0, 1) := by decide +kernel
theorem dX10_init_28 : decode cX10_init 28 = .ok (.iconst 4, 1) := by decide +kernel
theorem dX10_init_29 : decode cX10_init 29 = .ok (.newarray .int, 2) := by decide +kernel
theorem dX10_init_31 : decode cX10_init 31 = .ok (.putfield 20, 3) := by decide +kernel
theorem dX10_init_34 : decode cX10_init 34 = .ok (.aload_n 0, 1) := by decide +kernel
theorem dX10_init_35 : decode cX10_init 35 = .ok (.bipush 20, 2) := by decide +kernel
theorem dX10_init_37 : decode cX10_init 37 = .ok (.newarray .int, 2) := by decide +kernel
theorem dX10_init_39 : decode cX10_init 39 = .ok (.putfield 23, 3) := by decide +kernel
theorem dX10_init_42 : decode cX10_init 42 = .ok (.aload_n 0, 1) := by decide +kernel
theorem dX10_init_43 : decode cX10_init 43 = .ok (.sipush 1312, 3) := by decide +kernel
theorem dX10_init_46 : decode cX10_init 46 = .ok (.newarray .int, 2) := by decide +kernel
theorem dX10_init_48 : decode cX10_init 48 = .ok (.putfield 26, 3) := by decide +kernel
theorem dX10_init_51 : decode cX10_init 51 = .ok (.aload_n 0, 1) := by decide +kernel
theorem dX10_init_52 : decode cX10_init 52 = .ok (.bipush 120, 2) := by decide +kernel
theorem dX10_init_54 : decode cX10_init 54 = .ok (.newarray .int, 2) := by decide +kernel
theorem dX10_init_56 : decode cX10_init 56 = .ok (.putfield 29, 3) := by decide +kernel
theorem dX10_init_59 : decode cX10_init 59 = .ok (.aload_n 0, 1) := by decide +kernel
theorem dX10_init_60 : decode cX10_init 60 = .ok (.sipush 152, 3) := by decide +kernel
theorem dX10_init_63 : decode cX10_init 63 = .ok (.newarray .int, 2) := by decide +kernel
theorem dX10_init_65 : decode cX10_init 65 = .ok (.putfield 32, 3) := by decide +kernel
theorem dX10_init_68 : decode cX10_init 68 = .ok (.aload_n 0, 1) := by decide +kernel
theorem dX10_init_69 : decode cX10_init 69 = .ok (.sipush 136, 3) := by decide +kernel
theorem dX10_init_72 : decode cX10_init 72 = .ok (.newarray .int, 2) := by decide +kernel
theorem dX10_init_74 : decode cX10_init 74 = .ok (.putfield 35, 3) := by decide +kernel
theorem dX10_init_77 : decode cX10_init 77 = .ok (.aload_n 0, 1) := by decide +kernel
theorem dX10_init_78 : decode cX10_init 78 = .ok (.sipush 152, 3) := by decide +kernel
theorem dX10_init_81 : decode cX10_init 81 = .ok (.newarray .int, 2) := by decide +kernel
theorem dX10_init_83 : decode cX10_init 83 = .ok (.putfield 38, 3) := by decide +kernel
theorem dX10_init_86 : decode cX10_init 86 = .ok (.aload_n 0, 1) := by decide +kernel
theorem dX10_init_87 : decode cX10_init 87 = .ok (.sipush 164, 3) := by decide +kernel
theorem dX10_init_90 : decode cX10_init 90 = .ok (.newarray .int, 2) := by decide +kernel
theorem dX10_init_92 : decode cX10_init 92 = .ok (.putfield 41, 3) := by decide +kernel
theorem dX10_init_95 : decode cX10_init 95 = .ok (.aload_n 0, 1) := by decide +kernel
theorem dX10_init_96 : decode cX10_init 96 = .ok (.iconst 3, 1) := by decide +kernel
theorem dX10_init_97 : decode cX10_init 97 = .ok (.newarray .int, 2) := by decide +kernel
theorem dX10_init_99 : decode cX10_init 99 = .ok (.putfield 44, 3) := by decide +kernel
theorem dX10_init_102 : decode cX10_init 102 = .ok (.aload_n 0, 1) := by decide +kernel
theorem dX10_init_103 : decode cX10_init 103 = .ok (.bipush 6, 2) := by decide +kernel
theorem dX10_init_105 : decode cX10_init 105 = .ok (.newarray .int, 2) := by decide +kernel
theorem dX10_init_107 : decode cX10_init 107 = .ok (.putfield 47, 3) := by decide +kernel
theorem dX10_init_110 : decode cX10_init 110 = .ok (.aload_n 0, 1) := by decide +kernel
theorem dX10_init_111 : decode cX10_init 111 = .ok (.bipush 72, 2) := by decide +kernel
theorem dX10_init_113 : decode cX10_init 113 = .ok (.newarray .int, 2) := by decide +kernel
theorem dX10_init_115 : decode cX10_init 115 = .ok (.putfield 50, 3) := by decide +kernel
theorem dX10_init_118 : decode cX10_init 118 = .ok (.aload_n 0, 1) := by decide +kernel
theorem dX10_init_119 : decode cX10_init 119 = .ok (.bipush 72, 2) := by decide +kernel
theorem dX10_init_121 : decode cX10_init 121 = .ok (.newarray .int, 2) := by decide +kernel
theorem dX10_init_123 : decode cX10_init 123 = .ok (.putfield 53, 3) := by decide +kernel
theorem dX10_init_126 : decode cX10_init 126 = .ok (.aload_n 0, 1) := by decide +kernel
theorem dX10_init_127 : decode cX10_init 127 = .ok (.bipush 12, 2) := by decide +kernel
theorem dX10_init_129 : decode cX10_init 129 = .ok (.newarray .int, 2) := by decide +kernel
theorem dX10_init_131 : decode cX10_init 131 = .ok (.putfield 56, 3) := by decide +kernel
theorem dX10_init_134 : decode cX10_init 134 = .ok (.aload_n 0, 1) := by decide +kernel
theorem dX10_init_135 : decode cX10_init 135 = .ok (.bipush 12, 2) := by decide +kernel
theorem dX10_init_137 : decode cX10_init 137 = .ok (.newarray .int, 2) := by decide +kernel
theorem dX10_init_139 : decode cX10_init 139 = .ok (.putfield 59, 3) := by decide +kernel
theorem dX10_init_142 : decode cX10_init 142 = .ok (.aload_n 0, 1) := by decide +kernel
theorem dX10_init_143 : decode cX10_init 143 = .ok (.sipush 28672, 3) := by decide +kernel
theorem dX10_init_146 : decode cX10_init 146 = .ok (.newarray .long, 2) := by decide +kernel
theorem dX10_init_148 : decode cX10_init 148 = .ok (.putfield 62, 3) := by decide +kernel
theorem dX10_init_151 : decode cX10_init 151 = .ok (.aload_n 0, 1) := by decide +kernel
theorem dX10_init_152 : decode cX10_init 152 = .ok (.bipush 6, 2) := by decide +kernel
theorem dX10_init_154 : decode cX10_init 154 = .ok (.newarray .int, 2) := by decide +kernel
theorem dX10_init_156 : decode cX10_init 156 = .ok (.putfield 66, 3) := by decide +kernel
theorem dX10_init_159 : decode cX10_init 159 = .ok (.aload_n 0, 1) := by decide +kernel
theorem dX10_init_160 : decode cX10_init 160 = .ok (.bipush 8, 2) := by decide +kernel
theorem dX10_init_162 : decode cX10_init 162 = .ok (.newarray .int, 2) := by decide +kernel
theorem dX10_init_164 : decode cX10_init 164 = .ok (.putfield 69, 3) := by decide +kernel
theorem dX10_init_167 : decode cX10_init 167 = .ok (.aload_n 0, 1) := by decide +kernel
theorem dX10_init_168 : decode cX10_init 168 = .ok (.iconst 3, 1) := by decide +kernel
theorem dX10_init_169 : decode cX10_init 169 = .ok (.newarray .int, 2) := by decide +kernel
theorem dX10_init_171 : decode cX10_init 171 = .ok (.putfield 72, 3) := by decide +kernel
theorem dX10_init_174 : decode cX10_init 174 = .ok (.aload_n 0, 1) := by decide +kernel
theorem dX10_init_175 : decode cX10_init 175 = .ok (.iconst 3, 1) := by decide +kernel
theorem dX10_init_176 : decode cX10_init 176 = .ok (.newarray .int, 2) := by decide +kernel
theorem dX10_init_178 : decode cX10_init 178 = .ok (.putfield 75, 3) := by decide +kernel
theorem dX10_init_181 : decode cX10_init 181 = .ok (.aload_n 0, 1) := by decide +kernel
theorem dX10_init_182 : decode cX10_init 182 = .ok (.bipush 60, 2) := by decide +kernel
theorem dX10_init_184 : decode cX10_init 184 = .ok (.newarray .int, 2) := by decide +kernel
theorem dX10_init_186 : decode cX10_init 186 = .ok (.putfield 78, 3) := by decide +kernel
theorem dX10_init_189 : decode cX10_init 189 = .ok (.aload_n 0, 1) := by decide +kernel
theorem dX10_init_190 : decode cX10_init 190 = .ok (.bipush 6, 2) := by decide +kernel
theorem dX10_init_192 : decode cX10_init 192 = .ok (.newarray .int, 2) := by decide +kernel
theorem dX10_init_194 : decode cX10_init 194 = .ok (.putfield 81, 3) := by decide +kernel
theorem dX10_init_197 : decode cX10_init 197 = .ok (.aload_n 0, 1) := by decide +kernel
theorem dX10_init_198 : decode cX10_init 198 = .ok (.iconst 3, 1) := by decide +kernel
theorem dX10_init_199 : decode cX10_init 199 = .ok (.newarray .boolean, 2) := by decide +kernel
theorem dX10_init_201 : decode cX10_init 201 = .ok (.putfield 84, 3) := by decide +kernel
theorem dX10_init_204 : decode cX10_init 204 = .ok (.aload_n 0, 1) := by decide +kernel
theorem dX10_init_205 : decode cX10_init 205 = .ok (.getfield 20, 3) := by decide +kernel
theorem dX10_init_208 : decode cX10_init 208 = .ok (.iconst 0, 1) := by decide +kernel
theorem dX10_init_209 : decode cX10_init 209 = .ok (.iconst (-1), 1) := by decide +kernel
theorem dX10_init_210 : decode cX10_init 210 = .ok (.iastore, 1) := by decide +kernel
theorem dX10_init_211 : decode cX10_init 211 = .ok (.return_, 1) := by decide +kernel
def tX10_init (g : ax_G) : Nat → ax_O := ax_nd 107 (ax_nd 51 (ax_nd 22 (ax_nd 10 (ax_nd 4 (ax_nd 0 (ax_lf 0 (ao_al 0 1)) (ax_nd 1 (ax_lf 1 ao_obj) (ax_lf 4 (ao_al 0 1)))) (ax_nd 5 (ax_lf 5 (ao_ic (2400) 3)) (ax_nd 8 (ax_lf 8 (ao_newa 12 1 25 33406)) (ax_lf 10 (ao_pr 10 1))))) (ax_nd 15 (ax_nd 13 (ax_lf 13 (ao_al 0 1)) (ax_nd 14 (ax_lf 14 (ao_ic (4) 1)) (ax_lf 15 (ao_newa 11 4 25 33406)))) (ax_nd 20 (ax_nd 17 (ax_lf 17 (ao_pr 10 2)) (ax_lf 20 (ao_al 0 1))) (ax_nd 21 (ax_lf 21 (ao_ic (4) 1)) (ax_lf 22 (ao_newa 11 4 25 33406)))))) (ax_nd 35 (ax_nd 28 (ax_nd 24 (ax_lf 24 (ao_pr 10 3)) (ax_nd 27 (ax_lf 27 (ao_al 0 1)) (ax_lf 28 (ao_ic (4) 1)))) (ax_nd 31 (ax_nd 29 (ax_lf 29 (ao_newa 11 4 25 33406)) (ax_lf 31 (ao_pr 10 4))) (ax_nd 34 (ax_lf 34 (ao_al 0 1)) (ax_lf 35 (ao_ic (20) 2))))) (ax_nd 42 (ax_nd 37 (ax_lf 37 (ao_newa 11 4 25 33406)) (ax_nd 39 (ax_lf 39 (ao_pr 10 5)) (ax_lf 42 (ao_al 0 1)))) (ax_nd 46 (ax_nd 43 (ax_lf 43 (ao_ic (1312) 3)) (ax_lf 46 (ao_newa 11 4 25 33406))) (ax_nd 48 (ax_lf 48 (ao_pr 10 6)) (ax_lf 51 (ao_al 0 1))))))) (ax_nd 78 (ax_nd 63 (ax_nd 56 (ax_nd 52 (ax_lf 52 (ao_ic (120) 2)) (ax_nd 54 (ax_lf 54 (ao_newa 11 4 25 33406)) (ax_lf 56 (ao_pr 10 7)))) (ax_nd 59 (ax_lf 59 (ao_al 0 1)) (ax_nd 60 (ax_lf 60 (ao_ic (152) 3)) (ax_lf 63 (ao_newa 11 4 25 33406))))) (ax_nd 69 (ax_nd 65 (ax_lf 65 (ao_pr 10 8)) (ax_nd 68 (ax_lf 68 (ao_al 0 1)) (ax_lf 69 (ao_ic (136) 3)))) (ax_nd 74 (ax_nd 72 (ax_lf 72 (ao_newa 11 4 25 33406)) (ax_lf 74 (ao_pr 10 9))) (ax_nd 77 (ax_lf 77 (ao_al 0 1)) (ax_lf 78 (ao_ic (152) 3)))))) (ax_nd 95 (ax_nd 86 (ax_nd 81 (ax_lf 81 (ao_newa 11 4 25 33406)) (ax_nd 83 (ax_lf 83 (ao_pr 10 10)) (ax_lf 86 (ao_al 0 1)))) (ax_nd 90 (ax_nd 87 (ax_lf 87 (ao_ic (164) 3)) (ax_lf 90 (ao_newa 11 4 25 33406))) (ax_nd 92 (ax_lf 92 (ao_pr 10 20)) (ax_lf 95 (ao_al 0 1))))) (ax_nd 99 (ax_nd 96 (ax_lf 96 (ao_ic (3) 1)) (ax_nd 97 (ax_lf 97 (ao_newa 11 4 25 33406)) (ax_lf 99 (ao_pr 10 21)))) (ax_nd 103 (ax_nd 102 (ax_lf 102 (ao_al 0 1)) (ax_lf 103 (ao_ic (6) 2))) (ax_nd 105 (ax_lf 105 (ao_newa 11 4 25 33406)) (ax_lf 107 (ao_pr 10 28)))))))) (ax_nd 162 (ax_nd 134 (ax_nd 119 (ax_nd 113 (ax_nd 110 (ax_lf 110 (ao_al 0 1)) (ax_nd 111 (ax_lf 111 (ao_ic (72) 2)) (ax_lf 113 (ao_newa 11 4 25 33406)))) (ax_nd 115 (ax_lf 115 (ao_pr 10 29)) (ax_nd 118 (ax_lf 118 (ao_al 0 1)) (ax_lf 119 (ao_ic (72) 2))))) (ax_nd 126 (ax_nd 121 (ax_lf 121 (ao_newa 11 4 25 33406)) (ax_nd 123 (ax_lf 123 (ao_pr 10 30)) (ax_lf 126 (ao_al 0 1)))) (ax_nd 129 (ax_nd 127 (ax_lf 127 (ao_ic (12) 2)) (ax_lf 129 (ao_newa 11 4 25 33406))) (ax_nd 131 (ax_lf 131 (ao_pr 10 31)) (ax_lf 134 (ao_al 0 1)))))) (ax_nd 148 (ax_nd 139 (ax_nd 135 (ax_lf 135 (ao_ic (12) 2)) (ax_nd 137 (ax_lf 137 (ao_newa 11 4 25 33406)) (ax_lf 139 (ao_pr 10 40)))) (ax_nd 143 (ax_nd 142 (ax_lf 142 (ao_al 0 1)) (ax_lf 143 (ao_ic (28672) 3))) (ax_nd 146 (ax_lf 146 (ao_newa 14 8 25 33406)) (ax_lf 148 (ao_pr 10 43))))) (ax_nd 154 (ax_nd 151 (ax_lf 151 (ao_al 0 1)) (ax_nd 152 (ax_lf 152 (ao_ic (6) 2)) (ax_lf 154 (ao_newa 11 4 25 33406)))) (ax_nd 159 (ax_nd 156 (ax_lf 156 (ao_pr 10 44)) (ax_lf 159 (ao_al 0 1))) (ax_nd 160 (ax_lf 160 (ao_ic (8) 2)) (ax_lf 162 (ao_newa 11 4 25 33406))))))) (ax_nd 186 (ax_nd 174 (ax_nd 168 (ax_nd 164 (ax_lf 164 (ao_pr 10 48)) (ax_nd 167 (ax_lf 167 (ao_al 0 1)) (ax_lf 168 (ao_ic (3) 1)))) (ax_nd 169 (ax_lf 169 (ao_newa 11 4 25 33406)) (ax_nd 171 (ax_lf 171 (ao_pr 10 52)) (ax_lf 174 (ao_al 0 1))))) (ax_nd 178 (ax_nd 175 (ax_lf 175 (ao_ic (3) 1)) (ax_nd 176 (ax_lf 176 (ao_newa 11 4 25 33406)) (ax_lf 178 (ao_pr 10 53)))) (ax_nd 182 (ax_nd 181 (ax_lf 181 (ao_al 0 1)) (ax_lf 182 (ao_ic (60) 2))) (ax_nd 184 (ax_lf 184 (ao_newa 11 4 25 33406)) (ax_lf 186 (ao_pr 10 54)))))) (ax_nd 199 (ax_nd 192 (ax_nd 189 (ax_lf 189 (ao_al 0 1)) (ax_nd 190 (ax_lf 190 (ao_ic (6) 2)) (ax_lf 192 (ao_newa 11 4 25 33406)))) (ax_nd 197 (ax_nd 194 (ax_lf 194 (ao_pr 10 55)) (ax_lf 197 (ao_al 0 1))) (ax_nd 198 (ax_lf 198 (ao_ic (3) 1)) (ax_lf 199 (ao_newa 13 1 25 33406))))) (ax_nd 205 (ax_nd 201 (ax_lf 201 (ao_pr 10 58)) (ax_nd 204 (ax_lf 204 (ao_al 0 1)) (ax_lf 205 (ao_gr 10 4)))) (ax_nd 209 (ax_nd 208 (ax_lf 208 (ao_ic (0) 1)) (ax_lf 209 (ao_ic (-1) 1))) (ax_nd 210 (ax_lf 210 ao_iast) (ax_lf 211 (ao_vreta 25 33406))))))))
theorem oX10_init (g : ax_G) : ∀ pc, ax_ok g cX10_init 1 none RX10 "<init>" 1 25 33406 pc (tX10_init g pc) := ax_nd_ok (ax_nd_ok (ax_nd_ok (ax_nd_ok (ax_nd_ok (ax_nd_ok (ax_lf_ok (ak_aload_n rfl dX10_init_0)) (ax_nd_ok (ax_lf_ok (ak_obj (by decide) wd_1052 wd_119 wd_120 dX10_init_1)) (ax_lf_ok (ak_aload_n rfl dX10_init_4)))) (ax_nd_ok (ax_lf_ok (ak_sipush (by decide) dX10_init_5)) (ax_nd_ok (ax_lf_ok (ak_newa (atype := .byte) (ty := .byte) (by decide) (by decide) rfl rfl (fun _ h => by cases h) (t0 := 1) rfl (fun _ _ => rfl) wd_178 dX10_init_8)) (ax_lf_ok (ak_pr fF_X10_7 rfl fW_X10_7_i dX10_init_10))))) (ax_nd_ok (ax_nd_ok (ax_lf_ok (ak_aload_n rfl dX10_init_13)) (ax_nd_ok (ax_lf_ok (ak_iconst (by decide) dX10_init_14)) (ax_lf_ok (ak_newa (atype := .int) (ty := .int) (by decide) (by decide) rfl rfl (fun _ h => by cases h) (t0 := 0) rfl (fun _ _ => rfl) wd_179 dX10_init_15)))) (ax_nd_ok (ax_nd_ok (ax_lf_ok (ak_pr fF_X10_13 rfl fW_X10_13_i dX10_init_17)) (ax_lf_ok (ak_aload_n rfl dX10_init_20))) (ax_nd_ok (ax_lf_ok (ak_iconst (by decide) dX10_init_21)) (ax_lf_ok (ak_newa (atype := .int) (ty := .int) (by decide) (by decide) rfl rfl (fun _ h => by cases h) (t0 := 0) rfl (fun _ _ => rfl) wd_179 dX10_init_22)))))) (ax_nd_ok (ax_nd_ok (ax_nd_ok (ax_lf_ok (ak_pr fF_X10_17 rfl fW_X10_17_i dX10_init_24)) (ax_nd_ok (ax_lf_ok (ak_aload_n rfl dX10_init_27)) (ax_lf_ok (ak_iconst (by decide) dX10_init_28)))) (ax_nd_ok (ax_nd_ok (ax_lf_ok (ak_newa (atype := .int) (ty := .int) (by decide) (by decide) rfl rfl (fun _ h => by cases h) (t0 := 0) rfl (fun _ _ => rfl) wd_179 dX10_init_29)) (ax_lf_ok (ak_pr fF_X10_20 rfl fW_X10_20_i dX10_init_31))) (ax_nd_ok (ax_lf_ok (ak_aload_n rfl dX10_init_34)) (ax_lf_ok (ak_bipush (by decide) dX10_init_35))))) (ax_nd_ok (ax_nd_ok (ax_lf_ok (ak_newa (atype := .int) (ty := .int) (by decide) (by decide) rfl rfl (fun _ h => by cases h) (t0 := 0) rfl (fun _ _ => rfl) wd_179 dX10_init_37)) (ax_nd_ok (ax_lf_ok (ak_pr fF_X10_23 rfl fW_X10_23_i dX10_init_39)) (ax_lf_ok (ak_aload_n rfl dX10_init_42)))) (ax_nd_ok (ax_nd_ok (ax_lf_ok (ak_sipush (by decide) dX10_init_43)) (ax_lf_ok (ak_newa (atype := .int) (ty := .int) (by decide) (by decide) rfl rfl (fun _ h => by cases h) (t0 := 0) rfl (fun _ _ => rfl) wd_179 dX10_init_46))) (ax_nd_ok (ax_lf_ok (ak_pr fF_X10_26 rfl fW_X10_26_i dX10_init_48)) (ax_lf_ok (ak_aload_n rfl dX10_init_51))))))) (ax_nd_ok (ax_nd_ok (ax_nd_ok (ax_nd_ok (ax_lf_ok (ak_bipush (by decide) dX10_init_52)) (ax_nd_ok (ax_lf_ok (ak_newa (atype := .int) (ty := .int) (by decide) (by decide) rfl rfl (fun _ h => by cases h) (t0 := 0) rfl (fun _ _ => rfl) wd_179 dX10_init_54)) (ax_lf_ok (ak_pr fF_X10_29 rfl fW_X10_29_i dX10_init_56)))) (ax_nd_ok (ax_lf_ok (ak_aload_n rfl dX10_init_59)) (ax_nd_ok (ax_lf_ok (ak_sipush (by decide) dX10_init_60)) (ax_lf_ok (ak_newa (atype := .int) (ty := .int) (by decide) (by decide) rfl rfl (fun _ h => by cases h) (t0 := 0) rfl (fun _ _ => rfl) wd_179 dX10_init_63))))) (ax_nd_ok (ax_nd_ok (ax_lf_ok (ak_pr fF_X10_32 rfl fW_X10_32_i dX10_init_65)) (ax_nd_ok (ax_lf_ok (ak_aload_n rfl dX10_init_68)) (ax_lf_ok (ak_sipush (by decide) dX10_init_69)))) (ax_nd_ok (ax_nd_ok (ax_lf_ok (ak_newa (atype := .int) (ty := .int) (by decide) (by decide) rfl rfl (fun _ h => by cases h) (t0 := 0) rfl (fun _ _ => rfl) wd_179 dX10_init_72)) (ax_lf_ok (ak_pr fF_X10_35 rfl fW_X10_35_i dX10_init_74))) (ax_nd_ok (ax_lf_ok (ak_aload_n rfl dX10_init_77)) (ax_lf_ok (ak_sipush (by decide) dX10_init_78)))))) (ax_nd_ok (ax_nd_ok (ax_nd_ok (ax_lf_ok (ak_newa (atype := .int) (ty := .int) (by decide) (by decide) rfl rfl (fun _ h => by cases h) (t0 := 0) rfl (fun _ _ => rfl) wd_179 dX10_init_81)) (ax_nd_ok (ax_lf_ok (ak_pr fF_X10_38 rfl fW_X10_38_i dX10_init_83)) (ax_lf_ok (ak_aload_n rfl dX10_init_86)))) (ax_nd_ok (ax_nd_ok (ax_lf_ok (ak_sipush (by decide) dX10_init_87)) (ax_lf_ok (ak_newa (atype := .int) (ty := .int) (by decide) (by decide) rfl rfl (fun _ h => by cases h) (t0 := 0) rfl (fun _ _ => rfl) wd_179 dX10_init_90))) (ax_nd_ok (ax_lf_ok (ak_pr fF_X10_41 rfl fW_X10_41_i dX10_init_92)) (ax_lf_ok (ak_aload_n rfl dX10_init_95))))) (ax_nd_ok (ax_nd_ok (ax_lf_ok (ak_iconst (by decide) dX10_init_96)) (ax_nd_ok (ax_lf_ok (ak_newa (atype := .int) (ty := .int) (by decide) (by decide) rfl rfl (fun _ h => by cases h) (t0 := 0) rfl (fun _ _ => rfl) wd_179 dX10_init_97)) (ax_lf_ok (ak_pr fF_X10_44 rfl fW_X10_44_i dX10_init_99)))) (ax_nd_ok (ax_nd_ok (ax_lf_ok (ak_aload_n rfl dX10_init_102)) (ax_lf_ok (ak_bipush (by decide) dX10_init_103))) (ax_nd_ok (ax_lf_ok (ak_newa (atype := .int) (ty := .int) (by decide) (by decide) rfl rfl (fun _ h => by cases h) (t0 := 0) rfl (fun _ _ => rfl) wd_179 dX10_init_105)) (ax_lf_ok (ak_pr fF_X10_47 rfl fW_X10_47_i dX10_init_107)))))))) (ax_nd_ok (ax_nd_ok (ax_nd_ok (ax_nd_ok (ax_nd_ok (ax_lf_ok (ak_aload_n rfl dX10_init_110)) (ax_nd_ok (ax_lf_ok (ak_bipush (by decide) dX10_init_111)) (ax_lf_ok (ak_newa (atype := .int) (ty := .int) (by decide) (by decide) rfl rfl (fun _ h => by cases h) (t0 := 0) rfl (fun _ _ => rfl) wd_179 dX10_init_113)))) (ax_nd_ok (ax_lf_ok (ak_pr fF_X10_50 rfl fW_X10_50_i dX10_init_115)) (ax_nd_ok (ax_lf_ok (ak_aload_n rfl dX10_init_118)) (ax_lf_ok (ak_bipush (by decide) dX10_init_119))))) (ax_nd_ok (ax_nd_ok (ax_lf_ok (ak_newa (atype := .int) (ty := .int) (by decide) (by decide) rfl rfl (fun _ h => by cases h) (t0 := 0) rfl (fun _ _ => rfl) wd_179 dX10_init_121)) (ax_nd_ok (ax_lf_ok (ak_pr fF_X10_53 rfl fW_X10_53_i dX10_init_123)) (ax_lf_ok (ak_aload_n rfl dX10_init_126)))) (ax_nd_ok (ax_nd_ok (ax_lf_ok (ak_bipush (by decide) dX10_init_127)) (ax_lf_ok (ak_newa (atype := .int) (ty := .int) (by decide) (by decide) rfl rfl (fun _ h => by cases h) (t0 := 0) rfl (fun _ _ => rfl) wd_179 dX10_init_129))) (ax_nd_ok (ax_lf_ok (ak_pr fF_X10_56 rfl fW_X10_56_i dX10_init_131)) (ax_lf_ok (ak_aload_n rfl dX10_init_134)))))) (ax_nd_ok (ax_nd_ok (ax_nd_ok (ax_lf_ok (ak_bipush (by decide) dX10_init_135)) (ax_nd_ok (ax_lf_ok (ak_newa (atype := .int) (ty := .int) (by decide) (by decide) rfl rfl (fun _ h => by cases h) (t0 := 0) rfl (fun _ _ => rfl) wd_179 dX10_init_137)) (ax_lf_ok (ak_pr fF_X10_59 rfl fW_X10_59_i dX10_init_139)))) (ax_nd_ok (ax_nd_ok (ax_lf_ok (ak_aload_n rfl dX10_init_142)) (ax_lf_ok (ak_sipush (by decide) dX10_init_143))) (ax_nd_ok (ax_lf_ok (ak_newa (atype := .long) (ty := .long) (by decide) (by decide) rfl rfl (fun _ h => by cases h) (t0 := 3) rfl (fun _ _ => rfl) wd_377 dX10_init_146)) (ax_lf_ok (ak_pr fF_X10_62 rfl fW_X10_62_i dX10_init_148))))) (ax_nd_ok (ax_nd_ok (ax_lf_ok (ak_aload_n rfl dX10_init_151)) (ax_nd_ok (ax_lf_ok (ak_bipush (by decide) dX10_init_152)) (ax_lf_ok (ak_newa (atype := .int) (ty := .int) (by decide) (by decide) rfl rfl (fun _ h => by cases h) (t0 := 0) rfl (fun _ _ => rfl) wd_179 dX10_init_154)))) (ax_nd_ok (ax_nd_ok (ax_lf_ok (ak_pr fF_X10_66 rfl fW_X10_66_i dX10_init_156)) (ax_lf_ok (ak_aload_n rfl dX10_init_159))) (ax_nd_ok (ax_lf_ok (ak_bipush (by decide) dX10_init_160)) (ax_lf_ok (ak_newa (atype := .int) (ty := .int) (by decide) (by decide) rfl rfl (fun _ h => by cases h) (t0 := 0) rfl (fun _ _ => rfl) wd_179 dX10_init_162))))))) (ax_nd_ok (ax_nd_ok (ax_nd_ok (ax_nd_ok (ax_lf_ok (ak_pr fF_X10_69 rfl fW_X10_69_i dX10_init_164)) (ax_nd_ok (ax_lf_ok (ak_aload_n rfl dX10_init_167)) (ax_lf_ok (ak_iconst (by decide) dX10_init_168)))) (ax_nd_ok (ax_lf_ok (ak_newa (atype := .int) (ty := .int) (by decide) (by decide) rfl rfl (fun _ h => by cases h) (t0 := 0) rfl (fun _ _ => rfl) wd_179 dX10_init_169)) (ax_nd_ok (ax_lf_ok (ak_pr fF_X10_72 rfl fW_X10_72_i dX10_init_171)) (ax_lf_ok (ak_aload_n rfl dX10_init_174))))) (ax_nd_ok (ax_nd_ok (ax_lf_ok (ak_iconst (by decide) dX10_init_175)) (ax_nd_ok (ax_lf_ok (ak_newa (atype := .int) (ty := .int) (by decide) (by decide) rfl rfl (fun _ h => by cases h) (t0 := 0) rfl (fun _ _ => rfl) wd_179 dX10_init_176)) (ax_lf_ok (ak_pr fF_X10_75 rfl fW_X10_75_i dX10_init_178)))) (ax_nd_ok (ax_nd_ok (ax_lf_ok (ak_aload_n rfl dX10_init_181)) (ax_lf_ok (ak_bipush (by decide) dX10_init_182))) (ax_nd_ok (ax_lf_ok (ak_newa (atype := .int) (ty := .int) (by decide) (by decide) rfl rfl (fun _ h => by cases h) (t0 := 0) rfl (fun _ _ => rfl) wd_179 dX10_init_184)) (ax_lf_ok (ak_pr fF_X10_78 rfl fW_X10_78_i dX10_init_186)))))) (ax_nd_ok (ax_nd_ok (ax_nd_ok (ax_lf_ok (ak_aload_n rfl dX10_init_189)) (ax_nd_ok (ax_lf_ok (ak_bipush (by decide) dX10_init_190)) (ax_lf_ok (ak_newa (atype := .int) (ty := .int) (by decide) (by decide) rfl rfl (fun _ h => by cases h) (t0 := 0) rfl (fun _ _ => rfl) wd_179 dX10_init_192)))) (ax_nd_ok (ax_nd_ok (ax_lf_ok (ak_pr fF_X10_81 rfl fW_X10_81_i dX10_init_194)) (ax_lf_ok (ak_aload_n rfl dX10_init_197))) (ax_nd_ok (ax_lf_ok (ak_iconst (by decide) dX10_init_198)) (ax_lf_ok (ak_newa (atype := .boolean) (ty := .boolean) (by decide) (by decide) rfl rfl (fun _ h => by cases h) (t0 := 2) rfl (fun _ _ => rfl) wd_1231 dX10_init_199))))) (ax_nd_ok (ax_nd_ok (ax_lf_ok (ak_pr fF_X10_84 rfl fW_X10_84_i dX10_init_201)) (ax_nd_ok (ax_lf_ok (ak_aload_n rfl dX10_init_204)) (ax_lf_ok (ak_gr fF_X10_20 dX10_init_205)))) (ax_nd_ok (ax_nd_ok (ax_lf_ok (ak_iconst (by decide) dX10_init_208)) (ax_lf_ok (ak_iconst (by decide) dX10_init_209))) (ax_nd_ok (ax_lf_ok (ak_iast dX10_init_210)) (ax_lf_ok (ak_vreta (ak_vret rfl dX10_init_211)))))))))
abbrev mX10_init (g : ax_G) (as : List Value) (h : ax_H) (Ret : Option Value → ax_H → Prop) : Prop := ax_M g 1 25 33406 yX10_init cX10_init 1 none as h Ret
theorem dX10_in_0 : decode cX10_in 0 = .ok (.iload_n 0, 1) := by decide +kernel
theorem dX10_in_1 : decode cX10_in 1 = .ok (.iload_n 1, 1) := by decide +kernel
theorem dX10_in_2 : decode cX10_in 2 = .ok (.if_icmp .lt 12, 3) := by decide +kernel
theorem dX10_in_5 : decode cX10_in 5 = .ok (.iload_n 0, 1) := by decide +kernel
theorem dX10_in_6 : decode cX10_in 6 = .ok (.iload_n 2, 1) := by decide +kernel
theorem dX10_in_7 : decode cX10_in 7 = .ok (.if_icmp .gt 7, 3) := by decide +kernel
theorem dX10_in_10 : decode cX10_in 10 = .ok (.iconst 1, 1) := by decide +kernel
theorem dX10_in_11 : decode cX10_in 11 = .ok (.goto 4, 3) := by decide +kernel
theorem dX10_in_14 : decode cX10_in 14 = .ok (.iconst 0, 1) := by decide +kernel
theorem dX10_in_15 : decode cX10_in 15 = .ok (.ireturn, 1) := by decide +kernel
def tX10_in (g : ax_G) : Nat → ax_O := ax_nd 6 (ax_nd 1 (ax_nd 0 (ax_lf 0 (ao_il 0 1)) (ax_lf 1 (ao_il 1 1))) (ax_nd 2 (ax_lf 2 (ao_icmp_lt 14)) (ax_nd 5 (ax_lf 5 (ao_il 0 1)) (ax_lf 6 (ao_il 2 1))))) (ax_nd 10 (ax_nd 7 (ax_lf 7 (ao_icmp_gt 14)) (ax_lf 10 (ao_ic (1) 1))) (ax_nd 11 (ax_lf 11 (ao_goto 15)) (ax_nd 14 (ax_lf 14 (ao_ic (0) 1)) (ax_lf 15 (ao_zret 0 0)))))
theorem oX10_in (g : ax_G) : ∀ pc, ax_ok g cX10_in 3 (some .boolean) RX10 "in" 1 0 0 pc (tX10_in g pc) := ax_nd_ok (ax_nd_ok (ax_nd_ok (ax_lf_ok (ak_iload_n rfl dX10_in_0)) (ax_lf_ok (ak_iload_n rfl dX10_in_1))) (ax_nd_ok (ax_lf_ok (ak_icmp_lt (by decide) dX10_in_2)) (ax_nd_ok (ax_lf_ok (ak_iload_n rfl dX10_in_5)) (ax_lf_ok (ak_iload_n rfl dX10_in_6))))) (ax_nd_ok (ax_nd_ok (ax_lf_ok (ak_icmp_gt (by decide) dX10_in_7)) (ax_lf_ok (ak_iconst (by decide) dX10_in_10))) (ax_nd_ok (ax_lf_ok (ak_goto (by decide) dX10_in_11)) (ax_nd_ok (ax_lf_ok (ak_iconst (by decide) dX10_in_14)) (ax_lf_ok (ak_zret rfl dX10_in_15)))))
abbrev mX10_in (g : ax_G) (as : List Value) (h : ax_H) (Ret : Option Value → ax_H → Prop) : Prop := ax_M g 1 0 0 yX10_in cX10_in 3 (some .boolean) as h Ret
theorem dX10_has_0 : decode cX10_has 0 = .ok (.iload_n 0, 1) := by decide +kernel
theorem dX10_has_1 : decode cX10_has 1 = .ok (.iload_n 1, 1) := by decide +kernel
theorem dX10_has_2 : decode cX10_has 2 = .ok (.ishr, 1) := by decide +kernel
theorem dX10_has_3 : decode cX10_has 3 = .ok (.iconst 1, 1) := by decide +kernel
theorem dX10_has_4 : decode cX10_has 4 = .ok (.iand, 1) := by decide +kernel
theorem dX10_has_5 : decode cX10_has 5 = .ok (.iconst 1, 1) := by decide +kernel
theorem dX10_has_6 : decode cX10_has 6 = .ok (.if_icmp .ne 7, 3) := by decide +kernel
theorem dX10_has_9 : decode cX10_has 9 = .ok (.iconst 1, 1) := by decide +kernel
theorem dX10_has_10 : decode cX10_has 10 = .ok (.goto 4, 3) := by decide +kernel
theorem dX10_has_13 : decode cX10_has 13 = .ok (.iconst 0, 1) := by decide +kernel
theorem dX10_has_14 : decode cX10_has 14 = .ok (.ireturn, 1) := by decide +kernel
def tX10_has (g : ax_G) : Nat → ax_O := ax_nd 4 (ax_nd 1 (ax_nd 0 (ax_lf 0 (ao_il 0 1)) (ax_lf 1 (ao_il 1 1))) (ax_nd 2 (ax_lf 2 ao_ishr) (ax_nd 3 (ax_lf 3 (ao_ic (1) 1)) (ax_lf 4 ao_iand)))) (ax_nd 9 (ax_nd 5 (ax_lf 5 (ao_ic (1) 1)) (ax_nd 6 (ax_lf 6 (ao_icmp_ne 13)) (ax_lf 9 (ao_ic (1) 1)))) (ax_nd 10 (ax_lf 10 (ao_goto 14)) (ax_nd 13 (ax_lf 13 (ao_ic (0) 1)) (ax_lf 14 (ao_zret 0 0)))))
theorem oX10_has (g : ax_G) : ∀ pc, ax_ok g cX10_has 2 (some .boolean) RX10 "has" 1 0 0 pc (tX10_has g pc) := ax_nd_ok (ax_nd_ok (ax_nd_ok (ax_lf_ok (ak_iload_n rfl dX10_has_0)) (ax_lf_ok (ak_iload_n rfl dX10_has_1))) (ax_nd_ok (ax_lf_ok (ak_ishr dX10_has_2)) (ax_nd_ok (ax_lf_ok (ak_iconst (by decide) dX10_has_3)) (ax_lf_ok (ak_iand dX10_has_4))))) (ax_nd_ok (ax_nd_ok (ax_lf_ok (ak_iconst (by decide) dX10_has_5)) (ax_nd_ok (ax_lf_ok (ak_icmp_ne (by decide) dX10_has_6)) (ax_lf_ok (ak_iconst (by decide) dX10_has_9)))) (ax_nd_ok (ax_lf_ok (ak_goto (by decide) dX10_has_10)) (ax_nd_ok (ax_lf_ok (ak_iconst (by decide) dX10_has_13)) (ax_lf_ok (ak_zret rfl dX10_has_14)))))
abbrev mX10_has (g : ax_G) (as : List Value) (h : ax_H) (Ret : Option Value → ax_H → Prop) : Prop := ax_M g 1 0 0 yX10_has cX10_has 2 (some .boolean) as h Ret
theorem dX10_greater_0 : decode cX10_greater 0 = .ok (.iload_n 0, 1) := by decide +kernel
theorem dX10_greater_1 : decode cX10_greater 1 = .ok (.iload_n 1, 1) := by decide +kernel
theorem dX10_greater_2 : decode cX10_greater 2 = .ok (.if_icmp .le 7, 3) := by decide +kernel
theorem dX10_greater_5 : decode cX10_greater 5 = .ok (.iload_n 0, 1) := by decide +kernel
theorem dX10_greater_6 : decode cX10_greater 6 = .ok (.goto 4, 3) := by decide +kernel
theorem dX10_greater_9 : decode cX10_greater 9 = .ok (.iload_n 1, 1) := by decide +kernel
theorem dX10_greater_10 : decode cX10_greater 10 = .ok (.ireturn, 1) := by decide +kernel
def tX10_greater (g : ax_G) : Nat → ax_O := ax_nd 2 (ax_nd 0 (ax_lf 0 (ao_il 0 1)) (ax_nd 1 (ax_lf 1 (ao_il 1 1)) (ax_lf 2 (ao_icmp_le 9)))) (ax_nd 6 (ax_nd 5 (ax_lf 5 (ao_il 0 1)) (ax_lf 6 (ao_goto 10))) (ax_nd 9 (ax_lf 9 (ao_il 1 1)) (ax_lf 10 (ao_iret 0 0))))
theorem oX10_greater (g : ax_G) : ∀ pc, ax_ok g cX10_greater 2 (some .int) RX10 "greater" 1 0 0 pc (tX10_greater g pc) := ax_nd_ok (ax_nd_ok (ax_lf_ok (ak_iload_n rfl dX10_greater_0)) (ax_nd_ok (ax_lf_ok (ak_iload_n rfl dX10_greater_1)) (ax_lf_ok (ak_icmp_le (by decide) dX10_greater_2)))) (ax_nd_ok (ax_nd_ok (ax_lf_ok (ak_iload_n rfl dX10_greater_5)) (ax_lf_ok (ak_goto (by decide) dX10_greater_6))) (ax_nd_ok (ax_lf_ok (ak_iload_n rfl dX10_greater_9)) (ax_lf_ok (ak_iret rfl dX10_greater_10))))
abbrev mX10_greater (g : ax_G) (as : List Value) (h : ax_H) (Ret : Option Value → ax_H → Prop) : Prop := ax_M g 1 0 0 yX10_greater cX10_greater 2 (some .int) as h Ret
theorem dX10_lesser_0 : decode cX10_lesser 0 = .ok (.iload_n 0, 1) := by decide +kernel
theorem dX10_lesser_1 : decode cX10_lesser 1 = .ok (.iload_n 1, 1) := by decide +kernel
theorem dX10_lesser_2 : decode cX10_lesser 2 = .ok (.if_icmp .ge 7, 3) := by decide +kernel
theorem dX10_lesser_5 : decode cX10_lesser 5 = .ok (.iload_n 0, 1) := by decide +kernel
theorem dX10_lesser_6 : decode cX10_lesser 6 = .ok (.goto 4, 3) := by decide +kernel
theorem dX10_lesser_9 : decode cX10_lesser 9 = .ok (.iload_n 1, 1) := by decide +kernel
theorem dX10_lesser_10 : decode cX10_lesser 10 = .ok (.ireturn, 1) := by decide +kernel
def tX10_lesser (g : ax_G) : Nat → ax_O := ax_nd 2 (ax_nd 0 (ax_lf 0 (ao_il 0 1)) (ax_nd 1 (ax_lf 1 (ao_il 1 1)) (ax_lf 2 (ao_icmp_ge 9)))) (ax_nd 6 (ax_nd 5 (ax_lf 5 (ao_il 0 1)) (ax_lf 6 (ao_goto 10))) (ax_nd 9 (ax_lf 9 (ao_il 1 1)) (ax_lf 10 (ao_iret 0 0))))
theorem oX10_lesser (g : ax_G) : ∀ pc, ax_ok g cX10_lesser 2 (some .int) RX10 "lesser" 1 0 0 pc (tX10_lesser g pc) := ax_nd_ok (ax_nd_ok (ax_lf_ok (ak_iload_n rfl dX10_lesser_0)) (ax_nd_ok (ax_lf_ok (ak_iload_n rfl dX10_lesser_1)) (ax_lf_ok (ak_icmp_ge (by decide) dX10_lesser_2)))) (ax_nd_ok (ax_nd_ok (ax_lf_ok (ak_iload_n rfl dX10_lesser_5)) (ax_lf_ok (ak_goto (by decide) dX10_lesser_6))) (ax_nd_ok (ax_lf_ok (ak_iload_n rfl dX10_lesser_9)) (ax_lf_ok (ak_iret rfl dX10_lesser_10))))
abbrev mX10_lesser (g : ax_G) (as : List Value) (h : ax_H) (Ret : Option Value → ax_H → Prop) : Prop := ax_M g 1 0 0 yX10_lesser cX10_lesser 2 (some .int) as h Ret
theorem dX10_copyRow_0 : decode cX10_copyRow 0 = .ok (.iconst 0, 1) := by decide +kernel
theorem dX10_copyRow_1 : decode cX10_copyRow 1 = .ok (.istore 4, 2) := by decide +kernel
theorem dX10_copyRow_3 : decode cX10_copyRow 3 = .ok (.iload 4, 2) := by decide +kernel
theorem dX10_copyRow_5 : decode cX10_copyRow 5 = .ok (.iload_n 1, 1) := by decide +kernel
theorem dX10_copyRow_6 : decode cX10_copyRow 6 = .ok (.if_icmp .ge 25, 3) := by decide +kernel
theorem dX10_copyRow_9 : decode cX10_copyRow 9 = .ok (.aload_n 0, 1) := by decide +kernel
theorem dX10_copyRow_10 : decode cX10_copyRow 10 = .ok (.iload_n 1, 1) := by decide +kernel
theorem dX10_copyRow_11 : decode cX10_copyRow 11 = .ok (.iload_n 3, 1) := by decide +kernel
theorem dX10_copyRow_12 : decode cX10_copyRow 12 = .ok (.imul, 1) := by decide +kernel
theorem dX10_copyRow_13 : decode cX10_copyRow 13 = .ok (.iload 4, 2) := by decide +kernel
theorem dX10_copyRow_15 : decode cX10_copyRow 15 = .ok (.iadd, 1) := by decide +kernel
theorem dX10_copyRow_16 : decode cX10_copyRow 16 = .ok (.aload_n 0, 1) := by decide +kernel
theorem dX10_copyRow_17 : decode cX10_copyRow 17 = .ok (.iload_n 1, 1) := by decide +kernel
theorem dX10_copyRow_18 : decode cX10_copyRow 18 = .ok (.iload_n 2, 1) := by decide +kernel
theorem dX10_copyRow_19 : decode cX10_copyRow 19 = .ok (.imul, 1) := by decide +kernel
theorem dX10_copyRow_20 : decode cX10_copyRow 20 = .ok (.iload 4, 2) := by decide +kernel
theorem dX10_copyRow_22 : decode cX10_copyRow 22 = .ok (.iadd, 1) := by decide +kernel
theorem dX10_copyRow_23 : decode cX10_copyRow 23 = .ok (.iaload, 1) := by decide +kernel
theorem dX10_copyRow_24 : decode cX10_copyRow 24 = .ok (.iastore, 1) := by decide +kernel
theorem dX10_copyRow_25 : decode cX10_copyRow 25 = .ok (.iinc 4 1, 3) := by decide +kernel
theorem dX10_copyRow_28 : decode cX10_copyRow 28 = .ok (.goto (-25), 3) := by decide +kernel
theorem dX10_copyRow_31 : decode cX10_copyRow 31 = .ok (.return_, 1) := by decide +kernel
def tX10_copyRow (g : ax_G) : Nat → ax_O := ax_nd 15 (ax_nd 6 (ax_nd 1 (ax_nd 0 (ax_lf 0 (ao_ic (0) 1)) (ax_lf 1 (ao_is 4 2))) (ax_nd 3 (ax_lf 3 (ao_il 4 2)) (ax_nd 5 (ax_lf 5 (ao_il 1 1)) (ax_lf 6 (ao_icmp_ge 31))))) (ax_nd 11 (ax_nd 9 (ax_lf 9 (ao_al 0 1)) (ax_nd 10 (ax_lf 10 (ao_il 1 1)) (ax_lf 11 (ao_il 3 1)))) (ax_nd 12 (ax_lf 12 ao_imul) (ax_nd 13 (ax_lf 13 (ao_il 4 2)) (ax_lf 15 ao_iadd))))) (ax_nd 20 (ax_nd 17 (ax_nd 16 (ax_lf 16 (ao_al 0 1)) (ax_lf 17 (ao_il 1 1))) (ax_nd 18 (ax_lf 18 (ao_il 2 1)) (ax_nd 19 (ax_lf 19 ao_imul) (ax_lf 20 (ao_il 4 2))))) (ax_nd 24 (ax_nd 22 (ax_lf 22 ao_iadd) (ax_nd 23 (ax_lf 23 ao_iald) (ax_lf 24 ao_iast))) (ax_nd 25 (ax_lf 25 (ao_iinc 4 (1))) (ax_nd 28 (ax_lf 28 (ao_goto 3)) (ax_lf 31 (ao_vret 0 0))))))
theorem oX10_copyRow (g : ax_G) : ∀ pc, ax_ok g cX10_copyRow 5 none RX10 "copyRow" 1 0 0 pc (tX10_copyRow g pc) := ax_nd_ok (ax_nd_ok (ax_nd_ok (ax_nd_ok (ax_lf_ok (ak_iconst (by decide) dX10_copyRow_0)) (ax_lf_ok (ak_istore (by decide) dX10_copyRow_1))) (ax_nd_ok (ax_lf_ok (ak_iload dX10_copyRow_3)) (ax_nd_ok (ax_lf_ok (ak_iload_n rfl dX10_copyRow_5)) (ax_lf_ok (ak_icmp_ge (by decide) dX10_copyRow_6))))) (ax_nd_ok (ax_nd_ok (ax_lf_ok (ak_aload_n rfl dX10_copyRow_9)) (ax_nd_ok (ax_lf_ok (ak_iload_n rfl dX10_copyRow_10)) (ax_lf_ok (ak_iload_n rfl dX10_copyRow_11)))) (ax_nd_ok (ax_lf_ok (ak_imul dX10_copyRow_12)) (ax_nd_ok (ax_lf_ok (ak_iload dX10_copyRow_13)) (ax_lf_ok (ak_iadd dX10_copyRow_15)))))) (ax_nd_ok (ax_nd_ok (ax_nd_ok (ax_lf_ok (ak_aload_n rfl dX10_copyRow_16)) (ax_lf_ok (ak_iload_n rfl dX10_copyRow_17))) (ax_nd_ok (ax_lf_ok (ak_iload_n rfl dX10_copyRow_18)) (ax_nd_ok (ax_lf_ok (ak_imul dX10_copyRow_19)) (ax_lf_ok (ak_iload dX10_copyRow_20))))) (ax_nd_ok (ax_nd_ok (ax_lf_ok (ak_iadd dX10_copyRow_22)) (ax_nd_ok (ax_lf_ok (ak_iald dX10_copyRow_23)) (ax_lf_ok (ak_iast dX10_copyRow_24)))) (ax_nd_ok (ax_lf_ok (ak_iinc (by decide) (by decide) dX10_copyRow_25)) (ax_nd_ok (ax_lf_ok (ak_goto (by decide) dX10_copyRow_28)) (ax_lf_ok (ak_vret rfl dX10_copyRow_31))))))
abbrev mX10_copyRow (g : ax_G) (as : List Value) (h : ax_H) (Ret : Option Value → ax_H → Prop) : Prop := ax_M g 1 0 0 yX10_copyRow cX10_copyRow 5 none as h Ret
theorem dX10_copyAll_0 : decode cX10_copyAll 0 = .ok (.iconst 0, 1) := by decide +kernel
theorem dX10_copyAll_1 : decode cX10_copyAll 1 = .ok (.istore_n 3, 1) := by decide +kernel
theorem dX10_copyAll_2 : decode cX10_copyAll 2 = .ok (.iload_n 3, 1) := by decide +kernel
theorem dX10_copyAll_3 : decode cX10_copyAll 3 = .ok (.sipush 600, 3) := by decide +kernel
theorem dX10_copyAll_6 : decode cX10_copyAll 6 = .ok (.if_icmp .ge 33, 3) := by decide +kernel
theorem dX10_copyAll_9 : decode cX10_copyAll 9 = .ok (.aload_n 0, 1) := by decide +kernel
theorem dX10_copyAll_10 : decode cX10_copyAll 10 = .ok (.getfield 7, 3) := by decide +kernel
theorem dX10_copyAll_13 : decode cX10_copyAll 13 = .ok (.sipush 600, 3) := by decide +kernel
theorem dX10_copyAll_16 : decode cX10_copyAll 16 = .ok (.iload_n 2, 1) := by decide +kernel
theorem dX10_copyAll_17 : decode cX10_copyAll 17 = .ok (.imul, 1) := by decide +kernel
theorem dX10_copyAll_18 : decode cX10_copyAll 18 = .ok (.iload_n 3, 1) := by decide +kernel
theorem dX10_copyAll_19 : decode cX10_copyAll 19 = .ok (.iadd, 1) := by decide +kernel
theorem dX10_copyAll_20 : decode cX10_copyAll 20 = .ok (.aload_n 0, 1) := by decide +kernel
theorem dX10_copyAll_21 : decode cX10_copyAll 21 = .ok (.getfield 7, 3) := by decide +kernel
theorem dX10_copyAll_24 : decode cX10_copyAll 24 = .ok (.sipush 600, 3) := by decide +kernel
theorem dX10_copyAll_27 : decode cX10_copyAll 27 = .ok (.iload_n 1, 1) := by decide +kernel
theorem dX10_copyAll_28 : decode cX10_copyAll 28 = .ok (.imul, 1) := by decide +kernel
theorem dX10_copyAll_29 : decode cX10_copyAll 29 = .ok (.iload_n 3, 1) := by decide +kernel
theorem dX10_copyAll_30 : decode cX10_copyAll 30 = .ok (.iadd, 1) := by decide +kernel
theorem dX10_copyAll_31 : decode cX10_copyAll 31 = .ok (.baload, 1) := by decide +kernel
theorem dX10_copyAll_32 : decode cX10_copyAll 32 = .ok (.bastore, 1) := by decide +kernel
theorem dX10_copyAll_33 : decode cX10_copyAll 33 = .ok (.iinc 3 1, 3) := by decide +kernel
theorem dX10_copyAll_36 : decode cX10_copyAll 36 = .ok (.goto (-34), 3) := by decide +kernel
theorem dX10_copyAll_39 : decode cX10_copyAll 39 = .ok (.aload_n 0, 1) := by decide +kernel
theorem dX10_copyAll_40 : decode cX10_copyAll 40 = .ok (.getfield 13, 3) := by decide +kernel
theorem dX10_copyAll_43 : decode cX10_copyAll 43 = .ok (.iconst 1, 1) := by decide +kernel
theorem dX10_copyAll_44 : decode cX10_copyAll 44 = .ok (.iload_n 1, 1) := by decide +kernel
theorem dX10_copyAll_45 : decode cX10_copyAll 45 = .ok (.iload_n 2, 1) := by decide +kernel
theorem dX10_copyAll_46 : decode cX10_copyAll 46 = .ok (.invokestatic 92, 3) := by decide +kernel
theorem dX10_copyAll_49 : decode cX10_copyAll 49 = .ok (.aload_n 0, 1) := by decide +kernel
theorem dX10_copyAll_50 : decode cX10_copyAll 50 = .ok (.getfield 17, 3) := by decide +kernel
theorem dX10_copyAll_53 : decode cX10_copyAll 53 = .ok (.iconst 1, 1) := by decide +kernel
theorem dX10_copyAll_54 : decode cX10_copyAll 54 = .ok (.iload_n 1, 1) := by decide +kernel
theorem dX10_copyAll_55 : decode cX10_copyAll 55 = .ok (.iload_n 2, 1) := by decide +kernel
theorem dX10_copyAll_56 : decode cX10_copyAll 56 = .ok (.invokestatic 92, 3) := by decide +kernel
theorem dX10_copyAll_59 : decode cX10_copyAll 59 = .ok (.aload_n 0, 1) := by decide +kernel
theorem dX10_copyAll_60 : decode cX10_copyAll 60 = .ok (.getfield 20, 3) := by decide +kernel
theorem dX10_copyAll_63 : decode cX10_copyAll 63 = .ok (.iconst 1, 1) := by decide +kernel
theorem dX10_copyAll_64 : decode cX10_copyAll 64 = .ok (.iload_n 1, 1) := by decide +kernel
theorem dX10_copyAll_65 : decode cX10_copyAll 65 = .ok (.iload_n 2, 1) := by decide +kernel
theorem dX10_copyAll_66 : decode cX10_copyAll 66 = .ok (.invokestatic 92, 3) := by decide +kernel
theorem dX10_copyAll_69 : decode cX10_copyAll 69 = .ok (.aload_n 0, 1) := by decide +kernel
theorem dX10_copyAll_70 : decode cX10_copyAll 70 = .ok (.getfield 23, 3) := by decide +kernel
theorem dX10_copyAll_73 : decode cX10_copyAll 73 = .ok (.iconst 5, 1) := by decide +kernel
theorem dX10_copyAll_74 : decode cX10_copyAll 74 = .ok (.iload_n 1, 1) := by decide +kernel
theorem dX10_copyAll_75 : decode cX10_copyAll 75 = .ok (.iload_n 2, 1) := by decide +kernel
theorem dX10_copyAll_76 : decode cX10_copyAll 76 = .ok (.invokestatic 92, 3) := by decide +kernel
theorem dX10_copyAll_79 : decode cX10_copyAll 79 = .ok (.aload_n 0, 1) := by decide +kernel
theorem dX10_copyAll_80 : decode cX10_copyAll 80 = .ok (.getfield 26, 3) := by decide +kernel
theorem dX10_copyAll_83 : decode cX10_copyAll 83 = .ok (.sipush 328, 3) := by decide +kernel
theorem dX10_copyAll_86 : decode cX10_copyAll 86 = .ok (.iload_n 1, 1) := by decide +kernel
theorem dX10_copyAll_87 : decode cX10_copyAll 87 = .ok (.iload_n 2, 1) := by decide +kernel
theorem dX10_copyAll_88 : decode cX10_copyAll 88 = .ok (.invokestatic 92, 3) := by decide +kernel
theorem dX10_copyAll_91 : decode cX10_copyAll 91 = .ok (.aload_n 0, 1) := by decide +kernel
theorem dX10_copyAll_92 : decode cX10_copyAll 92 = .ok (.getfield 29, 3) := by decide +kernel
theorem dX10_copyAll_95 : decode cX10_copyAll 95 = .ok (.bipush 30, 2) := by decide +kernel
theorem dX10_copyAll_97 : decode cX10_copyAll 97 = .ok (.iload_n 1, 1) := by decide +kernel
theorem dX10_copyAll_98 : decode cX10_copyAll 98 = .ok (.iload_n 2, 1) := by decide +kernel
theorem dX10_copyAll_99 : decode cX10_copyAll 99 = .ok (.invokestatic 92, 3) := by decide +kernel
theorem dX10_copyAll_102 : decode cX10_copyAll 102 = .ok (.aload_n 0, 1) := by decide +kernel
theorem dX10_copyAll_103 : decode cX10_copyAll 103 = .ok (.getfield 32, 3) := by decide +kernel
theorem dX10_copyAll_106 : decode cX10_copyAll 106 = .ok (.bipush 38, 2) := by decide +kernel
theorem dX10_copyAll_108 : decode cX10_copyAll 108 = .ok (.iload_n 1, 1) := by decide +kernel
theorem dX10_copyAll_109 : decode cX10_copyAll 109 = .ok (.iload_n 2, 1) := by decide +kernel
theorem dX10_copyAll_110 : decode cX10_copyAll 110 = .ok (.invokestatic 92, 3) := by decide +kernel
theorem dX10_copyAll_113 : decode cX10_copyAll 113 = .ok (.aload_n 0, 1) := by decide +kernel
theorem dX10_copyAll_114 : decode cX10_copyAll 114 = .ok (.getfield 35, 3) := by decide +kernel
theorem dX10_copyAll_117 : decode cX10_copyAll 117 = .ok (.bipush 34, 2) := by decide +kernel
theorem dX10_copyAll_119 : decode cX10_copyAll 119 = .ok (.iload_n 1, 1) := by decide +kernel
theorem dX10_copyAll_120 : decode cX10_copyAll 120 = .ok (.iload_n 2, 1) := by decide +kernel
theorem dX10_copyAll_121 : decode cX10_copyAll 121 = .ok (.invokestatic 92, 3) := by decide +kernel
theorem dX10_copyAll_124 : decode cX10_copyAll 124 = .ok (.aload_n 0, 1) := by decide +kernel
theorem dX10_copyAll_125 : decode cX10_copyAll 125 = .ok (.getfield 38, 3) := by decide +kernel
theorem dX10_copyAll_128 : decode cX10_copyAll 128 = .ok (.bipush 38, 2) := by decide +kernel
theorem dX10_copyAll_130 : decode cX10_copyAll 130 = .ok (.iload_n 1, 1) := by decide +kernel
theorem dX10_copyAll_131 : decode cX10_copyAll 131 = .ok (.iload_n 2, 1) := by decide +kernel
theorem dX10_copyAll_132 : decode cX10_copyAll 132 = .ok (.invokestatic 92, 3) := by decide +kernel
theorem dX10_copyAll_135 : decode cX10_copyAll 135 = .ok (.return_, 1) := by decide +kernel
def tX10_copyAll (g : ax_G) : Nat → ax_O := ax_nd 64 (ax_nd 30 (ax_nd 16 (ax_nd 3 (ax_nd 1 (ax_nd 0 (ax_lf 0 (ao_ic (0) 1)) (ax_lf 1 (ao_is 3 1))) (ax_nd 2 (ax_lf 2 (ao_il 3 1)) (ax_lf 3 (ao_ic (600) 3)))) (ax_nd 9 (ax_nd 6 (ax_lf 6 (ao_icmp_ge 39)) (ax_lf 9 (ao_al 0 1))) (ax_nd 10 (ax_lf 10 (ao_gr 10 1)) (ax_nd 13 (ax_lf 13 (ao_ic (600) 3)) (ax_lf 16 (ao_il 2 1)))))) (ax_nd 21 (ax_nd 18 (ax_nd 17 (ax_lf 17 ao_imul) (ax_lf 18 (ao_il 3 1))) (ax_nd 19 (ax_lf 19 ao_iadd) (ax_nd 20 (ax_lf 20 (ao_al 0 1)) (ax_lf 21 (ao_gr 10 1))))) (ax_nd 27 (ax_nd 24 (ax_lf 24 (ao_ic (600) 3)) (ax_lf 27 (ao_il 1 1))) (ax_nd 28 (ax_lf 28 ao_imul) (ax_nd 29 (ax_lf 29 (ao_il 3 1)) (ax_lf 30 ao_iadd)))))) (ax_nd 46 (ax_nd 39 (ax_nd 32 (ax_nd 31 (ax_lf 31 (ao_bald 12)) (ax_lf 32 ao_bast)) (ax_nd 33 (ax_lf 33 (ao_iinc 3 (1))) (ax_nd 36 (ax_lf 36 (ao_goto 2)) (ax_lf 39 (ao_al 0 1))))) (ax_nd 43 (ax_nd 40 (ax_lf 40 (ao_gr 10 2)) (ax_lf 43 (ao_ic (1) 1))) (ax_nd 44 (ax_lf 44 (ao_il 1 1)) (ax_nd 45 (ax_lf 45 (ao_il 2 1)) (ax_lf 46 (ao_inv g 1 99 0 yX10_copyRow cX10_copyRow 5 none 4 0 0 0 0)))))) (ax_nd 55 (ax_nd 50 (ax_nd 49 (ax_lf 49 (ao_al 0 1)) (ax_lf 50 (ao_gr 10 3))) (ax_nd 53 (ax_lf 53 (ao_ic (1) 1)) (ax_nd 54 (ax_lf 54 (ao_il 1 1)) (ax_lf 55 (ao_il 2 1))))) (ax_nd 59 (ax_nd 56 (ax_lf 56 (ao_inv g 1 99 0 yX10_copyRow cX10_copyRow 5 none 4 0 0 0 0)) (ax_lf 59 (ao_al 0 1))) (ax_nd 60 (ax_lf 60 (ao_gr 10 4)) (ax_nd 63 (ax_lf 63 (ao_ic (1) 1)) (ax_lf 64 (ao_il 1 1)))))))) (ax_nd 98 (ax_nd 79 (ax_nd 70 (ax_nd 66 (ax_nd 65 (ax_lf 65 (ao_il 2 1)) (ax_lf 66 (ao_inv g 1 99 0 yX10_copyRow cX10_copyRow 5 none 4 0 0 0 0))) (ax_nd 69 (ax_lf 69 (ao_al 0 1)) (ax_lf 70 (ao_gr 10 5)))) (ax_nd 74 (ax_nd 73 (ax_lf 73 (ao_ic (5) 1)) (ax_lf 74 (ao_il 1 1))) (ax_nd 75 (ax_lf 75 (ao_il 2 1)) (ax_nd 76 (ax_lf 76 (ao_inv g 1 99 0 yX10_copyRow cX10_copyRow 5 none 4 0 0 0 0)) (ax_lf 79 (ao_al 0 1)))))) (ax_nd 88 (ax_nd 83 (ax_nd 80 (ax_lf 80 (ao_gr 10 6)) (ax_lf 83 (ao_ic (328) 3))) (ax_nd 86 (ax_lf 86 (ao_il 1 1)) (ax_nd 87 (ax_lf 87 (ao_il 2 1)) (ax_lf 88 (ao_inv g 1 99 0 yX10_copyRow cX10_copyRow 5 none 4 0 0 0 0))))) (ax_nd 92 (ax_nd 91 (ax_lf 91 (ao_al 0 1)) (ax_lf 92 (ao_gr 10 7))) (ax_nd 95 (ax_lf 95 (ao_ic (30) 2)) (ax_nd 97 (ax_lf 97 (ao_il 1 1)) (ax_lf 98 (ao_il 2 1))))))) (ax_nd 117 (ax_nd 108 (ax_nd 102 (ax_nd 99 (ax_lf 99 (ao_inv g 1 99 0 yX10_copyRow cX10_copyRow 5 none 4 0 0 0 0)) (ax_lf 102 (ao_al 0 1))) (ax_nd 103 (ax_lf 103 (ao_gr 10 8)) (ax_nd 106 (ax_lf 106 (ao_ic (38) 2)) (ax_lf 108 (ao_il 1 1))))) (ax_nd 110 (ax_nd 109 (ax_lf 109 (ao_il 2 1)) (ax_lf 110 (ao_inv g 1 99 0 yX10_copyRow cX10_copyRow 5 none 4 0 0 0 0))) (ax_nd 113 (ax_lf 113 (ao_al 0 1)) (ax_nd 114 (ax_lf 114 (ao_gr 10 9)) (ax_lf 117 (ao_ic (34) 2)))))) (ax_nd 125 (ax_nd 120 (ax_nd 119 (ax_lf 119 (ao_il 1 1)) (ax_lf 120 (ao_il 2 1))) (ax_nd 121 (ax_lf 121 (ao_inv g 1 99 0 yX10_copyRow cX10_copyRow 5 none 4 0 0 0 0)) (ax_nd 124 (ax_lf 124 (ao_al 0 1)) (ax_lf 125 (ao_gr 10 10))))) (ax_nd 130 (ax_nd 128 (ax_lf 128 (ao_ic (38) 2)) (ax_lf 130 (ao_il 1 1))) (ax_nd 131 (ax_lf 131 (ao_il 2 1)) (ax_nd 132 (ax_lf 132 (ao_inv g 1 99 0 yX10_copyRow cX10_copyRow 5 none 4 0 0 0 0)) (ax_lf 135 (ao_vret 0 0))))))))
theorem oX10_copyAll (g : ax_G) : ∀ pc, ax_ok g cX10_copyAll 4 none RX10 "copyAll" 2 0 0 pc (tX10_copyAll g pc) := ax_nd_ok (ax_nd_ok (ax_nd_ok (ax_nd_ok (ax_nd_ok (ax_nd_ok (ax_lf_ok (ak_iconst (by decide) dX10_copyAll_0)) (ax_lf_ok (ak_istore_n rfl (by decide) dX10_copyAll_1))) (ax_nd_ok (ax_lf_ok (ak_iload_n rfl dX10_copyAll_2)) (ax_lf_ok (ak_sipush (by decide) dX10_copyAll_3)))) (ax_nd_ok (ax_nd_ok (ax_lf_ok (ak_icmp_ge (by decide) dX10_copyAll_6)) (ax_lf_ok (ak_aload_n rfl dX10_copyAll_9))) (ax_nd_ok (ax_lf_ok (ak_gr fF_X10_7 dX10_copyAll_10)) (ax_nd_ok (ax_lf_ok (ak_sipush (by decide) dX10_copyAll_13)) (ax_lf_ok (ak_iload_n rfl dX10_copyAll_16)))))) (ax_nd_ok (ax_nd_ok (ax_nd_ok (ax_lf_ok (ak_imul dX10_copyAll_17)) (ax_lf_ok (ak_iload_n rfl dX10_copyAll_18))) (ax_nd_ok (ax_lf_ok (ak_iadd dX10_copyAll_19)) (ax_nd_ok (ax_lf_ok (ak_aload_n rfl dX10_copyAll_20)) (ax_lf_ok (ak_gr fF_X10_7 dX10_copyAll_21))))) (ax_nd_ok (ax_nd_ok (ax_lf_ok (ak_sipush (by decide) dX10_copyAll_24)) (ax_lf_ok (ak_iload_n rfl dX10_copyAll_27))) (ax_nd_ok (ax_lf_ok (ak_imul dX10_copyAll_28)) (ax_nd_ok (ax_lf_ok (ak_iload_n rfl dX10_copyAll_29)) (ax_lf_ok (ak_iadd dX10_copyAll_30))))))) (ax_nd_ok (ax_nd_ok (ax_nd_ok (ax_nd_ok (ax_lf_ok (ak_bald dX10_copyAll_31)) (ax_lf_ok (ak_bast dX10_copyAll_32))) (ax_nd_ok (ax_lf_ok (ak_iinc (by decide) (by decide) dX10_copyAll_33)) (ax_nd_ok (ax_lf_ok (ak_goto (by decide) dX10_copyAll_36)) (ax_lf_ok (ak_aload_n rfl dX10_copyAll_39))))) (ax_nd_ok (ax_nd_ok (ax_lf_ok (ak_gr fF_X10_13 dX10_copyAll_40)) (ax_lf_ok (ak_iconst (by decide) dX10_copyAll_43))) (ax_nd_ok (ax_lf_ok (ak_iload_n rfl dX10_copyAll_44)) (ax_nd_ok (ax_lf_ok (ak_iload_n rfl dX10_copyAll_45)) (ax_lf_ok (ak_invS (by decide) (by decide) wd_1707 wd_1708 wd_106 wd_1709 ⟨by decide, by decide, by decide +kernel⟩ dX10_copyAll_46)))))) (ax_nd_ok (ax_nd_ok (ax_nd_ok (ax_lf_ok (ak_aload_n rfl dX10_copyAll_49)) (ax_lf_ok (ak_gr fF_X10_17 dX10_copyAll_50))) (ax_nd_ok (ax_lf_ok (ak_iconst (by decide) dX10_copyAll_53)) (ax_nd_ok (ax_lf_ok (ak_iload_n rfl dX10_copyAll_54)) (ax_lf_ok (ak_iload_n rfl dX10_copyAll_55))))) (ax_nd_ok (ax_nd_ok (ax_lf_ok (ak_invS (by decide) (by decide) wd_1707 wd_1708 wd_106 wd_1709 ⟨by decide, by decide, by decide +kernel⟩ dX10_copyAll_56)) (ax_lf_ok (ak_aload_n rfl dX10_copyAll_59))) (ax_nd_ok (ax_lf_ok (ak_gr fF_X10_20 dX10_copyAll_60)) (ax_nd_ok (ax_lf_ok (ak_iconst (by decide) dX10_copyAll_63)) (ax_lf_ok (ak_iload_n rfl dX10_copyAll_64)))))))) (ax_nd_ok (ax_nd_ok (ax_nd_ok (ax_nd_ok (ax_nd_ok (ax_lf_ok (ak_iload_n rfl dX10_copyAll_65)) (ax_lf_ok (ak_invS (by decide) (by decide) wd_1707 wd_1708 wd_106 wd_1709 ⟨by decide, by decide, by decide +kernel⟩ dX10_copyAll_66))) (ax_nd_ok (ax_lf_ok (ak_aload_n rfl dX10_copyAll_69)) (ax_lf_ok (ak_gr fF_X10_23 dX10_copyAll_70)))) (ax_nd_ok (ax_nd_ok (ax_lf_ok (ak_iconst (by decide) dX10_copyAll_73)) (ax_lf_ok (ak_iload_n rfl dX10_copyAll_74))) (ax_nd_ok (ax_lf_ok (ak_iload_n rfl dX10_copyAll_75)) (ax_nd_ok (ax_lf_ok (ak_invS (by decide) (by decide) wd_1707 wd_1708 wd_106 wd_1709 ⟨by decide, by decide, by decide +kernel⟩ dX10_copyAll_76)) (ax_lf_ok (ak_aload_n rfl dX10_copyAll_79)))))) (ax_nd_ok (ax_nd_ok (ax_nd_ok (ax_lf_ok (ak_gr fF_X10_26 dX10_copyAll_80)) (ax_lf_ok (ak_sipush (by decide) dX10_copyAll_83))) (ax_nd_ok (ax_lf_ok (ak_iload_n rfl dX10_copyAll_86)) (ax_nd_ok (ax_lf_ok (ak_iload_n rfl dX10_copyAll_87)) (ax_lf_ok (ak_invS (by decide) (by decide) wd_1707 wd_1708 wd_106 wd_1709 ⟨by decide, by decide, by decide +kernel⟩ dX10_copyAll_88))))) (ax_nd_ok (ax_nd_ok (ax_lf_ok (ak_aload_n rfl dX10_copyAll_91)) (ax_lf_ok (ak_gr fF_X10_29 dX10_copyAll_92))) (ax_nd_ok (ax_lf_ok (ak_bipush (by decide) dX10_copyAll_95)) (ax_nd_ok (ax_lf_ok (ak_iload_n rfl dX10_copyAll_97)) (ax_lf_ok (ak_iload_n rfl dX10_copyAll_98))))))) (ax_nd_ok (ax_nd_ok (ax_nd_ok (ax_nd_ok (ax_lf_ok (ak_invS (by decide) (by decide) wd_1707 wd_1708 wd_106 wd_1709 ⟨by decide, by decide, by decide +kernel⟩ dX10_copyAll_99)) (ax_lf_ok (ak_aload_n rfl dX10_copyAll_102))) (ax_nd_ok (ax_lf_ok (ak_gr fF_X10_32 dX10_copyAll_103)) (ax_nd_ok (ax_lf_ok (ak_bipush (by decide) dX10_copyAll_106)) (ax_lf_ok (ak_iload_n rfl dX10_copyAll_108))))) (ax_nd_ok (ax_nd_ok (ax_lf_ok (ak_iload_n rfl dX10_copyAll_109)) (ax_lf_ok (ak_invS (by decide) (by decide) wd_1707 wd_1708 wd_106 wd_1709 ⟨by decide, by decide, by decide +kernel⟩ dX10_copyAll_110))) (ax_nd_ok (ax_lf_ok (ak_aload_n rfl dX10_copyAll_113)) (ax_nd_ok (ax_lf_ok (ak_gr fF_X10_35 dX10_copyAll_114)) (ax_lf_ok (ak_bipush (by decide) dX10_copyAll_117)))))) (ax_nd_ok (ax_nd_ok (ax_nd_ok (ax_lf_ok (ak_iload_n rfl dX10_copyAll_119)) (ax_lf_ok (ak_iload_n rfl dX10_copyAll_120))) (ax_nd_ok (ax_lf_ok (ak_invS (by decide) (by decide) wd_1707 wd_1708 wd_106 wd_1709 ⟨by decide, by decide, by decide +kernel⟩ dX10_copyAll_121)) (ax_nd_ok (ax_lf_ok (ak_aload_n rfl dX10_copyAll_124)) (ax_lf_ok (ak_gr fF_X10_38 dX10_copyAll_125))))) (ax_nd_ok (ax_nd_ok (ax_lf_ok (ak_bipush (by decide) dX10_copyAll_128)) (ax_lf_ok (ak_iload_n rfl dX10_copyAll_130))) (ax_nd_ok (ax_lf_ok (ak_iload_n rfl dX10_copyAll_131)) (ax_nd_ok (ax_lf_ok (ak_invS (by decide) (by decide) wd_1707 wd_1708 wd_106 wd_1709 ⟨by decide, by decide, by decide +kernel⟩ dX10_copyAll_132)) (ax_lf_ok (ak_vret rfl dX10_copyAll_135))))))))
abbrev mX10_copyAll (g : ax_G) (as : List Value) (h : ax_H) (Ret : Option Value → ax_H → Prop) : Prop := ax_M g 2 0 0 yX10_copyAll cX10_copyAll 4 none as h Ret
theorem dX10_is_0 : decode cX10_is 0 = .ok (.iload_n 2, 1) := by decide +kernel
theorem dX10_is_1 : decode cX10_is 1 = .ok (.iconst 0, 1) := by decide +kernel
theorem dX10_is_2 : decode cX10_is 2 = .ok (.aload_n 0, 1) := by decide +kernel
theorem dX10_is_3 : decode cX10_is 3 = .ok (.getfield 23, 3) := by decide +kernel
theorem dX10_is_6 : decode cX10_is 6 = .ok (.iload_n 1, 1) := by decide +kernel
theorem dX10_is_7 : decode cX10_is 7 = .ok (.iaload, 1) := by decide +kernel
theorem dX10_is_8 : decode cX10_is 8 = .ok (.iconst 1, 1) := by decide +kernel
theorem dX10_is_9 : decode cX10_is 9 = .ok (.isub, 1) := by decide +kernel
theorem dX10_is_10 : decode cX10_is 10 = .ok (.invokestatic 96, 3) := by decide +kernel
theorem dX10_is_13 : decode cX10_is 13 = .ok (.ireturn, 1) := by decide +kernel
def tX10_is (g : ax_G) : Nat → ax_O := ax_nd 6 (ax_nd 1 (ax_nd 0 (ax_lf 0 (ao_il 2 1)) (ax_lf 1 (ao_ic (0) 1))) (ax_nd 2 (ax_lf 2 (ao_al 0 1)) (ax_nd 3 (ax_lf 3 (ao_gr 10 5)) (ax_lf 6 (ao_il 1 1))))) (ax_nd 8 (ax_nd 7 (ax_lf 7 ao_iald) (ax_lf 8 (ao_ic (1) 1))) (ax_nd 9 (ax_lf 9 ao_isub) (ax_nd 10 (ax_lf 10 (ao_inv g 1 99 1 yX10_in cX10_in 3 (some .boolean) 3 0 0 0 0)) (ax_lf 13 (ao_zret 0 0)))))
theorem oX10_is (g : ax_G) : ∀ pc, ax_ok g cX10_is 3 (some .boolean) RX10 "is" 2 0 0 pc (tX10_is g pc) := ax_nd_ok (ax_nd_ok (ax_nd_ok (ax_lf_ok (ak_iload_n rfl dX10_is_0)) (ax_lf_ok (ak_iconst (by decide) dX10_is_1))) (ax_nd_ok (ax_lf_ok (ak_aload_n rfl dX10_is_2)) (ax_nd_ok (ax_lf_ok (ak_gr fF_X10_23 dX10_is_3)) (ax_lf_ok (ak_iload_n rfl dX10_is_6))))) (ax_nd_ok (ax_nd_ok (ax_lf_ok (ak_iald dX10_is_7)) (ax_lf_ok (ak_iconst (by decide) dX10_is_8))) (ax_nd_ok (ax_lf_ok (ak_isub dX10_is_9)) (ax_nd_ok (ax_lf_ok (ak_invS (by decide) (by decide) wd_1244 wd_1245 wd_106 wd_1246 ⟨by decide, by decide, by decide +kernel⟩ dX10_is_10)) (ax_lf_ok (ak_zret rfl dX10_is_13)))))
abbrev mX10_is (g : ax_G) (as : List Value) (h : ax_H) (Ret : Option Value → ax_H → Prop) : Prop := ax_M g 2 0 0 yX10_is cX10_is 3 (some .boolean) as h Ret
theorem dX10_feed_0 : decode cX10_feed 0 = .ok (.aload_n 0, 1) := by decide +kernel
theorem dX10_feed_1 : decode cX10_feed 1 = .ok (.iconst 0, 1) := by decide +kernel
theorem dX10_feed_2 : decode cX10_feed 2 = .ok (.putfield 88, 3) := by decide +kernel
theorem dX10_feed_5 : decode cX10_feed 5 = .ok (.aload_n 0, 1) := by decide +kernel
theorem dX10_feed_6 : decode cX10_feed 6 = .ok (.getfield 13, 3) := by decide +kernel
theorem dX10_feed_9 : decode cX10_feed 9 = .ok (.iconst 0, 1) := by decide +kernel
theorem dX10_feed_10 : decode cX10_feed 10 = .ok (.iaload, 1) := by decide +kernel
theorem dX10_feed_11 : decode cX10_feed 11 = .ok (.bipush 20, 2) := by decide +kernel
theorem dX10_feed_13 : decode cX10_feed 13 = .ok (.iadd, 1) := by decide +kernel
theorem dX10_feed_14 : decode cX10_feed 14 = .ok (.sipush 600, 3) := by decide +kernel
theorem dX10_feed_17 : decode cX10_feed 17 = .ok (.if_icmp .le 5, 3) := by decide +kernel
theorem dX10_feed_20 : decode cX10_feed 20 = .ok (.iconst (-1), 1) := by decide +kernel
theorem dX10_feed_21 : decode cX10_feed 21 = .ok (.ireturn, 1) := by decide +kernel
theorem dX10_feed_22 : decode cX10_feed 22 = .ok (.aload_n 0, 1) := by decide +kernel
theorem dX10_feed_23 : decode cX10_feed 23 = .ok (.iload_n 1, 1) := by decide +kernel
theorem dX10_feed_24 : decode cX10_feed 24 = .ok (.invokevirtual 100, 3) := by decide +kernel
theorem dX10_feed_27 : decode cX10_feed 27 = .ok (.aload_n 0, 1) := by decide +kernel
theorem dX10_feed_28 : decode cX10_feed 28 = .ok (.iload_n 2, 1) := by decide +kernel
theorem dX10_feed_29 : decode cX10_feed 29 = .ok (.invokevirtual 100, 3) := by decide +kernel
theorem dX10_feed_32 : decode cX10_feed 32 = .ok (.aload_n 0, 1) := by decide +kernel
theorem dX10_feed_33 : decode cX10_feed 33 = .ok (.iload_n 3, 1) := by decide +kernel
theorem dX10_feed_34 : decode cX10_feed 34 = .ok (.invokevirtual 100, 3) := by decide +kernel
theorem dX10_feed_37 : decode cX10_feed 37 = .ok (.aload_n 0, 1) := by decide +kernel
theorem dX10_feed_38 : decode cX10_feed 38 = .ok (.iload 4, 2) := by decide +kernel
theorem dX10_feed_40 : decode cX10_feed 40 = .ok (.invokevirtual 100, 3) := by decide +kernel
theorem dX10_feed_43 : decode cX10_feed 43 = .ok (.aload_n 0, 1) := by decide +kernel
theorem dX10_feed_44 : decode cX10_feed 44 = .ok (.iload 5, 2) := by decide +kernel
theorem dX10_feed_46 : decode cX10_feed 46 = .ok (.invokevirtual 100, 3) := by decide +kernel
theorem dX10_feed_49 : decode cX10_feed 49 = .ok (.aload_n 0, 1) := by decide +kernel
theorem dX10_feed_50 : decode cX10_feed 50 = .ok (.getfield 13, 3) := by decide +kernel
theorem dX10_feed_53 : decode cX10_feed 53 = .ok (.iconst 0, 1) := by decide +kernel
theorem dX10_feed_54 : decode cX10_feed 54 = .ok (.iaload, 1) := by decide +kernel
theorem dX10_feed_55 : decode cX10_feed 55 = .ok (.ireturn, 1) := by decide +kernel
def tX10_feed (g : ax_G) : Nat → ax_O := ax_nd 24 (ax_nd 11 (ax_nd 5 (ax_nd 1 (ax_nd 0 (ax_lf 0 (ao_al 0 1)) (ax_lf 1 (ao_ic (0) 1))) (ax_nd 2 (ax_lf 2 (ao_pi 10 0)) (ax_lf 5 (ao_al 0 1)))) (ax_nd 9 (ax_nd 6 (ax_lf 6 (ao_gr 10 2)) (ax_lf 9 (ao_ic (0) 1))) (ax_nd 10 (ax_lf 10 ao_iald) (ax_lf 11 (ao_ic (20) 2))))) (ax_nd 20 (ax_nd 14 (ax_nd 13 (ax_lf 13 ao_iadd) (ax_lf 14 (ao_ic (600) 3))) (ax_nd 17 (ax_lf 17 (ao_icmp_le 22)) (ax_lf 20 (ao_ic (-1) 1)))) (ax_nd 22 (ax_nd 21 (ax_lf 21 (ao_iret 0 0)) (ax_lf 22 (ao_al 0 1))) (ax_nd 23 (ax_lf 23 (ao_il 1 1)) (ax_lf 24 (ao_inv g 1 10 0 yX10_four cX10_four 3 none 2 0 0 0 0)))))) (ax_nd 38 (ax_nd 32 (ax_nd 28 (ax_nd 27 (ax_lf 27 (ao_al 0 1)) (ax_lf 28 (ao_il 2 1))) (ax_nd 29 (ax_lf 29 (ao_inv g 1 10 0 yX10_four cX10_four 3 none 2 0 0 0 0)) (ax_lf 32 (ao_al 0 1)))) (ax_nd 34 (ax_nd 33 (ax_lf 33 (ao_il 3 1)) (ax_lf 34 (ao_inv g 1 10 0 yX10_four cX10_four 3 none 2 0 0 0 0))) (ax_nd 37 (ax_lf 37 (ao_al 0 1)) (ax_lf 38 (ao_il 4 2))))) (ax_nd 46 (ax_nd 43 (ax_nd 40 (ax_lf 40 (ao_inv g 1 10 0 yX10_four cX10_four 3 none 2 0 0 0 0)) (ax_lf 43 (ao_al 0 1))) (ax_nd 44 (ax_lf 44 (ao_il 5 2)) (ax_lf 46 (ao_inv g 1 10 0 yX10_four cX10_four 3 none 2 0 0 0 0)))) (ax_nd 50 (ax_nd 49 (ax_lf 49 (ao_al 0 1)) (ax_lf 50 (ao_gr 10 2))) (ax_nd 53 (ax_lf 53 (ao_ic (0) 1)) (ax_nd 54 (ax_lf 54 ao_iald) (ax_lf 55 (ao_iret 0 0)))))))
theorem oX10_feed (g : ax_G) : ∀ pc, ax_ok g cX10_feed 6 (some .int) RX10 "feed" 2 0 0 pc (tX10_feed g pc) := ax_nd_ok (ax_nd_ok (ax_nd_ok (ax_nd_ok (ax_nd_ok (ax_lf_ok (ak_aload_n rfl dX10_feed_0)) (ax_lf_ok (ak_iconst (by decide) dX10_feed_1))) (ax_nd_ok (ax_lf_ok (ak_pi fF_X10_88 fW_X10_88_a dX10_feed_2)) (ax_lf_ok (ak_aload_n rfl dX10_feed_5)))) (ax_nd_ok (ax_nd_ok (ax_lf_ok (ak_gr fF_X10_13 dX10_feed_6)) (ax_lf_ok (ak_iconst (by decide) dX10_feed_9))) (ax_nd_ok (ax_lf_ok (ak_iald dX10_feed_10)) (ax_lf_ok (ak_bipush (by decide) dX10_feed_11))))) (ax_nd_ok (ax_nd_ok (ax_nd_ok (ax_lf_ok (ak_iadd dX10_feed_13)) (ax_lf_ok (ak_sipush (by decide) dX10_feed_14))) (ax_nd_ok (ax_lf_ok (ak_icmp_le (by decide) dX10_feed_17)) (ax_lf_ok (ak_iconst (by decide) dX10_feed_20)))) (ax_nd_ok (ax_nd_ok (ax_lf_ok (ak_iret rfl dX10_feed_21)) (ax_lf_ok (ak_aload_n rfl dX10_feed_22))) (ax_nd_ok (ax_lf_ok (ak_iload_n rfl dX10_feed_23)) (ax_lf_ok (ak_invV (by decide) (by decide) (by decide) rfl wd_1236 wd_1238 wd_23 wd_106 wd_1239 ⟨by decide, by decide, by decide +kernel⟩ dX10_feed_24)))))) (ax_nd_ok (ax_nd_ok (ax_nd_ok (ax_nd_ok (ax_lf_ok (ak_aload_n rfl dX10_feed_27)) (ax_lf_ok (ak_iload_n rfl dX10_feed_28))) (ax_nd_ok (ax_lf_ok (ak_invV (by decide) (by decide) (by decide) rfl wd_1236 wd_1238 wd_23 wd_106 wd_1239 ⟨by decide, by decide, by decide +kernel⟩ dX10_feed_29)) (ax_lf_ok (ak_aload_n rfl dX10_feed_32)))) (ax_nd_ok (ax_nd_ok (ax_lf_ok (ak_iload_n rfl dX10_feed_33)) (ax_lf_ok (ak_invV (by decide) (by decide) (by decide) rfl wd_1236 wd_1238 wd_23 wd_106 wd_1239 ⟨by decide, by decide, by decide +kernel⟩ dX10_feed_34))) (ax_nd_ok (ax_lf_ok (ak_aload_n rfl dX10_feed_37)) (ax_lf_ok (ak_iload dX10_feed_38))))) (ax_nd_ok (ax_nd_ok (ax_nd_ok (ax_lf_ok (ak_invV (by decide) (by decide) (by decide) rfl wd_1236 wd_1238 wd_23 wd_106 wd_1239 ⟨by decide, by decide, by decide +kernel⟩ dX10_feed_40)) (ax_lf_ok (ak_aload_n rfl dX10_feed_43))) (ax_nd_ok (ax_lf_ok (ak_iload dX10_feed_44)) (ax_lf_ok (ak_invV (by decide) (by decide) (by decide) rfl wd_1236 wd_1238 wd_23 wd_106 wd_1239 ⟨by decide, by decide, by decide +kernel⟩ dX10_feed_46)))) (ax_nd_ok (ax_nd_ok (ax_lf_ok (ak_aload_n rfl dX10_feed_49)) (ax_lf_ok (ak_gr fF_X10_13 dX10_feed_50))) (ax_nd_ok (ax_lf_ok (ak_iconst (by decide) dX10_feed_53)) (ax_nd_ok (ax_lf_ok (ak_iald dX10_feed_54)) (ax_lf_ok (ak_iret rfl dX10_feed_55)))))))
abbrev mX10_feed (g : ax_G) (as : List Value) (h : ax_H) (Ret : Option Value → ax_H → Prop) : Prop := ax_M g 2 0 0 yX10_feed cX10_feed 6 (some .int) as h Ret
theorem dX10_four_0 : decode cX10_four 0 = .ok (.bipush 24, 2) := by decide +kernel
theorem dX10_four_2 : decode cX10_four 2 = .ok (.istore_n 2, 1) := by decide +kernel
theorem dX10_four_3 : decode cX10_four 3 = .ok (.iload_n 2, 1) := by decide +kernel
theorem dX10_four_4 : decode cX10_four 4 = .ok (.ifCond .lt 34, 3) := by decide +kernel
theorem dX10_four_7 : decode cX10_four 7 = .ok (.aload_n 0, 1) := by decide +kernel
theorem dX10_four_8 : decode cX10_four 8 = .ok (.getfield 7, 3) := by decide +kernel
theorem dX10_four_11 : decode cX10_four 11 = .ok (.aload_n 0, 1) := by decide +kernel
theorem dX10_four_12 : decode cX10_four 12 = .ok (.getfield 13, 3) := by decide +kernel
theorem dX10_four_15 : decode cX10_four 15 = .ok (.iconst 0, 1) := by decide +kernel
theorem dX10_four_16 : decode cX10_four 16 = .ok (.iaload, 1) := by decide +kernel
theorem dX10_four_17 : decode cX10_four 17 = .ok (.iload_n 1, 1) := by decide +kernel
theorem dX10_four_18 : decode cX10_four 18 = .ok (.iload_n 2, 1) := by decide +kernel
theorem dX10_four_19 : decode cX10_four 19 = .ok (.ishr, 1) := by decide +kernel
theorem dX10_four_20 : decode cX10_four 20 = .ok (.i2b, 1) := by decide +kernel
theorem dX10_four_21 : decode cX10_four 21 = .ok (.bastore, 1) := by decide +kernel
theorem dX10_four_22 : decode cX10_four 22 = .ok (.aload_n 0, 1) := by decide +kernel
theorem dX10_four_23 : decode cX10_four 23 = .ok (.getfield 13, 3) := by decide +kernel
theorem dX10_four_26 : decode cX10_four 26 = .ok (.iconst 0, 1) := by decide +kernel
theorem dX10_four_27 : decode cX10_four 27 = .ok (.dup2, 1) := by decide +kernel
theorem dX10_four_28 : decode cX10_four 28 = .ok (.iaload, 1) := by decide +kernel
theorem dX10_four_29 : decode cX10_four 29 = .ok (.iconst 1, 1) := by decide +kernel
theorem dX10_four_30 : decode cX10_four 30 = .ok (.iadd, 1) := by decide +kernel
theorem dX10_four_31 : decode cX10_four 31 = .ok (.iastore, 1) := by decide +kernel
theorem dX10_four_32 : decode cX10_four 32 = .ok (.iinc 2 (-8), 3) := by decide +kernel
theorem dX10_four_35 : decode cX10_four 35 = .ok (.goto (-32), 3) := by decide +kernel
theorem dX10_four_38 : decode cX10_four 38 = .ok (.return_, 1) := by decide +kernel
def tX10_four (g : ax_G) : Nat → ax_O := ax_nd 19 (ax_nd 8 (ax_nd 3 (ax_nd 0 (ax_lf 0 (ao_ic (24) 2)) (ax_nd 2 (ax_lf 2 (ao_is 2 1)) (ax_lf 3 (ao_il 2 1)))) (ax_nd 4 (ax_lf 4 (ao_if_lt 38)) (ax_nd 7 (ax_lf 7 (ao_al 0 1)) (ax_lf 8 (ao_gr 10 1))))) (ax_nd 15 (ax_nd 11 (ax_lf 11 (ao_al 0 1)) (ax_nd 12 (ax_lf 12 (ao_gr 10 2)) (ax_lf 15 (ao_ic (0) 1)))) (ax_nd 17 (ax_nd 16 (ax_lf 16 ao_iald) (ax_lf 17 (ao_il 1 1))) (ax_nd 18 (ax_lf 18 (ao_il 2 1)) (ax_lf 19 ao_ishr))))) (ax_nd 27 (ax_nd 22 (ax_nd 20 (ax_lf 20 ao_i2b) (ax_nd 21 (ax_lf 21 ao_bast) (ax_lf 22 (ao_al 0 1)))) (ax_nd 23 (ax_lf 23 (ao_gr 10 2)) (ax_nd 26 (ax_lf 26 (ao_ic (0) 1)) (ax_lf 27 ao_dup2)))) (ax_nd 30 (ax_nd 28 (ax_lf 28 ao_iald) (ax_nd 29 (ax_lf 29 (ao_ic (1) 1)) (ax_lf 30 ao_iadd))) (ax_nd 32 (ax_nd 31 (ax_lf 31 ao_iast) (ax_lf 32 (ao_iinc 2 (-8)))) (ax_nd 35 (ax_lf 35 (ao_goto 3)) (ax_lf 38 (ao_vret 0 0))))))
theorem oX10_four (g : ax_G) : ∀ pc, ax_ok g cX10_four 3 none RX10 "four" 1 0 0 pc (tX10_four g pc) := ax_nd_ok (ax_nd_ok (ax_nd_ok (ax_nd_ok (ax_lf_ok (ak_bipush (by decide) dX10_four_0)) (ax_nd_ok (ax_lf_ok (ak_istore_n rfl (by decide) dX10_four_2)) (ax_lf_ok (ak_iload_n rfl dX10_four_3)))) (ax_nd_ok (ax_lf_ok (ak_if_lt (by decide) dX10_four_4)) (ax_nd_ok (ax_lf_ok (ak_aload_n rfl dX10_four_7)) (ax_lf_ok (ak_gr fF_X10_7 dX10_four_8))))) (ax_nd_ok (ax_nd_ok (ax_lf_ok (ak_aload_n rfl dX10_four_11)) (ax_nd_ok (ax_lf_ok (ak_gr fF_X10_13 dX10_four_12)) (ax_lf_ok (ak_iconst (by decide) dX10_four_15)))) (ax_nd_ok (ax_nd_ok (ax_lf_ok (ak_iald dX10_four_16)) (ax_lf_ok (ak_iload_n rfl dX10_four_17))) (ax_nd_ok (ax_lf_ok (ak_iload_n rfl dX10_four_18)) (ax_lf_ok (ak_ishr dX10_four_19)))))) (ax_nd_ok (ax_nd_ok (ax_nd_ok (ax_lf_ok (ak_i2b dX10_four_20)) (ax_nd_ok (ax_lf_ok (ak_bast dX10_four_21)) (ax_lf_ok (ak_aload_n rfl dX10_four_22)))) (ax_nd_ok (ax_lf_ok (ak_gr fF_X10_13 dX10_four_23)) (ax_nd_ok (ax_lf_ok (ak_iconst (by decide) dX10_four_26)) (ax_lf_ok (ak_dup2 dX10_four_27))))) (ax_nd_ok (ax_nd_ok (ax_lf_ok (ak_iald dX10_four_28)) (ax_nd_ok (ax_lf_ok (ak_iconst (by decide) dX10_four_29)) (ax_lf_ok (ak_iadd dX10_four_30)))) (ax_nd_ok (ax_nd_ok (ax_lf_ok (ak_iast dX10_four_31)) (ax_lf_ok (ak_iinc (by decide) (by decide) dX10_four_32))) (ax_nd_ok (ax_lf_ok (ak_goto (by decide) dX10_four_35)) (ax_lf_ok (ak_vret rfl dX10_four_38))))))
abbrev mX10_four (g : ax_G) (as : List Value) (h : ax_H) (Ret : Option Value → ax_H → Prop) : Prop := ax_M g 1 0 0 yX10_four cX10_four 3 none as h Ret
theorem dX10_end_0 : decode cX10_end 0 = .ok (.aload_n 0, 1) := by decide +kernel
theorem dX10_end_1 : decode cX10_end 1 = .ok (.iconst 0, 1) := by decide +kernel
theorem dX10_end_2 : decode cX10_end 2 = .ok (.putfield 88, 3) := by decide +kernel
theorem dX10_end_5 : decode cX10_end 5 = .ok (.iload_n 1, 1) := by decide +kernel
theorem dX10_end_6 : decode cX10_end 6 = .ok (.iconst 0, 1) := by decide +kernel
theorem dX10_end_7 : decode cX10_end 7 = .ok (.aload_n 0, 1) := by decide +kernel
theorem dX10_end_8 : decode cX10_end 8 = .ok (.getfield 13, 3) := by decide +kernel
theorem dX10_end_11 : decode cX10_end 11 = .ok (.iconst 0, 1) := by decide +kernel
theorem dX10_end_12 : decode cX10_end 12 = .ok (.iaload, 1) := by decide +kernel
theorem dX10_end_13 : decode cX10_end 13 = .ok (.invokestatic 96, 3) := by decide +kernel
theorem dX10_end_16 : decode cX10_end 16 = .ok (.ifCond .ne 5, 3) := by decide +kernel
theorem dX10_end_19 : decode cX10_end 19 = .ok (.iconst (-1), 1) := by decide +kernel
theorem dX10_end_20 : decode cX10_end 20 = .ok (.ireturn, 1) := by decide +kernel
theorem dX10_end_21 : decode cX10_end 21 = .ok (.aload_n 0, 1) := by decide +kernel
theorem dX10_end_22 : decode cX10_end 22 = .ok (.getfield 13, 3) := by decide +kernel
theorem dX10_end_25 : decode cX10_end 25 = .ok (.iconst 0, 1) := by decide +kernel
theorem dX10_end_26 : decode cX10_end 26 = .ok (.iload_n 1, 1) := by decide +kernel
theorem dX10_end_27 : decode cX10_end 27 = .ok (.iastore, 1) := by decide +kernel
theorem dX10_end_28 : decode cX10_end 28 = .ok (.iload_n 1, 1) := by decide +kernel
theorem dX10_end_29 : decode cX10_end 29 = .ok (.ireturn, 1) := by decide +kernel
def tX10_end (g : ax_G) : Nat → ax_O := ax_nd 13 (ax_nd 6 (ax_nd 1 (ax_nd 0 (ax_lf 0 (ao_al 0 1)) (ax_lf 1 (ao_ic (0) 1))) (ax_nd 2 (ax_lf 2 (ao_pi 10 0)) (ax_nd 5 (ax_lf 5 (ao_il 1 1)) (ax_lf 6 (ao_ic (0) 1))))) (ax_nd 8 (ax_nd 7 (ax_lf 7 (ao_al 0 1)) (ax_lf 8 (ao_gr 10 2))) (ax_nd 11 (ax_lf 11 (ao_ic (0) 1)) (ax_nd 12 (ax_lf 12 ao_iald) (ax_lf 13 (ao_inv g 1 99 1 yX10_in cX10_in 3 (some .boolean) 3 0 0 0 0)))))) (ax_nd 22 (ax_nd 19 (ax_nd 16 (ax_lf 16 (ao_if_ne 21)) (ax_lf 19 (ao_ic (-1) 1))) (ax_nd 20 (ax_lf 20 (ao_iret 0 0)) (ax_nd 21 (ax_lf 21 (ao_al 0 1)) (ax_lf 22 (ao_gr 10 2))))) (ax_nd 26 (ax_nd 25 (ax_lf 25 (ao_ic (0) 1)) (ax_lf 26 (ao_il 1 1))) (ax_nd 27 (ax_lf 27 ao_iast) (ax_nd 28 (ax_lf 28 (ao_il 1 1)) (ax_lf 29 (ao_iret 0 0))))))
theorem oX10_end (g : ax_G) : ∀ pc, ax_ok g cX10_end 2 (some .int) RX10 "end" 2 0 0 pc (tX10_end g pc) := ax_nd_ok (ax_nd_ok (ax_nd_ok (ax_nd_ok (ax_lf_ok (ak_aload_n rfl dX10_end_0)) (ax_lf_ok (ak_iconst (by decide) dX10_end_1))) (ax_nd_ok (ax_lf_ok (ak_pi fF_X10_88 fW_X10_88_a dX10_end_2)) (ax_nd_ok (ax_lf_ok (ak_iload_n rfl dX10_end_5)) (ax_lf_ok (ak_iconst (by decide) dX10_end_6))))) (ax_nd_ok (ax_nd_ok (ax_lf_ok (ak_aload_n rfl dX10_end_7)) (ax_lf_ok (ak_gr fF_X10_13 dX10_end_8))) (ax_nd_ok (ax_lf_ok (ak_iconst (by decide) dX10_end_11)) (ax_nd_ok (ax_lf_ok (ak_iald dX10_end_12)) (ax_lf_ok (ak_invS (by decide) (by decide) wd_1244 wd_1245 wd_106 wd_1246 ⟨by decide, by decide, by decide +kernel⟩ dX10_end_13)))))) (ax_nd_ok (ax_nd_ok (ax_nd_ok (ax_lf_ok (ak_if_ne (by decide) dX10_end_16)) (ax_lf_ok (ak_iconst (by decide) dX10_end_19))) (ax_nd_ok (ax_lf_ok (ak_iret rfl dX10_end_20)) (ax_nd_ok (ax_lf_ok (ak_aload_n rfl dX10_end_21)) (ax_lf_ok (ak_gr fF_X10_13 dX10_end_22))))) (ax_nd_ok (ax_nd_ok (ax_lf_ok (ak_iconst (by decide) dX10_end_25)) (ax_lf_ok (ak_iload_n rfl dX10_end_26))) (ax_nd_ok (ax_lf_ok (ak_iast dX10_end_27)) (ax_nd_ok (ax_lf_ok (ak_iload_n rfl dX10_end_28)) (ax_lf_ok (ak_iret rfl dX10_end_29))))))
abbrev mX10_end (g : ax_G) (as : List Value) (h : ax_H) (Ret : Option Value → ax_H → Prop) : Prop := ax_M g 2 0 0 yX10_end cX10_end 2 (some .int) as h Ret
theorem dX10_see_0 : decode cX10_see 0 = .ok (.aload_n 0, 1) := by decide +kernel
theorem dX10_see_1 : decode cX10_see 1 = .ok (.getfield 104, 3) := by decide +kernel
theorem dX10_see_4 : decode cX10_see 4 = .ok (.aload_n 0, 1) := by decide +kernel
theorem dX10_see_5 : decode cX10_see 5 = .ok (.getfield 107, 3) := by decide +kernel
theorem dX10_see_8 : decode cX10_see 8 = .ok (.if_icmp .ge 19, 3) := by decide +kernel
theorem dX10_see_11 : decode cX10_see 11 = .ok (.aload_n 0, 1) := by decide +kernel
theorem dX10_see_12 : decode cX10_see 12 = .ok (.getfield 7, 3) := by decide +kernel
theorem dX10_see_15 : decode cX10_see 15 = .ok (.aload_n 0, 1) := by decide +kernel
theorem dX10_see_16 : decode cX10_see 16 = .ok (.getfield 104, 3) := by decide +kernel
theorem dX10_see_19 : decode cX10_see 19 = .ok (.baload, 1) := by decide +kernel
theorem dX10_see_20 : decode cX10_see 20 = .ok (.sipush 255, 3) := by decide +kernel
theorem dX10_see_23 : decode cX10_see 23 = .ok (.iand, 1) := by decide +kernel
theorem dX10_see_24 : decode cX10_see 24 = .ok (.goto 4, 3) := by decide +kernel
theorem dX10_see_27 : decode cX10_see 27 = .ok (.iconst (-1), 1) := by decide +kernel
theorem dX10_see_28 : decode cX10_see 28 = .ok (.ireturn, 1) := by decide +kernel
def tX10_see (g : ax_G) : Nat → ax_O := ax_nd 12 (ax_nd 4 (ax_nd 0 (ax_lf 0 (ao_al 0 1)) (ax_nd 1 (ax_lf 1 (ao_gi 10 11)) (ax_lf 4 (ao_al 0 1)))) (ax_nd 8 (ax_nd 5 (ax_lf 5 (ao_gi 10 12)) (ax_lf 8 (ao_icmp_ge 27))) (ax_nd 11 (ax_lf 11 (ao_al 0 1)) (ax_lf 12 (ao_gr 10 1))))) (ax_nd 20 (ax_nd 16 (ax_nd 15 (ax_lf 15 (ao_al 0 1)) (ax_lf 16 (ao_gi 10 11))) (ax_nd 19 (ax_lf 19 (ao_bald 12)) (ax_lf 20 (ao_ic (255) 3)))) (ax_nd 24 (ax_nd 23 (ax_lf 23 ao_iand) (ax_lf 24 (ao_goto 28))) (ax_nd 27 (ax_lf 27 (ao_ic (-1) 1)) (ax_lf 28 (ao_iret 0 0)))))
theorem oX10_see (g : ax_G) : ∀ pc, ax_ok g cX10_see 1 (some .int) RX10 "see" 1 0 0 pc (tX10_see g pc) := ax_nd_ok (ax_nd_ok (ax_nd_ok (ax_lf_ok (ak_aload_n rfl dX10_see_0)) (ax_nd_ok (ax_lf_ok (ak_gi fF_X10_104 dX10_see_1)) (ax_lf_ok (ak_aload_n rfl dX10_see_4)))) (ax_nd_ok (ax_nd_ok (ax_lf_ok (ak_gi fF_X10_107 dX10_see_5)) (ax_lf_ok (ak_icmp_ge (by decide) dX10_see_8))) (ax_nd_ok (ax_lf_ok (ak_aload_n rfl dX10_see_11)) (ax_lf_ok (ak_gr fF_X10_7 dX10_see_12))))) (ax_nd_ok (ax_nd_ok (ax_nd_ok (ax_lf_ok (ak_aload_n rfl dX10_see_15)) (ax_lf_ok (ak_gi fF_X10_104 dX10_see_16))) (ax_nd_ok (ax_lf_ok (ak_bald dX10_see_19)) (ax_lf_ok (ak_sipush (by decide) dX10_see_20)))) (ax_nd_ok (ax_nd_ok (ax_lf_ok (ak_iand dX10_see_23)) (ax_lf_ok (ak_goto (by decide) dX10_see_24))) (ax_nd_ok (ax_lf_ok (ak_iconst (by decide) dX10_see_27)) (ax_lf_ok (ak_iret rfl dX10_see_28)))))
abbrev mX10_see (g : ax_G) (as : List Value) (h : ax_H) (Ret : Option Value → ax_H → Prop) : Prop := ax_M g 1 0 0 yX10_see cX10_see 1 (some .int) as h Ret
theorem dX10_token_0 : decode cX10_token 0 = .ok (.aload_n 0, 1) := by decide +kernel
theorem dX10_token_1 : decode cX10_token 1 = .ok (.invokevirtual 110, 3) := by decide +kernel
theorem dX10_token_4 : decode cX10_token 4 = .ok (.bipush 10, 2) := by decide +kernel
theorem dX10_token_6 : decode cX10_token 6 = .ok (.if_icmp .eq 12, 3) := by decide +kernel
theorem dX10_token_9 : decode cX10_token 9 = .ok (.aload_n 0, 1) := by decide +kernel
theorem dX10_token_10 : decode cX10_token 10 = .ok (.invokevirtual 110, 3) := by decide +kernel
theorem dX10_token_13 : decode cX10_token 13 = .ok (.bipush 32, 2) := by decide +kernel
theorem dX10_token_15 : decode cX10_token 15 = .ok (.if_icmp .ne 16, 3) := by decide +kernel
theorem dX10_token_18 : decode cX10_token 18 = .ok (.aload_n 0, 1) := by decide +kernel
theorem dX10_token_19 : decode cX10_token 19 = .ok (.dup, 1) := by decide +kernel
theorem dX10_token_20 : decode cX10_token 20 = .ok (.getfield 104, 3) := by decide +kernel
theorem dX10_token_23 : decode cX10_token 23 = .ok (.iconst 1, 1) := by decide +kernel
theorem dX10_token_24 : decode cX10_token 24 = .ok (.iadd, 1) := by decide +kernel
theorem dX10_token_25 : decode cX10_token 25 = .ok (.putfield 104, 3) := by decide +kernel
theorem dX10_token_28 : decode cX10_token 28 = .ok (.goto (-28), 3) := by decide +kernel
theorem dX10_token_31 : decode cX10_token 31 = .ok (.aload_n 0, 1) := by decide +kernel
theorem dX10_token_32 : decode cX10_token 32 = .ok (.aload_n 0, 1) := by decide +kernel
theorem dX10_token_33 : decode cX10_token 33 = .ok (.getfield 104, 3) := by decide +kernel
theorem dX10_token_36 : decode cX10_token 36 = .ok (.putfield 114, 3) := by decide +kernel
theorem dX10_token_39 : decode cX10_token 39 = .ok (.aload_n 0, 1) := by decide +kernel
theorem dX10_token_40 : decode cX10_token 40 = .ok (.invokevirtual 110, 3) := by decide +kernel
theorem dX10_token_43 : decode cX10_token 43 = .ok (.istore_n 1, 1) := by decide +kernel
theorem dX10_token_44 : decode cX10_token 44 = .ok (.aload_n 0, 1) := by decide +kernel
theorem dX10_token_45 : decode cX10_token 45 = .ok (.lconst 0, 1) := by decide +kernel
theorem dX10_token_46 : decode cX10_token 46 = .ok (.putfield 117, 3) := by decide +kernel
theorem dX10_token_49 : decode cX10_token 49 = .ok (.iconst 0, 1) := by decide +kernel
theorem dX10_token_50 : decode cX10_token 50 = .ok (.istore_n 2, 1) := by decide +kernel
theorem dX10_token_51 : decode cX10_token 51 = .ok (.iload_n 1, 1) := by decide +kernel
theorem dX10_token_52 : decode cX10_token 52 = .ok (.ifCond .ge 11, 3) := by decide +kernel
theorem dX10_token_55 : decode cX10_token 55 = .ok (.aload_n 0, 1) := by decide +kernel
theorem dX10_token_56 : decode cX10_token 56 = .ok (.iconst 0, 1) := by decide +kernel
theorem dX10_token_57 : decode cX10_token 57 = .ok (.putfield 121, 3) := by decide +kernel
theorem dX10_token_60 : decode cX10_token 60 = .ok (.goto 206, 3) := by decide +kernel
theorem dX10_token_63 : decode cX10_token 63 = .ok (.iload_n 1, 1) := by decide +kernel
theorem dX10_token_64 : decode cX10_token 64 = .ok (.bipush 97, 2) := by decide +kernel
theorem dX10_token_66 : decode cX10_token 66 = .ok (.bipush 122, 2) := by decide +kernel
theorem dX10_token_68 : decode cX10_token 68 = .ok (.invokestatic 96, 3) := by decide +kernel
theorem dX10_token_71 : decode cX10_token 71 = .ok (.ifCond .eq 76, 3) := by decide +kernel
theorem dX10_token_74 : decode cX10_token 74 = .ok (.aload_n 0, 1) := by decide +kernel
theorem dX10_token_75 : decode cX10_token 75 = .ok (.invokevirtual 110, 3) := by decide +kernel
theorem dX10_token_78 : decode cX10_token 78 = .ok (.bipush 97, 2) := by decide +kernel
theorem dX10_token_80 : decode cX10_token 80 = .ok (.bipush 122, 2) := by decide +kernel
theorem dX10_token_82 : decode cX10_token 82 = .ok (.invokestatic 96, 3) := by decide +kernel
theorem dX10_token_85 : decode cX10_token 85 = .ok (.ifCond .eq 36, 3) := by decide +kernel
theorem dX10_token_88 : decode cX10_token 88 = .ok (.aload_n 0, 1) := by decide +kernel
theorem dX10_token_89 : decode cX10_token 89 = .ok (.aload_n 0, 1) := by decide +kernel
theorem dX10_token_90 : decode cX10_token 90 = .ok (.getfield 117, 3) := by decide +kernel
theorem dX10_token_93 : decode cX10_token 93 = .ok (.bipush 8, 2) := by decide +kernel
theorem dX10_token_95 : decode cX10_token 95 = .ok (.lshl, 1) := by decide +kernel
theorem dX10_token_96 : decode cX10_token 96 = .ok (.aload_n 0, 1) := by decide +kernel
theorem dX10_token_97 : decode cX10_token 97 = .ok (.invokevirtual 110, 3) := by decide +kernel
theorem dX10_token_100 : decode cX10_token 100 = .ok (.i2l, 1) := by decide +kernel
theorem dX10_token_101 : decode cX10_token 101 = .ok (.lor, 1) := by decide +kernel
theorem dX10_token_102 : decode cX10_token 102 = .ok (.putfield 117, 3) := by decide +kernel
theorem dX10_token_105 : decode cX10_token 105 = .ok (.aload_n 0, 1) := by decide +kernel
theorem dX10_token_106 : decode cX10_token 106 = .ok (.dup, 1) := by decide +kernel
theorem dX10_token_107 : decode cX10_token 107 = .ok (.getfield 104, 3) := by decide +kernel
theorem dX10_token_110 : decode cX10_token 110 = .ok (.iconst 1, 1) := by decide +kernel
theorem dX10_token_111 : decode cX10_token 111 = .ok (.iadd, 1) := by decide +kernel
theorem dX10_token_112 : decode cX10_token 112 = .ok (.putfield 104, 3) := by decide +kernel
theorem dX10_token_115 : decode cX10_token 115 = .ok (.iinc 2 1, 3) := by decide +kernel
theorem dX10_token_118 : decode cX10_token 118 = .ok (.goto (-44), 3) := by decide +kernel
theorem dX10_token_121 : decode cX10_token 121 = .ok (.aload_n 0, 1) := by decide +kernel
theorem dX10_token_122 : decode cX10_token 122 = .ok (.iload_n 2, 1) := by decide +kernel
theorem dX10_token_123 : decode cX10_token 123 = .ok (.bipush 8, 2) := by decide +kernel
theorem dX10_token_125 : decode cX10_token 125 = .ok (.if_icmp .le 7, 3) := by decide +kernel
theorem dX10_token_128 : decode cX10_token 128 = .ok (.lconst 0, 1) := by decide +kernel
theorem dX10_token_129 : decode cX10_token 129 = .ok (.goto 7, 3) := by decide +kernel
theorem dX10_token_132 : decode cX10_token 132 = .ok (.aload_n 0, 1) := by decide +kernel
theorem dX10_token_133 : decode cX10_token 133 = .ok (.getfield 117, 3) := by decide +kernel
theorem dX10_token_136 : decode cX10_token 136 = .ok (.putfield 117, 3) := by decide +kernel
theorem dX10_token_139 : decode cX10_token 139 = .ok (.aload_n 0, 1) := by decide +kernel
theorem dX10_token_140 : decode cX10_token 140 = .ok (.iconst 2, 1) := by decide +kernel
theorem dX10_token_141 : decode cX10_token 141 = .ok (.putfield 121, 3) := by decide +kernel
theorem dX10_token_144 : decode cX10_token 144 = .ok (.goto 122, 3) := by decide +kernel
theorem dX10_token_147 : decode cX10_token 147 = .ok (.iload_n 1, 1) := by decide +kernel
theorem dX10_token_148 : decode cX10_token 148 = .ok (.bipush 48, 2) := by decide +kernel
theorem dX10_token_150 : decode cX10_token 150 = .ok (.bipush 57, 2) := by decide +kernel
theorem dX10_token_152 : decode cX10_token 152 = .ok (.invokestatic 96, 3) := by decide +kernel
theorem dX10_token_155 : decode cX10_token 155 = .ok (.ifCond .eq 86, 3) := by decide +kernel
theorem dX10_token_158 : decode cX10_token 158 = .ok (.aload_n 0, 1) := by decide +kernel
theorem dX10_token_159 : decode cX10_token 159 = .ok (.iconst 0, 1) := by decide +kernel
theorem dX10_token_160 : decode cX10_token 160 = .ok (.putfield 124, 3) := by decide +kernel
theorem dX10_token_163 : decode cX10_token 163 = .ok (.aload_n 0, 1) := by decide +kernel
theorem dX10_token_164 : decode cX10_token 164 = .ok (.invokevirtual 110, 3) := by decide +kernel
theorem dX10_token_167 : decode cX10_token 167 = .ok (.bipush 48, 2) := by decide +kernel
theorem dX10_token_169 : decode cX10_token 169 = .ok (.bipush 57, 2) := by decide +kernel
theorem dX10_token_171 : decode cX10_token 171 = .ok (.invokestatic 96, 3) := by decide +kernel
theorem dX10_token_174 : decode cX10_token 174 = .ok (.ifCond .eq 50, 3) := by decide +kernel
theorem dX10_token_177 : decode cX10_token 177 = .ok (.aload_n 0, 1) := by decide +kernel
theorem dX10_token_178 : decode cX10_token 178 = .ok (.iload_n 2, 1) := by decide +kernel
theorem dX10_token_179 : decode cX10_token 179 = .ok (.iconst 3, 1) := by decide +kernel
theorem dX10_token_180 : decode cX10_token 180 = .ok (.if_icmp .ge 21, 3) := by decide +kernel
theorem dX10_token_183 : decode cX10_token 183 = .ok (.bipush 10, 2) := by decide +kernel
theorem dX10_token_185 : decode cX10_token 185 = .ok (.aload_n 0, 1) := by decide +kernel
theorem dX10_token_186 : decode cX10_token 186 = .ok (.getfield 124, 3) := by decide +kernel
theorem dX10_token_189 : decode cX10_token 189 = .ok (.imul, 1) := by decide +kernel
theorem dX10_token_190 : decode cX10_token 190 = .ok (.aload_n 0, 1) := by decide +kernel
theorem dX10_token_191 : decode cX10_token 191 = .ok (.invokevirtual 110, 3) := by decide +kernel
theorem dX10_token_194 : decode cX10_token 194 = .ok (.iadd, 1) := by decide +kernel
theorem dX10_token_195 : decode cX10_token 195 = .ok (.bipush 48, 2) := by decide +kernel
theorem dX10_token_197 : decode cX10_token 197 = .ok (.isub, 1) := by decide +kernel
theorem dX10_token_198 : decode cX10_token 198 = .ok (.goto 7, 3) := by decide +kernel
theorem dX10_token_201 : decode cX10_token 201 = .ok (.aload_n 0, 1) := by decide +kernel
theorem dX10_token_202 : decode cX10_token 202 = .ok (.getfield 124, 3) := by decide +kernel
theorem dX10_token_205 : decode cX10_token 205 = .ok (.putfield 124, 3) := by decide +kernel
theorem dX10_token_208 : decode cX10_token 208 = .ok (.aload_n 0, 1) := by decide +kernel
theorem dX10_token_209 : decode cX10_token 209 = .ok (.dup, 1) := by decide +kernel
theorem dX10_token_210 : decode cX10_token 210 = .ok (.getfield 104, 3) := by decide +kernel
theorem dX10_token_213 : decode cX10_token 213 = .ok (.iconst 1, 1) := by decide +kernel
theorem dX10_token_214 : decode cX10_token 214 = .ok (.iadd, 1) := by decide +kernel
theorem dX10_token_215 : decode cX10_token 215 = .ok (.putfield 104, 3) := by decide +kernel
theorem dX10_token_218 : decode cX10_token 218 = .ok (.iinc 2 1, 3) := by decide +kernel
theorem dX10_token_221 : decode cX10_token 221 = .ok (.goto (-58), 3) := by decide +kernel
theorem dX10_token_224 : decode cX10_token 224 = .ok (.aload_n 0, 1) := by decide +kernel
theorem dX10_token_225 : decode cX10_token 225 = .ok (.iload_n 2, 1) := by decide +kernel
theorem dX10_token_226 : decode cX10_token 226 = .ok (.iconst 3, 1) := by decide +kernel
theorem dX10_token_227 : decode cX10_token 227 = .ok (.if_icmp .le 7, 3) := by decide +kernel
theorem dX10_token_230 : decode cX10_token 230 = .ok (.iconst 1, 1) := by decide +kernel
theorem dX10_token_231 : decode cX10_token 231 = .ok (.goto 4, 3) := by decide +kernel
theorem dX10_token_234 : decode cX10_token 234 = .ok (.iconst 3, 1) := by decide +kernel
theorem dX10_token_235 : decode cX10_token 235 = .ok (.putfield 121, 3) := by decide +kernel
theorem dX10_token_238 : decode cX10_token 238 = .ok (.goto 28, 3) := by decide +kernel
theorem dX10_token_241 : decode cX10_token 241 = .ok (.aload_n 0, 1) := by decide +kernel
theorem dX10_token_242 : decode cX10_token 242 = .ok (.dup, 1) := by decide +kernel
theorem dX10_token_243 : decode cX10_token 243 = .ok (.getfield 104, 3) := by decide +kernel
theorem dX10_token_246 : decode cX10_token 246 = .ok (.iconst 1, 1) := by decide +kernel
theorem dX10_token_247 : decode cX10_token 247 = .ok (.iadd, 1) := by decide +kernel
theorem dX10_token_248 : decode cX10_token 248 = .ok (.putfield 104, 3) := by decide +kernel
theorem dX10_token_251 : decode cX10_token 251 = .ok (.aload_n 0, 1) := by decide +kernel
theorem dX10_token_252 : decode cX10_token 252 = .ok (.iload_n 1, 1) := by decide +kernel
theorem dX10_token_253 : decode cX10_token 253 = .ok (.bipush 59, 2) := by decide +kernel
theorem dX10_token_255 : decode cX10_token 255 = .ok (.if_icmp .ne 7, 3) := by decide +kernel
theorem dX10_token_258 : decode cX10_token 258 = .ok (.iconst 4, 1) := by decide +kernel
theorem dX10_token_259 : decode cX10_token 259 = .ok (.goto 4, 3) := by decide +kernel
theorem dX10_token_262 : decode cX10_token 262 = .ok (.iconst 1, 1) := by decide +kernel
theorem dX10_token_263 : decode cX10_token 263 = .ok (.putfield 121, 3) := by decide +kernel
theorem dX10_token_266 : decode cX10_token 266 = .ok (.return_, 1) := by decide +kernel
def tX10_token (g : ax_G) : Nat → ax_O := ax_nd 132 (ax_nd 63 (ax_nd 32 (ax_nd 15 (ax_nd 6 (ax_nd 1 (ax_nd 0 (ax_lf 0 (ao_al 0 1)) (ax_lf 1 (ao_inv g 1 10 1 yX10_see cX10_see 1 (some .int) 1 0 0 0 0))) (ax_nd 4 (ax_lf 4 (ao_ic (10) 2)) (ax_lf 6 (ao_icmp_eq 18)))) (ax_nd 10 (ax_nd 9 (ax_lf 9 (ao_al 0 1)) (ax_lf 10 (ao_inv g 1 10 1 yX10_see cX10_see 1 (some .int) 1 0 0 0 0))) (ax_nd 13 (ax_lf 13 (ao_ic (32) 2)) (ax_lf 15 (ao_icmp_ne 31))))) (ax_nd 23 (ax_nd 19 (ax_nd 18 (ax_lf 18 (ao_al 0 1)) (ax_lf 19 ao_dup)) (ax_nd 20 (ax_lf 20 (ao_gi 10 11)) (ax_lf 23 (ao_ic (1) 1)))) (ax_nd 25 (ax_nd 24 (ax_lf 24 ao_iadd) (ax_lf 25 (ao_pi 10 11))) (ax_nd 28 (ax_lf 28 (ao_goto 0)) (ax_nd 31 (ax_lf 31 (ao_al 0 1)) (ax_lf 32 (ao_al 0 1))))))) (ax_nd 46 (ax_nd 40 (ax_nd 36 (ax_nd 33 (ax_lf 33 (ao_gi 10 11)) (ax_lf 36 (ao_pi 10 13))) (ax_nd 39 (ax_lf 39 (ao_al 0 1)) (ax_lf 40 (ao_inv g 1 10 1 yX10_see cX10_see 1 (some .int) 1 0 0 0 0)))) (ax_nd 44 (ax_nd 43 (ax_lf 43 (ao_is 1 1)) (ax_lf 44 (ao_al 0 1))) (ax_nd 45 (ax_lf 45 (ao_lc (0) 1)) (ax_lf 46 (ao_pl 10 16))))) (ax_nd 52 (ax_nd 50 (ax_nd 49 (ax_lf 49 (ao_ic (0) 1)) (ax_lf 50 (ao_is 2 1))) (ax_nd 51 (ax_lf 51 (ao_il 1 1)) (ax_lf 52 (ao_if_ge 63)))) (ax_nd 56 (ax_nd 55 (ax_lf 55 (ao_al 0 1)) (ax_lf 56 (ao_ic (0) 1))) (ax_nd 57 (ax_lf 57 (ao_pi 10 14)) (ax_nd 60 (ax_lf 60 (ao_goto 266)) (ax_lf 63 (ao_il 1 1)))))))) (ax_nd 97 (ax_nd 80 (ax_nd 71 (ax_nd 66 (ax_nd 64 (ax_lf 64 (ao_ic (97) 2)) (ax_lf 66 (ao_ic (122) 2))) (ax_nd 68 (ax_lf 68 (ao_inv g 1 99 1 yX10_in cX10_in 3 (some .boolean) 3 0 0 0 0)) (ax_lf 71 (ao_if_eq 147)))) (ax_nd 75 (ax_nd 74 (ax_lf 74 (ao_al 0 1)) (ax_lf 75 (ao_inv g 1 10 1 yX10_see cX10_see 1 (some .int) 1 0 0 0 0))) (ax_nd 78 (ax_lf 78 (ao_ic (97) 2)) (ax_lf 80 (ao_ic (122) 2))))) (ax_nd 89 (ax_nd 85 (ax_nd 82 (ax_lf 82 (ao_inv g 1 99 1 yX10_in cX10_in 3 (some .boolean) 3 0 0 0 0)) (ax_lf 85 (ao_if_eq 121))) (ax_nd 88 (ax_lf 88 (ao_al 0 1)) (ax_lf 89 (ao_al 0 1)))) (ax_nd 93 (ax_nd 90 (ax_lf 90 (ao_gl 10 16)) (ax_lf 93 (ao_ic (8) 2))) (ax_nd 95 (ax_lf 95 ao_lshl) (ax_nd 96 (ax_lf 96 (ao_al 0 1)) (ax_lf 97 (ao_inv g 1 10 1 yX10_see cX10_see 1 (some .int) 1 0 0 0 0))))))) (ax_nd 112 (ax_nd 105 (ax_nd 101 (ax_nd 100 (ax_lf 100 ao_i2l) (ax_lf 101 ao_lor)) (ax_nd 102 (ax_lf 102 (ao_pl 10 16)) (ax_lf 105 (ao_al 0 1)))) (ax_nd 107 (ax_nd 106 (ax_lf 106 ao_dup) (ax_lf 107 (ao_gi 10 11))) (ax_nd 110 (ax_lf 110 (ao_ic (1) 1)) (ax_nd 111 (ax_lf 111 ao_iadd) (ax_lf 112 (ao_pi 10 11)))))) (ax_nd 122 (ax_nd 118 (ax_nd 115 (ax_lf 115 (ao_iinc 2 (1))) (ax_lf 118 (ao_goto 74))) (ax_nd 121 (ax_lf 121 (ao_al 0 1)) (ax_lf 122 (ao_il 2 1)))) (ax_nd 125 (ax_nd 123 (ax_lf 123 (ao_ic (8) 2)) (ax_lf 125 (ao_icmp_le 132))) (ax_nd 128 (ax_lf 128 (ao_lc (0) 1)) (ax_nd 129 (ax_lf 129 (ao_goto 136)) (ax_lf 132 (ao_al 0 1))))))))) (ax_nd 198 (ax_nd 167 (ax_nd 148 (ax_nd 140 (ax_nd 136 (ax_nd 133 (ax_lf 133 (ao_gl 10 16)) (ax_lf 136 (ao_pl 10 16))) (ax_nd 139 (ax_lf 139 (ao_al 0 1)) (ax_lf 140 (ao_ic (2) 1)))) (ax_nd 144 (ax_nd 141 (ax_lf 141 (ao_pi 10 14)) (ax_lf 144 (ao_goto 266))) (ax_nd 147 (ax_lf 147 (ao_il 1 1)) (ax_lf 148 (ao_ic (48) 2))))) (ax_nd 158 (ax_nd 152 (ax_nd 150 (ax_lf 150 (ao_ic (57) 2)) (ax_lf 152 (ao_inv g 1 99 1 yX10_in cX10_in 3 (some .boolean) 3 0 0 0 0))) (ax_nd 155 (ax_lf 155 (ao_if_eq 241)) (ax_lf 158 (ao_al 0 1)))) (ax_nd 160 (ax_nd 159 (ax_lf 159 (ao_ic (0) 1)) (ax_lf 160 (ao_pi 10 15))) (ax_nd 163 (ax_lf 163 (ao_al 0 1)) (ax_nd 164 (ax_lf 164 (ao_inv g 1 10 1 yX10_see cX10_see 1 (some .int) 1 0 0 0 0)) (ax_lf 167 (ao_ic (48) 2))))))) (ax_nd 183 (ax_nd 177 (ax_nd 171 (ax_nd 169 (ax_lf 169 (ao_ic (57) 2)) (ax_lf 171 (ao_inv g 1 99 1 yX10_in cX10_in 3 (some .boolean) 3 0 0 0 0))) (ax_nd 174 (ax_lf 174 (ao_if_eq 224)) (ax_lf 177 (ao_al 0 1)))) (ax_nd 179 (ax_nd 178 (ax_lf 178 (ao_il 2 1)) (ax_lf 179 (ao_ic (3) 1))) (ax_nd 180 (ax_lf 180 (ao_icmp_ge 201)) (ax_lf 183 (ao_ic (10) 2))))) (ax_nd 190 (ax_nd 186 (ax_nd 185 (ax_lf 185 (ao_al 0 1)) (ax_lf 186 (ao_gi 10 15))) (ax_nd 189 (ax_lf 189 ao_imul) (ax_lf 190 (ao_al 0 1)))) (ax_nd 194 (ax_nd 191 (ax_lf 191 (ao_inv g 1 10 1 yX10_see cX10_see 1 (some .int) 1 0 0 0 0)) (ax_lf 194 ao_iadd)) (ax_nd 195 (ax_lf 195 (ao_ic (48) 2)) (ax_nd 197 (ax_lf 197 ao_isub) (ax_lf 198 (ao_goto 205)))))))) (ax_nd 231 (ax_nd 214 (ax_nd 208 (ax_nd 202 (ax_nd 201 (ax_lf 201 (ao_al 0 1)) (ax_lf 202 (ao_gi 10 15))) (ax_nd 205 (ax_lf 205 (ao_pi 10 15)) (ax_lf 208 (ao_al 0 1)))) (ax_nd 210 (ax_nd 209 (ax_lf 209 ao_dup) (ax_lf 210 (ao_gi 10 11))) (ax_nd 213 (ax_lf 213 (ao_ic (1) 1)) (ax_lf 214 ao_iadd)))) (ax_nd 224 (ax_nd 218 (ax_nd 215 (ax_lf 215 (ao_pi 10 11)) (ax_lf 218 (ao_iinc 2 (1)))) (ax_nd 221 (ax_lf 221 (ao_goto 163)) (ax_lf 224 (ao_al 0 1)))) (ax_nd 226 (ax_nd 225 (ax_lf 225 (ao_il 2 1)) (ax_lf 226 (ao_ic (3) 1))) (ax_nd 227 (ax_lf 227 (ao_icmp_le 234)) (ax_nd 230 (ax_lf 230 (ao_ic (1) 1)) (ax_lf 231 (ao_goto 235))))))) (ax_nd 248 (ax_nd 241 (ax_nd 235 (ax_nd 234 (ax_lf 234 (ao_ic (3) 1)) (ax_lf 235 (ao_pi 10 14))) (ax_nd 238 (ax_lf 238 (ao_goto 266)) (ax_lf 241 (ao_al 0 1)))) (ax_nd 243 (ax_nd 242 (ax_lf 242 ao_dup) (ax_lf 243 (ao_gi 10 11))) (ax_nd 246 (ax_lf 246 (ao_ic (1) 1)) (ax_nd 247 (ax_lf 247 ao_iadd) (ax_lf 248 (ao_pi 10 11)))))) (ax_nd 255 (ax_nd 252 (ax_nd 251 (ax_lf 251 (ao_al 0 1)) (ax_lf 252 (ao_il 1 1))) (ax_nd 253 (ax_lf 253 (ao_ic (59) 2)) (ax_lf 255 (ao_icmp_ne 262)))) (ax_nd 259 (ax_nd 258 (ax_lf 258 (ao_ic (4) 1)) (ax_lf 259 (ao_goto 263))) (ax_nd 262 (ax_lf 262 (ao_ic (1) 1)) (ax_nd 263 (ax_lf 263 (ao_pi 10 14)) (ax_lf 266 (ao_vret 0 0)))))))))
theorem oX10_token (g : ax_G) : ∀ pc, ax_ok g cX10_token 3 none RX10 "token" 2 0 0 pc (tX10_token g pc) := ax_nd_ok (ax_nd_ok (ax_nd_ok (ax_nd_ok (ax_nd_ok (ax_nd_ok (ax_nd_ok (ax_lf_ok (ak_aload_n rfl dX10_token_0)) (ax_lf_ok (ak_invV (by decide) (by decide) (by decide) rfl wd_1263 wd_1265 wd_27 wd_106 wd_1266 ⟨by decide, by decide, by decide +kernel⟩ dX10_token_1))) (ax_nd_ok (ax_lf_ok (ak_bipush (by decide) dX10_token_4)) (ax_lf_ok (ak_icmp_eq (by decide) dX10_token_6)))) (ax_nd_ok (ax_nd_ok (ax_lf_ok (ak_aload_n rfl dX10_token_9)) (ax_lf_ok (ak_invV (by decide) (by decide) (by decide) rfl wd_1263 wd_1265 wd_27 wd_106 wd_1266 ⟨by decide, by decide, by decide +kernel⟩ dX10_token_10))) (ax_nd_ok (ax_lf_ok (ak_bipush (by decide) dX10_token_13)) (ax_lf_ok (ak_icmp_ne (by decide) dX10_token_15))))) (ax_nd_ok (ax_nd_ok (ax_nd_ok (ax_lf_ok (ak_aload_n rfl dX10_token_18)) (ax_lf_ok (ak_dup dX10_token_19))) (ax_nd_ok (ax_lf_ok (ak_gi fF_X10_104 dX10_token_20)) (ax_lf_ok (ak_iconst (by decide) dX10_token_23)))) (ax_nd_ok (ax_nd_ok (ax_lf_ok (ak_iadd dX10_token_24)) (ax_lf_ok (ak_pi fF_X10_104 fW_X10_104_a dX10_token_25))) (ax_nd_ok (ax_lf_ok (ak_goto (by decide) dX10_token_28)) (ax_nd_ok (ax_lf_ok (ak_aload_n rfl dX10_token_31)) (ax_lf_ok (ak_aload_n rfl dX10_token_32))))))) (ax_nd_ok (ax_nd_ok (ax_nd_ok (ax_nd_ok (ax_lf_ok (ak_gi fF_X10_104 dX10_token_33)) (ax_lf_ok (ak_pi fF_X10_114 fW_X10_114_a dX10_token_36))) (ax_nd_ok (ax_lf_ok (ak_aload_n rfl dX10_token_39)) (ax_lf_ok (ak_invV (by decide) (by decide) (by decide) rfl wd_1263 wd_1265 wd_27 wd_106 wd_1266 ⟨by decide, by decide, by decide +kernel⟩ dX10_token_40)))) (ax_nd_ok (ax_nd_ok (ax_lf_ok (ak_istore_n rfl (by decide) dX10_token_43)) (ax_lf_ok (ak_aload_n rfl dX10_token_44))) (ax_nd_ok (ax_lf_ok (ak_lconst (by decide) dX10_token_45)) (ax_lf_ok (ak_pl fF_X10_117 fW_X10_117_a dX10_token_46))))) (ax_nd_ok (ax_nd_ok (ax_nd_ok (ax_lf_ok (ak_iconst (by decide) dX10_token_49)) (ax_lf_ok (ak_istore_n rfl (by decide) dX10_token_50))) (ax_nd_ok (ax_lf_ok (ak_iload_n rfl dX10_token_51)) (ax_lf_ok (ak_if_ge (by decide) dX10_token_52)))) (ax_nd_ok (ax_nd_ok (ax_lf_ok (ak_aload_n rfl dX10_token_55)) (ax_lf_ok (ak_iconst (by decide) dX10_token_56))) (ax_nd_ok (ax_lf_ok (ak_pi fF_X10_121 fW_X10_121_a dX10_token_57)) (ax_nd_ok (ax_lf_ok (ak_goto (by decide) dX10_token_60)) (ax_lf_ok (ak_iload_n rfl dX10_token_63)))))))) (ax_nd_ok (ax_nd_ok (ax_nd_ok (ax_nd_ok (ax_nd_ok (ax_lf_ok (ak_bipush (by decide) dX10_token_64)) (ax_lf_ok (ak_bipush (by decide) dX10_token_66))) (ax_nd_ok (ax_lf_ok (ak_invS (by decide) (by decide) wd_1244 wd_1245 wd_106 wd_1246 ⟨by decide, by decide, by decide +kernel⟩ dX10_token_68)) (ax_lf_ok (ak_if_eq (by decide) dX10_token_71)))) (ax_nd_ok (ax_nd_ok (ax_lf_ok (ak_aload_n rfl dX10_token_74)) (ax_lf_ok (ak_invV (by decide) (by decide) (by decide) rfl wd_1263 wd_1265 wd_27 wd_106 wd_1266 ⟨by decide, by decide, by decide +kernel⟩ dX10_token_75))) (ax_nd_ok (ax_lf_ok (ak_bipush (by decide) dX10_token_78)) (ax_lf_ok (ak_bipush (by decide) dX10_token_80))))) (ax_nd_ok (ax_nd_ok (ax_nd_ok (ax_lf_ok (ak_invS (by decide) (by decide) wd_1244 wd_1245 wd_106 wd_1246 ⟨by decide, by decide, by decide +kernel⟩ dX10_token_82)) (ax_lf_ok (ak_if_eq (by decide) dX10_token_85))) (ax_nd_ok (ax_lf_ok (ak_aload_n rfl dX10_token_88)) (ax_lf_ok (ak_aload_n rfl dX10_token_89)))) (ax_nd_ok (ax_nd_ok (ax_lf_ok (ak_gl fF_X10_117 dX10_token_90)) (ax_lf_ok (ak_bipush (by decide) dX10_token_93))) (ax_nd_ok (ax_lf_ok (ak_lshl dX10_token_95)) (ax_nd_ok (ax_lf_ok (ak_aload_n rfl dX10_token_96)) (ax_lf_ok (ak_invV (by decide) (by decide) (by decide) rfl wd_1263 wd_1265 wd_27 wd_106 wd_1266 ⟨by decide, by decide, by decide +kernel⟩ dX10_token_97))))))) (ax_nd_ok (ax_nd_ok (ax_nd_ok (ax_nd_ok (ax_lf_ok (ak_i2l dX10_token_100)) (ax_lf_ok (ak_lor dX10_token_101))) (ax_nd_ok (ax_lf_ok (ak_pl fF_X10_117 fW_X10_117_a dX10_token_102)) (ax_lf_ok (ak_aload_n rfl dX10_token_105)))) (ax_nd_ok (ax_nd_ok (ax_lf_ok (ak_dup dX10_token_106)) (ax_lf_ok (ak_gi fF_X10_104 dX10_token_107))) (ax_nd_ok (ax_lf_ok (ak_iconst (by decide) dX10_token_110)) (ax_nd_ok (ax_lf_ok (ak_iadd dX10_token_111)) (ax_lf_ok (ak_pi fF_X10_104 fW_X10_104_a dX10_token_112)))))) (ax_nd_ok (ax_nd_ok (ax_nd_ok (ax_lf_ok (ak_iinc (by decide) (by decide) dX10_token_115)) (ax_lf_ok (ak_goto (by decide) dX10_token_118))) (ax_nd_ok (ax_lf_ok (ak_aload_n rfl dX10_token_121)) (ax_lf_ok (ak_iload_n rfl dX10_token_122)))) (ax_nd_ok (ax_nd_ok (ax_lf_ok (ak_bipush (by decide) dX10_token_123)) (ax_lf_ok (ak_icmp_le (by decide) dX10_token_125))) (ax_nd_ok (ax_lf_ok (ak_lconst (by decide) dX10_token_128)) (ax_nd_ok (ax_lf_ok (ak_goto (by decide) dX10_token_129)) (ax_lf_ok (ak_aload_n rfl dX10_token_132))))))))) (ax_nd_ok (ax_nd_ok (ax_nd_ok (ax_nd_ok (ax_nd_ok (ax_nd_ok (ax_lf_ok (ak_gl fF_X10_117 dX10_token_133)) (ax_lf_ok (ak_pl fF_X10_117 fW_X10_117_a dX10_token_136))) (ax_nd_ok (ax_lf_ok (ak_aload_n rfl dX10_token_139)) (ax_lf_ok (ak_iconst (by decide) dX10_token_140)))) (ax_nd_ok (ax_nd_ok (ax_lf_ok (ak_pi fF_X10_121 fW_X10_121_a dX10_token_141)) (ax_lf_ok (ak_goto (by decide) dX10_token_144))) (ax_nd_ok (ax_lf_ok (ak_iload_n rfl dX10_token_147)) (ax_lf_ok (ak_bipush (by decide) dX10_token_148))))) (ax_nd_ok (ax_nd_ok (ax_nd_ok (ax_lf_ok (ak_bipush (by decide) dX10_token_150)) (ax_lf_ok (ak_invS (by decide) (by decide) wd_1244 wd_1245 wd_106 wd_1246 ⟨by decide, by decide, by decide +kernel⟩ dX10_token_152))) (ax_nd_ok (ax_lf_ok (ak_if_eq (by decide) dX10_token_155)) (ax_lf_ok (ak_aload_n rfl dX10_token_158)))) (ax_nd_ok (ax_nd_ok (ax_lf_ok (ak_iconst (by decide) dX10_token_159)) (ax_lf_ok (ak_pi fF_X10_124 fW_X10_124_a dX10_token_160))) (ax_nd_ok (ax_lf_ok (ak_aload_n rfl dX10_token_163)) (ax_nd_ok (ax_lf_ok (ak_invV (by decide) (by decide) (by decide) rfl wd_1263 wd_1265 wd_27 wd_106 wd_1266 ⟨by decide, by decide, by decide +kernel⟩ dX10_token_164)) (ax_lf_ok (ak_bipush (by decide) dX10_token_167))))))) (ax_nd_ok (ax_nd_ok (ax_nd_ok (ax_nd_ok (ax_lf_ok (ak_bipush (by decide) dX10_token_169)) (ax_lf_ok (ak_invS (by decide) (by decide) wd_1244 wd_1245 wd_106 wd_1246 ⟨by decide, by decide, by decide +kernel⟩ dX10_token_171))) (ax_nd_ok (ax_lf_ok (ak_if_eq (by decide) dX10_token_174)) (ax_lf_ok (ak_aload_n rfl dX10_token_177)))) (ax_nd_ok (ax_nd_ok (ax_lf_ok (ak_iload_n rfl dX10_token_178)) (ax_lf_ok (ak_iconst (by decide) dX10_token_179))) (ax_nd_ok (ax_lf_ok (ak_icmp_ge (by decide) dX10_token_180)) (ax_lf_ok (ak_bipush (by decide) dX10_token_183))))) (ax_nd_ok (ax_nd_ok (ax_nd_ok (ax_lf_ok (ak_aload_n rfl dX10_token_185)) (ax_lf_ok (ak_gi fF_X10_124 dX10_token_186))) (ax_nd_ok (ax_lf_ok (ak_imul dX10_token_189)) (ax_lf_ok (ak_aload_n rfl dX10_token_190)))) (ax_nd_ok (ax_nd_ok (ax_lf_ok (ak_invV (by decide) (by decide) (by decide) rfl wd_1263 wd_1265 wd_27 wd_106 wd_1266 ⟨by decide, by decide, by decide +kernel⟩ dX10_token_191)) (ax_lf_ok (ak_iadd dX10_token_194))) (ax_nd_ok (ax_lf_ok (ak_bipush (by decide) dX10_token_195)) (ax_nd_ok (ax_lf_ok (ak_isub dX10_token_197)) (ax_lf_ok (ak_goto (by decide) dX10_token_198)))))))) (ax_nd_ok (ax_nd_ok (ax_nd_ok (ax_nd_ok (ax_nd_ok (ax_lf_ok (ak_aload_n rfl dX10_token_201)) (ax_lf_ok (ak_gi fF_X10_124 dX10_token_202))) (ax_nd_ok (ax_lf_ok (ak_pi fF_X10_124 fW_X10_124_a dX10_token_205)) (ax_lf_ok (ak_aload_n rfl dX10_token_208)))) (ax_nd_ok (ax_nd_ok (ax_lf_ok (ak_dup dX10_token_209)) (ax_lf_ok (ak_gi fF_X10_104 dX10_token_210))) (ax_nd_ok (ax_lf_ok (ak_iconst (by decide) dX10_token_213)) (ax_lf_ok (ak_iadd dX10_token_214))))) (ax_nd_ok (ax_nd_ok (ax_nd_ok (ax_lf_ok (ak_pi fF_X10_104 fW_X10_104_a dX10_token_215)) (ax_lf_ok (ak_iinc (by decide) (by decide) dX10_token_218))) (ax_nd_ok (ax_lf_ok (ak_goto (by decide) dX10_token_221)) (ax_lf_ok (ak_aload_n rfl dX10_token_224)))) (ax_nd_ok (ax_nd_ok (ax_lf_ok (ak_iload_n rfl dX10_token_225)) (ax_lf_ok (ak_iconst (by decide) dX10_token_226))) (ax_nd_ok (ax_lf_ok (ak_icmp_le (by decide) dX10_token_227)) (ax_nd_ok (ax_lf_ok (ak_iconst (by decide) dX10_token_230)) (ax_lf_ok (ak_goto (by decide) dX10_token_231))))))) (ax_nd_ok (ax_nd_ok (ax_nd_ok (ax_nd_ok (ax_lf_ok (ak_iconst (by decide) dX10_token_234)) (ax_lf_ok (ak_pi fF_X10_121 fW_X10_121_a dX10_token_235))) (ax_nd_ok (ax_lf_ok (ak_goto (by decide) dX10_token_238)) (ax_lf_ok (ak_aload_n rfl dX10_token_241)))) (ax_nd_ok (ax_nd_ok (ax_lf_ok (ak_dup dX10_token_242)) (ax_lf_ok (ak_gi fF_X10_104 dX10_token_243))) (ax_nd_ok (ax_lf_ok (ak_iconst (by decide) dX10_token_246)) (ax_nd_ok (ax_lf_ok (ak_iadd dX10_token_247)) (ax_lf_ok (ak_pi fF_X10_104 fW_X10_104_a dX10_token_248)))))) (ax_nd_ok (ax_nd_ok (ax_nd_ok (ax_lf_ok (ak_aload_n rfl dX10_token_251)) (ax_lf_ok (ak_iload_n rfl dX10_token_252))) (ax_nd_ok (ax_lf_ok (ak_bipush (by decide) dX10_token_253)) (ax_lf_ok (ak_icmp_ne (by decide) dX10_token_255)))) (ax_nd_ok (ax_nd_ok (ax_lf_ok (ak_iconst (by decide) dX10_token_258)) (ax_lf_ok (ak_goto (by decide) dX10_token_259))) (ax_nd_ok (ax_lf_ok (ak_iconst (by decide) dX10_token_262)) (ax_nd_ok (ax_lf_ok (ak_pi fF_X10_121 fW_X10_121_a dX10_token_263)) (ax_lf_ok (ak_vret rfl dX10_token_266)))))))))
abbrev mX10_token (g : ax_G) (as : List Value) (h : ax_H) (Ret : Option Value → ax_H → Prop) : Prop := ax_M g 2 0 0 yX10_token cX10_token 3 none as h Ret
theorem dX10_fails_0 : decode cX10_fails 0 = .ok (.aload_n 0, 1) := by decide +kernel
theorem dX10_fails_1 : decode cX10_fails 1 = .ok (.aload_n 0, 1) := by decide +kernel
theorem dX10_fails_2 : decode cX10_fails 2 = .ok (.getfield 114, 3) := by decide +kernel
theorem dX10_fails_5 : decode cX10_fails 5 = .ok (.putfield 127, 3) := by decide +kernel
theorem dX10_fails_8 : decode cX10_fails 8 = .ok (.iconst 0, 1) := by decide +kernel
theorem dX10_fails_9 : decode cX10_fails 9 = .ok (.ireturn, 1) := by decide +kernel
def tX10_fails (g : ax_G) : Nat → ax_O := ax_nd 2 (ax_nd 0 (ax_lf 0 (ao_al 0 1)) (ax_nd 1 (ax_lf 1 (ao_al 0 1)) (ax_lf 2 (ao_gi 10 13)))) (ax_nd 5 (ax_lf 5 (ao_pi 10 17)) (ax_nd 8 (ax_lf 8 (ao_ic (0) 1)) (ax_lf 9 (ao_zret 0 0))))
theorem oX10_fails (g : ax_G) : ∀ pc, ax_ok g cX10_fails 1 (some .boolean) RX10 "fails" 1 0 0 pc (tX10_fails g pc) := ax_nd_ok (ax_nd_ok (ax_lf_ok (ak_aload_n rfl dX10_fails_0)) (ax_nd_ok (ax_lf_ok (ak_aload_n rfl dX10_fails_1)) (ax_lf_ok (ak_gi fF_X10_114 dX10_fails_2)))) (ax_nd_ok (ax_lf_ok (ak_pi fF_X10_127 fW_X10_127_a dX10_fails_5)) (ax_nd_ok (ax_lf_ok (ak_iconst (by decide) dX10_fails_8)) (ax_lf_ok (ak_zret rfl dX10_fails_9))))
abbrev mX10_fails (g : ax_G) (as : List Value) (h : ax_H) (Ret : Option Value → ax_H → Prop) : Prop := ax_M g 1 0 0 yX10_fails cX10_fails 1 (some .boolean) as h Ret
theorem dX10_later_0 : decode cX10_later 0 = .ok (.aload_n 0, 1) := by decide +kernel
theorem dX10_later_1 : decode cX10_later 1 = .ok (.getfield 130, 3) := by decide +kernel
theorem dX10_later_4 : decode cX10_later 4 = .ok (.ifCond .eq 27, 3) := by decide +kernel
theorem dX10_later_7 : decode cX10_later 7 = .ok (.iload_n 2, 1) := by decide +kernel
theorem dX10_later_8 : decode cX10_later 8 = .ok (.aload_n 0, 1) := by decide +kernel
theorem dX10_later_9 : decode cX10_later 9 = .ok (.getfield 133, 3) := by decide +kernel
theorem dX10_later_12 : decode cX10_later 12 = .ok (.if_icmp .lt 19, 3) := by decide +kernel
theorem dX10_later_15 : decode cX10_later 15 = .ok (.iload_n 2, 1) := by decide +kernel
theorem dX10_later_16 : decode cX10_later 16 = .ok (.aload_n 0, 1) := by decide +kernel
theorem dX10_later_17 : decode cX10_later 17 = .ok (.getfield 133, 3) := by decide +kernel
theorem dX10_later_20 : decode cX10_later 20 = .ok (.if_icmp .ne 21, 3) := by decide +kernel
theorem dX10_later_23 : decode cX10_later 23 = .ok (.iload_n 1, 1) := by decide +kernel
theorem dX10_later_24 : decode cX10_later 24 = .ok (.aload_n 0, 1) := by decide +kernel
theorem dX10_later_25 : decode cX10_later 25 = .ok (.getfield 130, 3) := by decide +kernel
theorem dX10_later_28 : decode cX10_later 28 = .ok (.if_icmp .ge 13, 3) := by decide +kernel
theorem dX10_later_31 : decode cX10_later 31 = .ok (.aload_n 0, 1) := by decide +kernel
theorem dX10_later_32 : decode cX10_later 32 = .ok (.iload_n 1, 1) := by decide +kernel
theorem dX10_later_33 : decode cX10_later 33 = .ok (.putfield 130, 3) := by decide +kernel
theorem dX10_later_36 : decode cX10_later 36 = .ok (.aload_n 0, 1) := by decide +kernel
theorem dX10_later_37 : decode cX10_later 37 = .ok (.iload_n 2, 1) := by decide +kernel
theorem dX10_later_38 : decode cX10_later 38 = .ok (.putfield 133, 3) := by decide +kernel
theorem dX10_later_41 : decode cX10_later 41 = .ok (.return_, 1) := by decide +kernel
def tX10_later (g : ax_G) : Nat → ax_O := ax_nd 20 (ax_nd 8 (ax_nd 1 (ax_nd 0 (ax_lf 0 (ao_al 0 1)) (ax_lf 1 (ao_gi 10 18))) (ax_nd 4 (ax_lf 4 (ao_if_eq 31)) (ax_nd 7 (ax_lf 7 (ao_il 2 1)) (ax_lf 8 (ao_al 0 1))))) (ax_nd 15 (ax_nd 9 (ax_lf 9 (ao_gi 10 19)) (ax_nd 12 (ax_lf 12 (ao_icmp_lt 31)) (ax_lf 15 (ao_il 2 1)))) (ax_nd 16 (ax_lf 16 (ao_al 0 1)) (ax_nd 17 (ax_lf 17 (ao_gi 10 19)) (ax_lf 20 (ao_icmp_ne 41)))))) (ax_nd 31 (ax_nd 24 (ax_nd 23 (ax_lf 23 (ao_il 1 1)) (ax_lf 24 (ao_al 0 1))) (ax_nd 25 (ax_lf 25 (ao_gi 10 18)) (ax_nd 28 (ax_lf 28 (ao_icmp_ge 41)) (ax_lf 31 (ao_al 0 1))))) (ax_nd 36 (ax_nd 32 (ax_lf 32 (ao_il 1 1)) (ax_nd 33 (ax_lf 33 (ao_pi 10 18)) (ax_lf 36 (ao_al 0 1)))) (ax_nd 37 (ax_lf 37 (ao_il 2 1)) (ax_nd 38 (ax_lf 38 (ao_pi 10 19)) (ax_lf 41 (ao_vret 0 0))))))
theorem oX10_later (g : ax_G) : ∀ pc, ax_ok g cX10_later 3 none RX10 "later" 1 0 0 pc (tX10_later g pc) := ax_nd_ok (ax_nd_ok (ax_nd_ok (ax_nd_ok (ax_lf_ok (ak_aload_n rfl dX10_later_0)) (ax_lf_ok (ak_gi fF_X10_130 dX10_later_1))) (ax_nd_ok (ax_lf_ok (ak_if_eq (by decide) dX10_later_4)) (ax_nd_ok (ax_lf_ok (ak_iload_n rfl dX10_later_7)) (ax_lf_ok (ak_aload_n rfl dX10_later_8))))) (ax_nd_ok (ax_nd_ok (ax_lf_ok (ak_gi fF_X10_133 dX10_later_9)) (ax_nd_ok (ax_lf_ok (ak_icmp_lt (by decide) dX10_later_12)) (ax_lf_ok (ak_iload_n rfl dX10_later_15)))) (ax_nd_ok (ax_lf_ok (ak_aload_n rfl dX10_later_16)) (ax_nd_ok (ax_lf_ok (ak_gi fF_X10_133 dX10_later_17)) (ax_lf_ok (ak_icmp_ne (by decide) dX10_later_20)))))) (ax_nd_ok (ax_nd_ok (ax_nd_ok (ax_lf_ok (ak_iload_n rfl dX10_later_23)) (ax_lf_ok (ak_aload_n rfl dX10_later_24))) (ax_nd_ok (ax_lf_ok (ak_gi fF_X10_130 dX10_later_25)) (ax_nd_ok (ax_lf_ok (ak_icmp_ge (by decide) dX10_later_28)) (ax_lf_ok (ak_aload_n rfl dX10_later_31))))) (ax_nd_ok (ax_nd_ok (ax_lf_ok (ak_iload_n rfl dX10_later_32)) (ax_nd_ok (ax_lf_ok (ak_pi fF_X10_130 fW_X10_130_a dX10_later_33)) (ax_lf_ok (ak_aload_n rfl dX10_later_36)))) (ax_nd_ok (ax_lf_ok (ak_iload_n rfl dX10_later_37)) (ax_nd_ok (ax_lf_ok (ak_pi fF_X10_133 fW_X10_133_a dX10_later_38)) (ax_lf_ok (ak_vret rfl dX10_later_41))))))
abbrev mX10_later (g : ax_G) (as : List Value) (h : ax_H) (Ret : Option Value → ax_H → Prop) : Prop := ax_M g 1 0 0 yX10_later cX10_later 3 none as h Ret
theorem dX10_take_0 : decode cX10_take 0 = .ok (.aload_n 0, 1) := by decide +kernel
theorem dX10_take_1 : decode cX10_take 1 = .ok (.getfield 121, 3) := by decide +kernel
theorem dX10_take_4 : decode cX10_take 4 = .ok (.iconst 3, 1) := by decide +kernel
theorem dX10_take_5 : decode cX10_take 5 = .ok (.if_icmp .eq 8, 3) := by decide +kernel
theorem dX10_take_8 : decode cX10_take 8 = .ok (.aload_n 0, 1) := by decide +kernel
theorem dX10_take_9 : decode cX10_take 9 = .ok (.invokevirtual 136, 3) := by decide +kernel
theorem dX10_take_12 : decode cX10_take 12 = .ok (.ireturn, 1) := by decide +kernel
theorem dX10_take_13 : decode cX10_take 13 = .ok (.aload_n 0, 1) := by decide +kernel
theorem dX10_take_14 : decode cX10_take 14 = .ok (.getfield 44, 3) := by decide +kernel
theorem dX10_take_17 : decode cX10_take 17 = .ok (.iload_n 1, 1) := by decide +kernel
theorem dX10_take_18 : decode cX10_take 18 = .ok (.aload_n 0, 1) := by decide +kernel
theorem dX10_take_19 : decode cX10_take 19 = .ok (.getfield 124, 3) := by decide +kernel
theorem dX10_take_22 : decode cX10_take 22 = .ok (.iastore, 1) := by decide +kernel
theorem dX10_take_23 : decode cX10_take 23 = .ok (.aload_n 0, 1) := by decide +kernel
theorem dX10_take_24 : decode cX10_take 24 = .ok (.getfield 124, 3) := by decide +kernel
theorem dX10_take_27 : decode cX10_take 27 = .ok (.iload_n 2, 1) := by decide +kernel
theorem dX10_take_28 : decode cX10_take 28 = .ok (.iload_n 3, 1) := by decide +kernel
theorem dX10_take_29 : decode cX10_take 29 = .ok (.invokestatic 96, 3) := by decide +kernel
theorem dX10_take_32 : decode cX10_take 32 = .ok (.ifCond .ne 17, 3) := by decide +kernel
theorem dX10_take_35 : decode cX10_take 35 = .ok (.aload_n 0, 1) := by decide +kernel
theorem dX10_take_36 : decode cX10_take 36 = .ok (.iconst 2, 1) := by decide +kernel
theorem dX10_take_37 : decode cX10_take 37 = .ok (.aload_n 0, 1) := by decide +kernel
theorem dX10_take_38 : decode cX10_take 38 = .ok (.getfield 114, 3) := by decide +kernel
theorem dX10_take_41 : decode cX10_take 41 = .ok (.invokevirtual 140, 3) := by decide +kernel
theorem dX10_take_44 : decode cX10_take 44 = .ok (.aload_n 0, 1) := by decide +kernel
theorem dX10_take_45 : decode cX10_take 45 = .ok (.iconst 0, 1) := by decide +kernel
theorem dX10_take_46 : decode cX10_take 46 = .ok (.putfield 144, 3) := by decide +kernel
theorem dX10_take_49 : decode cX10_take 49 = .ok (.aload_n 0, 1) := by decide +kernel
theorem dX10_take_50 : decode cX10_take 50 = .ok (.invokevirtual 148, 3) := by decide +kernel
theorem dX10_take_53 : decode cX10_take 53 = .ok (.iconst 1, 1) := by decide +kernel
theorem dX10_take_54 : decode cX10_take 54 = .ok (.ireturn, 1) := by decide +kernel
def tX10_take (g : ax_G) : Nat → ax_O := ax_nd 24 (ax_nd 12 (ax_nd 4 (ax_nd 0 (ax_lf 0 (ao_al 0 1)) (ax_nd 1 (ax_lf 1 (ao_gi 10 14)) (ax_lf 4 (ao_ic (3) 1)))) (ax_nd 8 (ax_nd 5 (ax_lf 5 (ao_icmp_eq 13)) (ax_lf 8 (ao_al 0 1))) (ax_nd 9 (ax_lf 9 (ao_inv g 1 10 1 yX10_fails cX10_fails 1 (some .boolean) 1 0 0 0 0)) (ax_lf 12 (ao_zret 0 0))))) (ax_nd 18 (ax_nd 14 (ax_nd 13 (ax_lf 13 (ao_al 0 1)) (ax_lf 14 (ao_gr 10 21))) (ax_nd 17 (ax_lf 17 (ao_il 1 1)) (ax_lf 18 (ao_al 0 1)))) (ax_nd 22 (ax_nd 19 (ax_lf 19 (ao_gi 10 15)) (ax_lf 22 ao_iast)) (ax_nd 23 (ax_lf 23 (ao_al 0 1)) (ax_lf 24 (ao_gi 10 15)))))) (ax_nd 38 (ax_nd 32 (ax_nd 28 (ax_nd 27 (ax_lf 27 (ao_il 2 1)) (ax_lf 28 (ao_il 3 1))) (ax_nd 29 (ax_lf 29 (ao_inv g 1 99 1 yX10_in cX10_in 3 (some .boolean) 3 0 0 0 0)) (ax_lf 32 (ao_if_ne 49)))) (ax_nd 36 (ax_nd 35 (ax_lf 35 (ao_al 0 1)) (ax_lf 36 (ao_ic (2) 1))) (ax_nd 37 (ax_lf 37 (ao_al 0 1)) (ax_lf 38 (ao_gi 10 13))))) (ax_nd 46 (ax_nd 44 (ax_nd 41 (ax_lf 41 (ao_inv g 1 10 0 yX10_later cX10_later 3 none 3 0 0 0 0)) (ax_lf 44 (ao_al 0 1))) (ax_nd 45 (ax_lf 45 (ao_ic (0) 1)) (ax_lf 46 (ao_pz 10 24)))) (ax_nd 50 (ax_nd 49 (ax_lf 49 (ao_al 0 1)) (ax_lf 50 (ao_inv g 2 10 0 yX10_token cX10_token 3 none 1 0 0 0 0))) (ax_nd 53 (ax_lf 53 (ao_ic (1) 1)) (ax_lf 54 (ao_zret 0 0))))))
theorem oX10_take (g : ax_G) : ∀ pc, ax_ok g cX10_take 4 (some .boolean) RX10 "take" 3 0 0 pc (tX10_take g pc) := ax_nd_ok (ax_nd_ok (ax_nd_ok (ax_nd_ok (ax_lf_ok (ak_aload_n rfl dX10_take_0)) (ax_nd_ok (ax_lf_ok (ak_gi fF_X10_121 dX10_take_1)) (ax_lf_ok (ak_iconst (by decide) dX10_take_4)))) (ax_nd_ok (ax_nd_ok (ax_lf_ok (ak_icmp_eq (by decide) dX10_take_5)) (ax_lf_ok (ak_aload_n rfl dX10_take_8))) (ax_nd_ok (ax_lf_ok (ak_invV (by decide) (by decide) (by decide) rfl wd_1285 wd_1287 wd_31 wd_106 wd_1288 ⟨by decide, by decide, by decide +kernel⟩ dX10_take_9)) (ax_lf_ok (ak_zret rfl dX10_take_12))))) (ax_nd_ok (ax_nd_ok (ax_nd_ok (ax_lf_ok (ak_aload_n rfl dX10_take_13)) (ax_lf_ok (ak_gr fF_X10_44 dX10_take_14))) (ax_nd_ok (ax_lf_ok (ak_iload_n rfl dX10_take_17)) (ax_lf_ok (ak_aload_n rfl dX10_take_18)))) (ax_nd_ok (ax_nd_ok (ax_lf_ok (ak_gi fF_X10_124 dX10_take_19)) (ax_lf_ok (ak_iast dX10_take_22))) (ax_nd_ok (ax_lf_ok (ak_aload_n rfl dX10_take_23)) (ax_lf_ok (ak_gi fF_X10_124 dX10_take_24)))))) (ax_nd_ok (ax_nd_ok (ax_nd_ok (ax_nd_ok (ax_lf_ok (ak_iload_n rfl dX10_take_27)) (ax_lf_ok (ak_iload_n rfl dX10_take_28))) (ax_nd_ok (ax_lf_ok (ak_invS (by decide) (by decide) wd_1244 wd_1245 wd_106 wd_1246 ⟨by decide, by decide, by decide +kernel⟩ dX10_take_29)) (ax_lf_ok (ak_if_ne (by decide) dX10_take_32)))) (ax_nd_ok (ax_nd_ok (ax_lf_ok (ak_aload_n rfl dX10_take_35)) (ax_lf_ok (ak_iconst (by decide) dX10_take_36))) (ax_nd_ok (ax_lf_ok (ak_aload_n rfl dX10_take_37)) (ax_lf_ok (ak_gi fF_X10_114 dX10_take_38))))) (ax_nd_ok (ax_nd_ok (ax_nd_ok (ax_lf_ok (ak_invV (by decide) (by decide) (by decide) rfl wd_1293 wd_1295 wd_33 wd_106 wd_1296 ⟨by decide, by decide, by decide +kernel⟩ dX10_take_41)) (ax_lf_ok (ak_aload_n rfl dX10_take_44))) (ax_nd_ok (ax_lf_ok (ak_iconst (by decide) dX10_take_45)) (ax_lf_ok (ak_pz fF_X10_144 fW_X10_144_a dX10_take_46)))) (ax_nd_ok (ax_nd_ok (ax_lf_ok (ak_aload_n rfl dX10_take_49)) (ax_lf_ok (ak_invV (by decide) (by decide) (by decide) rfl wd_1259 wd_1261 wd_26 wd_106 wd_1262 ⟨by decide, by decide, by decide +kernel⟩ dX10_take_50))) (ax_nd_ok (ax_lf_ok (ak_iconst (by decide) dX10_take_53)) (ax_lf_ok (ak_zret rfl dX10_take_54))))))
abbrev mX10_take (g : ax_G) (as : List Value) (h : ax_H) (Ret : Option Value → ax_H → Prop) : Prop := ax_M g 3 0 0 yX10_take cX10_take 4 (some .boolean) as h Ret
theorem dX10_full_0 : decode cX10_full 0 = .ok (.aload_n 0, 1) := by decide +kernel
theorem dX10_full_1 : decode cX10_full 1 = .ok (.getfield 41, 3) := by decide +kernel
theorem dX10_full_4 : decode cX10_full 4 = .ok (.iload_n 1, 1) := by decide +kernel
theorem dX10_full_5 : decode cX10_full 5 = .ok (.iaload, 1) := by decide +kernel
theorem dX10_full_6 : decode cX10_full 6 = .ok (.iload_n 2, 1) := by decide +kernel
theorem dX10_full_7 : decode cX10_full 7 = .ok (.if_icmp .ne 9, 3) := by decide +kernel
theorem dX10_full_10 : decode cX10_full 10 = .ok (.aload_n 0, 1) := by decide +kernel
theorem dX10_full_11 : decode cX10_full 11 = .ok (.iconst 3, 1) := by decide +kernel
theorem dX10_full_12 : decode cX10_full 12 = .ok (.iload_n 3, 1) := by decide +kernel
theorem dX10_full_13 : decode cX10_full 13 = .ok (.invokevirtual 140, 3) := by decide +kernel
theorem dX10_full_16 : decode cX10_full 16 = .ok (.return_, 1) := by decide +kernel
def tX10_full (g : ax_G) : Nat → ax_O := ax_nd 6 (ax_nd 1 (ax_nd 0 (ax_lf 0 (ao_al 0 1)) (ax_lf 1 (ao_gr 10 20))) (ax_nd 4 (ax_lf 4 (ao_il 1 1)) (ax_nd 5 (ax_lf 5 ao_iald) (ax_lf 6 (ao_il 2 1))))) (ax_nd 11 (ax_nd 7 (ax_lf 7 (ao_icmp_ne 16)) (ax_nd 10 (ax_lf 10 (ao_al 0 1)) (ax_lf 11 (ao_ic (3) 1)))) (ax_nd 12 (ax_lf 12 (ao_il 3 1)) (ax_nd 13 (ax_lf 13 (ao_inv g 1 10 0 yX10_later cX10_later 3 none 3 0 0 0 0)) (ax_lf 16 (ao_vret 0 0)))))
theorem oX10_full (g : ax_G) : ∀ pc, ax_ok g cX10_full 4 none RX10 "full" 2 0 0 pc (tX10_full g pc) := ax_nd_ok (ax_nd_ok (ax_nd_ok (ax_lf_ok (ak_aload_n rfl dX10_full_0)) (ax_lf_ok (ak_gr fF_X10_41 dX10_full_1))) (ax_nd_ok (ax_lf_ok (ak_iload_n rfl dX10_full_4)) (ax_nd_ok (ax_lf_ok (ak_iald dX10_full_5)) (ax_lf_ok (ak_iload_n rfl dX10_full_6))))) (ax_nd_ok (ax_nd_ok (ax_lf_ok (ak_icmp_ne (by decide) dX10_full_7)) (ax_nd_ok (ax_lf_ok (ak_aload_n rfl dX10_full_10)) (ax_lf_ok (ak_iconst (by decide) dX10_full_11)))) (ax_nd_ok (ax_lf_ok (ak_iload_n rfl dX10_full_12)) (ax_nd_ok (ax_lf_ok (ak_invV (by decide) (by decide) (by decide) rfl wd_1293 wd_1295 wd_33 wd_106 wd_1296 ⟨by decide, by decide, by decide +kernel⟩ dX10_full_13)) (ax_lf_ok (ak_vret rfl dX10_full_16)))))
abbrev mX10_full (g : ax_G) (as : List Value) (h : ax_H) (Ret : Option Value → ax_H → Prop) : Prop := ax_M g 2 0 0 yX10_full cX10_full 4 none as h Ret
theorem dX10_keep_0 : decode cX10_keep 0 = .ok (.aload_n 0, 1) := by decide +kernel
theorem dX10_keep_1 : decode cX10_keep 1 = .ok (.getfield 41, 3) := by decide +kernel
theorem dX10_keep_4 : decode cX10_keep 4 = .ok (.iconst 0, 1) := by decide +kernel
theorem dX10_keep_5 : decode cX10_keep 5 = .ok (.iaload, 1) := by decide +kernel
theorem dX10_keep_6 : decode cX10_keep 6 = .ok (.istore 4, 2) := by decide +kernel
theorem dX10_keep_8 : decode cX10_keep 8 = .ok (.iload 4, 2) := by decide +kernel
theorem dX10_keep_10 : decode cX10_keep 10 = .ok (.iload_n 3, 1) := by decide +kernel
theorem dX10_keep_11 : decode cX10_keep 11 = .ok (.if_icmp .ne 4, 3) := by decide +kernel
theorem dX10_keep_14 : decode cX10_keep 14 = .ok (.return_, 1) := by decide +kernel
theorem dX10_keep_15 : decode cX10_keep 15 = .ok (.iconst 0, 1) := by decide +kernel
theorem dX10_keep_16 : decode cX10_keep 16 = .ok (.istore 5, 2) := by decide +kernel
theorem dX10_keep_18 : decode cX10_keep 18 = .ok (.iload 5, 2) := by decide +kernel
theorem dX10_keep_20 : decode cX10_keep 20 = .ok (.iload_n 2, 1) := by decide +kernel
theorem dX10_keep_21 : decode cX10_keep 21 = .ok (.if_icmp .ge 30, 3) := by decide +kernel
theorem dX10_keep_24 : decode cX10_keep 24 = .ok (.aload_n 0, 1) := by decide +kernel
theorem dX10_keep_25 : decode cX10_keep 25 = .ok (.getfield 41, 3) := by decide +kernel
theorem dX10_keep_28 : decode cX10_keep 28 = .ok (.iload_n 1, 1) := by decide +kernel
theorem dX10_keep_29 : decode cX10_keep 29 = .ok (.iload_n 2, 1) := by decide +kernel
theorem dX10_keep_30 : decode cX10_keep 30 = .ok (.iload 4, 2) := by decide +kernel
theorem dX10_keep_32 : decode cX10_keep 32 = .ok (.imul, 1) := by decide +kernel
theorem dX10_keep_33 : decode cX10_keep 33 = .ok (.iadd, 1) := by decide +kernel
theorem dX10_keep_34 : decode cX10_keep 34 = .ok (.iload 5, 2) := by decide +kernel
theorem dX10_keep_36 : decode cX10_keep 36 = .ok (.iadd, 1) := by decide +kernel
theorem dX10_keep_37 : decode cX10_keep 37 = .ok (.aload_n 0, 1) := by decide +kernel
theorem dX10_keep_38 : decode cX10_keep 38 = .ok (.getfield 44, 3) := by decide +kernel
theorem dX10_keep_41 : decode cX10_keep 41 = .ok (.iload 5, 2) := by decide +kernel
theorem dX10_keep_43 : decode cX10_keep 43 = .ok (.iaload, 1) := by decide +kernel
theorem dX10_keep_44 : decode cX10_keep 44 = .ok (.iastore, 1) := by decide +kernel
theorem dX10_keep_45 : decode cX10_keep 45 = .ok (.iinc 5 1, 3) := by decide +kernel
theorem dX10_keep_48 : decode cX10_keep 48 = .ok (.goto (-30), 3) := by decide +kernel
theorem dX10_keep_51 : decode cX10_keep 51 = .ok (.aload_n 0, 1) := by decide +kernel
theorem dX10_keep_52 : decode cX10_keep 52 = .ok (.getfield 41, 3) := by decide +kernel
theorem dX10_keep_55 : decode cX10_keep 55 = .ok (.iconst 0, 1) := by decide +kernel
theorem dX10_keep_56 : decode cX10_keep 56 = .ok (.dup2, 1) := by decide +kernel
theorem dX10_keep_57 : decode cX10_keep 57 = .ok (.iaload, 1) := by decide +kernel
theorem dX10_keep_58 : decode cX10_keep 58 = .ok (.iconst 1, 1) := by decide +kernel
theorem dX10_keep_59 : decode cX10_keep 59 = .ok (.iadd, 1) := by decide +kernel
theorem dX10_keep_60 : decode cX10_keep 60 = .ok (.iastore, 1) := by decide +kernel
theorem dX10_keep_61 : decode cX10_keep 61 = .ok (.return_, 1) := by decide +kernel
def tX10_keep (g : ax_G) : Nat → ax_O := ax_nd 30 (ax_nd 14 (ax_nd 5 (ax_nd 1 (ax_nd 0 (ax_lf 0 (ao_al 0 1)) (ax_lf 1 (ao_gr 10 20))) (ax_nd 4 (ax_lf 4 (ao_ic (0) 1)) (ax_lf 5 ao_iald))) (ax_nd 8 (ax_nd 6 (ax_lf 6 (ao_is 4 2)) (ax_lf 8 (ao_il 4 2))) (ax_nd 10 (ax_lf 10 (ao_il 3 1)) (ax_nd 11 (ax_lf 11 (ao_icmp_ne 15)) (ax_lf 14 (ao_vret 0 0)))))) (ax_nd 21 (ax_nd 16 (ax_nd 15 (ax_lf 15 (ao_ic (0) 1)) (ax_lf 16 (ao_is 5 2))) (ax_nd 18 (ax_lf 18 (ao_il 5 2)) (ax_nd 20 (ax_lf 20 (ao_il 2 1)) (ax_lf 21 (ao_icmp_ge 51))))) (ax_nd 25 (ax_nd 24 (ax_lf 24 (ao_al 0 1)) (ax_lf 25 (ao_gr 10 20))) (ax_nd 28 (ax_lf 28 (ao_il 1 1)) (ax_nd 29 (ax_lf 29 (ao_il 2 1)) (ax_lf 30 (ao_il 4 2))))))) (ax_nd 45 (ax_nd 37 (ax_nd 33 (ax_nd 32 (ax_lf 32 ao_imul) (ax_lf 33 ao_iadd)) (ax_nd 34 (ax_lf 34 (ao_il 5 2)) (ax_nd 36 (ax_lf 36 ao_iadd) (ax_lf 37 (ao_al 0 1))))) (ax_nd 41 (ax_nd 38 (ax_lf 38 (ao_gr 10 21)) (ax_lf 41 (ao_il 5 2))) (ax_nd 43 (ax_lf 43 ao_iald) (ax_nd 44 (ax_lf 44 ao_iast) (ax_lf 45 (ao_iinc 5 (1))))))) (ax_nd 56 (ax_nd 51 (ax_nd 48 (ax_lf 48 (ao_goto 18)) (ax_lf 51 (ao_al 0 1))) (ax_nd 52 (ax_lf 52 (ao_gr 10 20)) (ax_nd 55 (ax_lf 55 (ao_ic (0) 1)) (ax_lf 56 ao_dup2)))) (ax_nd 58 (ax_nd 57 (ax_lf 57 ao_iald) (ax_lf 58 (ao_ic (1) 1))) (ax_nd 59 (ax_lf 59 ao_iadd) (ax_nd 60 (ax_lf 60 ao_iast) (ax_lf 61 (ao_vret 0 0)))))))
theorem oX10_keep (g : ax_G) : ∀ pc, ax_ok g cX10_keep 6 none RX10 "keep" 1 0 0 pc (tX10_keep g pc) := ax_nd_ok (ax_nd_ok (ax_nd_ok (ax_nd_ok (ax_nd_ok (ax_lf_ok (ak_aload_n rfl dX10_keep_0)) (ax_lf_ok (ak_gr fF_X10_41 dX10_keep_1))) (ax_nd_ok (ax_lf_ok (ak_iconst (by decide) dX10_keep_4)) (ax_lf_ok (ak_iald dX10_keep_5)))) (ax_nd_ok (ax_nd_ok (ax_lf_ok (ak_istore (by decide) dX10_keep_6)) (ax_lf_ok (ak_iload dX10_keep_8))) (ax_nd_ok (ax_lf_ok (ak_iload_n rfl dX10_keep_10)) (ax_nd_ok (ax_lf_ok (ak_icmp_ne (by decide) dX10_keep_11)) (ax_lf_ok (ak_vret rfl dX10_keep_14)))))) (ax_nd_ok (ax_nd_ok (ax_nd_ok (ax_lf_ok (ak_iconst (by decide) dX10_keep_15)) (ax_lf_ok (ak_istore (by decide) dX10_keep_16))) (ax_nd_ok (ax_lf_ok (ak_iload dX10_keep_18)) (ax_nd_ok (ax_lf_ok (ak_iload_n rfl dX10_keep_20)) (ax_lf_ok (ak_icmp_ge (by decide) dX10_keep_21))))) (ax_nd_ok (ax_nd_ok (ax_lf_ok (ak_aload_n rfl dX10_keep_24)) (ax_lf_ok (ak_gr fF_X10_41 dX10_keep_25))) (ax_nd_ok (ax_lf_ok (ak_iload_n rfl dX10_keep_28)) (ax_nd_ok (ax_lf_ok (ak_iload_n rfl dX10_keep_29)) (ax_lf_ok (ak_iload dX10_keep_30))))))) (ax_nd_ok (ax_nd_ok (ax_nd_ok (ax_nd_ok (ax_lf_ok (ak_imul dX10_keep_32)) (ax_lf_ok (ak_iadd dX10_keep_33))) (ax_nd_ok (ax_lf_ok (ak_iload dX10_keep_34)) (ax_nd_ok (ax_lf_ok (ak_iadd dX10_keep_36)) (ax_lf_ok (ak_aload_n rfl dX10_keep_37))))) (ax_nd_ok (ax_nd_ok (ax_lf_ok (ak_gr fF_X10_44 dX10_keep_38)) (ax_lf_ok (ak_iload dX10_keep_41))) (ax_nd_ok (ax_lf_ok (ak_iald dX10_keep_43)) (ax_nd_ok (ax_lf_ok (ak_iast dX10_keep_44)) (ax_lf_ok (ak_iinc (by decide) (by decide) dX10_keep_45)))))) (ax_nd_ok (ax_nd_ok (ax_nd_ok (ax_lf_ok (ak_goto (by decide) dX10_keep_48)) (ax_lf_ok (ak_aload_n rfl dX10_keep_51))) (ax_nd_ok (ax_lf_ok (ak_gr fF_X10_41 dX10_keep_52)) (ax_nd_ok (ax_lf_ok (ak_iconst (by decide) dX10_keep_55)) (ax_lf_ok (ak_dup2 dX10_keep_56))))) (ax_nd_ok (ax_nd_ok (ax_lf_ok (ak_iald dX10_keep_57)) (ax_lf_ok (ak_iconst (by decide) dX10_keep_58))) (ax_nd_ok (ax_lf_ok (ak_iadd dX10_keep_59)) (ax_nd_ok (ax_lf_ok (ak_iast dX10_keep_60)) (ax_lf_ok (ak_vret rfl dX10_keep_61)))))))
abbrev mX10_keep (g : ax_G) (as : List Value) (h : ax_H) (Ret : Option Value → ax_H → Prop) : Prop := ax_M g 1 0 0 yX10_keep cX10_keep 6 none as h Ret
theorem dX10_kindLine_0 : decode cX10_kindLine 0 = .ok (.aload_n 0, 1) := by decide +kernel
theorem dX10_kindLine_1 : decode cX10_kindLine 1 = .ok (.iconst 0, 1) := by decide +kernel
theorem dX10_kindLine_2 : decode cX10_kindLine 2 = .ok (.iconst 0, 1) := by decide +kernel
theorem dX10_kindLine_3 : decode cX10_kindLine 3 = .ok (.iconst 5, 1) := by decide +kernel
theorem dX10_kindLine_4 : decode cX10_kindLine 4 = .ok (.invokevirtual 151, 3) := by decide +kernel
theorem dX10_kindLine_7 : decode cX10_kindLine 7 = .ok (.ifCond .eq 14, 3) := by decide +kernel
theorem dX10_kindLine_10 : decode cX10_kindLine 10 = .ok (.aload_n 0, 1) := by decide +kernel
theorem dX10_kindLine_11 : decode cX10_kindLine 11 = .ok (.iconst 1, 1) := by decide +kernel
theorem dX10_kindLine_12 : decode cX10_kindLine 12 = .ok (.iconst 0, 1) := by decide +kernel
theorem dX10_kindLine_13 : decode cX10_kindLine 13 = .ok (.bipush 99, 2) := by decide +kernel
theorem dX10_kindLine_15 : decode cX10_kindLine 15 = .ok (.invokevirtual 151, 3) := by decide +kernel
theorem dX10_kindLine_18 : decode cX10_kindLine 18 = .ok (.ifCond .ne 5, 3) := by decide +kernel
theorem dX10_kindLine_21 : decode cX10_kindLine 21 = .ok (.iconst 0, 1) := by decide +kernel
theorem dX10_kindLine_22 : decode cX10_kindLine 22 = .ok (.ireturn, 1) := by decide +kernel
theorem dX10_kindLine_23 : decode cX10_kindLine 23 = .ok (.aload_n 0, 1) := by decide +kernel
theorem dX10_kindLine_24 : decode cX10_kindLine 24 = .ok (.getfield 121, 3) := by decide +kernel
theorem dX10_kindLine_27 : decode cX10_kindLine 27 = .ok (.iconst 2, 1) := by decide +kernel
theorem dX10_kindLine_28 : decode cX10_kindLine 28 = .ok (.if_icmp .eq 7, 3) := by decide +kernel
theorem dX10_kindLine_31 : decode cX10_kindLine 31 = .ok (.iconst (-1), 1) := by decide +kernel
theorem dX10_kindLine_32 : decode cX10_kindLine 32 = .ok (.goto 49, 3) := by decide +kernel
theorem dX10_kindLine_35 : decode cX10_kindLine 35 = .ok (.aload_n 0, 1) := by decide +kernel
theorem dX10_kindLine_36 : decode cX10_kindLine 36 = .ok (.getfield 117, 3) := by decide +kernel
theorem dX10_kindLine_39 : decode cX10_kindLine 39 = .ok (.ldc2_w 154, 3) := by decide +kernel
theorem dX10_kindLine_42 : decode cX10_kindLine 42 = .ok (.lcmp, 1) := by decide +kernel
theorem dX10_kindLine_43 : decode cX10_kindLine 43 = .ok (.ifCond .ne 7, 3) := by decide +kernel
theorem dX10_kindLine_46 : decode cX10_kindLine 46 = .ok (.iconst 0, 1) := by decide +kernel
theorem dX10_kindLine_47 : decode cX10_kindLine 47 = .ok (.goto 34, 3) := by decide +kernel
theorem dX10_kindLine_50 : decode cX10_kindLine 50 = .ok (.aload_n 0, 1) := by decide +kernel
theorem dX10_kindLine_51 : decode cX10_kindLine 51 = .ok (.getfield 117, 3) := by decide +kernel
theorem dX10_kindLine_54 : decode cX10_kindLine 54 = .ok (.ldc2_w 156, 3) := by decide +kernel
theorem dX10_kindLine_57 : decode cX10_kindLine 57 = .ok (.lcmp, 1) := by decide +kernel
theorem dX10_kindLine_58 : decode cX10_kindLine 58 = .ok (.ifCond .ne 7, 3) := by decide +kernel
theorem dX10_kindLine_61 : decode cX10_kindLine 61 = .ok (.iconst 1, 1) := by decide +kernel
theorem dX10_kindLine_62 : decode cX10_kindLine 62 = .ok (.goto 19, 3) := by decide +kernel
theorem dX10_kindLine_65 : decode cX10_kindLine 65 = .ok (.aload_n 0, 1) := by decide +kernel
theorem dX10_kindLine_66 : decode cX10_kindLine 66 = .ok (.getfield 117, 3) := by decide +kernel
theorem dX10_kindLine_69 : decode cX10_kindLine 69 = .ok (.ldc2_w 158, 3) := by decide +kernel
theorem dX10_kindLine_72 : decode cX10_kindLine 72 = .ok (.lcmp, 1) := by decide +kernel
theorem dX10_kindLine_73 : decode cX10_kindLine 73 = .ok (.ifCond .ne 7, 3) := by decide +kernel
theorem dX10_kindLine_76 : decode cX10_kindLine 76 = .ok (.iconst 2, 1) := by decide +kernel
theorem dX10_kindLine_77 : decode cX10_kindLine 77 = .ok (.goto 4, 3) := by decide +kernel
theorem dX10_kindLine_80 : decode cX10_kindLine 80 = .ok (.iconst (-1), 1) := by decide +kernel
theorem dX10_kindLine_81 : decode cX10_kindLine 81 = .ok (.istore_n 2, 1) := by decide +kernel
theorem dX10_kindLine_82 : decode cX10_kindLine 82 = .ok (.iload_n 2, 1) := by decide +kernel
theorem dX10_kindLine_83 : decode cX10_kindLine 83 = .ok (.iconst (-1), 1) := by decide +kernel
theorem dX10_kindLine_84 : decode cX10_kindLine 84 = .ok (.if_icmp .ne 8, 3) := by decide +kernel
theorem dX10_kindLine_87 : decode cX10_kindLine 87 = .ok (.aload_n 0, 1) := by decide +kernel
theorem dX10_kindLine_88 : decode cX10_kindLine 88 = .ok (.invokevirtual 136, 3) := by decide +kernel
theorem dX10_kindLine_91 : decode cX10_kindLine 91 = .ok (.ireturn, 1) := by decide +kernel
theorem dX10_kindLine_92 : decode cX10_kindLine 92 = .ok (.aload_n 0, 1) := by decide +kernel
theorem dX10_kindLine_93 : decode cX10_kindLine 93 = .ok (.invokevirtual 148, 3) := by decide +kernel
theorem dX10_kindLine_96 : decode cX10_kindLine 96 = .ok (.aload_n 0, 1) := by decide +kernel
theorem dX10_kindLine_97 : decode cX10_kindLine 97 = .ok (.getfield 144, 3) := by decide +kernel
theorem dX10_kindLine_100 : decode cX10_kindLine 100 = .ok (.ifCond .eq 52, 3) := by decide +kernel
theorem dX10_kindLine_103 : decode cX10_kindLine 103 = .ok (.aload_n 0, 1) := by decide +kernel
theorem dX10_kindLine_104 : decode cX10_kindLine 104 = .ok (.getfield 41, 3) := by decide +kernel
theorem dX10_kindLine_107 : decode cX10_kindLine 107 = .ok (.bipush 8, 2) := by decide +kernel
theorem dX10_kindLine_109 : decode cX10_kindLine 109 = .ok (.aload_n 0, 1) := by decide +kernel
theorem dX10_kindLine_110 : decode cX10_kindLine 110 = .ok (.getfield 44, 3) := by decide +kernel
theorem dX10_kindLine_113 : decode cX10_kindLine 113 = .ok (.iconst 0, 1) := by decide +kernel
theorem dX10_kindLine_114 : decode cX10_kindLine 114 = .ok (.iaload, 1) := by decide +kernel
theorem dX10_kindLine_115 : decode cX10_kindLine 115 = .ok (.iadd, 1) := by decide +kernel
theorem dX10_kindLine_116 : decode cX10_kindLine 116 = .ok (.iload_n 1, 1) := by decide +kernel
theorem dX10_kindLine_117 : decode cX10_kindLine 117 = .ok (.ifCond .eq 13, 3) := by decide +kernel
theorem dX10_kindLine_120 : decode cX10_kindLine 120 = .ok (.aload_n 0, 1) := by decide +kernel
theorem dX10_kindLine_121 : decode cX10_kindLine 121 = .ok (.getfield 44, 3) := by decide +kernel
theorem dX10_kindLine_124 : decode cX10_kindLine 124 = .ok (.iconst 1, 1) := by decide +kernel
theorem dX10_kindLine_125 : decode cX10_kindLine 125 = .ok (.iaload, 1) := by decide +kernel
theorem dX10_kindLine_126 : decode cX10_kindLine 126 = .ok (.ineg, 1) := by decide +kernel
theorem dX10_kindLine_127 : decode cX10_kindLine 127 = .ok (.goto 9, 3) := by decide +kernel
theorem dX10_kindLine_130 : decode cX10_kindLine 130 = .ok (.aload_n 0, 1) := by decide +kernel
theorem dX10_kindLine_131 : decode cX10_kindLine 131 = .ok (.getfield 44, 3) := by decide +kernel
theorem dX10_kindLine_134 : decode cX10_kindLine 134 = .ok (.iconst 1, 1) := by decide +kernel
theorem dX10_kindLine_135 : decode cX10_kindLine 135 = .ok (.iaload, 1) := by decide +kernel
theorem dX10_kindLine_136 : decode cX10_kindLine 136 = .ok (.iastore, 1) := by decide +kernel
theorem dX10_kindLine_137 : decode cX10_kindLine 137 = .ok (.aload_n 0, 1) := by decide +kernel
theorem dX10_kindLine_138 : decode cX10_kindLine 138 = .ok (.getfield 41, 3) := by decide +kernel
theorem dX10_kindLine_141 : decode cX10_kindLine 141 = .ok (.bipush 14, 2) := by decide +kernel
theorem dX10_kindLine_143 : decode cX10_kindLine 143 = .ok (.aload_n 0, 1) := by decide +kernel
theorem dX10_kindLine_144 : decode cX10_kindLine 144 = .ok (.getfield 44, 3) := by decide +kernel
theorem dX10_kindLine_147 : decode cX10_kindLine 147 = .ok (.iconst 0, 1) := by decide +kernel
theorem dX10_kindLine_148 : decode cX10_kindLine 148 = .ok (.iaload, 1) := by decide +kernel
theorem dX10_kindLine_149 : decode cX10_kindLine 149 = .ok (.iadd, 1) := by decide +kernel
theorem dX10_kindLine_150 : decode cX10_kindLine 150 = .ok (.iload_n 2, 1) := by decide +kernel
theorem dX10_kindLine_151 : decode cX10_kindLine 151 = .ok (.iastore, 1) := by decide +kernel
theorem dX10_kindLine_152 : decode cX10_kindLine 152 = .ok (.iconst 1, 1) := by decide +kernel
theorem dX10_kindLine_153 : decode cX10_kindLine 153 = .ok (.ireturn, 1) := by decide +kernel
def tX10_kindLine (g : ax_G) : Nat → ax_O := ax_nd 81 (ax_nd 35 (ax_nd 13 (ax_nd 4 (ax_nd 1 (ax_nd 0 (ax_lf 0 (ao_al 0 1)) (ax_lf 1 (ao_ic (0) 1))) (ax_nd 2 (ax_lf 2 (ao_ic (0) 1)) (ax_nd 3 (ax_lf 3 (ao_ic (5) 1)) (ax_lf 4 (ao_inv g 3 10 1 yX10_take cX10_take 4 (some .boolean) 4 0 0 0 0))))) (ax_nd 10 (ax_nd 7 (ax_lf 7 (ao_if_eq 21)) (ax_lf 10 (ao_al 0 1))) (ax_nd 11 (ax_lf 11 (ao_ic (1) 1)) (ax_nd 12 (ax_lf 12 (ao_ic (0) 1)) (ax_lf 13 (ao_ic (99) 2)))))) (ax_nd 23 (ax_nd 18 (ax_nd 15 (ax_lf 15 (ao_inv g 3 10 1 yX10_take cX10_take 4 (some .boolean) 4 0 0 0 0)) (ax_lf 18 (ao_if_ne 23))) (ax_nd 21 (ax_lf 21 (ao_ic (0) 1)) (ax_nd 22 (ax_lf 22 (ao_zret 0 0)) (ax_lf 23 (ao_al 0 1))))) (ax_nd 28 (ax_nd 24 (ax_lf 24 (ao_gi 10 14)) (ax_nd 27 (ax_lf 27 (ao_ic (2) 1)) (ax_lf 28 (ao_icmp_eq 35)))) (ax_nd 31 (ax_lf 31 (ao_ic (-1) 1)) (ax_nd 32 (ax_lf 32 (ao_goto 81)) (ax_lf 35 (ao_al 0 1))))))) (ax_nd 58 (ax_nd 46 (ax_nd 39 (ax_nd 36 (ax_lf 36 (ao_gl 10 16)) (ax_lf 39 (ao_lc (500219601765) 3))) (ax_nd 42 (ax_lf 42 ao_lcmp) (ax_nd 43 (ax_lf 43 (ao_if_ne 50)) (ax_lf 46 (ao_ic (0) 1))))) (ax_nd 51 (ax_nd 47 (ax_lf 47 (ao_goto 81)) (ax_nd 50 (ax_lf 50 (ao_al 0 1)) (ax_lf 51 (ao_gl 10 16)))) (ax_nd 54 (ax_lf 54 (ao_lc (1869505381) 3)) (ax_nd 57 (ax_lf 57 ao_lcmp) (ax_lf 58 (ao_if_ne 65)))))) (ax_nd 69 (ax_nd 62 (ax_nd 61 (ax_lf 61 (ao_ic (1) 1)) (ax_lf 62 (ao_goto 81))) (ax_nd 65 (ax_lf 65 (ao_al 0 1)) (ax_nd 66 (ax_lf 66 (ao_gl 10 16)) (ax_lf 69 (ao_lc (129116991876709) 3))))) (ax_nd 76 (ax_nd 72 (ax_lf 72 ao_lcmp) (ax_nd 73 (ax_lf 73 (ao_if_ne 80)) (ax_lf 76 (ao_ic (2) 1)))) (ax_nd 77 (ax_lf 77 (ao_goto 81)) (ax_nd 80 (ax_lf 80 (ao_ic (-1) 1)) (ax_lf 81 (ao_is 2 1)))))))) (ax_nd 120 (ax_nd 100 (ax_nd 88 (ax_nd 83 (ax_nd 82 (ax_lf 82 (ao_il 2 1)) (ax_lf 83 (ao_ic (-1) 1))) (ax_nd 84 (ax_lf 84 (ao_icmp_ne 92)) (ax_nd 87 (ax_lf 87 (ao_al 0 1)) (ax_lf 88 (ao_inv g 1 10 1 yX10_fails cX10_fails 1 (some .boolean) 1 0 0 0 0))))) (ax_nd 93 (ax_nd 91 (ax_lf 91 (ao_zret 0 0)) (ax_nd 92 (ax_lf 92 (ao_al 0 1)) (ax_lf 93 (ao_inv g 2 10 0 yX10_token cX10_token 3 none 1 0 0 0 0)))) (ax_nd 96 (ax_lf 96 (ao_al 0 1)) (ax_nd 97 (ax_lf 97 (ao_gi 10 24)) (ax_lf 100 (ao_if_eq 152)))))) (ax_nd 110 (ax_nd 104 (ax_nd 103 (ax_lf 103 (ao_al 0 1)) (ax_lf 104 (ao_gr 10 20))) (ax_nd 107 (ax_lf 107 (ao_ic (8) 2)) (ax_nd 109 (ax_lf 109 (ao_al 0 1)) (ax_lf 110 (ao_gr 10 21))))) (ax_nd 115 (ax_nd 113 (ax_lf 113 (ao_ic (0) 1)) (ax_nd 114 (ax_lf 114 ao_iald) (ax_lf 115 ao_iadd))) (ax_nd 116 (ax_lf 116 (ao_il 1 1)) (ax_nd 117 (ax_lf 117 (ao_if_eq 130)) (ax_lf 120 (ao_al 0 1))))))) (ax_nd 137 (ax_nd 127 (ax_nd 124 (ax_nd 121 (ax_lf 121 (ao_gr 10 21)) (ax_lf 124 (ao_ic (1) 1))) (ax_nd 125 (ax_lf 125 ao_iald) (ax_nd 126 (ax_lf 126 ao_ineg) (ax_lf 127 (ao_goto 136))))) (ax_nd 134 (ax_nd 130 (ax_lf 130 (ao_al 0 1)) (ax_nd 131 (ax_lf 131 (ao_gr 10 21)) (ax_lf 134 (ao_ic (1) 1)))) (ax_nd 135 (ax_lf 135 ao_iald) (ax_nd 136 (ax_lf 136 ao_iast) (ax_lf 137 (ao_al 0 1)))))) (ax_nd 147 (ax_nd 141 (ax_nd 138 (ax_lf 138 (ao_gr 10 20)) (ax_lf 141 (ao_ic (14) 2))) (ax_nd 143 (ax_lf 143 (ao_al 0 1)) (ax_nd 144 (ax_lf 144 (ao_gr 10 21)) (ax_lf 147 (ao_ic (0) 1))))) (ax_nd 150 (ax_nd 148 (ax_lf 148 ao_iald) (ax_nd 149 (ax_lf 149 ao_iadd) (ax_lf 150 (ao_il 2 1)))) (ax_nd 151 (ax_lf 151 ao_iast) (ax_nd 152 (ax_lf 152 (ao_ic (1) 1)) (ax_lf 153 (ao_zret 0 0))))))))
theorem oX10_kindLine (g : ax_G) : ∀ pc, ax_ok g cX10_kindLine 3 (some .boolean) RX10 "kindLine" 4 0 0 pc (tX10_kindLine g pc) := ax_nd_ok (ax_nd_ok (ax_nd_ok (ax_nd_ok (ax_nd_ok (ax_nd_ok (ax_lf_ok (ak_aload_n rfl dX10_kindLine_0)) (ax_lf_ok (ak_iconst (by decide) dX10_kindLine_1))) (ax_nd_ok (ax_lf_ok (ak_iconst (by decide) dX10_kindLine_2)) (ax_nd_ok (ax_lf_ok (ak_iconst (by decide) dX10_kindLine_3)) (ax_lf_ok (ak_invV (by decide) (by decide) (by decide) rfl wd_1301 wd_1303 wd_35 wd_106 wd_1304 ⟨by decide, by decide, by decide +kernel⟩ dX10_kindLine_4))))) (ax_nd_ok (ax_nd_ok (ax_lf_ok (ak_if_eq (by decide) dX10_kindLine_7)) (ax_lf_ok (ak_aload_n rfl dX10_kindLine_10))) (ax_nd_ok (ax_lf_ok (ak_iconst (by decide) dX10_kindLine_11)) (ax_nd_ok (ax_lf_ok (ak_iconst (by decide) dX10_kindLine_12)) (ax_lf_ok (ak_bipush (by decide) dX10_kindLine_13)))))) (ax_nd_ok (ax_nd_ok (ax_nd_ok (ax_lf_ok (ak_invV (by decide) (by decide) (by decide) rfl wd_1301 wd_1303 wd_35 wd_106 wd_1304 ⟨by decide, by decide, by decide +kernel⟩ dX10_kindLine_15)) (ax_lf_ok (ak_if_ne (by decide) dX10_kindLine_18))) (ax_nd_ok (ax_lf_ok (ak_iconst (by decide) dX10_kindLine_21)) (ax_nd_ok (ax_lf_ok (ak_zret rfl dX10_kindLine_22)) (ax_lf_ok (ak_aload_n rfl dX10_kindLine_23))))) (ax_nd_ok (ax_nd_ok (ax_lf_ok (ak_gi fF_X10_121 dX10_kindLine_24)) (ax_nd_ok (ax_lf_ok (ak_iconst (by decide) dX10_kindLine_27)) (ax_lf_ok (ak_icmp_eq (by decide) dX10_kindLine_28)))) (ax_nd_ok (ax_lf_ok (ak_iconst (by decide) dX10_kindLine_31)) (ax_nd_ok (ax_lf_ok (ak_goto (by decide) dX10_kindLine_32)) (ax_lf_ok (ak_aload_n rfl dX10_kindLine_35))))))) (ax_nd_ok (ax_nd_ok (ax_nd_ok (ax_nd_ok (ax_lf_ok (ak_gl fF_X10_117 dX10_kindLine_36)) (ax_lf_ok (ak_ldc2 wd_1305 dX10_kindLine_39))) (ax_nd_ok (ax_lf_ok (ak_lcmp dX10_kindLine_42)) (ax_nd_ok (ax_lf_ok (ak_if_ne (by decide) dX10_kindLine_43)) (ax_lf_ok (ak_iconst (by decide) dX10_kindLine_46))))) (ax_nd_ok (ax_nd_ok (ax_lf_ok (ak_goto (by decide) dX10_kindLine_47)) (ax_nd_ok (ax_lf_ok (ak_aload_n rfl dX10_kindLine_50)) (ax_lf_ok (ak_gl fF_X10_117 dX10_kindLine_51)))) (ax_nd_ok (ax_lf_ok (ak_ldc2 wd_1306 dX10_kindLine_54)) (ax_nd_ok (ax_lf_ok (ak_lcmp dX10_kindLine_57)) (ax_lf_ok (ak_if_ne (by decide) dX10_kindLine_58)))))) (ax_nd_ok (ax_nd_ok (ax_nd_ok (ax_lf_ok (ak_iconst (by decide) dX10_kindLine_61)) (ax_lf_ok (ak_goto (by decide) dX10_kindLine_62))) (ax_nd_ok (ax_lf_ok (ak_aload_n rfl dX10_kindLine_65)) (ax_nd_ok (ax_lf_ok (ak_gl fF_X10_117 dX10_kindLine_66)) (ax_lf_ok (ak_ldc2 wd_1307 dX10_kindLine_69))))) (ax_nd_ok (ax_nd_ok (ax_lf_ok (ak_lcmp dX10_kindLine_72)) (ax_nd_ok (ax_lf_ok (ak_if_ne (by decide) dX10_kindLine_73)) (ax_lf_ok (ak_iconst (by decide) dX10_kindLine_76)))) (ax_nd_ok (ax_lf_ok (ak_goto (by decide) dX10_kindLine_77)) (ax_nd_ok (ax_lf_ok (ak_iconst (by decide) dX10_kindLine_80)) (ax_lf_ok (ak_istore_n rfl (by decide) dX10_kindLine_81)))))))) (ax_nd_ok (ax_nd_ok (ax_nd_ok (ax_nd_ok (ax_nd_ok (ax_lf_ok (ak_iload_n rfl dX10_kindLine_82)) (ax_lf_ok (ak_iconst (by decide) dX10_kindLine_83))) (ax_nd_ok (ax_lf_ok (ak_icmp_ne (by decide) dX10_kindLine_84)) (ax_nd_ok (ax_lf_ok (ak_aload_n rfl dX10_kindLine_87)) (ax_lf_ok (ak_invV (by decide) (by decide) (by decide) rfl wd_1285 wd_1287 wd_31 wd_106 wd_1288 ⟨by decide, by decide, by decide +kernel⟩ dX10_kindLine_88))))) (ax_nd_ok (ax_nd_ok (ax_lf_ok (ak_zret rfl dX10_kindLine_91)) (ax_nd_ok (ax_lf_ok (ak_aload_n rfl dX10_kindLine_92)) (ax_lf_ok (ak_invV (by decide) (by decide) (by decide) rfl wd_1259 wd_1261 wd_26 wd_106 wd_1262 ⟨by decide, by decide, by decide +kernel⟩ dX10_kindLine_93)))) (ax_nd_ok (ax_lf_ok (ak_aload_n rfl dX10_kindLine_96)) (ax_nd_ok (ax_lf_ok (ak_gi fF_X10_144 dX10_kindLine_97)) (ax_lf_ok (ak_if_eq (by decide) dX10_kindLine_100)))))) (ax_nd_ok (ax_nd_ok (ax_nd_ok (ax_lf_ok (ak_aload_n rfl dX10_kindLine_103)) (ax_lf_ok (ak_gr fF_X10_41 dX10_kindLine_104))) (ax_nd_ok (ax_lf_ok (ak_bipush (by decide) dX10_kindLine_107)) (ax_nd_ok (ax_lf_ok (ak_aload_n rfl dX10_kindLine_109)) (ax_lf_ok (ak_gr fF_X10_44 dX10_kindLine_110))))) (ax_nd_ok (ax_nd_ok (ax_lf_ok (ak_iconst (by decide) dX10_kindLine_113)) (ax_nd_ok (ax_lf_ok (ak_iald dX10_kindLine_114)) (ax_lf_ok (ak_iadd dX10_kindLine_115)))) (ax_nd_ok (ax_lf_ok (ak_iload_n rfl dX10_kindLine_116)) (ax_nd_ok (ax_lf_ok (ak_if_eq (by decide) dX10_kindLine_117)) (ax_lf_ok (ak_aload_n rfl dX10_kindLine_120))))))) (ax_nd_ok (ax_nd_ok (ax_nd_ok (ax_nd_ok (ax_lf_ok (ak_gr fF_X10_44 dX10_kindLine_121)) (ax_lf_ok (ak_iconst (by decide) dX10_kindLine_124))) (ax_nd_ok (ax_lf_ok (ak_iald dX10_kindLine_125)) (ax_nd_ok (ax_lf_ok (ak_ineg dX10_kindLine_126)) (ax_lf_ok (ak_goto (by decide) dX10_kindLine_127))))) (ax_nd_ok (ax_nd_ok (ax_lf_ok (ak_aload_n rfl dX10_kindLine_130)) (ax_nd_ok (ax_lf_ok (ak_gr fF_X10_44 dX10_kindLine_131)) (ax_lf_ok (ak_iconst (by decide) dX10_kindLine_134)))) (ax_nd_ok (ax_lf_ok (ak_iald dX10_kindLine_135)) (ax_nd_ok (ax_lf_ok (ak_iast dX10_kindLine_136)) (ax_lf_ok (ak_aload_n rfl dX10_kindLine_137)))))) (ax_nd_ok (ax_nd_ok (ax_nd_ok (ax_lf_ok (ak_gr fF_X10_41 dX10_kindLine_138)) (ax_lf_ok (ak_bipush (by decide) dX10_kindLine_141))) (ax_nd_ok (ax_lf_ok (ak_aload_n rfl dX10_kindLine_143)) (ax_nd_ok (ax_lf_ok (ak_gr fF_X10_44 dX10_kindLine_144)) (ax_lf_ok (ak_iconst (by decide) dX10_kindLine_147))))) (ax_nd_ok (ax_nd_ok (ax_lf_ok (ak_iald dX10_kindLine_148)) (ax_nd_ok (ax_lf_ok (ak_iadd dX10_kindLine_149)) (ax_lf_ok (ak_iload_n rfl dX10_kindLine_150)))) (ax_nd_ok (ax_lf_ok (ak_iast dX10_kindLine_151)) (ax_nd_ok (ax_lf_ok (ak_iconst (by decide) dX10_kindLine_152)) (ax_lf_ok (ak_zret rfl dX10_kindLine_153))))))))
abbrev mX10_kindLine (g : ax_G) (as : List Value) (h : ax_H) (Ret : Option Value → ax_H → Prop) : Prop := ax_M g 4 0 0 yX10_kindLine cX10_kindLine 3 (some .boolean) as h Ret
theorem dX10_ofOne_0 : decode cX10_ofOne 0 = .ok (.aload_n 0, 1) := by decide +kernel
theorem dX10_ofOne_1 : decode cX10_ofOne 1 = .ok (.iconst 0, 1) := by decide +kernel
theorem dX10_ofOne_2 : decode cX10_ofOne 2 = .ok (.iconst 0, 1) := by decide +kernel
theorem dX10_ofOne_3 : decode cX10_ofOne 3 = .ok (.iconst 5, 1) := by decide +kernel
theorem dX10_ofOne_4 : decode cX10_ofOne 4 = .ok (.invokevirtual 151, 3) := by decide +kernel
theorem dX10_ofOne_7 : decode cX10_ofOne 7 = .ok (.ifCond .ne 5, 3) := by decide +kernel
theorem dX10_ofOne_10 : decode cX10_ofOne 10 = .ok (.iconst 0, 1) := by decide +kernel
theorem dX10_ofOne_11 : decode cX10_ofOne 11 = .ok (.ireturn, 1) := by decide +kernel
theorem dX10_ofOne_12 : decode cX10_ofOne 12 = .ok (.aload_n 0, 1) := by decide +kernel
theorem dX10_ofOne_13 : decode cX10_ofOne 13 = .ok (.aload_n 0, 1) := by decide +kernel
theorem dX10_ofOne_14 : decode cX10_ofOne 14 = .ok (.getfield 160, 3) := by decide +kernel
theorem dX10_ofOne_17 : decode cX10_ofOne 17 = .ok (.aload_n 0, 1) := by decide +kernel
theorem dX10_ofOne_18 : decode cX10_ofOne 18 = .ok (.getfield 44, 3) := by decide +kernel
theorem dX10_ofOne_21 : decode cX10_ofOne 21 = .ok (.iconst 0, 1) := by decide +kernel
theorem dX10_ofOne_22 : decode cX10_ofOne 22 = .ok (.iaload, 1) := by decide +kernel
theorem dX10_ofOne_23 : decode cX10_ofOne 23 = .ok (.invokestatic 163, 3) := by decide +kernel
theorem dX10_ofOne_26 : decode cX10_ofOne 26 = .ok (.putfield 160, 3) := by decide +kernel
theorem dX10_ofOne_29 : decode cX10_ofOne 29 = .ok (.aload_n 0, 1) := by decide +kernel
theorem dX10_ofOne_30 : decode cX10_ofOne 30 = .ok (.iconst 1, 1) := by decide +kernel
theorem dX10_ofOne_31 : decode cX10_ofOne 31 = .ok (.iconst 0, 1) := by decide +kernel
theorem dX10_ofOne_32 : decode cX10_ofOne 32 = .ok (.bipush 11, 2) := by decide +kernel
theorem dX10_ofOne_34 : decode cX10_ofOne 34 = .ok (.invokevirtual 151, 3) := by decide +kernel
theorem dX10_ofOne_37 : decode cX10_ofOne 37 = .ok (.ifCond .ne 5, 3) := by decide +kernel
theorem dX10_ofOne_40 : decode cX10_ofOne 40 = .ok (.iconst 0, 1) := by decide +kernel
theorem dX10_ofOne_41 : decode cX10_ofOne 41 = .ok (.ireturn, 1) := by decide +kernel
theorem dX10_ofOne_42 : decode cX10_ofOne 42 = .ok (.aload_n 0, 1) := by decide +kernel
theorem dX10_ofOne_43 : decode cX10_ofOne 43 = .ok (.aload_n 0, 1) := by decide +kernel
theorem dX10_ofOne_44 : decode cX10_ofOne 44 = .ok (.getfield 167, 3) := by decide +kernel
theorem dX10_ofOne_47 : decode cX10_ofOne 47 = .ok (.aload_n 0, 1) := by decide +kernel
theorem dX10_ofOne_48 : decode cX10_ofOne 48 = .ok (.getfield 44, 3) := by decide +kernel
theorem dX10_ofOne_51 : decode cX10_ofOne 51 = .ok (.iconst 1, 1) := by decide +kernel
theorem dX10_ofOne_52 : decode cX10_ofOne 52 = .ok (.iaload, 1) := by decide +kernel
theorem dX10_ofOne_53 : decode cX10_ofOne 53 = .ok (.invokestatic 163, 3) := by decide +kernel
theorem dX10_ofOne_56 : decode cX10_ofOne 56 = .ok (.putfield 167, 3) := by decide +kernel
theorem dX10_ofOne_59 : decode cX10_ofOne 59 = .ok (.aload_n 0, 1) := by decide +kernel
theorem dX10_ofOne_60 : decode cX10_ofOne 60 = .ok (.iconst 2, 1) := by decide +kernel
theorem dX10_ofOne_61 : decode cX10_ofOne 61 = .ok (.iconst 0, 1) := by decide +kernel
theorem dX10_ofOne_62 : decode cX10_ofOne 62 = .ok (.iload_n 1, 1) := by decide +kernel
theorem dX10_ofOne_63 : decode cX10_ofOne 63 = .ok (.ifCond .eq 8, 3) := by decide +kernel
theorem dX10_ofOne_66 : decode cX10_ofOne 66 = .ok (.bipush 9, 2) := by decide +kernel
theorem dX10_ofOne_68 : decode cX10_ofOne 68 = .ok (.goto 4, 3) := by decide +kernel
theorem dX10_ofOne_71 : decode cX10_ofOne 71 = .ok (.iconst 5, 1) := by decide +kernel
theorem dX10_ofOne_72 : decode cX10_ofOne 72 = .ok (.invokevirtual 151, 3) := by decide +kernel
theorem dX10_ofOne_75 : decode cX10_ofOne 75 = .ok (.ifCond .ne 5, 3) := by decide +kernel
theorem dX10_ofOne_78 : decode cX10_ofOne 78 = .ok (.iconst 0, 1) := by decide +kernel
theorem dX10_ofOne_79 : decode cX10_ofOne 79 = .ok (.ireturn, 1) := by decide +kernel
theorem dX10_ofOne_80 : decode cX10_ofOne 80 = .ok (.aload_n 0, 1) := by decide +kernel
theorem dX10_ofOne_81 : decode cX10_ofOne 81 = .ok (.getfield 144, 3) := by decide +kernel
theorem dX10_ofOne_84 : decode cX10_ofOne 84 = .ok (.ifCond .eq 42, 3) := by decide +kernel
theorem dX10_ofOne_87 : decode cX10_ofOne 87 = .ok (.aload_n 0, 1) := by decide +kernel
theorem dX10_ofOne_88 : decode cX10_ofOne 88 = .ok (.getfield 41, 3) := by decide +kernel
theorem dX10_ofOne_91 : decode cX10_ofOne 91 = .ok (.iload_n 1, 1) := by decide +kernel
theorem dX10_ofOne_92 : decode cX10_ofOne 92 = .ok (.ifCond .eq 8, 3) := by decide +kernel
theorem dX10_ofOne_95 : decode cX10_ofOne 95 = .ok (.bipush 92, 2) := by decide +kernel
theorem dX10_ofOne_97 : decode cX10_ofOne 97 = .ok (.goto 5, 3) := by decide +kernel
theorem dX10_ofOne_100 : decode cX10_ofOne 100 = .ok (.bipush 20, 2) := by decide +kernel
theorem dX10_ofOne_102 : decode cX10_ofOne 102 = .ok (.bipush 12, 2) := by decide +kernel
theorem dX10_ofOne_104 : decode cX10_ofOne 104 = .ok (.aload_n 0, 1) := by decide +kernel
theorem dX10_ofOne_105 : decode cX10_ofOne 105 = .ok (.getfield 44, 3) := by decide +kernel
theorem dX10_ofOne_108 : decode cX10_ofOne 108 = .ok (.iconst 0, 1) := by decide +kernel
theorem dX10_ofOne_109 : decode cX10_ofOne 109 = .ok (.iaload, 1) := by decide +kernel
theorem dX10_ofOne_110 : decode cX10_ofOne 110 = .ok (.imul, 1) := by decide +kernel
theorem dX10_ofOne_111 : decode cX10_ofOne 111 = .ok (.iadd, 1) := by decide +kernel
theorem dX10_ofOne_112 : decode cX10_ofOne 112 = .ok (.aload_n 0, 1) := by decide +kernel
theorem dX10_ofOne_113 : decode cX10_ofOne 113 = .ok (.getfield 44, 3) := by decide +kernel
theorem dX10_ofOne_116 : decode cX10_ofOne 116 = .ok (.iconst 1, 1) := by decide +kernel
theorem dX10_ofOne_117 : decode cX10_ofOne 117 = .ok (.iaload, 1) := by decide +kernel
theorem dX10_ofOne_118 : decode cX10_ofOne 118 = .ok (.iadd, 1) := by decide +kernel
theorem dX10_ofOne_119 : decode cX10_ofOne 119 = .ok (.aload_n 0, 1) := by decide +kernel
theorem dX10_ofOne_120 : decode cX10_ofOne 120 = .ok (.getfield 44, 3) := by decide +kernel
theorem dX10_ofOne_123 : decode cX10_ofOne 123 = .ok (.iconst 2, 1) := by decide +kernel
theorem dX10_ofOne_124 : decode cX10_ofOne 124 = .ok (.iaload, 1) := by decide +kernel
theorem dX10_ofOne_125 : decode cX10_ofOne 125 = .ok (.iastore, 1) := by decide +kernel
theorem dX10_ofOne_126 : decode cX10_ofOne 126 = .ok (.iconst 1, 1) := by decide +kernel
theorem dX10_ofOne_127 : decode cX10_ofOne 127 = .ok (.ireturn, 1) := by decide +kernel
def tX10_ofOne (g : ax_G) : Nat → ax_O := ax_nd 61 (ax_nd 29 (ax_nd 12 (ax_nd 3 (ax_nd 1 (ax_nd 0 (ax_lf 0 (ao_al 0 1)) (ax_lf 1 (ao_ic (0) 1))) (ax_nd 2 (ax_lf 2 (ao_ic (0) 1)) (ax_lf 3 (ao_ic (5) 1)))) (ax_nd 7 (ax_nd 4 (ax_lf 4 (ao_inv g 3 10 1 yX10_take cX10_take 4 (some .boolean) 4 0 0 0 0)) (ax_lf 7 (ao_if_ne 12))) (ax_nd 10 (ax_lf 10 (ao_ic (0) 1)) (ax_nd 11 (ax_lf 11 (ao_zret 0 0)) (ax_lf 12 (ao_al 0 1)))))) (ax_nd 18 (ax_nd 14 (ax_nd 13 (ax_lf 13 (ao_al 0 1)) (ax_lf 14 (ao_gi 10 23))) (ax_nd 17 (ax_lf 17 (ao_al 0 1)) (ax_lf 18 (ao_gr 10 21)))) (ax_nd 22 (ax_nd 21 (ax_lf 21 (ao_ic (0) 1)) (ax_lf 22 ao_iald)) (ax_nd 23 (ax_lf 23 (ao_inv g 1 99 1 yX10_greater cX10_greater 2 (some .int) 2 0 0 0 0)) (ax_nd 26 (ax_lf 26 (ao_pi 10 23)) (ax_lf 29 (ao_al 0 1))))))) (ax_nd 43 (ax_nd 34 (ax_nd 31 (ax_nd 30 (ax_lf 30 (ao_ic (1) 1)) (ax_lf 31 (ao_ic (0) 1))) (ax_nd 32 (ax_lf 32 (ao_ic (11) 2)) (ax_lf 34 (ao_inv g 3 10 1 yX10_take cX10_take 4 (some .boolean) 4 0 0 0 0)))) (ax_nd 40 (ax_nd 37 (ax_lf 37 (ao_if_ne 42)) (ax_lf 40 (ao_ic (0) 1))) (ax_nd 41 (ax_lf 41 (ao_zret 0 0)) (ax_nd 42 (ax_lf 42 (ao_al 0 1)) (ax_lf 43 (ao_al 0 1)))))) (ax_nd 52 (ax_nd 47 (ax_nd 44 (ax_lf 44 (ao_gi 10 22)) (ax_lf 47 (ao_al 0 1))) (ax_nd 48 (ax_lf 48 (ao_gr 10 21)) (ax_nd 51 (ax_lf 51 (ao_ic (1) 1)) (ax_lf 52 ao_iald)))) (ax_nd 56 (ax_nd 53 (ax_lf 53 (ao_inv g 1 99 1 yX10_greater cX10_greater 2 (some .int) 2 0 0 0 0)) (ax_lf 56 (ao_pi 10 22))) (ax_nd 59 (ax_lf 59 (ao_al 0 1)) (ax_nd 60 (ax_lf 60 (ao_ic (2) 1)) (ax_lf 61 (ao_ic (0) 1)))))))) (ax_nd 100 (ax_nd 79 (ax_nd 68 (ax_nd 63 (ax_nd 62 (ax_lf 62 (ao_il 1 1)) (ax_lf 63 (ao_if_eq 71))) (ax_nd 66 (ax_lf 66 (ao_ic (9) 2)) (ax_lf 68 (ao_goto 72)))) (ax_nd 72 (ax_nd 71 (ax_lf 71 (ao_ic (5) 1)) (ax_lf 72 (ao_inv g 3 10 1 yX10_take cX10_take 4 (some .boolean) 4 0 0 0 0))) (ax_nd 75 (ax_lf 75 (ao_if_ne 80)) (ax_nd 78 (ax_lf 78 (ao_ic (0) 1)) (ax_lf 79 (ao_zret 0 0)))))) (ax_nd 88 (ax_nd 81 (ax_nd 80 (ax_lf 80 (ao_al 0 1)) (ax_lf 81 (ao_gi 10 24))) (ax_nd 84 (ax_lf 84 (ao_if_eq 126)) (ax_nd 87 (ax_lf 87 (ao_al 0 1)) (ax_lf 88 (ao_gr 10 20))))) (ax_nd 92 (ax_nd 91 (ax_lf 91 (ao_il 1 1)) (ax_lf 92 (ao_if_eq 100))) (ax_nd 95 (ax_lf 95 (ao_ic (92) 2)) (ax_nd 97 (ax_lf 97 (ao_goto 102)) (ax_lf 100 (ao_ic (20) 2))))))) (ax_nd 113 (ax_nd 108 (ax_nd 104 (ax_nd 102 (ax_lf 102 (ao_ic (12) 2)) (ax_lf 104 (ao_al 0 1))) (ax_nd 105 (ax_lf 105 (ao_gr 10 21)) (ax_lf 108 (ao_ic (0) 1)))) (ax_nd 110 (ax_nd 109 (ax_lf 109 ao_iald) (ax_lf 110 ao_imul)) (ax_nd 111 (ax_lf 111 ao_iadd) (ax_nd 112 (ax_lf 112 (ao_al 0 1)) (ax_lf 113 (ao_gr 10 21)))))) (ax_nd 120 (ax_nd 117 (ax_nd 116 (ax_lf 116 (ao_ic (1) 1)) (ax_lf 117 ao_iald)) (ax_nd 118 (ax_lf 118 ao_iadd) (ax_nd 119 (ax_lf 119 (ao_al 0 1)) (ax_lf 120 (ao_gr 10 21))))) (ax_nd 124 (ax_nd 123 (ax_lf 123 (ao_ic (2) 1)) (ax_lf 124 ao_iald)) (ax_nd 125 (ax_lf 125 ao_iast) (ax_nd 126 (ax_lf 126 (ao_ic (1) 1)) (ax_lf 127 (ao_zret 0 0))))))))
theorem oX10_ofOne (g : ax_G) : ∀ pc, ax_ok g cX10_ofOne 2 (some .boolean) RX10 "ofOne" 4 0 0 pc (tX10_ofOne g pc) := ax_nd_ok (ax_nd_ok (ax_nd_ok (ax_nd_ok (ax_nd_ok (ax_nd_ok (ax_lf_ok (ak_aload_n rfl dX10_ofOne_0)) (ax_lf_ok (ak_iconst (by decide) dX10_ofOne_1))) (ax_nd_ok (ax_lf_ok (ak_iconst (by decide) dX10_ofOne_2)) (ax_lf_ok (ak_iconst (by decide) dX10_ofOne_3)))) (ax_nd_ok (ax_nd_ok (ax_lf_ok (ak_invV (by decide) (by decide) (by decide) rfl wd_1301 wd_1303 wd_35 wd_106 wd_1304 ⟨by decide, by decide, by decide +kernel⟩ dX10_ofOne_4)) (ax_lf_ok (ak_if_ne (by decide) dX10_ofOne_7))) (ax_nd_ok (ax_lf_ok (ak_iconst (by decide) dX10_ofOne_10)) (ax_nd_ok (ax_lf_ok (ak_zret rfl dX10_ofOne_11)) (ax_lf_ok (ak_aload_n rfl dX10_ofOne_12)))))) (ax_nd_ok (ax_nd_ok (ax_nd_ok (ax_lf_ok (ak_aload_n rfl dX10_ofOne_13)) (ax_lf_ok (ak_gi fF_X10_160 dX10_ofOne_14))) (ax_nd_ok (ax_lf_ok (ak_aload_n rfl dX10_ofOne_17)) (ax_lf_ok (ak_gr fF_X10_44 dX10_ofOne_18)))) (ax_nd_ok (ax_nd_ok (ax_lf_ok (ak_iconst (by decide) dX10_ofOne_21)) (ax_lf_ok (ak_iald dX10_ofOne_22))) (ax_nd_ok (ax_lf_ok (ak_invS (by decide) (by decide) wd_1312 wd_1313 wd_106 wd_1314 ⟨by decide, by decide, by decide +kernel⟩ dX10_ofOne_23)) (ax_nd_ok (ax_lf_ok (ak_pi fF_X10_160 fW_X10_160_a dX10_ofOne_26)) (ax_lf_ok (ak_aload_n rfl dX10_ofOne_29))))))) (ax_nd_ok (ax_nd_ok (ax_nd_ok (ax_nd_ok (ax_lf_ok (ak_iconst (by decide) dX10_ofOne_30)) (ax_lf_ok (ak_iconst (by decide) dX10_ofOne_31))) (ax_nd_ok (ax_lf_ok (ak_bipush (by decide) dX10_ofOne_32)) (ax_lf_ok (ak_invV (by decide) (by decide) (by decide) rfl wd_1301 wd_1303 wd_35 wd_106 wd_1304 ⟨by decide, by decide, by decide +kernel⟩ dX10_ofOne_34)))) (ax_nd_ok (ax_nd_ok (ax_lf_ok (ak_if_ne (by decide) dX10_ofOne_37)) (ax_lf_ok (ak_iconst (by decide) dX10_ofOne_40))) (ax_nd_ok (ax_lf_ok (ak_zret rfl dX10_ofOne_41)) (ax_nd_ok (ax_lf_ok (ak_aload_n rfl dX10_ofOne_42)) (ax_lf_ok (ak_aload_n rfl dX10_ofOne_43)))))) (ax_nd_ok (ax_nd_ok (ax_nd_ok (ax_lf_ok (ak_gi fF_X10_167 dX10_ofOne_44)) (ax_lf_ok (ak_aload_n rfl dX10_ofOne_47))) (ax_nd_ok (ax_lf_ok (ak_gr fF_X10_44 dX10_ofOne_48)) (ax_nd_ok (ax_lf_ok (ak_iconst (by decide) dX10_ofOne_51)) (ax_lf_ok (ak_iald dX10_ofOne_52))))) (ax_nd_ok (ax_nd_ok (ax_lf_ok (ak_invS (by decide) (by decide) wd_1312 wd_1313 wd_106 wd_1314 ⟨by decide, by decide, by decide +kernel⟩ dX10_ofOne_53)) (ax_lf_ok (ak_pi fF_X10_167 fW_X10_167_a dX10_ofOne_56))) (ax_nd_ok (ax_lf_ok (ak_aload_n rfl dX10_ofOne_59)) (ax_nd_ok (ax_lf_ok (ak_iconst (by decide) dX10_ofOne_60)) (ax_lf_ok (ak_iconst (by decide) dX10_ofOne_61)))))))) (ax_nd_ok (ax_nd_ok (ax_nd_ok (ax_nd_ok (ax_nd_ok (ax_lf_ok (ak_iload_n rfl dX10_ofOne_62)) (ax_lf_ok (ak_if_eq (by decide) dX10_ofOne_63))) (ax_nd_ok (ax_lf_ok (ak_bipush (by decide) dX10_ofOne_66)) (ax_lf_ok (ak_goto (by decide) dX10_ofOne_68)))) (ax_nd_ok (ax_nd_ok (ax_lf_ok (ak_iconst (by decide) dX10_ofOne_71)) (ax_lf_ok (ak_invV (by decide) (by decide) (by decide) rfl wd_1301 wd_1303 wd_35 wd_106 wd_1304 ⟨by decide, by decide, by decide +kernel⟩ dX10_ofOne_72))) (ax_nd_ok (ax_lf_ok (ak_if_ne (by decide) dX10_ofOne_75)) (ax_nd_ok (ax_lf_ok (ak_iconst (by decide) dX10_ofOne_78)) (ax_lf_ok (ak_zret rfl dX10_ofOne_79)))))) (ax_nd_ok (ax_nd_ok (ax_nd_ok (ax_lf_ok (ak_aload_n rfl dX10_ofOne_80)) (ax_lf_ok (ak_gi fF_X10_144 dX10_ofOne_81))) (ax_nd_ok (ax_lf_ok (ak_if_eq (by decide) dX10_ofOne_84)) (ax_nd_ok (ax_lf_ok (ak_aload_n rfl dX10_ofOne_87)) (ax_lf_ok (ak_gr fF_X10_41 dX10_ofOne_88))))) (ax_nd_ok (ax_nd_ok (ax_lf_ok (ak_iload_n rfl dX10_ofOne_91)) (ax_lf_ok (ak_if_eq (by decide) dX10_ofOne_92))) (ax_nd_ok (ax_lf_ok (ak_bipush (by decide) dX10_ofOne_95)) (ax_nd_ok (ax_lf_ok (ak_goto (by decide) dX10_ofOne_97)) (ax_lf_ok (ak_bipush (by decide) dX10_ofOne_100))))))) (ax_nd_ok (ax_nd_ok (ax_nd_ok (ax_nd_ok (ax_lf_ok (ak_bipush (by decide) dX10_ofOne_102)) (ax_lf_ok (ak_aload_n rfl dX10_ofOne_104))) (ax_nd_ok (ax_lf_ok (ak_gr fF_X10_44 dX10_ofOne_105)) (ax_lf_ok (ak_iconst (by decide) dX10_ofOne_108)))) (ax_nd_ok (ax_nd_ok (ax_lf_ok (ak_iald dX10_ofOne_109)) (ax_lf_ok (ak_imul dX10_ofOne_110))) (ax_nd_ok (ax_lf_ok (ak_iadd dX10_ofOne_111)) (ax_nd_ok (ax_lf_ok (ak_aload_n rfl dX10_ofOne_112)) (ax_lf_ok (ak_gr fF_X10_44 dX10_ofOne_113)))))) (ax_nd_ok (ax_nd_ok (ax_nd_ok (ax_lf_ok (ak_iconst (by decide) dX10_ofOne_116)) (ax_lf_ok (ak_iald dX10_ofOne_117))) (ax_nd_ok (ax_lf_ok (ak_iadd dX10_ofOne_118)) (ax_nd_ok (ax_lf_ok (ak_aload_n rfl dX10_ofOne_119)) (ax_lf_ok (ak_gr fF_X10_44 dX10_ofOne_120))))) (ax_nd_ok (ax_nd_ok (ax_lf_ok (ak_iconst (by decide) dX10_ofOne_123)) (ax_lf_ok (ak_iald dX10_ofOne_124))) (ax_nd_ok (ax_lf_ok (ak_iast dX10_ofOne_125)) (ax_nd_ok (ax_lf_ok (ak_iconst (by decide) dX10_ofOne_126)) (ax_lf_ok (ak_zret rfl dX10_ofOne_127))))))))
abbrev mX10_ofOne (g : ax_G) (as : List Value) (h : ax_H) (Ret : Option Value → ax_H → Prop) : Prop := ax_M g 4 0 0 yX10_ofOne cX10_ofOne 2 (some .boolean) as h Ret
end
