section
theorem dX10_republicLine_0 : decode cX10_republicLine 0 = .ok (.lload_n 1, 1) := by decide +kernel
theorem dX10_republicLine_1 : decode cX10_republicLine 1 = .ok (.ldc2_w 170, 3) := by decide +kernel
theorem dX10_republicLine_4 : decode cX10_republicLine 4 = .ok (.lcmp, 1) := by decide +kernel
theorem dX10_republicLine_5 : decode cX10_republicLine 5 = .ok (.ifCond .eq 48, 3) := by decide +kernel
theorem dX10_republicLine_8 : decode cX10_republicLine 8 = .ok (.lload_n 1, 1) := by decide +kernel
theorem dX10_republicLine_9 : decode cX10_republicLine 9 = .ok (.ldc2_w 172, 3) := by decide +kernel
theorem dX10_republicLine_12 : decode cX10_republicLine 12 = .ok (.lcmp, 1) := by decide +kernel
theorem dX10_republicLine_13 : decode cX10_republicLine 13 = .ok (.ifCond .eq 40, 3) := by decide +kernel
theorem dX10_republicLine_16 : decode cX10_republicLine 16 = .ok (.lload_n 1, 1) := by decide +kernel
theorem dX10_republicLine_17 : decode cX10_republicLine 17 = .ok (.ldc2_w 174, 3) := by decide +kernel
theorem dX10_republicLine_20 : decode cX10_republicLine 20 = .ok (.lcmp, 1) := by decide +kernel
theorem dX10_republicLine_21 : decode cX10_republicLine 21 = .ok (.ifCond .eq 32, 3) := by decide +kernel
theorem dX10_republicLine_24 : decode cX10_republicLine 24 = .ok (.lload_n 1, 1) := by decide +kernel
theorem dX10_republicLine_25 : decode cX10_republicLine 25 = .ok (.ldc2_w 176, 3) := by decide +kernel
theorem dX10_republicLine_28 : decode cX10_republicLine 28 = .ok (.lcmp, 1) := by decide +kernel
theorem dX10_republicLine_29 : decode cX10_republicLine 29 = .ok (.ifCond .eq 24, 3) := by decide +kernel
theorem dX10_republicLine_32 : decode cX10_republicLine 32 = .ok (.lload_n 1, 1) := by decide +kernel
theorem dX10_republicLine_33 : decode cX10_republicLine 33 = .ok (.ldc2_w 178, 3) := by decide +kernel
theorem dX10_republicLine_36 : decode cX10_republicLine 36 = .ok (.lcmp, 1) := by decide +kernel
theorem dX10_republicLine_37 : decode cX10_republicLine 37 = .ok (.ifCond .eq 16, 3) := by decide +kernel
theorem dX10_republicLine_40 : decode cX10_republicLine 40 = .ok (.lload_n 1, 1) := by decide +kernel
theorem dX10_republicLine_41 : decode cX10_republicLine 41 = .ok (.ldc2_w 180, 3) := by decide +kernel
theorem dX10_republicLine_44 : decode cX10_republicLine 44 = .ok (.lcmp, 1) := by decide +kernel
theorem dX10_republicLine_45 : decode cX10_republicLine 45 = .ok (.ifCond .eq 8, 3) := by decide +kernel
theorem dX10_republicLine_48 : decode cX10_republicLine 48 = .ok (.aload_n 0, 1) := by decide +kernel
theorem dX10_republicLine_49 : decode cX10_republicLine 49 = .ok (.invokevirtual 136, 3) := by decide +kernel
theorem dX10_republicLine_52 : decode cX10_republicLine 52 = .ok (.ireturn, 1) := by decide +kernel
theorem dX10_republicLine_53 : decode cX10_republicLine 53 = .ok (.lload_n 1, 1) := by decide +kernel
theorem dX10_republicLine_54 : decode cX10_republicLine 54 = .ok (.ldc2_w 176, 3) := by decide +kernel
theorem dX10_republicLine_57 : decode cX10_republicLine 57 = .ok (.lcmp, 1) := by decide +kernel
theorem dX10_republicLine_58 : decode cX10_republicLine 58 = .ok (.ifCond .ne 11, 3) := by decide +kernel
theorem dX10_republicLine_61 : decode cX10_republicLine 61 = .ok (.aload_n 0, 1) := by decide +kernel
theorem dX10_republicLine_62 : decode cX10_republicLine 62 = .ok (.iconst 1, 1) := by decide +kernel
theorem dX10_republicLine_63 : decode cX10_republicLine 63 = .ok (.bipush 6, 2) := by decide +kernel
theorem dX10_republicLine_65 : decode cX10_republicLine 65 = .ok (.iload_n 3, 1) := by decide +kernel
theorem dX10_republicLine_66 : decode cX10_republicLine 66 = .ok (.invokevirtual 182, 3) := by decide +kernel
theorem dX10_republicLine_69 : decode cX10_republicLine 69 = .ok (.aload_n 0, 1) := by decide +kernel
theorem dX10_republicLine_70 : decode cX10_republicLine 70 = .ok (.invokevirtual 148, 3) := by decide +kernel
theorem dX10_republicLine_73 : decode cX10_republicLine 73 = .ok (.lload_n 1, 1) := by decide +kernel
theorem dX10_republicLine_74 : decode cX10_republicLine 74 = .ok (.ldc2_w 172, 3) := by decide +kernel
theorem dX10_republicLine_77 : decode cX10_republicLine 77 = .ok (.lcmp, 1) := by decide +kernel
theorem dX10_republicLine_78 : decode cX10_republicLine 78 = .ok (.ifCond .eq 11, 3) := by decide +kernel
theorem dX10_republicLine_81 : decode cX10_republicLine 81 = .ok (.lload_n 1, 1) := by decide +kernel
theorem dX10_republicLine_82 : decode cX10_republicLine 82 = .ok (.ldc2_w 174, 3) := by decide +kernel
theorem dX10_republicLine_85 : decode cX10_republicLine 85 = .ok (.lcmp, 1) := by decide +kernel
theorem dX10_republicLine_86 : decode cX10_republicLine 86 = .ok (.ifCond .ne 21, 3) := by decide +kernel
theorem dX10_republicLine_89 : decode cX10_republicLine 89 = .ok (.aload_n 0, 1) := by decide +kernel
theorem dX10_republicLine_90 : decode cX10_republicLine 90 = .ok (.lload_n 1, 1) := by decide +kernel
theorem dX10_republicLine_91 : decode cX10_republicLine 91 = .ok (.ldc2_w 174, 3) := by decide +kernel
theorem dX10_republicLine_94 : decode cX10_republicLine 94 = .ok (.lcmp, 1) := by decide +kernel
theorem dX10_republicLine_95 : decode cX10_republicLine 95 = .ok (.ifCond .ne 7, 3) := by decide +kernel
theorem dX10_republicLine_98 : decode cX10_republicLine 98 = .ok (.iconst 1, 1) := by decide +kernel
theorem dX10_republicLine_99 : decode cX10_republicLine 99 = .ok (.goto 4, 3) := by decide +kernel
theorem dX10_republicLine_102 : decode cX10_republicLine 102 = .ok (.iconst 0, 1) := by decide +kernel
theorem dX10_republicLine_103 : decode cX10_republicLine 103 = .ok (.invokevirtual 186, 3) := by decide +kernel
theorem dX10_republicLine_106 : decode cX10_republicLine 106 = .ok (.ireturn, 1) := by decide +kernel
theorem dX10_republicLine_107 : decode cX10_republicLine 107 = .ok (.lload_n 1, 1) := by decide +kernel
theorem dX10_republicLine_108 : decode cX10_republicLine 108 = .ok (.ldc2_w 178, 3) := by decide +kernel
theorem dX10_republicLine_111 : decode cX10_republicLine 111 = .ok (.lcmp, 1) := by decide +kernel
theorem dX10_republicLine_112 : decode cX10_republicLine 112 = .ok (.ifCond .eq 11, 3) := by decide +kernel
theorem dX10_republicLine_115 : decode cX10_republicLine 115 = .ok (.lload_n 1, 1) := by decide +kernel
theorem dX10_republicLine_116 : decode cX10_republicLine 116 = .ok (.ldc2_w 180, 3) := by decide +kernel
theorem dX10_republicLine_119 : decode cX10_republicLine 119 = .ok (.lcmp, 1) := by decide +kernel
theorem dX10_republicLine_120 : decode cX10_republicLine 120 = .ok (.ifCond .ne 21, 3) := by decide +kernel
theorem dX10_republicLine_123 : decode cX10_republicLine 123 = .ok (.aload_n 0, 1) := by decide +kernel
theorem dX10_republicLine_124 : decode cX10_republicLine 124 = .ok (.lload_n 1, 1) := by decide +kernel
theorem dX10_republicLine_125 : decode cX10_republicLine 125 = .ok (.ldc2_w 180, 3) := by decide +kernel
theorem dX10_republicLine_128 : decode cX10_republicLine 128 = .ok (.lcmp, 1) := by decide +kernel
theorem dX10_republicLine_129 : decode cX10_republicLine 129 = .ok (.ifCond .ne 7, 3) := by decide +kernel
theorem dX10_republicLine_132 : decode cX10_republicLine 132 = .ok (.iconst 1, 1) := by decide +kernel
theorem dX10_republicLine_133 : decode cX10_republicLine 133 = .ok (.goto 4, 3) := by decide +kernel
theorem dX10_republicLine_136 : decode cX10_republicLine 136 = .ok (.iconst 0, 1) := by decide +kernel
theorem dX10_republicLine_137 : decode cX10_republicLine 137 = .ok (.invokevirtual 190, 3) := by decide +kernel
theorem dX10_republicLine_140 : decode cX10_republicLine 140 = .ok (.ireturn, 1) := by decide +kernel
theorem dX10_republicLine_141 : decode cX10_republicLine 141 = .ok (.aload_n 0, 1) := by decide +kernel
theorem dX10_republicLine_142 : decode cX10_republicLine 142 = .ok (.iconst 0, 1) := by decide +kernel
theorem dX10_republicLine_143 : decode cX10_republicLine 143 = .ok (.lload_n 1, 1) := by decide +kernel
theorem dX10_republicLine_144 : decode cX10_republicLine 144 = .ok (.ldc2_w 170, 3) := by decide +kernel
theorem dX10_republicLine_147 : decode cX10_republicLine 147 = .ok (.lcmp, 1) := by decide +kernel
theorem dX10_republicLine_148 : decode cX10_republicLine 148 = .ok (.ifCond .ne 7, 3) := by decide +kernel
theorem dX10_republicLine_151 : decode cX10_republicLine 151 = .ok (.iconst 2, 1) := by decide +kernel
theorem dX10_republicLine_152 : decode cX10_republicLine 152 = .ok (.goto 4, 3) := by decide +kernel
theorem dX10_republicLine_155 : decode cX10_republicLine 155 = .ok (.iconst 0, 1) := by decide +kernel
theorem dX10_republicLine_156 : decode cX10_republicLine 156 = .ok (.lload_n 1, 1) := by decide +kernel
theorem dX10_republicLine_157 : decode cX10_republicLine 157 = .ok (.ldc2_w 170, 3) := by decide +kernel
theorem dX10_republicLine_160 : decode cX10_republicLine 160 = .ok (.lcmp, 1) := by decide +kernel
theorem dX10_republicLine_161 : decode cX10_republicLine 161 = .ok (.ifCond .ne 8, 3) := by decide +kernel
theorem dX10_republicLine_164 : decode cX10_republicLine 164 = .ok (.bipush 12, 2) := by decide +kernel
theorem dX10_republicLine_166 : decode cX10_republicLine 166 = .ok (.goto 6, 3) := by decide +kernel
theorem dX10_republicLine_169 : decode cX10_republicLine 169 = .ok (.sipush 999, 3) := by decide +kernel
theorem dX10_republicLine_172 : decode cX10_republicLine 172 = .ok (.invokevirtual 151, 3) := by decide +kernel
theorem dX10_republicLine_175 : decode cX10_republicLine 175 = .ok (.ifCond .ne 5, 3) := by decide +kernel
theorem dX10_republicLine_178 : decode cX10_republicLine 178 = .ok (.iconst 0, 1) := by decide +kernel
theorem dX10_republicLine_179 : decode cX10_republicLine 179 = .ok (.ireturn, 1) := by decide +kernel
theorem dX10_republicLine_180 : decode cX10_republicLine 180 = .ok (.lload_n 1, 1) := by decide +kernel
theorem dX10_republicLine_181 : decode cX10_republicLine 181 = .ok (.ldc2_w 170, 3) := by decide +kernel
theorem dX10_republicLine_184 : decode cX10_republicLine 184 = .ok (.lcmp, 1) := by decide +kernel
theorem dX10_republicLine_185 : decode cX10_republicLine 185 = .ok (.ifCond .ne 18, 3) := by decide +kernel
theorem dX10_republicLine_188 : decode cX10_republicLine 188 = .ok (.aload_n 0, 1) := by decide +kernel
theorem dX10_republicLine_189 : decode cX10_republicLine 189 = .ok (.getfield 41, 3) := by decide +kernel
theorem dX10_republicLine_192 : decode cX10_republicLine 192 = .ok (.iconst 0, 1) := by decide +kernel
theorem dX10_republicLine_193 : decode cX10_republicLine 193 = .ok (.aload_n 0, 1) := by decide +kernel
theorem dX10_republicLine_194 : decode cX10_republicLine 194 = .ok (.getfield 44, 3) := by decide +kernel
theorem dX10_republicLine_197 : decode cX10_republicLine 197 = .ok (.iconst 0, 1) := by decide +kernel
theorem dX10_republicLine_198 : decode cX10_republicLine 198 = .ok (.iaload, 1) := by decide +kernel
theorem dX10_republicLine_199 : decode cX10_republicLine 199 = .ok (.iastore, 1) := by decide +kernel
theorem dX10_republicLine_200 : decode cX10_republicLine 200 = .ok (.goto 43, 3) := by decide +kernel
theorem dX10_republicLine_203 : decode cX10_republicLine 203 = .ok (.aload_n 0, 1) := by decide +kernel
theorem dX10_republicLine_204 : decode cX10_republicLine 204 = .ok (.getfield 41, 3) := by decide +kernel
theorem dX10_republicLine_207 : decode cX10_republicLine 207 = .ok (.iconst 1, 1) := by decide +kernel
theorem dX10_republicLine_208 : decode cX10_republicLine 208 = .ok (.iaload, 1) := by decide +kernel
theorem dX10_republicLine_209 : decode cX10_republicLine 209 = .ok (.bipush 6, 2) := by decide +kernel
theorem dX10_republicLine_211 : decode cX10_republicLine 211 = .ok (.if_icmp .ge 32, 3) := by decide +kernel
theorem dX10_republicLine_214 : decode cX10_republicLine 214 = .ok (.aload_n 0, 1) := by decide +kernel
theorem dX10_republicLine_215 : decode cX10_republicLine 215 = .ok (.getfield 41, 3) := by decide +kernel
theorem dX10_republicLine_218 : decode cX10_republicLine 218 = .ok (.iconst 2, 1) := by decide +kernel
theorem dX10_republicLine_219 : decode cX10_republicLine 219 = .ok (.aload_n 0, 1) := by decide +kernel
theorem dX10_republicLine_220 : decode cX10_republicLine 220 = .ok (.getfield 41, 3) := by decide +kernel
theorem dX10_republicLine_223 : decode cX10_republicLine 223 = .ok (.iconst 1, 1) := by decide +kernel
theorem dX10_republicLine_224 : decode cX10_republicLine 224 = .ok (.iaload, 1) := by decide +kernel
theorem dX10_republicLine_225 : decode cX10_republicLine 225 = .ok (.iadd, 1) := by decide +kernel
theorem dX10_republicLine_226 : decode cX10_republicLine 226 = .ok (.aload_n 0, 1) := by decide +kernel
theorem dX10_republicLine_227 : decode cX10_republicLine 227 = .ok (.getfield 44, 3) := by decide +kernel
theorem dX10_republicLine_230 : decode cX10_republicLine 230 = .ok (.iconst 0, 1) := by decide +kernel
theorem dX10_republicLine_231 : decode cX10_republicLine 231 = .ok (.iaload, 1) := by decide +kernel
theorem dX10_republicLine_232 : decode cX10_republicLine 232 = .ok (.iastore, 1) := by decide +kernel
theorem dX10_republicLine_233 : decode cX10_republicLine 233 = .ok (.aload_n 0, 1) := by decide +kernel
theorem dX10_republicLine_234 : decode cX10_republicLine 234 = .ok (.getfield 41, 3) := by decide +kernel
theorem dX10_republicLine_237 : decode cX10_republicLine 237 = .ok (.iconst 1, 1) := by decide +kernel
theorem dX10_republicLine_238 : decode cX10_republicLine 238 = .ok (.dup2, 1) := by decide +kernel
theorem dX10_republicLine_239 : decode cX10_republicLine 239 = .ok (.iaload, 1) := by decide +kernel
theorem dX10_republicLine_240 : decode cX10_republicLine 240 = .ok (.iconst 1, 1) := by decide +kernel
theorem dX10_republicLine_241 : decode cX10_republicLine 241 = .ok (.iadd, 1) := by decide +kernel
theorem dX10_republicLine_242 : decode cX10_republicLine 242 = .ok (.iastore, 1) := by decide +kernel
theorem dX10_republicLine_243 : decode cX10_republicLine 243 = .ok (.iconst 1, 1) := by decide +kernel
theorem dX10_republicLine_244 : decode cX10_republicLine 244 = .ok (.ireturn, 1) := by decide +kernel
def tX10_republicLine (g : ax_G) : Nat → ax_O := ax_nd 128 (ax_nd 63 (ax_nd 32 (ax_nd 13 (ax_nd 5 (ax_nd 1 (ax_nd 0 (ax_lf 0 (ao_ll 1 1)) (ax_lf 1 (ao_lc (448546566771) 3))) (ax_nd 4 (ax_lf 4 ao_lcmp) (ax_lf 5 (ao_if_eq 53)))) (ax_nd 9 (ax_nd 8 (ax_lf 8 (ao_ll 1 1)) (ax_lf 9 (ao_lc (1734437230) 3))) (ax_nd 12 (ax_lf 12 ao_lcmp) (ax_lf 13 (ao_if_eq 53))))) (ax_nd 21 (ax_nd 17 (ax_nd 16 (ax_lf 16 (ao_ll 1 1)) (ax_lf 17 (ao_lc (1819243379) 3))) (ax_nd 20 (ax_lf 20 ao_lcmp) (ax_lf 21 (ao_if_eq 53)))) (ax_nd 25 (ax_nd 24 (ax_lf 24 (ao_ll 1 1)) (ax_lf 25 (ao_lc (123581014175598) 3))) (ax_nd 28 (ax_lf 28 ao_lcmp) (ax_nd 29 (ax_lf 29 (ao_if_eq 53)) (ax_lf 32 (ao_ll 1 1))))))) (ax_nd 48 (ax_nd 40 (ax_nd 36 (ax_nd 33 (ax_lf 33 (ao_lc (1685022067) 3)) (ax_lf 36 ao_lcmp)) (ax_nd 37 (ax_lf 37 (ao_if_eq 53)) (ax_lf 40 (ao_ll 1 1)))) (ax_nd 44 (ax_nd 41 (ax_lf 41 (ao_lc (7106420) 3)) (ax_lf 44 ao_lcmp)) (ax_nd 45 (ax_lf 45 (ao_if_eq 53)) (ax_lf 48 (ao_al 0 1))))) (ax_nd 54 (ax_nd 52 (ax_nd 49 (ax_lf 49 (ao_inv g 1 10 1 yX10_fails cX10_fails 1 (some .boolean) 1 0 0 0 0)) (ax_lf 52 (ao_zret 0 0))) (ax_nd 53 (ax_lf 53 (ao_ll 1 1)) (ax_lf 54 (ao_lc (123581014175598) 3)))) (ax_nd 58 (ax_nd 57 (ax_lf 57 ao_lcmp) (ax_lf 58 (ao_if_ne 69))) (ax_nd 61 (ax_lf 61 (ao_al 0 1)) (ax_nd 62 (ax_lf 62 (ao_ic (1) 1)) (ax_lf 63 (ao_ic (6) 2)))))))) (ax_nd 95 (ax_nd 78 (ax_nd 70 (ax_nd 66 (ax_nd 65 (ax_lf 65 (ao_il 3 1)) (ax_lf 66 (ao_inv g 2 10 0 yX10_full cX10_full 4 none 4 0 0 0 0))) (ax_nd 69 (ax_lf 69 (ao_al 0 1)) (ax_lf 70 (ao_inv g 2 10 0 yX10_token cX10_token 3 none 1 0 0 0 0)))) (ax_nd 74 (ax_nd 73 (ax_lf 73 (ao_ll 1 1)) (ax_lf 74 (ao_lc (1734437230) 3))) (ax_nd 77 (ax_lf 77 ao_lcmp) (ax_lf 78 (ao_if_eq 89))))) (ax_nd 86 (ax_nd 82 (ax_nd 81 (ax_lf 81 (ao_ll 1 1)) (ax_lf 82 (ao_lc (1819243379) 3))) (ax_nd 85 (ax_lf 85 ao_lcmp) (ax_lf 86 (ao_if_ne 107)))) (ax_nd 90 (ax_nd 89 (ax_lf 89 (ao_al 0 1)) (ax_lf 90 (ao_ll 1 1))) (ax_nd 91 (ax_lf 91 (ao_lc (1819243379) 3)) (ax_nd 94 (ax_lf 94 ao_lcmp) (ax_lf 95 (ao_if_ne 102))))))) (ax_nd 111 (ax_nd 103 (ax_nd 99 (ax_nd 98 (ax_lf 98 (ao_ic (1) 1)) (ax_lf 99 (ao_goto 103))) (ax_nd 102 (ax_lf 102 (ao_ic (0) 1)) (ax_lf 103 (ao_inv g 4 10 1 yX10_kindLine cX10_kindLine 3 (some .boolean) 2 0 0 0 0)))) (ax_nd 107 (ax_nd 106 (ax_lf 106 (ao_zret 0 0)) (ax_lf 107 (ao_ll 1 1))) (ax_nd 108 (ax_lf 108 (ao_lc (1685022067) 3)) (ax_lf 111 ao_lcmp)))) (ax_nd 119 (ax_nd 115 (ax_nd 112 (ax_lf 112 (ao_if_eq 123)) (ax_lf 115 (ao_ll 1 1))) (ax_nd 116 (ax_lf 116 (ao_lc (7106420) 3)) (ax_lf 119 ao_lcmp))) (ax_nd 123 (ax_nd 120 (ax_lf 120 (ao_if_ne 141)) (ax_lf 123 (ao_al 0 1))) (ax_nd 124 (ax_lf 124 (ao_ll 1 1)) (ax_nd 125 (ax_lf 125 (ao_lc (7106420) 3)) (ax_lf 128 ao_lcmp)))))))) (ax_nd 193 (ax_nd 157 (ax_nd 142 (ax_nd 136 (ax_nd 132 (ax_nd 129 (ax_lf 129 (ao_if_ne 136)) (ax_lf 132 (ao_ic (1) 1))) (ax_nd 133 (ax_lf 133 (ao_goto 137)) (ax_lf 136 (ao_ic (0) 1)))) (ax_nd 140 (ax_nd 137 (ax_lf 137 (ao_inv g 4 10 1 yX10_ofOne cX10_ofOne 2 (some .boolean) 2 0 0 0 0)) (ax_lf 140 (ao_zret 0 0))) (ax_nd 141 (ax_lf 141 (ao_al 0 1)) (ax_lf 142 (ao_ic (0) 1))))) (ax_nd 148 (ax_nd 144 (ax_nd 143 (ax_lf 143 (ao_ll 1 1)) (ax_lf 144 (ao_lc (448546566771) 3))) (ax_nd 147 (ax_lf 147 ao_lcmp) (ax_lf 148 (ao_if_ne 155)))) (ax_nd 152 (ax_nd 151 (ax_lf 151 (ao_ic (2) 1)) (ax_lf 152 (ao_goto 156))) (ax_nd 155 (ax_lf 155 (ao_ic (0) 1)) (ax_nd 156 (ax_lf 156 (ao_ll 1 1)) (ax_lf 157 (ao_lc (448546566771) 3))))))) (ax_nd 178 (ax_nd 166 (ax_nd 161 (ax_nd 160 (ax_lf 160 ao_lcmp) (ax_lf 161 (ao_if_ne 169))) (ax_nd 164 (ax_lf 164 (ao_ic (12) 2)) (ax_lf 166 (ao_goto 172)))) (ax_nd 172 (ax_nd 169 (ax_lf 169 (ao_ic (999) 3)) (ax_lf 172 (ao_inv g 3 10 1 yX10_take cX10_take 4 (some .boolean) 4 0 0 0 0))) (ax_nd 175 (ax_lf 175 (ao_if_ne 180)) (ax_lf 178 (ao_ic (0) 1))))) (ax_nd 184 (ax_nd 180 (ax_nd 179 (ax_lf 179 (ao_zret 0 0)) (ax_lf 180 (ao_ll 1 1))) (ax_nd 181 (ax_lf 181 (ao_lc (448546566771) 3)) (ax_lf 184 ao_lcmp))) (ax_nd 188 (ax_nd 185 (ax_lf 185 (ao_if_ne 203)) (ax_lf 188 (ao_al 0 1))) (ax_nd 189 (ax_lf 189 (ao_gr 10 20)) (ax_nd 192 (ax_lf 192 (ao_ic (0) 1)) (ax_lf 193 (ao_al 0 1)))))))) (ax_nd 223 (ax_nd 207 (ax_nd 199 (ax_nd 197 (ax_nd 194 (ax_lf 194 (ao_gr 10 21)) (ax_lf 197 (ao_ic (0) 1))) (ax_nd 198 (ax_lf 198 ao_iald) (ax_lf 199 ao_iast))) (ax_nd 203 (ax_nd 200 (ax_lf 200 (ao_goto 243)) (ax_lf 203 (ao_al 0 1))) (ax_nd 204 (ax_lf 204 (ao_gr 10 20)) (ax_lf 207 (ao_ic (1) 1))))) (ax_nd 214 (ax_nd 209 (ax_nd 208 (ax_lf 208 ao_iald) (ax_lf 209 (ao_ic (6) 2))) (ax_nd 211 (ax_lf 211 (ao_icmp_ge 243)) (ax_lf 214 (ao_al 0 1)))) (ax_nd 218 (ax_nd 215 (ax_lf 215 (ao_gr 10 20)) (ax_lf 218 (ao_ic (2) 1))) (ax_nd 219 (ax_lf 219 (ao_al 0 1)) (ax_nd 220 (ax_lf 220 (ao_gr 10 20)) (ax_lf 223 (ao_ic (1) 1))))))) (ax_nd 233 (ax_nd 227 (ax_nd 225 (ax_nd 224 (ax_lf 224 ao_iald) (ax_lf 225 ao_iadd)) (ax_nd 226 (ax_lf 226 (ao_al 0 1)) (ax_lf 227 (ao_gr 10 21)))) (ax_nd 231 (ax_nd 230 (ax_lf 230 (ao_ic (0) 1)) (ax_lf 231 ao_iald)) (ax_nd 232 (ax_lf 232 ao_iast) (ax_lf 233 (ao_al 0 1))))) (ax_nd 239 (ax_nd 237 (ax_nd 234 (ax_lf 234 (ao_gr 10 20)) (ax_lf 237 (ao_ic (1) 1))) (ax_nd 238 (ax_lf 238 ao_dup2) (ax_lf 239 ao_iald))) (ax_nd 241 (ax_nd 240 (ax_lf 240 (ao_ic (1) 1)) (ax_lf 241 ao_iadd)) (ax_nd 242 (ax_lf 242 ao_iast) (ax_nd 243 (ax_lf 243 (ao_ic (1) 1)) (ax_lf 244 (ao_zret 0 0)))))))))
theorem oX10_republicLine (g : ax_G) : ∀ pc, ax_ok g cX10_republicLine 4 (some .boolean) RX10 "republicLine" 5 0 0 pc (tX10_republicLine g pc) := ax_nd_ok (ax_nd_ok (ax_nd_ok (ax_nd_ok (ax_nd_ok (ax_nd_ok (ax_nd_ok (ax_lf_ok (ak_lload_n rfl dX10_republicLine_0)) (ax_lf_ok (ak_ldc2 wd_1279 dX10_republicLine_1))) (ax_nd_ok (ax_lf_ok (ak_lcmp dX10_republicLine_4)) (ax_lf_ok (ak_if_eq (by decide) dX10_republicLine_5)))) (ax_nd_ok (ax_nd_ok (ax_lf_ok (ak_lload_n rfl dX10_republicLine_8)) (ax_lf_ok (ak_ldc2 wd_1280 dX10_republicLine_9))) (ax_nd_ok (ax_lf_ok (ak_lcmp dX10_republicLine_12)) (ax_lf_ok (ak_if_eq (by decide) dX10_republicLine_13))))) (ax_nd_ok (ax_nd_ok (ax_nd_ok (ax_lf_ok (ak_lload_n rfl dX10_republicLine_16)) (ax_lf_ok (ak_ldc2 wd_1281 dX10_republicLine_17))) (ax_nd_ok (ax_lf_ok (ak_lcmp dX10_republicLine_20)) (ax_lf_ok (ak_if_eq (by decide) dX10_republicLine_21)))) (ax_nd_ok (ax_nd_ok (ax_lf_ok (ak_lload_n rfl dX10_republicLine_24)) (ax_lf_ok (ak_ldc2 wd_1282 dX10_republicLine_25))) (ax_nd_ok (ax_lf_ok (ak_lcmp dX10_republicLine_28)) (ax_nd_ok (ax_lf_ok (ak_if_eq (by decide) dX10_republicLine_29)) (ax_lf_ok (ak_lload_n rfl dX10_republicLine_32))))))) (ax_nd_ok (ax_nd_ok (ax_nd_ok (ax_nd_ok (ax_lf_ok (ak_ldc2 wd_1283 dX10_republicLine_33)) (ax_lf_ok (ak_lcmp dX10_republicLine_36))) (ax_nd_ok (ax_lf_ok (ak_if_eq (by decide) dX10_republicLine_37)) (ax_lf_ok (ak_lload_n rfl dX10_republicLine_40)))) (ax_nd_ok (ax_nd_ok (ax_lf_ok (ak_ldc2 wd_1284 dX10_republicLine_41)) (ax_lf_ok (ak_lcmp dX10_republicLine_44))) (ax_nd_ok (ax_lf_ok (ak_if_eq (by decide) dX10_republicLine_45)) (ax_lf_ok (ak_aload_n rfl dX10_republicLine_48))))) (ax_nd_ok (ax_nd_ok (ax_nd_ok (ax_lf_ok (ak_invV (by decide) (by decide) (by decide) rfl wd_1285 wd_1287 wd_31 wd_106 wd_1288 ⟨by decide, by decide, by decide +kernel⟩ dX10_republicLine_49)) (ax_lf_ok (ak_zret rfl dX10_republicLine_52))) (ax_nd_ok (ax_lf_ok (ak_lload_n rfl dX10_republicLine_53)) (ax_lf_ok (ak_ldc2 wd_1282 dX10_republicLine_54)))) (ax_nd_ok (ax_nd_ok (ax_lf_ok (ak_lcmp dX10_republicLine_57)) (ax_lf_ok (ak_if_ne (by decide) dX10_republicLine_58))) (ax_nd_ok (ax_lf_ok (ak_aload_n rfl dX10_republicLine_61)) (ax_nd_ok (ax_lf_ok (ak_iconst (by decide) dX10_republicLine_62)) (ax_lf_ok (ak_bipush (by decide) dX10_republicLine_63)))))))) (ax_nd_ok (ax_nd_ok (ax_nd_ok (ax_nd_ok (ax_nd_ok (ax_lf_ok (ak_iload_n rfl dX10_republicLine_65)) (ax_lf_ok (ak_invV (by decide) (by decide) (by decide) rfl wd_1289 wd_1291 wd_32 wd_106 wd_1292 ⟨by decide, by decide, by decide +kernel⟩ dX10_republicLine_66))) (ax_nd_ok (ax_lf_ok (ak_aload_n rfl dX10_republicLine_69)) (ax_lf_ok (ak_invV (by decide) (by decide) (by decide) rfl wd_1259 wd_1261 wd_26 wd_106 wd_1262 ⟨by decide, by decide, by decide +kernel⟩ dX10_republicLine_70)))) (ax_nd_ok (ax_nd_ok (ax_lf_ok (ak_lload_n rfl dX10_republicLine_73)) (ax_lf_ok (ak_ldc2 wd_1280 dX10_republicLine_74))) (ax_nd_ok (ax_lf_ok (ak_lcmp dX10_republicLine_77)) (ax_lf_ok (ak_if_eq (by decide) dX10_republicLine_78))))) (ax_nd_ok (ax_nd_ok (ax_nd_ok (ax_lf_ok (ak_lload_n rfl dX10_republicLine_81)) (ax_lf_ok (ak_ldc2 wd_1281 dX10_republicLine_82))) (ax_nd_ok (ax_lf_ok (ak_lcmp dX10_republicLine_85)) (ax_lf_ok (ak_if_ne (by decide) dX10_republicLine_86)))) (ax_nd_ok (ax_nd_ok (ax_lf_ok (ak_aload_n rfl dX10_republicLine_89)) (ax_lf_ok (ak_lload_n rfl dX10_republicLine_90))) (ax_nd_ok (ax_lf_ok (ak_ldc2 wd_1281 dX10_republicLine_91)) (ax_nd_ok (ax_lf_ok (ak_lcmp dX10_republicLine_94)) (ax_lf_ok (ak_if_ne (by decide) dX10_republicLine_95))))))) (ax_nd_ok (ax_nd_ok (ax_nd_ok (ax_nd_ok (ax_lf_ok (ak_iconst (by decide) dX10_republicLine_98)) (ax_lf_ok (ak_goto (by decide) dX10_republicLine_99))) (ax_nd_ok (ax_lf_ok (ak_iconst (by decide) dX10_republicLine_102)) (ax_lf_ok (ak_invV (by decide) (by decide) (by decide) rfl wd_1297 wd_1299 wd_34 wd_106 wd_1300 ⟨by decide, by decide, by decide +kernel⟩ dX10_republicLine_103)))) (ax_nd_ok (ax_nd_ok (ax_lf_ok (ak_zret rfl dX10_republicLine_106)) (ax_lf_ok (ak_lload_n rfl dX10_republicLine_107))) (ax_nd_ok (ax_lf_ok (ak_ldc2 wd_1283 dX10_republicLine_108)) (ax_lf_ok (ak_lcmp dX10_republicLine_111))))) (ax_nd_ok (ax_nd_ok (ax_nd_ok (ax_lf_ok (ak_if_eq (by decide) dX10_republicLine_112)) (ax_lf_ok (ak_lload_n rfl dX10_republicLine_115))) (ax_nd_ok (ax_lf_ok (ak_ldc2 wd_1284 dX10_republicLine_116)) (ax_lf_ok (ak_lcmp dX10_republicLine_119)))) (ax_nd_ok (ax_nd_ok (ax_lf_ok (ak_if_ne (by decide) dX10_republicLine_120)) (ax_lf_ok (ak_aload_n rfl dX10_republicLine_123))) (ax_nd_ok (ax_lf_ok (ak_lload_n rfl dX10_republicLine_124)) (ax_nd_ok (ax_lf_ok (ak_ldc2 wd_1284 dX10_republicLine_125)) (ax_lf_ok (ak_lcmp dX10_republicLine_128))))))))) (ax_nd_ok (ax_nd_ok (ax_nd_ok (ax_nd_ok (ax_nd_ok (ax_nd_ok (ax_lf_ok (ak_if_ne (by decide) dX10_republicLine_129)) (ax_lf_ok (ak_iconst (by decide) dX10_republicLine_132))) (ax_nd_ok (ax_lf_ok (ak_goto (by decide) dX10_republicLine_133)) (ax_lf_ok (ak_iconst (by decide) dX10_republicLine_136)))) (ax_nd_ok (ax_nd_ok (ax_lf_ok (ak_invV (by decide) (by decide) (by decide) rfl wd_1308 wd_1310 wd_36 wd_106 wd_1311 ⟨by decide, by decide, by decide +kernel⟩ dX10_republicLine_137)) (ax_lf_ok (ak_zret rfl dX10_republicLine_140))) (ax_nd_ok (ax_lf_ok (ak_aload_n rfl dX10_republicLine_141)) (ax_lf_ok (ak_iconst (by decide) dX10_republicLine_142))))) (ax_nd_ok (ax_nd_ok (ax_nd_ok (ax_lf_ok (ak_lload_n rfl dX10_republicLine_143)) (ax_lf_ok (ak_ldc2 wd_1279 dX10_republicLine_144))) (ax_nd_ok (ax_lf_ok (ak_lcmp dX10_republicLine_147)) (ax_lf_ok (ak_if_ne (by decide) dX10_republicLine_148)))) (ax_nd_ok (ax_nd_ok (ax_lf_ok (ak_iconst (by decide) dX10_republicLine_151)) (ax_lf_ok (ak_goto (by decide) dX10_republicLine_152))) (ax_nd_ok (ax_lf_ok (ak_iconst (by decide) dX10_republicLine_155)) (ax_nd_ok (ax_lf_ok (ak_lload_n rfl dX10_republicLine_156)) (ax_lf_ok (ak_ldc2 wd_1279 dX10_republicLine_157))))))) (ax_nd_ok (ax_nd_ok (ax_nd_ok (ax_nd_ok (ax_lf_ok (ak_lcmp dX10_republicLine_160)) (ax_lf_ok (ak_if_ne (by decide) dX10_republicLine_161))) (ax_nd_ok (ax_lf_ok (ak_bipush (by decide) dX10_republicLine_164)) (ax_lf_ok (ak_goto (by decide) dX10_republicLine_166)))) (ax_nd_ok (ax_nd_ok (ax_lf_ok (ak_sipush (by decide) dX10_republicLine_169)) (ax_lf_ok (ak_invV (by decide) (by decide) (by decide) rfl wd_1301 wd_1303 wd_35 wd_106 wd_1304 ⟨by decide, by decide, by decide +kernel⟩ dX10_republicLine_172))) (ax_nd_ok (ax_lf_ok (ak_if_ne (by decide) dX10_republicLine_175)) (ax_lf_ok (ak_iconst (by decide) dX10_republicLine_178))))) (ax_nd_ok (ax_nd_ok (ax_nd_ok (ax_lf_ok (ak_zret rfl dX10_republicLine_179)) (ax_lf_ok (ak_lload_n rfl dX10_republicLine_180))) (ax_nd_ok (ax_lf_ok (ak_ldc2 wd_1279 dX10_republicLine_181)) (ax_lf_ok (ak_lcmp dX10_republicLine_184)))) (ax_nd_ok (ax_nd_ok (ax_lf_ok (ak_if_ne (by decide) dX10_republicLine_185)) (ax_lf_ok (ak_aload_n rfl dX10_republicLine_188))) (ax_nd_ok (ax_lf_ok (ak_gr fF_X10_41 dX10_republicLine_189)) (ax_nd_ok (ax_lf_ok (ak_iconst (by decide) dX10_republicLine_192)) (ax_lf_ok (ak_aload_n rfl dX10_republicLine_193)))))))) (ax_nd_ok (ax_nd_ok (ax_nd_ok (ax_nd_ok (ax_nd_ok (ax_lf_ok (ak_gr fF_X10_44 dX10_republicLine_194)) (ax_lf_ok (ak_iconst (by decide) dX10_republicLine_197))) (ax_nd_ok (ax_lf_ok (ak_iald dX10_republicLine_198)) (ax_lf_ok (ak_iast dX10_republicLine_199)))) (ax_nd_ok (ax_nd_ok (ax_lf_ok (ak_goto (by decide) dX10_republicLine_200)) (ax_lf_ok (ak_aload_n rfl dX10_republicLine_203))) (ax_nd_ok (ax_lf_ok (ak_gr fF_X10_41 dX10_republicLine_204)) (ax_lf_ok (ak_iconst (by decide) dX10_republicLine_207))))) (ax_nd_ok (ax_nd_ok (ax_nd_ok (ax_lf_ok (ak_iald dX10_republicLine_208)) (ax_lf_ok (ak_bipush (by decide) dX10_republicLine_209))) (ax_nd_ok (ax_lf_ok (ak_icmp_ge (by decide) dX10_republicLine_211)) (ax_lf_ok (ak_aload_n rfl dX10_republicLine_214)))) (ax_nd_ok (ax_nd_ok (ax_lf_ok (ak_gr fF_X10_41 dX10_republicLine_215)) (ax_lf_ok (ak_iconst (by decide) dX10_republicLine_218))) (ax_nd_ok (ax_lf_ok (ak_aload_n rfl dX10_republicLine_219)) (ax_nd_ok (ax_lf_ok (ak_gr fF_X10_41 dX10_republicLine_220)) (ax_lf_ok (ak_iconst (by decide) dX10_republicLine_223))))))) (ax_nd_ok (ax_nd_ok (ax_nd_ok (ax_nd_ok (ax_lf_ok (ak_iald dX10_republicLine_224)) (ax_lf_ok (ak_iadd dX10_republicLine_225))) (ax_nd_ok (ax_lf_ok (ak_aload_n rfl dX10_republicLine_226)) (ax_lf_ok (ak_gr fF_X10_44 dX10_republicLine_227)))) (ax_nd_ok (ax_nd_ok (ax_lf_ok (ak_iconst (by decide) dX10_republicLine_230)) (ax_lf_ok (ak_iald dX10_republicLine_231))) (ax_nd_ok (ax_lf_ok (ak_iast dX10_republicLine_232)) (ax_lf_ok (ak_aload_n rfl dX10_republicLine_233))))) (ax_nd_ok (ax_nd_ok (ax_nd_ok (ax_lf_ok (ak_gr fF_X10_41 dX10_republicLine_234)) (ax_lf_ok (ak_iconst (by decide) dX10_republicLine_237))) (ax_nd_ok (ax_lf_ok (ak_dup2 dX10_republicLine_238)) (ax_lf_ok (ak_iald dX10_republicLine_239)))) (ax_nd_ok (ax_nd_ok (ax_lf_ok (ak_iconst (by decide) dX10_republicLine_240)) (ax_lf_ok (ak_iadd dX10_republicLine_241))) (ax_nd_ok (ax_lf_ok (ak_iast dX10_republicLine_242)) (ax_nd_ok (ax_lf_ok (ak_iconst (by decide) dX10_republicLine_243)) (ax_lf_ok (ak_zret rfl dX10_republicLine_244)))))))))
abbrev mX10_republicLine (g : ax_G) (as : List Value) (h : ax_H) (Ret : Option Value → ax_H → Prop) : Prop := ax_M g 5 0 0 yX10_republicLine cX10_republicLine 4 (some .boolean) as h Ret
theorem dX10_weekLine_0 : decode cX10_weekLine 0 = .ok (.lload_n 1, 1) := by decide +kernel
theorem dX10_weekLine_1 : decode cX10_weekLine 1 = .ok (.ldc2_w 193, 3) := by decide +kernel
theorem dX10_weekLine_4 : decode cX10_weekLine 4 = .ok (.lcmp, 1) := by decide +kernel
theorem dX10_weekLine_5 : decode cX10_weekLine 5 = .ok (.ifCond .eq 8, 3) := by decide +kernel
theorem dX10_weekLine_8 : decode cX10_weekLine 8 = .ok (.aload_n 0, 1) := by decide +kernel
theorem dX10_weekLine_9 : decode cX10_weekLine 9 = .ok (.invokevirtual 136, 3) := by decide +kernel
theorem dX10_weekLine_12 : decode cX10_weekLine 12 = .ok (.ireturn, 1) := by decide +kernel
theorem dX10_weekLine_13 : decode cX10_weekLine 13 = .ok (.aload_n 0, 1) := by decide +kernel
theorem dX10_weekLine_14 : decode cX10_weekLine 14 = .ok (.iconst 0, 1) := by decide +kernel
theorem dX10_weekLine_15 : decode cX10_weekLine 15 = .ok (.bipush 14, 2) := by decide +kernel
theorem dX10_weekLine_17 : decode cX10_weekLine 17 = .ok (.iload_n 3, 1) := by decide +kernel
theorem dX10_weekLine_18 : decode cX10_weekLine 18 = .ok (.invokevirtual 182, 3) := by decide +kernel
theorem dX10_weekLine_21 : decode cX10_weekLine 21 = .ok (.aload_n 0, 1) := by decide +kernel
theorem dX10_weekLine_22 : decode cX10_weekLine 22 = .ok (.invokevirtual 148, 3) := by decide +kernel
theorem dX10_weekLine_25 : decode cX10_weekLine 25 = .ok (.aload_n 0, 1) := by decide +kernel
theorem dX10_weekLine_26 : decode cX10_weekLine 26 = .ok (.iconst 0, 1) := by decide +kernel
theorem dX10_weekLine_27 : decode cX10_weekLine 27 = .ok (.iconst 0, 1) := by decide +kernel
theorem dX10_weekLine_28 : decode cX10_weekLine 28 = .ok (.bipush 11, 2) := by decide +kernel
theorem dX10_weekLine_30 : decode cX10_weekLine 30 = .ok (.invokevirtual 151, 3) := by decide +kernel
theorem dX10_weekLine_33 : decode cX10_weekLine 33 = .ok (.ifCond .ne 5, 3) := by decide +kernel
theorem dX10_weekLine_36 : decode cX10_weekLine 36 = .ok (.iconst 0, 1) := by decide +kernel
theorem dX10_weekLine_37 : decode cX10_weekLine 37 = .ok (.ireturn, 1) := by decide +kernel
theorem dX10_weekLine_38 : decode cX10_weekLine 38 = .ok (.aload_n 0, 1) := by decide +kernel
theorem dX10_weekLine_39 : decode cX10_weekLine 39 = .ok (.iconst 1, 1) := by decide +kernel
theorem dX10_weekLine_40 : decode cX10_weekLine 40 = .ok (.iconst 1, 1) := by decide +kernel
theorem dX10_weekLine_41 : decode cX10_weekLine 41 = .ok (.bipush 14, 2) := by decide +kernel
theorem dX10_weekLine_43 : decode cX10_weekLine 43 = .ok (.invokevirtual 195, 3) := by decide +kernel
theorem dX10_weekLine_46 : decode cX10_weekLine 46 = .ok (.iconst 1, 1) := by decide +kernel
theorem dX10_weekLine_47 : decode cX10_weekLine 47 = .ok (.ireturn, 1) := by decide +kernel
def tX10_weekLine (g : ax_G) : Nat → ax_O := ax_nd 22 (ax_nd 12 (ax_nd 4 (ax_nd 0 (ax_lf 0 (ao_ll 1 1)) (ax_nd 1 (ax_lf 1 (ao_lc (495875089259) 3)) (ax_lf 4 ao_lcmp))) (ax_nd 8 (ax_nd 5 (ax_lf 5 (ao_if_eq 13)) (ax_lf 8 (ao_al 0 1))) (ax_nd 9 (ax_lf 9 (ao_inv g 1 10 1 yX10_fails cX10_fails 1 (some .boolean) 1 0 0 0 0)) (ax_lf 12 (ao_zret 0 0))))) (ax_nd 15 (ax_nd 13 (ax_lf 13 (ao_al 0 1)) (ax_nd 14 (ax_lf 14 (ao_ic (0) 1)) (ax_lf 15 (ao_ic (14) 2)))) (ax_nd 18 (ax_nd 17 (ax_lf 17 (ao_il 3 1)) (ax_lf 18 (ao_inv g 2 10 0 yX10_full cX10_full 4 none 4 0 0 0 0))) (ax_nd 21 (ax_lf 21 (ao_al 0 1)) (ax_lf 22 (ao_inv g 2 10 0 yX10_token cX10_token 3 none 1 0 0 0 0)))))) (ax_nd 36 (ax_nd 27 (ax_nd 25 (ax_lf 25 (ao_al 0 1)) (ax_nd 26 (ax_lf 26 (ao_ic (0) 1)) (ax_lf 27 (ao_ic (0) 1)))) (ax_nd 30 (ax_nd 28 (ax_lf 28 (ao_ic (11) 2)) (ax_lf 30 (ao_inv g 3 10 1 yX10_take cX10_take 4 (some .boolean) 4 0 0 0 0))) (ax_nd 33 (ax_lf 33 (ao_if_ne 38)) (ax_lf 36 (ao_ic (0) 1))))) (ax_nd 40 (ax_nd 38 (ax_nd 37 (ax_lf 37 (ao_zret 0 0)) (ax_lf 38 (ao_al 0 1))) (ax_nd 39 (ax_lf 39 (ao_ic (1) 1)) (ax_lf 40 (ao_ic (1) 1)))) (ax_nd 43 (ax_nd 41 (ax_lf 41 (ao_ic (14) 2)) (ax_lf 43 (ao_inv g 1 10 0 yX10_keep cX10_keep 6 none 4 0 0 0 0))) (ax_nd 46 (ax_lf 46 (ao_ic (1) 1)) (ax_lf 47 (ao_zret 0 0))))))
theorem oX10_weekLine (g : ax_G) : ∀ pc, ax_ok g cX10_weekLine 4 (some .boolean) RX10 "weekLine" 4 0 0 pc (tX10_weekLine g pc) := ax_nd_ok (ax_nd_ok (ax_nd_ok (ax_nd_ok (ax_lf_ok (ak_lload_n rfl dX10_weekLine_0)) (ax_nd_ok (ax_lf_ok (ak_ldc2 wd_1319 dX10_weekLine_1)) (ax_lf_ok (ak_lcmp dX10_weekLine_4)))) (ax_nd_ok (ax_nd_ok (ax_lf_ok (ak_if_eq (by decide) dX10_weekLine_5)) (ax_lf_ok (ak_aload_n rfl dX10_weekLine_8))) (ax_nd_ok (ax_lf_ok (ak_invV (by decide) (by decide) (by decide) rfl wd_1285 wd_1287 wd_31 wd_106 wd_1288 ⟨by decide, by decide, by decide +kernel⟩ dX10_weekLine_9)) (ax_lf_ok (ak_zret rfl dX10_weekLine_12))))) (ax_nd_ok (ax_nd_ok (ax_lf_ok (ak_aload_n rfl dX10_weekLine_13)) (ax_nd_ok (ax_lf_ok (ak_iconst (by decide) dX10_weekLine_14)) (ax_lf_ok (ak_bipush (by decide) dX10_weekLine_15)))) (ax_nd_ok (ax_nd_ok (ax_lf_ok (ak_iload_n rfl dX10_weekLine_17)) (ax_lf_ok (ak_invV (by decide) (by decide) (by decide) rfl wd_1289 wd_1291 wd_32 wd_106 wd_1292 ⟨by decide, by decide, by decide +kernel⟩ dX10_weekLine_18))) (ax_nd_ok (ax_lf_ok (ak_aload_n rfl dX10_weekLine_21)) (ax_lf_ok (ak_invV (by decide) (by decide) (by decide) rfl wd_1259 wd_1261 wd_26 wd_106 wd_1262 ⟨by decide, by decide, by decide +kernel⟩ dX10_weekLine_22)))))) (ax_nd_ok (ax_nd_ok (ax_nd_ok (ax_lf_ok (ak_aload_n rfl dX10_weekLine_25)) (ax_nd_ok (ax_lf_ok (ak_iconst (by decide) dX10_weekLine_26)) (ax_lf_ok (ak_iconst (by decide) dX10_weekLine_27)))) (ax_nd_ok (ax_nd_ok (ax_lf_ok (ak_bipush (by decide) dX10_weekLine_28)) (ax_lf_ok (ak_invV (by decide) (by decide) (by decide) rfl wd_1301 wd_1303 wd_35 wd_106 wd_1304 ⟨by decide, by decide, by decide +kernel⟩ dX10_weekLine_30))) (ax_nd_ok (ax_lf_ok (ak_if_ne (by decide) dX10_weekLine_33)) (ax_lf_ok (ak_iconst (by decide) dX10_weekLine_36))))) (ax_nd_ok (ax_nd_ok (ax_nd_ok (ax_lf_ok (ak_zret rfl dX10_weekLine_37)) (ax_lf_ok (ak_aload_n rfl dX10_weekLine_38))) (ax_nd_ok (ax_lf_ok (ak_iconst (by decide) dX10_weekLine_39)) (ax_lf_ok (ak_iconst (by decide) dX10_weekLine_40)))) (ax_nd_ok (ax_nd_ok (ax_lf_ok (ak_bipush (by decide) dX10_weekLine_41)) (ax_lf_ok (ak_invV (by decide) (by decide) (by decide) rfl wd_1320 wd_1322 wd_38 wd_106 wd_1323 ⟨by decide, by decide, by decide +kernel⟩ dX10_weekLine_43))) (ax_nd_ok (ax_lf_ok (ak_iconst (by decide) dX10_weekLine_46)) (ax_lf_ok (ak_zret rfl dX10_weekLine_47))))))
abbrev mX10_weekLine (g : ax_G) (as : List Value) (h : ax_H) (Ret : Option Value → ax_H → Prop) : Prop := ax_M g 4 0 0 yX10_weekLine cX10_weekLine 4 (some .boolean) as h Ret
theorem dX10_errandLine_0 : decode cX10_errandLine 0 = .ok (.lload_n 1, 1) := by decide +kernel
theorem dX10_errandLine_1 : decode cX10_errandLine 1 = .ok (.ldc2_w 198, 3) := by decide +kernel
theorem dX10_errandLine_4 : decode cX10_errandLine 4 = .ok (.lcmp, 1) := by decide +kernel
theorem dX10_errandLine_5 : decode cX10_errandLine 5 = .ok (.ifCond .eq 8, 3) := by decide +kernel
theorem dX10_errandLine_8 : decode cX10_errandLine 8 = .ok (.aload_n 0, 1) := by decide +kernel
theorem dX10_errandLine_9 : decode cX10_errandLine 9 = .ok (.invokevirtual 136, 3) := by decide +kernel
theorem dX10_errandLine_12 : decode cX10_errandLine 12 = .ok (.ireturn, 1) := by decide +kernel
theorem dX10_errandLine_13 : decode cX10_errandLine 13 = .ok (.aload_n 0, 1) := by decide +kernel
theorem dX10_errandLine_14 : decode cX10_errandLine 14 = .ok (.iconst 0, 1) := by decide +kernel
theorem dX10_errandLine_15 : decode cX10_errandLine 15 = .ok (.bipush 6, 2) := by decide +kernel
theorem dX10_errandLine_17 : decode cX10_errandLine 17 = .ok (.iload_n 3, 1) := by decide +kernel
theorem dX10_errandLine_18 : decode cX10_errandLine 18 = .ok (.invokevirtual 182, 3) := by decide +kernel
theorem dX10_errandLine_21 : decode cX10_errandLine 21 = .ok (.aload_n 0, 1) := by decide +kernel
theorem dX10_errandLine_22 : decode cX10_errandLine 22 = .ok (.invokevirtual 148, 3) := by decide +kernel
theorem dX10_errandLine_25 : decode cX10_errandLine 25 = .ok (.aload_n 0, 1) := by decide +kernel
theorem dX10_errandLine_26 : decode cX10_errandLine 26 = .ok (.iconst 0, 1) := by decide +kernel
theorem dX10_errandLine_27 : decode cX10_errandLine 27 = .ok (.iconst 0, 1) := by decide +kernel
theorem dX10_errandLine_28 : decode cX10_errandLine 28 = .ok (.iconst 5, 1) := by decide +kernel
theorem dX10_errandLine_29 : decode cX10_errandLine 29 = .ok (.invokevirtual 151, 3) := by decide +kernel
theorem dX10_errandLine_32 : decode cX10_errandLine 32 = .ok (.ifCond .eq 30, 3) := by decide +kernel
theorem dX10_errandLine_35 : decode cX10_errandLine 35 = .ok (.aload_n 0, 1) := by decide +kernel
theorem dX10_errandLine_36 : decode cX10_errandLine 36 = .ok (.iconst 1, 1) := by decide +kernel
theorem dX10_errandLine_37 : decode cX10_errandLine 37 = .ok (.iconst 0, 1) := by decide +kernel
theorem dX10_errandLine_38 : decode cX10_errandLine 38 = .ok (.bipush 11, 2) := by decide +kernel
theorem dX10_errandLine_40 : decode cX10_errandLine 40 = .ok (.invokevirtual 151, 3) := by decide +kernel
theorem dX10_errandLine_43 : decode cX10_errandLine 43 = .ok (.ifCond .eq 19, 3) := by decide +kernel
theorem dX10_errandLine_46 : decode cX10_errandLine 46 = .ok (.aload_n 0, 1) := by decide +kernel
theorem dX10_errandLine_47 : decode cX10_errandLine 47 = .ok (.iconst 2, 1) := by decide +kernel
theorem dX10_errandLine_48 : decode cX10_errandLine 48 = .ok (.aload_n 0, 1) := by decide +kernel
theorem dX10_errandLine_49 : decode cX10_errandLine 49 = .ok (.getfield 44, 3) := by decide +kernel
theorem dX10_errandLine_52 : decode cX10_errandLine 52 = .ok (.iconst 1, 1) := by decide +kernel
theorem dX10_errandLine_53 : decode cX10_errandLine 53 = .ok (.iaload, 1) := by decide +kernel
theorem dX10_errandLine_54 : decode cX10_errandLine 54 = .ok (.bipush 11, 2) := by decide +kernel
theorem dX10_errandLine_56 : decode cX10_errandLine 56 = .ok (.invokevirtual 151, 3) := by decide +kernel
theorem dX10_errandLine_59 : decode cX10_errandLine 59 = .ok (.ifCond .ne 5, 3) := by decide +kernel
theorem dX10_errandLine_62 : decode cX10_errandLine 62 = .ok (.iconst 0, 1) := by decide +kernel
theorem dX10_errandLine_63 : decode cX10_errandLine 63 = .ok (.ireturn, 1) := by decide +kernel
theorem dX10_errandLine_64 : decode cX10_errandLine 64 = .ok (.aload_n 0, 1) := by decide +kernel
theorem dX10_errandLine_65 : decode cX10_errandLine 65 = .ok (.iconst 1, 1) := by decide +kernel
theorem dX10_errandLine_66 : decode cX10_errandLine 66 = .ok (.iconst 3, 1) := by decide +kernel
theorem dX10_errandLine_67 : decode cX10_errandLine 67 = .ok (.bipush 6, 2) := by decide +kernel
theorem dX10_errandLine_69 : decode cX10_errandLine 69 = .ok (.invokevirtual 195, 3) := by decide +kernel
theorem dX10_errandLine_72 : decode cX10_errandLine 72 = .ok (.iconst 1, 1) := by decide +kernel
theorem dX10_errandLine_73 : decode cX10_errandLine 73 = .ok (.ireturn, 1) := by decide +kernel
def tX10_errandLine (g : ax_G) : Nat → ax_O := ax_nd 36 (ax_nd 17 (ax_nd 8 (ax_nd 1 (ax_nd 0 (ax_lf 0 (ao_ll 1 1)) (ax_lf 1 (ao_lc (111542219664996) 3))) (ax_nd 4 (ax_lf 4 ao_lcmp) (ax_nd 5 (ax_lf 5 (ao_if_eq 13)) (ax_lf 8 (ao_al 0 1))))) (ax_nd 13 (ax_nd 9 (ax_lf 9 (ao_inv g 1 10 1 yX10_fails cX10_fails 1 (some .boolean) 1 0 0 0 0)) (ax_nd 12 (ax_lf 12 (ao_zret 0 0)) (ax_lf 13 (ao_al 0 1)))) (ax_nd 14 (ax_lf 14 (ao_ic (0) 1)) (ax_nd 15 (ax_lf 15 (ao_ic (6) 2)) (ax_lf 17 (ao_il 3 1)))))) (ax_nd 26 (ax_nd 21 (ax_nd 18 (ax_lf 18 (ao_inv g 2 10 0 yX10_full cX10_full 4 none 4 0 0 0 0)) (ax_lf 21 (ao_al 0 1))) (ax_nd 22 (ax_lf 22 (ao_inv g 2 10 0 yX10_token cX10_token 3 none 1 0 0 0 0)) (ax_nd 25 (ax_lf 25 (ao_al 0 1)) (ax_lf 26 (ao_ic (0) 1))))) (ax_nd 29 (ax_nd 27 (ax_lf 27 (ao_ic (0) 1)) (ax_nd 28 (ax_lf 28 (ao_ic (5) 1)) (ax_lf 29 (ao_inv g 3 10 1 yX10_take cX10_take 4 (some .boolean) 4 0 0 0 0)))) (ax_nd 32 (ax_lf 32 (ao_if_eq 62)) (ax_nd 35 (ax_lf 35 (ao_al 0 1)) (ax_lf 36 (ao_ic (1) 1))))))) (ax_nd 54 (ax_nd 46 (ax_nd 38 (ax_nd 37 (ax_lf 37 (ao_ic (0) 1)) (ax_lf 38 (ao_ic (11) 2))) (ax_nd 40 (ax_lf 40 (ao_inv g 3 10 1 yX10_take cX10_take 4 (some .boolean) 4 0 0 0 0)) (ax_nd 43 (ax_lf 43 (ao_if_eq 62)) (ax_lf 46 (ao_al 0 1))))) (ax_nd 49 (ax_nd 47 (ax_lf 47 (ao_ic (2) 1)) (ax_nd 48 (ax_lf 48 (ao_al 0 1)) (ax_lf 49 (ao_gr 10 21)))) (ax_nd 52 (ax_lf 52 (ao_ic (1) 1)) (ax_nd 53 (ax_lf 53 ao_iald) (ax_lf 54 (ao_ic (11) 2)))))) (ax_nd 64 (ax_nd 59 (ax_nd 56 (ax_lf 56 (ao_inv g 3 10 1 yX10_take cX10_take 4 (some .boolean) 4 0 0 0 0)) (ax_lf 59 (ao_if_ne 64))) (ax_nd 62 (ax_lf 62 (ao_ic (0) 1)) (ax_nd 63 (ax_lf 63 (ao_zret 0 0)) (ax_lf 64 (ao_al 0 1))))) (ax_nd 67 (ax_nd 65 (ax_lf 65 (ao_ic (1) 1)) (ax_nd 66 (ax_lf 66 (ao_ic (3) 1)) (ax_lf 67 (ao_ic (6) 2)))) (ax_nd 69 (ax_lf 69 (ao_inv g 1 10 0 yX10_keep cX10_keep 6 none 4 0 0 0 0)) (ax_nd 72 (ax_lf 72 (ao_ic (1) 1)) (ax_lf 73 (ao_zret 0 0)))))))
theorem oX10_errandLine (g : ax_G) : ∀ pc, ax_ok g cX10_errandLine 4 (some .boolean) RX10 "errandLine" 4 0 0 pc (tX10_errandLine g pc) := ax_nd_ok (ax_nd_ok (ax_nd_ok (ax_nd_ok (ax_nd_ok (ax_lf_ok (ak_lload_n rfl dX10_errandLine_0)) (ax_lf_ok (ak_ldc2 wd_1328 dX10_errandLine_1))) (ax_nd_ok (ax_lf_ok (ak_lcmp dX10_errandLine_4)) (ax_nd_ok (ax_lf_ok (ak_if_eq (by decide) dX10_errandLine_5)) (ax_lf_ok (ak_aload_n rfl dX10_errandLine_8))))) (ax_nd_ok (ax_nd_ok (ax_lf_ok (ak_invV (by decide) (by decide) (by decide) rfl wd_1285 wd_1287 wd_31 wd_106 wd_1288 ⟨by decide, by decide, by decide +kernel⟩ dX10_errandLine_9)) (ax_nd_ok (ax_lf_ok (ak_zret rfl dX10_errandLine_12)) (ax_lf_ok (ak_aload_n rfl dX10_errandLine_13)))) (ax_nd_ok (ax_lf_ok (ak_iconst (by decide) dX10_errandLine_14)) (ax_nd_ok (ax_lf_ok (ak_bipush (by decide) dX10_errandLine_15)) (ax_lf_ok (ak_iload_n rfl dX10_errandLine_17)))))) (ax_nd_ok (ax_nd_ok (ax_nd_ok (ax_lf_ok (ak_invV (by decide) (by decide) (by decide) rfl wd_1289 wd_1291 wd_32 wd_106 wd_1292 ⟨by decide, by decide, by decide +kernel⟩ dX10_errandLine_18)) (ax_lf_ok (ak_aload_n rfl dX10_errandLine_21))) (ax_nd_ok (ax_lf_ok (ak_invV (by decide) (by decide) (by decide) rfl wd_1259 wd_1261 wd_26 wd_106 wd_1262 ⟨by decide, by decide, by decide +kernel⟩ dX10_errandLine_22)) (ax_nd_ok (ax_lf_ok (ak_aload_n rfl dX10_errandLine_25)) (ax_lf_ok (ak_iconst (by decide) dX10_errandLine_26))))) (ax_nd_ok (ax_nd_ok (ax_lf_ok (ak_iconst (by decide) dX10_errandLine_27)) (ax_nd_ok (ax_lf_ok (ak_iconst (by decide) dX10_errandLine_28)) (ax_lf_ok (ak_invV (by decide) (by decide) (by decide) rfl wd_1301 wd_1303 wd_35 wd_106 wd_1304 ⟨by decide, by decide, by decide +kernel⟩ dX10_errandLine_29)))) (ax_nd_ok (ax_lf_ok (ak_if_eq (by decide) dX10_errandLine_32)) (ax_nd_ok (ax_lf_ok (ak_aload_n rfl dX10_errandLine_35)) (ax_lf_ok (ak_iconst (by decide) dX10_errandLine_36))))))) (ax_nd_ok (ax_nd_ok (ax_nd_ok (ax_nd_ok (ax_lf_ok (ak_iconst (by decide) dX10_errandLine_37)) (ax_lf_ok (ak_bipush (by decide) dX10_errandLine_38))) (ax_nd_ok (ax_lf_ok (ak_invV (by decide) (by decide) (by decide) rfl wd_1301 wd_1303 wd_35 wd_106 wd_1304 ⟨by decide, by decide, by decide +kernel⟩ dX10_errandLine_40)) (ax_nd_ok (ax_lf_ok (ak_if_eq (by decide) dX10_errandLine_43)) (ax_lf_ok (ak_aload_n rfl dX10_errandLine_46))))) (ax_nd_ok (ax_nd_ok (ax_lf_ok (ak_iconst (by decide) dX10_errandLine_47)) (ax_nd_ok (ax_lf_ok (ak_aload_n rfl dX10_errandLine_48)) (ax_lf_ok (ak_gr fF_X10_44 dX10_errandLine_49)))) (ax_nd_ok (ax_lf_ok (ak_iconst (by decide) dX10_errandLine_52)) (ax_nd_ok (ax_lf_ok (ak_iald dX10_errandLine_53)) (ax_lf_ok (ak_bipush (by decide) dX10_errandLine_54)))))) (ax_nd_ok (ax_nd_ok (ax_nd_ok (ax_lf_ok (ak_invV (by decide) (by decide) (by decide) rfl wd_1301 wd_1303 wd_35 wd_106 wd_1304 ⟨by decide, by decide, by decide +kernel⟩ dX10_errandLine_56)) (ax_lf_ok (ak_if_ne (by decide) dX10_errandLine_59))) (ax_nd_ok (ax_lf_ok (ak_iconst (by decide) dX10_errandLine_62)) (ax_nd_ok (ax_lf_ok (ak_zret rfl dX10_errandLine_63)) (ax_lf_ok (ak_aload_n rfl dX10_errandLine_64))))) (ax_nd_ok (ax_nd_ok (ax_lf_ok (ak_iconst (by decide) dX10_errandLine_65)) (ax_nd_ok (ax_lf_ok (ak_iconst (by decide) dX10_errandLine_66)) (ax_lf_ok (ak_bipush (by decide) dX10_errandLine_67)))) (ax_nd_ok (ax_lf_ok (ak_invV (by decide) (by decide) (by decide) rfl wd_1320 wd_1322 wd_38 wd_106 wd_1323 ⟨by decide, by decide, by decide +kernel⟩ dX10_errandLine_69)) (ax_nd_ok (ax_lf_ok (ak_iconst (by decide) dX10_errandLine_72)) (ax_lf_ok (ak_zret rfl dX10_errandLine_73)))))))
abbrev mX10_errandLine (g : ax_G) (as : List Value) (h : ax_H) (Ret : Option Value → ax_H → Prop) : Prop := ax_M g 4 0 0 yX10_errandLine cX10_errandLine 4 (some .boolean) as h Ret
theorem dX10_trainLine_0 : decode cX10_trainLine 0 = .ok (.lload_n 1, 1) := by decide +kernel
theorem dX10_trainLine_1 : decode cX10_trainLine 1 = .ok (.ldc2_w 200, 3) := by decide +kernel
theorem dX10_trainLine_4 : decode cX10_trainLine 4 = .ok (.lcmp, 1) := by decide +kernel
theorem dX10_trainLine_5 : decode cX10_trainLine 5 = .ok (.ifCond .eq 8, 3) := by decide +kernel
theorem dX10_trainLine_8 : decode cX10_trainLine 8 = .ok (.aload_n 0, 1) := by decide +kernel
theorem dX10_trainLine_9 : decode cX10_trainLine 9 = .ok (.invokevirtual 136, 3) := by decide +kernel
theorem dX10_trainLine_12 : decode cX10_trainLine 12 = .ok (.ireturn, 1) := by decide +kernel
theorem dX10_trainLine_13 : decode cX10_trainLine 13 = .ok (.aload_n 0, 1) := by decide +kernel
theorem dX10_trainLine_14 : decode cX10_trainLine 14 = .ok (.iconst 0, 1) := by decide +kernel
theorem dX10_trainLine_15 : decode cX10_trainLine 15 = .ok (.bipush 8, 2) := by decide +kernel
theorem dX10_trainLine_17 : decode cX10_trainLine 17 = .ok (.iload_n 3, 1) := by decide +kernel
theorem dX10_trainLine_18 : decode cX10_trainLine 18 = .ok (.invokevirtual 182, 3) := by decide +kernel
theorem dX10_trainLine_21 : decode cX10_trainLine 21 = .ok (.aload_n 0, 1) := by decide +kernel
theorem dX10_trainLine_22 : decode cX10_trainLine 22 = .ok (.invokevirtual 148, 3) := by decide +kernel
theorem dX10_trainLine_25 : decode cX10_trainLine 25 = .ok (.aload_n 0, 1) := by decide +kernel
theorem dX10_trainLine_26 : decode cX10_trainLine 26 = .ok (.iconst 0, 1) := by decide +kernel
theorem dX10_trainLine_27 : decode cX10_trainLine 27 = .ok (.iconst 0, 1) := by decide +kernel
theorem dX10_trainLine_28 : decode cX10_trainLine 28 = .ok (.bipush 11, 2) := by decide +kernel
theorem dX10_trainLine_30 : decode cX10_trainLine 30 = .ok (.invokevirtual 151, 3) := by decide +kernel
theorem dX10_trainLine_33 : decode cX10_trainLine 33 = .ok (.ifCond .eq 14, 3) := by decide +kernel
theorem dX10_trainLine_36 : decode cX10_trainLine 36 = .ok (.aload_n 0, 1) := by decide +kernel
theorem dX10_trainLine_37 : decode cX10_trainLine 37 = .ok (.iconst 1, 1) := by decide +kernel
theorem dX10_trainLine_38 : decode cX10_trainLine 38 = .ok (.iconst 1, 1) := by decide +kernel
theorem dX10_trainLine_39 : decode cX10_trainLine 39 = .ok (.bipush 9, 2) := by decide +kernel
theorem dX10_trainLine_41 : decode cX10_trainLine 41 = .ok (.invokevirtual 151, 3) := by decide +kernel
theorem dX10_trainLine_44 : decode cX10_trainLine 44 = .ok (.ifCond .ne 5, 3) := by decide +kernel
theorem dX10_trainLine_47 : decode cX10_trainLine 47 = .ok (.iconst 0, 1) := by decide +kernel
theorem dX10_trainLine_48 : decode cX10_trainLine 48 = .ok (.ireturn, 1) := by decide +kernel
theorem dX10_trainLine_49 : decode cX10_trainLine 49 = .ok (.aload_n 0, 1) := by decide +kernel
theorem dX10_trainLine_50 : decode cX10_trainLine 50 = .ok (.iconst 1, 1) := by decide +kernel
theorem dX10_trainLine_51 : decode cX10_trainLine 51 = .ok (.iconst 2, 1) := by decide +kernel
theorem dX10_trainLine_52 : decode cX10_trainLine 52 = .ok (.bipush 8, 2) := by decide +kernel
theorem dX10_trainLine_54 : decode cX10_trainLine 54 = .ok (.invokevirtual 195, 3) := by decide +kernel
theorem dX10_trainLine_57 : decode cX10_trainLine 57 = .ok (.iconst 1, 1) := by decide +kernel
theorem dX10_trainLine_58 : decode cX10_trainLine 58 = .ok (.ireturn, 1) := by decide +kernel
def tX10_trainLine (g : ax_G) : Nat → ax_O := ax_nd 27 (ax_nd 13 (ax_nd 5 (ax_nd 1 (ax_nd 0 (ax_lf 0 (ao_ll 1 1)) (ax_lf 1 (ao_lc (500135192942) 3))) (ax_nd 4 (ax_lf 4 ao_lcmp) (ax_lf 5 (ao_if_eq 13)))) (ax_nd 9 (ax_nd 8 (ax_lf 8 (ao_al 0 1)) (ax_lf 9 (ao_inv g 1 10 1 yX10_fails cX10_fails 1 (some .boolean) 1 0 0 0 0))) (ax_nd 12 (ax_lf 12 (ao_zret 0 0)) (ax_lf 13 (ao_al 0 1))))) (ax_nd 18 (ax_nd 15 (ax_nd 14 (ax_lf 14 (ao_ic (0) 1)) (ax_lf 15 (ao_ic (8) 2))) (ax_nd 17 (ax_lf 17 (ao_il 3 1)) (ax_lf 18 (ao_inv g 2 10 0 yX10_full cX10_full 4 none 4 0 0 0 0)))) (ax_nd 22 (ax_nd 21 (ax_lf 21 (ao_al 0 1)) (ax_lf 22 (ao_inv g 2 10 0 yX10_token cX10_token 3 none 1 0 0 0 0))) (ax_nd 25 (ax_lf 25 (ao_al 0 1)) (ax_nd 26 (ax_lf 26 (ao_ic (0) 1)) (ax_lf 27 (ao_ic (0) 1))))))) (ax_nd 44 (ax_nd 36 (ax_nd 30 (ax_nd 28 (ax_lf 28 (ao_ic (11) 2)) (ax_lf 30 (ao_inv g 3 10 1 yX10_take cX10_take 4 (some .boolean) 4 0 0 0 0))) (ax_nd 33 (ax_lf 33 (ao_if_eq 47)) (ax_lf 36 (ao_al 0 1)))) (ax_nd 38 (ax_nd 37 (ax_lf 37 (ao_ic (1) 1)) (ax_lf 38 (ao_ic (1) 1))) (ax_nd 39 (ax_lf 39 (ao_ic (9) 2)) (ax_nd 41 (ax_lf 41 (ao_inv g 3 10 1 yX10_take cX10_take 4 (some .boolean) 4 0 0 0 0)) (ax_lf 44 (ao_if_ne 49)))))) (ax_nd 50 (ax_nd 48 (ax_nd 47 (ax_lf 47 (ao_ic (0) 1)) (ax_lf 48 (ao_zret 0 0))) (ax_nd 49 (ax_lf 49 (ao_al 0 1)) (ax_lf 50 (ao_ic (1) 1)))) (ax_nd 52 (ax_nd 51 (ax_lf 51 (ao_ic (2) 1)) (ax_lf 52 (ao_ic (8) 2))) (ax_nd 54 (ax_lf 54 (ao_inv g 1 10 0 yX10_keep cX10_keep 6 none 4 0 0 0 0)) (ax_nd 57 (ax_lf 57 (ao_ic (1) 1)) (ax_lf 58 (ao_zret 0 0)))))))
theorem oX10_trainLine (g : ax_G) : ∀ pc, ax_ok g cX10_trainLine 4 (some .boolean) RX10 "trainLine" 4 0 0 pc (tX10_trainLine g pc) := ax_nd_ok (ax_nd_ok (ax_nd_ok (ax_nd_ok (ax_nd_ok (ax_lf_ok (ak_lload_n rfl dX10_trainLine_0)) (ax_lf_ok (ak_ldc2 wd_1333 dX10_trainLine_1))) (ax_nd_ok (ax_lf_ok (ak_lcmp dX10_trainLine_4)) (ax_lf_ok (ak_if_eq (by decide) dX10_trainLine_5)))) (ax_nd_ok (ax_nd_ok (ax_lf_ok (ak_aload_n rfl dX10_trainLine_8)) (ax_lf_ok (ak_invV (by decide) (by decide) (by decide) rfl wd_1285 wd_1287 wd_31 wd_106 wd_1288 ⟨by decide, by decide, by decide +kernel⟩ dX10_trainLine_9))) (ax_nd_ok (ax_lf_ok (ak_zret rfl dX10_trainLine_12)) (ax_lf_ok (ak_aload_n rfl dX10_trainLine_13))))) (ax_nd_ok (ax_nd_ok (ax_nd_ok (ax_lf_ok (ak_iconst (by decide) dX10_trainLine_14)) (ax_lf_ok (ak_bipush (by decide) dX10_trainLine_15))) (ax_nd_ok (ax_lf_ok (ak_iload_n rfl dX10_trainLine_17)) (ax_lf_ok (ak_invV (by decide) (by decide) (by decide) rfl wd_1289 wd_1291 wd_32 wd_106 wd_1292 ⟨by decide, by decide, by decide +kernel⟩ dX10_trainLine_18)))) (ax_nd_ok (ax_nd_ok (ax_lf_ok (ak_aload_n rfl dX10_trainLine_21)) (ax_lf_ok (ak_invV (by decide) (by decide) (by decide) rfl wd_1259 wd_1261 wd_26 wd_106 wd_1262 ⟨by decide, by decide, by decide +kernel⟩ dX10_trainLine_22))) (ax_nd_ok (ax_lf_ok (ak_aload_n rfl dX10_trainLine_25)) (ax_nd_ok (ax_lf_ok (ak_iconst (by decide) dX10_trainLine_26)) (ax_lf_ok (ak_iconst (by decide) dX10_trainLine_27))))))) (ax_nd_ok (ax_nd_ok (ax_nd_ok (ax_nd_ok (ax_lf_ok (ak_bipush (by decide) dX10_trainLine_28)) (ax_lf_ok (ak_invV (by decide) (by decide) (by decide) rfl wd_1301 wd_1303 wd_35 wd_106 wd_1304 ⟨by decide, by decide, by decide +kernel⟩ dX10_trainLine_30))) (ax_nd_ok (ax_lf_ok (ak_if_eq (by decide) dX10_trainLine_33)) (ax_lf_ok (ak_aload_n rfl dX10_trainLine_36)))) (ax_nd_ok (ax_nd_ok (ax_lf_ok (ak_iconst (by decide) dX10_trainLine_37)) (ax_lf_ok (ak_iconst (by decide) dX10_trainLine_38))) (ax_nd_ok (ax_lf_ok (ak_bipush (by decide) dX10_trainLine_39)) (ax_nd_ok (ax_lf_ok (ak_invV (by decide) (by decide) (by decide) rfl wd_1301 wd_1303 wd_35 wd_106 wd_1304 ⟨by decide, by decide, by decide +kernel⟩ dX10_trainLine_41)) (ax_lf_ok (ak_if_ne (by decide) dX10_trainLine_44)))))) (ax_nd_ok (ax_nd_ok (ax_nd_ok (ax_lf_ok (ak_iconst (by decide) dX10_trainLine_47)) (ax_lf_ok (ak_zret rfl dX10_trainLine_48))) (ax_nd_ok (ax_lf_ok (ak_aload_n rfl dX10_trainLine_49)) (ax_lf_ok (ak_iconst (by decide) dX10_trainLine_50)))) (ax_nd_ok (ax_nd_ok (ax_lf_ok (ak_iconst (by decide) dX10_trainLine_51)) (ax_lf_ok (ak_bipush (by decide) dX10_trainLine_52))) (ax_nd_ok (ax_lf_ok (ak_invV (by decide) (by decide) (by decide) rfl wd_1320 wd_1322 wd_38 wd_106 wd_1323 ⟨by decide, by decide, by decide +kernel⟩ dX10_trainLine_54)) (ax_nd_ok (ax_lf_ok (ak_iconst (by decide) dX10_trainLine_57)) (ax_lf_ok (ak_zret rfl dX10_trainLine_58)))))))
abbrev mX10_trainLine (g : ax_G) (as : List Value) (h : ax_H) (Ret : Option Value → ax_H → Prop) : Prop := ax_M g 4 0 0 yX10_trainLine cX10_trainLine 4 (some .boolean) as h Ret
theorem dX10_sightLine_0 : decode cX10_sightLine 0 = .ok (.lload_n 1, 1) := by decide +kernel
theorem dX10_sightLine_1 : decode cX10_sightLine 1 = .ok (.ldc2_w 202, 3) := by decide +kernel
theorem dX10_sightLine_4 : decode cX10_sightLine 4 = .ok (.lcmp, 1) := by decide +kernel
theorem dX10_sightLine_5 : decode cX10_sightLine 5 = .ok (.ifCond .eq 16, 3) := by decide +kernel
theorem dX10_sightLine_8 : decode cX10_sightLine 8 = .ok (.lload_n 1, 1) := by decide +kernel
theorem dX10_sightLine_9 : decode cX10_sightLine 9 = .ok (.ldc2_w 204, 3) := by decide +kernel
theorem dX10_sightLine_12 : decode cX10_sightLine 12 = .ok (.lcmp, 1) := by decide +kernel
theorem dX10_sightLine_13 : decode cX10_sightLine 13 = .ok (.ifCond .eq 8, 3) := by decide +kernel
theorem dX10_sightLine_16 : decode cX10_sightLine 16 = .ok (.aload_n 0, 1) := by decide +kernel
theorem dX10_sightLine_17 : decode cX10_sightLine 17 = .ok (.invokevirtual 136, 3) := by decide +kernel
theorem dX10_sightLine_20 : decode cX10_sightLine 20 = .ok (.ireturn, 1) := by decide +kernel
theorem dX10_sightLine_21 : decode cX10_sightLine 21 = .ok (.aload_n 0, 1) := by decide +kernel
theorem dX10_sightLine_22 : decode cX10_sightLine 22 = .ok (.iconst 0, 1) := by decide +kernel
theorem dX10_sightLine_23 : decode cX10_sightLine 23 = .ok (.bipush 6, 2) := by decide +kernel
theorem dX10_sightLine_25 : decode cX10_sightLine 25 = .ok (.iload_n 3, 1) := by decide +kernel
theorem dX10_sightLine_26 : decode cX10_sightLine 26 = .ok (.invokevirtual 182, 3) := by decide +kernel
theorem dX10_sightLine_29 : decode cX10_sightLine 29 = .ok (.aload_n 0, 1) := by decide +kernel
theorem dX10_sightLine_30 : decode cX10_sightLine 30 = .ok (.invokevirtual 148, 3) := by decide +kernel
theorem dX10_sightLine_33 : decode cX10_sightLine 33 = .ok (.aload_n 0, 1) := by decide +kernel
theorem dX10_sightLine_34 : decode cX10_sightLine 34 = .ok (.iconst 0, 1) := by decide +kernel
theorem dX10_sightLine_35 : decode cX10_sightLine 35 = .ok (.iconst 1, 1) := by decide +kernel
theorem dX10_sightLine_36 : decode cX10_sightLine 36 = .ok (.iconst 3, 1) := by decide +kernel
theorem dX10_sightLine_37 : decode cX10_sightLine 37 = .ok (.invokevirtual 151, 3) := by decide +kernel
theorem dX10_sightLine_40 : decode cX10_sightLine 40 = .ok (.ifCond .eq 25, 3) := by decide +kernel
theorem dX10_sightLine_43 : decode cX10_sightLine 43 = .ok (.aload_n 0, 1) := by decide +kernel
theorem dX10_sightLine_44 : decode cX10_sightLine 44 = .ok (.iconst 1, 1) := by decide +kernel
theorem dX10_sightLine_45 : decode cX10_sightLine 45 = .ok (.iconst 0, 1) := by decide +kernel
theorem dX10_sightLine_46 : decode cX10_sightLine 46 = .ok (.iconst 5, 1) := by decide +kernel
theorem dX10_sightLine_47 : decode cX10_sightLine 47 = .ok (.invokevirtual 151, 3) := by decide +kernel
theorem dX10_sightLine_50 : decode cX10_sightLine 50 = .ok (.ifCond .eq 15, 3) := by decide +kernel
theorem dX10_sightLine_53 : decode cX10_sightLine 53 = .ok (.aload_n 0, 1) := by decide +kernel
theorem dX10_sightLine_54 : decode cX10_sightLine 54 = .ok (.iconst 2, 1) := by decide +kernel
theorem dX10_sightLine_55 : decode cX10_sightLine 55 = .ok (.iconst 0, 1) := by decide +kernel
theorem dX10_sightLine_56 : decode cX10_sightLine 56 = .ok (.sipush 999, 3) := by decide +kernel
theorem dX10_sightLine_59 : decode cX10_sightLine 59 = .ok (.invokevirtual 151, 3) := by decide +kernel
theorem dX10_sightLine_62 : decode cX10_sightLine 62 = .ok (.ifCond .ne 5, 3) := by decide +kernel
theorem dX10_sightLine_65 : decode cX10_sightLine 65 = .ok (.iconst 0, 1) := by decide +kernel
theorem dX10_sightLine_66 : decode cX10_sightLine 66 = .ok (.ireturn, 1) := by decide +kernel
theorem dX10_sightLine_67 : decode cX10_sightLine 67 = .ok (.aload_n 0, 1) := by decide +kernel
theorem dX10_sightLine_68 : decode cX10_sightLine 68 = .ok (.getfield 44, 3) := by decide +kernel
theorem dX10_sightLine_71 : decode cX10_sightLine 71 = .ok (.iconst 2, 1) := by decide +kernel
theorem dX10_sightLine_72 : decode cX10_sightLine 72 = .ok (.lload_n 1, 1) := by decide +kernel
theorem dX10_sightLine_73 : decode cX10_sightLine 73 = .ok (.ldc2_w 204, 3) := by decide +kernel
theorem dX10_sightLine_76 : decode cX10_sightLine 76 = .ok (.lcmp, 1) := by decide +kernel
theorem dX10_sightLine_77 : decode cX10_sightLine 77 = .ok (.ifCond .ne 13, 3) := by decide +kernel
theorem dX10_sightLine_80 : decode cX10_sightLine 80 = .ok (.aload_n 0, 1) := by decide +kernel
theorem dX10_sightLine_81 : decode cX10_sightLine 81 = .ok (.getfield 44, 3) := by decide +kernel
theorem dX10_sightLine_84 : decode cX10_sightLine 84 = .ok (.iconst 2, 1) := by decide +kernel
theorem dX10_sightLine_85 : decode cX10_sightLine 85 = .ok (.iaload, 1) := by decide +kernel
theorem dX10_sightLine_86 : decode cX10_sightLine 86 = .ok (.ineg, 1) := by decide +kernel
theorem dX10_sightLine_87 : decode cX10_sightLine 87 = .ok (.goto 9, 3) := by decide +kernel
theorem dX10_sightLine_90 : decode cX10_sightLine 90 = .ok (.aload_n 0, 1) := by decide +kernel
theorem dX10_sightLine_91 : decode cX10_sightLine 91 = .ok (.getfield 44, 3) := by decide +kernel
theorem dX10_sightLine_94 : decode cX10_sightLine 94 = .ok (.iconst 2, 1) := by decide +kernel
theorem dX10_sightLine_95 : decode cX10_sightLine 95 = .ok (.iaload, 1) := by decide +kernel
theorem dX10_sightLine_96 : decode cX10_sightLine 96 = .ok (.iastore, 1) := by decide +kernel
theorem dX10_sightLine_97 : decode cX10_sightLine 97 = .ok (.aload_n 0, 1) := by decide +kernel
theorem dX10_sightLine_98 : decode cX10_sightLine 98 = .ok (.iconst 1, 1) := by decide +kernel
theorem dX10_sightLine_99 : decode cX10_sightLine 99 = .ok (.iconst 3, 1) := by decide +kernel
theorem dX10_sightLine_100 : decode cX10_sightLine 100 = .ok (.bipush 6, 2) := by decide +kernel
theorem dX10_sightLine_102 : decode cX10_sightLine 102 = .ok (.invokevirtual 195, 3) := by decide +kernel
theorem dX10_sightLine_105 : decode cX10_sightLine 105 = .ok (.iconst 1, 1) := by decide +kernel
theorem dX10_sightLine_106 : decode cX10_sightLine 106 = .ok (.ireturn, 1) := by decide +kernel
def tX10_sightLine (g : ax_G) : Nat → ax_O := ax_nd 53 (ax_nd 25 (ax_nd 12 (ax_nd 4 (ax_nd 0 (ax_lf 0 (ao_ll 1 1)) (ax_nd 1 (ax_lf 1 (ao_lc (6840691) 3)) (ax_lf 4 ao_lcmp))) (ax_nd 8 (ax_nd 5 (ax_lf 5 (ao_if_eq 21)) (ax_lf 8 (ao_ll 1 1))) (ax_nd 9 (ax_lf 9 (ao_lc (1870095731) 3)) (ax_lf 12 ao_lcmp)))) (ax_nd 20 (ax_nd 16 (ax_nd 13 (ax_lf 13 (ao_if_eq 21)) (ax_lf 16 (ao_al 0 1))) (ax_nd 17 (ax_lf 17 (ao_inv g 1 10 1 yX10_fails cX10_fails 1 (some .boolean) 1 0 0 0 0)) (ax_lf 20 (ao_zret 0 0)))) (ax_nd 22 (ax_nd 21 (ax_lf 21 (ao_al 0 1)) (ax_lf 22 (ao_ic (0) 1))) (ax_nd 23 (ax_lf 23 (ao_ic (6) 2)) (ax_lf 25 (ao_il 3 1)))))) (ax_nd 37 (ax_nd 33 (ax_nd 29 (ax_nd 26 (ax_lf 26 (ao_inv g 2 10 0 yX10_full cX10_full 4 none 4 0 0 0 0)) (ax_lf 29 (ao_al 0 1))) (ax_nd 30 (ax_lf 30 (ao_inv g 2 10 0 yX10_token cX10_token 3 none 1 0 0 0 0)) (ax_lf 33 (ao_al 0 1)))) (ax_nd 35 (ax_nd 34 (ax_lf 34 (ao_ic (0) 1)) (ax_lf 35 (ao_ic (1) 1))) (ax_nd 36 (ax_lf 36 (ao_ic (3) 1)) (ax_lf 37 (ao_inv g 3 10 1 yX10_take cX10_take 4 (some .boolean) 4 0 0 0 0))))) (ax_nd 45 (ax_nd 43 (ax_nd 40 (ax_lf 40 (ao_if_eq 65)) (ax_lf 43 (ao_al 0 1))) (ax_nd 44 (ax_lf 44 (ao_ic (1) 1)) (ax_lf 45 (ao_ic (0) 1)))) (ax_nd 47 (ax_nd 46 (ax_lf 46 (ao_ic (5) 1)) (ax_lf 47 (ao_inv g 3 10 1 yX10_take cX10_take 4 (some .boolean) 4 0 0 0 0))) (ax_nd 50 (ax_lf 50 (ao_if_eq 65)) (ax_lf 53 (ao_al 0 1))))))) (ax_nd 81 (ax_nd 67 (ax_nd 59 (ax_nd 55 (ax_nd 54 (ax_lf 54 (ao_ic (2) 1)) (ax_lf 55 (ao_ic (0) 1))) (ax_nd 56 (ax_lf 56 (ao_ic (999) 3)) (ax_lf 59 (ao_inv g 3 10 1 yX10_take cX10_take 4 (some .boolean) 4 0 0 0 0)))) (ax_nd 65 (ax_nd 62 (ax_lf 62 (ao_if_ne 67)) (ax_lf 65 (ao_ic (0) 1))) (ax_nd 66 (ax_lf 66 (ao_zret 0 0)) (ax_lf 67 (ao_al 0 1))))) (ax_nd 73 (ax_nd 71 (ax_nd 68 (ax_lf 68 (ao_gr 10 21)) (ax_lf 71 (ao_ic (2) 1))) (ax_nd 72 (ax_lf 72 (ao_ll 1 1)) (ax_lf 73 (ao_lc (1870095731) 3)))) (ax_nd 77 (ax_nd 76 (ax_lf 76 ao_lcmp) (ax_lf 77 (ao_if_ne 90))) (ax_nd 80 (ax_lf 80 (ao_al 0 1)) (ax_lf 81 (ao_gr 10 21)))))) (ax_nd 95 (ax_nd 87 (ax_nd 85 (ax_nd 84 (ax_lf 84 (ao_ic (2) 1)) (ax_lf 85 ao_iald)) (ax_nd 86 (ax_lf 86 ao_ineg) (ax_lf 87 (ao_goto 96)))) (ax_nd 91 (ax_nd 90 (ax_lf 90 (ao_al 0 1)) (ax_lf 91 (ao_gr 10 21))) (ax_nd 94 (ax_lf 94 (ao_ic (2) 1)) (ax_lf 95 ao_iald)))) (ax_nd 99 (ax_nd 97 (ax_nd 96 (ax_lf 96 ao_iast) (ax_lf 97 (ao_al 0 1))) (ax_nd 98 (ax_lf 98 (ao_ic (1) 1)) (ax_lf 99 (ao_ic (3) 1)))) (ax_nd 102 (ax_nd 100 (ax_lf 100 (ao_ic (6) 2)) (ax_lf 102 (ao_inv g 1 10 0 yX10_keep cX10_keep 6 none 4 0 0 0 0))) (ax_nd 105 (ax_lf 105 (ao_ic (1) 1)) (ax_lf 106 (ao_zret 0 0)))))))
theorem oX10_sightLine (g : ax_G) : ∀ pc, ax_ok g cX10_sightLine 4 (some .boolean) RX10 "sightLine" 4 0 0 pc (tX10_sightLine g pc) := ax_nd_ok (ax_nd_ok (ax_nd_ok (ax_nd_ok (ax_nd_ok (ax_lf_ok (ak_lload_n rfl dX10_sightLine_0)) (ax_nd_ok (ax_lf_ok (ak_ldc2 wd_1338 dX10_sightLine_1)) (ax_lf_ok (ak_lcmp dX10_sightLine_4)))) (ax_nd_ok (ax_nd_ok (ax_lf_ok (ak_if_eq (by decide) dX10_sightLine_5)) (ax_lf_ok (ak_lload_n rfl dX10_sightLine_8))) (ax_nd_ok (ax_lf_ok (ak_ldc2 wd_1339 dX10_sightLine_9)) (ax_lf_ok (ak_lcmp dX10_sightLine_12))))) (ax_nd_ok (ax_nd_ok (ax_nd_ok (ax_lf_ok (ak_if_eq (by decide) dX10_sightLine_13)) (ax_lf_ok (ak_aload_n rfl dX10_sightLine_16))) (ax_nd_ok (ax_lf_ok (ak_invV (by decide) (by decide) (by decide) rfl wd_1285 wd_1287 wd_31 wd_106 wd_1288 ⟨by decide, by decide, by decide +kernel⟩ dX10_sightLine_17)) (ax_lf_ok (ak_zret rfl dX10_sightLine_20)))) (ax_nd_ok (ax_nd_ok (ax_lf_ok (ak_aload_n rfl dX10_sightLine_21)) (ax_lf_ok (ak_iconst (by decide) dX10_sightLine_22))) (ax_nd_ok (ax_lf_ok (ak_bipush (by decide) dX10_sightLine_23)) (ax_lf_ok (ak_iload_n rfl dX10_sightLine_25)))))) (ax_nd_ok (ax_nd_ok (ax_nd_ok (ax_nd_ok (ax_lf_ok (ak_invV (by decide) (by decide) (by decide) rfl wd_1289 wd_1291 wd_32 wd_106 wd_1292 ⟨by decide, by decide, by decide +kernel⟩ dX10_sightLine_26)) (ax_lf_ok (ak_aload_n rfl dX10_sightLine_29))) (ax_nd_ok (ax_lf_ok (ak_invV (by decide) (by decide) (by decide) rfl wd_1259 wd_1261 wd_26 wd_106 wd_1262 ⟨by decide, by decide, by decide +kernel⟩ dX10_sightLine_30)) (ax_lf_ok (ak_aload_n rfl dX10_sightLine_33)))) (ax_nd_ok (ax_nd_ok (ax_lf_ok (ak_iconst (by decide) dX10_sightLine_34)) (ax_lf_ok (ak_iconst (by decide) dX10_sightLine_35))) (ax_nd_ok (ax_lf_ok (ak_iconst (by decide) dX10_sightLine_36)) (ax_lf_ok (ak_invV (by decide) (by decide) (by decide) rfl wd_1301 wd_1303 wd_35 wd_106 wd_1304 ⟨by decide, by decide, by decide +kernel⟩ dX10_sightLine_37))))) (ax_nd_ok (ax_nd_ok (ax_nd_ok (ax_lf_ok (ak_if_eq (by decide) dX10_sightLine_40)) (ax_lf_ok (ak_aload_n rfl dX10_sightLine_43))) (ax_nd_ok (ax_lf_ok (ak_iconst (by decide) dX10_sightLine_44)) (ax_lf_ok (ak_iconst (by decide) dX10_sightLine_45)))) (ax_nd_ok (ax_nd_ok (ax_lf_ok (ak_iconst (by decide) dX10_sightLine_46)) (ax_lf_ok (ak_invV (by decide) (by decide) (by decide) rfl wd_1301 wd_1303 wd_35 wd_106 wd_1304 ⟨by decide, by decide, by decide +kernel⟩ dX10_sightLine_47))) (ax_nd_ok (ax_lf_ok (ak_if_eq (by decide) dX10_sightLine_50)) (ax_lf_ok (ak_aload_n rfl dX10_sightLine_53))))))) (ax_nd_ok (ax_nd_ok (ax_nd_ok (ax_nd_ok (ax_nd_ok (ax_lf_ok (ak_iconst (by decide) dX10_sightLine_54)) (ax_lf_ok (ak_iconst (by decide) dX10_sightLine_55))) (ax_nd_ok (ax_lf_ok (ak_sipush (by decide) dX10_sightLine_56)) (ax_lf_ok (ak_invV (by decide) (by decide) (by decide) rfl wd_1301 wd_1303 wd_35 wd_106 wd_1304 ⟨by decide, by decide, by decide +kernel⟩ dX10_sightLine_59)))) (ax_nd_ok (ax_nd_ok (ax_lf_ok (ak_if_ne (by decide) dX10_sightLine_62)) (ax_lf_ok (ak_iconst (by decide) dX10_sightLine_65))) (ax_nd_ok (ax_lf_ok (ak_zret rfl dX10_sightLine_66)) (ax_lf_ok (ak_aload_n rfl dX10_sightLine_67))))) (ax_nd_ok (ax_nd_ok (ax_nd_ok (ax_lf_ok (ak_gr fF_X10_44 dX10_sightLine_68)) (ax_lf_ok (ak_iconst (by decide) dX10_sightLine_71))) (ax_nd_ok (ax_lf_ok (ak_lload_n rfl dX10_sightLine_72)) (ax_lf_ok (ak_ldc2 wd_1339 dX10_sightLine_73)))) (ax_nd_ok (ax_nd_ok (ax_lf_ok (ak_lcmp dX10_sightLine_76)) (ax_lf_ok (ak_if_ne (by decide) dX10_sightLine_77))) (ax_nd_ok (ax_lf_ok (ak_aload_n rfl dX10_sightLine_80)) (ax_lf_ok (ak_gr fF_X10_44 dX10_sightLine_81)))))) (ax_nd_ok (ax_nd_ok (ax_nd_ok (ax_nd_ok (ax_lf_ok (ak_iconst (by decide) dX10_sightLine_84)) (ax_lf_ok (ak_iald dX10_sightLine_85))) (ax_nd_ok (ax_lf_ok (ak_ineg dX10_sightLine_86)) (ax_lf_ok (ak_goto (by decide) dX10_sightLine_87)))) (ax_nd_ok (ax_nd_ok (ax_lf_ok (ak_aload_n rfl dX10_sightLine_90)) (ax_lf_ok (ak_gr fF_X10_44 dX10_sightLine_91))) (ax_nd_ok (ax_lf_ok (ak_iconst (by decide) dX10_sightLine_94)) (ax_lf_ok (ak_iald dX10_sightLine_95))))) (ax_nd_ok (ax_nd_ok (ax_nd_ok (ax_lf_ok (ak_iast dX10_sightLine_96)) (ax_lf_ok (ak_aload_n rfl dX10_sightLine_97))) (ax_nd_ok (ax_lf_ok (ak_iconst (by decide) dX10_sightLine_98)) (ax_lf_ok (ak_iconst (by decide) dX10_sightLine_99)))) (ax_nd_ok (ax_nd_ok (ax_lf_ok (ak_bipush (by decide) dX10_sightLine_100)) (ax_lf_ok (ak_invV (by decide) (by decide) (by decide) rfl wd_1320 wd_1322 wd_38 wd_106 wd_1323 ⟨by decide, by decide, by decide +kernel⟩ dX10_sightLine_102))) (ax_nd_ok (ax_lf_ok (ak_iconst (by decide) dX10_sightLine_105)) (ax_lf_ok (ak_zret rfl dX10_sightLine_106)))))))
abbrev mX10_sightLine (g : ax_G) (as : List Value) (h : ax_H) (Ret : Option Value → ax_H → Prop) : Prop := ax_M g 4 0 0 yX10_sightLine cX10_sightLine 4 (some .boolean) as h Ret
theorem dX10_lineOf_0 : decode cX10_lineOf 0 = .ok (.iload_n 1, 1) := by decide +kernel
theorem dX10_lineOf_1 : decode cX10_lineOf 1 = .ok (.tableswitch 63 0 3 #[31, 39, 47, 55], 31) := by decide +kernel
theorem dX10_lineOf_32 : decode cX10_lineOf 32 = .ok (.aload_n 0, 1) := by decide +kernel
theorem dX10_lineOf_33 : decode cX10_lineOf 33 = .ok (.lload_n 2, 1) := by decide +kernel
theorem dX10_lineOf_34 : decode cX10_lineOf 34 = .ok (.iload 4, 2) := by decide +kernel
theorem dX10_lineOf_36 : decode cX10_lineOf 36 = .ok (.invokevirtual 206, 3) := by decide +kernel
theorem dX10_lineOf_39 : decode cX10_lineOf 39 = .ok (.ireturn, 1) := by decide +kernel
theorem dX10_lineOf_40 : decode cX10_lineOf 40 = .ok (.aload_n 0, 1) := by decide +kernel
theorem dX10_lineOf_41 : decode cX10_lineOf 41 = .ok (.lload_n 2, 1) := by decide +kernel
theorem dX10_lineOf_42 : decode cX10_lineOf 42 = .ok (.iload 4, 2) := by decide +kernel
theorem dX10_lineOf_44 : decode cX10_lineOf 44 = .ok (.invokevirtual 210, 3) := by decide +kernel
theorem dX10_lineOf_47 : decode cX10_lineOf 47 = .ok (.ireturn, 1) := by decide +kernel
theorem dX10_lineOf_48 : decode cX10_lineOf 48 = .ok (.aload_n 0, 1) := by decide +kernel
theorem dX10_lineOf_49 : decode cX10_lineOf 49 = .ok (.lload_n 2, 1) := by decide +kernel
theorem dX10_lineOf_50 : decode cX10_lineOf 50 = .ok (.iload 4, 2) := by decide +kernel
theorem dX10_lineOf_52 : decode cX10_lineOf 52 = .ok (.invokevirtual 213, 3) := by decide +kernel
theorem dX10_lineOf_55 : decode cX10_lineOf 55 = .ok (.ireturn, 1) := by decide +kernel
theorem dX10_lineOf_56 : decode cX10_lineOf 56 = .ok (.aload_n 0, 1) := by decide +kernel
theorem dX10_lineOf_57 : decode cX10_lineOf 57 = .ok (.lload_n 2, 1) := by decide +kernel
theorem dX10_lineOf_58 : decode cX10_lineOf 58 = .ok (.iload 4, 2) := by decide +kernel
theorem dX10_lineOf_60 : decode cX10_lineOf 60 = .ok (.invokevirtual 216, 3) := by decide +kernel
theorem dX10_lineOf_63 : decode cX10_lineOf 63 = .ok (.ireturn, 1) := by decide +kernel
theorem dX10_lineOf_64 : decode cX10_lineOf 64 = .ok (.aload_n 0, 1) := by decide +kernel
theorem dX10_lineOf_65 : decode cX10_lineOf 65 = .ok (.lload_n 2, 1) := by decide +kernel
theorem dX10_lineOf_66 : decode cX10_lineOf 66 = .ok (.iload 4, 2) := by decide +kernel
theorem dX10_lineOf_68 : decode cX10_lineOf 68 = .ok (.invokevirtual 219, 3) := by decide +kernel
theorem dX10_lineOf_71 : decode cX10_lineOf 71 = .ok (.ireturn, 1) := by decide +kernel
def tX10_lineOf (g : ax_G) : Nat → ax_O := ax_nd 48 (ax_nd 36 (ax_nd 32 (ax_nd 0 (ax_lf 0 (ao_il 1 1)) (ax_nd 1 (ax_lf 1 (ao_sw [(0, 32), (1, 40), (2, 48), (3, 56)] 64)) (ax_lf 32 (ao_al 0 1)))) (ax_nd 33 (ax_lf 33 (ao_ll 2 1)) (ax_nd 34 (ax_lf 34 (ao_il 4 2)) (ax_lf 36 (ao_inv g 5 10 1 yX10_republicLine cX10_republicLine 4 (some .boolean) 3 0 0 0 0))))) (ax_nd 41 (ax_nd 39 (ax_lf 39 (ao_zret 0 0)) (ax_nd 40 (ax_lf 40 (ao_al 0 1)) (ax_lf 41 (ao_ll 2 1)))) (ax_nd 44 (ax_nd 42 (ax_lf 42 (ao_il 4 2)) (ax_lf 44 (ao_inv g 4 10 1 yX10_weekLine cX10_weekLine 4 (some .boolean) 3 0 0 0 0))) (ax_nd 47 (ax_lf 47 (ao_zret 0 0)) (ax_lf 48 (ao_al 0 1)))))) (ax_nd 58 (ax_nd 52 (ax_nd 49 (ax_lf 49 (ao_ll 2 1)) (ax_nd 50 (ax_lf 50 (ao_il 4 2)) (ax_lf 52 (ao_inv g 4 10 1 yX10_errandLine cX10_errandLine 4 (some .boolean) 3 0 0 0 0)))) (ax_nd 56 (ax_nd 55 (ax_lf 55 (ao_zret 0 0)) (ax_lf 56 (ao_al 0 1))) (ax_nd 57 (ax_lf 57 (ao_ll 2 1)) (ax_lf 58 (ao_il 4 2))))) (ax_nd 64 (ax_nd 60 (ax_lf 60 (ao_inv g 4 10 1 yX10_trainLine cX10_trainLine 4 (some .boolean) 3 0 0 0 0)) (ax_nd 63 (ax_lf 63 (ao_zret 0 0)) (ax_lf 64 (ao_al 0 1)))) (ax_nd 66 (ax_nd 65 (ax_lf 65 (ao_ll 2 1)) (ax_lf 66 (ao_il 4 2))) (ax_nd 68 (ax_lf 68 (ao_inv g 4 10 1 yX10_sightLine cX10_sightLine 4 (some .boolean) 3 0 0 0 0)) (ax_lf 71 (ao_zret 0 0))))))
theorem oX10_lineOf (g : ax_G) : ∀ pc, ax_ok g cX10_lineOf 5 (some .boolean) RX10 "lineOf" 6 0 0 pc (tX10_lineOf g pc) := ax_nd_ok (ax_nd_ok (ax_nd_ok (ax_nd_ok (ax_lf_ok (ak_iload_n rfl dX10_lineOf_0)) (ax_nd_ok (ax_lf_ok (ak_tsw dX10_lineOf_1 (by decide) (by decide) (by decide) (by decide) (by decide +kernel) (by decide))) (ax_lf_ok (ak_aload_n rfl dX10_lineOf_32)))) (ax_nd_ok (ax_lf_ok (ak_lload_n rfl dX10_lineOf_33)) (ax_nd_ok (ax_lf_ok (ak_iload dX10_lineOf_34)) (ax_lf_ok (ak_invV (by decide) (by decide) (by decide) rfl wd_1275 wd_1277 wd_30 wd_106 wd_1278 ⟨by decide, by decide, by decide +kernel⟩ dX10_lineOf_36))))) (ax_nd_ok (ax_nd_ok (ax_lf_ok (ak_zret rfl dX10_lineOf_39)) (ax_nd_ok (ax_lf_ok (ak_aload_n rfl dX10_lineOf_40)) (ax_lf_ok (ak_lload_n rfl dX10_lineOf_41)))) (ax_nd_ok (ax_nd_ok (ax_lf_ok (ak_iload dX10_lineOf_42)) (ax_lf_ok (ak_invV (by decide) (by decide) (by decide) rfl wd_1315 wd_1317 wd_37 wd_106 wd_1318 ⟨by decide, by decide, by decide +kernel⟩ dX10_lineOf_44))) (ax_nd_ok (ax_lf_ok (ak_zret rfl dX10_lineOf_47)) (ax_lf_ok (ak_aload_n rfl dX10_lineOf_48)))))) (ax_nd_ok (ax_nd_ok (ax_nd_ok (ax_lf_ok (ak_lload_n rfl dX10_lineOf_49)) (ax_nd_ok (ax_lf_ok (ak_iload dX10_lineOf_50)) (ax_lf_ok (ak_invV (by decide) (by decide) (by decide) rfl wd_1324 wd_1326 wd_39 wd_106 wd_1327 ⟨by decide, by decide, by decide +kernel⟩ dX10_lineOf_52)))) (ax_nd_ok (ax_nd_ok (ax_lf_ok (ak_zret rfl dX10_lineOf_55)) (ax_lf_ok (ak_aload_n rfl dX10_lineOf_56))) (ax_nd_ok (ax_lf_ok (ak_lload_n rfl dX10_lineOf_57)) (ax_lf_ok (ak_iload dX10_lineOf_58))))) (ax_nd_ok (ax_nd_ok (ax_lf_ok (ak_invV (by decide) (by decide) (by decide) rfl wd_1329 wd_1331 wd_40 wd_106 wd_1332 ⟨by decide, by decide, by decide +kernel⟩ dX10_lineOf_60)) (ax_nd_ok (ax_lf_ok (ak_zret rfl dX10_lineOf_63)) (ax_lf_ok (ak_aload_n rfl dX10_lineOf_64)))) (ax_nd_ok (ax_nd_ok (ax_lf_ok (ak_lload_n rfl dX10_lineOf_65)) (ax_lf_ok (ak_iload dX10_lineOf_66))) (ax_nd_ok (ax_lf_ok (ak_invV (by decide) (by decide) (by decide) rfl wd_1334 wd_1336 wd_41 wd_106 wd_1337 ⟨by decide, by decide, by decide +kernel⟩ dX10_lineOf_68)) (ax_lf_ok (ak_zret rfl dX10_lineOf_71))))))
abbrev mX10_lineOf (g : ax_G) (as : List Value) (h : ax_H) (Ret : Option Value → ax_H → Prop) : Prop := ax_M g 6 0 0 yX10_lineOf cX10_lineOf 5 (some .boolean) as h Ret
theorem dX10_lines_0 : decode cX10_lines 0 = .ok (.iconst 1, 1) := by decide +kernel
theorem dX10_lines_1 : decode cX10_lines 1 = .ok (.istore_n 2, 1) := by decide +kernel
theorem dX10_lines_2 : decode cX10_lines 2 = .ok (.iload_n 2, 1) := by decide +kernel
theorem dX10_lines_3 : decode cX10_lines 3 = .ok (.ifCond .eq 71, 3) := by decide +kernel
theorem dX10_lines_6 : decode cX10_lines 6 = .ok (.aload_n 0, 1) := by decide +kernel
theorem dX10_lines_7 : decode cX10_lines 7 = .ok (.getfield 121, 3) := by decide +kernel
theorem dX10_lines_10 : decode cX10_lines 10 = .ok (.ifCond .eq 64, 3) := by decide +kernel
theorem dX10_lines_13 : decode cX10_lines 13 = .ok (.aload_n 0, 1) := by decide +kernel
theorem dX10_lines_14 : decode cX10_lines 14 = .ok (.getfield 114, 3) := by decide +kernel
theorem dX10_lines_17 : decode cX10_lines 17 = .ok (.istore_n 3, 1) := by decide +kernel
theorem dX10_lines_18 : decode cX10_lines 18 = .ok (.aload_n 0, 1) := by decide +kernel
theorem dX10_lines_19 : decode cX10_lines 19 = .ok (.iconst 1, 1) := by decide +kernel
theorem dX10_lines_20 : decode cX10_lines 20 = .ok (.putfield 144, 3) := by decide +kernel
theorem dX10_lines_23 : decode cX10_lines 23 = .ok (.aload_n 0, 1) := by decide +kernel
theorem dX10_lines_24 : decode cX10_lines 24 = .ok (.iload_n 1, 1) := by decide +kernel
theorem dX10_lines_25 : decode cX10_lines 25 = .ok (.aload_n 0, 1) := by decide +kernel
theorem dX10_lines_26 : decode cX10_lines 26 = .ok (.getfield 121, 3) := by decide +kernel
theorem dX10_lines_29 : decode cX10_lines 29 = .ok (.iconst 2, 1) := by decide +kernel
theorem dX10_lines_30 : decode cX10_lines 30 = .ok (.if_icmp .ne 10, 3) := by decide +kernel
theorem dX10_lines_33 : decode cX10_lines 33 = .ok (.aload_n 0, 1) := by decide +kernel
theorem dX10_lines_34 : decode cX10_lines 34 = .ok (.getfield 117, 3) := by decide +kernel
theorem dX10_lines_37 : decode cX10_lines 37 = .ok (.goto 4, 3) := by decide +kernel
theorem dX10_lines_40 : decode cX10_lines 40 = .ok (.lconst 0, 1) := by decide +kernel
theorem dX10_lines_41 : decode cX10_lines 41 = .ok (.iload_n 3, 1) := by decide +kernel
theorem dX10_lines_42 : decode cX10_lines 42 = .ok (.invokevirtual 222, 3) := by decide +kernel
theorem dX10_lines_45 : decode cX10_lines 45 = .ok (.istore_n 2, 1) := by decide +kernel
theorem dX10_lines_46 : decode cX10_lines 46 = .ok (.iload_n 2, 1) := by decide +kernel
theorem dX10_lines_47 : decode cX10_lines 47 = .ok (.ifCond .eq 16, 3) := by decide +kernel
theorem dX10_lines_50 : decode cX10_lines 50 = .ok (.aload_n 0, 1) := by decide +kernel
theorem dX10_lines_51 : decode cX10_lines 51 = .ok (.getfield 121, 3) := by decide +kernel
theorem dX10_lines_54 : decode cX10_lines 54 = .ok (.iconst 4, 1) := by decide +kernel
theorem dX10_lines_55 : decode cX10_lines 55 = .ok (.if_icmp .eq 8, 3) := by decide +kernel
theorem dX10_lines_58 : decode cX10_lines 58 = .ok (.aload_n 0, 1) := by decide +kernel
theorem dX10_lines_59 : decode cX10_lines 59 = .ok (.invokevirtual 136, 3) := by decide +kernel
theorem dX10_lines_62 : decode cX10_lines 62 = .ok (.istore_n 2, 1) := by decide +kernel
theorem dX10_lines_63 : decode cX10_lines 63 = .ok (.iload_n 2, 1) := by decide +kernel
theorem dX10_lines_64 : decode cX10_lines 64 = .ok (.ifCond .eq 7, 3) := by decide +kernel
theorem dX10_lines_67 : decode cX10_lines 67 = .ok (.aload_n 0, 1) := by decide +kernel
theorem dX10_lines_68 : decode cX10_lines 68 = .ok (.invokevirtual 148, 3) := by decide +kernel
theorem dX10_lines_71 : decode cX10_lines 71 = .ok (.goto (-69), 3) := by decide +kernel
theorem dX10_lines_74 : decode cX10_lines 74 = .ok (.iload_n 2, 1) := by decide +kernel
theorem dX10_lines_75 : decode cX10_lines 75 = .ok (.ireturn, 1) := by decide +kernel
def tX10_lines (g : ax_G) : Nat → ax_O := ax_nd 34 (ax_nd 17 (ax_nd 6 (ax_nd 1 (ax_nd 0 (ax_lf 0 (ao_ic (1) 1)) (ax_lf 1 (ao_is 2 1))) (ax_nd 2 (ax_lf 2 (ao_il 2 1)) (ax_nd 3 (ax_lf 3 (ao_if_eq 74)) (ax_lf 6 (ao_al 0 1))))) (ax_nd 10 (ax_nd 7 (ax_lf 7 (ao_gi 10 14)) (ax_lf 10 (ao_if_eq 74))) (ax_nd 13 (ax_lf 13 (ao_al 0 1)) (ax_nd 14 (ax_lf 14 (ao_gi 10 13)) (ax_lf 17 (ao_is 3 1)))))) (ax_nd 24 (ax_nd 19 (ax_nd 18 (ax_lf 18 (ao_al 0 1)) (ax_lf 19 (ao_ic (1) 1))) (ax_nd 20 (ax_lf 20 (ao_pz 10 24)) (ax_nd 23 (ax_lf 23 (ao_al 0 1)) (ax_lf 24 (ao_il 1 1))))) (ax_nd 29 (ax_nd 25 (ax_lf 25 (ao_al 0 1)) (ax_nd 26 (ax_lf 26 (ao_gi 10 14)) (ax_lf 29 (ao_ic (2) 1)))) (ax_nd 30 (ax_lf 30 (ao_icmp_ne 40)) (ax_nd 33 (ax_lf 33 (ao_al 0 1)) (ax_lf 34 (ao_gl 10 16))))))) (ax_nd 54 (ax_nd 45 (ax_nd 40 (ax_nd 37 (ax_lf 37 (ao_goto 41)) (ax_lf 40 (ao_lc (0) 1))) (ax_nd 41 (ax_lf 41 (ao_il 3 1)) (ax_nd 42 (ax_lf 42 (ao_inv g 6 10 1 yX10_lineOf cX10_lineOf 5 (some .boolean) 4 0 0 0 0)) (ax_lf 45 (ao_is 2 1))))) (ax_nd 47 (ax_nd 46 (ax_lf 46 (ao_il 2 1)) (ax_lf 47 (ao_if_eq 63))) (ax_nd 50 (ax_lf 50 (ao_al 0 1)) (ax_nd 51 (ax_lf 51 (ao_gi 10 14)) (ax_lf 54 (ao_ic (4) 1)))))) (ax_nd 63 (ax_nd 58 (ax_nd 55 (ax_lf 55 (ao_icmp_eq 63)) (ax_lf 58 (ao_al 0 1))) (ax_nd 59 (ax_lf 59 (ao_inv g 1 10 1 yX10_fails cX10_fails 1 (some .boolean) 1 0 0 0 0)) (ax_nd 62 (ax_lf 62 (ao_is 2 1)) (ax_lf 63 (ao_il 2 1))))) (ax_nd 68 (ax_nd 64 (ax_lf 64 (ao_if_eq 71)) (ax_nd 67 (ax_lf 67 (ao_al 0 1)) (ax_lf 68 (ao_inv g 2 10 0 yX10_token cX10_token 3 none 1 0 0 0 0)))) (ax_nd 71 (ax_lf 71 (ao_goto 2)) (ax_nd 74 (ax_lf 74 (ao_il 2 1)) (ax_lf 75 (ao_zret 0 0)))))))
theorem oX10_lines (g : ax_G) : ∀ pc, ax_ok g cX10_lines 4 (some .boolean) RX10 "lines" 7 0 0 pc (tX10_lines g pc) := ax_nd_ok (ax_nd_ok (ax_nd_ok (ax_nd_ok (ax_nd_ok (ax_lf_ok (ak_iconst (by decide) dX10_lines_0)) (ax_lf_ok (ak_istore_n rfl (by decide) dX10_lines_1))) (ax_nd_ok (ax_lf_ok (ak_iload_n rfl dX10_lines_2)) (ax_nd_ok (ax_lf_ok (ak_if_eq (by decide) dX10_lines_3)) (ax_lf_ok (ak_aload_n rfl dX10_lines_6))))) (ax_nd_ok (ax_nd_ok (ax_lf_ok (ak_gi fF_X10_121 dX10_lines_7)) (ax_lf_ok (ak_if_eq (by decide) dX10_lines_10))) (ax_nd_ok (ax_lf_ok (ak_aload_n rfl dX10_lines_13)) (ax_nd_ok (ax_lf_ok (ak_gi fF_X10_114 dX10_lines_14)) (ax_lf_ok (ak_istore_n rfl (by decide) dX10_lines_17)))))) (ax_nd_ok (ax_nd_ok (ax_nd_ok (ax_lf_ok (ak_aload_n rfl dX10_lines_18)) (ax_lf_ok (ak_iconst (by decide) dX10_lines_19))) (ax_nd_ok (ax_lf_ok (ak_pz fF_X10_144 fW_X10_144_a dX10_lines_20)) (ax_nd_ok (ax_lf_ok (ak_aload_n rfl dX10_lines_23)) (ax_lf_ok (ak_iload_n rfl dX10_lines_24))))) (ax_nd_ok (ax_nd_ok (ax_lf_ok (ak_aload_n rfl dX10_lines_25)) (ax_nd_ok (ax_lf_ok (ak_gi fF_X10_121 dX10_lines_26)) (ax_lf_ok (ak_iconst (by decide) dX10_lines_29)))) (ax_nd_ok (ax_lf_ok (ak_icmp_ne (by decide) dX10_lines_30)) (ax_nd_ok (ax_lf_ok (ak_aload_n rfl dX10_lines_33)) (ax_lf_ok (ak_gl fF_X10_117 dX10_lines_34))))))) (ax_nd_ok (ax_nd_ok (ax_nd_ok (ax_nd_ok (ax_lf_ok (ak_goto (by decide) dX10_lines_37)) (ax_lf_ok (ak_lconst (by decide) dX10_lines_40))) (ax_nd_ok (ax_lf_ok (ak_iload_n rfl dX10_lines_41)) (ax_nd_ok (ax_lf_ok (ak_invV (by decide) (by decide) (by decide) rfl wd_1271 wd_1273 wd_29 wd_106 wd_1274 ⟨by decide, by decide, by decide +kernel⟩ dX10_lines_42)) (ax_lf_ok (ak_istore_n rfl (by decide) dX10_lines_45))))) (ax_nd_ok (ax_nd_ok (ax_lf_ok (ak_iload_n rfl dX10_lines_46)) (ax_lf_ok (ak_if_eq (by decide) dX10_lines_47))) (ax_nd_ok (ax_lf_ok (ak_aload_n rfl dX10_lines_50)) (ax_nd_ok (ax_lf_ok (ak_gi fF_X10_121 dX10_lines_51)) (ax_lf_ok (ak_iconst (by decide) dX10_lines_54)))))) (ax_nd_ok (ax_nd_ok (ax_nd_ok (ax_lf_ok (ak_icmp_eq (by decide) dX10_lines_55)) (ax_lf_ok (ak_aload_n rfl dX10_lines_58))) (ax_nd_ok (ax_lf_ok (ak_invV (by decide) (by decide) (by decide) rfl wd_1285 wd_1287 wd_31 wd_106 wd_1288 ⟨by decide, by decide, by decide +kernel⟩ dX10_lines_59)) (ax_nd_ok (ax_lf_ok (ak_istore_n rfl (by decide) dX10_lines_62)) (ax_lf_ok (ak_iload_n rfl dX10_lines_63))))) (ax_nd_ok (ax_nd_ok (ax_lf_ok (ak_if_eq (by decide) dX10_lines_64)) (ax_nd_ok (ax_lf_ok (ak_aload_n rfl dX10_lines_67)) (ax_lf_ok (ak_invV (by decide) (by decide) (by decide) rfl wd_1259 wd_1261 wd_26 wd_106 wd_1262 ⟨by decide, by decide, by decide +kernel⟩ dX10_lines_68)))) (ax_nd_ok (ax_lf_ok (ak_goto (by decide) dX10_lines_71)) (ax_nd_ok (ax_lf_ok (ak_iload_n rfl dX10_lines_74)) (ax_lf_ok (ak_zret rfl dX10_lines_75)))))))
abbrev mX10_lines (g : ax_G) (as : List Value) (h : ax_H) (Ret : Option Value → ax_H → Prop) : Prop := ax_M g 7 0 0 yX10_lines cX10_lines 4 (some .boolean) as h Ret
theorem dX10_readText_0 : decode cX10_readText 0 = .ok (.iconst 0, 1) := by decide +kernel
theorem dX10_readText_1 : decode cX10_readText 1 = .ok (.istore_n 2, 1) := by decide +kernel
theorem dX10_readText_2 : decode cX10_readText 2 = .ok (.iload_n 2, 1) := by decide +kernel
theorem dX10_readText_3 : decode cX10_readText 3 = .ok (.sipush 164, 3) := by decide +kernel
theorem dX10_readText_6 : decode cX10_readText 6 = .ok (.if_icmp .ge 44, 3) := by decide +kernel
theorem dX10_readText_9 : decode cX10_readText 9 = .ok (.aload_n 0, 1) := by decide +kernel
theorem dX10_readText_10 : decode cX10_readText 10 = .ok (.getfield 41, 3) := by decide +kernel
theorem dX10_readText_13 : decode cX10_readText 13 = .ok (.iload_n 2, 1) := by decide +kernel
theorem dX10_readText_14 : decode cX10_readText 14 = .ok (.iload_n 1, 1) := by decide +kernel
theorem dX10_readText_15 : decode cX10_readText 15 = .ok (.ifCond .eq 7, 3) := by decide +kernel
theorem dX10_readText_18 : decode cX10_readText 18 = .ok (.iconst 0, 1) := by decide +kernel
theorem dX10_readText_19 : decode cX10_readText 19 = .ok (.goto 24, 3) := by decide +kernel
theorem dX10_readText_22 : decode cX10_readText 22 = .ok (.iload_n 2, 1) := by decide +kernel
theorem dX10_readText_23 : decode cX10_readText 23 = .ok (.bipush 92, 2) := by decide +kernel
theorem dX10_readText_25 : decode cX10_readText 25 = .ok (.if_icmp .lt 7, 3) := by decide +kernel
theorem dX10_readText_28 : decode cX10_readText 28 = .ok (.iconst 1, 1) := by decide +kernel
theorem dX10_readText_29 : decode cX10_readText 29 = .ok (.goto 14, 3) := by decide +kernel
theorem dX10_readText_32 : decode cX10_readText 32 = .ok (.iload_n 2, 1) := by decide +kernel
theorem dX10_readText_33 : decode cX10_readText 33 = .ok (.bipush 20, 2) := by decide +kernel
theorem dX10_readText_35 : decode cX10_readText 35 = .ok (.if_icmp .lt 7, 3) := by decide +kernel
theorem dX10_readText_38 : decode cX10_readText 38 = .ok (.iconst (-1), 1) := by decide +kernel
theorem dX10_readText_39 : decode cX10_readText 39 = .ok (.goto 4, 3) := by decide +kernel
theorem dX10_readText_42 : decode cX10_readText 42 = .ok (.iconst 0, 1) := by decide +kernel
theorem dX10_readText_43 : decode cX10_readText 43 = .ok (.iastore, 1) := by decide +kernel
theorem dX10_readText_44 : decode cX10_readText 44 = .ok (.iinc 2 1, 3) := by decide +kernel
theorem dX10_readText_47 : decode cX10_readText 47 = .ok (.goto (-45), 3) := by decide +kernel
theorem dX10_readText_50 : decode cX10_readText 50 = .ok (.aload_n 0, 1) := by decide +kernel
theorem dX10_readText_51 : decode cX10_readText 51 = .ok (.getfield 41, 3) := by decide +kernel
theorem dX10_readText_54 : decode cX10_readText 54 = .ok (.iconst 0, 1) := by decide +kernel
theorem dX10_readText_55 : decode cX10_readText 55 = .ok (.iload_n 1, 1) := by decide +kernel
theorem dX10_readText_56 : decode cX10_readText 56 = .ok (.ifCond .ne 8, 3) := by decide +kernel
theorem dX10_readText_59 : decode cX10_readText 59 = .ok (.bipush 8, 2) := by decide +kernel
theorem dX10_readText_61 : decode cX10_readText 61 = .ok (.goto 4, 3) := by decide +kernel
theorem dX10_readText_64 : decode cX10_readText 64 = .ok (.iconst 0, 1) := by decide +kernel
theorem dX10_readText_65 : decode cX10_readText 65 = .ok (.iastore, 1) := by decide +kernel
theorem dX10_readText_66 : decode cX10_readText 66 = .ok (.aload_n 0, 1) := by decide +kernel
theorem dX10_readText_67 : decode cX10_readText 67 = .ok (.iconst (-1), 1) := by decide +kernel
theorem dX10_readText_68 : decode cX10_readText 68 = .ok (.putfield 167, 3) := by decide +kernel
theorem dX10_readText_71 : decode cX10_readText 71 = .ok (.aload_n 0, 1) := by decide +kernel
theorem dX10_readText_72 : decode cX10_readText 72 = .ok (.iconst (-1), 1) := by decide +kernel
theorem dX10_readText_73 : decode cX10_readText 73 = .ok (.putfield 160, 3) := by decide +kernel
theorem dX10_readText_76 : decode cX10_readText 76 = .ok (.aload_n 0, 1) := by decide +kernel
theorem dX10_readText_77 : decode cX10_readText 77 = .ok (.iconst 0, 1) := by decide +kernel
theorem dX10_readText_78 : decode cX10_readText 78 = .ok (.putfield 104, 3) := by decide +kernel
theorem dX10_readText_81 : decode cX10_readText 81 = .ok (.aload_n 0, 1) := by decide +kernel
theorem dX10_readText_82 : decode cX10_readText 82 = .ok (.iconst 0, 1) := by decide +kernel
theorem dX10_readText_83 : decode cX10_readText 83 = .ok (.putfield 130, 3) := by decide +kernel
theorem dX10_readText_86 : decode cX10_readText 86 = .ok (.aload_n 0, 1) := by decide +kernel
theorem dX10_readText_87 : decode cX10_readText 87 = .ok (.invokevirtual 148, 3) := by decide +kernel
theorem dX10_readText_90 : decode cX10_readText 90 = .ok (.aload_n 0, 1) := by decide +kernel
theorem dX10_readText_91 : decode cX10_readText 91 = .ok (.iload_n 1, 1) := by decide +kernel
theorem dX10_readText_92 : decode cX10_readText 92 = .ok (.invokevirtual 226, 3) := by decide +kernel
theorem dX10_readText_95 : decode cX10_readText 95 = .ok (.istore_n 2, 1) := by decide +kernel
theorem dX10_readText_96 : decode cX10_readText 96 = .ok (.iload_n 2, 1) := by decide +kernel
theorem dX10_readText_97 : decode cX10_readText 97 = .ok (.ifCond .eq 49, 3) := by decide +kernel
theorem dX10_readText_100 : decode cX10_readText 100 = .ok (.iload_n 1, 1) := by decide +kernel
theorem dX10_readText_101 : decode cX10_readText 101 = .ok (.ifCond .ne 45, 3) := by decide +kernel
theorem dX10_readText_104 : decode cX10_readText 104 = .ok (.aload_n 0, 1) := by decide +kernel
theorem dX10_readText_105 : decode cX10_readText 105 = .ok (.getfield 130, 3) := by decide +kernel
theorem dX10_readText_108 : decode cX10_readText 108 = .ok (.ifCond .ne 38, 3) := by decide +kernel
theorem dX10_readText_111 : decode cX10_readText 111 = .ok (.aload_n 0, 1) := by decide +kernel
theorem dX10_readText_112 : decode cX10_readText 112 = .ok (.getfield 167, 3) := by decide +kernel
theorem dX10_readText_115 : decode cX10_readText 115 = .ok (.aload_n 0, 1) := by decide +kernel
theorem dX10_readText_116 : decode cX10_readText 116 = .ok (.getfield 41, 3) := by decide +kernel
theorem dX10_readText_119 : decode cX10_readText 119 = .ok (.iconst 0, 1) := by decide +kernel
theorem dX10_readText_120 : decode cX10_readText 120 = .ok (.iaload, 1) := by decide +kernel
theorem dX10_readText_121 : decode cX10_readText 121 = .ok (.if_icmp .ge 16, 3) := by decide +kernel
theorem dX10_readText_124 : decode cX10_readText 124 = .ok (.aload_n 0, 1) := by decide +kernel
theorem dX10_readText_125 : decode cX10_readText 125 = .ok (.getfield 160, 3) := by decide +kernel
theorem dX10_readText_128 : decode cX10_readText 128 = .ok (.aload_n 0, 1) := by decide +kernel
theorem dX10_readText_129 : decode cX10_readText 129 = .ok (.getfield 41, 3) := by decide +kernel
theorem dX10_readText_132 : decode cX10_readText 132 = .ok (.iconst 1, 1) := by decide +kernel
theorem dX10_readText_133 : decode cX10_readText 133 = .ok (.iaload, 1) := by decide +kernel
theorem dX10_readText_134 : decode cX10_readText 134 = .ok (.if_icmp .lt 12, 3) := by decide +kernel
theorem dX10_readText_137 : decode cX10_readText 137 = .ok (.aload_n 0, 1) := by decide +kernel
theorem dX10_readText_138 : decode cX10_readText 138 = .ok (.iconst 4, 1) := by decide +kernel
theorem dX10_readText_139 : decode cX10_readText 139 = .ok (.aload_n 0, 1) := by decide +kernel
theorem dX10_readText_140 : decode cX10_readText 140 = .ok (.getfield 114, 3) := by decide +kernel
theorem dX10_readText_143 : decode cX10_readText 143 = .ok (.invokevirtual 140, 3) := by decide +kernel
theorem dX10_readText_146 : decode cX10_readText 146 = .ok (.aload_n 0, 1) := by decide +kernel
theorem dX10_readText_147 : decode cX10_readText 147 = .ok (.getfield 17, 3) := by decide +kernel
theorem dX10_readText_150 : decode cX10_readText 150 = .ok (.iconst 0, 1) := by decide +kernel
theorem dX10_readText_151 : decode cX10_readText 151 = .ok (.iload_n 2, 1) := by decide +kernel
theorem dX10_readText_152 : decode cX10_readText 152 = .ok (.ifCond .eq 10, 3) := by decide +kernel
theorem dX10_readText_155 : decode cX10_readText 155 = .ok (.aload_n 0, 1) := by decide +kernel
theorem dX10_readText_156 : decode cX10_readText 156 = .ok (.getfield 130, 3) := by decide +kernel
theorem dX10_readText_159 : decode cX10_readText 159 = .ok (.goto 4, 3) := by decide +kernel
theorem dX10_readText_162 : decode cX10_readText 162 = .ok (.iconst 1, 1) := by decide +kernel
theorem dX10_readText_163 : decode cX10_readText 163 = .ok (.iastore, 1) := by decide +kernel
theorem dX10_readText_164 : decode cX10_readText 164 = .ok (.aload_n 0, 1) := by decide +kernel
theorem dX10_readText_165 : decode cX10_readText 165 = .ok (.getfield 20, 3) := by decide +kernel
theorem dX10_readText_168 : decode cX10_readText 168 = .ok (.iconst 0, 1) := by decide +kernel
theorem dX10_readText_169 : decode cX10_readText 169 = .ok (.iload_n 2, 1) := by decide +kernel
theorem dX10_readText_170 : decode cX10_readText 170 = .ok (.ifCond .ne 10, 3) := by decide +kernel
theorem dX10_readText_173 : decode cX10_readText 173 = .ok (.aload_n 0, 1) := by decide +kernel
theorem dX10_readText_174 : decode cX10_readText 174 = .ok (.getfield 127, 3) := by decide +kernel
theorem dX10_readText_177 : decode cX10_readText 177 = .ok (.goto 18, 3) := by decide +kernel
theorem dX10_readText_180 : decode cX10_readText 180 = .ok (.aload_n 0, 1) := by decide +kernel
theorem dX10_readText_181 : decode cX10_readText 181 = .ok (.getfield 130, 3) := by decide +kernel
theorem dX10_readText_184 : decode cX10_readText 184 = .ok (.ifCond .le 10, 3) := by decide +kernel
theorem dX10_readText_187 : decode cX10_readText 187 = .ok (.aload_n 0, 1) := by decide +kernel
theorem dX10_readText_188 : decode cX10_readText 188 = .ok (.getfield 133, 3) := by decide +kernel
theorem dX10_readText_191 : decode cX10_readText 191 = .ok (.goto 4, 3) := by decide +kernel
theorem dX10_readText_194 : decode cX10_readText 194 = .ok (.iconst (-1), 1) := by decide +kernel
theorem dX10_readText_195 : decode cX10_readText 195 = .ok (.iastore, 1) := by decide +kernel
theorem dX10_readText_196 : decode cX10_readText 196 = .ok (.aload_n 0, 1) := by decide +kernel
theorem dX10_readText_197 : decode cX10_readText 197 = .ok (.getfield 17, 3) := by decide +kernel
theorem dX10_readText_200 : decode cX10_readText 200 = .ok (.iconst 0, 1) := by decide +kernel
theorem dX10_readText_201 : decode cX10_readText 201 = .ok (.iaload, 1) := by decide +kernel
theorem dX10_readText_202 : decode cX10_readText 202 = .ok (.ifCond .ne 7, 3) := by decide +kernel
theorem dX10_readText_205 : decode cX10_readText 205 = .ok (.iconst 1, 1) := by decide +kernel
theorem dX10_readText_206 : decode cX10_readText 206 = .ok (.goto 4, 3) := by decide +kernel
theorem dX10_readText_209 : decode cX10_readText 209 = .ok (.iconst 0, 1) := by decide +kernel
theorem dX10_readText_210 : decode cX10_readText 210 = .ok (.ireturn, 1) := by decide +kernel
def tX10_readText (g : ax_G) : Nat → ax_O := ax_nd 101 (ax_nd 51 (ax_nd 23 (ax_nd 10 (ax_nd 2 (ax_nd 0 (ax_lf 0 (ao_ic (0) 1)) (ax_nd 1 (ax_lf 1 (ao_is 2 1)) (ax_lf 2 (ao_il 2 1)))) (ax_nd 6 (ax_nd 3 (ax_lf 3 (ao_ic (164) 3)) (ax_lf 6 (ao_icmp_ge 50))) (ax_nd 9 (ax_lf 9 (ao_al 0 1)) (ax_lf 10 (ao_gr 10 20))))) (ax_nd 15 (ax_nd 13 (ax_lf 13 (ao_il 2 1)) (ax_nd 14 (ax_lf 14 (ao_il 1 1)) (ax_lf 15 (ao_if_eq 22)))) (ax_nd 19 (ax_nd 18 (ax_lf 18 (ao_ic (0) 1)) (ax_lf 19 (ao_goto 43))) (ax_nd 22 (ax_lf 22 (ao_il 2 1)) (ax_lf 23 (ao_ic (92) 2)))))) (ax_nd 38 (ax_nd 29 (ax_nd 25 (ax_lf 25 (ao_icmp_lt 32)) (ax_nd 28 (ax_lf 28 (ao_ic (1) 1)) (ax_lf 29 (ao_goto 43)))) (ax_nd 33 (ax_nd 32 (ax_lf 32 (ao_il 2 1)) (ax_lf 33 (ao_ic (20) 2))) (ax_nd 35 (ax_lf 35 (ao_icmp_lt 42)) (ax_lf 38 (ao_ic (-1) 1))))) (ax_nd 43 (ax_nd 39 (ax_lf 39 (ao_goto 43)) (ax_nd 42 (ax_lf 42 (ao_ic (0) 1)) (ax_lf 43 ao_iast))) (ax_nd 47 (ax_nd 44 (ax_lf 44 (ao_iinc 2 (1))) (ax_lf 47 (ao_goto 2))) (ax_nd 50 (ax_lf 50 (ao_al 0 1)) (ax_lf 51 (ao_gr 10 20))))))) (ax_nd 76 (ax_nd 65 (ax_nd 56 (ax_nd 54 (ax_lf 54 (ao_ic (0) 1)) (ax_nd 55 (ax_lf 55 (ao_il 1 1)) (ax_lf 56 (ao_if_ne 64)))) (ax_nd 61 (ax_nd 59 (ax_lf 59 (ao_ic (8) 2)) (ax_lf 61 (ao_goto 65))) (ax_nd 64 (ax_lf 64 (ao_ic (0) 1)) (ax_lf 65 ao_iast)))) (ax_nd 68 (ax_nd 66 (ax_lf 66 (ao_al 0 1)) (ax_nd 67 (ax_lf 67 (ao_ic (-1) 1)) (ax_lf 68 (ao_pi 10 22)))) (ax_nd 72 (ax_nd 71 (ax_lf 71 (ao_al 0 1)) (ax_lf 72 (ao_ic (-1) 1))) (ax_nd 73 (ax_lf 73 (ao_pi 10 23)) (ax_lf 76 (ao_al 0 1)))))) (ax_nd 87 (ax_nd 81 (ax_nd 77 (ax_lf 77 (ao_ic (0) 1)) (ax_nd 78 (ax_lf 78 (ao_pi 10 11)) (ax_lf 81 (ao_al 0 1)))) (ax_nd 83 (ax_nd 82 (ax_lf 82 (ao_ic (0) 1)) (ax_lf 83 (ao_pi 10 18))) (ax_nd 86 (ax_lf 86 (ao_al 0 1)) (ax_lf 87 (ao_inv g 2 10 0 yX10_token cX10_token 3 none 1 0 0 0 0))))) (ax_nd 95 (ax_nd 91 (ax_nd 90 (ax_lf 90 (ao_al 0 1)) (ax_lf 91 (ao_il 1 1))) (ax_nd 92 (ax_lf 92 (ao_inv g 7 10 1 yX10_lines cX10_lines 4 (some .boolean) 2 0 0 0 0)) (ax_lf 95 (ao_is 2 1)))) (ax_nd 97 (ax_nd 96 (ax_lf 96 (ao_il 2 1)) (ax_lf 97 (ao_if_eq 146))) (ax_nd 100 (ax_lf 100 (ao_il 1 1)) (ax_lf 101 (ao_if_ne 146)))))))) (ax_nd 155 (ax_nd 129 (ax_nd 116 (ax_nd 108 (ax_nd 104 (ax_lf 104 (ao_al 0 1)) (ax_nd 105 (ax_lf 105 (ao_gi 10 18)) (ax_lf 108 (ao_if_ne 146)))) (ax_nd 112 (ax_nd 111 (ax_lf 111 (ao_al 0 1)) (ax_lf 112 (ao_gi 10 22))) (ax_nd 115 (ax_lf 115 (ao_al 0 1)) (ax_lf 116 (ao_gr 10 20))))) (ax_nd 121 (ax_nd 119 (ax_lf 119 (ao_ic (0) 1)) (ax_nd 120 (ax_lf 120 ao_iald) (ax_lf 121 (ao_icmp_ge 137)))) (ax_nd 125 (ax_nd 124 (ax_lf 124 (ao_al 0 1)) (ax_lf 125 (ao_gi 10 23))) (ax_nd 128 (ax_lf 128 (ao_al 0 1)) (ax_lf 129 (ao_gr 10 20)))))) (ax_nd 140 (ax_nd 134 (ax_nd 132 (ax_lf 132 (ao_ic (1) 1)) (ax_nd 133 (ax_lf 133 ao_iald) (ax_lf 134 (ao_icmp_lt 146)))) (ax_nd 138 (ax_nd 137 (ax_lf 137 (ao_al 0 1)) (ax_lf 138 (ao_ic (4) 1))) (ax_nd 139 (ax_lf 139 (ao_al 0 1)) (ax_lf 140 (ao_gi 10 13))))) (ax_nd 147 (ax_nd 143 (ax_lf 143 (ao_inv g 1 10 0 yX10_later cX10_later 3 none 3 0 0 0 0)) (ax_nd 146 (ax_lf 146 (ao_al 0 1)) (ax_lf 147 (ao_gr 10 3)))) (ax_nd 151 (ax_nd 150 (ax_lf 150 (ao_ic (0) 1)) (ax_lf 151 (ao_il 2 1))) (ax_nd 152 (ax_lf 152 (ao_if_eq 162)) (ax_lf 155 (ao_al 0 1))))))) (ax_nd 181 (ax_nd 168 (ax_nd 162 (ax_nd 156 (ax_lf 156 (ao_gi 10 18)) (ax_nd 159 (ax_lf 159 (ao_goto 163)) (ax_lf 162 (ao_ic (1) 1)))) (ax_nd 164 (ax_nd 163 (ax_lf 163 ao_iast) (ax_lf 164 (ao_al 0 1))) (ax_nd 165 (ax_lf 165 (ao_gr 10 4)) (ax_lf 168 (ao_ic (0) 1))))) (ax_nd 173 (ax_nd 169 (ax_lf 169 (ao_il 2 1)) (ax_nd 170 (ax_lf 170 (ao_if_ne 180)) (ax_lf 173 (ao_al 0 1)))) (ax_nd 177 (ax_nd 174 (ax_lf 174 (ao_gi 10 17)) (ax_lf 177 (ao_goto 195))) (ax_nd 180 (ax_lf 180 (ao_al 0 1)) (ax_lf 181 (ao_gi 10 18)))))) (ax_nd 196 (ax_nd 188 (ax_nd 184 (ax_lf 184 (ao_if_le 194)) (ax_nd 187 (ax_lf 187 (ao_al 0 1)) (ax_lf 188 (ao_gi 10 19)))) (ax_nd 194 (ax_nd 191 (ax_lf 191 (ao_goto 195)) (ax_lf 194 (ao_ic (-1) 1))) (ax_nd 195 (ax_lf 195 ao_iast) (ax_lf 196 (ao_al 0 1))))) (ax_nd 202 (ax_nd 200 (ax_nd 197 (ax_lf 197 (ao_gr 10 3)) (ax_lf 200 (ao_ic (0) 1))) (ax_nd 201 (ax_lf 201 ao_iald) (ax_lf 202 (ao_if_ne 209)))) (ax_nd 206 (ax_nd 205 (ax_lf 205 (ao_ic (1) 1)) (ax_lf 206 (ao_goto 210))) (ax_nd 209 (ax_lf 209 (ao_ic (0) 1)) (ax_lf 210 (ao_zret 0 0))))))))
theorem oX10_readText (g : ax_G) : ∀ pc, ax_ok g cX10_readText 3 (some .boolean) RX10 "readText" 8 0 0 pc (tX10_readText g pc) := ax_nd_ok (ax_nd_ok (ax_nd_ok (ax_nd_ok (ax_nd_ok (ax_nd_ok (ax_lf_ok (ak_iconst (by decide) dX10_readText_0)) (ax_nd_ok (ax_lf_ok (ak_istore_n rfl (by decide) dX10_readText_1)) (ax_lf_ok (ak_iload_n rfl dX10_readText_2)))) (ax_nd_ok (ax_nd_ok (ax_lf_ok (ak_sipush (by decide) dX10_readText_3)) (ax_lf_ok (ak_icmp_ge (by decide) dX10_readText_6))) (ax_nd_ok (ax_lf_ok (ak_aload_n rfl dX10_readText_9)) (ax_lf_ok (ak_gr fF_X10_41 dX10_readText_10))))) (ax_nd_ok (ax_nd_ok (ax_lf_ok (ak_iload_n rfl dX10_readText_13)) (ax_nd_ok (ax_lf_ok (ak_iload_n rfl dX10_readText_14)) (ax_lf_ok (ak_if_eq (by decide) dX10_readText_15)))) (ax_nd_ok (ax_nd_ok (ax_lf_ok (ak_iconst (by decide) dX10_readText_18)) (ax_lf_ok (ak_goto (by decide) dX10_readText_19))) (ax_nd_ok (ax_lf_ok (ak_iload_n rfl dX10_readText_22)) (ax_lf_ok (ak_bipush (by decide) dX10_readText_23)))))) (ax_nd_ok (ax_nd_ok (ax_nd_ok (ax_lf_ok (ak_icmp_lt (by decide) dX10_readText_25)) (ax_nd_ok (ax_lf_ok (ak_iconst (by decide) dX10_readText_28)) (ax_lf_ok (ak_goto (by decide) dX10_readText_29)))) (ax_nd_ok (ax_nd_ok (ax_lf_ok (ak_iload_n rfl dX10_readText_32)) (ax_lf_ok (ak_bipush (by decide) dX10_readText_33))) (ax_nd_ok (ax_lf_ok (ak_icmp_lt (by decide) dX10_readText_35)) (ax_lf_ok (ak_iconst (by decide) dX10_readText_38))))) (ax_nd_ok (ax_nd_ok (ax_lf_ok (ak_goto (by decide) dX10_readText_39)) (ax_nd_ok (ax_lf_ok (ak_iconst (by decide) dX10_readText_42)) (ax_lf_ok (ak_iast dX10_readText_43)))) (ax_nd_ok (ax_nd_ok (ax_lf_ok (ak_iinc (by decide) (by decide) dX10_readText_44)) (ax_lf_ok (ak_goto (by decide) dX10_readText_47))) (ax_nd_ok (ax_lf_ok (ak_aload_n rfl dX10_readText_50)) (ax_lf_ok (ak_gr fF_X10_41 dX10_readText_51))))))) (ax_nd_ok (ax_nd_ok (ax_nd_ok (ax_nd_ok (ax_lf_ok (ak_iconst (by decide) dX10_readText_54)) (ax_nd_ok (ax_lf_ok (ak_iload_n rfl dX10_readText_55)) (ax_lf_ok (ak_if_ne (by decide) dX10_readText_56)))) (ax_nd_ok (ax_nd_ok (ax_lf_ok (ak_bipush (by decide) dX10_readText_59)) (ax_lf_ok (ak_goto (by decide) dX10_readText_61))) (ax_nd_ok (ax_lf_ok (ak_iconst (by decide) dX10_readText_64)) (ax_lf_ok (ak_iast dX10_readText_65))))) (ax_nd_ok (ax_nd_ok (ax_lf_ok (ak_aload_n rfl dX10_readText_66)) (ax_nd_ok (ax_lf_ok (ak_iconst (by decide) dX10_readText_67)) (ax_lf_ok (ak_pi fF_X10_167 fW_X10_167_a dX10_readText_68)))) (ax_nd_ok (ax_nd_ok (ax_lf_ok (ak_aload_n rfl dX10_readText_71)) (ax_lf_ok (ak_iconst (by decide) dX10_readText_72))) (ax_nd_ok (ax_lf_ok (ak_pi fF_X10_160 fW_X10_160_a dX10_readText_73)) (ax_lf_ok (ak_aload_n rfl dX10_readText_76)))))) (ax_nd_ok (ax_nd_ok (ax_nd_ok (ax_lf_ok (ak_iconst (by decide) dX10_readText_77)) (ax_nd_ok (ax_lf_ok (ak_pi fF_X10_104 fW_X10_104_a dX10_readText_78)) (ax_lf_ok (ak_aload_n rfl dX10_readText_81)))) (ax_nd_ok (ax_nd_ok (ax_lf_ok (ak_iconst (by decide) dX10_readText_82)) (ax_lf_ok (ak_pi fF_X10_130 fW_X10_130_a dX10_readText_83))) (ax_nd_ok (ax_lf_ok (ak_aload_n rfl dX10_readText_86)) (ax_lf_ok (ak_invV (by decide) (by decide) (by decide) rfl wd_1259 wd_1261 wd_26 wd_106 wd_1262 ⟨by decide, by decide, by decide +kernel⟩ dX10_readText_87))))) (ax_nd_ok (ax_nd_ok (ax_nd_ok (ax_lf_ok (ak_aload_n rfl dX10_readText_90)) (ax_lf_ok (ak_iload_n rfl dX10_readText_91))) (ax_nd_ok (ax_lf_ok (ak_invV (by decide) (by decide) (by decide) rfl wd_1267 wd_1269 wd_28 wd_106 wd_1270 ⟨by decide, by decide, by decide +kernel⟩ dX10_readText_92)) (ax_lf_ok (ak_istore_n rfl (by decide) dX10_readText_95)))) (ax_nd_ok (ax_nd_ok (ax_lf_ok (ak_iload_n rfl dX10_readText_96)) (ax_lf_ok (ak_if_eq (by decide) dX10_readText_97))) (ax_nd_ok (ax_lf_ok (ak_iload_n rfl dX10_readText_100)) (ax_lf_ok (ak_if_ne (by decide) dX10_readText_101)))))))) (ax_nd_ok (ax_nd_ok (ax_nd_ok (ax_nd_ok (ax_nd_ok (ax_lf_ok (ak_aload_n rfl dX10_readText_104)) (ax_nd_ok (ax_lf_ok (ak_gi fF_X10_130 dX10_readText_105)) (ax_lf_ok (ak_if_ne (by decide) dX10_readText_108)))) (ax_nd_ok (ax_nd_ok (ax_lf_ok (ak_aload_n rfl dX10_readText_111)) (ax_lf_ok (ak_gi fF_X10_167 dX10_readText_112))) (ax_nd_ok (ax_lf_ok (ak_aload_n rfl dX10_readText_115)) (ax_lf_ok (ak_gr fF_X10_41 dX10_readText_116))))) (ax_nd_ok (ax_nd_ok (ax_lf_ok (ak_iconst (by decide) dX10_readText_119)) (ax_nd_ok (ax_lf_ok (ak_iald dX10_readText_120)) (ax_lf_ok (ak_icmp_ge (by decide) dX10_readText_121)))) (ax_nd_ok (ax_nd_ok (ax_lf_ok (ak_aload_n rfl dX10_readText_124)) (ax_lf_ok (ak_gi fF_X10_160 dX10_readText_125))) (ax_nd_ok (ax_lf_ok (ak_aload_n rfl dX10_readText_128)) (ax_lf_ok (ak_gr fF_X10_41 dX10_readText_129)))))) (ax_nd_ok (ax_nd_ok (ax_nd_ok (ax_lf_ok (ak_iconst (by decide) dX10_readText_132)) (ax_nd_ok (ax_lf_ok (ak_iald dX10_readText_133)) (ax_lf_ok (ak_icmp_lt (by decide) dX10_readText_134)))) (ax_nd_ok (ax_nd_ok (ax_lf_ok (ak_aload_n rfl dX10_readText_137)) (ax_lf_ok (ak_iconst (by decide) dX10_readText_138))) (ax_nd_ok (ax_lf_ok (ak_aload_n rfl dX10_readText_139)) (ax_lf_ok (ak_gi fF_X10_114 dX10_readText_140))))) (ax_nd_ok (ax_nd_ok (ax_lf_ok (ak_invV (by decide) (by decide) (by decide) rfl wd_1293 wd_1295 wd_33 wd_106 wd_1296 ⟨by decide, by decide, by decide +kernel⟩ dX10_readText_143)) (ax_nd_ok (ax_lf_ok (ak_aload_n rfl dX10_readText_146)) (ax_lf_ok (ak_gr fF_X10_17 dX10_readText_147)))) (ax_nd_ok (ax_nd_ok (ax_lf_ok (ak_iconst (by decide) dX10_readText_150)) (ax_lf_ok (ak_iload_n rfl dX10_readText_151))) (ax_nd_ok (ax_lf_ok (ak_if_eq (by decide) dX10_readText_152)) (ax_lf_ok (ak_aload_n rfl dX10_readText_155))))))) (ax_nd_ok (ax_nd_ok (ax_nd_ok (ax_nd_ok (ax_lf_ok (ak_gi fF_X10_130 dX10_readText_156)) (ax_nd_ok (ax_lf_ok (ak_goto (by decide) dX10_readText_159)) (ax_lf_ok (ak_iconst (by decide) dX10_readText_162)))) (ax_nd_ok (ax_nd_ok (ax_lf_ok (ak_iast dX10_readText_163)) (ax_lf_ok (ak_aload_n rfl dX10_readText_164))) (ax_nd_ok (ax_lf_ok (ak_gr fF_X10_20 dX10_readText_165)) (ax_lf_ok (ak_iconst (by decide) dX10_readText_168))))) (ax_nd_ok (ax_nd_ok (ax_lf_ok (ak_iload_n rfl dX10_readText_169)) (ax_nd_ok (ax_lf_ok (ak_if_ne (by decide) dX10_readText_170)) (ax_lf_ok (ak_aload_n rfl dX10_readText_173)))) (ax_nd_ok (ax_nd_ok (ax_lf_ok (ak_gi fF_X10_127 dX10_readText_174)) (ax_lf_ok (ak_goto (by decide) dX10_readText_177))) (ax_nd_ok (ax_lf_ok (ak_aload_n rfl dX10_readText_180)) (ax_lf_ok (ak_gi fF_X10_130 dX10_readText_181)))))) (ax_nd_ok (ax_nd_ok (ax_nd_ok (ax_lf_ok (ak_if_le (by decide) dX10_readText_184)) (ax_nd_ok (ax_lf_ok (ak_aload_n rfl dX10_readText_187)) (ax_lf_ok (ak_gi fF_X10_133 dX10_readText_188)))) (ax_nd_ok (ax_nd_ok (ax_lf_ok (ak_goto (by decide) dX10_readText_191)) (ax_lf_ok (ak_iconst (by decide) dX10_readText_194))) (ax_nd_ok (ax_lf_ok (ak_iast dX10_readText_195)) (ax_lf_ok (ak_aload_n rfl dX10_readText_196))))) (ax_nd_ok (ax_nd_ok (ax_nd_ok (ax_lf_ok (ak_gr fF_X10_17 dX10_readText_197)) (ax_lf_ok (ak_iconst (by decide) dX10_readText_200))) (ax_nd_ok (ax_lf_ok (ak_iald dX10_readText_201)) (ax_lf_ok (ak_if_ne (by decide) dX10_readText_202)))) (ax_nd_ok (ax_nd_ok (ax_lf_ok (ak_iconst (by decide) dX10_readText_205)) (ax_lf_ok (ak_goto (by decide) dX10_readText_206))) (ax_nd_ok (ax_lf_ok (ak_iconst (by decide) dX10_readText_209)) (ax_lf_ok (ak_zret rfl dX10_readText_210))))))))
abbrev mX10_readText (g : ax_G) (as : List Value) (h : ax_H) (Ret : Option Value → ax_H → Prop) : Prop := ax_M g 8 0 0 yX10_readText cX10_readText 3 (some .boolean) as h Ret
theorem dX10_store_0 : decode cX10_store 0 = .ok (.iconst 0, 1) := by decide +kernel
theorem dX10_store_1 : decode cX10_store 1 = .ok (.istore 4, 2) := by decide +kernel
theorem dX10_store_3 : decode cX10_store 3 = .ok (.iload 4, 2) := by decide +kernel
theorem dX10_store_5 : decode cX10_store 5 = .ok (.iload_n 2, 1) := by decide +kernel
theorem dX10_store_6 : decode cX10_store 6 = .ok (.if_icmp .ge 24, 3) := by decide +kernel
theorem dX10_store_9 : decode cX10_store 9 = .ok (.aload_n 1, 1) := by decide +kernel
theorem dX10_store_10 : decode cX10_store 10 = .ok (.iload_n 2, 1) := by decide +kernel
theorem dX10_store_11 : decode cX10_store 11 = .ok (.iload_n 3, 1) := by decide +kernel
theorem dX10_store_12 : decode cX10_store 12 = .ok (.imul, 1) := by decide +kernel
theorem dX10_store_13 : decode cX10_store 13 = .ok (.iload 4, 2) := by decide +kernel
theorem dX10_store_15 : decode cX10_store 15 = .ok (.iadd, 1) := by decide +kernel
theorem dX10_store_16 : decode cX10_store 16 = .ok (.aload_n 0, 1) := by decide +kernel
theorem dX10_store_17 : decode cX10_store 17 = .ok (.getfield 41, 3) := by decide +kernel
theorem dX10_store_20 : decode cX10_store 20 = .ok (.iload 4, 2) := by decide +kernel
theorem dX10_store_22 : decode cX10_store 22 = .ok (.iaload, 1) := by decide +kernel
theorem dX10_store_23 : decode cX10_store 23 = .ok (.iastore, 1) := by decide +kernel
theorem dX10_store_24 : decode cX10_store 24 = .ok (.iinc 4 1, 3) := by decide +kernel
theorem dX10_store_27 : decode cX10_store 27 = .ok (.goto (-24), 3) := by decide +kernel
theorem dX10_store_30 : decode cX10_store 30 = .ok (.return_, 1) := by decide +kernel
def tX10_store (g : ax_G) : Nat → ax_O := ax_nd 12 (ax_nd 5 (ax_nd 1 (ax_nd 0 (ax_lf 0 (ao_ic (0) 1)) (ax_lf 1 (ao_is 4 2))) (ax_nd 3 (ax_lf 3 (ao_il 4 2)) (ax_lf 5 (ao_il 2 1)))) (ax_nd 9 (ax_nd 6 (ax_lf 6 (ao_icmp_ge 30)) (ax_lf 9 (ao_al 1 1))) (ax_nd 10 (ax_lf 10 (ao_il 2 1)) (ax_nd 11 (ax_lf 11 (ao_il 3 1)) (ax_lf 12 ao_imul))))) (ax_nd 20 (ax_nd 15 (ax_nd 13 (ax_lf 13 (ao_il 4 2)) (ax_lf 15 ao_iadd)) (ax_nd 16 (ax_lf 16 (ao_al 0 1)) (ax_nd 17 (ax_lf 17 (ao_gr 10 20)) (ax_lf 20 (ao_il 4 2))))) (ax_nd 23 (ax_nd 22 (ax_lf 22 ao_iald) (ax_lf 23 ao_iast)) (ax_nd 24 (ax_lf 24 (ao_iinc 4 (1))) (ax_nd 27 (ax_lf 27 (ao_goto 3)) (ax_lf 30 (ao_vret 0 0))))))
theorem oX10_store (g : ax_G) : ∀ pc, ax_ok g cX10_store 5 none RX10 "store" 1 0 0 pc (tX10_store g pc) := ax_nd_ok (ax_nd_ok (ax_nd_ok (ax_nd_ok (ax_lf_ok (ak_iconst (by decide) dX10_store_0)) (ax_lf_ok (ak_istore (by decide) dX10_store_1))) (ax_nd_ok (ax_lf_ok (ak_iload dX10_store_3)) (ax_lf_ok (ak_iload_n rfl dX10_store_5)))) (ax_nd_ok (ax_nd_ok (ax_lf_ok (ak_icmp_ge (by decide) dX10_store_6)) (ax_lf_ok (ak_aload_n rfl dX10_store_9))) (ax_nd_ok (ax_lf_ok (ak_iload_n rfl dX10_store_10)) (ax_nd_ok (ax_lf_ok (ak_iload_n rfl dX10_store_11)) (ax_lf_ok (ak_imul dX10_store_12)))))) (ax_nd_ok (ax_nd_ok (ax_nd_ok (ax_lf_ok (ak_iload dX10_store_13)) (ax_lf_ok (ak_iadd dX10_store_15))) (ax_nd_ok (ax_lf_ok (ak_aload_n rfl dX10_store_16)) (ax_nd_ok (ax_lf_ok (ak_gr fF_X10_41 dX10_store_17)) (ax_lf_ok (ak_iload dX10_store_20))))) (ax_nd_ok (ax_nd_ok (ax_lf_ok (ak_iald dX10_store_22)) (ax_lf_ok (ak_iast dX10_store_23))) (ax_nd_ok (ax_lf_ok (ak_iinc (by decide) (by decide) dX10_store_24)) (ax_nd_ok (ax_lf_ok (ak_goto (by decide) dX10_store_27)) (ax_lf_ok (ak_vret rfl dX10_store_30))))))
abbrev mX10_store (g : ax_G) (as : List Value) (h : ax_H) (Ret : Option Value → ax_H → Prop) : Prop := ax_M g 1 0 0 yX10_store cX10_store 5 none as h Ret
theorem dX10_storeAll_0 : decode cX10_storeAll 0 = .ok (.iload_n 1, 1) := by decide +kernel
theorem dX10_storeAll_1 : decode cX10_storeAll 1 = .ok (.tableswitch 80 0 3 #[31, 44, 56, 68], 31) := by decide +kernel
theorem dX10_storeAll_32 : decode cX10_storeAll 32 = .ok (.aload_n 0, 1) := by decide +kernel
theorem dX10_storeAll_33 : decode cX10_storeAll 33 = .ok (.aload_n 0, 1) := by decide +kernel
theorem dX10_storeAll_34 : decode cX10_storeAll 34 = .ok (.getfield 26, 3) := by decide +kernel
theorem dX10_storeAll_37 : decode cX10_storeAll 37 = .ok (.sipush 164, 3) := by decide +kernel
theorem dX10_storeAll_40 : decode cX10_storeAll 40 = .ok (.iload_n 2, 1) := by decide +kernel
theorem dX10_storeAll_41 : decode cX10_storeAll 41 = .ok (.invokevirtual 230, 3) := by decide +kernel
theorem dX10_storeAll_44 : decode cX10_storeAll 44 = .ok (.return_, 1) := by decide +kernel
theorem dX10_storeAll_45 : decode cX10_storeAll 45 = .ok (.aload_n 0, 1) := by decide +kernel
theorem dX10_storeAll_46 : decode cX10_storeAll 46 = .ok (.aload_n 0, 1) := by decide +kernel
theorem dX10_storeAll_47 : decode cX10_storeAll 47 = .ok (.getfield 29, 3) := by decide +kernel
theorem dX10_storeAll_50 : decode cX10_storeAll 50 = .ok (.bipush 15, 2) := by decide +kernel
theorem dX10_storeAll_52 : decode cX10_storeAll 52 = .ok (.iload_n 2, 1) := by decide +kernel
theorem dX10_storeAll_53 : decode cX10_storeAll 53 = .ok (.invokevirtual 230, 3) := by decide +kernel
theorem dX10_storeAll_56 : decode cX10_storeAll 56 = .ok (.return_, 1) := by decide +kernel
theorem dX10_storeAll_57 : decode cX10_storeAll 57 = .ok (.aload_n 0, 1) := by decide +kernel
theorem dX10_storeAll_58 : decode cX10_storeAll 58 = .ok (.aload_n 0, 1) := by decide +kernel
theorem dX10_storeAll_59 : decode cX10_storeAll 59 = .ok (.getfield 32, 3) := by decide +kernel
theorem dX10_storeAll_62 : decode cX10_storeAll 62 = .ok (.bipush 19, 2) := by decide +kernel
theorem dX10_storeAll_64 : decode cX10_storeAll 64 = .ok (.iload_n 2, 1) := by decide +kernel
theorem dX10_storeAll_65 : decode cX10_storeAll 65 = .ok (.invokevirtual 230, 3) := by decide +kernel
theorem dX10_storeAll_68 : decode cX10_storeAll 68 = .ok (.return_, 1) := by decide +kernel
theorem dX10_storeAll_69 : decode cX10_storeAll 69 = .ok (.aload_n 0, 1) := by decide +kernel
theorem dX10_storeAll_70 : decode cX10_storeAll 70 = .ok (.aload_n 0, 1) := by decide +kernel
theorem dX10_storeAll_71 : decode cX10_storeAll 71 = .ok (.getfield 35, 3) := by decide +kernel
theorem dX10_storeAll_74 : decode cX10_storeAll 74 = .ok (.bipush 17, 2) := by decide +kernel
theorem dX10_storeAll_76 : decode cX10_storeAll 76 = .ok (.iload_n 2, 1) := by decide +kernel
theorem dX10_storeAll_77 : decode cX10_storeAll 77 = .ok (.invokevirtual 230, 3) := by decide +kernel
theorem dX10_storeAll_80 : decode cX10_storeAll 80 = .ok (.return_, 1) := by decide +kernel
theorem dX10_storeAll_81 : decode cX10_storeAll 81 = .ok (.aload_n 0, 1) := by decide +kernel
theorem dX10_storeAll_82 : decode cX10_storeAll 82 = .ok (.aload_n 0, 1) := by decide +kernel
theorem dX10_storeAll_83 : decode cX10_storeAll 83 = .ok (.getfield 38, 3) := by decide +kernel
theorem dX10_storeAll_86 : decode cX10_storeAll 86 = .ok (.bipush 19, 2) := by decide +kernel
theorem dX10_storeAll_88 : decode cX10_storeAll 88 = .ok (.iload_n 2, 1) := by decide +kernel
theorem dX10_storeAll_89 : decode cX10_storeAll 89 = .ok (.invokevirtual 230, 3) := by decide +kernel
theorem dX10_storeAll_92 : decode cX10_storeAll 92 = .ok (.return_, 1) := by decide +kernel
def tX10_storeAll (g : ax_G) : Nat → ax_O := ax_nd 58 (ax_nd 44 (ax_nd 33 (ax_nd 1 (ax_nd 0 (ax_lf 0 (ao_il 1 1)) (ax_lf 1 (ao_sw [(0, 32), (1, 45), (2, 57), (3, 69)] 81))) (ax_nd 32 (ax_lf 32 (ao_al 0 1)) (ax_lf 33 (ao_al 0 1)))) (ax_nd 37 (ax_nd 34 (ax_lf 34 (ao_gr 10 6)) (ax_lf 37 (ao_ic (164) 3))) (ax_nd 40 (ax_lf 40 (ao_il 2 1)) (ax_nd 41 (ax_lf 41 (ao_inv g 1 10 0 yX10_store cX10_store 5 none 4 0 0 0 0)) (ax_lf 44 (ao_vret 0 0)))))) (ax_nd 50 (ax_nd 46 (ax_nd 45 (ax_lf 45 (ao_al 0 1)) (ax_lf 46 (ao_al 0 1))) (ax_nd 47 (ax_lf 47 (ao_gr 10 7)) (ax_lf 50 (ao_ic (15) 2)))) (ax_nd 53 (ax_nd 52 (ax_lf 52 (ao_il 2 1)) (ax_lf 53 (ao_inv g 1 10 0 yX10_store cX10_store 5 none 4 0 0 0 0))) (ax_nd 56 (ax_lf 56 (ao_vret 0 0)) (ax_nd 57 (ax_lf 57 (ao_al 0 1)) (ax_lf 58 (ao_al 0 1))))))) (ax_nd 74 (ax_nd 65 (ax_nd 62 (ax_nd 59 (ax_lf 59 (ao_gr 10 8)) (ax_lf 62 (ao_ic (19) 2))) (ax_nd 64 (ax_lf 64 (ao_il 2 1)) (ax_lf 65 (ao_inv g 1 10 0 yX10_store cX10_store 5 none 4 0 0 0 0)))) (ax_nd 69 (ax_nd 68 (ax_lf 68 (ao_vret 0 0)) (ax_lf 69 (ao_al 0 1))) (ax_nd 70 (ax_lf 70 (ao_al 0 1)) (ax_nd 71 (ax_lf 71 (ao_gr 10 9)) (ax_lf 74 (ao_ic (17) 2)))))) (ax_nd 82 (ax_nd 77 (ax_nd 76 (ax_lf 76 (ao_il 2 1)) (ax_lf 77 (ao_inv g 1 10 0 yX10_store cX10_store 5 none 4 0 0 0 0))) (ax_nd 80 (ax_lf 80 (ao_vret 0 0)) (ax_nd 81 (ax_lf 81 (ao_al 0 1)) (ax_lf 82 (ao_al 0 1))))) (ax_nd 86 (ax_nd 83 (ax_lf 83 (ao_gr 10 10)) (ax_lf 86 (ao_ic (19) 2))) (ax_nd 88 (ax_lf 88 (ao_il 2 1)) (ax_nd 89 (ax_lf 89 (ao_inv g 1 10 0 yX10_store cX10_store 5 none 4 0 0 0 0)) (ax_lf 92 (ao_vret 0 0)))))))
theorem oX10_storeAll (g : ax_G) : ∀ pc, ax_ok g cX10_storeAll 3 none RX10 "storeAll" 2 0 0 pc (tX10_storeAll g pc) := ax_nd_ok (ax_nd_ok (ax_nd_ok (ax_nd_ok (ax_nd_ok (ax_lf_ok (ak_iload_n rfl dX10_storeAll_0)) (ax_lf_ok (ak_tsw dX10_storeAll_1 (by decide) (by decide) (by decide) (by decide) (by decide +kernel) (by decide)))) (ax_nd_ok (ax_lf_ok (ak_aload_n rfl dX10_storeAll_32)) (ax_lf_ok (ak_aload_n rfl dX10_storeAll_33)))) (ax_nd_ok (ax_nd_ok (ax_lf_ok (ak_gr fF_X10_26 dX10_storeAll_34)) (ax_lf_ok (ak_sipush (by decide) dX10_storeAll_37))) (ax_nd_ok (ax_lf_ok (ak_iload_n rfl dX10_storeAll_40)) (ax_nd_ok (ax_lf_ok (ak_invV (by decide) (by decide) (by decide) rfl wd_1344 wd_1346 wd_43 wd_106 wd_1347 ⟨by decide, by decide, by decide +kernel⟩ dX10_storeAll_41)) (ax_lf_ok (ak_vret rfl dX10_storeAll_44)))))) (ax_nd_ok (ax_nd_ok (ax_nd_ok (ax_lf_ok (ak_aload_n rfl dX10_storeAll_45)) (ax_lf_ok (ak_aload_n rfl dX10_storeAll_46))) (ax_nd_ok (ax_lf_ok (ak_gr fF_X10_29 dX10_storeAll_47)) (ax_lf_ok (ak_bipush (by decide) dX10_storeAll_50)))) (ax_nd_ok (ax_nd_ok (ax_lf_ok (ak_iload_n rfl dX10_storeAll_52)) (ax_lf_ok (ak_invV (by decide) (by decide) (by decide) rfl wd_1344 wd_1346 wd_43 wd_106 wd_1347 ⟨by decide, by decide, by decide +kernel⟩ dX10_storeAll_53))) (ax_nd_ok (ax_lf_ok (ak_vret rfl dX10_storeAll_56)) (ax_nd_ok (ax_lf_ok (ak_aload_n rfl dX10_storeAll_57)) (ax_lf_ok (ak_aload_n rfl dX10_storeAll_58))))))) (ax_nd_ok (ax_nd_ok (ax_nd_ok (ax_nd_ok (ax_lf_ok (ak_gr fF_X10_32 dX10_storeAll_59)) (ax_lf_ok (ak_bipush (by decide) dX10_storeAll_62))) (ax_nd_ok (ax_lf_ok (ak_iload_n rfl dX10_storeAll_64)) (ax_lf_ok (ak_invV (by decide) (by decide) (by decide) rfl wd_1344 wd_1346 wd_43 wd_106 wd_1347 ⟨by decide, by decide, by decide +kernel⟩ dX10_storeAll_65)))) (ax_nd_ok (ax_nd_ok (ax_lf_ok (ak_vret rfl dX10_storeAll_68)) (ax_lf_ok (ak_aload_n rfl dX10_storeAll_69))) (ax_nd_ok (ax_lf_ok (ak_aload_n rfl dX10_storeAll_70)) (ax_nd_ok (ax_lf_ok (ak_gr fF_X10_35 dX10_storeAll_71)) (ax_lf_ok (ak_bipush (by decide) dX10_storeAll_74)))))) (ax_nd_ok (ax_nd_ok (ax_nd_ok (ax_lf_ok (ak_iload_n rfl dX10_storeAll_76)) (ax_lf_ok (ak_invV (by decide) (by decide) (by decide) rfl wd_1344 wd_1346 wd_43 wd_106 wd_1347 ⟨by decide, by decide, by decide +kernel⟩ dX10_storeAll_77))) (ax_nd_ok (ax_lf_ok (ak_vret rfl dX10_storeAll_80)) (ax_nd_ok (ax_lf_ok (ak_aload_n rfl dX10_storeAll_81)) (ax_lf_ok (ak_aload_n rfl dX10_storeAll_82))))) (ax_nd_ok (ax_nd_ok (ax_lf_ok (ak_gr fF_X10_38 dX10_storeAll_83)) (ax_lf_ok (ak_bipush (by decide) dX10_storeAll_86))) (ax_nd_ok (ax_lf_ok (ak_iload_n rfl dX10_storeAll_88)) (ax_nd_ok (ax_lf_ok (ak_invV (by decide) (by decide) (by decide) rfl wd_1344 wd_1346 wd_43 wd_106 wd_1347 ⟨by decide, by decide, by decide +kernel⟩ dX10_storeAll_89)) (ax_lf_ok (ak_vret rfl dX10_storeAll_92)))))))
abbrev mX10_storeAll (g : ax_G) (as : List Value) (h : ax_H) (Ret : Option Value → ax_H → Prop) : Prop := ax_M g 2 0 0 yX10_storeAll cX10_storeAll 3 none as h Ret
theorem dX10_text_0 : decode cX10_text 0 = .ok (.aload_n 0, 1) := by decide +kernel
theorem dX10_text_1 : decode cX10_text 1 = .ok (.iconst 0, 1) := by decide +kernel
theorem dX10_text_2 : decode cX10_text 2 = .ok (.putfield 88, 3) := by decide +kernel
theorem dX10_text_5 : decode cX10_text 5 = .ok (.aload_n 0, 1) := by decide +kernel
theorem dX10_text_6 : decode cX10_text 6 = .ok (.aload_n 0, 1) := by decide +kernel
theorem dX10_text_7 : decode cX10_text 7 = .ok (.getfield 13, 3) := by decide +kernel
theorem dX10_text_10 : decode cX10_text 10 = .ok (.iconst 0, 1) := by decide +kernel
theorem dX10_text_11 : decode cX10_text 11 = .ok (.iaload, 1) := by decide +kernel
theorem dX10_text_12 : decode cX10_text 12 = .ok (.putfield 107, 3) := by decide +kernel
theorem dX10_text_15 : decode cX10_text 15 = .ok (.aload_n 0, 1) := by decide +kernel
theorem dX10_text_16 : decode cX10_text 16 = .ok (.getfield 13, 3) := by decide +kernel
theorem dX10_text_19 : decode cX10_text 19 = .ok (.iconst 0, 1) := by decide +kernel
theorem dX10_text_20 : decode cX10_text 20 = .ok (.iconst 0, 1) := by decide +kernel
theorem dX10_text_21 : decode cX10_text 21 = .ok (.iastore, 1) := by decide +kernel
theorem dX10_text_22 : decode cX10_text 22 = .ok (.aload_n 0, 1) := by decide +kernel
theorem dX10_text_23 : decode cX10_text 23 = .ok (.getfield 17, 3) := by decide +kernel
theorem dX10_text_26 : decode cX10_text 26 = .ok (.iconst 0, 1) := by decide +kernel
theorem dX10_text_27 : decode cX10_text 27 = .ok (.iconst 0, 1) := by decide +kernel
theorem dX10_text_28 : decode cX10_text 28 = .ok (.iastore, 1) := by decide +kernel
theorem dX10_text_29 : decode cX10_text 29 = .ok (.aload_n 0, 1) := by decide +kernel
theorem dX10_text_30 : decode cX10_text 30 = .ok (.getfield 20, 3) := by decide +kernel
theorem dX10_text_33 : decode cX10_text 33 = .ok (.iconst 0, 1) := by decide +kernel
theorem dX10_text_34 : decode cX10_text 34 = .ok (.iconst (-1), 1) := by decide +kernel
theorem dX10_text_35 : decode cX10_text 35 = .ok (.iastore, 1) := by decide +kernel
theorem dX10_text_36 : decode cX10_text 36 = .ok (.iload_n 1, 1) := by decide +kernel
theorem dX10_text_37 : decode cX10_text 37 = .ok (.iconst 0, 1) := by decide +kernel
theorem dX10_text_38 : decode cX10_text 38 = .ok (.iconst 4, 1) := by decide +kernel
theorem dX10_text_39 : decode cX10_text 39 = .ok (.invokestatic 96, 3) := by decide +kernel
theorem dX10_text_42 : decode cX10_text 42 = .ok (.ifCond .eq 30, 3) := by decide +kernel
theorem dX10_text_45 : decode cX10_text 45 = .ok (.iload_n 2, 1) := by decide +kernel
theorem dX10_text_46 : decode cX10_text 46 = .ok (.iconst (-1), 1) := by decide +kernel
theorem dX10_text_47 : decode cX10_text 47 = .ok (.if_icmp .ne 16, 3) := by decide +kernel
theorem dX10_text_50 : decode cX10_text 50 = .ok (.aload_n 0, 1) := by decide +kernel
theorem dX10_text_51 : decode cX10_text 51 = .ok (.getfield 23, 3) := by decide +kernel
theorem dX10_text_54 : decode cX10_text 54 = .ok (.iload_n 1, 1) := by decide +kernel
theorem dX10_text_55 : decode cX10_text 55 = .ok (.iaload, 1) := by decide +kernel
theorem dX10_text_56 : decode cX10_text 56 = .ok (.iconst 2, 1) := by decide +kernel
theorem dX10_text_57 : decode cX10_text 57 = .ok (.if_icmp .ne 18, 3) := by decide +kernel
theorem dX10_text_60 : decode cX10_text 60 = .ok (.goto 12, 3) := by decide +kernel
theorem dX10_text_63 : decode cX10_text 63 = .ok (.aload_n 0, 1) := by decide +kernel
theorem dX10_text_64 : decode cX10_text 64 = .ok (.iload_n 1, 1) := by decide +kernel
theorem dX10_text_65 : decode cX10_text 65 = .ok (.iload_n 2, 1) := by decide +kernel
theorem dX10_text_66 : decode cX10_text 66 = .ok (.invokevirtual 234, 3) := by decide +kernel
theorem dX10_text_69 : decode cX10_text 69 = .ok (.ifCond .ne 6, 3) := by decide +kernel
theorem dX10_text_72 : decode cX10_text 72 = .ok (.bipush (-2), 2) := by decide +kernel
theorem dX10_text_74 : decode cX10_text 74 = .ok (.ireturn, 1) := by decide +kernel
theorem dX10_text_75 : decode cX10_text 75 = .ok (.aload_n 0, 1) := by decide +kernel
theorem dX10_text_76 : decode cX10_text 76 = .ok (.iload_n 1, 1) := by decide +kernel
theorem dX10_text_77 : decode cX10_text 77 = .ok (.invokevirtual 238, 3) := by decide +kernel
theorem dX10_text_80 : decode cX10_text 80 = .ok (.ifCond .ne 5, 3) := by decide +kernel
theorem dX10_text_83 : decode cX10_text 83 = .ok (.iconst (-1), 1) := by decide +kernel
theorem dX10_text_84 : decode cX10_text 84 = .ok (.ireturn, 1) := by decide +kernel
theorem dX10_text_85 : decode cX10_text 85 = .ok (.iload_n 2, 1) := by decide +kernel
theorem dX10_text_86 : decode cX10_text 86 = .ok (.iconst (-1), 1) := by decide +kernel
theorem dX10_text_87 : decode cX10_text 87 = .ok (.if_icmp .ne 12, 3) := by decide +kernel
theorem dX10_text_90 : decode cX10_text 90 = .ok (.aload_n 0, 1) := by decide +kernel
theorem dX10_text_91 : decode cX10_text 91 = .ok (.getfield 23, 3) := by decide +kernel
theorem dX10_text_94 : decode cX10_text 94 = .ok (.iload_n 1, 1) := by decide +kernel
theorem dX10_text_95 : decode cX10_text 95 = .ok (.iaload, 1) := by decide +kernel
theorem dX10_text_96 : decode cX10_text 96 = .ok (.goto 4, 3) := by decide +kernel
theorem dX10_text_99 : decode cX10_text 99 = .ok (.iload_n 2, 1) := by decide +kernel
theorem dX10_text_100 : decode cX10_text 100 = .ok (.istore_n 3, 1) := by decide +kernel
theorem dX10_text_101 : decode cX10_text 101 = .ok (.aload_n 0, 1) := by decide +kernel
theorem dX10_text_102 : decode cX10_text 102 = .ok (.getfield 23, 3) := by decide +kernel
theorem dX10_text_105 : decode cX10_text 105 = .ok (.iload_n 1, 1) := by decide +kernel
theorem dX10_text_106 : decode cX10_text 106 = .ok (.dup2, 1) := by decide +kernel
theorem dX10_text_107 : decode cX10_text 107 = .ok (.iaload, 1) := by decide +kernel
theorem dX10_text_108 : decode cX10_text 108 = .ok (.iload_n 2, 1) := by decide +kernel
theorem dX10_text_109 : decode cX10_text 109 = .ok (.iconst (-1), 1) := by decide +kernel
theorem dX10_text_110 : decode cX10_text 110 = .ok (.if_icmp .ne 7, 3) := by decide +kernel
theorem dX10_text_113 : decode cX10_text 113 = .ok (.iconst 1, 1) := by decide +kernel
theorem dX10_text_114 : decode cX10_text 114 = .ok (.goto 4, 3) := by decide +kernel
theorem dX10_text_117 : decode cX10_text 117 = .ok (.iconst 0, 1) := by decide +kernel
theorem dX10_text_118 : decode cX10_text 118 = .ok (.iadd, 1) := by decide +kernel
theorem dX10_text_119 : decode cX10_text 119 = .ok (.iastore, 1) := by decide +kernel
theorem dX10_text_120 : decode cX10_text 120 = .ok (.aload_n 0, 1) := by decide +kernel
theorem dX10_text_121 : decode cX10_text 121 = .ok (.iload_n 1, 1) := by decide +kernel
theorem dX10_text_122 : decode cX10_text 122 = .ok (.iload_n 3, 1) := by decide +kernel
theorem dX10_text_123 : decode cX10_text 123 = .ok (.invokevirtual 241, 3) := by decide +kernel
theorem dX10_text_126 : decode cX10_text 126 = .ok (.iload_n 3, 1) := by decide +kernel
theorem dX10_text_127 : decode cX10_text 127 = .ok (.ireturn, 1) := by decide +kernel
def tX10_text (g : ax_G) : Nat → ax_O := ax_nd 63 (ax_nd 29 (ax_nd 15 (ax_nd 6 (ax_nd 1 (ax_nd 0 (ax_lf 0 (ao_al 0 1)) (ax_lf 1 (ao_ic (0) 1))) (ax_nd 2 (ax_lf 2 (ao_pi 10 0)) (ax_nd 5 (ax_lf 5 (ao_al 0 1)) (ax_lf 6 (ao_al 0 1))))) (ax_nd 10 (ax_nd 7 (ax_lf 7 (ao_gr 10 2)) (ax_lf 10 (ao_ic (0) 1))) (ax_nd 11 (ax_lf 11 ao_iald) (ax_nd 12 (ax_lf 12 (ao_pi 10 12)) (ax_lf 15 (ao_al 0 1)))))) (ax_nd 22 (ax_nd 19 (ax_nd 16 (ax_lf 16 (ao_gr 10 2)) (ax_lf 19 (ao_ic (0) 1))) (ax_nd 20 (ax_lf 20 (ao_ic (0) 1)) (ax_nd 21 (ax_lf 21 ao_iast) (ax_lf 22 (ao_al 0 1))))) (ax_nd 26 (ax_nd 23 (ax_lf 23 (ao_gr 10 3)) (ax_lf 26 (ao_ic (0) 1))) (ax_nd 27 (ax_lf 27 (ao_ic (0) 1)) (ax_nd 28 (ax_lf 28 ao_iast) (ax_lf 29 (ao_al 0 1))))))) (ax_nd 45 (ax_nd 36 (ax_nd 33 (ax_nd 30 (ax_lf 30 (ao_gr 10 4)) (ax_lf 33 (ao_ic (0) 1))) (ax_nd 34 (ax_lf 34 (ao_ic (-1) 1)) (ax_nd 35 (ax_lf 35 ao_iast) (ax_lf 36 (ao_il 1 1))))) (ax_nd 38 (ax_nd 37 (ax_lf 37 (ao_ic (0) 1)) (ax_lf 38 (ao_ic (4) 1))) (ax_nd 39 (ax_lf 39 (ao_inv g 1 99 1 yX10_in cX10_in 3 (some .boolean) 3 0 0 0 0)) (ax_nd 42 (ax_lf 42 (ao_if_eq 72)) (ax_lf 45 (ao_il 2 1)))))) (ax_nd 54 (ax_nd 47 (ax_nd 46 (ax_lf 46 (ao_ic (-1) 1)) (ax_lf 47 (ao_icmp_ne 63))) (ax_nd 50 (ax_lf 50 (ao_al 0 1)) (ax_nd 51 (ax_lf 51 (ao_gr 10 5)) (ax_lf 54 (ao_il 1 1))))) (ax_nd 56 (ax_nd 55 (ax_lf 55 ao_iald) (ax_lf 56 (ao_ic (2) 1))) (ax_nd 57 (ax_lf 57 (ao_icmp_ne 75)) (ax_nd 60 (ax_lf 60 (ao_goto 72)) (ax_lf 63 (ao_al 0 1)))))))) (ax_nd 96 (ax_nd 80 (ax_nd 72 (ax_nd 65 (ax_nd 64 (ax_lf 64 (ao_il 1 1)) (ax_lf 65 (ao_il 2 1))) (ax_nd 66 (ax_lf 66 (ao_inv g 2 10 1 yX10_is cX10_is 3 (some .boolean) 3 0 0 0 0)) (ax_nd 69 (ax_lf 69 (ao_if_ne 75)) (ax_lf 72 (ao_ic (-2) 2))))) (ax_nd 75 (ax_nd 74 (ax_lf 74 (ao_iret 0 0)) (ax_lf 75 (ao_al 0 1))) (ax_nd 76 (ax_lf 76 (ao_il 1 1)) (ax_nd 77 (ax_lf 77 (ao_inv g 8 10 1 yX10_readText cX10_readText 3 (some .boolean) 2 0 0 0 0)) (ax_lf 80 (ao_if_ne 85)))))) (ax_nd 87 (ax_nd 84 (ax_nd 83 (ax_lf 83 (ao_ic (-1) 1)) (ax_lf 84 (ao_iret 0 0))) (ax_nd 85 (ax_lf 85 (ao_il 2 1)) (ax_nd 86 (ax_lf 86 (ao_ic (-1) 1)) (ax_lf 87 (ao_icmp_ne 99))))) (ax_nd 91 (ax_nd 90 (ax_lf 90 (ao_al 0 1)) (ax_lf 91 (ao_gr 10 5))) (ax_nd 94 (ax_lf 94 (ao_il 1 1)) (ax_nd 95 (ax_lf 95 ao_iald) (ax_lf 96 (ao_goto 100))))))) (ax_nd 110 (ax_nd 105 (ax_nd 100 (ax_nd 99 (ax_lf 99 (ao_il 2 1)) (ax_lf 100 (ao_is 3 1))) (ax_nd 101 (ax_lf 101 (ao_al 0 1)) (ax_nd 102 (ax_lf 102 (ao_gr 10 5)) (ax_lf 105 (ao_il 1 1))))) (ax_nd 107 (ax_nd 106 (ax_lf 106 ao_dup2) (ax_lf 107 ao_iald)) (ax_nd 108 (ax_lf 108 (ao_il 2 1)) (ax_nd 109 (ax_lf 109 (ao_ic (-1) 1)) (ax_lf 110 (ao_icmp_ne 117)))))) (ax_nd 119 (ax_nd 114 (ax_nd 113 (ax_lf 113 (ao_ic (1) 1)) (ax_lf 114 (ao_goto 118))) (ax_nd 117 (ax_lf 117 (ao_ic (0) 1)) (ax_nd 118 (ax_lf 118 ao_iadd) (ax_lf 119 ao_iast)))) (ax_nd 122 (ax_nd 120 (ax_lf 120 (ao_al 0 1)) (ax_nd 121 (ax_lf 121 (ao_il 1 1)) (ax_lf 122 (ao_il 3 1)))) (ax_nd 123 (ax_lf 123 (ao_inv g 2 10 0 yX10_storeAll cX10_storeAll 3 none 3 0 0 0 0)) (ax_nd 126 (ax_lf 126 (ao_il 3 1)) (ax_lf 127 (ao_iret 0 0))))))))
theorem oX10_text (g : ax_G) : ∀ pc, ax_ok g cX10_text 4 (some .int) RX10 "text" 9 0 0 pc (tX10_text g pc) := ax_nd_ok (ax_nd_ok (ax_nd_ok (ax_nd_ok (ax_nd_ok (ax_nd_ok (ax_lf_ok (ak_aload_n rfl dX10_text_0)) (ax_lf_ok (ak_iconst (by decide) dX10_text_1))) (ax_nd_ok (ax_lf_ok (ak_pi fF_X10_88 fW_X10_88_a dX10_text_2)) (ax_nd_ok (ax_lf_ok (ak_aload_n rfl dX10_text_5)) (ax_lf_ok (ak_aload_n rfl dX10_text_6))))) (ax_nd_ok (ax_nd_ok (ax_lf_ok (ak_gr fF_X10_13 dX10_text_7)) (ax_lf_ok (ak_iconst (by decide) dX10_text_10))) (ax_nd_ok (ax_lf_ok (ak_iald dX10_text_11)) (ax_nd_ok (ax_lf_ok (ak_pi fF_X10_107 fW_X10_107_a dX10_text_12)) (ax_lf_ok (ak_aload_n rfl dX10_text_15)))))) (ax_nd_ok (ax_nd_ok (ax_nd_ok (ax_lf_ok (ak_gr fF_X10_13 dX10_text_16)) (ax_lf_ok (ak_iconst (by decide) dX10_text_19))) (ax_nd_ok (ax_lf_ok (ak_iconst (by decide) dX10_text_20)) (ax_nd_ok (ax_lf_ok (ak_iast dX10_text_21)) (ax_lf_ok (ak_aload_n rfl dX10_text_22))))) (ax_nd_ok (ax_nd_ok (ax_lf_ok (ak_gr fF_X10_17 dX10_text_23)) (ax_lf_ok (ak_iconst (by decide) dX10_text_26))) (ax_nd_ok (ax_lf_ok (ak_iconst (by decide) dX10_text_27)) (ax_nd_ok (ax_lf_ok (ak_iast dX10_text_28)) (ax_lf_ok (ak_aload_n rfl dX10_text_29))))))) (ax_nd_ok (ax_nd_ok (ax_nd_ok (ax_nd_ok (ax_lf_ok (ak_gr fF_X10_20 dX10_text_30)) (ax_lf_ok (ak_iconst (by decide) dX10_text_33))) (ax_nd_ok (ax_lf_ok (ak_iconst (by decide) dX10_text_34)) (ax_nd_ok (ax_lf_ok (ak_iast dX10_text_35)) (ax_lf_ok (ak_iload_n rfl dX10_text_36))))) (ax_nd_ok (ax_nd_ok (ax_lf_ok (ak_iconst (by decide) dX10_text_37)) (ax_lf_ok (ak_iconst (by decide) dX10_text_38))) (ax_nd_ok (ax_lf_ok (ak_invS (by decide) (by decide) wd_1244 wd_1245 wd_106 wd_1246 ⟨by decide, by decide, by decide +kernel⟩ dX10_text_39)) (ax_nd_ok (ax_lf_ok (ak_if_eq (by decide) dX10_text_42)) (ax_lf_ok (ak_iload_n rfl dX10_text_45)))))) (ax_nd_ok (ax_nd_ok (ax_nd_ok (ax_lf_ok (ak_iconst (by decide) dX10_text_46)) (ax_lf_ok (ak_icmp_ne (by decide) dX10_text_47))) (ax_nd_ok (ax_lf_ok (ak_aload_n rfl dX10_text_50)) (ax_nd_ok (ax_lf_ok (ak_gr fF_X10_23 dX10_text_51)) (ax_lf_ok (ak_iload_n rfl dX10_text_54))))) (ax_nd_ok (ax_nd_ok (ax_lf_ok (ak_iald dX10_text_55)) (ax_lf_ok (ak_iconst (by decide) dX10_text_56))) (ax_nd_ok (ax_lf_ok (ak_icmp_ne (by decide) dX10_text_57)) (ax_nd_ok (ax_lf_ok (ak_goto (by decide) dX10_text_60)) (ax_lf_ok (ak_aload_n rfl dX10_text_63)))))))) (ax_nd_ok (ax_nd_ok (ax_nd_ok (ax_nd_ok (ax_nd_ok (ax_lf_ok (ak_iload_n rfl dX10_text_64)) (ax_lf_ok (ak_iload_n rfl dX10_text_65))) (ax_nd_ok (ax_lf_ok (ak_invV (by decide) (by decide) (by decide) rfl wd_1251 wd_1253 wd_24 wd_106 wd_1254 ⟨by decide, by decide, by decide +kernel⟩ dX10_text_66)) (ax_nd_ok (ax_lf_ok (ak_if_ne (by decide) dX10_text_69)) (ax_lf_ok (ak_bipush (by decide) dX10_text_72))))) (ax_nd_ok (ax_nd_ok (ax_lf_ok (ak_iret rfl dX10_text_74)) (ax_lf_ok (ak_aload_n rfl dX10_text_75))) (ax_nd_ok (ax_lf_ok (ak_iload_n rfl dX10_text_76)) (ax_nd_ok (ax_lf_ok (ak_invV (by decide) (by decide) (by decide) rfl wd_1255 wd_1257 wd_25 wd_106 wd_1258 ⟨by decide, by decide, by decide +kernel⟩ dX10_text_77)) (ax_lf_ok (ak_if_ne (by decide) dX10_text_80)))))) (ax_nd_ok (ax_nd_ok (ax_nd_ok (ax_lf_ok (ak_iconst (by decide) dX10_text_83)) (ax_lf_ok (ak_iret rfl dX10_text_84))) (ax_nd_ok (ax_lf_ok (ak_iload_n rfl dX10_text_85)) (ax_nd_ok (ax_lf_ok (ak_iconst (by decide) dX10_text_86)) (ax_lf_ok (ak_icmp_ne (by decide) dX10_text_87))))) (ax_nd_ok (ax_nd_ok (ax_lf_ok (ak_aload_n rfl dX10_text_90)) (ax_lf_ok (ak_gr fF_X10_23 dX10_text_91))) (ax_nd_ok (ax_lf_ok (ak_iload_n rfl dX10_text_94)) (ax_nd_ok (ax_lf_ok (ak_iald dX10_text_95)) (ax_lf_ok (ak_goto (by decide) dX10_text_96))))))) (ax_nd_ok (ax_nd_ok (ax_nd_ok (ax_nd_ok (ax_lf_ok (ak_iload_n rfl dX10_text_99)) (ax_lf_ok (ak_istore_n rfl (by decide) dX10_text_100))) (ax_nd_ok (ax_lf_ok (ak_aload_n rfl dX10_text_101)) (ax_nd_ok (ax_lf_ok (ak_gr fF_X10_23 dX10_text_102)) (ax_lf_ok (ak_iload_n rfl dX10_text_105))))) (ax_nd_ok (ax_nd_ok (ax_lf_ok (ak_dup2 dX10_text_106)) (ax_lf_ok (ak_iald dX10_text_107))) (ax_nd_ok (ax_lf_ok (ak_iload_n rfl dX10_text_108)) (ax_nd_ok (ax_lf_ok (ak_iconst (by decide) dX10_text_109)) (ax_lf_ok (ak_icmp_ne (by decide) dX10_text_110)))))) (ax_nd_ok (ax_nd_ok (ax_nd_ok (ax_lf_ok (ak_iconst (by decide) dX10_text_113)) (ax_lf_ok (ak_goto (by decide) dX10_text_114))) (ax_nd_ok (ax_lf_ok (ak_iconst (by decide) dX10_text_117)) (ax_nd_ok (ax_lf_ok (ak_iadd dX10_text_118)) (ax_lf_ok (ak_iast dX10_text_119))))) (ax_nd_ok (ax_nd_ok (ax_lf_ok (ak_aload_n rfl dX10_text_120)) (ax_nd_ok (ax_lf_ok (ak_iload_n rfl dX10_text_121)) (ax_lf_ok (ak_iload_n rfl dX10_text_122)))) (ax_nd_ok (ax_lf_ok (ak_invV (by decide) (by decide) (by decide) rfl wd_1340 wd_1342 wd_42 wd_106 wd_1343 ⟨by decide, by decide, by decide +kernel⟩ dX10_text_123)) (ax_nd_ok (ax_lf_ok (ak_iload_n rfl dX10_text_126)) (ax_lf_ok (ak_iret rfl dX10_text_127))))))))
abbrev mX10_text (g : ax_G) (as : List Value) (h : ax_H) (Ret : Option Value → ax_H → Prop) : Prop := ax_M g 9 0 0 yX10_text cX10_text 4 (some .int) as h Ret
theorem dX10_fault_0 : decode cX10_fault 0 = .ok (.aload_n 0, 1) := by decide +kernel
theorem dX10_fault_1 : decode cX10_fault 1 = .ok (.iconst 0, 1) := by decide +kernel
theorem dX10_fault_2 : decode cX10_fault 2 = .ok (.putfield 88, 3) := by decide +kernel
theorem dX10_fault_5 : decode cX10_fault 5 = .ok (.iload_n 1, 1) := by decide +kernel
theorem dX10_fault_6 : decode cX10_fault 6 = .ok (.ifCond .ne 12, 3) := by decide +kernel
theorem dX10_fault_9 : decode cX10_fault 9 = .ok (.aload_n 0, 1) := by decide +kernel
theorem dX10_fault_10 : decode cX10_fault 10 = .ok (.getfield 17, 3) := by decide +kernel
theorem dX10_fault_13 : decode cX10_fault 13 = .ok (.iconst 0, 1) := by decide +kernel
theorem dX10_fault_14 : decode cX10_fault 14 = .ok (.iaload, 1) := by decide +kernel
theorem dX10_fault_15 : decode cX10_fault 15 = .ok (.goto 18, 3) := by decide +kernel
theorem dX10_fault_18 : decode cX10_fault 18 = .ok (.iload_n 1, 1) := by decide +kernel
theorem dX10_fault_19 : decode cX10_fault 19 = .ok (.iconst 1, 1) := by decide +kernel
theorem dX10_fault_20 : decode cX10_fault 20 = .ok (.if_icmp .ne 12, 3) := by decide +kernel
theorem dX10_fault_23 : decode cX10_fault 23 = .ok (.aload_n 0, 1) := by decide +kernel
theorem dX10_fault_24 : decode cX10_fault 24 = .ok (.getfield 20, 3) := by decide +kernel
theorem dX10_fault_27 : decode cX10_fault 27 = .ok (.iconst 0, 1) := by decide +kernel
theorem dX10_fault_28 : decode cX10_fault 28 = .ok (.iaload, 1) := by decide +kernel
theorem dX10_fault_29 : decode cX10_fault 29 = .ok (.goto 4, 3) := by decide +kernel
theorem dX10_fault_32 : decode cX10_fault 32 = .ok (.iconst (-1), 1) := by decide +kernel
theorem dX10_fault_33 : decode cX10_fault 33 = .ok (.ireturn, 1) := by decide +kernel
def tX10_fault (g : ax_G) : Nat → ax_O := ax_nd 15 (ax_nd 6 (ax_nd 1 (ax_nd 0 (ax_lf 0 (ao_al 0 1)) (ax_lf 1 (ao_ic (0) 1))) (ax_nd 2 (ax_lf 2 (ao_pi 10 0)) (ax_nd 5 (ax_lf 5 (ao_il 1 1)) (ax_lf 6 (ao_if_ne 18))))) (ax_nd 10 (ax_nd 9 (ax_lf 9 (ao_al 0 1)) (ax_lf 10 (ao_gr 10 3))) (ax_nd 13 (ax_lf 13 (ao_ic (0) 1)) (ax_nd 14 (ax_lf 14 ao_iald) (ax_lf 15 (ao_goto 33)))))) (ax_nd 24 (ax_nd 19 (ax_nd 18 (ax_lf 18 (ao_il 1 1)) (ax_lf 19 (ao_ic (1) 1))) (ax_nd 20 (ax_lf 20 (ao_icmp_ne 32)) (ax_nd 23 (ax_lf 23 (ao_al 0 1)) (ax_lf 24 (ao_gr 10 4))))) (ax_nd 28 (ax_nd 27 (ax_lf 27 (ao_ic (0) 1)) (ax_lf 28 ao_iald)) (ax_nd 29 (ax_lf 29 (ao_goto 33)) (ax_nd 32 (ax_lf 32 (ao_ic (-1) 1)) (ax_lf 33 (ao_iret 0 0))))))
theorem oX10_fault (g : ax_G) : ∀ pc, ax_ok g cX10_fault 2 (some .int) RX10 "fault" 1 0 0 pc (tX10_fault g pc) := ax_nd_ok (ax_nd_ok (ax_nd_ok (ax_nd_ok (ax_lf_ok (ak_aload_n rfl dX10_fault_0)) (ax_lf_ok (ak_iconst (by decide) dX10_fault_1))) (ax_nd_ok (ax_lf_ok (ak_pi fF_X10_88 fW_X10_88_a dX10_fault_2)) (ax_nd_ok (ax_lf_ok (ak_iload_n rfl dX10_fault_5)) (ax_lf_ok (ak_if_ne (by decide) dX10_fault_6))))) (ax_nd_ok (ax_nd_ok (ax_lf_ok (ak_aload_n rfl dX10_fault_9)) (ax_lf_ok (ak_gr fF_X10_17 dX10_fault_10))) (ax_nd_ok (ax_lf_ok (ak_iconst (by decide) dX10_fault_13)) (ax_nd_ok (ax_lf_ok (ak_iald dX10_fault_14)) (ax_lf_ok (ak_goto (by decide) dX10_fault_15)))))) (ax_nd_ok (ax_nd_ok (ax_nd_ok (ax_lf_ok (ak_iload_n rfl dX10_fault_18)) (ax_lf_ok (ak_iconst (by decide) dX10_fault_19))) (ax_nd_ok (ax_lf_ok (ak_icmp_ne (by decide) dX10_fault_20)) (ax_nd_ok (ax_lf_ok (ak_aload_n rfl dX10_fault_23)) (ax_lf_ok (ak_gr fF_X10_20 dX10_fault_24))))) (ax_nd_ok (ax_nd_ok (ax_lf_ok (ak_iconst (by decide) dX10_fault_27)) (ax_lf_ok (ak_iald dX10_fault_28))) (ax_nd_ok (ax_lf_ok (ak_goto (by decide) dX10_fault_29)) (ax_nd_ok (ax_lf_ok (ak_iconst (by decide) dX10_fault_32)) (ax_lf_ok (ak_iret rfl dX10_fault_33))))))
abbrev mX10_fault (g : ax_G) (as : List Value) (h : ax_H) (Ret : Option Value → ax_H → Prop) : Prop := ax_M g 1 0 0 yX10_fault cX10_fault 2 (some .int) as h Ret
theorem dX10_of_0 : decode cX10_of 0 = .ok (.aload_n 0, 1) := by decide +kernel
theorem dX10_of_1 : decode cX10_of 1 = .ok (.getfield 26, 3) := by decide +kernel
theorem dX10_of_4 : decode cX10_of 4 = .ok (.sipush 164, 3) := by decide +kernel
theorem dX10_of_7 : decode cX10_of 7 = .ok (.aload_n 0, 1) := by decide +kernel
theorem dX10_of_8 : decode cX10_of 8 = .ok (.getfield 244, 3) := by decide +kernel
theorem dX10_of_11 : decode cX10_of 11 = .ok (.imul, 1) := by decide +kernel
theorem dX10_of_12 : decode cX10_of 12 = .ok (.iload_n 1, 1) := by decide +kernel
theorem dX10_of_13 : decode cX10_of 13 = .ok (.iadd, 1) := by decide +kernel
theorem dX10_of_14 : decode cX10_of 14 = .ok (.iaload, 1) := by decide +kernel
theorem dX10_of_15 : decode cX10_of 15 = .ok (.ireturn, 1) := by decide +kernel
def tX10_of (g : ax_G) : Nat → ax_O := ax_nd 8 (ax_nd 1 (ax_nd 0 (ax_lf 0 (ao_al 0 1)) (ax_lf 1 (ao_gr 10 6))) (ax_nd 4 (ax_lf 4 (ao_ic (164) 3)) (ax_nd 7 (ax_lf 7 (ao_al 0 1)) (ax_lf 8 (ao_gi 10 25))))) (ax_nd 12 (ax_nd 11 (ax_lf 11 ao_imul) (ax_lf 12 (ao_il 1 1))) (ax_nd 13 (ax_lf 13 ao_iadd) (ax_nd 14 (ax_lf 14 ao_iald) (ax_lf 15 (ao_iret 0 0)))))
theorem oX10_of (g : ax_G) : ∀ pc, ax_ok g cX10_of 2 (some .int) RX10 "of" 1 0 0 pc (tX10_of g pc) := ax_nd_ok (ax_nd_ok (ax_nd_ok (ax_lf_ok (ak_aload_n rfl dX10_of_0)) (ax_lf_ok (ak_gr fF_X10_26 dX10_of_1))) (ax_nd_ok (ax_lf_ok (ak_sipush (by decide) dX10_of_4)) (ax_nd_ok (ax_lf_ok (ak_aload_n rfl dX10_of_7)) (ax_lf_ok (ak_gi fF_X10_244 dX10_of_8))))) (ax_nd_ok (ax_nd_ok (ax_lf_ok (ak_imul dX10_of_11)) (ax_lf_ok (ak_iload_n rfl dX10_of_12))) (ax_nd_ok (ax_lf_ok (ak_iadd dX10_of_13)) (ax_nd_ok (ax_lf_ok (ak_iald dX10_of_14)) (ax_lf_ok (ak_iret rfl dX10_of_15)))))
abbrev mX10_of (g : ax_G) (as : List Value) (h : ax_H) (Ret : Option Value → ax_H → Prop) : Prop := ax_M g 1 0 0 yX10_of cX10_of 2 (some .int) as h Ret
theorem dX10_modeOf_0 : decode cX10_modeOf 0 = .ok (.iload_n 1, 1) := by decide +kernel
theorem dX10_modeOf_1 : decode cX10_modeOf 1 = .ok (.aload_n 0, 1) := by decide +kernel
theorem dX10_modeOf_2 : decode cX10_modeOf 2 = .ok (.getfield 247, 3) := by decide +kernel
theorem dX10_modeOf_5 : decode cX10_modeOf 5 = .ok (.if_icmp .ne 10, 3) := by decide +kernel
theorem dX10_modeOf_8 : decode cX10_modeOf 8 = .ok (.aload_n 0, 1) := by decide +kernel
theorem dX10_modeOf_9 : decode cX10_modeOf 9 = .ok (.getfield 250, 3) := by decide +kernel
theorem dX10_modeOf_12 : decode cX10_modeOf 12 = .ok (.goto 11, 3) := by decide +kernel
theorem dX10_modeOf_15 : decode cX10_modeOf 15 = .ok (.aload_n 0, 1) := by decide +kernel
theorem dX10_modeOf_16 : decode cX10_modeOf 16 = .ok (.bipush 14, 2) := by decide +kernel
theorem dX10_modeOf_18 : decode cX10_modeOf 18 = .ok (.iload_n 1, 1) := by decide +kernel
theorem dX10_modeOf_19 : decode cX10_modeOf 19 = .ok (.iadd, 1) := by decide +kernel
theorem dX10_modeOf_20 : decode cX10_modeOf 20 = .ok (.invokevirtual 253, 3) := by decide +kernel
theorem dX10_modeOf_23 : decode cX10_modeOf 23 = .ok (.ireturn, 1) := by decide +kernel
def tX10_modeOf (g : ax_G) : Nat → ax_O := ax_nd 9 (ax_nd 2 (ax_nd 0 (ax_lf 0 (ao_il 1 1)) (ax_nd 1 (ax_lf 1 (ao_al 0 1)) (ax_lf 2 (ao_gi 10 34)))) (ax_nd 5 (ax_lf 5 (ao_icmp_ne 15)) (ax_nd 8 (ax_lf 8 (ao_al 0 1)) (ax_lf 9 (ao_gi 10 35))))) (ax_nd 16 (ax_nd 12 (ax_lf 12 (ao_goto 23)) (ax_nd 15 (ax_lf 15 (ao_al 0 1)) (ax_lf 16 (ao_ic (14) 2)))) (ax_nd 19 (ax_nd 18 (ax_lf 18 (ao_il 1 1)) (ax_lf 19 ao_iadd)) (ax_nd 20 (ax_lf 20 (ao_inv g 1 10 1 yX10_of cX10_of 2 (some .int) 2 0 0 0 0)) (ax_lf 23 (ao_iret 0 0)))))
theorem oX10_modeOf (g : ax_G) : ∀ pc, ax_ok g cX10_modeOf 2 (some .int) RX10 "modeOf" 2 0 0 pc (tX10_modeOf g pc) := ax_nd_ok (ax_nd_ok (ax_nd_ok (ax_lf_ok (ak_iload_n rfl dX10_modeOf_0)) (ax_nd_ok (ax_lf_ok (ak_aload_n rfl dX10_modeOf_1)) (ax_lf_ok (ak_gi fF_X10_247 dX10_modeOf_2)))) (ax_nd_ok (ax_lf_ok (ak_icmp_ne (by decide) dX10_modeOf_5)) (ax_nd_ok (ax_lf_ok (ak_aload_n rfl dX10_modeOf_8)) (ax_lf_ok (ak_gi fF_X10_250 dX10_modeOf_9))))) (ax_nd_ok (ax_nd_ok (ax_lf_ok (ak_goto (by decide) dX10_modeOf_12)) (ax_nd_ok (ax_lf_ok (ak_aload_n rfl dX10_modeOf_15)) (ax_lf_ok (ak_bipush (by decide) dX10_modeOf_16)))) (ax_nd_ok (ax_nd_ok (ax_lf_ok (ak_iload_n rfl dX10_modeOf_18)) (ax_lf_ok (ak_iadd dX10_modeOf_19))) (ax_nd_ok (ax_lf_ok (ak_invV (by decide) (by decide) (by decide) rfl wd_1360 wd_1362 wd_45 wd_106 wd_1363 ⟨by decide, by decide, by decide +kernel⟩ dX10_modeOf_20)) (ax_lf_ok (ak_iret rfl dX10_modeOf_23)))))
abbrev mX10_modeOf (g : ax_G) (as : List Value) (h : ax_H) (Ret : Option Value → ax_H → Prop) : Prop := ax_M g 2 0 0 yX10_modeOf cX10_modeOf 2 (some .int) as h Ret
theorem dX10_times_0 : decode cX10_times 0 = .ok (.iload_n 0, 1) := by decide +kernel
theorem dX10_times_1 : decode cX10_times 1 = .ok (.ifCond .ne 7, 3) := by decide +kernel
theorem dX10_times_4 : decode cX10_times 4 = .ok (.iload_n 1, 1) := by decide +kernel
theorem dX10_times_5 : decode cX10_times 5 = .ok (.goto 13, 3) := by decide +kernel
theorem dX10_times_8 : decode cX10_times 8 = .ok (.iload_n 0, 1) := by decide +kernel
theorem dX10_times_9 : decode cX10_times 9 = .ok (.iconst 1, 1) := by decide +kernel
theorem dX10_times_10 : decode cX10_times 10 = .ok (.if_icmp .ne 7, 3) := by decide +kernel
theorem dX10_times_13 : decode cX10_times 13 = .ok (.iconst 1, 1) := by decide +kernel
theorem dX10_times_14 : decode cX10_times 14 = .ok (.goto 4, 3) := by decide +kernel
theorem dX10_times_17 : decode cX10_times 17 = .ok (.iconst 0, 1) := by decide +kernel
theorem dX10_times_18 : decode cX10_times 18 = .ok (.ireturn, 1) := by decide +kernel
def tX10_times (g : ax_G) : Nat → ax_O := ax_nd 8 (ax_nd 1 (ax_nd 0 (ax_lf 0 (ao_il 0 1)) (ax_lf 1 (ao_if_ne 8))) (ax_nd 4 (ax_lf 4 (ao_il 1 1)) (ax_nd 5 (ax_lf 5 (ao_goto 18)) (ax_lf 8 (ao_il 0 1))))) (ax_nd 13 (ax_nd 9 (ax_lf 9 (ao_ic (1) 1)) (ax_nd 10 (ax_lf 10 (ao_icmp_ne 17)) (ax_lf 13 (ao_ic (1) 1)))) (ax_nd 14 (ax_lf 14 (ao_goto 18)) (ax_nd 17 (ax_lf 17 (ao_ic (0) 1)) (ax_lf 18 (ao_iret 0 0)))))
theorem oX10_times (g : ax_G) : ∀ pc, ax_ok g cX10_times 2 (some .int) RX10 "times" 1 0 0 pc (tX10_times g pc) := ax_nd_ok (ax_nd_ok (ax_nd_ok (ax_lf_ok (ak_iload_n rfl dX10_times_0)) (ax_lf_ok (ak_if_ne (by decide) dX10_times_1))) (ax_nd_ok (ax_lf_ok (ak_iload_n rfl dX10_times_4)) (ax_nd_ok (ax_lf_ok (ak_goto (by decide) dX10_times_5)) (ax_lf_ok (ak_iload_n rfl dX10_times_8))))) (ax_nd_ok (ax_nd_ok (ax_lf_ok (ak_iconst (by decide) dX10_times_9)) (ax_nd_ok (ax_lf_ok (ak_icmp_ne (by decide) dX10_times_10)) (ax_lf_ok (ak_iconst (by decide) dX10_times_13)))) (ax_nd_ok (ax_lf_ok (ak_goto (by decide) dX10_times_14)) (ax_nd_ok (ax_lf_ok (ak_iconst (by decide) dX10_times_17)) (ax_lf_ok (ak_iret rfl dX10_times_18)))))
abbrev mX10_times (g : ax_G) (as : List Value) (h : ax_H) (Ret : Option Value → ax_H → Prop) : Prop := ax_M g 1 0 0 yX10_times cX10_times 2 (some .int) as h Ret
theorem dX10_worthOf_0 : decode cX10_worthOf 0 = .ok (.aload_n 0, 1) := by decide +kernel
theorem dX10_worthOf_1 : decode cX10_worthOf 1 = .ok (.getfield 50, 3) := by decide +kernel
theorem dX10_worthOf_4 : decode cX10_worthOf 4 = .ok (.bipush 12, 2) := by decide +kernel
theorem dX10_worthOf_6 : decode cX10_worthOf 6 = .ok (.iload_n 1, 1) := by decide +kernel
theorem dX10_worthOf_7 : decode cX10_worthOf 7 = .ok (.imul, 1) := by decide +kernel
theorem dX10_worthOf_8 : decode cX10_worthOf 8 = .ok (.iload_n 2, 1) := by decide +kernel
theorem dX10_worthOf_9 : decode cX10_worthOf 9 = .ok (.iadd, 1) := by decide +kernel
theorem dX10_worthOf_10 : decode cX10_worthOf 10 = .ok (.iaload, 1) := by decide +kernel
theorem dX10_worthOf_11 : decode cX10_worthOf 11 = .ok (.istore 4, 2) := by decide +kernel
theorem dX10_worthOf_13 : decode cX10_worthOf 13 = .ok (.iload 4, 2) := by decide +kernel
theorem dX10_worthOf_15 : decode cX10_worthOf 15 = .ok (.iconst (-1), 1) := by decide +kernel
theorem dX10_worthOf_16 : decode cX10_worthOf 16 = .ok (.if_icmp .ne 7, 3) := by decide +kernel
theorem dX10_worthOf_19 : decode cX10_worthOf 19 = .ok (.iconst 0, 1) := by decide +kernel
theorem dX10_worthOf_20 : decode cX10_worthOf 20 = .ok (.goto 32, 3) := by decide +kernel
theorem dX10_worthOf_23 : decode cX10_worthOf 23 = .ok (.aload_n 0, 1) := by decide +kernel
theorem dX10_worthOf_24 : decode cX10_worthOf 24 = .ok (.bipush 8, 2) := by decide +kernel
theorem dX10_worthOf_26 : decode cX10_worthOf 26 = .ok (.iload 4, 2) := by decide +kernel
theorem dX10_worthOf_28 : decode cX10_worthOf 28 = .ok (.iadd, 1) := by decide +kernel
theorem dX10_worthOf_29 : decode cX10_worthOf 29 = .ok (.invokevirtual 253, 3) := by decide +kernel
theorem dX10_worthOf_32 : decode cX10_worthOf 32 = .ok (.iload_n 3, 1) := by decide +kernel
theorem dX10_worthOf_33 : decode cX10_worthOf 33 = .ok (.iconst 1, 1) := by decide +kernel
theorem dX10_worthOf_34 : decode cX10_worthOf 34 = .ok (.if_icmp .ne 7, 3) := by decide +kernel
theorem dX10_worthOf_37 : decode cX10_worthOf 37 = .ok (.iconst 1, 1) := by decide +kernel
theorem dX10_worthOf_38 : decode cX10_worthOf 38 = .ok (.goto 13, 3) := by decide +kernel
theorem dX10_worthOf_41 : decode cX10_worthOf 41 = .ok (.aload_n 0, 1) := by decide +kernel
theorem dX10_worthOf_42 : decode cX10_worthOf 42 = .ok (.iload 4, 2) := by decide +kernel
theorem dX10_worthOf_44 : decode cX10_worthOf 44 = .ok (.invokevirtual 257, 3) := by decide +kernel
theorem dX10_worthOf_47 : decode cX10_worthOf 47 = .ok (.iload_n 3, 1) := by decide +kernel
theorem dX10_worthOf_48 : decode cX10_worthOf 48 = .ok (.invokestatic 260, 3) := by decide +kernel
theorem dX10_worthOf_51 : decode cX10_worthOf 51 = .ok (.imul, 1) := by decide +kernel
theorem dX10_worthOf_52 : decode cX10_worthOf 52 = .ok (.ireturn, 1) := by decide +kernel
def tX10_worthOf (g : ax_G) : Nat → ax_O := ax_nd 23 (ax_nd 9 (ax_nd 4 (ax_nd 0 (ax_lf 0 (ao_al 0 1)) (ax_nd 1 (ax_lf 1 (ao_gr 10 29)) (ax_lf 4 (ao_ic (12) 2)))) (ax_nd 7 (ax_nd 6 (ax_lf 6 (ao_il 1 1)) (ax_lf 7 ao_imul)) (ax_nd 8 (ax_lf 8 (ao_il 2 1)) (ax_lf 9 ao_iadd)))) (ax_nd 15 (ax_nd 11 (ax_nd 10 (ax_lf 10 ao_iald) (ax_lf 11 (ao_is 4 2))) (ax_nd 13 (ax_lf 13 (ao_il 4 2)) (ax_lf 15 (ao_ic (-1) 1)))) (ax_nd 19 (ax_nd 16 (ax_lf 16 (ao_icmp_ne 23)) (ax_lf 19 (ao_ic (0) 1))) (ax_nd 20 (ax_lf 20 (ao_goto 52)) (ax_lf 23 (ao_al 0 1)))))) (ax_nd 37 (ax_nd 29 (ax_nd 26 (ax_nd 24 (ax_lf 24 (ao_ic (8) 2)) (ax_lf 26 (ao_il 4 2))) (ax_nd 28 (ax_lf 28 ao_iadd) (ax_lf 29 (ao_inv g 1 10 1 yX10_of cX10_of 2 (some .int) 2 0 0 0 0)))) (ax_nd 33 (ax_nd 32 (ax_lf 32 (ao_il 3 1)) (ax_lf 33 (ao_ic (1) 1))) (ax_nd 34 (ax_lf 34 (ao_icmp_ne 41)) (ax_lf 37 (ao_ic (1) 1))))) (ax_nd 44 (ax_nd 41 (ax_nd 38 (ax_lf 38 (ao_goto 51)) (ax_lf 41 (ao_al 0 1))) (ax_nd 42 (ax_lf 42 (ao_il 4 2)) (ax_lf 44 (ao_inv g 2 10 1 yX10_modeOf cX10_modeOf 2 (some .int) 2 0 0 0 0)))) (ax_nd 48 (ax_nd 47 (ax_lf 47 (ao_il 3 1)) (ax_lf 48 (ao_inv g 1 99 1 yX10_times cX10_times 2 (some .int) 2 0 0 0 0))) (ax_nd 51 (ax_lf 51 ao_imul) (ax_lf 52 (ao_iret 0 0))))))
theorem oX10_worthOf (g : ax_G) : ∀ pc, ax_ok g cX10_worthOf 5 (some .int) RX10 "worthOf" 3 0 0 pc (tX10_worthOf g pc) := ax_nd_ok (ax_nd_ok (ax_nd_ok (ax_nd_ok (ax_lf_ok (ak_aload_n rfl dX10_worthOf_0)) (ax_nd_ok (ax_lf_ok (ak_gr fF_X10_50 dX10_worthOf_1)) (ax_lf_ok (ak_bipush (by decide) dX10_worthOf_4)))) (ax_nd_ok (ax_nd_ok (ax_lf_ok (ak_iload_n rfl dX10_worthOf_6)) (ax_lf_ok (ak_imul dX10_worthOf_7))) (ax_nd_ok (ax_lf_ok (ak_iload_n rfl dX10_worthOf_8)) (ax_lf_ok (ak_iadd dX10_worthOf_9))))) (ax_nd_ok (ax_nd_ok (ax_nd_ok (ax_lf_ok (ak_iald dX10_worthOf_10)) (ax_lf_ok (ak_istore (by decide) dX10_worthOf_11))) (ax_nd_ok (ax_lf_ok (ak_iload dX10_worthOf_13)) (ax_lf_ok (ak_iconst (by decide) dX10_worthOf_15)))) (ax_nd_ok (ax_nd_ok (ax_lf_ok (ak_icmp_ne (by decide) dX10_worthOf_16)) (ax_lf_ok (ak_iconst (by decide) dX10_worthOf_19))) (ax_nd_ok (ax_lf_ok (ak_goto (by decide) dX10_worthOf_20)) (ax_lf_ok (ak_aload_n rfl dX10_worthOf_23)))))) (ax_nd_ok (ax_nd_ok (ax_nd_ok (ax_nd_ok (ax_lf_ok (ak_bipush (by decide) dX10_worthOf_24)) (ax_lf_ok (ak_iload dX10_worthOf_26))) (ax_nd_ok (ax_lf_ok (ak_iadd dX10_worthOf_28)) (ax_lf_ok (ak_invV (by decide) (by decide) (by decide) rfl wd_1360 wd_1362 wd_45 wd_106 wd_1363 ⟨by decide, by decide, by decide +kernel⟩ dX10_worthOf_29)))) (ax_nd_ok (ax_nd_ok (ax_lf_ok (ak_iload_n rfl dX10_worthOf_32)) (ax_lf_ok (ak_iconst (by decide) dX10_worthOf_33))) (ax_nd_ok (ax_lf_ok (ak_icmp_ne (by decide) dX10_worthOf_34)) (ax_lf_ok (ak_iconst (by decide) dX10_worthOf_37))))) (ax_nd_ok (ax_nd_ok (ax_nd_ok (ax_lf_ok (ak_goto (by decide) dX10_worthOf_38)) (ax_lf_ok (ak_aload_n rfl dX10_worthOf_41))) (ax_nd_ok (ax_lf_ok (ak_iload dX10_worthOf_42)) (ax_lf_ok (ak_invV (by decide) (by decide) (by decide) rfl wd_1376 wd_1378 wd_49 wd_106 wd_1379 ⟨by decide, by decide, by decide +kernel⟩ dX10_worthOf_44)))) (ax_nd_ok (ax_nd_ok (ax_lf_ok (ak_iload_n rfl dX10_worthOf_47)) (ax_lf_ok (ak_invS (by decide) (by decide) wd_1380 wd_1381 wd_106 wd_1382 ⟨by decide, by decide, by decide +kernel⟩ dX10_worthOf_48))) (ax_nd_ok (ax_lf_ok (ak_imul dX10_worthOf_51)) (ax_lf_ok (ak_iret rfl dX10_worthOf_52))))))
abbrev mX10_worthOf (g : ax_G) (as : List Value) (h : ax_H) (Ret : Option Value → ax_H → Prop) : Prop := ax_M g 3 0 0 yX10_worthOf cX10_worthOf 5 (some .int) as h Ret
theorem dX10_valueBy_0 : decode cX10_valueBy 0 = .ok (.iconst 0, 1) := by decide +kernel
theorem dX10_valueBy_1 : decode cX10_valueBy 1 = .ok (.istore 4, 2) := by decide +kernel
theorem dX10_valueBy_3 : decode cX10_valueBy 3 = .ok (.iconst 0, 1) := by decide +kernel
theorem dX10_valueBy_4 : decode cX10_valueBy 4 = .ok (.istore 5, 2) := by decide +kernel
theorem dX10_valueBy_6 : decode cX10_valueBy 6 = .ok (.iload 5, 2) := by decide +kernel
theorem dX10_valueBy_8 : decode cX10_valueBy 8 = .ok (.aload_n 0, 1) := by decide +kernel
theorem dX10_valueBy_9 : decode cX10_valueBy 9 = .ok (.getfield 263, 3) := by decide +kernel
theorem dX10_valueBy_12 : decode cX10_valueBy 12 = .ok (.if_icmp .ge 50, 3) := by decide +kernel
theorem dX10_valueBy_15 : decode cX10_valueBy 15 = .ok (.iconst 1, 1) := by decide +kernel
theorem dX10_valueBy_16 : decode cX10_valueBy 16 = .ok (.iload 5, 2) := by decide +kernel
theorem dX10_valueBy_18 : decode cX10_valueBy 18 = .ok (.iload_n 2, 1) := by decide +kernel
theorem dX10_valueBy_19 : decode cX10_valueBy 19 = .ok (.if_icmp .ne 7, 3) := by decide +kernel
theorem dX10_valueBy_22 : decode cX10_valueBy 22 = .ok (.iconst 1, 1) := by decide +kernel
theorem dX10_valueBy_23 : decode cX10_valueBy 23 = .ok (.goto 4, 3) := by decide +kernel
theorem dX10_valueBy_26 : decode cX10_valueBy 26 = .ok (.iconst 0, 1) := by decide +kernel
theorem dX10_valueBy_27 : decode cX10_valueBy 27 = .ok (.iadd, 1) := by decide +kernel
theorem dX10_valueBy_28 : decode cX10_valueBy 28 = .ok (.iload 5, 2) := by decide +kernel
theorem dX10_valueBy_30 : decode cX10_valueBy 30 = .ok (.iload_n 3, 1) := by decide +kernel
theorem dX10_valueBy_31 : decode cX10_valueBy 31 = .ok (.if_icmp .ne 7, 3) := by decide +kernel
theorem dX10_valueBy_34 : decode cX10_valueBy 34 = .ok (.iconst 1, 1) := by decide +kernel
theorem dX10_valueBy_35 : decode cX10_valueBy 35 = .ok (.goto 4, 3) := by decide +kernel
theorem dX10_valueBy_38 : decode cX10_valueBy 38 = .ok (.iconst 0, 1) := by decide +kernel
theorem dX10_valueBy_39 : decode cX10_valueBy 39 = .ok (.iadd, 1) := by decide +kernel
theorem dX10_valueBy_40 : decode cX10_valueBy 40 = .ok (.istore 6, 2) := by decide +kernel
theorem dX10_valueBy_42 : decode cX10_valueBy 42 = .ok (.iload 4, 2) := by decide +kernel
theorem dX10_valueBy_44 : decode cX10_valueBy 44 = .ok (.aload_n 0, 1) := by decide +kernel
theorem dX10_valueBy_45 : decode cX10_valueBy 45 = .ok (.iload_n 1, 1) := by decide +kernel
theorem dX10_valueBy_46 : decode cX10_valueBy 46 = .ok (.iload 5, 2) := by decide +kernel
theorem dX10_valueBy_48 : decode cX10_valueBy 48 = .ok (.iload 6, 2) := by decide +kernel
theorem dX10_valueBy_50 : decode cX10_valueBy 50 = .ok (.invokevirtual 266, 3) := by decide +kernel
theorem dX10_valueBy_53 : decode cX10_valueBy 53 = .ok (.iadd, 1) := by decide +kernel
theorem dX10_valueBy_54 : decode cX10_valueBy 54 = .ok (.istore 4, 2) := by decide +kernel
theorem dX10_valueBy_56 : decode cX10_valueBy 56 = .ok (.iinc 5 1, 3) := by decide +kernel
theorem dX10_valueBy_59 : decode cX10_valueBy 59 = .ok (.goto (-53), 3) := by decide +kernel
theorem dX10_valueBy_62 : decode cX10_valueBy 62 = .ok (.iload 4, 2) := by decide +kernel
theorem dX10_valueBy_64 : decode cX10_valueBy 64 = .ok (.ireturn, 1) := by decide +kernel
def tX10_valueBy (g : ax_G) : Nat → ax_O := ax_nd 30 (ax_nd 15 (ax_nd 4 (ax_nd 1 (ax_nd 0 (ax_lf 0 (ao_ic (0) 1)) (ax_lf 1 (ao_is 4 2))) (ax_nd 3 (ax_lf 3 (ao_ic (0) 1)) (ax_lf 4 (ao_is 5 2)))) (ax_nd 8 (ax_nd 6 (ax_lf 6 (ao_il 5 2)) (ax_lf 8 (ao_al 0 1))) (ax_nd 9 (ax_lf 9 (ao_gi 10 26)) (ax_nd 12 (ax_lf 12 (ao_icmp_ge 62)) (ax_lf 15 (ao_ic (1) 1)))))) (ax_nd 22 (ax_nd 18 (ax_nd 16 (ax_lf 16 (ao_il 5 2)) (ax_lf 18 (ao_il 2 1))) (ax_nd 19 (ax_lf 19 (ao_icmp_ne 26)) (ax_lf 22 (ao_ic (1) 1)))) (ax_nd 26 (ax_nd 23 (ax_lf 23 (ao_goto 27)) (ax_lf 26 (ao_ic (0) 1))) (ax_nd 27 (ax_lf 27 ao_iadd) (ax_nd 28 (ax_lf 28 (ao_il 5 2)) (ax_lf 30 (ao_il 3 1))))))) (ax_nd 45 (ax_nd 38 (ax_nd 34 (ax_nd 31 (ax_lf 31 (ao_icmp_ne 38)) (ax_lf 34 (ao_ic (1) 1))) (ax_nd 35 (ax_lf 35 (ao_goto 39)) (ax_lf 38 (ao_ic (0) 1)))) (ax_nd 40 (ax_nd 39 (ax_lf 39 ao_iadd) (ax_lf 40 (ao_is 6 2))) (ax_nd 42 (ax_lf 42 (ao_il 4 2)) (ax_nd 44 (ax_lf 44 (ao_al 0 1)) (ax_lf 45 (ao_il 1 1)))))) (ax_nd 53 (ax_nd 48 (ax_nd 46 (ax_lf 46 (ao_il 5 2)) (ax_lf 48 (ao_il 6 2))) (ax_nd 50 (ax_lf 50 (ao_inv g 3 10 1 yX10_worthOf cX10_worthOf 5 (some .int) 4 0 0 0 0)) (ax_lf 53 ao_iadd))) (ax_nd 56 (ax_nd 54 (ax_lf 54 (ao_is 4 2)) (ax_lf 56 (ao_iinc 5 (1)))) (ax_nd 59 (ax_lf 59 (ao_goto 6)) (ax_nd 62 (ax_lf 62 (ao_il 4 2)) (ax_lf 64 (ao_iret 0 0)))))))
theorem oX10_valueBy (g : ax_G) : ∀ pc, ax_ok g cX10_valueBy 7 (some .int) RX10 "valueBy" 4 0 0 pc (tX10_valueBy g pc) := ax_nd_ok (ax_nd_ok (ax_nd_ok (ax_nd_ok (ax_nd_ok (ax_lf_ok (ak_iconst (by decide) dX10_valueBy_0)) (ax_lf_ok (ak_istore (by decide) dX10_valueBy_1))) (ax_nd_ok (ax_lf_ok (ak_iconst (by decide) dX10_valueBy_3)) (ax_lf_ok (ak_istore (by decide) dX10_valueBy_4)))) (ax_nd_ok (ax_nd_ok (ax_lf_ok (ak_iload dX10_valueBy_6)) (ax_lf_ok (ak_aload_n rfl dX10_valueBy_8))) (ax_nd_ok (ax_lf_ok (ak_gi fF_X10_263 dX10_valueBy_9)) (ax_nd_ok (ax_lf_ok (ak_icmp_ge (by decide) dX10_valueBy_12)) (ax_lf_ok (ak_iconst (by decide) dX10_valueBy_15)))))) (ax_nd_ok (ax_nd_ok (ax_nd_ok (ax_lf_ok (ak_iload dX10_valueBy_16)) (ax_lf_ok (ak_iload_n rfl dX10_valueBy_18))) (ax_nd_ok (ax_lf_ok (ak_icmp_ne (by decide) dX10_valueBy_19)) (ax_lf_ok (ak_iconst (by decide) dX10_valueBy_22)))) (ax_nd_ok (ax_nd_ok (ax_lf_ok (ak_goto (by decide) dX10_valueBy_23)) (ax_lf_ok (ak_iconst (by decide) dX10_valueBy_26))) (ax_nd_ok (ax_lf_ok (ak_iadd dX10_valueBy_27)) (ax_nd_ok (ax_lf_ok (ak_iload dX10_valueBy_28)) (ax_lf_ok (ak_iload_n rfl dX10_valueBy_30))))))) (ax_nd_ok (ax_nd_ok (ax_nd_ok (ax_nd_ok (ax_lf_ok (ak_icmp_ne (by decide) dX10_valueBy_31)) (ax_lf_ok (ak_iconst (by decide) dX10_valueBy_34))) (ax_nd_ok (ax_lf_ok (ak_goto (by decide) dX10_valueBy_35)) (ax_lf_ok (ak_iconst (by decide) dX10_valueBy_38)))) (ax_nd_ok (ax_nd_ok (ax_lf_ok (ak_iadd dX10_valueBy_39)) (ax_lf_ok (ak_istore (by decide) dX10_valueBy_40))) (ax_nd_ok (ax_lf_ok (ak_iload dX10_valueBy_42)) (ax_nd_ok (ax_lf_ok (ak_aload_n rfl dX10_valueBy_44)) (ax_lf_ok (ak_iload_n rfl dX10_valueBy_45)))))) (ax_nd_ok (ax_nd_ok (ax_nd_ok (ax_lf_ok (ak_iload dX10_valueBy_46)) (ax_lf_ok (ak_iload dX10_valueBy_48))) (ax_nd_ok (ax_lf_ok (ak_invV (by decide) (by decide) (by decide) rfl wd_1372 wd_1374 wd_48 wd_106 wd_1375 ⟨by decide, by decide, by decide +kernel⟩ dX10_valueBy_50)) (ax_lf_ok (ak_iadd dX10_valueBy_53)))) (ax_nd_ok (ax_nd_ok (ax_lf_ok (ak_istore (by decide) dX10_valueBy_54)) (ax_lf_ok (ak_iinc (by decide) (by decide) dX10_valueBy_56))) (ax_nd_ok (ax_lf_ok (ak_goto (by decide) dX10_valueBy_59)) (ax_nd_ok (ax_lf_ok (ak_iload dX10_valueBy_62)) (ax_lf_ok (ak_iret rfl dX10_valueBy_64)))))))
abbrev mX10_valueBy (g : ax_G) (as : List Value) (h : ax_H) (Ret : Option Value → ax_H → Prop) : Prop := ax_M g 4 0 0 yX10_valueBy cX10_valueBy 7 (some .int) as h Ret
theorem dX10_layValues_0 : decode cX10_layValues 0 = .ok (.iconst 0, 1) := by decide +kernel
theorem dX10_layValues_1 : decode cX10_layValues 1 = .ok (.istore_n 2, 1) := by decide +kernel
theorem dX10_layValues_2 : decode cX10_layValues 2 = .ok (.iload_n 2, 1) := by decide +kernel
theorem dX10_layValues_3 : decode cX10_layValues 3 = .ok (.aload_n 0, 1) := by decide +kernel
theorem dX10_layValues_4 : decode cX10_layValues 4 = .ok (.getfield 263, 3) := by decide +kernel
theorem dX10_layValues_7 : decode cX10_layValues 7 = .ok (.if_icmp .ge 27, 3) := by decide +kernel
theorem dX10_layValues_10 : decode cX10_layValues 10 = .ok (.aload_n 0, 1) := by decide +kernel
theorem dX10_layValues_11 : decode cX10_layValues 11 = .ok (.getfield 53, 3) := by decide +kernel
theorem dX10_layValues_14 : decode cX10_layValues 14 = .ok (.bipush 12, 2) := by decide +kernel
theorem dX10_layValues_16 : decode cX10_layValues 16 = .ok (.iload_n 1, 1) := by decide +kernel
theorem dX10_layValues_17 : decode cX10_layValues 17 = .ok (.imul, 1) := by decide +kernel
theorem dX10_layValues_18 : decode cX10_layValues 18 = .ok (.iload_n 2, 1) := by decide +kernel
theorem dX10_layValues_19 : decode cX10_layValues 19 = .ok (.iadd, 1) := by decide +kernel
theorem dX10_layValues_20 : decode cX10_layValues 20 = .ok (.aload_n 0, 1) := by decide +kernel
theorem dX10_layValues_21 : decode cX10_layValues 21 = .ok (.iload_n 1, 1) := by decide +kernel
theorem dX10_layValues_22 : decode cX10_layValues 22 = .ok (.iload_n 2, 1) := by decide +kernel
theorem dX10_layValues_23 : decode cX10_layValues 23 = .ok (.iconst (-1), 1) := by decide +kernel
theorem dX10_layValues_24 : decode cX10_layValues 24 = .ok (.invokevirtual 270, 3) := by decide +kernel
theorem dX10_layValues_27 : decode cX10_layValues 27 = .ok (.iastore, 1) := by decide +kernel
theorem dX10_layValues_28 : decode cX10_layValues 28 = .ok (.iinc 2 1, 3) := by decide +kernel
theorem dX10_layValues_31 : decode cX10_layValues 31 = .ok (.goto (-29), 3) := by decide +kernel
theorem dX10_layValues_34 : decode cX10_layValues 34 = .ok (.return_, 1) := by decide +kernel
def tX10_layValues (g : ax_G) : Nat → ax_O := ax_nd 17 (ax_nd 4 (ax_nd 1 (ax_nd 0 (ax_lf 0 (ao_ic (0) 1)) (ax_lf 1 (ao_is 2 1))) (ax_nd 2 (ax_lf 2 (ao_il 2 1)) (ax_nd 3 (ax_lf 3 (ao_al 0 1)) (ax_lf 4 (ao_gi 10 26))))) (ax_nd 11 (ax_nd 7 (ax_lf 7 (ao_icmp_ge 34)) (ax_nd 10 (ax_lf 10 (ao_al 0 1)) (ax_lf 11 (ao_gr 10 30)))) (ax_nd 14 (ax_lf 14 (ao_ic (12) 2)) (ax_nd 16 (ax_lf 16 (ao_il 1 1)) (ax_lf 17 ao_imul))))) (ax_nd 22 (ax_nd 19 (ax_nd 18 (ax_lf 18 (ao_il 2 1)) (ax_lf 19 ao_iadd)) (ax_nd 20 (ax_lf 20 (ao_al 0 1)) (ax_nd 21 (ax_lf 21 (ao_il 1 1)) (ax_lf 22 (ao_il 2 1))))) (ax_nd 27 (ax_nd 23 (ax_lf 23 (ao_ic (-1) 1)) (ax_nd 24 (ax_lf 24 (ao_inv g 4 10 1 yX10_valueBy cX10_valueBy 7 (some .int) 4 0 0 0 0)) (ax_lf 27 ao_iast))) (ax_nd 28 (ax_lf 28 (ao_iinc 2 (1))) (ax_nd 31 (ax_lf 31 (ao_goto 2)) (ax_lf 34 (ao_vret 0 0))))))
theorem oX10_layValues (g : ax_G) : ∀ pc, ax_ok g cX10_layValues 3 none RX10 "layValues" 5 0 0 pc (tX10_layValues g pc) := ax_nd_ok (ax_nd_ok (ax_nd_ok (ax_nd_ok (ax_lf_ok (ak_iconst (by decide) dX10_layValues_0)) (ax_lf_ok (ak_istore_n rfl (by decide) dX10_layValues_1))) (ax_nd_ok (ax_lf_ok (ak_iload_n rfl dX10_layValues_2)) (ax_nd_ok (ax_lf_ok (ak_aload_n rfl dX10_layValues_3)) (ax_lf_ok (ak_gi fF_X10_263 dX10_layValues_4))))) (ax_nd_ok (ax_nd_ok (ax_lf_ok (ak_icmp_ge (by decide) dX10_layValues_7)) (ax_nd_ok (ax_lf_ok (ak_aload_n rfl dX10_layValues_10)) (ax_lf_ok (ak_gr fF_X10_53 dX10_layValues_11)))) (ax_nd_ok (ax_lf_ok (ak_bipush (by decide) dX10_layValues_14)) (ax_nd_ok (ax_lf_ok (ak_iload_n rfl dX10_layValues_16)) (ax_lf_ok (ak_imul dX10_layValues_17)))))) (ax_nd_ok (ax_nd_ok (ax_nd_ok (ax_lf_ok (ak_iload_n rfl dX10_layValues_18)) (ax_lf_ok (ak_iadd dX10_layValues_19))) (ax_nd_ok (ax_lf_ok (ak_aload_n rfl dX10_layValues_20)) (ax_nd_ok (ax_lf_ok (ak_iload_n rfl dX10_layValues_21)) (ax_lf_ok (ak_iload_n rfl dX10_layValues_22))))) (ax_nd_ok (ax_nd_ok (ax_lf_ok (ak_iconst (by decide) dX10_layValues_23)) (ax_nd_ok (ax_lf_ok (ak_invV (by decide) (by decide) (by decide) rfl wd_1368 wd_1370 wd_47 wd_106 wd_1371 ⟨by decide, by decide, by decide +kernel⟩ dX10_layValues_24)) (ax_lf_ok (ak_iast dX10_layValues_27)))) (ax_nd_ok (ax_lf_ok (ak_iinc (by decide) (by decide) dX10_layValues_28)) (ax_nd_ok (ax_lf_ok (ak_goto (by decide) dX10_layValues_31)) (ax_lf_ok (ak_vret rfl dX10_layValues_34))))))
abbrev mX10_layValues (g : ax_G) (as : List Value) (h : ax_H) (Ret : Option Value → ax_H → Prop) : Prop := ax_M g 5 0 0 yX10_layValues cX10_layValues 3 none as h Ret
end
