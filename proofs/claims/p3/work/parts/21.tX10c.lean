section
theorem dX10_layOdds_0 : decode cX10_layOdds 0 = .ok (.aload_n 0, 1) := by decide +kernel
theorem dX10_layOdds_1 : decode cX10_layOdds 1 = .ok (.iconst (-1), 1) := by decide +kernel
theorem dX10_layOdds_2 : decode cX10_layOdds 2 = .ok (.putfield 273, 3) := by decide +kernel
theorem dX10_layOdds_5 : decode cX10_layOdds 5 = .ok (.iconst 0, 1) := by decide +kernel
theorem dX10_layOdds_6 : decode cX10_layOdds 6 = .ok (.istore_n 1, 1) := by decide +kernel
theorem dX10_layOdds_7 : decode cX10_layOdds 7 = .ok (.iload_n 1, 1) := by decide +kernel
theorem dX10_layOdds_8 : decode cX10_layOdds 8 = .ok (.aload_n 0, 1) := by decide +kernel
theorem dX10_layOdds_9 : decode cX10_layOdds 9 = .ok (.getfield 276, 3) := by decide +kernel
theorem dX10_layOdds_12 : decode cX10_layOdds 12 = .ok (.if_icmp .ge 47, 3) := by decide +kernel
theorem dX10_layOdds_15 : decode cX10_layOdds 15 = .ok (.aload_n 0, 1) := by decide +kernel
theorem dX10_layOdds_16 : decode cX10_layOdds 16 = .ok (.aload_n 0, 1) := by decide +kernel
theorem dX10_layOdds_17 : decode cX10_layOdds 17 = .ok (.getfield 273, 3) := by decide +kernel
theorem dX10_layOdds_20 : decode cX10_layOdds 20 = .ok (.iconst (-1), 1) := by decide +kernel
theorem dX10_layOdds_21 : decode cX10_layOdds 21 = .ok (.if_icmp .eq 21, 3) := by decide +kernel
theorem dX10_layOdds_24 : decode cX10_layOdds 24 = .ok (.aload_n 0, 1) := by decide +kernel
theorem dX10_layOdds_25 : decode cX10_layOdds 25 = .ok (.getfield 47, 3) := by decide +kernel
theorem dX10_layOdds_28 : decode cX10_layOdds 28 = .ok (.iload_n 1, 1) := by decide +kernel
theorem dX10_layOdds_29 : decode cX10_layOdds 29 = .ok (.iaload, 1) := by decide +kernel
theorem dX10_layOdds_30 : decode cX10_layOdds 30 = .ok (.aload_n 0, 1) := by decide +kernel
theorem dX10_layOdds_31 : decode cX10_layOdds 31 = .ok (.getfield 47, 3) := by decide +kernel
theorem dX10_layOdds_34 : decode cX10_layOdds 34 = .ok (.aload_n 0, 1) := by decide +kernel
theorem dX10_layOdds_35 : decode cX10_layOdds 35 = .ok (.getfield 273, 3) := by decide +kernel
theorem dX10_layOdds_38 : decode cX10_layOdds 38 = .ok (.iaload, 1) := by decide +kernel
theorem dX10_layOdds_39 : decode cX10_layOdds 39 = .ok (.if_icmp .ge 7, 3) := by decide +kernel
theorem dX10_layOdds_42 : decode cX10_layOdds 42 = .ok (.iload_n 1, 1) := by decide +kernel
theorem dX10_layOdds_43 : decode cX10_layOdds 43 = .ok (.goto 7, 3) := by decide +kernel
theorem dX10_layOdds_46 : decode cX10_layOdds 46 = .ok (.aload_n 0, 1) := by decide +kernel
theorem dX10_layOdds_47 : decode cX10_layOdds 47 = .ok (.getfield 273, 3) := by decide +kernel
theorem dX10_layOdds_50 : decode cX10_layOdds 50 = .ok (.putfield 273, 3) := by decide +kernel
theorem dX10_layOdds_53 : decode cX10_layOdds 53 = .ok (.iinc 1 1, 3) := by decide +kernel
theorem dX10_layOdds_56 : decode cX10_layOdds 56 = .ok (.goto (-49), 3) := by decide +kernel
theorem dX10_layOdds_59 : decode cX10_layOdds 59 = .ok (.aload_n 0, 1) := by decide +kernel
theorem dX10_layOdds_60 : decode cX10_layOdds 60 = .ok (.iconst 0, 1) := by decide +kernel
theorem dX10_layOdds_61 : decode cX10_layOdds 61 = .ok (.putfield 279, 3) := by decide +kernel
theorem dX10_layOdds_64 : decode cX10_layOdds 64 = .ok (.iconst 0, 1) := by decide +kernel
theorem dX10_layOdds_65 : decode cX10_layOdds 65 = .ok (.istore_n 1, 1) := by decide +kernel
theorem dX10_layOdds_66 : decode cX10_layOdds 66 = .ok (.iload_n 1, 1) := by decide +kernel
theorem dX10_layOdds_67 : decode cX10_layOdds 67 = .ok (.aload_n 0, 1) := by decide +kernel
theorem dX10_layOdds_68 : decode cX10_layOdds 68 = .ok (.getfield 263, 3) := by decide +kernel
theorem dX10_layOdds_71 : decode cX10_layOdds 71 = .ok (.if_icmp .ge 58, 3) := by decide +kernel
theorem dX10_layOdds_74 : decode cX10_layOdds 74 = .ok (.aload_n 0, 1) := by decide +kernel
theorem dX10_layOdds_75 : decode cX10_layOdds 75 = .ok (.getfield 56, 3) := by decide +kernel
theorem dX10_layOdds_78 : decode cX10_layOdds 78 = .ok (.iload_n 1, 1) := by decide +kernel
theorem dX10_layOdds_79 : decode cX10_layOdds 79 = .ok (.aload_n 0, 1) := by decide +kernel
theorem dX10_layOdds_80 : decode cX10_layOdds 80 = .ok (.getfield 273, 3) := by decide +kernel
theorem dX10_layOdds_83 : decode cX10_layOdds 83 = .ok (.iconst (-1), 1) := by decide +kernel
theorem dX10_layOdds_84 : decode cX10_layOdds 84 = .ok (.if_icmp .ne 7, 3) := by decide +kernel
theorem dX10_layOdds_87 : decode cX10_layOdds 87 = .ok (.iconst 1, 1) := by decide +kernel
theorem dX10_layOdds_88 : decode cX10_layOdds 88 = .ok (.goto 19, 3) := by decide +kernel
theorem dX10_layOdds_91 : decode cX10_layOdds 91 = .ok (.aload_n 0, 1) := by decide +kernel
theorem dX10_layOdds_92 : decode cX10_layOdds 92 = .ok (.bipush 92, 2) := by decide +kernel
theorem dX10_layOdds_94 : decode cX10_layOdds 94 = .ok (.bipush 12, 2) := by decide +kernel
theorem dX10_layOdds_96 : decode cX10_layOdds 96 = .ok (.aload_n 0, 1) := by decide +kernel
theorem dX10_layOdds_97 : decode cX10_layOdds 97 = .ok (.getfield 273, 3) := by decide +kernel
theorem dX10_layOdds_100 : decode cX10_layOdds 100 = .ok (.imul, 1) := by decide +kernel
theorem dX10_layOdds_101 : decode cX10_layOdds 101 = .ok (.iadd, 1) := by decide +kernel
theorem dX10_layOdds_102 : decode cX10_layOdds 102 = .ok (.iload_n 1, 1) := by decide +kernel
theorem dX10_layOdds_103 : decode cX10_layOdds 103 = .ok (.iadd, 1) := by decide +kernel
theorem dX10_layOdds_104 : decode cX10_layOdds 104 = .ok (.invokevirtual 253, 3) := by decide +kernel
theorem dX10_layOdds_107 : decode cX10_layOdds 107 = .ok (.iastore, 1) := by decide +kernel
theorem dX10_layOdds_108 : decode cX10_layOdds 108 = .ok (.aload_n 0, 1) := by decide +kernel
theorem dX10_layOdds_109 : decode cX10_layOdds 109 = .ok (.dup, 1) := by decide +kernel
theorem dX10_layOdds_110 : decode cX10_layOdds 110 = .ok (.getfield 279, 3) := by decide +kernel
theorem dX10_layOdds_113 : decode cX10_layOdds 113 = .ok (.aload_n 0, 1) := by decide +kernel
theorem dX10_layOdds_114 : decode cX10_layOdds 114 = .ok (.getfield 56, 3) := by decide +kernel
theorem dX10_layOdds_117 : decode cX10_layOdds 117 = .ok (.iload_n 1, 1) := by decide +kernel
theorem dX10_layOdds_118 : decode cX10_layOdds 118 = .ok (.iaload, 1) := by decide +kernel
theorem dX10_layOdds_119 : decode cX10_layOdds 119 = .ok (.iadd, 1) := by decide +kernel
theorem dX10_layOdds_120 : decode cX10_layOdds 120 = .ok (.putfield 279, 3) := by decide +kernel
theorem dX10_layOdds_123 : decode cX10_layOdds 123 = .ok (.iinc 1 1, 3) := by decide +kernel
theorem dX10_layOdds_126 : decode cX10_layOdds 126 = .ok (.goto (-60), 3) := by decide +kernel
theorem dX10_layOdds_129 : decode cX10_layOdds 129 = .ok (.aload_n 0, 1) := by decide +kernel
theorem dX10_layOdds_130 : decode cX10_layOdds 130 = .ok (.getfield 279, 3) := by decide +kernel
theorem dX10_layOdds_133 : decode cX10_layOdds 133 = .ok (.ifCond .ne 34, 3) := by decide +kernel
theorem dX10_layOdds_136 : decode cX10_layOdds 136 = .ok (.iconst 0, 1) := by decide +kernel
theorem dX10_layOdds_137 : decode cX10_layOdds 137 = .ok (.istore_n 1, 1) := by decide +kernel
theorem dX10_layOdds_138 : decode cX10_layOdds 138 = .ok (.iload_n 1, 1) := by decide +kernel
theorem dX10_layOdds_139 : decode cX10_layOdds 139 = .ok (.aload_n 0, 1) := by decide +kernel
theorem dX10_layOdds_140 : decode cX10_layOdds 140 = .ok (.getfield 263, 3) := by decide +kernel
theorem dX10_layOdds_143 : decode cX10_layOdds 143 = .ok (.if_icmp .ge 16, 3) := by decide +kernel
theorem dX10_layOdds_146 : decode cX10_layOdds 146 = .ok (.aload_n 0, 1) := by decide +kernel
theorem dX10_layOdds_147 : decode cX10_layOdds 147 = .ok (.getfield 56, 3) := by decide +kernel
theorem dX10_layOdds_150 : decode cX10_layOdds 150 = .ok (.iload_n 1, 1) := by decide +kernel
theorem dX10_layOdds_151 : decode cX10_layOdds 151 = .ok (.iconst 1, 1) := by decide +kernel
theorem dX10_layOdds_152 : decode cX10_layOdds 152 = .ok (.iastore, 1) := by decide +kernel
theorem dX10_layOdds_153 : decode cX10_layOdds 153 = .ok (.iinc 1 1, 3) := by decide +kernel
theorem dX10_layOdds_156 : decode cX10_layOdds 156 = .ok (.goto (-18), 3) := by decide +kernel
theorem dX10_layOdds_159 : decode cX10_layOdds 159 = .ok (.aload_n 0, 1) := by decide +kernel
theorem dX10_layOdds_160 : decode cX10_layOdds 160 = .ok (.aload_n 0, 1) := by decide +kernel
theorem dX10_layOdds_161 : decode cX10_layOdds 161 = .ok (.getfield 263, 3) := by decide +kernel
theorem dX10_layOdds_164 : decode cX10_layOdds 164 = .ok (.putfield 279, 3) := by decide +kernel
theorem dX10_layOdds_167 : decode cX10_layOdds 167 = .ok (.return_, 1) := by decide +kernel
def tX10_layOdds (g : ax_G) : Nat → ax_O := ax_nd 83 (ax_nd 38 (ax_nd 16 (ax_nd 6 (ax_nd 1 (ax_nd 0 (ax_lf 0 (ao_al 0 1)) (ax_lf 1 (ao_ic (-1) 1))) (ax_nd 2 (ax_lf 2 (ao_pi 10 33)) (ax_nd 5 (ax_lf 5 (ao_ic (0) 1)) (ax_lf 6 (ao_is 1 1))))) (ax_nd 9 (ax_nd 7 (ax_lf 7 (ao_il 1 1)) (ax_nd 8 (ax_lf 8 (ao_al 0 1)) (ax_lf 9 (ao_gi 10 27)))) (ax_nd 12 (ax_lf 12 (ao_icmp_ge 59)) (ax_nd 15 (ax_lf 15 (ao_al 0 1)) (ax_lf 16 (ao_al 0 1)))))) (ax_nd 28 (ax_nd 21 (ax_nd 17 (ax_lf 17 (ao_gi 10 33)) (ax_nd 20 (ax_lf 20 (ao_ic (-1) 1)) (ax_lf 21 (ao_icmp_eq 42)))) (ax_nd 24 (ax_lf 24 (ao_al 0 1)) (ax_nd 25 (ax_lf 25 (ao_gr 10 28)) (ax_lf 28 (ao_il 1 1))))) (ax_nd 31 (ax_nd 29 (ax_lf 29 ao_iald) (ax_nd 30 (ax_lf 30 (ao_al 0 1)) (ax_lf 31 (ao_gr 10 28)))) (ax_nd 34 (ax_lf 34 (ao_al 0 1)) (ax_nd 35 (ax_lf 35 (ao_gi 10 33)) (ax_lf 38 ao_iald)))))) (ax_nd 61 (ax_nd 47 (ax_nd 42 (ax_nd 39 (ax_lf 39 (ao_icmp_ge 46)) (ax_lf 42 (ao_il 1 1))) (ax_nd 43 (ax_lf 43 (ao_goto 50)) (ax_nd 46 (ax_lf 46 (ao_al 0 1)) (ax_lf 47 (ao_gi 10 33))))) (ax_nd 56 (ax_nd 50 (ax_lf 50 (ao_pi 10 33)) (ax_nd 53 (ax_lf 53 (ao_iinc 1 (1))) (ax_lf 56 (ao_goto 7)))) (ax_nd 59 (ax_lf 59 (ao_al 0 1)) (ax_nd 60 (ax_lf 60 (ao_ic (0) 1)) (ax_lf 61 (ao_pi 10 32)))))) (ax_nd 71 (ax_nd 66 (ax_nd 64 (ax_lf 64 (ao_ic (0) 1)) (ax_nd 65 (ax_lf 65 (ao_is 1 1)) (ax_lf 66 (ao_il 1 1)))) (ax_nd 67 (ax_lf 67 (ao_al 0 1)) (ax_nd 68 (ax_lf 68 (ao_gi 10 26)) (ax_lf 71 (ao_icmp_ge 129))))) (ax_nd 78 (ax_nd 74 (ax_lf 74 (ao_al 0 1)) (ax_nd 75 (ax_lf 75 (ao_gr 10 31)) (ax_lf 78 (ao_il 1 1)))) (ax_nd 79 (ax_lf 79 (ao_al 0 1)) (ax_nd 80 (ax_lf 80 (ao_gi 10 33)) (ax_lf 83 (ao_ic (-1) 1)))))))) (ax_nd 120 (ax_nd 102 (ax_nd 92 (ax_nd 87 (ax_nd 84 (ax_lf 84 (ao_icmp_ne 91)) (ax_lf 87 (ao_ic (1) 1))) (ax_nd 88 (ax_lf 88 (ao_goto 107)) (ax_nd 91 (ax_lf 91 (ao_al 0 1)) (ax_lf 92 (ao_ic (92) 2))))) (ax_nd 97 (ax_nd 94 (ax_lf 94 (ao_ic (12) 2)) (ax_nd 96 (ax_lf 96 (ao_al 0 1)) (ax_lf 97 (ao_gi 10 33)))) (ax_nd 100 (ax_lf 100 ao_imul) (ax_nd 101 (ax_lf 101 ao_iadd) (ax_lf 102 (ao_il 1 1)))))) (ax_nd 110 (ax_nd 107 (ax_nd 103 (ax_lf 103 ao_iadd) (ax_nd 104 (ax_lf 104 (ao_inv g 1 10 1 yX10_of cX10_of 2 (some .int) 2 0 0 0 0)) (ax_lf 107 ao_iast))) (ax_nd 108 (ax_lf 108 (ao_al 0 1)) (ax_nd 109 (ax_lf 109 ao_dup) (ax_lf 110 (ao_gi 10 32))))) (ax_nd 117 (ax_nd 113 (ax_lf 113 (ao_al 0 1)) (ax_nd 114 (ax_lf 114 (ao_gr 10 31)) (ax_lf 117 (ao_il 1 1)))) (ax_nd 118 (ax_lf 118 ao_iald) (ax_nd 119 (ax_lf 119 ao_iadd) (ax_lf 120 (ao_pi 10 32))))))) (ax_nd 143 (ax_nd 133 (ax_nd 126 (ax_nd 123 (ax_lf 123 (ao_iinc 1 (1))) (ax_lf 126 (ao_goto 66))) (ax_nd 129 (ax_lf 129 (ao_al 0 1)) (ax_nd 130 (ax_lf 130 (ao_gi 10 32)) (ax_lf 133 (ao_if_ne 167))))) (ax_nd 138 (ax_nd 136 (ax_lf 136 (ao_ic (0) 1)) (ax_nd 137 (ax_lf 137 (ao_is 1 1)) (ax_lf 138 (ao_il 1 1)))) (ax_nd 139 (ax_lf 139 (ao_al 0 1)) (ax_nd 140 (ax_lf 140 (ao_gi 10 26)) (ax_lf 143 (ao_icmp_ge 159)))))) (ax_nd 153 (ax_nd 150 (ax_nd 146 (ax_lf 146 (ao_al 0 1)) (ax_nd 147 (ax_lf 147 (ao_gr 10 31)) (ax_lf 150 (ao_il 1 1)))) (ax_nd 151 (ax_lf 151 (ao_ic (1) 1)) (ax_nd 152 (ax_lf 152 ao_iast) (ax_lf 153 (ao_iinc 1 (1)))))) (ax_nd 160 (ax_nd 156 (ax_lf 156 (ao_goto 138)) (ax_nd 159 (ax_lf 159 (ao_al 0 1)) (ax_lf 160 (ao_al 0 1)))) (ax_nd 161 (ax_lf 161 (ao_gi 10 26)) (ax_nd 164 (ax_lf 164 (ao_pi 10 32)) (ax_lf 167 (ao_vret 0 0))))))))
theorem oX10_layOdds (g : ax_G) : ∀ pc, ax_ok g cX10_layOdds 2 none RX10 "layOdds" 2 0 0 pc (tX10_layOdds g pc) := ax_nd_ok (ax_nd_ok (ax_nd_ok (ax_nd_ok (ax_nd_ok (ax_nd_ok (ax_lf_ok (ak_aload_n rfl dX10_layOdds_0)) (ax_lf_ok (ak_iconst (by decide) dX10_layOdds_1))) (ax_nd_ok (ax_lf_ok (ak_pi fF_X10_273 fW_X10_273_a dX10_layOdds_2)) (ax_nd_ok (ax_lf_ok (ak_iconst (by decide) dX10_layOdds_5)) (ax_lf_ok (ak_istore_n rfl (by decide) dX10_layOdds_6))))) (ax_nd_ok (ax_nd_ok (ax_lf_ok (ak_iload_n rfl dX10_layOdds_7)) (ax_nd_ok (ax_lf_ok (ak_aload_n rfl dX10_layOdds_8)) (ax_lf_ok (ak_gi fF_X10_276 dX10_layOdds_9)))) (ax_nd_ok (ax_lf_ok (ak_icmp_ge (by decide) dX10_layOdds_12)) (ax_nd_ok (ax_lf_ok (ak_aload_n rfl dX10_layOdds_15)) (ax_lf_ok (ak_aload_n rfl dX10_layOdds_16)))))) (ax_nd_ok (ax_nd_ok (ax_nd_ok (ax_lf_ok (ak_gi fF_X10_273 dX10_layOdds_17)) (ax_nd_ok (ax_lf_ok (ak_iconst (by decide) dX10_layOdds_20)) (ax_lf_ok (ak_icmp_eq (by decide) dX10_layOdds_21)))) (ax_nd_ok (ax_lf_ok (ak_aload_n rfl dX10_layOdds_24)) (ax_nd_ok (ax_lf_ok (ak_gr fF_X10_47 dX10_layOdds_25)) (ax_lf_ok (ak_iload_n rfl dX10_layOdds_28))))) (ax_nd_ok (ax_nd_ok (ax_lf_ok (ak_iald dX10_layOdds_29)) (ax_nd_ok (ax_lf_ok (ak_aload_n rfl dX10_layOdds_30)) (ax_lf_ok (ak_gr fF_X10_47 dX10_layOdds_31)))) (ax_nd_ok (ax_lf_ok (ak_aload_n rfl dX10_layOdds_34)) (ax_nd_ok (ax_lf_ok (ak_gi fF_X10_273 dX10_layOdds_35)) (ax_lf_ok (ak_iald dX10_layOdds_38))))))) (ax_nd_ok (ax_nd_ok (ax_nd_ok (ax_nd_ok (ax_lf_ok (ak_icmp_ge (by decide) dX10_layOdds_39)) (ax_lf_ok (ak_iload_n rfl dX10_layOdds_42))) (ax_nd_ok (ax_lf_ok (ak_goto (by decide) dX10_layOdds_43)) (ax_nd_ok (ax_lf_ok (ak_aload_n rfl dX10_layOdds_46)) (ax_lf_ok (ak_gi fF_X10_273 dX10_layOdds_47))))) (ax_nd_ok (ax_nd_ok (ax_lf_ok (ak_pi fF_X10_273 fW_X10_273_a dX10_layOdds_50)) (ax_nd_ok (ax_lf_ok (ak_iinc (by decide) (by decide) dX10_layOdds_53)) (ax_lf_ok (ak_goto (by decide) dX10_layOdds_56)))) (ax_nd_ok (ax_lf_ok (ak_aload_n rfl dX10_layOdds_59)) (ax_nd_ok (ax_lf_ok (ak_iconst (by decide) dX10_layOdds_60)) (ax_lf_ok (ak_pi fF_X10_279 fW_X10_279_a dX10_layOdds_61)))))) (ax_nd_ok (ax_nd_ok (ax_nd_ok (ax_lf_ok (ak_iconst (by decide) dX10_layOdds_64)) (ax_nd_ok (ax_lf_ok (ak_istore_n rfl (by decide) dX10_layOdds_65)) (ax_lf_ok (ak_iload_n rfl dX10_layOdds_66)))) (ax_nd_ok (ax_lf_ok (ak_aload_n rfl dX10_layOdds_67)) (ax_nd_ok (ax_lf_ok (ak_gi fF_X10_263 dX10_layOdds_68)) (ax_lf_ok (ak_icmp_ge (by decide) dX10_layOdds_71))))) (ax_nd_ok (ax_nd_ok (ax_lf_ok (ak_aload_n rfl dX10_layOdds_74)) (ax_nd_ok (ax_lf_ok (ak_gr fF_X10_56 dX10_layOdds_75)) (ax_lf_ok (ak_iload_n rfl dX10_layOdds_78)))) (ax_nd_ok (ax_lf_ok (ak_aload_n rfl dX10_layOdds_79)) (ax_nd_ok (ax_lf_ok (ak_gi fF_X10_273 dX10_layOdds_80)) (ax_lf_ok (ak_iconst (by decide) dX10_layOdds_83)))))))) (ax_nd_ok (ax_nd_ok (ax_nd_ok (ax_nd_ok (ax_nd_ok (ax_lf_ok (ak_icmp_ne (by decide) dX10_layOdds_84)) (ax_lf_ok (ak_iconst (by decide) dX10_layOdds_87))) (ax_nd_ok (ax_lf_ok (ak_goto (by decide) dX10_layOdds_88)) (ax_nd_ok (ax_lf_ok (ak_aload_n rfl dX10_layOdds_91)) (ax_lf_ok (ak_bipush (by decide) dX10_layOdds_92))))) (ax_nd_ok (ax_nd_ok (ax_lf_ok (ak_bipush (by decide) dX10_layOdds_94)) (ax_nd_ok (ax_lf_ok (ak_aload_n rfl dX10_layOdds_96)) (ax_lf_ok (ak_gi fF_X10_273 dX10_layOdds_97)))) (ax_nd_ok (ax_lf_ok (ak_imul dX10_layOdds_100)) (ax_nd_ok (ax_lf_ok (ak_iadd dX10_layOdds_101)) (ax_lf_ok (ak_iload_n rfl dX10_layOdds_102)))))) (ax_nd_ok (ax_nd_ok (ax_nd_ok (ax_lf_ok (ak_iadd dX10_layOdds_103)) (ax_nd_ok (ax_lf_ok (ak_invV (by decide) (by decide) (by decide) rfl wd_1360 wd_1362 wd_45 wd_106 wd_1363 ⟨by decide, by decide, by decide +kernel⟩ dX10_layOdds_104)) (ax_lf_ok (ak_iast dX10_layOdds_107)))) (ax_nd_ok (ax_lf_ok (ak_aload_n rfl dX10_layOdds_108)) (ax_nd_ok (ax_lf_ok (ak_dup dX10_layOdds_109)) (ax_lf_ok (ak_gi fF_X10_279 dX10_layOdds_110))))) (ax_nd_ok (ax_nd_ok (ax_lf_ok (ak_aload_n rfl dX10_layOdds_113)) (ax_nd_ok (ax_lf_ok (ak_gr fF_X10_56 dX10_layOdds_114)) (ax_lf_ok (ak_iload_n rfl dX10_layOdds_117)))) (ax_nd_ok (ax_lf_ok (ak_iald dX10_layOdds_118)) (ax_nd_ok (ax_lf_ok (ak_iadd dX10_layOdds_119)) (ax_lf_ok (ak_pi fF_X10_279 fW_X10_279_a dX10_layOdds_120))))))) (ax_nd_ok (ax_nd_ok (ax_nd_ok (ax_nd_ok (ax_lf_ok (ak_iinc (by decide) (by decide) dX10_layOdds_123)) (ax_lf_ok (ak_goto (by decide) dX10_layOdds_126))) (ax_nd_ok (ax_lf_ok (ak_aload_n rfl dX10_layOdds_129)) (ax_nd_ok (ax_lf_ok (ak_gi fF_X10_279 dX10_layOdds_130)) (ax_lf_ok (ak_if_ne (by decide) dX10_layOdds_133))))) (ax_nd_ok (ax_nd_ok (ax_lf_ok (ak_iconst (by decide) dX10_layOdds_136)) (ax_nd_ok (ax_lf_ok (ak_istore_n rfl (by decide) dX10_layOdds_137)) (ax_lf_ok (ak_iload_n rfl dX10_layOdds_138)))) (ax_nd_ok (ax_lf_ok (ak_aload_n rfl dX10_layOdds_139)) (ax_nd_ok (ax_lf_ok (ak_gi fF_X10_263 dX10_layOdds_140)) (ax_lf_ok (ak_icmp_ge (by decide) dX10_layOdds_143)))))) (ax_nd_ok (ax_nd_ok (ax_nd_ok (ax_lf_ok (ak_aload_n rfl dX10_layOdds_146)) (ax_nd_ok (ax_lf_ok (ak_gr fF_X10_56 dX10_layOdds_147)) (ax_lf_ok (ak_iload_n rfl dX10_layOdds_150)))) (ax_nd_ok (ax_lf_ok (ak_iconst (by decide) dX10_layOdds_151)) (ax_nd_ok (ax_lf_ok (ak_iast dX10_layOdds_152)) (ax_lf_ok (ak_iinc (by decide) (by decide) dX10_layOdds_153))))) (ax_nd_ok (ax_nd_ok (ax_lf_ok (ak_goto (by decide) dX10_layOdds_156)) (ax_nd_ok (ax_lf_ok (ak_aload_n rfl dX10_layOdds_159)) (ax_lf_ok (ak_aload_n rfl dX10_layOdds_160)))) (ax_nd_ok (ax_lf_ok (ak_gi fF_X10_263 dX10_layOdds_161)) (ax_nd_ok (ax_lf_ok (ak_pi fF_X10_279 fW_X10_279_a dX10_layOdds_164)) (ax_lf_ok (ak_vret rfl dX10_layOdds_167))))))))
abbrev mX10_layOdds (g : ax_G) (as : List Value) (h : ax_H) (Ret : Option Value → ax_H → Prop) : Prop := ax_M g 2 0 0 yX10_layOdds cX10_layOdds 2 none as h Ret
theorem dX10_hand_0 : decode cX10_hand 0 = .ok (.aload_n 0, 1) := by decide +kernel
theorem dX10_hand_1 : decode cX10_hand 1 = .ok (.iconst 0, 1) := by decide +kernel
theorem dX10_hand_2 : decode cX10_hand 2 = .ok (.iload_n 1, 1) := by decide +kernel
theorem dX10_hand_3 : decode cX10_hand 3 = .ok (.invokevirtual 234, 3) := by decide +kernel
theorem dX10_hand_6 : decode cX10_hand 6 = .ok (.ifCond .ne 5, 3) := by decide +kernel
theorem dX10_hand_9 : decode cX10_hand 9 = .ok (.iconst 0, 1) := by decide +kernel
theorem dX10_hand_10 : decode cX10_hand 10 = .ok (.ireturn, 1) := by decide +kernel
theorem dX10_hand_11 : decode cX10_hand 11 = .ok (.aload_n 0, 1) := by decide +kernel
theorem dX10_hand_12 : decode cX10_hand 12 = .ok (.iload_n 1, 1) := by decide +kernel
theorem dX10_hand_13 : decode cX10_hand 13 = .ok (.putfield 244, 3) := by decide +kernel
theorem dX10_hand_16 : decode cX10_hand 16 = .ok (.aload_n 0, 1) := by decide +kernel
theorem dX10_hand_17 : decode cX10_hand 17 = .ok (.aload_n 0, 1) := by decide +kernel
theorem dX10_hand_18 : decode cX10_hand 18 = .ok (.iconst 0, 1) := by decide +kernel
theorem dX10_hand_19 : decode cX10_hand 19 = .ok (.invokevirtual 253, 3) := by decide +kernel
theorem dX10_hand_22 : decode cX10_hand 22 = .ok (.putfield 263, 3) := by decide +kernel
theorem dX10_hand_25 : decode cX10_hand 25 = .ok (.aload_n 0, 1) := by decide +kernel
theorem dX10_hand_26 : decode cX10_hand 26 = .ok (.aload_n 0, 1) := by decide +kernel
theorem dX10_hand_27 : decode cX10_hand 27 = .ok (.iconst 1, 1) := by decide +kernel
theorem dX10_hand_28 : decode cX10_hand 28 = .ok (.invokevirtual 253, 3) := by decide +kernel
theorem dX10_hand_31 : decode cX10_hand 31 = .ok (.putfield 276, 3) := by decide +kernel
theorem dX10_hand_34 : decode cX10_hand 34 = .ok (.aload_n 0, 1) := by decide +kernel
theorem dX10_hand_35 : decode cX10_hand 35 = .ok (.iconst (-1), 1) := by decide +kernel
theorem dX10_hand_36 : decode cX10_hand 36 = .ok (.putfield 247, 3) := by decide +kernel
theorem dX10_hand_39 : decode cX10_hand 39 = .ok (.iconst 0, 1) := by decide +kernel
theorem dX10_hand_40 : decode cX10_hand 40 = .ok (.istore_n 2, 1) := by decide +kernel
theorem dX10_hand_41 : decode cX10_hand 41 = .ok (.iload_n 2, 1) := by decide +kernel
theorem dX10_hand_42 : decode cX10_hand 42 = .ok (.aload_n 0, 1) := by decide +kernel
theorem dX10_hand_43 : decode cX10_hand 43 = .ok (.getfield 276, 3) := by decide +kernel
theorem dX10_hand_46 : decode cX10_hand 46 = .ok (.if_icmp .ge 67, 3) := by decide +kernel
theorem dX10_hand_49 : decode cX10_hand 49 = .ok (.aload_n 0, 1) := by decide +kernel
theorem dX10_hand_50 : decode cX10_hand 50 = .ok (.getfield 47, 3) := by decide +kernel
theorem dX10_hand_53 : decode cX10_hand 53 = .ok (.iload_n 2, 1) := by decide +kernel
theorem dX10_hand_54 : decode cX10_hand 54 = .ok (.aload_n 0, 1) := by decide +kernel
theorem dX10_hand_55 : decode cX10_hand 55 = .ok (.iconst 2, 1) := by decide +kernel
theorem dX10_hand_56 : decode cX10_hand 56 = .ok (.iload_n 2, 1) := by decide +kernel
theorem dX10_hand_57 : decode cX10_hand 57 = .ok (.iadd, 1) := by decide +kernel
theorem dX10_hand_58 : decode cX10_hand 58 = .ok (.invokevirtual 253, 3) := by decide +kernel
theorem dX10_hand_61 : decode cX10_hand 61 = .ok (.iastore, 1) := by decide +kernel
theorem dX10_hand_62 : decode cX10_hand 62 = .ok (.iconst 0, 1) := by decide +kernel
theorem dX10_hand_63 : decode cX10_hand 63 = .ok (.istore_n 3, 1) := by decide +kernel
theorem dX10_hand_64 : decode cX10_hand 64 = .ok (.iload_n 3, 1) := by decide +kernel
theorem dX10_hand_65 : decode cX10_hand 65 = .ok (.aload_n 0, 1) := by decide +kernel
theorem dX10_hand_66 : decode cX10_hand 66 = .ok (.getfield 263, 3) := by decide +kernel
theorem dX10_hand_69 : decode cX10_hand 69 = .ok (.if_icmp .ge 33, 3) := by decide +kernel
theorem dX10_hand_72 : decode cX10_hand 72 = .ok (.aload_n 0, 1) := by decide +kernel
theorem dX10_hand_73 : decode cX10_hand 73 = .ok (.getfield 50, 3) := by decide +kernel
theorem dX10_hand_76 : decode cX10_hand 76 = .ok (.bipush 12, 2) := by decide +kernel
theorem dX10_hand_78 : decode cX10_hand 78 = .ok (.iload_n 2, 1) := by decide +kernel
theorem dX10_hand_79 : decode cX10_hand 79 = .ok (.imul, 1) := by decide +kernel
theorem dX10_hand_80 : decode cX10_hand 80 = .ok (.iload_n 3, 1) := by decide +kernel
theorem dX10_hand_81 : decode cX10_hand 81 = .ok (.iadd, 1) := by decide +kernel
theorem dX10_hand_82 : decode cX10_hand 82 = .ok (.aload_n 0, 1) := by decide +kernel
theorem dX10_hand_83 : decode cX10_hand 83 = .ok (.bipush 20, 2) := by decide +kernel
theorem dX10_hand_85 : decode cX10_hand 85 = .ok (.bipush 12, 2) := by decide +kernel
theorem dX10_hand_87 : decode cX10_hand 87 = .ok (.iload_n 2, 1) := by decide +kernel
theorem dX10_hand_88 : decode cX10_hand 88 = .ok (.imul, 1) := by decide +kernel
theorem dX10_hand_89 : decode cX10_hand 89 = .ok (.iadd, 1) := by decide +kernel
theorem dX10_hand_90 : decode cX10_hand 90 = .ok (.iload_n 3, 1) := by decide +kernel
theorem dX10_hand_91 : decode cX10_hand 91 = .ok (.iadd, 1) := by decide +kernel
theorem dX10_hand_92 : decode cX10_hand 92 = .ok (.invokevirtual 253, 3) := by decide +kernel
theorem dX10_hand_95 : decode cX10_hand 95 = .ok (.iastore, 1) := by decide +kernel
theorem dX10_hand_96 : decode cX10_hand 96 = .ok (.iinc 3 1, 3) := by decide +kernel
theorem dX10_hand_99 : decode cX10_hand 99 = .ok (.goto (-35), 3) := by decide +kernel
theorem dX10_hand_102 : decode cX10_hand 102 = .ok (.aload_n 0, 1) := by decide +kernel
theorem dX10_hand_103 : decode cX10_hand 103 = .ok (.iload_n 2, 1) := by decide +kernel
theorem dX10_hand_104 : decode cX10_hand 104 = .ok (.invokevirtual 282, 3) := by decide +kernel
theorem dX10_hand_107 : decode cX10_hand 107 = .ok (.iinc 2 1, 3) := by decide +kernel
theorem dX10_hand_110 : decode cX10_hand 110 = .ok (.goto (-69), 3) := by decide +kernel
theorem dX10_hand_113 : decode cX10_hand 113 = .ok (.aload_n 0, 1) := by decide +kernel
theorem dX10_hand_114 : decode cX10_hand 114 = .ok (.invokevirtual 285, 3) := by decide +kernel
theorem dX10_hand_117 : decode cX10_hand 117 = .ok (.iconst 1, 1) := by decide +kernel
theorem dX10_hand_118 : decode cX10_hand 118 = .ok (.ireturn, 1) := by decide +kernel
def tX10_hand (g : ax_G) : Nat → ax_O := ax_nd 57 (ax_nd 27 (ax_nd 12 (ax_nd 3 (ax_nd 1 (ax_nd 0 (ax_lf 0 (ao_al 0 1)) (ax_lf 1 (ao_ic (0) 1))) (ax_nd 2 (ax_lf 2 (ao_il 1 1)) (ax_lf 3 (ao_inv g 2 10 1 yX10_is cX10_is 3 (some .boolean) 3 0 0 0 0)))) (ax_nd 9 (ax_nd 6 (ax_lf 6 (ao_if_ne 11)) (ax_lf 9 (ao_ic (0) 1))) (ax_nd 10 (ax_lf 10 (ao_zret 0 0)) (ax_nd 11 (ax_lf 11 (ao_al 0 1)) (ax_lf 12 (ao_il 1 1)))))) (ax_nd 18 (ax_nd 16 (ax_nd 13 (ax_lf 13 (ao_pi 10 25)) (ax_lf 16 (ao_al 0 1))) (ax_nd 17 (ax_lf 17 (ao_al 0 1)) (ax_lf 18 (ao_ic (0) 1)))) (ax_nd 22 (ax_nd 19 (ax_lf 19 (ao_inv g 1 10 1 yX10_of cX10_of 2 (some .int) 2 0 0 0 0)) (ax_lf 22 (ao_pi 10 26))) (ax_nd 25 (ax_lf 25 (ao_al 0 1)) (ax_nd 26 (ax_lf 26 (ao_al 0 1)) (ax_lf 27 (ao_ic (1) 1))))))) (ax_nd 42 (ax_nd 35 (ax_nd 31 (ax_nd 28 (ax_lf 28 (ao_inv g 1 10 1 yX10_of cX10_of 2 (some .int) 2 0 0 0 0)) (ax_lf 31 (ao_pi 10 27))) (ax_nd 34 (ax_lf 34 (ao_al 0 1)) (ax_lf 35 (ao_ic (-1) 1)))) (ax_nd 39 (ax_nd 36 (ax_lf 36 (ao_pi 10 34)) (ax_lf 39 (ao_ic (0) 1))) (ax_nd 40 (ax_lf 40 (ao_is 2 1)) (ax_nd 41 (ax_lf 41 (ao_il 2 1)) (ax_lf 42 (ao_al 0 1)))))) (ax_nd 50 (ax_nd 46 (ax_nd 43 (ax_lf 43 (ao_gi 10 27)) (ax_lf 46 (ao_icmp_ge 113))) (ax_nd 49 (ax_lf 49 (ao_al 0 1)) (ax_lf 50 (ao_gr 10 28)))) (ax_nd 54 (ax_nd 53 (ax_lf 53 (ao_il 2 1)) (ax_lf 54 (ao_al 0 1))) (ax_nd 55 (ax_lf 55 (ao_ic (2) 1)) (ax_nd 56 (ax_lf 56 (ao_il 2 1)) (ax_lf 57 ao_iadd))))))) (ax_nd 85 (ax_nd 72 (ax_nd 63 (ax_nd 61 (ax_nd 58 (ax_lf 58 (ao_inv g 1 10 1 yX10_of cX10_of 2 (some .int) 2 0 0 0 0)) (ax_lf 61 ao_iast)) (ax_nd 62 (ax_lf 62 (ao_ic (0) 1)) (ax_lf 63 (ao_is 3 1)))) (ax_nd 65 (ax_nd 64 (ax_lf 64 (ao_il 3 1)) (ax_lf 65 (ao_al 0 1))) (ax_nd 66 (ax_lf 66 (ao_gi 10 26)) (ax_nd 69 (ax_lf 69 (ao_icmp_ge 102)) (ax_lf 72 (ao_al 0 1)))))) (ax_nd 79 (ax_nd 76 (ax_nd 73 (ax_lf 73 (ao_gr 10 29)) (ax_lf 76 (ao_ic (12) 2))) (ax_nd 78 (ax_lf 78 (ao_il 2 1)) (ax_lf 79 ao_imul))) (ax_nd 81 (ax_nd 80 (ax_lf 80 (ao_il 3 1)) (ax_lf 81 ao_iadd)) (ax_nd 82 (ax_lf 82 (ao_al 0 1)) (ax_nd 83 (ax_lf 83 (ao_ic (20) 2)) (ax_lf 85 (ao_ic (12) 2))))))) (ax_nd 99 (ax_nd 90 (ax_nd 88 (ax_nd 87 (ax_lf 87 (ao_il 2 1)) (ax_lf 88 ao_imul)) (ax_nd 89 (ax_lf 89 ao_iadd) (ax_lf 90 (ao_il 3 1)))) (ax_nd 92 (ax_nd 91 (ax_lf 91 ao_iadd) (ax_lf 92 (ao_inv g 1 10 1 yX10_of cX10_of 2 (some .int) 2 0 0 0 0))) (ax_nd 95 (ax_lf 95 ao_iast) (ax_nd 96 (ax_lf 96 (ao_iinc 3 (1))) (ax_lf 99 (ao_goto 64)))))) (ax_nd 107 (ax_nd 103 (ax_nd 102 (ax_lf 102 (ao_al 0 1)) (ax_lf 103 (ao_il 2 1))) (ax_nd 104 (ax_lf 104 (ao_inv g 5 10 0 yX10_layValues cX10_layValues 3 none 2 0 0 0 0)) (ax_lf 107 (ao_iinc 2 (1))))) (ax_nd 113 (ax_nd 110 (ax_lf 110 (ao_goto 41)) (ax_lf 113 (ao_al 0 1))) (ax_nd 114 (ax_lf 114 (ao_inv g 2 10 0 yX10_layOdds cX10_layOdds 2 none 1 0 0 0 0)) (ax_nd 117 (ax_lf 117 (ao_ic (1) 1)) (ax_lf 118 (ao_zret 0 0))))))))
theorem oX10_hand (g : ax_G) : ∀ pc, ax_ok g cX10_hand 4 (some .boolean) RX10 "hand" 6 0 0 pc (tX10_hand g pc) := ax_nd_ok (ax_nd_ok (ax_nd_ok (ax_nd_ok (ax_nd_ok (ax_nd_ok (ax_lf_ok (ak_aload_n rfl dX10_hand_0)) (ax_lf_ok (ak_iconst (by decide) dX10_hand_1))) (ax_nd_ok (ax_lf_ok (ak_iload_n rfl dX10_hand_2)) (ax_lf_ok (ak_invV (by decide) (by decide) (by decide) rfl wd_1251 wd_1253 wd_24 wd_106 wd_1254 ⟨by decide, by decide, by decide +kernel⟩ dX10_hand_3)))) (ax_nd_ok (ax_nd_ok (ax_lf_ok (ak_if_ne (by decide) dX10_hand_6)) (ax_lf_ok (ak_iconst (by decide) dX10_hand_9))) (ax_nd_ok (ax_lf_ok (ak_zret rfl dX10_hand_10)) (ax_nd_ok (ax_lf_ok (ak_aload_n rfl dX10_hand_11)) (ax_lf_ok (ak_iload_n rfl dX10_hand_12)))))) (ax_nd_ok (ax_nd_ok (ax_nd_ok (ax_lf_ok (ak_pi fF_X10_244 fW_X10_244_a dX10_hand_13)) (ax_lf_ok (ak_aload_n rfl dX10_hand_16))) (ax_nd_ok (ax_lf_ok (ak_aload_n rfl dX10_hand_17)) (ax_lf_ok (ak_iconst (by decide) dX10_hand_18)))) (ax_nd_ok (ax_nd_ok (ax_lf_ok (ak_invV (by decide) (by decide) (by decide) rfl wd_1360 wd_1362 wd_45 wd_106 wd_1363 ⟨by decide, by decide, by decide +kernel⟩ dX10_hand_19)) (ax_lf_ok (ak_pi fF_X10_263 fW_X10_263_a dX10_hand_22))) (ax_nd_ok (ax_lf_ok (ak_aload_n rfl dX10_hand_25)) (ax_nd_ok (ax_lf_ok (ak_aload_n rfl dX10_hand_26)) (ax_lf_ok (ak_iconst (by decide) dX10_hand_27))))))) (ax_nd_ok (ax_nd_ok (ax_nd_ok (ax_nd_ok (ax_lf_ok (ak_invV (by decide) (by decide) (by decide) rfl wd_1360 wd_1362 wd_45 wd_106 wd_1363 ⟨by decide, by decide, by decide +kernel⟩ dX10_hand_28)) (ax_lf_ok (ak_pi fF_X10_276 fW_X10_276_a dX10_hand_31))) (ax_nd_ok (ax_lf_ok (ak_aload_n rfl dX10_hand_34)) (ax_lf_ok (ak_iconst (by decide) dX10_hand_35)))) (ax_nd_ok (ax_nd_ok (ax_lf_ok (ak_pi fF_X10_247 fW_X10_247_a dX10_hand_36)) (ax_lf_ok (ak_iconst (by decide) dX10_hand_39))) (ax_nd_ok (ax_lf_ok (ak_istore_n rfl (by decide) dX10_hand_40)) (ax_nd_ok (ax_lf_ok (ak_iload_n rfl dX10_hand_41)) (ax_lf_ok (ak_aload_n rfl dX10_hand_42)))))) (ax_nd_ok (ax_nd_ok (ax_nd_ok (ax_lf_ok (ak_gi fF_X10_276 dX10_hand_43)) (ax_lf_ok (ak_icmp_ge (by decide) dX10_hand_46))) (ax_nd_ok (ax_lf_ok (ak_aload_n rfl dX10_hand_49)) (ax_lf_ok (ak_gr fF_X10_47 dX10_hand_50)))) (ax_nd_ok (ax_nd_ok (ax_lf_ok (ak_iload_n rfl dX10_hand_53)) (ax_lf_ok (ak_aload_n rfl dX10_hand_54))) (ax_nd_ok (ax_lf_ok (ak_iconst (by decide) dX10_hand_55)) (ax_nd_ok (ax_lf_ok (ak_iload_n rfl dX10_hand_56)) (ax_lf_ok (ak_iadd dX10_hand_57)))))))) (ax_nd_ok (ax_nd_ok (ax_nd_ok (ax_nd_ok (ax_nd_ok (ax_lf_ok (ak_invV (by decide) (by decide) (by decide) rfl wd_1360 wd_1362 wd_45 wd_106 wd_1363 ⟨by decide, by decide, by decide +kernel⟩ dX10_hand_58)) (ax_lf_ok (ak_iast dX10_hand_61))) (ax_nd_ok (ax_lf_ok (ak_iconst (by decide) dX10_hand_62)) (ax_lf_ok (ak_istore_n rfl (by decide) dX10_hand_63)))) (ax_nd_ok (ax_nd_ok (ax_lf_ok (ak_iload_n rfl dX10_hand_64)) (ax_lf_ok (ak_aload_n rfl dX10_hand_65))) (ax_nd_ok (ax_lf_ok (ak_gi fF_X10_263 dX10_hand_66)) (ax_nd_ok (ax_lf_ok (ak_icmp_ge (by decide) dX10_hand_69)) (ax_lf_ok (ak_aload_n rfl dX10_hand_72)))))) (ax_nd_ok (ax_nd_ok (ax_nd_ok (ax_lf_ok (ak_gr fF_X10_50 dX10_hand_73)) (ax_lf_ok (ak_bipush (by decide) dX10_hand_76))) (ax_nd_ok (ax_lf_ok (ak_iload_n rfl dX10_hand_78)) (ax_lf_ok (ak_imul dX10_hand_79)))) (ax_nd_ok (ax_nd_ok (ax_lf_ok (ak_iload_n rfl dX10_hand_80)) (ax_lf_ok (ak_iadd dX10_hand_81))) (ax_nd_ok (ax_lf_ok (ak_aload_n rfl dX10_hand_82)) (ax_nd_ok (ax_lf_ok (ak_bipush (by decide) dX10_hand_83)) (ax_lf_ok (ak_bipush (by decide) dX10_hand_85))))))) (ax_nd_ok (ax_nd_ok (ax_nd_ok (ax_nd_ok (ax_lf_ok (ak_iload_n rfl dX10_hand_87)) (ax_lf_ok (ak_imul dX10_hand_88))) (ax_nd_ok (ax_lf_ok (ak_iadd dX10_hand_89)) (ax_lf_ok (ak_iload_n rfl dX10_hand_90)))) (ax_nd_ok (ax_nd_ok (ax_lf_ok (ak_iadd dX10_hand_91)) (ax_lf_ok (ak_invV (by decide) (by decide) (by decide) rfl wd_1360 wd_1362 wd_45 wd_106 wd_1363 ⟨by decide, by decide, by decide +kernel⟩ dX10_hand_92))) (ax_nd_ok (ax_lf_ok (ak_iast dX10_hand_95)) (ax_nd_ok (ax_lf_ok (ak_iinc (by decide) (by decide) dX10_hand_96)) (ax_lf_ok (ak_goto (by decide) dX10_hand_99)))))) (ax_nd_ok (ax_nd_ok (ax_nd_ok (ax_lf_ok (ak_aload_n rfl dX10_hand_102)) (ax_lf_ok (ak_iload_n rfl dX10_hand_103))) (ax_nd_ok (ax_lf_ok (ak_invV (by decide) (by decide) (by decide) rfl wd_1364 wd_1366 wd_46 wd_106 wd_1367 ⟨by decide, by decide, by decide +kernel⟩ dX10_hand_104)) (ax_lf_ok (ak_iinc (by decide) (by decide) dX10_hand_107)))) (ax_nd_ok (ax_nd_ok (ax_lf_ok (ak_goto (by decide) dX10_hand_110)) (ax_lf_ok (ak_aload_n rfl dX10_hand_113))) (ax_nd_ok (ax_lf_ok (ak_invV (by decide) (by decide) (by decide) rfl wd_1383 wd_1385 wd_50 wd_106 wd_1386 ⟨by decide, by decide, by decide +kernel⟩ dX10_hand_114)) (ax_nd_ok (ax_lf_ok (ak_iconst (by decide) dX10_hand_117)) (ax_lf_ok (ak_zret rfl dX10_hand_118))))))))
abbrev mX10_hand (g : ax_G) (as : List Value) (h : ax_H) (Ret : Option Value → ax_H → Prop) : Prop := ax_M g 6 0 0 yX10_hand cX10_hand 4 (some .boolean) as h Ret
theorem dX10_isOne_0 : decode cX10_isOne 0 = .ok (.iload_n 1, 1) := by decide +kernel
theorem dX10_isOne_1 : decode cX10_isOne 1 = .ok (.iconst 0, 1) := by decide +kernel
theorem dX10_isOne_2 : decode cX10_isOne 2 = .ok (.aload_n 0, 1) := by decide +kernel
theorem dX10_isOne_3 : decode cX10_isOne 3 = .ok (.getfield 276, 3) := by decide +kernel
theorem dX10_isOne_6 : decode cX10_isOne 6 = .ok (.iconst 1, 1) := by decide +kernel
theorem dX10_isOne_7 : decode cX10_isOne 7 = .ok (.isub, 1) := by decide +kernel
theorem dX10_isOne_8 : decode cX10_isOne 8 = .ok (.invokestatic 96, 3) := by decide +kernel
theorem dX10_isOne_11 : decode cX10_isOne 11 = .ok (.ireturn, 1) := by decide +kernel
def tX10_isOne (g : ax_G) : Nat → ax_O := ax_nd 3 (ax_nd 1 (ax_nd 0 (ax_lf 0 (ao_il 1 1)) (ax_lf 1 (ao_ic (0) 1))) (ax_nd 2 (ax_lf 2 (ao_al 0 1)) (ax_lf 3 (ao_gi 10 27)))) (ax_nd 7 (ax_nd 6 (ax_lf 6 (ao_ic (1) 1)) (ax_lf 7 ao_isub)) (ax_nd 8 (ax_lf 8 (ao_inv g 1 99 1 yX10_in cX10_in 3 (some .boolean) 3 0 0 0 0)) (ax_lf 11 (ao_zret 0 0))))
theorem oX10_isOne (g : ax_G) : ∀ pc, ax_ok g cX10_isOne 2 (some .boolean) RX10 "isOne" 2 0 0 pc (tX10_isOne g pc) := ax_nd_ok (ax_nd_ok (ax_nd_ok (ax_lf_ok (ak_iload_n rfl dX10_isOne_0)) (ax_lf_ok (ak_iconst (by decide) dX10_isOne_1))) (ax_nd_ok (ax_lf_ok (ak_aload_n rfl dX10_isOne_2)) (ax_lf_ok (ak_gi fF_X10_276 dX10_isOne_3)))) (ax_nd_ok (ax_nd_ok (ax_lf_ok (ak_iconst (by decide) dX10_isOne_6)) (ax_lf_ok (ak_isub dX10_isOne_7))) (ax_nd_ok (ax_lf_ok (ak_invS (by decide) (by decide) wd_1244 wd_1245 wd_106 wd_1246 ⟨by decide, by decide, by decide +kernel⟩ dX10_isOne_8)) (ax_lf_ok (ak_zret rfl dX10_isOne_11))))
abbrev mX10_isOne (g : ax_G) (as : List Value) (h : ax_H) (Ret : Option Value → ax_H → Prop) : Prop := ax_M g 2 0 0 yX10_isOne cX10_isOne 2 (some .boolean) as h Ret
theorem dX10_isHour_0 : decode cX10_isHour 0 = .ok (.iload_n 1, 1) := by decide +kernel
theorem dX10_isHour_1 : decode cX10_isHour 1 = .ok (.iconst 0, 1) := by decide +kernel
theorem dX10_isHour_2 : decode cX10_isHour 2 = .ok (.aload_n 0, 1) := by decide +kernel
theorem dX10_isHour_3 : decode cX10_isHour 3 = .ok (.getfield 263, 3) := by decide +kernel
theorem dX10_isHour_6 : decode cX10_isHour 6 = .ok (.iconst 1, 1) := by decide +kernel
theorem dX10_isHour_7 : decode cX10_isHour 7 = .ok (.isub, 1) := by decide +kernel
theorem dX10_isHour_8 : decode cX10_isHour 8 = .ok (.invokestatic 96, 3) := by decide +kernel
theorem dX10_isHour_11 : decode cX10_isHour 11 = .ok (.ireturn, 1) := by decide +kernel
def tX10_isHour (g : ax_G) : Nat → ax_O := ax_nd 3 (ax_nd 1 (ax_nd 0 (ax_lf 0 (ao_il 1 1)) (ax_lf 1 (ao_ic (0) 1))) (ax_nd 2 (ax_lf 2 (ao_al 0 1)) (ax_lf 3 (ao_gi 10 26)))) (ax_nd 7 (ax_nd 6 (ax_lf 6 (ao_ic (1) 1)) (ax_lf 7 ao_isub)) (ax_nd 8 (ax_lf 8 (ao_inv g 1 99 1 yX10_in cX10_in 3 (some .boolean) 3 0 0 0 0)) (ax_lf 11 (ao_zret 0 0))))
theorem oX10_isHour (g : ax_G) : ∀ pc, ax_ok g cX10_isHour 2 (some .boolean) RX10 "isHour" 2 0 0 pc (tX10_isHour g pc) := ax_nd_ok (ax_nd_ok (ax_nd_ok (ax_lf_ok (ak_iload_n rfl dX10_isHour_0)) (ax_lf_ok (ak_iconst (by decide) dX10_isHour_1))) (ax_nd_ok (ax_lf_ok (ak_aload_n rfl dX10_isHour_2)) (ax_lf_ok (ak_gi fF_X10_263 dX10_isHour_3)))) (ax_nd_ok (ax_nd_ok (ax_lf_ok (ak_iconst (by decide) dX10_isHour_6)) (ax_lf_ok (ak_isub dX10_isHour_7))) (ax_nd_ok (ax_lf_ok (ak_invS (by decide) (by decide) wd_1244 wd_1245 wd_106 wd_1246 ⟨by decide, by decide, by decide +kernel⟩ dX10_isHour_8)) (ax_lf_ok (ak_zret rfl dX10_isHour_11))))
abbrev mX10_isHour (g : ax_G) (as : List Value) (h : ax_H) (Ret : Option Value → ax_H → Prop) : Prop := ax_M g 2 0 0 yX10_isHour cX10_isHour 2 (some .boolean) as h Ret
theorem dX10_handOne_0 : decode cX10_handOne 0 = .ok (.aload_n 0, 1) := by decide +kernel
theorem dX10_handOne_1 : decode cX10_handOne 1 = .ok (.iload_n 1, 1) := by decide +kernel
theorem dX10_handOne_2 : decode cX10_handOne 2 = .ok (.invokevirtual 288, 3) := by decide +kernel
theorem dX10_handOne_5 : decode cX10_handOne 5 = .ok (.ifCond .eq 15, 3) := by decide +kernel
theorem dX10_handOne_8 : decode cX10_handOne 8 = .ok (.aload_n 0, 1) := by decide +kernel
theorem dX10_handOne_9 : decode cX10_handOne 9 = .ok (.iload_n 2, 1) := by decide +kernel
theorem dX10_handOne_10 : decode cX10_handOne 10 = .ok (.invokevirtual 291, 3) := by decide +kernel
theorem dX10_handOne_13 : decode cX10_handOne 13 = .ok (.ifCond .eq 7, 3) := by decide +kernel
theorem dX10_handOne_16 : decode cX10_handOne 16 = .ok (.iconst 1, 1) := by decide +kernel
theorem dX10_handOne_17 : decode cX10_handOne 17 = .ok (.goto 4, 3) := by decide +kernel
theorem dX10_handOne_20 : decode cX10_handOne 20 = .ok (.iconst 0, 1) := by decide +kernel
theorem dX10_handOne_21 : decode cX10_handOne 21 = .ok (.ireturn, 1) := by decide +kernel
def tX10_handOne (g : ax_G) : Nat → ax_O := ax_nd 9 (ax_nd 2 (ax_nd 0 (ax_lf 0 (ao_al 0 1)) (ax_nd 1 (ax_lf 1 (ao_il 1 1)) (ax_lf 2 (ao_inv g 6 10 1 yX10_hand cX10_hand 4 (some .boolean) 2 0 0 0 0)))) (ax_nd 5 (ax_lf 5 (ao_if_eq 20)) (ax_nd 8 (ax_lf 8 (ao_al 0 1)) (ax_lf 9 (ao_il 2 1))))) (ax_nd 16 (ax_nd 10 (ax_lf 10 (ao_inv g 2 10 1 yX10_isOne cX10_isOne 2 (some .boolean) 2 0 0 0 0)) (ax_nd 13 (ax_lf 13 (ao_if_eq 20)) (ax_lf 16 (ao_ic (1) 1)))) (ax_nd 17 (ax_lf 17 (ao_goto 21)) (ax_nd 20 (ax_lf 20 (ao_ic (0) 1)) (ax_lf 21 (ao_zret 0 0)))))
theorem oX10_handOne (g : ax_G) : ∀ pc, ax_ok g cX10_handOne 3 (some .boolean) RX10 "handOne" 7 0 0 pc (tX10_handOne g pc) := ax_nd_ok (ax_nd_ok (ax_nd_ok (ax_lf_ok (ak_aload_n rfl dX10_handOne_0)) (ax_nd_ok (ax_lf_ok (ak_iload_n rfl dX10_handOne_1)) (ax_lf_ok (ak_invV (by decide) (by decide) (by decide) rfl wd_1356 wd_1358 wd_44 wd_106 wd_1359 ⟨by decide, by decide, by decide +kernel⟩ dX10_handOne_2)))) (ax_nd_ok (ax_lf_ok (ak_if_eq (by decide) dX10_handOne_5)) (ax_nd_ok (ax_lf_ok (ak_aload_n rfl dX10_handOne_8)) (ax_lf_ok (ak_iload_n rfl dX10_handOne_9))))) (ax_nd_ok (ax_nd_ok (ax_lf_ok (ak_invV (by decide) (by decide) (by decide) rfl wd_1395 wd_1397 wd_52 wd_106 wd_1398 ⟨by decide, by decide, by decide +kernel⟩ dX10_handOne_10)) (ax_nd_ok (ax_lf_ok (ak_if_eq (by decide) dX10_handOne_13)) (ax_lf_ok (ak_iconst (by decide) dX10_handOne_16)))) (ax_nd_ok (ax_lf_ok (ak_goto (by decide) dX10_handOne_17)) (ax_nd_ok (ax_lf_ok (ak_iconst (by decide) dX10_handOne_20)) (ax_lf_ok (ak_zret rfl dX10_handOne_21)))))
abbrev mX10_handOne (g : ax_G) (as : List Value) (h : ax_H) (Ret : Option Value → ax_H → Prop) : Prop := ax_M g 7 0 0 yX10_handOne cX10_handOne 3 (some .boolean) as h Ret
theorem dX10_republic_0 : decode cX10_republic 0 = .ok (.aload_n 0, 1) := by decide +kernel
theorem dX10_republic_1 : decode cX10_republic 1 = .ok (.iconst 0, 1) := by decide +kernel
theorem dX10_republic_2 : decode cX10_republic 2 = .ok (.putfield 88, 3) := by decide +kernel
theorem dX10_republic_5 : decode cX10_republic 5 = .ok (.aload_n 0, 1) := by decide +kernel
theorem dX10_republic_6 : decode cX10_republic 6 = .ok (.iload_n 1, 1) := by decide +kernel
theorem dX10_republic_7 : decode cX10_republic 7 = .ok (.invokevirtual 288, 3) := by decide +kernel
theorem dX10_republic_10 : decode cX10_republic 10 = .ok (.ifCond .ne 7, 3) := by decide +kernel
theorem dX10_republic_13 : decode cX10_republic 13 = .ok (.sipush (-1000), 3) := by decide +kernel
theorem dX10_republic_16 : decode cX10_republic 16 = .ok (.ireturn, 1) := by decide +kernel
theorem dX10_republic_17 : decode cX10_republic 17 = .ok (.iload_n 2, 1) := by decide +kernel
theorem dX10_republic_18 : decode cX10_republic 18 = .ok (.bipush 10, 2) := by decide +kernel
theorem dX10_republic_20 : decode cX10_republic 20 = .ok (.bipush 15, 2) := by decide +kernel
theorem dX10_republic_22 : decode cX10_republic 22 = .ok (.invokestatic 96, 3) := by decide +kernel
theorem dX10_republic_25 : decode cX10_republic 25 = .ok (.ifCond .ne 14, 3) := by decide +kernel
theorem dX10_republic_28 : decode cX10_republic 28 = .ok (.iload_n 2, 1) := by decide +kernel
theorem dX10_republic_29 : decode cX10_republic 29 = .ok (.bipush 20, 2) := by decide +kernel
theorem dX10_republic_31 : decode cX10_republic 31 = .ok (.bipush 25, 2) := by decide +kernel
theorem dX10_republic_33 : decode cX10_republic 33 = .ok (.invokestatic 96, 3) := by decide +kernel
theorem dX10_republic_36 : decode cX10_republic 36 = .ok (.ifCond .eq 31, 3) := by decide +kernel
theorem dX10_republic_39 : decode cX10_republic 39 = .ok (.aload_n 0, 1) := by decide +kernel
theorem dX10_republic_40 : decode cX10_republic 40 = .ok (.iload_n 2, 1) := by decide +kernel
theorem dX10_republic_41 : decode cX10_republic 41 = .ok (.bipush 20, 2) := by decide +kernel
theorem dX10_republic_43 : decode cX10_republic 43 = .ok (.if_icmp .ge 13, 3) := by decide +kernel
theorem dX10_republic_46 : decode cX10_republic 46 = .ok (.bipush 8, 2) := by decide +kernel
theorem dX10_republic_48 : decode cX10_republic 48 = .ok (.iload_n 2, 1) := by decide +kernel
theorem dX10_republic_49 : decode cX10_republic 49 = .ok (.iadd, 1) := by decide +kernel
theorem dX10_republic_50 : decode cX10_republic 50 = .ok (.bipush 10, 2) := by decide +kernel
theorem dX10_republic_52 : decode cX10_republic 52 = .ok (.isub, 1) := by decide +kernel
theorem dX10_republic_53 : decode cX10_republic 53 = .ok (.goto 10, 3) := by decide +kernel
theorem dX10_republic_56 : decode cX10_republic 56 = .ok (.bipush 14, 2) := by decide +kernel
theorem dX10_republic_58 : decode cX10_republic 58 = .ok (.iload_n 2, 1) := by decide +kernel
theorem dX10_republic_59 : decode cX10_republic 59 = .ok (.iadd, 1) := by decide +kernel
theorem dX10_republic_60 : decode cX10_republic 60 = .ok (.bipush 20, 2) := by decide +kernel
theorem dX10_republic_62 : decode cX10_republic 62 = .ok (.isub, 1) := by decide +kernel
theorem dX10_republic_63 : decode cX10_republic 63 = .ok (.invokevirtual 253, 3) := by decide +kernel
theorem dX10_republic_66 : decode cX10_republic 66 = .ok (.ireturn, 1) := by decide +kernel
theorem dX10_republic_67 : decode cX10_republic 67 = .ok (.iload_n 2, 1) := by decide +kernel
theorem dX10_republic_68 : decode cX10_republic 68 = .ok (.iconst 0, 1) := by decide +kernel
theorem dX10_republic_69 : decode cX10_republic 69 = .ok (.iconst 1, 1) := by decide +kernel
theorem dX10_republic_70 : decode cX10_republic 70 = .ok (.invokestatic 96, 3) := by decide +kernel
theorem dX10_republic_73 : decode cX10_republic 73 = .ok (.ifCond .eq 11, 3) := by decide +kernel
theorem dX10_republic_76 : decode cX10_republic 76 = .ok (.aload_n 0, 1) := by decide +kernel
theorem dX10_republic_77 : decode cX10_republic 77 = .ok (.iload_n 2, 1) := by decide +kernel
theorem dX10_republic_78 : decode cX10_republic 78 = .ok (.invokevirtual 253, 3) := by decide +kernel
theorem dX10_republic_81 : decode cX10_republic 81 = .ok (.goto 18, 3) := by decide +kernel
theorem dX10_republic_84 : decode cX10_republic 84 = .ok (.iload_n 2, 1) := by decide +kernel
theorem dX10_republic_85 : decode cX10_republic 85 = .ok (.iconst 2, 1) := by decide +kernel
theorem dX10_republic_86 : decode cX10_republic 86 = .ok (.if_icmp .ne 10, 3) := by decide +kernel
theorem dX10_republic_89 : decode cX10_republic 89 = .ok (.aload_n 0, 1) := by decide +kernel
theorem dX10_republic_90 : decode cX10_republic 90 = .ok (.getfield 273, 3) := by decide +kernel
theorem dX10_republic_93 : decode cX10_republic 93 = .ok (.goto 6, 3) := by decide +kernel
theorem dX10_republic_96 : decode cX10_republic 96 = .ok (.sipush (-1000), 3) := by decide +kernel
theorem dX10_republic_99 : decode cX10_republic 99 = .ok (.ireturn, 1) := by decide +kernel
def tX10_republic (g : ax_G) : Nat → ax_O := ax_nd 49 (ax_nd 22 (ax_nd 7 (ax_nd 2 (ax_nd 0 (ax_lf 0 (ao_al 0 1)) (ax_nd 1 (ax_lf 1 (ao_ic (0) 1)) (ax_lf 2 (ao_pi 10 0)))) (ax_nd 5 (ax_lf 5 (ao_al 0 1)) (ax_nd 6 (ax_lf 6 (ao_il 1 1)) (ax_lf 7 (ao_inv g 6 10 1 yX10_hand cX10_hand 4 (some .boolean) 2 0 0 0 0))))) (ax_nd 16 (ax_nd 10 (ax_lf 10 (ao_if_ne 17)) (ax_nd 13 (ax_lf 13 (ao_ic (-1000) 3)) (ax_lf 16 (ao_iret 0 0)))) (ax_nd 18 (ax_nd 17 (ax_lf 17 (ao_il 2 1)) (ax_lf 18 (ao_ic (10) 2))) (ax_nd 20 (ax_lf 20 (ao_ic (15) 2)) (ax_lf 22 (ao_inv g 1 99 1 yX10_in cX10_in 3 (some .boolean) 3 0 0 0 0)))))) (ax_nd 36 (ax_nd 29 (ax_nd 25 (ax_lf 25 (ao_if_ne 39)) (ax_nd 28 (ax_lf 28 (ao_il 2 1)) (ax_lf 29 (ao_ic (20) 2)))) (ax_nd 31 (ax_lf 31 (ao_ic (25) 2)) (ax_nd 33 (ax_lf 33 (ao_inv g 1 99 1 yX10_in cX10_in 3 (some .boolean) 3 0 0 0 0)) (ax_lf 36 (ao_if_eq 67))))) (ax_nd 41 (ax_nd 39 (ax_lf 39 (ao_al 0 1)) (ax_nd 40 (ax_lf 40 (ao_il 2 1)) (ax_lf 41 (ao_ic (20) 2)))) (ax_nd 46 (ax_nd 43 (ax_lf 43 (ao_icmp_ge 56)) (ax_lf 46 (ao_ic (8) 2))) (ax_nd 48 (ax_lf 48 (ao_il 2 1)) (ax_lf 49 ao_iadd)))))) (ax_nd 69 (ax_nd 59 (ax_nd 53 (ax_nd 50 (ax_lf 50 (ao_ic (10) 2)) (ax_nd 52 (ax_lf 52 ao_isub) (ax_lf 53 (ao_goto 63)))) (ax_nd 56 (ax_lf 56 (ao_ic (14) 2)) (ax_nd 58 (ax_lf 58 (ao_il 2 1)) (ax_lf 59 ao_iadd)))) (ax_nd 63 (ax_nd 60 (ax_lf 60 (ao_ic (20) 2)) (ax_nd 62 (ax_lf 62 ao_isub) (ax_lf 63 (ao_inv g 1 10 1 yX10_of cX10_of 2 (some .int) 2 0 0 0 0)))) (ax_nd 67 (ax_nd 66 (ax_lf 66 (ao_iret 0 0)) (ax_lf 67 (ao_il 2 1))) (ax_nd 68 (ax_lf 68 (ao_ic (0) 1)) (ax_lf 69 (ao_ic (1) 1)))))) (ax_nd 84 (ax_nd 76 (ax_nd 70 (ax_lf 70 (ao_inv g 1 99 1 yX10_in cX10_in 3 (some .boolean) 3 0 0 0 0)) (ax_nd 73 (ax_lf 73 (ao_if_eq 84)) (ax_lf 76 (ao_al 0 1)))) (ax_nd 78 (ax_nd 77 (ax_lf 77 (ao_il 2 1)) (ax_lf 78 (ao_inv g 1 10 1 yX10_of cX10_of 2 (some .int) 2 0 0 0 0))) (ax_nd 81 (ax_lf 81 (ao_goto 99)) (ax_lf 84 (ao_il 2 1))))) (ax_nd 89 (ax_nd 85 (ax_lf 85 (ao_ic (2) 1)) (ax_nd 86 (ax_lf 86 (ao_icmp_ne 96)) (ax_lf 89 (ao_al 0 1)))) (ax_nd 93 (ax_nd 90 (ax_lf 90 (ao_gi 10 33)) (ax_lf 93 (ao_goto 99))) (ax_nd 96 (ax_lf 96 (ao_ic (-1000) 3)) (ax_lf 99 (ao_iret 0 0)))))))
theorem oX10_republic (g : ax_G) : ∀ pc, ax_ok g cX10_republic 3 (some .int) RX10 "republic" 7 0 0 pc (tX10_republic g pc) := ax_nd_ok (ax_nd_ok (ax_nd_ok (ax_nd_ok (ax_nd_ok (ax_lf_ok (ak_aload_n rfl dX10_republic_0)) (ax_nd_ok (ax_lf_ok (ak_iconst (by decide) dX10_republic_1)) (ax_lf_ok (ak_pi fF_X10_88 fW_X10_88_a dX10_republic_2)))) (ax_nd_ok (ax_lf_ok (ak_aload_n rfl dX10_republic_5)) (ax_nd_ok (ax_lf_ok (ak_iload_n rfl dX10_republic_6)) (ax_lf_ok (ak_invV (by decide) (by decide) (by decide) rfl wd_1356 wd_1358 wd_44 wd_106 wd_1359 ⟨by decide, by decide, by decide +kernel⟩ dX10_republic_7))))) (ax_nd_ok (ax_nd_ok (ax_lf_ok (ak_if_ne (by decide) dX10_republic_10)) (ax_nd_ok (ax_lf_ok (ak_sipush (by decide) dX10_republic_13)) (ax_lf_ok (ak_iret rfl dX10_republic_16)))) (ax_nd_ok (ax_nd_ok (ax_lf_ok (ak_iload_n rfl dX10_republic_17)) (ax_lf_ok (ak_bipush (by decide) dX10_republic_18))) (ax_nd_ok (ax_lf_ok (ak_bipush (by decide) dX10_republic_20)) (ax_lf_ok (ak_invS (by decide) (by decide) wd_1244 wd_1245 wd_106 wd_1246 ⟨by decide, by decide, by decide +kernel⟩ dX10_republic_22)))))) (ax_nd_ok (ax_nd_ok (ax_nd_ok (ax_lf_ok (ak_if_ne (by decide) dX10_republic_25)) (ax_nd_ok (ax_lf_ok (ak_iload_n rfl dX10_republic_28)) (ax_lf_ok (ak_bipush (by decide) dX10_republic_29)))) (ax_nd_ok (ax_lf_ok (ak_bipush (by decide) dX10_republic_31)) (ax_nd_ok (ax_lf_ok (ak_invS (by decide) (by decide) wd_1244 wd_1245 wd_106 wd_1246 ⟨by decide, by decide, by decide +kernel⟩ dX10_republic_33)) (ax_lf_ok (ak_if_eq (by decide) dX10_republic_36))))) (ax_nd_ok (ax_nd_ok (ax_lf_ok (ak_aload_n rfl dX10_republic_39)) (ax_nd_ok (ax_lf_ok (ak_iload_n rfl dX10_republic_40)) (ax_lf_ok (ak_bipush (by decide) dX10_republic_41)))) (ax_nd_ok (ax_nd_ok (ax_lf_ok (ak_icmp_ge (by decide) dX10_republic_43)) (ax_lf_ok (ak_bipush (by decide) dX10_republic_46))) (ax_nd_ok (ax_lf_ok (ak_iload_n rfl dX10_republic_48)) (ax_lf_ok (ak_iadd dX10_republic_49))))))) (ax_nd_ok (ax_nd_ok (ax_nd_ok (ax_nd_ok (ax_lf_ok (ak_bipush (by decide) dX10_republic_50)) (ax_nd_ok (ax_lf_ok (ak_isub dX10_republic_52)) (ax_lf_ok (ak_goto (by decide) dX10_republic_53)))) (ax_nd_ok (ax_lf_ok (ak_bipush (by decide) dX10_republic_56)) (ax_nd_ok (ax_lf_ok (ak_iload_n rfl dX10_republic_58)) (ax_lf_ok (ak_iadd dX10_republic_59))))) (ax_nd_ok (ax_nd_ok (ax_lf_ok (ak_bipush (by decide) dX10_republic_60)) (ax_nd_ok (ax_lf_ok (ak_isub dX10_republic_62)) (ax_lf_ok (ak_invV (by decide) (by decide) (by decide) rfl wd_1360 wd_1362 wd_45 wd_106 wd_1363 ⟨by decide, by decide, by decide +kernel⟩ dX10_republic_63)))) (ax_nd_ok (ax_nd_ok (ax_lf_ok (ak_iret rfl dX10_republic_66)) (ax_lf_ok (ak_iload_n rfl dX10_republic_67))) (ax_nd_ok (ax_lf_ok (ak_iconst (by decide) dX10_republic_68)) (ax_lf_ok (ak_iconst (by decide) dX10_republic_69)))))) (ax_nd_ok (ax_nd_ok (ax_nd_ok (ax_lf_ok (ak_invS (by decide) (by decide) wd_1244 wd_1245 wd_106 wd_1246 ⟨by decide, by decide, by decide +kernel⟩ dX10_republic_70)) (ax_nd_ok (ax_lf_ok (ak_if_eq (by decide) dX10_republic_73)) (ax_lf_ok (ak_aload_n rfl dX10_republic_76)))) (ax_nd_ok (ax_nd_ok (ax_lf_ok (ak_iload_n rfl dX10_republic_77)) (ax_lf_ok (ak_invV (by decide) (by decide) (by decide) rfl wd_1360 wd_1362 wd_45 wd_106 wd_1363 ⟨by decide, by decide, by decide +kernel⟩ dX10_republic_78))) (ax_nd_ok (ax_lf_ok (ak_goto (by decide) dX10_republic_81)) (ax_lf_ok (ak_iload_n rfl dX10_republic_84))))) (ax_nd_ok (ax_nd_ok (ax_lf_ok (ak_iconst (by decide) dX10_republic_85)) (ax_nd_ok (ax_lf_ok (ak_icmp_ne (by decide) dX10_republic_86)) (ax_lf_ok (ak_aload_n rfl dX10_republic_89)))) (ax_nd_ok (ax_nd_ok (ax_lf_ok (ak_gi fF_X10_273 dX10_republic_90)) (ax_lf_ok (ak_goto (by decide) dX10_republic_93))) (ax_nd_ok (ax_lf_ok (ak_sipush (by decide) dX10_republic_96)) (ax_lf_ok (ak_iret rfl dX10_republic_99)))))))
abbrev mX10_republic (g : ax_G) (as : List Value) (h : ax_H) (Ret : Option Value → ax_H → Prop) : Prop := ax_M g 7 0 0 yX10_republic cX10_republic 3 (some .int) as h Ret
theorem dX10_person_0 : decode cX10_person 0 = .ok (.aload_n 0, 1) := by decide +kernel
theorem dX10_person_1 : decode cX10_person 1 = .ok (.iconst 0, 1) := by decide +kernel
theorem dX10_person_2 : decode cX10_person 2 = .ok (.putfield 88, 3) := by decide +kernel
theorem dX10_person_5 : decode cX10_person 5 = .ok (.aload_n 0, 1) := by decide +kernel
theorem dX10_person_6 : decode cX10_person 6 = .ok (.iload_n 1, 1) := by decide +kernel
theorem dX10_person_7 : decode cX10_person 7 = .ok (.iload_n 2, 1) := by decide +kernel
theorem dX10_person_8 : decode cX10_person 8 = .ok (.invokevirtual 294, 3) := by decide +kernel
theorem dX10_person_11 : decode cX10_person 11 = .ok (.ifCond .ne 6, 3) := by decide +kernel
theorem dX10_person_14 : decode cX10_person 14 = .ok (.bipush (-2), 2) := by decide +kernel
theorem dX10_person_16 : decode cX10_person 16 = .ok (.ireturn, 1) := by decide +kernel
theorem dX10_person_17 : decode cX10_person 17 = .ok (.iload_n 3, 1) := by decide +kernel
theorem dX10_person_18 : decode cX10_person 18 = .ok (.bipush 10, 2) := by decide +kernel
theorem dX10_person_20 : decode cX10_person 20 = .ok (.bipush 9, 2) := by decide +kernel
theorem dX10_person_22 : decode cX10_person 22 = .ok (.aload_n 0, 1) := by decide +kernel
theorem dX10_person_23 : decode cX10_person 23 = .ok (.getfield 263, 3) := by decide +kernel
theorem dX10_person_26 : decode cX10_person 26 = .ok (.iadd, 1) := by decide +kernel
theorem dX10_person_27 : decode cX10_person 27 = .ok (.invokestatic 96, 3) := by decide +kernel
theorem dX10_person_30 : decode cX10_person 30 = .ok (.ifCond .eq 20, 3) := by decide +kernel
theorem dX10_person_33 : decode cX10_person 33 = .ok (.aload_n 0, 1) := by decide +kernel
theorem dX10_person_34 : decode cX10_person 34 = .ok (.bipush 20, 2) := by decide +kernel
theorem dX10_person_36 : decode cX10_person 36 = .ok (.bipush 12, 2) := by decide +kernel
theorem dX10_person_38 : decode cX10_person 38 = .ok (.iload_n 2, 1) := by decide +kernel
theorem dX10_person_39 : decode cX10_person 39 = .ok (.imul, 1) := by decide +kernel
theorem dX10_person_40 : decode cX10_person 40 = .ok (.iadd, 1) := by decide +kernel
theorem dX10_person_41 : decode cX10_person 41 = .ok (.iload_n 3, 1) := by decide +kernel
theorem dX10_person_42 : decode cX10_person 42 = .ok (.iadd, 1) := by decide +kernel
theorem dX10_person_43 : decode cX10_person 43 = .ok (.bipush 10, 2) := by decide +kernel
theorem dX10_person_45 : decode cX10_person 45 = .ok (.isub, 1) := by decide +kernel
theorem dX10_person_46 : decode cX10_person 46 = .ok (.invokevirtual 253, 3) := by decide +kernel
theorem dX10_person_49 : decode cX10_person 49 = .ok (.ireturn, 1) := by decide +kernel
theorem dX10_person_50 : decode cX10_person 50 = .ok (.iload_n 3, 1) := by decide +kernel
theorem dX10_person_51 : decode cX10_person 51 = .ok (.ifCond .ne 12, 3) := by decide +kernel
theorem dX10_person_54 : decode cX10_person 54 = .ok (.aload_n 0, 1) := by decide +kernel
theorem dX10_person_55 : decode cX10_person 55 = .ok (.getfield 47, 3) := by decide +kernel
theorem dX10_person_58 : decode cX10_person 58 = .ok (.iload_n 2, 1) := by decide +kernel
theorem dX10_person_59 : decode cX10_person 59 = .ok (.iaload, 1) := by decide +kernel
theorem dX10_person_60 : decode cX10_person 60 = .ok (.goto 40, 3) := by decide +kernel
theorem dX10_person_63 : decode cX10_person 63 = .ok (.iload_n 3, 1) := by decide +kernel
theorem dX10_person_64 : decode cX10_person 64 = .ok (.bipush 30, 2) := by decide +kernel
theorem dX10_person_66 : decode cX10_person 66 = .ok (.bipush 29, 2) := by decide +kernel
theorem dX10_person_68 : decode cX10_person 68 = .ok (.aload_n 0, 1) := by decide +kernel
theorem dX10_person_69 : decode cX10_person 69 = .ok (.getfield 263, 3) := by decide +kernel
theorem dX10_person_72 : decode cX10_person 72 = .ok (.iadd, 1) := by decide +kernel
theorem dX10_person_73 : decode cX10_person 73 = .ok (.invokestatic 96, 3) := by decide +kernel
theorem dX10_person_76 : decode cX10_person 76 = .ok (.ifCond .eq 22, 3) := by decide +kernel
theorem dX10_person_79 : decode cX10_person 79 = .ok (.aload_n 0, 1) := by decide +kernel
theorem dX10_person_80 : decode cX10_person 80 = .ok (.bipush 92, 2) := by decide +kernel
theorem dX10_person_82 : decode cX10_person 82 = .ok (.bipush 12, 2) := by decide +kernel
theorem dX10_person_84 : decode cX10_person 84 = .ok (.iload_n 2, 1) := by decide +kernel
theorem dX10_person_85 : decode cX10_person 85 = .ok (.imul, 1) := by decide +kernel
theorem dX10_person_86 : decode cX10_person 86 = .ok (.iadd, 1) := by decide +kernel
theorem dX10_person_87 : decode cX10_person 87 = .ok (.iload_n 3, 1) := by decide +kernel
theorem dX10_person_88 : decode cX10_person 88 = .ok (.iadd, 1) := by decide +kernel
theorem dX10_person_89 : decode cX10_person 89 = .ok (.bipush 30, 2) := by decide +kernel
theorem dX10_person_91 : decode cX10_person 91 = .ok (.isub, 1) := by decide +kernel
theorem dX10_person_92 : decode cX10_person 92 = .ok (.invokevirtual 253, 3) := by decide +kernel
theorem dX10_person_95 : decode cX10_person 95 = .ok (.goto 5, 3) := by decide +kernel
theorem dX10_person_98 : decode cX10_person 98 = .ok (.bipush (-2), 2) := by decide +kernel
theorem dX10_person_100 : decode cX10_person 100 = .ok (.ireturn, 1) := by decide +kernel
def tX10_person (g : ax_G) : Nat → ax_O := ax_nd 46 (ax_nd 22 (ax_nd 8 (ax_nd 2 (ax_nd 0 (ax_lf 0 (ao_al 0 1)) (ax_nd 1 (ax_lf 1 (ao_ic (0) 1)) (ax_lf 2 (ao_pi 10 0)))) (ax_nd 6 (ax_nd 5 (ax_lf 5 (ao_al 0 1)) (ax_lf 6 (ao_il 1 1))) (ax_nd 7 (ax_lf 7 (ao_il 2 1)) (ax_lf 8 (ao_inv g 7 10 1 yX10_handOne cX10_handOne 3 (some .boolean) 3 0 0 0 0))))) (ax_nd 16 (ax_nd 11 (ax_lf 11 (ao_if_ne 17)) (ax_nd 14 (ax_lf 14 (ao_ic (-2) 2)) (ax_lf 16 (ao_iret 0 0)))) (ax_nd 18 (ax_nd 17 (ax_lf 17 (ao_il 3 1)) (ax_lf 18 (ao_ic (10) 2))) (ax_nd 20 (ax_lf 20 (ao_ic (9) 2)) (ax_lf 22 (ao_al 0 1)))))) (ax_nd 36 (ax_nd 27 (ax_nd 23 (ax_lf 23 (ao_gi 10 26)) (ax_nd 26 (ax_lf 26 ao_iadd) (ax_lf 27 (ao_inv g 1 99 1 yX10_in cX10_in 3 (some .boolean) 3 0 0 0 0)))) (ax_nd 33 (ax_nd 30 (ax_lf 30 (ao_if_eq 50)) (ax_lf 33 (ao_al 0 1))) (ax_nd 34 (ax_lf 34 (ao_ic (20) 2)) (ax_lf 36 (ao_ic (12) 2))))) (ax_nd 41 (ax_nd 39 (ax_nd 38 (ax_lf 38 (ao_il 2 1)) (ax_lf 39 ao_imul)) (ax_nd 40 (ax_lf 40 ao_iadd) (ax_lf 41 (ao_il 3 1)))) (ax_nd 43 (ax_nd 42 (ax_lf 42 ao_iadd) (ax_lf 43 (ao_ic (10) 2))) (ax_nd 45 (ax_lf 45 ao_isub) (ax_lf 46 (ao_inv g 1 10 1 yX10_of cX10_of 2 (some .int) 2 0 0 0 0))))))) (ax_nd 73 (ax_nd 59 (ax_nd 51 (ax_nd 49 (ax_lf 49 (ao_iret 0 0)) (ax_nd 50 (ax_lf 50 (ao_il 3 1)) (ax_lf 51 (ao_if_ne 63)))) (ax_nd 55 (ax_nd 54 (ax_lf 54 (ao_al 0 1)) (ax_lf 55 (ao_gr 10 28))) (ax_nd 58 (ax_lf 58 (ao_il 2 1)) (ax_lf 59 ao_iald)))) (ax_nd 66 (ax_nd 63 (ax_nd 60 (ax_lf 60 (ao_goto 100)) (ax_lf 63 (ao_il 3 1))) (ax_nd 64 (ax_lf 64 (ao_ic (30) 2)) (ax_lf 66 (ao_ic (29) 2)))) (ax_nd 69 (ax_nd 68 (ax_lf 68 (ao_al 0 1)) (ax_lf 69 (ao_gi 10 26))) (ax_nd 72 (ax_lf 72 ao_iadd) (ax_lf 73 (ao_inv g 1 99 1 yX10_in cX10_in 3 (some .boolean) 3 0 0 0 0)))))) (ax_nd 86 (ax_nd 80 (ax_nd 76 (ax_lf 76 (ao_if_eq 98)) (ax_nd 79 (ax_lf 79 (ao_al 0 1)) (ax_lf 80 (ao_ic (92) 2)))) (ax_nd 84 (ax_nd 82 (ax_lf 82 (ao_ic (12) 2)) (ax_lf 84 (ao_il 2 1))) (ax_nd 85 (ax_lf 85 ao_imul) (ax_lf 86 ao_iadd)))) (ax_nd 91 (ax_nd 88 (ax_nd 87 (ax_lf 87 (ao_il 3 1)) (ax_lf 88 ao_iadd)) (ax_nd 89 (ax_lf 89 (ao_ic (30) 2)) (ax_lf 91 ao_isub))) (ax_nd 95 (ax_nd 92 (ax_lf 92 (ao_inv g 1 10 1 yX10_of cX10_of 2 (some .int) 2 0 0 0 0)) (ax_lf 95 (ao_goto 100))) (ax_nd 98 (ax_lf 98 (ao_ic (-2) 2)) (ax_lf 100 (ao_iret 0 0)))))))
theorem oX10_person (g : ax_G) : ∀ pc, ax_ok g cX10_person 4 (some .int) RX10 "person" 8 0 0 pc (tX10_person g pc) := ax_nd_ok (ax_nd_ok (ax_nd_ok (ax_nd_ok (ax_nd_ok (ax_lf_ok (ak_aload_n rfl dX10_person_0)) (ax_nd_ok (ax_lf_ok (ak_iconst (by decide) dX10_person_1)) (ax_lf_ok (ak_pi fF_X10_88 fW_X10_88_a dX10_person_2)))) (ax_nd_ok (ax_nd_ok (ax_lf_ok (ak_aload_n rfl dX10_person_5)) (ax_lf_ok (ak_iload_n rfl dX10_person_6))) (ax_nd_ok (ax_lf_ok (ak_iload_n rfl dX10_person_7)) (ax_lf_ok (ak_invV (by decide) (by decide) (by decide) rfl wd_1391 wd_1393 wd_51 wd_106 wd_1394 ⟨by decide, by decide, by decide +kernel⟩ dX10_person_8))))) (ax_nd_ok (ax_nd_ok (ax_lf_ok (ak_if_ne (by decide) dX10_person_11)) (ax_nd_ok (ax_lf_ok (ak_bipush (by decide) dX10_person_14)) (ax_lf_ok (ak_iret rfl dX10_person_16)))) (ax_nd_ok (ax_nd_ok (ax_lf_ok (ak_iload_n rfl dX10_person_17)) (ax_lf_ok (ak_bipush (by decide) dX10_person_18))) (ax_nd_ok (ax_lf_ok (ak_bipush (by decide) dX10_person_20)) (ax_lf_ok (ak_aload_n rfl dX10_person_22)))))) (ax_nd_ok (ax_nd_ok (ax_nd_ok (ax_lf_ok (ak_gi fF_X10_263 dX10_person_23)) (ax_nd_ok (ax_lf_ok (ak_iadd dX10_person_26)) (ax_lf_ok (ak_invS (by decide) (by decide) wd_1244 wd_1245 wd_106 wd_1246 ⟨by decide, by decide, by decide +kernel⟩ dX10_person_27)))) (ax_nd_ok (ax_nd_ok (ax_lf_ok (ak_if_eq (by decide) dX10_person_30)) (ax_lf_ok (ak_aload_n rfl dX10_person_33))) (ax_nd_ok (ax_lf_ok (ak_bipush (by decide) dX10_person_34)) (ax_lf_ok (ak_bipush (by decide) dX10_person_36))))) (ax_nd_ok (ax_nd_ok (ax_nd_ok (ax_lf_ok (ak_iload_n rfl dX10_person_38)) (ax_lf_ok (ak_imul dX10_person_39))) (ax_nd_ok (ax_lf_ok (ak_iadd dX10_person_40)) (ax_lf_ok (ak_iload_n rfl dX10_person_41)))) (ax_nd_ok (ax_nd_ok (ax_lf_ok (ak_iadd dX10_person_42)) (ax_lf_ok (ak_bipush (by decide) dX10_person_43))) (ax_nd_ok (ax_lf_ok (ak_isub dX10_person_45)) (ax_lf_ok (ak_invV (by decide) (by decide) (by decide) rfl wd_1360 wd_1362 wd_45 wd_106 wd_1363 ⟨by decide, by decide, by decide +kernel⟩ dX10_person_46))))))) (ax_nd_ok (ax_nd_ok (ax_nd_ok (ax_nd_ok (ax_lf_ok (ak_iret rfl dX10_person_49)) (ax_nd_ok (ax_lf_ok (ak_iload_n rfl dX10_person_50)) (ax_lf_ok (ak_if_ne (by decide) dX10_person_51)))) (ax_nd_ok (ax_nd_ok (ax_lf_ok (ak_aload_n rfl dX10_person_54)) (ax_lf_ok (ak_gr fF_X10_47 dX10_person_55))) (ax_nd_ok (ax_lf_ok (ak_iload_n rfl dX10_person_58)) (ax_lf_ok (ak_iald dX10_person_59))))) (ax_nd_ok (ax_nd_ok (ax_nd_ok (ax_lf_ok (ak_goto (by decide) dX10_person_60)) (ax_lf_ok (ak_iload_n rfl dX10_person_63))) (ax_nd_ok (ax_lf_ok (ak_bipush (by decide) dX10_person_64)) (ax_lf_ok (ak_bipush (by decide) dX10_person_66)))) (ax_nd_ok (ax_nd_ok (ax_lf_ok (ak_aload_n rfl dX10_person_68)) (ax_lf_ok (ak_gi fF_X10_263 dX10_person_69))) (ax_nd_ok (ax_lf_ok (ak_iadd dX10_person_72)) (ax_lf_ok (ak_invS (by decide) (by decide) wd_1244 wd_1245 wd_106 wd_1246 ⟨by decide, by decide, by decide +kernel⟩ dX10_person_73)))))) (ax_nd_ok (ax_nd_ok (ax_nd_ok (ax_lf_ok (ak_if_eq (by decide) dX10_person_76)) (ax_nd_ok (ax_lf_ok (ak_aload_n rfl dX10_person_79)) (ax_lf_ok (ak_bipush (by decide) dX10_person_80)))) (ax_nd_ok (ax_nd_ok (ax_lf_ok (ak_bipush (by decide) dX10_person_82)) (ax_lf_ok (ak_iload_n rfl dX10_person_84))) (ax_nd_ok (ax_lf_ok (ak_imul dX10_person_85)) (ax_lf_ok (ak_iadd dX10_person_86))))) (ax_nd_ok (ax_nd_ok (ax_nd_ok (ax_lf_ok (ak_iload_n rfl dX10_person_87)) (ax_lf_ok (ak_iadd dX10_person_88))) (ax_nd_ok (ax_lf_ok (ak_bipush (by decide) dX10_person_89)) (ax_lf_ok (ak_isub dX10_person_91)))) (ax_nd_ok (ax_nd_ok (ax_lf_ok (ak_invV (by decide) (by decide) (by decide) rfl wd_1360 wd_1362 wd_45 wd_106 wd_1363 ⟨by decide, by decide, by decide +kernel⟩ dX10_person_92)) (ax_lf_ok (ak_goto (by decide) dX10_person_95))) (ax_nd_ok (ax_lf_ok (ak_bipush (by decide) dX10_person_98)) (ax_lf_ok (ak_iret rfl dX10_person_100)))))))
abbrev mX10_person (g : ax_G) (as : List Value) (h : ax_H) (Ret : Option Value → ax_H → Prop) : Prop := ax_M g 8 0 0 yX10_person cX10_person 4 (some .int) as h Ret
theorem dX10_allBy_0 : decode cX10_allBy 0 = .ok (.iconst 0, 1) := by decide +kernel
theorem dX10_allBy_1 : decode cX10_allBy 1 = .ok (.istore_n 2, 1) := by decide +kernel
theorem dX10_allBy_2 : decode cX10_allBy 2 = .ok (.iconst 0, 1) := by decide +kernel
theorem dX10_allBy_3 : decode cX10_allBy 3 = .ok (.istore_n 3, 1) := by decide +kernel
theorem dX10_allBy_4 : decode cX10_allBy 4 = .ok (.iload_n 3, 1) := by decide +kernel
theorem dX10_allBy_5 : decode cX10_allBy 5 = .ok (.aload_n 0, 1) := by decide +kernel
theorem dX10_allBy_6 : decode cX10_allBy 6 = .ok (.getfield 276, 3) := by decide +kernel
theorem dX10_allBy_9 : decode cX10_allBy 9 = .ok (.if_icmp .ge 23, 3) := by decide +kernel
theorem dX10_allBy_12 : decode cX10_allBy 12 = .ok (.iload_n 2, 1) := by decide +kernel
theorem dX10_allBy_13 : decode cX10_allBy 13 = .ok (.aload_n 0, 1) := by decide +kernel
theorem dX10_allBy_14 : decode cX10_allBy 14 = .ok (.getfield 53, 3) := by decide +kernel
theorem dX10_allBy_17 : decode cX10_allBy 17 = .ok (.bipush 12, 2) := by decide +kernel
theorem dX10_allBy_19 : decode cX10_allBy 19 = .ok (.iload_n 3, 1) := by decide +kernel
theorem dX10_allBy_20 : decode cX10_allBy 20 = .ok (.imul, 1) := by decide +kernel
theorem dX10_allBy_21 : decode cX10_allBy 21 = .ok (.iload_n 1, 1) := by decide +kernel
theorem dX10_allBy_22 : decode cX10_allBy 22 = .ok (.iadd, 1) := by decide +kernel
theorem dX10_allBy_23 : decode cX10_allBy 23 = .ok (.iaload, 1) := by decide +kernel
theorem dX10_allBy_24 : decode cX10_allBy 24 = .ok (.iadd, 1) := by decide +kernel
theorem dX10_allBy_25 : decode cX10_allBy 25 = .ok (.istore_n 2, 1) := by decide +kernel
theorem dX10_allBy_26 : decode cX10_allBy 26 = .ok (.iinc 3 1, 3) := by decide +kernel
theorem dX10_allBy_29 : decode cX10_allBy 29 = .ok (.goto (-25), 3) := by decide +kernel
theorem dX10_allBy_32 : decode cX10_allBy 32 = .ok (.iload_n 2, 1) := by decide +kernel
theorem dX10_allBy_33 : decode cX10_allBy 33 = .ok (.ireturn, 1) := by decide +kernel
def tX10_allBy (g : ax_G) : Nat → ax_O := ax_nd 14 (ax_nd 4 (ax_nd 1 (ax_nd 0 (ax_lf 0 (ao_ic (0) 1)) (ax_lf 1 (ao_is 2 1))) (ax_nd 2 (ax_lf 2 (ao_ic (0) 1)) (ax_nd 3 (ax_lf 3 (ao_is 3 1)) (ax_lf 4 (ao_il 3 1))))) (ax_nd 9 (ax_nd 5 (ax_lf 5 (ao_al 0 1)) (ax_nd 6 (ax_lf 6 (ao_gi 10 27)) (ax_lf 9 (ao_icmp_ge 32)))) (ax_nd 12 (ax_lf 12 (ao_il 2 1)) (ax_nd 13 (ax_lf 13 (ao_al 0 1)) (ax_lf 14 (ao_gr 10 30)))))) (ax_nd 23 (ax_nd 20 (ax_nd 17 (ax_lf 17 (ao_ic (12) 2)) (ax_nd 19 (ax_lf 19 (ao_il 3 1)) (ax_lf 20 ao_imul))) (ax_nd 21 (ax_lf 21 (ao_il 1 1)) (ax_nd 22 (ax_lf 22 ao_iadd) (ax_lf 23 ao_iald)))) (ax_nd 26 (ax_nd 24 (ax_lf 24 ao_iadd) (ax_nd 25 (ax_lf 25 (ao_is 2 1)) (ax_lf 26 (ao_iinc 3 (1))))) (ax_nd 29 (ax_lf 29 (ao_goto 4)) (ax_nd 32 (ax_lf 32 (ao_il 2 1)) (ax_lf 33 (ao_iret 0 0))))))
theorem oX10_allBy (g : ax_G) : ∀ pc, ax_ok g cX10_allBy 4 (some .int) RX10 "allBy" 1 0 0 pc (tX10_allBy g pc) := ax_nd_ok (ax_nd_ok (ax_nd_ok (ax_nd_ok (ax_lf_ok (ak_iconst (by decide) dX10_allBy_0)) (ax_lf_ok (ak_istore_n rfl (by decide) dX10_allBy_1))) (ax_nd_ok (ax_lf_ok (ak_iconst (by decide) dX10_allBy_2)) (ax_nd_ok (ax_lf_ok (ak_istore_n rfl (by decide) dX10_allBy_3)) (ax_lf_ok (ak_iload_n rfl dX10_allBy_4))))) (ax_nd_ok (ax_nd_ok (ax_lf_ok (ak_aload_n rfl dX10_allBy_5)) (ax_nd_ok (ax_lf_ok (ak_gi fF_X10_276 dX10_allBy_6)) (ax_lf_ok (ak_icmp_ge (by decide) dX10_allBy_9)))) (ax_nd_ok (ax_lf_ok (ak_iload_n rfl dX10_allBy_12)) (ax_nd_ok (ax_lf_ok (ak_aload_n rfl dX10_allBy_13)) (ax_lf_ok (ak_gr fF_X10_53 dX10_allBy_14)))))) (ax_nd_ok (ax_nd_ok (ax_nd_ok (ax_lf_ok (ak_bipush (by decide) dX10_allBy_17)) (ax_nd_ok (ax_lf_ok (ak_iload_n rfl dX10_allBy_19)) (ax_lf_ok (ak_imul dX10_allBy_20)))) (ax_nd_ok (ax_lf_ok (ak_iload_n rfl dX10_allBy_21)) (ax_nd_ok (ax_lf_ok (ak_iadd dX10_allBy_22)) (ax_lf_ok (ak_iald dX10_allBy_23))))) (ax_nd_ok (ax_nd_ok (ax_lf_ok (ak_iadd dX10_allBy_24)) (ax_nd_ok (ax_lf_ok (ak_istore_n rfl (by decide) dX10_allBy_25)) (ax_lf_ok (ak_iinc (by decide) (by decide) dX10_allBy_26)))) (ax_nd_ok (ax_lf_ok (ak_goto (by decide) dX10_allBy_29)) (ax_nd_ok (ax_lf_ok (ak_iload_n rfl dX10_allBy_32)) (ax_lf_ok (ak_iret rfl dX10_allBy_33))))))
abbrev mX10_allBy (g : ax_G) (as : List Value) (h : ax_H) (Ret : Option Value → ax_H → Prop) : Prop := ax_M g 1 0 0 yX10_allBy cX10_allBy 4 (some .int) as h Ret
theorem dX10_value_0 : decode cX10_value 0 = .ok (.aload_n 0, 1) := by decide +kernel
theorem dX10_value_1 : decode cX10_value 1 = .ok (.iconst 0, 1) := by decide +kernel
theorem dX10_value_2 : decode cX10_value 2 = .ok (.putfield 88, 3) := by decide +kernel
theorem dX10_value_5 : decode cX10_value 5 = .ok (.aload_n 0, 1) := by decide +kernel
theorem dX10_value_6 : decode cX10_value 6 = .ok (.iload_n 1, 1) := by decide +kernel
theorem dX10_value_7 : decode cX10_value 7 = .ok (.invokevirtual 288, 3) := by decide +kernel
theorem dX10_value_10 : decode cX10_value 10 = .ok (.ifCond .eq 24, 3) := by decide +kernel
theorem dX10_value_13 : decode cX10_value 13 = .ok (.aload_n 0, 1) := by decide +kernel
theorem dX10_value_14 : decode cX10_value 14 = .ok (.iload_n 3, 1) := by decide +kernel
theorem dX10_value_15 : decode cX10_value 15 = .ok (.invokevirtual 297, 3) := by decide +kernel
theorem dX10_value_18 : decode cX10_value 18 = .ok (.ifCond .eq 16, 3) := by decide +kernel
theorem dX10_value_21 : decode cX10_value 21 = .ok (.iload_n 2, 1) := by decide +kernel
theorem dX10_value_22 : decode cX10_value 22 = .ok (.iconst (-1), 1) := by decide +kernel
theorem dX10_value_23 : decode cX10_value 23 = .ok (.if_icmp .eq 15, 3) := by decide +kernel
theorem dX10_value_26 : decode cX10_value 26 = .ok (.aload_n 0, 1) := by decide +kernel
theorem dX10_value_27 : decode cX10_value 27 = .ok (.iload_n 2, 1) := by decide +kernel
theorem dX10_value_28 : decode cX10_value 28 = .ok (.invokevirtual 291, 3) := by decide +kernel
theorem dX10_value_31 : decode cX10_value 31 = .ok (.ifCond .ne 7, 3) := by decide +kernel
theorem dX10_value_34 : decode cX10_value 34 = .ok (.ldc_w 300, 3) := by decide +kernel
theorem dX10_value_37 : decode cX10_value 37 = .ok (.ireturn, 1) := by decide +kernel
theorem dX10_value_38 : decode cX10_value 38 = .ok (.iload_n 2, 1) := by decide +kernel
theorem dX10_value_39 : decode cX10_value 39 = .ok (.iconst (-1), 1) := by decide +kernel
theorem dX10_value_40 : decode cX10_value 40 = .ok (.if_icmp .ne 11, 3) := by decide +kernel
theorem dX10_value_43 : decode cX10_value 43 = .ok (.aload_n 0, 1) := by decide +kernel
theorem dX10_value_44 : decode cX10_value 44 = .ok (.iload_n 3, 1) := by decide +kernel
theorem dX10_value_45 : decode cX10_value 45 = .ok (.invokevirtual 301, 3) := by decide +kernel
theorem dX10_value_48 : decode cX10_value 48 = .ok (.goto 14, 3) := by decide +kernel
theorem dX10_value_51 : decode cX10_value 51 = .ok (.aload_n 0, 1) := by decide +kernel
theorem dX10_value_52 : decode cX10_value 52 = .ok (.getfield 53, 3) := by decide +kernel
theorem dX10_value_55 : decode cX10_value 55 = .ok (.bipush 12, 2) := by decide +kernel
theorem dX10_value_57 : decode cX10_value 57 = .ok (.iload_n 2, 1) := by decide +kernel
theorem dX10_value_58 : decode cX10_value 58 = .ok (.imul, 1) := by decide +kernel
theorem dX10_value_59 : decode cX10_value 59 = .ok (.iload_n 3, 1) := by decide +kernel
theorem dX10_value_60 : decode cX10_value 60 = .ok (.iadd, 1) := by decide +kernel
theorem dX10_value_61 : decode cX10_value 61 = .ok (.iaload, 1) := by decide +kernel
theorem dX10_value_62 : decode cX10_value 62 = .ok (.ireturn, 1) := by decide +kernel
def tX10_value (g : ax_G) : Nat → ax_O := ax_nd 31 (ax_nd 14 (ax_nd 5 (ax_nd 1 (ax_nd 0 (ax_lf 0 (ao_al 0 1)) (ax_lf 1 (ao_ic (0) 1))) (ax_nd 2 (ax_lf 2 (ao_pi 10 0)) (ax_lf 5 (ao_al 0 1)))) (ax_nd 7 (ax_nd 6 (ax_lf 6 (ao_il 1 1)) (ax_lf 7 (ao_inv g 6 10 1 yX10_hand cX10_hand 4 (some .boolean) 2 0 0 0 0))) (ax_nd 10 (ax_lf 10 (ao_if_eq 34)) (ax_nd 13 (ax_lf 13 (ao_al 0 1)) (ax_lf 14 (ao_il 3 1)))))) (ax_nd 22 (ax_nd 18 (ax_nd 15 (ax_lf 15 (ao_inv g 2 10 1 yX10_isHour cX10_isHour 2 (some .boolean) 2 0 0 0 0)) (ax_lf 18 (ao_if_eq 34))) (ax_nd 21 (ax_lf 21 (ao_il 2 1)) (ax_lf 22 (ao_ic (-1) 1)))) (ax_nd 26 (ax_nd 23 (ax_lf 23 (ao_icmp_eq 38)) (ax_lf 26 (ao_al 0 1))) (ax_nd 27 (ax_lf 27 (ao_il 2 1)) (ax_nd 28 (ax_lf 28 (ao_inv g 2 10 1 yX10_isOne cX10_isOne 2 (some .boolean) 2 0 0 0 0)) (ax_lf 31 (ao_if_ne 38))))))) (ax_nd 48 (ax_nd 39 (ax_nd 37 (ax_nd 34 (ax_lf 34 (ao_ic (-1000000) 3)) (ax_lf 37 (ao_iret 0 0))) (ax_nd 38 (ax_lf 38 (ao_il 2 1)) (ax_lf 39 (ao_ic (-1) 1)))) (ax_nd 43 (ax_nd 40 (ax_lf 40 (ao_icmp_ne 51)) (ax_lf 43 (ao_al 0 1))) (ax_nd 44 (ax_lf 44 (ao_il 3 1)) (ax_nd 45 (ax_lf 45 (ao_inv g 1 10 1 yX10_allBy cX10_allBy 4 (some .int) 2 0 0 0 0)) (ax_lf 48 (ao_goto 62)))))) (ax_nd 57 (ax_nd 52 (ax_nd 51 (ax_lf 51 (ao_al 0 1)) (ax_lf 52 (ao_gr 10 30))) (ax_nd 55 (ax_lf 55 (ao_ic (12) 2)) (ax_lf 57 (ao_il 2 1)))) (ax_nd 59 (ax_nd 58 (ax_lf 58 ao_imul) (ax_lf 59 (ao_il 3 1))) (ax_nd 60 (ax_lf 60 ao_iadd) (ax_nd 61 (ax_lf 61 ao_iald) (ax_lf 62 (ao_iret 0 0)))))))
theorem oX10_value (g : ax_G) : ∀ pc, ax_ok g cX10_value 4 (some .int) RX10 "value" 7 0 0 pc (tX10_value g pc) := ax_nd_ok (ax_nd_ok (ax_nd_ok (ax_nd_ok (ax_nd_ok (ax_lf_ok (ak_aload_n rfl dX10_value_0)) (ax_lf_ok (ak_iconst (by decide) dX10_value_1))) (ax_nd_ok (ax_lf_ok (ak_pi fF_X10_88 fW_X10_88_a dX10_value_2)) (ax_lf_ok (ak_aload_n rfl dX10_value_5)))) (ax_nd_ok (ax_nd_ok (ax_lf_ok (ak_iload_n rfl dX10_value_6)) (ax_lf_ok (ak_invV (by decide) (by decide) (by decide) rfl wd_1356 wd_1358 wd_44 wd_106 wd_1359 ⟨by decide, by decide, by decide +kernel⟩ dX10_value_7))) (ax_nd_ok (ax_lf_ok (ak_if_eq (by decide) dX10_value_10)) (ax_nd_ok (ax_lf_ok (ak_aload_n rfl dX10_value_13)) (ax_lf_ok (ak_iload_n rfl dX10_value_14)))))) (ax_nd_ok (ax_nd_ok (ax_nd_ok (ax_lf_ok (ak_invV (by decide) (by decide) (by decide) rfl wd_1403 wd_1405 wd_53 wd_106 wd_1406 ⟨by decide, by decide, by decide +kernel⟩ dX10_value_15)) (ax_lf_ok (ak_if_eq (by decide) dX10_value_18))) (ax_nd_ok (ax_lf_ok (ak_iload_n rfl dX10_value_21)) (ax_lf_ok (ak_iconst (by decide) dX10_value_22)))) (ax_nd_ok (ax_nd_ok (ax_lf_ok (ak_icmp_eq (by decide) dX10_value_23)) (ax_lf_ok (ak_aload_n rfl dX10_value_26))) (ax_nd_ok (ax_lf_ok (ak_iload_n rfl dX10_value_27)) (ax_nd_ok (ax_lf_ok (ak_invV (by decide) (by decide) (by decide) rfl wd_1395 wd_1397 wd_52 wd_106 wd_1398 ⟨by decide, by decide, by decide +kernel⟩ dX10_value_28)) (ax_lf_ok (ak_if_ne (by decide) dX10_value_31))))))) (ax_nd_ok (ax_nd_ok (ax_nd_ok (ax_nd_ok (ax_lf_ok (ak_ldcw wd_1407 dX10_value_34)) (ax_lf_ok (ak_iret rfl dX10_value_37))) (ax_nd_ok (ax_lf_ok (ak_iload_n rfl dX10_value_38)) (ax_lf_ok (ak_iconst (by decide) dX10_value_39)))) (ax_nd_ok (ax_nd_ok (ax_lf_ok (ak_icmp_ne (by decide) dX10_value_40)) (ax_lf_ok (ak_aload_n rfl dX10_value_43))) (ax_nd_ok (ax_lf_ok (ak_iload_n rfl dX10_value_44)) (ax_nd_ok (ax_lf_ok (ak_invV (by decide) (by decide) (by decide) rfl wd_1408 wd_1410 wd_54 wd_106 wd_1411 ⟨by decide, by decide, by decide +kernel⟩ dX10_value_45)) (ax_lf_ok (ak_goto (by decide) dX10_value_48)))))) (ax_nd_ok (ax_nd_ok (ax_nd_ok (ax_lf_ok (ak_aload_n rfl dX10_value_51)) (ax_lf_ok (ak_gr fF_X10_53 dX10_value_52))) (ax_nd_ok (ax_lf_ok (ak_bipush (by decide) dX10_value_55)) (ax_lf_ok (ak_iload_n rfl dX10_value_57)))) (ax_nd_ok (ax_nd_ok (ax_lf_ok (ak_imul dX10_value_58)) (ax_lf_ok (ak_iload_n rfl dX10_value_59))) (ax_nd_ok (ax_lf_ok (ak_iadd dX10_value_60)) (ax_nd_ok (ax_lf_ok (ak_iald dX10_value_61)) (ax_lf_ok (ak_iret rfl dX10_value_62)))))))
abbrev mX10_value (g : ax_G) (as : List Value) (h : ax_H) (Ret : Option Value → ax_H → Prop) : Prop := ax_M g 7 0 0 yX10_value cX10_value 4 (some .int) as h Ret
theorem dX10_common_0 : decode cX10_common 0 = .ok (.lload_n 0, 1) := by decide +kernel
theorem dX10_common_1 : decode cX10_common 1 = .ok (.lconst 0, 1) := by decide +kernel
theorem dX10_common_2 : decode cX10_common 2 = .ok (.lcmp, 1) := by decide +kernel
theorem dX10_common_3 : decode cX10_common 3 = .ok (.ifCond .ge 8, 3) := by decide +kernel
theorem dX10_common_6 : decode cX10_common 6 = .ok (.lload_n 0, 1) := by decide +kernel
theorem dX10_common_7 : decode cX10_common 7 = .ok (.lneg, 1) := by decide +kernel
theorem dX10_common_8 : decode cX10_common 8 = .ok (.goto 4, 3) := by decide +kernel
theorem dX10_common_11 : decode cX10_common 11 = .ok (.lload_n 0, 1) := by decide +kernel
theorem dX10_common_12 : decode cX10_common 12 = .ok (.lstore 4, 2) := by decide +kernel
theorem dX10_common_14 : decode cX10_common 14 = .ok (.lload_n 2, 1) := by decide +kernel
theorem dX10_common_15 : decode cX10_common 15 = .ok (.lstore 6, 2) := by decide +kernel
theorem dX10_common_17 : decode cX10_common 17 = .ok (.lload 6, 2) := by decide +kernel
theorem dX10_common_19 : decode cX10_common 19 = .ok (.lconst 0, 1) := by decide +kernel
theorem dX10_common_20 : decode cX10_common 20 = .ok (.lcmp, 1) := by decide +kernel
theorem dX10_common_21 : decode cX10_common 21 = .ok (.ifCond .eq 21, 3) := by decide +kernel
theorem dX10_common_24 : decode cX10_common 24 = .ok (.lload 4, 2) := by decide +kernel
theorem dX10_common_26 : decode cX10_common 26 = .ok (.lload 6, 2) := by decide +kernel
theorem dX10_common_28 : decode cX10_common 28 = .ok (.lrem, 1) := by decide +kernel
theorem dX10_common_29 : decode cX10_common 29 = .ok (.lstore 8, 2) := by decide +kernel
theorem dX10_common_31 : decode cX10_common 31 = .ok (.lload 6, 2) := by decide +kernel
theorem dX10_common_33 : decode cX10_common 33 = .ok (.lstore 4, 2) := by decide +kernel
theorem dX10_common_35 : decode cX10_common 35 = .ok (.lload 8, 2) := by decide +kernel
theorem dX10_common_37 : decode cX10_common 37 = .ok (.lstore 6, 2) := by decide +kernel
theorem dX10_common_39 : decode cX10_common 39 = .ok (.goto (-22), 3) := by decide +kernel
theorem dX10_common_42 : decode cX10_common 42 = .ok (.lload 4, 2) := by decide +kernel
theorem dX10_common_44 : decode cX10_common 44 = .ok (.lreturn, 1) := by decide +kernel
def tX10_common (g : ax_G) : Nat → ax_O := ax_nd 19 (ax_nd 7 (ax_nd 2 (ax_nd 0 (ax_lf 0 (ao_ll 0 1)) (ax_nd 1 (ax_lf 1 (ao_lc (0) 1)) (ax_lf 2 ao_lcmp))) (ax_nd 3 (ax_lf 3 (ao_if_ge 11)) (ax_nd 6 (ax_lf 6 (ao_ll 0 1)) (ax_lf 7 ao_lneg)))) (ax_nd 12 (ax_nd 8 (ax_lf 8 (ao_goto 12)) (ax_nd 11 (ax_lf 11 (ao_ll 0 1)) (ax_lf 12 (ao_ls 4 2)))) (ax_nd 15 (ax_nd 14 (ax_lf 14 (ao_ll 2 1)) (ax_lf 15 (ao_ls 6 2))) (ax_nd 17 (ax_lf 17 (ao_ll 6 2)) (ax_lf 19 (ao_lc (0) 1)))))) (ax_nd 29 (ax_nd 24 (ax_nd 20 (ax_lf 20 ao_lcmp) (ax_nd 21 (ax_lf 21 (ao_if_eq 42)) (ax_lf 24 (ao_ll 4 2)))) (ax_nd 26 (ax_lf 26 (ao_ll 6 2)) (ax_nd 28 (ax_lf 28 ao_lrem) (ax_lf 29 (ao_ls 8 2))))) (ax_nd 35 (ax_nd 31 (ax_lf 31 (ao_ll 6 2)) (ax_nd 33 (ax_lf 33 (ao_ls 4 2)) (ax_lf 35 (ao_ll 8 2)))) (ax_nd 39 (ax_nd 37 (ax_lf 37 (ao_ls 6 2)) (ax_lf 39 (ao_goto 17))) (ax_nd 42 (ax_lf 42 (ao_ll 4 2)) (ax_lf 44 (ao_lret 0 0))))))
theorem oX10_common (g : ax_G) : ∀ pc, ax_ok g cX10_common 10 (some .long) RX10 "common" 1 0 0 pc (tX10_common g pc) := ax_nd_ok (ax_nd_ok (ax_nd_ok (ax_nd_ok (ax_lf_ok (ak_lload_n rfl dX10_common_0)) (ax_nd_ok (ax_lf_ok (ak_lconst (by decide) dX10_common_1)) (ax_lf_ok (ak_lcmp dX10_common_2)))) (ax_nd_ok (ax_lf_ok (ak_if_ge (by decide) dX10_common_3)) (ax_nd_ok (ax_lf_ok (ak_lload_n rfl dX10_common_6)) (ax_lf_ok (ak_lneg dX10_common_7))))) (ax_nd_ok (ax_nd_ok (ax_lf_ok (ak_goto (by decide) dX10_common_8)) (ax_nd_ok (ax_lf_ok (ak_lload_n rfl dX10_common_11)) (ax_lf_ok (ak_lstore (by decide) dX10_common_12)))) (ax_nd_ok (ax_nd_ok (ax_lf_ok (ak_lload_n rfl dX10_common_14)) (ax_lf_ok (ak_lstore (by decide) dX10_common_15))) (ax_nd_ok (ax_lf_ok (ak_lload dX10_common_17)) (ax_lf_ok (ak_lconst (by decide) dX10_common_19)))))) (ax_nd_ok (ax_nd_ok (ax_nd_ok (ax_lf_ok (ak_lcmp dX10_common_20)) (ax_nd_ok (ax_lf_ok (ak_if_eq (by decide) dX10_common_21)) (ax_lf_ok (ak_lload dX10_common_24)))) (ax_nd_ok (ax_lf_ok (ak_lload dX10_common_26)) (ax_nd_ok (ax_lf_ok (ak_lrem dX10_common_28)) (ax_lf_ok (ak_lstore (by decide) dX10_common_29))))) (ax_nd_ok (ax_nd_ok (ax_lf_ok (ak_lload dX10_common_31)) (ax_nd_ok (ax_lf_ok (ak_lstore (by decide) dX10_common_33)) (ax_lf_ok (ak_lload dX10_common_35)))) (ax_nd_ok (ax_nd_ok (ax_lf_ok (ak_lstore (by decide) dX10_common_37)) (ax_lf_ok (ak_goto (by decide) dX10_common_39))) (ax_nd_ok (ax_lf_ok (ak_lload dX10_common_42)) (ax_lf_ok (ak_lret rfl dX10_common_44))))))
abbrev mX10_common (g : ax_G) (as : List Value) (h : ax_H) (Ret : Option Value → ax_H → Prop) : Prop := ax_M g 1 0 0 yX10_common cX10_common 10 (some .long) as h Ret
theorem dX10_part_0 : decode cX10_part 0 = .ok (.lload_n 0, 1) := by decide +kernel
theorem dX10_part_1 : decode cX10_part 1 = .ok (.lload_n 2, 1) := by decide +kernel
theorem dX10_part_2 : decode cX10_part 2 = .ok (.invokestatic 304, 3) := by decide +kernel
theorem dX10_part_5 : decode cX10_part 5 = .ok (.lstore 5, 2) := by decide +kernel
theorem dX10_part_7 : decode cX10_part 7 = .ok (.iload 4, 2) := by decide +kernel
theorem dX10_part_9 : decode cX10_part 9 = .ok (.ifCond .eq 10, 3) := by decide +kernel
theorem dX10_part_12 : decode cX10_part 12 = .ok (.lload_n 2, 1) := by decide +kernel
theorem dX10_part_13 : decode cX10_part 13 = .ok (.lload 5, 2) := by decide +kernel
theorem dX10_part_15 : decode cX10_part 15 = .ok (.ldiv, 1) := by decide +kernel
theorem dX10_part_16 : decode cX10_part 16 = .ok (.goto 7, 3) := by decide +kernel
theorem dX10_part_19 : decode cX10_part 19 = .ok (.lload_n 0, 1) := by decide +kernel
theorem dX10_part_20 : decode cX10_part 20 = .ok (.lload 5, 2) := by decide +kernel
theorem dX10_part_22 : decode cX10_part 22 = .ok (.ldiv, 1) := by decide +kernel
theorem dX10_part_23 : decode cX10_part 23 = .ok (.lreturn, 1) := by decide +kernel
def tX10_part (g : ax_G) : Nat → ax_O := ax_nd 12 (ax_nd 2 (ax_nd 0 (ax_lf 0 (ao_ll 0 1)) (ax_nd 1 (ax_lf 1 (ao_ll 2 1)) (ax_lf 2 (ao_inv g 1 99 2 yX10_common cX10_common 10 (some .long) 2 0 0 0 0)))) (ax_nd 7 (ax_nd 5 (ax_lf 5 (ao_ls 5 2)) (ax_lf 7 (ao_il 4 2))) (ax_nd 9 (ax_lf 9 (ao_if_eq 19)) (ax_lf 12 (ao_ll 2 1))))) (ax_nd 16 (ax_nd 13 (ax_lf 13 (ao_ll 5 2)) (ax_nd 15 (ax_lf 15 ao_ldiv) (ax_lf 16 (ao_goto 23)))) (ax_nd 20 (ax_nd 19 (ax_lf 19 (ao_ll 0 1)) (ax_lf 20 (ao_ll 5 2))) (ax_nd 22 (ax_lf 22 ao_ldiv) (ax_lf 23 (ao_lret 0 0)))))
theorem oX10_part (g : ax_G) : ∀ pc, ax_ok g cX10_part 7 (some .long) RX10 "part" 2 0 0 pc (tX10_part g pc) := ax_nd_ok (ax_nd_ok (ax_nd_ok (ax_lf_ok (ak_lload_n rfl dX10_part_0)) (ax_nd_ok (ax_lf_ok (ak_lload_n rfl dX10_part_1)) (ax_lf_ok (ak_invS (by decide) (by decide) wd_1419 wd_1420 wd_106 wd_1421 ⟨by decide, by decide, by decide +kernel⟩ dX10_part_2)))) (ax_nd_ok (ax_nd_ok (ax_lf_ok (ak_lstore (by decide) dX10_part_5)) (ax_lf_ok (ak_iload dX10_part_7))) (ax_nd_ok (ax_lf_ok (ak_if_eq (by decide) dX10_part_9)) (ax_lf_ok (ak_lload_n rfl dX10_part_12))))) (ax_nd_ok (ax_nd_ok (ax_lf_ok (ak_lload dX10_part_13)) (ax_nd_ok (ax_lf_ok (ak_ldiv dX10_part_15)) (ax_lf_ok (ak_goto (by decide) dX10_part_16)))) (ax_nd_ok (ax_nd_ok (ax_lf_ok (ak_lload_n rfl dX10_part_19)) (ax_lf_ok (ak_lload dX10_part_20))) (ax_nd_ok (ax_lf_ok (ak_ldiv dX10_part_22)) (ax_lf_ok (ak_lret rfl dX10_part_23)))))
abbrev mX10_part (g : ax_G) (as : List Value) (h : ax_H) (Ret : Option Value → ax_H → Prop) : Prop := ax_M g 2 0 0 yX10_part cX10_part 7 (some .long) as h Ret
theorem dX10_odds_0 : decode cX10_odds 0 = .ok (.aload_n 0, 1) := by decide +kernel
theorem dX10_odds_1 : decode cX10_odds 1 = .ok (.iconst 0, 1) := by decide +kernel
theorem dX10_odds_2 : decode cX10_odds 2 = .ok (.putfield 88, 3) := by decide +kernel
theorem dX10_odds_5 : decode cX10_odds 5 = .ok (.aload_n 0, 1) := by decide +kernel
theorem dX10_odds_6 : decode cX10_odds 6 = .ok (.iload_n 1, 1) := by decide +kernel
theorem dX10_odds_7 : decode cX10_odds 7 = .ok (.invokevirtual 288, 3) := by decide +kernel
theorem dX10_odds_10 : decode cX10_odds 10 = .ok (.ifCond .eq 31, 3) := by decide +kernel
theorem dX10_odds_13 : decode cX10_odds 13 = .ok (.aload_n 0, 1) := by decide +kernel
theorem dX10_odds_14 : decode cX10_odds 14 = .ok (.iload_n 2, 1) := by decide +kernel
theorem dX10_odds_15 : decode cX10_odds 15 = .ok (.invokevirtual 297, 3) := by decide +kernel
theorem dX10_odds_18 : decode cX10_odds 18 = .ok (.ifCond .eq 23, 3) := by decide +kernel
theorem dX10_odds_21 : decode cX10_odds 21 = .ok (.aload_n 0, 1) := by decide +kernel
theorem dX10_odds_22 : decode cX10_odds 22 = .ok (.getfield 56, 3) := by decide +kernel
theorem dX10_odds_25 : decode cX10_odds 25 = .ok (.iload_n 2, 1) := by decide +kernel
theorem dX10_odds_26 : decode cX10_odds 26 = .ok (.iaload, 1) := by decide +kernel
theorem dX10_odds_27 : decode cX10_odds 27 = .ok (.i2l, 1) := by decide +kernel
theorem dX10_odds_28 : decode cX10_odds 28 = .ok (.aload_n 0, 1) := by decide +kernel
theorem dX10_odds_29 : decode cX10_odds 29 = .ok (.getfield 279, 3) := by decide +kernel
theorem dX10_odds_32 : decode cX10_odds 32 = .ok (.i2l, 1) := by decide +kernel
theorem dX10_odds_33 : decode cX10_odds 33 = .ok (.iload_n 3, 1) := by decide +kernel
theorem dX10_odds_34 : decode cX10_odds 34 = .ok (.invokestatic 308, 3) := by decide +kernel
theorem dX10_odds_37 : decode cX10_odds 37 = .ok (.l2i, 1) := by decide +kernel
theorem dX10_odds_38 : decode cX10_odds 38 = .ok (.goto 4, 3) := by decide +kernel
theorem dX10_odds_41 : decode cX10_odds 41 = .ok (.iconst (-1), 1) := by decide +kernel
theorem dX10_odds_42 : decode cX10_odds 42 = .ok (.ireturn, 1) := by decide +kernel
def tX10_odds (g : ax_G) : Nat → ax_O := ax_nd 21 (ax_nd 7 (ax_nd 2 (ax_nd 0 (ax_lf 0 (ao_al 0 1)) (ax_nd 1 (ax_lf 1 (ao_ic (0) 1)) (ax_lf 2 (ao_pi 10 0)))) (ax_nd 5 (ax_lf 5 (ao_al 0 1)) (ax_nd 6 (ax_lf 6 (ao_il 1 1)) (ax_lf 7 (ao_inv g 6 10 1 yX10_hand cX10_hand 4 (some .boolean) 2 0 0 0 0))))) (ax_nd 14 (ax_nd 10 (ax_lf 10 (ao_if_eq 41)) (ax_nd 13 (ax_lf 13 (ao_al 0 1)) (ax_lf 14 (ao_il 2 1)))) (ax_nd 15 (ax_lf 15 (ao_inv g 2 10 1 yX10_isHour cX10_isHour 2 (some .boolean) 2 0 0 0 0)) (ax_nd 18 (ax_lf 18 (ao_if_eq 41)) (ax_lf 21 (ao_al 0 1)))))) (ax_nd 29 (ax_nd 26 (ax_nd 22 (ax_lf 22 (ao_gr 10 31)) (ax_nd 25 (ax_lf 25 (ao_il 2 1)) (ax_lf 26 ao_iald))) (ax_nd 27 (ax_lf 27 ao_i2l) (ax_nd 28 (ax_lf 28 (ao_al 0 1)) (ax_lf 29 (ao_gi 10 32))))) (ax_nd 34 (ax_nd 32 (ax_lf 32 ao_i2l) (ax_nd 33 (ax_lf 33 (ao_il 3 1)) (ax_lf 34 (ao_inv g 2 99 2 yX10_part cX10_part 7 (some .long) 3 0 0 0 0)))) (ax_nd 38 (ax_nd 37 (ax_lf 37 ao_l2i) (ax_lf 38 (ao_goto 42))) (ax_nd 41 (ax_lf 41 (ao_ic (-1) 1)) (ax_lf 42 (ao_iret 0 0))))))
theorem oX10_odds (g : ax_G) : ∀ pc, ax_ok g cX10_odds 4 (some .int) RX10 "odds" 7 0 0 pc (tX10_odds g pc) := ax_nd_ok (ax_nd_ok (ax_nd_ok (ax_nd_ok (ax_lf_ok (ak_aload_n rfl dX10_odds_0)) (ax_nd_ok (ax_lf_ok (ak_iconst (by decide) dX10_odds_1)) (ax_lf_ok (ak_pi fF_X10_88 fW_X10_88_a dX10_odds_2)))) (ax_nd_ok (ax_lf_ok (ak_aload_n rfl dX10_odds_5)) (ax_nd_ok (ax_lf_ok (ak_iload_n rfl dX10_odds_6)) (ax_lf_ok (ak_invV (by decide) (by decide) (by decide) rfl wd_1356 wd_1358 wd_44 wd_106 wd_1359 ⟨by decide, by decide, by decide +kernel⟩ dX10_odds_7))))) (ax_nd_ok (ax_nd_ok (ax_lf_ok (ak_if_eq (by decide) dX10_odds_10)) (ax_nd_ok (ax_lf_ok (ak_aload_n rfl dX10_odds_13)) (ax_lf_ok (ak_iload_n rfl dX10_odds_14)))) (ax_nd_ok (ax_lf_ok (ak_invV (by decide) (by decide) (by decide) rfl wd_1403 wd_1405 wd_53 wd_106 wd_1406 ⟨by decide, by decide, by decide +kernel⟩ dX10_odds_15)) (ax_nd_ok (ax_lf_ok (ak_if_eq (by decide) dX10_odds_18)) (ax_lf_ok (ak_aload_n rfl dX10_odds_21)))))) (ax_nd_ok (ax_nd_ok (ax_nd_ok (ax_lf_ok (ak_gr fF_X10_56 dX10_odds_22)) (ax_nd_ok (ax_lf_ok (ak_iload_n rfl dX10_odds_25)) (ax_lf_ok (ak_iald dX10_odds_26)))) (ax_nd_ok (ax_lf_ok (ak_i2l dX10_odds_27)) (ax_nd_ok (ax_lf_ok (ak_aload_n rfl dX10_odds_28)) (ax_lf_ok (ak_gi fF_X10_279 dX10_odds_29))))) (ax_nd_ok (ax_nd_ok (ax_lf_ok (ak_i2l dX10_odds_32)) (ax_nd_ok (ax_lf_ok (ak_iload_n rfl dX10_odds_33)) (ax_lf_ok (ak_invS (by decide) (by decide) wd_1416 wd_1417 wd_106 wd_1418 ⟨by decide, by decide, by decide +kernel⟩ dX10_odds_34)))) (ax_nd_ok (ax_nd_ok (ax_lf_ok (ak_l2i dX10_odds_37)) (ax_lf_ok (ak_goto (by decide) dX10_odds_38))) (ax_nd_ok (ax_lf_ok (ak_iconst (by decide) dX10_odds_41)) (ax_lf_ok (ak_iret rfl dX10_odds_42))))))
abbrev mX10_odds (g : ax_G) (as : List Value) (h : ax_H) (Ret : Option Value → ax_H → Prop) : Prop := ax_M g 7 0 0 yX10_odds cX10_odds 4 (some .int) as h Ret
theorem dX10_hasWeek_0 : decode cX10_hasWeek 0 = .ok (.aload_n 0, 1) := by decide +kernel
theorem dX10_hasWeek_1 : decode cX10_hasWeek 1 = .ok (.iload_n 1, 1) := by decide +kernel
theorem dX10_hasWeek_2 : decode cX10_hasWeek 2 = .ok (.putfield 312, 3) := by decide +kernel
theorem dX10_hasWeek_5 : decode cX10_hasWeek 5 = .ok (.aload_n 0, 1) := by decide +kernel
theorem dX10_hasWeek_6 : decode cX10_hasWeek 6 = .ok (.iconst 1, 1) := by decide +kernel
theorem dX10_hasWeek_7 : decode cX10_hasWeek 7 = .ok (.iload_n 1, 1) := by decide +kernel
theorem dX10_hasWeek_8 : decode cX10_hasWeek 8 = .ok (.invokevirtual 234, 3) := by decide +kernel
theorem dX10_hasWeek_11 : decode cX10_hasWeek 11 = .ok (.ireturn, 1) := by decide +kernel
def tX10_hasWeek (g : ax_G) : Nat → ax_O := ax_nd 5 (ax_nd 1 (ax_nd 0 (ax_lf 0 (ao_al 0 1)) (ax_lf 1 (ao_il 1 1))) (ax_nd 2 (ax_lf 2 (ao_pi 10 36)) (ax_lf 5 (ao_al 0 1)))) (ax_nd 7 (ax_nd 6 (ax_lf 6 (ao_ic (1) 1)) (ax_lf 7 (ao_il 1 1))) (ax_nd 8 (ax_lf 8 (ao_inv g 2 10 1 yX10_is cX10_is 3 (some .boolean) 3 0 0 0 0)) (ax_lf 11 (ao_zret 0 0))))
theorem oX10_hasWeek (g : ax_G) : ∀ pc, ax_ok g cX10_hasWeek 2 (some .boolean) RX10 "hasWeek" 3 0 0 pc (tX10_hasWeek g pc) := ax_nd_ok (ax_nd_ok (ax_nd_ok (ax_lf_ok (ak_aload_n rfl dX10_hasWeek_0)) (ax_lf_ok (ak_iload_n rfl dX10_hasWeek_1))) (ax_nd_ok (ax_lf_ok (ak_pi fF_X10_312 fW_X10_312_a dX10_hasWeek_2)) (ax_lf_ok (ak_aload_n rfl dX10_hasWeek_5)))) (ax_nd_ok (ax_nd_ok (ax_lf_ok (ak_iconst (by decide) dX10_hasWeek_6)) (ax_lf_ok (ak_iload_n rfl dX10_hasWeek_7))) (ax_nd_ok (ax_lf_ok (ak_invV (by decide) (by decide) (by decide) rfl wd_1251 wd_1253 wd_24 wd_106 wd_1254 ⟨by decide, by decide, by decide +kernel⟩ dX10_hasWeek_8)) (ax_lf_ok (ak_zret rfl dX10_hasWeek_11))))
abbrev mX10_hasWeek (g : ax_G) (as : List Value) (h : ax_H) (Ret : Option Value → ax_H → Prop) : Prop := ax_M g 3 0 0 yX10_hasWeek cX10_hasWeek 2 (some .boolean) as h Ret
theorem dX10_hourOf_0 : decode cX10_hourOf 0 = .ok (.aload_n 0, 1) := by decide +kernel
theorem dX10_hourOf_1 : decode cX10_hourOf 1 = .ok (.getfield 29, 3) := by decide +kernel
theorem dX10_hourOf_4 : decode cX10_hourOf 4 = .ok (.bipush 15, 2) := by decide +kernel
theorem dX10_hourOf_6 : decode cX10_hourOf 6 = .ok (.aload_n 0, 1) := by decide +kernel
theorem dX10_hourOf_7 : decode cX10_hourOf 7 = .ok (.getfield 312, 3) := by decide +kernel
theorem dX10_hourOf_10 : decode cX10_hourOf 10 = .ok (.imul, 1) := by decide +kernel
theorem dX10_hourOf_11 : decode cX10_hourOf 11 = .ok (.iconst 1, 1) := by decide +kernel
theorem dX10_hourOf_12 : decode cX10_hourOf 12 = .ok (.iadd, 1) := by decide +kernel
theorem dX10_hourOf_13 : decode cX10_hourOf 13 = .ok (.iload_n 1, 1) := by decide +kernel
theorem dX10_hourOf_14 : decode cX10_hourOf 14 = .ok (.iadd, 1) := by decide +kernel
theorem dX10_hourOf_15 : decode cX10_hourOf 15 = .ok (.iaload, 1) := by decide +kernel
theorem dX10_hourOf_16 : decode cX10_hourOf 16 = .ok (.ireturn, 1) := by decide +kernel
def tX10_hourOf (g : ax_G) : Nat → ax_O := ax_nd 10 (ax_nd 4 (ax_nd 0 (ax_lf 0 (ao_al 0 1)) (ax_nd 1 (ax_lf 1 (ao_gr 10 7)) (ax_lf 4 (ao_ic (15) 2)))) (ax_nd 6 (ax_lf 6 (ao_al 0 1)) (ax_nd 7 (ax_lf 7 (ao_gi 10 36)) (ax_lf 10 ao_imul)))) (ax_nd 13 (ax_nd 11 (ax_lf 11 (ao_ic (1) 1)) (ax_nd 12 (ax_lf 12 ao_iadd) (ax_lf 13 (ao_il 1 1)))) (ax_nd 14 (ax_lf 14 ao_iadd) (ax_nd 15 (ax_lf 15 ao_iald) (ax_lf 16 (ao_iret 0 0)))))
theorem oX10_hourOf (g : ax_G) : ∀ pc, ax_ok g cX10_hourOf 2 (some .int) RX10 "hourOf" 1 0 0 pc (tX10_hourOf g pc) := ax_nd_ok (ax_nd_ok (ax_nd_ok (ax_lf_ok (ak_aload_n rfl dX10_hourOf_0)) (ax_nd_ok (ax_lf_ok (ak_gr fF_X10_29 dX10_hourOf_1)) (ax_lf_ok (ak_bipush (by decide) dX10_hourOf_4)))) (ax_nd_ok (ax_lf_ok (ak_aload_n rfl dX10_hourOf_6)) (ax_nd_ok (ax_lf_ok (ak_gi fF_X10_312 dX10_hourOf_7)) (ax_lf_ok (ak_imul dX10_hourOf_10))))) (ax_nd_ok (ax_nd_ok (ax_lf_ok (ak_iconst (by decide) dX10_hourOf_11)) (ax_nd_ok (ax_lf_ok (ak_iadd dX10_hourOf_12)) (ax_lf_ok (ak_iload_n rfl dX10_hourOf_13)))) (ax_nd_ok (ax_lf_ok (ak_iadd dX10_hourOf_14)) (ax_nd_ok (ax_lf_ok (ak_iald dX10_hourOf_15)) (ax_lf_ok (ak_iret rfl dX10_hourOf_16)))))
abbrev mX10_hourOf (g : ax_G) (as : List Value) (h : ax_H) (Ret : Option Value → ax_H → Prop) : Prop := ax_M g 1 0 0 yX10_hourOf cX10_hourOf 2 (some .int) as h Ret
theorem dX10_day_0 : decode cX10_day 0 = .ok (.aload_n 0, 1) := by decide +kernel
theorem dX10_day_1 : decode cX10_day 1 = .ok (.iconst 0, 1) := by decide +kernel
theorem dX10_day_2 : decode cX10_day 2 = .ok (.putfield 88, 3) := by decide +kernel
theorem dX10_day_5 : decode cX10_day 5 = .ok (.aload_n 0, 1) := by decide +kernel
theorem dX10_day_6 : decode cX10_day 6 = .ok (.iload_n 1, 1) := by decide +kernel
theorem dX10_day_7 : decode cX10_day 7 = .ok (.invokevirtual 315, 3) := by decide +kernel
theorem dX10_day_10 : decode cX10_day 10 = .ok (.ifCond .ne 6, 3) := by decide +kernel
theorem dX10_day_13 : decode cX10_day 13 = .ok (.bipush (-2), 2) := by decide +kernel
theorem dX10_day_15 : decode cX10_day 15 = .ok (.ireturn, 1) := by decide +kernel
theorem dX10_day_16 : decode cX10_day 16 = .ok (.aload_n 0, 1) := by decide +kernel
theorem dX10_day_17 : decode cX10_day 17 = .ok (.getfield 29, 3) := by decide +kernel
theorem dX10_day_20 : decode cX10_day 20 = .ok (.bipush 15, 2) := by decide +kernel
theorem dX10_day_22 : decode cX10_day 22 = .ok (.iload_n 1, 1) := by decide +kernel
theorem dX10_day_23 : decode cX10_day 23 = .ok (.imul, 1) := by decide +kernel
theorem dX10_day_24 : decode cX10_day 24 = .ok (.iaload, 1) := by decide +kernel
theorem dX10_day_25 : decode cX10_day 25 = .ok (.istore_n 3, 1) := by decide +kernel
theorem dX10_day_26 : decode cX10_day 26 = .ok (.iload_n 2, 1) := by decide +kernel
theorem dX10_day_27 : decode cX10_day 27 = .ok (.iconst (-1), 1) := by decide +kernel
theorem dX10_day_28 : decode cX10_day 28 = .ok (.if_icmp .ne 7, 3) := by decide +kernel
theorem dX10_day_31 : decode cX10_day 31 = .ok (.iload_n 3, 1) := by decide +kernel
theorem dX10_day_32 : decode cX10_day 32 = .ok (.goto 24, 3) := by decide +kernel
theorem dX10_day_35 : decode cX10_day 35 = .ok (.iload_n 2, 1) := by decide +kernel
theorem dX10_day_36 : decode cX10_day 36 = .ok (.iconst 0, 1) := by decide +kernel
theorem dX10_day_37 : decode cX10_day 37 = .ok (.iload_n 3, 1) := by decide +kernel
theorem dX10_day_38 : decode cX10_day 38 = .ok (.iconst 1, 1) := by decide +kernel
theorem dX10_day_39 : decode cX10_day 39 = .ok (.isub, 1) := by decide +kernel
theorem dX10_day_40 : decode cX10_day 40 = .ok (.invokestatic 96, 3) := by decide +kernel
theorem dX10_day_43 : decode cX10_day 43 = .ok (.ifCond .eq 11, 3) := by decide +kernel
theorem dX10_day_46 : decode cX10_day 46 = .ok (.aload_n 0, 1) := by decide +kernel
theorem dX10_day_47 : decode cX10_day 47 = .ok (.iload_n 2, 1) := by decide +kernel
theorem dX10_day_48 : decode cX10_day 48 = .ok (.invokevirtual 318, 3) := by decide +kernel
theorem dX10_day_51 : decode cX10_day 51 = .ok (.goto 5, 3) := by decide +kernel
theorem dX10_day_54 : decode cX10_day 54 = .ok (.bipush (-2), 2) := by decide +kernel
theorem dX10_day_56 : decode cX10_day 56 = .ok (.ireturn, 1) := by decide +kernel
def tX10_day (g : ax_G) : Nat → ax_O := ax_nd 26 (ax_nd 13 (ax_nd 5 (ax_nd 1 (ax_nd 0 (ax_lf 0 (ao_al 0 1)) (ax_lf 1 (ao_ic (0) 1))) (ax_nd 2 (ax_lf 2 (ao_pi 10 0)) (ax_lf 5 (ao_al 0 1)))) (ax_nd 7 (ax_nd 6 (ax_lf 6 (ao_il 1 1)) (ax_lf 7 (ao_inv g 3 10 1 yX10_hasWeek cX10_hasWeek 2 (some .boolean) 2 0 0 0 0))) (ax_nd 10 (ax_lf 10 (ao_if_ne 16)) (ax_lf 13 (ao_ic (-2) 2))))) (ax_nd 20 (ax_nd 16 (ax_nd 15 (ax_lf 15 (ao_iret 0 0)) (ax_lf 16 (ao_al 0 1))) (ax_nd 17 (ax_lf 17 (ao_gr 10 7)) (ax_lf 20 (ao_ic (15) 2)))) (ax_nd 23 (ax_nd 22 (ax_lf 22 (ao_il 1 1)) (ax_lf 23 ao_imul)) (ax_nd 24 (ax_lf 24 ao_iald) (ax_nd 25 (ax_lf 25 (ao_is 3 1)) (ax_lf 26 (ao_il 2 1))))))) (ax_nd 38 (ax_nd 32 (ax_nd 28 (ax_nd 27 (ax_lf 27 (ao_ic (-1) 1)) (ax_lf 28 (ao_icmp_ne 35))) (ax_nd 31 (ax_lf 31 (ao_il 3 1)) (ax_lf 32 (ao_goto 56)))) (ax_nd 36 (ax_nd 35 (ax_lf 35 (ao_il 2 1)) (ax_lf 36 (ao_ic (0) 1))) (ax_nd 37 (ax_lf 37 (ao_il 3 1)) (ax_lf 38 (ao_ic (1) 1))))) (ax_nd 46 (ax_nd 40 (ax_nd 39 (ax_lf 39 ao_isub) (ax_lf 40 (ao_inv g 1 99 1 yX10_in cX10_in 3 (some .boolean) 3 0 0 0 0))) (ax_nd 43 (ax_lf 43 (ao_if_eq 54)) (ax_lf 46 (ao_al 0 1)))) (ax_nd 48 (ax_nd 47 (ax_lf 47 (ao_il 2 1)) (ax_lf 48 (ao_inv g 1 10 1 yX10_hourOf cX10_hourOf 2 (some .int) 2 0 0 0 0))) (ax_nd 51 (ax_lf 51 (ao_goto 56)) (ax_nd 54 (ax_lf 54 (ao_ic (-2) 2)) (ax_lf 56 (ao_iret 0 0)))))))
theorem oX10_day (g : ax_G) : ∀ pc, ax_ok g cX10_day 4 (some .int) RX10 "day" 4 0 0 pc (tX10_day g pc) := ax_nd_ok (ax_nd_ok (ax_nd_ok (ax_nd_ok (ax_nd_ok (ax_lf_ok (ak_aload_n rfl dX10_day_0)) (ax_lf_ok (ak_iconst (by decide) dX10_day_1))) (ax_nd_ok (ax_lf_ok (ak_pi fF_X10_88 fW_X10_88_a dX10_day_2)) (ax_lf_ok (ak_aload_n rfl dX10_day_5)))) (ax_nd_ok (ax_nd_ok (ax_lf_ok (ak_iload_n rfl dX10_day_6)) (ax_lf_ok (ak_invV (by decide) (by decide) (by decide) rfl wd_1426 wd_1428 wd_55 wd_106 wd_1429 ⟨by decide, by decide, by decide +kernel⟩ dX10_day_7))) (ax_nd_ok (ax_lf_ok (ak_if_ne (by decide) dX10_day_10)) (ax_lf_ok (ak_bipush (by decide) dX10_day_13))))) (ax_nd_ok (ax_nd_ok (ax_nd_ok (ax_lf_ok (ak_iret rfl dX10_day_15)) (ax_lf_ok (ak_aload_n rfl dX10_day_16))) (ax_nd_ok (ax_lf_ok (ak_gr fF_X10_29 dX10_day_17)) (ax_lf_ok (ak_bipush (by decide) dX10_day_20)))) (ax_nd_ok (ax_nd_ok (ax_lf_ok (ak_iload_n rfl dX10_day_22)) (ax_lf_ok (ak_imul dX10_day_23))) (ax_nd_ok (ax_lf_ok (ak_iald dX10_day_24)) (ax_nd_ok (ax_lf_ok (ak_istore_n rfl (by decide) dX10_day_25)) (ax_lf_ok (ak_iload_n rfl dX10_day_26))))))) (ax_nd_ok (ax_nd_ok (ax_nd_ok (ax_nd_ok (ax_lf_ok (ak_iconst (by decide) dX10_day_27)) (ax_lf_ok (ak_icmp_ne (by decide) dX10_day_28))) (ax_nd_ok (ax_lf_ok (ak_iload_n rfl dX10_day_31)) (ax_lf_ok (ak_goto (by decide) dX10_day_32)))) (ax_nd_ok (ax_nd_ok (ax_lf_ok (ak_iload_n rfl dX10_day_35)) (ax_lf_ok (ak_iconst (by decide) dX10_day_36))) (ax_nd_ok (ax_lf_ok (ak_iload_n rfl dX10_day_37)) (ax_lf_ok (ak_iconst (by decide) dX10_day_38))))) (ax_nd_ok (ax_nd_ok (ax_nd_ok (ax_lf_ok (ak_isub dX10_day_39)) (ax_lf_ok (ak_invS (by decide) (by decide) wd_1244 wd_1245 wd_106 wd_1246 ⟨by decide, by decide, by decide +kernel⟩ dX10_day_40))) (ax_nd_ok (ax_lf_ok (ak_if_eq (by decide) dX10_day_43)) (ax_lf_ok (ak_aload_n rfl dX10_day_46)))) (ax_nd_ok (ax_nd_ok (ax_lf_ok (ak_iload_n rfl dX10_day_47)) (ax_lf_ok (ak_invV (by decide) (by decide) (by decide) rfl wd_1430 wd_1432 wd_56 wd_106 wd_1433 ⟨by decide, by decide, by decide +kernel⟩ dX10_day_48))) (ax_nd_ok (ax_lf_ok (ak_goto (by decide) dX10_day_51)) (ax_nd_ok (ax_lf_ok (ak_bipush (by decide) dX10_day_54)) (ax_lf_ok (ak_iret rfl dX10_day_56)))))))
abbrev mX10_day (g : ax_G) (as : List Value) (h : ax_H) (Ret : Option Value → ax_H → Prop) : Prop := ax_M g 4 0 0 yX10_day cX10_day 4 (some .int) as h Ret
theorem dX10_live_0 : decode cX10_live 0 = .ok (.iconst 0, 1) := by decide +kernel
theorem dX10_live_1 : decode cX10_live 1 = .ok (.istore_n 2, 1) := by decide +kernel
theorem dX10_live_2 : decode cX10_live 2 = .ok (.iload_n 2, 1) := by decide +kernel
theorem dX10_live_3 : decode cX10_live 3 = .ok (.aload_n 0, 1) := by decide +kernel
theorem dX10_live_4 : decode cX10_live 4 = .ok (.getfield 276, 3) := by decide +kernel
theorem dX10_live_7 : decode cX10_live 7 = .ok (.if_icmp .ge 29, 3) := by decide +kernel
theorem dX10_live_10 : decode cX10_live 10 = .ok (.aload_n 0, 1) := by decide +kernel
theorem dX10_live_11 : decode cX10_live 11 = .ok (.getfield 47, 3) := by decide +kernel
theorem dX10_live_14 : decode cX10_live 14 = .ok (.iload_n 2, 1) := by decide +kernel
theorem dX10_live_15 : decode cX10_live 15 = .ok (.dup2, 1) := by decide +kernel
theorem dX10_live_16 : decode cX10_live 16 = .ok (.iaload, 1) := by decide +kernel
theorem dX10_live_17 : decode cX10_live 17 = .ok (.aload_n 0, 1) := by decide +kernel
theorem dX10_live_18 : decode cX10_live 18 = .ok (.getfield 53, 3) := by decide +kernel
theorem dX10_live_21 : decode cX10_live 21 = .ok (.bipush 12, 2) := by decide +kernel
theorem dX10_live_23 : decode cX10_live 23 = .ok (.iload_n 2, 1) := by decide +kernel
theorem dX10_live_24 : decode cX10_live 24 = .ok (.imul, 1) := by decide +kernel
theorem dX10_live_25 : decode cX10_live 25 = .ok (.iload_n 1, 1) := by decide +kernel
theorem dX10_live_26 : decode cX10_live 26 = .ok (.iadd, 1) := by decide +kernel
theorem dX10_live_27 : decode cX10_live 27 = .ok (.iaload, 1) := by decide +kernel
theorem dX10_live_28 : decode cX10_live 28 = .ok (.iadd, 1) := by decide +kernel
theorem dX10_live_29 : decode cX10_live 29 = .ok (.iastore, 1) := by decide +kernel
theorem dX10_live_30 : decode cX10_live 30 = .ok (.iinc 2 1, 3) := by decide +kernel
theorem dX10_live_33 : decode cX10_live 33 = .ok (.goto (-31), 3) := by decide +kernel
theorem dX10_live_36 : decode cX10_live 36 = .ok (.aload_n 0, 1) := by decide +kernel
theorem dX10_live_37 : decode cX10_live 37 = .ok (.invokevirtual 285, 3) := by decide +kernel
theorem dX10_live_40 : decode cX10_live 40 = .ok (.return_, 1) := by decide +kernel
def tX10_live (g : ax_G) : Nat → ax_O := ax_nd 18 (ax_nd 7 (ax_nd 2 (ax_nd 0 (ax_lf 0 (ao_ic (0) 1)) (ax_nd 1 (ax_lf 1 (ao_is 2 1)) (ax_lf 2 (ao_il 2 1)))) (ax_nd 3 (ax_lf 3 (ao_al 0 1)) (ax_nd 4 (ax_lf 4 (ao_gi 10 27)) (ax_lf 7 (ao_icmp_ge 36))))) (ax_nd 14 (ax_nd 10 (ax_lf 10 (ao_al 0 1)) (ax_nd 11 (ax_lf 11 (ao_gr 10 28)) (ax_lf 14 (ao_il 2 1)))) (ax_nd 16 (ax_nd 15 (ax_lf 15 ao_dup2) (ax_lf 16 ao_iald)) (ax_nd 17 (ax_lf 17 (ao_al 0 1)) (ax_lf 18 (ao_gr 10 30)))))) (ax_nd 27 (ax_nd 24 (ax_nd 21 (ax_lf 21 (ao_ic (12) 2)) (ax_nd 23 (ax_lf 23 (ao_il 2 1)) (ax_lf 24 ao_imul))) (ax_nd 25 (ax_lf 25 (ao_il 1 1)) (ax_nd 26 (ax_lf 26 ao_iadd) (ax_lf 27 ao_iald)))) (ax_nd 30 (ax_nd 28 (ax_lf 28 ao_iadd) (ax_nd 29 (ax_lf 29 ao_iast) (ax_lf 30 (ao_iinc 2 (1))))) (ax_nd 36 (ax_nd 33 (ax_lf 33 (ao_goto 2)) (ax_lf 36 (ao_al 0 1))) (ax_nd 37 (ax_lf 37 (ao_inv g 2 10 0 yX10_layOdds cX10_layOdds 2 none 1 0 0 0 0)) (ax_lf 40 (ao_vret 0 0))))))
theorem oX10_live (g : ax_G) : ∀ pc, ax_ok g cX10_live 3 none RX10 "live" 3 0 0 pc (tX10_live g pc) := ax_nd_ok (ax_nd_ok (ax_nd_ok (ax_nd_ok (ax_lf_ok (ak_iconst (by decide) dX10_live_0)) (ax_nd_ok (ax_lf_ok (ak_istore_n rfl (by decide) dX10_live_1)) (ax_lf_ok (ak_iload_n rfl dX10_live_2)))) (ax_nd_ok (ax_lf_ok (ak_aload_n rfl dX10_live_3)) (ax_nd_ok (ax_lf_ok (ak_gi fF_X10_276 dX10_live_4)) (ax_lf_ok (ak_icmp_ge (by decide) dX10_live_7))))) (ax_nd_ok (ax_nd_ok (ax_lf_ok (ak_aload_n rfl dX10_live_10)) (ax_nd_ok (ax_lf_ok (ak_gr fF_X10_47 dX10_live_11)) (ax_lf_ok (ak_iload_n rfl dX10_live_14)))) (ax_nd_ok (ax_nd_ok (ax_lf_ok (ak_dup2 dX10_live_15)) (ax_lf_ok (ak_iald dX10_live_16))) (ax_nd_ok (ax_lf_ok (ak_aload_n rfl dX10_live_17)) (ax_lf_ok (ak_gr fF_X10_53 dX10_live_18)))))) (ax_nd_ok (ax_nd_ok (ax_nd_ok (ax_lf_ok (ak_bipush (by decide) dX10_live_21)) (ax_nd_ok (ax_lf_ok (ak_iload_n rfl dX10_live_23)) (ax_lf_ok (ak_imul dX10_live_24)))) (ax_nd_ok (ax_lf_ok (ak_iload_n rfl dX10_live_25)) (ax_nd_ok (ax_lf_ok (ak_iadd dX10_live_26)) (ax_lf_ok (ak_iald dX10_live_27))))) (ax_nd_ok (ax_nd_ok (ax_lf_ok (ak_iadd dX10_live_28)) (ax_nd_ok (ax_lf_ok (ak_iast dX10_live_29)) (ax_lf_ok (ak_iinc (by decide) (by decide) dX10_live_30)))) (ax_nd_ok (ax_nd_ok (ax_lf_ok (ak_goto (by decide) dX10_live_33)) (ax_lf_ok (ak_aload_n rfl dX10_live_36))) (ax_nd_ok (ax_lf_ok (ak_invV (by decide) (by decide) (by decide) rfl wd_1383 wd_1385 wd_50 wd_106 wd_1386 ⟨by decide, by decide, by decide +kernel⟩ dX10_live_37)) (ax_lf_ok (ak_vret rfl dX10_live_40))))))
abbrev mX10_live (g : ax_G) (as : List Value) (h : ax_H) (Ret : Option Value → ax_H → Prop) : Prop := ax_M g 3 0 0 yX10_live cX10_live 3 none as h Ret
theorem dX10_liveDays_0 : decode cX10_liveDays 0 = .ok (.aload_n 0, 1) := by decide +kernel
theorem dX10_liveDays_1 : decode cX10_liveDays 1 = .ok (.lconst 1, 1) := by decide +kernel
theorem dX10_liveDays_2 : decode cX10_liveDays 2 = .ok (.putfield 321, 3) := by decide +kernel
theorem dX10_liveDays_5 : decode cX10_liveDays 5 = .ok (.aload_n 0, 1) := by decide +kernel
theorem dX10_liveDays_6 : decode cX10_liveDays 6 = .ok (.lconst 1, 1) := by decide +kernel
theorem dX10_liveDays_7 : decode cX10_liveDays 7 = .ok (.putfield 324, 3) := by decide +kernel
theorem dX10_liveDays_10 : decode cX10_liveDays 10 = .ok (.iload_n 1, 1) := by decide +kernel
theorem dX10_liveDays_11 : decode cX10_liveDays 11 = .ok (.iconst 0, 1) := by decide +kernel
theorem dX10_liveDays_12 : decode cX10_liveDays 12 = .ok (.aload_n 0, 1) := by decide +kernel
theorem dX10_liveDays_13 : decode cX10_liveDays 13 = .ok (.getfield 29, 3) := by decide +kernel
theorem dX10_liveDays_16 : decode cX10_liveDays 16 = .ok (.bipush 15, 2) := by decide +kernel
theorem dX10_liveDays_18 : decode cX10_liveDays 18 = .ok (.aload_n 0, 1) := by decide +kernel
theorem dX10_liveDays_19 : decode cX10_liveDays 19 = .ok (.getfield 312, 3) := by decide +kernel
theorem dX10_liveDays_22 : decode cX10_liveDays 22 = .ok (.imul, 1) := by decide +kernel
theorem dX10_liveDays_23 : decode cX10_liveDays 23 = .ok (.iaload, 1) := by decide +kernel
theorem dX10_liveDays_24 : decode cX10_liveDays 24 = .ok (.invokestatic 96, 3) := by decide +kernel
theorem dX10_liveDays_27 : decode cX10_liveDays 27 = .ok (.ifCond .ne 5, 3) := by decide +kernel
theorem dX10_liveDays_30 : decode cX10_liveDays 30 = .ok (.iconst 0, 1) := by decide +kernel
theorem dX10_liveDays_31 : decode cX10_liveDays 31 = .ok (.ireturn, 1) := by decide +kernel
theorem dX10_liveDays_32 : decode cX10_liveDays 32 = .ok (.iconst 0, 1) := by decide +kernel
theorem dX10_liveDays_33 : decode cX10_liveDays 33 = .ok (.istore_n 2, 1) := by decide +kernel
theorem dX10_liveDays_34 : decode cX10_liveDays 34 = .ok (.iload_n 2, 1) := by decide +kernel
theorem dX10_liveDays_35 : decode cX10_liveDays 35 = .ok (.iload_n 1, 1) := by decide +kernel
theorem dX10_liveDays_36 : decode cX10_liveDays 36 = .ok (.if_icmp .ge 66, 3) := by decide +kernel
theorem dX10_liveDays_39 : decode cX10_liveDays 39 = .ok (.aload_n 0, 1) := by decide +kernel
theorem dX10_liveDays_40 : decode cX10_liveDays 40 = .ok (.iload_n 2, 1) := by decide +kernel
theorem dX10_liveDays_41 : decode cX10_liveDays 41 = .ok (.invokevirtual 318, 3) := by decide +kernel
theorem dX10_liveDays_44 : decode cX10_liveDays 44 = .ok (.istore_n 3, 1) := by decide +kernel
theorem dX10_liveDays_45 : decode cX10_liveDays 45 = .ok (.aload_n 0, 1) := by decide +kernel
theorem dX10_liveDays_46 : decode cX10_liveDays 46 = .ok (.iload_n 3, 1) := by decide +kernel
theorem dX10_liveDays_47 : decode cX10_liveDays 47 = .ok (.invokevirtual 297, 3) := by decide +kernel
theorem dX10_liveDays_50 : decode cX10_liveDays 50 = .ok (.ifCond .ne 5, 3) := by decide +kernel
theorem dX10_liveDays_53 : decode cX10_liveDays 53 = .ok (.iconst 0, 1) := by decide +kernel
theorem dX10_liveDays_54 : decode cX10_liveDays 54 = .ok (.ireturn, 1) := by decide +kernel
theorem dX10_liveDays_55 : decode cX10_liveDays 55 = .ok (.iload_n 2, 1) := by decide +kernel
theorem dX10_liveDays_56 : decode cX10_liveDays 56 = .ok (.bipush 6, 2) := by decide +kernel
theorem dX10_liveDays_58 : decode cX10_liveDays 58 = .ok (.if_icmp .ge 33, 3) := by decide +kernel
theorem dX10_liveDays_61 : decode cX10_liveDays 61 = .ok (.aload_n 0, 1) := by decide +kernel
theorem dX10_liveDays_62 : decode cX10_liveDays 62 = .ok (.dup, 1) := by decide +kernel
theorem dX10_liveDays_63 : decode cX10_liveDays 63 = .ok (.getfield 321, 3) := by decide +kernel
theorem dX10_liveDays_66 : decode cX10_liveDays 66 = .ok (.aload_n 0, 1) := by decide +kernel
theorem dX10_liveDays_67 : decode cX10_liveDays 67 = .ok (.getfield 56, 3) := by decide +kernel
theorem dX10_liveDays_70 : decode cX10_liveDays 70 = .ok (.iload_n 3, 1) := by decide +kernel
theorem dX10_liveDays_71 : decode cX10_liveDays 71 = .ok (.iaload, 1) := by decide +kernel
theorem dX10_liveDays_72 : decode cX10_liveDays 72 = .ok (.i2l, 1) := by decide +kernel
theorem dX10_liveDays_73 : decode cX10_liveDays 73 = .ok (.lmul, 1) := by decide +kernel
theorem dX10_liveDays_74 : decode cX10_liveDays 74 = .ok (.putfield 321, 3) := by decide +kernel
theorem dX10_liveDays_77 : decode cX10_liveDays 77 = .ok (.aload_n 0, 1) := by decide +kernel
theorem dX10_liveDays_78 : decode cX10_liveDays 78 = .ok (.dup, 1) := by decide +kernel
theorem dX10_liveDays_79 : decode cX10_liveDays 79 = .ok (.getfield 324, 3) := by decide +kernel
theorem dX10_liveDays_82 : decode cX10_liveDays 82 = .ok (.aload_n 0, 1) := by decide +kernel
theorem dX10_liveDays_83 : decode cX10_liveDays 83 = .ok (.getfield 279, 3) := by decide +kernel
theorem dX10_liveDays_86 : decode cX10_liveDays 86 = .ok (.i2l, 1) := by decide +kernel
theorem dX10_liveDays_87 : decode cX10_liveDays 87 = .ok (.lmul, 1) := by decide +kernel
theorem dX10_liveDays_88 : decode cX10_liveDays 88 = .ok (.putfield 324, 3) := by decide +kernel
theorem dX10_liveDays_91 : decode cX10_liveDays 91 = .ok (.aload_n 0, 1) := by decide +kernel
theorem dX10_liveDays_92 : decode cX10_liveDays 92 = .ok (.iload_n 3, 1) := by decide +kernel
theorem dX10_liveDays_93 : decode cX10_liveDays 93 = .ok (.invokevirtual 327, 3) := by decide +kernel
theorem dX10_liveDays_96 : decode cX10_liveDays 96 = .ok (.iinc 2 1, 3) := by decide +kernel
theorem dX10_liveDays_99 : decode cX10_liveDays 99 = .ok (.goto (-65), 3) := by decide +kernel
theorem dX10_liveDays_102 : decode cX10_liveDays 102 = .ok (.iconst 1, 1) := by decide +kernel
theorem dX10_liveDays_103 : decode cX10_liveDays 103 = .ok (.ireturn, 1) := by decide +kernel
def tX10_liveDays (g : ax_G) : Nat → ax_O := ax_nd 47 (ax_nd 23 (ax_nd 10 (ax_nd 2 (ax_nd 0 (ax_lf 0 (ao_al 0 1)) (ax_nd 1 (ax_lf 1 (ao_lc (1) 1)) (ax_lf 2 (ao_pl 10 37)))) (ax_nd 6 (ax_nd 5 (ax_lf 5 (ao_al 0 1)) (ax_lf 6 (ao_lc (1) 1))) (ax_nd 7 (ax_lf 7 (ao_pl 10 38)) (ax_lf 10 (ao_il 1 1))))) (ax_nd 16 (ax_nd 12 (ax_nd 11 (ax_lf 11 (ao_ic (0) 1)) (ax_lf 12 (ao_al 0 1))) (ax_nd 13 (ax_lf 13 (ao_gr 10 7)) (ax_lf 16 (ao_ic (15) 2)))) (ax_nd 19 (ax_nd 18 (ax_lf 18 (ao_al 0 1)) (ax_lf 19 (ao_gi 10 36))) (ax_nd 22 (ax_lf 22 ao_imul) (ax_lf 23 ao_iald))))) (ax_nd 35 (ax_nd 31 (ax_nd 27 (ax_nd 24 (ax_lf 24 (ao_inv g 1 99 1 yX10_in cX10_in 3 (some .boolean) 3 0 0 0 0)) (ax_lf 27 (ao_if_ne 32))) (ax_nd 30 (ax_lf 30 (ao_ic (0) 1)) (ax_lf 31 (ao_zret 0 0)))) (ax_nd 33 (ax_nd 32 (ax_lf 32 (ao_ic (0) 1)) (ax_lf 33 (ao_is 2 1))) (ax_nd 34 (ax_lf 34 (ao_il 2 1)) (ax_lf 35 (ao_il 1 1))))) (ax_nd 41 (ax_nd 39 (ax_nd 36 (ax_lf 36 (ao_icmp_ge 102)) (ax_lf 39 (ao_al 0 1))) (ax_nd 40 (ax_lf 40 (ao_il 2 1)) (ax_lf 41 (ao_inv g 1 10 1 yX10_hourOf cX10_hourOf 2 (some .int) 2 0 0 0 0)))) (ax_nd 45 (ax_nd 44 (ax_lf 44 (ao_is 3 1)) (ax_lf 45 (ao_al 0 1))) (ax_nd 46 (ax_lf 46 (ao_il 3 1)) (ax_lf 47 (ao_inv g 2 10 1 yX10_isHour cX10_isHour 2 (some .boolean) 2 0 0 0 0))))))) (ax_nd 73 (ax_nd 61 (ax_nd 54 (ax_nd 50 (ax_lf 50 (ao_if_ne 55)) (ax_nd 53 (ax_lf 53 (ao_ic (0) 1)) (ax_lf 54 (ao_zret 0 0)))) (ax_nd 56 (ax_nd 55 (ax_lf 55 (ao_il 2 1)) (ax_lf 56 (ao_ic (6) 2))) (ax_nd 58 (ax_lf 58 (ao_icmp_ge 91)) (ax_lf 61 (ao_al 0 1))))) (ax_nd 67 (ax_nd 63 (ax_nd 62 (ax_lf 62 ao_dup) (ax_lf 63 (ao_gl 10 37))) (ax_nd 66 (ax_lf 66 (ao_al 0 1)) (ax_lf 67 (ao_gr 10 31)))) (ax_nd 71 (ax_nd 70 (ax_lf 70 (ao_il 3 1)) (ax_lf 71 ao_iald)) (ax_nd 72 (ax_lf 72 ao_i2l) (ax_lf 73 ao_lmul))))) (ax_nd 87 (ax_nd 79 (ax_nd 77 (ax_nd 74 (ax_lf 74 (ao_pl 10 37)) (ax_lf 77 (ao_al 0 1))) (ax_nd 78 (ax_lf 78 ao_dup) (ax_lf 79 (ao_gl 10 38)))) (ax_nd 83 (ax_nd 82 (ax_lf 82 (ao_al 0 1)) (ax_lf 83 (ao_gi 10 32))) (ax_nd 86 (ax_lf 86 ao_i2l) (ax_lf 87 ao_lmul)))) (ax_nd 93 (ax_nd 91 (ax_nd 88 (ax_lf 88 (ao_pl 10 38)) (ax_lf 91 (ao_al 0 1))) (ax_nd 92 (ax_lf 92 (ao_il 3 1)) (ax_lf 93 (ao_inv g 3 10 0 yX10_live cX10_live 3 none 2 0 0 0 0)))) (ax_nd 99 (ax_nd 96 (ax_lf 96 (ao_iinc 2 (1))) (ax_lf 99 (ao_goto 34))) (ax_nd 102 (ax_lf 102 (ao_ic (1) 1)) (ax_lf 103 (ao_zret 0 0)))))))
theorem oX10_liveDays (g : ax_G) : ∀ pc, ax_ok g cX10_liveDays 4 (some .boolean) RX10 "liveDays" 4 0 0 pc (tX10_liveDays g pc) := ax_nd_ok (ax_nd_ok (ax_nd_ok (ax_nd_ok (ax_nd_ok (ax_lf_ok (ak_aload_n rfl dX10_liveDays_0)) (ax_nd_ok (ax_lf_ok (ak_lconst (by decide) dX10_liveDays_1)) (ax_lf_ok (ak_pl fF_X10_321 fW_X10_321_a dX10_liveDays_2)))) (ax_nd_ok (ax_nd_ok (ax_lf_ok (ak_aload_n rfl dX10_liveDays_5)) (ax_lf_ok (ak_lconst (by decide) dX10_liveDays_6))) (ax_nd_ok (ax_lf_ok (ak_pl fF_X10_324 fW_X10_324_a dX10_liveDays_7)) (ax_lf_ok (ak_iload_n rfl dX10_liveDays_10))))) (ax_nd_ok (ax_nd_ok (ax_nd_ok (ax_lf_ok (ak_iconst (by decide) dX10_liveDays_11)) (ax_lf_ok (ak_aload_n rfl dX10_liveDays_12))) (ax_nd_ok (ax_lf_ok (ak_gr fF_X10_29 dX10_liveDays_13)) (ax_lf_ok (ak_bipush (by decide) dX10_liveDays_16)))) (ax_nd_ok (ax_nd_ok (ax_lf_ok (ak_aload_n rfl dX10_liveDays_18)) (ax_lf_ok (ak_gi fF_X10_312 dX10_liveDays_19))) (ax_nd_ok (ax_lf_ok (ak_imul dX10_liveDays_22)) (ax_lf_ok (ak_iald dX10_liveDays_23)))))) (ax_nd_ok (ax_nd_ok (ax_nd_ok (ax_nd_ok (ax_lf_ok (ak_invS (by decide) (by decide) wd_1244 wd_1245 wd_106 wd_1246 ⟨by decide, by decide, by decide +kernel⟩ dX10_liveDays_24)) (ax_lf_ok (ak_if_ne (by decide) dX10_liveDays_27))) (ax_nd_ok (ax_lf_ok (ak_iconst (by decide) dX10_liveDays_30)) (ax_lf_ok (ak_zret rfl dX10_liveDays_31)))) (ax_nd_ok (ax_nd_ok (ax_lf_ok (ak_iconst (by decide) dX10_liveDays_32)) (ax_lf_ok (ak_istore_n rfl (by decide) dX10_liveDays_33))) (ax_nd_ok (ax_lf_ok (ak_iload_n rfl dX10_liveDays_34)) (ax_lf_ok (ak_iload_n rfl dX10_liveDays_35))))) (ax_nd_ok (ax_nd_ok (ax_nd_ok (ax_lf_ok (ak_icmp_ge (by decide) dX10_liveDays_36)) (ax_lf_ok (ak_aload_n rfl dX10_liveDays_39))) (ax_nd_ok (ax_lf_ok (ak_iload_n rfl dX10_liveDays_40)) (ax_lf_ok (ak_invV (by decide) (by decide) (by decide) rfl wd_1430 wd_1432 wd_56 wd_106 wd_1433 ⟨by decide, by decide, by decide +kernel⟩ dX10_liveDays_41)))) (ax_nd_ok (ax_nd_ok (ax_lf_ok (ak_istore_n rfl (by decide) dX10_liveDays_44)) (ax_lf_ok (ak_aload_n rfl dX10_liveDays_45))) (ax_nd_ok (ax_lf_ok (ak_iload_n rfl dX10_liveDays_46)) (ax_lf_ok (ak_invV (by decide) (by decide) (by decide) rfl wd_1403 wd_1405 wd_53 wd_106 wd_1406 ⟨by decide, by decide, by decide +kernel⟩ dX10_liveDays_47))))))) (ax_nd_ok (ax_nd_ok (ax_nd_ok (ax_nd_ok (ax_lf_ok (ak_if_ne (by decide) dX10_liveDays_50)) (ax_nd_ok (ax_lf_ok (ak_iconst (by decide) dX10_liveDays_53)) (ax_lf_ok (ak_zret rfl dX10_liveDays_54)))) (ax_nd_ok (ax_nd_ok (ax_lf_ok (ak_iload_n rfl dX10_liveDays_55)) (ax_lf_ok (ak_bipush (by decide) dX10_liveDays_56))) (ax_nd_ok (ax_lf_ok (ak_icmp_ge (by decide) dX10_liveDays_58)) (ax_lf_ok (ak_aload_n rfl dX10_liveDays_61))))) (ax_nd_ok (ax_nd_ok (ax_nd_ok (ax_lf_ok (ak_dup dX10_liveDays_62)) (ax_lf_ok (ak_gl fF_X10_321 dX10_liveDays_63))) (ax_nd_ok (ax_lf_ok (ak_aload_n rfl dX10_liveDays_66)) (ax_lf_ok (ak_gr fF_X10_56 dX10_liveDays_67)))) (ax_nd_ok (ax_nd_ok (ax_lf_ok (ak_iload_n rfl dX10_liveDays_70)) (ax_lf_ok (ak_iald dX10_liveDays_71))) (ax_nd_ok (ax_lf_ok (ak_i2l dX10_liveDays_72)) (ax_lf_ok (ak_lmul dX10_liveDays_73)))))) (ax_nd_ok (ax_nd_ok (ax_nd_ok (ax_nd_ok (ax_lf_ok (ak_pl fF_X10_321 fW_X10_321_a dX10_liveDays_74)) (ax_lf_ok (ak_aload_n rfl dX10_liveDays_77))) (ax_nd_ok (ax_lf_ok (ak_dup dX10_liveDays_78)) (ax_lf_ok (ak_gl fF_X10_324 dX10_liveDays_79)))) (ax_nd_ok (ax_nd_ok (ax_lf_ok (ak_aload_n rfl dX10_liveDays_82)) (ax_lf_ok (ak_gi fF_X10_279 dX10_liveDays_83))) (ax_nd_ok (ax_lf_ok (ak_i2l dX10_liveDays_86)) (ax_lf_ok (ak_lmul dX10_liveDays_87))))) (ax_nd_ok (ax_nd_ok (ax_nd_ok (ax_lf_ok (ak_pl fF_X10_324 fW_X10_324_a dX10_liveDays_88)) (ax_lf_ok (ak_aload_n rfl dX10_liveDays_91))) (ax_nd_ok (ax_lf_ok (ak_iload_n rfl dX10_liveDays_92)) (ax_lf_ok (ak_invV (by decide) (by decide) (by decide) rfl wd_1442 wd_1444 wd_58 wd_106 wd_1445 ⟨by decide, by decide, by decide +kernel⟩ dX10_liveDays_93)))) (ax_nd_ok (ax_nd_ok (ax_lf_ok (ak_iinc (by decide) (by decide) dX10_liveDays_96)) (ax_lf_ok (ak_goto (by decide) dX10_liveDays_99))) (ax_nd_ok (ax_lf_ok (ak_iconst (by decide) dX10_liveDays_102)) (ax_lf_ok (ak_zret rfl dX10_liveDays_103)))))))
abbrev mX10_liveDays (g : ax_G) (as : List Value) (h : ax_H) (Ret : Option Value → ax_H → Prop) : Prop := ax_M g 4 0 0 yX10_liveDays cX10_liveDays 4 (some .boolean) as h Ret
theorem dX10_purse_0 : decode cX10_purse 0 = .ok (.aload_n 0, 1) := by decide +kernel
theorem dX10_purse_1 : decode cX10_purse 1 = .ok (.iconst 0, 1) := by decide +kernel
theorem dX10_purse_2 : decode cX10_purse 2 = .ok (.putfield 88, 3) := by decide +kernel
theorem dX10_purse_5 : decode cX10_purse 5 = .ok (.aload_n 0, 1) := by decide +kernel
theorem dX10_purse_6 : decode cX10_purse 6 = .ok (.iload_n 1, 1) := by decide +kernel
theorem dX10_purse_7 : decode cX10_purse 7 = .ok (.invokevirtual 288, 3) := by decide +kernel
theorem dX10_purse_10 : decode cX10_purse 10 = .ok (.ifCond .eq 34, 3) := by decide +kernel
theorem dX10_purse_13 : decode cX10_purse 13 = .ok (.aload_n 0, 1) := by decide +kernel
theorem dX10_purse_14 : decode cX10_purse 14 = .ok (.iload_n 2, 1) := by decide +kernel
theorem dX10_purse_15 : decode cX10_purse 15 = .ok (.invokevirtual 315, 3) := by decide +kernel
theorem dX10_purse_18 : decode cX10_purse 18 = .ok (.ifCond .eq 26, 3) := by decide +kernel
theorem dX10_purse_21 : decode cX10_purse 21 = .ok (.iload 4, 2) := by decide +kernel
theorem dX10_purse_23 : decode cX10_purse 23 = .ok (.iconst (-1), 1) := by decide +kernel
theorem dX10_purse_24 : decode cX10_purse 24 = .ok (.if_icmp .eq 12, 3) := by decide +kernel
theorem dX10_purse_27 : decode cX10_purse 27 = .ok (.aload_n 0, 1) := by decide +kernel
theorem dX10_purse_28 : decode cX10_purse 28 = .ok (.iload 4, 2) := by decide +kernel
theorem dX10_purse_30 : decode cX10_purse 30 = .ok (.invokevirtual 291, 3) := by decide +kernel
theorem dX10_purse_33 : decode cX10_purse 33 = .ok (.ifCond .eq 11, 3) := by decide +kernel
theorem dX10_purse_36 : decode cX10_purse 36 = .ok (.aload_n 0, 1) := by decide +kernel
theorem dX10_purse_37 : decode cX10_purse 37 = .ok (.iload_n 3, 1) := by decide +kernel
theorem dX10_purse_38 : decode cX10_purse 38 = .ok (.invokevirtual 330, 3) := by decide +kernel
theorem dX10_purse_41 : decode cX10_purse 41 = .ok (.ifCond .ne 7, 3) := by decide +kernel
theorem dX10_purse_44 : decode cX10_purse 44 = .ok (.ldc_w 300, 3) := by decide +kernel
theorem dX10_purse_47 : decode cX10_purse 47 = .ok (.ireturn, 1) := by decide +kernel
theorem dX10_purse_48 : decode cX10_purse 48 = .ok (.iload 4, 2) := by decide +kernel
theorem dX10_purse_50 : decode cX10_purse 50 = .ok (.iconst (-1), 1) := by decide +kernel
theorem dX10_purse_51 : decode cX10_purse 51 = .ok (.if_icmp .ne 10, 3) := by decide +kernel
theorem dX10_purse_54 : decode cX10_purse 54 = .ok (.aload_n 0, 1) := by decide +kernel
theorem dX10_purse_55 : decode cX10_purse 55 = .ok (.getfield 273, 3) := by decide +kernel
theorem dX10_purse_58 : decode cX10_purse 58 = .ok (.goto 10, 3) := by decide +kernel
theorem dX10_purse_61 : decode cX10_purse 61 = .ok (.aload_n 0, 1) := by decide +kernel
theorem dX10_purse_62 : decode cX10_purse 62 = .ok (.getfield 47, 3) := by decide +kernel
theorem dX10_purse_65 : decode cX10_purse 65 = .ok (.iload 4, 2) := by decide +kernel
theorem dX10_purse_67 : decode cX10_purse 67 = .ok (.iaload, 1) := by decide +kernel
theorem dX10_purse_68 : decode cX10_purse 68 = .ok (.ireturn, 1) := by decide +kernel
def tX10_purse (g : ax_G) : Nat → ax_O := ax_nd 30 (ax_nd 13 (ax_nd 5 (ax_nd 1 (ax_nd 0 (ax_lf 0 (ao_al 0 1)) (ax_lf 1 (ao_ic (0) 1))) (ax_nd 2 (ax_lf 2 (ao_pi 10 0)) (ax_lf 5 (ao_al 0 1)))) (ax_nd 7 (ax_nd 6 (ax_lf 6 (ao_il 1 1)) (ax_lf 7 (ao_inv g 6 10 1 yX10_hand cX10_hand 4 (some .boolean) 2 0 0 0 0))) (ax_nd 10 (ax_lf 10 (ao_if_eq 44)) (ax_lf 13 (ao_al 0 1))))) (ax_nd 21 (ax_nd 15 (ax_nd 14 (ax_lf 14 (ao_il 2 1)) (ax_lf 15 (ao_inv g 3 10 1 yX10_hasWeek cX10_hasWeek 2 (some .boolean) 2 0 0 0 0))) (ax_nd 18 (ax_lf 18 (ao_if_eq 44)) (ax_lf 21 (ao_il 4 2)))) (ax_nd 24 (ax_nd 23 (ax_lf 23 (ao_ic (-1) 1)) (ax_lf 24 (ao_icmp_eq 36))) (ax_nd 27 (ax_lf 27 (ao_al 0 1)) (ax_nd 28 (ax_lf 28 (ao_il 4 2)) (ax_lf 30 (ao_inv g 2 10 1 yX10_isOne cX10_isOne 2 (some .boolean) 2 0 0 0 0))))))) (ax_nd 50 (ax_nd 38 (ax_nd 36 (ax_nd 33 (ax_lf 33 (ao_if_eq 44)) (ax_lf 36 (ao_al 0 1))) (ax_nd 37 (ax_lf 37 (ao_il 3 1)) (ax_lf 38 (ao_inv g 4 10 1 yX10_liveDays cX10_liveDays 4 (some .boolean) 2 0 0 0 0)))) (ax_nd 44 (ax_nd 41 (ax_lf 41 (ao_if_ne 48)) (ax_lf 44 (ao_ic (-1000000) 3))) (ax_nd 47 (ax_lf 47 (ao_iret 0 0)) (ax_nd 48 (ax_lf 48 (ao_il 4 2)) (ax_lf 50 (ao_ic (-1) 1)))))) (ax_nd 58 (ax_nd 54 (ax_nd 51 (ax_lf 51 (ao_icmp_ne 61)) (ax_lf 54 (ao_al 0 1))) (ax_nd 55 (ax_lf 55 (ao_gi 10 33)) (ax_lf 58 (ao_goto 68)))) (ax_nd 62 (ax_nd 61 (ax_lf 61 (ao_al 0 1)) (ax_lf 62 (ao_gr 10 28))) (ax_nd 65 (ax_lf 65 (ao_il 4 2)) (ax_nd 67 (ax_lf 67 ao_iald) (ax_lf 68 (ao_iret 0 0)))))))
theorem oX10_purse (g : ax_G) : ∀ pc, ax_ok g cX10_purse 5 (some .int) RX10 "purse" 7 0 0 pc (tX10_purse g pc) := ax_nd_ok (ax_nd_ok (ax_nd_ok (ax_nd_ok (ax_nd_ok (ax_lf_ok (ak_aload_n rfl dX10_purse_0)) (ax_lf_ok (ak_iconst (by decide) dX10_purse_1))) (ax_nd_ok (ax_lf_ok (ak_pi fF_X10_88 fW_X10_88_a dX10_purse_2)) (ax_lf_ok (ak_aload_n rfl dX10_purse_5)))) (ax_nd_ok (ax_nd_ok (ax_lf_ok (ak_iload_n rfl dX10_purse_6)) (ax_lf_ok (ak_invV (by decide) (by decide) (by decide) rfl wd_1356 wd_1358 wd_44 wd_106 wd_1359 ⟨by decide, by decide, by decide +kernel⟩ dX10_purse_7))) (ax_nd_ok (ax_lf_ok (ak_if_eq (by decide) dX10_purse_10)) (ax_lf_ok (ak_aload_n rfl dX10_purse_13))))) (ax_nd_ok (ax_nd_ok (ax_nd_ok (ax_lf_ok (ak_iload_n rfl dX10_purse_14)) (ax_lf_ok (ak_invV (by decide) (by decide) (by decide) rfl wd_1426 wd_1428 wd_55 wd_106 wd_1429 ⟨by decide, by decide, by decide +kernel⟩ dX10_purse_15))) (ax_nd_ok (ax_lf_ok (ak_if_eq (by decide) dX10_purse_18)) (ax_lf_ok (ak_iload dX10_purse_21)))) (ax_nd_ok (ax_nd_ok (ax_lf_ok (ak_iconst (by decide) dX10_purse_23)) (ax_lf_ok (ak_icmp_eq (by decide) dX10_purse_24))) (ax_nd_ok (ax_lf_ok (ak_aload_n rfl dX10_purse_27)) (ax_nd_ok (ax_lf_ok (ak_iload dX10_purse_28)) (ax_lf_ok (ak_invV (by decide) (by decide) (by decide) rfl wd_1395 wd_1397 wd_52 wd_106 wd_1398 ⟨by decide, by decide, by decide +kernel⟩ dX10_purse_30))))))) (ax_nd_ok (ax_nd_ok (ax_nd_ok (ax_nd_ok (ax_lf_ok (ak_if_eq (by decide) dX10_purse_33)) (ax_lf_ok (ak_aload_n rfl dX10_purse_36))) (ax_nd_ok (ax_lf_ok (ak_iload_n rfl dX10_purse_37)) (ax_lf_ok (ak_invV (by decide) (by decide) (by decide) rfl wd_1438 wd_1440 wd_57 wd_106 wd_1441 ⟨by decide, by decide, by decide +kernel⟩ dX10_purse_38)))) (ax_nd_ok (ax_nd_ok (ax_lf_ok (ak_if_ne (by decide) dX10_purse_41)) (ax_lf_ok (ak_ldcw wd_1407 dX10_purse_44))) (ax_nd_ok (ax_lf_ok (ak_iret rfl dX10_purse_47)) (ax_nd_ok (ax_lf_ok (ak_iload dX10_purse_48)) (ax_lf_ok (ak_iconst (by decide) dX10_purse_50)))))) (ax_nd_ok (ax_nd_ok (ax_nd_ok (ax_lf_ok (ak_icmp_ne (by decide) dX10_purse_51)) (ax_lf_ok (ak_aload_n rfl dX10_purse_54))) (ax_nd_ok (ax_lf_ok (ak_gi fF_X10_273 dX10_purse_55)) (ax_lf_ok (ak_goto (by decide) dX10_purse_58)))) (ax_nd_ok (ax_nd_ok (ax_lf_ok (ak_aload_n rfl dX10_purse_61)) (ax_lf_ok (ak_gr fF_X10_47 dX10_purse_62))) (ax_nd_ok (ax_lf_ok (ak_iload dX10_purse_65)) (ax_nd_ok (ax_lf_ok (ak_iald dX10_purse_67)) (ax_lf_ok (ak_iret rfl dX10_purse_68)))))))
abbrev mX10_purse (g : ax_G) (as : List Value) (h : ax_H) (Ret : Option Value → ax_H → Prop) : Prop := ax_M g 7 0 0 yX10_purse cX10_purse 5 (some .int) as h Ret
theorem dX10_likely_0 : decode cX10_likely 0 = .ok (.aload_n 0, 1) := by decide +kernel
theorem dX10_likely_1 : decode cX10_likely 1 = .ok (.iconst 0, 1) := by decide +kernel
theorem dX10_likely_2 : decode cX10_likely 2 = .ok (.putfield 88, 3) := by decide +kernel
theorem dX10_likely_5 : decode cX10_likely 5 = .ok (.iload_n 3, 1) := by decide +kernel
theorem dX10_likely_6 : decode cX10_likely 6 = .ok (.iconst 0, 1) := by decide +kernel
theorem dX10_likely_7 : decode cX10_likely 7 = .ok (.bipush 6, 2) := by decide +kernel
theorem dX10_likely_9 : decode cX10_likely 9 = .ok (.invokestatic 96, 3) := by decide +kernel
theorem dX10_likely_12 : decode cX10_likely 12 = .ok (.ifCond .eq 27, 3) := by decide +kernel
theorem dX10_likely_15 : decode cX10_likely 15 = .ok (.aload_n 0, 1) := by decide +kernel
theorem dX10_likely_16 : decode cX10_likely 16 = .ok (.iload_n 1, 1) := by decide +kernel
theorem dX10_likely_17 : decode cX10_likely 17 = .ok (.invokevirtual 288, 3) := by decide +kernel
theorem dX10_likely_20 : decode cX10_likely 20 = .ok (.ifCond .eq 19, 3) := by decide +kernel
theorem dX10_likely_23 : decode cX10_likely 23 = .ok (.aload_n 0, 1) := by decide +kernel
theorem dX10_likely_24 : decode cX10_likely 24 = .ok (.iload_n 2, 1) := by decide +kernel
theorem dX10_likely_25 : decode cX10_likely 25 = .ok (.invokevirtual 315, 3) := by decide +kernel
theorem dX10_likely_28 : decode cX10_likely 28 = .ok (.ifCond .eq 11, 3) := by decide +kernel
theorem dX10_likely_31 : decode cX10_likely 31 = .ok (.aload_n 0, 1) := by decide +kernel
theorem dX10_likely_32 : decode cX10_likely 32 = .ok (.iload_n 3, 1) := by decide +kernel
theorem dX10_likely_33 : decode cX10_likely 33 = .ok (.invokevirtual 330, 3) := by decide +kernel
theorem dX10_likely_36 : decode cX10_likely 36 = .ok (.ifCond .ne 7, 3) := by decide +kernel
theorem dX10_likely_39 : decode cX10_likely 39 = .ok (.ldc2_w 333, 3) := by decide +kernel
theorem dX10_likely_42 : decode cX10_likely 42 = .ok (.lreturn, 1) := by decide +kernel
theorem dX10_likely_43 : decode cX10_likely 43 = .ok (.aload_n 0, 1) := by decide +kernel
theorem dX10_likely_44 : decode cX10_likely 44 = .ok (.getfield 321, 3) := by decide +kernel
theorem dX10_likely_47 : decode cX10_likely 47 = .ok (.aload_n 0, 1) := by decide +kernel
theorem dX10_likely_48 : decode cX10_likely 48 = .ok (.getfield 324, 3) := by decide +kernel
theorem dX10_likely_51 : decode cX10_likely 51 = .ok (.iload 4, 2) := by decide +kernel
theorem dX10_likely_53 : decode cX10_likely 53 = .ok (.invokestatic 308, 3) := by decide +kernel
theorem dX10_likely_56 : decode cX10_likely 56 = .ok (.lreturn, 1) := by decide +kernel
def tX10_likely (g : ax_G) : Nat → ax_O := ax_nd 24 (ax_nd 9 (ax_nd 2 (ax_nd 0 (ax_lf 0 (ao_al 0 1)) (ax_nd 1 (ax_lf 1 (ao_ic (0) 1)) (ax_lf 2 (ao_pi 10 0)))) (ax_nd 6 (ax_nd 5 (ax_lf 5 (ao_il 3 1)) (ax_lf 6 (ao_ic (0) 1))) (ax_nd 7 (ax_lf 7 (ao_ic (6) 2)) (ax_lf 9 (ao_inv g 1 99 1 yX10_in cX10_in 3 (some .boolean) 3 0 0 0 0))))) (ax_nd 16 (ax_nd 12 (ax_lf 12 (ao_if_eq 39)) (ax_nd 15 (ax_lf 15 (ao_al 0 1)) (ax_lf 16 (ao_il 1 1)))) (ax_nd 20 (ax_nd 17 (ax_lf 17 (ao_inv g 6 10 1 yX10_hand cX10_hand 4 (some .boolean) 2 0 0 0 0)) (ax_lf 20 (ao_if_eq 39))) (ax_nd 23 (ax_lf 23 (ao_al 0 1)) (ax_lf 24 (ao_il 2 1)))))) (ax_nd 39 (ax_nd 31 (ax_nd 25 (ax_lf 25 (ao_inv g 3 10 1 yX10_hasWeek cX10_hasWeek 2 (some .boolean) 2 0 0 0 0)) (ax_nd 28 (ax_lf 28 (ao_if_eq 39)) (ax_lf 31 (ao_al 0 1)))) (ax_nd 33 (ax_nd 32 (ax_lf 32 (ao_il 3 1)) (ax_lf 33 (ao_inv g 4 10 1 yX10_liveDays cX10_liveDays 4 (some .boolean) 2 0 0 0 0))) (ax_nd 36 (ax_lf 36 (ao_if_ne 43)) (ax_lf 39 (ao_lc (-1) 3))))) (ax_nd 47 (ax_nd 43 (ax_nd 42 (ax_lf 42 (ao_lret 0 0)) (ax_lf 43 (ao_al 0 1))) (ax_nd 44 (ax_lf 44 (ao_gl 10 37)) (ax_lf 47 (ao_al 0 1)))) (ax_nd 51 (ax_nd 48 (ax_lf 48 (ao_gl 10 38)) (ax_lf 51 (ao_il 4 2))) (ax_nd 53 (ax_lf 53 (ao_inv g 2 99 2 yX10_part cX10_part 7 (some .long) 3 0 0 0 0)) (ax_lf 56 (ao_lret 0 0))))))
theorem oX10_likely (g : ax_G) : ∀ pc, ax_ok g cX10_likely 5 (some .long) RX10 "likely" 7 0 0 pc (tX10_likely g pc) := ax_nd_ok (ax_nd_ok (ax_nd_ok (ax_nd_ok (ax_lf_ok (ak_aload_n rfl dX10_likely_0)) (ax_nd_ok (ax_lf_ok (ak_iconst (by decide) dX10_likely_1)) (ax_lf_ok (ak_pi fF_X10_88 fW_X10_88_a dX10_likely_2)))) (ax_nd_ok (ax_nd_ok (ax_lf_ok (ak_iload_n rfl dX10_likely_5)) (ax_lf_ok (ak_iconst (by decide) dX10_likely_6))) (ax_nd_ok (ax_lf_ok (ak_bipush (by decide) dX10_likely_7)) (ax_lf_ok (ak_invS (by decide) (by decide) wd_1244 wd_1245 wd_106 wd_1246 ⟨by decide, by decide, by decide +kernel⟩ dX10_likely_9))))) (ax_nd_ok (ax_nd_ok (ax_lf_ok (ak_if_eq (by decide) dX10_likely_12)) (ax_nd_ok (ax_lf_ok (ak_aload_n rfl dX10_likely_15)) (ax_lf_ok (ak_iload_n rfl dX10_likely_16)))) (ax_nd_ok (ax_nd_ok (ax_lf_ok (ak_invV (by decide) (by decide) (by decide) rfl wd_1356 wd_1358 wd_44 wd_106 wd_1359 ⟨by decide, by decide, by decide +kernel⟩ dX10_likely_17)) (ax_lf_ok (ak_if_eq (by decide) dX10_likely_20))) (ax_nd_ok (ax_lf_ok (ak_aload_n rfl dX10_likely_23)) (ax_lf_ok (ak_iload_n rfl dX10_likely_24)))))) (ax_nd_ok (ax_nd_ok (ax_nd_ok (ax_lf_ok (ak_invV (by decide) (by decide) (by decide) rfl wd_1426 wd_1428 wd_55 wd_106 wd_1429 ⟨by decide, by decide, by decide +kernel⟩ dX10_likely_25)) (ax_nd_ok (ax_lf_ok (ak_if_eq (by decide) dX10_likely_28)) (ax_lf_ok (ak_aload_n rfl dX10_likely_31)))) (ax_nd_ok (ax_nd_ok (ax_lf_ok (ak_iload_n rfl dX10_likely_32)) (ax_lf_ok (ak_invV (by decide) (by decide) (by decide) rfl wd_1438 wd_1440 wd_57 wd_106 wd_1441 ⟨by decide, by decide, by decide +kernel⟩ dX10_likely_33))) (ax_nd_ok (ax_lf_ok (ak_if_ne (by decide) dX10_likely_36)) (ax_lf_ok (ak_ldc2 wd_1450 dX10_likely_39))))) (ax_nd_ok (ax_nd_ok (ax_nd_ok (ax_lf_ok (ak_lret rfl dX10_likely_42)) (ax_lf_ok (ak_aload_n rfl dX10_likely_43))) (ax_nd_ok (ax_lf_ok (ak_gl fF_X10_321 dX10_likely_44)) (ax_lf_ok (ak_aload_n rfl dX10_likely_47)))) (ax_nd_ok (ax_nd_ok (ax_lf_ok (ak_gl fF_X10_324 dX10_likely_48)) (ax_lf_ok (ak_iload dX10_likely_51))) (ax_nd_ok (ax_lf_ok (ak_invS (by decide) (by decide) wd_1416 wd_1417 wd_106 wd_1418 ⟨by decide, by decide, by decide +kernel⟩ dX10_likely_53)) (ax_lf_ok (ak_lret rfl dX10_likely_56))))))
abbrev mX10_likely (g : ax_G) (as : List Value) (h : ax_H) (Ret : Option Value → ax_H → Prop) : Prop := ax_M g 7 0 0 yX10_likely cX10_likely 5 (some .long) as h Ret
theorem dX10_draw_0 : decode cX10_draw 0 = .ok (.aload_n 0, 1) := by decide +kernel
theorem dX10_draw_1 : decode cX10_draw 1 = .ok (.aload_n 0, 1) := by decide +kernel
theorem dX10_draw_2 : decode cX10_draw 2 = .ok (.getfield 335, 3) := by decide +kernel
theorem dX10_draw_5 : decode cX10_draw 5 = .ok (.ldc_w 338, 3) := by decide +kernel
theorem dX10_draw_8 : decode cX10_draw 8 = .ok (.imul, 1) := by decide +kernel
theorem dX10_draw_9 : decode cX10_draw 9 = .ok (.sipush 12345, 3) := by decide +kernel
theorem dX10_draw_12 : decode cX10_draw 12 = .ok (.iadd, 1) := by decide +kernel
theorem dX10_draw_13 : decode cX10_draw 13 = .ok (.putfield 335, 3) := by decide +kernel
theorem dX10_draw_16 : decode cX10_draw 16 = .ok (.aload_n 0, 1) := by decide +kernel
theorem dX10_draw_17 : decode cX10_draw 17 = .ok (.getfield 335, 3) := by decide +kernel
theorem dX10_draw_20 : decode cX10_draw 20 = .ok (.bipush 16, 2) := by decide +kernel
theorem dX10_draw_22 : decode cX10_draw 22 = .ok (.iushr, 1) := by decide +kernel
theorem dX10_draw_23 : decode cX10_draw 23 = .ok (.iload_n 1, 1) := by decide +kernel
theorem dX10_draw_24 : decode cX10_draw 24 = .ok (.irem, 1) := by decide +kernel
theorem dX10_draw_25 : decode cX10_draw 25 = .ok (.ireturn, 1) := by decide +kernel
def tX10_draw (g : ax_G) : Nat → ax_O := ax_nd 12 (ax_nd 2 (ax_nd 0 (ax_lf 0 (ao_al 0 1)) (ax_nd 1 (ax_lf 1 (ao_al 0 1)) (ax_lf 2 (ao_gi 10 39)))) (ax_nd 8 (ax_nd 5 (ax_lf 5 (ao_ic (1103515245) 3)) (ax_lf 8 ao_imul)) (ax_nd 9 (ax_lf 9 (ao_ic (12345) 3)) (ax_lf 12 ao_iadd)))) (ax_nd 20 (ax_nd 16 (ax_nd 13 (ax_lf 13 (ao_pi 10 39)) (ax_lf 16 (ao_al 0 1))) (ax_nd 17 (ax_lf 17 (ao_gi 10 39)) (ax_lf 20 (ao_ic (16) 2)))) (ax_nd 23 (ax_nd 22 (ax_lf 22 ao_iushr) (ax_lf 23 (ao_il 1 1))) (ax_nd 24 (ax_lf 24 ao_irem) (ax_lf 25 (ao_iret 0 0)))))
theorem oX10_draw (g : ax_G) : ∀ pc, ax_ok g cX10_draw 2 (some .int) RX10 "draw" 1 0 0 pc (tX10_draw g pc) := ax_nd_ok (ax_nd_ok (ax_nd_ok (ax_lf_ok (ak_aload_n rfl dX10_draw_0)) (ax_nd_ok (ax_lf_ok (ak_aload_n rfl dX10_draw_1)) (ax_lf_ok (ak_gi fF_X10_335 dX10_draw_2)))) (ax_nd_ok (ax_nd_ok (ax_lf_ok (ak_ldcw wd_1463 dX10_draw_5)) (ax_lf_ok (ak_imul dX10_draw_8))) (ax_nd_ok (ax_lf_ok (ak_sipush (by decide) dX10_draw_9)) (ax_lf_ok (ak_iadd dX10_draw_12))))) (ax_nd_ok (ax_nd_ok (ax_nd_ok (ax_lf_ok (ak_pi fF_X10_335 fW_X10_335_a dX10_draw_13)) (ax_lf_ok (ak_aload_n rfl dX10_draw_16))) (ax_nd_ok (ax_lf_ok (ak_gi fF_X10_335 dX10_draw_17)) (ax_lf_ok (ak_bipush (by decide) dX10_draw_20)))) (ax_nd_ok (ax_nd_ok (ax_lf_ok (ak_iushr dX10_draw_22)) (ax_lf_ok (ak_iload_n rfl dX10_draw_23))) (ax_nd_ok (ax_lf_ok (ak_irem dX10_draw_24)) (ax_lf_ok (ak_iret rfl dX10_draw_25)))))
abbrev mX10_draw (g : ax_G) (as : List Value) (h : ax_H) (Ret : Option Value → ax_H → Prop) : Prop := ax_M g 1 0 0 yX10_draw cX10_draw 2 (some .int) as h Ret
theorem dX10_drawHour_0 : decode cX10_drawHour 0 = .ok (.aload_n 0, 1) := by decide +kernel
theorem dX10_drawHour_1 : decode cX10_drawHour 1 = .ok (.aload_n 0, 1) := by decide +kernel
theorem dX10_drawHour_2 : decode cX10_drawHour 2 = .ok (.getfield 279, 3) := by decide +kernel
theorem dX10_drawHour_5 : decode cX10_drawHour 5 = .ok (.invokevirtual 339, 3) := by decide +kernel
theorem dX10_drawHour_8 : decode cX10_drawHour 8 = .ok (.istore_n 1, 1) := by decide +kernel
theorem dX10_drawHour_9 : decode cX10_drawHour 9 = .ok (.iconst 0, 1) := by decide +kernel
theorem dX10_drawHour_10 : decode cX10_drawHour 10 = .ok (.istore_n 2, 1) := by decide +kernel
theorem dX10_drawHour_11 : decode cX10_drawHour 11 = .ok (.iload_n 1, 1) := by decide +kernel
theorem dX10_drawHour_12 : decode cX10_drawHour 12 = .ok (.aload_n 0, 1) := by decide +kernel
theorem dX10_drawHour_13 : decode cX10_drawHour 13 = .ok (.getfield 56, 3) := by decide +kernel
theorem dX10_drawHour_16 : decode cX10_drawHour 16 = .ok (.iload_n 2, 1) := by decide +kernel
theorem dX10_drawHour_17 : decode cX10_drawHour 17 = .ok (.iaload, 1) := by decide +kernel
theorem dX10_drawHour_18 : decode cX10_drawHour 18 = .ok (.if_icmp .lt 18, 3) := by decide +kernel
theorem dX10_drawHour_21 : decode cX10_drawHour 21 = .ok (.iload_n 1, 1) := by decide +kernel
theorem dX10_drawHour_22 : decode cX10_drawHour 22 = .ok (.aload_n 0, 1) := by decide +kernel
theorem dX10_drawHour_23 : decode cX10_drawHour 23 = .ok (.getfield 56, 3) := by decide +kernel
theorem dX10_drawHour_26 : decode cX10_drawHour 26 = .ok (.iload_n 2, 1) := by decide +kernel
theorem dX10_drawHour_27 : decode cX10_drawHour 27 = .ok (.iaload, 1) := by decide +kernel
theorem dX10_drawHour_28 : decode cX10_drawHour 28 = .ok (.isub, 1) := by decide +kernel
theorem dX10_drawHour_29 : decode cX10_drawHour 29 = .ok (.istore_n 1, 1) := by decide +kernel
theorem dX10_drawHour_30 : decode cX10_drawHour 30 = .ok (.iinc 2 1, 3) := by decide +kernel
theorem dX10_drawHour_33 : decode cX10_drawHour 33 = .ok (.goto (-22), 3) := by decide +kernel
theorem dX10_drawHour_36 : decode cX10_drawHour 36 = .ok (.iload_n 2, 1) := by decide +kernel
theorem dX10_drawHour_37 : decode cX10_drawHour 37 = .ok (.ireturn, 1) := by decide +kernel
def tX10_drawHour (g : ax_G) : Nat → ax_O := ax_nd 17 (ax_nd 9 (ax_nd 2 (ax_nd 0 (ax_lf 0 (ao_al 0 1)) (ax_nd 1 (ax_lf 1 (ao_al 0 1)) (ax_lf 2 (ao_gi 10 32)))) (ax_nd 5 (ax_lf 5 (ao_inv g 1 10 1 yX10_draw cX10_draw 2 (some .int) 2 0 0 0 0)) (ax_nd 8 (ax_lf 8 (ao_is 1 1)) (ax_lf 9 (ao_ic (0) 1))))) (ax_nd 12 (ax_nd 10 (ax_lf 10 (ao_is 2 1)) (ax_nd 11 (ax_lf 11 (ao_il 1 1)) (ax_lf 12 (ao_al 0 1)))) (ax_nd 13 (ax_lf 13 (ao_gr 10 31)) (ax_nd 16 (ax_lf 16 (ao_il 2 1)) (ax_lf 17 ao_iald))))) (ax_nd 27 (ax_nd 22 (ax_nd 18 (ax_lf 18 (ao_icmp_lt 36)) (ax_nd 21 (ax_lf 21 (ao_il 1 1)) (ax_lf 22 (ao_al 0 1)))) (ax_nd 23 (ax_lf 23 (ao_gr 10 31)) (ax_nd 26 (ax_lf 26 (ao_il 2 1)) (ax_lf 27 ao_iald)))) (ax_nd 30 (ax_nd 28 (ax_lf 28 ao_isub) (ax_nd 29 (ax_lf 29 (ao_is 1 1)) (ax_lf 30 (ao_iinc 2 (1))))) (ax_nd 33 (ax_lf 33 (ao_goto 11)) (ax_nd 36 (ax_lf 36 (ao_il 2 1)) (ax_lf 37 (ao_iret 0 0))))))
theorem oX10_drawHour (g : ax_G) : ∀ pc, ax_ok g cX10_drawHour 3 (some .int) RX10 "drawHour" 2 0 0 pc (tX10_drawHour g pc) := ax_nd_ok (ax_nd_ok (ax_nd_ok (ax_nd_ok (ax_lf_ok (ak_aload_n rfl dX10_drawHour_0)) (ax_nd_ok (ax_lf_ok (ak_aload_n rfl dX10_drawHour_1)) (ax_lf_ok (ak_gi fF_X10_279 dX10_drawHour_2)))) (ax_nd_ok (ax_lf_ok (ak_invV (by decide) (by decide) (by decide) rfl wd_1459 wd_1461 wd_60 wd_106 wd_1462 ⟨by decide, by decide, by decide +kernel⟩ dX10_drawHour_5)) (ax_nd_ok (ax_lf_ok (ak_istore_n rfl (by decide) dX10_drawHour_8)) (ax_lf_ok (ak_iconst (by decide) dX10_drawHour_9))))) (ax_nd_ok (ax_nd_ok (ax_lf_ok (ak_istore_n rfl (by decide) dX10_drawHour_10)) (ax_nd_ok (ax_lf_ok (ak_iload_n rfl dX10_drawHour_11)) (ax_lf_ok (ak_aload_n rfl dX10_drawHour_12)))) (ax_nd_ok (ax_lf_ok (ak_gr fF_X10_56 dX10_drawHour_13)) (ax_nd_ok (ax_lf_ok (ak_iload_n rfl dX10_drawHour_16)) (ax_lf_ok (ak_iald dX10_drawHour_17)))))) (ax_nd_ok (ax_nd_ok (ax_nd_ok (ax_lf_ok (ak_icmp_lt (by decide) dX10_drawHour_18)) (ax_nd_ok (ax_lf_ok (ak_iload_n rfl dX10_drawHour_21)) (ax_lf_ok (ak_aload_n rfl dX10_drawHour_22)))) (ax_nd_ok (ax_lf_ok (ak_gr fF_X10_56 dX10_drawHour_23)) (ax_nd_ok (ax_lf_ok (ak_iload_n rfl dX10_drawHour_26)) (ax_lf_ok (ak_iald dX10_drawHour_27))))) (ax_nd_ok (ax_nd_ok (ax_lf_ok (ak_isub dX10_drawHour_28)) (ax_nd_ok (ax_lf_ok (ak_istore_n rfl (by decide) dX10_drawHour_29)) (ax_lf_ok (ak_iinc (by decide) (by decide) dX10_drawHour_30)))) (ax_nd_ok (ax_lf_ok (ak_goto (by decide) dX10_drawHour_33)) (ax_nd_ok (ax_lf_ok (ak_iload_n rfl dX10_drawHour_36)) (ax_lf_ok (ak_iret rfl dX10_drawHour_37))))))
abbrev mX10_drawHour (g : ax_G) (as : List Value) (h : ax_H) (Ret : Option Value → ax_H → Prop) : Prop := ax_M g 2 0 0 yX10_drawHour cX10_drawHour 3 (some .int) as h Ret
theorem dX10_drawn_0 : decode cX10_drawn 0 = .ok (.aload_n 0, 1) := by decide +kernel
theorem dX10_drawn_1 : decode cX10_drawn 1 = .ok (.iconst 0, 1) := by decide +kernel
theorem dX10_drawn_2 : decode cX10_drawn 2 = .ok (.putfield 88, 3) := by decide +kernel
theorem dX10_drawn_5 : decode cX10_drawn 5 = .ok (.iload_n 3, 1) := by decide +kernel
theorem dX10_drawn_6 : decode cX10_drawn 6 = .ok (.iconst 0, 1) := by decide +kernel
theorem dX10_drawn_7 : decode cX10_drawn 7 = .ok (.bipush 60, 2) := by decide +kernel
theorem dX10_drawn_9 : decode cX10_drawn 9 = .ok (.invokestatic 96, 3) := by decide +kernel
theorem dX10_drawn_12 : decode cX10_drawn 12 = .ok (.ifCond .eq 49, 3) := by decide +kernel
theorem dX10_drawn_15 : decode cX10_drawn 15 = .ok (.aload_n 0, 1) := by decide +kernel
theorem dX10_drawn_16 : decode cX10_drawn 16 = .ok (.iload_n 1, 1) := by decide +kernel
theorem dX10_drawn_17 : decode cX10_drawn 17 = .ok (.invokevirtual 288, 3) := by decide +kernel
theorem dX10_drawn_20 : decode cX10_drawn 20 = .ok (.ifCond .eq 41, 3) := by decide +kernel
theorem dX10_drawn_23 : decode cX10_drawn 23 = .ok (.aload_n 0, 1) := by decide +kernel
theorem dX10_drawn_24 : decode cX10_drawn 24 = .ok (.iload 4, 2) := by decide +kernel
theorem dX10_drawn_26 : decode cX10_drawn 26 = .ok (.invokevirtual 291, 3) := by decide +kernel
theorem dX10_drawn_29 : decode cX10_drawn 29 = .ok (.ifCond .ne 36, 3) := by decide +kernel
theorem dX10_drawn_32 : decode cX10_drawn 32 = .ok (.iload 4, 2) := by decide +kernel
theorem dX10_drawn_34 : decode cX10_drawn 34 = .ok (.bipush 10, 2) := by decide +kernel
theorem dX10_drawn_36 : decode cX10_drawn 36 = .ok (.bipush 11, 2) := by decide +kernel
theorem dX10_drawn_38 : decode cX10_drawn 38 = .ok (.invokestatic 96, 3) := by decide +kernel
theorem dX10_drawn_41 : decode cX10_drawn 41 = .ok (.ifCond .ne 24, 3) := by decide +kernel
theorem dX10_drawn_44 : decode cX10_drawn 44 = .ok (.iload 4, 2) := by decide +kernel
theorem dX10_drawn_46 : decode cX10_drawn 46 = .ok (.bipush 20, 2) := by decide +kernel
theorem dX10_drawn_48 : decode cX10_drawn 48 = .ok (.bipush 19, 2) := by decide +kernel
theorem dX10_drawn_50 : decode cX10_drawn 50 = .ok (.aload_n 0, 1) := by decide +kernel
theorem dX10_drawn_51 : decode cX10_drawn 51 = .ok (.getfield 263, 3) := by decide +kernel
theorem dX10_drawn_54 : decode cX10_drawn 54 = .ok (.iadd, 1) := by decide +kernel
theorem dX10_drawn_55 : decode cX10_drawn 55 = .ok (.invokestatic 96, 3) := by decide +kernel
theorem dX10_drawn_58 : decode cX10_drawn 58 = .ok (.ifCond .ne 7, 3) := by decide +kernel
theorem dX10_drawn_61 : decode cX10_drawn 61 = .ok (.ldc_w 300, 3) := by decide +kernel
theorem dX10_drawn_64 : decode cX10_drawn 64 = .ok (.ireturn, 1) := by decide +kernel
theorem dX10_drawn_65 : decode cX10_drawn 65 = .ok (.aload_n 0, 1) := by decide +kernel
theorem dX10_drawn_66 : decode cX10_drawn 66 = .ok (.iload_n 2, 1) := by decide +kernel
theorem dX10_drawn_67 : decode cX10_drawn 67 = .ok (.putfield 335, 3) := by decide +kernel
theorem dX10_drawn_70 : decode cX10_drawn 70 = .ok (.iconst (-1), 1) := by decide +kernel
theorem dX10_drawn_71 : decode cX10_drawn 71 = .ok (.istore 5, 2) := by decide +kernel
theorem dX10_drawn_73 : decode cX10_drawn 73 = .ok (.iconst 0, 1) := by decide +kernel
theorem dX10_drawn_74 : decode cX10_drawn 74 = .ok (.istore 6, 2) := by decide +kernel
theorem dX10_drawn_76 : decode cX10_drawn 76 = .ok (.iload 6, 2) := by decide +kernel
theorem dX10_drawn_78 : decode cX10_drawn 78 = .ok (.bipush 12, 2) := by decide +kernel
theorem dX10_drawn_80 : decode cX10_drawn 80 = .ok (.if_icmp .ge 17, 3) := by decide +kernel
theorem dX10_drawn_83 : decode cX10_drawn 83 = .ok (.aload_n 0, 1) := by decide +kernel
theorem dX10_drawn_84 : decode cX10_drawn 84 = .ok (.getfield 59, 3) := by decide +kernel
theorem dX10_drawn_87 : decode cX10_drawn 87 = .ok (.iload 6, 2) := by decide +kernel
theorem dX10_drawn_89 : decode cX10_drawn 89 = .ok (.iconst 0, 1) := by decide +kernel
theorem dX10_drawn_90 : decode cX10_drawn 90 = .ok (.iastore, 1) := by decide +kernel
theorem dX10_drawn_91 : decode cX10_drawn 91 = .ok (.iinc 6 1, 3) := by decide +kernel
theorem dX10_drawn_94 : decode cX10_drawn 94 = .ok (.goto (-18), 3) := by decide +kernel
theorem dX10_drawn_97 : decode cX10_drawn 97 = .ok (.iconst 0, 1) := by decide +kernel
theorem dX10_drawn_98 : decode cX10_drawn 98 = .ok (.istore 6, 2) := by decide +kernel
theorem dX10_drawn_100 : decode cX10_drawn 100 = .ok (.iload 6, 2) := by decide +kernel
theorem dX10_drawn_102 : decode cX10_drawn 102 = .ok (.iload_n 3, 1) := by decide +kernel
theorem dX10_drawn_103 : decode cX10_drawn 103 = .ok (.if_icmp .ge 32, 3) := by decide +kernel
theorem dX10_drawn_106 : decode cX10_drawn 106 = .ok (.aload_n 0, 1) := by decide +kernel
theorem dX10_drawn_107 : decode cX10_drawn 107 = .ok (.invokevirtual 342, 3) := by decide +kernel
theorem dX10_drawn_110 : decode cX10_drawn 110 = .ok (.istore 5, 2) := by decide +kernel
theorem dX10_drawn_112 : decode cX10_drawn 112 = .ok (.aload_n 0, 1) := by decide +kernel
theorem dX10_drawn_113 : decode cX10_drawn 113 = .ok (.getfield 59, 3) := by decide +kernel
theorem dX10_drawn_116 : decode cX10_drawn 116 = .ok (.iload 5, 2) := by decide +kernel
theorem dX10_drawn_118 : decode cX10_drawn 118 = .ok (.dup2, 1) := by decide +kernel
theorem dX10_drawn_119 : decode cX10_drawn 119 = .ok (.iaload, 1) := by decide +kernel
theorem dX10_drawn_120 : decode cX10_drawn 120 = .ok (.iconst 1, 1) := by decide +kernel
theorem dX10_drawn_121 : decode cX10_drawn 121 = .ok (.iadd, 1) := by decide +kernel
theorem dX10_drawn_122 : decode cX10_drawn 122 = .ok (.iastore, 1) := by decide +kernel
theorem dX10_drawn_123 : decode cX10_drawn 123 = .ok (.aload_n 0, 1) := by decide +kernel
theorem dX10_drawn_124 : decode cX10_drawn 124 = .ok (.iload 5, 2) := by decide +kernel
theorem dX10_drawn_126 : decode cX10_drawn 126 = .ok (.invokevirtual 327, 3) := by decide +kernel
theorem dX10_drawn_129 : decode cX10_drawn 129 = .ok (.iinc 6 1, 3) := by decide +kernel
theorem dX10_drawn_132 : decode cX10_drawn 132 = .ok (.goto (-32), 3) := by decide +kernel
theorem dX10_drawn_135 : decode cX10_drawn 135 = .ok (.iload 4, 2) := by decide +kernel
theorem dX10_drawn_137 : decode cX10_drawn 137 = .ok (.bipush 10, 2) := by decide +kernel
theorem dX10_drawn_139 : decode cX10_drawn 139 = .ok (.if_icmp .ne 10, 3) := by decide +kernel
theorem dX10_drawn_142 : decode cX10_drawn 142 = .ok (.aload_n 0, 1) := by decide +kernel
theorem dX10_drawn_143 : decode cX10_drawn 143 = .ok (.getfield 273, 3) := by decide +kernel
theorem dX10_drawn_146 : decode cX10_drawn 146 = .ok (.goto 42, 3) := by decide +kernel
theorem dX10_drawn_149 : decode cX10_drawn 149 = .ok (.iload 4, 2) := by decide +kernel
theorem dX10_drawn_151 : decode cX10_drawn 151 = .ok (.bipush 11, 2) := by decide +kernel
theorem dX10_drawn_153 : decode cX10_drawn 153 = .ok (.if_icmp .ne 8, 3) := by decide +kernel
theorem dX10_drawn_156 : decode cX10_drawn 156 = .ok (.iload 5, 2) := by decide +kernel
theorem dX10_drawn_158 : decode cX10_drawn 158 = .ok (.goto 30, 3) := by decide +kernel
theorem dX10_drawn_161 : decode cX10_drawn 161 = .ok (.iload 4, 2) := by decide +kernel
theorem dX10_drawn_163 : decode cX10_drawn 163 = .ok (.bipush 10, 2) := by decide +kernel
theorem dX10_drawn_165 : decode cX10_drawn 165 = .ok (.if_icmp .ge 13, 3) := by decide +kernel
theorem dX10_drawn_168 : decode cX10_drawn 168 = .ok (.aload_n 0, 1) := by decide +kernel
theorem dX10_drawn_169 : decode cX10_drawn 169 = .ok (.getfield 47, 3) := by decide +kernel
theorem dX10_drawn_172 : decode cX10_drawn 172 = .ok (.iload 4, 2) := by decide +kernel
theorem dX10_drawn_174 : decode cX10_drawn 174 = .ok (.iaload, 1) := by decide +kernel
theorem dX10_drawn_175 : decode cX10_drawn 175 = .ok (.goto 13, 3) := by decide +kernel
theorem dX10_drawn_178 : decode cX10_drawn 178 = .ok (.aload_n 0, 1) := by decide +kernel
theorem dX10_drawn_179 : decode cX10_drawn 179 = .ok (.getfield 59, 3) := by decide +kernel
theorem dX10_drawn_182 : decode cX10_drawn 182 = .ok (.iload 4, 2) := by decide +kernel
theorem dX10_drawn_184 : decode cX10_drawn 184 = .ok (.bipush 20, 2) := by decide +kernel
theorem dX10_drawn_186 : decode cX10_drawn 186 = .ok (.isub, 1) := by decide +kernel
theorem dX10_drawn_187 : decode cX10_drawn 187 = .ok (.iaload, 1) := by decide +kernel
theorem dX10_drawn_188 : decode cX10_drawn 188 = .ok (.ireturn, 1) := by decide +kernel
def tX10_drawn (g : ax_G) : Nat → ax_O := ax_nd 91 (ax_nd 46 (ax_nd 17 (ax_nd 6 (ax_nd 1 (ax_nd 0 (ax_lf 0 (ao_al 0 1)) (ax_lf 1 (ao_ic (0) 1))) (ax_nd 2 (ax_lf 2 (ao_pi 10 0)) (ax_nd 5 (ax_lf 5 (ao_il 3 1)) (ax_lf 6 (ao_ic (0) 1))))) (ax_nd 12 (ax_nd 7 (ax_lf 7 (ao_ic (60) 2)) (ax_nd 9 (ax_lf 9 (ao_inv g 1 99 1 yX10_in cX10_in 3 (some .boolean) 3 0 0 0 0)) (ax_lf 12 (ao_if_eq 61)))) (ax_nd 15 (ax_lf 15 (ao_al 0 1)) (ax_nd 16 (ax_lf 16 (ao_il 1 1)) (ax_lf 17 (ao_inv g 6 10 1 yX10_hand cX10_hand 4 (some .boolean) 2 0 0 0 0)))))) (ax_nd 32 (ax_nd 24 (ax_nd 20 (ax_lf 20 (ao_if_eq 61)) (ax_nd 23 (ax_lf 23 (ao_al 0 1)) (ax_lf 24 (ao_il 4 2)))) (ax_nd 26 (ax_lf 26 (ao_inv g 2 10 1 yX10_isOne cX10_isOne 2 (some .boolean) 2 0 0 0 0)) (ax_nd 29 (ax_lf 29 (ao_if_ne 65)) (ax_lf 32 (ao_il 4 2))))) (ax_nd 38 (ax_nd 34 (ax_lf 34 (ao_ic (10) 2)) (ax_nd 36 (ax_lf 36 (ao_ic (11) 2)) (ax_lf 38 (ao_inv g 1 99 1 yX10_in cX10_in 3 (some .boolean) 3 0 0 0 0)))) (ax_nd 41 (ax_lf 41 (ao_if_ne 65)) (ax_nd 44 (ax_lf 44 (ao_il 4 2)) (ax_lf 46 (ao_ic (20) 2))))))) (ax_nd 70 (ax_nd 58 (ax_nd 51 (ax_nd 48 (ax_lf 48 (ao_ic (19) 2)) (ax_nd 50 (ax_lf 50 (ao_al 0 1)) (ax_lf 51 (ao_gi 10 26)))) (ax_nd 54 (ax_lf 54 ao_iadd) (ax_nd 55 (ax_lf 55 (ao_inv g 1 99 1 yX10_in cX10_in 3 (some .boolean) 3 0 0 0 0)) (ax_lf 58 (ao_if_ne 65))))) (ax_nd 65 (ax_nd 61 (ax_lf 61 (ao_ic (-1000000) 3)) (ax_nd 64 (ax_lf 64 (ao_iret 0 0)) (ax_lf 65 (ao_al 0 1)))) (ax_nd 66 (ax_lf 66 (ao_il 2 1)) (ax_nd 67 (ax_lf 67 (ao_pi 10 39)) (ax_lf 70 (ao_ic (-1) 1)))))) (ax_nd 80 (ax_nd 74 (ax_nd 71 (ax_lf 71 (ao_is 5 2)) (ax_nd 73 (ax_lf 73 (ao_ic (0) 1)) (ax_lf 74 (ao_is 6 2)))) (ax_nd 76 (ax_lf 76 (ao_il 6 2)) (ax_nd 78 (ax_lf 78 (ao_ic (12) 2)) (ax_lf 80 (ao_icmp_ge 97))))) (ax_nd 87 (ax_nd 83 (ax_lf 83 (ao_al 0 1)) (ax_nd 84 (ax_lf 84 (ao_gr 10 40)) (ax_lf 87 (ao_il 6 2)))) (ax_nd 89 (ax_lf 89 (ao_ic (0) 1)) (ax_nd 90 (ax_lf 90 ao_iast) (ax_lf 91 (ao_iinc 6 (1))))))))) (ax_nd 137 (ax_nd 116 (ax_nd 103 (ax_nd 98 (ax_nd 94 (ax_lf 94 (ao_goto 76)) (ax_nd 97 (ax_lf 97 (ao_ic (0) 1)) (ax_lf 98 (ao_is 6 2)))) (ax_nd 100 (ax_lf 100 (ao_il 6 2)) (ax_nd 102 (ax_lf 102 (ao_il 3 1)) (ax_lf 103 (ao_icmp_ge 135))))) (ax_nd 110 (ax_nd 106 (ax_lf 106 (ao_al 0 1)) (ax_nd 107 (ax_lf 107 (ao_inv g 2 10 1 yX10_drawHour cX10_drawHour 3 (some .int) 1 0 0 0 0)) (ax_lf 110 (ao_is 5 2)))) (ax_nd 112 (ax_lf 112 (ao_al 0 1)) (ax_nd 113 (ax_lf 113 (ao_gr 10 40)) (ax_lf 116 (ao_il 5 2)))))) (ax_nd 123 (ax_nd 120 (ax_nd 118 (ax_lf 118 ao_dup2) (ax_nd 119 (ax_lf 119 ao_iald) (ax_lf 120 (ao_ic (1) 1)))) (ax_nd 121 (ax_lf 121 ao_iadd) (ax_nd 122 (ax_lf 122 ao_iast) (ax_lf 123 (ao_al 0 1))))) (ax_nd 129 (ax_nd 124 (ax_lf 124 (ao_il 5 2)) (ax_nd 126 (ax_lf 126 (ao_inv g 3 10 0 yX10_live cX10_live 3 none 2 0 0 0 0)) (ax_lf 129 (ao_iinc 6 (1))))) (ax_nd 132 (ax_lf 132 (ao_goto 100)) (ax_nd 135 (ax_lf 135 (ao_il 4 2)) (ax_lf 137 (ao_ic (10) 2))))))) (ax_nd 165 (ax_nd 151 (ax_nd 143 (ax_nd 139 (ax_lf 139 (ao_icmp_ne 149)) (ax_nd 142 (ax_lf 142 (ao_al 0 1)) (ax_lf 143 (ao_gi 10 33)))) (ax_nd 146 (ax_lf 146 (ao_goto 188)) (ax_nd 149 (ax_lf 149 (ao_il 4 2)) (ax_lf 151 (ao_ic (11) 2))))) (ax_nd 158 (ax_nd 153 (ax_lf 153 (ao_icmp_ne 161)) (ax_nd 156 (ax_lf 156 (ao_il 5 2)) (ax_lf 158 (ao_goto 188)))) (ax_nd 161 (ax_lf 161 (ao_il 4 2)) (ax_nd 163 (ax_lf 163 (ao_ic (10) 2)) (ax_lf 165 (ao_icmp_ge 178)))))) (ax_nd 178 (ax_nd 172 (ax_nd 168 (ax_lf 168 (ao_al 0 1)) (ax_nd 169 (ax_lf 169 (ao_gr 10 28)) (ax_lf 172 (ao_il 4 2)))) (ax_nd 174 (ax_lf 174 ao_iald) (ax_nd 175 (ax_lf 175 (ao_goto 188)) (ax_lf 178 (ao_al 0 1))))) (ax_nd 184 (ax_nd 179 (ax_lf 179 (ao_gr 10 40)) (ax_nd 182 (ax_lf 182 (ao_il 4 2)) (ax_lf 184 (ao_ic (20) 2)))) (ax_nd 186 (ax_lf 186 ao_isub) (ax_nd 187 (ax_lf 187 ao_iald) (ax_lf 188 (ao_iret 0 0))))))))
theorem oX10_drawn (g : ax_G) : ∀ pc, ax_ok g cX10_drawn 7 (some .int) RX10 "drawn" 7 0 0 pc (tX10_drawn g pc) := ax_nd_ok (ax_nd_ok (ax_nd_ok (ax_nd_ok (ax_nd_ok (ax_nd_ok (ax_lf_ok (ak_aload_n rfl dX10_drawn_0)) (ax_lf_ok (ak_iconst (by decide) dX10_drawn_1))) (ax_nd_ok (ax_lf_ok (ak_pi fF_X10_88 fW_X10_88_a dX10_drawn_2)) (ax_nd_ok (ax_lf_ok (ak_iload_n rfl dX10_drawn_5)) (ax_lf_ok (ak_iconst (by decide) dX10_drawn_6))))) (ax_nd_ok (ax_nd_ok (ax_lf_ok (ak_bipush (by decide) dX10_drawn_7)) (ax_nd_ok (ax_lf_ok (ak_invS (by decide) (by decide) wd_1244 wd_1245 wd_106 wd_1246 ⟨by decide, by decide, by decide +kernel⟩ dX10_drawn_9)) (ax_lf_ok (ak_if_eq (by decide) dX10_drawn_12)))) (ax_nd_ok (ax_lf_ok (ak_aload_n rfl dX10_drawn_15)) (ax_nd_ok (ax_lf_ok (ak_iload_n rfl dX10_drawn_16)) (ax_lf_ok (ak_invV (by decide) (by decide) (by decide) rfl wd_1356 wd_1358 wd_44 wd_106 wd_1359 ⟨by decide, by decide, by decide +kernel⟩ dX10_drawn_17)))))) (ax_nd_ok (ax_nd_ok (ax_nd_ok (ax_lf_ok (ak_if_eq (by decide) dX10_drawn_20)) (ax_nd_ok (ax_lf_ok (ak_aload_n rfl dX10_drawn_23)) (ax_lf_ok (ak_iload dX10_drawn_24)))) (ax_nd_ok (ax_lf_ok (ak_invV (by decide) (by decide) (by decide) rfl wd_1395 wd_1397 wd_52 wd_106 wd_1398 ⟨by decide, by decide, by decide +kernel⟩ dX10_drawn_26)) (ax_nd_ok (ax_lf_ok (ak_if_ne (by decide) dX10_drawn_29)) (ax_lf_ok (ak_iload dX10_drawn_32))))) (ax_nd_ok (ax_nd_ok (ax_lf_ok (ak_bipush (by decide) dX10_drawn_34)) (ax_nd_ok (ax_lf_ok (ak_bipush (by decide) dX10_drawn_36)) (ax_lf_ok (ak_invS (by decide) (by decide) wd_1244 wd_1245 wd_106 wd_1246 ⟨by decide, by decide, by decide +kernel⟩ dX10_drawn_38)))) (ax_nd_ok (ax_lf_ok (ak_if_ne (by decide) dX10_drawn_41)) (ax_nd_ok (ax_lf_ok (ak_iload dX10_drawn_44)) (ax_lf_ok (ak_bipush (by decide) dX10_drawn_46))))))) (ax_nd_ok (ax_nd_ok (ax_nd_ok (ax_nd_ok (ax_lf_ok (ak_bipush (by decide) dX10_drawn_48)) (ax_nd_ok (ax_lf_ok (ak_aload_n rfl dX10_drawn_50)) (ax_lf_ok (ak_gi fF_X10_263 dX10_drawn_51)))) (ax_nd_ok (ax_lf_ok (ak_iadd dX10_drawn_54)) (ax_nd_ok (ax_lf_ok (ak_invS (by decide) (by decide) wd_1244 wd_1245 wd_106 wd_1246 ⟨by decide, by decide, by decide +kernel⟩ dX10_drawn_55)) (ax_lf_ok (ak_if_ne (by decide) dX10_drawn_58))))) (ax_nd_ok (ax_nd_ok (ax_lf_ok (ak_ldcw wd_1407 dX10_drawn_61)) (ax_nd_ok (ax_lf_ok (ak_iret rfl dX10_drawn_64)) (ax_lf_ok (ak_aload_n rfl dX10_drawn_65)))) (ax_nd_ok (ax_lf_ok (ak_iload_n rfl dX10_drawn_66)) (ax_nd_ok (ax_lf_ok (ak_pi fF_X10_335 fW_X10_335_a dX10_drawn_67)) (ax_lf_ok (ak_iconst (by decide) dX10_drawn_70)))))) (ax_nd_ok (ax_nd_ok (ax_nd_ok (ax_lf_ok (ak_istore (by decide) dX10_drawn_71)) (ax_nd_ok (ax_lf_ok (ak_iconst (by decide) dX10_drawn_73)) (ax_lf_ok (ak_istore (by decide) dX10_drawn_74)))) (ax_nd_ok (ax_lf_ok (ak_iload dX10_drawn_76)) (ax_nd_ok (ax_lf_ok (ak_bipush (by decide) dX10_drawn_78)) (ax_lf_ok (ak_icmp_ge (by decide) dX10_drawn_80))))) (ax_nd_ok (ax_nd_ok (ax_lf_ok (ak_aload_n rfl dX10_drawn_83)) (ax_nd_ok (ax_lf_ok (ak_gr fF_X10_59 dX10_drawn_84)) (ax_lf_ok (ak_iload dX10_drawn_87)))) (ax_nd_ok (ax_lf_ok (ak_iconst (by decide) dX10_drawn_89)) (ax_nd_ok (ax_lf_ok (ak_iast dX10_drawn_90)) (ax_lf_ok (ak_iinc (by decide) (by decide) dX10_drawn_91)))))))) (ax_nd_ok (ax_nd_ok (ax_nd_ok (ax_nd_ok (ax_nd_ok (ax_lf_ok (ak_goto (by decide) dX10_drawn_94)) (ax_nd_ok (ax_lf_ok (ak_iconst (by decide) dX10_drawn_97)) (ax_lf_ok (ak_istore (by decide) dX10_drawn_98)))) (ax_nd_ok (ax_lf_ok (ak_iload dX10_drawn_100)) (ax_nd_ok (ax_lf_ok (ak_iload_n rfl dX10_drawn_102)) (ax_lf_ok (ak_icmp_ge (by decide) dX10_drawn_103))))) (ax_nd_ok (ax_nd_ok (ax_lf_ok (ak_aload_n rfl dX10_drawn_106)) (ax_nd_ok (ax_lf_ok (ak_invV (by decide) (by decide) (by decide) rfl wd_1455 wd_1457 wd_59 wd_106 wd_1458 ⟨by decide, by decide, by decide +kernel⟩ dX10_drawn_107)) (ax_lf_ok (ak_istore (by decide) dX10_drawn_110)))) (ax_nd_ok (ax_lf_ok (ak_aload_n rfl dX10_drawn_112)) (ax_nd_ok (ax_lf_ok (ak_gr fF_X10_59 dX10_drawn_113)) (ax_lf_ok (ak_iload dX10_drawn_116)))))) (ax_nd_ok (ax_nd_ok (ax_nd_ok (ax_lf_ok (ak_dup2 dX10_drawn_118)) (ax_nd_ok (ax_lf_ok (ak_iald dX10_drawn_119)) (ax_lf_ok (ak_iconst (by decide) dX10_drawn_120)))) (ax_nd_ok (ax_lf_ok (ak_iadd dX10_drawn_121)) (ax_nd_ok (ax_lf_ok (ak_iast dX10_drawn_122)) (ax_lf_ok (ak_aload_n rfl dX10_drawn_123))))) (ax_nd_ok (ax_nd_ok (ax_lf_ok (ak_iload dX10_drawn_124)) (ax_nd_ok (ax_lf_ok (ak_invV (by decide) (by decide) (by decide) rfl wd_1442 wd_1444 wd_58 wd_106 wd_1445 ⟨by decide, by decide, by decide +kernel⟩ dX10_drawn_126)) (ax_lf_ok (ak_iinc (by decide) (by decide) dX10_drawn_129)))) (ax_nd_ok (ax_lf_ok (ak_goto (by decide) dX10_drawn_132)) (ax_nd_ok (ax_lf_ok (ak_iload dX10_drawn_135)) (ax_lf_ok (ak_bipush (by decide) dX10_drawn_137))))))) (ax_nd_ok (ax_nd_ok (ax_nd_ok (ax_nd_ok (ax_lf_ok (ak_icmp_ne (by decide) dX10_drawn_139)) (ax_nd_ok (ax_lf_ok (ak_aload_n rfl dX10_drawn_142)) (ax_lf_ok (ak_gi fF_X10_273 dX10_drawn_143)))) (ax_nd_ok (ax_lf_ok (ak_goto (by decide) dX10_drawn_146)) (ax_nd_ok (ax_lf_ok (ak_iload dX10_drawn_149)) (ax_lf_ok (ak_bipush (by decide) dX10_drawn_151))))) (ax_nd_ok (ax_nd_ok (ax_lf_ok (ak_icmp_ne (by decide) dX10_drawn_153)) (ax_nd_ok (ax_lf_ok (ak_iload dX10_drawn_156)) (ax_lf_ok (ak_goto (by decide) dX10_drawn_158)))) (ax_nd_ok (ax_lf_ok (ak_iload dX10_drawn_161)) (ax_nd_ok (ax_lf_ok (ak_bipush (by decide) dX10_drawn_163)) (ax_lf_ok (ak_icmp_ge (by decide) dX10_drawn_165)))))) (ax_nd_ok (ax_nd_ok (ax_nd_ok (ax_lf_ok (ak_aload_n rfl dX10_drawn_168)) (ax_nd_ok (ax_lf_ok (ak_gr fF_X10_47 dX10_drawn_169)) (ax_lf_ok (ak_iload dX10_drawn_172)))) (ax_nd_ok (ax_lf_ok (ak_iald dX10_drawn_174)) (ax_nd_ok (ax_lf_ok (ak_goto (by decide) dX10_drawn_175)) (ax_lf_ok (ak_aload_n rfl dX10_drawn_178))))) (ax_nd_ok (ax_nd_ok (ax_lf_ok (ak_gr fF_X10_59 dX10_drawn_179)) (ax_nd_ok (ax_lf_ok (ak_iload dX10_drawn_182)) (ax_lf_ok (ak_bipush (by decide) dX10_drawn_184)))) (ax_nd_ok (ax_lf_ok (ak_isub dX10_drawn_186)) (ax_nd_ok (ax_lf_ok (ak_iald dX10_drawn_187)) (ax_lf_ok (ak_iret rfl dX10_drawn_188))))))))
abbrev mX10_drawn (g : ax_G) (as : List Value) (h : ax_H) (Ret : Option Value → ax_H → Prop) : Prop := ax_M g 7 0 0 yX10_drawn cX10_drawn 7 (some .int) as h Ret
theorem dX10_meanOf_0 : decode cX10_meanOf 0 = .ok (.lconst 0, 1) := by decide +kernel
theorem dX10_meanOf_1 : decode cX10_meanOf 1 = .ok (.lstore_n 2, 1) := by decide +kernel
theorem dX10_meanOf_2 : decode cX10_meanOf 2 = .ok (.iconst 0, 1) := by decide +kernel
theorem dX10_meanOf_3 : decode cX10_meanOf 3 = .ok (.istore 4, 2) := by decide +kernel
theorem dX10_meanOf_5 : decode cX10_meanOf 5 = .ok (.iload 4, 2) := by decide +kernel
theorem dX10_meanOf_7 : decode cX10_meanOf 7 = .ok (.aload_n 0, 1) := by decide +kernel
theorem dX10_meanOf_8 : decode cX10_meanOf 8 = .ok (.getfield 263, 3) := by decide +kernel
theorem dX10_meanOf_11 : decode cX10_meanOf 11 = .ok (.if_icmp .ge 34, 3) := by decide +kernel
theorem dX10_meanOf_14 : decode cX10_meanOf 14 = .ok (.lload_n 2, 1) := by decide +kernel
theorem dX10_meanOf_15 : decode cX10_meanOf 15 = .ok (.aload_n 0, 1) := by decide +kernel
theorem dX10_meanOf_16 : decode cX10_meanOf 16 = .ok (.getfield 56, 3) := by decide +kernel
theorem dX10_meanOf_19 : decode cX10_meanOf 19 = .ok (.iload 4, 2) := by decide +kernel
theorem dX10_meanOf_21 : decode cX10_meanOf 21 = .ok (.iaload, 1) := by decide +kernel
theorem dX10_meanOf_22 : decode cX10_meanOf 22 = .ok (.i2l, 1) := by decide +kernel
theorem dX10_meanOf_23 : decode cX10_meanOf 23 = .ok (.aload_n 0, 1) := by decide +kernel
theorem dX10_meanOf_24 : decode cX10_meanOf 24 = .ok (.getfield 53, 3) := by decide +kernel
theorem dX10_meanOf_27 : decode cX10_meanOf 27 = .ok (.bipush 12, 2) := by decide +kernel
theorem dX10_meanOf_29 : decode cX10_meanOf 29 = .ok (.iload_n 1, 1) := by decide +kernel
theorem dX10_meanOf_30 : decode cX10_meanOf 30 = .ok (.imul, 1) := by decide +kernel
theorem dX10_meanOf_31 : decode cX10_meanOf 31 = .ok (.iload 4, 2) := by decide +kernel
theorem dX10_meanOf_33 : decode cX10_meanOf 33 = .ok (.iadd, 1) := by decide +kernel
theorem dX10_meanOf_34 : decode cX10_meanOf 34 = .ok (.iaload, 1) := by decide +kernel
theorem dX10_meanOf_35 : decode cX10_meanOf 35 = .ok (.i2l, 1) := by decide +kernel
theorem dX10_meanOf_36 : decode cX10_meanOf 36 = .ok (.lmul, 1) := by decide +kernel
theorem dX10_meanOf_37 : decode cX10_meanOf 37 = .ok (.ladd, 1) := by decide +kernel
theorem dX10_meanOf_38 : decode cX10_meanOf 38 = .ok (.lstore_n 2, 1) := by decide +kernel
theorem dX10_meanOf_39 : decode cX10_meanOf 39 = .ok (.iinc 4 1, 3) := by decide +kernel
theorem dX10_meanOf_42 : decode cX10_meanOf 42 = .ok (.goto (-37), 3) := by decide +kernel
theorem dX10_meanOf_45 : decode cX10_meanOf 45 = .ok (.lload_n 2, 1) := by decide +kernel
theorem dX10_meanOf_46 : decode cX10_meanOf 46 = .ok (.lreturn, 1) := by decide +kernel
def tX10_meanOf (g : ax_G) : Nat → ax_O := ax_nd 23 (ax_nd 8 (ax_nd 2 (ax_nd 0 (ax_lf 0 (ao_lc (0) 1)) (ax_nd 1 (ax_lf 1 (ao_ls 2 1)) (ax_lf 2 (ao_ic (0) 1)))) (ax_nd 5 (ax_nd 3 (ax_lf 3 (ao_is 4 2)) (ax_lf 5 (ao_il 4 2))) (ax_nd 7 (ax_lf 7 (ao_al 0 1)) (ax_lf 8 (ao_gi 10 26))))) (ax_nd 16 (ax_nd 14 (ax_nd 11 (ax_lf 11 (ao_icmp_ge 45)) (ax_lf 14 (ao_ll 2 1))) (ax_nd 15 (ax_lf 15 (ao_al 0 1)) (ax_lf 16 (ao_gr 10 31)))) (ax_nd 21 (ax_nd 19 (ax_lf 19 (ao_il 4 2)) (ax_lf 21 ao_iald)) (ax_nd 22 (ax_lf 22 ao_i2l) (ax_lf 23 (ao_al 0 1)))))) (ax_nd 34 (ax_nd 29 (ax_nd 24 (ax_lf 24 (ao_gr 10 30)) (ax_nd 27 (ax_lf 27 (ao_ic (12) 2)) (ax_lf 29 (ao_il 1 1)))) (ax_nd 31 (ax_nd 30 (ax_lf 30 ao_imul) (ax_lf 31 (ao_il 4 2))) (ax_nd 33 (ax_lf 33 ao_iadd) (ax_lf 34 ao_iald)))) (ax_nd 38 (ax_nd 36 (ax_nd 35 (ax_lf 35 ao_i2l) (ax_lf 36 ao_lmul)) (ax_nd 37 (ax_lf 37 ao_ladd) (ax_lf 38 (ao_ls 2 1)))) (ax_nd 42 (ax_nd 39 (ax_lf 39 (ao_iinc 4 (1))) (ax_lf 42 (ao_goto 5))) (ax_nd 45 (ax_lf 45 (ao_ll 2 1)) (ax_lf 46 (ao_lret 0 0))))))
theorem oX10_meanOf (g : ax_G) : ∀ pc, ax_ok g cX10_meanOf 5 (some .long) RX10 "meanOf" 1 0 0 pc (tX10_meanOf g pc) := ax_nd_ok (ax_nd_ok (ax_nd_ok (ax_nd_ok (ax_lf_ok (ak_lconst (by decide) dX10_meanOf_0)) (ax_nd_ok (ax_lf_ok (ak_lstore_n rfl (by decide) dX10_meanOf_1)) (ax_lf_ok (ak_iconst (by decide) dX10_meanOf_2)))) (ax_nd_ok (ax_nd_ok (ax_lf_ok (ak_istore (by decide) dX10_meanOf_3)) (ax_lf_ok (ak_iload dX10_meanOf_5))) (ax_nd_ok (ax_lf_ok (ak_aload_n rfl dX10_meanOf_7)) (ax_lf_ok (ak_gi fF_X10_263 dX10_meanOf_8))))) (ax_nd_ok (ax_nd_ok (ax_nd_ok (ax_lf_ok (ak_icmp_ge (by decide) dX10_meanOf_11)) (ax_lf_ok (ak_lload_n rfl dX10_meanOf_14))) (ax_nd_ok (ax_lf_ok (ak_aload_n rfl dX10_meanOf_15)) (ax_lf_ok (ak_gr fF_X10_56 dX10_meanOf_16)))) (ax_nd_ok (ax_nd_ok (ax_lf_ok (ak_iload dX10_meanOf_19)) (ax_lf_ok (ak_iald dX10_meanOf_21))) (ax_nd_ok (ax_lf_ok (ak_i2l dX10_meanOf_22)) (ax_lf_ok (ak_aload_n rfl dX10_meanOf_23)))))) (ax_nd_ok (ax_nd_ok (ax_nd_ok (ax_lf_ok (ak_gr fF_X10_53 dX10_meanOf_24)) (ax_nd_ok (ax_lf_ok (ak_bipush (by decide) dX10_meanOf_27)) (ax_lf_ok (ak_iload_n rfl dX10_meanOf_29)))) (ax_nd_ok (ax_nd_ok (ax_lf_ok (ak_imul dX10_meanOf_30)) (ax_lf_ok (ak_iload dX10_meanOf_31))) (ax_nd_ok (ax_lf_ok (ak_iadd dX10_meanOf_33)) (ax_lf_ok (ak_iald dX10_meanOf_34))))) (ax_nd_ok (ax_nd_ok (ax_nd_ok (ax_lf_ok (ak_i2l dX10_meanOf_35)) (ax_lf_ok (ak_lmul dX10_meanOf_36))) (ax_nd_ok (ax_lf_ok (ak_ladd dX10_meanOf_37)) (ax_lf_ok (ak_lstore_n rfl (by decide) dX10_meanOf_38)))) (ax_nd_ok (ax_nd_ok (ax_lf_ok (ak_iinc (by decide) (by decide) dX10_meanOf_39)) (ax_lf_ok (ak_goto (by decide) dX10_meanOf_42))) (ax_nd_ok (ax_lf_ok (ak_lload_n rfl dX10_meanOf_45)) (ax_lf_ok (ak_lret rfl dX10_meanOf_46))))))
abbrev mX10_meanOf (g : ax_G) (as : List Value) (h : ax_H) (Ret : Option Value → ax_H → Prop) : Prop := ax_M g 1 0 0 yX10_meanOf cX10_meanOf 5 (some .long) as h Ret
end
