section
theorem dX9_ruling_0 : decode cX9_ruling 0 = .ok (.aload_n 0, 1) := by decide +kernel
theorem dX9_ruling_1 : decode cX9_ruling 1 = .ok (.iload_n 1, 1) := by decide +kernel
theorem dX9_ruling_2 : decode cX9_ruling 2 = .ok (.invokevirtual 99, 3) := by decide +kernel
theorem dX9_ruling_5 : decode cX9_ruling 5 = .ok (.astore_n 3, 1) := by decide +kernel
theorem dX9_ruling_6 : decode cX9_ruling 6 = .ok (.aload_n 3, 1) := by decide +kernel
theorem dX9_ruling_7 : decode cX9_ruling 7 = .ok (.ifnull 12, 3) := by decide +kernel
theorem dX9_ruling_10 : decode cX9_ruling 10 = .ok (.iload_n 2, 1) := by decide +kernel
theorem dX9_ruling_11 : decode cX9_ruling 11 = .ok (.ifCond .lt 8, 3) := by decide +kernel
theorem dX9_ruling_14 : decode cX9_ruling 14 = .ok (.iload_n 2, 1) := by decide +kernel
theorem dX9_ruling_15 : decode cX9_ruling 15 = .ok (.iconst 3, 1) := by decide +kernel
theorem dX9_ruling_16 : decode cX9_ruling 16 = .ok (.if_icmp .le 6, 3) := by decide +kernel
theorem dX9_ruling_19 : decode cX9_ruling 19 = .ok (.ldc 145, 2) := by decide +kernel
theorem dX9_ruling_21 : decode cX9_ruling 21 = .ok (.ireturn, 1) := by decide +kernel
theorem dX9_ruling_22 : decode cX9_ruling 22 = .ok (.lconst 0, 1) := by decide +kernel
theorem dX9_ruling_23 : decode cX9_ruling 23 = .ok (.lstore 4, 2) := by decide +kernel
theorem dX9_ruling_25 : decode cX9_ruling 25 = .ok (.iconst 0, 1) := by decide +kernel
theorem dX9_ruling_26 : decode cX9_ruling 26 = .ok (.istore 6, 2) := by decide +kernel
theorem dX9_ruling_28 : decode cX9_ruling 28 = .ok (.iload 6, 2) := by decide +kernel
theorem dX9_ruling_30 : decode cX9_ruling 30 = .ok (.aload_n 3, 1) := by decide +kernel
theorem dX9_ruling_31 : decode cX9_ruling 31 = .ok (.getfield 115, 3) := by decide +kernel
theorem dX9_ruling_34 : decode cX9_ruling 34 = .ok (.if_icmp .ge 27, 3) := by decide +kernel
theorem dX9_ruling_37 : decode cX9_ruling 37 = .ok (.lload 4, 2) := by decide +kernel
theorem dX9_ruling_39 : decode cX9_ruling 39 = .ok (.aload_n 0, 1) := by decide +kernel
theorem dX9_ruling_40 : decode cX9_ruling 40 = .ok (.getfield 36, 3) := by decide +kernel
theorem dX9_ruling_43 : decode cX9_ruling 43 = .ok (.iload 6, 2) := by decide +kernel
theorem dX9_ruling_45 : decode cX9_ruling 45 = .ok (.aload_n 0, 1) := by decide +kernel
theorem dX9_ruling_46 : decode cX9_ruling 46 = .ok (.getfield 43, 3) := by decide +kernel
theorem dX9_ruling_49 : decode cX9_ruling 49 = .ok (.invokevirtual 194, 3) := by decide +kernel
theorem dX9_ruling_52 : decode cX9_ruling 52 = .ok (.ladd, 1) := by decide +kernel
theorem dX9_ruling_53 : decode cX9_ruling 53 = .ok (.lstore 4, 2) := by decide +kernel
theorem dX9_ruling_55 : decode cX9_ruling 55 = .ok (.iinc 6 1, 3) := by decide +kernel
theorem dX9_ruling_58 : decode cX9_ruling 58 = .ok (.goto (-30), 3) := by decide +kernel
theorem dX9_ruling_61 : decode cX9_ruling 61 = .ok (.iconst 0, 1) := by decide +kernel
theorem dX9_ruling_62 : decode cX9_ruling 62 = .ok (.istore 6, 2) := by decide +kernel
theorem dX9_ruling_64 : decode cX9_ruling 64 = .ok (.iconst 0, 1) := by decide +kernel
theorem dX9_ruling_65 : decode cX9_ruling 65 = .ok (.istore 7, 2) := by decide +kernel
theorem dX9_ruling_67 : decode cX9_ruling 67 = .ok (.lload 4, 2) := by decide +kernel
theorem dX9_ruling_69 : decode cX9_ruling 69 = .ok (.aload_n 0, 1) := by decide +kernel
theorem dX9_ruling_70 : decode cX9_ruling 70 = .ok (.aload_n 3, 1) := by decide +kernel
theorem dX9_ruling_71 : decode cX9_ruling 71 = .ok (.iconst 0, 1) := by decide +kernel
theorem dX9_ruling_72 : decode cX9_ruling 72 = .ok (.iconst 0, 1) := by decide +kernel
theorem dX9_ruling_73 : decode cX9_ruling 73 = .ok (.invokevirtual 288, 3) := by decide +kernel
theorem dX9_ruling_76 : decode cX9_ruling 76 = .ok (.ladd, 1) := by decide +kernel
theorem dX9_ruling_77 : decode cX9_ruling 77 = .ok (.lstore 8, 2) := by decide +kernel
theorem dX9_ruling_79 : decode cX9_ruling 79 = .ok (.iconst 0, 1) := by decide +kernel
theorem dX9_ruling_80 : decode cX9_ruling 80 = .ok (.istore 10, 2) := by decide +kernel
theorem dX9_ruling_82 : decode cX9_ruling 82 = .ok (.iload 10, 2) := by decide +kernel
theorem dX9_ruling_84 : decode cX9_ruling 84 = .ok (.bipush 6, 2) := by decide +kernel
theorem dX9_ruling_86 : decode cX9_ruling 86 = .ok (.if_icmp .ge 58, 3) := by decide +kernel
theorem dX9_ruling_89 : decode cX9_ruling 89 = .ok (.iconst 0, 1) := by decide +kernel
theorem dX9_ruling_90 : decode cX9_ruling 90 = .ok (.istore 11, 2) := by decide +kernel
theorem dX9_ruling_92 : decode cX9_ruling 92 = .ok (.iload 11, 2) := by decide +kernel
theorem dX9_ruling_94 : decode cX9_ruling 94 = .ok (.iconst 3, 1) := by decide +kernel
theorem dX9_ruling_95 : decode cX9_ruling 95 = .ok (.if_icmp .ge 43, 3) := by decide +kernel
theorem dX9_ruling_98 : decode cX9_ruling 98 = .ok (.lload 4, 2) := by decide +kernel
theorem dX9_ruling_100 : decode cX9_ruling 100 = .ok (.aload_n 0, 1) := by decide +kernel
theorem dX9_ruling_101 : decode cX9_ruling 101 = .ok (.aload_n 3, 1) := by decide +kernel
theorem dX9_ruling_102 : decode cX9_ruling 102 = .ok (.iload 10, 2) := by decide +kernel
theorem dX9_ruling_104 : decode cX9_ruling 104 = .ok (.iload 11, 2) := by decide +kernel
theorem dX9_ruling_106 : decode cX9_ruling 106 = .ok (.invokevirtual 288, 3) := by decide +kernel
theorem dX9_ruling_109 : decode cX9_ruling 109 = .ok (.ladd, 1) := by decide +kernel
theorem dX9_ruling_110 : decode cX9_ruling 110 = .ok (.lstore 12, 2) := by decide +kernel
theorem dX9_ruling_112 : decode cX9_ruling 112 = .ok (.lload 12, 2) := by decide +kernel
theorem dX9_ruling_114 : decode cX9_ruling 114 = .ok (.lload 8, 2) := by decide +kernel
theorem dX9_ruling_116 : decode cX9_ruling 116 = .ok (.lcmp, 1) := by decide +kernel
theorem dX9_ruling_117 : decode cX9_ruling 117 = .ok (.ifCond .le 15, 3) := by decide +kernel
theorem dX9_ruling_120 : decode cX9_ruling 120 = .ok (.lload 12, 2) := by decide +kernel
theorem dX9_ruling_122 : decode cX9_ruling 122 = .ok (.lstore 8, 2) := by decide +kernel
theorem dX9_ruling_124 : decode cX9_ruling 124 = .ok (.iload 10, 2) := by decide +kernel
theorem dX9_ruling_126 : decode cX9_ruling 126 = .ok (.istore 6, 2) := by decide +kernel
theorem dX9_ruling_128 : decode cX9_ruling 128 = .ok (.iload 11, 2) := by decide +kernel
theorem dX9_ruling_130 : decode cX9_ruling 130 = .ok (.istore 7, 2) := by decide +kernel
theorem dX9_ruling_132 : decode cX9_ruling 132 = .ok (.iinc 11 1, 3) := by decide +kernel
theorem dX9_ruling_135 : decode cX9_ruling 135 = .ok (.goto (-43), 3) := by decide +kernel
theorem dX9_ruling_138 : decode cX9_ruling 138 = .ok (.iinc 10 1, 3) := by decide +kernel
theorem dX9_ruling_141 : decode cX9_ruling 141 = .ok (.goto (-59), 3) := by decide +kernel
theorem dX9_ruling_144 : decode cX9_ruling 144 = .ok (.iload_n 2, 1) := by decide +kernel
theorem dX9_ruling_145 : decode cX9_ruling 145 = .ok (.iconst 2, 1) := by decide +kernel
theorem dX9_ruling_146 : decode cX9_ruling 146 = .ok (.if_icmp .ge 15, 3) := by decide +kernel
theorem dX9_ruling_149 : decode cX9_ruling 149 = .ok (.iload_n 2, 1) := by decide +kernel
theorem dX9_ruling_150 : decode cX9_ruling 150 = .ok (.ifCond .ne 8, 3) := by decide +kernel
theorem dX9_ruling_153 : decode cX9_ruling 153 = .ok (.iload 6, 2) := by decide +kernel
theorem dX9_ruling_155 : decode cX9_ruling 155 = .ok (.goto 5, 3) := by decide +kernel
theorem dX9_ruling_158 : decode cX9_ruling 158 = .ok (.iload 7, 2) := by decide +kernel
theorem dX9_ruling_160 : decode cX9_ruling 160 = .ok (.ireturn, 1) := by decide +kernel
theorem dX9_ruling_161 : decode cX9_ruling 161 = .ok (.lload 8, 2) := by decide +kernel
theorem dX9_ruling_163 : decode cX9_ruling 163 = .ok (.aload_n 0, 1) := by decide +kernel
theorem dX9_ruling_164 : decode cX9_ruling 164 = .ok (.getfield 43, 3) := by decide +kernel
theorem dX9_ruling_167 : decode cX9_ruling 167 = .ok (.getfield 152, 3) := by decide +kernel
theorem dX9_ruling_170 : decode cX9_ruling 170 = .ok (.i2l, 1) := by decide +kernel
theorem dX9_ruling_171 : decode cX9_ruling 171 = .ok (.iload_n 2, 1) := by decide +kernel
theorem dX9_ruling_172 : decode cX9_ruling 172 = .ok (.iconst 3, 1) := by decide +kernel
theorem dX9_ruling_173 : decode cX9_ruling 173 = .ok (.if_icmp .ne 7, 3) := by decide +kernel
theorem dX9_ruling_176 : decode cX9_ruling 176 = .ok (.iconst 1, 1) := by decide +kernel
theorem dX9_ruling_177 : decode cX9_ruling 177 = .ok (.goto 4, 3) := by decide +kernel
theorem dX9_ruling_180 : decode cX9_ruling 180 = .ok (.iconst 0, 1) := by decide +kernel
theorem dX9_ruling_181 : decode cX9_ruling 181 = .ok (.invokestatic 155, 3) := by decide +kernel
theorem dX9_ruling_184 : decode cX9_ruling 184 = .ok (.l2i, 1) := by decide +kernel
theorem dX9_ruling_185 : decode cX9_ruling 185 = .ok (.ireturn, 1) := by decide +kernel
def tX9_ruling (g : ax_G) : Nat → ax_O := ax_nd 86 (ax_nd 40 (ax_nd 19 (ax_nd 7 (ax_nd 2 (ax_nd 0 (ax_lf 0 (ao_al 0 1)) (ax_nd 1 (ax_lf 1 (ao_il 1 1)) (ax_lf 2 (ao_inv g 5 9 3 yX9_begun cX9_begun 3 (some (.object "GluedHour$Republic")) 2 0 0 0 0)))) (ax_nd 5 (ax_lf 5 (ao_as 3 1)) (ax_nd 6 (ax_lf 6 (ao_al 3 1)) (ax_lf 7 (ao_ifnull 19))))) (ax_nd 14 (ax_nd 10 (ax_lf 10 (ao_il 2 1)) (ax_nd 11 (ax_lf 11 (ao_if_lt 19)) (ax_lf 14 (ao_il 2 1)))) (ax_nd 15 (ax_lf 15 (ao_ic (3) 1)) (ax_nd 16 (ax_lf 16 (ao_icmp_le 22)) (ax_lf 19 (ao_ic (-1000000) 2)))))) (ax_nd 28 (ax_nd 23 (ax_nd 21 (ax_lf 21 (ao_iret 0 0)) (ax_nd 22 (ax_lf 22 (ao_lc (0) 1)) (ax_lf 23 (ao_ls 4 2)))) (ax_nd 25 (ax_lf 25 (ao_ic (0) 1)) (ax_nd 26 (ax_lf 26 (ao_is 6 2)) (ax_lf 28 (ao_il 6 2))))) (ax_nd 34 (ax_nd 30 (ax_lf 30 (ao_al 3 1)) (ax_nd 31 (ax_lf 31 (ao_gi 6 6)) (ax_lf 34 (ao_icmp_ge 61)))) (ax_nd 37 (ax_lf 37 (ao_ll 4 2)) (ax_nd 39 (ax_lf 39 (ao_al 0 1)) (ax_lf 40 (ao_gr 9 3))))))) (ax_nd 65 (ax_nd 53 (ax_nd 46 (ax_nd 43 (ax_lf 43 (ao_il 6 2)) (ax_nd 45 (ax_lf 45 (ao_al 0 1)) (ax_lf 46 (ao_gr 9 4)))) (ax_nd 49 (ax_lf 49 (ao_inv g 2 0 2 yX0_weighed cX0_weighed 6 (some .long) 3 0 0 0 0)) (ax_nd 52 (ax_lf 52 ao_ladd) (ax_lf 53 (ao_ls 4 2))))) (ax_nd 61 (ax_nd 55 (ax_lf 55 (ao_iinc 6 (1))) (ax_nd 58 (ax_lf 58 (ao_goto 28)) (ax_lf 61 (ao_ic (0) 1)))) (ax_nd 62 (ax_lf 62 (ao_is 6 2)) (ax_nd 64 (ax_lf 64 (ao_ic (0) 1)) (ax_lf 65 (ao_is 7 2)))))) (ax_nd 73 (ax_nd 70 (ax_nd 67 (ax_lf 67 (ao_ll 4 2)) (ax_nd 69 (ax_lf 69 (ao_al 0 1)) (ax_lf 70 (ao_al 3 1)))) (ax_nd 71 (ax_lf 71 (ao_ic (0) 1)) (ax_nd 72 (ax_lf 72 (ao_ic (0) 1)) (ax_lf 73 (ao_inv g 4 9 2 yX9_changeBy cX9_changeBy 8 (some .long) 4 0 0 0 0))))) (ax_nd 79 (ax_nd 76 (ax_lf 76 ao_ladd) (ax_nd 77 (ax_lf 77 (ao_ls 8 2)) (ax_lf 79 (ao_ic (0) 1)))) (ax_nd 82 (ax_nd 80 (ax_lf 80 (ao_is 10 2)) (ax_lf 82 (ao_il 10 2))) (ax_nd 84 (ax_lf 84 (ao_ic (6) 2)) (ax_lf 86 (ao_icmp_ge 144)))))))) (ax_nd 135 (ax_nd 109 (ax_nd 98 (ax_nd 92 (ax_nd 89 (ax_lf 89 (ao_ic (0) 1)) (ax_nd 90 (ax_lf 90 (ao_is 11 2)) (ax_lf 92 (ao_il 11 2)))) (ax_nd 94 (ax_lf 94 (ao_ic (3) 1)) (ax_nd 95 (ax_lf 95 (ao_icmp_ge 138)) (ax_lf 98 (ao_ll 4 2))))) (ax_nd 102 (ax_nd 100 (ax_lf 100 (ao_al 0 1)) (ax_nd 101 (ax_lf 101 (ao_al 3 1)) (ax_lf 102 (ao_il 10 2)))) (ax_nd 104 (ax_lf 104 (ao_il 11 2)) (ax_nd 106 (ax_lf 106 (ao_inv g 4 9 2 yX9_changeBy cX9_changeBy 8 (some .long) 4 0 0 0 0)) (ax_lf 109 ao_ladd))))) (ax_nd 120 (ax_nd 114 (ax_nd 110 (ax_lf 110 (ao_ls 12 2)) (ax_nd 112 (ax_lf 112 (ao_ll 12 2)) (ax_lf 114 (ao_ll 8 2)))) (ax_nd 116 (ax_lf 116 ao_lcmp) (ax_nd 117 (ax_lf 117 (ao_if_le 132)) (ax_lf 120 (ao_ll 12 2))))) (ax_nd 126 (ax_nd 122 (ax_lf 122 (ao_ls 8 2)) (ax_nd 124 (ax_lf 124 (ao_il 10 2)) (ax_lf 126 (ao_is 6 2)))) (ax_nd 130 (ax_nd 128 (ax_lf 128 (ao_il 11 2)) (ax_lf 130 (ao_is 7 2))) (ax_nd 132 (ax_lf 132 (ao_iinc 11 (1))) (ax_lf 135 (ao_goto 92))))))) (ax_nd 161 (ax_nd 149 (ax_nd 144 (ax_nd 138 (ax_lf 138 (ao_iinc 10 (1))) (ax_nd 141 (ax_lf 141 (ao_goto 82)) (ax_lf 144 (ao_il 2 1)))) (ax_nd 145 (ax_lf 145 (ao_ic (2) 1)) (ax_nd 146 (ax_lf 146 (ao_icmp_ge 161)) (ax_lf 149 (ao_il 2 1))))) (ax_nd 155 (ax_nd 150 (ax_lf 150 (ao_if_ne 158)) (ax_nd 153 (ax_lf 153 (ao_il 6 2)) (ax_lf 155 (ao_goto 160)))) (ax_nd 158 (ax_lf 158 (ao_il 7 2)) (ax_nd 160 (ax_lf 160 (ao_iret 0 0)) (ax_lf 161 (ao_ll 8 2)))))) (ax_nd 172 (ax_nd 167 (ax_nd 163 (ax_lf 163 (ao_al 0 1)) (ax_nd 164 (ax_lf 164 (ao_gr 9 4)) (ax_lf 167 (ao_gi 3 2)))) (ax_nd 170 (ax_lf 170 ao_i2l) (ax_nd 171 (ax_lf 171 (ao_il 2 1)) (ax_lf 172 (ao_ic (3) 1))))) (ax_nd 177 (ax_nd 173 (ax_lf 173 (ao_icmp_ne 180)) (ax_nd 176 (ax_lf 176 (ao_ic (1) 1)) (ax_lf 177 (ao_goto 181)))) (ax_nd 181 (ax_nd 180 (ax_lf 180 (ao_ic (0) 1)) (ax_lf 181 (ao_inv g 2 99 2 yX1_side cX1_side 7 (some .long) 3 0 0 0 0))) (ax_nd 184 (ax_lf 184 ao_l2i) (ax_lf 185 (ao_iret 0 0))))))))
theorem oX9_ruling (g : ax_G) : ∀ pc, ax_ok g cX9_ruling 14 (some .int) RX9 "ruling" 6 0 0 pc (tX9_ruling g pc) := ax_nd_ok (ax_nd_ok (ax_nd_ok (ax_nd_ok (ax_nd_ok (ax_nd_ok (ax_lf_ok (ak_aload_n rfl dX9_ruling_0)) (ax_nd_ok (ax_lf_ok (ak_iload_n rfl dX9_ruling_1)) (ax_lf_ok (ak_invV (by decide) (by decide) (by decide) rfl wd_645 wd_647 wd_13 wd_96 wd_648 ⟨by decide, by decide, by decide +kernel⟩ dX9_ruling_2)))) (ax_nd_ok (ax_lf_ok (ak_astore_n rfl (by decide) dX9_ruling_5)) (ax_nd_ok (ax_lf_ok (ak_aload_n rfl dX9_ruling_6)) (ax_lf_ok (ak_ifnull (by decide) dX9_ruling_7))))) (ax_nd_ok (ax_nd_ok (ax_lf_ok (ak_iload_n rfl dX9_ruling_10)) (ax_nd_ok (ax_lf_ok (ak_if_lt (by decide) dX9_ruling_11)) (ax_lf_ok (ak_iload_n rfl dX9_ruling_14)))) (ax_nd_ok (ax_lf_ok (ak_iconst (by decide) dX9_ruling_15)) (ax_nd_ok (ax_lf_ok (ak_icmp_le (by decide) dX9_ruling_16)) (ax_lf_ok (ak_ldc wd_720 dX9_ruling_19)))))) (ax_nd_ok (ax_nd_ok (ax_nd_ok (ax_lf_ok (ak_iret rfl dX9_ruling_21)) (ax_nd_ok (ax_lf_ok (ak_lconst (by decide) dX9_ruling_22)) (ax_lf_ok (ak_lstore (by decide) dX9_ruling_23)))) (ax_nd_ok (ax_lf_ok (ak_iconst (by decide) dX9_ruling_25)) (ax_nd_ok (ax_lf_ok (ak_istore (by decide) dX9_ruling_26)) (ax_lf_ok (ak_iload dX9_ruling_28))))) (ax_nd_ok (ax_nd_ok (ax_lf_ok (ak_aload_n rfl dX9_ruling_30)) (ax_nd_ok (ax_lf_ok (ak_gi fF_X9_115 dX9_ruling_31)) (ax_lf_ok (ak_icmp_ge (by decide) dX9_ruling_34)))) (ax_nd_ok (ax_lf_ok (ak_lload dX9_ruling_37)) (ax_nd_ok (ax_lf_ok (ak_aload_n rfl dX9_ruling_39)) (ax_lf_ok (ak_gr fF_X9_36 dX9_ruling_40))))))) (ax_nd_ok (ax_nd_ok (ax_nd_ok (ax_nd_ok (ax_lf_ok (ak_iload dX9_ruling_43)) (ax_nd_ok (ax_lf_ok (ak_aload_n rfl dX9_ruling_45)) (ax_lf_ok (ak_gr fF_X9_43 dX9_ruling_46)))) (ax_nd_ok (ax_lf_ok (ak_invV (by decide) (by decide) (by decide) rfl wd_788 wd_789 wd_790 wd_101 wd_791 ⟨by decide, by decide, by decide +kernel⟩ dX9_ruling_49)) (ax_nd_ok (ax_lf_ok (ak_ladd dX9_ruling_52)) (ax_lf_ok (ak_lstore (by decide) dX9_ruling_53))))) (ax_nd_ok (ax_nd_ok (ax_lf_ok (ak_iinc (by decide) (by decide) dX9_ruling_55)) (ax_nd_ok (ax_lf_ok (ak_goto (by decide) dX9_ruling_58)) (ax_lf_ok (ak_iconst (by decide) dX9_ruling_61)))) (ax_nd_ok (ax_lf_ok (ak_istore (by decide) dX9_ruling_62)) (ax_nd_ok (ax_lf_ok (ak_iconst (by decide) dX9_ruling_64)) (ax_lf_ok (ak_istore (by decide) dX9_ruling_65)))))) (ax_nd_ok (ax_nd_ok (ax_nd_ok (ax_lf_ok (ak_lload dX9_ruling_67)) (ax_nd_ok (ax_lf_ok (ak_aload_n rfl dX9_ruling_69)) (ax_lf_ok (ak_aload_n rfl dX9_ruling_70)))) (ax_nd_ok (ax_lf_ok (ak_iconst (by decide) dX9_ruling_71)) (ax_nd_ok (ax_lf_ok (ak_iconst (by decide) dX9_ruling_72)) (ax_lf_ok (ak_invV (by decide) (by decide) (by decide) rfl wd_1012 wd_1014 wd_22 wd_96 wd_1015 ⟨by decide, by decide, by decide +kernel⟩ dX9_ruling_73))))) (ax_nd_ok (ax_nd_ok (ax_lf_ok (ak_ladd dX9_ruling_76)) (ax_nd_ok (ax_lf_ok (ak_lstore (by decide) dX9_ruling_77)) (ax_lf_ok (ak_iconst (by decide) dX9_ruling_79)))) (ax_nd_ok (ax_nd_ok (ax_lf_ok (ak_istore (by decide) dX9_ruling_80)) (ax_lf_ok (ak_iload dX9_ruling_82))) (ax_nd_ok (ax_lf_ok (ak_bipush (by decide) dX9_ruling_84)) (ax_lf_ok (ak_icmp_ge (by decide) dX9_ruling_86)))))))) (ax_nd_ok (ax_nd_ok (ax_nd_ok (ax_nd_ok (ax_nd_ok (ax_lf_ok (ak_iconst (by decide) dX9_ruling_89)) (ax_nd_ok (ax_lf_ok (ak_istore (by decide) dX9_ruling_90)) (ax_lf_ok (ak_iload dX9_ruling_92)))) (ax_nd_ok (ax_lf_ok (ak_iconst (by decide) dX9_ruling_94)) (ax_nd_ok (ax_lf_ok (ak_icmp_ge (by decide) dX9_ruling_95)) (ax_lf_ok (ak_lload dX9_ruling_98))))) (ax_nd_ok (ax_nd_ok (ax_lf_ok (ak_aload_n rfl dX9_ruling_100)) (ax_nd_ok (ax_lf_ok (ak_aload_n rfl dX9_ruling_101)) (ax_lf_ok (ak_iload dX9_ruling_102)))) (ax_nd_ok (ax_lf_ok (ak_iload dX9_ruling_104)) (ax_nd_ok (ax_lf_ok (ak_invV (by decide) (by decide) (by decide) rfl wd_1012 wd_1014 wd_22 wd_96 wd_1015 ⟨by decide, by decide, by decide +kernel⟩ dX9_ruling_106)) (ax_lf_ok (ak_ladd dX9_ruling_109)))))) (ax_nd_ok (ax_nd_ok (ax_nd_ok (ax_lf_ok (ak_lstore (by decide) dX9_ruling_110)) (ax_nd_ok (ax_lf_ok (ak_lload dX9_ruling_112)) (ax_lf_ok (ak_lload dX9_ruling_114)))) (ax_nd_ok (ax_lf_ok (ak_lcmp dX9_ruling_116)) (ax_nd_ok (ax_lf_ok (ak_if_le (by decide) dX9_ruling_117)) (ax_lf_ok (ak_lload dX9_ruling_120))))) (ax_nd_ok (ax_nd_ok (ax_lf_ok (ak_lstore (by decide) dX9_ruling_122)) (ax_nd_ok (ax_lf_ok (ak_iload dX9_ruling_124)) (ax_lf_ok (ak_istore (by decide) dX9_ruling_126)))) (ax_nd_ok (ax_nd_ok (ax_lf_ok (ak_iload dX9_ruling_128)) (ax_lf_ok (ak_istore (by decide) dX9_ruling_130))) (ax_nd_ok (ax_lf_ok (ak_iinc (by decide) (by decide) dX9_ruling_132)) (ax_lf_ok (ak_goto (by decide) dX9_ruling_135))))))) (ax_nd_ok (ax_nd_ok (ax_nd_ok (ax_nd_ok (ax_lf_ok (ak_iinc (by decide) (by decide) dX9_ruling_138)) (ax_nd_ok (ax_lf_ok (ak_goto (by decide) dX9_ruling_141)) (ax_lf_ok (ak_iload_n rfl dX9_ruling_144)))) (ax_nd_ok (ax_lf_ok (ak_iconst (by decide) dX9_ruling_145)) (ax_nd_ok (ax_lf_ok (ak_icmp_ge (by decide) dX9_ruling_146)) (ax_lf_ok (ak_iload_n rfl dX9_ruling_149))))) (ax_nd_ok (ax_nd_ok (ax_lf_ok (ak_if_ne (by decide) dX9_ruling_150)) (ax_nd_ok (ax_lf_ok (ak_iload dX9_ruling_153)) (ax_lf_ok (ak_goto (by decide) dX9_ruling_155)))) (ax_nd_ok (ax_lf_ok (ak_iload dX9_ruling_158)) (ax_nd_ok (ax_lf_ok (ak_iret rfl dX9_ruling_160)) (ax_lf_ok (ak_lload dX9_ruling_161)))))) (ax_nd_ok (ax_nd_ok (ax_nd_ok (ax_lf_ok (ak_aload_n rfl dX9_ruling_163)) (ax_nd_ok (ax_lf_ok (ak_gr fF_X9_43 dX9_ruling_164)) (ax_lf_ok (ak_gi fF_X9_152 dX9_ruling_167)))) (ax_nd_ok (ax_lf_ok (ak_i2l dX9_ruling_170)) (ax_nd_ok (ax_lf_ok (ak_iload_n rfl dX9_ruling_171)) (ax_lf_ok (ak_iconst (by decide) dX9_ruling_172))))) (ax_nd_ok (ax_nd_ok (ax_lf_ok (ak_icmp_ne (by decide) dX9_ruling_173)) (ax_nd_ok (ax_lf_ok (ak_iconst (by decide) dX9_ruling_176)) (ax_lf_ok (ak_goto (by decide) dX9_ruling_177)))) (ax_nd_ok (ax_nd_ok (ax_lf_ok (ak_iconst (by decide) dX9_ruling_180)) (ax_lf_ok (ak_invS (by decide) (by decide) wd_729 wd_730 wd_105 wd_731 ⟨by decide, by decide, by decide +kernel⟩ dX9_ruling_181))) (ax_nd_ok (ax_lf_ok (ak_l2i dX9_ruling_184)) (ax_lf_ok (ak_iret rfl dX9_ruling_185))))))))
abbrev mX9_ruling (g : ax_G) (as : List Value) (h : ax_H) (Ret : Option Value → ax_H → Prop) : Prop := ax_M g 6 0 0 yX9_ruling cX9_ruling 14 (some .int) as h Ret
theorem dX9_trust_0 : decode cX9_trust 0 = .ok (.aload_n 0, 1) := by decide +kernel
theorem dX9_trust_1 : decode cX9_trust 1 = .ok (.iload_n 1, 1) := by decide +kernel
theorem dX9_trust_2 : decode cX9_trust 2 = .ok (.invokevirtual 99, 3) := by decide +kernel
theorem dX9_trust_5 : decode cX9_trust 5 = .ok (.astore 4, 2) := by decide +kernel
theorem dX9_trust_7 : decode cX9_trust 7 = .ok (.aload_n 0, 1) := by decide +kernel
theorem dX9_trust_8 : decode cX9_trust 8 = .ok (.getfield 10, 3) := by decide +kernel
theorem dX9_trust_11 : decode cX9_trust 11 = .ok (.iconst 3, 1) := by decide +kernel
theorem dX9_trust_12 : decode cX9_trust 12 = .ok (.iload_n 2, 1) := by decide +kernel
theorem dX9_trust_13 : decode cX9_trust 13 = .ok (.invokevirtual 159, 3) := by decide +kernel
theorem dX9_trust_16 : decode cX9_trust 16 = .ok (.astore 5, 2) := by decide +kernel
theorem dX9_trust_18 : decode cX9_trust 18 = .ok (.aload 4, 2) := by decide +kernel
theorem dX9_trust_20 : decode cX9_trust 20 = .ok (.ifnull 8, 3) := by decide +kernel
theorem dX9_trust_23 : decode cX9_trust 23 = .ok (.aload 5, 2) := by decide +kernel
theorem dX9_trust_25 : decode cX9_trust 25 = .ok (.ifnonnull 5, 3) := by decide +kernel
theorem dX9_trust_28 : decode cX9_trust 28 = .ok (.iconst (-1), 1) := by decide +kernel
theorem dX9_trust_29 : decode cX9_trust 29 = .ok (.ireturn, 1) := by decide +kernel
theorem dX9_trust_30 : decode cX9_trust 30 = .ok (.lconst 0, 1) := by decide +kernel
theorem dX9_trust_31 : decode cX9_trust 31 = .ok (.lstore 6, 2) := by decide +kernel
theorem dX9_trust_33 : decode cX9_trust 33 = .ok (.iconst 0, 1) := by decide +kernel
theorem dX9_trust_34 : decode cX9_trust 34 = .ok (.istore 8, 2) := by decide +kernel
theorem dX9_trust_36 : decode cX9_trust 36 = .ok (.iload 8, 2) := by decide +kernel
theorem dX9_trust_38 : decode cX9_trust 38 = .ok (.aload 4, 2) := by decide +kernel
theorem dX9_trust_40 : decode cX9_trust 40 = .ok (.getfield 112, 3) := by decide +kernel
theorem dX9_trust_43 : decode cX9_trust 43 = .ok (.if_icmp .ge 39, 3) := by decide +kernel
theorem dX9_trust_46 : decode cX9_trust 46 = .ok (.lload 6, 2) := by decide +kernel
theorem dX9_trust_48 : decode cX9_trust 48 = .ok (.aload 5, 2) := by decide +kernel
theorem dX9_trust_50 : decode cX9_trust 50 = .ok (.iload 8, 2) := by decide +kernel
theorem dX9_trust_52 : decode cX9_trust 52 = .ok (.invokestatic 245, 3) := by decide +kernel
theorem dX9_trust_55 : decode cX9_trust 55 = .ok (.ifCond .eq 17, 3) := by decide +kernel
theorem dX9_trust_58 : decode cX9_trust 58 = .ok (.aload_n 0, 1) := by decide +kernel
theorem dX9_trust_59 : decode cX9_trust 59 = .ok (.getfield 43, 3) := by decide +kernel
theorem dX9_trust_62 : decode cX9_trust 62 = .ok (.getfield 149, 3) := by decide +kernel
theorem dX9_trust_65 : decode cX9_trust 65 = .ok (.iload 8, 2) := by decide +kernel
theorem dX9_trust_67 : decode cX9_trust 67 = .ok (.iaload, 1) := by decide +kernel
theorem dX9_trust_68 : decode cX9_trust 68 = .ok (.i2l, 1) := by decide +kernel
theorem dX9_trust_69 : decode cX9_trust 69 = .ok (.goto 4, 3) := by decide +kernel
theorem dX9_trust_72 : decode cX9_trust 72 = .ok (.lconst 0, 1) := by decide +kernel
theorem dX9_trust_73 : decode cX9_trust 73 = .ok (.ladd, 1) := by decide +kernel
theorem dX9_trust_74 : decode cX9_trust 74 = .ok (.lstore 6, 2) := by decide +kernel
theorem dX9_trust_76 : decode cX9_trust 76 = .ok (.iinc 8 1, 3) := by decide +kernel
theorem dX9_trust_79 : decode cX9_trust 79 = .ok (.goto (-43), 3) := by decide +kernel
theorem dX9_trust_82 : decode cX9_trust 82 = .ok (.lload 6, 2) := by decide +kernel
theorem dX9_trust_84 : decode cX9_trust 84 = .ok (.aload_n 0, 1) := by decide +kernel
theorem dX9_trust_85 : decode cX9_trust 85 = .ok (.getfield 43, 3) := by decide +kernel
theorem dX9_trust_88 : decode cX9_trust 88 = .ok (.getfield 152, 3) := by decide +kernel
theorem dX9_trust_91 : decode cX9_trust 91 = .ok (.i2l, 1) := by decide +kernel
theorem dX9_trust_92 : decode cX9_trust 92 = .ok (.iload_n 3, 1) := by decide +kernel
theorem dX9_trust_93 : decode cX9_trust 93 = .ok (.invokestatic 155, 3) := by decide +kernel
theorem dX9_trust_96 : decode cX9_trust 96 = .ok (.l2i, 1) := by decide +kernel
theorem dX9_trust_97 : decode cX9_trust 97 = .ok (.ireturn, 1) := by decide +kernel
def tX9_trust (g : ax_G) : Nat → ax_O := ax_nd 46 (ax_nd 20 (ax_nd 8 (ax_nd 2 (ax_nd 0 (ax_lf 0 (ao_al 0 1)) (ax_nd 1 (ax_lf 1 (ao_il 1 1)) (ax_lf 2 (ao_inv g 5 9 3 yX9_begun cX9_begun 3 (some (.object "GluedHour$Republic")) 2 0 0 0 0)))) (ax_nd 5 (ax_lf 5 (ao_as 4 2)) (ax_nd 7 (ax_lf 7 (ao_al 0 1)) (ax_lf 8 (ao_gr 9 0))))) (ax_nd 13 (ax_nd 11 (ax_lf 11 (ao_ic (3) 1)) (ax_nd 12 (ax_lf 12 (ao_il 2 1)) (ax_lf 13 (ao_inv g 1 8 3 yX8_linesAt cX8_linesAt 3 (some (.object "GluedHour$Lines")) 3 0 0 0 0)))) (ax_nd 16 (ax_lf 16 (ao_as 5 2)) (ax_nd 18 (ax_lf 18 (ao_al 4 2)) (ax_lf 20 (ao_ifnull 28)))))) (ax_nd 31 (ax_nd 28 (ax_nd 23 (ax_lf 23 (ao_al 5 2)) (ax_nd 25 (ax_lf 25 (ao_ifnonnull 30)) (ax_lf 28 (ao_ic (-1) 1)))) (ax_nd 29 (ax_lf 29 (ao_iret 0 0)) (ax_nd 30 (ax_lf 30 (ao_lc (0) 1)) (ax_lf 31 (ao_ls 6 2))))) (ax_nd 36 (ax_nd 33 (ax_lf 33 (ao_ic (0) 1)) (ax_nd 34 (ax_lf 34 (ao_is 8 2)) (ax_lf 36 (ao_il 8 2)))) (ax_nd 40 (ax_nd 38 (ax_lf 38 (ao_al 4 2)) (ax_lf 40 (ao_gi 6 5))) (ax_nd 43 (ax_lf 43 (ao_icmp_ge 82)) (ax_lf 46 (ao_ll 6 2))))))) (ax_nd 72 (ax_nd 59 (ax_nd 52 (ax_nd 48 (ax_lf 48 (ao_al 5 2)) (ax_nd 50 (ax_lf 50 (ao_il 8 2)) (ax_lf 52 (ao_inv g 4 99 1 yX9_keepsBy cX9_keepsBy 3 (some .boolean) 2 0 0 0 0)))) (ax_nd 55 (ax_lf 55 (ao_if_eq 72)) (ax_nd 58 (ax_lf 58 (ao_al 0 1)) (ax_lf 59 (ao_gr 9 4))))) (ax_nd 67 (ax_nd 62 (ax_lf 62 (ao_gr 3 0)) (ax_nd 65 (ax_lf 65 (ao_il 8 2)) (ax_lf 67 ao_iald))) (ax_nd 68 (ax_lf 68 ao_i2l) (ax_nd 69 (ax_lf 69 (ao_goto 73)) (ax_lf 72 (ao_lc (0) 1)))))) (ax_nd 84 (ax_nd 76 (ax_nd 73 (ax_lf 73 ao_ladd) (ax_nd 74 (ax_lf 74 (ao_ls 6 2)) (ax_lf 76 (ao_iinc 8 (1))))) (ax_nd 79 (ax_lf 79 (ao_goto 36)) (ax_nd 82 (ax_lf 82 (ao_ll 6 2)) (ax_lf 84 (ao_al 0 1))))) (ax_nd 91 (ax_nd 85 (ax_lf 85 (ao_gr 9 4)) (ax_nd 88 (ax_lf 88 (ao_gi 3 2)) (ax_lf 91 ao_i2l))) (ax_nd 93 (ax_nd 92 (ax_lf 92 (ao_il 3 1)) (ax_lf 93 (ao_inv g 2 99 2 yX1_side cX1_side 7 (some .long) 3 0 0 0 0))) (ax_nd 96 (ax_lf 96 ao_l2i) (ax_lf 97 (ao_iret 0 0)))))))
theorem oX9_trust (g : ax_G) : ∀ pc, ax_ok g cX9_trust 9 (some .int) RX9 "trust" 6 0 0 pc (tX9_trust g pc) := ax_nd_ok (ax_nd_ok (ax_nd_ok (ax_nd_ok (ax_nd_ok (ax_lf_ok (ak_aload_n rfl dX9_trust_0)) (ax_nd_ok (ax_lf_ok (ak_iload_n rfl dX9_trust_1)) (ax_lf_ok (ak_invV (by decide) (by decide) (by decide) rfl wd_645 wd_647 wd_13 wd_96 wd_648 ⟨by decide, by decide, by decide +kernel⟩ dX9_trust_2)))) (ax_nd_ok (ax_lf_ok (ak_astore (by decide) dX9_trust_5)) (ax_nd_ok (ax_lf_ok (ak_aload_n rfl dX9_trust_7)) (ax_lf_ok (ak_gr fF_X9_10 dX9_trust_8))))) (ax_nd_ok (ax_nd_ok (ax_lf_ok (ak_iconst (by decide) dX9_trust_11)) (ax_nd_ok (ax_lf_ok (ak_iload_n rfl dX9_trust_12)) (ax_lf_ok (ak_invV (by decide) (by decide) (by decide) rfl wd_745 wd_746 wd_747 wd_97 wd_748 ⟨by decide, by decide, by decide +kernel⟩ dX9_trust_13)))) (ax_nd_ok (ax_lf_ok (ak_astore (by decide) dX9_trust_16)) (ax_nd_ok (ax_lf_ok (ak_aload dX9_trust_18)) (ax_lf_ok (ak_ifnull (by decide) dX9_trust_20)))))) (ax_nd_ok (ax_nd_ok (ax_nd_ok (ax_lf_ok (ak_aload dX9_trust_23)) (ax_nd_ok (ax_lf_ok (ak_ifnonnull (by decide) dX9_trust_25)) (ax_lf_ok (ak_iconst (by decide) dX9_trust_28)))) (ax_nd_ok (ax_lf_ok (ak_iret rfl dX9_trust_29)) (ax_nd_ok (ax_lf_ok (ak_lconst (by decide) dX9_trust_30)) (ax_lf_ok (ak_lstore (by decide) dX9_trust_31))))) (ax_nd_ok (ax_nd_ok (ax_lf_ok (ak_iconst (by decide) dX9_trust_33)) (ax_nd_ok (ax_lf_ok (ak_istore (by decide) dX9_trust_34)) (ax_lf_ok (ak_iload dX9_trust_36)))) (ax_nd_ok (ax_nd_ok (ax_lf_ok (ak_aload dX9_trust_38)) (ax_lf_ok (ak_gi fF_X9_112 dX9_trust_40))) (ax_nd_ok (ax_lf_ok (ak_icmp_ge (by decide) dX9_trust_43)) (ax_lf_ok (ak_lload dX9_trust_46))))))) (ax_nd_ok (ax_nd_ok (ax_nd_ok (ax_nd_ok (ax_lf_ok (ak_aload dX9_trust_48)) (ax_nd_ok (ax_lf_ok (ak_iload dX9_trust_50)) (ax_lf_ok (ak_invS (by decide) (by decide) wd_903 wd_904 wd_96 wd_905 ⟨by decide, by decide, by decide +kernel⟩ dX9_trust_52)))) (ax_nd_ok (ax_lf_ok (ak_if_eq (by decide) dX9_trust_55)) (ax_nd_ok (ax_lf_ok (ak_aload_n rfl dX9_trust_58)) (ax_lf_ok (ak_gr fF_X9_43 dX9_trust_59))))) (ax_nd_ok (ax_nd_ok (ax_lf_ok (ak_gr fF_X9_149 dX9_trust_62)) (ax_nd_ok (ax_lf_ok (ak_iload dX9_trust_65)) (ax_lf_ok (ak_iald dX9_trust_67)))) (ax_nd_ok (ax_lf_ok (ak_i2l dX9_trust_68)) (ax_nd_ok (ax_lf_ok (ak_goto (by decide) dX9_trust_69)) (ax_lf_ok (ak_lconst (by decide) dX9_trust_72)))))) (ax_nd_ok (ax_nd_ok (ax_nd_ok (ax_lf_ok (ak_ladd dX9_trust_73)) (ax_nd_ok (ax_lf_ok (ak_lstore (by decide) dX9_trust_74)) (ax_lf_ok (ak_iinc (by decide) (by decide) dX9_trust_76)))) (ax_nd_ok (ax_lf_ok (ak_goto (by decide) dX9_trust_79)) (ax_nd_ok (ax_lf_ok (ak_lload dX9_trust_82)) (ax_lf_ok (ak_aload_n rfl dX9_trust_84))))) (ax_nd_ok (ax_nd_ok (ax_lf_ok (ak_gr fF_X9_43 dX9_trust_85)) (ax_nd_ok (ax_lf_ok (ak_gi fF_X9_152 dX9_trust_88)) (ax_lf_ok (ak_i2l dX9_trust_91)))) (ax_nd_ok (ax_nd_ok (ax_lf_ok (ak_iload_n rfl dX9_trust_92)) (ax_lf_ok (ak_invS (by decide) (by decide) wd_729 wd_730 wd_105 wd_731 ⟨by decide, by decide, by decide +kernel⟩ dX9_trust_93))) (ax_nd_ok (ax_lf_ok (ak_l2i dX9_trust_96)) (ax_lf_ok (ak_iret rfl dX9_trust_97)))))))
abbrev mX9_trust (g : ax_G) (as : List Value) (h : ax_H) (Ret : Option Value → ax_H → Prop) : Prop := ax_M g 6 0 0 yX9_trust cX9_trust 9 (some .int) as h Ret
theorem dX9_tight_0 : decode cX9_tight 0 = .ok (.aload_n 0, 1) := by decide +kernel
theorem dX9_tight_1 : decode cX9_tight 1 = .ok (.getfield 10, 3) := by decide +kernel
theorem dX9_tight_4 : decode cX9_tight 4 = .ok (.iload_n 1, 1) := by decide +kernel
theorem dX9_tight_5 : decode cX9_tight 5 = .ok (.invokevirtual 122, 3) := by decide +kernel
theorem dX9_tight_8 : decode cX9_tight 8 = .ok (.astore_n 3, 1) := by decide +kernel
theorem dX9_tight_9 : decode cX9_tight 9 = .ok (.aload_n 0, 1) := by decide +kernel
theorem dX9_tight_10 : decode cX9_tight 10 = .ok (.getfield 10, 3) := by decide +kernel
theorem dX9_tight_13 : decode cX9_tight 13 = .ok (.iconst 3, 1) := by decide +kernel
theorem dX9_tight_14 : decode cX9_tight 14 = .ok (.iload_n 2, 1) := by decide +kernel
theorem dX9_tight_15 : decode cX9_tight 15 = .ok (.invokevirtual 159, 3) := by decide +kernel
theorem dX9_tight_18 : decode cX9_tight 18 = .ok (.astore 4, 2) := by decide +kernel
theorem dX9_tight_20 : decode cX9_tight 20 = .ok (.aload_n 3, 1) := by decide +kernel
theorem dX9_tight_21 : decode cX9_tight 21 = .ok (.ifnull 17, 3) := by decide +kernel
theorem dX9_tight_24 : decode cX9_tight 24 = .ok (.aload 4, 2) := by decide +kernel
theorem dX9_tight_26 : decode cX9_tight 26 = .ok (.ifnull 12, 3) := by decide +kernel
theorem dX9_tight_29 : decode cX9_tight 29 = .ok (.aload 4, 2) := by decide +kernel
theorem dX9_tight_31 : decode cX9_tight 31 = .ok (.getfield 163, 3) := by decide +kernel
theorem dX9_tight_34 : decode cX9_tight 34 = .ok (.iconst 2, 1) := by decide +kernel
theorem dX9_tight_35 : decode cX9_tight 35 = .ok (.if_icmp .ge 5, 3) := by decide +kernel
theorem dX9_tight_38 : decode cX9_tight 38 = .ok (.iconst (-1), 1) := by decide +kernel
theorem dX9_tight_39 : decode cX9_tight 39 = .ok (.ireturn, 1) := by decide +kernel
theorem dX9_tight_40 : decode cX9_tight 40 = .ok (.iconst 0, 1) := by decide +kernel
theorem dX9_tight_41 : decode cX9_tight 41 = .ok (.istore 5, 2) := by decide +kernel
theorem dX9_tight_43 : decode cX9_tight 43 = .ok (.iconst 1, 1) := by decide +kernel
theorem dX9_tight_44 : decode cX9_tight 44 = .ok (.istore 6, 2) := by decide +kernel
theorem dX9_tight_46 : decode cX9_tight 46 = .ok (.iload 6, 2) := by decide +kernel
theorem dX9_tight_48 : decode cX9_tight 48 = .ok (.iconst 1, 1) := by decide +kernel
theorem dX9_tight_49 : decode cX9_tight 49 = .ok (.iadd, 1) := by decide +kernel
theorem dX9_tight_50 : decode cX9_tight 50 = .ok (.aload 4, 2) := by decide +kernel
theorem dX9_tight_52 : decode cX9_tight 52 = .ok (.getfield 163, 3) := by decide +kernel
theorem dX9_tight_55 : decode cX9_tight 55 = .ok (.if_icmp .ge 37, 3) := by decide +kernel
theorem dX9_tight_58 : decode cX9_tight 58 = .ok (.aload_n 3, 1) := by decide +kernel
theorem dX9_tight_59 : decode cX9_tight 59 = .ok (.aload 4, 2) := by decide +kernel
theorem dX9_tight_61 : decode cX9_tight 61 = .ok (.iload 6, 2) := by decide +kernel
theorem dX9_tight_63 : decode cX9_tight 63 = .ok (.invokestatic 249, 3) := by decide +kernel
theorem dX9_tight_66 : decode cX9_tight 66 = .ok (.aload_n 3, 1) := by decide +kernel
theorem dX9_tight_67 : decode cX9_tight 67 = .ok (.aload 4, 2) := by decide +kernel
theorem dX9_tight_69 : decode cX9_tight 69 = .ok (.iload 5, 2) := by decide +kernel
theorem dX9_tight_71 : decode cX9_tight 71 = .ok (.invokestatic 249, 3) := by decide +kernel
theorem dX9_tight_74 : decode cX9_tight 74 = .ok (.if_icmp .ge 8, 3) := by decide +kernel
theorem dX9_tight_77 : decode cX9_tight 77 = .ok (.iload 6, 2) := by decide +kernel
theorem dX9_tight_79 : decode cX9_tight 79 = .ok (.goto 5, 3) := by decide +kernel
theorem dX9_tight_82 : decode cX9_tight 82 = .ok (.iload 5, 2) := by decide +kernel
theorem dX9_tight_84 : decode cX9_tight 84 = .ok (.istore 5, 2) := by decide +kernel
theorem dX9_tight_86 : decode cX9_tight 86 = .ok (.iinc 6 1, 3) := by decide +kernel
theorem dX9_tight_89 : decode cX9_tight 89 = .ok (.goto (-43), 3) := by decide +kernel
theorem dX9_tight_92 : decode cX9_tight 92 = .ok (.iload 5, 2) := by decide +kernel
theorem dX9_tight_94 : decode cX9_tight 94 = .ok (.ireturn, 1) := by decide +kernel
def tX9_tight (g : ax_G) : Nat → ax_O := ax_nd 43 (ax_nd 20 (ax_nd 9 (ax_nd 4 (ax_nd 0 (ax_lf 0 (ao_al 0 1)) (ax_nd 1 (ax_lf 1 (ao_gr 9 0)) (ax_lf 4 (ao_il 1 1)))) (ax_nd 5 (ax_lf 5 (ao_inv g 1 8 3 yX8_republicAt cX8_republicAt 2 (some (.object "GluedHour$Republic")) 2 0 0 0 0)) (ax_nd 8 (ax_lf 8 (ao_as 3 1)) (ax_lf 9 (ao_al 0 1))))) (ax_nd 14 (ax_nd 10 (ax_lf 10 (ao_gr 9 0)) (ax_nd 13 (ax_lf 13 (ao_ic (3) 1)) (ax_lf 14 (ao_il 2 1)))) (ax_nd 15 (ax_lf 15 (ao_inv g 1 8 3 yX8_linesAt cX8_linesAt 3 (some (.object "GluedHour$Lines")) 3 0 0 0 0)) (ax_nd 18 (ax_lf 18 (ao_as 4 2)) (ax_lf 20 (ao_al 3 1)))))) (ax_nd 34 (ax_nd 26 (ax_nd 21 (ax_lf 21 (ao_ifnull 38)) (ax_nd 24 (ax_lf 24 (ao_al 4 2)) (ax_lf 26 (ao_ifnull 38)))) (ax_nd 29 (ax_lf 29 (ao_al 4 2)) (ax_nd 31 (ax_lf 31 (ao_gi 2 3)) (ax_lf 34 (ao_ic (2) 1))))) (ax_nd 39 (ax_nd 35 (ax_lf 35 (ao_icmp_ge 40)) (ax_nd 38 (ax_lf 38 (ao_ic (-1) 1)) (ax_lf 39 (ao_iret 0 0)))) (ax_nd 40 (ax_lf 40 (ao_ic (0) 1)) (ax_nd 41 (ax_lf 41 (ao_is 5 2)) (ax_lf 43 (ao_ic (1) 1))))))) (ax_nd 66 (ax_nd 52 (ax_nd 48 (ax_nd 44 (ax_lf 44 (ao_is 6 2)) (ax_nd 46 (ax_lf 46 (ao_il 6 2)) (ax_lf 48 (ao_ic (1) 1)))) (ax_nd 49 (ax_lf 49 ao_iadd) (ax_nd 50 (ax_lf 50 (ao_al 4 2)) (ax_lf 52 (ao_gi 2 3))))) (ax_nd 59 (ax_nd 55 (ax_lf 55 (ao_icmp_ge 92)) (ax_nd 58 (ax_lf 58 (ao_al 3 1)) (ax_lf 59 (ao_al 4 2)))) (ax_nd 61 (ax_lf 61 (ao_il 6 2)) (ax_nd 63 (ax_lf 63 (ao_inv g 4 99 1 yX9_slackOf cX9_slackOf 5 (some .int) 3 0 0 0 0)) (ax_lf 66 (ao_al 3 1)))))) (ax_nd 79 (ax_nd 71 (ax_nd 67 (ax_lf 67 (ao_al 4 2)) (ax_nd 69 (ax_lf 69 (ao_il 5 2)) (ax_lf 71 (ao_inv g 4 99 1 yX9_slackOf cX9_slackOf 5 (some .int) 3 0 0 0 0)))) (ax_nd 74 (ax_lf 74 (ao_icmp_ge 82)) (ax_nd 77 (ax_lf 77 (ao_il 6 2)) (ax_lf 79 (ao_goto 84))))) (ax_nd 86 (ax_nd 82 (ax_lf 82 (ao_il 5 2)) (ax_nd 84 (ax_lf 84 (ao_is 5 2)) (ax_lf 86 (ao_iinc 6 (1))))) (ax_nd 89 (ax_lf 89 (ao_goto 46)) (ax_nd 92 (ax_lf 92 (ao_il 5 2)) (ax_lf 94 (ao_iret 0 0)))))))
theorem oX9_tight (g : ax_G) : ∀ pc, ax_ok g cX9_tight 7 (some .int) RX9 "tight" 5 0 0 pc (tX9_tight g pc) := ax_nd_ok (ax_nd_ok (ax_nd_ok (ax_nd_ok (ax_nd_ok (ax_lf_ok (ak_aload_n rfl dX9_tight_0)) (ax_nd_ok (ax_lf_ok (ak_gr fF_X9_10 dX9_tight_1)) (ax_lf_ok (ak_iload_n rfl dX9_tight_4)))) (ax_nd_ok (ax_lf_ok (ak_invV (by decide) (by decide) (by decide) rfl wd_649 wd_650 wd_651 wd_97 wd_652 ⟨by decide, by decide, by decide +kernel⟩ dX9_tight_5)) (ax_nd_ok (ax_lf_ok (ak_astore_n rfl (by decide) dX9_tight_8)) (ax_lf_ok (ak_aload_n rfl dX9_tight_9))))) (ax_nd_ok (ax_nd_ok (ax_lf_ok (ak_gr fF_X9_10 dX9_tight_10)) (ax_nd_ok (ax_lf_ok (ak_iconst (by decide) dX9_tight_13)) (ax_lf_ok (ak_iload_n rfl dX9_tight_14)))) (ax_nd_ok (ax_lf_ok (ak_invV (by decide) (by decide) (by decide) rfl wd_745 wd_746 wd_747 wd_97 wd_748 ⟨by decide, by decide, by decide +kernel⟩ dX9_tight_15)) (ax_nd_ok (ax_lf_ok (ak_astore (by decide) dX9_tight_18)) (ax_lf_ok (ak_aload_n rfl dX9_tight_20)))))) (ax_nd_ok (ax_nd_ok (ax_nd_ok (ax_lf_ok (ak_ifnull (by decide) dX9_tight_21)) (ax_nd_ok (ax_lf_ok (ak_aload dX9_tight_24)) (ax_lf_ok (ak_ifnull (by decide) dX9_tight_26)))) (ax_nd_ok (ax_lf_ok (ak_aload dX9_tight_29)) (ax_nd_ok (ax_lf_ok (ak_gi fF_X9_163 dX9_tight_31)) (ax_lf_ok (ak_iconst (by decide) dX9_tight_34))))) (ax_nd_ok (ax_nd_ok (ax_lf_ok (ak_icmp_ge (by decide) dX9_tight_35)) (ax_nd_ok (ax_lf_ok (ak_iconst (by decide) dX9_tight_38)) (ax_lf_ok (ak_iret rfl dX9_tight_39)))) (ax_nd_ok (ax_lf_ok (ak_iconst (by decide) dX9_tight_40)) (ax_nd_ok (ax_lf_ok (ak_istore (by decide) dX9_tight_41)) (ax_lf_ok (ak_iconst (by decide) dX9_tight_43))))))) (ax_nd_ok (ax_nd_ok (ax_nd_ok (ax_nd_ok (ax_lf_ok (ak_istore (by decide) dX9_tight_44)) (ax_nd_ok (ax_lf_ok (ak_iload dX9_tight_46)) (ax_lf_ok (ak_iconst (by decide) dX9_tight_48)))) (ax_nd_ok (ax_lf_ok (ak_iadd dX9_tight_49)) (ax_nd_ok (ax_lf_ok (ak_aload dX9_tight_50)) (ax_lf_ok (ak_gi fF_X9_163 dX9_tight_52))))) (ax_nd_ok (ax_nd_ok (ax_lf_ok (ak_icmp_ge (by decide) dX9_tight_55)) (ax_nd_ok (ax_lf_ok (ak_aload_n rfl dX9_tight_58)) (ax_lf_ok (ak_aload dX9_tight_59)))) (ax_nd_ok (ax_lf_ok (ak_iload dX9_tight_61)) (ax_nd_ok (ax_lf_ok (ak_invS (by decide) (by decide) wd_915 wd_916 wd_96 wd_917 ⟨by decide, by decide, by decide +kernel⟩ dX9_tight_63)) (ax_lf_ok (ak_aload_n rfl dX9_tight_66)))))) (ax_nd_ok (ax_nd_ok (ax_nd_ok (ax_lf_ok (ak_aload dX9_tight_67)) (ax_nd_ok (ax_lf_ok (ak_iload dX9_tight_69)) (ax_lf_ok (ak_invS (by decide) (by decide) wd_915 wd_916 wd_96 wd_917 ⟨by decide, by decide, by decide +kernel⟩ dX9_tight_71)))) (ax_nd_ok (ax_lf_ok (ak_icmp_ge (by decide) dX9_tight_74)) (ax_nd_ok (ax_lf_ok (ak_iload dX9_tight_77)) (ax_lf_ok (ak_goto (by decide) dX9_tight_79))))) (ax_nd_ok (ax_nd_ok (ax_lf_ok (ak_iload dX9_tight_82)) (ax_nd_ok (ax_lf_ok (ak_istore (by decide) dX9_tight_84)) (ax_lf_ok (ak_iinc (by decide) (by decide) dX9_tight_86)))) (ax_nd_ok (ax_lf_ok (ak_goto (by decide) dX9_tight_89)) (ax_nd_ok (ax_lf_ok (ak_iload dX9_tight_92)) (ax_lf_ok (ak_iret rfl dX9_tight_94)))))))
abbrev mX9_tight (g : ax_G) (as : List Value) (h : ax_H) (Ret : Option Value → ax_H → Prop) : Prop := ax_M g 5 0 0 yX9_tight cX9_tight 7 (some .int) as h Ret
theorem dX9_free_0 : decode cX9_free 0 = .ok (.aload_n 0, 1) := by decide +kernel
theorem dX9_free_1 : decode cX9_free 1 = .ok (.iload_n 1, 1) := by decide +kernel
theorem dX9_free_2 : decode cX9_free 2 = .ok (.invokevirtual 99, 3) := by decide +kernel
theorem dX9_free_5 : decode cX9_free 5 = .ok (.astore 4, 2) := by decide +kernel
theorem dX9_free_7 : decode cX9_free 7 = .ok (.aload_n 0, 1) := by decide +kernel
theorem dX9_free_8 : decode cX9_free 8 = .ok (.getfield 10, 3) := by decide +kernel
theorem dX9_free_11 : decode cX9_free 11 = .ok (.iconst 2, 1) := by decide +kernel
theorem dX9_free_12 : decode cX9_free 12 = .ok (.iload_n 2, 1) := by decide +kernel
theorem dX9_free_13 : decode cX9_free 13 = .ok (.invokevirtual 159, 3) := by decide +kernel
theorem dX9_free_16 : decode cX9_free 16 = .ok (.astore 5, 2) := by decide +kernel
theorem dX9_free_18 : decode cX9_free 18 = .ok (.aload 4, 2) := by decide +kernel
theorem dX9_free_20 : decode cX9_free 20 = .ok (.ifnull 26, 3) := by decide +kernel
theorem dX9_free_23 : decode cX9_free 23 = .ok (.aload 5, 2) := by decide +kernel
theorem dX9_free_25 : decode cX9_free 25 = .ok (.ifnull 21, 3) := by decide +kernel
theorem dX9_free_28 : decode cX9_free 28 = .ok (.aload_n 0, 1) := by decide +kernel
theorem dX9_free_29 : decode cX9_free 29 = .ok (.getfield 53, 3) := by decide +kernel
theorem dX9_free_32 : decode cX9_free 32 = .ok (.aload 4, 2) := by decide +kernel
theorem dX9_free_34 : decode cX9_free 34 = .ok (.aload_n 0, 1) := by decide +kernel
theorem dX9_free_35 : decode cX9_free 35 = .ok (.getfield 43, 3) := by decide +kernel
theorem dX9_free_38 : decode cX9_free 38 = .ok (.aload 5, 2) := by decide +kernel
theorem dX9_free_40 : decode cX9_free 40 = .ok (.invokevirtual 224, 3) := by decide +kernel
theorem dX9_free_43 : decode cX9_free 43 = .ok (.ifCond .ne 6, 3) := by decide +kernel
theorem dX9_free_46 : decode cX9_free 46 = .ok (.ldc 145, 2) := by decide +kernel
theorem dX9_free_48 : decode cX9_free 48 = .ok (.ireturn, 1) := by decide +kernel
theorem dX9_free_49 : decode cX9_free 49 = .ok (.aload_n 0, 1) := by decide +kernel
theorem dX9_free_50 : decode cX9_free 50 = .ok (.getfield 53, 3) := by decide +kernel
theorem dX9_free_53 : decode cX9_free 53 = .ok (.aload 4, 2) := by decide +kernel
theorem dX9_free_55 : decode cX9_free 55 = .ok (.aload_n 0, 1) := by decide +kernel
theorem dX9_free_56 : decode cX9_free 56 = .ok (.getfield 43, 3) := by decide +kernel
theorem dX9_free_59 : decode cX9_free 59 = .ok (.aload 5, 2) := by decide +kernel
theorem dX9_free_61 : decode cX9_free 61 = .ok (.iconst 1, 1) := by decide +kernel
theorem dX9_free_62 : decode cX9_free 62 = .ok (.invokevirtual 292, 3) := by decide +kernel
theorem dX9_free_65 : decode cX9_free 65 = .ok (.ifCond .ne 6, 3) := by decide +kernel
theorem dX9_free_68 : decode cX9_free 68 = .ok (.ldc 145, 2) := by decide +kernel
theorem dX9_free_70 : decode cX9_free 70 = .ok (.ireturn, 1) := by decide +kernel
theorem dX9_free_71 : decode cX9_free 71 = .ok (.aload_n 0, 1) := by decide +kernel
theorem dX9_free_72 : decode cX9_free 72 = .ok (.getfield 53, 3) := by decide +kernel
theorem dX9_free_75 : decode cX9_free 75 = .ok (.getfield 296, 3) := by decide +kernel
theorem dX9_free_78 : decode cX9_free 78 = .ok (.aload_n 0, 1) := by decide +kernel
theorem dX9_free_79 : decode cX9_free 79 = .ok (.getfield 53, 3) := by decide +kernel
theorem dX9_free_82 : decode cX9_free 82 = .ok (.getfield 231, 3) := by decide +kernel
theorem dX9_free_85 : decode cX9_free 85 = .ok (.lsub, 1) := by decide +kernel
theorem dX9_free_86 : decode cX9_free 86 = .ok (.aload_n 0, 1) := by decide +kernel
theorem dX9_free_87 : decode cX9_free 87 = .ok (.getfield 43, 3) := by decide +kernel
theorem dX9_free_90 : decode cX9_free 90 = .ok (.getfield 152, 3) := by decide +kernel
theorem dX9_free_93 : decode cX9_free 93 = .ok (.i2l, 1) := by decide +kernel
theorem dX9_free_94 : decode cX9_free 94 = .ok (.iload_n 3, 1) := by decide +kernel
theorem dX9_free_95 : decode cX9_free 95 = .ok (.invokestatic 155, 3) := by decide +kernel
theorem dX9_free_98 : decode cX9_free 98 = .ok (.l2i, 1) := by decide +kernel
theorem dX9_free_99 : decode cX9_free 99 = .ok (.ireturn, 1) := by decide +kernel
def tX9_free (g : ax_G) : Nat → ax_O := ax_nd 49 (ax_nd 20 (ax_nd 8 (ax_nd 2 (ax_nd 0 (ax_lf 0 (ao_al 0 1)) (ax_nd 1 (ax_lf 1 (ao_il 1 1)) (ax_lf 2 (ao_inv g 5 9 3 yX9_begun cX9_begun 3 (some (.object "GluedHour$Republic")) 2 0 0 0 0)))) (ax_nd 5 (ax_lf 5 (ao_as 4 2)) (ax_nd 7 (ax_lf 7 (ao_al 0 1)) (ax_lf 8 (ao_gr 9 0))))) (ax_nd 13 (ax_nd 11 (ax_lf 11 (ao_ic (2) 1)) (ax_nd 12 (ax_lf 12 (ao_il 2 1)) (ax_lf 13 (ao_inv g 1 8 3 yX8_linesAt cX8_linesAt 3 (some (.object "GluedHour$Lines")) 3 0 0 0 0)))) (ax_nd 16 (ax_lf 16 (ao_as 5 2)) (ax_nd 18 (ax_lf 18 (ao_al 4 2)) (ax_lf 20 (ao_ifnull 46)))))) (ax_nd 34 (ax_nd 28 (ax_nd 23 (ax_lf 23 (ao_al 5 2)) (ax_nd 25 (ax_lf 25 (ao_ifnull 46)) (ax_lf 28 (ao_al 0 1)))) (ax_nd 29 (ax_lf 29 (ao_gr 9 6)) (ax_nd 32 (ax_lf 32 (ao_al 4 2)) (ax_lf 34 (ao_al 0 1))))) (ax_nd 40 (ax_nd 35 (ax_lf 35 (ao_gr 9 4)) (ax_nd 38 (ax_lf 38 (ao_al 5 2)) (ax_lf 40 (ao_inv g 6 4 1 yX4_planBlind cX4_planBlind 4 (some .boolean) 4 0 0 0 0)))) (ax_nd 46 (ax_nd 43 (ax_lf 43 (ao_if_ne 49)) (ax_lf 46 (ao_ic (-1000000) 2))) (ax_nd 48 (ax_lf 48 (ao_iret 0 0)) (ax_lf 49 (ao_al 0 1))))))) (ax_nd 72 (ax_nd 61 (ax_nd 55 (ax_nd 50 (ax_lf 50 (ao_gr 9 6)) (ax_nd 53 (ax_lf 53 (ao_al 4 2)) (ax_lf 55 (ao_al 0 1)))) (ax_nd 56 (ax_lf 56 (ao_gr 9 4)) (ax_nd 59 (ax_lf 59 (ao_al 5 2)) (ax_lf 61 (ao_ic (1) 1))))) (ax_nd 68 (ax_nd 62 (ax_lf 62 (ao_inv g 5 4 1 yX4_choose cX4_choose 10 (some .boolean) 5 0 0 0 0)) (ax_nd 65 (ax_lf 65 (ao_if_ne 71)) (ax_lf 68 (ao_ic (-1000000) 2)))) (ax_nd 70 (ax_lf 70 (ao_iret 0 0)) (ax_nd 71 (ax_lf 71 (ao_al 0 1)) (ax_lf 72 (ao_gr 9 6)))))) (ax_nd 86 (ax_nd 79 (ax_nd 75 (ax_lf 75 (ao_gl 4 4)) (ax_nd 78 (ax_lf 78 (ao_al 0 1)) (ax_lf 79 (ao_gr 9 6)))) (ax_nd 82 (ax_lf 82 (ao_gl 4 1)) (ax_nd 85 (ax_lf 85 ao_lsub) (ax_lf 86 (ao_al 0 1))))) (ax_nd 93 (ax_nd 87 (ax_lf 87 (ao_gr 9 4)) (ax_nd 90 (ax_lf 90 (ao_gi 3 2)) (ax_lf 93 ao_i2l))) (ax_nd 95 (ax_nd 94 (ax_lf 94 (ao_il 3 1)) (ax_lf 95 (ao_inv g 2 99 2 yX1_side cX1_side 7 (some .long) 3 0 0 0 0))) (ax_nd 98 (ax_lf 98 ao_l2i) (ax_lf 99 (ao_iret 0 0)))))))
theorem oX9_free (g : ax_G) : ∀ pc, ax_ok g cX9_free 6 (some .int) RX9 "free" 7 0 0 pc (tX9_free g pc) := ax_nd_ok (ax_nd_ok (ax_nd_ok (ax_nd_ok (ax_nd_ok (ax_lf_ok (ak_aload_n rfl dX9_free_0)) (ax_nd_ok (ax_lf_ok (ak_iload_n rfl dX9_free_1)) (ax_lf_ok (ak_invV (by decide) (by decide) (by decide) rfl wd_645 wd_647 wd_13 wd_96 wd_648 ⟨by decide, by decide, by decide +kernel⟩ dX9_free_2)))) (ax_nd_ok (ax_lf_ok (ak_astore (by decide) dX9_free_5)) (ax_nd_ok (ax_lf_ok (ak_aload_n rfl dX9_free_7)) (ax_lf_ok (ak_gr fF_X9_10 dX9_free_8))))) (ax_nd_ok (ax_nd_ok (ax_lf_ok (ak_iconst (by decide) dX9_free_11)) (ax_nd_ok (ax_lf_ok (ak_iload_n rfl dX9_free_12)) (ax_lf_ok (ak_invV (by decide) (by decide) (by decide) rfl wd_745 wd_746 wd_747 wd_97 wd_748 ⟨by decide, by decide, by decide +kernel⟩ dX9_free_13)))) (ax_nd_ok (ax_lf_ok (ak_astore (by decide) dX9_free_16)) (ax_nd_ok (ax_lf_ok (ak_aload dX9_free_18)) (ax_lf_ok (ak_ifnull (by decide) dX9_free_20)))))) (ax_nd_ok (ax_nd_ok (ax_nd_ok (ax_lf_ok (ak_aload dX9_free_23)) (ax_nd_ok (ax_lf_ok (ak_ifnull (by decide) dX9_free_25)) (ax_lf_ok (ak_aload_n rfl dX9_free_28)))) (ax_nd_ok (ax_lf_ok (ak_gr fF_X9_53 dX9_free_29)) (ax_nd_ok (ax_lf_ok (ak_aload dX9_free_32)) (ax_lf_ok (ak_aload_n rfl dX9_free_34))))) (ax_nd_ok (ax_nd_ok (ax_lf_ok (ak_gr fF_X9_43 dX9_free_35)) (ax_nd_ok (ax_lf_ok (ak_aload dX9_free_38)) (ax_lf_ok (ak_invV (by decide) (by decide) (by decide) rfl wd_853 wd_854 wd_855 wd_103 wd_856 ⟨by decide, by decide, by decide +kernel⟩ dX9_free_40)))) (ax_nd_ok (ax_nd_ok (ax_lf_ok (ak_if_ne (by decide) dX9_free_43)) (ax_lf_ok (ak_ldc wd_720 dX9_free_46))) (ax_nd_ok (ax_lf_ok (ak_iret rfl dX9_free_48)) (ax_lf_ok (ak_aload_n rfl dX9_free_49))))))) (ax_nd_ok (ax_nd_ok (ax_nd_ok (ax_nd_ok (ax_lf_ok (ak_gr fF_X9_53 dX9_free_50)) (ax_nd_ok (ax_lf_ok (ak_aload dX9_free_53)) (ax_lf_ok (ak_aload_n rfl dX9_free_55)))) (ax_nd_ok (ax_lf_ok (ak_gr fF_X9_43 dX9_free_56)) (ax_nd_ok (ax_lf_ok (ak_aload dX9_free_59)) (ax_lf_ok (ak_iconst (by decide) dX9_free_61))))) (ax_nd_ok (ax_nd_ok (ax_lf_ok (ak_invV (by decide) (by decide) (by decide) rfl wd_1029 wd_858 wd_859 wd_103 wd_860 ⟨by decide, by decide, by decide +kernel⟩ dX9_free_62)) (ax_nd_ok (ax_lf_ok (ak_if_ne (by decide) dX9_free_65)) (ax_lf_ok (ak_ldc wd_720 dX9_free_68)))) (ax_nd_ok (ax_lf_ok (ak_iret rfl dX9_free_70)) (ax_nd_ok (ax_lf_ok (ak_aload_n rfl dX9_free_71)) (ax_lf_ok (ak_gr fF_X9_53 dX9_free_72)))))) (ax_nd_ok (ax_nd_ok (ax_nd_ok (ax_lf_ok (ak_gl fF_X9_296 dX9_free_75)) (ax_nd_ok (ax_lf_ok (ak_aload_n rfl dX9_free_78)) (ax_lf_ok (ak_gr fF_X9_53 dX9_free_79)))) (ax_nd_ok (ax_lf_ok (ak_gl fF_X9_231 dX9_free_82)) (ax_nd_ok (ax_lf_ok (ak_lsub dX9_free_85)) (ax_lf_ok (ak_aload_n rfl dX9_free_86))))) (ax_nd_ok (ax_nd_ok (ax_lf_ok (ak_gr fF_X9_43 dX9_free_87)) (ax_nd_ok (ax_lf_ok (ak_gi fF_X9_152 dX9_free_90)) (ax_lf_ok (ak_i2l dX9_free_93)))) (ax_nd_ok (ax_nd_ok (ax_lf_ok (ak_iload_n rfl dX9_free_94)) (ax_lf_ok (ak_invS (by decide) (by decide) wd_729 wd_730 wd_105 wd_731 ⟨by decide, by decide, by decide +kernel⟩ dX9_free_95))) (ax_nd_ok (ax_lf_ok (ak_l2i dX9_free_98)) (ax_lf_ok (ak_iret rfl dX9_free_99)))))))
abbrev mX9_free (g : ax_G) (as : List Value) (h : ax_H) (Ret : Option Value → ax_H → Prop) : Prop := ax_M g 7 0 0 yX9_free cX9_free 6 (some .int) as h Ret
theorem dX9_count_0 : decode cX9_count 0 = .ok (.iload_n 1, 1) := by decide +kernel
theorem dX9_count_1 : decode cX9_count 1 = .ok (.ifCond .lt 8, 3) := by decide +kernel
theorem dX9_count_4 : decode cX9_count 4 = .ok (.iload_n 1, 1) := by decide +kernel
theorem dX9_count_5 : decode cX9_count 5 = .ok (.iconst 5, 1) := by decide +kernel
theorem dX9_count_6 : decode cX9_count 6 = .ok (.if_icmp .lt 8, 3) := by decide +kernel
theorem dX9_count_9 : decode cX9_count 9 = .ok (.bipush (-2), 2) := by decide +kernel
theorem dX9_count_11 : decode cX9_count 11 = .ok (.goto 12, 3) := by decide +kernel
theorem dX9_count_14 : decode cX9_count 14 = .ok (.aload_n 0, 1) := by decide +kernel
theorem dX9_count_15 : decode cX9_count 15 = .ok (.getfield 10, 3) := by decide +kernel
theorem dX9_count_18 : decode cX9_count 18 = .ok (.getfield 85, 3) := by decide +kernel
theorem dX9_count_21 : decode cX9_count 21 = .ok (.iload_n 1, 1) := by decide +kernel
theorem dX9_count_22 : decode cX9_count 22 = .ok (.iaload, 1) := by decide +kernel
theorem dX9_count_23 : decode cX9_count 23 = .ok (.ireturn, 1) := by decide +kernel
def tX9_count (g : ax_G) : Nat → ax_O := ax_nd 9 (ax_nd 4 (ax_nd 0 (ax_lf 0 (ao_il 1 1)) (ax_nd 1 (ax_lf 1 (ao_if_lt 9)) (ax_lf 4 (ao_il 1 1)))) (ax_nd 5 (ax_lf 5 (ao_ic (5) 1)) (ax_nd 6 (ax_lf 6 (ao_icmp_lt 14)) (ax_lf 9 (ao_ic (-2) 2))))) (ax_nd 15 (ax_nd 11 (ax_lf 11 (ao_goto 23)) (ax_nd 14 (ax_lf 14 (ao_al 0 1)) (ax_lf 15 (ao_gr 9 0)))) (ax_nd 21 (ax_nd 18 (ax_lf 18 (ao_gr 8 1)) (ax_lf 21 (ao_il 1 1))) (ax_nd 22 (ax_lf 22 ao_iald) (ax_lf 23 (ao_iret 0 0)))))
theorem oX9_count (g : ax_G) : ∀ pc, ax_ok g cX9_count 2 (some .int) RX9 "count" 1 0 0 pc (tX9_count g pc) := ax_nd_ok (ax_nd_ok (ax_nd_ok (ax_lf_ok (ak_iload_n rfl dX9_count_0)) (ax_nd_ok (ax_lf_ok (ak_if_lt (by decide) dX9_count_1)) (ax_lf_ok (ak_iload_n rfl dX9_count_4)))) (ax_nd_ok (ax_lf_ok (ak_iconst (by decide) dX9_count_5)) (ax_nd_ok (ax_lf_ok (ak_icmp_lt (by decide) dX9_count_6)) (ax_lf_ok (ak_bipush (by decide) dX9_count_9))))) (ax_nd_ok (ax_nd_ok (ax_lf_ok (ak_goto (by decide) dX9_count_11)) (ax_nd_ok (ax_lf_ok (ak_aload_n rfl dX9_count_14)) (ax_lf_ok (ak_gr fF_X9_10 dX9_count_15)))) (ax_nd_ok (ax_nd_ok (ax_lf_ok (ak_gr fF_X9_85 dX9_count_18)) (ax_lf_ok (ak_iload_n rfl dX9_count_21))) (ax_nd_ok (ax_lf_ok (ak_iald dX9_count_22)) (ax_lf_ok (ak_iret rfl dX9_count_23)))))
abbrev mX9_count (g : ax_G) (as : List Value) (h : ax_H) (Ret : Option Value → ax_H → Prop) : Prop := ax_M g 1 0 0 yX9_count cX9_count 2 (some .int) as h Ret
theorem dX9_image_0 : decode cX9_image 0 = .ok (.iload_n 1, 1) := by decide +kernel
theorem dX9_image_1 : decode cX9_image 1 = .ok (.ifCond .lt 8, 3) := by decide +kernel
theorem dX9_image_4 : decode cX9_image 4 = .ok (.iload_n 1, 1) := by decide +kernel
theorem dX9_image_5 : decode cX9_image 5 = .ok (.iconst 3, 1) := by decide +kernel
theorem dX9_image_6 : decode cX9_image 6 = .ok (.if_icmp .lt 5, 3) := by decide +kernel
theorem dX9_image_9 : decode cX9_image 9 = .ok (.iconst 0, 1) := by decide +kernel
theorem dX9_image_10 : decode cX9_image 10 = .ok (.ireturn, 1) := by decide +kernel
theorem dX9_image_11 : decode cX9_image 11 = .ok (.aload_n 0, 1) := by decide +kernel
theorem dX9_image_12 : decode cX9_image 12 = .ok (.getfield 16, 3) := by decide +kernel
theorem dX9_image_15 : decode cX9_image 15 = .ok (.iload_n 1, 1) := by decide +kernel
theorem dX9_image_16 : decode cX9_image 16 = .ok (.aaload, 1) := by decide +kernel
theorem dX9_image_17 : decode cX9_image 17 = .ok (.astore_n 2, 1) := by decide +kernel
theorem dX9_image_18 : decode cX9_image 18 = .ok (.aload_n 2, 1) := by decide +kernel
theorem dX9_image_19 : decode cX9_image 19 = .ok (.ifnonnull 18, 3) := by decide +kernel
theorem dX9_image_22 : decode cX9_image 22 = .ok (.new 7, 3) := by decide +kernel
theorem dX9_image_25 : decode cX9_image 25 = .ok (.dup, 1) := by decide +kernel
theorem dX9_image_26 : decode cX9_image 26 = .ok (.invokespecial 9, 3) := by decide +kernel
theorem dX9_image_29 : decode cX9_image 29 = .ok (.astore_n 2, 1) := by decide +kernel
theorem dX9_image_30 : decode cX9_image 30 = .ok (.aload_n 0, 1) := by decide +kernel
theorem dX9_image_31 : decode cX9_image 31 = .ok (.getfield 16, 3) := by decide +kernel
theorem dX9_image_34 : decode cX9_image 34 = .ok (.iload_n 1, 1) := by decide +kernel
theorem dX9_image_35 : decode cX9_image 35 = .ok (.aload_n 2, 1) := by decide +kernel
theorem dX9_image_36 : decode cX9_image 36 = .ok (.aastore, 1) := by decide +kernel
theorem dX9_image_37 : decode cX9_image 37 = .ok (.aload_n 2, 1) := by decide +kernel
theorem dX9_image_38 : decode cX9_image 38 = .ok (.aload_n 0, 1) := by decide +kernel
theorem dX9_image_39 : decode cX9_image 39 = .ok (.getfield 10, 3) := by decide +kernel
theorem dX9_image_42 : decode cX9_image 42 = .ok (.invokevirtual 299, 3) := by decide +kernel
theorem dX9_image_45 : decode cX9_image 45 = .ok (.iconst 1, 1) := by decide +kernel
theorem dX9_image_46 : decode cX9_image 46 = .ok (.ireturn, 1) := by decide +kernel
def tX9_image (g : ax_G) : Nat → ax_O := ax_nd 19 (ax_nd 10 (ax_nd 4 (ax_nd 0 (ax_lf 0 (ao_il 1 1)) (ax_nd 1 (ax_lf 1 (ao_if_lt 9)) (ax_lf 4 (ao_il 1 1)))) (ax_nd 6 (ax_nd 5 (ax_lf 5 (ao_ic (3) 1)) (ax_lf 6 (ao_icmp_lt 11))) (ax_nd 9 (ax_lf 9 (ao_ic (0) 1)) (ax_lf 10 (ao_zreta 33 1138))))) (ax_nd 15 (ax_nd 11 (ax_lf 11 (ao_al 0 1)) (ax_nd 12 (ax_lf 12 (ao_gr 9 1)) (ax_lf 15 (ao_il 1 1)))) (ax_nd 17 (ax_nd 16 (ax_lf 16 (ao_aald 18)) (ax_lf 17 (ao_as 2 1))) (ax_nd 18 (ax_lf 18 (ao_al 2 1)) (ax_lf 19 (ao_ifnonnull 37)))))) (ax_nd 34 (ax_nd 26 (ax_nd 22 (ax_lf 22 (ao_new 8 7 33 1138)) (ax_nd 25 (ax_lf 25 ao_dup) (ax_lf 26 (ao_inva g 3 8 0 yX8_init cX8_init 3 none 1 32 33 1131 1138)))) (ax_nd 30 (ax_nd 29 (ax_lf 29 (ao_as 2 1)) (ax_lf 30 (ao_al 0 1))) (ax_nd 31 (ax_lf 31 (ao_gr 9 1)) (ax_lf 34 (ao_il 1 1))))) (ax_nd 38 (ax_nd 36 (ax_nd 35 (ax_lf 35 (ao_al 2 1)) (ax_lf 36 (ao_aast 18 8))) (ax_nd 37 (ax_lf 37 (ao_al 2 1)) (ax_lf 38 (ao_al 0 1)))) (ax_nd 42 (ax_nd 39 (ax_lf 39 (ao_gr 9 0)) (ax_lf 42 (ao_inva g 4 8 0 yX8_copy cX8_copy 3 none 2 0 33 0 1138))) (ax_nd 45 (ax_lf 45 (ao_ic (1) 1)) (ax_lf 46 (ao_zreta 33 1138))))))
theorem oX9_image (g : ax_G) : ∀ pc, ax_ok g cX9_image 3 (some .boolean) RX9 "image" 5 33 1138 pc (tX9_image g pc) := ax_nd_ok (ax_nd_ok (ax_nd_ok (ax_nd_ok (ax_lf_ok (ak_iload_n rfl dX9_image_0)) (ax_nd_ok (ax_lf_ok (ak_if_lt (by decide) dX9_image_1)) (ax_lf_ok (ak_iload_n rfl dX9_image_4)))) (ax_nd_ok (ax_nd_ok (ax_lf_ok (ak_iconst (by decide) dX9_image_5)) (ax_lf_ok (ak_icmp_lt (by decide) dX9_image_6))) (ax_nd_ok (ax_lf_ok (ak_iconst (by decide) dX9_image_9)) (ax_lf_ok (ak_zreta (ak_zret rfl dX9_image_10)))))) (ax_nd_ok (ax_nd_ok (ax_lf_ok (ak_aload_n rfl dX9_image_11)) (ax_nd_ok (ax_lf_ok (ak_gr fF_X9_16 dX9_image_12)) (ax_lf_ok (ak_iload_n rfl dX9_image_15)))) (ax_nd_ok (ax_nd_ok (ax_lf_ok (ak_aald (by decide) (by decide) (t0 := 7) rfl dX9_image_16)) (ax_lf_ok (ak_astore_n rfl (by decide) dX9_image_17))) (ax_nd_ok (ax_lf_ok (ak_aload_n rfl dX9_image_18)) (ax_lf_ok (ak_ifnonnull (by decide) dX9_image_19)))))) (ax_nd_ok (ax_nd_ok (ax_nd_ok (ax_lf_ok (ak_new (by decide) rfl ig_X8 tyX8_ok dv_X8 wd_121 wd_122 wd_97 dX9_image_22)) (ax_nd_ok (ax_lf_ok (ak_dup dX9_image_25)) (ax_lf_ok (ak_inva (ak_invI (by decide) (by decide) (by decide) wd_123 wd_124 wd_97 wd_125 rfl ⟨by decide, by decide, by decide +kernel⟩ dX9_image_26))))) (ax_nd_ok (ax_nd_ok (ax_lf_ok (ak_astore_n rfl (by decide) dX9_image_29)) (ax_lf_ok (ak_aload_n rfl dX9_image_30))) (ax_nd_ok (ax_lf_ok (ak_gr fF_X9_16 dX9_image_31)) (ax_lf_ok (ak_iload_n rfl dX9_image_34))))) (ax_nd_ok (ax_nd_ok (ax_nd_ok (ax_lf_ok (ak_aload_n rfl dX9_image_35)) (ax_lf_ok (ak_aast (by decide) (by decide) (by decide) rfl (t0 := 7) rfl dX9_image_36))) (ax_nd_ok (ax_lf_ok (ak_aload_n rfl dX9_image_37)) (ax_lf_ok (ak_aload_n rfl dX9_image_38)))) (ax_nd_ok (ax_nd_ok (ax_lf_ok (ak_gr fF_X9_10 dX9_image_39)) (ax_lf_ok (ak_inva (ak_invV (by decide) (by decide) (by decide) rfl wd_1038 wd_1039 wd_1040 wd_97 wd_1041 ⟨by decide, by decide, by decide +kernel⟩ dX9_image_42)))) (ax_nd_ok (ax_lf_ok (ak_iconst (by decide) dX9_image_45)) (ax_lf_ok (ak_zreta (ak_zret rfl dX9_image_46)))))))
abbrev mX9_image (g : ax_G) (as : List Value) (h : ax_H) (Ret : Option Value → ax_H → Prop) : Prop := ax_M g 5 33 1138 yX9_image cX9_image 3 (some .boolean) as h Ret
theorem dX9_again_0 : decode cX9_again 0 = .ok (.iload_n 1, 1) := by decide +kernel
theorem dX9_again_1 : decode cX9_again 1 = .ok (.ifCond .lt 8, 3) := by decide +kernel
theorem dX9_again_4 : decode cX9_again 4 = .ok (.iload_n 1, 1) := by decide +kernel
theorem dX9_again_5 : decode cX9_again 5 = .ok (.iconst 3, 1) := by decide +kernel
theorem dX9_again_6 : decode cX9_again 6 = .ok (.if_icmp .lt 5, 3) := by decide +kernel
theorem dX9_again_9 : decode cX9_again 9 = .ok (.iconst 0, 1) := by decide +kernel
theorem dX9_again_10 : decode cX9_again 10 = .ok (.ireturn, 1) := by decide +kernel
theorem dX9_again_11 : decode cX9_again 11 = .ok (.aload_n 0, 1) := by decide +kernel
theorem dX9_again_12 : decode cX9_again 12 = .ok (.getfield 16, 3) := by decide +kernel
theorem dX9_again_15 : decode cX9_again 15 = .ok (.iload_n 1, 1) := by decide +kernel
theorem dX9_again_16 : decode cX9_again 16 = .ok (.aaload, 1) := by decide +kernel
theorem dX9_again_17 : decode cX9_again 17 = .ok (.astore_n 2, 1) := by decide +kernel
theorem dX9_again_18 : decode cX9_again 18 = .ok (.aload_n 2, 1) := by decide +kernel
theorem dX9_again_19 : decode cX9_again 19 = .ok (.ifnonnull 5, 3) := by decide +kernel
theorem dX9_again_22 : decode cX9_again 22 = .ok (.iconst 0, 1) := by decide +kernel
theorem dX9_again_23 : decode cX9_again 23 = .ok (.ireturn, 1) := by decide +kernel
theorem dX9_again_24 : decode cX9_again 24 = .ok (.aload_n 0, 1) := by decide +kernel
theorem dX9_again_25 : decode cX9_again 25 = .ok (.getfield 10, 3) := by decide +kernel
theorem dX9_again_28 : decode cX9_again 28 = .ok (.aload_n 2, 1) := by decide +kernel
theorem dX9_again_29 : decode cX9_again 29 = .ok (.invokevirtual 299, 3) := by decide +kernel
theorem dX9_again_32 : decode cX9_again 32 = .ok (.iconst 1, 1) := by decide +kernel
theorem dX9_again_33 : decode cX9_again 33 = .ok (.ireturn, 1) := by decide +kernel
def tX9_again (g : ax_G) : Nat → ax_O := ax_nd 16 (ax_nd 6 (ax_nd 1 (ax_nd 0 (ax_lf 0 (ao_il 1 1)) (ax_lf 1 (ao_if_lt 9))) (ax_nd 4 (ax_lf 4 (ao_il 1 1)) (ax_nd 5 (ax_lf 5 (ao_ic (3) 1)) (ax_lf 6 (ao_icmp_lt 11))))) (ax_nd 11 (ax_nd 9 (ax_lf 9 (ao_ic (0) 1)) (ax_nd 10 (ax_lf 10 (ao_zret 0 0)) (ax_lf 11 (ao_al 0 1)))) (ax_nd 12 (ax_lf 12 (ao_gr 9 1)) (ax_nd 15 (ax_lf 15 (ao_il 1 1)) (ax_lf 16 (ao_aald 18)))))) (ax_nd 23 (ax_nd 18 (ax_nd 17 (ax_lf 17 (ao_as 2 1)) (ax_lf 18 (ao_al 2 1))) (ax_nd 19 (ax_lf 19 (ao_ifnonnull 24)) (ax_nd 22 (ax_lf 22 (ao_ic (0) 1)) (ax_lf 23 (ao_zret 0 0))))) (ax_nd 28 (ax_nd 24 (ax_lf 24 (ao_al 0 1)) (ax_nd 25 (ax_lf 25 (ao_gr 9 0)) (ax_lf 28 (ao_al 2 1)))) (ax_nd 29 (ax_lf 29 (ao_inv g 4 8 0 yX8_copy cX8_copy 3 none 2 0 0 0 0)) (ax_nd 32 (ax_lf 32 (ao_ic (1) 1)) (ax_lf 33 (ao_zret 0 0))))))
theorem oX9_again (g : ax_G) : ∀ pc, ax_ok g cX9_again 3 (some .boolean) RX9 "again" 5 0 0 pc (tX9_again g pc) := ax_nd_ok (ax_nd_ok (ax_nd_ok (ax_nd_ok (ax_lf_ok (ak_iload_n rfl dX9_again_0)) (ax_lf_ok (ak_if_lt (by decide) dX9_again_1))) (ax_nd_ok (ax_lf_ok (ak_iload_n rfl dX9_again_4)) (ax_nd_ok (ax_lf_ok (ak_iconst (by decide) dX9_again_5)) (ax_lf_ok (ak_icmp_lt (by decide) dX9_again_6))))) (ax_nd_ok (ax_nd_ok (ax_lf_ok (ak_iconst (by decide) dX9_again_9)) (ax_nd_ok (ax_lf_ok (ak_zret rfl dX9_again_10)) (ax_lf_ok (ak_aload_n rfl dX9_again_11)))) (ax_nd_ok (ax_lf_ok (ak_gr fF_X9_16 dX9_again_12)) (ax_nd_ok (ax_lf_ok (ak_iload_n rfl dX9_again_15)) (ax_lf_ok (ak_aald (by decide) (by decide) (t0 := 7) rfl dX9_again_16)))))) (ax_nd_ok (ax_nd_ok (ax_nd_ok (ax_lf_ok (ak_astore_n rfl (by decide) dX9_again_17)) (ax_lf_ok (ak_aload_n rfl dX9_again_18))) (ax_nd_ok (ax_lf_ok (ak_ifnonnull (by decide) dX9_again_19)) (ax_nd_ok (ax_lf_ok (ak_iconst (by decide) dX9_again_22)) (ax_lf_ok (ak_zret rfl dX9_again_23))))) (ax_nd_ok (ax_nd_ok (ax_lf_ok (ak_aload_n rfl dX9_again_24)) (ax_nd_ok (ax_lf_ok (ak_gr fF_X9_10 dX9_again_25)) (ax_lf_ok (ak_aload_n rfl dX9_again_28)))) (ax_nd_ok (ax_lf_ok (ak_invV (by decide) (by decide) (by decide) rfl wd_1038 wd_1039 wd_1040 wd_97 wd_1041 ⟨by decide, by decide, by decide +kernel⟩ dX9_again_29)) (ax_nd_ok (ax_lf_ok (ak_iconst (by decide) dX9_again_32)) (ax_lf_ok (ak_zret rfl dX9_again_33))))))
abbrev mX9_again (g : ax_G) (as : List Value) (h : ax_H) (Ret : Option Value → ax_H → Prop) : Prop := ax_M g 5 0 0 yX9_again cX9_again 3 (some .boolean) as h Ret
theorem dX9_begun_0 : decode cX9_begun 0 = .ok (.aload_n 0, 1) := by decide +kernel
theorem dX9_begun_1 : decode cX9_begun 1 = .ok (.getfield 10, 3) := by decide +kernel
theorem dX9_begun_4 : decode cX9_begun 4 = .ok (.iload_n 1, 1) := by decide +kernel
theorem dX9_begun_5 : decode cX9_begun 5 = .ok (.invokevirtual 122, 3) := by decide +kernel
theorem dX9_begun_8 : decode cX9_begun 8 = .ok (.astore_n 2, 1) := by decide +kernel
theorem dX9_begun_9 : decode cX9_begun 9 = .ok (.aload_n 2, 1) := by decide +kernel
theorem dX9_begun_10 : decode cX9_begun 10 = .ok (.ifnull 26, 3) := by decide +kernel
theorem dX9_begun_13 : decode cX9_begun 13 = .ok (.aload_n 0, 1) := by decide +kernel
theorem dX9_begun_14 : decode cX9_begun 14 = .ok (.getfield 36, 3) := by decide +kernel
theorem dX9_begun_17 : decode cX9_begun 17 = .ok (.aload_n 2, 1) := by decide +kernel
theorem dX9_begun_18 : decode cX9_begun 18 = .ok (.invokevirtual 303, 3) := by decide +kernel
theorem dX9_begun_21 : decode cX9_begun 21 = .ok (.aload_n 0, 1) := by decide +kernel
theorem dX9_begun_22 : decode cX9_begun 22 = .ok (.getfield 43, 3) := by decide +kernel
theorem dX9_begun_25 : decode cX9_begun 25 = .ok (.aload_n 2, 1) := by decide +kernel
theorem dX9_begun_26 : decode cX9_begun 26 = .ok (.aload_n 0, 1) := by decide +kernel
theorem dX9_begun_27 : decode cX9_begun 27 = .ok (.getfield 36, 3) := by decide +kernel
theorem dX9_begun_30 : decode cX9_begun 30 = .ok (.invokevirtual 118, 3) := by decide +kernel
theorem dX9_begun_33 : decode cX9_begun 33 = .ok (.invokevirtual 186, 3) := by decide +kernel
theorem dX9_begun_36 : decode cX9_begun 36 = .ok (.aload_n 2, 1) := by decide +kernel
theorem dX9_begun_37 : decode cX9_begun 37 = .ok (.areturn, 1) := by decide +kernel
def tX9_begun (g : ax_G) : Nat → ax_O := ax_nd 17 (ax_nd 8 (ax_nd 1 (ax_nd 0 (ax_lf 0 (ao_al 0 1)) (ax_lf 1 (ao_gr 9 0))) (ax_nd 4 (ax_lf 4 (ao_il 1 1)) (ax_nd 5 (ax_lf 5 (ao_inv g 1 8 3 yX8_republicAt cX8_republicAt 2 (some (.object "GluedHour$Republic")) 2 0 0 0 0)) (ax_lf 8 (ao_as 2 1))))) (ax_nd 10 (ax_nd 9 (ax_lf 9 (ao_al 2 1)) (ax_lf 10 (ao_ifnull 36))) (ax_nd 13 (ax_lf 13 (ao_al 0 1)) (ax_nd 14 (ax_lf 14 (ao_gr 9 3)) (ax_lf 17 (ao_al 2 1)))))) (ax_nd 26 (ax_nd 21 (ax_nd 18 (ax_lf 18 (ao_inv g 4 0 0 yX0_begin cX0_begin 5 none 2 0 0 0 0)) (ax_lf 21 (ao_al 0 1))) (ax_nd 22 (ax_lf 22 (ao_gr 9 4)) (ax_nd 25 (ax_lf 25 (ao_al 2 1)) (ax_lf 26 (ao_al 0 1))))) (ax_nd 30 (ax_nd 27 (ax_lf 27 (ao_gr 9 3)) (ax_lf 30 (ao_inv g 1 0 1 yX0_poorest cX0_poorest 3 (some .int) 1 0 0 0 0))) (ax_nd 33 (ax_lf 33 (ao_inv g 3 3 0 yX3_weigh cX3_weigh 4 none 3 0 0 0 0)) (ax_nd 36 (ax_lf 36 (ao_al 2 1)) (ax_lf 37 (ao_aret 0 0))))))
theorem oX9_begun (g : ax_G) : ∀ pc, ax_ok g cX9_begun 3 (some (.object "GluedHour$Republic")) RX9 "begun" 5 0 0 pc (tX9_begun g pc) := ax_nd_ok (ax_nd_ok (ax_nd_ok (ax_nd_ok (ax_lf_ok (ak_aload_n rfl dX9_begun_0)) (ax_lf_ok (ak_gr fF_X9_10 dX9_begun_1))) (ax_nd_ok (ax_lf_ok (ak_iload_n rfl dX9_begun_4)) (ax_nd_ok (ax_lf_ok (ak_invV (by decide) (by decide) (by decide) rfl wd_649 wd_650 wd_651 wd_97 wd_652 ⟨by decide, by decide, by decide +kernel⟩ dX9_begun_5)) (ax_lf_ok (ak_astore_n rfl (by decide) dX9_begun_8))))) (ax_nd_ok (ax_nd_ok (ax_lf_ok (ak_aload_n rfl dX9_begun_9)) (ax_lf_ok (ak_ifnull (by decide) dX9_begun_10))) (ax_nd_ok (ax_lf_ok (ak_aload_n rfl dX9_begun_13)) (ax_nd_ok (ax_lf_ok (ak_gr fF_X9_36 dX9_begun_14)) (ax_lf_ok (ak_aload_n rfl dX9_begun_17)))))) (ax_nd_ok (ax_nd_ok (ax_nd_ok (ax_lf_ok (ak_invV (by decide) (by decide) (by decide) rfl wd_653 wd_654 wd_655 wd_101 wd_656 ⟨by decide, by decide, by decide +kernel⟩ dX9_begun_18)) (ax_lf_ok (ak_aload_n rfl dX9_begun_21))) (ax_nd_ok (ax_lf_ok (ak_gr fF_X9_43 dX9_begun_22)) (ax_nd_ok (ax_lf_ok (ak_aload_n rfl dX9_begun_25)) (ax_lf_ok (ak_aload_n rfl dX9_begun_26))))) (ax_nd_ok (ax_nd_ok (ax_lf_ok (ak_gr fF_X9_36 dX9_begun_27)) (ax_lf_ok (ak_invV (by decide) (by decide) (by decide) rfl wd_690 wd_691 wd_692 wd_101 wd_693 ⟨by decide, by decide, by decide +kernel⟩ dX9_begun_30))) (ax_nd_ok (ax_lf_ok (ak_invV (by decide) (by decide) (by decide) rfl wd_694 wd_695 wd_696 wd_102 wd_697 ⟨by decide, by decide, by decide +kernel⟩ dX9_begun_33)) (ax_nd_ok (ax_lf_ok (ak_aload_n rfl dX9_begun_36)) (ax_lf_ok (ak_aret rfl (Or.inl ⟨_, rfl⟩) dX9_begun_37))))))
abbrev mX9_begun (g : ax_G) (as : List Value) (h : ax_H) (Ret : Option Value → ax_H → Prop) : Prop := ax_M g 5 0 0 yX9_begun cX9_begun 3 (some (.object "GluedHour$Republic")) as h Ret
theorem dX9_stops_0 : decode cX9_stops 0 = .ok (.aload_n 1, 1) := by decide +kernel
theorem dX9_stops_1 : decode cX9_stops 1 = .ok (.ifnull 15, 3) := by decide +kernel
theorem dX9_stops_4 : decode cX9_stops 4 = .ok (.iload_n 2, 1) := by decide +kernel
theorem dX9_stops_5 : decode cX9_stops 5 = .ok (.ifCond .lt 11, 3) := by decide +kernel
theorem dX9_stops_8 : decode cX9_stops 8 = .ok (.iload_n 2, 1) := by decide +kernel
theorem dX9_stops_9 : decode cX9_stops 9 = .ok (.aload_n 1, 1) := by decide +kernel
theorem dX9_stops_10 : decode cX9_stops 10 = .ok (.getfield 163, 3) := by decide +kernel
theorem dX9_stops_13 : decode cX9_stops 13 = .ok (.if_icmp .le 5, 3) := by decide +kernel
theorem dX9_stops_16 : decode cX9_stops 16 = .ok (.iconst 1, 1) := by decide +kernel
theorem dX9_stops_17 : decode cX9_stops 17 = .ok (.ireturn, 1) := by decide +kernel
theorem dX9_stops_18 : decode cX9_stops 18 = .ok (.iconst 0, 1) := by decide +kernel
theorem dX9_stops_19 : decode cX9_stops 19 = .ok (.istore_n 3, 1) := by decide +kernel
theorem dX9_stops_20 : decode cX9_stops 20 = .ok (.iload_n 3, 1) := by decide +kernel
theorem dX9_stops_21 : decode cX9_stops 21 = .ok (.iload_n 2, 1) := by decide +kernel
theorem dX9_stops_22 : decode cX9_stops 22 = .ok (.if_icmp .ge 24, 3) := by decide +kernel
theorem dX9_stops_25 : decode cX9_stops 25 = .ok (.aload_n 0, 1) := by decide +kernel
theorem dX9_stops_26 : decode cX9_stops 26 = .ok (.aload_n 1, 1) := by decide +kernel
theorem dX9_stops_27 : decode cX9_stops 27 = .ok (.iload_n 3, 1) := by decide +kernel
theorem dX9_stops_28 : decode cX9_stops 28 = .ok (.iconst 0, 1) := by decide +kernel
theorem dX9_stops_29 : decode cX9_stops 29 = .ok (.invokevirtual 171, 3) := by decide +kernel
theorem dX9_stops_32 : decode cX9_stops 32 = .ok (.invokevirtual 142, 3) := by decide +kernel
theorem dX9_stops_35 : decode cX9_stops 35 = .ok (.ifCond .ne 5, 3) := by decide +kernel
theorem dX9_stops_38 : decode cX9_stops 38 = .ok (.iconst 1, 1) := by decide +kernel
theorem dX9_stops_39 : decode cX9_stops 39 = .ok (.ireturn, 1) := by decide +kernel
theorem dX9_stops_40 : decode cX9_stops 40 = .ok (.iinc 3 1, 3) := by decide +kernel
theorem dX9_stops_43 : decode cX9_stops 43 = .ok (.goto (-23), 3) := by decide +kernel
theorem dX9_stops_46 : decode cX9_stops 46 = .ok (.iconst 0, 1) := by decide +kernel
theorem dX9_stops_47 : decode cX9_stops 47 = .ok (.ireturn, 1) := by decide +kernel
def tX9_stops (g : ax_G) : Nat → ax_O := ax_nd 21 (ax_nd 10 (ax_nd 4 (ax_nd 0 (ax_lf 0 (ao_al 1 1)) (ax_nd 1 (ax_lf 1 (ao_ifnull 16)) (ax_lf 4 (ao_il 2 1)))) (ax_nd 8 (ax_nd 5 (ax_lf 5 (ao_if_lt 16)) (ax_lf 8 (ao_il 2 1))) (ax_nd 9 (ax_lf 9 (ao_al 1 1)) (ax_lf 10 (ao_gi 2 3))))) (ax_nd 17 (ax_nd 13 (ax_lf 13 (ao_icmp_le 18)) (ax_nd 16 (ax_lf 16 (ao_ic (1) 1)) (ax_lf 17 (ao_zret 0 0)))) (ax_nd 19 (ax_nd 18 (ax_lf 18 (ao_ic (0) 1)) (ax_lf 19 (ao_is 3 1))) (ax_nd 20 (ax_lf 20 (ao_il 3 1)) (ax_lf 21 (ao_il 2 1)))))) (ax_nd 32 (ax_nd 26 (ax_nd 22 (ax_lf 22 (ao_icmp_ge 46)) (ax_nd 25 (ax_lf 25 (ao_al 0 1)) (ax_lf 26 (ao_al 1 1)))) (ax_nd 28 (ax_nd 27 (ax_lf 27 (ao_il 3 1)) (ax_lf 28 (ao_ic (0) 1))) (ax_nd 29 (ax_lf 29 (ao_inv g 2 2 1 yX2_cell cX2_cell 3 (some .int) 3 0 0 0 0)) (ax_lf 32 (ao_inv g 1 6 1 yX6_hasHour cX6_hasHour 2 (some .boolean) 2 0 0 0 0))))) (ax_nd 39 (ax_nd 35 (ax_lf 35 (ao_if_ne 40)) (ax_nd 38 (ax_lf 38 (ao_ic (1) 1)) (ax_lf 39 (ao_zret 0 0)))) (ax_nd 43 (ax_nd 40 (ax_lf 40 (ao_iinc 3 (1))) (ax_lf 43 (ao_goto 20))) (ax_nd 46 (ax_lf 46 (ao_ic (0) 1)) (ax_lf 47 (ao_zret 0 0))))))
theorem oX9_stops (g : ax_G) : ∀ pc, ax_ok g cX9_stops 4 (some .boolean) RX9 "stops" 3 0 0 pc (tX9_stops g pc) := ax_nd_ok (ax_nd_ok (ax_nd_ok (ax_nd_ok (ax_lf_ok (ak_aload_n rfl dX9_stops_0)) (ax_nd_ok (ax_lf_ok (ak_ifnull (by decide) dX9_stops_1)) (ax_lf_ok (ak_iload_n rfl dX9_stops_4)))) (ax_nd_ok (ax_nd_ok (ax_lf_ok (ak_if_lt (by decide) dX9_stops_5)) (ax_lf_ok (ak_iload_n rfl dX9_stops_8))) (ax_nd_ok (ax_lf_ok (ak_aload_n rfl dX9_stops_9)) (ax_lf_ok (ak_gi fF_X9_163 dX9_stops_10))))) (ax_nd_ok (ax_nd_ok (ax_lf_ok (ak_icmp_le (by decide) dX9_stops_13)) (ax_nd_ok (ax_lf_ok (ak_iconst (by decide) dX9_stops_16)) (ax_lf_ok (ak_zret rfl dX9_stops_17)))) (ax_nd_ok (ax_nd_ok (ax_lf_ok (ak_iconst (by decide) dX9_stops_18)) (ax_lf_ok (ak_istore_n rfl (by decide) dX9_stops_19))) (ax_nd_ok (ax_lf_ok (ak_iload_n rfl dX9_stops_20)) (ax_lf_ok (ak_iload_n rfl dX9_stops_21)))))) (ax_nd_ok (ax_nd_ok (ax_nd_ok (ax_lf_ok (ak_icmp_ge (by decide) dX9_stops_22)) (ax_nd_ok (ax_lf_ok (ak_aload_n rfl dX9_stops_25)) (ax_lf_ok (ak_aload_n rfl dX9_stops_26)))) (ax_nd_ok (ax_nd_ok (ax_lf_ok (ak_iload_n rfl dX9_stops_27)) (ax_lf_ok (ak_iconst (by decide) dX9_stops_28))) (ax_nd_ok (ax_lf_ok (ak_invV (by decide) (by decide) (by decide) rfl wd_753 wd_754 wd_755 wd_99 wd_756 ⟨by decide, by decide, by decide +kernel⟩ dX9_stops_29)) (ax_lf_ok (ak_invV (by decide) (by decide) (by decide) rfl wd_719 wd_670 wd_671 wd_98 wd_672 ⟨by decide, by decide, by decide +kernel⟩ dX9_stops_32))))) (ax_nd_ok (ax_nd_ok (ax_lf_ok (ak_if_ne (by decide) dX9_stops_35)) (ax_nd_ok (ax_lf_ok (ak_iconst (by decide) dX9_stops_38)) (ax_lf_ok (ak_zret rfl dX9_stops_39)))) (ax_nd_ok (ax_nd_ok (ax_lf_ok (ak_iinc (by decide) (by decide) dX9_stops_40)) (ax_lf_ok (ak_goto (by decide) dX9_stops_43))) (ax_nd_ok (ax_lf_ok (ak_iconst (by decide) dX9_stops_46)) (ax_lf_ok (ak_zret rfl dX9_stops_47))))))
abbrev mX9_stops (g : ax_G) (as : List Value) (h : ax_H) (Ret : Option Value → ax_H → Prop) : Prop := ax_M g 3 0 0 yX9_stops cX9_stops 4 (some .boolean) as h Ret
theorem dX9_gainBy_0 : decode cX9_gainBy 0 = .ok (.aload_n 0, 1) := by decide +kernel
theorem dX9_gainBy_1 : decode cX9_gainBy 1 = .ok (.getfield 36, 3) := by decide +kernel
theorem dX9_gainBy_4 : decode cX9_gainBy 4 = .ok (.iload_n 1, 1) := by decide +kernel
theorem dX9_gainBy_5 : decode cX9_gainBy 5 = .ok (.iload_n 2, 1) := by decide +kernel
theorem dX9_gainBy_6 : decode cX9_gainBy 6 = .ok (.invokevirtual 146, 3) := by decide +kernel
theorem dX9_gainBy_9 : decode cX9_gainBy 9 = .ok (.i2l, 1) := by decide +kernel
theorem dX9_gainBy_10 : decode cX9_gainBy 10 = .ok (.aload_n 0, 1) := by decide +kernel
theorem dX9_gainBy_11 : decode cX9_gainBy 11 = .ok (.getfield 43, 3) := by decide +kernel
theorem dX9_gainBy_14 : decode cX9_gainBy 14 = .ok (.getfield 152, 3) := by decide +kernel
theorem dX9_gainBy_17 : decode cX9_gainBy 17 = .ok (.i2l, 1) := by decide +kernel
theorem dX9_gainBy_18 : decode cX9_gainBy 18 = .ok (.lmul, 1) := by decide +kernel
theorem dX9_gainBy_19 : decode cX9_gainBy 19 = .ok (.aload_n 0, 1) := by decide +kernel
theorem dX9_gainBy_20 : decode cX9_gainBy 20 = .ok (.getfield 36, 3) := by decide +kernel
theorem dX9_gainBy_23 : decode cX9_gainBy 23 = .ok (.iload_n 1, 1) := by decide +kernel
theorem dX9_gainBy_24 : decode cX9_gainBy 24 = .ok (.aload_n 0, 1) := by decide +kernel
theorem dX9_gainBy_25 : decode cX9_gainBy 25 = .ok (.getfield 43, 3) := by decide +kernel
theorem dX9_gainBy_28 : decode cX9_gainBy 28 = .ok (.invokevirtual 194, 3) := by decide +kernel
theorem dX9_gainBy_31 : decode cX9_gainBy 31 = .ok (.lsub, 1) := by decide +kernel
theorem dX9_gainBy_32 : decode cX9_gainBy 32 = .ok (.lreturn, 1) := by decide +kernel
def tX9_gainBy (g : ax_G) : Nat → ax_O := ax_nd 14 (ax_nd 5 (ax_nd 1 (ax_nd 0 (ax_lf 0 (ao_al 0 1)) (ax_lf 1 (ao_gr 9 3))) (ax_nd 4 (ax_lf 4 (ao_il 1 1)) (ax_lf 5 (ao_il 2 1)))) (ax_nd 9 (ax_nd 6 (ax_lf 6 (ao_inv g 1 0 1 yX0_brings cX0_brings 5 (some .int) 3 0 0 0 0)) (ax_lf 9 ao_i2l)) (ax_nd 10 (ax_lf 10 (ao_al 0 1)) (ax_nd 11 (ax_lf 11 (ao_gr 9 4)) (ax_lf 14 (ao_gi 3 2)))))) (ax_nd 23 (ax_nd 18 (ax_nd 17 (ax_lf 17 ao_i2l) (ax_lf 18 ao_lmul)) (ax_nd 19 (ax_lf 19 (ao_al 0 1)) (ax_nd 20 (ax_lf 20 (ao_gr 9 3)) (ax_lf 23 (ao_il 1 1))))) (ax_nd 25 (ax_nd 24 (ax_lf 24 (ao_al 0 1)) (ax_lf 25 (ao_gr 9 4))) (ax_nd 28 (ax_lf 28 (ao_inv g 2 0 2 yX0_weighed cX0_weighed 6 (some .long) 3 0 0 0 0)) (ax_nd 31 (ax_lf 31 ao_lsub) (ax_lf 32 (ao_lret 0 0))))))
theorem oX9_gainBy (g : ax_G) : ∀ pc, ax_ok g cX9_gainBy 3 (some .long) RX9 "gainBy" 3 0 0 pc (tX9_gainBy g pc) := ax_nd_ok (ax_nd_ok (ax_nd_ok (ax_nd_ok (ax_lf_ok (ak_aload_n rfl dX9_gainBy_0)) (ax_lf_ok (ak_gr fF_X9_36 dX9_gainBy_1))) (ax_nd_ok (ax_lf_ok (ak_iload_n rfl dX9_gainBy_4)) (ax_lf_ok (ak_iload_n rfl dX9_gainBy_5)))) (ax_nd_ok (ax_nd_ok (ax_lf_ok (ak_invV (by decide) (by decide) (by decide) rfl wd_721 wd_722 wd_723 wd_101 wd_724 ⟨by decide, by decide, by decide +kernel⟩ dX9_gainBy_6)) (ax_lf_ok (ak_i2l dX9_gainBy_9))) (ax_nd_ok (ax_lf_ok (ak_aload_n rfl dX9_gainBy_10)) (ax_nd_ok (ax_lf_ok (ak_gr fF_X9_43 dX9_gainBy_11)) (ax_lf_ok (ak_gi fF_X9_152 dX9_gainBy_14)))))) (ax_nd_ok (ax_nd_ok (ax_nd_ok (ax_lf_ok (ak_i2l dX9_gainBy_17)) (ax_lf_ok (ak_lmul dX9_gainBy_18))) (ax_nd_ok (ax_lf_ok (ak_aload_n rfl dX9_gainBy_19)) (ax_nd_ok (ax_lf_ok (ak_gr fF_X9_36 dX9_gainBy_20)) (ax_lf_ok (ak_iload_n rfl dX9_gainBy_23))))) (ax_nd_ok (ax_nd_ok (ax_lf_ok (ak_aload_n rfl dX9_gainBy_24)) (ax_lf_ok (ak_gr fF_X9_43 dX9_gainBy_25))) (ax_nd_ok (ax_lf_ok (ak_invV (by decide) (by decide) (by decide) rfl wd_788 wd_789 wd_790 wd_101 wd_791 ⟨by decide, by decide, by decide +kernel⟩ dX9_gainBy_28)) (ax_nd_ok (ax_lf_ok (ak_lsub dX9_gainBy_31)) (ax_lf_ok (ak_lret rfl dX9_gainBy_32))))))
abbrev mX9_gainBy (g : ax_G) (as : List Value) (h : ax_H) (Ret : Option Value → ax_H → Prop) : Prop := ax_M g 3 0 0 yX9_gainBy cX9_gainBy 3 (some .long) as h Ret
theorem dX9_changeBy_0 : decode cX9_changeBy 0 = .ok (.lconst 0, 1) := by decide +kernel
theorem dX9_changeBy_1 : decode cX9_changeBy 1 = .ok (.lstore 4, 2) := by decide +kernel
theorem dX9_changeBy_3 : decode cX9_changeBy 3 = .ok (.iconst 0, 1) := by decide +kernel
theorem dX9_changeBy_4 : decode cX9_changeBy 4 = .ok (.istore 6, 2) := by decide +kernel
theorem dX9_changeBy_6 : decode cX9_changeBy 6 = .ok (.iload 6, 2) := by decide +kernel
theorem dX9_changeBy_8 : decode cX9_changeBy 8 = .ok (.aload_n 1, 1) := by decide +kernel
theorem dX9_changeBy_9 : decode cX9_changeBy 9 = .ok (.getfield 115, 3) := by decide +kernel
theorem dX9_changeBy_12 : decode cX9_changeBy 12 = .ok (.if_icmp .ge 59, 3) := by decide +kernel
theorem dX9_changeBy_15 : decode cX9_changeBy 15 = .ok (.iconst 0, 1) := by decide +kernel
theorem dX9_changeBy_16 : decode cX9_changeBy 16 = .ok (.istore 7, 2) := by decide +kernel
theorem dX9_changeBy_18 : decode cX9_changeBy 18 = .ok (.iload 7, 2) := by decide +kernel
theorem dX9_changeBy_20 : decode cX9_changeBy 20 = .ok (.aload_n 1, 1) := by decide +kernel
theorem dX9_changeBy_21 : decode cX9_changeBy 21 = .ok (.getfield 112, 3) := by decide +kernel
theorem dX9_changeBy_24 : decode cX9_changeBy 24 = .ok (.if_icmp .ge 41, 3) := by decide +kernel
theorem dX9_changeBy_27 : decode cX9_changeBy 27 = .ok (.lload 4, 2) := by decide +kernel
theorem dX9_changeBy_29 : decode cX9_changeBy 29 = .ok (.aload_n 1, 1) := by decide +kernel
theorem dX9_changeBy_30 : decode cX9_changeBy 30 = .ok (.iload 6, 2) := by decide +kernel
theorem dX9_changeBy_32 : decode cX9_changeBy 32 = .ok (.iload 7, 2) := by decide +kernel
theorem dX9_changeBy_34 : decode cX9_changeBy 34 = .ok (.invokevirtual 132, 3) := by decide +kernel
theorem dX9_changeBy_37 : decode cX9_changeBy 37 = .ok (.iload_n 2, 1) := by decide +kernel
theorem dX9_changeBy_38 : decode cX9_changeBy 38 = .ok (.if_icmp .ne 17, 3) := by decide +kernel
theorem dX9_changeBy_41 : decode cX9_changeBy 41 = .ok (.aload_n 0, 1) := by decide +kernel
theorem dX9_changeBy_42 : decode cX9_changeBy 42 = .ok (.getfield 43, 3) := by decide +kernel
theorem dX9_changeBy_45 : decode cX9_changeBy 45 = .ok (.getfield 149, 3) := by decide +kernel
theorem dX9_changeBy_48 : decode cX9_changeBy 48 = .ok (.iload 7, 2) := by decide +kernel
theorem dX9_changeBy_50 : decode cX9_changeBy 50 = .ok (.iaload, 1) := by decide +kernel
theorem dX9_changeBy_51 : decode cX9_changeBy 51 = .ok (.i2l, 1) := by decide +kernel
theorem dX9_changeBy_52 : decode cX9_changeBy 52 = .ok (.goto 4, 3) := by decide +kernel
theorem dX9_changeBy_55 : decode cX9_changeBy 55 = .ok (.lconst 0, 1) := by decide +kernel
theorem dX9_changeBy_56 : decode cX9_changeBy 56 = .ok (.ladd, 1) := by decide +kernel
theorem dX9_changeBy_57 : decode cX9_changeBy 57 = .ok (.lstore 4, 2) := by decide +kernel
theorem dX9_changeBy_59 : decode cX9_changeBy 59 = .ok (.iinc 7 1, 3) := by decide +kernel
theorem dX9_changeBy_62 : decode cX9_changeBy 62 = .ok (.goto (-44), 3) := by decide +kernel
theorem dX9_changeBy_65 : decode cX9_changeBy 65 = .ok (.iinc 6 1, 3) := by decide +kernel
theorem dX9_changeBy_68 : decode cX9_changeBy 68 = .ok (.goto (-62), 3) := by decide +kernel
theorem dX9_changeBy_71 : decode cX9_changeBy 71 = .ok (.lload 4, 2) := by decide +kernel
theorem dX9_changeBy_73 : decode cX9_changeBy 73 = .ok (.aload_n 1, 1) := by decide +kernel
theorem dX9_changeBy_74 : decode cX9_changeBy 74 = .ok (.iload_n 2, 1) := by decide +kernel
theorem dX9_changeBy_75 : decode cX9_changeBy 75 = .ok (.iload_n 3, 1) := by decide +kernel
theorem dX9_changeBy_76 : decode cX9_changeBy 76 = .ok (.invokevirtual 307, 3) := by decide +kernel
theorem dX9_changeBy_79 : decode cX9_changeBy 79 = .ok (.aload_n 1, 1) := by decide +kernel
theorem dX9_changeBy_80 : decode cX9_changeBy 80 = .ok (.iload_n 2, 1) := by decide +kernel
theorem dX9_changeBy_81 : decode cX9_changeBy 81 = .ok (.invokevirtual 211, 3) := by decide +kernel
theorem dX9_changeBy_84 : decode cX9_changeBy 84 = .ok (.isub, 1) := by decide +kernel
theorem dX9_changeBy_85 : decode cX9_changeBy 85 = .ok (.i2l, 1) := by decide +kernel
theorem dX9_changeBy_86 : decode cX9_changeBy 86 = .ok (.lmul, 1) := by decide +kernel
theorem dX9_changeBy_87 : decode cX9_changeBy 87 = .ok (.lreturn, 1) := by decide +kernel
def tX9_changeBy (g : ax_G) : Nat → ax_O := ax_nd 42 (ax_nd 18 (ax_nd 6 (ax_nd 1 (ax_nd 0 (ax_lf 0 (ao_lc (0) 1)) (ax_lf 1 (ao_ls 4 2))) (ax_nd 3 (ax_lf 3 (ao_ic (0) 1)) (ax_nd 4 (ax_lf 4 (ao_is 6 2)) (ax_lf 6 (ao_il 6 2))))) (ax_nd 12 (ax_nd 8 (ax_lf 8 (ao_al 1 1)) (ax_nd 9 (ax_lf 9 (ao_gi 6 6)) (ax_lf 12 (ao_icmp_ge 71)))) (ax_nd 15 (ax_lf 15 (ao_ic (0) 1)) (ax_nd 16 (ax_lf 16 (ao_is 7 2)) (ax_lf 18 (ao_il 7 2)))))) (ax_nd 30 (ax_nd 24 (ax_nd 20 (ax_lf 20 (ao_al 1 1)) (ax_nd 21 (ax_lf 21 (ao_gi 6 5)) (ax_lf 24 (ao_icmp_ge 65)))) (ax_nd 27 (ax_lf 27 (ao_ll 4 2)) (ax_nd 29 (ax_lf 29 (ao_al 1 1)) (ax_lf 30 (ao_il 6 2))))) (ax_nd 37 (ax_nd 32 (ax_lf 32 (ao_il 7 2)) (ax_nd 34 (ax_lf 34 (ao_inv g 2 6 1 yX6_deedAt cX6_deedAt 3 (some .int) 3 0 0 0 0)) (ax_lf 37 (ao_il 2 1)))) (ax_nd 38 (ax_lf 38 (ao_icmp_ne 55)) (ax_nd 41 (ax_lf 41 (ao_al 0 1)) (ax_lf 42 (ao_gr 9 4))))))) (ax_nd 68 (ax_nd 55 (ax_nd 50 (ax_nd 45 (ax_lf 45 (ao_gr 3 0)) (ax_nd 48 (ax_lf 48 (ao_il 7 2)) (ax_lf 50 ao_iald))) (ax_nd 51 (ax_lf 51 ao_i2l) (ax_nd 52 (ax_lf 52 (ao_goto 56)) (ax_lf 55 (ao_lc (0) 1))))) (ax_nd 59 (ax_nd 56 (ax_lf 56 ao_ladd) (ax_nd 57 (ax_lf 57 (ao_ls 4 2)) (ax_lf 59 (ao_iinc 7 (1))))) (ax_nd 62 (ax_lf 62 (ao_goto 18)) (ax_nd 65 (ax_lf 65 (ao_iinc 6 (1))) (ax_lf 68 (ao_goto 6)))))) (ax_nd 79 (ax_nd 74 (ax_nd 71 (ax_lf 71 (ao_ll 4 2)) (ax_nd 73 (ax_lf 73 (ao_al 1 1)) (ax_lf 74 (ao_il 2 1)))) (ax_nd 75 (ax_lf 75 (ao_il 3 1)) (ax_nd 76 (ax_lf 76 (ao_inv g 2 6 1 yX6_extraBy cX6_extraBy 3 (some .int) 3 0 0 0 0)) (ax_lf 79 (ao_al 1 1))))) (ax_nd 84 (ax_nd 80 (ax_lf 80 (ao_il 2 1)) (ax_nd 81 (ax_lf 81 (ao_inv g 3 6 1 yX6_extraOf cX6_extraOf 2 (some .int) 2 0 0 0 0)) (ax_lf 84 ao_isub))) (ax_nd 85 (ax_lf 85 ao_i2l) (ax_nd 86 (ax_lf 86 ao_lmul) (ax_lf 87 (ao_lret 0 0)))))))
theorem oX9_changeBy (g : ax_G) : ∀ pc, ax_ok g cX9_changeBy 8 (some .long) RX9 "changeBy" 4 0 0 pc (tX9_changeBy g pc) := ax_nd_ok (ax_nd_ok (ax_nd_ok (ax_nd_ok (ax_nd_ok (ax_lf_ok (ak_lconst (by decide) dX9_changeBy_0)) (ax_lf_ok (ak_lstore (by decide) dX9_changeBy_1))) (ax_nd_ok (ax_lf_ok (ak_iconst (by decide) dX9_changeBy_3)) (ax_nd_ok (ax_lf_ok (ak_istore (by decide) dX9_changeBy_4)) (ax_lf_ok (ak_iload dX9_changeBy_6))))) (ax_nd_ok (ax_nd_ok (ax_lf_ok (ak_aload_n rfl dX9_changeBy_8)) (ax_nd_ok (ax_lf_ok (ak_gi fF_X9_115 dX9_changeBy_9)) (ax_lf_ok (ak_icmp_ge (by decide) dX9_changeBy_12)))) (ax_nd_ok (ax_lf_ok (ak_iconst (by decide) dX9_changeBy_15)) (ax_nd_ok (ax_lf_ok (ak_istore (by decide) dX9_changeBy_16)) (ax_lf_ok (ak_iload dX9_changeBy_18)))))) (ax_nd_ok (ax_nd_ok (ax_nd_ok (ax_lf_ok (ak_aload_n rfl dX9_changeBy_20)) (ax_nd_ok (ax_lf_ok (ak_gi fF_X9_112 dX9_changeBy_21)) (ax_lf_ok (ak_icmp_ge (by decide) dX9_changeBy_24)))) (ax_nd_ok (ax_lf_ok (ak_lload dX9_changeBy_27)) (ax_nd_ok (ax_lf_ok (ak_aload_n rfl dX9_changeBy_29)) (ax_lf_ok (ak_iload dX9_changeBy_30))))) (ax_nd_ok (ax_nd_ok (ax_lf_ok (ak_iload dX9_changeBy_32)) (ax_nd_ok (ax_lf_ok (ak_invV (by decide) (by decide) (by decide) rfl wd_709 wd_662 wd_663 wd_98 wd_664 ⟨by decide, by decide, by decide +kernel⟩ dX9_changeBy_34)) (ax_lf_ok (ak_iload_n rfl dX9_changeBy_37)))) (ax_nd_ok (ax_lf_ok (ak_icmp_ne (by decide) dX9_changeBy_38)) (ax_nd_ok (ax_lf_ok (ak_aload_n rfl dX9_changeBy_41)) (ax_lf_ok (ak_gr fF_X9_43 dX9_changeBy_42))))))) (ax_nd_ok (ax_nd_ok (ax_nd_ok (ax_nd_ok (ax_lf_ok (ak_gr fF_X9_149 dX9_changeBy_45)) (ax_nd_ok (ax_lf_ok (ak_iload dX9_changeBy_48)) (ax_lf_ok (ak_iald dX9_changeBy_50)))) (ax_nd_ok (ax_lf_ok (ak_i2l dX9_changeBy_51)) (ax_nd_ok (ax_lf_ok (ak_goto (by decide) dX9_changeBy_52)) (ax_lf_ok (ak_lconst (by decide) dX9_changeBy_55))))) (ax_nd_ok (ax_nd_ok (ax_lf_ok (ak_ladd dX9_changeBy_56)) (ax_nd_ok (ax_lf_ok (ak_lstore (by decide) dX9_changeBy_57)) (ax_lf_ok (ak_iinc (by decide) (by decide) dX9_changeBy_59)))) (ax_nd_ok (ax_lf_ok (ak_goto (by decide) dX9_changeBy_62)) (ax_nd_ok (ax_lf_ok (ak_iinc (by decide) (by decide) dX9_changeBy_65)) (ax_lf_ok (ak_goto (by decide) dX9_changeBy_68)))))) (ax_nd_ok (ax_nd_ok (ax_nd_ok (ax_lf_ok (ak_lload dX9_changeBy_71)) (ax_nd_ok (ax_lf_ok (ak_aload_n rfl dX9_changeBy_73)) (ax_lf_ok (ak_iload_n rfl dX9_changeBy_74)))) (ax_nd_ok (ax_lf_ok (ak_iload_n rfl dX9_changeBy_75)) (ax_nd_ok (ax_lf_ok (ak_invV (by decide) (by decide) (by decide) rfl wd_1016 wd_687 wd_688 wd_98 wd_689 ⟨by decide, by decide, by decide +kernel⟩ dX9_changeBy_76)) (ax_lf_ok (ak_aload_n rfl dX9_changeBy_79))))) (ax_nd_ok (ax_nd_ok (ax_lf_ok (ak_iload_n rfl dX9_changeBy_80)) (ax_nd_ok (ax_lf_ok (ak_invV (by decide) (by decide) (by decide) rfl wd_817 wd_679 wd_680 wd_98 wd_681 ⟨by decide, by decide, by decide +kernel⟩ dX9_changeBy_81)) (ax_lf_ok (ak_isub dX9_changeBy_84)))) (ax_nd_ok (ax_lf_ok (ak_i2l dX9_changeBy_85)) (ax_nd_ok (ax_lf_ok (ak_lmul dX9_changeBy_86)) (ax_lf_ok (ak_lret rfl dX9_changeBy_87)))))))
abbrev mX9_changeBy (g : ax_G) (as : List Value) (h : ax_H) (Ret : Option Value → ax_H → Prop) : Prop := ax_M g 4 0 0 yX9_changeBy cX9_changeBy 8 (some .long) as h Ret
theorem dX9_expected_0 : decode cX9_expected 0 = .ok (.aload_n 0, 1) := by decide +kernel
theorem dX9_expected_1 : decode cX9_expected 1 = .ok (.iload_n 1, 1) := by decide +kernel
theorem dX9_expected_2 : decode cX9_expected 2 = .ok (.invokevirtual 99, 3) := by decide +kernel
theorem dX9_expected_5 : decode cX9_expected 5 = .ok (.astore 5, 2) := by decide +kernel
theorem dX9_expected_7 : decode cX9_expected 7 = .ok (.aload 5, 2) := by decide +kernel
theorem dX9_expected_9 : decode cX9_expected 9 = .ok (.ifnull 21, 3) := by decide +kernel
theorem dX9_expected_12 : decode cX9_expected 12 = .ok (.aload 5, 2) := by decide +kernel
theorem dX9_expected_14 : decode cX9_expected 14 = .ok (.iload_n 2, 1) := by decide +kernel
theorem dX9_expected_15 : decode cX9_expected 15 = .ok (.invokevirtual 125, 3) := by decide +kernel
theorem dX9_expected_18 : decode cX9_expected 18 = .ok (.ifCond .eq 12, 3) := by decide +kernel
theorem dX9_expected_21 : decode cX9_expected 21 = .ok (.iload_n 3, 1) := by decide +kernel
theorem dX9_expected_22 : decode cX9_expected 22 = .ok (.ifCond .lt 8, 3) := by decide +kernel
theorem dX9_expected_25 : decode cX9_expected 25 = .ok (.iload_n 3, 1) := by decide +kernel
theorem dX9_expected_26 : decode cX9_expected 26 = .ok (.iconst 2, 1) := by decide +kernel
theorem dX9_expected_27 : decode cX9_expected 27 = .ok (.if_icmp .le 5, 3) := by decide +kernel
theorem dX9_expected_30 : decode cX9_expected 30 = .ok (.iconst 0, 1) := by decide +kernel
theorem dX9_expected_31 : decode cX9_expected 31 = .ok (.ireturn, 1) := by decide +kernel
theorem dX9_expected_32 : decode cX9_expected 32 = .ok (.aload_n 0, 1) := by decide +kernel
theorem dX9_expected_33 : decode cX9_expected 33 = .ok (.getfield 67, 3) := by decide +kernel
theorem dX9_expected_36 : decode cX9_expected 36 = .ok (.lconst 0, 1) := by decide +kernel
theorem dX9_expected_37 : decode cX9_expected 37 = .ok (.lconst 1, 1) := by decide +kernel
theorem dX9_expected_38 : decode cX9_expected 38 = .ok (.invokevirtual 310, 3) := by decide +kernel
theorem dX9_expected_41 : decode cX9_expected 41 = .ok (.iload_n 3, 1) := by decide +kernel
theorem dX9_expected_42 : decode cX9_expected 42 = .ok (.ifCond .ne 25, 3) := by decide +kernel
theorem dX9_expected_45 : decode cX9_expected 45 = .ok (.aload_n 0, 1) := by decide +kernel
theorem dX9_expected_46 : decode cX9_expected 46 = .ok (.getfield 67, 3) := by decide +kernel
theorem dX9_expected_49 : decode cX9_expected 49 = .ok (.aload_n 0, 1) := by decide +kernel
theorem dX9_expected_50 : decode cX9_expected 50 = .ok (.getfield 36, 3) := by decide +kernel
theorem dX9_expected_53 : decode cX9_expected 53 = .ok (.iload_n 2, 1) := by decide +kernel
theorem dX9_expected_54 : decode cX9_expected 54 = .ok (.iload 4, 2) := by decide +kernel
theorem dX9_expected_56 : decode cX9_expected 56 = .ok (.invokevirtual 314, 3) := by decide +kernel
theorem dX9_expected_59 : decode cX9_expected 59 = .ok (.i2l, 1) := by decide +kernel
theorem dX9_expected_60 : decode cX9_expected 60 = .ok (.lconst 1, 1) := by decide +kernel
theorem dX9_expected_61 : decode cX9_expected 61 = .ok (.invokevirtual 310, 3) := by decide +kernel
theorem dX9_expected_64 : decode cX9_expected 64 = .ok (.goto 145, 3) := by decide +kernel
theorem dX9_expected_67 : decode cX9_expected 67 = .ok (.iload_n 3, 1) := by decide +kernel
theorem dX9_expected_68 : decode cX9_expected 68 = .ok (.iconst 1, 1) := by decide +kernel
theorem dX9_expected_69 : decode cX9_expected 69 = .ok (.if_icmp .ne 34, 3) := by decide +kernel
theorem dX9_expected_72 : decode cX9_expected 72 = .ok (.aload_n 0, 1) := by decide +kernel
theorem dX9_expected_73 : decode cX9_expected 73 = .ok (.getfield 67, 3) := by decide +kernel
theorem dX9_expected_76 : decode cX9_expected 76 = .ok (.aload_n 0, 1) := by decide +kernel
theorem dX9_expected_77 : decode cX9_expected 77 = .ok (.aload 5, 2) := by decide +kernel
theorem dX9_expected_79 : decode cX9_expected 79 = .ok (.aload_n 0, 1) := by decide +kernel
theorem dX9_expected_80 : decode cX9_expected 80 = .ok (.getfield 43, 3) := by decide +kernel
theorem dX9_expected_83 : decode cX9_expected 83 = .ok (.iload_n 2, 1) := by decide +kernel
theorem dX9_expected_84 : decode cX9_expected 84 = .ok (.iload 4, 2) := by decide +kernel
theorem dX9_expected_86 : decode cX9_expected 86 = .ok (.invokevirtual 318, 3) := by decide +kernel
theorem dX9_expected_89 : decode cX9_expected 89 = .ok (.aload_n 0, 1) := by decide +kernel
theorem dX9_expected_90 : decode cX9_expected 90 = .ok (.getfield 43, 3) := by decide +kernel
theorem dX9_expected_93 : decode cX9_expected 93 = .ok (.getfield 152, 3) := by decide +kernel
theorem dX9_expected_96 : decode cX9_expected 96 = .ok (.i2l, 1) := by decide +kernel
theorem dX9_expected_97 : decode cX9_expected 97 = .ok (.invokevirtual 310, 3) := by decide +kernel
theorem dX9_expected_100 : decode cX9_expected 100 = .ok (.goto 109, 3) := by decide +kernel
theorem dX9_expected_103 : decode cX9_expected 103 = .ok (.iconst 0, 1) := by decide +kernel
theorem dX9_expected_104 : decode cX9_expected 104 = .ok (.istore 6, 2) := by decide +kernel
theorem dX9_expected_106 : decode cX9_expected 106 = .ok (.iload 6, 2) := by decide +kernel
theorem dX9_expected_108 : decode cX9_expected 108 = .ok (.aload 5, 2) := by decide +kernel
theorem dX9_expected_110 : decode cX9_expected 110 = .ok (.getfield 112, 3) := by decide +kernel
theorem dX9_expected_113 : decode cX9_expected 113 = .ok (.if_icmp .ge 96, 3) := by decide +kernel
theorem dX9_expected_116 : decode cX9_expected 116 = .ok (.aload_n 0, 1) := by decide +kernel
theorem dX9_expected_117 : decode cX9_expected 117 = .ok (.getfield 36, 3) := by decide +kernel
theorem dX9_expected_120 : decode cX9_expected 120 = .ok (.iload 6, 2) := by decide +kernel
theorem dX9_expected_122 : decode cX9_expected 122 = .ok (.invokevirtual 178, 3) := by decide +kernel
theorem dX9_expected_125 : decode cX9_expected 125 = .ok (.aload_n 0, 1) := by decide +kernel
theorem dX9_expected_126 : decode cX9_expected 126 = .ok (.getfield 47, 3) := by decide +kernel
theorem dX9_expected_129 : decode cX9_expected 129 = .ok (.aload 5, 2) := by decide +kernel
theorem dX9_expected_131 : decode cX9_expected 131 = .ok (.aload_n 0, 1) := by decide +kernel
theorem dX9_expected_132 : decode cX9_expected 132 = .ok (.getfield 36, 3) := by decide +kernel
theorem dX9_expected_135 : decode cX9_expected 135 = .ok (.invokevirtual 118, 3) := by decide +kernel
theorem dX9_expected_138 : decode cX9_expected 138 = .ok (.invokevirtual 186, 3) := by decide +kernel
theorem dX9_expected_141 : decode cX9_expected 141 = .ok (.aload_n 0, 1) := by decide +kernel
theorem dX9_expected_142 : decode cX9_expected 142 = .ok (.aload 5, 2) := by decide +kernel
theorem dX9_expected_144 : decode cX9_expected 144 = .ok (.aload_n 0, 1) := by decide +kernel
theorem dX9_expected_145 : decode cX9_expected 145 = .ok (.getfield 47, 3) := by decide +kernel
theorem dX9_expected_148 : decode cX9_expected 148 = .ok (.iload_n 2, 1) := by decide +kernel
theorem dX9_expected_149 : decode cX9_expected 149 = .ok (.iload 4, 2) := by decide +kernel
theorem dX9_expected_151 : decode cX9_expected 151 = .ok (.invokevirtual 318, 3) := by decide +kernel
theorem dX9_expected_154 : decode cX9_expected 154 = .ok (.lstore 7, 2) := by decide +kernel
theorem dX9_expected_156 : decode cX9_expected 156 = .ok (.aload_n 0, 1) := by decide +kernel
theorem dX9_expected_157 : decode cX9_expected 157 = .ok (.getfield 36, 3) := by decide +kernel
theorem dX9_expected_160 : decode cX9_expected 160 = .ok (.iload 6, 2) := by decide +kernel
theorem dX9_expected_162 : decode cX9_expected 162 = .ok (.invokevirtual 322, 3) := by decide +kernel
theorem dX9_expected_165 : decode cX9_expected 165 = .ok (.aload_n 0, 1) := by decide +kernel
theorem dX9_expected_166 : decode cX9_expected 166 = .ok (.getfield 67, 3) := by decide +kernel
theorem dX9_expected_169 : decode cX9_expected 169 = .ok (.aload_n 0, 1) := by decide +kernel
theorem dX9_expected_170 : decode cX9_expected 170 = .ok (.getfield 43, 3) := by decide +kernel
theorem dX9_expected_173 : decode cX9_expected 173 = .ok (.getfield 149, 3) := by decide +kernel
theorem dX9_expected_176 : decode cX9_expected 176 = .ok (.iload 6, 2) := by decide +kernel
theorem dX9_expected_178 : decode cX9_expected 178 = .ok (.iaload, 1) := by decide +kernel
theorem dX9_expected_179 : decode cX9_expected 179 = .ok (.i2l, 1) := by decide +kernel
theorem dX9_expected_180 : decode cX9_expected 180 = .ok (.lload 7, 2) := by decide +kernel
theorem dX9_expected_182 : decode cX9_expected 182 = .ok (.lmul, 1) := by decide +kernel
theorem dX9_expected_183 : decode cX9_expected 183 = .ok (.aload_n 0, 1) := by decide +kernel
theorem dX9_expected_184 : decode cX9_expected 184 = .ok (.getfield 43, 3) := by decide +kernel
theorem dX9_expected_187 : decode cX9_expected 187 = .ok (.getfield 152, 3) := by decide +kernel
theorem dX9_expected_190 : decode cX9_expected 190 = .ok (.i2l, 1) := by decide +kernel
theorem dX9_expected_191 : decode cX9_expected 191 = .ok (.aload_n 0, 1) := by decide +kernel
theorem dX9_expected_192 : decode cX9_expected 192 = .ok (.getfield 47, 3) := by decide +kernel
theorem dX9_expected_195 : decode cX9_expected 195 = .ok (.getfield 152, 3) := by decide +kernel
theorem dX9_expected_198 : decode cX9_expected 198 = .ok (.i2l, 1) := by decide +kernel
theorem dX9_expected_199 : decode cX9_expected 199 = .ok (.lmul, 1) := by decide +kernel
theorem dX9_expected_200 : decode cX9_expected 200 = .ok (.invokevirtual 325, 3) := by decide +kernel
theorem dX9_expected_203 : decode cX9_expected 203 = .ok (.iinc 6 1, 3) := by decide +kernel
theorem dX9_expected_206 : decode cX9_expected 206 = .ok (.goto (-100), 3) := by decide +kernel
theorem dX9_expected_209 : decode cX9_expected 209 = .ok (.iconst 1, 1) := by decide +kernel
theorem dX9_expected_210 : decode cX9_expected 210 = .ok (.ireturn, 1) := by decide +kernel
def tX9_expected (g : ax_G) : Nat → ax_O := ax_nd 100 (ax_nd 46 (ax_nd 25 (ax_nd 9 (ax_nd 2 (ax_nd 0 (ax_lf 0 (ao_al 0 1)) (ax_nd 1 (ax_lf 1 (ao_il 1 1)) (ax_lf 2 (ao_inv g 5 9 3 yX9_begun cX9_begun 3 (some (.object "GluedHour$Republic")) 2 0 0 0 0)))) (ax_nd 5 (ax_lf 5 (ao_as 5 2)) (ax_nd 7 (ax_lf 7 (ao_al 5 2)) (ax_lf 9 (ao_ifnull 30))))) (ax_nd 15 (ax_nd 12 (ax_lf 12 (ao_al 5 2)) (ax_nd 14 (ax_lf 14 (ao_il 2 1)) (ax_lf 15 (ao_inv g 1 6 1 yX6_hasPerson cX6_hasPerson 2 (some .boolean) 2 0 0 0 0)))) (ax_nd 21 (ax_nd 18 (ax_lf 18 (ao_if_eq 30)) (ax_lf 21 (ao_il 3 1))) (ax_nd 22 (ax_lf 22 (ao_if_lt 30)) (ax_lf 25 (ao_il 3 1)))))) (ax_nd 33 (ax_nd 30 (ax_nd 26 (ax_lf 26 (ao_ic (2) 1)) (ax_nd 27 (ax_lf 27 (ao_icmp_le 32)) (ax_lf 30 (ao_ic (0) 1)))) (ax_nd 31 (ax_lf 31 (ao_zret 0 0)) (ax_nd 32 (ax_lf 32 (ao_al 0 1)) (ax_lf 33 (ao_gr 9 8))))) (ax_nd 38 (ax_nd 36 (ax_lf 36 (ao_lc (0) 1)) (ax_nd 37 (ax_lf 37 (ao_lc (1) 1)) (ax_lf 38 (ao_inv g 3 1 0 yX1_put cX1_put 5 none 3 0 0 0 0)))) (ax_nd 42 (ax_nd 41 (ax_lf 41 (ao_il 3 1)) (ax_lf 42 (ao_if_ne 67))) (ax_nd 45 (ax_lf 45 (ao_al 0 1)) (ax_lf 46 (ao_gr 9 8))))))) (ax_nd 72 (ax_nd 59 (ax_nd 53 (ax_nd 49 (ax_lf 49 (ao_al 0 1)) (ax_nd 50 (ax_lf 50 (ao_gr 9 3)) (ax_lf 53 (ao_il 2 1)))) (ax_nd 54 (ax_lf 54 (ao_il 4 2)) (ax_nd 56 (ax_lf 56 (ao_inv g 2 0 1 yX0_measure cX0_measure 3 (some .int) 3 0 0 0 0)) (ax_lf 59 ao_i2l)))) (ax_nd 64 (ax_nd 60 (ax_lf 60 (ao_lc (1) 1)) (ax_nd 61 (ax_lf 61 (ao_inv g 3 1 0 yX1_put cX1_put 5 none 3 0 0 0 0)) (ax_lf 64 (ao_goto 209)))) (ax_nd 68 (ax_nd 67 (ax_lf 67 (ao_il 3 1)) (ax_lf 68 (ao_ic (1) 1))) (ax_nd 69 (ax_lf 69 (ao_icmp_ne 103)) (ax_lf 72 (ao_al 0 1)))))) (ax_nd 84 (ax_nd 77 (ax_nd 73 (ax_lf 73 (ao_gr 9 8)) (ax_nd 76 (ax_lf 76 (ao_al 0 1)) (ax_lf 77 (ao_al 5 2)))) (ax_nd 80 (ax_nd 79 (ax_lf 79 (ao_al 0 1)) (ax_lf 80 (ao_gr 9 4))) (ax_nd 83 (ax_lf 83 (ao_il 2 1)) (ax_lf 84 (ao_il 4 2))))) (ax_nd 90 (ax_nd 86 (ax_lf 86 (ao_inv g 3 9 2 yX9_nextDay cX9_nextDay 8 (some .long) 5 0 0 0 0)) (ax_nd 89 (ax_lf 89 (ao_al 0 1)) (ax_lf 90 (ao_gr 9 4)))) (ax_nd 96 (ax_nd 93 (ax_lf 93 (ao_gi 3 2)) (ax_lf 96 ao_i2l)) (ax_nd 97 (ax_lf 97 (ao_inv g 3 1 0 yX1_put cX1_put 5 none 3 0 0 0 0)) (ax_lf 100 (ao_goto 209)))))))) (ax_nd 156 (ax_nd 129 (ax_nd 113 (ax_nd 106 (ax_nd 103 (ax_lf 103 (ao_ic (0) 1)) (ax_nd 104 (ax_lf 104 (ao_is 6 2)) (ax_lf 106 (ao_il 6 2)))) (ax_nd 108 (ax_lf 108 (ao_al 5 2)) (ax_nd 110 (ax_lf 110 (ao_gi 6 5)) (ax_lf 113 (ao_icmp_ge 209))))) (ax_nd 120 (ax_nd 116 (ax_lf 116 (ao_al 0 1)) (ax_nd 117 (ax_lf 117 (ao_gr 9 3)) (ax_lf 120 (ao_il 6 2)))) (ax_nd 125 (ax_nd 122 (ax_lf 122 (ao_inv g 2 0 0 yX0_live cX0_live 3 none 2 0 0 0 0)) (ax_lf 125 (ao_al 0 1))) (ax_nd 126 (ax_lf 126 (ao_gr 9 5)) (ax_lf 129 (ao_al 5 2)))))) (ax_nd 142 (ax_nd 135 (ax_nd 131 (ax_lf 131 (ao_al 0 1)) (ax_nd 132 (ax_lf 132 (ao_gr 9 3)) (ax_lf 135 (ao_inv g 1 0 1 yX0_poorest cX0_poorest 3 (some .int) 1 0 0 0 0)))) (ax_nd 138 (ax_lf 138 (ao_inv g 3 3 0 yX3_weigh cX3_weigh 4 none 3 0 0 0 0)) (ax_nd 141 (ax_lf 141 (ao_al 0 1)) (ax_lf 142 (ao_al 5 2))))) (ax_nd 148 (ax_nd 144 (ax_lf 144 (ao_al 0 1)) (ax_nd 145 (ax_lf 145 (ao_gr 9 5)) (ax_lf 148 (ao_il 2 1)))) (ax_nd 151 (ax_nd 149 (ax_lf 149 (ao_il 4 2)) (ax_lf 151 (ao_inv g 3 9 2 yX9_nextDay cX9_nextDay 8 (some .long) 5 0 0 0 0))) (ax_nd 154 (ax_lf 154 (ao_ls 7 2)) (ax_lf 156 (ao_al 0 1))))))) (ax_nd 182 (ax_nd 169 (ax_nd 162 (ax_nd 157 (ax_lf 157 (ao_gr 9 3)) (ax_nd 160 (ax_lf 160 (ao_il 6 2)) (ax_lf 162 (ao_inv g 2 0 0 yX0_unlive cX0_unlive 3 none 2 0 0 0 0)))) (ax_nd 165 (ax_lf 165 (ao_al 0 1)) (ax_nd 166 (ax_lf 166 (ao_gr 9 8)) (ax_lf 169 (ao_al 0 1))))) (ax_nd 176 (ax_nd 170 (ax_lf 170 (ao_gr 9 4)) (ax_nd 173 (ax_lf 173 (ao_gr 3 0)) (ax_lf 176 (ao_il 6 2)))) (ax_nd 179 (ax_nd 178 (ax_lf 178 ao_iald) (ax_lf 179 ao_i2l)) (ax_nd 180 (ax_lf 180 (ao_ll 7 2)) (ax_lf 182 ao_lmul))))) (ax_nd 195 (ax_nd 187 (ax_nd 183 (ax_lf 183 (ao_al 0 1)) (ax_nd 184 (ax_lf 184 (ao_gr 9 4)) (ax_lf 187 (ao_gi 3 2)))) (ax_nd 191 (ax_nd 190 (ax_lf 190 ao_i2l) (ax_lf 191 (ao_al 0 1))) (ax_nd 192 (ax_lf 192 (ao_gr 9 5)) (ax_lf 195 (ao_gi 3 2))))) (ax_nd 200 (ax_nd 198 (ax_lf 198 ao_i2l) (ax_nd 199 (ax_lf 199 ao_lmul) (ax_lf 200 (ao_inv g 4 1 0 yX1_add cX1_add 9 none 3 0 0 0 0)))) (ax_nd 206 (ax_nd 203 (ax_lf 203 (ao_iinc 6 (1))) (ax_lf 206 (ao_goto 106))) (ax_nd 209 (ax_lf 209 (ao_ic (1) 1)) (ax_lf 210 (ao_zret 0 0))))))))
theorem oX9_expected (g : ax_G) : ∀ pc, ax_ok g cX9_expected 9 (some .boolean) RX9 "expected" 6 0 0 pc (tX9_expected g pc) := ax_nd_ok (ax_nd_ok (ax_nd_ok (ax_nd_ok (ax_nd_ok (ax_nd_ok (ax_lf_ok (ak_aload_n rfl dX9_expected_0)) (ax_nd_ok (ax_lf_ok (ak_iload_n rfl dX9_expected_1)) (ax_lf_ok (ak_invV (by decide) (by decide) (by decide) rfl wd_645 wd_647 wd_13 wd_96 wd_648 ⟨by decide, by decide, by decide +kernel⟩ dX9_expected_2)))) (ax_nd_ok (ax_lf_ok (ak_astore (by decide) dX9_expected_5)) (ax_nd_ok (ax_lf_ok (ak_aload dX9_expected_7)) (ax_lf_ok (ak_ifnull (by decide) dX9_expected_9))))) (ax_nd_ok (ax_nd_ok (ax_lf_ok (ak_aload dX9_expected_12)) (ax_nd_ok (ax_lf_ok (ak_iload_n rfl dX9_expected_14)) (ax_lf_ok (ak_invV (by decide) (by decide) (by decide) rfl wd_708 wd_666 wd_667 wd_98 wd_668 ⟨by decide, by decide, by decide +kernel⟩ dX9_expected_15)))) (ax_nd_ok (ax_nd_ok (ax_lf_ok (ak_if_eq (by decide) dX9_expected_18)) (ax_lf_ok (ak_iload_n rfl dX9_expected_21))) (ax_nd_ok (ax_lf_ok (ak_if_lt (by decide) dX9_expected_22)) (ax_lf_ok (ak_iload_n rfl dX9_expected_25)))))) (ax_nd_ok (ax_nd_ok (ax_nd_ok (ax_lf_ok (ak_iconst (by decide) dX9_expected_26)) (ax_nd_ok (ax_lf_ok (ak_icmp_le (by decide) dX9_expected_27)) (ax_lf_ok (ak_iconst (by decide) dX9_expected_30)))) (ax_nd_ok (ax_lf_ok (ak_zret rfl dX9_expected_31)) (ax_nd_ok (ax_lf_ok (ak_aload_n rfl dX9_expected_32)) (ax_lf_ok (ak_gr fF_X9_67 dX9_expected_33))))) (ax_nd_ok (ax_nd_ok (ax_lf_ok (ak_lconst (by decide) dX9_expected_36)) (ax_nd_ok (ax_lf_ok (ak_lconst (by decide) dX9_expected_37)) (ax_lf_ok (ak_invV (by decide) (by decide) (by decide) rfl wd_979 wd_980 wd_981 wd_105 wd_982 ⟨by decide, by decide, by decide +kernel⟩ dX9_expected_38)))) (ax_nd_ok (ax_nd_ok (ax_lf_ok (ak_iload_n rfl dX9_expected_41)) (ax_lf_ok (ak_if_ne (by decide) dX9_expected_42))) (ax_nd_ok (ax_lf_ok (ak_aload_n rfl dX9_expected_45)) (ax_lf_ok (ak_gr fF_X9_67 dX9_expected_46))))))) (ax_nd_ok (ax_nd_ok (ax_nd_ok (ax_nd_ok (ax_lf_ok (ak_aload_n rfl dX9_expected_49)) (ax_nd_ok (ax_lf_ok (ak_gr fF_X9_36 dX9_expected_50)) (ax_lf_ok (ak_iload_n rfl dX9_expected_53)))) (ax_nd_ok (ax_lf_ok (ak_iload dX9_expected_54)) (ax_nd_ok (ax_lf_ok (ak_invV (by decide) (by decide) (by decide) rfl wd_984 wd_985 wd_986 wd_101 wd_987 ⟨by decide, by decide, by decide +kernel⟩ dX9_expected_56)) (ax_lf_ok (ak_i2l dX9_expected_59))))) (ax_nd_ok (ax_nd_ok (ax_lf_ok (ak_lconst (by decide) dX9_expected_60)) (ax_nd_ok (ax_lf_ok (ak_invV (by decide) (by decide) (by decide) rfl wd_979 wd_980 wd_981 wd_105 wd_982 ⟨by decide, by decide, by decide +kernel⟩ dX9_expected_61)) (ax_lf_ok (ak_goto (by decide) dX9_expected_64)))) (ax_nd_ok (ax_nd_ok (ax_lf_ok (ak_iload_n rfl dX9_expected_67)) (ax_lf_ok (ak_iconst (by decide) dX9_expected_68))) (ax_nd_ok (ax_lf_ok (ak_icmp_ne (by decide) dX9_expected_69)) (ax_lf_ok (ak_aload_n rfl dX9_expected_72)))))) (ax_nd_ok (ax_nd_ok (ax_nd_ok (ax_lf_ok (ak_gr fF_X9_67 dX9_expected_73)) (ax_nd_ok (ax_lf_ok (ak_aload_n rfl dX9_expected_76)) (ax_lf_ok (ak_aload dX9_expected_77)))) (ax_nd_ok (ax_nd_ok (ax_lf_ok (ak_aload_n rfl dX9_expected_79)) (ax_lf_ok (ak_gr fF_X9_43 dX9_expected_80))) (ax_nd_ok (ax_lf_ok (ak_iload_n rfl dX9_expected_83)) (ax_lf_ok (ak_iload dX9_expected_84))))) (ax_nd_ok (ax_nd_ok (ax_lf_ok (ak_invV (by decide) (by decide) (by decide) rfl wd_989 wd_991 wd_21 wd_96 wd_992 ⟨by decide, by decide, by decide +kernel⟩ dX9_expected_86)) (ax_nd_ok (ax_lf_ok (ak_aload_n rfl dX9_expected_89)) (ax_lf_ok (ak_gr fF_X9_43 dX9_expected_90)))) (ax_nd_ok (ax_nd_ok (ax_lf_ok (ak_gi fF_X9_152 dX9_expected_93)) (ax_lf_ok (ak_i2l dX9_expected_96))) (ax_nd_ok (ax_lf_ok (ak_invV (by decide) (by decide) (by decide) rfl wd_979 wd_980 wd_981 wd_105 wd_982 ⟨by decide, by decide, by decide +kernel⟩ dX9_expected_97)) (ax_lf_ok (ak_goto (by decide) dX9_expected_100)))))))) (ax_nd_ok (ax_nd_ok (ax_nd_ok (ax_nd_ok (ax_nd_ok (ax_lf_ok (ak_iconst (by decide) dX9_expected_103)) (ax_nd_ok (ax_lf_ok (ak_istore (by decide) dX9_expected_104)) (ax_lf_ok (ak_iload dX9_expected_106)))) (ax_nd_ok (ax_lf_ok (ak_aload dX9_expected_108)) (ax_nd_ok (ax_lf_ok (ak_gi fF_X9_112 dX9_expected_110)) (ax_lf_ok (ak_icmp_ge (by decide) dX9_expected_113))))) (ax_nd_ok (ax_nd_ok (ax_lf_ok (ak_aload_n rfl dX9_expected_116)) (ax_nd_ok (ax_lf_ok (ak_gr fF_X9_36 dX9_expected_117)) (ax_lf_ok (ak_iload dX9_expected_120)))) (ax_nd_ok (ax_nd_ok (ax_lf_ok (ak_invV (by decide) (by decide) (by decide) rfl wd_765 wd_766 wd_767 wd_101 wd_768 ⟨by decide, by decide, by decide +kernel⟩ dX9_expected_122)) (ax_lf_ok (ak_aload_n rfl dX9_expected_125))) (ax_nd_ok (ax_lf_ok (ak_gr fF_X9_47 dX9_expected_126)) (ax_lf_ok (ak_aload dX9_expected_129)))))) (ax_nd_ok (ax_nd_ok (ax_nd_ok (ax_lf_ok (ak_aload_n rfl dX9_expected_131)) (ax_nd_ok (ax_lf_ok (ak_gr fF_X9_36 dX9_expected_132)) (ax_lf_ok (ak_invV (by decide) (by decide) (by decide) rfl wd_690 wd_691 wd_692 wd_101 wd_693 ⟨by decide, by decide, by decide +kernel⟩ dX9_expected_135)))) (ax_nd_ok (ax_lf_ok (ak_invV (by decide) (by decide) (by decide) rfl wd_694 wd_695 wd_696 wd_102 wd_697 ⟨by decide, by decide, by decide +kernel⟩ dX9_expected_138)) (ax_nd_ok (ax_lf_ok (ak_aload_n rfl dX9_expected_141)) (ax_lf_ok (ak_aload dX9_expected_142))))) (ax_nd_ok (ax_nd_ok (ax_lf_ok (ak_aload_n rfl dX9_expected_144)) (ax_nd_ok (ax_lf_ok (ak_gr fF_X9_47 dX9_expected_145)) (ax_lf_ok (ak_iload_n rfl dX9_expected_148)))) (ax_nd_ok (ax_nd_ok (ax_lf_ok (ak_iload dX9_expected_149)) (ax_lf_ok (ak_invV (by decide) (by decide) (by decide) rfl wd_989 wd_991 wd_21 wd_96 wd_992 ⟨by decide, by decide, by decide +kernel⟩ dX9_expected_151))) (ax_nd_ok (ax_lf_ok (ak_lstore (by decide) dX9_expected_154)) (ax_lf_ok (ak_aload_n rfl dX9_expected_156))))))) (ax_nd_ok (ax_nd_ok (ax_nd_ok (ax_nd_ok (ax_lf_ok (ak_gr fF_X9_36 dX9_expected_157)) (ax_nd_ok (ax_lf_ok (ak_iload dX9_expected_160)) (ax_lf_ok (ak_invV (by decide) (by decide) (by decide) rfl wd_993 wd_960 wd_961 wd_101 wd_962 ⟨by decide, by decide, by decide +kernel⟩ dX9_expected_162)))) (ax_nd_ok (ax_lf_ok (ak_aload_n rfl dX9_expected_165)) (ax_nd_ok (ax_lf_ok (ak_gr fF_X9_67 dX9_expected_166)) (ax_lf_ok (ak_aload_n rfl dX9_expected_169))))) (ax_nd_ok (ax_nd_ok (ax_lf_ok (ak_gr fF_X9_43 dX9_expected_170)) (ax_nd_ok (ax_lf_ok (ak_gr fF_X9_149 dX9_expected_173)) (ax_lf_ok (ak_iload dX9_expected_176)))) (ax_nd_ok (ax_nd_ok (ax_lf_ok (ak_iald dX9_expected_178)) (ax_lf_ok (ak_i2l dX9_expected_179))) (ax_nd_ok (ax_lf_ok (ak_lload dX9_expected_180)) (ax_lf_ok (ak_lmul dX9_expected_182)))))) (ax_nd_ok (ax_nd_ok (ax_nd_ok (ax_lf_ok (ak_aload_n rfl dX9_expected_183)) (ax_nd_ok (ax_lf_ok (ak_gr fF_X9_43 dX9_expected_184)) (ax_lf_ok (ak_gi fF_X9_152 dX9_expected_187)))) (ax_nd_ok (ax_nd_ok (ax_lf_ok (ak_i2l dX9_expected_190)) (ax_lf_ok (ak_aload_n rfl dX9_expected_191))) (ax_nd_ok (ax_lf_ok (ak_gr fF_X9_47 dX9_expected_192)) (ax_lf_ok (ak_gi fF_X9_152 dX9_expected_195))))) (ax_nd_ok (ax_nd_ok (ax_lf_ok (ak_i2l dX9_expected_198)) (ax_nd_ok (ax_lf_ok (ak_lmul dX9_expected_199)) (ax_lf_ok (ak_invV (by decide) (by decide) (by decide) rfl wd_994 wd_995 wd_996 wd_105 wd_997 ⟨by decide, by decide, by decide +kernel⟩ dX9_expected_200)))) (ax_nd_ok (ax_nd_ok (ax_lf_ok (ak_iinc (by decide) (by decide) dX9_expected_203)) (ax_lf_ok (ak_goto (by decide) dX9_expected_206))) (ax_nd_ok (ax_lf_ok (ak_iconst (by decide) dX9_expected_209)) (ax_lf_ok (ak_zret rfl dX9_expected_210))))))))
abbrev mX9_expected (g : ax_G) (as : List Value) (h : ax_H) (Ret : Option Value → ax_H → Prop) : Prop := ax_M g 6 0 0 yX9_expected cX9_expected 9 (some .boolean) as h Ret
theorem dX9_nextDay_0 : decode cX9_nextDay 0 = .ok (.lconst 0, 1) := by decide +kernel
theorem dX9_nextDay_1 : decode cX9_nextDay 1 = .ok (.lstore 5, 2) := by decide +kernel
theorem dX9_nextDay_3 : decode cX9_nextDay 3 = .ok (.iconst 0, 1) := by decide +kernel
theorem dX9_nextDay_4 : decode cX9_nextDay 4 = .ok (.istore 7, 2) := by decide +kernel
theorem dX9_nextDay_6 : decode cX9_nextDay 6 = .ok (.iload 7, 2) := by decide +kernel
theorem dX9_nextDay_8 : decode cX9_nextDay 8 = .ok (.aload_n 1, 1) := by decide +kernel
theorem dX9_nextDay_9 : decode cX9_nextDay 9 = .ok (.getfield 112, 3) := by decide +kernel
theorem dX9_nextDay_12 : decode cX9_nextDay 12 = .ok (.if_icmp .ge 52, 3) := by decide +kernel
theorem dX9_nextDay_15 : decode cX9_nextDay 15 = .ok (.aload_n 0, 1) := by decide +kernel
theorem dX9_nextDay_16 : decode cX9_nextDay 16 = .ok (.getfield 36, 3) := by decide +kernel
theorem dX9_nextDay_19 : decode cX9_nextDay 19 = .ok (.iload 7, 2) := by decide +kernel
theorem dX9_nextDay_21 : decode cX9_nextDay 21 = .ok (.invokevirtual 178, 3) := by decide +kernel
theorem dX9_nextDay_24 : decode cX9_nextDay 24 = .ok (.lload 5, 2) := by decide +kernel
theorem dX9_nextDay_26 : decode cX9_nextDay 26 = .ok (.aload_n 2, 1) := by decide +kernel
theorem dX9_nextDay_27 : decode cX9_nextDay 27 = .ok (.getfield 149, 3) := by decide +kernel
theorem dX9_nextDay_30 : decode cX9_nextDay 30 = .ok (.iload 7, 2) := by decide +kernel
theorem dX9_nextDay_32 : decode cX9_nextDay 32 = .ok (.iaload, 1) := by decide +kernel
theorem dX9_nextDay_33 : decode cX9_nextDay 33 = .ok (.i2l, 1) := by decide +kernel
theorem dX9_nextDay_34 : decode cX9_nextDay 34 = .ok (.aload_n 0, 1) := by decide +kernel
theorem dX9_nextDay_35 : decode cX9_nextDay 35 = .ok (.getfield 36, 3) := by decide +kernel
theorem dX9_nextDay_38 : decode cX9_nextDay 38 = .ok (.iload_n 3, 1) := by decide +kernel
theorem dX9_nextDay_39 : decode cX9_nextDay 39 = .ok (.iload 4, 2) := by decide +kernel
theorem dX9_nextDay_41 : decode cX9_nextDay 41 = .ok (.invokevirtual 314, 3) := by decide +kernel
theorem dX9_nextDay_44 : decode cX9_nextDay 44 = .ok (.i2l, 1) := by decide +kernel
theorem dX9_nextDay_45 : decode cX9_nextDay 45 = .ok (.lmul, 1) := by decide +kernel
theorem dX9_nextDay_46 : decode cX9_nextDay 46 = .ok (.ladd, 1) := by decide +kernel
theorem dX9_nextDay_47 : decode cX9_nextDay 47 = .ok (.lstore 5, 2) := by decide +kernel
theorem dX9_nextDay_49 : decode cX9_nextDay 49 = .ok (.aload_n 0, 1) := by decide +kernel
theorem dX9_nextDay_50 : decode cX9_nextDay 50 = .ok (.getfield 36, 3) := by decide +kernel
theorem dX9_nextDay_53 : decode cX9_nextDay 53 = .ok (.iload 7, 2) := by decide +kernel
theorem dX9_nextDay_55 : decode cX9_nextDay 55 = .ok (.invokevirtual 322, 3) := by decide +kernel
theorem dX9_nextDay_58 : decode cX9_nextDay 58 = .ok (.iinc 7 1, 3) := by decide +kernel
theorem dX9_nextDay_61 : decode cX9_nextDay 61 = .ok (.goto (-55), 3) := by decide +kernel
theorem dX9_nextDay_64 : decode cX9_nextDay 64 = .ok (.lload 5, 2) := by decide +kernel
theorem dX9_nextDay_66 : decode cX9_nextDay 66 = .ok (.lreturn, 1) := by decide +kernel
def tX9_nextDay (g : ax_G) : Nat → ax_O := ax_nd 32 (ax_nd 12 (ax_nd 4 (ax_nd 1 (ax_nd 0 (ax_lf 0 (ao_lc (0) 1)) (ax_lf 1 (ao_ls 5 2))) (ax_nd 3 (ax_lf 3 (ao_ic (0) 1)) (ax_lf 4 (ao_is 7 2)))) (ax_nd 8 (ax_nd 6 (ax_lf 6 (ao_il 7 2)) (ax_lf 8 (ao_al 1 1))) (ax_nd 9 (ax_lf 9 (ao_gi 6 5)) (ax_lf 12 (ao_icmp_ge 64))))) (ax_nd 21 (ax_nd 16 (ax_nd 15 (ax_lf 15 (ao_al 0 1)) (ax_lf 16 (ao_gr 9 3))) (ax_nd 19 (ax_lf 19 (ao_il 7 2)) (ax_lf 21 (ao_inv g 2 0 0 yX0_live cX0_live 3 none 2 0 0 0 0)))) (ax_nd 26 (ax_nd 24 (ax_lf 24 (ao_ll 5 2)) (ax_lf 26 (ao_al 2 1))) (ax_nd 27 (ax_lf 27 (ao_gr 3 0)) (ax_nd 30 (ax_lf 30 (ao_il 7 2)) (ax_lf 32 ao_iald)))))) (ax_nd 46 (ax_nd 38 (ax_nd 34 (ax_nd 33 (ax_lf 33 ao_i2l) (ax_lf 34 (ao_al 0 1))) (ax_nd 35 (ax_lf 35 (ao_gr 9 3)) (ax_lf 38 (ao_il 3 1)))) (ax_nd 41 (ax_nd 39 (ax_lf 39 (ao_il 4 2)) (ax_lf 41 (ao_inv g 2 0 1 yX0_measure cX0_measure 3 (some .int) 3 0 0 0 0))) (ax_nd 44 (ax_lf 44 ao_i2l) (ax_nd 45 (ax_lf 45 ao_lmul) (ax_lf 46 ao_ladd))))) (ax_nd 53 (ax_nd 49 (ax_nd 47 (ax_lf 47 (ao_ls 5 2)) (ax_lf 49 (ao_al 0 1))) (ax_nd 50 (ax_lf 50 (ao_gr 9 3)) (ax_lf 53 (ao_il 7 2)))) (ax_nd 58 (ax_nd 55 (ax_lf 55 (ao_inv g 2 0 0 yX0_unlive cX0_unlive 3 none 2 0 0 0 0)) (ax_lf 58 (ao_iinc 7 (1)))) (ax_nd 61 (ax_lf 61 (ao_goto 6)) (ax_nd 64 (ax_lf 64 (ao_ll 5 2)) (ax_lf 66 (ao_lret 0 0)))))))
theorem oX9_nextDay (g : ax_G) : ∀ pc, ax_ok g cX9_nextDay 8 (some .long) RX9 "nextDay" 3 0 0 pc (tX9_nextDay g pc) := ax_nd_ok (ax_nd_ok (ax_nd_ok (ax_nd_ok (ax_nd_ok (ax_lf_ok (ak_lconst (by decide) dX9_nextDay_0)) (ax_lf_ok (ak_lstore (by decide) dX9_nextDay_1))) (ax_nd_ok (ax_lf_ok (ak_iconst (by decide) dX9_nextDay_3)) (ax_lf_ok (ak_istore (by decide) dX9_nextDay_4)))) (ax_nd_ok (ax_nd_ok (ax_lf_ok (ak_iload dX9_nextDay_6)) (ax_lf_ok (ak_aload_n rfl dX9_nextDay_8))) (ax_nd_ok (ax_lf_ok (ak_gi fF_X9_112 dX9_nextDay_9)) (ax_lf_ok (ak_icmp_ge (by decide) dX9_nextDay_12))))) (ax_nd_ok (ax_nd_ok (ax_nd_ok (ax_lf_ok (ak_aload_n rfl dX9_nextDay_15)) (ax_lf_ok (ak_gr fF_X9_36 dX9_nextDay_16))) (ax_nd_ok (ax_lf_ok (ak_iload dX9_nextDay_19)) (ax_lf_ok (ak_invV (by decide) (by decide) (by decide) rfl wd_765 wd_766 wd_767 wd_101 wd_768 ⟨by decide, by decide, by decide +kernel⟩ dX9_nextDay_21)))) (ax_nd_ok (ax_nd_ok (ax_lf_ok (ak_lload dX9_nextDay_24)) (ax_lf_ok (ak_aload_n rfl dX9_nextDay_26))) (ax_nd_ok (ax_lf_ok (ak_gr fF_X9_149 dX9_nextDay_27)) (ax_nd_ok (ax_lf_ok (ak_iload dX9_nextDay_30)) (ax_lf_ok (ak_iald dX9_nextDay_32))))))) (ax_nd_ok (ax_nd_ok (ax_nd_ok (ax_nd_ok (ax_lf_ok (ak_i2l dX9_nextDay_33)) (ax_lf_ok (ak_aload_n rfl dX9_nextDay_34))) (ax_nd_ok (ax_lf_ok (ak_gr fF_X9_36 dX9_nextDay_35)) (ax_lf_ok (ak_iload_n rfl dX9_nextDay_38)))) (ax_nd_ok (ax_nd_ok (ax_lf_ok (ak_iload dX9_nextDay_39)) (ax_lf_ok (ak_invV (by decide) (by decide) (by decide) rfl wd_984 wd_985 wd_986 wd_101 wd_987 ⟨by decide, by decide, by decide +kernel⟩ dX9_nextDay_41))) (ax_nd_ok (ax_lf_ok (ak_i2l dX9_nextDay_44)) (ax_nd_ok (ax_lf_ok (ak_lmul dX9_nextDay_45)) (ax_lf_ok (ak_ladd dX9_nextDay_46)))))) (ax_nd_ok (ax_nd_ok (ax_nd_ok (ax_lf_ok (ak_lstore (by decide) dX9_nextDay_47)) (ax_lf_ok (ak_aload_n rfl dX9_nextDay_49))) (ax_nd_ok (ax_lf_ok (ak_gr fF_X9_36 dX9_nextDay_50)) (ax_lf_ok (ak_iload dX9_nextDay_53)))) (ax_nd_ok (ax_nd_ok (ax_lf_ok (ak_invV (by decide) (by decide) (by decide) rfl wd_993 wd_960 wd_961 wd_101 wd_962 ⟨by decide, by decide, by decide +kernel⟩ dX9_nextDay_55)) (ax_lf_ok (ak_iinc (by decide) (by decide) dX9_nextDay_58))) (ax_nd_ok (ax_lf_ok (ak_goto (by decide) dX9_nextDay_61)) (ax_nd_ok (ax_lf_ok (ak_lload dX9_nextDay_64)) (ax_lf_ok (ak_lret rfl dX9_nextDay_66)))))))
abbrev mX9_nextDay (g : ax_G) (as : List Value) (h : ax_H) (Ret : Option Value → ax_H → Prop) : Prop := ax_M g 3 0 0 yX9_nextDay cX9_nextDay 8 (some .long) as h Ret
theorem dX9_trueTime_0 : decode cX9_trueTime 0 = .ok (.iload_n 0, 1) := by decide +kernel
theorem dX9_trueTime_1 : decode cX9_trueTime 1 = .ok (.iload_n 1, 1) := by decide +kernel
theorem dX9_trueTime_2 : decode cX9_trueTime 2 = .ok (.if_icmp .le 9, 3) := by decide +kernel
theorem dX9_trueTime_5 : decode cX9_trueTime 5 = .ok (.iload_n 0, 1) := by decide +kernel
theorem dX9_trueTime_6 : decode cX9_trueTime 6 = .ok (.iconst 1, 1) := by decide +kernel
theorem dX9_trueTime_7 : decode cX9_trueTime 7 = .ok (.iadd, 1) := by decide +kernel
theorem dX9_trueTime_8 : decode cX9_trueTime 8 = .ok (.goto 4, 3) := by decide +kernel
theorem dX9_trueTime_11 : decode cX9_trueTime 11 = .ok (.iload_n 0, 1) := by decide +kernel
theorem dX9_trueTime_12 : decode cX9_trueTime 12 = .ok (.ireturn, 1) := by decide +kernel
def tX9_trueTime (g : ax_G) : Nat → ax_O := ax_nd 5 (ax_nd 1 (ax_nd 0 (ax_lf 0 (ao_il 0 1)) (ax_lf 1 (ao_il 1 1))) (ax_nd 2 (ax_lf 2 (ao_icmp_le 11)) (ax_lf 5 (ao_il 0 1)))) (ax_nd 7 (ax_nd 6 (ax_lf 6 (ao_ic (1) 1)) (ax_lf 7 ao_iadd)) (ax_nd 8 (ax_lf 8 (ao_goto 12)) (ax_nd 11 (ax_lf 11 (ao_il 0 1)) (ax_lf 12 (ao_iret 0 0)))))
theorem oX9_trueTime (g : ax_G) : ∀ pc, ax_ok g cX9_trueTime 2 (some .int) RX9 "trueTime" 1 0 0 pc (tX9_trueTime g pc) := ax_nd_ok (ax_nd_ok (ax_nd_ok (ax_lf_ok (ak_iload_n rfl dX9_trueTime_0)) (ax_lf_ok (ak_iload_n rfl dX9_trueTime_1))) (ax_nd_ok (ax_lf_ok (ak_icmp_le (by decide) dX9_trueTime_2)) (ax_lf_ok (ak_iload_n rfl dX9_trueTime_5)))) (ax_nd_ok (ax_nd_ok (ax_lf_ok (ak_iconst (by decide) dX9_trueTime_6)) (ax_lf_ok (ak_iadd dX9_trueTime_7))) (ax_nd_ok (ax_lf_ok (ak_goto (by decide) dX9_trueTime_8)) (ax_nd_ok (ax_lf_ok (ak_iload_n rfl dX9_trueTime_11)) (ax_lf_ok (ak_iret rfl dX9_trueTime_12)))))
abbrev mX9_trueTime (g : ax_G) (as : List Value) (h : ax_H) (Ret : Option Value → ax_H → Prop) : Prop := ax_M g 1 0 0 yX9_trueTime cX9_trueTime 2 (some .int) as h Ret
theorem dX9_lead_0 : decode cX9_lead 0 = .ok (.iload_n 2, 1) := by decide +kernel
theorem dX9_lead_1 : decode cX9_lead 1 = .ok (.iload_n 3, 1) := by decide +kernel
theorem dX9_lead_2 : decode cX9_lead 2 = .ok (.invokestatic 259, 3) := by decide +kernel
theorem dX9_lead_5 : decode cX9_lead 5 = .ok (.iload_n 0, 1) := by decide +kernel
theorem dX9_lead_6 : decode cX9_lead 6 = .ok (.iload_n 3, 1) := by decide +kernel
theorem dX9_lead_7 : decode cX9_lead 7 = .ok (.invokestatic 259, 3) := by decide +kernel
theorem dX9_lead_10 : decode cX9_lead 10 = .ok (.isub, 1) := by decide +kernel
theorem dX9_lead_11 : decode cX9_lead 11 = .ok (.iload_n 1, 1) := by decide +kernel
theorem dX9_lead_12 : decode cX9_lead 12 = .ok (.isub, 1) := by decide +kernel
theorem dX9_lead_13 : decode cX9_lead 13 = .ok (.ireturn, 1) := by decide +kernel
def tX9_lead (g : ax_G) : Nat → ax_O := ax_nd 6 (ax_nd 1 (ax_nd 0 (ax_lf 0 (ao_il 2 1)) (ax_lf 1 (ao_il 3 1))) (ax_nd 2 (ax_lf 2 (ao_inv g 1 99 1 yX9_trueTime cX9_trueTime 2 (some .int) 2 0 0 0 0)) (ax_nd 5 (ax_lf 5 (ao_il 0 1)) (ax_lf 6 (ao_il 3 1))))) (ax_nd 10 (ax_nd 7 (ax_lf 7 (ao_inv g 1 99 1 yX9_trueTime cX9_trueTime 2 (some .int) 2 0 0 0 0)) (ax_lf 10 ao_isub)) (ax_nd 11 (ax_lf 11 (ao_il 1 1)) (ax_nd 12 (ax_lf 12 ao_isub) (ax_lf 13 (ao_iret 0 0)))))
theorem oX9_lead (g : ax_G) : ∀ pc, ax_ok g cX9_lead 4 (some .int) RX9 "lead" 2 0 0 pc (tX9_lead g pc) := ax_nd_ok (ax_nd_ok (ax_nd_ok (ax_lf_ok (ak_iload_n rfl dX9_lead_0)) (ax_lf_ok (ak_iload_n rfl dX9_lead_1))) (ax_nd_ok (ax_lf_ok (ak_invS (by decide) (by decide) wd_912 wd_913 wd_96 wd_914 ⟨by decide, by decide, by decide +kernel⟩ dX9_lead_2)) (ax_nd_ok (ax_lf_ok (ak_iload_n rfl dX9_lead_5)) (ax_lf_ok (ak_iload_n rfl dX9_lead_6))))) (ax_nd_ok (ax_nd_ok (ax_lf_ok (ak_invS (by decide) (by decide) wd_912 wd_913 wd_96 wd_914 ⟨by decide, by decide, by decide +kernel⟩ dX9_lead_7)) (ax_lf_ok (ak_isub dX9_lead_10))) (ax_nd_ok (ax_lf_ok (ak_iload_n rfl dX9_lead_11)) (ax_nd_ok (ax_lf_ok (ak_isub dX9_lead_12)) (ax_lf_ok (ak_iret rfl dX9_lead_13)))))
abbrev mX9_lead (g : ax_G) (as : List Value) (h : ax_H) (Ret : Option Value → ax_H → Prop) : Prop := ax_M g 2 0 0 yX9_lead cX9_lead 4 (some .int) as h Ret
theorem dX9_leadOf_0 : decode cX9_leadOf 0 = .ok (.aload_n 0, 1) := by decide +kernel
theorem dX9_leadOf_1 : decode cX9_leadOf 1 = .ok (.iload_n 1, 1) := by decide +kernel
theorem dX9_leadOf_2 : decode cX9_leadOf 2 = .ok (.iconst 0, 1) := by decide +kernel
theorem dX9_leadOf_3 : decode cX9_leadOf 3 = .ok (.invokevirtual 171, 3) := by decide +kernel
theorem dX9_leadOf_6 : decode cX9_leadOf 6 = .ok (.aload_n 0, 1) := by decide +kernel
theorem dX9_leadOf_7 : decode cX9_leadOf 7 = .ok (.iload_n 1, 1) := by decide +kernel
theorem dX9_leadOf_8 : decode cX9_leadOf 8 = .ok (.iconst 1, 1) := by decide +kernel
theorem dX9_leadOf_9 : decode cX9_leadOf 9 = .ok (.invokevirtual 171, 3) := by decide +kernel
theorem dX9_leadOf_12 : decode cX9_leadOf 12 = .ok (.aload_n 0, 1) := by decide +kernel
theorem dX9_leadOf_13 : decode cX9_leadOf 13 = .ok (.iload_n 1, 1) := by decide +kernel
theorem dX9_leadOf_14 : decode cX9_leadOf 14 = .ok (.iconst 1, 1) := by decide +kernel
theorem dX9_leadOf_15 : decode cX9_leadOf 15 = .ok (.iadd, 1) := by decide +kernel
theorem dX9_leadOf_16 : decode cX9_leadOf 16 = .ok (.iconst 0, 1) := by decide +kernel
theorem dX9_leadOf_17 : decode cX9_leadOf 17 = .ok (.invokevirtual 171, 3) := by decide +kernel
theorem dX9_leadOf_20 : decode cX9_leadOf 20 = .ok (.iload_n 2, 1) := by decide +kernel
theorem dX9_leadOf_21 : decode cX9_leadOf 21 = .ok (.invokestatic 328, 3) := by decide +kernel
theorem dX9_leadOf_24 : decode cX9_leadOf 24 = .ok (.ireturn, 1) := by decide +kernel
def tX9_leadOf (g : ax_G) : Nat → ax_O := ax_nd 9 (ax_nd 3 (ax_nd 1 (ax_nd 0 (ax_lf 0 (ao_al 0 1)) (ax_lf 1 (ao_il 1 1))) (ax_nd 2 (ax_lf 2 (ao_ic (0) 1)) (ax_lf 3 (ao_inv g 2 2 1 yX2_cell cX2_cell 3 (some .int) 3 0 0 0 0)))) (ax_nd 7 (ax_nd 6 (ax_lf 6 (ao_al 0 1)) (ax_lf 7 (ao_il 1 1))) (ax_nd 8 (ax_lf 8 (ao_ic (1) 1)) (ax_lf 9 (ao_inv g 2 2 1 yX2_cell cX2_cell 3 (some .int) 3 0 0 0 0))))) (ax_nd 15 (ax_nd 13 (ax_nd 12 (ax_lf 12 (ao_al 0 1)) (ax_lf 13 (ao_il 1 1))) (ax_nd 14 (ax_lf 14 (ao_ic (1) 1)) (ax_lf 15 ao_iadd))) (ax_nd 17 (ax_nd 16 (ax_lf 16 (ao_ic (0) 1)) (ax_lf 17 (ao_inv g 2 2 1 yX2_cell cX2_cell 3 (some .int) 3 0 0 0 0))) (ax_nd 20 (ax_lf 20 (ao_il 2 1)) (ax_nd 21 (ax_lf 21 (ao_inv g 2 99 1 yX9_lead cX9_lead 4 (some .int) 4 0 0 0 0)) (ax_lf 24 (ao_iret 0 0))))))
theorem oX9_leadOf (g : ax_G) : ∀ pc, ax_ok g cX9_leadOf 3 (some .int) RX9 "leadOf" 3 0 0 pc (tX9_leadOf g pc) := ax_nd_ok (ax_nd_ok (ax_nd_ok (ax_nd_ok (ax_lf_ok (ak_aload_n rfl dX9_leadOf_0)) (ax_lf_ok (ak_iload_n rfl dX9_leadOf_1))) (ax_nd_ok (ax_lf_ok (ak_iconst (by decide) dX9_leadOf_2)) (ax_lf_ok (ak_invV (by decide) (by decide) (by decide) rfl wd_753 wd_754 wd_755 wd_99 wd_756 ⟨by decide, by decide, by decide +kernel⟩ dX9_leadOf_3)))) (ax_nd_ok (ax_nd_ok (ax_lf_ok (ak_aload_n rfl dX9_leadOf_6)) (ax_lf_ok (ak_iload_n rfl dX9_leadOf_7))) (ax_nd_ok (ax_lf_ok (ak_iconst (by decide) dX9_leadOf_8)) (ax_lf_ok (ak_invV (by decide) (by decide) (by decide) rfl wd_753 wd_754 wd_755 wd_99 wd_756 ⟨by decide, by decide, by decide +kernel⟩ dX9_leadOf_9))))) (ax_nd_ok (ax_nd_ok (ax_nd_ok (ax_lf_ok (ak_aload_n rfl dX9_leadOf_12)) (ax_lf_ok (ak_iload_n rfl dX9_leadOf_13))) (ax_nd_ok (ax_lf_ok (ak_iconst (by decide) dX9_leadOf_14)) (ax_lf_ok (ak_iadd dX9_leadOf_15)))) (ax_nd_ok (ax_nd_ok (ax_lf_ok (ak_iconst (by decide) dX9_leadOf_16)) (ax_lf_ok (ak_invV (by decide) (by decide) (by decide) rfl wd_753 wd_754 wd_755 wd_99 wd_756 ⟨by decide, by decide, by decide +kernel⟩ dX9_leadOf_17))) (ax_nd_ok (ax_lf_ok (ak_iload_n rfl dX9_leadOf_20)) (ax_nd_ok (ax_lf_ok (ak_invS (by decide) (by decide) wd_909 wd_910 wd_96 wd_911 ⟨by decide, by decide, by decide +kernel⟩ dX9_leadOf_21)) (ax_lf_ok (ak_iret rfl dX9_leadOf_24))))))
abbrev mX9_leadOf (g : ax_G) (as : List Value) (h : ax_H) (Ret : Option Value → ax_H → Prop) : Prop := ax_M g 3 0 0 yX9_leadOf cX9_leadOf 3 (some .int) as h Ret
theorem dX9_keepsBy_0 : decode cX9_keepsBy 0 = .ok (.iconst 0, 1) := by decide +kernel
theorem dX9_keepsBy_1 : decode cX9_keepsBy 1 = .ok (.istore_n 2, 1) := by decide +kernel
theorem dX9_keepsBy_2 : decode cX9_keepsBy 2 = .ok (.iload_n 2, 1) := by decide +kernel
theorem dX9_keepsBy_3 : decode cX9_keepsBy 3 = .ok (.iconst 1, 1) := by decide +kernel
theorem dX9_keepsBy_4 : decode cX9_keepsBy 4 = .ok (.iadd, 1) := by decide +kernel
theorem dX9_keepsBy_5 : decode cX9_keepsBy 5 = .ok (.aload_n 0, 1) := by decide +kernel
theorem dX9_keepsBy_6 : decode cX9_keepsBy 6 = .ok (.getfield 163, 3) := by decide +kernel
theorem dX9_keepsBy_9 : decode cX9_keepsBy 9 = .ok (.if_icmp .ge 20, 3) := by decide +kernel
theorem dX9_keepsBy_12 : decode cX9_keepsBy 12 = .ok (.aload_n 0, 1) := by decide +kernel
theorem dX9_keepsBy_13 : decode cX9_keepsBy 13 = .ok (.iload_n 2, 1) := by decide +kernel
theorem dX9_keepsBy_14 : decode cX9_keepsBy 14 = .ok (.iload_n 1, 1) := by decide +kernel
theorem dX9_keepsBy_15 : decode cX9_keepsBy 15 = .ok (.invokestatic 332, 3) := by decide +kernel
theorem dX9_keepsBy_18 : decode cX9_keepsBy 18 = .ok (.ifCond .ge 5, 3) := by decide +kernel
theorem dX9_keepsBy_21 : decode cX9_keepsBy 21 = .ok (.iconst 0, 1) := by decide +kernel
theorem dX9_keepsBy_22 : decode cX9_keepsBy 22 = .ok (.ireturn, 1) := by decide +kernel
theorem dX9_keepsBy_23 : decode cX9_keepsBy 23 = .ok (.iinc 2 1, 3) := by decide +kernel
theorem dX9_keepsBy_26 : decode cX9_keepsBy 26 = .ok (.goto (-24), 3) := by decide +kernel
theorem dX9_keepsBy_29 : decode cX9_keepsBy 29 = .ok (.iconst 1, 1) := by decide +kernel
theorem dX9_keepsBy_30 : decode cX9_keepsBy 30 = .ok (.ireturn, 1) := by decide +kernel
def tX9_keepsBy (g : ax_G) : Nat → ax_O := ax_nd 12 (ax_nd 3 (ax_nd 1 (ax_nd 0 (ax_lf 0 (ao_ic (0) 1)) (ax_lf 1 (ao_is 2 1))) (ax_nd 2 (ax_lf 2 (ao_il 2 1)) (ax_lf 3 (ao_ic (1) 1)))) (ax_nd 5 (ax_nd 4 (ax_lf 4 ao_iadd) (ax_lf 5 (ao_al 0 1))) (ax_nd 6 (ax_lf 6 (ao_gi 2 3)) (ax_nd 9 (ax_lf 9 (ao_icmp_ge 29)) (ax_lf 12 (ao_al 0 1)))))) (ax_nd 21 (ax_nd 14 (ax_nd 13 (ax_lf 13 (ao_il 2 1)) (ax_lf 14 (ao_il 1 1))) (ax_nd 15 (ax_lf 15 (ao_inv g 3 99 1 yX9_leadOf cX9_leadOf 3 (some .int) 3 0 0 0 0)) (ax_nd 18 (ax_lf 18 (ao_if_ge 23)) (ax_lf 21 (ao_ic (0) 1))))) (ax_nd 23 (ax_nd 22 (ax_lf 22 (ao_zret 0 0)) (ax_lf 23 (ao_iinc 2 (1)))) (ax_nd 26 (ax_lf 26 (ao_goto 2)) (ax_nd 29 (ax_lf 29 (ao_ic (1) 1)) (ax_lf 30 (ao_zret 0 0))))))
theorem oX9_keepsBy (g : ax_G) : ∀ pc, ax_ok g cX9_keepsBy 3 (some .boolean) RX9 "keepsBy" 4 0 0 pc (tX9_keepsBy g pc) := ax_nd_ok (ax_nd_ok (ax_nd_ok (ax_nd_ok (ax_lf_ok (ak_iconst (by decide) dX9_keepsBy_0)) (ax_lf_ok (ak_istore_n rfl (by decide) dX9_keepsBy_1))) (ax_nd_ok (ax_lf_ok (ak_iload_n rfl dX9_keepsBy_2)) (ax_lf_ok (ak_iconst (by decide) dX9_keepsBy_3)))) (ax_nd_ok (ax_nd_ok (ax_lf_ok (ak_iadd dX9_keepsBy_4)) (ax_lf_ok (ak_aload_n rfl dX9_keepsBy_5))) (ax_nd_ok (ax_lf_ok (ak_gi fF_X9_163 dX9_keepsBy_6)) (ax_nd_ok (ax_lf_ok (ak_icmp_ge (by decide) dX9_keepsBy_9)) (ax_lf_ok (ak_aload_n rfl dX9_keepsBy_12)))))) (ax_nd_ok (ax_nd_ok (ax_nd_ok (ax_lf_ok (ak_iload_n rfl dX9_keepsBy_13)) (ax_lf_ok (ak_iload_n rfl dX9_keepsBy_14))) (ax_nd_ok (ax_lf_ok (ak_invS (by decide) (by decide) wd_906 wd_907 wd_96 wd_908 ⟨by decide, by decide, by decide +kernel⟩ dX9_keepsBy_15)) (ax_nd_ok (ax_lf_ok (ak_if_ge (by decide) dX9_keepsBy_18)) (ax_lf_ok (ak_iconst (by decide) dX9_keepsBy_21))))) (ax_nd_ok (ax_nd_ok (ax_lf_ok (ak_zret rfl dX9_keepsBy_22)) (ax_lf_ok (ak_iinc (by decide) (by decide) dX9_keepsBy_23))) (ax_nd_ok (ax_lf_ok (ak_goto (by decide) dX9_keepsBy_26)) (ax_nd_ok (ax_lf_ok (ak_iconst (by decide) dX9_keepsBy_29)) (ax_lf_ok (ak_zret rfl dX9_keepsBy_30))))))
abbrev mX9_keepsBy (g : ax_G) (as : List Value) (h : ax_H) (Ret : Option Value → ax_H → Prop) : Prop := ax_M g 4 0 0 yX9_keepsBy cX9_keepsBy 3 (some .boolean) as h Ret
theorem dX9_slackOf_0 : decode cX9_slackOf 0 = .ok (.sipush 1000, 3) := by decide +kernel
theorem dX9_slackOf_3 : decode cX9_slackOf 3 = .ok (.istore_n 3, 1) := by decide +kernel
theorem dX9_slackOf_4 : decode cX9_slackOf 4 = .ok (.iconst 0, 1) := by decide +kernel
theorem dX9_slackOf_5 : decode cX9_slackOf 5 = .ok (.istore 4, 2) := by decide +kernel
theorem dX9_slackOf_7 : decode cX9_slackOf 7 = .ok (.iload 4, 2) := by decide +kernel
theorem dX9_slackOf_9 : decode cX9_slackOf 9 = .ok (.aload_n 0, 1) := by decide +kernel
theorem dX9_slackOf_10 : decode cX9_slackOf 10 = .ok (.getfield 112, 3) := by decide +kernel
theorem dX9_slackOf_13 : decode cX9_slackOf 13 = .ok (.if_icmp .ge 21, 3) := by decide +kernel
theorem dX9_slackOf_16 : decode cX9_slackOf 16 = .ok (.iload_n 3, 1) := by decide +kernel
theorem dX9_slackOf_17 : decode cX9_slackOf 17 = .ok (.aload_n 1, 1) := by decide +kernel
theorem dX9_slackOf_18 : decode cX9_slackOf 18 = .ok (.iload_n 2, 1) := by decide +kernel
theorem dX9_slackOf_19 : decode cX9_slackOf 19 = .ok (.iload 4, 2) := by decide +kernel
theorem dX9_slackOf_21 : decode cX9_slackOf 21 = .ok (.invokestatic 332, 3) := by decide +kernel
theorem dX9_slackOf_24 : decode cX9_slackOf 24 = .ok (.invokestatic 253, 3) := by decide +kernel
theorem dX9_slackOf_27 : decode cX9_slackOf 27 = .ok (.istore_n 3, 1) := by decide +kernel
theorem dX9_slackOf_28 : decode cX9_slackOf 28 = .ok (.iinc 4 1, 3) := by decide +kernel
theorem dX9_slackOf_31 : decode cX9_slackOf 31 = .ok (.goto (-24), 3) := by decide +kernel
theorem dX9_slackOf_34 : decode cX9_slackOf 34 = .ok (.iload_n 3, 1) := by decide +kernel
theorem dX9_slackOf_35 : decode cX9_slackOf 35 = .ok (.ireturn, 1) := by decide +kernel
def tX9_slackOf (g : ax_G) : Nat → ax_O := ax_nd 16 (ax_nd 5 (ax_nd 3 (ax_nd 0 (ax_lf 0 (ao_ic (1000) 3)) (ax_lf 3 (ao_is 3 1))) (ax_nd 4 (ax_lf 4 (ao_ic (0) 1)) (ax_lf 5 (ao_is 4 2)))) (ax_nd 9 (ax_nd 7 (ax_lf 7 (ao_il 4 2)) (ax_lf 9 (ao_al 0 1))) (ax_nd 10 (ax_lf 10 (ao_gi 6 5)) (ax_nd 13 (ax_lf 13 (ao_icmp_ge 34)) (ax_lf 16 (ao_il 3 1)))))) (ax_nd 24 (ax_nd 18 (ax_nd 17 (ax_lf 17 (ao_al 1 1)) (ax_lf 18 (ao_il 2 1))) (ax_nd 19 (ax_lf 19 (ao_il 4 2)) (ax_nd 21 (ax_lf 21 (ao_inv g 3 99 1 yX9_leadOf cX9_leadOf 3 (some .int) 3 0 0 0 0)) (ax_lf 24 ao_imin)))) (ax_nd 28 (ax_nd 27 (ax_lf 27 (ao_is 3 1)) (ax_lf 28 (ao_iinc 4 (1)))) (ax_nd 31 (ax_lf 31 (ao_goto 7)) (ax_nd 34 (ax_lf 34 (ao_il 3 1)) (ax_lf 35 (ao_iret 0 0))))))
theorem oX9_slackOf (g : ax_G) : ∀ pc, ax_ok g cX9_slackOf 5 (some .int) RX9 "slackOf" 4 0 0 pc (tX9_slackOf g pc) := ax_nd_ok (ax_nd_ok (ax_nd_ok (ax_nd_ok (ax_lf_ok (ak_sipush (by decide) dX9_slackOf_0)) (ax_lf_ok (ak_istore_n rfl (by decide) dX9_slackOf_3))) (ax_nd_ok (ax_lf_ok (ak_iconst (by decide) dX9_slackOf_4)) (ax_lf_ok (ak_istore (by decide) dX9_slackOf_5)))) (ax_nd_ok (ax_nd_ok (ax_lf_ok (ak_iload dX9_slackOf_7)) (ax_lf_ok (ak_aload_n rfl dX9_slackOf_9))) (ax_nd_ok (ax_lf_ok (ak_gi fF_X9_112 dX9_slackOf_10)) (ax_nd_ok (ax_lf_ok (ak_icmp_ge (by decide) dX9_slackOf_13)) (ax_lf_ok (ak_iload_n rfl dX9_slackOf_16)))))) (ax_nd_ok (ax_nd_ok (ax_nd_ok (ax_lf_ok (ak_aload_n rfl dX9_slackOf_17)) (ax_lf_ok (ak_iload_n rfl dX9_slackOf_18))) (ax_nd_ok (ax_lf_ok (ak_iload dX9_slackOf_19)) (ax_nd_ok (ax_lf_ok (ak_invS (by decide) (by decide) wd_906 wd_907 wd_96 wd_908 ⟨by decide, by decide, by decide +kernel⟩ dX9_slackOf_21)) (ax_lf_ok (ak_imin (by decide) wd_918 wd_472 wd_107 wd_473 dX9_slackOf_24))))) (ax_nd_ok (ax_nd_ok (ax_lf_ok (ak_istore_n rfl (by decide) dX9_slackOf_27)) (ax_lf_ok (ak_iinc (by decide) (by decide) dX9_slackOf_28))) (ax_nd_ok (ax_lf_ok (ak_goto (by decide) dX9_slackOf_31)) (ax_nd_ok (ax_lf_ok (ak_iload_n rfl dX9_slackOf_34)) (ax_lf_ok (ak_iret rfl dX9_slackOf_35))))))
abbrev mX9_slackOf (g : ax_G) (as : List Value) (h : ax_H) (Ret : Option Value → ax_H → Prop) : Prop := ax_M g 4 0 0 yX9_slackOf cX9_slackOf 5 (some .int) as h Ret
theorem dX9_leastHour_0 : decode cX9_leastHour 0 = .ok (.aload_n 1, 1) := by decide +kernel
theorem dX9_leastHour_1 : decode cX9_leastHour 1 = .ok (.iconst 0, 1) := by decide +kernel
theorem dX9_leastHour_2 : decode cX9_leastHour 2 = .ok (.iconst 0, 1) := by decide +kernel
theorem dX9_leastHour_3 : decode cX9_leastHour 3 = .ok (.invokevirtual 171, 3) := by decide +kernel
theorem dX9_leastHour_6 : decode cX9_leastHour 6 = .ok (.istore_n 3, 1) := by decide +kernel
theorem dX9_leastHour_7 : decode cX9_leastHour 7 = .ok (.iconst 0, 1) := by decide +kernel
theorem dX9_leastHour_8 : decode cX9_leastHour 8 = .ok (.istore 4, 2) := by decide +kernel
theorem dX9_leastHour_10 : decode cX9_leastHour 10 = .ok (.iload 4, 2) := by decide +kernel
theorem dX9_leastHour_12 : decode cX9_leastHour 12 = .ok (.iload_n 2, 1) := by decide +kernel
theorem dX9_leastHour_13 : decode cX9_leastHour 13 = .ok (.if_icmp .ge 22, 3) := by decide +kernel
theorem dX9_leastHour_16 : decode cX9_leastHour 16 = .ok (.aload_n 0, 1) := by decide +kernel
theorem dX9_leastHour_17 : decode cX9_leastHour 17 = .ok (.iload_n 3, 1) := by decide +kernel
theorem dX9_leastHour_18 : decode cX9_leastHour 18 = .ok (.aload_n 1, 1) := by decide +kernel
theorem dX9_leastHour_19 : decode cX9_leastHour 19 = .ok (.iload 4, 2) := by decide +kernel
theorem dX9_leastHour_21 : decode cX9_leastHour 21 = .ok (.iconst 1, 1) := by decide +kernel
theorem dX9_leastHour_22 : decode cX9_leastHour 22 = .ok (.invokevirtual 171, 3) := by decide +kernel
theorem dX9_leastHour_25 : decode cX9_leastHour 25 = .ok (.invokestatic 336, 3) := by decide +kernel
theorem dX9_leastHour_28 : decode cX9_leastHour 28 = .ok (.istore_n 3, 1) := by decide +kernel
theorem dX9_leastHour_29 : decode cX9_leastHour 29 = .ok (.iinc 4 1, 3) := by decide +kernel
theorem dX9_leastHour_32 : decode cX9_leastHour 32 = .ok (.goto (-22), 3) := by decide +kernel
theorem dX9_leastHour_35 : decode cX9_leastHour 35 = .ok (.iload_n 3, 1) := by decide +kernel
theorem dX9_leastHour_36 : decode cX9_leastHour 36 = .ok (.ireturn, 1) := by decide +kernel
def tX9_leastHour (g : ax_G) : Nat → ax_O := ax_nd 16 (ax_nd 6 (ax_nd 1 (ax_nd 0 (ax_lf 0 (ao_al 1 1)) (ax_lf 1 (ao_ic (0) 1))) (ax_nd 2 (ax_lf 2 (ao_ic (0) 1)) (ax_nd 3 (ax_lf 3 (ao_inv g 2 2 1 yX2_cell cX2_cell 3 (some .int) 3 0 0 0 0)) (ax_lf 6 (ao_is 3 1))))) (ax_nd 10 (ax_nd 7 (ax_lf 7 (ao_ic (0) 1)) (ax_nd 8 (ax_lf 8 (ao_is 4 2)) (ax_lf 10 (ao_il 4 2)))) (ax_nd 12 (ax_lf 12 (ao_il 2 1)) (ax_nd 13 (ax_lf 13 (ao_icmp_ge 35)) (ax_lf 16 (ao_al 0 1)))))) (ax_nd 22 (ax_nd 18 (ax_nd 17 (ax_lf 17 (ao_il 3 1)) (ax_lf 18 (ao_al 1 1))) (ax_nd 19 (ax_lf 19 (ao_il 4 2)) (ax_nd 21 (ax_lf 21 (ao_ic (1) 1)) (ax_lf 22 (ao_inv g 2 2 1 yX2_cell cX2_cell 3 (some .int) 3 0 0 0 0))))) (ax_nd 29 (ax_nd 25 (ax_lf 25 (ao_inv g 3 99 1 yX9_leastNext cX9_leastNext 6 (some .int) 3 0 0 0 0)) (ax_nd 28 (ax_lf 28 (ao_is 3 1)) (ax_lf 29 (ao_iinc 4 (1))))) (ax_nd 32 (ax_lf 32 (ao_goto 10)) (ax_nd 35 (ax_lf 35 (ao_il 3 1)) (ax_lf 36 (ao_iret 0 0))))))
theorem oX9_leastHour (g : ax_G) : ∀ pc, ax_ok g cX9_leastHour 5 (some .int) RX9 "leastHour" 4 0 0 pc (tX9_leastHour g pc) := ax_nd_ok (ax_nd_ok (ax_nd_ok (ax_nd_ok (ax_lf_ok (ak_aload_n rfl dX9_leastHour_0)) (ax_lf_ok (ak_iconst (by decide) dX9_leastHour_1))) (ax_nd_ok (ax_lf_ok (ak_iconst (by decide) dX9_leastHour_2)) (ax_nd_ok (ax_lf_ok (ak_invV (by decide) (by decide) (by decide) rfl wd_753 wd_754 wd_755 wd_99 wd_756 ⟨by decide, by decide, by decide +kernel⟩ dX9_leastHour_3)) (ax_lf_ok (ak_istore_n rfl (by decide) dX9_leastHour_6))))) (ax_nd_ok (ax_nd_ok (ax_lf_ok (ak_iconst (by decide) dX9_leastHour_7)) (ax_nd_ok (ax_lf_ok (ak_istore (by decide) dX9_leastHour_8)) (ax_lf_ok (ak_iload dX9_leastHour_10)))) (ax_nd_ok (ax_lf_ok (ak_iload_n rfl dX9_leastHour_12)) (ax_nd_ok (ax_lf_ok (ak_icmp_ge (by decide) dX9_leastHour_13)) (ax_lf_ok (ak_aload_n rfl dX9_leastHour_16)))))) (ax_nd_ok (ax_nd_ok (ax_nd_ok (ax_lf_ok (ak_iload_n rfl dX9_leastHour_17)) (ax_lf_ok (ak_aload_n rfl dX9_leastHour_18))) (ax_nd_ok (ax_lf_ok (ak_iload dX9_leastHour_19)) (ax_nd_ok (ax_lf_ok (ak_iconst (by decide) dX9_leastHour_21)) (ax_lf_ok (ak_invV (by decide) (by decide) (by decide) rfl wd_753 wd_754 wd_755 wd_99 wd_756 ⟨by decide, by decide, by decide +kernel⟩ dX9_leastHour_22))))) (ax_nd_ok (ax_nd_ok (ax_lf_ok (ak_invS (by decide) (by decide) wd_926 wd_927 wd_96 wd_928 ⟨by decide, by decide, by decide +kernel⟩ dX9_leastHour_25)) (ax_nd_ok (ax_lf_ok (ak_istore_n rfl (by decide) dX9_leastHour_28)) (ax_lf_ok (ak_iinc (by decide) (by decide) dX9_leastHour_29)))) (ax_nd_ok (ax_lf_ok (ak_goto (by decide) dX9_leastHour_32)) (ax_nd_ok (ax_lf_ok (ak_iload_n rfl dX9_leastHour_35)) (ax_lf_ok (ak_iret rfl dX9_leastHour_36))))))
abbrev mX9_leastHour (g : ax_G) (as : List Value) (h : ax_H) (Ret : Option Value → ax_H → Prop) : Prop := ax_M g 4 0 0 yX9_leastHour cX9_leastHour 5 (some .int) as h Ret
theorem dX9_leastNext_0 : decode cX9_leastNext 0 = .ok (.iload_n 1, 1) := by decide +kernel
theorem dX9_leastNext_1 : decode cX9_leastNext 1 = .ok (.istore_n 3, 1) := by decide +kernel
theorem dX9_leastNext_2 : decode cX9_leastNext 2 = .ok (.iload_n 3, 1) := by decide +kernel
theorem dX9_leastNext_3 : decode cX9_leastNext 3 = .ok (.iload_n 1, 1) := by decide +kernel
theorem dX9_leastNext_4 : decode cX9_leastNext 4 = .ok (.iload_n 2, 1) := by decide +kernel
theorem dX9_leastNext_5 : decode cX9_leastNext 5 = .ok (.iadd, 1) := by decide +kernel
theorem dX9_leastNext_6 : decode cX9_leastNext 6 = .ok (.if_icmp .ge 60, 3) := by decide +kernel
theorem dX9_leastNext_9 : decode cX9_leastNext 9 = .ok (.iconst 1, 1) := by decide +kernel
theorem dX9_leastNext_10 : decode cX9_leastNext 10 = .ok (.istore 4, 2) := by decide +kernel
theorem dX9_leastNext_12 : decode cX9_leastNext 12 = .ok (.iconst 0, 1) := by decide +kernel
theorem dX9_leastNext_13 : decode cX9_leastNext 13 = .ok (.istore 5, 2) := by decide +kernel
theorem dX9_leastNext_15 : decode cX9_leastNext 15 = .ok (.iload 5, 2) := by decide +kernel
theorem dX9_leastNext_17 : decode cX9_leastNext 17 = .ok (.aload_n 0, 1) := by decide +kernel
theorem dX9_leastNext_18 : decode cX9_leastNext 18 = .ok (.getfield 112, 3) := by decide +kernel
theorem dX9_leastNext_21 : decode cX9_leastNext 21 = .ok (.if_icmp .ge 32, 3) := by decide +kernel
theorem dX9_leastNext_24 : decode cX9_leastNext 24 = .ok (.iload 4, 2) := by decide +kernel
theorem dX9_leastNext_26 : decode cX9_leastNext 26 = .ok (.ifCond .eq 18, 3) := by decide +kernel
theorem dX9_leastNext_29 : decode cX9_leastNext 29 = .ok (.iload_n 1, 1) := by decide +kernel
theorem dX9_leastNext_30 : decode cX9_leastNext 30 = .ok (.iload_n 2, 1) := by decide +kernel
theorem dX9_leastNext_31 : decode cX9_leastNext 31 = .ok (.iload_n 3, 1) := by decide +kernel
theorem dX9_leastNext_32 : decode cX9_leastNext 32 = .ok (.iload 5, 2) := by decide +kernel
theorem dX9_leastNext_34 : decode cX9_leastNext 34 = .ok (.invokestatic 328, 3) := by decide +kernel
theorem dX9_leastNext_37 : decode cX9_leastNext 37 = .ok (.ifCond .lt 7, 3) := by decide +kernel
theorem dX9_leastNext_40 : decode cX9_leastNext 40 = .ok (.iconst 1, 1) := by decide +kernel
theorem dX9_leastNext_41 : decode cX9_leastNext 41 = .ok (.goto 4, 3) := by decide +kernel
theorem dX9_leastNext_44 : decode cX9_leastNext 44 = .ok (.iconst 0, 1) := by decide +kernel
theorem dX9_leastNext_45 : decode cX9_leastNext 45 = .ok (.istore 4, 2) := by decide +kernel
theorem dX9_leastNext_47 : decode cX9_leastNext 47 = .ok (.iinc 5 1, 3) := by decide +kernel
theorem dX9_leastNext_50 : decode cX9_leastNext 50 = .ok (.goto (-35), 3) := by decide +kernel
theorem dX9_leastNext_53 : decode cX9_leastNext 53 = .ok (.iload 4, 2) := by decide +kernel
theorem dX9_leastNext_55 : decode cX9_leastNext 55 = .ok (.ifCond .eq 5, 3) := by decide +kernel
theorem dX9_leastNext_58 : decode cX9_leastNext 58 = .ok (.iload_n 3, 1) := by decide +kernel
theorem dX9_leastNext_59 : decode cX9_leastNext 59 = .ok (.ireturn, 1) := by decide +kernel
theorem dX9_leastNext_60 : decode cX9_leastNext 60 = .ok (.iinc 3 1, 3) := by decide +kernel
theorem dX9_leastNext_63 : decode cX9_leastNext 63 = .ok (.goto (-61), 3) := by decide +kernel
theorem dX9_leastNext_66 : decode cX9_leastNext 66 = .ok (.iload_n 1, 1) := by decide +kernel
theorem dX9_leastNext_67 : decode cX9_leastNext 67 = .ok (.iload_n 2, 1) := by decide +kernel
theorem dX9_leastNext_68 : decode cX9_leastNext 68 = .ok (.iadd, 1) := by decide +kernel
theorem dX9_leastNext_69 : decode cX9_leastNext 69 = .ok (.ireturn, 1) := by decide +kernel
def tX9_leastNext (g : ax_G) : Nat → ax_O := ax_nd 30 (ax_nd 10 (ax_nd 3 (ax_nd 1 (ax_nd 0 (ax_lf 0 (ao_il 1 1)) (ax_lf 1 (ao_is 3 1))) (ax_nd 2 (ax_lf 2 (ao_il 3 1)) (ax_lf 3 (ao_il 1 1)))) (ax_nd 5 (ax_nd 4 (ax_lf 4 (ao_il 2 1)) (ax_lf 5 ao_iadd)) (ax_nd 6 (ax_lf 6 (ao_icmp_ge 66)) (ax_nd 9 (ax_lf 9 (ao_ic (1) 1)) (ax_lf 10 (ao_is 4 2)))))) (ax_nd 18 (ax_nd 13 (ax_nd 12 (ax_lf 12 (ao_ic (0) 1)) (ax_lf 13 (ao_is 5 2))) (ax_nd 15 (ax_lf 15 (ao_il 5 2)) (ax_nd 17 (ax_lf 17 (ao_al 0 1)) (ax_lf 18 (ao_gi 6 5))))) (ax_nd 24 (ax_nd 21 (ax_lf 21 (ao_icmp_ge 53)) (ax_lf 24 (ao_il 4 2))) (ax_nd 26 (ax_lf 26 (ao_if_eq 44)) (ax_nd 29 (ax_lf 29 (ao_il 1 1)) (ax_lf 30 (ao_il 2 1))))))) (ax_nd 50 (ax_nd 40 (ax_nd 32 (ax_nd 31 (ax_lf 31 (ao_il 3 1)) (ax_lf 32 (ao_il 5 2))) (ax_nd 34 (ax_lf 34 (ao_inv g 2 99 1 yX9_lead cX9_lead 4 (some .int) 4 0 0 0 0)) (ax_nd 37 (ax_lf 37 (ao_if_lt 44)) (ax_lf 40 (ao_ic (1) 1))))) (ax_nd 44 (ax_nd 41 (ax_lf 41 (ao_goto 45)) (ax_lf 44 (ao_ic (0) 1))) (ax_nd 45 (ax_lf 45 (ao_is 4 2)) (ax_nd 47 (ax_lf 47 (ao_iinc 5 (1))) (ax_lf 50 (ao_goto 15)))))) (ax_nd 60 (ax_nd 55 (ax_nd 53 (ax_lf 53 (ao_il 4 2)) (ax_lf 55 (ao_if_eq 60))) (ax_nd 58 (ax_lf 58 (ao_il 3 1)) (ax_nd 59 (ax_lf 59 (ao_iret 0 0)) (ax_lf 60 (ao_iinc 3 (1)))))) (ax_nd 66 (ax_nd 63 (ax_lf 63 (ao_goto 2)) (ax_lf 66 (ao_il 1 1))) (ax_nd 67 (ax_lf 67 (ao_il 2 1)) (ax_nd 68 (ax_lf 68 ao_iadd) (ax_lf 69 (ao_iret 0 0)))))))
theorem oX9_leastNext (g : ax_G) : ∀ pc, ax_ok g cX9_leastNext 6 (some .int) RX9 "leastNext" 3 0 0 pc (tX9_leastNext g pc) := ax_nd_ok (ax_nd_ok (ax_nd_ok (ax_nd_ok (ax_nd_ok (ax_lf_ok (ak_iload_n rfl dX9_leastNext_0)) (ax_lf_ok (ak_istore_n rfl (by decide) dX9_leastNext_1))) (ax_nd_ok (ax_lf_ok (ak_iload_n rfl dX9_leastNext_2)) (ax_lf_ok (ak_iload_n rfl dX9_leastNext_3)))) (ax_nd_ok (ax_nd_ok (ax_lf_ok (ak_iload_n rfl dX9_leastNext_4)) (ax_lf_ok (ak_iadd dX9_leastNext_5))) (ax_nd_ok (ax_lf_ok (ak_icmp_ge (by decide) dX9_leastNext_6)) (ax_nd_ok (ax_lf_ok (ak_iconst (by decide) dX9_leastNext_9)) (ax_lf_ok (ak_istore (by decide) dX9_leastNext_10)))))) (ax_nd_ok (ax_nd_ok (ax_nd_ok (ax_lf_ok (ak_iconst (by decide) dX9_leastNext_12)) (ax_lf_ok (ak_istore (by decide) dX9_leastNext_13))) (ax_nd_ok (ax_lf_ok (ak_iload dX9_leastNext_15)) (ax_nd_ok (ax_lf_ok (ak_aload_n rfl dX9_leastNext_17)) (ax_lf_ok (ak_gi fF_X9_112 dX9_leastNext_18))))) (ax_nd_ok (ax_nd_ok (ax_lf_ok (ak_icmp_ge (by decide) dX9_leastNext_21)) (ax_lf_ok (ak_iload dX9_leastNext_24))) (ax_nd_ok (ax_lf_ok (ak_if_eq (by decide) dX9_leastNext_26)) (ax_nd_ok (ax_lf_ok (ak_iload_n rfl dX9_leastNext_29)) (ax_lf_ok (ak_iload_n rfl dX9_leastNext_30))))))) (ax_nd_ok (ax_nd_ok (ax_nd_ok (ax_nd_ok (ax_lf_ok (ak_iload_n rfl dX9_leastNext_31)) (ax_lf_ok (ak_iload dX9_leastNext_32))) (ax_nd_ok (ax_lf_ok (ak_invS (by decide) (by decide) wd_909 wd_910 wd_96 wd_911 ⟨by decide, by decide, by decide +kernel⟩ dX9_leastNext_34)) (ax_nd_ok (ax_lf_ok (ak_if_lt (by decide) dX9_leastNext_37)) (ax_lf_ok (ak_iconst (by decide) dX9_leastNext_40))))) (ax_nd_ok (ax_nd_ok (ax_lf_ok (ak_goto (by decide) dX9_leastNext_41)) (ax_lf_ok (ak_iconst (by decide) dX9_leastNext_44))) (ax_nd_ok (ax_lf_ok (ak_istore (by decide) dX9_leastNext_45)) (ax_nd_ok (ax_lf_ok (ak_iinc (by decide) (by decide) dX9_leastNext_47)) (ax_lf_ok (ak_goto (by decide) dX9_leastNext_50)))))) (ax_nd_ok (ax_nd_ok (ax_nd_ok (ax_lf_ok (ak_iload dX9_leastNext_53)) (ax_lf_ok (ak_if_eq (by decide) dX9_leastNext_55))) (ax_nd_ok (ax_lf_ok (ak_iload_n rfl dX9_leastNext_58)) (ax_nd_ok (ax_lf_ok (ak_iret rfl dX9_leastNext_59)) (ax_lf_ok (ak_iinc (by decide) (by decide) dX9_leastNext_60))))) (ax_nd_ok (ax_nd_ok (ax_lf_ok (ak_goto (by decide) dX9_leastNext_63)) (ax_lf_ok (ak_iload_n rfl dX9_leastNext_66))) (ax_nd_ok (ax_lf_ok (ak_iload_n rfl dX9_leastNext_67)) (ax_nd_ok (ax_lf_ok (ak_iadd dX9_leastNext_68)) (ax_lf_ok (ak_iret rfl dX9_leastNext_69)))))))
abbrev mX9_leastNext (g : ax_G) (as : List Value) (h : ax_H) (Ret : Option Value → ax_H → Prop) : Prop := ax_M g 3 0 0 yX9_leastNext cX9_leastNext 6 (some .int) as h Ret
end
