section
theorem dX8_init_0 : decode cX8_init 0 = .ok (.aload_n 0, 1) := by decide +kernel
theorem dX8_init_1 : decode cX8_init 1 = .ok (.invokespecial 3, 3) := by decide +kernel
theorem dX8_init_4 : decode cX8_init 4 = .ok (.aload_n 0, 1) := by decide +kernel
theorem dX8_init_5 : decode cX8_init 5 = .ok (.sipush 600, 3) := by decide +kernel
theorem dX8_init_8 : decode cX8_init 8 = .ok (.newarray .byte, 2) := by decide +kernel
theorem dX8_init_10 : decode cX8_init 10 = .ok (.putfield 9, 3) := by decide +kernel
theorem dX8_init_13 : decode cX8_init 13 = .ok (.aload_n 0, 1) := by decide +kernel
theorem dX8_init_14 : decode cX8_init 14 = .ok (.iconst 5, 1) := by decide +kernel
theorem dX8_init_15 : decode cX8_init 15 = .ok (.newarray .int, 2) := by decide +kernel
theorem dX8_init_17 : decode cX8_init 17 = .ok (.putfield 15, 3) := by decide +kernel
theorem dX8_init_20 : decode cX8_init 20 = .ok (.aload_n 0, 1) := by decide +kernel
theorem dX8_init_21 : decode cX8_init 21 = .ok (.iconst 2, 1) := by decide +kernel
theorem dX8_init_22 : decode cX8_init 22 = .ok (.anewarray 19, 3) := by decide +kernel
theorem dX8_init_25 : decode cX8_init 25 = .ok (.putfield 21, 3) := by decide +kernel
theorem dX8_init_28 : decode cX8_init 28 = .ok (.aload_n 0, 1) := by decide +kernel
theorem dX8_init_29 : decode cX8_init 29 = .ok (.bipush 10, 2) := by decide +kernel
theorem dX8_init_31 : decode cX8_init 31 = .ok (.anewarray 25, 3) := by decide +kernel
theorem dX8_init_34 : decode cX8_init 34 = .ok (.putfield 27, 3) := by decide +kernel
theorem dX8_init_37 : decode cX8_init 37 = .ok (.aload_n 0, 1) := by decide +kernel
theorem dX8_init_38 : decode cX8_init 38 = .ok (.iconst 0, 1) := by decide +kernel
theorem dX8_init_39 : decode cX8_init 39 = .ok (.putfield 31, 3) := by decide +kernel
theorem dX8_init_42 : decode cX8_init 42 = .ok (.aload_n 0, 1) := by decide +kernel
theorem dX8_init_43 : decode cX8_init 43 = .ok (.iconst 0, 1) := by decide +kernel
theorem dX8_init_44 : decode cX8_init 44 = .ok (.putfield 35, 3) := by decide +kernel
theorem dX8_init_47 : decode cX8_init 47 = .ok (.aload_n 0, 1) := by decide +kernel
theorem dX8_init_48 : decode cX8_init 48 = .ok (.iconst (-1), 1) := by decide +kernel
theorem dX8_init_49 : decode cX8_init 49 = .ok (.putfield 38, 3) := by decide +kernel
theorem dX8_init_52 : decode cX8_init 52 = .ok (.iconst 0, 1) := by decide +kernel
theorem dX8_init_53 : decode cX8_init 53 = .ok (.istore_n 1, 1) := by decide +kernel
theorem dX8_init_54 : decode cX8_init 54 = .ok (.iload_n 1, 1) := by decide +kernel
theorem dX8_init_55 : decode cX8_init 55 = .ok (.iconst 2, 1) := by decide +kernel
theorem dX8_init_56 : decode cX8_init 56 = .ok (.if_icmp .ge 53, 3) := by decide +kernel
theorem dX8_init_59 : decode cX8_init 59 = .ok (.aload_n 0, 1) := by decide +kernel
theorem dX8_init_60 : decode cX8_init 60 = .ok (.getfield 21, 3) := by decide +kernel
theorem dX8_init_63 : decode cX8_init 63 = .ok (.iload_n 1, 1) := by decide +kernel
theorem dX8_init_64 : decode cX8_init 64 = .ok (.new 19, 3) := by decide +kernel
theorem dX8_init_67 : decode cX8_init 67 = .ok (.dup, 1) := by decide +kernel
theorem dX8_init_68 : decode cX8_init 68 = .ok (.invokespecial 41, 3) := by decide +kernel
theorem dX8_init_71 : decode cX8_init 71 = .ok (.aastore, 1) := by decide +kernel
theorem dX8_init_72 : decode cX8_init 72 = .ok (.iconst 1, 1) := by decide +kernel
theorem dX8_init_73 : decode cX8_init 73 = .ok (.istore_n 2, 1) := by decide +kernel
theorem dX8_init_74 : decode cX8_init 74 = .ok (.iload_n 2, 1) := by decide +kernel
theorem dX8_init_75 : decode cX8_init 75 = .ok (.iconst 5, 1) := by decide +kernel
theorem dX8_init_76 : decode cX8_init 76 = .ok (.if_icmp .ge 27, 3) := by decide +kernel
theorem dX8_init_79 : decode cX8_init 79 = .ok (.aload_n 0, 1) := by decide +kernel
theorem dX8_init_80 : decode cX8_init 80 = .ok (.getfield 27, 3) := by decide +kernel
theorem dX8_init_83 : decode cX8_init 83 = .ok (.iload_n 2, 1) := by decide +kernel
theorem dX8_init_84 : decode cX8_init 84 = .ok (.iconst 2, 1) := by decide +kernel
theorem dX8_init_85 : decode cX8_init 85 = .ok (.imul, 1) := by decide +kernel
theorem dX8_init_86 : decode cX8_init 86 = .ok (.iload_n 1, 1) := by decide +kernel
theorem dX8_init_87 : decode cX8_init 87 = .ok (.iadd, 1) := by decide +kernel
theorem dX8_init_88 : decode cX8_init 88 = .ok (.new 25, 3) := by decide +kernel
theorem dX8_init_91 : decode cX8_init 91 = .ok (.dup, 1) := by decide +kernel
theorem dX8_init_92 : decode cX8_init 92 = .ok (.iload_n 2, 1) := by decide +kernel
theorem dX8_init_93 : decode cX8_init 93 = .ok (.invokespecial 42, 3) := by decide +kernel
theorem dX8_init_96 : decode cX8_init 96 = .ok (.aastore, 1) := by decide +kernel
theorem dX8_init_97 : decode cX8_init 97 = .ok (.iinc 2 1, 3) := by decide +kernel
theorem dX8_init_100 : decode cX8_init 100 = .ok (.goto (-26), 3) := by decide +kernel
theorem dX8_init_103 : decode cX8_init 103 = .ok (.iinc 1 1, 3) := by decide +kernel
theorem dX8_init_106 : decode cX8_init 106 = .ok (.goto (-52), 3) := by decide +kernel
theorem dX8_init_109 : decode cX8_init 109 = .ok (.return_, 1) := by decide +kernel
def tX8_init (g : ax_G) : Nat → ax_O := ax_nd 54 (ax_nd 28 (ax_nd 13 (ax_nd 4 (ax_nd 0 (ax_lf 0 (ao_al 0 1)) (ax_nd 1 (ax_lf 1 ao_obj) (ax_lf 4 (ao_al 0 1)))) (ax_nd 8 (ax_nd 5 (ax_lf 5 (ao_ic (600) 3)) (ax_lf 8 (ao_newa 12 1 32 1131))) (ax_nd 10 (ax_lf 10 (ao_pr 8 0)) (ax_lf 13 (ao_al 0 1))))) (ax_nd 20 (ax_nd 15 (ax_nd 14 (ax_lf 14 (ao_ic (5) 1)) (ax_lf 15 (ao_newa 11 4 32 1131))) (ax_nd 17 (ax_lf 17 (ao_pr 8 1)) (ax_lf 20 (ao_al 0 1)))) (ax_nd 22 (ax_nd 21 (ax_lf 21 (ao_ic (2) 1)) (ax_lf 22 (ao_newr 17 32 1131))) (ax_nd 25 (ax_lf 25 (ao_pr 8 2)) (ax_lf 28 (ao_al 0 1)))))) (ax_nd 42 (ax_nd 34 (ax_nd 29 (ax_lf 29 (ao_ic (10) 2)) (ax_nd 31 (ax_lf 31 (ao_newr 15 32 1131)) (ax_lf 34 (ao_pr 8 3)))) (ax_nd 38 (ax_nd 37 (ax_lf 37 (ao_al 0 1)) (ax_lf 38 (ao_ic (0) 1))) (ax_nd 39 (ax_lf 39 (ao_pi 8 4)) (ax_lf 42 (ao_al 0 1))))) (ax_nd 48 (ax_nd 44 (ax_nd 43 (ax_lf 43 (ao_ic (0) 1)) (ax_lf 44 (ao_pi 8 5))) (ax_nd 47 (ax_lf 47 (ao_al 0 1)) (ax_lf 48 (ao_ic (-1) 1)))) (ax_nd 52 (ax_nd 49 (ax_lf 49 (ao_pi 8 6)) (ax_lf 52 (ao_ic (0) 1))) (ax_nd 53 (ax_lf 53 (ao_is 1 1)) (ax_lf 54 (ao_il 1 1))))))) (ax_nd 79 (ax_nd 67 (ax_nd 59 (ax_nd 55 (ax_lf 55 (ao_ic (2) 1)) (ax_nd 56 (ax_lf 56 (ao_icmp_ge 109)) (ax_lf 59 (ao_al 0 1)))) (ax_nd 63 (ax_nd 60 (ax_lf 60 (ao_gr 8 2)) (ax_lf 63 (ao_il 1 1))) (ax_nd 64 (ax_lf 64 (ao_new 6 7 32 1131)) (ax_lf 67 ao_dup)))) (ax_nd 73 (ax_nd 71 (ax_nd 68 (ax_lf 68 (ao_inva g 2 6 0 yX6_init cX6_init 1 none 1 5 32 162 1131)) (ax_lf 71 (ao_aast 17 6))) (ax_nd 72 (ax_lf 72 (ao_ic (1) 1)) (ax_lf 73 (ao_is 2 1)))) (ax_nd 75 (ax_nd 74 (ax_lf 74 (ao_il 2 1)) (ax_lf 75 (ao_ic (5) 1))) (ax_nd 76 (ax_lf 76 (ao_icmp_ge 103)) (ax_lf 79 (ao_al 0 1)))))) (ax_nd 91 (ax_nd 85 (ax_nd 83 (ax_nd 80 (ax_lf 80 (ao_gr 8 3)) (ax_lf 83 (ao_il 2 1))) (ax_nd 84 (ax_lf 84 (ao_ic (2) 1)) (ax_lf 85 ao_imul))) (ax_nd 87 (ax_nd 86 (ax_lf 86 (ao_il 1 1)) (ax_lf 87 ao_iadd)) (ax_nd 88 (ax_lf 88 (ao_new 2 4 32 1131)) (ax_lf 91 ao_dup)))) (ax_nd 97 (ax_nd 93 (ax_nd 92 (ax_lf 92 (ao_il 2 1)) (ax_lf 93 (ao_inva g 1 2 0 yX2_init cX2_init 3 none 2 1 32 18 1131))) (ax_nd 96 (ax_lf 96 (ao_aast 15 2)) (ax_lf 97 (ao_iinc 2 (1))))) (ax_nd 103 (ax_nd 100 (ax_lf 100 (ao_goto 74)) (ax_lf 103 (ao_iinc 1 (1)))) (ax_nd 106 (ax_lf 106 (ao_goto 54)) (ax_lf 109 (ao_vreta 32 1131)))))))
theorem oX8_init (g : ax_G) : ∀ pc, ax_ok g cX8_init 3 none RX8 "<init>" 3 32 1131 pc (tX8_init g pc) := ax_nd_ok (ax_nd_ok (ax_nd_ok (ax_nd_ok (ax_nd_ok (ax_lf_ok (ak_aload_n rfl dX8_init_0)) (ax_nd_ok (ax_lf_ok (ak_obj (by decide) wd_126 wd_119 wd_120 dX8_init_1)) (ax_lf_ok (ak_aload_n rfl dX8_init_4)))) (ax_nd_ok (ax_nd_ok (ax_lf_ok (ak_sipush (by decide) dX8_init_5)) (ax_lf_ok (ak_newa (atype := .byte) (ty := .byte) (by decide) (by decide) rfl rfl (fun _ h => by cases h) (t0 := 1) rfl (fun _ _ => rfl) wd_178 dX8_init_8))) (ax_nd_ok (ax_lf_ok (ak_pr fF_X8_9 rfl fW_X8_9_i dX8_init_10)) (ax_lf_ok (ak_aload_n rfl dX8_init_13))))) (ax_nd_ok (ax_nd_ok (ax_nd_ok (ax_lf_ok (ak_iconst (by decide) dX8_init_14)) (ax_lf_ok (ak_newa (atype := .int) (ty := .int) (by decide) (by decide) rfl rfl (fun _ h => by cases h) (t0 := 0) rfl (fun _ _ => rfl) wd_179 dX8_init_15))) (ax_nd_ok (ax_lf_ok (ak_pr fF_X8_15 rfl fW_X8_15_i dX8_init_17)) (ax_lf_ok (ak_aload_n rfl dX8_init_20)))) (ax_nd_ok (ax_nd_ok (ax_lf_ok (ak_iconst (by decide) dX8_init_21)) (ax_lf_ok (ak_newr (by decide) (t0 := 6) rfl wd_127 (by decide +kernel) dX8_init_22))) (ax_nd_ok (ax_lf_ok (ak_pr fF_X8_21 rfl fW_X8_21_i dX8_init_25)) (ax_lf_ok (ak_aload_n rfl dX8_init_28)))))) (ax_nd_ok (ax_nd_ok (ax_nd_ok (ax_lf_ok (ak_bipush (by decide) dX8_init_29)) (ax_nd_ok (ax_lf_ok (ak_newr (by decide) (t0 := 4) rfl wd_129 (by decide +kernel) dX8_init_31)) (ax_lf_ok (ak_pr fF_X8_27 rfl fW_X8_27_i dX8_init_34)))) (ax_nd_ok (ax_nd_ok (ax_lf_ok (ak_aload_n rfl dX8_init_37)) (ax_lf_ok (ak_iconst (by decide) dX8_init_38))) (ax_nd_ok (ax_lf_ok (ak_pi fF_X8_31 fW_X8_31_a dX8_init_39)) (ax_lf_ok (ak_aload_n rfl dX8_init_42))))) (ax_nd_ok (ax_nd_ok (ax_nd_ok (ax_lf_ok (ak_iconst (by decide) dX8_init_43)) (ax_lf_ok (ak_pi fF_X8_35 fW_X8_35_a dX8_init_44))) (ax_nd_ok (ax_lf_ok (ak_aload_n rfl dX8_init_47)) (ax_lf_ok (ak_iconst (by decide) dX8_init_48)))) (ax_nd_ok (ax_nd_ok (ax_lf_ok (ak_pi fF_X8_38 fW_X8_38_a dX8_init_49)) (ax_lf_ok (ak_iconst (by decide) dX8_init_52))) (ax_nd_ok (ax_lf_ok (ak_istore_n rfl (by decide) dX8_init_53)) (ax_lf_ok (ak_iload_n rfl dX8_init_54))))))) (ax_nd_ok (ax_nd_ok (ax_nd_ok (ax_nd_ok (ax_lf_ok (ak_iconst (by decide) dX8_init_55)) (ax_nd_ok (ax_lf_ok (ak_icmp_ge (by decide) dX8_init_56)) (ax_lf_ok (ak_aload_n rfl dX8_init_59)))) (ax_nd_ok (ax_nd_ok (ax_lf_ok (ak_gr fF_X8_21 dX8_init_60)) (ax_lf_ok (ak_iload_n rfl dX8_init_63))) (ax_nd_ok (ax_lf_ok (ak_new (by decide) rfl ig_X6 tyX6_ok dv_X6 wd_127 wd_131 wd_98 dX8_init_64)) (ax_lf_ok (ak_dup dX8_init_67))))) (ax_nd_ok (ax_nd_ok (ax_nd_ok (ax_lf_ok (ak_inva (ak_invI (by decide) (by decide) (by decide) wd_132 wd_133 wd_98 wd_134 rfl ⟨by decide, by decide, by decide +kernel⟩ dX8_init_68))) (ax_lf_ok (ak_aast (by decide) (by decide) (by decide) rfl (t0 := 6) rfl dX8_init_71))) (ax_nd_ok (ax_lf_ok (ak_iconst (by decide) dX8_init_72)) (ax_lf_ok (ak_istore_n rfl (by decide) dX8_init_73)))) (ax_nd_ok (ax_nd_ok (ax_lf_ok (ak_iload_n rfl dX8_init_74)) (ax_lf_ok (ak_iconst (by decide) dX8_init_75))) (ax_nd_ok (ax_lf_ok (ak_icmp_ge (by decide) dX8_init_76)) (ax_lf_ok (ak_aload_n rfl dX8_init_79)))))) (ax_nd_ok (ax_nd_ok (ax_nd_ok (ax_nd_ok (ax_lf_ok (ak_gr fF_X8_27 dX8_init_80)) (ax_lf_ok (ak_iload_n rfl dX8_init_83))) (ax_nd_ok (ax_lf_ok (ak_iconst (by decide) dX8_init_84)) (ax_lf_ok (ak_imul dX8_init_85)))) (ax_nd_ok (ax_nd_ok (ax_lf_ok (ak_iload_n rfl dX8_init_86)) (ax_lf_ok (ak_iadd dX8_init_87))) (ax_nd_ok (ax_lf_ok (ak_new (by decide) rfl ig_X2 tyX2_ok dv_X2 wd_129 wd_180 wd_99 dX8_init_88)) (ax_lf_ok (ak_dup dX8_init_91))))) (ax_nd_ok (ax_nd_ok (ax_nd_ok (ax_lf_ok (ak_iload_n rfl dX8_init_92)) (ax_lf_ok (ak_inva (ak_invI (by decide) (by decide) (by decide) wd_181 wd_182 wd_99 wd_183 rfl ⟨by decide, by decide, by decide +kernel⟩ dX8_init_93)))) (ax_nd_ok (ax_lf_ok (ak_aast (by decide) (by decide) (by decide) rfl (t0 := 4) rfl dX8_init_96)) (ax_lf_ok (ak_iinc (by decide) (by decide) dX8_init_97)))) (ax_nd_ok (ax_nd_ok (ax_lf_ok (ak_goto (by decide) dX8_init_100)) (ax_lf_ok (ak_iinc (by decide) (by decide) dX8_init_103))) (ax_nd_ok (ax_lf_ok (ak_goto (by decide) dX8_init_106)) (ax_lf_ok (ak_vreta (ak_vret rfl dX8_init_109))))))))
abbrev mX8_init (g : ax_G) (as : List Value) (h : ax_H) (Ret : Option Value → ax_H → Prop) : Prop := ax_M g 3 32 1131 yX8_init cX8_init 3 none as h Ret
theorem dX8_append_0 : decode cX8_append 0 = .ok (.bipush 24, 2) := by decide +kernel
theorem dX8_append_2 : decode cX8_append 2 = .ok (.istore_n 2, 1) := by decide +kernel
theorem dX8_append_3 : decode cX8_append 3 = .ok (.iload_n 2, 1) := by decide +kernel
theorem dX8_append_4 : decode cX8_append 4 = .ok (.ifCond .lt 42, 3) := by decide +kernel
theorem dX8_append_7 : decode cX8_append 7 = .ok (.aload_n 0, 1) := by decide +kernel
theorem dX8_append_8 : decode cX8_append 8 = .ok (.getfield 31, 3) := by decide +kernel
theorem dX8_append_11 : decode cX8_append 11 = .ok (.sipush 600, 3) := by decide +kernel
theorem dX8_append_14 : decode cX8_append 14 = .ok (.if_icmp .ge 32, 3) := by decide +kernel
theorem dX8_append_17 : decode cX8_append 17 = .ok (.aload_n 0, 1) := by decide +kernel
theorem dX8_append_18 : decode cX8_append 18 = .ok (.getfield 9, 3) := by decide +kernel
theorem dX8_append_21 : decode cX8_append 21 = .ok (.aload_n 0, 1) := by decide +kernel
theorem dX8_append_22 : decode cX8_append 22 = .ok (.getfield 31, 3) := by decide +kernel
theorem dX8_append_25 : decode cX8_append 25 = .ok (.iload_n 1, 1) := by decide +kernel
theorem dX8_append_26 : decode cX8_append 26 = .ok (.iload_n 2, 1) := by decide +kernel
theorem dX8_append_27 : decode cX8_append 27 = .ok (.ishr, 1) := by decide +kernel
theorem dX8_append_28 : decode cX8_append 28 = .ok (.i2b, 1) := by decide +kernel
theorem dX8_append_29 : decode cX8_append 29 = .ok (.bastore, 1) := by decide +kernel
theorem dX8_append_30 : decode cX8_append 30 = .ok (.aload_n 0, 1) := by decide +kernel
theorem dX8_append_31 : decode cX8_append 31 = .ok (.dup, 1) := by decide +kernel
theorem dX8_append_32 : decode cX8_append 32 = .ok (.getfield 31, 3) := by decide +kernel
theorem dX8_append_35 : decode cX8_append 35 = .ok (.iconst 1, 1) := by decide +kernel
theorem dX8_append_36 : decode cX8_append 36 = .ok (.iadd, 1) := by decide +kernel
theorem dX8_append_37 : decode cX8_append 37 = .ok (.putfield 31, 3) := by decide +kernel
theorem dX8_append_40 : decode cX8_append 40 = .ok (.iinc 2 (-8), 3) := by decide +kernel
theorem dX8_append_43 : decode cX8_append 43 = .ok (.goto (-40), 3) := by decide +kernel
theorem dX8_append_46 : decode cX8_append 46 = .ok (.return_, 1) := by decide +kernel
def tX8_append (g : ax_G) : Nat → ax_O := ax_nd 25 (ax_nd 8 (ax_nd 3 (ax_nd 0 (ax_lf 0 (ao_ic (24) 2)) (ax_nd 2 (ax_lf 2 (ao_is 2 1)) (ax_lf 3 (ao_il 2 1)))) (ax_nd 4 (ax_lf 4 (ao_if_lt 46)) (ax_nd 7 (ax_lf 7 (ao_al 0 1)) (ax_lf 8 (ao_gi 8 4))))) (ax_nd 17 (ax_nd 11 (ax_lf 11 (ao_ic (600) 3)) (ax_nd 14 (ax_lf 14 (ao_icmp_ge 46)) (ax_lf 17 (ao_al 0 1)))) (ax_nd 21 (ax_nd 18 (ax_lf 18 (ao_gr 8 0)) (ax_lf 21 (ao_al 0 1))) (ax_nd 22 (ax_lf 22 (ao_gi 8 4)) (ax_lf 25 (ao_il 1 1)))))) (ax_nd 31 (ax_nd 28 (ax_nd 26 (ax_lf 26 (ao_il 2 1)) (ax_nd 27 (ax_lf 27 ao_ishr) (ax_lf 28 ao_i2b))) (ax_nd 29 (ax_lf 29 ao_bast) (ax_nd 30 (ax_lf 30 (ao_al 0 1)) (ax_lf 31 ao_dup)))) (ax_nd 36 (ax_nd 32 (ax_lf 32 (ao_gi 8 4)) (ax_nd 35 (ax_lf 35 (ao_ic (1) 1)) (ax_lf 36 ao_iadd))) (ax_nd 40 (ax_nd 37 (ax_lf 37 (ao_pi 8 4)) (ax_lf 40 (ao_iinc 2 (-8)))) (ax_nd 43 (ax_lf 43 (ao_goto 3)) (ax_lf 46 (ao_vret 0 0))))))
theorem oX8_append (g : ax_G) : ∀ pc, ax_ok g cX8_append 3 none RX8 "append" 1 0 0 pc (tX8_append g pc) := ax_nd_ok (ax_nd_ok (ax_nd_ok (ax_nd_ok (ax_lf_ok (ak_bipush (by decide) dX8_append_0)) (ax_nd_ok (ax_lf_ok (ak_istore_n rfl (by decide) dX8_append_2)) (ax_lf_ok (ak_iload_n rfl dX8_append_3)))) (ax_nd_ok (ax_lf_ok (ak_if_lt (by decide) dX8_append_4)) (ax_nd_ok (ax_lf_ok (ak_aload_n rfl dX8_append_7)) (ax_lf_ok (ak_gi fF_X8_31 dX8_append_8))))) (ax_nd_ok (ax_nd_ok (ax_lf_ok (ak_sipush (by decide) dX8_append_11)) (ax_nd_ok (ax_lf_ok (ak_icmp_ge (by decide) dX8_append_14)) (ax_lf_ok (ak_aload_n rfl dX8_append_17)))) (ax_nd_ok (ax_nd_ok (ax_lf_ok (ak_gr fF_X8_9 dX8_append_18)) (ax_lf_ok (ak_aload_n rfl dX8_append_21))) (ax_nd_ok (ax_lf_ok (ak_gi fF_X8_31 dX8_append_22)) (ax_lf_ok (ak_iload_n rfl dX8_append_25)))))) (ax_nd_ok (ax_nd_ok (ax_nd_ok (ax_lf_ok (ak_iload_n rfl dX8_append_26)) (ax_nd_ok (ax_lf_ok (ak_ishr dX8_append_27)) (ax_lf_ok (ak_i2b dX8_append_28)))) (ax_nd_ok (ax_lf_ok (ak_bast dX8_append_29)) (ax_nd_ok (ax_lf_ok (ak_aload_n rfl dX8_append_30)) (ax_lf_ok (ak_dup dX8_append_31))))) (ax_nd_ok (ax_nd_ok (ax_lf_ok (ak_gi fF_X8_31 dX8_append_32)) (ax_nd_ok (ax_lf_ok (ak_iconst (by decide) dX8_append_35)) (ax_lf_ok (ak_iadd dX8_append_36)))) (ax_nd_ok (ax_nd_ok (ax_lf_ok (ak_pi fF_X8_31 fW_X8_31_a dX8_append_37)) (ax_lf_ok (ak_iinc (by decide) (by decide) dX8_append_40))) (ax_nd_ok (ax_lf_ok (ak_goto (by decide) dX8_append_43)) (ax_lf_ok (ak_vret rfl dX8_append_46))))))
abbrev mX8_append (g : ax_G) (as : List Value) (h : ax_H) (Ret : Option Value → ax_H → Prop) : Prop := ax_M g 1 0 0 yX8_append cX8_append 3 none as h Ret
theorem dX8_republicAt_0 : decode cX8_republicAt 0 = .ok (.iload_n 1, 1) := by decide +kernel
theorem dX8_republicAt_1 : decode cX8_republicAt 1 = .ok (.ifCond .lt 18, 3) := by decide +kernel
theorem dX8_republicAt_4 : decode cX8_republicAt 4 = .ok (.iload_n 1, 1) := by decide +kernel
theorem dX8_republicAt_5 : decode cX8_republicAt 5 = .ok (.aload_n 0, 1) := by decide +kernel
theorem dX8_republicAt_6 : decode cX8_republicAt 6 = .ok (.getfield 15, 3) := by decide +kernel
theorem dX8_republicAt_9 : decode cX8_republicAt 9 = .ok (.iconst 0, 1) := by decide +kernel
theorem dX8_republicAt_10 : decode cX8_republicAt 10 = .ok (.iaload, 1) := by decide +kernel
theorem dX8_republicAt_11 : decode cX8_republicAt 11 = .ok (.if_icmp .ge 8, 3) := by decide +kernel
theorem dX8_republicAt_14 : decode cX8_republicAt 14 = .ok (.iload_n 1, 1) := by decide +kernel
theorem dX8_republicAt_15 : decode cX8_republicAt 15 = .ok (.iconst 2, 1) := by decide +kernel
theorem dX8_republicAt_16 : decode cX8_republicAt 16 = .ok (.if_icmp .lt 7, 3) := by decide +kernel
theorem dX8_republicAt_19 : decode cX8_republicAt 19 = .ok (.aconst_null, 1) := by decide +kernel
theorem dX8_republicAt_20 : decode cX8_republicAt 20 = .ok (.goto 9, 3) := by decide +kernel
theorem dX8_republicAt_23 : decode cX8_republicAt 23 = .ok (.aload_n 0, 1) := by decide +kernel
theorem dX8_republicAt_24 : decode cX8_republicAt 24 = .ok (.getfield 21, 3) := by decide +kernel
theorem dX8_republicAt_27 : decode cX8_republicAt 27 = .ok (.iload_n 1, 1) := by decide +kernel
theorem dX8_republicAt_28 : decode cX8_republicAt 28 = .ok (.aaload, 1) := by decide +kernel
theorem dX8_republicAt_29 : decode cX8_republicAt 29 = .ok (.areturn, 1) := by decide +kernel
def tX8_republicAt (g : ax_G) : Nat → ax_O := ax_nd 14 (ax_nd 5 (ax_nd 1 (ax_nd 0 (ax_lf 0 (ao_il 1 1)) (ax_lf 1 (ao_if_lt 19))) (ax_nd 4 (ax_lf 4 (ao_il 1 1)) (ax_lf 5 (ao_al 0 1)))) (ax_nd 9 (ax_nd 6 (ax_lf 6 (ao_gr 8 1)) (ax_lf 9 (ao_ic (0) 1))) (ax_nd 10 (ax_lf 10 ao_iald) (ax_nd 11 (ax_lf 11 (ao_icmp_ge 19)) (ax_lf 14 (ao_il 1 1)))))) (ax_nd 20 (ax_nd 16 (ax_nd 15 (ax_lf 15 (ao_ic (2) 1)) (ax_lf 16 (ao_icmp_lt 23))) (ax_nd 19 (ax_lf 19 ao_null) (ax_lf 20 (ao_goto 29)))) (ax_nd 24 (ax_nd 23 (ax_lf 23 (ao_al 0 1)) (ax_lf 24 (ao_gr 8 2))) (ax_nd 27 (ax_lf 27 (ao_il 1 1)) (ax_nd 28 (ax_lf 28 (ao_aaln 17)) (ax_lf 29 (ao_aret 0 0))))))
theorem oX8_republicAt (g : ax_G) : ∀ pc, ax_ok g cX8_republicAt 2 (some (.object "GluedHour$Republic")) RX8 "republicAt" 1 0 0 pc (tX8_republicAt g pc) := ax_nd_ok (ax_nd_ok (ax_nd_ok (ax_nd_ok (ax_lf_ok (ak_iload_n rfl dX8_republicAt_0)) (ax_lf_ok (ak_if_lt (by decide) dX8_republicAt_1))) (ax_nd_ok (ax_lf_ok (ak_iload_n rfl dX8_republicAt_4)) (ax_lf_ok (ak_aload_n rfl dX8_republicAt_5)))) (ax_nd_ok (ax_nd_ok (ax_lf_ok (ak_gr fF_X8_15 dX8_republicAt_6)) (ax_lf_ok (ak_iconst (by decide) dX8_republicAt_9))) (ax_nd_ok (ax_lf_ok (ak_iald dX8_republicAt_10)) (ax_nd_ok (ax_lf_ok (ak_icmp_ge (by decide) dX8_republicAt_11)) (ax_lf_ok (ak_iload_n rfl dX8_republicAt_14)))))) (ax_nd_ok (ax_nd_ok (ax_nd_ok (ax_lf_ok (ak_iconst (by decide) dX8_republicAt_15)) (ax_lf_ok (ak_icmp_lt (by decide) dX8_republicAt_16))) (ax_nd_ok (ax_lf_ok (ak_null dX8_republicAt_19)) (ax_lf_ok (ak_goto (by decide) dX8_republicAt_20)))) (ax_nd_ok (ax_nd_ok (ax_lf_ok (ak_aload_n rfl dX8_republicAt_23)) (ax_lf_ok (ak_gr fF_X8_21 dX8_republicAt_24))) (ax_nd_ok (ax_lf_ok (ak_iload_n rfl dX8_republicAt_27)) (ax_nd_ok (ax_lf_ok (ak_aaln (by decide) (by decide) (t0 := 6) rfl dX8_republicAt_28)) (ax_lf_ok (ak_aret rfl (Or.inl ⟨_, rfl⟩) dX8_republicAt_29))))))
abbrev mX8_republicAt (g : ax_G) (as : List Value) (h : ax_H) (Ret : Option Value → ax_H → Prop) : Prop := ax_M g 1 0 0 yX8_republicAt cX8_republicAt 2 (some (.object "GluedHour$Republic")) as h Ret
theorem dX8_linesAt_0 : decode cX8_linesAt 0 = .ok (.iload_n 1, 1) := by decide +kernel
theorem dX8_linesAt_1 : decode cX8_linesAt 1 = .ok (.iconst 1, 1) := by decide +kernel
theorem dX8_linesAt_2 : decode cX8_linesAt 2 = .ok (.if_icmp .lt 27, 3) := by decide +kernel
theorem dX8_linesAt_5 : decode cX8_linesAt 5 = .ok (.iload_n 1, 1) := by decide +kernel
theorem dX8_linesAt_6 : decode cX8_linesAt 6 = .ok (.iconst 5, 1) := by decide +kernel
theorem dX8_linesAt_7 : decode cX8_linesAt 7 = .ok (.if_icmp .ge 22, 3) := by decide +kernel
theorem dX8_linesAt_10 : decode cX8_linesAt 10 = .ok (.iload_n 2, 1) := by decide +kernel
theorem dX8_linesAt_11 : decode cX8_linesAt 11 = .ok (.ifCond .lt 18, 3) := by decide +kernel
theorem dX8_linesAt_14 : decode cX8_linesAt 14 = .ok (.iload_n 2, 1) := by decide +kernel
theorem dX8_linesAt_15 : decode cX8_linesAt 15 = .ok (.aload_n 0, 1) := by decide +kernel
theorem dX8_linesAt_16 : decode cX8_linesAt 16 = .ok (.getfield 15, 3) := by decide +kernel
theorem dX8_linesAt_19 : decode cX8_linesAt 19 = .ok (.iload_n 1, 1) := by decide +kernel
theorem dX8_linesAt_20 : decode cX8_linesAt 20 = .ok (.iaload, 1) := by decide +kernel
theorem dX8_linesAt_21 : decode cX8_linesAt 21 = .ok (.if_icmp .ge 8, 3) := by decide +kernel
theorem dX8_linesAt_24 : decode cX8_linesAt 24 = .ok (.iload_n 2, 1) := by decide +kernel
theorem dX8_linesAt_25 : decode cX8_linesAt 25 = .ok (.iconst 2, 1) := by decide +kernel
theorem dX8_linesAt_26 : decode cX8_linesAt 26 = .ok (.if_icmp .lt 5, 3) := by decide +kernel
theorem dX8_linesAt_29 : decode cX8_linesAt 29 = .ok (.aconst_null, 1) := by decide +kernel
theorem dX8_linesAt_30 : decode cX8_linesAt 30 = .ok (.areturn, 1) := by decide +kernel
theorem dX8_linesAt_31 : decode cX8_linesAt 31 = .ok (.aload_n 0, 1) := by decide +kernel
theorem dX8_linesAt_32 : decode cX8_linesAt 32 = .ok (.getfield 27, 3) := by decide +kernel
theorem dX8_linesAt_35 : decode cX8_linesAt 35 = .ok (.iload_n 1, 1) := by decide +kernel
theorem dX8_linesAt_36 : decode cX8_linesAt 36 = .ok (.iconst 2, 1) := by decide +kernel
theorem dX8_linesAt_37 : decode cX8_linesAt 37 = .ok (.imul, 1) := by decide +kernel
theorem dX8_linesAt_38 : decode cX8_linesAt 38 = .ok (.iload_n 2, 1) := by decide +kernel
theorem dX8_linesAt_39 : decode cX8_linesAt 39 = .ok (.iadd, 1) := by decide +kernel
theorem dX8_linesAt_40 : decode cX8_linesAt 40 = .ok (.aaload, 1) := by decide +kernel
theorem dX8_linesAt_41 : decode cX8_linesAt 41 = .ok (.areturn, 1) := by decide +kernel
def tX8_linesAt (g : ax_G) : Nat → ax_O := ax_nd 21 (ax_nd 10 (ax_nd 2 (ax_nd 0 (ax_lf 0 (ao_il 1 1)) (ax_nd 1 (ax_lf 1 (ao_ic (1) 1)) (ax_lf 2 (ao_icmp_lt 29)))) (ax_nd 6 (ax_nd 5 (ax_lf 5 (ao_il 1 1)) (ax_lf 6 (ao_ic (5) 1))) (ax_nd 7 (ax_lf 7 (ao_icmp_ge 29)) (ax_lf 10 (ao_il 2 1))))) (ax_nd 15 (ax_nd 11 (ax_lf 11 (ao_if_lt 29)) (ax_nd 14 (ax_lf 14 (ao_il 2 1)) (ax_lf 15 (ao_al 0 1)))) (ax_nd 19 (ax_nd 16 (ax_lf 16 (ao_gr 8 1)) (ax_lf 19 (ao_il 1 1))) (ax_nd 20 (ax_lf 20 ao_iald) (ax_lf 21 (ao_icmp_ge 29)))))) (ax_nd 32 (ax_nd 26 (ax_nd 24 (ax_lf 24 (ao_il 2 1)) (ax_nd 25 (ax_lf 25 (ao_ic (2) 1)) (ax_lf 26 (ao_icmp_lt 31)))) (ax_nd 30 (ax_nd 29 (ax_lf 29 ao_null) (ax_lf 30 (ao_aret 0 0))) (ax_nd 31 (ax_lf 31 (ao_al 0 1)) (ax_lf 32 (ao_gr 8 3))))) (ax_nd 37 (ax_nd 35 (ax_lf 35 (ao_il 1 1)) (ax_nd 36 (ax_lf 36 (ao_ic (2) 1)) (ax_lf 37 ao_imul))) (ax_nd 39 (ax_nd 38 (ax_lf 38 (ao_il 2 1)) (ax_lf 39 ao_iadd)) (ax_nd 40 (ax_lf 40 (ao_aaln 15)) (ax_lf 41 (ao_aret 0 0))))))
theorem oX8_linesAt (g : ax_G) : ∀ pc, ax_ok g cX8_linesAt 3 (some (.object "GluedHour$Lines")) RX8 "linesAt" 1 0 0 pc (tX8_linesAt g pc) := ax_nd_ok (ax_nd_ok (ax_nd_ok (ax_nd_ok (ax_lf_ok (ak_iload_n rfl dX8_linesAt_0)) (ax_nd_ok (ax_lf_ok (ak_iconst (by decide) dX8_linesAt_1)) (ax_lf_ok (ak_icmp_lt (by decide) dX8_linesAt_2)))) (ax_nd_ok (ax_nd_ok (ax_lf_ok (ak_iload_n rfl dX8_linesAt_5)) (ax_lf_ok (ak_iconst (by decide) dX8_linesAt_6))) (ax_nd_ok (ax_lf_ok (ak_icmp_ge (by decide) dX8_linesAt_7)) (ax_lf_ok (ak_iload_n rfl dX8_linesAt_10))))) (ax_nd_ok (ax_nd_ok (ax_lf_ok (ak_if_lt (by decide) dX8_linesAt_11)) (ax_nd_ok (ax_lf_ok (ak_iload_n rfl dX8_linesAt_14)) (ax_lf_ok (ak_aload_n rfl dX8_linesAt_15)))) (ax_nd_ok (ax_nd_ok (ax_lf_ok (ak_gr fF_X8_15 dX8_linesAt_16)) (ax_lf_ok (ak_iload_n rfl dX8_linesAt_19))) (ax_nd_ok (ax_lf_ok (ak_iald dX8_linesAt_20)) (ax_lf_ok (ak_icmp_ge (by decide) dX8_linesAt_21)))))) (ax_nd_ok (ax_nd_ok (ax_nd_ok (ax_lf_ok (ak_iload_n rfl dX8_linesAt_24)) (ax_nd_ok (ax_lf_ok (ak_iconst (by decide) dX8_linesAt_25)) (ax_lf_ok (ak_icmp_lt (by decide) dX8_linesAt_26)))) (ax_nd_ok (ax_nd_ok (ax_lf_ok (ak_null dX8_linesAt_29)) (ax_lf_ok (ak_aret rfl (Or.inl ⟨_, rfl⟩) dX8_linesAt_30))) (ax_nd_ok (ax_lf_ok (ak_aload_n rfl dX8_linesAt_31)) (ax_lf_ok (ak_gr fF_X8_27 dX8_linesAt_32))))) (ax_nd_ok (ax_nd_ok (ax_lf_ok (ak_iload_n rfl dX8_linesAt_35)) (ax_nd_ok (ax_lf_ok (ak_iconst (by decide) dX8_linesAt_36)) (ax_lf_ok (ak_imul dX8_linesAt_37)))) (ax_nd_ok (ax_nd_ok (ax_lf_ok (ak_iload_n rfl dX8_linesAt_38)) (ax_lf_ok (ak_iadd dX8_linesAt_39))) (ax_nd_ok (ax_lf_ok (ak_aaln (by decide) (by decide) (t0 := 4) rfl dX8_linesAt_40)) (ax_lf_ok (ak_aret rfl (Or.inl ⟨_, rfl⟩) dX8_linesAt_41))))))
abbrev mX8_linesAt (g : ax_G) (as : List Value) (h : ax_H) (Ret : Option Value → ax_H → Prop) : Prop := ax_M g 1 0 0 yX8_linesAt cX8_linesAt 3 (some (.object "GluedHour$Lines")) as h Ret
theorem dX8_lineCell_0 : decode cX8_lineCell 0 = .ok (.aload_n 0, 1) := by decide +kernel
theorem dX8_lineCell_1 : decode cX8_lineCell 1 = .ok (.iload_n 1, 1) := by decide +kernel
theorem dX8_lineCell_2 : decode cX8_lineCell 2 = .ok (.iload_n 2, 1) := by decide +kernel
theorem dX8_lineCell_3 : decode cX8_lineCell 3 = .ok (.invokevirtual 45, 3) := by decide +kernel
theorem dX8_lineCell_6 : decode cX8_lineCell 6 = .ok (.astore 6, 2) := by decide +kernel
theorem dX8_lineCell_8 : decode cX8_lineCell 8 = .ok (.aload 6, 2) := by decide +kernel
theorem dX8_lineCell_10 : decode cX8_lineCell 10 = .ok (.ifnonnull 6, 3) := by decide +kernel
theorem dX8_lineCell_13 : decode cX8_lineCell 13 = .ok (.iload 5, 2) := by decide +kernel
theorem dX8_lineCell_15 : decode cX8_lineCell 15 = .ok (.ireturn, 1) := by decide +kernel
theorem dX8_lineCell_16 : decode cX8_lineCell 16 = .ok (.iload_n 3, 1) := by decide +kernel
theorem dX8_lineCell_17 : decode cX8_lineCell 17 = .ok (.iconst (-1), 1) := by decide +kernel
theorem dX8_lineCell_18 : decode cX8_lineCell 18 = .ok (.if_icmp .ne 14, 3) := by decide +kernel
theorem dX8_lineCell_21 : decode cX8_lineCell 21 = .ok (.iload 4, 2) := by decide +kernel
theorem dX8_lineCell_23 : decode cX8_lineCell 23 = .ok (.ifCond .ne 9, 3) := by decide +kernel
theorem dX8_lineCell_26 : decode cX8_lineCell 26 = .ok (.aload 6, 2) := by decide +kernel
theorem dX8_lineCell_28 : decode cX8_lineCell 28 = .ok (.getfield 49, 3) := by decide +kernel
theorem dX8_lineCell_31 : decode cX8_lineCell 31 = .ok (.ireturn, 1) := by decide +kernel
theorem dX8_lineCell_32 : decode cX8_lineCell 32 = .ok (.aload 6, 2) := by decide +kernel
theorem dX8_lineCell_34 : decode cX8_lineCell 34 = .ok (.iload_n 3, 1) := by decide +kernel
theorem dX8_lineCell_35 : decode cX8_lineCell 35 = .ok (.invokevirtual 52, 3) := by decide +kernel
theorem dX8_lineCell_38 : decode cX8_lineCell 38 = .ok (.ifCond .eq 29, 3) := by decide +kernel
theorem dX8_lineCell_41 : decode cX8_lineCell 41 = .ok (.iload 4, 2) := by decide +kernel
theorem dX8_lineCell_43 : decode cX8_lineCell 43 = .ok (.ifCond .lt 24, 3) := by decide +kernel
theorem dX8_lineCell_46 : decode cX8_lineCell 46 = .ok (.iload 4, 2) := by decide +kernel
theorem dX8_lineCell_48 : decode cX8_lineCell 48 = .ok (.aload 6, 2) := by decide +kernel
theorem dX8_lineCell_50 : decode cX8_lineCell 50 = .ok (.getfield 56, 3) := by decide +kernel
theorem dX8_lineCell_53 : decode cX8_lineCell 53 = .ok (.if_icmp .ge 14, 3) := by decide +kernel
theorem dX8_lineCell_56 : decode cX8_lineCell 56 = .ok (.aload 6, 2) := by decide +kernel
theorem dX8_lineCell_58 : decode cX8_lineCell 58 = .ok (.iload_n 3, 1) := by decide +kernel
theorem dX8_lineCell_59 : decode cX8_lineCell 59 = .ok (.iload 4, 2) := by decide +kernel
theorem dX8_lineCell_61 : decode cX8_lineCell 61 = .ok (.invokevirtual 59, 3) := by decide +kernel
theorem dX8_lineCell_64 : decode cX8_lineCell 64 = .ok (.goto 5, 3) := by decide +kernel
theorem dX8_lineCell_67 : decode cX8_lineCell 67 = .ok (.iload 5, 2) := by decide +kernel
theorem dX8_lineCell_69 : decode cX8_lineCell 69 = .ok (.ireturn, 1) := by decide +kernel
def tX8_lineCell (g : ax_G) : Nat → ax_O := ax_nd 31 (ax_nd 13 (ax_nd 3 (ax_nd 1 (ax_nd 0 (ax_lf 0 (ao_al 0 1)) (ax_lf 1 (ao_il 1 1))) (ax_nd 2 (ax_lf 2 (ao_il 2 1)) (ax_lf 3 (ao_inv g 1 8 3 yX8_linesAt cX8_linesAt 3 (some (.object "GluedHour$Lines")) 3 0 0 0 0)))) (ax_nd 8 (ax_nd 6 (ax_lf 6 (ao_as 6 2)) (ax_lf 8 (ao_al 6 2))) (ax_nd 10 (ax_lf 10 (ao_ifnonnull 16)) (ax_lf 13 (ao_il 5 2))))) (ax_nd 18 (ax_nd 16 (ax_nd 15 (ax_lf 15 (ao_iret 0 0)) (ax_lf 16 (ao_il 3 1))) (ax_nd 17 (ax_lf 17 (ao_ic (-1) 1)) (ax_lf 18 (ao_icmp_ne 32)))) (ax_nd 23 (ax_nd 21 (ax_lf 21 (ao_il 4 2)) (ax_lf 23 (ao_if_ne 32))) (ax_nd 26 (ax_lf 26 (ao_al 6 2)) (ax_nd 28 (ax_lf 28 (ao_gi 2 3)) (ax_lf 31 (ao_iret 0 0))))))) (ax_nd 48 (ax_nd 38 (ax_nd 34 (ax_nd 32 (ax_lf 32 (ao_al 6 2)) (ax_lf 34 (ao_il 3 1))) (ax_nd 35 (ax_lf 35 (ao_inv g 1 2 1 yX2_has cX2_has 2 (some .boolean) 2 0 0 0 0)) (ax_lf 38 (ao_if_eq 67)))) (ax_nd 43 (ax_nd 41 (ax_lf 41 (ao_il 4 2)) (ax_lf 43 (ao_if_lt 67))) (ax_nd 46 (ax_lf 46 (ao_il 4 2)) (ax_lf 48 (ao_al 6 2))))) (ax_nd 58 (ax_nd 53 (ax_nd 50 (ax_lf 50 (ao_gi 2 1)) (ax_lf 53 (ao_icmp_ge 67))) (ax_nd 56 (ax_lf 56 (ao_al 6 2)) (ax_lf 58 (ao_il 3 1)))) (ax_nd 61 (ax_nd 59 (ax_lf 59 (ao_il 4 2)) (ax_lf 61 (ao_inv g 2 2 1 yX2_cell cX2_cell 3 (some .int) 3 0 0 0 0))) (ax_nd 64 (ax_lf 64 (ao_goto 69)) (ax_nd 67 (ax_lf 67 (ao_il 5 2)) (ax_lf 69 (ao_iret 0 0)))))))
theorem oX8_lineCell (g : ax_G) : ∀ pc, ax_ok g cX8_lineCell 7 (some .int) RX8 "lineCell" 3 0 0 pc (tX8_lineCell g pc) := ax_nd_ok (ax_nd_ok (ax_nd_ok (ax_nd_ok (ax_nd_ok (ax_lf_ok (ak_aload_n rfl dX8_lineCell_0)) (ax_lf_ok (ak_iload_n rfl dX8_lineCell_1))) (ax_nd_ok (ax_lf_ok (ak_iload_n rfl dX8_lineCell_2)) (ax_lf_ok (ak_invV (by decide) (by decide) (by decide) rfl wd_846 wd_746 wd_747 wd_97 wd_748 ⟨by decide, by decide, by decide +kernel⟩ dX8_lineCell_3)))) (ax_nd_ok (ax_nd_ok (ax_lf_ok (ak_astore (by decide) dX8_lineCell_6)) (ax_lf_ok (ak_aload dX8_lineCell_8))) (ax_nd_ok (ax_lf_ok (ak_ifnonnull (by decide) dX8_lineCell_10)) (ax_lf_ok (ak_iload dX8_lineCell_13))))) (ax_nd_ok (ax_nd_ok (ax_nd_ok (ax_lf_ok (ak_iret rfl dX8_lineCell_15)) (ax_lf_ok (ak_iload_n rfl dX8_lineCell_16))) (ax_nd_ok (ax_lf_ok (ak_iconst (by decide) dX8_lineCell_17)) (ax_lf_ok (ak_icmp_ne (by decide) dX8_lineCell_18)))) (ax_nd_ok (ax_nd_ok (ax_lf_ok (ak_iload dX8_lineCell_21)) (ax_lf_ok (ak_if_ne (by decide) dX8_lineCell_23))) (ax_nd_ok (ax_lf_ok (ak_aload dX8_lineCell_26)) (ax_nd_ok (ax_lf_ok (ak_gi fF_X8_49 dX8_lineCell_28)) (ax_lf_ok (ak_iret rfl dX8_lineCell_31))))))) (ax_nd_ok (ax_nd_ok (ax_nd_ok (ax_nd_ok (ax_lf_ok (ak_aload dX8_lineCell_32)) (ax_lf_ok (ak_iload_n rfl dX8_lineCell_34))) (ax_nd_ok (ax_lf_ok (ak_invV (by decide) (by decide) (by decide) rfl wd_847 wd_750 wd_751 wd_99 wd_752 ⟨by decide, by decide, by decide +kernel⟩ dX8_lineCell_35)) (ax_lf_ok (ak_if_eq (by decide) dX8_lineCell_38)))) (ax_nd_ok (ax_nd_ok (ax_lf_ok (ak_iload dX8_lineCell_41)) (ax_lf_ok (ak_if_lt (by decide) dX8_lineCell_43))) (ax_nd_ok (ax_lf_ok (ak_iload dX8_lineCell_46)) (ax_lf_ok (ak_aload dX8_lineCell_48))))) (ax_nd_ok (ax_nd_ok (ax_nd_ok (ax_lf_ok (ak_gi fF_X8_56 dX8_lineCell_50)) (ax_lf_ok (ak_icmp_ge (by decide) dX8_lineCell_53))) (ax_nd_ok (ax_lf_ok (ak_aload dX8_lineCell_56)) (ax_lf_ok (ak_iload_n rfl dX8_lineCell_58)))) (ax_nd_ok (ax_nd_ok (ax_lf_ok (ak_iload dX8_lineCell_59)) (ax_lf_ok (ak_invV (by decide) (by decide) (by decide) rfl wd_848 wd_754 wd_755 wd_99 wd_756 ⟨by decide, by decide, by decide +kernel⟩ dX8_lineCell_61))) (ax_nd_ok (ax_lf_ok (ak_goto (by decide) dX8_lineCell_64)) (ax_nd_ok (ax_lf_ok (ak_iload dX8_lineCell_67)) (ax_lf_ok (ak_iret rfl dX8_lineCell_69)))))))
abbrev mX8_lineCell (g : ax_G) (as : List Value) (h : ax_H) (Ret : Option Value → ax_H → Prop) : Prop := ax_M g 3 0 0 yX8_lineCell cX8_lineCell 7 (some .int) as h Ret
theorem dX8_take_0 : decode cX8_take 0 = .ok (.iload_n 2, 1) := by decide +kernel
theorem dX8_take_1 : decode cX8_take 1 = .ok (.ifCond .lt 17, 3) := by decide +kernel
theorem dX8_take_4 : decode cX8_take 4 = .ok (.iload_n 2, 1) := by decide +kernel
theorem dX8_take_5 : decode cX8_take 5 = .ok (.iconst 5, 1) := by decide +kernel
theorem dX8_take_6 : decode cX8_take 6 = .ok (.if_icmp .ge 12, 3) := by decide +kernel
theorem dX8_take_9 : decode cX8_take 9 = .ok (.iload_n 3, 1) := by decide +kernel
theorem dX8_take_10 : decode cX8_take 10 = .ok (.ifCond .lt 8, 3) := by decide +kernel
theorem dX8_take_13 : decode cX8_take 13 = .ok (.iload_n 3, 1) := by decide +kernel
theorem dX8_take_14 : decode cX8_take 14 = .ok (.iconst 2, 1) := by decide +kernel
theorem dX8_take_15 : decode cX8_take 15 = .ok (.if_icmp .lt 4, 3) := by decide +kernel
theorem dX8_take_18 : decode cX8_take 18 = .ok (.return_, 1) := by decide +kernel
theorem dX8_take_19 : decode cX8_take 19 = .ok (.aload_n 0, 1) := by decide +kernel
theorem dX8_take_20 : decode cX8_take 20 = .ok (.getfield 15, 3) := by decide +kernel
theorem dX8_take_23 : decode cX8_take 23 = .ok (.iload_n 2, 1) := by decide +kernel
theorem dX8_take_24 : decode cX8_take 24 = .ok (.aload_n 0, 1) := by decide +kernel
theorem dX8_take_25 : decode cX8_take 25 = .ok (.getfield 15, 3) := by decide +kernel
theorem dX8_take_28 : decode cX8_take 28 = .ok (.iload_n 2, 1) := by decide +kernel
theorem dX8_take_29 : decode cX8_take 29 = .ok (.iaload, 1) := by decide +kernel
theorem dX8_take_30 : decode cX8_take 30 = .ok (.iload_n 3, 1) := by decide +kernel
theorem dX8_take_31 : decode cX8_take 31 = .ok (.iconst 1, 1) := by decide +kernel
theorem dX8_take_32 : decode cX8_take 32 = .ok (.iadd, 1) := by decide +kernel
theorem dX8_take_33 : decode cX8_take 33 = .ok (.invokestatic 63, 3) := by decide +kernel
theorem dX8_take_36 : decode cX8_take 36 = .ok (.iastore, 1) := by decide +kernel
theorem dX8_take_37 : decode cX8_take 37 = .ok (.iload_n 2, 1) := by decide +kernel
theorem dX8_take_38 : decode cX8_take 38 = .ok (.ifCond .ne 19, 3) := by decide +kernel
theorem dX8_take_41 : decode cX8_take 41 = .ok (.aload_n 1, 1) := by decide +kernel
theorem dX8_take_42 : decode cX8_take 42 = .ok (.getfield 68, 3) := by decide +kernel
theorem dX8_take_45 : decode cX8_take 45 = .ok (.aload_n 0, 1) := by decide +kernel
theorem dX8_take_46 : decode cX8_take 46 = .ok (.getfield 21, 3) := by decide +kernel
theorem dX8_take_49 : decode cX8_take 49 = .ok (.iload_n 3, 1) := by decide +kernel
theorem dX8_take_50 : decode cX8_take 50 = .ok (.aaload, 1) := by decide +kernel
theorem dX8_take_51 : decode cX8_take 51 = .ok (.invokestatic 74, 3) := by decide +kernel
theorem dX8_take_54 : decode cX8_take 54 = .ok (.goto 22, 3) := by decide +kernel
theorem dX8_take_57 : decode cX8_take 57 = .ok (.aload_n 1, 1) := by decide +kernel
theorem dX8_take_58 : decode cX8_take 58 = .ok (.getfield 78, 3) := by decide +kernel
theorem dX8_take_61 : decode cX8_take 61 = .ok (.iload_n 2, 1) := by decide +kernel
theorem dX8_take_62 : decode cX8_take 62 = .ok (.aaload, 1) := by decide +kernel
theorem dX8_take_63 : decode cX8_take 63 = .ok (.aload_n 0, 1) := by decide +kernel
theorem dX8_take_64 : decode cX8_take 64 = .ok (.getfield 27, 3) := by decide +kernel
theorem dX8_take_67 : decode cX8_take 67 = .ok (.iload_n 2, 1) := by decide +kernel
theorem dX8_take_68 : decode cX8_take 68 = .ok (.iconst 2, 1) := by decide +kernel
theorem dX8_take_69 : decode cX8_take 69 = .ok (.imul, 1) := by decide +kernel
theorem dX8_take_70 : decode cX8_take 70 = .ok (.iload_n 3, 1) := by decide +kernel
theorem dX8_take_71 : decode cX8_take 71 = .ok (.iadd, 1) := by decide +kernel
theorem dX8_take_72 : decode cX8_take 72 = .ok (.aaload, 1) := by decide +kernel
theorem dX8_take_73 : decode cX8_take 73 = .ok (.invokestatic 81, 3) := by decide +kernel
theorem dX8_take_76 : decode cX8_take 76 = .ok (.return_, 1) := by decide +kernel
def tX8_take (g : ax_G) : Nat → ax_O := ax_nd 36 (ax_nd 18 (ax_nd 6 (ax_nd 1 (ax_nd 0 (ax_lf 0 (ao_il 2 1)) (ax_lf 1 (ao_if_lt 18))) (ax_nd 4 (ax_lf 4 (ao_il 2 1)) (ax_nd 5 (ax_lf 5 (ao_ic (5) 1)) (ax_lf 6 (ao_icmp_ge 18))))) (ax_nd 13 (ax_nd 9 (ax_lf 9 (ao_il 3 1)) (ax_nd 10 (ax_lf 10 (ao_if_lt 18)) (ax_lf 13 (ao_il 3 1)))) (ax_nd 14 (ax_lf 14 (ao_ic (2) 1)) (ax_nd 15 (ax_lf 15 (ao_icmp_lt 19)) (ax_lf 18 (ao_vret 0 0)))))) (ax_nd 28 (ax_nd 23 (ax_nd 19 (ax_lf 19 (ao_al 0 1)) (ax_nd 20 (ax_lf 20 (ao_gr 8 1)) (ax_lf 23 (ao_il 2 1)))) (ax_nd 24 (ax_lf 24 (ao_al 0 1)) (ax_nd 25 (ax_lf 25 (ao_gr 8 1)) (ax_lf 28 (ao_il 2 1))))) (ax_nd 31 (ax_nd 29 (ax_lf 29 ao_iald) (ax_nd 30 (ax_lf 30 (ao_il 3 1)) (ax_lf 31 (ao_ic (1) 1)))) (ax_nd 32 (ax_lf 32 ao_iadd) (ax_nd 33 (ax_lf 33 ao_imax) (ax_lf 36 ao_iast)))))) (ax_nd 58 (ax_nd 46 (ax_nd 41 (ax_nd 37 (ax_lf 37 (ao_il 2 1)) (ax_nd 38 (ax_lf 38 (ao_if_ne 57)) (ax_lf 41 (ao_al 1 1)))) (ax_nd 42 (ax_lf 42 (ao_gr 5 1)) (ax_nd 45 (ax_lf 45 (ao_al 0 1)) (ax_lf 46 (ao_gr 8 2))))) (ax_nd 51 (ax_nd 49 (ax_lf 49 (ao_il 3 1)) (ax_nd 50 (ax_lf 50 (ao_aaln 17)) (ax_lf 51 (ao_inv g 3 99 0 yX8_copyRepublic cX8_copyRepublic 2 none 2 0 0 0 0)))) (ax_nd 54 (ax_lf 54 (ao_goto 76)) (ax_nd 57 (ax_lf 57 (ao_al 1 1)) (ax_lf 58 (ao_gr 5 2)))))) (ax_nd 68 (ax_nd 63 (ax_nd 61 (ax_lf 61 (ao_il 2 1)) (ax_nd 62 (ax_lf 62 (ao_aaln 15)) (ax_lf 63 (ao_al 0 1)))) (ax_nd 64 (ax_lf 64 (ao_gr 8 3)) (ax_nd 67 (ax_lf 67 (ao_il 2 1)) (ax_lf 68 (ao_ic (2) 1))))) (ax_nd 71 (ax_nd 69 (ax_lf 69 ao_imul) (ax_nd 70 (ax_lf 70 (ao_il 3 1)) (ax_lf 71 ao_iadd))) (ax_nd 72 (ax_lf 72 (ao_aaln 15)) (ax_nd 73 (ax_lf 73 (ao_inv g 3 99 0 yX8_copyLines cX8_copyLines 2 none 2 0 0 0 0)) (ax_lf 76 (ao_vret 0 0)))))))
theorem oX8_take (g : ax_G) : ∀ pc, ax_ok g cX8_take 4 none RX8 "take" 4 0 0 pc (tX8_take g pc) := ax_nd_ok (ax_nd_ok (ax_nd_ok (ax_nd_ok (ax_nd_ok (ax_lf_ok (ak_iload_n rfl dX8_take_0)) (ax_lf_ok (ak_if_lt (by decide) dX8_take_1))) (ax_nd_ok (ax_lf_ok (ak_iload_n rfl dX8_take_4)) (ax_nd_ok (ax_lf_ok (ak_iconst (by decide) dX8_take_5)) (ax_lf_ok (ak_icmp_ge (by decide) dX8_take_6))))) (ax_nd_ok (ax_nd_ok (ax_lf_ok (ak_iload_n rfl dX8_take_9)) (ax_nd_ok (ax_lf_ok (ak_if_lt (by decide) dX8_take_10)) (ax_lf_ok (ak_iload_n rfl dX8_take_13)))) (ax_nd_ok (ax_lf_ok (ak_iconst (by decide) dX8_take_14)) (ax_nd_ok (ax_lf_ok (ak_icmp_lt (by decide) dX8_take_15)) (ax_lf_ok (ak_vret rfl dX8_take_18)))))) (ax_nd_ok (ax_nd_ok (ax_nd_ok (ax_lf_ok (ak_aload_n rfl dX8_take_19)) (ax_nd_ok (ax_lf_ok (ak_gr fF_X8_15 dX8_take_20)) (ax_lf_ok (ak_iload_n rfl dX8_take_23)))) (ax_nd_ok (ax_lf_ok (ak_aload_n rfl dX8_take_24)) (ax_nd_ok (ax_lf_ok (ak_gr fF_X8_15 dX8_take_25)) (ax_lf_ok (ak_iload_n rfl dX8_take_28))))) (ax_nd_ok (ax_nd_ok (ax_lf_ok (ak_iald dX8_take_29)) (ax_nd_ok (ax_lf_ok (ak_iload_n rfl dX8_take_30)) (ax_lf_ok (ak_iconst (by decide) dX8_take_31)))) (ax_nd_ok (ax_lf_ok (ak_iadd dX8_take_32)) (ax_nd_ok (ax_lf_ok (ak_imax (by decide) wd_621 wd_475 wd_107 wd_476 dX8_take_33)) (ax_lf_ok (ak_iast dX8_take_36))))))) (ax_nd_ok (ax_nd_ok (ax_nd_ok (ax_nd_ok (ax_lf_ok (ak_iload_n rfl dX8_take_37)) (ax_nd_ok (ax_lf_ok (ak_if_ne (by decide) dX8_take_38)) (ax_lf_ok (ak_aload_n rfl dX8_take_41)))) (ax_nd_ok (ax_lf_ok (ak_gr fF_X8_68 dX8_take_42)) (ax_nd_ok (ax_lf_ok (ak_aload_n rfl dX8_take_45)) (ax_lf_ok (ak_gr fF_X8_21 dX8_take_46))))) (ax_nd_ok (ax_nd_ok (ax_lf_ok (ak_iload_n rfl dX8_take_49)) (ax_nd_ok (ax_lf_ok (ak_aaln (by decide) (by decide) (t0 := 6) rfl dX8_take_50)) (ax_lf_ok (ak_invS (by decide) (by decide) wd_622 wd_623 wd_97 wd_624 ⟨by decide, by decide, by decide +kernel⟩ dX8_take_51)))) (ax_nd_ok (ax_lf_ok (ak_goto (by decide) dX8_take_54)) (ax_nd_ok (ax_lf_ok (ak_aload_n rfl dX8_take_57)) (ax_lf_ok (ak_gr fF_X8_78 dX8_take_58)))))) (ax_nd_ok (ax_nd_ok (ax_nd_ok (ax_lf_ok (ak_iload_n rfl dX8_take_61)) (ax_nd_ok (ax_lf_ok (ak_aaln (by decide) (by decide) (t0 := 4) rfl dX8_take_62)) (ax_lf_ok (ak_aload_n rfl dX8_take_63)))) (ax_nd_ok (ax_lf_ok (ak_gr fF_X8_27 dX8_take_64)) (ax_nd_ok (ax_lf_ok (ak_iload_n rfl dX8_take_67)) (ax_lf_ok (ak_iconst (by decide) dX8_take_68))))) (ax_nd_ok (ax_nd_ok (ax_lf_ok (ak_imul dX8_take_69)) (ax_nd_ok (ax_lf_ok (ak_iload_n rfl dX8_take_70)) (ax_lf_ok (ak_iadd dX8_take_71)))) (ax_nd_ok (ax_lf_ok (ak_aaln (by decide) (by decide) (t0 := 4) rfl dX8_take_72)) (ax_nd_ok (ax_lf_ok (ak_invS (by decide) (by decide) wd_630 wd_631 wd_97 wd_632 ⟨by decide, by decide, by decide +kernel⟩ dX8_take_73)) (ax_lf_ok (ak_vret rfl dX8_take_76)))))))
abbrev mX8_take (g : ax_G) (as : List Value) (h : ax_H) (Ret : Option Value → ax_H → Prop) : Prop := ax_M g 4 0 0 yX8_take cX8_take 4 none as h Ret
theorem dX8_copy_0 : decode cX8_copy 0 = .ok (.aload_n 1, 1) := by decide +kernel
theorem dX8_copy_1 : decode cX8_copy 1 = .ok (.getfield 9, 3) := by decide +kernel
theorem dX8_copy_4 : decode cX8_copy 4 = .ok (.iconst 0, 1) := by decide +kernel
theorem dX8_copy_5 : decode cX8_copy 5 = .ok (.aload_n 0, 1) := by decide +kernel
theorem dX8_copy_6 : decode cX8_copy 6 = .ok (.getfield 9, 3) := by decide +kernel
theorem dX8_copy_9 : decode cX8_copy 9 = .ok (.iconst 0, 1) := by decide +kernel
theorem dX8_copy_10 : decode cX8_copy 10 = .ok (.sipush 600, 3) := by decide +kernel
theorem dX8_copy_13 : decode cX8_copy 13 = .ok (.invokestatic 85, 3) := by decide +kernel
theorem dX8_copy_16 : decode cX8_copy 16 = .ok (.aload_n 1, 1) := by decide +kernel
theorem dX8_copy_17 : decode cX8_copy 17 = .ok (.getfield 15, 3) := by decide +kernel
theorem dX8_copy_20 : decode cX8_copy 20 = .ok (.iconst 0, 1) := by decide +kernel
theorem dX8_copy_21 : decode cX8_copy 21 = .ok (.aload_n 0, 1) := by decide +kernel
theorem dX8_copy_22 : decode cX8_copy 22 = .ok (.getfield 15, 3) := by decide +kernel
theorem dX8_copy_25 : decode cX8_copy 25 = .ok (.iconst 0, 1) := by decide +kernel
theorem dX8_copy_26 : decode cX8_copy 26 = .ok (.iconst 5, 1) := by decide +kernel
theorem dX8_copy_27 : decode cX8_copy 27 = .ok (.invokestatic 85, 3) := by decide +kernel
theorem dX8_copy_30 : decode cX8_copy 30 = .ok (.iconst 0, 1) := by decide +kernel
theorem dX8_copy_31 : decode cX8_copy 31 = .ok (.istore_n 2, 1) := by decide +kernel
theorem dX8_copy_32 : decode cX8_copy 32 = .ok (.iload_n 2, 1) := by decide +kernel
theorem dX8_copy_33 : decode cX8_copy 33 = .ok (.iconst 2, 1) := by decide +kernel
theorem dX8_copy_34 : decode cX8_copy 34 = .ok (.if_icmp .ge 24, 3) := by decide +kernel
theorem dX8_copy_37 : decode cX8_copy 37 = .ok (.aload_n 1, 1) := by decide +kernel
theorem dX8_copy_38 : decode cX8_copy 38 = .ok (.getfield 21, 3) := by decide +kernel
theorem dX8_copy_41 : decode cX8_copy 41 = .ok (.iload_n 2, 1) := by decide +kernel
theorem dX8_copy_42 : decode cX8_copy 42 = .ok (.aaload, 1) := by decide +kernel
theorem dX8_copy_43 : decode cX8_copy 43 = .ok (.aload_n 0, 1) := by decide +kernel
theorem dX8_copy_44 : decode cX8_copy 44 = .ok (.getfield 21, 3) := by decide +kernel
theorem dX8_copy_47 : decode cX8_copy 47 = .ok (.iload_n 2, 1) := by decide +kernel
theorem dX8_copy_48 : decode cX8_copy 48 = .ok (.aaload, 1) := by decide +kernel
theorem dX8_copy_49 : decode cX8_copy 49 = .ok (.invokestatic 74, 3) := by decide +kernel
theorem dX8_copy_52 : decode cX8_copy 52 = .ok (.iinc 2 1, 3) := by decide +kernel
theorem dX8_copy_55 : decode cX8_copy 55 = .ok (.goto (-23), 3) := by decide +kernel
theorem dX8_copy_58 : decode cX8_copy 58 = .ok (.iconst 0, 1) := by decide +kernel
theorem dX8_copy_59 : decode cX8_copy 59 = .ok (.istore_n 2, 1) := by decide +kernel
theorem dX8_copy_60 : decode cX8_copy 60 = .ok (.iload_n 2, 1) := by decide +kernel
theorem dX8_copy_61 : decode cX8_copy 61 = .ok (.bipush 10, 2) := by decide +kernel
theorem dX8_copy_63 : decode cX8_copy 63 = .ok (.if_icmp .ge 24, 3) := by decide +kernel
theorem dX8_copy_66 : decode cX8_copy 66 = .ok (.aload_n 1, 1) := by decide +kernel
theorem dX8_copy_67 : decode cX8_copy 67 = .ok (.getfield 27, 3) := by decide +kernel
theorem dX8_copy_70 : decode cX8_copy 70 = .ok (.iload_n 2, 1) := by decide +kernel
theorem dX8_copy_71 : decode cX8_copy 71 = .ok (.aaload, 1) := by decide +kernel
theorem dX8_copy_72 : decode cX8_copy 72 = .ok (.aload_n 0, 1) := by decide +kernel
theorem dX8_copy_73 : decode cX8_copy 73 = .ok (.getfield 27, 3) := by decide +kernel
theorem dX8_copy_76 : decode cX8_copy 76 = .ok (.iload_n 2, 1) := by decide +kernel
theorem dX8_copy_77 : decode cX8_copy 77 = .ok (.aaload, 1) := by decide +kernel
theorem dX8_copy_78 : decode cX8_copy 78 = .ok (.invokestatic 81, 3) := by decide +kernel
theorem dX8_copy_81 : decode cX8_copy 81 = .ok (.iinc 2 1, 3) := by decide +kernel
theorem dX8_copy_84 : decode cX8_copy 84 = .ok (.goto (-24), 3) := by decide +kernel
theorem dX8_copy_87 : decode cX8_copy 87 = .ok (.aload_n 0, 1) := by decide +kernel
theorem dX8_copy_88 : decode cX8_copy 88 = .ok (.aload_n 1, 1) := by decide +kernel
theorem dX8_copy_89 : decode cX8_copy 89 = .ok (.getfield 31, 3) := by decide +kernel
theorem dX8_copy_92 : decode cX8_copy 92 = .ok (.putfield 31, 3) := by decide +kernel
theorem dX8_copy_95 : decode cX8_copy 95 = .ok (.aload_n 0, 1) := by decide +kernel
theorem dX8_copy_96 : decode cX8_copy 96 = .ok (.aload_n 1, 1) := by decide +kernel
theorem dX8_copy_97 : decode cX8_copy 97 = .ok (.getfield 35, 3) := by decide +kernel
theorem dX8_copy_100 : decode cX8_copy 100 = .ok (.putfield 35, 3) := by decide +kernel
theorem dX8_copy_103 : decode cX8_copy 103 = .ok (.aload_n 0, 1) := by decide +kernel
theorem dX8_copy_104 : decode cX8_copy 104 = .ok (.aload_n 1, 1) := by decide +kernel
theorem dX8_copy_105 : decode cX8_copy 105 = .ok (.getfield 38, 3) := by decide +kernel
theorem dX8_copy_108 : decode cX8_copy 108 = .ok (.putfield 38, 3) := by decide +kernel
theorem dX8_copy_111 : decode cX8_copy 111 = .ok (.return_, 1) := by decide +kernel
def tX8_copy (g : ax_G) : Nat → ax_O := ax_nd 49 (ax_nd 26 (ax_nd 10 (ax_nd 4 (ax_nd 0 (ax_lf 0 (ao_al 1 1)) (ax_nd 1 (ax_lf 1 (ao_gr 8 0)) (ax_lf 4 (ao_ic (0) 1)))) (ax_nd 6 (ax_nd 5 (ax_lf 5 (ao_al 0 1)) (ax_lf 6 (ao_gr 8 0))) (ax_nd 9 (ax_lf 9 (ao_ic (0) 1)) (ax_lf 10 (ao_ic (600) 3))))) (ax_nd 20 (ax_nd 16 (ax_nd 13 (ax_lf 13 (ao_copy 12)) (ax_lf 16 (ao_al 1 1))) (ax_nd 17 (ax_lf 17 (ao_gr 8 1)) (ax_lf 20 (ao_ic (0) 1)))) (ax_nd 22 (ax_nd 21 (ax_lf 21 (ao_al 0 1)) (ax_lf 22 (ao_gr 8 1))) (ax_nd 25 (ax_lf 25 (ao_ic (0) 1)) (ax_lf 26 (ao_ic (5) 1)))))) (ax_nd 37 (ax_nd 31 (ax_nd 27 (ax_lf 27 (ao_copy 11)) (ax_nd 30 (ax_lf 30 (ao_ic (0) 1)) (ax_lf 31 (ao_is 2 1)))) (ax_nd 33 (ax_nd 32 (ax_lf 32 (ao_il 2 1)) (ax_lf 33 (ao_ic (2) 1))) (ax_nd 34 (ax_lf 34 (ao_icmp_ge 58)) (ax_lf 37 (ao_al 1 1))))) (ax_nd 43 (ax_nd 41 (ax_nd 38 (ax_lf 38 (ao_gr 8 2)) (ax_lf 41 (ao_il 2 1))) (ax_nd 42 (ax_lf 42 (ao_aaln 17)) (ax_lf 43 (ao_al 0 1)))) (ax_nd 47 (ax_nd 44 (ax_lf 44 (ao_gr 8 2)) (ax_lf 47 (ao_il 2 1))) (ax_nd 48 (ax_lf 48 (ao_aaln 17)) (ax_lf 49 (ao_inv g 3 99 0 yX8_copyRepublic cX8_copyRepublic 2 none 2 0 0 0 0))))))) (ax_nd 77 (ax_nd 63 (ax_nd 58 (ax_nd 52 (ax_lf 52 (ao_iinc 2 (1))) (ax_nd 55 (ax_lf 55 (ao_goto 32)) (ax_lf 58 (ao_ic (0) 1)))) (ax_nd 60 (ax_nd 59 (ax_lf 59 (ao_is 2 1)) (ax_lf 60 (ao_il 2 1))) (ax_nd 61 (ax_lf 61 (ao_ic (10) 2)) (ax_lf 63 (ao_icmp_ge 87))))) (ax_nd 71 (ax_nd 67 (ax_nd 66 (ax_lf 66 (ao_al 1 1)) (ax_lf 67 (ao_gr 8 3))) (ax_nd 70 (ax_lf 70 (ao_il 2 1)) (ax_lf 71 (ao_aald 15)))) (ax_nd 73 (ax_nd 72 (ax_lf 72 (ao_al 0 1)) (ax_lf 73 (ao_gr 8 3))) (ax_nd 76 (ax_lf 76 (ao_il 2 1)) (ax_lf 77 (ao_aald 15)))))) (ax_nd 95 (ax_nd 87 (ax_nd 81 (ax_nd 78 (ax_lf 78 (ao_inv g 3 99 0 yX8_copyLines cX8_copyLines 2 none 2 0 0 0 0)) (ax_lf 81 (ao_iinc 2 (1)))) (ax_nd 84 (ax_lf 84 (ao_goto 60)) (ax_lf 87 (ao_al 0 1)))) (ax_nd 89 (ax_nd 88 (ax_lf 88 (ao_al 1 1)) (ax_lf 89 (ao_gi 8 4))) (ax_nd 92 (ax_lf 92 (ao_pi 8 4)) (ax_lf 95 (ao_al 0 1))))) (ax_nd 103 (ax_nd 97 (ax_nd 96 (ax_lf 96 (ao_al 1 1)) (ax_lf 97 (ao_gi 8 5))) (ax_nd 100 (ax_lf 100 (ao_pi 8 5)) (ax_lf 103 (ao_al 0 1)))) (ax_nd 105 (ax_nd 104 (ax_lf 104 (ao_al 1 1)) (ax_lf 105 (ao_gi 8 6))) (ax_nd 108 (ax_lf 108 (ao_pi 8 6)) (ax_lf 111 (ao_vret 0 0)))))))
theorem oX8_copy (g : ax_G) : ∀ pc, ax_ok g cX8_copy 3 none RX8 "copy" 4 0 0 pc (tX8_copy g pc) := ax_nd_ok (ax_nd_ok (ax_nd_ok (ax_nd_ok (ax_nd_ok (ax_lf_ok (ak_aload_n rfl dX8_copy_0)) (ax_nd_ok (ax_lf_ok (ak_gr fF_X8_9 dX8_copy_1)) (ax_lf_ok (ak_iconst (by decide) dX8_copy_4)))) (ax_nd_ok (ax_nd_ok (ax_lf_ok (ak_aload_n rfl dX8_copy_5)) (ax_lf_ok (ak_gr fF_X8_9 dX8_copy_6))) (ax_nd_ok (ax_lf_ok (ak_iconst (by decide) dX8_copy_9)) (ax_lf_ok (ak_sipush (by decide) dX8_copy_10))))) (ax_nd_ok (ax_nd_ok (ax_nd_ok (ax_lf_ok (ak_copy (by decide) (Or.inr ⟨rfl, rfl⟩) (t0 := 1) rfl wd_1042 wd_616 wd_615 wd_112 dX8_copy_13)) (ax_lf_ok (ak_aload_n rfl dX8_copy_16))) (ax_nd_ok (ax_lf_ok (ak_gr fF_X8_15 dX8_copy_17)) (ax_lf_ok (ak_iconst (by decide) dX8_copy_20)))) (ax_nd_ok (ax_nd_ok (ax_lf_ok (ak_aload_n rfl dX8_copy_21)) (ax_lf_ok (ak_gr fF_X8_15 dX8_copy_22))) (ax_nd_ok (ax_lf_ok (ak_iconst (by decide) dX8_copy_25)) (ax_lf_ok (ak_iconst (by decide) dX8_copy_26)))))) (ax_nd_ok (ax_nd_ok (ax_nd_ok (ax_lf_ok (ak_copy (by decide) (Or.inl ⟨rfl, rfl⟩) (t0 := 0) rfl wd_1042 wd_616 wd_615 wd_112 dX8_copy_27)) (ax_nd_ok (ax_lf_ok (ak_iconst (by decide) dX8_copy_30)) (ax_lf_ok (ak_istore_n rfl (by decide) dX8_copy_31)))) (ax_nd_ok (ax_nd_ok (ax_lf_ok (ak_iload_n rfl dX8_copy_32)) (ax_lf_ok (ak_iconst (by decide) dX8_copy_33))) (ax_nd_ok (ax_lf_ok (ak_icmp_ge (by decide) dX8_copy_34)) (ax_lf_ok (ak_aload_n rfl dX8_copy_37))))) (ax_nd_ok (ax_nd_ok (ax_nd_ok (ax_lf_ok (ak_gr fF_X8_21 dX8_copy_38)) (ax_lf_ok (ak_iload_n rfl dX8_copy_41))) (ax_nd_ok (ax_lf_ok (ak_aaln (by decide) (by decide) (t0 := 6) rfl dX8_copy_42)) (ax_lf_ok (ak_aload_n rfl dX8_copy_43)))) (ax_nd_ok (ax_nd_ok (ax_lf_ok (ak_gr fF_X8_21 dX8_copy_44)) (ax_lf_ok (ak_iload_n rfl dX8_copy_47))) (ax_nd_ok (ax_lf_ok (ak_aaln (by decide) (by decide) (t0 := 6) rfl dX8_copy_48)) (ax_lf_ok (ak_invS (by decide) (by decide) wd_622 wd_623 wd_97 wd_624 ⟨by decide, by decide, by decide +kernel⟩ dX8_copy_49))))))) (ax_nd_ok (ax_nd_ok (ax_nd_ok (ax_nd_ok (ax_lf_ok (ak_iinc (by decide) (by decide) dX8_copy_52)) (ax_nd_ok (ax_lf_ok (ak_goto (by decide) dX8_copy_55)) (ax_lf_ok (ak_iconst (by decide) dX8_copy_58)))) (ax_nd_ok (ax_nd_ok (ax_lf_ok (ak_istore_n rfl (by decide) dX8_copy_59)) (ax_lf_ok (ak_iload_n rfl dX8_copy_60))) (ax_nd_ok (ax_lf_ok (ak_bipush (by decide) dX8_copy_61)) (ax_lf_ok (ak_icmp_ge (by decide) dX8_copy_63))))) (ax_nd_ok (ax_nd_ok (ax_nd_ok (ax_lf_ok (ak_aload_n rfl dX8_copy_66)) (ax_lf_ok (ak_gr fF_X8_27 dX8_copy_67))) (ax_nd_ok (ax_lf_ok (ak_iload_n rfl dX8_copy_70)) (ax_lf_ok (ak_aald (by decide) (by decide) (t0 := 4) rfl dX8_copy_71)))) (ax_nd_ok (ax_nd_ok (ax_lf_ok (ak_aload_n rfl dX8_copy_72)) (ax_lf_ok (ak_gr fF_X8_27 dX8_copy_73))) (ax_nd_ok (ax_lf_ok (ak_iload_n rfl dX8_copy_76)) (ax_lf_ok (ak_aald (by decide) (by decide) (t0 := 4) rfl dX8_copy_77)))))) (ax_nd_ok (ax_nd_ok (ax_nd_ok (ax_nd_ok (ax_lf_ok (ak_invS (by decide) (by decide) wd_630 wd_631 wd_97 wd_632 ⟨by decide, by decide, by decide +kernel⟩ dX8_copy_78)) (ax_lf_ok (ak_iinc (by decide) (by decide) dX8_copy_81))) (ax_nd_ok (ax_lf_ok (ak_goto (by decide) dX8_copy_84)) (ax_lf_ok (ak_aload_n rfl dX8_copy_87)))) (ax_nd_ok (ax_nd_ok (ax_lf_ok (ak_aload_n rfl dX8_copy_88)) (ax_lf_ok (ak_gi fF_X8_31 dX8_copy_89))) (ax_nd_ok (ax_lf_ok (ak_pi fF_X8_31 fW_X8_31_a dX8_copy_92)) (ax_lf_ok (ak_aload_n rfl dX8_copy_95))))) (ax_nd_ok (ax_nd_ok (ax_nd_ok (ax_lf_ok (ak_aload_n rfl dX8_copy_96)) (ax_lf_ok (ak_gi fF_X8_35 dX8_copy_97))) (ax_nd_ok (ax_lf_ok (ak_pi fF_X8_35 fW_X8_35_a dX8_copy_100)) (ax_lf_ok (ak_aload_n rfl dX8_copy_103)))) (ax_nd_ok (ax_nd_ok (ax_lf_ok (ak_aload_n rfl dX8_copy_104)) (ax_lf_ok (ak_gi fF_X8_38 dX8_copy_105))) (ax_nd_ok (ax_lf_ok (ak_pi fF_X8_38 fW_X8_38_a dX8_copy_108)) (ax_lf_ok (ak_vret rfl dX8_copy_111)))))))
abbrev mX8_copy (g : ax_G) (as : List Value) (h : ax_H) (Ret : Option Value → ax_H → Prop) : Prop := ax_M g 4 0 0 yX8_copy cX8_copy 3 none as h Ret
theorem dX8_copyRepublic_0 : decode cX8_copyRepublic 0 = .ok (.aload_n 0, 1) := by decide +kernel
theorem dX8_copyRepublic_1 : decode cX8_copyRepublic 1 = .ok (.ifnull 12, 3) := by decide +kernel
theorem dX8_copyRepublic_4 : decode cX8_copyRepublic 4 = .ok (.aload_n 1, 1) := by decide +kernel
theorem dX8_copyRepublic_5 : decode cX8_copyRepublic 5 = .ok (.ifnull 8, 3) := by decide +kernel
theorem dX8_copyRepublic_8 : decode cX8_copyRepublic 8 = .ok (.aload_n 1, 1) := by decide +kernel
theorem dX8_copyRepublic_9 : decode cX8_copyRepublic 9 = .ok (.aload_n 0, 1) := by decide +kernel
theorem dX8_copyRepublic_10 : decode cX8_copyRepublic 10 = .ok (.invokevirtual 91, 3) := by decide +kernel
theorem dX8_copyRepublic_13 : decode cX8_copyRepublic 13 = .ok (.return_, 1) := by decide +kernel
def tX8_copyRepublic (g : ax_G) : Nat → ax_O := ax_nd 5 (ax_nd 1 (ax_nd 0 (ax_lf 0 (ao_al 0 1)) (ax_lf 1 (ao_ifnull 13))) (ax_nd 4 (ax_lf 4 (ao_al 1 1)) (ax_lf 5 (ao_ifnull 13)))) (ax_nd 9 (ax_nd 8 (ax_lf 8 (ao_al 1 1)) (ax_lf 9 (ao_al 0 1))) (ax_nd 10 (ax_lf 10 (ao_inv g 2 6 0 yX6_copy cX6_copy 2 none 2 0 0 0 0)) (ax_lf 13 (ao_vret 0 0))))
theorem oX8_copyRepublic (g : ax_G) : ∀ pc, ax_ok g cX8_copyRepublic 2 none RX8 "copyRepublic" 3 0 0 pc (tX8_copyRepublic g pc) := ax_nd_ok (ax_nd_ok (ax_nd_ok (ax_lf_ok (ak_aload_n rfl dX8_copyRepublic_0)) (ax_lf_ok (ak_ifnull (by decide) dX8_copyRepublic_1))) (ax_nd_ok (ax_lf_ok (ak_aload_n rfl dX8_copyRepublic_4)) (ax_lf_ok (ak_ifnull (by decide) dX8_copyRepublic_5)))) (ax_nd_ok (ax_nd_ok (ax_lf_ok (ak_aload_n rfl dX8_copyRepublic_8)) (ax_lf_ok (ak_aload_n rfl dX8_copyRepublic_9))) (ax_nd_ok (ax_lf_ok (ak_invV (by decide) (by decide) (by decide) rfl wd_625 wd_626 wd_627 wd_98 wd_628 ⟨by decide, by decide, by decide +kernel⟩ dX8_copyRepublic_10)) (ax_lf_ok (ak_vret rfl dX8_copyRepublic_13))))
abbrev mX8_copyRepublic (g : ax_G) (as : List Value) (h : ax_H) (Ret : Option Value → ax_H → Prop) : Prop := ax_M g 3 0 0 yX8_copyRepublic cX8_copyRepublic 2 none as h Ret
theorem dX8_copyLines_0 : decode cX8_copyLines 0 = .ok (.aload_n 0, 1) := by decide +kernel
theorem dX8_copyLines_1 : decode cX8_copyLines 1 = .ok (.ifnull 12, 3) := by decide +kernel
theorem dX8_copyLines_4 : decode cX8_copyLines 4 = .ok (.aload_n 1, 1) := by decide +kernel
theorem dX8_copyLines_5 : decode cX8_copyLines 5 = .ok (.ifnull 8, 3) := by decide +kernel
theorem dX8_copyLines_8 : decode cX8_copyLines 8 = .ok (.aload_n 1, 1) := by decide +kernel
theorem dX8_copyLines_9 : decode cX8_copyLines 9 = .ok (.aload_n 0, 1) := by decide +kernel
theorem dX8_copyLines_10 : decode cX8_copyLines 10 = .ok (.invokevirtual 95, 3) := by decide +kernel
theorem dX8_copyLines_13 : decode cX8_copyLines 13 = .ok (.return_, 1) := by decide +kernel
def tX8_copyLines (g : ax_G) : Nat → ax_O := ax_nd 5 (ax_nd 1 (ax_nd 0 (ax_lf 0 (ao_al 0 1)) (ax_lf 1 (ao_ifnull 13))) (ax_nd 4 (ax_lf 4 (ao_al 1 1)) (ax_lf 5 (ao_ifnull 13)))) (ax_nd 9 (ax_nd 8 (ax_lf 8 (ao_al 1 1)) (ax_lf 9 (ao_al 0 1))) (ax_nd 10 (ax_lf 10 (ao_inv g 2 2 0 yX2_copy cX2_copy 2 none 2 0 0 0 0)) (ax_lf 13 (ao_vret 0 0))))
theorem oX8_copyLines (g : ax_G) : ∀ pc, ax_ok g cX8_copyLines 2 none RX8 "copyLines" 3 0 0 pc (tX8_copyLines g pc) := ax_nd_ok (ax_nd_ok (ax_nd_ok (ax_lf_ok (ak_aload_n rfl dX8_copyLines_0)) (ax_lf_ok (ak_ifnull (by decide) dX8_copyLines_1))) (ax_nd_ok (ax_lf_ok (ak_aload_n rfl dX8_copyLines_4)) (ax_lf_ok (ak_ifnull (by decide) dX8_copyLines_5)))) (ax_nd_ok (ax_nd_ok (ax_lf_ok (ak_aload_n rfl dX8_copyLines_8)) (ax_lf_ok (ak_aload_n rfl dX8_copyLines_9))) (ax_nd_ok (ax_lf_ok (ak_invV (by decide) (by decide) (by decide) rfl wd_633 wd_634 wd_635 wd_99 wd_636 ⟨by decide, by decide, by decide +kernel⟩ dX8_copyLines_10)) (ax_lf_ok (ak_vret rfl dX8_copyLines_13))))
abbrev mX8_copyLines (g : ax_G) (as : List Value) (h : ax_H) (Ret : Option Value → ax_H → Prop) : Prop := ax_M g 3 0 0 yX8_copyLines cX8_copyLines 2 none as h Ret
end
