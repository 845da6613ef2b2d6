section
theorem dX5_init_0 : decode cX5_init 0 = .ok (.aload_n 0, 1) := by decide +kernel
theorem dX5_init_1 : decode cX5_init 1 = .ok (.invokespecial 3, 3) := by decide +kernel
theorem dX5_init_4 : decode cX5_init 4 = .ok (.aload_n 0, 1) := by decide +kernel
theorem dX5_init_5 : decode cX5_init 5 = .ok (.new 9, 3) := by decide +kernel
theorem dX5_init_8 : decode cX5_init 8 = .ok (.dup, 1) := by decide +kernel
theorem dX5_init_9 : decode cX5_init 9 = .ok (.invokespecial 11, 3) := by decide +kernel
theorem dX5_init_12 : decode cX5_init 12 = .ok (.putfield 12, 3) := by decide +kernel
theorem dX5_init_15 : decode cX5_init 15 = .ok (.aload_n 0, 1) := by decide +kernel
theorem dX5_init_16 : decode cX5_init 16 = .ok (.iconst 5, 1) := by decide +kernel
theorem dX5_init_17 : decode cX5_init 17 = .ok (.anewarray 18, 3) := by decide +kernel
theorem dX5_init_20 : decode cX5_init 20 = .ok (.putfield 20, 3) := by decide +kernel
theorem dX5_init_23 : decode cX5_init 23 = .ok (.aload_n 0, 1) := by decide +kernel
theorem dX5_init_24 : decode cX5_init 24 = .ok (.iconst 3, 1) := by decide +kernel
theorem dX5_init_25 : decode cX5_init 25 = .ok (.newarray .int, 2) := by decide +kernel
theorem dX5_init_27 : decode cX5_init 27 = .ok (.putfield 24, 3) := by decide +kernel
theorem dX5_init_30 : decode cX5_init 30 = .ok (.aload_n 0, 1) := by decide +kernel
theorem dX5_init_31 : decode cX5_init 31 = .ok (.iconst 0, 1) := by decide +kernel
theorem dX5_init_32 : decode cX5_init 32 = .ok (.putfield 28, 3) := by decide +kernel
theorem dX5_init_35 : decode cX5_init 35 = .ok (.aload_n 0, 1) := by decide +kernel
theorem dX5_init_36 : decode cX5_init 36 = .ok (.iconst (-1), 1) := by decide +kernel
theorem dX5_init_37 : decode cX5_init 37 = .ok (.putfield 32, 3) := by decide +kernel
theorem dX5_init_40 : decode cX5_init 40 = .ok (.aload_n 0, 1) := by decide +kernel
theorem dX5_init_41 : decode cX5_init 41 = .ok (.iconst 0, 1) := by decide +kernel
theorem dX5_init_42 : decode cX5_init 42 = .ok (.putfield 35, 3) := by decide +kernel
theorem dX5_init_45 : decode cX5_init 45 = .ok (.aload_n 0, 1) := by decide +kernel
theorem dX5_init_46 : decode cX5_init 46 = .ok (.iconst 0, 1) := by decide +kernel
theorem dX5_init_47 : decode cX5_init 47 = .ok (.putfield 38, 3) := by decide +kernel
theorem dX5_init_50 : decode cX5_init 50 = .ok (.aload_n 0, 1) := by decide +kernel
theorem dX5_init_51 : decode cX5_init 51 = .ok (.iconst 0, 1) := by decide +kernel
theorem dX5_init_52 : decode cX5_init 52 = .ok (.putfield 41, 3) := by decide +kernel
theorem dX5_init_55 : decode cX5_init 55 = .ok (.aload_n 0, 1) := by decide +kernel
theorem dX5_init_56 : decode cX5_init 56 = .ok (.iconst 0, 1) := by decide +kernel
theorem dX5_init_57 : decode cX5_init 57 = .ok (.putfield 44, 3) := by decide +kernel
theorem dX5_init_60 : decode cX5_init 60 = .ok (.aload_n 0, 1) := by decide +kernel
theorem dX5_init_61 : decode cX5_init 61 = .ok (.iconst 0, 1) := by decide +kernel
theorem dX5_init_62 : decode cX5_init 62 = .ok (.putfield 47, 3) := by decide +kernel
theorem dX5_init_65 : decode cX5_init 65 = .ok (.aload_n 0, 1) := by decide +kernel
theorem dX5_init_66 : decode cX5_init 66 = .ok (.iconst 0, 1) := by decide +kernel
theorem dX5_init_67 : decode cX5_init 67 = .ok (.putfield 50, 3) := by decide +kernel
theorem dX5_init_70 : decode cX5_init 70 = .ok (.aload_n 0, 1) := by decide +kernel
theorem dX5_init_71 : decode cX5_init 71 = .ok (.iconst (-1), 1) := by decide +kernel
theorem dX5_init_72 : decode cX5_init 72 = .ok (.putfield 53, 3) := by decide +kernel
theorem dX5_init_75 : decode cX5_init 75 = .ok (.aload_n 0, 1) := by decide +kernel
theorem dX5_init_76 : decode cX5_init 76 = .ok (.iconst (-1), 1) := by decide +kernel
theorem dX5_init_77 : decode cX5_init 77 = .ok (.putfield 56, 3) := by decide +kernel
theorem dX5_init_80 : decode cX5_init 80 = .ok (.aload_n 0, 1) := by decide +kernel
theorem dX5_init_81 : decode cX5_init 81 = .ok (.aload_n 1, 1) := by decide +kernel
theorem dX5_init_82 : decode cX5_init 82 = .ok (.putfield 59, 3) := by decide +kernel
theorem dX5_init_85 : decode cX5_init 85 = .ok (.iconst 1, 1) := by decide +kernel
theorem dX5_init_86 : decode cX5_init 86 = .ok (.istore_n 2, 1) := by decide +kernel
theorem dX5_init_87 : decode cX5_init 87 = .ok (.iload_n 2, 1) := by decide +kernel
theorem dX5_init_88 : decode cX5_init 88 = .ok (.iconst 5, 1) := by decide +kernel
theorem dX5_init_89 : decode cX5_init 89 = .ok (.if_icmp .ge 23, 3) := by decide +kernel
theorem dX5_init_92 : decode cX5_init 92 = .ok (.aload_n 0, 1) := by decide +kernel
theorem dX5_init_93 : decode cX5_init 93 = .ok (.getfield 20, 3) := by decide +kernel
theorem dX5_init_96 : decode cX5_init 96 = .ok (.iload_n 2, 1) := by decide +kernel
theorem dX5_init_97 : decode cX5_init 97 = .ok (.new 18, 3) := by decide +kernel
theorem dX5_init_100 : decode cX5_init 100 = .ok (.dup, 1) := by decide +kernel
theorem dX5_init_101 : decode cX5_init 101 = .ok (.iload_n 2, 1) := by decide +kernel
theorem dX5_init_102 : decode cX5_init 102 = .ok (.invokespecial 63, 3) := by decide +kernel
theorem dX5_init_105 : decode cX5_init 105 = .ok (.aastore, 1) := by decide +kernel
theorem dX5_init_106 : decode cX5_init 106 = .ok (.iinc 2 1, 3) := by decide +kernel
theorem dX5_init_109 : decode cX5_init 109 = .ok (.goto (-22), 3) := by decide +kernel
theorem dX5_init_112 : decode cX5_init 112 = .ok (.return_, 1) := by decide +kernel
def tX5_init (g : ax_G) : Nat → ax_O := ax_nd 56 (ax_nd 30 (ax_nd 15 (ax_nd 5 (ax_nd 1 (ax_nd 0 (ax_lf 0 (ao_al 0 1)) (ax_lf 1 ao_obj)) (ax_nd 4 (ax_lf 4 (ao_al 0 1)) (ax_lf 5 (ao_new 6 7 16 265)))) (ax_nd 9 (ax_nd 8 (ax_lf 8 ao_dup) (ax_lf 9 (ao_inva g 2 6 0 yX6_init cX6_init 1 none 1 5 16 162 265))) (ax_nd 12 (ax_lf 12 (ao_pr 5 1)) (ax_lf 15 (ao_al 0 1))))) (ax_nd 23 (ax_nd 17 (ax_nd 16 (ax_lf 16 (ao_ic (5) 1)) (ax_lf 17 (ao_newr 15 16 265))) (ax_nd 20 (ax_lf 20 (ao_pr 5 2)) (ax_lf 23 (ao_al 0 1)))) (ax_nd 25 (ax_nd 24 (ax_lf 24 (ao_ic (3) 1)) (ax_lf 25 (ao_newa 11 4 16 265))) (ax_nd 27 (ax_lf 27 (ao_pr 5 3)) (ax_lf 30 (ao_al 0 1)))))) (ax_nd 42 (ax_nd 36 (ax_nd 32 (ax_nd 31 (ax_lf 31 (ao_ic (0) 1)) (ax_lf 32 (ao_pi 5 4))) (ax_nd 35 (ax_lf 35 (ao_al 0 1)) (ax_lf 36 (ao_ic (-1) 1)))) (ax_nd 40 (ax_nd 37 (ax_lf 37 (ao_pi 5 5)) (ax_lf 40 (ao_al 0 1))) (ax_nd 41 (ax_lf 41 (ao_ic (0) 1)) (ax_lf 42 (ao_pi 5 6))))) (ax_nd 50 (ax_nd 46 (ax_nd 45 (ax_lf 45 (ao_al 0 1)) (ax_lf 46 (ao_ic (0) 1))) (ax_nd 47 (ax_lf 47 (ao_pi 5 7)) (ax_lf 50 (ao_al 0 1)))) (ax_nd 52 (ax_nd 51 (ax_lf 51 (ao_ic (0) 1)) (ax_lf 52 (ao_pi 5 8))) (ax_nd 55 (ax_lf 55 (ao_al 0 1)) (ax_lf 56 (ao_ic (0) 1))))))) (ax_nd 82 (ax_nd 70 (ax_nd 62 (ax_nd 60 (ax_nd 57 (ax_lf 57 (ao_pi 5 9)) (ax_lf 60 (ao_al 0 1))) (ax_nd 61 (ax_lf 61 (ao_ic (0) 1)) (ax_lf 62 (ao_pi 5 10)))) (ax_nd 66 (ax_nd 65 (ax_lf 65 (ao_al 0 1)) (ax_lf 66 (ao_ic (0) 1))) (ax_nd 67 (ax_lf 67 (ao_pi 5 11)) (ax_lf 70 (ao_al 0 1))))) (ax_nd 76 (ax_nd 72 (ax_nd 71 (ax_lf 71 (ao_ic (-1) 1)) (ax_lf 72 (ao_pi 5 12))) (ax_nd 75 (ax_lf 75 (ao_al 0 1)) (ax_lf 76 (ao_ic (-1) 1)))) (ax_nd 80 (ax_nd 77 (ax_lf 77 (ao_pi 5 13)) (ax_lf 80 (ao_al 0 1))) (ax_nd 81 (ax_lf 81 (ao_al 1 1)) (ax_lf 82 (ao_pr 5 0)))))) (ax_nd 96 (ax_nd 88 (ax_nd 86 (ax_nd 85 (ax_lf 85 (ao_ic (1) 1)) (ax_lf 86 (ao_is 2 1))) (ax_nd 87 (ax_lf 87 (ao_il 2 1)) (ax_lf 88 (ao_ic (5) 1)))) (ax_nd 92 (ax_nd 89 (ax_lf 89 (ao_icmp_ge 112)) (ax_lf 92 (ao_al 0 1))) (ax_nd 93 (ax_lf 93 (ao_gr 5 2)) (ax_lf 96 (ao_il 2 1))))) (ax_nd 102 (ax_nd 100 (ax_nd 97 (ax_lf 97 (ao_new 2 4 16 265)) (ax_lf 100 ao_dup)) (ax_nd 101 (ax_lf 101 (ao_il 2 1)) (ax_lf 102 (ao_inva g 1 2 0 yX2_init cX2_init 3 none 2 1 16 18 265)))) (ax_nd 106 (ax_nd 105 (ax_lf 105 (ao_aast 15 2)) (ax_lf 106 (ao_iinc 2 (1)))) (ax_nd 109 (ax_lf 109 (ao_goto 87)) (ax_lf 112 (ao_vreta 16 265)))))))
theorem oX5_init (g : ax_G) : ∀ pc, ax_ok g cX5_init 3 none RX5 "<init>" 3 16 265 pc (tX5_init g pc) := ax_nd_ok (ax_nd_ok (ax_nd_ok (ax_nd_ok (ax_nd_ok (ax_nd_ok (ax_lf_ok (ak_aload_n rfl dX5_init_0)) (ax_lf_ok (ak_obj (by decide) wd_241 wd_119 wd_120 dX5_init_1))) (ax_nd_ok (ax_lf_ok (ak_aload_n rfl dX5_init_4)) (ax_lf_ok (ak_new (by decide) rfl ig_X6 tyX6_ok dv_X6 wd_242 wd_131 wd_98 dX5_init_5)))) (ax_nd_ok (ax_nd_ok (ax_lf_ok (ak_dup dX5_init_8)) (ax_lf_ok (ak_inva (ak_invI (by decide) (by decide) (by decide) wd_243 wd_133 wd_98 wd_134 rfl ⟨by decide, by decide, by decide +kernel⟩ dX5_init_9)))) (ax_nd_ok (ax_lf_ok (ak_pr fF_X5_12 rfl fW_X5_12_i dX5_init_12)) (ax_lf_ok (ak_aload_n rfl dX5_init_15))))) (ax_nd_ok (ax_nd_ok (ax_nd_ok (ax_lf_ok (ak_iconst (by decide) dX5_init_16)) (ax_lf_ok (ak_newr (by decide) (t0 := 4) rfl wd_244 (by decide +kernel) dX5_init_17))) (ax_nd_ok (ax_lf_ok (ak_pr fF_X5_20 rfl fW_X5_20_i dX5_init_20)) (ax_lf_ok (ak_aload_n rfl dX5_init_23)))) (ax_nd_ok (ax_nd_ok (ax_lf_ok (ak_iconst (by decide) dX5_init_24)) (ax_lf_ok (ak_newa (atype := .int) (ty := .int) (by decide) (by decide) rfl rfl (fun _ h => by cases h) (t0 := 0) rfl (fun _ _ => rfl) wd_179 dX5_init_25))) (ax_nd_ok (ax_lf_ok (ak_pr fF_X5_24 rfl fW_X5_24_i dX5_init_27)) (ax_lf_ok (ak_aload_n rfl dX5_init_30)))))) (ax_nd_ok (ax_nd_ok (ax_nd_ok (ax_nd_ok (ax_lf_ok (ak_iconst (by decide) dX5_init_31)) (ax_lf_ok (ak_pi fF_X5_28 fW_X5_28_a dX5_init_32))) (ax_nd_ok (ax_lf_ok (ak_aload_n rfl dX5_init_35)) (ax_lf_ok (ak_iconst (by decide) dX5_init_36)))) (ax_nd_ok (ax_nd_ok (ax_lf_ok (ak_pi fF_X5_32 fW_X5_32_a dX5_init_37)) (ax_lf_ok (ak_aload_n rfl dX5_init_40))) (ax_nd_ok (ax_lf_ok (ak_iconst (by decide) dX5_init_41)) (ax_lf_ok (ak_pi fF_X5_35 fW_X5_35_a dX5_init_42))))) (ax_nd_ok (ax_nd_ok (ax_nd_ok (ax_lf_ok (ak_aload_n rfl dX5_init_45)) (ax_lf_ok (ak_iconst (by decide) dX5_init_46))) (ax_nd_ok (ax_lf_ok (ak_pi fF_X5_38 fW_X5_38_a dX5_init_47)) (ax_lf_ok (ak_aload_n rfl dX5_init_50)))) (ax_nd_ok (ax_nd_ok (ax_lf_ok (ak_iconst (by decide) dX5_init_51)) (ax_lf_ok (ak_pi fF_X5_41 fW_X5_41_a dX5_init_52))) (ax_nd_ok (ax_lf_ok (ak_aload_n rfl dX5_init_55)) (ax_lf_ok (ak_iconst (by decide) dX5_init_56))))))) (ax_nd_ok (ax_nd_ok (ax_nd_ok (ax_nd_ok (ax_nd_ok (ax_lf_ok (ak_pi fF_X5_44 fW_X5_44_a dX5_init_57)) (ax_lf_ok (ak_aload_n rfl dX5_init_60))) (ax_nd_ok (ax_lf_ok (ak_iconst (by decide) dX5_init_61)) (ax_lf_ok (ak_pi fF_X5_47 fW_X5_47_a dX5_init_62)))) (ax_nd_ok (ax_nd_ok (ax_lf_ok (ak_aload_n rfl dX5_init_65)) (ax_lf_ok (ak_iconst (by decide) dX5_init_66))) (ax_nd_ok (ax_lf_ok (ak_pi fF_X5_50 fW_X5_50_a dX5_init_67)) (ax_lf_ok (ak_aload_n rfl dX5_init_70))))) (ax_nd_ok (ax_nd_ok (ax_nd_ok (ax_lf_ok (ak_iconst (by decide) dX5_init_71)) (ax_lf_ok (ak_pi fF_X5_53 fW_X5_53_a dX5_init_72))) (ax_nd_ok (ax_lf_ok (ak_aload_n rfl dX5_init_75)) (ax_lf_ok (ak_iconst (by decide) dX5_init_76)))) (ax_nd_ok (ax_nd_ok (ax_lf_ok (ak_pi fF_X5_56 fW_X5_56_a dX5_init_77)) (ax_lf_ok (ak_aload_n rfl dX5_init_80))) (ax_nd_ok (ax_lf_ok (ak_aload_n rfl dX5_init_81)) (ax_lf_ok (ak_pr fF_X5_59 rfl fW_X5_59_i dX5_init_82)))))) (ax_nd_ok (ax_nd_ok (ax_nd_ok (ax_nd_ok (ax_lf_ok (ak_iconst (by decide) dX5_init_85)) (ax_lf_ok (ak_istore_n rfl (by decide) dX5_init_86))) (ax_nd_ok (ax_lf_ok (ak_iload_n rfl dX5_init_87)) (ax_lf_ok (ak_iconst (by decide) dX5_init_88)))) (ax_nd_ok (ax_nd_ok (ax_lf_ok (ak_icmp_ge (by decide) dX5_init_89)) (ax_lf_ok (ak_aload_n rfl dX5_init_92))) (ax_nd_ok (ax_lf_ok (ak_gr fF_X5_20 dX5_init_93)) (ax_lf_ok (ak_iload_n rfl dX5_init_96))))) (ax_nd_ok (ax_nd_ok (ax_nd_ok (ax_lf_ok (ak_new (by decide) rfl ig_X2 tyX2_ok dv_X2 wd_244 wd_180 wd_99 dX5_init_97)) (ax_lf_ok (ak_dup dX5_init_100))) (ax_nd_ok (ax_lf_ok (ak_iload_n rfl dX5_init_101)) (ax_lf_ok (ak_inva (ak_invI (by decide) (by decide) (by decide) wd_245 wd_182 wd_99 wd_183 rfl ⟨by decide, by decide, by decide +kernel⟩ dX5_init_102))))) (ax_nd_ok (ax_nd_ok (ax_lf_ok (ak_aast (by decide) (by decide) (by decide) rfl (t0 := 4) rfl dX5_init_105)) (ax_lf_ok (ak_iinc (by decide) (by decide) dX5_init_106))) (ax_nd_ok (ax_lf_ok (ak_goto (by decide) dX5_init_109)) (ax_lf_ok (ak_vreta (ak_vret rfl dX5_init_112))))))))
abbrev mX5_init (g : ax_G) (as : List Value) (h : ax_H) (Ret : Option Value → ax_H → Prop) : Prop := ax_M g 3 16 265 yX5_init cX5_init 3 none as h Ret
theorem dX5_read_0 : decode cX5_read 0 = .ok (.aload_n 0, 1) := by decide +kernel
theorem dX5_read_1 : decode cX5_read 1 = .ok (.iload_n 1, 1) := by decide +kernel
theorem dX5_read_2 : decode cX5_read 2 = .ok (.iload_n 2, 1) := by decide +kernel
theorem dX5_read_3 : decode cX5_read 3 = .ok (.invokevirtual 66, 3) := by decide +kernel
theorem dX5_read_6 : decode cX5_read 6 = .ok (.aload_n 0, 1) := by decide +kernel
theorem dX5_read_7 : decode cX5_read 7 = .ok (.invokevirtual 70, 3) := by decide +kernel
theorem dX5_read_10 : decode cX5_read 10 = .ok (.iconst 0, 1) := by decide +kernel
theorem dX5_read_11 : decode cX5_read 11 = .ok (.istore_n 3, 1) := by decide +kernel
theorem dX5_read_12 : decode cX5_read 12 = .ok (.iload_n 3, 1) := by decide +kernel
theorem dX5_read_13 : decode cX5_read 13 = .ok (.sipush 600, 3) := by decide +kernel
theorem dX5_read_16 : decode cX5_read 16 = .ok (.if_icmp .gt 42, 3) := by decide +kernel
theorem dX5_read_19 : decode cX5_read 19 = .ok (.aload_n 0, 1) := by decide +kernel
theorem dX5_read_20 : decode cX5_read 20 = .ok (.getfield 35, 3) := by decide +kernel
theorem dX5_read_23 : decode cX5_read 23 = .ok (.ifCond .eq 35, 3) := by decide +kernel
theorem dX5_read_26 : decode cX5_read 26 = .ok (.aload_n 0, 1) := by decide +kernel
theorem dX5_read_27 : decode cX5_read 27 = .ok (.iload_n 2, 1) := by decide +kernel
theorem dX5_read_28 : decode cX5_read 28 = .ok (.invokevirtual 73, 3) := by decide +kernel
theorem dX5_read_31 : decode cX5_read 31 = .ok (.ifCond .ne 17, 3) := by decide +kernel
theorem dX5_read_34 : decode cX5_read 34 = .ok (.aload_n 0, 1) := by decide +kernel
theorem dX5_read_35 : decode cX5_read 35 = .ok (.iconst 1, 1) := by decide +kernel
theorem dX5_read_36 : decode cX5_read 36 = .ok (.putfield 28, 3) := by decide +kernel
theorem dX5_read_39 : decode cX5_read 39 = .ok (.aload_n 0, 1) := by decide +kernel
theorem dX5_read_40 : decode cX5_read 40 = .ok (.aload_n 0, 1) := by decide +kernel
theorem dX5_read_41 : decode cX5_read 41 = .ok (.getfield 38, 3) := by decide +kernel
theorem dX5_read_44 : decode cX5_read 44 = .ok (.putfield 32, 3) := by decide +kernel
theorem dX5_read_47 : decode cX5_read 47 = .ok (.return_, 1) := by decide +kernel
theorem dX5_read_48 : decode cX5_read 48 = .ok (.aload_n 0, 1) := by decide +kernel
theorem dX5_read_49 : decode cX5_read 49 = .ok (.invokevirtual 70, 3) := by decide +kernel
theorem dX5_read_52 : decode cX5_read 52 = .ok (.iinc 3 1, 3) := by decide +kernel
theorem dX5_read_55 : decode cX5_read 55 = .ok (.goto (-43), 3) := by decide +kernel
theorem dX5_read_58 : decode cX5_read 58 = .ok (.aload_n 0, 1) := by decide +kernel
theorem dX5_read_59 : decode cX5_read 59 = .ok (.getfield 53, 3) := by decide +kernel
theorem dX5_read_62 : decode cX5_read 62 = .ok (.aload_n 0, 1) := by decide +kernel
theorem dX5_read_63 : decode cX5_read 63 = .ok (.getfield 12, 3) := by decide +kernel
theorem dX5_read_66 : decode cX5_read 66 = .ok (.getfield 77, 3) := by decide +kernel
theorem dX5_read_69 : decode cX5_read 69 = .ok (.if_icmp .ge 17, 3) := by decide +kernel
theorem dX5_read_72 : decode cX5_read 72 = .ok (.aload_n 0, 1) := by decide +kernel
theorem dX5_read_73 : decode cX5_read 73 = .ok (.getfield 56, 3) := by decide +kernel
theorem dX5_read_76 : decode cX5_read 76 = .ok (.aload_n 0, 1) := by decide +kernel
theorem dX5_read_77 : decode cX5_read 77 = .ok (.getfield 12, 3) := by decide +kernel
theorem dX5_read_80 : decode cX5_read 80 = .ok (.getfield 80, 3) := by decide +kernel
theorem dX5_read_83 : decode cX5_read 83 = .ok (.if_icmp .lt 12, 3) := by decide +kernel
theorem dX5_read_86 : decode cX5_read 86 = .ok (.aload_n 0, 1) := by decide +kernel
theorem dX5_read_87 : decode cX5_read 87 = .ok (.iconst 4, 1) := by decide +kernel
theorem dX5_read_88 : decode cX5_read 88 = .ok (.aload_n 0, 1) := by decide +kernel
theorem dX5_read_89 : decode cX5_read 89 = .ok (.getfield 50, 3) := by decide +kernel
theorem dX5_read_92 : decode cX5_read 92 = .ok (.invokevirtual 83, 3) := by decide +kernel
theorem dX5_read_95 : decode cX5_read 95 = .ok (.return_, 1) := by decide +kernel
def tX5_read (g : ax_G) : Nat → ax_O := ax_nd 41 (ax_nd 19 (ax_nd 7 (ax_nd 2 (ax_nd 0 (ax_lf 0 (ao_al 0 1)) (ax_nd 1 (ax_lf 1 (ao_il 1 1)) (ax_lf 2 (ao_il 2 1)))) (ax_nd 3 (ax_lf 3 (ao_inv g 2 5 0 yX5_begin cX5_begin 4 none 3 0 0 0 0)) (ax_nd 6 (ax_lf 6 (ao_al 0 1)) (ax_lf 7 (ao_inv g 3 5 0 yX5_step cX5_step 1 none 1 0 0 0 0))))) (ax_nd 12 (ax_nd 10 (ax_lf 10 (ao_ic (0) 1)) (ax_nd 11 (ax_lf 11 (ao_is 3 1)) (ax_lf 12 (ao_il 3 1)))) (ax_nd 13 (ax_lf 13 (ao_ic (600) 3)) (ax_nd 16 (ax_lf 16 (ao_icmp_gt 58)) (ax_lf 19 (ao_al 0 1)))))) (ax_nd 31 (ax_nd 26 (ax_nd 20 (ax_lf 20 (ao_gi 5 6)) (ax_nd 23 (ax_lf 23 (ao_if_eq 58)) (ax_lf 26 (ao_al 0 1)))) (ax_nd 27 (ax_lf 27 (ao_il 2 1)) (ax_nd 28 (ax_lf 28 (ao_inv g 8 5 1 yX5_readLine cX5_readLine 4 (some .boolean) 2 0 0 0 0)) (ax_lf 31 (ao_if_ne 48))))) (ax_nd 36 (ax_nd 34 (ax_lf 34 (ao_al 0 1)) (ax_nd 35 (ax_lf 35 (ao_ic (1) 1)) (ax_lf 36 (ao_pi 5 4)))) (ax_nd 39 (ax_lf 39 (ao_al 0 1)) (ax_nd 40 (ax_lf 40 (ao_al 0 1)) (ax_lf 41 (ao_gi 5 7))))))) (ax_nd 69 (ax_nd 55 (ax_nd 48 (ax_nd 44 (ax_lf 44 (ao_pi 5 5)) (ax_nd 47 (ax_lf 47 (ao_vret 0 0)) (ax_lf 48 (ao_al 0 1)))) (ax_nd 49 (ax_lf 49 (ao_inv g 3 5 0 yX5_step cX5_step 1 none 1 0 0 0 0)) (ax_nd 52 (ax_lf 52 (ao_iinc 3 (1))) (ax_lf 55 (ao_goto 12))))) (ax_nd 62 (ax_nd 58 (ax_lf 58 (ao_al 0 1)) (ax_nd 59 (ax_lf 59 (ao_gi 5 12)) (ax_lf 62 (ao_al 0 1)))) (ax_nd 63 (ax_lf 63 (ao_gr 5 1)) (ax_nd 66 (ax_lf 66 (ao_gi 6 5)) (ax_lf 69 (ao_icmp_ge 86)))))) (ax_nd 83 (ax_nd 76 (ax_nd 72 (ax_lf 72 (ao_al 0 1)) (ax_nd 73 (ax_lf 73 (ao_gi 5 13)) (ax_lf 76 (ao_al 0 1)))) (ax_nd 77 (ax_lf 77 (ao_gr 5 1)) (ax_nd 80 (ax_lf 80 (ao_gi 6 6)) (ax_lf 83 (ao_icmp_lt 95))))) (ax_nd 88 (ax_nd 86 (ax_lf 86 (ao_al 0 1)) (ax_nd 87 (ax_lf 87 (ao_ic (4) 1)) (ax_lf 88 (ao_al 0 1)))) (ax_nd 89 (ax_lf 89 (ao_gi 5 11)) (ax_nd 92 (ax_lf 92 (ao_inv g 1 5 0 yX5_note cX5_note 3 none 3 0 0 0 0)) (ax_lf 95 (ao_vret 0 0)))))))
theorem oX5_read (g : ax_G) : ∀ pc, ax_ok g cX5_read 4 none RX5 "read" 9 0 0 pc (tX5_read g pc) := ax_nd_ok (ax_nd_ok (ax_nd_ok (ax_nd_ok (ax_nd_ok (ax_lf_ok (ak_aload_n rfl dX5_read_0)) (ax_nd_ok (ax_lf_ok (ak_iload_n rfl dX5_read_1)) (ax_lf_ok (ak_iload_n rfl dX5_read_2)))) (ax_nd_ok (ax_lf_ok (ak_invV (by decide) (by decide) (by decide) rfl wd_467 wd_469 wd_0 wd_100 wd_470 ⟨by decide, by decide, by decide +kernel⟩ dX5_read_3)) (ax_nd_ok (ax_lf_ok (ak_aload_n rfl dX5_read_6)) (ax_lf_ok (ak_invV (by decide) (by decide) (by decide) rfl wd_482 wd_484 wd_2 wd_100 wd_485 ⟨by decide, by decide, by decide +kernel⟩ dX5_read_7))))) (ax_nd_ok (ax_nd_ok (ax_lf_ok (ak_iconst (by decide) dX5_read_10)) (ax_nd_ok (ax_lf_ok (ak_istore_n rfl (by decide) dX5_read_11)) (ax_lf_ok (ak_iload_n rfl dX5_read_12)))) (ax_nd_ok (ax_lf_ok (ak_sipush (by decide) dX5_read_13)) (ax_nd_ok (ax_lf_ok (ak_icmp_gt (by decide) dX5_read_16)) (ax_lf_ok (ak_aload_n rfl dX5_read_19)))))) (ax_nd_ok (ax_nd_ok (ax_nd_ok (ax_lf_ok (ak_gi fF_X5_35 dX5_read_20)) (ax_nd_ok (ax_lf_ok (ak_if_eq (by decide) dX5_read_23)) (ax_lf_ok (ak_aload_n rfl dX5_read_26)))) (ax_nd_ok (ax_lf_ok (ak_iload_n rfl dX5_read_27)) (ax_nd_ok (ax_lf_ok (ak_invV (by decide) (by decide) (by decide) rfl wd_496 wd_498 wd_4 wd_100 wd_499 ⟨by decide, by decide, by decide +kernel⟩ dX5_read_28)) (ax_lf_ok (ak_if_ne (by decide) dX5_read_31))))) (ax_nd_ok (ax_nd_ok (ax_lf_ok (ak_aload_n rfl dX5_read_34)) (ax_nd_ok (ax_lf_ok (ak_iconst (by decide) dX5_read_35)) (ax_lf_ok (ak_pi fF_X5_28 fW_X5_28_a dX5_read_36)))) (ax_nd_ok (ax_lf_ok (ak_aload_n rfl dX5_read_39)) (ax_nd_ok (ax_lf_ok (ak_aload_n rfl dX5_read_40)) (ax_lf_ok (ak_gi fF_X5_38 dX5_read_41))))))) (ax_nd_ok (ax_nd_ok (ax_nd_ok (ax_nd_ok (ax_lf_ok (ak_pi fF_X5_32 fW_X5_32_a dX5_read_44)) (ax_nd_ok (ax_lf_ok (ak_vret rfl dX5_read_47)) (ax_lf_ok (ak_aload_n rfl dX5_read_48)))) (ax_nd_ok (ax_lf_ok (ak_invV (by decide) (by decide) (by decide) rfl wd_482 wd_484 wd_2 wd_100 wd_485 ⟨by decide, by decide, by decide +kernel⟩ dX5_read_49)) (ax_nd_ok (ax_lf_ok (ak_iinc (by decide) (by decide) dX5_read_52)) (ax_lf_ok (ak_goto (by decide) dX5_read_55))))) (ax_nd_ok (ax_nd_ok (ax_lf_ok (ak_aload_n rfl dX5_read_58)) (ax_nd_ok (ax_lf_ok (ak_gi fF_X5_53 dX5_read_59)) (ax_lf_ok (ak_aload_n rfl dX5_read_62)))) (ax_nd_ok (ax_lf_ok (ak_gr fF_X5_12 dX5_read_63)) (ax_nd_ok (ax_lf_ok (ak_gi fF_X5_77 dX5_read_66)) (ax_lf_ok (ak_icmp_ge (by decide) dX5_read_69)))))) (ax_nd_ok (ax_nd_ok (ax_nd_ok (ax_lf_ok (ak_aload_n rfl dX5_read_72)) (ax_nd_ok (ax_lf_ok (ak_gi fF_X5_56 dX5_read_73)) (ax_lf_ok (ak_aload_n rfl dX5_read_76)))) (ax_nd_ok (ax_lf_ok (ak_gr fF_X5_12 dX5_read_77)) (ax_nd_ok (ax_lf_ok (ak_gi fF_X5_80 dX5_read_80)) (ax_lf_ok (ak_icmp_lt (by decide) dX5_read_83))))) (ax_nd_ok (ax_nd_ok (ax_lf_ok (ak_aload_n rfl dX5_read_86)) (ax_nd_ok (ax_lf_ok (ak_iconst (by decide) dX5_read_87)) (ax_lf_ok (ak_aload_n rfl dX5_read_88)))) (ax_nd_ok (ax_lf_ok (ak_gi fF_X5_50 dX5_read_89)) (ax_nd_ok (ax_lf_ok (ak_invV (by decide) (by decide) (by decide) rfl wd_580 wd_582 wd_8 wd_100 wd_583 ⟨by decide, by decide, by decide +kernel⟩ dX5_read_92)) (ax_lf_ok (ak_vret rfl dX5_read_95)))))))
abbrev mX5_read (g : ax_G) (as : List Value) (h : ax_H) (Ret : Option Value → ax_H → Prop) : Prop := ax_M g 9 0 0 yX5_read cX5_read 4 none as h Ret
theorem dX5_begin_0 : decode cX5_begin 0 = .ok (.aload_n 0, 1) := by decide +kernel
theorem dX5_begin_1 : decode cX5_begin 1 = .ok (.iconst 0, 1) := by decide +kernel
theorem dX5_begin_2 : decode cX5_begin 2 = .ok (.iload_n 1, 1) := by decide +kernel
theorem dX5_begin_3 : decode cX5_begin 3 = .ok (.aload_n 0, 1) := by decide +kernel
theorem dX5_begin_4 : decode cX5_begin 4 = .ok (.getfield 59, 3) := by decide +kernel
theorem dX5_begin_7 : decode cX5_begin 7 = .ok (.arraylength, 1) := by decide +kernel
theorem dX5_begin_8 : decode cX5_begin 8 = .ok (.invokestatic 86, 3) := by decide +kernel
theorem dX5_begin_11 : decode cX5_begin 11 = .ok (.invokestatic 92, 3) := by decide +kernel
theorem dX5_begin_14 : decode cX5_begin 14 = .ok (.putfield 50, 3) := by decide +kernel
theorem dX5_begin_17 : decode cX5_begin 17 = .ok (.aload_n 0, 1) := by decide +kernel
theorem dX5_begin_18 : decode cX5_begin 18 = .ok (.iconst 0, 1) := by decide +kernel
theorem dX5_begin_19 : decode cX5_begin 19 = .ok (.putfield 41, 3) := by decide +kernel
theorem dX5_begin_22 : decode cX5_begin 22 = .ok (.aload_n 0, 1) := by decide +kernel
theorem dX5_begin_23 : decode cX5_begin 23 = .ok (.iconst 0, 1) := by decide +kernel
theorem dX5_begin_24 : decode cX5_begin 24 = .ok (.putfield 28, 3) := by decide +kernel
theorem dX5_begin_27 : decode cX5_begin 27 = .ok (.aload_n 0, 1) := by decide +kernel
theorem dX5_begin_28 : decode cX5_begin 28 = .ok (.iconst (-1), 1) := by decide +kernel
theorem dX5_begin_29 : decode cX5_begin 29 = .ok (.putfield 32, 3) := by decide +kernel
theorem dX5_begin_32 : decode cX5_begin 32 = .ok (.aload_n 0, 1) := by decide +kernel
theorem dX5_begin_33 : decode cX5_begin 33 = .ok (.iconst (-1), 1) := by decide +kernel
theorem dX5_begin_34 : decode cX5_begin 34 = .ok (.putfield 53, 3) := by decide +kernel
theorem dX5_begin_37 : decode cX5_begin 37 = .ok (.aload_n 0, 1) := by decide +kernel
theorem dX5_begin_38 : decode cX5_begin 38 = .ok (.iconst (-1), 1) := by decide +kernel
theorem dX5_begin_39 : decode cX5_begin 39 = .ok (.putfield 56, 3) := by decide +kernel
theorem dX5_begin_42 : decode cX5_begin 42 = .ok (.aload_n 0, 1) := by decide +kernel
theorem dX5_begin_43 : decode cX5_begin 43 = .ok (.getfield 12, 3) := by decide +kernel
theorem dX5_begin_46 : decode cX5_begin 46 = .ok (.invokevirtual 95, 3) := by decide +kernel
theorem dX5_begin_49 : decode cX5_begin 49 = .ok (.aload_n 0, 1) := by decide +kernel
theorem dX5_begin_50 : decode cX5_begin 50 = .ok (.iload_n 2, 1) := by decide +kernel
theorem dX5_begin_51 : decode cX5_begin 51 = .ok (.invokevirtual 98, 3) := by decide +kernel
theorem dX5_begin_54 : decode cX5_begin 54 = .ok (.astore_n 3, 1) := by decide +kernel
theorem dX5_begin_55 : decode cX5_begin 55 = .ok (.aload_n 3, 1) := by decide +kernel
theorem dX5_begin_56 : decode cX5_begin 56 = .ok (.ifnull 8, 3) := by decide +kernel
theorem dX5_begin_59 : decode cX5_begin 59 = .ok (.aload_n 3, 1) := by decide +kernel
theorem dX5_begin_60 : decode cX5_begin 60 = .ok (.iconst 0, 1) := by decide +kernel
theorem dX5_begin_61 : decode cX5_begin 61 = .ok (.putfield 102, 3) := by decide +kernel
theorem dX5_begin_64 : decode cX5_begin 64 = .ok (.return_, 1) := by decide +kernel
def tX5_begin (g : ax_G) : Nat → ax_O := ax_nd 29 (ax_nd 14 (ax_nd 3 (ax_nd 1 (ax_nd 0 (ax_lf 0 (ao_al 0 1)) (ax_lf 1 (ao_ic (0) 1))) (ax_nd 2 (ax_lf 2 (ao_il 1 1)) (ax_lf 3 (ao_al 0 1)))) (ax_nd 7 (ax_nd 4 (ax_lf 4 (ao_gr 5 0)) (ax_lf 7 (ao_alen 12))) (ax_nd 8 (ax_lf 8 ao_imin) (ax_nd 11 (ax_lf 11 ao_imax) (ax_lf 14 (ao_pi 5 11)))))) (ax_nd 22 (ax_nd 18 (ax_nd 17 (ax_lf 17 (ao_al 0 1)) (ax_lf 18 (ao_ic (0) 1))) (ax_nd 19 (ax_lf 19 (ao_pi 5 8)) (ax_lf 22 (ao_al 0 1)))) (ax_nd 24 (ax_nd 23 (ax_lf 23 (ao_ic (0) 1)) (ax_lf 24 (ao_pi 5 4))) (ax_nd 27 (ax_lf 27 (ao_al 0 1)) (ax_nd 28 (ax_lf 28 (ao_ic (-1) 1)) (ax_lf 29 (ao_pi 5 5))))))) (ax_nd 46 (ax_nd 37 (ax_nd 33 (ax_nd 32 (ax_lf 32 (ao_al 0 1)) (ax_lf 33 (ao_ic (-1) 1))) (ax_nd 34 (ax_lf 34 (ao_pi 5 12)) (ax_lf 37 (ao_al 0 1)))) (ax_nd 39 (ax_nd 38 (ax_lf 38 (ao_ic (-1) 1)) (ax_lf 39 (ao_pi 5 13))) (ax_nd 42 (ax_lf 42 (ao_al 0 1)) (ax_nd 43 (ax_lf 43 (ao_gr 5 1)) (ax_lf 46 (ao_inv g 1 6 0 yX6_clear cX6_clear 2 none 1 0 0 0 0)))))) (ax_nd 55 (ax_nd 50 (ax_nd 49 (ax_lf 49 (ao_al 0 1)) (ax_lf 50 (ao_il 2 1))) (ax_nd 51 (ax_lf 51 (ao_inv g 1 5 3 yX5_draftOf cX5_draftOf 2 (some (.object "GluedHour$Lines")) 2 0 0 0 0)) (ax_nd 54 (ax_lf 54 (ao_as 3 1)) (ax_lf 55 (ao_al 3 1))))) (ax_nd 59 (ax_nd 56 (ax_lf 56 (ao_ifnull 64)) (ax_lf 59 (ao_al 3 1))) (ax_nd 60 (ax_lf 60 (ao_ic (0) 1)) (ax_nd 61 (ax_lf 61 (ao_pi 2 3)) (ax_lf 64 (ao_vret 0 0)))))))
theorem oX5_begin (g : ax_G) : ∀ pc, ax_ok g cX5_begin 4 none RX5 "begin" 2 0 0 pc (tX5_begin g pc) := ax_nd_ok (ax_nd_ok (ax_nd_ok (ax_nd_ok (ax_nd_ok (ax_lf_ok (ak_aload_n rfl dX5_begin_0)) (ax_lf_ok (ak_iconst (by decide) dX5_begin_1))) (ax_nd_ok (ax_lf_ok (ak_iload_n rfl dX5_begin_2)) (ax_lf_ok (ak_aload_n rfl dX5_begin_3)))) (ax_nd_ok (ax_nd_ok (ax_lf_ok (ak_gr fF_X5_59 dX5_begin_4)) (ax_lf_ok (ak_alen (by decide) (by decide) (t0 := 1) rfl dX5_begin_7))) (ax_nd_ok (ax_lf_ok (ak_imin (by decide) wd_471 wd_472 wd_107 wd_473 dX5_begin_8)) (ax_nd_ok (ax_lf_ok (ak_imax (by decide) wd_474 wd_475 wd_107 wd_476 dX5_begin_11)) (ax_lf_ok (ak_pi fF_X5_50 fW_X5_50_a dX5_begin_14)))))) (ax_nd_ok (ax_nd_ok (ax_nd_ok (ax_lf_ok (ak_aload_n rfl dX5_begin_17)) (ax_lf_ok (ak_iconst (by decide) dX5_begin_18))) (ax_nd_ok (ax_lf_ok (ak_pi fF_X5_41 fW_X5_41_a dX5_begin_19)) (ax_lf_ok (ak_aload_n rfl dX5_begin_22)))) (ax_nd_ok (ax_nd_ok (ax_lf_ok (ak_iconst (by decide) dX5_begin_23)) (ax_lf_ok (ak_pi fF_X5_28 fW_X5_28_a dX5_begin_24))) (ax_nd_ok (ax_lf_ok (ak_aload_n rfl dX5_begin_27)) (ax_nd_ok (ax_lf_ok (ak_iconst (by decide) dX5_begin_28)) (ax_lf_ok (ak_pi fF_X5_32 fW_X5_32_a dX5_begin_29))))))) (ax_nd_ok (ax_nd_ok (ax_nd_ok (ax_nd_ok (ax_lf_ok (ak_aload_n rfl dX5_begin_32)) (ax_lf_ok (ak_iconst (by decide) dX5_begin_33))) (ax_nd_ok (ax_lf_ok (ak_pi fF_X5_53 fW_X5_53_a dX5_begin_34)) (ax_lf_ok (ak_aload_n rfl dX5_begin_37)))) (ax_nd_ok (ax_nd_ok (ax_lf_ok (ak_iconst (by decide) dX5_begin_38)) (ax_lf_ok (ak_pi fF_X5_56 fW_X5_56_a dX5_begin_39))) (ax_nd_ok (ax_lf_ok (ak_aload_n rfl dX5_begin_42)) (ax_nd_ok (ax_lf_ok (ak_gr fF_X5_12 dX5_begin_43)) (ax_lf_ok (ak_invV (by decide) (by decide) (by decide) rfl wd_477 wd_137 wd_138 wd_98 wd_139 ⟨by decide, by decide, by decide +kernel⟩ dX5_begin_46)))))) (ax_nd_ok (ax_nd_ok (ax_nd_ok (ax_lf_ok (ak_aload_n rfl dX5_begin_49)) (ax_lf_ok (ak_iload_n rfl dX5_begin_50))) (ax_nd_ok (ax_lf_ok (ak_invV (by decide) (by decide) (by decide) rfl wd_478 wd_480 wd_1 wd_100 wd_481 ⟨by decide, by decide, by decide +kernel⟩ dX5_begin_51)) (ax_nd_ok (ax_lf_ok (ak_astore_n rfl (by decide) dX5_begin_54)) (ax_lf_ok (ak_aload_n rfl dX5_begin_55))))) (ax_nd_ok (ax_nd_ok (ax_lf_ok (ak_ifnull (by decide) dX5_begin_56)) (ax_lf_ok (ak_aload_n rfl dX5_begin_59))) (ax_nd_ok (ax_lf_ok (ak_iconst (by decide) dX5_begin_60)) (ax_nd_ok (ax_lf_ok (ak_pi fF_X5_102 fW_X5_102_a dX5_begin_61)) (ax_lf_ok (ak_vret rfl dX5_begin_64)))))))
abbrev mX5_begin (g : ax_G) (as : List Value) (h : ax_H) (Ret : Option Value → ax_H → Prop) : Prop := ax_M g 2 0 0 yX5_begin cX5_begin 4 none as h Ret
theorem dX5_draftOf_0 : decode cX5_draftOf 0 = .ok (.iload_n 1, 1) := by decide +kernel
theorem dX5_draftOf_1 : decode cX5_draftOf 1 = .ok (.ifCond .lt 8, 3) := by decide +kernel
theorem dX5_draftOf_4 : decode cX5_draftOf 4 = .ok (.iload_n 1, 1) := by decide +kernel
theorem dX5_draftOf_5 : decode cX5_draftOf 5 = .ok (.iconst 5, 1) := by decide +kernel
theorem dX5_draftOf_6 : decode cX5_draftOf 6 = .ok (.if_icmp .lt 7, 3) := by decide +kernel
theorem dX5_draftOf_9 : decode cX5_draftOf 9 = .ok (.aconst_null, 1) := by decide +kernel
theorem dX5_draftOf_10 : decode cX5_draftOf 10 = .ok (.goto 9, 3) := by decide +kernel
theorem dX5_draftOf_13 : decode cX5_draftOf 13 = .ok (.aload_n 0, 1) := by decide +kernel
theorem dX5_draftOf_14 : decode cX5_draftOf 14 = .ok (.getfield 20, 3) := by decide +kernel
theorem dX5_draftOf_17 : decode cX5_draftOf 17 = .ok (.iload_n 1, 1) := by decide +kernel
theorem dX5_draftOf_18 : decode cX5_draftOf 18 = .ok (.aaload, 1) := by decide +kernel
theorem dX5_draftOf_19 : decode cX5_draftOf 19 = .ok (.areturn, 1) := by decide +kernel
def tX5_draftOf (g : ax_G) : Nat → ax_O := ax_nd 9 (ax_nd 4 (ax_nd 0 (ax_lf 0 (ao_il 1 1)) (ax_nd 1 (ax_lf 1 (ao_if_lt 9)) (ax_lf 4 (ao_il 1 1)))) (ax_nd 5 (ax_lf 5 (ao_ic (5) 1)) (ax_nd 6 (ax_lf 6 (ao_icmp_lt 13)) (ax_lf 9 ao_null)))) (ax_nd 14 (ax_nd 10 (ax_lf 10 (ao_goto 19)) (ax_nd 13 (ax_lf 13 (ao_al 0 1)) (ax_lf 14 (ao_gr 5 2)))) (ax_nd 17 (ax_lf 17 (ao_il 1 1)) (ax_nd 18 (ax_lf 18 (ao_aald 15)) (ax_lf 19 (ao_aret 0 0)))))
theorem oX5_draftOf (g : ax_G) : ∀ pc, ax_ok g cX5_draftOf 2 (some (.object "GluedHour$Lines")) RX5 "draftOf" 1 0 0 pc (tX5_draftOf g pc) := ax_nd_ok (ax_nd_ok (ax_nd_ok (ax_lf_ok (ak_iload_n rfl dX5_draftOf_0)) (ax_nd_ok (ax_lf_ok (ak_if_lt (by decide) dX5_draftOf_1)) (ax_lf_ok (ak_iload_n rfl dX5_draftOf_4)))) (ax_nd_ok (ax_lf_ok (ak_iconst (by decide) dX5_draftOf_5)) (ax_nd_ok (ax_lf_ok (ak_icmp_lt (by decide) dX5_draftOf_6)) (ax_lf_ok (ak_null dX5_draftOf_9))))) (ax_nd_ok (ax_nd_ok (ax_lf_ok (ak_goto (by decide) dX5_draftOf_10)) (ax_nd_ok (ax_lf_ok (ak_aload_n rfl dX5_draftOf_13)) (ax_lf_ok (ak_gr fF_X5_20 dX5_draftOf_14)))) (ax_nd_ok (ax_lf_ok (ak_iload_n rfl dX5_draftOf_17)) (ax_nd_ok (ax_lf_ok (ak_aald (by decide) (by decide) (t0 := 4) rfl dX5_draftOf_18)) (ax_lf_ok (ak_aret rfl (Or.inl ⟨_, rfl⟩) dX5_draftOf_19)))))
abbrev mX5_draftOf (g : ax_G) (as : List Value) (h : ax_H) (Ret : Option Value → ax_H → Prop) : Prop := ax_M g 1 0 0 yX5_draftOf cX5_draftOf 2 (some (.object "GluedHour$Lines")) as h Ret
theorem dX5_note_0 : decode cX5_note 0 = .ok (.aload_n 0, 1) := by decide +kernel
theorem dX5_note_1 : decode cX5_note 1 = .ok (.getfield 28, 3) := by decide +kernel
theorem dX5_note_4 : decode cX5_note 4 = .ok (.ifCond .ne 13, 3) := by decide +kernel
theorem dX5_note_7 : decode cX5_note 7 = .ok (.aload_n 0, 1) := by decide +kernel
theorem dX5_note_8 : decode cX5_note 8 = .ok (.iload_n 1, 1) := by decide +kernel
theorem dX5_note_9 : decode cX5_note 9 = .ok (.putfield 28, 3) := by decide +kernel
theorem dX5_note_12 : decode cX5_note 12 = .ok (.aload_n 0, 1) := by decide +kernel
theorem dX5_note_13 : decode cX5_note 13 = .ok (.iload_n 2, 1) := by decide +kernel
theorem dX5_note_14 : decode cX5_note 14 = .ok (.putfield 32, 3) := by decide +kernel
theorem dX5_note_17 : decode cX5_note 17 = .ok (.return_, 1) := by decide +kernel
def tX5_note (g : ax_G) : Nat → ax_O := ax_nd 8 (ax_nd 1 (ax_nd 0 (ax_lf 0 (ao_al 0 1)) (ax_lf 1 (ao_gi 5 4))) (ax_nd 4 (ax_lf 4 (ao_if_ne 17)) (ax_nd 7 (ax_lf 7 (ao_al 0 1)) (ax_lf 8 (ao_il 1 1))))) (ax_nd 12 (ax_nd 9 (ax_lf 9 (ao_pi 5 4)) (ax_lf 12 (ao_al 0 1))) (ax_nd 13 (ax_lf 13 (ao_il 2 1)) (ax_nd 14 (ax_lf 14 (ao_pi 5 5)) (ax_lf 17 (ao_vret 0 0)))))
theorem oX5_note (g : ax_G) : ∀ pc, ax_ok g cX5_note 3 none RX5 "note" 1 0 0 pc (tX5_note g pc) := ax_nd_ok (ax_nd_ok (ax_nd_ok (ax_lf_ok (ak_aload_n rfl dX5_note_0)) (ax_lf_ok (ak_gi fF_X5_28 dX5_note_1))) (ax_nd_ok (ax_lf_ok (ak_if_ne (by decide) dX5_note_4)) (ax_nd_ok (ax_lf_ok (ak_aload_n rfl dX5_note_7)) (ax_lf_ok (ak_iload_n rfl dX5_note_8))))) (ax_nd_ok (ax_nd_ok (ax_lf_ok (ak_pi fF_X5_28 fW_X5_28_a dX5_note_9)) (ax_lf_ok (ak_aload_n rfl dX5_note_12))) (ax_nd_ok (ax_lf_ok (ak_iload_n rfl dX5_note_13)) (ax_nd_ok (ax_lf_ok (ak_pi fF_X5_32 fW_X5_32_a dX5_note_14)) (ax_lf_ok (ak_vret rfl dX5_note_17)))))
abbrev mX5_note (g : ax_G) (as : List Value) (h : ax_H) (Ret : Option Value → ax_H → Prop) : Prop := ax_M g 1 0 0 yX5_note cX5_note 3 none as h Ret
theorem dX5_readLine_0 : decode cX5_readLine 0 = .ok (.aload_n 0, 1) := by decide +kernel
theorem dX5_readLine_1 : decode cX5_readLine 1 = .ok (.iload_n 1, 1) := by decide +kernel
theorem dX5_readLine_2 : decode cX5_readLine 2 = .ok (.invokevirtual 105, 3) := by decide +kernel
theorem dX5_readLine_5 : decode cX5_readLine 5 = .ok (.istore_n 2, 1) := by decide +kernel
theorem dX5_readLine_6 : decode cX5_readLine 6 = .ok (.iload_n 2, 1) := by decide +kernel
theorem dX5_readLine_7 : decode cX5_readLine 7 = .ok (.iconst (-1), 1) := by decide +kernel
theorem dX5_readLine_8 : decode cX5_readLine 8 = .ok (.if_icmp .ne 5, 3) := by decide +kernel
theorem dX5_readLine_11 : decode cX5_readLine 11 = .ok (.iconst 0, 1) := by decide +kernel
theorem dX5_readLine_12 : decode cX5_readLine 12 = .ok (.ireturn, 1) := by decide +kernel
theorem dX5_readLine_13 : decode cX5_readLine 13 = .ok (.aload_n 0, 1) := by decide +kernel
theorem dX5_readLine_14 : decode cX5_readLine 14 = .ok (.iload_n 2, 1) := by decide +kernel
theorem dX5_readLine_15 : decode cX5_readLine 15 = .ok (.invokevirtual 109, 3) := by decide +kernel
theorem dX5_readLine_18 : decode cX5_readLine 18 = .ok (.ifCond .eq 12, 3) := by decide +kernel
theorem dX5_readLine_21 : decode cX5_readLine 21 = .ok (.aload_n 0, 1) := by decide +kernel
theorem dX5_readLine_22 : decode cX5_readLine 22 = .ok (.iconst 3, 1) := by decide +kernel
theorem dX5_readLine_23 : decode cX5_readLine 23 = .ok (.aload_n 0, 1) := by decide +kernel
theorem dX5_readLine_24 : decode cX5_readLine 24 = .ok (.getfield 38, 3) := by decide +kernel
theorem dX5_readLine_27 : decode cX5_readLine 27 = .ok (.invokevirtual 83, 3) := by decide +kernel
theorem dX5_readLine_30 : decode cX5_readLine 30 = .ok (.iconst 0, 1) := by decide +kernel
theorem dX5_readLine_31 : decode cX5_readLine 31 = .ok (.istore_n 3, 1) := by decide +kernel
theorem dX5_readLine_32 : decode cX5_readLine 32 = .ok (.iload_n 3, 1) := by decide +kernel
theorem dX5_readLine_33 : decode cX5_readLine 33 = .ok (.getstatic 112, 3) := by decide +kernel
theorem dX5_readLine_36 : decode cX5_readLine 36 = .ok (.iload_n 2, 1) := by decide +kernel
theorem dX5_readLine_37 : decode cX5_readLine 37 = .ok (.iaload, 1) := by decide +kernel
theorem dX5_readLine_38 : decode cX5_readLine 38 = .ok (.if_icmp .ge 39, 3) := by decide +kernel
theorem dX5_readLine_41 : decode cX5_readLine 41 = .ok (.aload_n 0, 1) := by decide +kernel
theorem dX5_readLine_42 : decode cX5_readLine 42 = .ok (.invokevirtual 70, 3) := by decide +kernel
theorem dX5_readLine_45 : decode cX5_readLine 45 = .ok (.aload_n 0, 1) := by decide +kernel
theorem dX5_readLine_46 : decode cX5_readLine 46 = .ok (.getfield 35, 3) := by decide +kernel
theorem dX5_readLine_49 : decode cX5_readLine 49 = .ok (.iconst 2, 1) := by decide +kernel
theorem dX5_readLine_50 : decode cX5_readLine 50 = .ok (.if_icmp .eq 5, 3) := by decide +kernel
theorem dX5_readLine_53 : decode cX5_readLine 53 = .ok (.iconst 0, 1) := by decide +kernel
theorem dX5_readLine_54 : decode cX5_readLine 54 = .ok (.ireturn, 1) := by decide +kernel
theorem dX5_readLine_55 : decode cX5_readLine 55 = .ok (.aload_n 0, 1) := by decide +kernel
theorem dX5_readLine_56 : decode cX5_readLine 56 = .ok (.iload_n 2, 1) := by decide +kernel
theorem dX5_readLine_57 : decode cX5_readLine 57 = .ok (.iload_n 3, 1) := by decide +kernel
theorem dX5_readLine_58 : decode cX5_readLine 58 = .ok (.invokevirtual 115, 3) := by decide +kernel
theorem dX5_readLine_61 : decode cX5_readLine 61 = .ok (.aload_n 0, 1) := by decide +kernel
theorem dX5_readLine_62 : decode cX5_readLine 62 = .ok (.getfield 24, 3) := by decide +kernel
theorem dX5_readLine_65 : decode cX5_readLine 65 = .ok (.iload_n 3, 1) := by decide +kernel
theorem dX5_readLine_66 : decode cX5_readLine 66 = .ok (.aload_n 0, 1) := by decide +kernel
theorem dX5_readLine_67 : decode cX5_readLine 67 = .ok (.getfield 44, 3) := by decide +kernel
theorem dX5_readLine_70 : decode cX5_readLine 70 = .ok (.iastore, 1) := by decide +kernel
theorem dX5_readLine_71 : decode cX5_readLine 71 = .ok (.iinc 3 1, 3) := by decide +kernel
theorem dX5_readLine_74 : decode cX5_readLine 74 = .ok (.goto (-42), 3) := by decide +kernel
theorem dX5_readLine_77 : decode cX5_readLine 77 = .ok (.iload_n 2, 1) := by decide +kernel
theorem dX5_readLine_78 : decode cX5_readLine 78 = .ok (.iconst 1, 1) := by decide +kernel
theorem dX5_readLine_79 : decode cX5_readLine 79 = .ok (.if_icmp .eq 8, 3) := by decide +kernel
theorem dX5_readLine_82 : decode cX5_readLine 82 = .ok (.iload_n 2, 1) := by decide +kernel
theorem dX5_readLine_83 : decode cX5_readLine 83 = .ok (.iconst 2, 1) := by decide +kernel
theorem dX5_readLine_84 : decode cX5_readLine 84 = .ok (.if_icmp .ne 12, 3) := by decide +kernel
theorem dX5_readLine_87 : decode cX5_readLine 87 = .ok (.aload_n 0, 1) := by decide +kernel
theorem dX5_readLine_88 : decode cX5_readLine 88 = .ok (.invokevirtual 118, 3) := by decide +kernel
theorem dX5_readLine_91 : decode cX5_readLine 91 = .ok (.ifCond .ne 5, 3) := by decide +kernel
theorem dX5_readLine_94 : decode cX5_readLine 94 = .ok (.iconst 0, 1) := by decide +kernel
theorem dX5_readLine_95 : decode cX5_readLine 95 = .ok (.ireturn, 1) := by decide +kernel
theorem dX5_readLine_96 : decode cX5_readLine 96 = .ok (.aload_n 0, 1) := by decide +kernel
theorem dX5_readLine_97 : decode cX5_readLine 97 = .ok (.invokevirtual 70, 3) := by decide +kernel
theorem dX5_readLine_100 : decode cX5_readLine 100 = .ok (.aload_n 0, 1) := by decide +kernel
theorem dX5_readLine_101 : decode cX5_readLine 101 = .ok (.getfield 35, 3) := by decide +kernel
theorem dX5_readLine_104 : decode cX5_readLine 104 = .ok (.iconst 3, 1) := by decide +kernel
theorem dX5_readLine_105 : decode cX5_readLine 105 = .ok (.if_icmp .eq 5, 3) := by decide +kernel
theorem dX5_readLine_108 : decode cX5_readLine 108 = .ok (.iconst 0, 1) := by decide +kernel
theorem dX5_readLine_109 : decode cX5_readLine 109 = .ok (.ireturn, 1) := by decide +kernel
theorem dX5_readLine_110 : decode cX5_readLine 110 = .ok (.aload_n 0, 1) := by decide +kernel
theorem dX5_readLine_111 : decode cX5_readLine 111 = .ok (.getfield 28, 3) := by decide +kernel
theorem dX5_readLine_114 : decode cX5_readLine 114 = .ok (.ifCond .ne 8, 3) := by decide +kernel
theorem dX5_readLine_117 : decode cX5_readLine 117 = .ok (.aload_n 0, 1) := by decide +kernel
theorem dX5_readLine_118 : decode cX5_readLine 118 = .ok (.iload_n 2, 1) := by decide +kernel
theorem dX5_readLine_119 : decode cX5_readLine 119 = .ok (.invokevirtual 122, 3) := by decide +kernel
theorem dX5_readLine_122 : decode cX5_readLine 122 = .ok (.iconst 1, 1) := by decide +kernel
theorem dX5_readLine_123 : decode cX5_readLine 123 = .ok (.ireturn, 1) := by decide +kernel
def tX5_readLine (g : ax_G) : Nat → ax_O := ax_nd 57 (ax_nd 27 (ax_nd 12 (ax_nd 5 (ax_nd 1 (ax_nd 0 (ax_lf 0 (ao_al 0 1)) (ax_lf 1 (ao_il 1 1))) (ax_nd 2 (ax_lf 2 (ao_inv g 7 5 1 yX5_verbOf cX5_verbOf 3 (some .int) 2 0 0 0 0)) (ax_lf 5 (ao_is 2 1)))) (ax_nd 7 (ax_nd 6 (ax_lf 6 (ao_il 2 1)) (ax_lf 7 (ao_ic (-1) 1))) (ax_nd 8 (ax_lf 8 (ao_icmp_ne 13)) (ax_nd 11 (ax_lf 11 (ao_ic (0) 1)) (ax_lf 12 (ao_zret 0 0)))))) (ax_nd 18 (ax_nd 14 (ax_nd 13 (ax_lf 13 (ao_al 0 1)) (ax_lf 14 (ao_il 2 1))) (ax_nd 15 (ax_lf 15 (ao_inv g 2 5 1 yX5_isOneTooMany cX5_isOneTooMany 3 (some .boolean) 2 0 0 0 0)) (ax_lf 18 (ao_if_eq 30)))) (ax_nd 22 (ax_nd 21 (ax_lf 21 (ao_al 0 1)) (ax_lf 22 (ao_ic (3) 1))) (ax_nd 23 (ax_lf 23 (ao_al 0 1)) (ax_nd 24 (ax_lf 24 (ao_gi 5 7)) (ax_lf 27 (ao_inv g 1 5 0 yX5_note cX5_note 3 none 3 0 0 0 0))))))) (ax_nd 42 (ax_nd 33 (ax_nd 31 (ax_nd 30 (ax_lf 30 (ao_ic (0) 1)) (ax_lf 31 (ao_is 3 1))) (ax_nd 32 (ax_lf 32 (ao_il 3 1)) (ax_lf 33 (ao_gs 3)))) (ax_nd 37 (ax_nd 36 (ax_lf 36 (ao_il 2 1)) (ax_lf 37 (ao_sald 3 [1, 2, 2, 1, 3, 3, 1, 3, 2, 3, 3]))) (ax_nd 38 (ax_lf 38 (ao_icmp_ge 77)) (ax_nd 41 (ax_lf 41 (ao_al 0 1)) (ax_lf 42 (ao_inv g 3 5 0 yX5_step cX5_step 1 none 1 0 0 0 0)))))) (ax_nd 50 (ax_nd 46 (ax_nd 45 (ax_lf 45 (ao_al 0 1)) (ax_lf 46 (ao_gi 5 6))) (ax_nd 49 (ax_lf 49 (ao_ic (2) 1)) (ax_lf 50 (ao_icmp_eq 55)))) (ax_nd 54 (ax_nd 53 (ax_lf 53 (ao_ic (0) 1)) (ax_lf 54 (ao_zret 0 0))) (ax_nd 55 (ax_lf 55 (ao_al 0 1)) (ax_nd 56 (ax_lf 56 (ao_il 2 1)) (ax_lf 57 (ao_il 3 1)))))))) (ax_nd 91 (ax_nd 74 (ax_nd 65 (ax_nd 61 (ax_nd 58 (ax_lf 58 (ao_inv g 2 5 0 yX5_checkNumber cX5_checkNumber 4 none 3 0 0 0 0)) (ax_lf 61 (ao_al 0 1))) (ax_nd 62 (ax_lf 62 (ao_gr 5 3)) (ax_lf 65 (ao_il 3 1)))) (ax_nd 67 (ax_nd 66 (ax_lf 66 (ao_al 0 1)) (ax_lf 67 (ao_gi 5 9))) (ax_nd 70 (ax_lf 70 ao_iast) (ax_nd 71 (ax_lf 71 (ao_iinc 3 (1))) (ax_lf 74 (ao_goto 32)))))) (ax_nd 82 (ax_nd 78 (ax_nd 77 (ax_lf 77 (ao_il 2 1)) (ax_lf 78 (ao_ic (1) 1))) (ax_nd 79 (ax_lf 79 (ao_icmp_eq 87)) (ax_lf 82 (ao_il 2 1)))) (ax_nd 84 (ax_nd 83 (ax_lf 83 (ao_ic (2) 1)) (ax_lf 84 (ao_icmp_ne 96))) (ax_nd 87 (ax_lf 87 (ao_al 0 1)) (ax_nd 88 (ax_lf 88 (ao_inv g 7 5 1 yX5_readMode cX5_readMode 1 (some .boolean) 1 0 0 0 0)) (ax_lf 91 (ao_if_ne 96))))))) (ax_nd 108 (ax_nd 97 (ax_nd 95 (ax_nd 94 (ax_lf 94 (ao_ic (0) 1)) (ax_lf 95 (ao_zret 0 0))) (ax_nd 96 (ax_lf 96 (ao_al 0 1)) (ax_lf 97 (ao_inv g 3 5 0 yX5_step cX5_step 1 none 1 0 0 0 0)))) (ax_nd 101 (ax_nd 100 (ax_lf 100 (ao_al 0 1)) (ax_lf 101 (ao_gi 5 6))) (ax_nd 104 (ax_lf 104 (ao_ic (3) 1)) (ax_nd 105 (ax_lf 105 (ao_icmp_eq 110)) (ax_lf 108 (ao_ic (0) 1)))))) (ax_nd 114 (ax_nd 110 (ax_nd 109 (ax_lf 109 (ao_zret 0 0)) (ax_lf 110 (ao_al 0 1))) (ax_nd 111 (ax_lf 111 (ao_gi 5 4)) (ax_lf 114 (ao_if_ne 122)))) (ax_nd 118 (ax_nd 117 (ax_lf 117 (ao_al 0 1)) (ax_lf 118 (ao_il 2 1))) (ax_nd 119 (ax_lf 119 (ao_inv g 4 5 0 yX5_tell cX5_tell 3 none 2 0 0 0 0)) (ax_nd 122 (ax_lf 122 (ao_ic (1) 1)) (ax_lf 123 (ao_zret 0 0))))))))
theorem oX5_readLine (g : ax_G) : ∀ pc, ax_ok g cX5_readLine 4 (some .boolean) RX5 "readLine" 8 0 0 pc (tX5_readLine g pc) := ax_nd_ok (ax_nd_ok (ax_nd_ok (ax_nd_ok (ax_nd_ok (ax_nd_ok (ax_lf_ok (ak_aload_n rfl dX5_readLine_0)) (ax_lf_ok (ak_iload_n rfl dX5_readLine_1))) (ax_nd_ok (ax_lf_ok (ak_invV (by decide) (by decide) (by decide) rfl wd_500 wd_502 wd_5 wd_100 wd_503 ⟨by decide, by decide, by decide +kernel⟩ dX5_readLine_2)) (ax_lf_ok (ak_istore_n rfl (by decide) dX5_readLine_5)))) (ax_nd_ok (ax_nd_ok (ax_lf_ok (ak_iload_n rfl dX5_readLine_6)) (ax_lf_ok (ak_iconst (by decide) dX5_readLine_7))) (ax_nd_ok (ax_lf_ok (ak_icmp_ne (by decide) dX5_readLine_8)) (ax_nd_ok (ax_lf_ok (ak_iconst (by decide) dX5_readLine_11)) (ax_lf_ok (ak_zret rfl dX5_readLine_12)))))) (ax_nd_ok (ax_nd_ok (ax_nd_ok (ax_lf_ok (ak_aload_n rfl dX5_readLine_13)) (ax_lf_ok (ak_iload_n rfl dX5_readLine_14))) (ax_nd_ok (ax_lf_ok (ak_invV (by decide) (by decide) (by decide) rfl wd_572 wd_574 wd_7 wd_100 wd_575 ⟨by decide, by decide, by decide +kernel⟩ dX5_readLine_15)) (ax_lf_ok (ak_if_eq (by decide) dX5_readLine_18)))) (ax_nd_ok (ax_nd_ok (ax_lf_ok (ak_aload_n rfl dX5_readLine_21)) (ax_lf_ok (ak_iconst (by decide) dX5_readLine_22))) (ax_nd_ok (ax_lf_ok (ak_aload_n rfl dX5_readLine_23)) (ax_nd_ok (ax_lf_ok (ak_gi fF_X5_38 dX5_readLine_24)) (ax_lf_ok (ak_invV (by decide) (by decide) (by decide) rfl wd_580 wd_582 wd_8 wd_100 wd_583 ⟨by decide, by decide, by decide +kernel⟩ dX5_readLine_27))))))) (ax_nd_ok (ax_nd_ok (ax_nd_ok (ax_nd_ok (ax_lf_ok (ak_iconst (by decide) dX5_readLine_30)) (ax_lf_ok (ak_istore_n rfl (by decide) dX5_readLine_31))) (ax_nd_ok (ax_lf_ok (ak_iload_n rfl dX5_readLine_32)) (ax_lf_ok (ak_gs (j := 3) rfl wd_584 dX5_readLine_33)))) (ax_nd_ok (ax_nd_ok (ax_lf_ok (ak_iload_n rfl dX5_readLine_36)) (ax_lf_ok (ak_sald (j := 3) rfl dX5_readLine_37))) (ax_nd_ok (ax_lf_ok (ak_icmp_ge (by decide) dX5_readLine_38)) (ax_nd_ok (ax_lf_ok (ak_aload_n rfl dX5_readLine_41)) (ax_lf_ok (ak_invV (by decide) (by decide) (by decide) rfl wd_482 wd_484 wd_2 wd_100 wd_485 ⟨by decide, by decide, by decide +kernel⟩ dX5_readLine_42)))))) (ax_nd_ok (ax_nd_ok (ax_nd_ok (ax_lf_ok (ak_aload_n rfl dX5_readLine_45)) (ax_lf_ok (ak_gi fF_X5_35 dX5_readLine_46))) (ax_nd_ok (ax_lf_ok (ak_iconst (by decide) dX5_readLine_49)) (ax_lf_ok (ak_icmp_eq (by decide) dX5_readLine_50)))) (ax_nd_ok (ax_nd_ok (ax_lf_ok (ak_iconst (by decide) dX5_readLine_53)) (ax_lf_ok (ak_zret rfl dX5_readLine_54))) (ax_nd_ok (ax_lf_ok (ak_aload_n rfl dX5_readLine_55)) (ax_nd_ok (ax_lf_ok (ak_iload_n rfl dX5_readLine_56)) (ax_lf_ok (ak_iload_n rfl dX5_readLine_57)))))))) (ax_nd_ok (ax_nd_ok (ax_nd_ok (ax_nd_ok (ax_nd_ok (ax_lf_ok (ak_invV (by decide) (by decide) (by decide) rfl wd_586 wd_588 wd_9 wd_100 wd_589 ⟨by decide, by decide, by decide +kernel⟩ dX5_readLine_58)) (ax_lf_ok (ak_aload_n rfl dX5_readLine_61))) (ax_nd_ok (ax_lf_ok (ak_gr fF_X5_24 dX5_readLine_62)) (ax_lf_ok (ak_iload_n rfl dX5_readLine_65)))) (ax_nd_ok (ax_nd_ok (ax_lf_ok (ak_aload_n rfl dX5_readLine_66)) (ax_lf_ok (ak_gi fF_X5_44 dX5_readLine_67))) (ax_nd_ok (ax_lf_ok (ak_iast dX5_readLine_70)) (ax_nd_ok (ax_lf_ok (ak_iinc (by decide) (by decide) dX5_readLine_71)) (ax_lf_ok (ak_goto (by decide) dX5_readLine_74)))))) (ax_nd_ok (ax_nd_ok (ax_nd_ok (ax_lf_ok (ak_iload_n rfl dX5_readLine_77)) (ax_lf_ok (ak_iconst (by decide) dX5_readLine_78))) (ax_nd_ok (ax_lf_ok (ak_icmp_eq (by decide) dX5_readLine_79)) (ax_lf_ok (ak_iload_n rfl dX5_readLine_82)))) (ax_nd_ok (ax_nd_ok (ax_lf_ok (ak_iconst (by decide) dX5_readLine_83)) (ax_lf_ok (ak_icmp_ne (by decide) dX5_readLine_84))) (ax_nd_ok (ax_lf_ok (ak_aload_n rfl dX5_readLine_87)) (ax_nd_ok (ax_lf_ok (ak_invV (by decide) (by decide) (by decide) rfl wd_594 wd_596 wd_10 wd_100 wd_597 ⟨by decide, by decide, by decide +kernel⟩ dX5_readLine_88)) (ax_lf_ok (ak_if_ne (by decide) dX5_readLine_91))))))) (ax_nd_ok (ax_nd_ok (ax_nd_ok (ax_nd_ok (ax_lf_ok (ak_iconst (by decide) dX5_readLine_94)) (ax_lf_ok (ak_zret rfl dX5_readLine_95))) (ax_nd_ok (ax_lf_ok (ak_aload_n rfl dX5_readLine_96)) (ax_lf_ok (ak_invV (by decide) (by decide) (by decide) rfl wd_482 wd_484 wd_2 wd_100 wd_485 ⟨by decide, by decide, by decide +kernel⟩ dX5_readLine_97)))) (ax_nd_ok (ax_nd_ok (ax_lf_ok (ak_aload_n rfl dX5_readLine_100)) (ax_lf_ok (ak_gi fF_X5_35 dX5_readLine_101))) (ax_nd_ok (ax_lf_ok (ak_iconst (by decide) dX5_readLine_104)) (ax_nd_ok (ax_lf_ok (ak_icmp_eq (by decide) dX5_readLine_105)) (ax_lf_ok (ak_iconst (by decide) dX5_readLine_108)))))) (ax_nd_ok (ax_nd_ok (ax_nd_ok (ax_lf_ok (ak_zret rfl dX5_readLine_109)) (ax_lf_ok (ak_aload_n rfl dX5_readLine_110))) (ax_nd_ok (ax_lf_ok (ak_gi fF_X5_28 dX5_readLine_111)) (ax_lf_ok (ak_if_ne (by decide) dX5_readLine_114)))) (ax_nd_ok (ax_nd_ok (ax_lf_ok (ak_aload_n rfl dX5_readLine_117)) (ax_lf_ok (ak_iload_n rfl dX5_readLine_118))) (ax_nd_ok (ax_lf_ok (ak_invV (by decide) (by decide) (by decide) rfl wd_601 wd_603 wd_11 wd_100 wd_604 ⟨by decide, by decide, by decide +kernel⟩ dX5_readLine_119)) (ax_nd_ok (ax_lf_ok (ak_iconst (by decide) dX5_readLine_122)) (ax_lf_ok (ak_zret rfl dX5_readLine_123))))))))
abbrev mX5_readLine (g : ax_G) (as : List Value) (h : ax_H) (Ret : Option Value → ax_H → Prop) : Prop := ax_M g 8 0 0 yX5_readLine cX5_readLine 4 (some .boolean) as h Ret
theorem dX5_readMode_0 : decode cX5_readMode 0 = .ok (.aload_n 0, 1) := by decide +kernel
theorem dX5_readMode_1 : decode cX5_readMode 1 = .ok (.invokevirtual 70, 3) := by decide +kernel
theorem dX5_readMode_4 : decode cX5_readMode 4 = .ok (.aload_n 0, 1) := by decide +kernel
theorem dX5_readMode_5 : decode cX5_readMode 5 = .ok (.ldc 125, 2) := by decide +kernel
theorem dX5_readMode_7 : decode cX5_readMode 7 = .ok (.invokevirtual 127, 3) := by decide +kernel
theorem dX5_readMode_10 : decode cX5_readMode 10 = .ok (.ifCond .eq 11, 3) := by decide +kernel
theorem dX5_readMode_13 : decode cX5_readMode 13 = .ok (.aload_n 0, 1) := by decide +kernel
theorem dX5_readMode_14 : decode cX5_readMode 14 = .ok (.iconst 0, 1) := by decide +kernel
theorem dX5_readMode_15 : decode cX5_readMode 15 = .ok (.putfield 47, 3) := by decide +kernel
theorem dX5_readMode_18 : decode cX5_readMode 18 = .ok (.goto 39, 3) := by decide +kernel
theorem dX5_readMode_21 : decode cX5_readMode 21 = .ok (.aload_n 0, 1) := by decide +kernel
theorem dX5_readMode_22 : decode cX5_readMode 22 = .ok (.ldc 131, 2) := by decide +kernel
theorem dX5_readMode_24 : decode cX5_readMode 24 = .ok (.invokevirtual 127, 3) := by decide +kernel
theorem dX5_readMode_27 : decode cX5_readMode 27 = .ok (.ifCond .eq 11, 3) := by decide +kernel
theorem dX5_readMode_30 : decode cX5_readMode 30 = .ok (.aload_n 0, 1) := by decide +kernel
theorem dX5_readMode_31 : decode cX5_readMode 31 = .ok (.iconst 1, 1) := by decide +kernel
theorem dX5_readMode_32 : decode cX5_readMode 32 = .ok (.putfield 47, 3) := by decide +kernel
theorem dX5_readMode_35 : decode cX5_readMode 35 = .ok (.goto 22, 3) := by decide +kernel
theorem dX5_readMode_38 : decode cX5_readMode 38 = .ok (.aload_n 0, 1) := by decide +kernel
theorem dX5_readMode_39 : decode cX5_readMode 39 = .ok (.ldc 133, 2) := by decide +kernel
theorem dX5_readMode_41 : decode cX5_readMode 41 = .ok (.invokevirtual 127, 3) := by decide +kernel
theorem dX5_readMode_44 : decode cX5_readMode 44 = .ok (.ifCond .eq 11, 3) := by decide +kernel
theorem dX5_readMode_47 : decode cX5_readMode 47 = .ok (.aload_n 0, 1) := by decide +kernel
theorem dX5_readMode_48 : decode cX5_readMode 48 = .ok (.iconst 2, 1) := by decide +kernel
theorem dX5_readMode_49 : decode cX5_readMode 49 = .ok (.putfield 47, 3) := by decide +kernel
theorem dX5_readMode_52 : decode cX5_readMode 52 = .ok (.goto 5, 3) := by decide +kernel
theorem dX5_readMode_55 : decode cX5_readMode 55 = .ok (.iconst 0, 1) := by decide +kernel
theorem dX5_readMode_56 : decode cX5_readMode 56 = .ok (.ireturn, 1) := by decide +kernel
theorem dX5_readMode_57 : decode cX5_readMode 57 = .ok (.iconst 1, 1) := by decide +kernel
theorem dX5_readMode_58 : decode cX5_readMode 58 = .ok (.ireturn, 1) := by decide +kernel
def tX5_readMode (g : ax_G) : Nat → ax_O := ax_nd 30 (ax_nd 13 (ax_nd 4 (ax_nd 0 (ax_lf 0 (ao_al 0 1)) (ax_nd 1 (ax_lf 1 (ao_inv g 3 5 0 yX5_step cX5_step 1 none 1 0 0 0 0)) (ax_lf 4 (ao_al 0 1)))) (ax_nd 7 (ax_nd 5 (ax_lf 5 (ao_ldcs 0)) (ax_lf 7 (ao_inv g 6 5 1 yX5_isWord cX5_isWord 3 (some .boolean) 2 0 0 0 0))) (ax_nd 10 (ax_lf 10 (ao_if_eq 21)) (ax_lf 13 (ao_al 0 1))))) (ax_nd 21 (ax_nd 15 (ax_nd 14 (ax_lf 14 (ao_ic (0) 1)) (ax_lf 15 (ao_pi 5 10))) (ax_nd 18 (ax_lf 18 (ao_goto 57)) (ax_lf 21 (ao_al 0 1)))) (ax_nd 24 (ax_nd 22 (ax_lf 22 (ao_ldcs 1)) (ax_lf 24 (ao_inv g 6 5 1 yX5_isWord cX5_isWord 3 (some .boolean) 2 0 0 0 0))) (ax_nd 27 (ax_lf 27 (ao_if_eq 38)) (ax_lf 30 (ao_al 0 1)))))) (ax_nd 44 (ax_nd 35 (ax_nd 31 (ax_lf 31 (ao_ic (1) 1)) (ax_nd 32 (ax_lf 32 (ao_pi 5 10)) (ax_lf 35 (ao_goto 57)))) (ax_nd 39 (ax_nd 38 (ax_lf 38 (ao_al 0 1)) (ax_lf 39 (ao_ldcs 2))) (ax_nd 41 (ax_lf 41 (ao_inv g 6 5 1 yX5_isWord cX5_isWord 3 (some .boolean) 2 0 0 0 0)) (ax_lf 44 (ao_if_eq 55))))) (ax_nd 52 (ax_nd 48 (ax_nd 47 (ax_lf 47 (ao_al 0 1)) (ax_lf 48 (ao_ic (2) 1))) (ax_nd 49 (ax_lf 49 (ao_pi 5 10)) (ax_lf 52 (ao_goto 57)))) (ax_nd 56 (ax_nd 55 (ax_lf 55 (ao_ic (0) 1)) (ax_lf 56 (ao_zret 0 0))) (ax_nd 57 (ax_lf 57 (ao_ic (1) 1)) (ax_lf 58 (ao_zret 0 0))))))
theorem oX5_readMode (g : ax_G) : ∀ pc, ax_ok g cX5_readMode 1 (some .boolean) RX5 "readMode" 7 0 0 pc (tX5_readMode g pc) := ax_nd_ok (ax_nd_ok (ax_nd_ok (ax_nd_ok (ax_lf_ok (ak_aload_n rfl dX5_readMode_0)) (ax_nd_ok (ax_lf_ok (ak_invV (by decide) (by decide) (by decide) rfl wd_482 wd_484 wd_2 wd_100 wd_485 ⟨by decide, by decide, by decide +kernel⟩ dX5_readMode_1)) (ax_lf_ok (ak_aload_n rfl dX5_readMode_4)))) (ax_nd_ok (ax_nd_ok (ax_lf_ok (ak_ldcs (i := 0) rfl dX5_readMode_5)) (ax_lf_ok (ak_invV (by decide) (by decide) (by decide) rfl wd_520 wd_522 wd_6 wd_100 wd_523 ⟨by decide, by decide, by decide +kernel⟩ dX5_readMode_7))) (ax_nd_ok (ax_lf_ok (ak_if_eq (by decide) dX5_readMode_10)) (ax_lf_ok (ak_aload_n rfl dX5_readMode_13))))) (ax_nd_ok (ax_nd_ok (ax_nd_ok (ax_lf_ok (ak_iconst (by decide) dX5_readMode_14)) (ax_lf_ok (ak_pi fF_X5_47 fW_X5_47_a dX5_readMode_15))) (ax_nd_ok (ax_lf_ok (ak_goto (by decide) dX5_readMode_18)) (ax_lf_ok (ak_aload_n rfl dX5_readMode_21)))) (ax_nd_ok (ax_nd_ok (ax_lf_ok (ak_ldcs (i := 1) rfl dX5_readMode_22)) (ax_lf_ok (ak_invV (by decide) (by decide) (by decide) rfl wd_520 wd_522 wd_6 wd_100 wd_523 ⟨by decide, by decide, by decide +kernel⟩ dX5_readMode_24))) (ax_nd_ok (ax_lf_ok (ak_if_eq (by decide) dX5_readMode_27)) (ax_lf_ok (ak_aload_n rfl dX5_readMode_30)))))) (ax_nd_ok (ax_nd_ok (ax_nd_ok (ax_lf_ok (ak_iconst (by decide) dX5_readMode_31)) (ax_nd_ok (ax_lf_ok (ak_pi fF_X5_47 fW_X5_47_a dX5_readMode_32)) (ax_lf_ok (ak_goto (by decide) dX5_readMode_35)))) (ax_nd_ok (ax_nd_ok (ax_lf_ok (ak_aload_n rfl dX5_readMode_38)) (ax_lf_ok (ak_ldcs (i := 2) rfl dX5_readMode_39))) (ax_nd_ok (ax_lf_ok (ak_invV (by decide) (by decide) (by decide) rfl wd_520 wd_522 wd_6 wd_100 wd_523 ⟨by decide, by decide, by decide +kernel⟩ dX5_readMode_41)) (ax_lf_ok (ak_if_eq (by decide) dX5_readMode_44))))) (ax_nd_ok (ax_nd_ok (ax_nd_ok (ax_lf_ok (ak_aload_n rfl dX5_readMode_47)) (ax_lf_ok (ak_iconst (by decide) dX5_readMode_48))) (ax_nd_ok (ax_lf_ok (ak_pi fF_X5_47 fW_X5_47_a dX5_readMode_49)) (ax_lf_ok (ak_goto (by decide) dX5_readMode_52)))) (ax_nd_ok (ax_nd_ok (ax_lf_ok (ak_iconst (by decide) dX5_readMode_55)) (ax_lf_ok (ak_zret rfl dX5_readMode_56))) (ax_nd_ok (ax_lf_ok (ak_iconst (by decide) dX5_readMode_57)) (ax_lf_ok (ak_zret rfl dX5_readMode_58))))))
abbrev mX5_readMode (g : ax_G) (as : List Value) (h : ax_H) (Ret : Option Value → ax_H → Prop) : Prop := ax_M g 7 0 0 yX5_readMode cX5_readMode 1 (some .boolean) as h Ret
theorem dX5_isOneTooMany_0 : decode cX5_isOneTooMany 0 = .ok (.iload_n 1, 1) := by decide +kernel
theorem dX5_isOneTooMany_1 : decode cX5_isOneTooMany 1 = .ok (.iconst 3, 1) := by decide +kernel
theorem dX5_isOneTooMany_2 : decode cX5_isOneTooMany 2 = .ok (.if_icmp .ne 21, 3) := by decide +kernel
theorem dX5_isOneTooMany_5 : decode cX5_isOneTooMany 5 = .ok (.aload_n 0, 1) := by decide +kernel
theorem dX5_isOneTooMany_6 : decode cX5_isOneTooMany 6 = .ok (.getfield 12, 3) := by decide +kernel
theorem dX5_isOneTooMany_9 : decode cX5_isOneTooMany 9 = .ok (.getfield 80, 3) := by decide +kernel
theorem dX5_isOneTooMany_12 : decode cX5_isOneTooMany 12 = .ok (.bipush 6, 2) := by decide +kernel
theorem dX5_isOneTooMany_14 : decode cX5_isOneTooMany 14 = .ok (.if_icmp .lt 7, 3) := by decide +kernel
theorem dX5_isOneTooMany_17 : decode cX5_isOneTooMany 17 = .ok (.iconst 1, 1) := by decide +kernel
theorem dX5_isOneTooMany_18 : decode cX5_isOneTooMany 18 = .ok (.goto 4, 3) := by decide +kernel
theorem dX5_isOneTooMany_21 : decode cX5_isOneTooMany 21 = .ok (.iconst 0, 1) := by decide +kernel
theorem dX5_isOneTooMany_22 : decode cX5_isOneTooMany 22 = .ok (.ireturn, 1) := by decide +kernel
theorem dX5_isOneTooMany_23 : decode cX5_isOneTooMany 23 = .ok (.aload_n 0, 1) := by decide +kernel
theorem dX5_isOneTooMany_24 : decode cX5_isOneTooMany 24 = .ok (.getstatic 135, 3) := by decide +kernel
theorem dX5_isOneTooMany_27 : decode cX5_isOneTooMany 27 = .ok (.iload_n 1, 1) := by decide +kernel
theorem dX5_isOneTooMany_28 : decode cX5_isOneTooMany 28 = .ok (.iaload, 1) := by decide +kernel
theorem dX5_isOneTooMany_29 : decode cX5_isOneTooMany 29 = .ok (.invokevirtual 98, 3) := by decide +kernel
theorem dX5_isOneTooMany_32 : decode cX5_isOneTooMany 32 = .ok (.astore_n 2, 1) := by decide +kernel
theorem dX5_isOneTooMany_33 : decode cX5_isOneTooMany 33 = .ok (.aload_n 2, 1) := by decide +kernel
theorem dX5_isOneTooMany_34 : decode cX5_isOneTooMany 34 = .ok (.ifnull 14, 3) := by decide +kernel
theorem dX5_isOneTooMany_37 : decode cX5_isOneTooMany 37 = .ok (.aload_n 2, 1) := by decide +kernel
theorem dX5_isOneTooMany_38 : decode cX5_isOneTooMany 38 = .ok (.invokevirtual 138, 3) := by decide +kernel
theorem dX5_isOneTooMany_41 : decode cX5_isOneTooMany 41 = .ok (.ifCond .eq 7, 3) := by decide +kernel
theorem dX5_isOneTooMany_44 : decode cX5_isOneTooMany 44 = .ok (.iconst 1, 1) := by decide +kernel
theorem dX5_isOneTooMany_45 : decode cX5_isOneTooMany 45 = .ok (.goto 4, 3) := by decide +kernel
theorem dX5_isOneTooMany_48 : decode cX5_isOneTooMany 48 = .ok (.iconst 0, 1) := by decide +kernel
theorem dX5_isOneTooMany_49 : decode cX5_isOneTooMany 49 = .ok (.ireturn, 1) := by decide +kernel
def tX5_isOneTooMany (g : ax_G) : Nat → ax_O := ax_nd 23 (ax_nd 9 (ax_nd 2 (ax_nd 0 (ax_lf 0 (ao_il 1 1)) (ax_nd 1 (ax_lf 1 (ao_ic (3) 1)) (ax_lf 2 (ao_icmp_ne 23)))) (ax_nd 5 (ax_lf 5 (ao_al 0 1)) (ax_nd 6 (ax_lf 6 (ao_gr 5 1)) (ax_lf 9 (ao_gi 6 6))))) (ax_nd 17 (ax_nd 12 (ax_lf 12 (ao_ic (6) 2)) (ax_nd 14 (ax_lf 14 (ao_icmp_lt 21)) (ax_lf 17 (ao_ic (1) 1)))) (ax_nd 21 (ax_nd 18 (ax_lf 18 (ao_goto 22)) (ax_lf 21 (ao_ic (0) 1))) (ax_nd 22 (ax_lf 22 (ao_zret 0 0)) (ax_lf 23 (ao_al 0 1)))))) (ax_nd 34 (ax_nd 28 (ax_nd 24 (ax_lf 24 (ao_gs 2)) (ax_nd 27 (ax_lf 27 (ao_il 1 1)) (ax_lf 28 (ao_sald 2 [0, 0, 0, 0, 0, 0, 1, 2, 3, 4, 4])))) (ax_nd 32 (ax_nd 29 (ax_lf 29 (ao_inv g 1 5 3 yX5_draftOf cX5_draftOf 2 (some (.object "GluedHour$Lines")) 2 0 0 0 0)) (ax_lf 32 (ao_as 2 1))) (ax_nd 33 (ax_lf 33 (ao_al 2 1)) (ax_lf 34 (ao_ifnull 48))))) (ax_nd 41 (ax_nd 37 (ax_lf 37 (ao_al 2 1)) (ax_nd 38 (ax_lf 38 (ao_inv g 1 2 1 yX2_isFull cX2_isFull 1 (some .boolean) 1 0 0 0 0)) (ax_lf 41 (ao_if_eq 48)))) (ax_nd 45 (ax_nd 44 (ax_lf 44 (ao_ic (1) 1)) (ax_lf 45 (ao_goto 49))) (ax_nd 48 (ax_lf 48 (ao_ic (0) 1)) (ax_lf 49 (ao_zret 0 0))))))
theorem oX5_isOneTooMany (g : ax_G) : ∀ pc, ax_ok g cX5_isOneTooMany 3 (some .boolean) RX5 "isOneTooMany" 2 0 0 pc (tX5_isOneTooMany g pc) := ax_nd_ok (ax_nd_ok (ax_nd_ok (ax_nd_ok (ax_lf_ok (ak_iload_n rfl dX5_isOneTooMany_0)) (ax_nd_ok (ax_lf_ok (ak_iconst (by decide) dX5_isOneTooMany_1)) (ax_lf_ok (ak_icmp_ne (by decide) dX5_isOneTooMany_2)))) (ax_nd_ok (ax_lf_ok (ak_aload_n rfl dX5_isOneTooMany_5)) (ax_nd_ok (ax_lf_ok (ak_gr fF_X5_12 dX5_isOneTooMany_6)) (ax_lf_ok (ak_gi fF_X5_80 dX5_isOneTooMany_9))))) (ax_nd_ok (ax_nd_ok (ax_lf_ok (ak_bipush (by decide) dX5_isOneTooMany_12)) (ax_nd_ok (ax_lf_ok (ak_icmp_lt (by decide) dX5_isOneTooMany_14)) (ax_lf_ok (ak_iconst (by decide) dX5_isOneTooMany_17)))) (ax_nd_ok (ax_nd_ok (ax_lf_ok (ak_goto (by decide) dX5_isOneTooMany_18)) (ax_lf_ok (ak_iconst (by decide) dX5_isOneTooMany_21))) (ax_nd_ok (ax_lf_ok (ak_zret rfl dX5_isOneTooMany_22)) (ax_lf_ok (ak_aload_n rfl dX5_isOneTooMany_23)))))) (ax_nd_ok (ax_nd_ok (ax_nd_ok (ax_lf_ok (ak_gs (j := 2) rfl wd_504 dX5_isOneTooMany_24)) (ax_nd_ok (ax_lf_ok (ak_iload_n rfl dX5_isOneTooMany_27)) (ax_lf_ok (ak_sald (j := 2) rfl dX5_isOneTooMany_28)))) (ax_nd_ok (ax_nd_ok (ax_lf_ok (ak_invV (by decide) (by decide) (by decide) rfl wd_478 wd_480 wd_1 wd_100 wd_481 ⟨by decide, by decide, by decide +kernel⟩ dX5_isOneTooMany_29)) (ax_lf_ok (ak_astore_n rfl (by decide) dX5_isOneTooMany_32))) (ax_nd_ok (ax_lf_ok (ak_aload_n rfl dX5_isOneTooMany_33)) (ax_lf_ok (ak_ifnull (by decide) dX5_isOneTooMany_34))))) (ax_nd_ok (ax_nd_ok (ax_lf_ok (ak_aload_n rfl dX5_isOneTooMany_37)) (ax_nd_ok (ax_lf_ok (ak_invV (by decide) (by decide) (by decide) rfl wd_576 wd_577 wd_578 wd_99 wd_579 ⟨by decide, by decide, by decide +kernel⟩ dX5_isOneTooMany_38)) (ax_lf_ok (ak_if_eq (by decide) dX5_isOneTooMany_41)))) (ax_nd_ok (ax_nd_ok (ax_lf_ok (ak_iconst (by decide) dX5_isOneTooMany_44)) (ax_lf_ok (ak_goto (by decide) dX5_isOneTooMany_45))) (ax_nd_ok (ax_lf_ok (ak_iconst (by decide) dX5_isOneTooMany_48)) (ax_lf_ok (ak_zret rfl dX5_isOneTooMany_49))))))
abbrev mX5_isOneTooMany (g : ax_G) (as : List Value) (h : ax_H) (Ret : Option Value → ax_H → Prop) : Prop := ax_M g 2 0 0 yX5_isOneTooMany cX5_isOneTooMany 3 (some .boolean) as h Ret
theorem dX5_checkNumber_0 : decode cX5_checkNumber 0 = .ok (.aload_n 0, 1) := by decide +kernel
theorem dX5_checkNumber_1 : decode cX5_checkNumber 1 = .ok (.getfield 44, 3) := by decide +kernel
theorem dX5_checkNumber_4 : decode cX5_checkNumber 4 = .ok (.getstatic 141, 3) := by decide +kernel
theorem dX5_checkNumber_7 : decode cX5_checkNumber 7 = .ok (.iload_n 1, 1) := by decide +kernel
theorem dX5_checkNumber_8 : decode cX5_checkNumber 8 = .ok (.iconst 3, 1) := by decide +kernel
theorem dX5_checkNumber_9 : decode cX5_checkNumber 9 = .ok (.imul, 1) := by decide +kernel
theorem dX5_checkNumber_10 : decode cX5_checkNumber 10 = .ok (.iload_n 2, 1) := by decide +kernel
theorem dX5_checkNumber_11 : decode cX5_checkNumber 11 = .ok (.iadd, 1) := by decide +kernel
theorem dX5_checkNumber_12 : decode cX5_checkNumber 12 = .ok (.iaload, 1) := by decide +kernel
theorem dX5_checkNumber_13 : decode cX5_checkNumber 13 = .ok (.if_icmp .lt 23, 3) := by decide +kernel
theorem dX5_checkNumber_16 : decode cX5_checkNumber 16 = .ok (.aload_n 0, 1) := by decide +kernel
theorem dX5_checkNumber_17 : decode cX5_checkNumber 17 = .ok (.getfield 44, 3) := by decide +kernel
theorem dX5_checkNumber_20 : decode cX5_checkNumber 20 = .ok (.getstatic 144, 3) := by decide +kernel
theorem dX5_checkNumber_23 : decode cX5_checkNumber 23 = .ok (.iload_n 1, 1) := by decide +kernel
theorem dX5_checkNumber_24 : decode cX5_checkNumber 24 = .ok (.iconst 3, 1) := by decide +kernel
theorem dX5_checkNumber_25 : decode cX5_checkNumber 25 = .ok (.imul, 1) := by decide +kernel
theorem dX5_checkNumber_26 : decode cX5_checkNumber 26 = .ok (.iload_n 2, 1) := by decide +kernel
theorem dX5_checkNumber_27 : decode cX5_checkNumber 27 = .ok (.iadd, 1) := by decide +kernel
theorem dX5_checkNumber_28 : decode cX5_checkNumber 28 = .ok (.iaload, 1) := by decide +kernel
theorem dX5_checkNumber_29 : decode cX5_checkNumber 29 = .ok (.if_icmp .gt 7, 3) := by decide +kernel
theorem dX5_checkNumber_32 : decode cX5_checkNumber 32 = .ok (.iconst 1, 1) := by decide +kernel
theorem dX5_checkNumber_33 : decode cX5_checkNumber 33 = .ok (.goto 4, 3) := by decide +kernel
theorem dX5_checkNumber_36 : decode cX5_checkNumber 36 = .ok (.iconst 0, 1) := by decide +kernel
theorem dX5_checkNumber_37 : decode cX5_checkNumber 37 = .ok (.istore_n 3, 1) := by decide +kernel
theorem dX5_checkNumber_38 : decode cX5_checkNumber 38 = .ok (.iload_n 3, 1) := by decide +kernel
theorem dX5_checkNumber_39 : decode cX5_checkNumber 39 = .ok (.ifCond .eq 27, 3) := by decide +kernel
theorem dX5_checkNumber_42 : decode cX5_checkNumber 42 = .ok (.iload_n 1, 1) := by decide +kernel
theorem dX5_checkNumber_43 : decode cX5_checkNumber 43 = .ok (.bipush 7, 2) := by decide +kernel
theorem dX5_checkNumber_45 : decode cX5_checkNumber 45 = .ok (.if_icmp .ne 30, 3) := by decide +kernel
theorem dX5_checkNumber_48 : decode cX5_checkNumber 48 = .ok (.iload_n 2, 1) := by decide +kernel
theorem dX5_checkNumber_49 : decode cX5_checkNumber 49 = .ok (.iconst 2, 1) := by decide +kernel
theorem dX5_checkNumber_50 : decode cX5_checkNumber 50 = .ok (.if_icmp .ne 25, 3) := by decide +kernel
theorem dX5_checkNumber_53 : decode cX5_checkNumber 53 = .ok (.aload_n 0, 1) := by decide +kernel
theorem dX5_checkNumber_54 : decode cX5_checkNumber 54 = .ok (.getfield 44, 3) := by decide +kernel
theorem dX5_checkNumber_57 : decode cX5_checkNumber 57 = .ok (.aload_n 0, 1) := by decide +kernel
theorem dX5_checkNumber_58 : decode cX5_checkNumber 58 = .ok (.getfield 24, 3) := by decide +kernel
theorem dX5_checkNumber_61 : decode cX5_checkNumber 61 = .ok (.iconst 1, 1) := by decide +kernel
theorem dX5_checkNumber_62 : decode cX5_checkNumber 62 = .ok (.iaload, 1) := by decide +kernel
theorem dX5_checkNumber_63 : decode cX5_checkNumber 63 = .ok (.if_icmp .ge 12, 3) := by decide +kernel
theorem dX5_checkNumber_66 : decode cX5_checkNumber 66 = .ok (.aload_n 0, 1) := by decide +kernel
theorem dX5_checkNumber_67 : decode cX5_checkNumber 67 = .ok (.iconst 2, 1) := by decide +kernel
theorem dX5_checkNumber_68 : decode cX5_checkNumber 68 = .ok (.aload_n 0, 1) := by decide +kernel
theorem dX5_checkNumber_69 : decode cX5_checkNumber 69 = .ok (.getfield 38, 3) := by decide +kernel
theorem dX5_checkNumber_72 : decode cX5_checkNumber 72 = .ok (.invokevirtual 83, 3) := by decide +kernel
theorem dX5_checkNumber_75 : decode cX5_checkNumber 75 = .ok (.return_, 1) := by decide +kernel
def tX5_checkNumber (g : ax_G) : Nat → ax_O := ax_nd 33 (ax_nd 16 (ax_nd 8 (ax_nd 1 (ax_nd 0 (ax_lf 0 (ao_al 0 1)) (ax_lf 1 (ao_gi 5 9))) (ax_nd 4 (ax_lf 4 (ao_gs 4)) (ax_nd 7 (ax_lf 7 (ao_il 1 1)) (ax_lf 8 (ao_ic (3) 1))))) (ax_nd 11 (ax_nd 9 (ax_lf 9 ao_imul) (ax_nd 10 (ax_lf 10 (ao_il 2 1)) (ax_lf 11 ao_iadd))) (ax_nd 12 (ax_lf 12 (ao_sald 4 [2, 0, 0, 0, 0, 0, 0, 0, 0, 0, 0, 0, 0, 0, 0, 0, 0, 0, 0, 0, 0, 0, 0, 0, 0, 1, 0, 1, 0, 0, 1, 0, 0])) (ax_nd 13 (ax_lf 13 (ao_icmp_lt 36)) (ax_lf 16 (ao_al 0 1)))))) (ax_nd 25 (ax_nd 20 (ax_nd 17 (ax_lf 17 (ao_gi 5 9)) (ax_lf 20 (ao_gs 5))) (ax_nd 23 (ax_lf 23 (ao_il 1 1)) (ax_nd 24 (ax_lf 24 (ao_ic (3) 1)) (ax_lf 25 ao_imul)))) (ax_nd 28 (ax_nd 26 (ax_lf 26 (ao_il 2 1)) (ax_nd 27 (ax_lf 27 ao_iadd) (ax_lf 28 (ao_sald 5 [12, 0, 0, 5, 99, 0, 5, 99, 0, 999, 0, 0, 5, 11, 5, 5, 11, 9, 11, 0, 0, 5, 11, 11, 11, 9, 0, 3, 5, 999, 3, 5, 999])))) (ax_nd 29 (ax_lf 29 (ao_icmp_gt 36)) (ax_nd 32 (ax_lf 32 (ao_ic (1) 1)) (ax_lf 33 (ao_goto 37))))))) (ax_nd 53 (ax_nd 42 (ax_nd 37 (ax_nd 36 (ax_lf 36 (ao_ic (0) 1)) (ax_lf 37 (ao_is 3 1))) (ax_nd 38 (ax_lf 38 (ao_il 3 1)) (ax_nd 39 (ax_lf 39 (ao_if_eq 66)) (ax_lf 42 (ao_il 1 1))))) (ax_nd 48 (ax_nd 43 (ax_lf 43 (ao_ic (7) 2)) (ax_nd 45 (ax_lf 45 (ao_icmp_ne 75)) (ax_lf 48 (ao_il 2 1)))) (ax_nd 49 (ax_lf 49 (ao_ic (2) 1)) (ax_nd 50 (ax_lf 50 (ao_icmp_ne 75)) (ax_lf 53 (ao_al 0 1)))))) (ax_nd 63 (ax_nd 58 (ax_nd 54 (ax_lf 54 (ao_gi 5 9)) (ax_nd 57 (ax_lf 57 (ao_al 0 1)) (ax_lf 58 (ao_gr 5 3)))) (ax_nd 61 (ax_lf 61 (ao_ic (1) 1)) (ax_nd 62 (ax_lf 62 ao_iald) (ax_lf 63 (ao_icmp_ge 75))))) (ax_nd 68 (ax_nd 66 (ax_lf 66 (ao_al 0 1)) (ax_nd 67 (ax_lf 67 (ao_ic (2) 1)) (ax_lf 68 (ao_al 0 1)))) (ax_nd 69 (ax_lf 69 (ao_gi 5 7)) (ax_nd 72 (ax_lf 72 (ao_inv g 1 5 0 yX5_note cX5_note 3 none 3 0 0 0 0)) (ax_lf 75 (ao_vret 0 0)))))))
theorem oX5_checkNumber (g : ax_G) : ∀ pc, ax_ok g cX5_checkNumber 4 none RX5 "checkNumber" 2 0 0 pc (tX5_checkNumber g pc) := ax_nd_ok (ax_nd_ok (ax_nd_ok (ax_nd_ok (ax_nd_ok (ax_lf_ok (ak_aload_n rfl dX5_checkNumber_0)) (ax_lf_ok (ak_gi fF_X5_44 dX5_checkNumber_1))) (ax_nd_ok (ax_lf_ok (ak_gs (j := 4) rfl wd_590 dX5_checkNumber_4)) (ax_nd_ok (ax_lf_ok (ak_iload_n rfl dX5_checkNumber_7)) (ax_lf_ok (ak_iconst (by decide) dX5_checkNumber_8))))) (ax_nd_ok (ax_nd_ok (ax_lf_ok (ak_imul dX5_checkNumber_9)) (ax_nd_ok (ax_lf_ok (ak_iload_n rfl dX5_checkNumber_10)) (ax_lf_ok (ak_iadd dX5_checkNumber_11)))) (ax_nd_ok (ax_lf_ok (ak_sald (j := 4) rfl dX5_checkNumber_12)) (ax_nd_ok (ax_lf_ok (ak_icmp_lt (by decide) dX5_checkNumber_13)) (ax_lf_ok (ak_aload_n rfl dX5_checkNumber_16)))))) (ax_nd_ok (ax_nd_ok (ax_nd_ok (ax_lf_ok (ak_gi fF_X5_44 dX5_checkNumber_17)) (ax_lf_ok (ak_gs (j := 5) rfl wd_592 dX5_checkNumber_20))) (ax_nd_ok (ax_lf_ok (ak_iload_n rfl dX5_checkNumber_23)) (ax_nd_ok (ax_lf_ok (ak_iconst (by decide) dX5_checkNumber_24)) (ax_lf_ok (ak_imul dX5_checkNumber_25))))) (ax_nd_ok (ax_nd_ok (ax_lf_ok (ak_iload_n rfl dX5_checkNumber_26)) (ax_nd_ok (ax_lf_ok (ak_iadd dX5_checkNumber_27)) (ax_lf_ok (ak_sald (j := 5) rfl dX5_checkNumber_28)))) (ax_nd_ok (ax_lf_ok (ak_icmp_gt (by decide) dX5_checkNumber_29)) (ax_nd_ok (ax_lf_ok (ak_iconst (by decide) dX5_checkNumber_32)) (ax_lf_ok (ak_goto (by decide) dX5_checkNumber_33))))))) (ax_nd_ok (ax_nd_ok (ax_nd_ok (ax_nd_ok (ax_lf_ok (ak_iconst (by decide) dX5_checkNumber_36)) (ax_lf_ok (ak_istore_n rfl (by decide) dX5_checkNumber_37))) (ax_nd_ok (ax_lf_ok (ak_iload_n rfl dX5_checkNumber_38)) (ax_nd_ok (ax_lf_ok (ak_if_eq (by decide) dX5_checkNumber_39)) (ax_lf_ok (ak_iload_n rfl dX5_checkNumber_42))))) (ax_nd_ok (ax_nd_ok (ax_lf_ok (ak_bipush (by decide) dX5_checkNumber_43)) (ax_nd_ok (ax_lf_ok (ak_icmp_ne (by decide) dX5_checkNumber_45)) (ax_lf_ok (ak_iload_n rfl dX5_checkNumber_48)))) (ax_nd_ok (ax_lf_ok (ak_iconst (by decide) dX5_checkNumber_49)) (ax_nd_ok (ax_lf_ok (ak_icmp_ne (by decide) dX5_checkNumber_50)) (ax_lf_ok (ak_aload_n rfl dX5_checkNumber_53)))))) (ax_nd_ok (ax_nd_ok (ax_nd_ok (ax_lf_ok (ak_gi fF_X5_44 dX5_checkNumber_54)) (ax_nd_ok (ax_lf_ok (ak_aload_n rfl dX5_checkNumber_57)) (ax_lf_ok (ak_gr fF_X5_24 dX5_checkNumber_58)))) (ax_nd_ok (ax_lf_ok (ak_iconst (by decide) dX5_checkNumber_61)) (ax_nd_ok (ax_lf_ok (ak_iald dX5_checkNumber_62)) (ax_lf_ok (ak_icmp_ge (by decide) dX5_checkNumber_63))))) (ax_nd_ok (ax_nd_ok (ax_lf_ok (ak_aload_n rfl dX5_checkNumber_66)) (ax_nd_ok (ax_lf_ok (ak_iconst (by decide) dX5_checkNumber_67)) (ax_lf_ok (ak_aload_n rfl dX5_checkNumber_68)))) (ax_nd_ok (ax_lf_ok (ak_gi fF_X5_38 dX5_checkNumber_69)) (ax_nd_ok (ax_lf_ok (ak_invV (by decide) (by decide) (by decide) rfl wd_580 wd_582 wd_8 wd_100 wd_583 ⟨by decide, by decide, by decide +kernel⟩ dX5_checkNumber_72)) (ax_lf_ok (ak_vret rfl dX5_checkNumber_75)))))))
abbrev mX5_checkNumber (g : ax_G) (as : List Value) (h : ax_H) (Ret : Option Value → ax_H → Prop) : Prop := ax_M g 2 0 0 yX5_checkNumber cX5_checkNumber 4 none as h Ret
theorem dX5_tell_0 : decode cX5_tell 0 = .ok (.iload_n 1, 1) := by decide +kernel
theorem dX5_tell_1 : decode cX5_tell 1 = .ok (.tableswitch 244 0 5 #[39, 55, 55, 111, 160, 160], 39) := by decide +kernel
theorem dX5_tell_40 : decode cX5_tell 40 = .ok (.aload_n 0, 1) := by decide +kernel
theorem dX5_tell_41 : decode cX5_tell 41 = .ok (.getfield 12, 3) := by decide +kernel
theorem dX5_tell_44 : decode cX5_tell 44 = .ok (.aload_n 0, 1) := by decide +kernel
theorem dX5_tell_45 : decode cX5_tell 45 = .ok (.getfield 24, 3) := by decide +kernel
theorem dX5_tell_48 : decode cX5_tell 48 = .ok (.iconst 0, 1) := by decide +kernel
theorem dX5_tell_49 : decode cX5_tell 49 = .ok (.iaload, 1) := by decide +kernel
theorem dX5_tell_50 : decode cX5_tell 50 = .ok (.putfield 77, 3) := by decide +kernel
theorem dX5_tell_53 : decode cX5_tell 53 = .ok (.goto 197, 3) := by decide +kernel
theorem dX5_tell_56 : decode cX5_tell 56 = .ok (.aload_n 0, 1) := by decide +kernel
theorem dX5_tell_57 : decode cX5_tell 57 = .ok (.getfield 12, 3) := by decide +kernel
theorem dX5_tell_60 : decode cX5_tell 60 = .ok (.getfield 147, 3) := by decide +kernel
theorem dX5_tell_63 : decode cX5_tell 63 = .ok (.aload_n 0, 1) := by decide +kernel
theorem dX5_tell_64 : decode cX5_tell 64 = .ok (.getfield 24, 3) := by decide +kernel
theorem dX5_tell_67 : decode cX5_tell 67 = .ok (.iconst 0, 1) := by decide +kernel
theorem dX5_tell_68 : decode cX5_tell 68 = .ok (.iaload, 1) := by decide +kernel
theorem dX5_tell_69 : decode cX5_tell 69 = .ok (.iload_n 1, 1) := by decide +kernel
theorem dX5_tell_70 : decode cX5_tell 70 = .ok (.iconst 1, 1) := by decide +kernel
theorem dX5_tell_71 : decode cX5_tell 71 = .ok (.if_icmp .ne 12, 3) := by decide +kernel
theorem dX5_tell_74 : decode cX5_tell 74 = .ok (.aload_n 0, 1) := by decide +kernel
theorem dX5_tell_75 : decode cX5_tell 75 = .ok (.getfield 24, 3) := by decide +kernel
theorem dX5_tell_78 : decode cX5_tell 78 = .ok (.iconst 1, 1) := by decide +kernel
theorem dX5_tell_79 : decode cX5_tell 79 = .ok (.iaload, 1) := by decide +kernel
theorem dX5_tell_80 : decode cX5_tell 80 = .ok (.goto 10, 3) := by decide +kernel
theorem dX5_tell_83 : decode cX5_tell 83 = .ok (.aload_n 0, 1) := by decide +kernel
theorem dX5_tell_84 : decode cX5_tell 84 = .ok (.getfield 24, 3) := by decide +kernel
theorem dX5_tell_87 : decode cX5_tell 87 = .ok (.iconst 1, 1) := by decide +kernel
theorem dX5_tell_88 : decode cX5_tell 88 = .ok (.iaload, 1) := by decide +kernel
theorem dX5_tell_89 : decode cX5_tell 89 = .ok (.ineg, 1) := by decide +kernel
theorem dX5_tell_90 : decode cX5_tell 90 = .ok (.iastore, 1) := by decide +kernel
theorem dX5_tell_91 : decode cX5_tell 91 = .ok (.aload_n 0, 1) := by decide +kernel
theorem dX5_tell_92 : decode cX5_tell 92 = .ok (.getfield 12, 3) := by decide +kernel
theorem dX5_tell_95 : decode cX5_tell 95 = .ok (.getfield 150, 3) := by decide +kernel
theorem dX5_tell_98 : decode cX5_tell 98 = .ok (.aload_n 0, 1) := by decide +kernel
theorem dX5_tell_99 : decode cX5_tell 99 = .ok (.getfield 24, 3) := by decide +kernel
theorem dX5_tell_102 : decode cX5_tell 102 = .ok (.iconst 0, 1) := by decide +kernel
theorem dX5_tell_103 : decode cX5_tell 103 = .ok (.iaload, 1) := by decide +kernel
theorem dX5_tell_104 : decode cX5_tell 104 = .ok (.aload_n 0, 1) := by decide +kernel
theorem dX5_tell_105 : decode cX5_tell 105 = .ok (.getfield 47, 3) := by decide +kernel
theorem dX5_tell_108 : decode cX5_tell 108 = .ok (.iastore, 1) := by decide +kernel
theorem dX5_tell_109 : decode cX5_tell 109 = .ok (.goto 141, 3) := by decide +kernel
theorem dX5_tell_112 : decode cX5_tell 112 = .ok (.aload_n 0, 1) := by decide +kernel
theorem dX5_tell_113 : decode cX5_tell 113 = .ok (.getfield 12, 3) := by decide +kernel
theorem dX5_tell_116 : decode cX5_tell 116 = .ok (.getfield 80, 3) := by decide +kernel
theorem dX5_tell_119 : decode cX5_tell 119 = .ok (.bipush 6, 2) := by decide +kernel
theorem dX5_tell_121 : decode cX5_tell 121 = .ok (.if_icmp .ge 129, 3) := by decide +kernel
theorem dX5_tell_124 : decode cX5_tell 124 = .ok (.aload_n 0, 1) := by decide +kernel
theorem dX5_tell_125 : decode cX5_tell 125 = .ok (.getfield 12, 3) := by decide +kernel
theorem dX5_tell_128 : decode cX5_tell 128 = .ok (.getfield 153, 3) := by decide +kernel
theorem dX5_tell_131 : decode cX5_tell 131 = .ok (.aload_n 0, 1) := by decide +kernel
theorem dX5_tell_132 : decode cX5_tell 132 = .ok (.getfield 12, 3) := by decide +kernel
theorem dX5_tell_135 : decode cX5_tell 135 = .ok (.getfield 80, 3) := by decide +kernel
theorem dX5_tell_138 : decode cX5_tell 138 = .ok (.aload_n 0, 1) := by decide +kernel
theorem dX5_tell_139 : decode cX5_tell 139 = .ok (.getfield 24, 3) := by decide +kernel
theorem dX5_tell_142 : decode cX5_tell 142 = .ok (.iconst 0, 1) := by decide +kernel
theorem dX5_tell_143 : decode cX5_tell 143 = .ok (.iaload, 1) := by decide +kernel
theorem dX5_tell_144 : decode cX5_tell 144 = .ok (.iastore, 1) := by decide +kernel
theorem dX5_tell_145 : decode cX5_tell 145 = .ok (.aload_n 0, 1) := by decide +kernel
theorem dX5_tell_146 : decode cX5_tell 146 = .ok (.getfield 12, 3) := by decide +kernel
theorem dX5_tell_149 : decode cX5_tell 149 = .ok (.dup, 1) := by decide +kernel
theorem dX5_tell_150 : decode cX5_tell 150 = .ok (.getfield 80, 3) := by decide +kernel
theorem dX5_tell_153 : decode cX5_tell 153 = .ok (.iconst 1, 1) := by decide +kernel
theorem dX5_tell_154 : decode cX5_tell 154 = .ok (.iadd, 1) := by decide +kernel
theorem dX5_tell_155 : decode cX5_tell 155 = .ok (.putfield 80, 3) := by decide +kernel
theorem dX5_tell_158 : decode cX5_tell 158 = .ok (.goto 92, 3) := by decide +kernel
theorem dX5_tell_161 : decode cX5_tell 161 = .ok (.iload_n 1, 1) := by decide +kernel
theorem dX5_tell_162 : decode cX5_tell 162 = .ok (.iconst 4, 1) := by decide +kernel
theorem dX5_tell_163 : decode cX5_tell 163 = .ok (.if_icmp .ne 13, 3) := by decide +kernel
theorem dX5_tell_166 : decode cX5_tell 166 = .ok (.aload_n 0, 1) := by decide +kernel
theorem dX5_tell_167 : decode cX5_tell 167 = .ok (.getfield 12, 3) := by decide +kernel
theorem dX5_tell_170 : decode cX5_tell 170 = .ok (.getfield 156, 3) := by decide +kernel
theorem dX5_tell_173 : decode cX5_tell 173 = .ok (.goto 10, 3) := by decide +kernel
theorem dX5_tell_176 : decode cX5_tell 176 = .ok (.aload_n 0, 1) := by decide +kernel
theorem dX5_tell_177 : decode cX5_tell 177 = .ok (.getfield 12, 3) := by decide +kernel
theorem dX5_tell_180 : decode cX5_tell 180 = .ok (.getfield 159, 3) := by decide +kernel
theorem dX5_tell_183 : decode cX5_tell 183 = .ok (.astore_n 2, 1) := by decide +kernel
theorem dX5_tell_184 : decode cX5_tell 184 = .ok (.aload_n 2, 1) := by decide +kernel
theorem dX5_tell_185 : decode cX5_tell 185 = .ok (.aload_n 0, 1) := by decide +kernel
theorem dX5_tell_186 : decode cX5_tell 186 = .ok (.getfield 24, 3) := by decide +kernel
theorem dX5_tell_189 : decode cX5_tell 189 = .ok (.iconst 0, 1) := by decide +kernel
theorem dX5_tell_190 : decode cX5_tell 190 = .ok (.iaload, 1) := by decide +kernel
theorem dX5_tell_191 : decode cX5_tell 191 = .ok (.bipush 12, 2) := by decide +kernel
theorem dX5_tell_193 : decode cX5_tell 193 = .ok (.imul, 1) := by decide +kernel
theorem dX5_tell_194 : decode cX5_tell 194 = .ok (.aload_n 0, 1) := by decide +kernel
theorem dX5_tell_195 : decode cX5_tell 195 = .ok (.getfield 24, 3) := by decide +kernel
theorem dX5_tell_198 : decode cX5_tell 198 = .ok (.iconst 1, 1) := by decide +kernel
theorem dX5_tell_199 : decode cX5_tell 199 = .ok (.iaload, 1) := by decide +kernel
theorem dX5_tell_200 : decode cX5_tell 200 = .ok (.iadd, 1) := by decide +kernel
theorem dX5_tell_201 : decode cX5_tell 201 = .ok (.aload_n 0, 1) := by decide +kernel
theorem dX5_tell_202 : decode cX5_tell 202 = .ok (.getfield 24, 3) := by decide +kernel
theorem dX5_tell_205 : decode cX5_tell 205 = .ok (.iconst 2, 1) := by decide +kernel
theorem dX5_tell_206 : decode cX5_tell 206 = .ok (.iaload, 1) := by decide +kernel
theorem dX5_tell_207 : decode cX5_tell 207 = .ok (.iastore, 1) := by decide +kernel
theorem dX5_tell_208 : decode cX5_tell 208 = .ok (.aload_n 0, 1) := by decide +kernel
theorem dX5_tell_209 : decode cX5_tell 209 = .ok (.aload_n 0, 1) := by decide +kernel
theorem dX5_tell_210 : decode cX5_tell 210 = .ok (.getfield 56, 3) := by decide +kernel
theorem dX5_tell_213 : decode cX5_tell 213 = .ok (.aload_n 0, 1) := by decide +kernel
theorem dX5_tell_214 : decode cX5_tell 214 = .ok (.getfield 24, 3) := by decide +kernel
theorem dX5_tell_217 : decode cX5_tell 217 = .ok (.iconst 0, 1) := by decide +kernel
theorem dX5_tell_218 : decode cX5_tell 218 = .ok (.iaload, 1) := by decide +kernel
theorem dX5_tell_219 : decode cX5_tell 219 = .ok (.invokestatic 92, 3) := by decide +kernel
theorem dX5_tell_222 : decode cX5_tell 222 = .ok (.putfield 56, 3) := by decide +kernel
theorem dX5_tell_225 : decode cX5_tell 225 = .ok (.aload_n 0, 1) := by decide +kernel
theorem dX5_tell_226 : decode cX5_tell 226 = .ok (.aload_n 0, 1) := by decide +kernel
theorem dX5_tell_227 : decode cX5_tell 227 = .ok (.getfield 53, 3) := by decide +kernel
theorem dX5_tell_230 : decode cX5_tell 230 = .ok (.aload_n 0, 1) := by decide +kernel
theorem dX5_tell_231 : decode cX5_tell 231 = .ok (.getfield 24, 3) := by decide +kernel
theorem dX5_tell_234 : decode cX5_tell 234 = .ok (.iconst 1, 1) := by decide +kernel
theorem dX5_tell_235 : decode cX5_tell 235 = .ok (.iaload, 1) := by decide +kernel
theorem dX5_tell_236 : decode cX5_tell 236 = .ok (.invokestatic 92, 3) := by decide +kernel
theorem dX5_tell_239 : decode cX5_tell 239 = .ok (.putfield 53, 3) := by decide +kernel
theorem dX5_tell_242 : decode cX5_tell 242 = .ok (.goto 8, 3) := by decide +kernel
theorem dX5_tell_245 : decode cX5_tell 245 = .ok (.aload_n 0, 1) := by decide +kernel
theorem dX5_tell_246 : decode cX5_tell 246 = .ok (.iload_n 1, 1) := by decide +kernel
theorem dX5_tell_247 : decode cX5_tell 247 = .ok (.invokevirtual 162, 3) := by decide +kernel
theorem dX5_tell_250 : decode cX5_tell 250 = .ok (.return_, 1) := by decide +kernel
def tX5_tell (g : ax_G) : Nat → ax_O := ax_nd 144 (ax_nd 88 (ax_nd 63 (ax_nd 48 (ax_nd 40 (ax_nd 0 (ax_lf 0 (ao_il 1 1)) (ax_nd 1 (ax_lf 1 (ao_sw [(0, 40), (1, 56), (2, 56), (3, 112), (4, 161), (5, 161)] 245)) (ax_lf 40 (ao_al 0 1)))) (ax_nd 44 (ax_nd 41 (ax_lf 41 (ao_gr 5 1)) (ax_lf 44 (ao_al 0 1))) (ax_nd 45 (ax_lf 45 (ao_gr 5 3)) (ax_lf 48 (ao_ic (0) 1))))) (ax_nd 53 (ax_nd 49 (ax_lf 49 ao_iald) (ax_nd 50 (ax_lf 50 (ao_pi 6 5)) (ax_lf 53 (ao_goto 250)))) (ax_nd 57 (ax_nd 56 (ax_lf 56 (ao_al 0 1)) (ax_lf 57 (ao_gr 5 1))) (ax_nd 60 (ax_lf 60 (ao_gr 6 0)) (ax_lf 63 (ao_al 0 1)))))) (ax_nd 74 (ax_nd 68 (ax_nd 64 (ax_lf 64 (ao_gr 5 3)) (ax_nd 67 (ax_lf 67 (ao_ic (0) 1)) (ax_lf 68 ao_iald))) (ax_nd 70 (ax_nd 69 (ax_lf 69 (ao_il 1 1)) (ax_lf 70 (ao_ic (1) 1))) (ax_nd 71 (ax_lf 71 (ao_icmp_ne 83)) (ax_lf 74 (ao_al 0 1))))) (ax_nd 80 (ax_nd 78 (ax_nd 75 (ax_lf 75 (ao_gr 5 3)) (ax_lf 78 (ao_ic (1) 1))) (ax_nd 79 (ax_lf 79 ao_iald) (ax_lf 80 (ao_goto 90)))) (ax_nd 84 (ax_nd 83 (ax_lf 83 (ao_al 0 1)) (ax_lf 84 (ao_gr 5 3))) (ax_nd 87 (ax_lf 87 (ao_ic (1) 1)) (ax_lf 88 ao_iald)))))) (ax_nd 112 (ax_nd 99 (ax_nd 91 (ax_nd 89 (ax_lf 89 ao_ineg) (ax_nd 90 (ax_lf 90 ao_iast) (ax_lf 91 (ao_al 0 1)))) (ax_nd 95 (ax_nd 92 (ax_lf 92 (ao_gr 5 1)) (ax_lf 95 (ao_gr 6 1))) (ax_nd 98 (ax_lf 98 (ao_al 0 1)) (ax_lf 99 (ao_gr 5 3))))) (ax_nd 104 (ax_nd 102 (ax_lf 102 (ao_ic (0) 1)) (ax_nd 103 (ax_lf 103 ao_iald) (ax_lf 104 (ao_al 0 1)))) (ax_nd 108 (ax_nd 105 (ax_lf 105 (ao_gi 5 10)) (ax_lf 108 ao_iast)) (ax_nd 109 (ax_lf 109 (ao_goto 250)) (ax_lf 112 (ao_al 0 1)))))) (ax_nd 128 (ax_nd 119 (ax_nd 113 (ax_lf 113 (ao_gr 5 1)) (ax_nd 116 (ax_lf 116 (ao_gi 6 6)) (ax_lf 119 (ao_ic (6) 2)))) (ax_nd 124 (ax_nd 121 (ax_lf 121 (ao_icmp_ge 250)) (ax_lf 124 (ao_al 0 1))) (ax_nd 125 (ax_lf 125 (ao_gr 5 1)) (ax_lf 128 (ao_gr 6 2))))) (ax_nd 138 (ax_nd 132 (ax_nd 131 (ax_lf 131 (ao_al 0 1)) (ax_lf 132 (ao_gr 5 1))) (ax_nd 135 (ax_lf 135 (ao_gi 6 6)) (ax_lf 138 (ao_al 0 1)))) (ax_nd 142 (ax_nd 139 (ax_lf 139 (ao_gr 5 3)) (ax_lf 142 (ao_ic (0) 1))) (ax_nd 143 (ax_lf 143 ao_iald) (ax_lf 144 ao_iast))))))) (ax_nd 198 (ax_nd 170 (ax_nd 155 (ax_nd 149 (ax_nd 145 (ax_lf 145 (ao_al 0 1)) (ax_nd 146 (ax_lf 146 (ao_gr 5 1)) (ax_lf 149 ao_dup))) (ax_nd 153 (ax_nd 150 (ax_lf 150 (ao_gi 6 6)) (ax_lf 153 (ao_ic (1) 1))) (ax_nd 154 (ax_lf 154 ao_iadd) (ax_lf 155 (ao_pi 6 6))))) (ax_nd 162 (ax_nd 158 (ax_lf 158 (ao_goto 250)) (ax_nd 161 (ax_lf 161 (ao_il 1 1)) (ax_lf 162 (ao_ic (4) 1)))) (ax_nd 166 (ax_nd 163 (ax_lf 163 (ao_icmp_ne 176)) (ax_lf 166 (ao_al 0 1))) (ax_nd 167 (ax_lf 167 (ao_gr 5 1)) (ax_lf 170 (ao_gr 6 3)))))) (ax_nd 185 (ax_nd 177 (ax_nd 173 (ax_lf 173 (ao_goto 183)) (ax_nd 176 (ax_lf 176 (ao_al 0 1)) (ax_lf 177 (ao_gr 5 1)))) (ax_nd 183 (ax_nd 180 (ax_lf 180 (ao_gr 6 4)) (ax_lf 183 (ao_as 2 1))) (ax_nd 184 (ax_lf 184 (ao_al 2 1)) (ax_lf 185 (ao_al 0 1))))) (ax_nd 191 (ax_nd 189 (ax_nd 186 (ax_lf 186 (ao_gr 5 3)) (ax_lf 189 (ao_ic (0) 1))) (ax_nd 190 (ax_lf 190 ao_iald) (ax_lf 191 (ao_ic (12) 2)))) (ax_nd 194 (ax_nd 193 (ax_lf 193 ao_imul) (ax_lf 194 (ao_al 0 1))) (ax_nd 195 (ax_lf 195 (ao_gr 5 3)) (ax_lf 198 (ao_ic (1) 1))))))) (ax_nd 219 (ax_nd 207 (ax_nd 201 (ax_nd 199 (ax_lf 199 ao_iald) (ax_nd 200 (ax_lf 200 ao_iadd) (ax_lf 201 (ao_al 0 1)))) (ax_nd 205 (ax_nd 202 (ax_lf 202 (ao_gr 5 3)) (ax_lf 205 (ao_ic (2) 1))) (ax_nd 206 (ax_lf 206 ao_iald) (ax_lf 207 ao_iast)))) (ax_nd 213 (ax_nd 209 (ax_nd 208 (ax_lf 208 (ao_al 0 1)) (ax_lf 209 (ao_al 0 1))) (ax_nd 210 (ax_lf 210 (ao_gi 5 13)) (ax_lf 213 (ao_al 0 1)))) (ax_nd 217 (ax_nd 214 (ax_lf 214 (ao_gr 5 3)) (ax_lf 217 (ao_ic (0) 1))) (ax_nd 218 (ax_lf 218 ao_iald) (ax_lf 219 ao_imax))))) (ax_nd 234 (ax_nd 226 (ax_nd 222 (ax_lf 222 (ao_pi 5 13)) (ax_nd 225 (ax_lf 225 (ao_al 0 1)) (ax_lf 226 (ao_al 0 1)))) (ax_nd 230 (ax_nd 227 (ax_lf 227 (ao_gi 5 12)) (ax_lf 230 (ao_al 0 1))) (ax_nd 231 (ax_lf 231 (ao_gr 5 3)) (ax_lf 234 (ao_ic (1) 1))))) (ax_nd 242 (ax_nd 236 (ax_nd 235 (ax_lf 235 ao_iald) (ax_lf 236 ao_imax)) (ax_nd 239 (ax_lf 239 (ao_pi 5 12)) (ax_lf 242 (ao_goto 250)))) (ax_nd 246 (ax_nd 245 (ax_lf 245 (ao_al 0 1)) (ax_lf 246 (ao_il 1 1))) (ax_nd 247 (ax_lf 247 (ao_inv g 3 5 0 yX5_tellLine cX5_tellLine 3 none 2 0 0 0 0)) (ax_lf 250 (ao_vret 0 0))))))))
theorem oX5_tell (g : ax_G) : ∀ pc, ax_ok g cX5_tell 3 none RX5 "tell" 4 0 0 pc (tX5_tell g pc) := ax_nd_ok (ax_nd_ok (ax_nd_ok (ax_nd_ok (ax_nd_ok (ax_nd_ok (ax_lf_ok (ak_iload_n rfl dX5_tell_0)) (ax_nd_ok (ax_lf_ok (ak_tsw dX5_tell_1 (by decide) (by decide) (by decide) (by decide) (by decide +kernel) (by decide))) (ax_lf_ok (ak_aload_n rfl dX5_tell_40)))) (ax_nd_ok (ax_nd_ok (ax_lf_ok (ak_gr fF_X5_12 dX5_tell_41)) (ax_lf_ok (ak_aload_n rfl dX5_tell_44))) (ax_nd_ok (ax_lf_ok (ak_gr fF_X5_24 dX5_tell_45)) (ax_lf_ok (ak_iconst (by decide) dX5_tell_48))))) (ax_nd_ok (ax_nd_ok (ax_lf_ok (ak_iald dX5_tell_49)) (ax_nd_ok (ax_lf_ok (ak_pi fF_X5_77 fW_X5_77_a dX5_tell_50)) (ax_lf_ok (ak_goto (by decide) dX5_tell_53)))) (ax_nd_ok (ax_nd_ok (ax_lf_ok (ak_aload_n rfl dX5_tell_56)) (ax_lf_ok (ak_gr fF_X5_12 dX5_tell_57))) (ax_nd_ok (ax_lf_ok (ak_gr fF_X5_147 dX5_tell_60)) (ax_lf_ok (ak_aload_n rfl dX5_tell_63)))))) (ax_nd_ok (ax_nd_ok (ax_nd_ok (ax_lf_ok (ak_gr fF_X5_24 dX5_tell_64)) (ax_nd_ok (ax_lf_ok (ak_iconst (by decide) dX5_tell_67)) (ax_lf_ok (ak_iald dX5_tell_68)))) (ax_nd_ok (ax_nd_ok (ax_lf_ok (ak_iload_n rfl dX5_tell_69)) (ax_lf_ok (ak_iconst (by decide) dX5_tell_70))) (ax_nd_ok (ax_lf_ok (ak_icmp_ne (by decide) dX5_tell_71)) (ax_lf_ok (ak_aload_n rfl dX5_tell_74))))) (ax_nd_ok (ax_nd_ok (ax_nd_ok (ax_lf_ok (ak_gr fF_X5_24 dX5_tell_75)) (ax_lf_ok (ak_iconst (by decide) dX5_tell_78))) (ax_nd_ok (ax_lf_ok (ak_iald dX5_tell_79)) (ax_lf_ok (ak_goto (by decide) dX5_tell_80)))) (ax_nd_ok (ax_nd_ok (ax_lf_ok (ak_aload_n rfl dX5_tell_83)) (ax_lf_ok (ak_gr fF_X5_24 dX5_tell_84))) (ax_nd_ok (ax_lf_ok (ak_iconst (by decide) dX5_tell_87)) (ax_lf_ok (ak_iald dX5_tell_88))))))) (ax_nd_ok (ax_nd_ok (ax_nd_ok (ax_nd_ok (ax_lf_ok (ak_ineg dX5_tell_89)) (ax_nd_ok (ax_lf_ok (ak_iast dX5_tell_90)) (ax_lf_ok (ak_aload_n rfl dX5_tell_91)))) (ax_nd_ok (ax_nd_ok (ax_lf_ok (ak_gr fF_X5_12 dX5_tell_92)) (ax_lf_ok (ak_gr fF_X5_150 dX5_tell_95))) (ax_nd_ok (ax_lf_ok (ak_aload_n rfl dX5_tell_98)) (ax_lf_ok (ak_gr fF_X5_24 dX5_tell_99))))) (ax_nd_ok (ax_nd_ok (ax_lf_ok (ak_iconst (by decide) dX5_tell_102)) (ax_nd_ok (ax_lf_ok (ak_iald dX5_tell_103)) (ax_lf_ok (ak_aload_n rfl dX5_tell_104)))) (ax_nd_ok (ax_nd_ok (ax_lf_ok (ak_gi fF_X5_47 dX5_tell_105)) (ax_lf_ok (ak_iast dX5_tell_108))) (ax_nd_ok (ax_lf_ok (ak_goto (by decide) dX5_tell_109)) (ax_lf_ok (ak_aload_n rfl dX5_tell_112)))))) (ax_nd_ok (ax_nd_ok (ax_nd_ok (ax_lf_ok (ak_gr fF_X5_12 dX5_tell_113)) (ax_nd_ok (ax_lf_ok (ak_gi fF_X5_80 dX5_tell_116)) (ax_lf_ok (ak_bipush (by decide) dX5_tell_119)))) (ax_nd_ok (ax_nd_ok (ax_lf_ok (ak_icmp_ge (by decide) dX5_tell_121)) (ax_lf_ok (ak_aload_n rfl dX5_tell_124))) (ax_nd_ok (ax_lf_ok (ak_gr fF_X5_12 dX5_tell_125)) (ax_lf_ok (ak_gr fF_X5_153 dX5_tell_128))))) (ax_nd_ok (ax_nd_ok (ax_nd_ok (ax_lf_ok (ak_aload_n rfl dX5_tell_131)) (ax_lf_ok (ak_gr fF_X5_12 dX5_tell_132))) (ax_nd_ok (ax_lf_ok (ak_gi fF_X5_80 dX5_tell_135)) (ax_lf_ok (ak_aload_n rfl dX5_tell_138)))) (ax_nd_ok (ax_nd_ok (ax_lf_ok (ak_gr fF_X5_24 dX5_tell_139)) (ax_lf_ok (ak_iconst (by decide) dX5_tell_142))) (ax_nd_ok (ax_lf_ok (ak_iald dX5_tell_143)) (ax_lf_ok (ak_iast dX5_tell_144)))))))) (ax_nd_ok (ax_nd_ok (ax_nd_ok (ax_nd_ok (ax_nd_ok (ax_lf_ok (ak_aload_n rfl dX5_tell_145)) (ax_nd_ok (ax_lf_ok (ak_gr fF_X5_12 dX5_tell_146)) (ax_lf_ok (ak_dup dX5_tell_149)))) (ax_nd_ok (ax_nd_ok (ax_lf_ok (ak_gi fF_X5_80 dX5_tell_150)) (ax_lf_ok (ak_iconst (by decide) dX5_tell_153))) (ax_nd_ok (ax_lf_ok (ak_iadd dX5_tell_154)) (ax_lf_ok (ak_pi fF_X5_80 fW_X5_80_a dX5_tell_155))))) (ax_nd_ok (ax_nd_ok (ax_lf_ok (ak_goto (by decide) dX5_tell_158)) (ax_nd_ok (ax_lf_ok (ak_iload_n rfl dX5_tell_161)) (ax_lf_ok (ak_iconst (by decide) dX5_tell_162)))) (ax_nd_ok (ax_nd_ok (ax_lf_ok (ak_icmp_ne (by decide) dX5_tell_163)) (ax_lf_ok (ak_aload_n rfl dX5_tell_166))) (ax_nd_ok (ax_lf_ok (ak_gr fF_X5_12 dX5_tell_167)) (ax_lf_ok (ak_gr fF_X5_156 dX5_tell_170)))))) (ax_nd_ok (ax_nd_ok (ax_nd_ok (ax_lf_ok (ak_goto (by decide) dX5_tell_173)) (ax_nd_ok (ax_lf_ok (ak_aload_n rfl dX5_tell_176)) (ax_lf_ok (ak_gr fF_X5_12 dX5_tell_177)))) (ax_nd_ok (ax_nd_ok (ax_lf_ok (ak_gr fF_X5_159 dX5_tell_180)) (ax_lf_ok (ak_astore_n rfl (by decide) dX5_tell_183))) (ax_nd_ok (ax_lf_ok (ak_aload_n rfl dX5_tell_184)) (ax_lf_ok (ak_aload_n rfl dX5_tell_185))))) (ax_nd_ok (ax_nd_ok (ax_nd_ok (ax_lf_ok (ak_gr fF_X5_24 dX5_tell_186)) (ax_lf_ok (ak_iconst (by decide) dX5_tell_189))) (ax_nd_ok (ax_lf_ok (ak_iald dX5_tell_190)) (ax_lf_ok (ak_bipush (by decide) dX5_tell_191)))) (ax_nd_ok (ax_nd_ok (ax_lf_ok (ak_imul dX5_tell_193)) (ax_lf_ok (ak_aload_n rfl dX5_tell_194))) (ax_nd_ok (ax_lf_ok (ak_gr fF_X5_24 dX5_tell_195)) (ax_lf_ok (ak_iconst (by decide) dX5_tell_198))))))) (ax_nd_ok (ax_nd_ok (ax_nd_ok (ax_nd_ok (ax_lf_ok (ak_iald dX5_tell_199)) (ax_nd_ok (ax_lf_ok (ak_iadd dX5_tell_200)) (ax_lf_ok (ak_aload_n rfl dX5_tell_201)))) (ax_nd_ok (ax_nd_ok (ax_lf_ok (ak_gr fF_X5_24 dX5_tell_202)) (ax_lf_ok (ak_iconst (by decide) dX5_tell_205))) (ax_nd_ok (ax_lf_ok (ak_iald dX5_tell_206)) (ax_lf_ok (ak_iast dX5_tell_207))))) (ax_nd_ok (ax_nd_ok (ax_nd_ok (ax_lf_ok (ak_aload_n rfl dX5_tell_208)) (ax_lf_ok (ak_aload_n rfl dX5_tell_209))) (ax_nd_ok (ax_lf_ok (ak_gi fF_X5_56 dX5_tell_210)) (ax_lf_ok (ak_aload_n rfl dX5_tell_213)))) (ax_nd_ok (ax_nd_ok (ax_lf_ok (ak_gr fF_X5_24 dX5_tell_214)) (ax_lf_ok (ak_iconst (by decide) dX5_tell_217))) (ax_nd_ok (ax_lf_ok (ak_iald dX5_tell_218)) (ax_lf_ok (ak_imax (by decide) wd_474 wd_475 wd_107 wd_476 dX5_tell_219)))))) (ax_nd_ok (ax_nd_ok (ax_nd_ok (ax_lf_ok (ak_pi fF_X5_56 fW_X5_56_a dX5_tell_222)) (ax_nd_ok (ax_lf_ok (ak_aload_n rfl dX5_tell_225)) (ax_lf_ok (ak_aload_n rfl dX5_tell_226)))) (ax_nd_ok (ax_nd_ok (ax_lf_ok (ak_gi fF_X5_53 dX5_tell_227)) (ax_lf_ok (ak_aload_n rfl dX5_tell_230))) (ax_nd_ok (ax_lf_ok (ak_gr fF_X5_24 dX5_tell_231)) (ax_lf_ok (ak_iconst (by decide) dX5_tell_234))))) (ax_nd_ok (ax_nd_ok (ax_nd_ok (ax_lf_ok (ak_iald dX5_tell_235)) (ax_lf_ok (ak_imax (by decide) wd_474 wd_475 wd_107 wd_476 dX5_tell_236))) (ax_nd_ok (ax_lf_ok (ak_pi fF_X5_53 fW_X5_53_a dX5_tell_239)) (ax_lf_ok (ak_goto (by decide) dX5_tell_242)))) (ax_nd_ok (ax_nd_ok (ax_lf_ok (ak_aload_n rfl dX5_tell_245)) (ax_lf_ok (ak_iload_n rfl dX5_tell_246))) (ax_nd_ok (ax_lf_ok (ak_invV (by decide) (by decide) (by decide) rfl wd_605 wd_607 wd_12 wd_100 wd_608 ⟨by decide, by decide, by decide +kernel⟩ dX5_tell_247)) (ax_lf_ok (ak_vret rfl dX5_tell_250))))))))
abbrev mX5_tell (g : ax_G) (as : List Value) (h : ax_H) (Ret : Option Value → ax_H → Prop) : Prop := ax_M g 4 0 0 yX5_tell cX5_tell 3 none as h Ret
theorem dX5_tellLine_0 : decode cX5_tellLine 0 = .ok (.iload_n 1, 1) := by decide +kernel
theorem dX5_tellLine_1 : decode cX5_tellLine 1 = .ok (.bipush 10, 2) := by decide +kernel
theorem dX5_tellLine_3 : decode cX5_tellLine 3 = .ok (.if_icmp .ne 16, 3) := by decide +kernel
theorem dX5_tellLine_6 : decode cX5_tellLine 6 = .ok (.aload_n 0, 1) := by decide +kernel
theorem dX5_tellLine_7 : decode cX5_tellLine 7 = .ok (.getfield 24, 3) := by decide +kernel
theorem dX5_tellLine_10 : decode cX5_tellLine 10 = .ok (.iconst 2, 1) := by decide +kernel
theorem dX5_tellLine_11 : decode cX5_tellLine 11 = .ok (.aload_n 0, 1) := by decide +kernel
theorem dX5_tellLine_12 : decode cX5_tellLine 12 = .ok (.getfield 24, 3) := by decide +kernel
theorem dX5_tellLine_15 : decode cX5_tellLine 15 = .ok (.iconst 2, 1) := by decide +kernel
theorem dX5_tellLine_16 : decode cX5_tellLine 16 = .ok (.iaload, 1) := by decide +kernel
theorem dX5_tellLine_17 : decode cX5_tellLine 17 = .ok (.ineg, 1) := by decide +kernel
theorem dX5_tellLine_18 : decode cX5_tellLine 18 = .ok (.iastore, 1) := by decide +kernel
theorem dX5_tellLine_19 : decode cX5_tellLine 19 = .ok (.aload_n 0, 1) := by decide +kernel
theorem dX5_tellLine_20 : decode cX5_tellLine 20 = .ok (.getstatic 135, 3) := by decide +kernel
theorem dX5_tellLine_23 : decode cX5_tellLine 23 = .ok (.iload_n 1, 1) := by decide +kernel
theorem dX5_tellLine_24 : decode cX5_tellLine 24 = .ok (.iaload, 1) := by decide +kernel
theorem dX5_tellLine_25 : decode cX5_tellLine 25 = .ok (.invokevirtual 98, 3) := by decide +kernel
theorem dX5_tellLine_28 : decode cX5_tellLine 28 = .ok (.astore_n 2, 1) := by decide +kernel
theorem dX5_tellLine_29 : decode cX5_tellLine 29 = .ok (.aload_n 2, 1) := by decide +kernel
theorem dX5_tellLine_30 : decode cX5_tellLine 30 = .ok (.ifnull 11, 3) := by decide +kernel
theorem dX5_tellLine_33 : decode cX5_tellLine 33 = .ok (.aload_n 2, 1) := by decide +kernel
theorem dX5_tellLine_34 : decode cX5_tellLine 34 = .ok (.aload_n 0, 1) := by decide +kernel
theorem dX5_tellLine_35 : decode cX5_tellLine 35 = .ok (.getfield 24, 3) := by decide +kernel
theorem dX5_tellLine_38 : decode cX5_tellLine 38 = .ok (.invokevirtual 165, 3) := by decide +kernel
theorem dX5_tellLine_41 : decode cX5_tellLine 41 = .ok (.return_, 1) := by decide +kernel
def tX5_tellLine (g : ax_G) : Nat → ax_O := ax_nd 18 (ax_nd 10 (ax_nd 3 (ax_nd 0 (ax_lf 0 (ao_il 1 1)) (ax_nd 1 (ax_lf 1 (ao_ic (10) 2)) (ax_lf 3 (ao_icmp_ne 19)))) (ax_nd 6 (ax_lf 6 (ao_al 0 1)) (ax_nd 7 (ax_lf 7 (ao_gr 5 3)) (ax_lf 10 (ao_ic (2) 1))))) (ax_nd 15 (ax_nd 11 (ax_lf 11 (ao_al 0 1)) (ax_nd 12 (ax_lf 12 (ao_gr 5 3)) (ax_lf 15 (ao_ic (2) 1)))) (ax_nd 16 (ax_lf 16 ao_iald) (ax_nd 17 (ax_lf 17 ao_ineg) (ax_lf 18 ao_iast))))) (ax_nd 28 (ax_nd 23 (ax_nd 19 (ax_lf 19 (ao_al 0 1)) (ax_nd 20 (ax_lf 20 (ao_gs 2)) (ax_lf 23 (ao_il 1 1)))) (ax_nd 24 (ax_lf 24 (ao_sald 2 [0, 0, 0, 0, 0, 0, 1, 2, 3, 4, 4])) (ax_nd 25 (ax_lf 25 (ao_inv g 1 5 3 yX5_draftOf cX5_draftOf 2 (some (.object "GluedHour$Lines")) 2 0 0 0 0)) (ax_lf 28 (ao_as 2 1))))) (ax_nd 33 (ax_nd 29 (ax_lf 29 (ao_al 2 1)) (ax_nd 30 (ax_lf 30 (ao_ifnull 41)) (ax_lf 33 (ao_al 2 1)))) (ax_nd 35 (ax_nd 34 (ax_lf 34 (ao_al 0 1)) (ax_lf 35 (ao_gr 5 3))) (ax_nd 38 (ax_lf 38 (ao_inv g 2 2 0 yX2_add cX2_add 2 none 2 0 0 0 0)) (ax_lf 41 (ao_vret 0 0))))))
theorem oX5_tellLine (g : ax_G) : ∀ pc, ax_ok g cX5_tellLine 3 none RX5 "tellLine" 3 0 0 pc (tX5_tellLine g pc) := ax_nd_ok (ax_nd_ok (ax_nd_ok (ax_nd_ok (ax_lf_ok (ak_iload_n rfl dX5_tellLine_0)) (ax_nd_ok (ax_lf_ok (ak_bipush (by decide) dX5_tellLine_1)) (ax_lf_ok (ak_icmp_ne (by decide) dX5_tellLine_3)))) (ax_nd_ok (ax_lf_ok (ak_aload_n rfl dX5_tellLine_6)) (ax_nd_ok (ax_lf_ok (ak_gr fF_X5_24 dX5_tellLine_7)) (ax_lf_ok (ak_iconst (by decide) dX5_tellLine_10))))) (ax_nd_ok (ax_nd_ok (ax_lf_ok (ak_aload_n rfl dX5_tellLine_11)) (ax_nd_ok (ax_lf_ok (ak_gr fF_X5_24 dX5_tellLine_12)) (ax_lf_ok (ak_iconst (by decide) dX5_tellLine_15)))) (ax_nd_ok (ax_lf_ok (ak_iald dX5_tellLine_16)) (ax_nd_ok (ax_lf_ok (ak_ineg dX5_tellLine_17)) (ax_lf_ok (ak_iast dX5_tellLine_18)))))) (ax_nd_ok (ax_nd_ok (ax_nd_ok (ax_lf_ok (ak_aload_n rfl dX5_tellLine_19)) (ax_nd_ok (ax_lf_ok (ak_gs (j := 2) rfl wd_504 dX5_tellLine_20)) (ax_lf_ok (ak_iload_n rfl dX5_tellLine_23)))) (ax_nd_ok (ax_lf_ok (ak_sald (j := 2) rfl dX5_tellLine_24)) (ax_nd_ok (ax_lf_ok (ak_invV (by decide) (by decide) (by decide) rfl wd_478 wd_480 wd_1 wd_100 wd_481 ⟨by decide, by decide, by decide +kernel⟩ dX5_tellLine_25)) (ax_lf_ok (ak_astore_n rfl (by decide) dX5_tellLine_28))))) (ax_nd_ok (ax_nd_ok (ax_lf_ok (ak_aload_n rfl dX5_tellLine_29)) (ax_nd_ok (ax_lf_ok (ak_ifnull (by decide) dX5_tellLine_30)) (ax_lf_ok (ak_aload_n rfl dX5_tellLine_33)))) (ax_nd_ok (ax_nd_ok (ax_lf_ok (ak_aload_n rfl dX5_tellLine_34)) (ax_lf_ok (ak_gr fF_X5_24 dX5_tellLine_35))) (ax_nd_ok (ax_lf_ok (ak_invV (by decide) (by decide) (by decide) rfl wd_609 wd_610 wd_611 wd_99 wd_612 ⟨by decide, by decide, by decide +kernel⟩ dX5_tellLine_38)) (ax_lf_ok (ak_vret rfl dX5_tellLine_41))))))
abbrev mX5_tellLine (g : ax_G) (as : List Value) (h : ax_H) (Ret : Option Value → ax_H → Prop) : Prop := ax_M g 3 0 0 yX5_tellLine cX5_tellLine 3 none as h Ret
theorem dX5_verbOf_0 : decode cX5_verbOf 0 = .ok (.iconst 0, 1) := by decide +kernel
theorem dX5_verbOf_1 : decode cX5_verbOf 1 = .ok (.istore_n 2, 1) := by decide +kernel
theorem dX5_verbOf_2 : decode cX5_verbOf 2 = .ok (.iload_n 2, 1) := by decide +kernel
theorem dX5_verbOf_3 : decode cX5_verbOf 3 = .ok (.bipush 11, 2) := by decide +kernel
theorem dX5_verbOf_5 : decode cX5_verbOf 5 = .ok (.if_icmp .ge 31, 3) := by decide +kernel
theorem dX5_verbOf_8 : decode cX5_verbOf 8 = .ok (.getstatic 135, 3) := by decide +kernel
theorem dX5_verbOf_11 : decode cX5_verbOf 11 = .ok (.iload_n 2, 1) := by decide +kernel
theorem dX5_verbOf_12 : decode cX5_verbOf 12 = .ok (.iaload, 1) := by decide +kernel
theorem dX5_verbOf_13 : decode cX5_verbOf 13 = .ok (.iload_n 1, 1) := by decide +kernel
theorem dX5_verbOf_14 : decode cX5_verbOf 14 = .ok (.if_icmp .ne 16, 3) := by decide +kernel
theorem dX5_verbOf_17 : decode cX5_verbOf 17 = .ok (.aload_n 0, 1) := by decide +kernel
theorem dX5_verbOf_18 : decode cX5_verbOf 18 = .ok (.iload_n 2, 1) := by decide +kernel
theorem dX5_verbOf_19 : decode cX5_verbOf 19 = .ok (.invokestatic 169, 3) := by decide +kernel
theorem dX5_verbOf_22 : decode cX5_verbOf 22 = .ok (.invokevirtual 127, 3) := by decide +kernel
theorem dX5_verbOf_25 : decode cX5_verbOf 25 = .ok (.ifCond .eq 5, 3) := by decide +kernel
theorem dX5_verbOf_28 : decode cX5_verbOf 28 = .ok (.iload_n 2, 1) := by decide +kernel
theorem dX5_verbOf_29 : decode cX5_verbOf 29 = .ok (.ireturn, 1) := by decide +kernel
theorem dX5_verbOf_30 : decode cX5_verbOf 30 = .ok (.iinc 2 1, 3) := by decide +kernel
theorem dX5_verbOf_33 : decode cX5_verbOf 33 = .ok (.goto (-31), 3) := by decide +kernel
theorem dX5_verbOf_36 : decode cX5_verbOf 36 = .ok (.iconst (-1), 1) := by decide +kernel
theorem dX5_verbOf_37 : decode cX5_verbOf 37 = .ok (.ireturn, 1) := by decide +kernel
def tX5_verbOf (g : ax_G) : Nat → ax_O := ax_nd 14 (ax_nd 5 (ax_nd 1 (ax_nd 0 (ax_lf 0 (ao_ic (0) 1)) (ax_lf 1 (ao_is 2 1))) (ax_nd 2 (ax_lf 2 (ao_il 2 1)) (ax_nd 3 (ax_lf 3 (ao_ic (11) 2)) (ax_lf 5 (ao_icmp_ge 36))))) (ax_nd 11 (ax_nd 8 (ax_lf 8 (ao_gs 2)) (ax_lf 11 (ao_il 2 1))) (ax_nd 12 (ax_lf 12 (ao_sald 2 [0, 0, 0, 0, 0, 0, 1, 2, 3, 4, 4])) (ax_nd 13 (ax_lf 13 (ao_il 1 1)) (ax_lf 14 (ao_icmp_ne 30)))))) (ax_nd 25 (ax_nd 18 (ax_nd 17 (ax_lf 17 (ao_al 0 1)) (ax_lf 18 (ao_il 2 1))) (ax_nd 19 (ax_lf 19 (ao_inv g 1 99 3 yX5_wordOf cX5_wordOf 1 (some (.object "java/lang/String")) 1 0 0 0 0)) (ax_nd 22 (ax_lf 22 (ao_inv g 6 5 1 yX5_isWord cX5_isWord 3 (some .boolean) 2 0 0 0 0)) (ax_lf 25 (ao_if_eq 30))))) (ax_nd 30 (ax_nd 28 (ax_lf 28 (ao_il 2 1)) (ax_nd 29 (ax_lf 29 (ao_iret 0 0)) (ax_lf 30 (ao_iinc 2 (1))))) (ax_nd 33 (ax_lf 33 (ao_goto 2)) (ax_nd 36 (ax_lf 36 (ao_ic (-1) 1)) (ax_lf 37 (ao_iret 0 0))))))
theorem oX5_verbOf (g : ax_G) : ∀ pc, ax_ok g cX5_verbOf 3 (some .int) RX5 "verbOf" 7 0 0 pc (tX5_verbOf g pc) := ax_nd_ok (ax_nd_ok (ax_nd_ok (ax_nd_ok (ax_lf_ok (ak_iconst (by decide) dX5_verbOf_0)) (ax_lf_ok (ak_istore_n rfl (by decide) dX5_verbOf_1))) (ax_nd_ok (ax_lf_ok (ak_iload_n rfl dX5_verbOf_2)) (ax_nd_ok (ax_lf_ok (ak_bipush (by decide) dX5_verbOf_3)) (ax_lf_ok (ak_icmp_ge (by decide) dX5_verbOf_5))))) (ax_nd_ok (ax_nd_ok (ax_lf_ok (ak_gs (j := 2) rfl wd_504 dX5_verbOf_8)) (ax_lf_ok (ak_iload_n rfl dX5_verbOf_11))) (ax_nd_ok (ax_lf_ok (ak_sald (j := 2) rfl dX5_verbOf_12)) (ax_nd_ok (ax_lf_ok (ak_iload_n rfl dX5_verbOf_13)) (ax_lf_ok (ak_icmp_ne (by decide) dX5_verbOf_14)))))) (ax_nd_ok (ax_nd_ok (ax_nd_ok (ax_lf_ok (ak_aload_n rfl dX5_verbOf_17)) (ax_lf_ok (ak_iload_n rfl dX5_verbOf_18))) (ax_nd_ok (ax_lf_ok (ak_invS (by decide) (by decide) wd_506 wd_507 wd_100 wd_508 ⟨by decide, by decide, by decide +kernel⟩ dX5_verbOf_19)) (ax_nd_ok (ax_lf_ok (ak_invV (by decide) (by decide) (by decide) rfl wd_520 wd_522 wd_6 wd_100 wd_523 ⟨by decide, by decide, by decide +kernel⟩ dX5_verbOf_22)) (ax_lf_ok (ak_if_eq (by decide) dX5_verbOf_25))))) (ax_nd_ok (ax_nd_ok (ax_lf_ok (ak_iload_n rfl dX5_verbOf_28)) (ax_nd_ok (ax_lf_ok (ak_iret rfl dX5_verbOf_29)) (ax_lf_ok (ak_iinc (by decide) (by decide) dX5_verbOf_30)))) (ax_nd_ok (ax_lf_ok (ak_goto (by decide) dX5_verbOf_33)) (ax_nd_ok (ax_lf_ok (ak_iconst (by decide) dX5_verbOf_36)) (ax_lf_ok (ak_iret rfl dX5_verbOf_37))))))
abbrev mX5_verbOf (g : ax_G) (as : List Value) (h : ax_H) (Ret : Option Value → ax_H → Prop) : Prop := ax_M g 7 0 0 yX5_verbOf cX5_verbOf 3 (some .int) as h Ret
theorem dX5_wordOf_0 : decode cX5_wordOf 0 = .ok (.iload_n 0, 1) := by decide +kernel
theorem dX5_wordOf_1 : decode cX5_wordOf 1 = .ok (.tableswitch 85 0 9 #[55, 58, 61, 64, 67, 70, 73, 76, 79, 82], 55) := by decide +kernel
theorem dX5_wordOf_56 : decode cX5_wordOf 56 = .ok (.ldc 173, 2) := by decide +kernel
theorem dX5_wordOf_58 : decode cX5_wordOf 58 = .ok (.areturn, 1) := by decide +kernel
theorem dX5_wordOf_59 : decode cX5_wordOf 59 = .ok (.ldc 174, 2) := by decide +kernel
theorem dX5_wordOf_61 : decode cX5_wordOf 61 = .ok (.areturn, 1) := by decide +kernel
theorem dX5_wordOf_62 : decode cX5_wordOf 62 = .ok (.ldc 176, 2) := by decide +kernel
theorem dX5_wordOf_64 : decode cX5_wordOf 64 = .ok (.areturn, 1) := by decide +kernel
theorem dX5_wordOf_65 : decode cX5_wordOf 65 = .ok (.ldc 178, 2) := by decide +kernel
theorem dX5_wordOf_67 : decode cX5_wordOf 67 = .ok (.areturn, 1) := by decide +kernel
theorem dX5_wordOf_68 : decode cX5_wordOf 68 = .ok (.ldc 180, 2) := by decide +kernel
theorem dX5_wordOf_70 : decode cX5_wordOf 70 = .ok (.areturn, 1) := by decide +kernel
theorem dX5_wordOf_71 : decode cX5_wordOf 71 = .ok (.ldc 182, 2) := by decide +kernel
theorem dX5_wordOf_73 : decode cX5_wordOf 73 = .ok (.areturn, 1) := by decide +kernel
theorem dX5_wordOf_74 : decode cX5_wordOf 74 = .ok (.ldc 184, 2) := by decide +kernel
theorem dX5_wordOf_76 : decode cX5_wordOf 76 = .ok (.areturn, 1) := by decide +kernel
theorem dX5_wordOf_77 : decode cX5_wordOf 77 = .ok (.ldc 186, 2) := by decide +kernel
theorem dX5_wordOf_79 : decode cX5_wordOf 79 = .ok (.areturn, 1) := by decide +kernel
theorem dX5_wordOf_80 : decode cX5_wordOf 80 = .ok (.ldc 188, 2) := by decide +kernel
theorem dX5_wordOf_82 : decode cX5_wordOf 82 = .ok (.areturn, 1) := by decide +kernel
theorem dX5_wordOf_83 : decode cX5_wordOf 83 = .ok (.ldc 190, 2) := by decide +kernel
theorem dX5_wordOf_85 : decode cX5_wordOf 85 = .ok (.areturn, 1) := by decide +kernel
theorem dX5_wordOf_86 : decode cX5_wordOf 86 = .ok (.ldc 192, 2) := by decide +kernel
theorem dX5_wordOf_88 : decode cX5_wordOf 88 = .ok (.areturn, 1) := by decide +kernel
def tX5_wordOf (g : ax_G) : Nat → ax_O := ax_nd 70 (ax_nd 61 (ax_nd 56 (ax_nd 0 (ax_lf 0 (ao_il 0 1)) (ax_nd 1 (ax_lf 1 (ao_sw [(0, 56), (1, 59), (2, 62), (3, 65), (4, 68), (5, 71), (6, 74), (7, 77), (8, 80), (9, 83)] 86)) (ax_lf 56 (ao_ldcs 3)))) (ax_nd 58 (ax_lf 58 (ao_aret 0 0)) (ax_nd 59 (ax_lf 59 (ao_ldcs 4)) (ax_lf 61 (ao_aret 0 0))))) (ax_nd 65 (ax_nd 62 (ax_lf 62 (ao_ldcs 5)) (ax_nd 64 (ax_lf 64 (ao_aret 0 0)) (ax_lf 65 (ao_ldcs 6)))) (ax_nd 67 (ax_lf 67 (ao_aret 0 0)) (ax_nd 68 (ax_lf 68 (ao_ldcs 7)) (ax_lf 70 (ao_aret 0 0)))))) (ax_nd 79 (ax_nd 74 (ax_nd 71 (ax_lf 71 (ao_ldcs 8)) (ax_nd 73 (ax_lf 73 (ao_aret 0 0)) (ax_lf 74 (ao_ldcs 9)))) (ax_nd 76 (ax_lf 76 (ao_aret 0 0)) (ax_nd 77 (ax_lf 77 (ao_ldcs 10)) (ax_lf 79 (ao_aret 0 0))))) (ax_nd 83 (ax_nd 80 (ax_lf 80 (ao_ldcs 11)) (ax_nd 82 (ax_lf 82 (ao_aret 0 0)) (ax_lf 83 (ao_ldcs 12)))) (ax_nd 85 (ax_lf 85 (ao_aret 0 0)) (ax_nd 86 (ax_lf 86 (ao_ldcs 13)) (ax_lf 88 (ao_aret 0 0))))))
theorem oX5_wordOf (g : ax_G) : ∀ pc, ax_ok g cX5_wordOf 1 (some (.object "java/lang/String")) RX5 "wordOf" 1 0 0 pc (tX5_wordOf g pc) := ax_nd_ok (ax_nd_ok (ax_nd_ok (ax_nd_ok (ax_lf_ok (ak_iload_n rfl dX5_wordOf_0)) (ax_nd_ok (ax_lf_ok (ak_tsw dX5_wordOf_1 (by decide) (by decide) (by decide) (by decide) (by decide +kernel) (by decide))) (ax_lf_ok (ak_ldcs (i := 3) rfl dX5_wordOf_56)))) (ax_nd_ok (ax_lf_ok (ak_aret rfl (Or.inl ⟨_, rfl⟩) dX5_wordOf_58)) (ax_nd_ok (ax_lf_ok (ak_ldcs (i := 4) rfl dX5_wordOf_59)) (ax_lf_ok (ak_aret rfl (Or.inl ⟨_, rfl⟩) dX5_wordOf_61))))) (ax_nd_ok (ax_nd_ok (ax_lf_ok (ak_ldcs (i := 5) rfl dX5_wordOf_62)) (ax_nd_ok (ax_lf_ok (ak_aret rfl (Or.inl ⟨_, rfl⟩) dX5_wordOf_64)) (ax_lf_ok (ak_ldcs (i := 6) rfl dX5_wordOf_65)))) (ax_nd_ok (ax_lf_ok (ak_aret rfl (Or.inl ⟨_, rfl⟩) dX5_wordOf_67)) (ax_nd_ok (ax_lf_ok (ak_ldcs (i := 7) rfl dX5_wordOf_68)) (ax_lf_ok (ak_aret rfl (Or.inl ⟨_, rfl⟩) dX5_wordOf_70)))))) (ax_nd_ok (ax_nd_ok (ax_nd_ok (ax_lf_ok (ak_ldcs (i := 8) rfl dX5_wordOf_71)) (ax_nd_ok (ax_lf_ok (ak_aret rfl (Or.inl ⟨_, rfl⟩) dX5_wordOf_73)) (ax_lf_ok (ak_ldcs (i := 9) rfl dX5_wordOf_74)))) (ax_nd_ok (ax_lf_ok (ak_aret rfl (Or.inl ⟨_, rfl⟩) dX5_wordOf_76)) (ax_nd_ok (ax_lf_ok (ak_ldcs (i := 10) rfl dX5_wordOf_77)) (ax_lf_ok (ak_aret rfl (Or.inl ⟨_, rfl⟩) dX5_wordOf_79))))) (ax_nd_ok (ax_nd_ok (ax_lf_ok (ak_ldcs (i := 11) rfl dX5_wordOf_80)) (ax_nd_ok (ax_lf_ok (ak_aret rfl (Or.inl ⟨_, rfl⟩) dX5_wordOf_82)) (ax_lf_ok (ak_ldcs (i := 12) rfl dX5_wordOf_83)))) (ax_nd_ok (ax_lf_ok (ak_aret rfl (Or.inl ⟨_, rfl⟩) dX5_wordOf_85)) (ax_nd_ok (ax_lf_ok (ak_ldcs (i := 13) rfl dX5_wordOf_86)) (ax_lf_ok (ak_aret rfl (Or.inl ⟨_, rfl⟩) dX5_wordOf_88))))))
abbrev mX5_wordOf (g : ax_G) (as : List Value) (h : ax_H) (Ret : Option Value → ax_H → Prop) : Prop := ax_M g 1 0 0 yX5_wordOf cX5_wordOf 1 (some (.object "java/lang/String")) as h Ret
theorem dX5_isWord_0 : decode cX5_isWord 0 = .ok (.aload_n 0, 1) := by decide +kernel
theorem dX5_isWord_1 : decode cX5_isWord 1 = .ok (.getfield 35, 3) := by decide +kernel
theorem dX5_isWord_4 : decode cX5_isWord 4 = .ok (.iconst 1, 1) := by decide +kernel
theorem dX5_isWord_5 : decode cX5_isWord 5 = .ok (.if_icmp .ne 19, 3) := by decide +kernel
theorem dX5_isWord_8 : decode cX5_isWord 8 = .ok (.aload_n 0, 1) := by decide +kernel
theorem dX5_isWord_9 : decode cX5_isWord 9 = .ok (.getfield 41, 3) := by decide +kernel
theorem dX5_isWord_12 : decode cX5_isWord 12 = .ok (.aload_n 0, 1) := by decide +kernel
theorem dX5_isWord_13 : decode cX5_isWord 13 = .ok (.getfield 38, 3) := by decide +kernel
theorem dX5_isWord_16 : decode cX5_isWord 16 = .ok (.isub, 1) := by decide +kernel
theorem dX5_isWord_17 : decode cX5_isWord 17 = .ok (.aload_n 1, 1) := by decide +kernel
theorem dX5_isWord_18 : decode cX5_isWord 18 = .ok (.invokevirtual 194, 3) := by decide +kernel
theorem dX5_isWord_21 : decode cX5_isWord 21 = .ok (.if_icmp .eq 5, 3) := by decide +kernel
theorem dX5_isWord_24 : decode cX5_isWord 24 = .ok (.iconst 0, 1) := by decide +kernel
theorem dX5_isWord_25 : decode cX5_isWord 25 = .ok (.ireturn, 1) := by decide +kernel
theorem dX5_isWord_26 : decode cX5_isWord 26 = .ok (.iconst 0, 1) := by decide +kernel
theorem dX5_isWord_27 : decode cX5_isWord 27 = .ok (.istore_n 2, 1) := by decide +kernel
theorem dX5_isWord_28 : decode cX5_isWord 28 = .ok (.iload_n 2, 1) := by decide +kernel
theorem dX5_isWord_29 : decode cX5_isWord 29 = .ok (.aload_n 1, 1) := by decide +kernel
theorem dX5_isWord_30 : decode cX5_isWord 30 = .ok (.invokevirtual 194, 3) := by decide +kernel
theorem dX5_isWord_33 : decode cX5_isWord 33 = .ok (.if_icmp .ge 30, 3) := by decide +kernel
theorem dX5_isWord_36 : decode cX5_isWord 36 = .ok (.aload_n 0, 1) := by decide +kernel
theorem dX5_isWord_37 : decode cX5_isWord 37 = .ok (.getfield 59, 3) := by decide +kernel
theorem dX5_isWord_40 : decode cX5_isWord 40 = .ok (.aload_n 0, 1) := by decide +kernel
theorem dX5_isWord_41 : decode cX5_isWord 41 = .ok (.getfield 38, 3) := by decide +kernel
theorem dX5_isWord_44 : decode cX5_isWord 44 = .ok (.iload_n 2, 1) := by decide +kernel
theorem dX5_isWord_45 : decode cX5_isWord 45 = .ok (.iadd, 1) := by decide +kernel
theorem dX5_isWord_46 : decode cX5_isWord 46 = .ok (.baload, 1) := by decide +kernel
theorem dX5_isWord_47 : decode cX5_isWord 47 = .ok (.aload_n 1, 1) := by decide +kernel
theorem dX5_isWord_48 : decode cX5_isWord 48 = .ok (.iload_n 2, 1) := by decide +kernel
theorem dX5_isWord_49 : decode cX5_isWord 49 = .ok (.invokevirtual 199, 3) := by decide +kernel
theorem dX5_isWord_52 : decode cX5_isWord 52 = .ok (.if_icmp .eq 5, 3) := by decide +kernel
theorem dX5_isWord_55 : decode cX5_isWord 55 = .ok (.iconst 0, 1) := by decide +kernel
theorem dX5_isWord_56 : decode cX5_isWord 56 = .ok (.ireturn, 1) := by decide +kernel
theorem dX5_isWord_57 : decode cX5_isWord 57 = .ok (.iinc 2 1, 3) := by decide +kernel
theorem dX5_isWord_60 : decode cX5_isWord 60 = .ok (.goto (-32), 3) := by decide +kernel
theorem dX5_isWord_63 : decode cX5_isWord 63 = .ok (.iconst 1, 1) := by decide +kernel
theorem dX5_isWord_64 : decode cX5_isWord 64 = .ok (.ireturn, 1) := by decide +kernel
def tX5_isWord (g : ax_G) : Nat → ax_O := ax_nd 29 (ax_nd 16 (ax_nd 5 (ax_nd 1 (ax_nd 0 (ax_lf 0 (ao_al 0 1)) (ax_lf 1 (ao_gi 5 6))) (ax_nd 4 (ax_lf 4 (ao_ic (1) 1)) (ax_lf 5 (ao_icmp_ne 24)))) (ax_nd 9 (ax_nd 8 (ax_lf 8 (ao_al 0 1)) (ax_lf 9 (ao_gi 5 8))) (ax_nd 12 (ax_lf 12 (ao_al 0 1)) (ax_nd 13 (ax_lf 13 (ao_gi 5 7)) (ax_lf 16 ao_isub))))) (ax_nd 24 (ax_nd 18 (ax_nd 17 (ax_lf 17 (ao_al 1 1)) (ax_lf 18 (ao_invs g 2 yJ0_length_8abf5 cJ0_length_8abf5 1 (some .int) 1))) (ax_nd 21 (ax_lf 21 (ao_icmp_eq 26)) (ax_lf 24 (ao_ic (0) 1)))) (ax_nd 26 (ax_nd 25 (ax_lf 25 (ao_zret 0 0)) (ax_lf 26 (ao_ic (0) 1))) (ax_nd 27 (ax_lf 27 (ao_is 2 1)) (ax_nd 28 (ax_lf 28 (ao_il 2 1)) (ax_lf 29 (ao_al 1 1))))))) (ax_nd 46 (ax_nd 37 (ax_nd 33 (ax_nd 30 (ax_lf 30 (ao_invs g 2 yJ0_length_8abf5 cJ0_length_8abf5 1 (some .int) 1)) (ax_lf 33 (ao_icmp_ge 63))) (ax_nd 36 (ax_lf 36 (ao_al 0 1)) (ax_lf 37 (ao_gr 5 0)))) (ax_nd 41 (ax_nd 40 (ax_lf 40 (ao_al 0 1)) (ax_lf 41 (ao_gi 5 7))) (ax_nd 44 (ax_lf 44 (ao_il 2 1)) (ax_nd 45 (ax_lf 45 ao_iadd) (ax_lf 46 (ao_bald 12)))))) (ax_nd 55 (ax_nd 48 (ax_nd 47 (ax_lf 47 (ao_al 1 1)) (ax_lf 48 (ao_il 2 1))) (ax_nd 49 (ax_lf 49 (ao_invs g 5 yJ0_charAt_5068e cJ0_charAt_5068e 2 (some .char) 2)) (ax_nd 52 (ax_lf 52 (ao_icmp_eq 57)) (ax_lf 55 (ao_ic (0) 1))))) (ax_nd 57 (ax_nd 56 (ax_lf 56 (ao_zret 0 0)) (ax_lf 57 (ao_iinc 2 (1)))) (ax_nd 60 (ax_lf 60 (ao_goto 28)) (ax_nd 63 (ax_lf 63 (ao_ic (1) 1)) (ax_lf 64 (ao_zret 0 0)))))))
theorem oX5_isWord (g : ax_G) : ∀ pc, ax_ok g cX5_isWord 3 (some .boolean) RX5 "isWord" 6 0 0 pc (tX5_isWord g pc) := ax_nd_ok (ax_nd_ok (ax_nd_ok (ax_nd_ok (ax_nd_ok (ax_lf_ok (ak_aload_n rfl dX5_isWord_0)) (ax_lf_ok (ak_gi fF_X5_35 dX5_isWord_1))) (ax_nd_ok (ax_lf_ok (ak_iconst (by decide) dX5_isWord_4)) (ax_lf_ok (ak_icmp_ne (by decide) dX5_isWord_5)))) (ax_nd_ok (ax_nd_ok (ax_lf_ok (ak_aload_n rfl dX5_isWord_8)) (ax_lf_ok (ak_gi fF_X5_41 dX5_isWord_9))) (ax_nd_ok (ax_lf_ok (ak_aload_n rfl dX5_isWord_12)) (ax_nd_ok (ax_lf_ok (ak_gi fF_X5_38 dX5_isWord_13)) (ax_lf_ok (ak_isub dX5_isWord_16)))))) (ax_nd_ok (ax_nd_ok (ax_nd_ok (ax_lf_ok (ak_aload_n rfl dX5_isWord_17)) (ax_lf_ok (ak_invs (by decide) rfl (by decide) wd_524 wd_525 wd_526 wd_108 wd_527 ⟨by decide, by decide, by decide +kernel⟩ dX5_isWord_18))) (ax_nd_ok (ax_lf_ok (ak_icmp_eq (by decide) dX5_isWord_21)) (ax_lf_ok (ak_iconst (by decide) dX5_isWord_24)))) (ax_nd_ok (ax_nd_ok (ax_lf_ok (ak_zret rfl dX5_isWord_25)) (ax_lf_ok (ak_iconst (by decide) dX5_isWord_26))) (ax_nd_ok (ax_lf_ok (ak_istore_n rfl (by decide) dX5_isWord_27)) (ax_nd_ok (ax_lf_ok (ak_iload_n rfl dX5_isWord_28)) (ax_lf_ok (ak_aload_n rfl dX5_isWord_29))))))) (ax_nd_ok (ax_nd_ok (ax_nd_ok (ax_nd_ok (ax_lf_ok (ak_invs (by decide) rfl (by decide) wd_524 wd_525 wd_526 wd_108 wd_527 ⟨by decide, by decide, by decide +kernel⟩ dX5_isWord_30)) (ax_lf_ok (ak_icmp_ge (by decide) dX5_isWord_33))) (ax_nd_ok (ax_lf_ok (ak_aload_n rfl dX5_isWord_36)) (ax_lf_ok (ak_gr fF_X5_59 dX5_isWord_37)))) (ax_nd_ok (ax_nd_ok (ax_lf_ok (ak_aload_n rfl dX5_isWord_40)) (ax_lf_ok (ak_gi fF_X5_38 dX5_isWord_41))) (ax_nd_ok (ax_lf_ok (ak_iload_n rfl dX5_isWord_44)) (ax_nd_ok (ax_lf_ok (ak_iadd dX5_isWord_45)) (ax_lf_ok (ak_bald dX5_isWord_46)))))) (ax_nd_ok (ax_nd_ok (ax_nd_ok (ax_lf_ok (ak_aload_n rfl dX5_isWord_47)) (ax_lf_ok (ak_iload_n rfl dX5_isWord_48))) (ax_nd_ok (ax_lf_ok (ak_invs (by decide) rfl (by decide) wd_534 wd_535 wd_536 wd_108 wd_537 ⟨by decide, by decide, by decide +kernel⟩ dX5_isWord_49)) (ax_nd_ok (ax_lf_ok (ak_icmp_eq (by decide) dX5_isWord_52)) (ax_lf_ok (ak_iconst (by decide) dX5_isWord_55))))) (ax_nd_ok (ax_nd_ok (ax_lf_ok (ak_zret rfl dX5_isWord_56)) (ax_lf_ok (ak_iinc (by decide) (by decide) dX5_isWord_57))) (ax_nd_ok (ax_lf_ok (ak_goto (by decide) dX5_isWord_60)) (ax_nd_ok (ax_lf_ok (ak_iconst (by decide) dX5_isWord_63)) (ax_lf_ok (ak_zret rfl dX5_isWord_64)))))))
abbrev mX5_isWord (g : ax_G) (as : List Value) (h : ax_H) (Ret : Option Value → ax_H → Prop) : Prop := ax_M g 6 0 0 yX5_isWord cX5_isWord 3 (some .boolean) as h Ret
theorem dX5_step_0 : decode cX5_step 0 = .ok (.aload_n 0, 1) := by decide +kernel
theorem dX5_step_1 : decode cX5_step 1 = .ok (.getfield 41, 3) := by decide +kernel
theorem dX5_step_4 : decode cX5_step 4 = .ok (.aload_n 0, 1) := by decide +kernel
theorem dX5_step_5 : decode cX5_step 5 = .ok (.getfield 50, 3) := by decide +kernel
theorem dX5_step_8 : decode cX5_step 8 = .ok (.if_icmp .ge 44, 3) := by decide +kernel
theorem dX5_step_11 : decode cX5_step 11 = .ok (.aload_n 0, 1) := by decide +kernel
theorem dX5_step_12 : decode cX5_step 12 = .ok (.getfield 59, 3) := by decide +kernel
theorem dX5_step_15 : decode cX5_step 15 = .ok (.aload_n 0, 1) := by decide +kernel
theorem dX5_step_16 : decode cX5_step 16 = .ok (.getfield 41, 3) := by decide +kernel
theorem dX5_step_19 : decode cX5_step 19 = .ok (.baload, 1) := by decide +kernel
theorem dX5_step_20 : decode cX5_step 20 = .ok (.bipush 10, 2) := by decide +kernel
theorem dX5_step_22 : decode cX5_step 22 = .ok (.if_icmp .eq 17, 3) := by decide +kernel
theorem dX5_step_25 : decode cX5_step 25 = .ok (.aload_n 0, 1) := by decide +kernel
theorem dX5_step_26 : decode cX5_step 26 = .ok (.getfield 59, 3) := by decide +kernel
theorem dX5_step_29 : decode cX5_step 29 = .ok (.aload_n 0, 1) := by decide +kernel
theorem dX5_step_30 : decode cX5_step 30 = .ok (.getfield 41, 3) := by decide +kernel
theorem dX5_step_33 : decode cX5_step 33 = .ok (.baload, 1) := by decide +kernel
theorem dX5_step_34 : decode cX5_step 34 = .ok (.bipush 32, 2) := by decide +kernel
theorem dX5_step_36 : decode cX5_step 36 = .ok (.if_icmp .ne 16, 3) := by decide +kernel
theorem dX5_step_39 : decode cX5_step 39 = .ok (.aload_n 0, 1) := by decide +kernel
theorem dX5_step_40 : decode cX5_step 40 = .ok (.dup, 1) := by decide +kernel
theorem dX5_step_41 : decode cX5_step 41 = .ok (.getfield 41, 3) := by decide +kernel
theorem dX5_step_44 : decode cX5_step 44 = .ok (.iconst 1, 1) := by decide +kernel
theorem dX5_step_45 : decode cX5_step 45 = .ok (.iadd, 1) := by decide +kernel
theorem dX5_step_46 : decode cX5_step 46 = .ok (.putfield 41, 3) := by decide +kernel
theorem dX5_step_49 : decode cX5_step 49 = .ok (.goto (-49), 3) := by decide +kernel
theorem dX5_step_52 : decode cX5_step 52 = .ok (.aload_n 0, 1) := by decide +kernel
theorem dX5_step_53 : decode cX5_step 53 = .ok (.aload_n 0, 1) := by decide +kernel
theorem dX5_step_54 : decode cX5_step 54 = .ok (.getfield 41, 3) := by decide +kernel
theorem dX5_step_57 : decode cX5_step 57 = .ok (.putfield 38, 3) := by decide +kernel
theorem dX5_step_60 : decode cX5_step 60 = .ok (.aload_n 0, 1) := by decide +kernel
theorem dX5_step_61 : decode cX5_step 61 = .ok (.getfield 41, 3) := by decide +kernel
theorem dX5_step_64 : decode cX5_step 64 = .ok (.aload_n 0, 1) := by decide +kernel
theorem dX5_step_65 : decode cX5_step 65 = .ok (.getfield 50, 3) := by decide +kernel
theorem dX5_step_68 : decode cX5_step 68 = .ok (.if_icmp .lt 11, 3) := by decide +kernel
theorem dX5_step_71 : decode cX5_step 71 = .ok (.aload_n 0, 1) := by decide +kernel
theorem dX5_step_72 : decode cX5_step 72 = .ok (.iconst 0, 1) := by decide +kernel
theorem dX5_step_73 : decode cX5_step 73 = .ok (.putfield 35, 3) := by decide +kernel
theorem dX5_step_76 : decode cX5_step 76 = .ok (.goto 117, 3) := by decide +kernel
theorem dX5_step_79 : decode cX5_step 79 = .ok (.aload_n 0, 1) := by decide +kernel
theorem dX5_step_80 : decode cX5_step 80 = .ok (.getfield 59, 3) := by decide +kernel
theorem dX5_step_83 : decode cX5_step 83 = .ok (.aload_n 0, 1) := by decide +kernel
theorem dX5_step_84 : decode cX5_step 84 = .ok (.getfield 41, 3) := by decide +kernel
theorem dX5_step_87 : decode cX5_step 87 = .ok (.baload, 1) := by decide +kernel
theorem dX5_step_88 : decode cX5_step 88 = .ok (.invokestatic 203, 3) := by decide +kernel
theorem dX5_step_91 : decode cX5_step 91 = .ok (.ifCond .eq 47, 3) := by decide +kernel
theorem dX5_step_94 : decode cX5_step 94 = .ok (.aload_n 0, 1) := by decide +kernel
theorem dX5_step_95 : decode cX5_step 95 = .ok (.iconst 1, 1) := by decide +kernel
theorem dX5_step_96 : decode cX5_step 96 = .ok (.putfield 35, 3) := by decide +kernel
theorem dX5_step_99 : decode cX5_step 99 = .ok (.aload_n 0, 1) := by decide +kernel
theorem dX5_step_100 : decode cX5_step 100 = .ok (.getfield 41, 3) := by decide +kernel
theorem dX5_step_103 : decode cX5_step 103 = .ok (.aload_n 0, 1) := by decide +kernel
theorem dX5_step_104 : decode cX5_step 104 = .ok (.getfield 50, 3) := by decide +kernel
theorem dX5_step_107 : decode cX5_step 107 = .ok (.if_icmp .ge 86, 3) := by decide +kernel
theorem dX5_step_110 : decode cX5_step 110 = .ok (.aload_n 0, 1) := by decide +kernel
theorem dX5_step_111 : decode cX5_step 111 = .ok (.getfield 59, 3) := by decide +kernel
theorem dX5_step_114 : decode cX5_step 114 = .ok (.aload_n 0, 1) := by decide +kernel
theorem dX5_step_115 : decode cX5_step 115 = .ok (.getfield 41, 3) := by decide +kernel
theorem dX5_step_118 : decode cX5_step 118 = .ok (.baload, 1) := by decide +kernel
theorem dX5_step_119 : decode cX5_step 119 = .ok (.invokestatic 203, 3) := by decide +kernel
theorem dX5_step_122 : decode cX5_step 122 = .ok (.ifCond .eq 71, 3) := by decide +kernel
theorem dX5_step_125 : decode cX5_step 125 = .ok (.aload_n 0, 1) := by decide +kernel
theorem dX5_step_126 : decode cX5_step 126 = .ok (.dup, 1) := by decide +kernel
theorem dX5_step_127 : decode cX5_step 127 = .ok (.getfield 41, 3) := by decide +kernel
theorem dX5_step_130 : decode cX5_step 130 = .ok (.iconst 1, 1) := by decide +kernel
theorem dX5_step_131 : decode cX5_step 131 = .ok (.iadd, 1) := by decide +kernel
theorem dX5_step_132 : decode cX5_step 132 = .ok (.putfield 41, 3) := by decide +kernel
theorem dX5_step_135 : decode cX5_step 135 = .ok (.goto (-36), 3) := by decide +kernel
theorem dX5_step_138 : decode cX5_step 138 = .ok (.aload_n 0, 1) := by decide +kernel
theorem dX5_step_139 : decode cX5_step 139 = .ok (.getfield 59, 3) := by decide +kernel
theorem dX5_step_142 : decode cX5_step 142 = .ok (.aload_n 0, 1) := by decide +kernel
theorem dX5_step_143 : decode cX5_step 143 = .ok (.getfield 41, 3) := by decide +kernel
theorem dX5_step_146 : decode cX5_step 146 = .ok (.baload, 1) := by decide +kernel
theorem dX5_step_147 : decode cX5_step 147 = .ok (.invokestatic 206, 3) := by decide +kernel
theorem dX5_step_150 : decode cX5_step 150 = .ok (.ifCond .eq 10, 3) := by decide +kernel
theorem dX5_step_153 : decode cX5_step 153 = .ok (.aload_n 0, 1) := by decide +kernel
theorem dX5_step_154 : decode cX5_step 154 = .ok (.invokevirtual 209, 3) := by decide +kernel
theorem dX5_step_157 : decode cX5_step 157 = .ok (.goto 36, 3) := by decide +kernel
theorem dX5_step_160 : decode cX5_step 160 = .ok (.aload_n 0, 1) := by decide +kernel
theorem dX5_step_161 : decode cX5_step 161 = .ok (.aload_n 0, 1) := by decide +kernel
theorem dX5_step_162 : decode cX5_step 162 = .ok (.getfield 59, 3) := by decide +kernel
theorem dX5_step_165 : decode cX5_step 165 = .ok (.aload_n 0, 1) := by decide +kernel
theorem dX5_step_166 : decode cX5_step 166 = .ok (.getfield 41, 3) := by decide +kernel
theorem dX5_step_169 : decode cX5_step 169 = .ok (.baload, 1) := by decide +kernel
theorem dX5_step_170 : decode cX5_step 170 = .ok (.bipush 59, 2) := by decide +kernel
theorem dX5_step_172 : decode cX5_step 172 = .ok (.if_icmp .ne 7, 3) := by decide +kernel
theorem dX5_step_175 : decode cX5_step 175 = .ok (.iconst 3, 1) := by decide +kernel
theorem dX5_step_176 : decode cX5_step 176 = .ok (.goto 4, 3) := by decide +kernel
theorem dX5_step_179 : decode cX5_step 179 = .ok (.iconst 4, 1) := by decide +kernel
theorem dX5_step_180 : decode cX5_step 180 = .ok (.putfield 35, 3) := by decide +kernel
theorem dX5_step_183 : decode cX5_step 183 = .ok (.aload_n 0, 1) := by decide +kernel
theorem dX5_step_184 : decode cX5_step 184 = .ok (.dup, 1) := by decide +kernel
theorem dX5_step_185 : decode cX5_step 185 = .ok (.getfield 41, 3) := by decide +kernel
theorem dX5_step_188 : decode cX5_step 188 = .ok (.iconst 1, 1) := by decide +kernel
theorem dX5_step_189 : decode cX5_step 189 = .ok (.iadd, 1) := by decide +kernel
theorem dX5_step_190 : decode cX5_step 190 = .ok (.putfield 41, 3) := by decide +kernel
theorem dX5_step_193 : decode cX5_step 193 = .ok (.return_, 1) := by decide +kernel
def tX5_step (g : ax_G) : Nat → ax_O := ax_nd 95 (ax_nd 45 (ax_nd 22 (ax_nd 11 (ax_nd 4 (ax_nd 0 (ax_lf 0 (ao_al 0 1)) (ax_nd 1 (ax_lf 1 (ao_gi 5 8)) (ax_lf 4 (ao_al 0 1)))) (ax_nd 5 (ax_lf 5 (ao_gi 5 11)) (ax_nd 8 (ax_lf 8 (ao_icmp_ge 52)) (ax_lf 11 (ao_al 0 1))))) (ax_nd 16 (ax_nd 12 (ax_lf 12 (ao_gr 5 0)) (ax_nd 15 (ax_lf 15 (ao_al 0 1)) (ax_lf 16 (ao_gi 5 8)))) (ax_nd 19 (ax_lf 19 (ao_bald 12)) (ax_nd 20 (ax_lf 20 (ao_ic (10) 2)) (ax_lf 22 (ao_icmp_eq 39)))))) (ax_nd 34 (ax_nd 29 (ax_nd 25 (ax_lf 25 (ao_al 0 1)) (ax_nd 26 (ax_lf 26 (ao_gr 5 0)) (ax_lf 29 (ao_al 0 1)))) (ax_nd 30 (ax_lf 30 (ao_gi 5 8)) (ax_nd 33 (ax_lf 33 (ao_bald 12)) (ax_lf 34 (ao_ic (32) 2))))) (ax_nd 40 (ax_nd 36 (ax_lf 36 (ao_icmp_ne 52)) (ax_nd 39 (ax_lf 39 (ao_al 0 1)) (ax_lf 40 ao_dup))) (ax_nd 41 (ax_lf 41 (ao_gi 5 8)) (ax_nd 44 (ax_lf 44 (ao_ic (1) 1)) (ax_lf 45 ao_iadd)))))) (ax_nd 71 (ax_nd 57 (ax_nd 52 (ax_nd 46 (ax_lf 46 (ao_pi 5 8)) (ax_nd 49 (ax_lf 49 (ao_goto 0)) (ax_lf 52 (ao_al 0 1)))) (ax_nd 53 (ax_lf 53 (ao_al 0 1)) (ax_nd 54 (ax_lf 54 (ao_gi 5 8)) (ax_lf 57 (ao_pi 5 7))))) (ax_nd 64 (ax_nd 60 (ax_lf 60 (ao_al 0 1)) (ax_nd 61 (ax_lf 61 (ao_gi 5 8)) (ax_lf 64 (ao_al 0 1)))) (ax_nd 65 (ax_lf 65 (ao_gi 5 11)) (ax_nd 68 (ax_lf 68 (ao_icmp_lt 79)) (ax_lf 71 (ao_al 0 1)))))) (ax_nd 83 (ax_nd 76 (ax_nd 72 (ax_lf 72 (ao_ic (0) 1)) (ax_nd 73 (ax_lf 73 (ao_pi 5 6)) (ax_lf 76 (ao_goto 193)))) (ax_nd 79 (ax_lf 79 (ao_al 0 1)) (ax_nd 80 (ax_lf 80 (ao_gr 5 0)) (ax_lf 83 (ao_al 0 1))))) (ax_nd 88 (ax_nd 84 (ax_lf 84 (ao_gi 5 8)) (ax_nd 87 (ax_lf 87 (ao_bald 12)) (ax_lf 88 (ao_inv g 1 99 1 yX5_isLetter cX5_isLetter 1 (some .boolean) 1 0 0 0 0)))) (ax_nd 91 (ax_lf 91 (ao_if_eq 138)) (ax_nd 94 (ax_lf 94 (ao_al 0 1)) (ax_lf 95 (ao_ic (1) 1)))))))) (ax_nd 143 (ax_nd 119 (ax_nd 107 (ax_nd 100 (ax_nd 96 (ax_lf 96 (ao_pi 5 6)) (ax_nd 99 (ax_lf 99 (ao_al 0 1)) (ax_lf 100 (ao_gi 5 8)))) (ax_nd 103 (ax_lf 103 (ao_al 0 1)) (ax_nd 104 (ax_lf 104 (ao_gi 5 11)) (ax_lf 107 (ao_icmp_ge 193))))) (ax_nd 114 (ax_nd 110 (ax_lf 110 (ao_al 0 1)) (ax_nd 111 (ax_lf 111 (ao_gr 5 0)) (ax_lf 114 (ao_al 0 1)))) (ax_nd 115 (ax_lf 115 (ao_gi 5 8)) (ax_nd 118 (ax_lf 118 (ao_bald 12)) (ax_lf 119 (ao_inv g 1 99 1 yX5_isLetter cX5_isLetter 1 (some .boolean) 1 0 0 0 0)))))) (ax_nd 131 (ax_nd 126 (ax_nd 122 (ax_lf 122 (ao_if_eq 193)) (ax_nd 125 (ax_lf 125 (ao_al 0 1)) (ax_lf 126 ao_dup))) (ax_nd 127 (ax_lf 127 (ao_gi 5 8)) (ax_nd 130 (ax_lf 130 (ao_ic (1) 1)) (ax_lf 131 ao_iadd)))) (ax_nd 138 (ax_nd 132 (ax_lf 132 (ao_pi 5 8)) (ax_nd 135 (ax_lf 135 (ao_goto 99)) (ax_lf 138 (ao_al 0 1)))) (ax_nd 139 (ax_lf 139 (ao_gr 5 0)) (ax_nd 142 (ax_lf 142 (ao_al 0 1)) (ax_lf 143 (ao_gi 5 8))))))) (ax_nd 169 (ax_nd 157 (ax_nd 150 (ax_nd 146 (ax_lf 146 (ao_bald 12)) (ax_nd 147 (ax_lf 147 (ao_inv g 1 99 1 yX5_isDigit cX5_isDigit 1 (some .boolean) 1 0 0 0 0)) (ax_lf 150 (ao_if_eq 160)))) (ax_nd 153 (ax_lf 153 (ao_al 0 1)) (ax_nd 154 (ax_lf 154 (ao_inv g 2 5 0 yX5_stepNumber cX5_stepNumber 1 none 1 0 0 0 0)) (ax_lf 157 (ao_goto 193))))) (ax_nd 162 (ax_nd 160 (ax_lf 160 (ao_al 0 1)) (ax_nd 161 (ax_lf 161 (ao_al 0 1)) (ax_lf 162 (ao_gr 5 0)))) (ax_nd 165 (ax_lf 165 (ao_al 0 1)) (ax_nd 166 (ax_lf 166 (ao_gi 5 8)) (ax_lf 169 (ao_bald 12)))))) (ax_nd 180 (ax_nd 175 (ax_nd 170 (ax_lf 170 (ao_ic (59) 2)) (ax_nd 172 (ax_lf 172 (ao_icmp_ne 179)) (ax_lf 175 (ao_ic (3) 1)))) (ax_nd 176 (ax_lf 176 (ao_goto 180)) (ax_nd 179 (ax_lf 179 (ao_ic (4) 1)) (ax_lf 180 (ao_pi 5 6))))) (ax_nd 185 (ax_nd 183 (ax_lf 183 (ao_al 0 1)) (ax_nd 184 (ax_lf 184 ao_dup) (ax_lf 185 (ao_gi 5 8)))) (ax_nd 189 (ax_nd 188 (ax_lf 188 (ao_ic (1) 1)) (ax_lf 189 ao_iadd)) (ax_nd 190 (ax_lf 190 (ao_pi 5 8)) (ax_lf 193 (ao_vret 0 0))))))))
theorem oX5_step (g : ax_G) : ∀ pc, ax_ok g cX5_step 1 none RX5 "step" 3 0 0 pc (tX5_step g pc) := ax_nd_ok (ax_nd_ok (ax_nd_ok (ax_nd_ok (ax_nd_ok (ax_nd_ok (ax_lf_ok (ak_aload_n rfl dX5_step_0)) (ax_nd_ok (ax_lf_ok (ak_gi fF_X5_41 dX5_step_1)) (ax_lf_ok (ak_aload_n rfl dX5_step_4)))) (ax_nd_ok (ax_lf_ok (ak_gi fF_X5_50 dX5_step_5)) (ax_nd_ok (ax_lf_ok (ak_icmp_ge (by decide) dX5_step_8)) (ax_lf_ok (ak_aload_n rfl dX5_step_11))))) (ax_nd_ok (ax_nd_ok (ax_lf_ok (ak_gr fF_X5_59 dX5_step_12)) (ax_nd_ok (ax_lf_ok (ak_aload_n rfl dX5_step_15)) (ax_lf_ok (ak_gi fF_X5_41 dX5_step_16)))) (ax_nd_ok (ax_lf_ok (ak_bald dX5_step_19)) (ax_nd_ok (ax_lf_ok (ak_bipush (by decide) dX5_step_20)) (ax_lf_ok (ak_icmp_eq (by decide) dX5_step_22)))))) (ax_nd_ok (ax_nd_ok (ax_nd_ok (ax_lf_ok (ak_aload_n rfl dX5_step_25)) (ax_nd_ok (ax_lf_ok (ak_gr fF_X5_59 dX5_step_26)) (ax_lf_ok (ak_aload_n rfl dX5_step_29)))) (ax_nd_ok (ax_lf_ok (ak_gi fF_X5_41 dX5_step_30)) (ax_nd_ok (ax_lf_ok (ak_bald dX5_step_33)) (ax_lf_ok (ak_bipush (by decide) dX5_step_34))))) (ax_nd_ok (ax_nd_ok (ax_lf_ok (ak_icmp_ne (by decide) dX5_step_36)) (ax_nd_ok (ax_lf_ok (ak_aload_n rfl dX5_step_39)) (ax_lf_ok (ak_dup dX5_step_40)))) (ax_nd_ok (ax_lf_ok (ak_gi fF_X5_41 dX5_step_41)) (ax_nd_ok (ax_lf_ok (ak_iconst (by decide) dX5_step_44)) (ax_lf_ok (ak_iadd dX5_step_45))))))) (ax_nd_ok (ax_nd_ok (ax_nd_ok (ax_nd_ok (ax_lf_ok (ak_pi fF_X5_41 fW_X5_41_a dX5_step_46)) (ax_nd_ok (ax_lf_ok (ak_goto (by decide) dX5_step_49)) (ax_lf_ok (ak_aload_n rfl dX5_step_52)))) (ax_nd_ok (ax_lf_ok (ak_aload_n rfl dX5_step_53)) (ax_nd_ok (ax_lf_ok (ak_gi fF_X5_41 dX5_step_54)) (ax_lf_ok (ak_pi fF_X5_38 fW_X5_38_a dX5_step_57))))) (ax_nd_ok (ax_nd_ok (ax_lf_ok (ak_aload_n rfl dX5_step_60)) (ax_nd_ok (ax_lf_ok (ak_gi fF_X5_41 dX5_step_61)) (ax_lf_ok (ak_aload_n rfl dX5_step_64)))) (ax_nd_ok (ax_lf_ok (ak_gi fF_X5_50 dX5_step_65)) (ax_nd_ok (ax_lf_ok (ak_icmp_lt (by decide) dX5_step_68)) (ax_lf_ok (ak_aload_n rfl dX5_step_71)))))) (ax_nd_ok (ax_nd_ok (ax_nd_ok (ax_lf_ok (ak_iconst (by decide) dX5_step_72)) (ax_nd_ok (ax_lf_ok (ak_pi fF_X5_35 fW_X5_35_a dX5_step_73)) (ax_lf_ok (ak_goto (by decide) dX5_step_76)))) (ax_nd_ok (ax_lf_ok (ak_aload_n rfl dX5_step_79)) (ax_nd_ok (ax_lf_ok (ak_gr fF_X5_59 dX5_step_80)) (ax_lf_ok (ak_aload_n rfl dX5_step_83))))) (ax_nd_ok (ax_nd_ok (ax_lf_ok (ak_gi fF_X5_41 dX5_step_84)) (ax_nd_ok (ax_lf_ok (ak_bald dX5_step_87)) (ax_lf_ok (ak_invS (by decide) (by decide) wd_486 wd_487 wd_100 wd_488 ⟨by decide, by decide, by decide +kernel⟩ dX5_step_88)))) (ax_nd_ok (ax_lf_ok (ak_if_eq (by decide) dX5_step_91)) (ax_nd_ok (ax_lf_ok (ak_aload_n rfl dX5_step_94)) (ax_lf_ok (ak_iconst (by decide) dX5_step_95)))))))) (ax_nd_ok (ax_nd_ok (ax_nd_ok (ax_nd_ok (ax_nd_ok (ax_lf_ok (ak_pi fF_X5_35 fW_X5_35_a dX5_step_96)) (ax_nd_ok (ax_lf_ok (ak_aload_n rfl dX5_step_99)) (ax_lf_ok (ak_gi fF_X5_41 dX5_step_100)))) (ax_nd_ok (ax_lf_ok (ak_aload_n rfl dX5_step_103)) (ax_nd_ok (ax_lf_ok (ak_gi fF_X5_50 dX5_step_104)) (ax_lf_ok (ak_icmp_ge (by decide) dX5_step_107))))) (ax_nd_ok (ax_nd_ok (ax_lf_ok (ak_aload_n rfl dX5_step_110)) (ax_nd_ok (ax_lf_ok (ak_gr fF_X5_59 dX5_step_111)) (ax_lf_ok (ak_aload_n rfl dX5_step_114)))) (ax_nd_ok (ax_lf_ok (ak_gi fF_X5_41 dX5_step_115)) (ax_nd_ok (ax_lf_ok (ak_bald dX5_step_118)) (ax_lf_ok (ak_invS (by decide) (by decide) wd_486 wd_487 wd_100 wd_488 ⟨by decide, by decide, by decide +kernel⟩ dX5_step_119)))))) (ax_nd_ok (ax_nd_ok (ax_nd_ok (ax_lf_ok (ak_if_eq (by decide) dX5_step_122)) (ax_nd_ok (ax_lf_ok (ak_aload_n rfl dX5_step_125)) (ax_lf_ok (ak_dup dX5_step_126)))) (ax_nd_ok (ax_lf_ok (ak_gi fF_X5_41 dX5_step_127)) (ax_nd_ok (ax_lf_ok (ak_iconst (by decide) dX5_step_130)) (ax_lf_ok (ak_iadd dX5_step_131))))) (ax_nd_ok (ax_nd_ok (ax_lf_ok (ak_pi fF_X5_41 fW_X5_41_a dX5_step_132)) (ax_nd_ok (ax_lf_ok (ak_goto (by decide) dX5_step_135)) (ax_lf_ok (ak_aload_n rfl dX5_step_138)))) (ax_nd_ok (ax_lf_ok (ak_gr fF_X5_59 dX5_step_139)) (ax_nd_ok (ax_lf_ok (ak_aload_n rfl dX5_step_142)) (ax_lf_ok (ak_gi fF_X5_41 dX5_step_143))))))) (ax_nd_ok (ax_nd_ok (ax_nd_ok (ax_nd_ok (ax_lf_ok (ak_bald dX5_step_146)) (ax_nd_ok (ax_lf_ok (ak_invS (by decide) (by decide) wd_489 wd_490 wd_100 wd_491 ⟨by decide, by decide, by decide +kernel⟩ dX5_step_147)) (ax_lf_ok (ak_if_eq (by decide) dX5_step_150)))) (ax_nd_ok (ax_lf_ok (ak_aload_n rfl dX5_step_153)) (ax_nd_ok (ax_lf_ok (ak_invV (by decide) (by decide) (by decide) rfl wd_492 wd_494 wd_3 wd_100 wd_495 ⟨by decide, by decide, by decide +kernel⟩ dX5_step_154)) (ax_lf_ok (ak_goto (by decide) dX5_step_157))))) (ax_nd_ok (ax_nd_ok (ax_lf_ok (ak_aload_n rfl dX5_step_160)) (ax_nd_ok (ax_lf_ok (ak_aload_n rfl dX5_step_161)) (ax_lf_ok (ak_gr fF_X5_59 dX5_step_162)))) (ax_nd_ok (ax_lf_ok (ak_aload_n rfl dX5_step_165)) (ax_nd_ok (ax_lf_ok (ak_gi fF_X5_41 dX5_step_166)) (ax_lf_ok (ak_bald dX5_step_169)))))) (ax_nd_ok (ax_nd_ok (ax_nd_ok (ax_lf_ok (ak_bipush (by decide) dX5_step_170)) (ax_nd_ok (ax_lf_ok (ak_icmp_ne (by decide) dX5_step_172)) (ax_lf_ok (ak_iconst (by decide) dX5_step_175)))) (ax_nd_ok (ax_lf_ok (ak_goto (by decide) dX5_step_176)) (ax_nd_ok (ax_lf_ok (ak_iconst (by decide) dX5_step_179)) (ax_lf_ok (ak_pi fF_X5_35 fW_X5_35_a dX5_step_180))))) (ax_nd_ok (ax_nd_ok (ax_lf_ok (ak_aload_n rfl dX5_step_183)) (ax_nd_ok (ax_lf_ok (ak_dup dX5_step_184)) (ax_lf_ok (ak_gi fF_X5_41 dX5_step_185)))) (ax_nd_ok (ax_nd_ok (ax_lf_ok (ak_iconst (by decide) dX5_step_188)) (ax_lf_ok (ak_iadd dX5_step_189))) (ax_nd_ok (ax_lf_ok (ak_pi fF_X5_41 fW_X5_41_a dX5_step_190)) (ax_lf_ok (ak_vret rfl dX5_step_193))))))))
abbrev mX5_step (g : ax_G) (as : List Value) (h : ax_H) (Ret : Option Value → ax_H → Prop) : Prop := ax_M g 3 0 0 yX5_step cX5_step 1 none as h Ret
theorem dX5_stepNumber_0 : decode cX5_stepNumber 0 = .ok (.aload_n 0, 1) := by decide +kernel
theorem dX5_stepNumber_1 : decode cX5_stepNumber 1 = .ok (.iconst 0, 1) := by decide +kernel
theorem dX5_stepNumber_2 : decode cX5_stepNumber 2 = .ok (.putfield 44, 3) := by decide +kernel
theorem dX5_stepNumber_5 : decode cX5_stepNumber 5 = .ok (.aload_n 0, 1) := by decide +kernel
theorem dX5_stepNumber_6 : decode cX5_stepNumber 6 = .ok (.getfield 41, 3) := by decide +kernel
theorem dX5_stepNumber_9 : decode cX5_stepNumber 9 = .ok (.aload_n 0, 1) := by decide +kernel
theorem dX5_stepNumber_10 : decode cX5_stepNumber 10 = .ok (.getfield 50, 3) := by decide +kernel
theorem dX5_stepNumber_13 : decode cX5_stepNumber 13 = .ok (.if_icmp .ge 55, 3) := by decide +kernel
theorem dX5_stepNumber_16 : decode cX5_stepNumber 16 = .ok (.aload_n 0, 1) := by decide +kernel
theorem dX5_stepNumber_17 : decode cX5_stepNumber 17 = .ok (.getfield 59, 3) := by decide +kernel
theorem dX5_stepNumber_20 : decode cX5_stepNumber 20 = .ok (.aload_n 0, 1) := by decide +kernel
theorem dX5_stepNumber_21 : decode cX5_stepNumber 21 = .ok (.getfield 41, 3) := by decide +kernel
theorem dX5_stepNumber_24 : decode cX5_stepNumber 24 = .ok (.baload, 1) := by decide +kernel
theorem dX5_stepNumber_25 : decode cX5_stepNumber 25 = .ok (.invokestatic 206, 3) := by decide +kernel
theorem dX5_stepNumber_28 : decode cX5_stepNumber 28 = .ok (.ifCond .eq 40, 3) := by decide +kernel
theorem dX5_stepNumber_31 : decode cX5_stepNumber 31 = .ok (.aload_n 0, 1) := by decide +kernel
theorem dX5_stepNumber_32 : decode cX5_stepNumber 32 = .ok (.aload_n 0, 1) := by decide +kernel
theorem dX5_stepNumber_33 : decode cX5_stepNumber 33 = .ok (.getfield 44, 3) := by decide +kernel
theorem dX5_stepNumber_36 : decode cX5_stepNumber 36 = .ok (.bipush 10, 2) := by decide +kernel
theorem dX5_stepNumber_38 : decode cX5_stepNumber 38 = .ok (.imul, 1) := by decide +kernel
theorem dX5_stepNumber_39 : decode cX5_stepNumber 39 = .ok (.aload_n 0, 1) := by decide +kernel
theorem dX5_stepNumber_40 : decode cX5_stepNumber 40 = .ok (.getfield 59, 3) := by decide +kernel
theorem dX5_stepNumber_43 : decode cX5_stepNumber 43 = .ok (.aload_n 0, 1) := by decide +kernel
theorem dX5_stepNumber_44 : decode cX5_stepNumber 44 = .ok (.getfield 41, 3) := by decide +kernel
theorem dX5_stepNumber_47 : decode cX5_stepNumber 47 = .ok (.baload, 1) := by decide +kernel
theorem dX5_stepNumber_48 : decode cX5_stepNumber 48 = .ok (.iadd, 1) := by decide +kernel
theorem dX5_stepNumber_49 : decode cX5_stepNumber 49 = .ok (.bipush 48, 2) := by decide +kernel
theorem dX5_stepNumber_51 : decode cX5_stepNumber 51 = .ok (.isub, 1) := by decide +kernel
theorem dX5_stepNumber_52 : decode cX5_stepNumber 52 = .ok (.putfield 44, 3) := by decide +kernel
theorem dX5_stepNumber_55 : decode cX5_stepNumber 55 = .ok (.aload_n 0, 1) := by decide +kernel
theorem dX5_stepNumber_56 : decode cX5_stepNumber 56 = .ok (.dup, 1) := by decide +kernel
theorem dX5_stepNumber_57 : decode cX5_stepNumber 57 = .ok (.getfield 41, 3) := by decide +kernel
theorem dX5_stepNumber_60 : decode cX5_stepNumber 60 = .ok (.iconst 1, 1) := by decide +kernel
theorem dX5_stepNumber_61 : decode cX5_stepNumber 61 = .ok (.iadd, 1) := by decide +kernel
theorem dX5_stepNumber_62 : decode cX5_stepNumber 62 = .ok (.putfield 41, 3) := by decide +kernel
theorem dX5_stepNumber_65 : decode cX5_stepNumber 65 = .ok (.goto (-60), 3) := by decide +kernel
theorem dX5_stepNumber_68 : decode cX5_stepNumber 68 = .ok (.aload_n 0, 1) := by decide +kernel
theorem dX5_stepNumber_69 : decode cX5_stepNumber 69 = .ok (.aload_n 0, 1) := by decide +kernel
theorem dX5_stepNumber_70 : decode cX5_stepNumber 70 = .ok (.getfield 41, 3) := by decide +kernel
theorem dX5_stepNumber_73 : decode cX5_stepNumber 73 = .ok (.aload_n 0, 1) := by decide +kernel
theorem dX5_stepNumber_74 : decode cX5_stepNumber 74 = .ok (.getfield 38, 3) := by decide +kernel
theorem dX5_stepNumber_77 : decode cX5_stepNumber 77 = .ok (.isub, 1) := by decide +kernel
theorem dX5_stepNumber_78 : decode cX5_stepNumber 78 = .ok (.iconst 3, 1) := by decide +kernel
theorem dX5_stepNumber_79 : decode cX5_stepNumber 79 = .ok (.if_icmp .le 7, 3) := by decide +kernel
theorem dX5_stepNumber_82 : decode cX5_stepNumber 82 = .ok (.iconst 4, 1) := by decide +kernel
theorem dX5_stepNumber_83 : decode cX5_stepNumber 83 = .ok (.goto 4, 3) := by decide +kernel
theorem dX5_stepNumber_86 : decode cX5_stepNumber 86 = .ok (.iconst 2, 1) := by decide +kernel
theorem dX5_stepNumber_87 : decode cX5_stepNumber 87 = .ok (.putfield 35, 3) := by decide +kernel
theorem dX5_stepNumber_90 : decode cX5_stepNumber 90 = .ok (.return_, 1) := by decide +kernel
def tX5_stepNumber (g : ax_G) : Nat → ax_O := ax_nd 44 (ax_nd 21 (ax_nd 9 (ax_nd 2 (ax_nd 0 (ax_lf 0 (ao_al 0 1)) (ax_nd 1 (ax_lf 1 (ao_ic (0) 1)) (ax_lf 2 (ao_pi 5 9)))) (ax_nd 5 (ax_lf 5 (ao_al 0 1)) (ax_nd 6 (ax_lf 6 (ao_gi 5 8)) (ax_lf 9 (ao_al 0 1))))) (ax_nd 16 (ax_nd 10 (ax_lf 10 (ao_gi 5 11)) (ax_nd 13 (ax_lf 13 (ao_icmp_ge 68)) (ax_lf 16 (ao_al 0 1)))) (ax_nd 17 (ax_lf 17 (ao_gr 5 0)) (ax_nd 20 (ax_lf 20 (ao_al 0 1)) (ax_lf 21 (ao_gi 5 8)))))) (ax_nd 33 (ax_nd 28 (ax_nd 24 (ax_lf 24 (ao_bald 12)) (ax_nd 25 (ax_lf 25 (ao_inv g 1 99 1 yX5_isDigit cX5_isDigit 1 (some .boolean) 1 0 0 0 0)) (ax_lf 28 (ao_if_eq 68)))) (ax_nd 31 (ax_lf 31 (ao_al 0 1)) (ax_nd 32 (ax_lf 32 (ao_al 0 1)) (ax_lf 33 (ao_gi 5 9))))) (ax_nd 39 (ax_nd 36 (ax_lf 36 (ao_ic (10) 2)) (ax_nd 38 (ax_lf 38 ao_imul) (ax_lf 39 (ao_al 0 1)))) (ax_nd 40 (ax_lf 40 (ao_gr 5 0)) (ax_nd 43 (ax_lf 43 (ao_al 0 1)) (ax_lf 44 (ao_gi 5 8))))))) (ax_nd 65 (ax_nd 55 (ax_nd 49 (ax_nd 47 (ax_lf 47 (ao_bald 12)) (ax_nd 48 (ax_lf 48 ao_iadd) (ax_lf 49 (ao_ic (48) 2)))) (ax_nd 51 (ax_lf 51 ao_isub) (ax_nd 52 (ax_lf 52 (ao_pi 5 9)) (ax_lf 55 (ao_al 0 1))))) (ax_nd 60 (ax_nd 56 (ax_lf 56 ao_dup) (ax_nd 57 (ax_lf 57 (ao_gi 5 8)) (ax_lf 60 (ao_ic (1) 1)))) (ax_nd 61 (ax_lf 61 ao_iadd) (ax_nd 62 (ax_lf 62 (ao_pi 5 8)) (ax_lf 65 (ao_goto 5)))))) (ax_nd 77 (ax_nd 70 (ax_nd 68 (ax_lf 68 (ao_al 0 1)) (ax_nd 69 (ax_lf 69 (ao_al 0 1)) (ax_lf 70 (ao_gi 5 8)))) (ax_nd 73 (ax_lf 73 (ao_al 0 1)) (ax_nd 74 (ax_lf 74 (ao_gi 5 7)) (ax_lf 77 ao_isub)))) (ax_nd 82 (ax_nd 78 (ax_lf 78 (ao_ic (3) 1)) (ax_nd 79 (ax_lf 79 (ao_icmp_le 86)) (ax_lf 82 (ao_ic (4) 1)))) (ax_nd 86 (ax_nd 83 (ax_lf 83 (ao_goto 87)) (ax_lf 86 (ao_ic (2) 1))) (ax_nd 87 (ax_lf 87 (ao_pi 5 6)) (ax_lf 90 (ao_vret 0 0)))))))
theorem oX5_stepNumber (g : ax_G) : ∀ pc, ax_ok g cX5_stepNumber 1 none RX5 "stepNumber" 2 0 0 pc (tX5_stepNumber g pc) := ax_nd_ok (ax_nd_ok (ax_nd_ok (ax_nd_ok (ax_nd_ok (ax_lf_ok (ak_aload_n rfl dX5_stepNumber_0)) (ax_nd_ok (ax_lf_ok (ak_iconst (by decide) dX5_stepNumber_1)) (ax_lf_ok (ak_pi fF_X5_44 fW_X5_44_a dX5_stepNumber_2)))) (ax_nd_ok (ax_lf_ok (ak_aload_n rfl dX5_stepNumber_5)) (ax_nd_ok (ax_lf_ok (ak_gi fF_X5_41 dX5_stepNumber_6)) (ax_lf_ok (ak_aload_n rfl dX5_stepNumber_9))))) (ax_nd_ok (ax_nd_ok (ax_lf_ok (ak_gi fF_X5_50 dX5_stepNumber_10)) (ax_nd_ok (ax_lf_ok (ak_icmp_ge (by decide) dX5_stepNumber_13)) (ax_lf_ok (ak_aload_n rfl dX5_stepNumber_16)))) (ax_nd_ok (ax_lf_ok (ak_gr fF_X5_59 dX5_stepNumber_17)) (ax_nd_ok (ax_lf_ok (ak_aload_n rfl dX5_stepNumber_20)) (ax_lf_ok (ak_gi fF_X5_41 dX5_stepNumber_21)))))) (ax_nd_ok (ax_nd_ok (ax_nd_ok (ax_lf_ok (ak_bald dX5_stepNumber_24)) (ax_nd_ok (ax_lf_ok (ak_invS (by decide) (by decide) wd_489 wd_490 wd_100 wd_491 ⟨by decide, by decide, by decide +kernel⟩ dX5_stepNumber_25)) (ax_lf_ok (ak_if_eq (by decide) dX5_stepNumber_28)))) (ax_nd_ok (ax_lf_ok (ak_aload_n rfl dX5_stepNumber_31)) (ax_nd_ok (ax_lf_ok (ak_aload_n rfl dX5_stepNumber_32)) (ax_lf_ok (ak_gi fF_X5_44 dX5_stepNumber_33))))) (ax_nd_ok (ax_nd_ok (ax_lf_ok (ak_bipush (by decide) dX5_stepNumber_36)) (ax_nd_ok (ax_lf_ok (ak_imul dX5_stepNumber_38)) (ax_lf_ok (ak_aload_n rfl dX5_stepNumber_39)))) (ax_nd_ok (ax_lf_ok (ak_gr fF_X5_59 dX5_stepNumber_40)) (ax_nd_ok (ax_lf_ok (ak_aload_n rfl dX5_stepNumber_43)) (ax_lf_ok (ak_gi fF_X5_41 dX5_stepNumber_44))))))) (ax_nd_ok (ax_nd_ok (ax_nd_ok (ax_nd_ok (ax_lf_ok (ak_bald dX5_stepNumber_47)) (ax_nd_ok (ax_lf_ok (ak_iadd dX5_stepNumber_48)) (ax_lf_ok (ak_bipush (by decide) dX5_stepNumber_49)))) (ax_nd_ok (ax_lf_ok (ak_isub dX5_stepNumber_51)) (ax_nd_ok (ax_lf_ok (ak_pi fF_X5_44 fW_X5_44_a dX5_stepNumber_52)) (ax_lf_ok (ak_aload_n rfl dX5_stepNumber_55))))) (ax_nd_ok (ax_nd_ok (ax_lf_ok (ak_dup dX5_stepNumber_56)) (ax_nd_ok (ax_lf_ok (ak_gi fF_X5_41 dX5_stepNumber_57)) (ax_lf_ok (ak_iconst (by decide) dX5_stepNumber_60)))) (ax_nd_ok (ax_lf_ok (ak_iadd dX5_stepNumber_61)) (ax_nd_ok (ax_lf_ok (ak_pi fF_X5_41 fW_X5_41_a dX5_stepNumber_62)) (ax_lf_ok (ak_goto (by decide) dX5_stepNumber_65)))))) (ax_nd_ok (ax_nd_ok (ax_nd_ok (ax_lf_ok (ak_aload_n rfl dX5_stepNumber_68)) (ax_nd_ok (ax_lf_ok (ak_aload_n rfl dX5_stepNumber_69)) (ax_lf_ok (ak_gi fF_X5_41 dX5_stepNumber_70)))) (ax_nd_ok (ax_lf_ok (ak_aload_n rfl dX5_stepNumber_73)) (ax_nd_ok (ax_lf_ok (ak_gi fF_X5_38 dX5_stepNumber_74)) (ax_lf_ok (ak_isub dX5_stepNumber_77))))) (ax_nd_ok (ax_nd_ok (ax_lf_ok (ak_iconst (by decide) dX5_stepNumber_78)) (ax_nd_ok (ax_lf_ok (ak_icmp_le (by decide) dX5_stepNumber_79)) (ax_lf_ok (ak_iconst (by decide) dX5_stepNumber_82)))) (ax_nd_ok (ax_nd_ok (ax_lf_ok (ak_goto (by decide) dX5_stepNumber_83)) (ax_lf_ok (ak_iconst (by decide) dX5_stepNumber_86))) (ax_nd_ok (ax_lf_ok (ak_pi fF_X5_35 fW_X5_35_a dX5_stepNumber_87)) (ax_lf_ok (ak_vret rfl dX5_stepNumber_90)))))))
abbrev mX5_stepNumber (g : ax_G) (as : List Value) (h : ax_H) (Ret : Option Value → ax_H → Prop) : Prop := ax_M g 2 0 0 yX5_stepNumber cX5_stepNumber 1 none as h Ret
theorem dX5_isLetter_0 : decode cX5_isLetter 0 = .ok (.iload_n 0, 1) := by decide +kernel
theorem dX5_isLetter_1 : decode cX5_isLetter 1 = .ok (.bipush 97, 2) := by decide +kernel
theorem dX5_isLetter_3 : decode cX5_isLetter 3 = .ok (.if_icmp .lt 13, 3) := by decide +kernel
theorem dX5_isLetter_6 : decode cX5_isLetter 6 = .ok (.iload_n 0, 1) := by decide +kernel
theorem dX5_isLetter_7 : decode cX5_isLetter 7 = .ok (.bipush 122, 2) := by decide +kernel
theorem dX5_isLetter_9 : decode cX5_isLetter 9 = .ok (.if_icmp .gt 7, 3) := by decide +kernel
theorem dX5_isLetter_12 : decode cX5_isLetter 12 = .ok (.iconst 1, 1) := by decide +kernel
theorem dX5_isLetter_13 : decode cX5_isLetter 13 = .ok (.goto 4, 3) := by decide +kernel
theorem dX5_isLetter_16 : decode cX5_isLetter 16 = .ok (.iconst 0, 1) := by decide +kernel
theorem dX5_isLetter_17 : decode cX5_isLetter 17 = .ok (.ireturn, 1) := by decide +kernel
def tX5_isLetter (g : ax_G) : Nat → ax_O := ax_nd 7 (ax_nd 1 (ax_nd 0 (ax_lf 0 (ao_il 0 1)) (ax_lf 1 (ao_ic (97) 2))) (ax_nd 3 (ax_lf 3 (ao_icmp_lt 16)) (ax_nd 6 (ax_lf 6 (ao_il 0 1)) (ax_lf 7 (ao_ic (122) 2))))) (ax_nd 12 (ax_nd 9 (ax_lf 9 (ao_icmp_gt 16)) (ax_lf 12 (ao_ic (1) 1))) (ax_nd 13 (ax_lf 13 (ao_goto 17)) (ax_nd 16 (ax_lf 16 (ao_ic (0) 1)) (ax_lf 17 (ao_zret 0 0)))))
theorem oX5_isLetter (g : ax_G) : ∀ pc, ax_ok g cX5_isLetter 1 (some .boolean) RX5 "isLetter" 1 0 0 pc (tX5_isLetter g pc) := ax_nd_ok (ax_nd_ok (ax_nd_ok (ax_lf_ok (ak_iload_n rfl dX5_isLetter_0)) (ax_lf_ok (ak_bipush (by decide) dX5_isLetter_1))) (ax_nd_ok (ax_lf_ok (ak_icmp_lt (by decide) dX5_isLetter_3)) (ax_nd_ok (ax_lf_ok (ak_iload_n rfl dX5_isLetter_6)) (ax_lf_ok (ak_bipush (by decide) dX5_isLetter_7))))) (ax_nd_ok (ax_nd_ok (ax_lf_ok (ak_icmp_gt (by decide) dX5_isLetter_9)) (ax_lf_ok (ak_iconst (by decide) dX5_isLetter_12))) (ax_nd_ok (ax_lf_ok (ak_goto (by decide) dX5_isLetter_13)) (ax_nd_ok (ax_lf_ok (ak_iconst (by decide) dX5_isLetter_16)) (ax_lf_ok (ak_zret rfl dX5_isLetter_17)))))
abbrev mX5_isLetter (g : ax_G) (as : List Value) (h : ax_H) (Ret : Option Value → ax_H → Prop) : Prop := ax_M g 1 0 0 yX5_isLetter cX5_isLetter 1 (some .boolean) as h Ret
theorem dX5_isDigit_0 : decode cX5_isDigit 0 = .ok (.iload_n 0, 1) := by decide +kernel
theorem dX5_isDigit_1 : decode cX5_isDigit 1 = .ok (.bipush 48, 2) := by decide +kernel
theorem dX5_isDigit_3 : decode cX5_isDigit 3 = .ok (.if_icmp .lt 13, 3) := by decide +kernel
theorem dX5_isDigit_6 : decode cX5_isDigit 6 = .ok (.iload_n 0, 1) := by decide +kernel
theorem dX5_isDigit_7 : decode cX5_isDigit 7 = .ok (.bipush 57, 2) := by decide +kernel
theorem dX5_isDigit_9 : decode cX5_isDigit 9 = .ok (.if_icmp .gt 7, 3) := by decide +kernel
theorem dX5_isDigit_12 : decode cX5_isDigit 12 = .ok (.iconst 1, 1) := by decide +kernel
theorem dX5_isDigit_13 : decode cX5_isDigit 13 = .ok (.goto 4, 3) := by decide +kernel
theorem dX5_isDigit_16 : decode cX5_isDigit 16 = .ok (.iconst 0, 1) := by decide +kernel
theorem dX5_isDigit_17 : decode cX5_isDigit 17 = .ok (.ireturn, 1) := by decide +kernel
def tX5_isDigit (g : ax_G) : Nat → ax_O := ax_nd 7 (ax_nd 1 (ax_nd 0 (ax_lf 0 (ao_il 0 1)) (ax_lf 1 (ao_ic (48) 2))) (ax_nd 3 (ax_lf 3 (ao_icmp_lt 16)) (ax_nd 6 (ax_lf 6 (ao_il 0 1)) (ax_lf 7 (ao_ic (57) 2))))) (ax_nd 12 (ax_nd 9 (ax_lf 9 (ao_icmp_gt 16)) (ax_lf 12 (ao_ic (1) 1))) (ax_nd 13 (ax_lf 13 (ao_goto 17)) (ax_nd 16 (ax_lf 16 (ao_ic (0) 1)) (ax_lf 17 (ao_zret 0 0)))))
theorem oX5_isDigit (g : ax_G) : ∀ pc, ax_ok g cX5_isDigit 1 (some .boolean) RX5 "isDigit" 1 0 0 pc (tX5_isDigit g pc) := ax_nd_ok (ax_nd_ok (ax_nd_ok (ax_lf_ok (ak_iload_n rfl dX5_isDigit_0)) (ax_lf_ok (ak_bipush (by decide) dX5_isDigit_1))) (ax_nd_ok (ax_lf_ok (ak_icmp_lt (by decide) dX5_isDigit_3)) (ax_nd_ok (ax_lf_ok (ak_iload_n rfl dX5_isDigit_6)) (ax_lf_ok (ak_bipush (by decide) dX5_isDigit_7))))) (ax_nd_ok (ax_nd_ok (ax_lf_ok (ak_icmp_gt (by decide) dX5_isDigit_9)) (ax_lf_ok (ak_iconst (by decide) dX5_isDigit_12))) (ax_nd_ok (ax_lf_ok (ak_goto (by decide) dX5_isDigit_13)) (ax_nd_ok (ax_lf_ok (ak_iconst (by decide) dX5_isDigit_16)) (ax_lf_ok (ak_zret rfl dX5_isDigit_17)))))
abbrev mX5_isDigit (g : ax_G) (as : List Value) (h : ax_H) (Ret : Option Value → ax_H → Prop) : Prop := ax_M g 1 0 0 yX5_isDigit cX5_isDigit 1 (some .boolean) as h Ret
end
