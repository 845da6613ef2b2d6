section
theorem dX9_init_0 : decode cX9_init 0 = .ok (.aload_n 0, 1) := by decide +kernel
theorem dX9_init_1 : decode cX9_init 1 = .ok (.invokespecial 1, 3) := by decide +kernel
theorem dX9_init_4 : decode cX9_init 4 = .ok (.aload_n 0, 1) := by decide +kernel
theorem dX9_init_5 : decode cX9_init 5 = .ok (.new 7, 3) := by decide +kernel
theorem dX9_init_8 : decode cX9_init 8 = .ok (.dup, 1) := by decide +kernel
theorem dX9_init_9 : decode cX9_init 9 = .ok (.invokespecial 9, 3) := by decide +kernel
theorem dX9_init_12 : decode cX9_init 12 = .ok (.putfield 10, 3) := by decide +kernel
theorem dX9_init_15 : decode cX9_init 15 = .ok (.aload_n 0, 1) := by decide +kernel
theorem dX9_init_16 : decode cX9_init 16 = .ok (.iconst 3, 1) := by decide +kernel
theorem dX9_init_17 : decode cX9_init 17 = .ok (.anewarray 7, 3) := by decide +kernel
theorem dX9_init_20 : decode cX9_init 20 = .ok (.putfield 16, 3) := by decide +kernel
theorem dX9_init_23 : decode cX9_init 23 = .ok (.aload_n 0, 1) := by decide +kernel
theorem dX9_init_24 : decode cX9_init 24 = .ok (.new 20, 3) := by decide +kernel
theorem dX9_init_27 : decode cX9_init 27 = .ok (.dup, 1) := by decide +kernel
theorem dX9_init_28 : decode cX9_init 28 = .ok (.aload_n 0, 1) := by decide +kernel
theorem dX9_init_29 : decode cX9_init 29 = .ok (.getfield 10, 3) := by decide +kernel
theorem dX9_init_32 : decode cX9_init 32 = .ok (.getfield 22, 3) := by decide +kernel
theorem dX9_init_35 : decode cX9_init 35 = .ok (.invokespecial 26, 3) := by decide +kernel
theorem dX9_init_38 : decode cX9_init 38 = .ok (.putfield 29, 3) := by decide +kernel
theorem dX9_init_41 : decode cX9_init 41 = .ok (.aload_n 0, 1) := by decide +kernel
theorem dX9_init_42 : decode cX9_init 42 = .ok (.new 33, 3) := by decide +kernel
theorem dX9_init_45 : decode cX9_init 45 = .ok (.dup, 1) := by decide +kernel
theorem dX9_init_46 : decode cX9_init 46 = .ok (.invokespecial 35, 3) := by decide +kernel
theorem dX9_init_49 : decode cX9_init 49 = .ok (.putfield 36, 3) := by decide +kernel
theorem dX9_init_52 : decode cX9_init 52 = .ok (.aload_n 0, 1) := by decide +kernel
theorem dX9_init_53 : decode cX9_init 53 = .ok (.new 40, 3) := by decide +kernel
theorem dX9_init_56 : decode cX9_init 56 = .ok (.dup, 1) := by decide +kernel
theorem dX9_init_57 : decode cX9_init 57 = .ok (.invokespecial 42, 3) := by decide +kernel
theorem dX9_init_60 : decode cX9_init 60 = .ok (.putfield 43, 3) := by decide +kernel
theorem dX9_init_63 : decode cX9_init 63 = .ok (.aload_n 0, 1) := by decide +kernel
theorem dX9_init_64 : decode cX9_init 64 = .ok (.new 40, 3) := by decide +kernel
theorem dX9_init_67 : decode cX9_init 67 = .ok (.dup, 1) := by decide +kernel
theorem dX9_init_68 : decode cX9_init 68 = .ok (.invokespecial 42, 3) := by decide +kernel
theorem dX9_init_71 : decode cX9_init 71 = .ok (.putfield 47, 3) := by decide +kernel
theorem dX9_init_74 : decode cX9_init 74 = .ok (.aload_n 0, 1) := by decide +kernel
theorem dX9_init_75 : decode cX9_init 75 = .ok (.new 50, 3) := by decide +kernel
theorem dX9_init_78 : decode cX9_init 78 = .ok (.dup, 1) := by decide +kernel
theorem dX9_init_79 : decode cX9_init 79 = .ok (.invokespecial 52, 3) := by decide +kernel
theorem dX9_init_82 : decode cX9_init 82 = .ok (.putfield 53, 3) := by decide +kernel
theorem dX9_init_85 : decode cX9_init 85 = .ok (.aload_n 0, 1) := by decide +kernel
theorem dX9_init_86 : decode cX9_init 86 = .ok (.new 57, 3) := by decide +kernel
theorem dX9_init_89 : decode cX9_init 89 = .ok (.dup, 1) := by decide +kernel
theorem dX9_init_90 : decode cX9_init 90 = .ok (.invokespecial 59, 3) := by decide +kernel
theorem dX9_init_93 : decode cX9_init 93 = .ok (.putfield 60, 3) := by decide +kernel
theorem dX9_init_96 : decode cX9_init 96 = .ok (.aload_n 0, 1) := by decide +kernel
theorem dX9_init_97 : decode cX9_init 97 = .ok (.new 64, 3) := by decide +kernel
theorem dX9_init_100 : decode cX9_init 100 = .ok (.dup, 1) := by decide +kernel
theorem dX9_init_101 : decode cX9_init 101 = .ok (.invokespecial 66, 3) := by decide +kernel
theorem dX9_init_104 : decode cX9_init 104 = .ok (.putfield 67, 3) := by decide +kernel
theorem dX9_init_107 : decode cX9_init 107 = .ok (.return_, 1) := by decide +kernel
def tX9_init (g : ax_G) : Nat → ax_O := ax_nd 52 (ax_nd 23 (ax_nd 9 (ax_nd 4 (ax_nd 0 (ax_lf 0 (ao_al 0 1)) (ax_nd 1 (ax_lf 1 ao_obj) (ax_lf 4 (ao_al 0 1)))) (ax_nd 5 (ax_lf 5 (ao_new 8 7 76 1699)) (ax_nd 8 (ax_lf 8 ao_dup) (ax_lf 9 (ao_inva g 3 8 0 yX8_init cX8_init 3 none 1 32 76 1131 1699))))) (ax_nd 16 (ax_nd 12 (ax_lf 12 (ao_pr 9 0)) (ax_nd 15 (ax_lf 15 (ao_al 0 1)) (ax_lf 16 (ao_ic (3) 1)))) (ax_nd 17 (ax_lf 17 (ao_newr 18 76 1699)) (ax_nd 20 (ax_lf 20 (ao_pr 9 1)) (ax_lf 23 (ao_al 0 1)))))) (ax_nd 35 (ax_nd 28 (ax_nd 24 (ax_lf 24 (ao_new 5 14 76 1699)) (ax_nd 27 (ax_lf 27 ao_dup) (ax_lf 28 (ao_al 0 1)))) (ax_nd 29 (ax_lf 29 (ao_gr 9 0)) (ax_nd 32 (ax_lf 32 (ao_gr 8 0)) (ax_lf 35 (ao_inva g 3 5 0 yX5_init cX5_init 3 none 2 16 76 265 1699))))) (ax_nd 42 (ax_nd 38 (ax_lf 38 (ao_pr 9 2)) (ax_nd 41 (ax_lf 41 (ao_al 0 1)) (ax_lf 42 (ao_new 0 4 76 1699)))) (ax_nd 46 (ax_nd 45 (ax_lf 45 ao_dup) (ax_lf 46 (ao_inva g 1 0 0 yX0_init cX0_init 1 none 1 2 76 78 1699))) (ax_nd 49 (ax_lf 49 (ao_pr 9 3)) (ax_lf 52 (ao_al 0 1))))))) (ax_nd 78 (ax_nd 64 (ax_nd 57 (ax_nd 53 (ax_lf 53 (ao_new 3 3 76 1699)) (ax_nd 56 (ax_lf 56 ao_dup) (ax_lf 57 (ao_inva g 1 3 0 yX3_init cX3_init 1 none 1 1 76 12 1699)))) (ax_nd 60 (ax_lf 60 (ao_pr 9 4)) (ax_nd 63 (ax_lf 63 (ao_al 0 1)) (ax_lf 64 (ao_new 3 3 76 1699))))) (ax_nd 71 (ax_nd 67 (ax_lf 67 ao_dup) (ax_nd 68 (ax_lf 68 (ao_inva g 1 3 0 yX3_init cX3_init 1 none 1 1 76 12 1699)) (ax_lf 71 (ao_pr 9 5)))) (ax_nd 74 (ax_lf 74 (ao_al 0 1)) (ax_nd 75 (ax_lf 75 (ao_new 4 9 76 1699)) (ax_lf 78 ao_dup))))) (ax_nd 90 (ax_nd 85 (ax_nd 79 (ax_lf 79 (ao_inva g 2 4 0 yX4_init cX4_init 1 none 1 6 76 97 1699)) (ax_nd 82 (ax_lf 82 (ao_pr 9 6)) (ax_lf 85 (ao_al 0 1)))) (ax_nd 86 (ax_lf 86 (ao_new 7 5 76 1699)) (ax_nd 89 (ax_lf 89 ao_dup) (ax_lf 90 (ao_inva g 2 7 0 yX7_init cX7_init 2 none 1 9 76 54 1699))))) (ax_nd 97 (ax_nd 93 (ax_lf 93 (ao_pr 9 7)) (ax_nd 96 (ax_lf 96 (ao_al 0 1)) (ax_lf 97 (ao_new 1 2 76 1699)))) (ax_nd 101 (ax_nd 100 (ax_lf 100 ao_dup) (ax_lf 101 (ao_inva g 1 1 0 yX1_init cX1_init 1 none 1 0 76 0 1699))) (ax_nd 104 (ax_lf 104 (ao_pr 9 8)) (ax_lf 107 (ao_vreta 76 1699)))))))
theorem oX9_init (g : ax_G) : ∀ pc, ax_ok g cX9_init 1 none RX9 "<init>" 4 76 1699 pc (tX9_init g pc) := ax_nd_ok (ax_nd_ok (ax_nd_ok (ax_nd_ok (ax_nd_ok (ax_lf_ok (ak_aload_n rfl dX9_init_0)) (ax_nd_ok (ax_lf_ok (ak_obj (by decide) wd_118 wd_119 wd_120 dX9_init_1)) (ax_lf_ok (ak_aload_n rfl dX9_init_4)))) (ax_nd_ok (ax_lf_ok (ak_new (by decide) rfl ig_X8 tyX8_ok dv_X8 wd_121 wd_122 wd_97 dX9_init_5)) (ax_nd_ok (ax_lf_ok (ak_dup dX9_init_8)) (ax_lf_ok (ak_inva (ak_invI (by decide) (by decide) (by decide) wd_123 wd_124 wd_97 wd_125 rfl ⟨by decide, by decide, by decide +kernel⟩ dX9_init_9)))))) (ax_nd_ok (ax_nd_ok (ax_lf_ok (ak_pr fF_X9_10 rfl fW_X9_10_i dX9_init_12)) (ax_nd_ok (ax_lf_ok (ak_aload_n rfl dX9_init_15)) (ax_lf_ok (ak_iconst (by decide) dX9_init_16)))) (ax_nd_ok (ax_lf_ok (ak_newr (by decide) (t0 := 7) rfl wd_121 (by decide +kernel) dX9_init_17)) (ax_nd_ok (ax_lf_ok (ak_pr fF_X9_16 rfl fW_X9_16_i dX9_init_20)) (ax_lf_ok (ak_aload_n rfl dX9_init_23)))))) (ax_nd_ok (ax_nd_ok (ax_nd_ok (ax_lf_ok (ak_new (by decide) rfl ig_X5 tyX5_ok dv_X5 wd_236 wd_237 wd_100 dX9_init_24)) (ax_nd_ok (ax_lf_ok (ak_dup dX9_init_27)) (ax_lf_ok (ak_aload_n rfl dX9_init_28)))) (ax_nd_ok (ax_lf_ok (ak_gr fF_X9_10 dX9_init_29)) (ax_nd_ok (ax_lf_ok (ak_gr fF_X9_22 dX9_init_32)) (ax_lf_ok (ak_inva (ak_invI (by decide) (by decide) (by decide) wd_238 wd_239 wd_100 wd_240 rfl ⟨by decide, by decide, by decide +kernel⟩ dX9_init_35)))))) (ax_nd_ok (ax_nd_ok (ax_lf_ok (ak_pr fF_X9_29 rfl fW_X9_29_i dX9_init_38)) (ax_nd_ok (ax_lf_ok (ak_aload_n rfl dX9_init_41)) (ax_lf_ok (ak_new (by decide) rfl ig_X0 tyX0_ok dv_X0 wd_293 wd_294 wd_101 dX9_init_42)))) (ax_nd_ok (ax_nd_ok (ax_lf_ok (ak_dup dX9_init_45)) (ax_lf_ok (ak_inva (ak_invIN (host := "GluedHour") (by decide) (by decide) (by decide) (by decide +kernel) wd_296 wd_101 wd_297 rfl ⟨by decide, by decide, by decide +kernel⟩ dX9_init_46)))) (ax_nd_ok (ax_lf_ok (ak_pr fF_X9_36 rfl fW_X9_36_i dX9_init_49)) (ax_lf_ok (ak_aload_n rfl dX9_init_52))))))) (ax_nd_ok (ax_nd_ok (ax_nd_ok (ax_nd_ok (ax_lf_ok (ak_new (by decide) rfl ig_X3 tyX3_ok dv_X3 wd_314 wd_315 wd_102 dX9_init_53)) (ax_nd_ok (ax_lf_ok (ak_dup dX9_init_56)) (ax_lf_ok (ak_inva (ak_invIN (host := "GluedHour") (by decide) (by decide) (by decide) (by decide +kernel) wd_317 wd_102 wd_318 rfl ⟨by decide, by decide, by decide +kernel⟩ dX9_init_57))))) (ax_nd_ok (ax_lf_ok (ak_pr fF_X9_43 rfl fW_X9_43_i dX9_init_60)) (ax_nd_ok (ax_lf_ok (ak_aload_n rfl dX9_init_63)) (ax_lf_ok (ak_new (by decide) rfl ig_X3 tyX3_ok dv_X3 wd_314 wd_315 wd_102 dX9_init_64))))) (ax_nd_ok (ax_nd_ok (ax_lf_ok (ak_dup dX9_init_67)) (ax_nd_ok (ax_lf_ok (ak_inva (ak_invIN (host := "GluedHour") (by decide) (by decide) (by decide) (by decide +kernel) wd_317 wd_102 wd_318 rfl ⟨by decide, by decide, by decide +kernel⟩ dX9_init_68))) (ax_lf_ok (ak_pr fF_X9_47 rfl fW_X9_47_i dX9_init_71)))) (ax_nd_ok (ax_lf_ok (ak_aload_n rfl dX9_init_74)) (ax_nd_ok (ax_lf_ok (ak_new (by decide) rfl ig_X4 tyX4_ok dv_X4 wd_336 wd_337 wd_103 dX9_init_75)) (ax_lf_ok (ak_dup dX9_init_78)))))) (ax_nd_ok (ax_nd_ok (ax_nd_ok (ax_lf_ok (ak_inva (ak_invIN (host := "GluedHour") (by decide) (by decide) (by decide) (by decide +kernel) wd_339 wd_103 wd_340 rfl ⟨by decide, by decide, by decide +kernel⟩ dX9_init_79))) (ax_nd_ok (ax_lf_ok (ak_pr fF_X9_53 rfl fW_X9_53_i dX9_init_82)) (ax_lf_ok (ak_aload_n rfl dX9_init_85)))) (ax_nd_ok (ax_lf_ok (ak_new (by decide) rfl ig_X7 tyX7_ok dv_X7 wd_378 wd_379 wd_104 dX9_init_86)) (ax_nd_ok (ax_lf_ok (ak_dup dX9_init_89)) (ax_lf_ok (ak_inva (ak_invI (by decide) (by decide) (by decide) wd_380 wd_381 wd_104 wd_382 rfl ⟨by decide, by decide, by decide +kernel⟩ dX9_init_90)))))) (ax_nd_ok (ax_nd_ok (ax_lf_ok (ak_pr fF_X9_60 rfl fW_X9_60_i dX9_init_93)) (ax_nd_ok (ax_lf_ok (ak_aload_n rfl dX9_init_96)) (ax_lf_ok (ak_new (by decide) rfl ig_X1 tyX1_ok dv_X1 wd_406 wd_407 wd_105 dX9_init_97)))) (ax_nd_ok (ax_nd_ok (ax_lf_ok (ak_dup dX9_init_100)) (ax_lf_ok (ak_inva (ak_invIN (host := "GluedHour") (by decide) (by decide) (by decide) (by decide +kernel) wd_409 wd_105 wd_410 rfl ⟨by decide, by decide, by decide +kernel⟩ dX9_init_101)))) (ax_nd_ok (ax_lf_ok (ak_pr fF_X9_67 rfl fW_X9_67_i dX9_init_104)) (ax_lf_ok (ak_vreta (ak_vret rfl dX9_init_107))))))))
abbrev mX9_init (g : ax_G) (as : List Value) (h : ax_H) (Ret : Option Value → ax_H → Prop) : Prop := ax_M g 4 76 1699 yX9_init cX9_init 1 none as h Ret
theorem dX9_feed_0 : decode cX9_feed 0 = .ok (.aload_n 0, 1) := by decide +kernel
theorem dX9_feed_1 : decode cX9_feed 1 = .ok (.getfield 10, 3) := by decide +kernel
theorem dX9_feed_4 : decode cX9_feed 4 = .ok (.getfield 71, 3) := by decide +kernel
theorem dX9_feed_7 : decode cX9_feed 7 = .ok (.bipush 20, 2) := by decide +kernel
theorem dX9_feed_9 : decode cX9_feed 9 = .ok (.iadd, 1) := by decide +kernel
theorem dX9_feed_10 : decode cX9_feed 10 = .ok (.sipush 600, 3) := by decide +kernel
theorem dX9_feed_13 : decode cX9_feed 13 = .ok (.if_icmp .le 5, 3) := by decide +kernel
theorem dX9_feed_16 : decode cX9_feed 16 = .ok (.iconst (-1), 1) := by decide +kernel
theorem dX9_feed_17 : decode cX9_feed 17 = .ok (.ireturn, 1) := by decide +kernel
theorem dX9_feed_18 : decode cX9_feed 18 = .ok (.aload_n 0, 1) := by decide +kernel
theorem dX9_feed_19 : decode cX9_feed 19 = .ok (.getfield 10, 3) := by decide +kernel
theorem dX9_feed_22 : decode cX9_feed 22 = .ok (.iload_n 1, 1) := by decide +kernel
theorem dX9_feed_23 : decode cX9_feed 23 = .ok (.invokevirtual 75, 3) := by decide +kernel
theorem dX9_feed_26 : decode cX9_feed 26 = .ok (.aload_n 0, 1) := by decide +kernel
theorem dX9_feed_27 : decode cX9_feed 27 = .ok (.getfield 10, 3) := by decide +kernel
theorem dX9_feed_30 : decode cX9_feed 30 = .ok (.iload_n 2, 1) := by decide +kernel
theorem dX9_feed_31 : decode cX9_feed 31 = .ok (.invokevirtual 75, 3) := by decide +kernel
theorem dX9_feed_34 : decode cX9_feed 34 = .ok (.aload_n 0, 1) := by decide +kernel
theorem dX9_feed_35 : decode cX9_feed 35 = .ok (.getfield 10, 3) := by decide +kernel
theorem dX9_feed_38 : decode cX9_feed 38 = .ok (.iload_n 3, 1) := by decide +kernel
theorem dX9_feed_39 : decode cX9_feed 39 = .ok (.invokevirtual 75, 3) := by decide +kernel
theorem dX9_feed_42 : decode cX9_feed 42 = .ok (.aload_n 0, 1) := by decide +kernel
theorem dX9_feed_43 : decode cX9_feed 43 = .ok (.getfield 10, 3) := by decide +kernel
theorem dX9_feed_46 : decode cX9_feed 46 = .ok (.iload 4, 2) := by decide +kernel
theorem dX9_feed_48 : decode cX9_feed 48 = .ok (.invokevirtual 75, 3) := by decide +kernel
theorem dX9_feed_51 : decode cX9_feed 51 = .ok (.aload_n 0, 1) := by decide +kernel
theorem dX9_feed_52 : decode cX9_feed 52 = .ok (.getfield 10, 3) := by decide +kernel
theorem dX9_feed_55 : decode cX9_feed 55 = .ok (.iload 5, 2) := by decide +kernel
theorem dX9_feed_57 : decode cX9_feed 57 = .ok (.invokevirtual 75, 3) := by decide +kernel
theorem dX9_feed_60 : decode cX9_feed 60 = .ok (.aload_n 0, 1) := by decide +kernel
theorem dX9_feed_61 : decode cX9_feed 61 = .ok (.getfield 10, 3) := by decide +kernel
theorem dX9_feed_64 : decode cX9_feed 64 = .ok (.getfield 71, 3) := by decide +kernel
theorem dX9_feed_67 : decode cX9_feed 67 = .ok (.ireturn, 1) := by decide +kernel
def tX9_feed (g : ax_G) : Nat → ax_O := ax_nd 30 (ax_nd 16 (ax_nd 7 (ax_nd 1 (ax_nd 0 (ax_lf 0 (ao_al 0 1)) (ax_lf 1 (ao_gr 9 0))) (ax_nd 4 (ax_lf 4 (ao_gi 8 4)) (ax_lf 7 (ao_ic (20) 2)))) (ax_nd 10 (ax_nd 9 (ax_lf 9 ao_iadd) (ax_lf 10 (ao_ic (600) 3))) (ax_nd 13 (ax_lf 13 (ao_icmp_le 18)) (ax_lf 16 (ao_ic (-1) 1))))) (ax_nd 22 (ax_nd 18 (ax_nd 17 (ax_lf 17 (ao_iret 0 0)) (ax_lf 18 (ao_al 0 1))) (ax_nd 19 (ax_lf 19 (ao_gr 9 0)) (ax_lf 22 (ao_il 1 1)))) (ax_nd 26 (ax_nd 23 (ax_lf 23 (ao_inv g 1 8 0 yX8_append cX8_append 3 none 2 0 0 0 0)) (ax_lf 26 (ao_al 0 1))) (ax_nd 27 (ax_lf 27 (ao_gr 9 0)) (ax_lf 30 (ao_il 2 1)))))) (ax_nd 46 (ax_nd 38 (ax_nd 34 (ax_nd 31 (ax_lf 31 (ao_inv g 1 8 0 yX8_append cX8_append 3 none 2 0 0 0 0)) (ax_lf 34 (ao_al 0 1))) (ax_nd 35 (ax_lf 35 (ao_gr 9 0)) (ax_lf 38 (ao_il 3 1)))) (ax_nd 42 (ax_nd 39 (ax_lf 39 (ao_inv g 1 8 0 yX8_append cX8_append 3 none 2 0 0 0 0)) (ax_lf 42 (ao_al 0 1))) (ax_nd 43 (ax_lf 43 (ao_gr 9 0)) (ax_lf 46 (ao_il 4 2))))) (ax_nd 55 (ax_nd 51 (ax_nd 48 (ax_lf 48 (ao_inv g 1 8 0 yX8_append cX8_append 3 none 2 0 0 0 0)) (ax_lf 51 (ao_al 0 1))) (ax_nd 52 (ax_lf 52 (ao_gr 9 0)) (ax_lf 55 (ao_il 5 2)))) (ax_nd 60 (ax_nd 57 (ax_lf 57 (ao_inv g 1 8 0 yX8_append cX8_append 3 none 2 0 0 0 0)) (ax_lf 60 (ao_al 0 1))) (ax_nd 61 (ax_lf 61 (ao_gr 9 0)) (ax_nd 64 (ax_lf 64 (ao_gi 8 4)) (ax_lf 67 (ao_iret 0 0)))))))
theorem oX9_feed (g : ax_G) : ∀ pc, ax_ok g cX9_feed 6 (some .int) RX9 "feed" 2 0 0 pc (tX9_feed g pc) := ax_nd_ok (ax_nd_ok (ax_nd_ok (ax_nd_ok (ax_nd_ok (ax_lf_ok (ak_aload_n rfl dX9_feed_0)) (ax_lf_ok (ak_gr fF_X9_10 dX9_feed_1))) (ax_nd_ok (ax_lf_ok (ak_gi fF_X9_71 dX9_feed_4)) (ax_lf_ok (ak_bipush (by decide) dX9_feed_7)))) (ax_nd_ok (ax_nd_ok (ax_lf_ok (ak_iadd dX9_feed_9)) (ax_lf_ok (ak_sipush (by decide) dX9_feed_10))) (ax_nd_ok (ax_lf_ok (ak_icmp_le (by decide) dX9_feed_13)) (ax_lf_ok (ak_iconst (by decide) dX9_feed_16))))) (ax_nd_ok (ax_nd_ok (ax_nd_ok (ax_lf_ok (ak_iret rfl dX9_feed_17)) (ax_lf_ok (ak_aload_n rfl dX9_feed_18))) (ax_nd_ok (ax_lf_ok (ak_gr fF_X9_10 dX9_feed_19)) (ax_lf_ok (ak_iload_n rfl dX9_feed_22)))) (ax_nd_ok (ax_nd_ok (ax_lf_ok (ak_invV (by decide) (by decide) (by decide) rfl wd_451 wd_452 wd_453 wd_97 wd_454 ⟨by decide, by decide, by decide +kernel⟩ dX9_feed_23)) (ax_lf_ok (ak_aload_n rfl dX9_feed_26))) (ax_nd_ok (ax_lf_ok (ak_gr fF_X9_10 dX9_feed_27)) (ax_lf_ok (ak_iload_n rfl dX9_feed_30)))))) (ax_nd_ok (ax_nd_ok (ax_nd_ok (ax_nd_ok (ax_lf_ok (ak_invV (by decide) (by decide) (by decide) rfl wd_451 wd_452 wd_453 wd_97 wd_454 ⟨by decide, by decide, by decide +kernel⟩ dX9_feed_31)) (ax_lf_ok (ak_aload_n rfl dX9_feed_34))) (ax_nd_ok (ax_lf_ok (ak_gr fF_X9_10 dX9_feed_35)) (ax_lf_ok (ak_iload_n rfl dX9_feed_38)))) (ax_nd_ok (ax_nd_ok (ax_lf_ok (ak_invV (by decide) (by decide) (by decide) rfl wd_451 wd_452 wd_453 wd_97 wd_454 ⟨by decide, by decide, by decide +kernel⟩ dX9_feed_39)) (ax_lf_ok (ak_aload_n rfl dX9_feed_42))) (ax_nd_ok (ax_lf_ok (ak_gr fF_X9_10 dX9_feed_43)) (ax_lf_ok (ak_iload dX9_feed_46))))) (ax_nd_ok (ax_nd_ok (ax_nd_ok (ax_lf_ok (ak_invV (by decide) (by decide) (by decide) rfl wd_451 wd_452 wd_453 wd_97 wd_454 ⟨by decide, by decide, by decide +kernel⟩ dX9_feed_48)) (ax_lf_ok (ak_aload_n rfl dX9_feed_51))) (ax_nd_ok (ax_lf_ok (ak_gr fF_X9_10 dX9_feed_52)) (ax_lf_ok (ak_iload dX9_feed_55)))) (ax_nd_ok (ax_nd_ok (ax_lf_ok (ak_invV (by decide) (by decide) (by decide) rfl wd_451 wd_452 wd_453 wd_97 wd_454 ⟨by decide, by decide, by decide +kernel⟩ dX9_feed_57)) (ax_lf_ok (ak_aload_n rfl dX9_feed_60))) (ax_nd_ok (ax_lf_ok (ak_gr fF_X9_10 dX9_feed_61)) (ax_nd_ok (ax_lf_ok (ak_gi fF_X9_71 dX9_feed_64)) (ax_lf_ok (ak_iret rfl dX9_feed_67)))))))
abbrev mX9_feed (g : ax_G) (as : List Value) (h : ax_H) (Ret : Option Value → ax_H → Prop) : Prop := ax_M g 2 0 0 yX9_feed cX9_feed 6 (some .int) as h Ret
theorem dX9_end_0 : decode cX9_end 0 = .ok (.iload_n 1, 1) := by decide +kernel
theorem dX9_end_1 : decode cX9_end 1 = .ok (.ifCond .lt 14, 3) := by decide +kernel
theorem dX9_end_4 : decode cX9_end 4 = .ok (.iload_n 1, 1) := by decide +kernel
theorem dX9_end_5 : decode cX9_end 5 = .ok (.aload_n 0, 1) := by decide +kernel
theorem dX9_end_6 : decode cX9_end 6 = .ok (.getfield 10, 3) := by decide +kernel
theorem dX9_end_9 : decode cX9_end 9 = .ok (.getfield 71, 3) := by decide +kernel
theorem dX9_end_12 : decode cX9_end 12 = .ok (.if_icmp .le 5, 3) := by decide +kernel
theorem dX9_end_15 : decode cX9_end 15 = .ok (.iconst (-1), 1) := by decide +kernel
theorem dX9_end_16 : decode cX9_end 16 = .ok (.ireturn, 1) := by decide +kernel
theorem dX9_end_17 : decode cX9_end 17 = .ok (.aload_n 0, 1) := by decide +kernel
theorem dX9_end_18 : decode cX9_end 18 = .ok (.getfield 10, 3) := by decide +kernel
theorem dX9_end_21 : decode cX9_end 21 = .ok (.iload_n 1, 1) := by decide +kernel
theorem dX9_end_22 : decode cX9_end 22 = .ok (.putfield 71, 3) := by decide +kernel
theorem dX9_end_25 : decode cX9_end 25 = .ok (.iload_n 1, 1) := by decide +kernel
theorem dX9_end_26 : decode cX9_end 26 = .ok (.ireturn, 1) := by decide +kernel
def tX9_end (g : ax_G) : Nat → ax_O := ax_nd 12 (ax_nd 4 (ax_nd 0 (ax_lf 0 (ao_il 1 1)) (ax_nd 1 (ax_lf 1 (ao_if_lt 15)) (ax_lf 4 (ao_il 1 1)))) (ax_nd 6 (ax_nd 5 (ax_lf 5 (ao_al 0 1)) (ax_lf 6 (ao_gr 9 0))) (ax_nd 9 (ax_lf 9 (ao_gi 8 4)) (ax_lf 12 (ao_icmp_le 17))))) (ax_nd 18 (ax_nd 16 (ax_nd 15 (ax_lf 15 (ao_ic (-1) 1)) (ax_lf 16 (ao_iret 0 0))) (ax_nd 17 (ax_lf 17 (ao_al 0 1)) (ax_lf 18 (ao_gr 9 0)))) (ax_nd 22 (ax_nd 21 (ax_lf 21 (ao_il 1 1)) (ax_lf 22 (ao_pi 8 4))) (ax_nd 25 (ax_lf 25 (ao_il 1 1)) (ax_lf 26 (ao_iret 0 0)))))
theorem oX9_end (g : ax_G) : ∀ pc, ax_ok g cX9_end 2 (some .int) RX9 "end" 1 0 0 pc (tX9_end g pc) := ax_nd_ok (ax_nd_ok (ax_nd_ok (ax_lf_ok (ak_iload_n rfl dX9_end_0)) (ax_nd_ok (ax_lf_ok (ak_if_lt (by decide) dX9_end_1)) (ax_lf_ok (ak_iload_n rfl dX9_end_4)))) (ax_nd_ok (ax_nd_ok (ax_lf_ok (ak_aload_n rfl dX9_end_5)) (ax_lf_ok (ak_gr fF_X9_10 dX9_end_6))) (ax_nd_ok (ax_lf_ok (ak_gi fF_X9_71 dX9_end_9)) (ax_lf_ok (ak_icmp_le (by decide) dX9_end_12))))) (ax_nd_ok (ax_nd_ok (ax_nd_ok (ax_lf_ok (ak_iconst (by decide) dX9_end_15)) (ax_lf_ok (ak_iret rfl dX9_end_16))) (ax_nd_ok (ax_lf_ok (ak_aload_n rfl dX9_end_17)) (ax_lf_ok (ak_gr fF_X9_10 dX9_end_18)))) (ax_nd_ok (ax_nd_ok (ax_lf_ok (ak_iload_n rfl dX9_end_21)) (ax_lf_ok (ak_pi fF_X9_71 fW_X9_71_a dX9_end_22))) (ax_nd_ok (ax_lf_ok (ak_iload_n rfl dX9_end_25)) (ax_lf_ok (ak_iret rfl dX9_end_26)))))
abbrev mX9_end (g : ax_G) (as : List Value) (h : ax_H) (Ret : Option Value → ax_H → Prop) : Prop := ax_M g 1 0 0 yX9_end cX9_end 2 (some .int) as h Ret
theorem dX9_text_0 : decode cX9_text 0 = .ok (.aload_n 0, 1) := by decide +kernel
theorem dX9_text_1 : decode cX9_text 1 = .ok (.getfield 10, 3) := by decide +kernel
theorem dX9_text_4 : decode cX9_text 4 = .ok (.getfield 71, 3) := by decide +kernel
theorem dX9_text_7 : decode cX9_text 7 = .ok (.istore_n 3, 1) := by decide +kernel
theorem dX9_text_8 : decode cX9_text 8 = .ok (.aload_n 0, 1) := by decide +kernel
theorem dX9_text_9 : decode cX9_text 9 = .ok (.getfield 10, 3) := by decide +kernel
theorem dX9_text_12 : decode cX9_text 12 = .ok (.iconst 0, 1) := by decide +kernel
theorem dX9_text_13 : decode cX9_text 13 = .ok (.putfield 71, 3) := by decide +kernel
theorem dX9_text_16 : decode cX9_text 16 = .ok (.aload_n 0, 1) := by decide +kernel
theorem dX9_text_17 : decode cX9_text 17 = .ok (.getfield 10, 3) := by decide +kernel
theorem dX9_text_20 : decode cX9_text 20 = .ok (.iconst 0, 1) := by decide +kernel
theorem dX9_text_21 : decode cX9_text 21 = .ok (.putfield 79, 3) := by decide +kernel
theorem dX9_text_24 : decode cX9_text 24 = .ok (.aload_n 0, 1) := by decide +kernel
theorem dX9_text_25 : decode cX9_text 25 = .ok (.getfield 10, 3) := by decide +kernel
theorem dX9_text_28 : decode cX9_text 28 = .ok (.iconst (-1), 1) := by decide +kernel
theorem dX9_text_29 : decode cX9_text 29 = .ok (.putfield 82, 3) := by decide +kernel
theorem dX9_text_32 : decode cX9_text 32 = .ok (.iload_n 1, 1) := by decide +kernel
theorem dX9_text_33 : decode cX9_text 33 = .ok (.ifCond .lt 8, 3) := by decide +kernel
theorem dX9_text_36 : decode cX9_text 36 = .ok (.iload_n 1, 1) := by decide +kernel
theorem dX9_text_37 : decode cX9_text 37 = .ok (.iconst 5, 1) := by decide +kernel
theorem dX9_text_38 : decode cX9_text 38 = .ok (.if_icmp .lt 6, 3) := by decide +kernel
theorem dX9_text_41 : decode cX9_text 41 = .ok (.bipush (-2), 2) := by decide +kernel
theorem dX9_text_43 : decode cX9_text 43 = .ok (.ireturn, 1) := by decide +kernel
theorem dX9_text_44 : decode cX9_text 44 = .ok (.aload_n 0, 1) := by decide +kernel
theorem dX9_text_45 : decode cX9_text 45 = .ok (.getfield 10, 3) := by decide +kernel
theorem dX9_text_48 : decode cX9_text 48 = .ok (.getfield 85, 3) := by decide +kernel
theorem dX9_text_51 : decode cX9_text 51 = .ok (.iload_n 1, 1) := by decide +kernel
theorem dX9_text_52 : decode cX9_text 52 = .ok (.iaload, 1) := by decide +kernel
theorem dX9_text_53 : decode cX9_text 53 = .ok (.istore 4, 2) := by decide +kernel
theorem dX9_text_55 : decode cX9_text 55 = .ok (.iload_n 2, 1) := by decide +kernel
theorem dX9_text_56 : decode cX9_text 56 = .ok (.iconst (-1), 1) := by decide +kernel
theorem dX9_text_57 : decode cX9_text 57 = .ok (.if_icmp .ne 8, 3) := by decide +kernel
theorem dX9_text_60 : decode cX9_text 60 = .ok (.iload 4, 2) := by decide +kernel
theorem dX9_text_62 : decode cX9_text 62 = .ok (.goto 4, 3) := by decide +kernel
theorem dX9_text_65 : decode cX9_text 65 = .ok (.iload_n 2, 1) := by decide +kernel
theorem dX9_text_66 : decode cX9_text 66 = .ok (.istore 5, 2) := by decide +kernel
theorem dX9_text_68 : decode cX9_text 68 = .ok (.iload_n 2, 1) := by decide +kernel
theorem dX9_text_69 : decode cX9_text 69 = .ok (.iconst (-1), 1) := by decide +kernel
theorem dX9_text_70 : decode cX9_text 70 = .ok (.if_icmp .ne 17, 3) := by decide +kernel
theorem dX9_text_73 : decode cX9_text 73 = .ok (.iload 4, 2) := by decide +kernel
theorem dX9_text_75 : decode cX9_text 75 = .ok (.iconst 2, 1) := by decide +kernel
theorem dX9_text_76 : decode cX9_text 76 = .ok (.if_icmp .ge 7, 3) := by decide +kernel
theorem dX9_text_79 : decode cX9_text 79 = .ok (.iconst 1, 1) := by decide +kernel
theorem dX9_text_80 : decode cX9_text 80 = .ok (.goto 22, 3) := by decide +kernel
theorem dX9_text_83 : decode cX9_text 83 = .ok (.iconst 0, 1) := by decide +kernel
theorem dX9_text_84 : decode cX9_text 84 = .ok (.goto 18, 3) := by decide +kernel
theorem dX9_text_87 : decode cX9_text 87 = .ok (.iload_n 2, 1) := by decide +kernel
theorem dX9_text_88 : decode cX9_text 88 = .ok (.ifCond .lt 13, 3) := by decide +kernel
theorem dX9_text_91 : decode cX9_text 91 = .ok (.iload_n 2, 1) := by decide +kernel
theorem dX9_text_92 : decode cX9_text 92 = .ok (.iload 4, 2) := by decide +kernel
theorem dX9_text_94 : decode cX9_text 94 = .ok (.if_icmp .ge 7, 3) := by decide +kernel
theorem dX9_text_97 : decode cX9_text 97 = .ok (.iconst 1, 1) := by decide +kernel
theorem dX9_text_98 : decode cX9_text 98 = .ok (.goto 4, 3) := by decide +kernel
theorem dX9_text_101 : decode cX9_text 101 = .ok (.iconst 0, 1) := by decide +kernel
theorem dX9_text_102 : decode cX9_text 102 = .ok (.istore 6, 2) := by decide +kernel
theorem dX9_text_104 : decode cX9_text 104 = .ok (.iload 6, 2) := by decide +kernel
theorem dX9_text_106 : decode cX9_text 106 = .ok (.ifCond .ne 6, 3) := by decide +kernel
theorem dX9_text_109 : decode cX9_text 109 = .ok (.bipush (-2), 2) := by decide +kernel
theorem dX9_text_111 : decode cX9_text 111 = .ok (.ireturn, 1) := by decide +kernel
theorem dX9_text_112 : decode cX9_text 112 = .ok (.aload_n 0, 1) := by decide +kernel
theorem dX9_text_113 : decode cX9_text 113 = .ok (.getfield 29, 3) := by decide +kernel
theorem dX9_text_116 : decode cX9_text 116 = .ok (.iload_n 3, 1) := by decide +kernel
theorem dX9_text_117 : decode cX9_text 117 = .ok (.iload_n 1, 1) := by decide +kernel
theorem dX9_text_118 : decode cX9_text 118 = .ok (.invokevirtual 89, 3) := by decide +kernel
theorem dX9_text_121 : decode cX9_text 121 = .ok (.aload_n 0, 1) := by decide +kernel
theorem dX9_text_122 : decode cX9_text 122 = .ok (.getfield 10, 3) := by decide +kernel
theorem dX9_text_125 : decode cX9_text 125 = .ok (.aload_n 0, 1) := by decide +kernel
theorem dX9_text_126 : decode cX9_text 126 = .ok (.getfield 29, 3) := by decide +kernel
theorem dX9_text_129 : decode cX9_text 129 = .ok (.getfield 93, 3) := by decide +kernel
theorem dX9_text_132 : decode cX9_text 132 = .ok (.putfield 79, 3) := by decide +kernel
theorem dX9_text_135 : decode cX9_text 135 = .ok (.aload_n 0, 1) := by decide +kernel
theorem dX9_text_136 : decode cX9_text 136 = .ok (.getfield 10, 3) := by decide +kernel
theorem dX9_text_139 : decode cX9_text 139 = .ok (.aload_n 0, 1) := by decide +kernel
theorem dX9_text_140 : decode cX9_text 140 = .ok (.getfield 29, 3) := by decide +kernel
theorem dX9_text_143 : decode cX9_text 143 = .ok (.getfield 94, 3) := by decide +kernel
theorem dX9_text_146 : decode cX9_text 146 = .ok (.putfield 82, 3) := by decide +kernel
theorem dX9_text_149 : decode cX9_text 149 = .ok (.aload_n 0, 1) := by decide +kernel
theorem dX9_text_150 : decode cX9_text 150 = .ok (.getfield 10, 3) := by decide +kernel
theorem dX9_text_153 : decode cX9_text 153 = .ok (.getfield 79, 3) := by decide +kernel
theorem dX9_text_156 : decode cX9_text 156 = .ok (.ifCond .eq 5, 3) := by decide +kernel
theorem dX9_text_159 : decode cX9_text 159 = .ok (.iconst (-1), 1) := by decide +kernel
theorem dX9_text_160 : decode cX9_text 160 = .ok (.ireturn, 1) := by decide +kernel
theorem dX9_text_161 : decode cX9_text 161 = .ok (.aload_n 0, 1) := by decide +kernel
theorem dX9_text_162 : decode cX9_text 162 = .ok (.getfield 10, 3) := by decide +kernel
theorem dX9_text_165 : decode cX9_text 165 = .ok (.aload_n 0, 1) := by decide +kernel
theorem dX9_text_166 : decode cX9_text 166 = .ok (.getfield 29, 3) := by decide +kernel
theorem dX9_text_169 : decode cX9_text 169 = .ok (.iload_n 1, 1) := by decide +kernel
theorem dX9_text_170 : decode cX9_text 170 = .ok (.iload 5, 2) := by decide +kernel
theorem dX9_text_172 : decode cX9_text 172 = .ok (.invokevirtual 95, 3) := by decide +kernel
theorem dX9_text_175 : decode cX9_text 175 = .ok (.iload 5, 2) := by decide +kernel
theorem dX9_text_177 : decode cX9_text 177 = .ok (.ireturn, 1) := by decide +kernel
def tX9_text (g : ax_G) : Nat → ax_O := ax_nd 83 (ax_nd 41 (ax_nd 20 (ax_nd 8 (ax_nd 1 (ax_nd 0 (ax_lf 0 (ao_al 0 1)) (ax_lf 1 (ao_gr 9 0))) (ax_nd 4 (ax_lf 4 (ao_gi 8 4)) (ax_nd 7 (ax_lf 7 (ao_is 3 1)) (ax_lf 8 (ao_al 0 1))))) (ax_nd 13 (ax_nd 9 (ax_lf 9 (ao_gr 9 0)) (ax_nd 12 (ax_lf 12 (ao_ic (0) 1)) (ax_lf 13 (ao_pi 8 4)))) (ax_nd 16 (ax_lf 16 (ao_al 0 1)) (ax_nd 17 (ax_lf 17 (ao_gr 9 0)) (ax_lf 20 (ao_ic (0) 1)))))) (ax_nd 29 (ax_nd 24 (ax_nd 21 (ax_lf 21 (ao_pi 8 5)) (ax_lf 24 (ao_al 0 1))) (ax_nd 25 (ax_lf 25 (ao_gr 9 0)) (ax_nd 28 (ax_lf 28 (ao_ic (-1) 1)) (ax_lf 29 (ao_pi 8 6))))) (ax_nd 36 (ax_nd 32 (ax_lf 32 (ao_il 1 1)) (ax_nd 33 (ax_lf 33 (ao_if_lt 41)) (ax_lf 36 (ao_il 1 1)))) (ax_nd 37 (ax_lf 37 (ao_ic (5) 1)) (ax_nd 38 (ax_lf 38 (ao_icmp_lt 44)) (ax_lf 41 (ao_ic (-2) 2))))))) (ax_nd 60 (ax_nd 51 (ax_nd 44 (ax_nd 43 (ax_lf 43 (ao_iret 0 0)) (ax_lf 44 (ao_al 0 1))) (ax_nd 45 (ax_lf 45 (ao_gr 9 0)) (ax_nd 48 (ax_lf 48 (ao_gr 8 1)) (ax_lf 51 (ao_il 1 1))))) (ax_nd 55 (ax_nd 52 (ax_lf 52 ao_iald) (ax_nd 53 (ax_lf 53 (ao_is 4 2)) (ax_lf 55 (ao_il 2 1)))) (ax_nd 56 (ax_lf 56 (ao_ic (-1) 1)) (ax_nd 57 (ax_lf 57 (ao_icmp_ne 65)) (ax_lf 60 (ao_il 4 2)))))) (ax_nd 70 (ax_nd 66 (ax_nd 62 (ax_lf 62 (ao_goto 66)) (ax_nd 65 (ax_lf 65 (ao_il 2 1)) (ax_lf 66 (ao_is 5 2)))) (ax_nd 68 (ax_lf 68 (ao_il 2 1)) (ax_nd 69 (ax_lf 69 (ao_ic (-1) 1)) (ax_lf 70 (ao_icmp_ne 87))))) (ax_nd 76 (ax_nd 73 (ax_lf 73 (ao_il 4 2)) (ax_nd 75 (ax_lf 75 (ao_ic (2) 1)) (ax_lf 76 (ao_icmp_ge 83)))) (ax_nd 79 (ax_lf 79 (ao_ic (1) 1)) (ax_nd 80 (ax_lf 80 (ao_goto 102)) (ax_lf 83 (ao_ic (0) 1)))))))) (ax_nd 126 (ax_nd 104 (ax_nd 92 (ax_nd 87 (ax_nd 84 (ax_lf 84 (ao_goto 102)) (ax_lf 87 (ao_il 2 1))) (ax_nd 88 (ax_lf 88 (ao_if_lt 101)) (ax_nd 91 (ax_lf 91 (ao_il 2 1)) (ax_lf 92 (ao_il 4 2))))) (ax_nd 98 (ax_nd 94 (ax_lf 94 (ao_icmp_ge 101)) (ax_nd 97 (ax_lf 97 (ao_ic (1) 1)) (ax_lf 98 (ao_goto 102)))) (ax_nd 101 (ax_lf 101 (ao_ic (0) 1)) (ax_nd 102 (ax_lf 102 (ao_is 6 2)) (ax_lf 104 (ao_il 6 2)))))) (ax_nd 116 (ax_nd 111 (ax_nd 106 (ax_lf 106 (ao_if_ne 112)) (ax_nd 109 (ax_lf 109 (ao_ic (-2) 2)) (ax_lf 111 (ao_iret 0 0)))) (ax_nd 112 (ax_lf 112 (ao_al 0 1)) (ax_nd 113 (ax_lf 113 (ao_gr 9 2)) (ax_lf 116 (ao_il 3 1))))) (ax_nd 121 (ax_nd 117 (ax_lf 117 (ao_il 1 1)) (ax_nd 118 (ax_lf 118 (ao_inv g 9 5 0 yX5_read cX5_read 4 none 3 0 0 0 0)) (ax_lf 121 (ao_al 0 1)))) (ax_nd 122 (ax_lf 122 (ao_gr 9 0)) (ax_nd 125 (ax_lf 125 (ao_al 0 1)) (ax_lf 126 (ao_gr 9 2))))))) (ax_nd 153 (ax_nd 139 (ax_nd 132 (ax_nd 129 (ax_lf 129 (ao_gi 5 4)) (ax_lf 132 (ao_pi 8 5))) (ax_nd 135 (ax_lf 135 (ao_al 0 1)) (ax_nd 136 (ax_lf 136 (ao_gr 9 0)) (ax_lf 139 (ao_al 0 1))))) (ax_nd 146 (ax_nd 140 (ax_lf 140 (ao_gr 9 2)) (ax_nd 143 (ax_lf 143 (ao_gi 5 5)) (ax_lf 146 (ao_pi 8 6)))) (ax_nd 149 (ax_lf 149 (ao_al 0 1)) (ax_nd 150 (ax_lf 150 (ao_gr 9 0)) (ax_lf 153 (ao_gi 8 5)))))) (ax_nd 165 (ax_nd 160 (ax_nd 156 (ax_lf 156 (ao_if_eq 161)) (ax_nd 159 (ax_lf 159 (ao_ic (-1) 1)) (ax_lf 160 (ao_iret 0 0)))) (ax_nd 161 (ax_lf 161 (ao_al 0 1)) (ax_nd 162 (ax_lf 162 (ao_gr 9 0)) (ax_lf 165 (ao_al 0 1))))) (ax_nd 170 (ax_nd 166 (ax_lf 166 (ao_gr 9 2)) (ax_nd 169 (ax_lf 169 (ao_il 1 1)) (ax_lf 170 (ao_il 5 2)))) (ax_nd 172 (ax_lf 172 (ao_inv g 4 8 0 yX8_take cX8_take 4 none 4 0 0 0 0)) (ax_nd 175 (ax_lf 175 (ao_il 5 2)) (ax_lf 177 (ao_iret 0 0))))))))
theorem oX9_text (g : ax_G) : ∀ pc, ax_ok g cX9_text 7 (some .int) RX9 "text" 10 0 0 pc (tX9_text g pc) := ax_nd_ok (ax_nd_ok (ax_nd_ok (ax_nd_ok (ax_nd_ok (ax_nd_ok (ax_lf_ok (ak_aload_n rfl dX9_text_0)) (ax_lf_ok (ak_gr fF_X9_10 dX9_text_1))) (ax_nd_ok (ax_lf_ok (ak_gi fF_X9_71 dX9_text_4)) (ax_nd_ok (ax_lf_ok (ak_istore_n rfl (by decide) dX9_text_7)) (ax_lf_ok (ak_aload_n rfl dX9_text_8))))) (ax_nd_ok (ax_nd_ok (ax_lf_ok (ak_gr fF_X9_10 dX9_text_9)) (ax_nd_ok (ax_lf_ok (ak_iconst (by decide) dX9_text_12)) (ax_lf_ok (ak_pi fF_X9_71 fW_X9_71_a dX9_text_13)))) (ax_nd_ok (ax_lf_ok (ak_aload_n rfl dX9_text_16)) (ax_nd_ok (ax_lf_ok (ak_gr fF_X9_10 dX9_text_17)) (ax_lf_ok (ak_iconst (by decide) dX9_text_20)))))) (ax_nd_ok (ax_nd_ok (ax_nd_ok (ax_lf_ok (ak_pi fF_X9_79 fW_X9_79_a dX9_text_21)) (ax_lf_ok (ak_aload_n rfl dX9_text_24))) (ax_nd_ok (ax_lf_ok (ak_gr fF_X9_10 dX9_text_25)) (ax_nd_ok (ax_lf_ok (ak_iconst (by decide) dX9_text_28)) (ax_lf_ok (ak_pi fF_X9_82 fW_X9_82_a dX9_text_29))))) (ax_nd_ok (ax_nd_ok (ax_lf_ok (ak_iload_n rfl dX9_text_32)) (ax_nd_ok (ax_lf_ok (ak_if_lt (by decide) dX9_text_33)) (ax_lf_ok (ak_iload_n rfl dX9_text_36)))) (ax_nd_ok (ax_lf_ok (ak_iconst (by decide) dX9_text_37)) (ax_nd_ok (ax_lf_ok (ak_icmp_lt (by decide) dX9_text_38)) (ax_lf_ok (ak_bipush (by decide) dX9_text_41))))))) (ax_nd_ok (ax_nd_ok (ax_nd_ok (ax_nd_ok (ax_lf_ok (ak_iret rfl dX9_text_43)) (ax_lf_ok (ak_aload_n rfl dX9_text_44))) (ax_nd_ok (ax_lf_ok (ak_gr fF_X9_10 dX9_text_45)) (ax_nd_ok (ax_lf_ok (ak_gr fF_X9_85 dX9_text_48)) (ax_lf_ok (ak_iload_n rfl dX9_text_51))))) (ax_nd_ok (ax_nd_ok (ax_lf_ok (ak_iald dX9_text_52)) (ax_nd_ok (ax_lf_ok (ak_istore (by decide) dX9_text_53)) (ax_lf_ok (ak_iload_n rfl dX9_text_55)))) (ax_nd_ok (ax_lf_ok (ak_iconst (by decide) dX9_text_56)) (ax_nd_ok (ax_lf_ok (ak_icmp_ne (by decide) dX9_text_57)) (ax_lf_ok (ak_iload dX9_text_60)))))) (ax_nd_ok (ax_nd_ok (ax_nd_ok (ax_lf_ok (ak_goto (by decide) dX9_text_62)) (ax_nd_ok (ax_lf_ok (ak_iload_n rfl dX9_text_65)) (ax_lf_ok (ak_istore (by decide) dX9_text_66)))) (ax_nd_ok (ax_lf_ok (ak_iload_n rfl dX9_text_68)) (ax_nd_ok (ax_lf_ok (ak_iconst (by decide) dX9_text_69)) (ax_lf_ok (ak_icmp_ne (by decide) dX9_text_70))))) (ax_nd_ok (ax_nd_ok (ax_lf_ok (ak_iload dX9_text_73)) (ax_nd_ok (ax_lf_ok (ak_iconst (by decide) dX9_text_75)) (ax_lf_ok (ak_icmp_ge (by decide) dX9_text_76)))) (ax_nd_ok (ax_lf_ok (ak_iconst (by decide) dX9_text_79)) (ax_nd_ok (ax_lf_ok (ak_goto (by decide) dX9_text_80)) (ax_lf_ok (ak_iconst (by decide) dX9_text_83)))))))) (ax_nd_ok (ax_nd_ok (ax_nd_ok (ax_nd_ok (ax_nd_ok (ax_lf_ok (ak_goto (by decide) dX9_text_84)) (ax_lf_ok (ak_iload_n rfl dX9_text_87))) (ax_nd_ok (ax_lf_ok (ak_if_lt (by decide) dX9_text_88)) (ax_nd_ok (ax_lf_ok (ak_iload_n rfl dX9_text_91)) (ax_lf_ok (ak_iload dX9_text_92))))) (ax_nd_ok (ax_nd_ok (ax_lf_ok (ak_icmp_ge (by decide) dX9_text_94)) (ax_nd_ok (ax_lf_ok (ak_iconst (by decide) dX9_text_97)) (ax_lf_ok (ak_goto (by decide) dX9_text_98)))) (ax_nd_ok (ax_lf_ok (ak_iconst (by decide) dX9_text_101)) (ax_nd_ok (ax_lf_ok (ak_istore (by decide) dX9_text_102)) (ax_lf_ok (ak_iload dX9_text_104)))))) (ax_nd_ok (ax_nd_ok (ax_nd_ok (ax_lf_ok (ak_if_ne (by decide) dX9_text_106)) (ax_nd_ok (ax_lf_ok (ak_bipush (by decide) dX9_text_109)) (ax_lf_ok (ak_iret rfl dX9_text_111)))) (ax_nd_ok (ax_lf_ok (ak_aload_n rfl dX9_text_112)) (ax_nd_ok (ax_lf_ok (ak_gr fF_X9_29 dX9_text_113)) (ax_lf_ok (ak_iload_n rfl dX9_text_116))))) (ax_nd_ok (ax_nd_ok (ax_lf_ok (ak_iload_n rfl dX9_text_117)) (ax_nd_ok (ax_lf_ok (ak_invV (by decide) (by decide) (by decide) rfl wd_463 wd_464 wd_465 wd_100 wd_466 ⟨by decide, by decide, by decide +kernel⟩ dX9_text_118)) (ax_lf_ok (ak_aload_n rfl dX9_text_121)))) (ax_nd_ok (ax_lf_ok (ak_gr fF_X9_10 dX9_text_122)) (ax_nd_ok (ax_lf_ok (ak_aload_n rfl dX9_text_125)) (ax_lf_ok (ak_gr fF_X9_29 dX9_text_126))))))) (ax_nd_ok (ax_nd_ok (ax_nd_ok (ax_nd_ok (ax_lf_ok (ak_gi fF_X9_93 dX9_text_129)) (ax_lf_ok (ak_pi fF_X9_79 fW_X9_79_a dX9_text_132))) (ax_nd_ok (ax_lf_ok (ak_aload_n rfl dX9_text_135)) (ax_nd_ok (ax_lf_ok (ak_gr fF_X9_10 dX9_text_136)) (ax_lf_ok (ak_aload_n rfl dX9_text_139))))) (ax_nd_ok (ax_nd_ok (ax_lf_ok (ak_gr fF_X9_29 dX9_text_140)) (ax_nd_ok (ax_lf_ok (ak_gi fF_X9_94 dX9_text_143)) (ax_lf_ok (ak_pi fF_X9_82 fW_X9_82_a dX9_text_146)))) (ax_nd_ok (ax_lf_ok (ak_aload_n rfl dX9_text_149)) (ax_nd_ok (ax_lf_ok (ak_gr fF_X9_10 dX9_text_150)) (ax_lf_ok (ak_gi fF_X9_79 dX9_text_153)))))) (ax_nd_ok (ax_nd_ok (ax_nd_ok (ax_lf_ok (ak_if_eq (by decide) dX9_text_156)) (ax_nd_ok (ax_lf_ok (ak_iconst (by decide) dX9_text_159)) (ax_lf_ok (ak_iret rfl dX9_text_160)))) (ax_nd_ok (ax_lf_ok (ak_aload_n rfl dX9_text_161)) (ax_nd_ok (ax_lf_ok (ak_gr fF_X9_10 dX9_text_162)) (ax_lf_ok (ak_aload_n rfl dX9_text_165))))) (ax_nd_ok (ax_nd_ok (ax_lf_ok (ak_gr fF_X9_29 dX9_text_166)) (ax_nd_ok (ax_lf_ok (ak_iload_n rfl dX9_text_169)) (ax_lf_ok (ak_iload dX9_text_170)))) (ax_nd_ok (ax_lf_ok (ak_invV (by decide) (by decide) (by decide) rfl wd_617 wd_618 wd_619 wd_97 wd_620 ⟨by decide, by decide, by decide +kernel⟩ dX9_text_172)) (ax_nd_ok (ax_lf_ok (ak_iload dX9_text_175)) (ax_lf_ok (ak_iret rfl dX9_text_177))))))))
abbrev mX9_text (g : ax_G) (as : List Value) (h : ax_H) (Ret : Option Value → ax_H → Prop) : Prop := ax_M g 10 0 0 yX9_text cX9_text 7 (some .int) as h Ret
theorem dX9_fault_0 : decode cX9_fault 0 = .ok (.iload_n 1, 1) := by decide +kernel
theorem dX9_fault_1 : decode cX9_fault 1 = .ok (.ifCond .ne 11, 3) := by decide +kernel
theorem dX9_fault_4 : decode cX9_fault 4 = .ok (.aload_n 0, 1) := by decide +kernel
theorem dX9_fault_5 : decode cX9_fault 5 = .ok (.getfield 10, 3) := by decide +kernel
theorem dX9_fault_8 : decode cX9_fault 8 = .ok (.getfield 79, 3) := by decide +kernel
theorem dX9_fault_11 : decode cX9_fault 11 = .ok (.ireturn, 1) := by decide +kernel
theorem dX9_fault_12 : decode cX9_fault 12 = .ok (.iload_n 1, 1) := by decide +kernel
theorem dX9_fault_13 : decode cX9_fault 13 = .ok (.iconst 1, 1) := by decide +kernel
theorem dX9_fault_14 : decode cX9_fault 14 = .ok (.if_icmp .ne 13, 3) := by decide +kernel
theorem dX9_fault_17 : decode cX9_fault 17 = .ok (.aload_n 0, 1) := by decide +kernel
theorem dX9_fault_18 : decode cX9_fault 18 = .ok (.getfield 10, 3) := by decide +kernel
theorem dX9_fault_21 : decode cX9_fault 21 = .ok (.getfield 82, 3) := by decide +kernel
theorem dX9_fault_24 : decode cX9_fault 24 = .ok (.goto 4, 3) := by decide +kernel
theorem dX9_fault_27 : decode cX9_fault 27 = .ok (.iconst (-1), 1) := by decide +kernel
theorem dX9_fault_28 : decode cX9_fault 28 = .ok (.ireturn, 1) := by decide +kernel
def tX9_fault (g : ax_G) : Nat → ax_O := ax_nd 12 (ax_nd 4 (ax_nd 0 (ax_lf 0 (ao_il 1 1)) (ax_nd 1 (ax_lf 1 (ao_if_ne 12)) (ax_lf 4 (ao_al 0 1)))) (ax_nd 8 (ax_nd 5 (ax_lf 5 (ao_gr 9 0)) (ax_lf 8 (ao_gi 8 5))) (ax_nd 11 (ax_lf 11 (ao_iret 0 0)) (ax_lf 12 (ao_il 1 1))))) (ax_nd 18 (ax_nd 14 (ax_nd 13 (ax_lf 13 (ao_ic (1) 1)) (ax_lf 14 (ao_icmp_ne 27))) (ax_nd 17 (ax_lf 17 (ao_al 0 1)) (ax_lf 18 (ao_gr 9 0)))) (ax_nd 24 (ax_nd 21 (ax_lf 21 (ao_gi 8 6)) (ax_lf 24 (ao_goto 28))) (ax_nd 27 (ax_lf 27 (ao_ic (-1) 1)) (ax_lf 28 (ao_iret 0 0)))))
theorem oX9_fault (g : ax_G) : ∀ pc, ax_ok g cX9_fault 2 (some .int) RX9 "fault" 1 0 0 pc (tX9_fault g pc) := ax_nd_ok (ax_nd_ok (ax_nd_ok (ax_lf_ok (ak_iload_n rfl dX9_fault_0)) (ax_nd_ok (ax_lf_ok (ak_if_ne (by decide) dX9_fault_1)) (ax_lf_ok (ak_aload_n rfl dX9_fault_4)))) (ax_nd_ok (ax_nd_ok (ax_lf_ok (ak_gr fF_X9_10 dX9_fault_5)) (ax_lf_ok (ak_gi fF_X9_79 dX9_fault_8))) (ax_nd_ok (ax_lf_ok (ak_iret rfl dX9_fault_11)) (ax_lf_ok (ak_iload_n rfl dX9_fault_12))))) (ax_nd_ok (ax_nd_ok (ax_nd_ok (ax_lf_ok (ak_iconst (by decide) dX9_fault_13)) (ax_lf_ok (ak_icmp_ne (by decide) dX9_fault_14))) (ax_nd_ok (ax_lf_ok (ak_aload_n rfl dX9_fault_17)) (ax_lf_ok (ak_gr fF_X9_10 dX9_fault_18)))) (ax_nd_ok (ax_nd_ok (ax_lf_ok (ak_gi fF_X9_82 dX9_fault_21)) (ax_lf_ok (ak_goto (by decide) dX9_fault_24))) (ax_nd_ok (ax_lf_ok (ak_iconst (by decide) dX9_fault_27)) (ax_lf_ok (ak_iret rfl dX9_fault_28)))))
abbrev mX9_fault (g : ax_G) (as : List Value) (h : ax_H) (Ret : Option Value → ax_H → Prop) : Prop := ax_M g 1 0 0 yX9_fault cX9_fault 2 (some .int) as h Ret
theorem dX9_republic_0 : decode cX9_republic 0 = .ok (.aload_n 0, 1) := by decide +kernel
theorem dX9_republic_1 : decode cX9_republic 1 = .ok (.iload_n 1, 1) := by decide +kernel
theorem dX9_republic_2 : decode cX9_republic 2 = .ok (.invokevirtual 99, 3) := by decide +kernel
theorem dX9_republic_5 : decode cX9_republic 5 = .ok (.astore_n 3, 1) := by decide +kernel
theorem dX9_republic_6 : decode cX9_republic 6 = .ok (.aload_n 3, 1) := by decide +kernel
theorem dX9_republic_7 : decode cX9_republic 7 = .ok (.ifnonnull 7, 3) := by decide +kernel
theorem dX9_republic_10 : decode cX9_republic 10 = .ok (.sipush (-1000), 3) := by decide +kernel
theorem dX9_republic_13 : decode cX9_republic 13 = .ok (.ireturn, 1) := by decide +kernel
theorem dX9_republic_14 : decode cX9_republic 14 = .ok (.iload_n 2, 1) := by decide +kernel
theorem dX9_republic_15 : decode cX9_republic 15 = .ok (.bipush 10, 2) := by decide +kernel
theorem dX9_republic_17 : decode cX9_republic 17 = .ok (.if_icmp .lt 18, 3) := by decide +kernel
theorem dX9_republic_20 : decode cX9_republic 20 = .ok (.iload_n 2, 1) := by decide +kernel
theorem dX9_republic_21 : decode cX9_republic 21 = .ok (.bipush 16, 2) := by decide +kernel
theorem dX9_republic_23 : decode cX9_republic 23 = .ok (.if_icmp .ge 12, 3) := by decide +kernel
theorem dX9_republic_26 : decode cX9_republic 26 = .ok (.aload_n 3, 1) := by decide +kernel
theorem dX9_republic_27 : decode cX9_republic 27 = .ok (.iload_n 2, 1) := by decide +kernel
theorem dX9_republic_28 : decode cX9_republic 28 = .ok (.bipush 10, 2) := by decide +kernel
theorem dX9_republic_30 : decode cX9_republic 30 = .ok (.isub, 1) := by decide +kernel
theorem dX9_republic_31 : decode cX9_republic 31 = .ok (.invokevirtual 103, 3) := by decide +kernel
theorem dX9_republic_34 : decode cX9_republic 34 = .ok (.ireturn, 1) := by decide +kernel
theorem dX9_republic_35 : decode cX9_republic 35 = .ok (.iload_n 2, 1) := by decide +kernel
theorem dX9_republic_36 : decode cX9_republic 36 = .ok (.bipush 20, 2) := by decide +kernel
theorem dX9_republic_38 : decode cX9_republic 38 = .ok (.if_icmp .lt 18, 3) := by decide +kernel
theorem dX9_republic_41 : decode cX9_republic 41 = .ok (.iload_n 2, 1) := by decide +kernel
theorem dX9_republic_42 : decode cX9_republic 42 = .ok (.bipush 26, 2) := by decide +kernel
theorem dX9_republic_44 : decode cX9_republic 44 = .ok (.if_icmp .ge 12, 3) := by decide +kernel
theorem dX9_republic_47 : decode cX9_republic 47 = .ok (.aload_n 3, 1) := by decide +kernel
theorem dX9_republic_48 : decode cX9_republic 48 = .ok (.iload_n 2, 1) := by decide +kernel
theorem dX9_republic_49 : decode cX9_republic 49 = .ok (.bipush 20, 2) := by decide +kernel
theorem dX9_republic_51 : decode cX9_republic 51 = .ok (.isub, 1) := by decide +kernel
theorem dX9_republic_52 : decode cX9_republic 52 = .ok (.invokevirtual 109, 3) := by decide +kernel
theorem dX9_republic_55 : decode cX9_republic 55 = .ok (.ireturn, 1) := by decide +kernel
theorem dX9_republic_56 : decode cX9_republic 56 = .ok (.iload_n 2, 1) := by decide +kernel
theorem dX9_republic_57 : decode cX9_republic 57 = .ok (.tableswitch 45 0 2 #[27, 32, 37], 27) := by decide +kernel
theorem dX9_republic_84 : decode cX9_republic 84 = .ok (.aload_n 3, 1) := by decide +kernel
theorem dX9_republic_85 : decode cX9_republic 85 = .ok (.getfield 112, 3) := by decide +kernel
theorem dX9_republic_88 : decode cX9_republic 88 = .ok (.ireturn, 1) := by decide +kernel
theorem dX9_republic_89 : decode cX9_republic 89 = .ok (.aload_n 3, 1) := by decide +kernel
theorem dX9_republic_90 : decode cX9_republic 90 = .ok (.getfield 115, 3) := by decide +kernel
theorem dX9_republic_93 : decode cX9_republic 93 = .ok (.ireturn, 1) := by decide +kernel
theorem dX9_republic_94 : decode cX9_republic 94 = .ok (.aload_n 0, 1) := by decide +kernel
theorem dX9_republic_95 : decode cX9_republic 95 = .ok (.getfield 36, 3) := by decide +kernel
theorem dX9_republic_98 : decode cX9_republic 98 = .ok (.invokevirtual 118, 3) := by decide +kernel
theorem dX9_republic_101 : decode cX9_republic 101 = .ok (.ireturn, 1) := by decide +kernel
theorem dX9_republic_102 : decode cX9_republic 102 = .ok (.sipush (-1000), 3) := by decide +kernel
theorem dX9_republic_105 : decode cX9_republic 105 = .ok (.ireturn, 1) := by decide +kernel
def tX9_republic (g : ax_G) : Nat → ax_O := ax_nd 38 (ax_nd 17 (ax_nd 6 (ax_nd 1 (ax_nd 0 (ax_lf 0 (ao_al 0 1)) (ax_lf 1 (ao_il 1 1))) (ax_nd 2 (ax_lf 2 (ao_inv g 5 9 3 yX9_begun cX9_begun 3 (some (.object "GluedHour$Republic")) 2 0 0 0 0)) (ax_nd 5 (ax_lf 5 (ao_as 3 1)) (ax_lf 6 (ao_al 3 1))))) (ax_nd 13 (ax_nd 7 (ax_lf 7 (ao_ifnonnull 14)) (ax_nd 10 (ax_lf 10 (ao_ic (-1000) 3)) (ax_lf 13 (ao_iret 0 0)))) (ax_nd 14 (ax_lf 14 (ao_il 2 1)) (ax_nd 15 (ax_lf 15 (ao_ic (10) 2)) (ax_lf 17 (ao_icmp_lt 35)))))) (ax_nd 28 (ax_nd 23 (ax_nd 20 (ax_lf 20 (ao_il 2 1)) (ax_nd 21 (ax_lf 21 (ao_ic (16) 2)) (ax_lf 23 (ao_icmp_ge 35)))) (ax_nd 26 (ax_lf 26 (ao_al 3 1)) (ax_nd 27 (ax_lf 27 (ao_il 2 1)) (ax_lf 28 (ao_ic (10) 2))))) (ax_nd 34 (ax_nd 30 (ax_lf 30 ao_isub) (ax_nd 31 (ax_lf 31 (ao_inv g 1 6 1 yX6_worthOf cX6_worthOf 2 (some .int) 2 0 0 0 0)) (ax_lf 34 (ao_iret 0 0)))) (ax_nd 35 (ax_lf 35 (ao_il 2 1)) (ax_nd 36 (ax_lf 36 (ao_ic (20) 2)) (ax_lf 38 (ao_icmp_lt 56))))))) (ax_nd 57 (ax_nd 48 (ax_nd 42 (ax_nd 41 (ax_lf 41 (ao_il 2 1)) (ax_lf 42 (ao_ic (26) 2))) (ax_nd 44 (ax_lf 44 (ao_icmp_ge 56)) (ax_nd 47 (ax_lf 47 (ao_al 3 1)) (ax_lf 48 (ao_il 2 1))))) (ax_nd 52 (ax_nd 49 (ax_lf 49 (ao_ic (20) 2)) (ax_nd 51 (ax_lf 51 ao_isub) (ax_lf 52 (ao_inv g 1 6 1 yX6_modeOf cX6_modeOf 2 (some .int) 2 0 0 0 0)))) (ax_nd 55 (ax_lf 55 (ao_iret 0 0)) (ax_nd 56 (ax_lf 56 (ao_il 2 1)) (ax_lf 57 (ao_sw [(0, 84), (1, 89), (2, 94)] 102)))))) (ax_nd 93 (ax_nd 88 (ax_nd 84 (ax_lf 84 (ao_al 3 1)) (ax_nd 85 (ax_lf 85 (ao_gi 6 5)) (ax_lf 88 (ao_iret 0 0)))) (ax_nd 89 (ax_lf 89 (ao_al 3 1)) (ax_nd 90 (ax_lf 90 (ao_gi 6 6)) (ax_lf 93 (ao_iret 0 0))))) (ax_nd 98 (ax_nd 94 (ax_lf 94 (ao_al 0 1)) (ax_nd 95 (ax_lf 95 (ao_gr 9 3)) (ax_lf 98 (ao_inv g 1 0 1 yX0_poorest cX0_poorest 3 (some .int) 1 0 0 0 0)))) (ax_nd 101 (ax_lf 101 (ao_iret 0 0)) (ax_nd 102 (ax_lf 102 (ao_ic (-1000) 3)) (ax_lf 105 (ao_iret 0 0)))))))
theorem oX9_republic (g : ax_G) : ∀ pc, ax_ok g cX9_republic 4 (some .int) RX9 "republic" 6 0 0 pc (tX9_republic g pc) := ax_nd_ok (ax_nd_ok (ax_nd_ok (ax_nd_ok (ax_nd_ok (ax_lf_ok (ak_aload_n rfl dX9_republic_0)) (ax_lf_ok (ak_iload_n rfl dX9_republic_1))) (ax_nd_ok (ax_lf_ok (ak_invV (by decide) (by decide) (by decide) rfl wd_645 wd_647 wd_13 wd_96 wd_648 ⟨by decide, by decide, by decide +kernel⟩ dX9_republic_2)) (ax_nd_ok (ax_lf_ok (ak_astore_n rfl (by decide) dX9_republic_5)) (ax_lf_ok (ak_aload_n rfl dX9_republic_6))))) (ax_nd_ok (ax_nd_ok (ax_lf_ok (ak_ifnonnull (by decide) dX9_republic_7)) (ax_nd_ok (ax_lf_ok (ak_sipush (by decide) dX9_republic_10)) (ax_lf_ok (ak_iret rfl dX9_republic_13)))) (ax_nd_ok (ax_lf_ok (ak_iload_n rfl dX9_republic_14)) (ax_nd_ok (ax_lf_ok (ak_bipush (by decide) dX9_republic_15)) (ax_lf_ok (ak_icmp_lt (by decide) dX9_republic_17)))))) (ax_nd_ok (ax_nd_ok (ax_nd_ok (ax_lf_ok (ak_iload_n rfl dX9_republic_20)) (ax_nd_ok (ax_lf_ok (ak_bipush (by decide) dX9_republic_21)) (ax_lf_ok (ak_icmp_ge (by decide) dX9_republic_23)))) (ax_nd_ok (ax_lf_ok (ak_aload_n rfl dX9_republic_26)) (ax_nd_ok (ax_lf_ok (ak_iload_n rfl dX9_republic_27)) (ax_lf_ok (ak_bipush (by decide) dX9_republic_28))))) (ax_nd_ok (ax_nd_ok (ax_lf_ok (ak_isub dX9_republic_30)) (ax_nd_ok (ax_lf_ok (ak_invV (by decide) (by decide) (by decide) rfl wd_702 wd_674 wd_675 wd_98 wd_676 ⟨by decide, by decide, by decide +kernel⟩ dX9_republic_31)) (ax_lf_ok (ak_iret rfl dX9_republic_34)))) (ax_nd_ok (ax_lf_ok (ak_iload_n rfl dX9_republic_35)) (ax_nd_ok (ax_lf_ok (ak_bipush (by decide) dX9_republic_36)) (ax_lf_ok (ak_icmp_lt (by decide) dX9_republic_38))))))) (ax_nd_ok (ax_nd_ok (ax_nd_ok (ax_nd_ok (ax_lf_ok (ak_iload_n rfl dX9_republic_41)) (ax_lf_ok (ak_bipush (by decide) dX9_republic_42))) (ax_nd_ok (ax_lf_ok (ak_icmp_ge (by decide) dX9_republic_44)) (ax_nd_ok (ax_lf_ok (ak_aload_n rfl dX9_republic_47)) (ax_lf_ok (ak_iload_n rfl dX9_republic_48))))) (ax_nd_ok (ax_nd_ok (ax_lf_ok (ak_bipush (by decide) dX9_republic_49)) (ax_nd_ok (ax_lf_ok (ak_isub dX9_republic_51)) (ax_lf_ok (ak_invV (by decide) (by decide) (by decide) rfl wd_703 wd_683 wd_684 wd_98 wd_685 ⟨by decide, by decide, by decide +kernel⟩ dX9_republic_52)))) (ax_nd_ok (ax_lf_ok (ak_iret rfl dX9_republic_55)) (ax_nd_ok (ax_lf_ok (ak_iload_n rfl dX9_republic_56)) (ax_lf_ok (ak_tsw dX9_republic_57 (by decide) (by decide) (by decide) (by decide) (by decide +kernel) (by decide))))))) (ax_nd_ok (ax_nd_ok (ax_nd_ok (ax_lf_ok (ak_aload_n rfl dX9_republic_84)) (ax_nd_ok (ax_lf_ok (ak_gi fF_X9_112 dX9_republic_85)) (ax_lf_ok (ak_iret rfl dX9_republic_88)))) (ax_nd_ok (ax_lf_ok (ak_aload_n rfl dX9_republic_89)) (ax_nd_ok (ax_lf_ok (ak_gi fF_X9_115 dX9_republic_90)) (ax_lf_ok (ak_iret rfl dX9_republic_93))))) (ax_nd_ok (ax_nd_ok (ax_lf_ok (ak_aload_n rfl dX9_republic_94)) (ax_nd_ok (ax_lf_ok (ak_gr fF_X9_36 dX9_republic_95)) (ax_lf_ok (ak_invV (by decide) (by decide) (by decide) rfl wd_690 wd_691 wd_692 wd_101 wd_693 ⟨by decide, by decide, by decide +kernel⟩ dX9_republic_98)))) (ax_nd_ok (ax_lf_ok (ak_iret rfl dX9_republic_101)) (ax_nd_ok (ax_lf_ok (ak_sipush (by decide) dX9_republic_102)) (ax_lf_ok (ak_iret rfl dX9_republic_105)))))))
abbrev mX9_republic (g : ax_G) (as : List Value) (h : ax_H) (Ret : Option Value → ax_H → Prop) : Prop := ax_M g 6 0 0 yX9_republic cX9_republic 4 (some .int) as h Ret
theorem dX9_person_0 : decode cX9_person 0 = .ok (.aload_n 0, 1) := by decide +kernel
theorem dX9_person_1 : decode cX9_person 1 = .ok (.getfield 10, 3) := by decide +kernel
theorem dX9_person_4 : decode cX9_person 4 = .ok (.iload_n 1, 1) := by decide +kernel
theorem dX9_person_5 : decode cX9_person 5 = .ok (.invokevirtual 122, 3) := by decide +kernel
theorem dX9_person_8 : decode cX9_person 8 = .ok (.astore 4, 2) := by decide +kernel
theorem dX9_person_10 : decode cX9_person 10 = .ok (.aload 4, 2) := by decide +kernel
theorem dX9_person_12 : decode cX9_person 12 = .ok (.ifnull 12, 3) := by decide +kernel
theorem dX9_person_15 : decode cX9_person 15 = .ok (.aload 4, 2) := by decide +kernel
theorem dX9_person_17 : decode cX9_person 17 = .ok (.iload_n 2, 1) := by decide +kernel
theorem dX9_person_18 : decode cX9_person 18 = .ok (.invokevirtual 125, 3) := by decide +kernel
theorem dX9_person_21 : decode cX9_person 21 = .ok (.ifCond .ne 6, 3) := by decide +kernel
theorem dX9_person_24 : decode cX9_person 24 = .ok (.bipush (-2), 2) := by decide +kernel
theorem dX9_person_26 : decode cX9_person 26 = .ok (.ireturn, 1) := by decide +kernel
theorem dX9_person_27 : decode cX9_person 27 = .ok (.iload_n 3, 1) := by decide +kernel
theorem dX9_person_28 : decode cX9_person 28 = .ok (.ifCond .ne 11, 3) := by decide +kernel
theorem dX9_person_31 : decode cX9_person 31 = .ok (.aload 4, 2) := by decide +kernel
theorem dX9_person_33 : decode cX9_person 33 = .ok (.getfield 129, 3) := by decide +kernel
theorem dX9_person_36 : decode cX9_person 36 = .ok (.iload_n 2, 1) := by decide +kernel
theorem dX9_person_37 : decode cX9_person 37 = .ok (.iaload, 1) := by decide +kernel
theorem dX9_person_38 : decode cX9_person 38 = .ok (.ireturn, 1) := by decide +kernel
theorem dX9_person_39 : decode cX9_person 39 = .ok (.iload_n 3, 1) := by decide +kernel
theorem dX9_person_40 : decode cX9_person 40 = .ok (.bipush 10, 2) := by decide +kernel
theorem dX9_person_42 : decode cX9_person 42 = .ok (.if_icmp .lt 26, 3) := by decide +kernel
theorem dX9_person_45 : decode cX9_person 45 = .ok (.iload_n 3, 1) := by decide +kernel
theorem dX9_person_46 : decode cX9_person 46 = .ok (.bipush 10, 2) := by decide +kernel
theorem dX9_person_48 : decode cX9_person 48 = .ok (.aload 4, 2) := by decide +kernel
theorem dX9_person_50 : decode cX9_person 50 = .ok (.getfield 112, 3) := by decide +kernel
theorem dX9_person_53 : decode cX9_person 53 = .ok (.iadd, 1) := by decide +kernel
theorem dX9_person_54 : decode cX9_person 54 = .ok (.if_icmp .ge 14, 3) := by decide +kernel
theorem dX9_person_57 : decode cX9_person 57 = .ok (.aload 4, 2) := by decide +kernel
theorem dX9_person_59 : decode cX9_person 59 = .ok (.iload_n 2, 1) := by decide +kernel
theorem dX9_person_60 : decode cX9_person 60 = .ok (.iload_n 3, 1) := by decide +kernel
theorem dX9_person_61 : decode cX9_person 61 = .ok (.bipush 10, 2) := by decide +kernel
theorem dX9_person_63 : decode cX9_person 63 = .ok (.isub, 1) := by decide +kernel
theorem dX9_person_64 : decode cX9_person 64 = .ok (.invokevirtual 132, 3) := by decide +kernel
theorem dX9_person_67 : decode cX9_person 67 = .ok (.ireturn, 1) := by decide +kernel
theorem dX9_person_68 : decode cX9_person 68 = .ok (.iload_n 3, 1) := by decide +kernel
theorem dX9_person_69 : decode cX9_person 69 = .ok (.bipush 30, 2) := by decide +kernel
theorem dX9_person_71 : decode cX9_person 71 = .ok (.if_icmp .lt 26, 3) := by decide +kernel
theorem dX9_person_74 : decode cX9_person 74 = .ok (.iload_n 3, 1) := by decide +kernel
theorem dX9_person_75 : decode cX9_person 75 = .ok (.bipush 30, 2) := by decide +kernel
theorem dX9_person_77 : decode cX9_person 77 = .ok (.aload 4, 2) := by decide +kernel
theorem dX9_person_79 : decode cX9_person 79 = .ok (.getfield 112, 3) := by decide +kernel
theorem dX9_person_82 : decode cX9_person 82 = .ok (.iadd, 1) := by decide +kernel
theorem dX9_person_83 : decode cX9_person 83 = .ok (.if_icmp .ge 14, 3) := by decide +kernel
theorem dX9_person_86 : decode cX9_person 86 = .ok (.aload 4, 2) := by decide +kernel
theorem dX9_person_88 : decode cX9_person 88 = .ok (.iload_n 2, 1) := by decide +kernel
theorem dX9_person_89 : decode cX9_person 89 = .ok (.iload_n 3, 1) := by decide +kernel
theorem dX9_person_90 : decode cX9_person 90 = .ok (.bipush 30, 2) := by decide +kernel
theorem dX9_person_92 : decode cX9_person 92 = .ok (.isub, 1) := by decide +kernel
theorem dX9_person_93 : decode cX9_person 93 = .ok (.invokevirtual 136, 3) := by decide +kernel
theorem dX9_person_96 : decode cX9_person 96 = .ok (.ireturn, 1) := by decide +kernel
theorem dX9_person_97 : decode cX9_person 97 = .ok (.bipush (-2), 2) := by decide +kernel
theorem dX9_person_99 : decode cX9_person 99 = .ok (.ireturn, 1) := by decide +kernel
def tX9_person (g : ax_G) : Nat → ax_O := ax_nd 50 (ax_nd 26 (ax_nd 10 (ax_nd 4 (ax_nd 0 (ax_lf 0 (ao_al 0 1)) (ax_nd 1 (ax_lf 1 (ao_gr 9 0)) (ax_lf 4 (ao_il 1 1)))) (ax_nd 5 (ax_lf 5 (ao_inv g 1 8 3 yX8_republicAt cX8_republicAt 2 (some (.object "GluedHour$Republic")) 2 0 0 0 0)) (ax_nd 8 (ax_lf 8 (ao_as 4 2)) (ax_lf 10 (ao_al 4 2))))) (ax_nd 17 (ax_nd 12 (ax_lf 12 (ao_ifnull 24)) (ax_nd 15 (ax_lf 15 (ao_al 4 2)) (ax_lf 17 (ao_il 2 1)))) (ax_nd 21 (ax_nd 18 (ax_lf 18 (ao_inv g 1 6 1 yX6_hasPerson cX6_hasPerson 2 (some .boolean) 2 0 0 0 0)) (ax_lf 21 (ao_if_ne 27))) (ax_nd 24 (ax_lf 24 (ao_ic (-2) 2)) (ax_lf 26 (ao_iret 0 0)))))) (ax_nd 38 (ax_nd 31 (ax_nd 27 (ax_lf 27 (ao_il 3 1)) (ax_nd 28 (ax_lf 28 (ao_if_ne 39)) (ax_lf 31 (ao_al 4 2)))) (ax_nd 36 (ax_nd 33 (ax_lf 33 (ao_gr 6 2)) (ax_lf 36 (ao_il 2 1))) (ax_nd 37 (ax_lf 37 ao_iald) (ax_lf 38 (ao_iret 0 0))))) (ax_nd 42 (ax_nd 39 (ax_lf 39 (ao_il 3 1)) (ax_nd 40 (ax_lf 40 (ao_ic (10) 2)) (ax_lf 42 (ao_icmp_lt 68)))) (ax_nd 46 (ax_nd 45 (ax_lf 45 (ao_il 3 1)) (ax_lf 46 (ao_ic (10) 2))) (ax_nd 48 (ax_lf 48 (ao_al 4 2)) (ax_lf 50 (ao_gi 6 5))))))) (ax_nd 74 (ax_nd 61 (ax_nd 57 (ax_nd 53 (ax_lf 53 ao_iadd) (ax_nd 54 (ax_lf 54 (ao_icmp_ge 68)) (ax_lf 57 (ao_al 4 2)))) (ax_nd 59 (ax_lf 59 (ao_il 2 1)) (ax_nd 60 (ax_lf 60 (ao_il 3 1)) (ax_lf 61 (ao_ic (10) 2))))) (ax_nd 67 (ax_nd 63 (ax_lf 63 ao_isub) (ax_nd 64 (ax_lf 64 (ao_inv g 2 6 1 yX6_deedAt cX6_deedAt 3 (some .int) 3 0 0 0 0)) (ax_lf 67 (ao_iret 0 0)))) (ax_nd 69 (ax_nd 68 (ax_lf 68 (ao_il 3 1)) (ax_lf 69 (ao_ic (30) 2))) (ax_nd 71 (ax_lf 71 (ao_icmp_lt 97)) (ax_lf 74 (ao_il 3 1)))))) (ax_nd 88 (ax_nd 79 (ax_nd 75 (ax_lf 75 (ao_ic (30) 2)) (ax_nd 77 (ax_lf 77 (ao_al 4 2)) (ax_lf 79 (ao_gi 6 5)))) (ax_nd 83 (ax_nd 82 (ax_lf 82 ao_iadd) (ax_lf 83 (ao_icmp_ge 97))) (ax_nd 86 (ax_lf 86 (ao_al 4 2)) (ax_lf 88 (ao_il 2 1))))) (ax_nd 92 (ax_nd 89 (ax_lf 89 (ao_il 3 1)) (ax_nd 90 (ax_lf 90 (ao_ic (30) 2)) (ax_lf 92 ao_isub))) (ax_nd 96 (ax_nd 93 (ax_lf 93 (ao_inv g 2 6 1 yX6_lotAt cX6_lotAt 3 (some .int) 3 0 0 0 0)) (ax_lf 96 (ao_iret 0 0))) (ax_nd 97 (ax_lf 97 (ao_ic (-2) 2)) (ax_lf 99 (ao_iret 0 0)))))))
theorem oX9_person (g : ax_G) : ∀ pc, ax_ok g cX9_person 5 (some .int) RX9 "person" 3 0 0 pc (tX9_person g pc) := ax_nd_ok (ax_nd_ok (ax_nd_ok (ax_nd_ok (ax_nd_ok (ax_lf_ok (ak_aload_n rfl dX9_person_0)) (ax_nd_ok (ax_lf_ok (ak_gr fF_X9_10 dX9_person_1)) (ax_lf_ok (ak_iload_n rfl dX9_person_4)))) (ax_nd_ok (ax_lf_ok (ak_invV (by decide) (by decide) (by decide) rfl wd_649 wd_650 wd_651 wd_97 wd_652 ⟨by decide, by decide, by decide +kernel⟩ dX9_person_5)) (ax_nd_ok (ax_lf_ok (ak_astore (by decide) dX9_person_8)) (ax_lf_ok (ak_aload dX9_person_10))))) (ax_nd_ok (ax_nd_ok (ax_lf_ok (ak_ifnull (by decide) dX9_person_12)) (ax_nd_ok (ax_lf_ok (ak_aload dX9_person_15)) (ax_lf_ok (ak_iload_n rfl dX9_person_17)))) (ax_nd_ok (ax_nd_ok (ax_lf_ok (ak_invV (by decide) (by decide) (by decide) rfl wd_708 wd_666 wd_667 wd_98 wd_668 ⟨by decide, by decide, by decide +kernel⟩ dX9_person_18)) (ax_lf_ok (ak_if_ne (by decide) dX9_person_21))) (ax_nd_ok (ax_lf_ok (ak_bipush (by decide) dX9_person_24)) (ax_lf_ok (ak_iret rfl dX9_person_26)))))) (ax_nd_ok (ax_nd_ok (ax_nd_ok (ax_lf_ok (ak_iload_n rfl dX9_person_27)) (ax_nd_ok (ax_lf_ok (ak_if_ne (by decide) dX9_person_28)) (ax_lf_ok (ak_aload dX9_person_31)))) (ax_nd_ok (ax_nd_ok (ax_lf_ok (ak_gr fF_X9_129 dX9_person_33)) (ax_lf_ok (ak_iload_n rfl dX9_person_36))) (ax_nd_ok (ax_lf_ok (ak_iald dX9_person_37)) (ax_lf_ok (ak_iret rfl dX9_person_38))))) (ax_nd_ok (ax_nd_ok (ax_lf_ok (ak_iload_n rfl dX9_person_39)) (ax_nd_ok (ax_lf_ok (ak_bipush (by decide) dX9_person_40)) (ax_lf_ok (ak_icmp_lt (by decide) dX9_person_42)))) (ax_nd_ok (ax_nd_ok (ax_lf_ok (ak_iload_n rfl dX9_person_45)) (ax_lf_ok (ak_bipush (by decide) dX9_person_46))) (ax_nd_ok (ax_lf_ok (ak_aload dX9_person_48)) (ax_lf_ok (ak_gi fF_X9_112 dX9_person_50))))))) (ax_nd_ok (ax_nd_ok (ax_nd_ok (ax_nd_ok (ax_lf_ok (ak_iadd dX9_person_53)) (ax_nd_ok (ax_lf_ok (ak_icmp_ge (by decide) dX9_person_54)) (ax_lf_ok (ak_aload dX9_person_57)))) (ax_nd_ok (ax_lf_ok (ak_iload_n rfl dX9_person_59)) (ax_nd_ok (ax_lf_ok (ak_iload_n rfl dX9_person_60)) (ax_lf_ok (ak_bipush (by decide) dX9_person_61))))) (ax_nd_ok (ax_nd_ok (ax_lf_ok (ak_isub dX9_person_63)) (ax_nd_ok (ax_lf_ok (ak_invV (by decide) (by decide) (by decide) rfl wd_709 wd_662 wd_663 wd_98 wd_664 ⟨by decide, by decide, by decide +kernel⟩ dX9_person_64)) (ax_lf_ok (ak_iret rfl dX9_person_67)))) (ax_nd_ok (ax_nd_ok (ax_lf_ok (ak_iload_n rfl dX9_person_68)) (ax_lf_ok (ak_bipush (by decide) dX9_person_69))) (ax_nd_ok (ax_lf_ok (ak_icmp_lt (by decide) dX9_person_71)) (ax_lf_ok (ak_iload_n rfl dX9_person_74)))))) (ax_nd_ok (ax_nd_ok (ax_nd_ok (ax_lf_ok (ak_bipush (by decide) dX9_person_75)) (ax_nd_ok (ax_lf_ok (ak_aload dX9_person_77)) (ax_lf_ok (ak_gi fF_X9_112 dX9_person_79)))) (ax_nd_ok (ax_nd_ok (ax_lf_ok (ak_iadd dX9_person_82)) (ax_lf_ok (ak_icmp_ge (by decide) dX9_person_83))) (ax_nd_ok (ax_lf_ok (ak_aload dX9_person_86)) (ax_lf_ok (ak_iload_n rfl dX9_person_88))))) (ax_nd_ok (ax_nd_ok (ax_lf_ok (ak_iload_n rfl dX9_person_89)) (ax_nd_ok (ax_lf_ok (ak_bipush (by decide) dX9_person_90)) (ax_lf_ok (ak_isub dX9_person_92)))) (ax_nd_ok (ax_nd_ok (ax_lf_ok (ak_invV (by decide) (by decide) (by decide) rfl wd_710 wd_699 wd_700 wd_98 wd_701 ⟨by decide, by decide, by decide +kernel⟩ dX9_person_93)) (ax_lf_ok (ak_iret rfl dX9_person_96))) (ax_nd_ok (ax_lf_ok (ak_bipush (by decide) dX9_person_97)) (ax_lf_ok (ak_iret rfl dX9_person_99)))))))
abbrev mX9_person (g : ax_G) (as : List Value) (h : ax_H) (Ret : Option Value → ax_H → Prop) : Prop := ax_M g 3 0 0 yX9_person cX9_person 5 (some .int) as h Ret
theorem dX9_value_0 : decode cX9_value 0 = .ok (.aload_n 0, 1) := by decide +kernel
theorem dX9_value_1 : decode cX9_value 1 = .ok (.iload_n 1, 1) := by decide +kernel
theorem dX9_value_2 : decode cX9_value 2 = .ok (.invokevirtual 99, 3) := by decide +kernel
theorem dX9_value_5 : decode cX9_value 5 = .ok (.astore 4, 2) := by decide +kernel
theorem dX9_value_7 : decode cX9_value 7 = .ok (.aload 4, 2) := by decide +kernel
theorem dX9_value_9 : decode cX9_value 9 = .ok (.ifnull 21, 3) := by decide +kernel
theorem dX9_value_12 : decode cX9_value 12 = .ok (.aload 4, 2) := by decide +kernel
theorem dX9_value_14 : decode cX9_value 14 = .ok (.iload_n 2, 1) := by decide +kernel
theorem dX9_value_15 : decode cX9_value 15 = .ok (.invokevirtual 139, 3) := by decide +kernel
theorem dX9_value_18 : decode cX9_value 18 = .ok (.ifCond .eq 12, 3) := by decide +kernel
theorem dX9_value_21 : decode cX9_value 21 = .ok (.aload 4, 2) := by decide +kernel
theorem dX9_value_23 : decode cX9_value 23 = .ok (.iload_n 3, 1) := by decide +kernel
theorem dX9_value_24 : decode cX9_value 24 = .ok (.invokevirtual 142, 3) := by decide +kernel
theorem dX9_value_27 : decode cX9_value 27 = .ok (.ifCond .ne 6, 3) := by decide +kernel
theorem dX9_value_30 : decode cX9_value 30 = .ok (.ldc 145, 2) := by decide +kernel
theorem dX9_value_32 : decode cX9_value 32 = .ok (.ireturn, 1) := by decide +kernel
theorem dX9_value_33 : decode cX9_value 33 = .ok (.aload_n 0, 1) := by decide +kernel
theorem dX9_value_34 : decode cX9_value 34 = .ok (.getfield 36, 3) := by decide +kernel
theorem dX9_value_37 : decode cX9_value 37 = .ok (.iload_n 2, 1) := by decide +kernel
theorem dX9_value_38 : decode cX9_value 38 = .ok (.iload_n 3, 1) := by decide +kernel
theorem dX9_value_39 : decode cX9_value 39 = .ok (.invokevirtual 146, 3) := by decide +kernel
theorem dX9_value_42 : decode cX9_value 42 = .ok (.ireturn, 1) := by decide +kernel
def tX9_value (g : ax_G) : Nat → ax_O := ax_nd 21 (ax_nd 7 (ax_nd 1 (ax_nd 0 (ax_lf 0 (ao_al 0 1)) (ax_lf 1 (ao_il 1 1))) (ax_nd 2 (ax_lf 2 (ao_inv g 5 9 3 yX9_begun cX9_begun 3 (some (.object "GluedHour$Republic")) 2 0 0 0 0)) (ax_nd 5 (ax_lf 5 (ao_as 4 2)) (ax_lf 7 (ao_al 4 2))))) (ax_nd 14 (ax_nd 9 (ax_lf 9 (ao_ifnull 30)) (ax_nd 12 (ax_lf 12 (ao_al 4 2)) (ax_lf 14 (ao_il 2 1)))) (ax_nd 15 (ax_lf 15 (ao_inv g 2 6 1 yX6_hasPersonOrAll cX6_hasPersonOrAll 2 (some .boolean) 2 0 0 0 0)) (ax_nd 18 (ax_lf 18 (ao_if_eq 30)) (ax_lf 21 (ao_al 4 2)))))) (ax_nd 32 (ax_nd 24 (ax_nd 23 (ax_lf 23 (ao_il 3 1)) (ax_lf 24 (ao_inv g 1 6 1 yX6_hasHour cX6_hasHour 2 (some .boolean) 2 0 0 0 0))) (ax_nd 27 (ax_lf 27 (ao_if_ne 33)) (ax_nd 30 (ax_lf 30 (ao_ic (-1000000) 2)) (ax_lf 32 (ao_iret 0 0))))) (ax_nd 37 (ax_nd 33 (ax_lf 33 (ao_al 0 1)) (ax_nd 34 (ax_lf 34 (ao_gr 9 3)) (ax_lf 37 (ao_il 2 1)))) (ax_nd 38 (ax_lf 38 (ao_il 3 1)) (ax_nd 39 (ax_lf 39 (ao_inv g 1 0 1 yX0_brings cX0_brings 5 (some .int) 3 0 0 0 0)) (ax_lf 42 (ao_iret 0 0))))))
theorem oX9_value (g : ax_G) : ∀ pc, ax_ok g cX9_value 5 (some .int) RX9 "value" 6 0 0 pc (tX9_value g pc) := ax_nd_ok (ax_nd_ok (ax_nd_ok (ax_nd_ok (ax_lf_ok (ak_aload_n rfl dX9_value_0)) (ax_lf_ok (ak_iload_n rfl dX9_value_1))) (ax_nd_ok (ax_lf_ok (ak_invV (by decide) (by decide) (by decide) rfl wd_645 wd_647 wd_13 wd_96 wd_648 ⟨by decide, by decide, by decide +kernel⟩ dX9_value_2)) (ax_nd_ok (ax_lf_ok (ak_astore (by decide) dX9_value_5)) (ax_lf_ok (ak_aload dX9_value_7))))) (ax_nd_ok (ax_nd_ok (ax_lf_ok (ak_ifnull (by decide) dX9_value_9)) (ax_nd_ok (ax_lf_ok (ak_aload dX9_value_12)) (ax_lf_ok (ak_iload_n rfl dX9_value_14)))) (ax_nd_ok (ax_lf_ok (ak_invV (by decide) (by decide) (by decide) rfl wd_715 wd_716 wd_717 wd_98 wd_718 ⟨by decide, by decide, by decide +kernel⟩ dX9_value_15)) (ax_nd_ok (ax_lf_ok (ak_if_eq (by decide) dX9_value_18)) (ax_lf_ok (ak_aload dX9_value_21)))))) (ax_nd_ok (ax_nd_ok (ax_nd_ok (ax_lf_ok (ak_iload_n rfl dX9_value_23)) (ax_lf_ok (ak_invV (by decide) (by decide) (by decide) rfl wd_719 wd_670 wd_671 wd_98 wd_672 ⟨by decide, by decide, by decide +kernel⟩ dX9_value_24))) (ax_nd_ok (ax_lf_ok (ak_if_ne (by decide) dX9_value_27)) (ax_nd_ok (ax_lf_ok (ak_ldc wd_720 dX9_value_30)) (ax_lf_ok (ak_iret rfl dX9_value_32))))) (ax_nd_ok (ax_nd_ok (ax_lf_ok (ak_aload_n rfl dX9_value_33)) (ax_nd_ok (ax_lf_ok (ak_gr fF_X9_36 dX9_value_34)) (ax_lf_ok (ak_iload_n rfl dX9_value_37)))) (ax_nd_ok (ax_lf_ok (ak_iload_n rfl dX9_value_38)) (ax_nd_ok (ax_lf_ok (ak_invV (by decide) (by decide) (by decide) rfl wd_721 wd_722 wd_723 wd_101 wd_724 ⟨by decide, by decide, by decide +kernel⟩ dX9_value_39)) (ax_lf_ok (ak_iret rfl dX9_value_42))))))
abbrev mX9_value (g : ax_G) (as : List Value) (h : ax_H) (Ret : Option Value → ax_H → Prop) : Prop := ax_M g 6 0 0 yX9_value cX9_value 5 (some .int) as h Ret
theorem dX9_odds_0 : decode cX9_odds 0 = .ok (.aload_n 0, 1) := by decide +kernel
theorem dX9_odds_1 : decode cX9_odds 1 = .ok (.iload_n 1, 1) := by decide +kernel
theorem dX9_odds_2 : decode cX9_odds 2 = .ok (.invokevirtual 99, 3) := by decide +kernel
theorem dX9_odds_5 : decode cX9_odds 5 = .ok (.astore 4, 2) := by decide +kernel
theorem dX9_odds_7 : decode cX9_odds 7 = .ok (.aload 4, 2) := by decide +kernel
theorem dX9_odds_9 : decode cX9_odds 9 = .ok (.ifnull 12, 3) := by decide +kernel
theorem dX9_odds_12 : decode cX9_odds 12 = .ok (.aload 4, 2) := by decide +kernel
theorem dX9_odds_14 : decode cX9_odds 14 = .ok (.iload_n 2, 1) := by decide +kernel
theorem dX9_odds_15 : decode cX9_odds 15 = .ok (.invokevirtual 142, 3) := by decide +kernel
theorem dX9_odds_18 : decode cX9_odds 18 = .ok (.ifCond .ne 5, 3) := by decide +kernel
theorem dX9_odds_21 : decode cX9_odds 21 = .ok (.iconst (-1), 1) := by decide +kernel
theorem dX9_odds_22 : decode cX9_odds 22 = .ok (.ireturn, 1) := by decide +kernel
theorem dX9_odds_23 : decode cX9_odds 23 = .ok (.aload_n 0, 1) := by decide +kernel
theorem dX9_odds_24 : decode cX9_odds 24 = .ok (.getfield 43, 3) := by decide +kernel
theorem dX9_odds_27 : decode cX9_odds 27 = .ok (.getfield 149, 3) := by decide +kernel
theorem dX9_odds_30 : decode cX9_odds 30 = .ok (.iload_n 2, 1) := by decide +kernel
theorem dX9_odds_31 : decode cX9_odds 31 = .ok (.iaload, 1) := by decide +kernel
theorem dX9_odds_32 : decode cX9_odds 32 = .ok (.i2l, 1) := by decide +kernel
theorem dX9_odds_33 : decode cX9_odds 33 = .ok (.aload_n 0, 1) := by decide +kernel
theorem dX9_odds_34 : decode cX9_odds 34 = .ok (.getfield 43, 3) := by decide +kernel
theorem dX9_odds_37 : decode cX9_odds 37 = .ok (.getfield 152, 3) := by decide +kernel
theorem dX9_odds_40 : decode cX9_odds 40 = .ok (.i2l, 1) := by decide +kernel
theorem dX9_odds_41 : decode cX9_odds 41 = .ok (.iload_n 3, 1) := by decide +kernel
theorem dX9_odds_42 : decode cX9_odds 42 = .ok (.invokestatic 155, 3) := by decide +kernel
theorem dX9_odds_45 : decode cX9_odds 45 = .ok (.l2i, 1) := by decide +kernel
theorem dX9_odds_46 : decode cX9_odds 46 = .ok (.ireturn, 1) := by decide +kernel
def tX9_odds (g : ax_G) : Nat → ax_O := ax_nd 23 (ax_nd 9 (ax_nd 2 (ax_nd 0 (ax_lf 0 (ao_al 0 1)) (ax_nd 1 (ax_lf 1 (ao_il 1 1)) (ax_lf 2 (ao_inv g 5 9 3 yX9_begun cX9_begun 3 (some (.object "GluedHour$Republic")) 2 0 0 0 0)))) (ax_nd 5 (ax_lf 5 (ao_as 4 2)) (ax_nd 7 (ax_lf 7 (ao_al 4 2)) (ax_lf 9 (ao_ifnull 21))))) (ax_nd 15 (ax_nd 12 (ax_lf 12 (ao_al 4 2)) (ax_nd 14 (ax_lf 14 (ao_il 2 1)) (ax_lf 15 (ao_inv g 1 6 1 yX6_hasHour cX6_hasHour 2 (some .boolean) 2 0 0 0 0)))) (ax_nd 21 (ax_nd 18 (ax_lf 18 (ao_if_ne 23)) (ax_lf 21 (ao_ic (-1) 1))) (ax_nd 22 (ax_lf 22 (ao_iret 0 0)) (ax_lf 23 (ao_al 0 1)))))) (ax_nd 33 (ax_nd 30 (ax_nd 24 (ax_lf 24 (ao_gr 9 4)) (ax_nd 27 (ax_lf 27 (ao_gr 3 0)) (ax_lf 30 (ao_il 2 1)))) (ax_nd 31 (ax_lf 31 ao_iald) (ax_nd 32 (ax_lf 32 ao_i2l) (ax_lf 33 (ao_al 0 1))))) (ax_nd 40 (ax_nd 34 (ax_lf 34 (ao_gr 9 4)) (ax_nd 37 (ax_lf 37 (ao_gi 3 2)) (ax_lf 40 ao_i2l))) (ax_nd 42 (ax_nd 41 (ax_lf 41 (ao_il 3 1)) (ax_lf 42 (ao_inv g 2 99 2 yX1_side cX1_side 7 (some .long) 3 0 0 0 0))) (ax_nd 45 (ax_lf 45 ao_l2i) (ax_lf 46 (ao_iret 0 0))))))
theorem oX9_odds (g : ax_G) : ∀ pc, ax_ok g cX9_odds 5 (some .int) RX9 "odds" 6 0 0 pc (tX9_odds g pc) := ax_nd_ok (ax_nd_ok (ax_nd_ok (ax_nd_ok (ax_lf_ok (ak_aload_n rfl dX9_odds_0)) (ax_nd_ok (ax_lf_ok (ak_iload_n rfl dX9_odds_1)) (ax_lf_ok (ak_invV (by decide) (by decide) (by decide) rfl wd_645 wd_647 wd_13 wd_96 wd_648 ⟨by decide, by decide, by decide +kernel⟩ dX9_odds_2)))) (ax_nd_ok (ax_lf_ok (ak_astore (by decide) dX9_odds_5)) (ax_nd_ok (ax_lf_ok (ak_aload dX9_odds_7)) (ax_lf_ok (ak_ifnull (by decide) dX9_odds_9))))) (ax_nd_ok (ax_nd_ok (ax_lf_ok (ak_aload dX9_odds_12)) (ax_nd_ok (ax_lf_ok (ak_iload_n rfl dX9_odds_14)) (ax_lf_ok (ak_invV (by decide) (by decide) (by decide) rfl wd_719 wd_670 wd_671 wd_98 wd_672 ⟨by decide, by decide, by decide +kernel⟩ dX9_odds_15)))) (ax_nd_ok (ax_nd_ok (ax_lf_ok (ak_if_ne (by decide) dX9_odds_18)) (ax_lf_ok (ak_iconst (by decide) dX9_odds_21))) (ax_nd_ok (ax_lf_ok (ak_iret rfl dX9_odds_22)) (ax_lf_ok (ak_aload_n rfl dX9_odds_23)))))) (ax_nd_ok (ax_nd_ok (ax_nd_ok (ax_lf_ok (ak_gr fF_X9_43 dX9_odds_24)) (ax_nd_ok (ax_lf_ok (ak_gr fF_X9_149 dX9_odds_27)) (ax_lf_ok (ak_iload_n rfl dX9_odds_30)))) (ax_nd_ok (ax_lf_ok (ak_iald dX9_odds_31)) (ax_nd_ok (ax_lf_ok (ak_i2l dX9_odds_32)) (ax_lf_ok (ak_aload_n rfl dX9_odds_33))))) (ax_nd_ok (ax_nd_ok (ax_lf_ok (ak_gr fF_X9_43 dX9_odds_34)) (ax_nd_ok (ax_lf_ok (ak_gi fF_X9_152 dX9_odds_37)) (ax_lf_ok (ak_i2l dX9_odds_40)))) (ax_nd_ok (ax_nd_ok (ax_lf_ok (ak_iload_n rfl dX9_odds_41)) (ax_lf_ok (ak_invS (by decide) (by decide) wd_729 wd_730 wd_105 wd_731 ⟨by decide, by decide, by decide +kernel⟩ dX9_odds_42))) (ax_nd_ok (ax_lf_ok (ak_l2i dX9_odds_45)) (ax_lf_ok (ak_iret rfl dX9_odds_46))))))
abbrev mX9_odds (g : ax_G) (as : List Value) (h : ax_H) (Ret : Option Value → ax_H → Prop) : Prop := ax_M g 6 0 0 yX9_odds cX9_odds 5 (some .int) as h Ret
theorem dX9_day_0 : decode cX9_day 0 = .ok (.aload_n 0, 1) := by decide +kernel
theorem dX9_day_1 : decode cX9_day 1 = .ok (.getfield 10, 3) := by decide +kernel
theorem dX9_day_4 : decode cX9_day 4 = .ok (.iconst 1, 1) := by decide +kernel
theorem dX9_day_5 : decode cX9_day 5 = .ok (.iload_n 1, 1) := by decide +kernel
theorem dX9_day_6 : decode cX9_day 6 = .ok (.invokevirtual 159, 3) := by decide +kernel
theorem dX9_day_9 : decode cX9_day 9 = .ok (.astore_n 3, 1) := by decide +kernel
theorem dX9_day_10 : decode cX9_day 10 = .ok (.aload_n 3, 1) := by decide +kernel
theorem dX9_day_11 : decode cX9_day 11 = .ok (.ifnonnull 6, 3) := by decide +kernel
theorem dX9_day_14 : decode cX9_day 14 = .ok (.bipush (-2), 2) := by decide +kernel
theorem dX9_day_16 : decode cX9_day 16 = .ok (.ireturn, 1) := by decide +kernel
theorem dX9_day_17 : decode cX9_day 17 = .ok (.iload_n 2, 1) := by decide +kernel
theorem dX9_day_18 : decode cX9_day 18 = .ok (.iconst (-1), 1) := by decide +kernel
theorem dX9_day_19 : decode cX9_day 19 = .ok (.if_icmp .ne 8, 3) := by decide +kernel
theorem dX9_day_22 : decode cX9_day 22 = .ok (.aload_n 3, 1) := by decide +kernel
theorem dX9_day_23 : decode cX9_day 23 = .ok (.getfield 163, 3) := by decide +kernel
theorem dX9_day_26 : decode cX9_day 26 = .ok (.ireturn, 1) := by decide +kernel
theorem dX9_day_27 : decode cX9_day 27 = .ok (.aload_n 3, 1) := by decide +kernel
theorem dX9_day_28 : decode cX9_day 28 = .ok (.iload_n 2, 1) := by decide +kernel
theorem dX9_day_29 : decode cX9_day 29 = .ok (.invokevirtual 168, 3) := by decide +kernel
theorem dX9_day_32 : decode cX9_day 32 = .ok (.ifCond .eq 12, 3) := by decide +kernel
theorem dX9_day_35 : decode cX9_day 35 = .ok (.aload_n 3, 1) := by decide +kernel
theorem dX9_day_36 : decode cX9_day 36 = .ok (.iload_n 2, 1) := by decide +kernel
theorem dX9_day_37 : decode cX9_day 37 = .ok (.iconst 0, 1) := by decide +kernel
theorem dX9_day_38 : decode cX9_day 38 = .ok (.invokevirtual 171, 3) := by decide +kernel
theorem dX9_day_41 : decode cX9_day 41 = .ok (.goto 5, 3) := by decide +kernel
theorem dX9_day_44 : decode cX9_day 44 = .ok (.bipush (-2), 2) := by decide +kernel
theorem dX9_day_46 : decode cX9_day 46 = .ok (.ireturn, 1) := by decide +kernel
def tX9_day (g : ax_G) : Nat → ax_O := ax_nd 19 (ax_nd 9 (ax_nd 4 (ax_nd 0 (ax_lf 0 (ao_al 0 1)) (ax_nd 1 (ax_lf 1 (ao_gr 9 0)) (ax_lf 4 (ao_ic (1) 1)))) (ax_nd 5 (ax_lf 5 (ao_il 1 1)) (ax_nd 6 (ax_lf 6 (ao_inv g 1 8 3 yX8_linesAt cX8_linesAt 3 (some (.object "GluedHour$Lines")) 3 0 0 0 0)) (ax_lf 9 (ao_as 3 1))))) (ax_nd 14 (ax_nd 10 (ax_lf 10 (ao_al 3 1)) (ax_nd 11 (ax_lf 11 (ao_ifnonnull 17)) (ax_lf 14 (ao_ic (-2) 2)))) (ax_nd 17 (ax_nd 16 (ax_lf 16 (ao_iret 0 0)) (ax_lf 17 (ao_il 2 1))) (ax_nd 18 (ax_lf 18 (ao_ic (-1) 1)) (ax_lf 19 (ao_icmp_ne 27)))))) (ax_nd 32 (ax_nd 26 (ax_nd 22 (ax_lf 22 (ao_al 3 1)) (ax_nd 23 (ax_lf 23 (ao_gi 2 3)) (ax_lf 26 (ao_iret 0 0)))) (ax_nd 28 (ax_nd 27 (ax_lf 27 (ao_al 3 1)) (ax_lf 28 (ao_il 2 1))) (ax_nd 29 (ax_lf 29 (ao_inv g 1 2 1 yX2_has cX2_has 2 (some .boolean) 2 0 0 0 0)) (ax_lf 32 (ao_if_eq 44))))) (ax_nd 37 (ax_nd 35 (ax_lf 35 (ao_al 3 1)) (ax_nd 36 (ax_lf 36 (ao_il 2 1)) (ax_lf 37 (ao_ic (0) 1)))) (ax_nd 41 (ax_nd 38 (ax_lf 38 (ao_inv g 2 2 1 yX2_cell cX2_cell 3 (some .int) 3 0 0 0 0)) (ax_lf 41 (ao_goto 46))) (ax_nd 44 (ax_lf 44 (ao_ic (-2) 2)) (ax_lf 46 (ao_iret 0 0))))))
theorem oX9_day (g : ax_G) : ∀ pc, ax_ok g cX9_day 4 (some .int) RX9 "day" 3 0 0 pc (tX9_day g pc) := ax_nd_ok (ax_nd_ok (ax_nd_ok (ax_nd_ok (ax_lf_ok (ak_aload_n rfl dX9_day_0)) (ax_nd_ok (ax_lf_ok (ak_gr fF_X9_10 dX9_day_1)) (ax_lf_ok (ak_iconst (by decide) dX9_day_4)))) (ax_nd_ok (ax_lf_ok (ak_iload_n rfl dX9_day_5)) (ax_nd_ok (ax_lf_ok (ak_invV (by decide) (by decide) (by decide) rfl wd_745 wd_746 wd_747 wd_97 wd_748 ⟨by decide, by decide, by decide +kernel⟩ dX9_day_6)) (ax_lf_ok (ak_astore_n rfl (by decide) dX9_day_9))))) (ax_nd_ok (ax_nd_ok (ax_lf_ok (ak_aload_n rfl dX9_day_10)) (ax_nd_ok (ax_lf_ok (ak_ifnonnull (by decide) dX9_day_11)) (ax_lf_ok (ak_bipush (by decide) dX9_day_14)))) (ax_nd_ok (ax_nd_ok (ax_lf_ok (ak_iret rfl dX9_day_16)) (ax_lf_ok (ak_iload_n rfl dX9_day_17))) (ax_nd_ok (ax_lf_ok (ak_iconst (by decide) dX9_day_18)) (ax_lf_ok (ak_icmp_ne (by decide) dX9_day_19)))))) (ax_nd_ok (ax_nd_ok (ax_nd_ok (ax_lf_ok (ak_aload_n rfl dX9_day_22)) (ax_nd_ok (ax_lf_ok (ak_gi fF_X9_163 dX9_day_23)) (ax_lf_ok (ak_iret rfl dX9_day_26)))) (ax_nd_ok (ax_nd_ok (ax_lf_ok (ak_aload_n rfl dX9_day_27)) (ax_lf_ok (ak_iload_n rfl dX9_day_28))) (ax_nd_ok (ax_lf_ok (ak_invV (by decide) (by decide) (by decide) rfl wd_749 wd_750 wd_751 wd_99 wd_752 ⟨by decide, by decide, by decide +kernel⟩ dX9_day_29)) (ax_lf_ok (ak_if_eq (by decide) dX9_day_32))))) (ax_nd_ok (ax_nd_ok (ax_lf_ok (ak_aload_n rfl dX9_day_35)) (ax_nd_ok (ax_lf_ok (ak_iload_n rfl dX9_day_36)) (ax_lf_ok (ak_iconst (by decide) dX9_day_37)))) (ax_nd_ok (ax_nd_ok (ax_lf_ok (ak_invV (by decide) (by decide) (by decide) rfl wd_753 wd_754 wd_755 wd_99 wd_756 ⟨by decide, by decide, by decide +kernel⟩ dX9_day_38)) (ax_lf_ok (ak_goto (by decide) dX9_day_41))) (ax_nd_ok (ax_lf_ok (ak_bipush (by decide) dX9_day_44)) (ax_lf_ok (ak_iret rfl dX9_day_46))))))
abbrev mX9_day (g : ax_G) (as : List Value) (h : ax_H) (Ret : Option Value → ax_H → Prop) : Prop := ax_M g 3 0 0 yX9_day cX9_day 4 (some .int) as h Ret
theorem dX9_purse_0 : decode cX9_purse 0 = .ok (.aload_n 0, 1) := by decide +kernel
theorem dX9_purse_1 : decode cX9_purse 1 = .ok (.iload_n 1, 1) := by decide +kernel
theorem dX9_purse_2 : decode cX9_purse 2 = .ok (.invokevirtual 99, 3) := by decide +kernel
theorem dX9_purse_5 : decode cX9_purse 5 = .ok (.astore 5, 2) := by decide +kernel
theorem dX9_purse_7 : decode cX9_purse 7 = .ok (.aload_n 0, 1) := by decide +kernel
theorem dX9_purse_8 : decode cX9_purse 8 = .ok (.getfield 10, 3) := by decide +kernel
theorem dX9_purse_11 : decode cX9_purse 11 = .ok (.iconst 1, 1) := by decide +kernel
theorem dX9_purse_12 : decode cX9_purse 12 = .ok (.iload_n 2, 1) := by decide +kernel
theorem dX9_purse_13 : decode cX9_purse 13 = .ok (.invokevirtual 159, 3) := by decide +kernel
theorem dX9_purse_16 : decode cX9_purse 16 = .ok (.astore 6, 2) := by decide +kernel
theorem dX9_purse_18 : decode cX9_purse 18 = .ok (.aload 5, 2) := by decide +kernel
theorem dX9_purse_20 : decode cX9_purse 20 = .ok (.ifnull 24, 3) := by decide +kernel
theorem dX9_purse_23 : decode cX9_purse 23 = .ok (.aload 5, 2) := by decide +kernel
theorem dX9_purse_25 : decode cX9_purse 25 = .ok (.iload 4, 2) := by decide +kernel
theorem dX9_purse_27 : decode cX9_purse 27 = .ok (.invokevirtual 139, 3) := by decide +kernel
theorem dX9_purse_30 : decode cX9_purse 30 = .ok (.ifCond .eq 14, 3) := by decide +kernel
theorem dX9_purse_33 : decode cX9_purse 33 = .ok (.aload 5, 2) := by decide +kernel
theorem dX9_purse_35 : decode cX9_purse 35 = .ok (.aload 6, 2) := by decide +kernel
theorem dX9_purse_37 : decode cX9_purse 37 = .ok (.iload_n 3, 1) := by decide +kernel
theorem dX9_purse_38 : decode cX9_purse 38 = .ok (.invokestatic 174, 3) := by decide +kernel
theorem dX9_purse_41 : decode cX9_purse 41 = .ok (.ifCond .eq 6, 3) := by decide +kernel
theorem dX9_purse_44 : decode cX9_purse 44 = .ok (.ldc 145, 2) := by decide +kernel
theorem dX9_purse_46 : decode cX9_purse 46 = .ok (.ireturn, 1) := by decide +kernel
theorem dX9_purse_47 : decode cX9_purse 47 = .ok (.iconst 0, 1) := by decide +kernel
theorem dX9_purse_48 : decode cX9_purse 48 = .ok (.istore 7, 2) := by decide +kernel
theorem dX9_purse_50 : decode cX9_purse 50 = .ok (.iload 7, 2) := by decide +kernel
theorem dX9_purse_52 : decode cX9_purse 52 = .ok (.iload_n 3, 1) := by decide +kernel
theorem dX9_purse_53 : decode cX9_purse 53 = .ok (.if_icmp .ge 24, 3) := by decide +kernel
theorem dX9_purse_56 : decode cX9_purse 56 = .ok (.aload_n 0, 1) := by decide +kernel
theorem dX9_purse_57 : decode cX9_purse 57 = .ok (.getfield 36, 3) := by decide +kernel
theorem dX9_purse_60 : decode cX9_purse 60 = .ok (.aload 6, 2) := by decide +kernel
theorem dX9_purse_62 : decode cX9_purse 62 = .ok (.iload 7, 2) := by decide +kernel
theorem dX9_purse_64 : decode cX9_purse 64 = .ok (.iconst 0, 1) := by decide +kernel
theorem dX9_purse_65 : decode cX9_purse 65 = .ok (.invokevirtual 171, 3) := by decide +kernel
theorem dX9_purse_68 : decode cX9_purse 68 = .ok (.invokevirtual 178, 3) := by decide +kernel
theorem dX9_purse_71 : decode cX9_purse 71 = .ok (.iinc 7 1, 3) := by decide +kernel
theorem dX9_purse_74 : decode cX9_purse 74 = .ok (.goto (-24), 3) := by decide +kernel
theorem dX9_purse_77 : decode cX9_purse 77 = .ok (.iload 4, 2) := by decide +kernel
theorem dX9_purse_79 : decode cX9_purse 79 = .ok (.iconst (-1), 1) := by decide +kernel
theorem dX9_purse_80 : decode cX9_purse 80 = .ok (.if_icmp .ne 13, 3) := by decide +kernel
theorem dX9_purse_83 : decode cX9_purse 83 = .ok (.aload_n 0, 1) := by decide +kernel
theorem dX9_purse_84 : decode cX9_purse 84 = .ok (.getfield 36, 3) := by decide +kernel
theorem dX9_purse_87 : decode cX9_purse 87 = .ok (.invokevirtual 118, 3) := by decide +kernel
theorem dX9_purse_90 : decode cX9_purse 90 = .ok (.goto 13, 3) := by decide +kernel
theorem dX9_purse_93 : decode cX9_purse 93 = .ok (.aload_n 0, 1) := by decide +kernel
theorem dX9_purse_94 : decode cX9_purse 94 = .ok (.getfield 36, 3) := by decide +kernel
theorem dX9_purse_97 : decode cX9_purse 97 = .ok (.getfield 181, 3) := by decide +kernel
theorem dX9_purse_100 : decode cX9_purse 100 = .ok (.iload 4, 2) := by decide +kernel
theorem dX9_purse_102 : decode cX9_purse 102 = .ok (.iaload, 1) := by decide +kernel
theorem dX9_purse_103 : decode cX9_purse 103 = .ok (.ireturn, 1) := by decide +kernel
def tX9_purse (g : ax_G) : Nat → ax_O := ax_nd 48 (ax_nd 20 (ax_nd 8 (ax_nd 2 (ax_nd 0 (ax_lf 0 (ao_al 0 1)) (ax_nd 1 (ax_lf 1 (ao_il 1 1)) (ax_lf 2 (ao_inv g 5 9 3 yX9_begun cX9_begun 3 (some (.object "GluedHour$Republic")) 2 0 0 0 0)))) (ax_nd 5 (ax_lf 5 (ao_as 5 2)) (ax_nd 7 (ax_lf 7 (ao_al 0 1)) (ax_lf 8 (ao_gr 9 0))))) (ax_nd 13 (ax_nd 11 (ax_lf 11 (ao_ic (1) 1)) (ax_nd 12 (ax_lf 12 (ao_il 2 1)) (ax_lf 13 (ao_inv g 1 8 3 yX8_linesAt cX8_linesAt 3 (some (.object "GluedHour$Lines")) 3 0 0 0 0)))) (ax_nd 16 (ax_lf 16 (ao_as 6 2)) (ax_nd 18 (ax_lf 18 (ao_al 5 2)) (ax_lf 20 (ao_ifnull 44)))))) (ax_nd 35 (ax_nd 27 (ax_nd 23 (ax_lf 23 (ao_al 5 2)) (ax_nd 25 (ax_lf 25 (ao_il 4 2)) (ax_lf 27 (ao_inv g 2 6 1 yX6_hasPersonOrAll cX6_hasPersonOrAll 2 (some .boolean) 2 0 0 0 0)))) (ax_nd 30 (ax_lf 30 (ao_if_eq 44)) (ax_nd 33 (ax_lf 33 (ao_al 5 2)) (ax_lf 35 (ao_al 6 2))))) (ax_nd 41 (ax_nd 37 (ax_lf 37 (ao_il 3 1)) (ax_nd 38 (ax_lf 38 (ao_inv g 3 99 1 yX9_stops cX9_stops 4 (some .boolean) 3 0 0 0 0)) (ax_lf 41 (ao_if_eq 47)))) (ax_nd 46 (ax_nd 44 (ax_lf 44 (ao_ic (-1000000) 2)) (ax_lf 46 (ao_iret 0 0))) (ax_nd 47 (ax_lf 47 (ao_ic (0) 1)) (ax_lf 48 (ao_is 7 2))))))) (ax_nd 74 (ax_nd 60 (ax_nd 53 (ax_nd 50 (ax_lf 50 (ao_il 7 2)) (ax_nd 52 (ax_lf 52 (ao_il 3 1)) (ax_lf 53 (ao_icmp_ge 77)))) (ax_nd 56 (ax_lf 56 (ao_al 0 1)) (ax_nd 57 (ax_lf 57 (ao_gr 9 3)) (ax_lf 60 (ao_al 6 2))))) (ax_nd 65 (ax_nd 62 (ax_lf 62 (ao_il 7 2)) (ax_nd 64 (ax_lf 64 (ao_ic (0) 1)) (ax_lf 65 (ao_inv g 2 2 1 yX2_cell cX2_cell 3 (some .int) 3 0 0 0 0)))) (ax_nd 68 (ax_lf 68 (ao_inv g 2 0 0 yX0_live cX0_live 3 none 2 0 0 0 0)) (ax_nd 71 (ax_lf 71 (ao_iinc 7 (1))) (ax_lf 74 (ao_goto 50)))))) (ax_nd 87 (ax_nd 80 (ax_nd 77 (ax_lf 77 (ao_il 4 2)) (ax_nd 79 (ax_lf 79 (ao_ic (-1) 1)) (ax_lf 80 (ao_icmp_ne 93)))) (ax_nd 83 (ax_lf 83 (ao_al 0 1)) (ax_nd 84 (ax_lf 84 (ao_gr 9 3)) (ax_lf 87 (ao_inv g 1 0 1 yX0_poorest cX0_poorest 3 (some .int) 1 0 0 0 0))))) (ax_nd 94 (ax_nd 90 (ax_lf 90 (ao_goto 103)) (ax_nd 93 (ax_lf 93 (ao_al 0 1)) (ax_lf 94 (ao_gr 9 3)))) (ax_nd 100 (ax_nd 97 (ax_lf 97 (ao_gr 0 0)) (ax_lf 100 (ao_il 4 2))) (ax_nd 102 (ax_lf 102 ao_iald) (ax_lf 103 (ao_iret 0 0)))))))
theorem oX9_purse (g : ax_G) : ∀ pc, ax_ok g cX9_purse 8 (some .int) RX9 "purse" 6 0 0 pc (tX9_purse g pc) := ax_nd_ok (ax_nd_ok (ax_nd_ok (ax_nd_ok (ax_nd_ok (ax_lf_ok (ak_aload_n rfl dX9_purse_0)) (ax_nd_ok (ax_lf_ok (ak_iload_n rfl dX9_purse_1)) (ax_lf_ok (ak_invV (by decide) (by decide) (by decide) rfl wd_645 wd_647 wd_13 wd_96 wd_648 ⟨by decide, by decide, by decide +kernel⟩ dX9_purse_2)))) (ax_nd_ok (ax_lf_ok (ak_astore (by decide) dX9_purse_5)) (ax_nd_ok (ax_lf_ok (ak_aload_n rfl dX9_purse_7)) (ax_lf_ok (ak_gr fF_X9_10 dX9_purse_8))))) (ax_nd_ok (ax_nd_ok (ax_lf_ok (ak_iconst (by decide) dX9_purse_11)) (ax_nd_ok (ax_lf_ok (ak_iload_n rfl dX9_purse_12)) (ax_lf_ok (ak_invV (by decide) (by decide) (by decide) rfl wd_745 wd_746 wd_747 wd_97 wd_748 ⟨by decide, by decide, by decide +kernel⟩ dX9_purse_13)))) (ax_nd_ok (ax_lf_ok (ak_astore (by decide) dX9_purse_16)) (ax_nd_ok (ax_lf_ok (ak_aload dX9_purse_18)) (ax_lf_ok (ak_ifnull (by decide) dX9_purse_20)))))) (ax_nd_ok (ax_nd_ok (ax_nd_ok (ax_lf_ok (ak_aload dX9_purse_23)) (ax_nd_ok (ax_lf_ok (ak_iload dX9_purse_25)) (ax_lf_ok (ak_invV (by decide) (by decide) (by decide) rfl wd_715 wd_716 wd_717 wd_98 wd_718 ⟨by decide, by decide, by decide +kernel⟩ dX9_purse_27)))) (ax_nd_ok (ax_lf_ok (ak_if_eq (by decide) dX9_purse_30)) (ax_nd_ok (ax_lf_ok (ak_aload dX9_purse_33)) (ax_lf_ok (ak_aload dX9_purse_35))))) (ax_nd_ok (ax_nd_ok (ax_lf_ok (ak_iload_n rfl dX9_purse_37)) (ax_nd_ok (ax_lf_ok (ak_invS (by decide) (by decide) wd_762 wd_763 wd_96 wd_764 ⟨by decide, by decide, by decide +kernel⟩ dX9_purse_38)) (ax_lf_ok (ak_if_eq (by decide) dX9_purse_41)))) (ax_nd_ok (ax_nd_ok (ax_lf_ok (ak_ldc wd_720 dX9_purse_44)) (ax_lf_ok (ak_iret rfl dX9_purse_46))) (ax_nd_ok (ax_lf_ok (ak_iconst (by decide) dX9_purse_47)) (ax_lf_ok (ak_istore (by decide) dX9_purse_48))))))) (ax_nd_ok (ax_nd_ok (ax_nd_ok (ax_nd_ok (ax_lf_ok (ak_iload dX9_purse_50)) (ax_nd_ok (ax_lf_ok (ak_iload_n rfl dX9_purse_52)) (ax_lf_ok (ak_icmp_ge (by decide) dX9_purse_53)))) (ax_nd_ok (ax_lf_ok (ak_aload_n rfl dX9_purse_56)) (ax_nd_ok (ax_lf_ok (ak_gr fF_X9_36 dX9_purse_57)) (ax_lf_ok (ak_aload dX9_purse_60))))) (ax_nd_ok (ax_nd_ok (ax_lf_ok (ak_iload dX9_purse_62)) (ax_nd_ok (ax_lf_ok (ak_iconst (by decide) dX9_purse_64)) (ax_lf_ok (ak_invV (by decide) (by decide) (by decide) rfl wd_753 wd_754 wd_755 wd_99 wd_756 ⟨by decide, by decide, by decide +kernel⟩ dX9_purse_65)))) (ax_nd_ok (ax_lf_ok (ak_invV (by decide) (by decide) (by decide) rfl wd_765 wd_766 wd_767 wd_101 wd_768 ⟨by decide, by decide, by decide +kernel⟩ dX9_purse_68)) (ax_nd_ok (ax_lf_ok (ak_iinc (by decide) (by decide) dX9_purse_71)) (ax_lf_ok (ak_goto (by decide) dX9_purse_74)))))) (ax_nd_ok (ax_nd_ok (ax_nd_ok (ax_lf_ok (ak_iload dX9_purse_77)) (ax_nd_ok (ax_lf_ok (ak_iconst (by decide) dX9_purse_79)) (ax_lf_ok (ak_icmp_ne (by decide) dX9_purse_80)))) (ax_nd_ok (ax_lf_ok (ak_aload_n rfl dX9_purse_83)) (ax_nd_ok (ax_lf_ok (ak_gr fF_X9_36 dX9_purse_84)) (ax_lf_ok (ak_invV (by decide) (by decide) (by decide) rfl wd_690 wd_691 wd_692 wd_101 wd_693 ⟨by decide, by decide, by decide +kernel⟩ dX9_purse_87))))) (ax_nd_ok (ax_nd_ok (ax_lf_ok (ak_goto (by decide) dX9_purse_90)) (ax_nd_ok (ax_lf_ok (ak_aload_n rfl dX9_purse_93)) (ax_lf_ok (ak_gr fF_X9_36 dX9_purse_94)))) (ax_nd_ok (ax_nd_ok (ax_lf_ok (ak_gr fF_X9_181 dX9_purse_97)) (ax_lf_ok (ak_iload dX9_purse_100))) (ax_nd_ok (ax_lf_ok (ak_iald dX9_purse_102)) (ax_lf_ok (ak_iret rfl dX9_purse_103)))))))
abbrev mX9_purse (g : ax_G) (as : List Value) (h : ax_H) (Ret : Option Value → ax_H → Prop) : Prop := ax_M g 6 0 0 yX9_purse cX9_purse 8 (some .int) as h Ret
theorem dX9_likely_0 : decode cX9_likely 0 = .ok (.aload_n 0, 1) := by decide +kernel
theorem dX9_likely_1 : decode cX9_likely 1 = .ok (.iload_n 1, 1) := by decide +kernel
theorem dX9_likely_2 : decode cX9_likely 2 = .ok (.invokevirtual 99, 3) := by decide +kernel
theorem dX9_likely_5 : decode cX9_likely 5 = .ok (.astore 5, 2) := by decide +kernel
theorem dX9_likely_7 : decode cX9_likely 7 = .ok (.aload_n 0, 1) := by decide +kernel
theorem dX9_likely_8 : decode cX9_likely 8 = .ok (.getfield 10, 3) := by decide +kernel
theorem dX9_likely_11 : decode cX9_likely 11 = .ok (.iconst 1, 1) := by decide +kernel
theorem dX9_likely_12 : decode cX9_likely 12 = .ok (.iload_n 2, 1) := by decide +kernel
theorem dX9_likely_13 : decode cX9_likely 13 = .ok (.invokevirtual 159, 3) := by decide +kernel
theorem dX9_likely_16 : decode cX9_likely 16 = .ok (.astore 6, 2) := by decide +kernel
theorem dX9_likely_18 : decode cX9_likely 18 = .ok (.aload 5, 2) := by decide +kernel
theorem dX9_likely_20 : decode cX9_likely 20 = .ok (.ifnull 20, 3) := by decide +kernel
theorem dX9_likely_23 : decode cX9_likely 23 = .ok (.iload_n 3, 1) := by decide +kernel
theorem dX9_likely_24 : decode cX9_likely 24 = .ok (.bipush 6, 2) := by decide +kernel
theorem dX9_likely_26 : decode cX9_likely 26 = .ok (.if_icmp .gt 14, 3) := by decide +kernel
theorem dX9_likely_29 : decode cX9_likely 29 = .ok (.aload 5, 2) := by decide +kernel
theorem dX9_likely_31 : decode cX9_likely 31 = .ok (.aload 6, 2) := by decide +kernel
theorem dX9_likely_33 : decode cX9_likely 33 = .ok (.iload_n 3, 1) := by decide +kernel
theorem dX9_likely_34 : decode cX9_likely 34 = .ok (.invokestatic 174, 3) := by decide +kernel
theorem dX9_likely_37 : decode cX9_likely 37 = .ok (.ifCond .eq 7, 3) := by decide +kernel
theorem dX9_likely_40 : decode cX9_likely 40 = .ok (.ldc2_w 184, 3) := by decide +kernel
theorem dX9_likely_43 : decode cX9_likely 43 = .ok (.lreturn, 1) := by decide +kernel
theorem dX9_likely_44 : decode cX9_likely 44 = .ok (.lconst 1, 1) := by decide +kernel
theorem dX9_likely_45 : decode cX9_likely 45 = .ok (.lstore 7, 2) := by decide +kernel
theorem dX9_likely_47 : decode cX9_likely 47 = .ok (.lconst 1, 1) := by decide +kernel
theorem dX9_likely_48 : decode cX9_likely 48 = .ok (.lstore 9, 2) := by decide +kernel
theorem dX9_likely_50 : decode cX9_likely 50 = .ok (.iconst 0, 1) := by decide +kernel
theorem dX9_likely_51 : decode cX9_likely 51 = .ok (.istore 11, 2) := by decide +kernel
theorem dX9_likely_53 : decode cX9_likely 53 = .ok (.iload 11, 2) := by decide +kernel
theorem dX9_likely_55 : decode cX9_likely 55 = .ok (.iload_n 3, 1) := by decide +kernel
theorem dX9_likely_56 : decode cX9_likely 56 = .ok (.if_icmp .ge 73, 3) := by decide +kernel
theorem dX9_likely_59 : decode cX9_likely 59 = .ok (.aload 6, 2) := by decide +kernel
theorem dX9_likely_61 : decode cX9_likely 61 = .ok (.iload 11, 2) := by decide +kernel
theorem dX9_likely_63 : decode cX9_likely 63 = .ok (.iconst 0, 1) := by decide +kernel
theorem dX9_likely_64 : decode cX9_likely 64 = .ok (.invokevirtual 171, 3) := by decide +kernel
theorem dX9_likely_67 : decode cX9_likely 67 = .ok (.istore 12, 2) := by decide +kernel
theorem dX9_likely_69 : decode cX9_likely 69 = .ok (.aload_n 0, 1) := by decide +kernel
theorem dX9_likely_70 : decode cX9_likely 70 = .ok (.getfield 43, 3) := by decide +kernel
theorem dX9_likely_73 : decode cX9_likely 73 = .ok (.aload 5, 2) := by decide +kernel
theorem dX9_likely_75 : decode cX9_likely 75 = .ok (.aload_n 0, 1) := by decide +kernel
theorem dX9_likely_76 : decode cX9_likely 76 = .ok (.getfield 36, 3) := by decide +kernel
theorem dX9_likely_79 : decode cX9_likely 79 = .ok (.invokevirtual 118, 3) := by decide +kernel
theorem dX9_likely_82 : decode cX9_likely 82 = .ok (.invokevirtual 186, 3) := by decide +kernel
theorem dX9_likely_85 : decode cX9_likely 85 = .ok (.lload 7, 2) := by decide +kernel
theorem dX9_likely_87 : decode cX9_likely 87 = .ok (.aload_n 0, 1) := by decide +kernel
theorem dX9_likely_88 : decode cX9_likely 88 = .ok (.getfield 43, 3) := by decide +kernel
theorem dX9_likely_91 : decode cX9_likely 91 = .ok (.getfield 149, 3) := by decide +kernel
theorem dX9_likely_94 : decode cX9_likely 94 = .ok (.iload 12, 2) := by decide +kernel
theorem dX9_likely_96 : decode cX9_likely 96 = .ok (.iaload, 1) := by decide +kernel
theorem dX9_likely_97 : decode cX9_likely 97 = .ok (.i2l, 1) := by decide +kernel
theorem dX9_likely_98 : decode cX9_likely 98 = .ok (.lmul, 1) := by decide +kernel
theorem dX9_likely_99 : decode cX9_likely 99 = .ok (.lstore 7, 2) := by decide +kernel
theorem dX9_likely_101 : decode cX9_likely 101 = .ok (.lload 9, 2) := by decide +kernel
theorem dX9_likely_103 : decode cX9_likely 103 = .ok (.aload_n 0, 1) := by decide +kernel
theorem dX9_likely_104 : decode cX9_likely 104 = .ok (.getfield 43, 3) := by decide +kernel
theorem dX9_likely_107 : decode cX9_likely 107 = .ok (.getfield 152, 3) := by decide +kernel
theorem dX9_likely_110 : decode cX9_likely 110 = .ok (.i2l, 1) := by decide +kernel
theorem dX9_likely_111 : decode cX9_likely 111 = .ok (.lmul, 1) := by decide +kernel
theorem dX9_likely_112 : decode cX9_likely 112 = .ok (.lstore 9, 2) := by decide +kernel
theorem dX9_likely_114 : decode cX9_likely 114 = .ok (.aload_n 0, 1) := by decide +kernel
theorem dX9_likely_115 : decode cX9_likely 115 = .ok (.getfield 36, 3) := by decide +kernel
theorem dX9_likely_118 : decode cX9_likely 118 = .ok (.iload 12, 2) := by decide +kernel
theorem dX9_likely_120 : decode cX9_likely 120 = .ok (.invokevirtual 178, 3) := by decide +kernel
theorem dX9_likely_123 : decode cX9_likely 123 = .ok (.iinc 11 1, 3) := by decide +kernel
theorem dX9_likely_126 : decode cX9_likely 126 = .ok (.goto (-73), 3) := by decide +kernel
theorem dX9_likely_129 : decode cX9_likely 129 = .ok (.lload 7, 2) := by decide +kernel
theorem dX9_likely_131 : decode cX9_likely 131 = .ok (.lload 9, 2) := by decide +kernel
theorem dX9_likely_133 : decode cX9_likely 133 = .ok (.iload 4, 2) := by decide +kernel
theorem dX9_likely_135 : decode cX9_likely 135 = .ok (.invokestatic 155, 3) := by decide +kernel
theorem dX9_likely_138 : decode cX9_likely 138 = .ok (.lreturn, 1) := by decide +kernel
def tX9_likely (g : ax_G) : Nat → ax_O := ax_nd 64 (ax_nd 31 (ax_nd 12 (ax_nd 5 (ax_nd 1 (ax_nd 0 (ax_lf 0 (ao_al 0 1)) (ax_lf 1 (ao_il 1 1))) (ax_nd 2 (ax_lf 2 (ao_inv g 5 9 3 yX9_begun cX9_begun 3 (some (.object "GluedHour$Republic")) 2 0 0 0 0)) (ax_lf 5 (ao_as 5 2)))) (ax_nd 8 (ax_nd 7 (ax_lf 7 (ao_al 0 1)) (ax_lf 8 (ao_gr 9 0))) (ax_nd 11 (ax_lf 11 (ao_ic (1) 1)) (ax_lf 12 (ao_il 2 1))))) (ax_nd 20 (ax_nd 16 (ax_nd 13 (ax_lf 13 (ao_inv g 1 8 3 yX8_linesAt cX8_linesAt 3 (some (.object "GluedHour$Lines")) 3 0 0 0 0)) (ax_lf 16 (ao_as 6 2))) (ax_nd 18 (ax_lf 18 (ao_al 5 2)) (ax_lf 20 (ao_ifnull 40)))) (ax_nd 24 (ax_nd 23 (ax_lf 23 (ao_il 3 1)) (ax_lf 24 (ao_ic (6) 2))) (ax_nd 26 (ax_lf 26 (ao_icmp_gt 40)) (ax_nd 29 (ax_lf 29 (ao_al 5 2)) (ax_lf 31 (ao_al 6 2))))))) (ax_nd 48 (ax_nd 40 (ax_nd 34 (ax_nd 33 (ax_lf 33 (ao_il 3 1)) (ax_lf 34 (ao_inv g 3 99 1 yX9_stops cX9_stops 4 (some .boolean) 3 0 0 0 0))) (ax_nd 37 (ax_lf 37 (ao_if_eq 44)) (ax_lf 40 (ao_lc (-1) 3)))) (ax_nd 44 (ax_nd 43 (ax_lf 43 (ao_lret 0 0)) (ax_lf 44 (ao_lc (1) 1))) (ax_nd 45 (ax_lf 45 (ao_ls 7 2)) (ax_nd 47 (ax_lf 47 (ao_lc (1) 1)) (ax_lf 48 (ao_ls 9 2)))))) (ax_nd 55 (ax_nd 51 (ax_nd 50 (ax_lf 50 (ao_ic (0) 1)) (ax_lf 51 (ao_is 11 2))) (ax_nd 53 (ax_lf 53 (ao_il 11 2)) (ax_lf 55 (ao_il 3 1)))) (ax_nd 59 (ax_nd 56 (ax_lf 56 (ao_icmp_ge 129)) (ax_lf 59 (ao_al 6 2))) (ax_nd 61 (ax_lf 61 (ao_il 11 2)) (ax_nd 63 (ax_lf 63 (ao_ic (0) 1)) (ax_lf 64 (ao_inv g 2 2 1 yX2_cell cX2_cell 3 (some .int) 3 0 0 0 0)))))))) (ax_nd 99 (ax_nd 82 (ax_nd 73 (ax_nd 69 (ax_nd 67 (ax_lf 67 (ao_is 12 2)) (ax_lf 69 (ao_al 0 1))) (ax_nd 70 (ax_lf 70 (ao_gr 9 4)) (ax_lf 73 (ao_al 5 2)))) (ax_nd 76 (ax_nd 75 (ax_lf 75 (ao_al 0 1)) (ax_lf 76 (ao_gr 9 3))) (ax_nd 79 (ax_lf 79 (ao_inv g 1 0 1 yX0_poorest cX0_poorest 3 (some .int) 1 0 0 0 0)) (ax_lf 82 (ao_inv g 3 3 0 yX3_weigh cX3_weigh 4 none 3 0 0 0 0))))) (ax_nd 91 (ax_nd 87 (ax_nd 85 (ax_lf 85 (ao_ll 7 2)) (ax_lf 87 (ao_al 0 1))) (ax_nd 88 (ax_lf 88 (ao_gr 9 4)) (ax_lf 91 (ao_gr 3 0)))) (ax_nd 96 (ax_nd 94 (ax_lf 94 (ao_il 12 2)) (ax_lf 96 ao_iald)) (ax_nd 97 (ax_lf 97 ao_i2l) (ax_nd 98 (ax_lf 98 ao_lmul) (ax_lf 99 (ao_ls 7 2))))))) (ax_nd 115 (ax_nd 107 (ax_nd 103 (ax_nd 101 (ax_lf 101 (ao_ll 9 2)) (ax_lf 103 (ao_al 0 1))) (ax_nd 104 (ax_lf 104 (ao_gr 9 4)) (ax_lf 107 (ao_gi 3 2)))) (ax_nd 111 (ax_nd 110 (ax_lf 110 ao_i2l) (ax_lf 111 ao_lmul)) (ax_nd 112 (ax_lf 112 (ao_ls 9 2)) (ax_nd 114 (ax_lf 114 (ao_al 0 1)) (ax_lf 115 (ao_gr 9 3)))))) (ax_nd 126 (ax_nd 120 (ax_nd 118 (ax_lf 118 (ao_il 12 2)) (ax_lf 120 (ao_inv g 2 0 0 yX0_live cX0_live 3 none 2 0 0 0 0))) (ax_nd 123 (ax_lf 123 (ao_iinc 11 (1))) (ax_lf 126 (ao_goto 53)))) (ax_nd 131 (ax_nd 129 (ax_lf 129 (ao_ll 7 2)) (ax_lf 131 (ao_ll 9 2))) (ax_nd 133 (ax_lf 133 (ao_il 4 2)) (ax_nd 135 (ax_lf 135 (ao_inv g 2 99 2 yX1_side cX1_side 7 (some .long) 3 0 0 0 0)) (ax_lf 138 (ao_lret 0 0))))))))
theorem oX9_likely (g : ax_G) : ∀ pc, ax_ok g cX9_likely 13 (some .long) RX9 "likely" 6 0 0 pc (tX9_likely g pc) := ax_nd_ok (ax_nd_ok (ax_nd_ok (ax_nd_ok (ax_nd_ok (ax_nd_ok (ax_lf_ok (ak_aload_n rfl dX9_likely_0)) (ax_lf_ok (ak_iload_n rfl dX9_likely_1))) (ax_nd_ok (ax_lf_ok (ak_invV (by decide) (by decide) (by decide) rfl wd_645 wd_647 wd_13 wd_96 wd_648 ⟨by decide, by decide, by decide +kernel⟩ dX9_likely_2)) (ax_lf_ok (ak_astore (by decide) dX9_likely_5)))) (ax_nd_ok (ax_nd_ok (ax_lf_ok (ak_aload_n rfl dX9_likely_7)) (ax_lf_ok (ak_gr fF_X9_10 dX9_likely_8))) (ax_nd_ok (ax_lf_ok (ak_iconst (by decide) dX9_likely_11)) (ax_lf_ok (ak_iload_n rfl dX9_likely_12))))) (ax_nd_ok (ax_nd_ok (ax_nd_ok (ax_lf_ok (ak_invV (by decide) (by decide) (by decide) rfl wd_745 wd_746 wd_747 wd_97 wd_748 ⟨by decide, by decide, by decide +kernel⟩ dX9_likely_13)) (ax_lf_ok (ak_astore (by decide) dX9_likely_16))) (ax_nd_ok (ax_lf_ok (ak_aload dX9_likely_18)) (ax_lf_ok (ak_ifnull (by decide) dX9_likely_20)))) (ax_nd_ok (ax_nd_ok (ax_lf_ok (ak_iload_n rfl dX9_likely_23)) (ax_lf_ok (ak_bipush (by decide) dX9_likely_24))) (ax_nd_ok (ax_lf_ok (ak_icmp_gt (by decide) dX9_likely_26)) (ax_nd_ok (ax_lf_ok (ak_aload dX9_likely_29)) (ax_lf_ok (ak_aload dX9_likely_31))))))) (ax_nd_ok (ax_nd_ok (ax_nd_ok (ax_nd_ok (ax_lf_ok (ak_iload_n rfl dX9_likely_33)) (ax_lf_ok (ak_invS (by decide) (by decide) wd_762 wd_763 wd_96 wd_764 ⟨by decide, by decide, by decide +kernel⟩ dX9_likely_34))) (ax_nd_ok (ax_lf_ok (ak_if_eq (by decide) dX9_likely_37)) (ax_lf_ok (ak_ldc2 wd_774 dX9_likely_40)))) (ax_nd_ok (ax_nd_ok (ax_lf_ok (ak_lret rfl dX9_likely_43)) (ax_lf_ok (ak_lconst (by decide) dX9_likely_44))) (ax_nd_ok (ax_lf_ok (ak_lstore (by decide) dX9_likely_45)) (ax_nd_ok (ax_lf_ok (ak_lconst (by decide) dX9_likely_47)) (ax_lf_ok (ak_lstore (by decide) dX9_likely_48)))))) (ax_nd_ok (ax_nd_ok (ax_nd_ok (ax_lf_ok (ak_iconst (by decide) dX9_likely_50)) (ax_lf_ok (ak_istore (by decide) dX9_likely_51))) (ax_nd_ok (ax_lf_ok (ak_iload dX9_likely_53)) (ax_lf_ok (ak_iload_n rfl dX9_likely_55)))) (ax_nd_ok (ax_nd_ok (ax_lf_ok (ak_icmp_ge (by decide) dX9_likely_56)) (ax_lf_ok (ak_aload dX9_likely_59))) (ax_nd_ok (ax_lf_ok (ak_iload dX9_likely_61)) (ax_nd_ok (ax_lf_ok (ak_iconst (by decide) dX9_likely_63)) (ax_lf_ok (ak_invV (by decide) (by decide) (by decide) rfl wd_753 wd_754 wd_755 wd_99 wd_756 ⟨by decide, by decide, by decide +kernel⟩ dX9_likely_64)))))))) (ax_nd_ok (ax_nd_ok (ax_nd_ok (ax_nd_ok (ax_nd_ok (ax_lf_ok (ak_istore (by decide) dX9_likely_67)) (ax_lf_ok (ak_aload_n rfl dX9_likely_69))) (ax_nd_ok (ax_lf_ok (ak_gr fF_X9_43 dX9_likely_70)) (ax_lf_ok (ak_aload dX9_likely_73)))) (ax_nd_ok (ax_nd_ok (ax_lf_ok (ak_aload_n rfl dX9_likely_75)) (ax_lf_ok (ak_gr fF_X9_36 dX9_likely_76))) (ax_nd_ok (ax_lf_ok (ak_invV (by decide) (by decide) (by decide) rfl wd_690 wd_691 wd_692 wd_101 wd_693 ⟨by decide, by decide, by decide +kernel⟩ dX9_likely_79)) (ax_lf_ok (ak_invV (by decide) (by decide) (by decide) rfl wd_694 wd_695 wd_696 wd_102 wd_697 ⟨by decide, by decide, by decide +kernel⟩ dX9_likely_82))))) (ax_nd_ok (ax_nd_ok (ax_nd_ok (ax_lf_ok (ak_lload dX9_likely_85)) (ax_lf_ok (ak_aload_n rfl dX9_likely_87))) (ax_nd_ok (ax_lf_ok (ak_gr fF_X9_43 dX9_likely_88)) (ax_lf_ok (ak_gr fF_X9_149 dX9_likely_91)))) (ax_nd_ok (ax_nd_ok (ax_lf_ok (ak_iload dX9_likely_94)) (ax_lf_ok (ak_iald dX9_likely_96))) (ax_nd_ok (ax_lf_ok (ak_i2l dX9_likely_97)) (ax_nd_ok (ax_lf_ok (ak_lmul dX9_likely_98)) (ax_lf_ok (ak_lstore (by decide) dX9_likely_99))))))) (ax_nd_ok (ax_nd_ok (ax_nd_ok (ax_nd_ok (ax_lf_ok (ak_lload dX9_likely_101)) (ax_lf_ok (ak_aload_n rfl dX9_likely_103))) (ax_nd_ok (ax_lf_ok (ak_gr fF_X9_43 dX9_likely_104)) (ax_lf_ok (ak_gi fF_X9_152 dX9_likely_107)))) (ax_nd_ok (ax_nd_ok (ax_lf_ok (ak_i2l dX9_likely_110)) (ax_lf_ok (ak_lmul dX9_likely_111))) (ax_nd_ok (ax_lf_ok (ak_lstore (by decide) dX9_likely_112)) (ax_nd_ok (ax_lf_ok (ak_aload_n rfl dX9_likely_114)) (ax_lf_ok (ak_gr fF_X9_36 dX9_likely_115)))))) (ax_nd_ok (ax_nd_ok (ax_nd_ok (ax_lf_ok (ak_iload dX9_likely_118)) (ax_lf_ok (ak_invV (by decide) (by decide) (by decide) rfl wd_765 wd_766 wd_767 wd_101 wd_768 ⟨by decide, by decide, by decide +kernel⟩ dX9_likely_120))) (ax_nd_ok (ax_lf_ok (ak_iinc (by decide) (by decide) dX9_likely_123)) (ax_lf_ok (ak_goto (by decide) dX9_likely_126)))) (ax_nd_ok (ax_nd_ok (ax_lf_ok (ak_lload dX9_likely_129)) (ax_lf_ok (ak_lload dX9_likely_131))) (ax_nd_ok (ax_lf_ok (ak_iload dX9_likely_133)) (ax_nd_ok (ax_lf_ok (ak_invS (by decide) (by decide) wd_729 wd_730 wd_105 wd_731 ⟨by decide, by decide, by decide +kernel⟩ dX9_likely_135)) (ax_lf_ok (ak_lret rfl dX9_likely_138))))))))
abbrev mX9_likely (g : ax_G) (as : List Value) (h : ax_H) (Ret : Option Value → ax_H → Prop) : Prop := ax_M g 6 0 0 yX9_likely cX9_likely 13 (some .long) as h Ret
theorem dX9_drawn_0 : decode cX9_drawn 0 = .ok (.aload_n 0, 1) := by decide +kernel
theorem dX9_drawn_1 : decode cX9_drawn 1 = .ok (.iload_n 1, 1) := by decide +kernel
theorem dX9_drawn_2 : decode cX9_drawn 2 = .ok (.invokevirtual 99, 3) := by decide +kernel
theorem dX9_drawn_5 : decode cX9_drawn 5 = .ok (.astore 5, 2) := by decide +kernel
theorem dX9_drawn_7 : decode cX9_drawn 7 = .ok (.aload 5, 2) := by decide +kernel
theorem dX9_drawn_9 : decode cX9_drawn 9 = .ok (.ifnull 13, 3) := by decide +kernel
theorem dX9_drawn_12 : decode cX9_drawn 12 = .ok (.iload_n 3, 1) := by decide +kernel
theorem dX9_drawn_13 : decode cX9_drawn 13 = .ok (.ifCond .lt 9, 3) := by decide +kernel
theorem dX9_drawn_16 : decode cX9_drawn 16 = .ok (.iload_n 3, 1) := by decide +kernel
theorem dX9_drawn_17 : decode cX9_drawn 17 = .ok (.bipush 60, 2) := by decide +kernel
theorem dX9_drawn_19 : decode cX9_drawn 19 = .ok (.if_icmp .le 6, 3) := by decide +kernel
theorem dX9_drawn_22 : decode cX9_drawn 22 = .ok (.ldc 145, 2) := by decide +kernel
theorem dX9_drawn_24 : decode cX9_drawn 24 = .ok (.ireturn, 1) := by decide +kernel
theorem dX9_drawn_25 : decode cX9_drawn 25 = .ok (.iload 4, 2) := by decide +kernel
theorem dX9_drawn_27 : decode cX9_drawn 27 = .ok (.bipush 20, 2) := by decide +kernel
theorem dX9_drawn_29 : decode cX9_drawn 29 = .ok (.isub, 1) := by decide +kernel
theorem dX9_drawn_30 : decode cX9_drawn 30 = .ok (.istore 6, 2) := by decide +kernel
theorem dX9_drawn_32 : decode cX9_drawn 32 = .ok (.iconst 0, 1) := by decide +kernel
theorem dX9_drawn_33 : decode cX9_drawn 33 = .ok (.istore 7, 2) := by decide +kernel
theorem dX9_drawn_35 : decode cX9_drawn 35 = .ok (.iconst (-1), 1) := by decide +kernel
theorem dX9_drawn_36 : decode cX9_drawn 36 = .ok (.istore 8, 2) := by decide +kernel
theorem dX9_drawn_38 : decode cX9_drawn 38 = .ok (.iload_n 2, 1) := by decide +kernel
theorem dX9_drawn_39 : decode cX9_drawn 39 = .ok (.istore 9, 2) := by decide +kernel
theorem dX9_drawn_41 : decode cX9_drawn 41 = .ok (.iconst 0, 1) := by decide +kernel
theorem dX9_drawn_42 : decode cX9_drawn 42 = .ok (.istore 10, 2) := by decide +kernel
theorem dX9_drawn_44 : decode cX9_drawn 44 = .ok (.iload 10, 2) := by decide +kernel
theorem dX9_drawn_46 : decode cX9_drawn 46 = .ok (.iload_n 3, 1) := by decide +kernel
theorem dX9_drawn_47 : decode cX9_drawn 47 = .ok (.if_icmp .ge 76, 3) := by decide +kernel
theorem dX9_drawn_50 : decode cX9_drawn 50 = .ok (.aload_n 0, 1) := by decide +kernel
theorem dX9_drawn_51 : decode cX9_drawn 51 = .ok (.getfield 43, 3) := by decide +kernel
theorem dX9_drawn_54 : decode cX9_drawn 54 = .ok (.aload 5, 2) := by decide +kernel
theorem dX9_drawn_56 : decode cX9_drawn 56 = .ok (.aload_n 0, 1) := by decide +kernel
theorem dX9_drawn_57 : decode cX9_drawn 57 = .ok (.getfield 36, 3) := by decide +kernel
theorem dX9_drawn_60 : decode cX9_drawn 60 = .ok (.invokevirtual 118, 3) := by decide +kernel
theorem dX9_drawn_63 : decode cX9_drawn 63 = .ok (.invokevirtual 186, 3) := by decide +kernel
theorem dX9_drawn_66 : decode cX9_drawn 66 = .ok (.iload 9, 2) := by decide +kernel
theorem dX9_drawn_68 : decode cX9_drawn 68 = .ok (.ldc 190, 2) := by decide +kernel
theorem dX9_drawn_70 : decode cX9_drawn 70 = .ok (.imul, 1) := by decide +kernel
theorem dX9_drawn_71 : decode cX9_drawn 71 = .ok (.sipush 12345, 3) := by decide +kernel
theorem dX9_drawn_74 : decode cX9_drawn 74 = .ok (.iadd, 1) := by decide +kernel
theorem dX9_drawn_75 : decode cX9_drawn 75 = .ok (.istore 9, 2) := by decide +kernel
theorem dX9_drawn_77 : decode cX9_drawn 77 = .ok (.aload_n 0, 1) := by decide +kernel
theorem dX9_drawn_78 : decode cX9_drawn 78 = .ok (.getfield 43, 3) := by decide +kernel
theorem dX9_drawn_81 : decode cX9_drawn 81 = .ok (.iload 9, 2) := by decide +kernel
theorem dX9_drawn_83 : decode cX9_drawn 83 = .ok (.bipush 16, 2) := by decide +kernel
theorem dX9_drawn_85 : decode cX9_drawn 85 = .ok (.iushr, 1) := by decide +kernel
theorem dX9_drawn_86 : decode cX9_drawn 86 = .ok (.invokevirtual 191, 3) := by decide +kernel
theorem dX9_drawn_89 : decode cX9_drawn 89 = .ok (.istore 8, 2) := by decide +kernel
theorem dX9_drawn_91 : decode cX9_drawn 91 = .ok (.aload_n 0, 1) := by decide +kernel
theorem dX9_drawn_92 : decode cX9_drawn 92 = .ok (.getfield 36, 3) := by decide +kernel
theorem dX9_drawn_95 : decode cX9_drawn 95 = .ok (.iload 8, 2) := by decide +kernel
theorem dX9_drawn_97 : decode cX9_drawn 97 = .ok (.invokevirtual 178, 3) := by decide +kernel
theorem dX9_drawn_100 : decode cX9_drawn 100 = .ok (.iload 7, 2) := by decide +kernel
theorem dX9_drawn_102 : decode cX9_drawn 102 = .ok (.iload 8, 2) := by decide +kernel
theorem dX9_drawn_104 : decode cX9_drawn 104 = .ok (.iload 6, 2) := by decide +kernel
theorem dX9_drawn_106 : decode cX9_drawn 106 = .ok (.if_icmp .ne 7, 3) := by decide +kernel
theorem dX9_drawn_109 : decode cX9_drawn 109 = .ok (.iconst 1, 1) := by decide +kernel
theorem dX9_drawn_110 : decode cX9_drawn 110 = .ok (.goto 4, 3) := by decide +kernel
theorem dX9_drawn_113 : decode cX9_drawn 113 = .ok (.iconst 0, 1) := by decide +kernel
theorem dX9_drawn_114 : decode cX9_drawn 114 = .ok (.iadd, 1) := by decide +kernel
theorem dX9_drawn_115 : decode cX9_drawn 115 = .ok (.istore 7, 2) := by decide +kernel
theorem dX9_drawn_117 : decode cX9_drawn 117 = .ok (.iinc 10 1, 3) := by decide +kernel
theorem dX9_drawn_120 : decode cX9_drawn 120 = .ok (.goto (-76), 3) := by decide +kernel
theorem dX9_drawn_123 : decode cX9_drawn 123 = .ok (.aload 5, 2) := by decide +kernel
theorem dX9_drawn_125 : decode cX9_drawn 125 = .ok (.iload 4, 2) := by decide +kernel
theorem dX9_drawn_127 : decode cX9_drawn 127 = .ok (.invokevirtual 125, 3) := by decide +kernel
theorem dX9_drawn_130 : decode cX9_drawn 130 = .ok (.ifCond .eq 14, 3) := by decide +kernel
theorem dX9_drawn_133 : decode cX9_drawn 133 = .ok (.aload_n 0, 1) := by decide +kernel
theorem dX9_drawn_134 : decode cX9_drawn 134 = .ok (.getfield 36, 3) := by decide +kernel
theorem dX9_drawn_137 : decode cX9_drawn 137 = .ok (.getfield 181, 3) := by decide +kernel
theorem dX9_drawn_140 : decode cX9_drawn 140 = .ok (.iload 4, 2) := by decide +kernel
theorem dX9_drawn_142 : decode cX9_drawn 142 = .ok (.iaload, 1) := by decide +kernel
theorem dX9_drawn_143 : decode cX9_drawn 143 = .ok (.ireturn, 1) := by decide +kernel
theorem dX9_drawn_144 : decode cX9_drawn 144 = .ok (.iload 4, 2) := by decide +kernel
theorem dX9_drawn_146 : decode cX9_drawn 146 = .ok (.bipush 10, 2) := by decide +kernel
theorem dX9_drawn_148 : decode cX9_drawn 148 = .ok (.if_icmp .ne 11, 3) := by decide +kernel
theorem dX9_drawn_151 : decode cX9_drawn 151 = .ok (.aload_n 0, 1) := by decide +kernel
theorem dX9_drawn_152 : decode cX9_drawn 152 = .ok (.getfield 36, 3) := by decide +kernel
theorem dX9_drawn_155 : decode cX9_drawn 155 = .ok (.invokevirtual 118, 3) := by decide +kernel
theorem dX9_drawn_158 : decode cX9_drawn 158 = .ok (.ireturn, 1) := by decide +kernel
theorem dX9_drawn_159 : decode cX9_drawn 159 = .ok (.iload 4, 2) := by decide +kernel
theorem dX9_drawn_161 : decode cX9_drawn 161 = .ok (.bipush 11, 2) := by decide +kernel
theorem dX9_drawn_163 : decode cX9_drawn 163 = .ok (.if_icmp .ne 6, 3) := by decide +kernel
theorem dX9_drawn_166 : decode cX9_drawn 166 = .ok (.iload 8, 2) := by decide +kernel
theorem dX9_drawn_168 : decode cX9_drawn 168 = .ok (.ireturn, 1) := by decide +kernel
theorem dX9_drawn_169 : decode cX9_drawn 169 = .ok (.aload 5, 2) := by decide +kernel
theorem dX9_drawn_171 : decode cX9_drawn 171 = .ok (.iload 6, 2) := by decide +kernel
theorem dX9_drawn_173 : decode cX9_drawn 173 = .ok (.invokevirtual 142, 3) := by decide +kernel
theorem dX9_drawn_176 : decode cX9_drawn 176 = .ok (.ifCond .eq 8, 3) := by decide +kernel
theorem dX9_drawn_179 : decode cX9_drawn 179 = .ok (.iload 7, 2) := by decide +kernel
theorem dX9_drawn_181 : decode cX9_drawn 181 = .ok (.goto 5, 3) := by decide +kernel
theorem dX9_drawn_184 : decode cX9_drawn 184 = .ok (.ldc 145, 2) := by decide +kernel
theorem dX9_drawn_186 : decode cX9_drawn 186 = .ok (.ireturn, 1) := by decide +kernel
def tX9_drawn (g : ax_G) : Nat → ax_O := ax_nd 85 (ax_nd 39 (ax_nd 19 (ax_nd 7 (ax_nd 1 (ax_nd 0 (ax_lf 0 (ao_al 0 1)) (ax_lf 1 (ao_il 1 1))) (ax_nd 2 (ax_lf 2 (ao_inv g 5 9 3 yX9_begun cX9_begun 3 (some (.object "GluedHour$Republic")) 2 0 0 0 0)) (ax_nd 5 (ax_lf 5 (ao_as 5 2)) (ax_lf 7 (ao_al 5 2))))) (ax_nd 13 (ax_nd 9 (ax_lf 9 (ao_ifnull 22)) (ax_nd 12 (ax_lf 12 (ao_il 3 1)) (ax_lf 13 (ao_if_lt 22)))) (ax_nd 16 (ax_lf 16 (ao_il 3 1)) (ax_nd 17 (ax_lf 17 (ao_ic (60) 2)) (ax_lf 19 (ao_icmp_le 25)))))) (ax_nd 30 (ax_nd 25 (ax_nd 22 (ax_lf 22 (ao_ic (-1000000) 2)) (ax_nd 24 (ax_lf 24 (ao_iret 0 0)) (ax_lf 25 (ao_il 4 2)))) (ax_nd 27 (ax_lf 27 (ao_ic (20) 2)) (ax_nd 29 (ax_lf 29 ao_isub) (ax_lf 30 (ao_is 6 2))))) (ax_nd 35 (ax_nd 32 (ax_lf 32 (ao_ic (0) 1)) (ax_nd 33 (ax_lf 33 (ao_is 7 2)) (ax_lf 35 (ao_ic (-1) 1)))) (ax_nd 36 (ax_lf 36 (ao_is 8 2)) (ax_nd 38 (ax_lf 38 (ao_il 2 1)) (ax_lf 39 (ao_is 9 2))))))) (ax_nd 60 (ax_nd 47 (ax_nd 42 (ax_nd 41 (ax_lf 41 (ao_ic (0) 1)) (ax_lf 42 (ao_is 10 2))) (ax_nd 44 (ax_lf 44 (ao_il 10 2)) (ax_nd 46 (ax_lf 46 (ao_il 3 1)) (ax_lf 47 (ao_icmp_ge 123))))) (ax_nd 54 (ax_nd 50 (ax_lf 50 (ao_al 0 1)) (ax_nd 51 (ax_lf 51 (ao_gr 9 4)) (ax_lf 54 (ao_al 5 2)))) (ax_nd 56 (ax_lf 56 (ao_al 0 1)) (ax_nd 57 (ax_lf 57 (ao_gr 9 3)) (ax_lf 60 (ao_inv g 1 0 1 yX0_poorest cX0_poorest 3 (some .int) 1 0 0 0 0)))))) (ax_nd 74 (ax_nd 68 (ax_nd 63 (ax_lf 63 (ao_inv g 3 3 0 yX3_weigh cX3_weigh 4 none 3 0 0 0 0)) (ax_nd 66 (ax_lf 66 (ao_il 9 2)) (ax_lf 68 (ao_ic (1103515245) 2)))) (ax_nd 70 (ax_lf 70 ao_imul) (ax_nd 71 (ax_lf 71 (ao_ic (12345) 3)) (ax_lf 74 ao_iadd)))) (ax_nd 78 (ax_nd 75 (ax_lf 75 (ao_is 9 2)) (ax_nd 77 (ax_lf 77 (ao_al 0 1)) (ax_lf 78 (ao_gr 9 4)))) (ax_nd 81 (ax_lf 81 (ao_il 9 2)) (ax_nd 83 (ax_lf 83 (ao_ic (16) 2)) (ax_lf 85 ao_iushr))))))) (ax_nd 134 (ax_nd 109 (ax_nd 95 (ax_nd 89 (ax_nd 86 (ax_lf 86 (ao_inv g 1 3 1 yX3_hourOf cX3_hourOf 4 (some .int) 2 0 0 0 0)) (ax_lf 89 (ao_is 8 2))) (ax_nd 91 (ax_lf 91 (ao_al 0 1)) (ax_nd 92 (ax_lf 92 (ao_gr 9 3)) (ax_lf 95 (ao_il 8 2))))) (ax_nd 102 (ax_nd 97 (ax_lf 97 (ao_inv g 2 0 0 yX0_live cX0_live 3 none 2 0 0 0 0)) (ax_nd 100 (ax_lf 100 (ao_il 7 2)) (ax_lf 102 (ao_il 8 2)))) (ax_nd 104 (ax_lf 104 (ao_il 6 2)) (ax_nd 106 (ax_lf 106 (ao_icmp_ne 113)) (ax_lf 109 (ao_ic (1) 1)))))) (ax_nd 120 (ax_nd 114 (ax_nd 110 (ax_lf 110 (ao_goto 114)) (ax_nd 113 (ax_lf 113 (ao_ic (0) 1)) (ax_lf 114 ao_iadd))) (ax_nd 115 (ax_lf 115 (ao_is 7 2)) (ax_nd 117 (ax_lf 117 (ao_iinc 10 (1))) (ax_lf 120 (ao_goto 44))))) (ax_nd 127 (ax_nd 123 (ax_lf 123 (ao_al 5 2)) (ax_nd 125 (ax_lf 125 (ao_il 4 2)) (ax_lf 127 (ao_inv g 1 6 1 yX6_hasPerson cX6_hasPerson 2 (some .boolean) 2 0 0 0 0)))) (ax_nd 130 (ax_lf 130 (ao_if_eq 144)) (ax_nd 133 (ax_lf 133 (ao_al 0 1)) (ax_lf 134 (ao_gr 9 3))))))) (ax_nd 159 (ax_nd 146 (ax_nd 142 (ax_nd 137 (ax_lf 137 (ao_gr 0 0)) (ax_nd 140 (ax_lf 140 (ao_il 4 2)) (ax_lf 142 ao_iald))) (ax_nd 143 (ax_lf 143 (ao_iret 0 0)) (ax_nd 144 (ax_lf 144 (ao_il 4 2)) (ax_lf 146 (ao_ic (10) 2))))) (ax_nd 152 (ax_nd 148 (ax_lf 148 (ao_icmp_ne 159)) (ax_nd 151 (ax_lf 151 (ao_al 0 1)) (ax_lf 152 (ao_gr 9 3)))) (ax_nd 155 (ax_lf 155 (ao_inv g 1 0 1 yX0_poorest cX0_poorest 3 (some .int) 1 0 0 0 0)) (ax_nd 158 (ax_lf 158 (ao_iret 0 0)) (ax_lf 159 (ao_il 4 2)))))) (ax_nd 171 (ax_nd 166 (ax_nd 161 (ax_lf 161 (ao_ic (11) 2)) (ax_nd 163 (ax_lf 163 (ao_icmp_ne 169)) (ax_lf 166 (ao_il 8 2)))) (ax_nd 168 (ax_lf 168 (ao_iret 0 0)) (ax_nd 169 (ax_lf 169 (ao_al 5 2)) (ax_lf 171 (ao_il 6 2))))) (ax_nd 179 (ax_nd 173 (ax_lf 173 (ao_inv g 1 6 1 yX6_hasHour cX6_hasHour 2 (some .boolean) 2 0 0 0 0)) (ax_nd 176 (ax_lf 176 (ao_if_eq 184)) (ax_lf 179 (ao_il 7 2)))) (ax_nd 181 (ax_lf 181 (ao_goto 186)) (ax_nd 184 (ax_lf 184 (ao_ic (-1000000) 2)) (ax_lf 186 (ao_iret 0 0))))))))
theorem oX9_drawn (g : ax_G) : ∀ pc, ax_ok g cX9_drawn 11 (some .int) RX9 "drawn" 6 0 0 pc (tX9_drawn g pc) := ax_nd_ok (ax_nd_ok (ax_nd_ok (ax_nd_ok (ax_nd_ok (ax_nd_ok (ax_lf_ok (ak_aload_n rfl dX9_drawn_0)) (ax_lf_ok (ak_iload_n rfl dX9_drawn_1))) (ax_nd_ok (ax_lf_ok (ak_invV (by decide) (by decide) (by decide) rfl wd_645 wd_647 wd_13 wd_96 wd_648 ⟨by decide, by decide, by decide +kernel⟩ dX9_drawn_2)) (ax_nd_ok (ax_lf_ok (ak_astore (by decide) dX9_drawn_5)) (ax_lf_ok (ak_aload dX9_drawn_7))))) (ax_nd_ok (ax_nd_ok (ax_lf_ok (ak_ifnull (by decide) dX9_drawn_9)) (ax_nd_ok (ax_lf_ok (ak_iload_n rfl dX9_drawn_12)) (ax_lf_ok (ak_if_lt (by decide) dX9_drawn_13)))) (ax_nd_ok (ax_lf_ok (ak_iload_n rfl dX9_drawn_16)) (ax_nd_ok (ax_lf_ok (ak_bipush (by decide) dX9_drawn_17)) (ax_lf_ok (ak_icmp_le (by decide) dX9_drawn_19)))))) (ax_nd_ok (ax_nd_ok (ax_nd_ok (ax_lf_ok (ak_ldc wd_720 dX9_drawn_22)) (ax_nd_ok (ax_lf_ok (ak_iret rfl dX9_drawn_24)) (ax_lf_ok (ak_iload dX9_drawn_25)))) (ax_nd_ok (ax_lf_ok (ak_bipush (by decide) dX9_drawn_27)) (ax_nd_ok (ax_lf_ok (ak_isub dX9_drawn_29)) (ax_lf_ok (ak_istore (by decide) dX9_drawn_30))))) (ax_nd_ok (ax_nd_ok (ax_lf_ok (ak_iconst (by decide) dX9_drawn_32)) (ax_nd_ok (ax_lf_ok (ak_istore (by decide) dX9_drawn_33)) (ax_lf_ok (ak_iconst (by decide) dX9_drawn_35)))) (ax_nd_ok (ax_lf_ok (ak_istore (by decide) dX9_drawn_36)) (ax_nd_ok (ax_lf_ok (ak_iload_n rfl dX9_drawn_38)) (ax_lf_ok (ak_istore (by decide) dX9_drawn_39))))))) (ax_nd_ok (ax_nd_ok (ax_nd_ok (ax_nd_ok (ax_lf_ok (ak_iconst (by decide) dX9_drawn_41)) (ax_lf_ok (ak_istore (by decide) dX9_drawn_42))) (ax_nd_ok (ax_lf_ok (ak_iload dX9_drawn_44)) (ax_nd_ok (ax_lf_ok (ak_iload_n rfl dX9_drawn_46)) (ax_lf_ok (ak_icmp_ge (by decide) dX9_drawn_47))))) (ax_nd_ok (ax_nd_ok (ax_lf_ok (ak_aload_n rfl dX9_drawn_50)) (ax_nd_ok (ax_lf_ok (ak_gr fF_X9_43 dX9_drawn_51)) (ax_lf_ok (ak_aload dX9_drawn_54)))) (ax_nd_ok (ax_lf_ok (ak_aload_n rfl dX9_drawn_56)) (ax_nd_ok (ax_lf_ok (ak_gr fF_X9_36 dX9_drawn_57)) (ax_lf_ok (ak_invV (by decide) (by decide) (by decide) rfl wd_690 wd_691 wd_692 wd_101 wd_693 ⟨by decide, by decide, by decide +kernel⟩ dX9_drawn_60)))))) (ax_nd_ok (ax_nd_ok (ax_nd_ok (ax_lf_ok (ak_invV (by decide) (by decide) (by decide) rfl wd_694 wd_695 wd_696 wd_102 wd_697 ⟨by decide, by decide, by decide +kernel⟩ dX9_drawn_63)) (ax_nd_ok (ax_lf_ok (ak_iload dX9_drawn_66)) (ax_lf_ok (ak_ldc wd_779 dX9_drawn_68)))) (ax_nd_ok (ax_lf_ok (ak_imul dX9_drawn_70)) (ax_nd_ok (ax_lf_ok (ak_sipush (by decide) dX9_drawn_71)) (ax_lf_ok (ak_iadd dX9_drawn_74))))) (ax_nd_ok (ax_nd_ok (ax_lf_ok (ak_istore (by decide) dX9_drawn_75)) (ax_nd_ok (ax_lf_ok (ak_aload_n rfl dX9_drawn_77)) (ax_lf_ok (ak_gr fF_X9_43 dX9_drawn_78)))) (ax_nd_ok (ax_lf_ok (ak_iload dX9_drawn_81)) (ax_nd_ok (ax_lf_ok (ak_bipush (by decide) dX9_drawn_83)) (ax_lf_ok (ak_iushr dX9_drawn_85)))))))) (ax_nd_ok (ax_nd_ok (ax_nd_ok (ax_nd_ok (ax_nd_ok (ax_lf_ok (ak_invV (by decide) (by decide) (by decide) rfl wd_780 wd_781 wd_782 wd_102 wd_783 ⟨by decide, by decide, by decide +kernel⟩ dX9_drawn_86)) (ax_lf_ok (ak_istore (by decide) dX9_drawn_89))) (ax_nd_ok (ax_lf_ok (ak_aload_n rfl dX9_drawn_91)) (ax_nd_ok (ax_lf_ok (ak_gr fF_X9_36 dX9_drawn_92)) (ax_lf_ok (ak_iload dX9_drawn_95))))) (ax_nd_ok (ax_nd_ok (ax_lf_ok (ak_invV (by decide) (by decide) (by decide) rfl wd_765 wd_766 wd_767 wd_101 wd_768 ⟨by decide, by decide, by decide +kernel⟩ dX9_drawn_97)) (ax_nd_ok (ax_lf_ok (ak_iload dX9_drawn_100)) (ax_lf_ok (ak_iload dX9_drawn_102)))) (ax_nd_ok (ax_lf_ok (ak_iload dX9_drawn_104)) (ax_nd_ok (ax_lf_ok (ak_icmp_ne (by decide) dX9_drawn_106)) (ax_lf_ok (ak_iconst (by decide) dX9_drawn_109)))))) (ax_nd_ok (ax_nd_ok (ax_nd_ok (ax_lf_ok (ak_goto (by decide) dX9_drawn_110)) (ax_nd_ok (ax_lf_ok (ak_iconst (by decide) dX9_drawn_113)) (ax_lf_ok (ak_iadd dX9_drawn_114)))) (ax_nd_ok (ax_lf_ok (ak_istore (by decide) dX9_drawn_115)) (ax_nd_ok (ax_lf_ok (ak_iinc (by decide) (by decide) dX9_drawn_117)) (ax_lf_ok (ak_goto (by decide) dX9_drawn_120))))) (ax_nd_ok (ax_nd_ok (ax_lf_ok (ak_aload dX9_drawn_123)) (ax_nd_ok (ax_lf_ok (ak_iload dX9_drawn_125)) (ax_lf_ok (ak_invV (by decide) (by decide) (by decide) rfl wd_708 wd_666 wd_667 wd_98 wd_668 ⟨by decide, by decide, by decide +kernel⟩ dX9_drawn_127)))) (ax_nd_ok (ax_lf_ok (ak_if_eq (by decide) dX9_drawn_130)) (ax_nd_ok (ax_lf_ok (ak_aload_n rfl dX9_drawn_133)) (ax_lf_ok (ak_gr fF_X9_36 dX9_drawn_134))))))) (ax_nd_ok (ax_nd_ok (ax_nd_ok (ax_nd_ok (ax_lf_ok (ak_gr fF_X9_181 dX9_drawn_137)) (ax_nd_ok (ax_lf_ok (ak_iload dX9_drawn_140)) (ax_lf_ok (ak_iald dX9_drawn_142)))) (ax_nd_ok (ax_lf_ok (ak_iret rfl dX9_drawn_143)) (ax_nd_ok (ax_lf_ok (ak_iload dX9_drawn_144)) (ax_lf_ok (ak_bipush (by decide) dX9_drawn_146))))) (ax_nd_ok (ax_nd_ok (ax_lf_ok (ak_icmp_ne (by decide) dX9_drawn_148)) (ax_nd_ok (ax_lf_ok (ak_aload_n rfl dX9_drawn_151)) (ax_lf_ok (ak_gr fF_X9_36 dX9_drawn_152)))) (ax_nd_ok (ax_lf_ok (ak_invV (by decide) (by decide) (by decide) rfl wd_690 wd_691 wd_692 wd_101 wd_693 ⟨by decide, by decide, by decide +kernel⟩ dX9_drawn_155)) (ax_nd_ok (ax_lf_ok (ak_iret rfl dX9_drawn_158)) (ax_lf_ok (ak_iload dX9_drawn_159)))))) (ax_nd_ok (ax_nd_ok (ax_nd_ok (ax_lf_ok (ak_bipush (by decide) dX9_drawn_161)) (ax_nd_ok (ax_lf_ok (ak_icmp_ne (by decide) dX9_drawn_163)) (ax_lf_ok (ak_iload dX9_drawn_166)))) (ax_nd_ok (ax_lf_ok (ak_iret rfl dX9_drawn_168)) (ax_nd_ok (ax_lf_ok (ak_aload dX9_drawn_169)) (ax_lf_ok (ak_iload dX9_drawn_171))))) (ax_nd_ok (ax_nd_ok (ax_lf_ok (ak_invV (by decide) (by decide) (by decide) rfl wd_719 wd_670 wd_671 wd_98 wd_672 ⟨by decide, by decide, by decide +kernel⟩ dX9_drawn_173)) (ax_nd_ok (ax_lf_ok (ak_if_eq (by decide) dX9_drawn_176)) (ax_lf_ok (ak_iload dX9_drawn_179)))) (ax_nd_ok (ax_lf_ok (ak_goto (by decide) dX9_drawn_181)) (ax_nd_ok (ax_lf_ok (ak_ldc wd_720 dX9_drawn_184)) (ax_lf_ok (ak_iret rfl dX9_drawn_186))))))))
abbrev mX9_drawn (g : ax_G) (as : List Value) (h : ax_H) (Ret : Option Value → ax_H → Prop) : Prop := ax_M g 6 0 0 yX9_drawn cX9_drawn 11 (some .int) as h Ret
theorem dX9_mean_0 : decode cX9_mean 0 = .ok (.aload_n 0, 1) := by decide +kernel
theorem dX9_mean_1 : decode cX9_mean 1 = .ok (.iload_n 1, 1) := by decide +kernel
theorem dX9_mean_2 : decode cX9_mean 2 = .ok (.invokevirtual 99, 3) := by decide +kernel
theorem dX9_mean_5 : decode cX9_mean 5 = .ok (.astore 4, 2) := by decide +kernel
theorem dX9_mean_7 : decode cX9_mean 7 = .ok (.aload 4, 2) := by decide +kernel
theorem dX9_mean_9 : decode cX9_mean 9 = .ok (.ifnull 12, 3) := by decide +kernel
theorem dX9_mean_12 : decode cX9_mean 12 = .ok (.aload 4, 2) := by decide +kernel
theorem dX9_mean_14 : decode cX9_mean 14 = .ok (.iload_n 2, 1) := by decide +kernel
theorem dX9_mean_15 : decode cX9_mean 15 = .ok (.invokevirtual 125, 3) := by decide +kernel
theorem dX9_mean_18 : decode cX9_mean 18 = .ok (.ifCond .ne 6, 3) := by decide +kernel
theorem dX9_mean_21 : decode cX9_mean 21 = .ok (.ldc 145, 2) := by decide +kernel
theorem dX9_mean_23 : decode cX9_mean 23 = .ok (.ireturn, 1) := by decide +kernel
theorem dX9_mean_24 : decode cX9_mean 24 = .ok (.aload_n 0, 1) := by decide +kernel
theorem dX9_mean_25 : decode cX9_mean 25 = .ok (.getfield 36, 3) := by decide +kernel
theorem dX9_mean_28 : decode cX9_mean 28 = .ok (.iload_n 2, 1) := by decide +kernel
theorem dX9_mean_29 : decode cX9_mean 29 = .ok (.aload_n 0, 1) := by decide +kernel
theorem dX9_mean_30 : decode cX9_mean 30 = .ok (.getfield 43, 3) := by decide +kernel
theorem dX9_mean_33 : decode cX9_mean 33 = .ok (.invokevirtual 194, 3) := by decide +kernel
theorem dX9_mean_36 : decode cX9_mean 36 = .ok (.aload_n 0, 1) := by decide +kernel
theorem dX9_mean_37 : decode cX9_mean 37 = .ok (.getfield 43, 3) := by decide +kernel
theorem dX9_mean_40 : decode cX9_mean 40 = .ok (.getfield 152, 3) := by decide +kernel
theorem dX9_mean_43 : decode cX9_mean 43 = .ok (.i2l, 1) := by decide +kernel
theorem dX9_mean_44 : decode cX9_mean 44 = .ok (.iload_n 3, 1) := by decide +kernel
theorem dX9_mean_45 : decode cX9_mean 45 = .ok (.invokestatic 155, 3) := by decide +kernel
theorem dX9_mean_48 : decode cX9_mean 48 = .ok (.l2i, 1) := by decide +kernel
theorem dX9_mean_49 : decode cX9_mean 49 = .ok (.ireturn, 1) := by decide +kernel
def tX9_mean (g : ax_G) : Nat → ax_O := ax_nd 24 (ax_nd 9 (ax_nd 2 (ax_nd 0 (ax_lf 0 (ao_al 0 1)) (ax_nd 1 (ax_lf 1 (ao_il 1 1)) (ax_lf 2 (ao_inv g 5 9 3 yX9_begun cX9_begun 3 (some (.object "GluedHour$Republic")) 2 0 0 0 0)))) (ax_nd 5 (ax_lf 5 (ao_as 4 2)) (ax_nd 7 (ax_lf 7 (ao_al 4 2)) (ax_lf 9 (ao_ifnull 21))))) (ax_nd 15 (ax_nd 12 (ax_lf 12 (ao_al 4 2)) (ax_nd 14 (ax_lf 14 (ao_il 2 1)) (ax_lf 15 (ao_inv g 1 6 1 yX6_hasPerson cX6_hasPerson 2 (some .boolean) 2 0 0 0 0)))) (ax_nd 21 (ax_nd 18 (ax_lf 18 (ao_if_ne 24)) (ax_lf 21 (ao_ic (-1000000) 2))) (ax_nd 23 (ax_lf 23 (ao_iret 0 0)) (ax_lf 24 (ao_al 0 1)))))) (ax_nd 36 (ax_nd 29 (ax_nd 25 (ax_lf 25 (ao_gr 9 3)) (ax_nd 28 (ax_lf 28 (ao_il 2 1)) (ax_lf 29 (ao_al 0 1)))) (ax_nd 30 (ax_lf 30 (ao_gr 9 4)) (ax_nd 33 (ax_lf 33 (ao_inv g 2 0 2 yX0_weighed cX0_weighed 6 (some .long) 3 0 0 0 0)) (ax_lf 36 (ao_al 0 1))))) (ax_nd 43 (ax_nd 37 (ax_lf 37 (ao_gr 9 4)) (ax_nd 40 (ax_lf 40 (ao_gi 3 2)) (ax_lf 43 ao_i2l))) (ax_nd 45 (ax_nd 44 (ax_lf 44 (ao_il 3 1)) (ax_lf 45 (ao_inv g 2 99 2 yX1_side cX1_side 7 (some .long) 3 0 0 0 0))) (ax_nd 48 (ax_lf 48 ao_l2i) (ax_lf 49 (ao_iret 0 0))))))
theorem oX9_mean (g : ax_G) : ∀ pc, ax_ok g cX9_mean 5 (some .int) RX9 "mean" 6 0 0 pc (tX9_mean g pc) := ax_nd_ok (ax_nd_ok (ax_nd_ok (ax_nd_ok (ax_lf_ok (ak_aload_n rfl dX9_mean_0)) (ax_nd_ok (ax_lf_ok (ak_iload_n rfl dX9_mean_1)) (ax_lf_ok (ak_invV (by decide) (by decide) (by decide) rfl wd_645 wd_647 wd_13 wd_96 wd_648 ⟨by decide, by decide, by decide +kernel⟩ dX9_mean_2)))) (ax_nd_ok (ax_lf_ok (ak_astore (by decide) dX9_mean_5)) (ax_nd_ok (ax_lf_ok (ak_aload dX9_mean_7)) (ax_lf_ok (ak_ifnull (by decide) dX9_mean_9))))) (ax_nd_ok (ax_nd_ok (ax_lf_ok (ak_aload dX9_mean_12)) (ax_nd_ok (ax_lf_ok (ak_iload_n rfl dX9_mean_14)) (ax_lf_ok (ak_invV (by decide) (by decide) (by decide) rfl wd_708 wd_666 wd_667 wd_98 wd_668 ⟨by decide, by decide, by decide +kernel⟩ dX9_mean_15)))) (ax_nd_ok (ax_nd_ok (ax_lf_ok (ak_if_ne (by decide) dX9_mean_18)) (ax_lf_ok (ak_ldc wd_720 dX9_mean_21))) (ax_nd_ok (ax_lf_ok (ak_iret rfl dX9_mean_23)) (ax_lf_ok (ak_aload_n rfl dX9_mean_24)))))) (ax_nd_ok (ax_nd_ok (ax_nd_ok (ax_lf_ok (ak_gr fF_X9_36 dX9_mean_25)) (ax_nd_ok (ax_lf_ok (ak_iload_n rfl dX9_mean_28)) (ax_lf_ok (ak_aload_n rfl dX9_mean_29)))) (ax_nd_ok (ax_lf_ok (ak_gr fF_X9_43 dX9_mean_30)) (ax_nd_ok (ax_lf_ok (ak_invV (by decide) (by decide) (by decide) rfl wd_788 wd_789 wd_790 wd_101 wd_791 ⟨by decide, by decide, by decide +kernel⟩ dX9_mean_33)) (ax_lf_ok (ak_aload_n rfl dX9_mean_36))))) (ax_nd_ok (ax_nd_ok (ax_lf_ok (ak_gr fF_X9_43 dX9_mean_37)) (ax_nd_ok (ax_lf_ok (ak_gi fF_X9_152 dX9_mean_40)) (ax_lf_ok (ak_i2l dX9_mean_43)))) (ax_nd_ok (ax_nd_ok (ax_lf_ok (ak_iload_n rfl dX9_mean_44)) (ax_lf_ok (ak_invS (by decide) (by decide) wd_729 wd_730 wd_105 wd_731 ⟨by decide, by decide, by decide +kernel⟩ dX9_mean_45))) (ax_nd_ok (ax_lf_ok (ak_l2i dX9_mean_48)) (ax_lf_ok (ak_iret rfl dX9_mean_49))))))
abbrev mX9_mean (g : ax_G) (as : List Value) (h : ax_H) (Ret : Option Value → ax_H → Prop) : Prop := ax_M g 6 0 0 yX9_mean cX9_mean 5 (some .int) as h Ret
theorem dX9_gain_0 : decode cX9_gain 0 = .ok (.aload_n 0, 1) := by decide +kernel
theorem dX9_gain_1 : decode cX9_gain 1 = .ok (.iload_n 1, 1) := by decide +kernel
theorem dX9_gain_2 : decode cX9_gain 2 = .ok (.invokevirtual 99, 3) := by decide +kernel
theorem dX9_gain_5 : decode cX9_gain 5 = .ok (.astore 5, 2) := by decide +kernel
theorem dX9_gain_7 : decode cX9_gain 7 = .ok (.aload 5, 2) := by decide +kernel
theorem dX9_gain_9 : decode cX9_gain 9 = .ok (.ifnull 21, 3) := by decide +kernel
theorem dX9_gain_12 : decode cX9_gain 12 = .ok (.aload 5, 2) := by decide +kernel
theorem dX9_gain_14 : decode cX9_gain 14 = .ok (.iload_n 2, 1) := by decide +kernel
theorem dX9_gain_15 : decode cX9_gain 15 = .ok (.invokevirtual 125, 3) := by decide +kernel
theorem dX9_gain_18 : decode cX9_gain 18 = .ok (.ifCond .eq 12, 3) := by decide +kernel
theorem dX9_gain_21 : decode cX9_gain 21 = .ok (.aload 5, 2) := by decide +kernel
theorem dX9_gain_23 : decode cX9_gain 23 = .ok (.iload_n 3, 1) := by decide +kernel
theorem dX9_gain_24 : decode cX9_gain 24 = .ok (.invokevirtual 142, 3) := by decide +kernel
theorem dX9_gain_27 : decode cX9_gain 27 = .ok (.ifCond .ne 6, 3) := by decide +kernel
theorem dX9_gain_30 : decode cX9_gain 30 = .ok (.ldc 145, 2) := by decide +kernel
theorem dX9_gain_32 : decode cX9_gain 32 = .ok (.ireturn, 1) := by decide +kernel
theorem dX9_gain_33 : decode cX9_gain 33 = .ok (.aload_n 0, 1) := by decide +kernel
theorem dX9_gain_34 : decode cX9_gain 34 = .ok (.iload_n 2, 1) := by decide +kernel
theorem dX9_gain_35 : decode cX9_gain 35 = .ok (.iload_n 3, 1) := by decide +kernel
theorem dX9_gain_36 : decode cX9_gain 36 = .ok (.invokevirtual 198, 3) := by decide +kernel
theorem dX9_gain_39 : decode cX9_gain 39 = .ok (.aload_n 0, 1) := by decide +kernel
theorem dX9_gain_40 : decode cX9_gain 40 = .ok (.getfield 43, 3) := by decide +kernel
theorem dX9_gain_43 : decode cX9_gain 43 = .ok (.getfield 152, 3) := by decide +kernel
theorem dX9_gain_46 : decode cX9_gain 46 = .ok (.i2l, 1) := by decide +kernel
theorem dX9_gain_47 : decode cX9_gain 47 = .ok (.iload 4, 2) := by decide +kernel
theorem dX9_gain_49 : decode cX9_gain 49 = .ok (.invokestatic 155, 3) := by decide +kernel
theorem dX9_gain_52 : decode cX9_gain 52 = .ok (.l2i, 1) := by decide +kernel
theorem dX9_gain_53 : decode cX9_gain 53 = .ok (.ireturn, 1) := by decide +kernel
def tX9_gain (g : ax_G) : Nat → ax_O := ax_nd 27 (ax_nd 12 (ax_nd 2 (ax_nd 0 (ax_lf 0 (ao_al 0 1)) (ax_nd 1 (ax_lf 1 (ao_il 1 1)) (ax_lf 2 (ao_inv g 5 9 3 yX9_begun cX9_begun 3 (some (.object "GluedHour$Republic")) 2 0 0 0 0)))) (ax_nd 7 (ax_nd 5 (ax_lf 5 (ao_as 5 2)) (ax_lf 7 (ao_al 5 2))) (ax_nd 9 (ax_lf 9 (ao_ifnull 30)) (ax_lf 12 (ao_al 5 2))))) (ax_nd 18 (ax_nd 14 (ax_lf 14 (ao_il 2 1)) (ax_nd 15 (ax_lf 15 (ao_inv g 1 6 1 yX6_hasPerson cX6_hasPerson 2 (some .boolean) 2 0 0 0 0)) (ax_lf 18 (ao_if_eq 30)))) (ax_nd 23 (ax_nd 21 (ax_lf 21 (ao_al 5 2)) (ax_lf 23 (ao_il 3 1))) (ax_nd 24 (ax_lf 24 (ao_inv g 1 6 1 yX6_hasHour cX6_hasHour 2 (some .boolean) 2 0 0 0 0)) (ax_lf 27 (ao_if_ne 33)))))) (ax_nd 39 (ax_nd 33 (ax_nd 30 (ax_lf 30 (ao_ic (-1000000) 2)) (ax_nd 32 (ax_lf 32 (ao_iret 0 0)) (ax_lf 33 (ao_al 0 1)))) (ax_nd 35 (ax_nd 34 (ax_lf 34 (ao_il 2 1)) (ax_lf 35 (ao_il 3 1))) (ax_nd 36 (ax_lf 36 (ao_inv g 3 9 2 yX9_gainBy cX9_gainBy 3 (some .long) 3 0 0 0 0)) (ax_lf 39 (ao_al 0 1))))) (ax_nd 46 (ax_nd 40 (ax_lf 40 (ao_gr 9 4)) (ax_nd 43 (ax_lf 43 (ao_gi 3 2)) (ax_lf 46 ao_i2l))) (ax_nd 49 (ax_nd 47 (ax_lf 47 (ao_il 4 2)) (ax_lf 49 (ao_inv g 2 99 2 yX1_side cX1_side 7 (some .long) 3 0 0 0 0))) (ax_nd 52 (ax_lf 52 ao_l2i) (ax_lf 53 (ao_iret 0 0))))))
theorem oX9_gain (g : ax_G) : ∀ pc, ax_ok g cX9_gain 6 (some .int) RX9 "gain" 6 0 0 pc (tX9_gain g pc) := ax_nd_ok (ax_nd_ok (ax_nd_ok (ax_nd_ok (ax_lf_ok (ak_aload_n rfl dX9_gain_0)) (ax_nd_ok (ax_lf_ok (ak_iload_n rfl dX9_gain_1)) (ax_lf_ok (ak_invV (by decide) (by decide) (by decide) rfl wd_645 wd_647 wd_13 wd_96 wd_648 ⟨by decide, by decide, by decide +kernel⟩ dX9_gain_2)))) (ax_nd_ok (ax_nd_ok (ax_lf_ok (ak_astore (by decide) dX9_gain_5)) (ax_lf_ok (ak_aload dX9_gain_7))) (ax_nd_ok (ax_lf_ok (ak_ifnull (by decide) dX9_gain_9)) (ax_lf_ok (ak_aload dX9_gain_12))))) (ax_nd_ok (ax_nd_ok (ax_lf_ok (ak_iload_n rfl dX9_gain_14)) (ax_nd_ok (ax_lf_ok (ak_invV (by decide) (by decide) (by decide) rfl wd_708 wd_666 wd_667 wd_98 wd_668 ⟨by decide, by decide, by decide +kernel⟩ dX9_gain_15)) (ax_lf_ok (ak_if_eq (by decide) dX9_gain_18)))) (ax_nd_ok (ax_nd_ok (ax_lf_ok (ak_aload dX9_gain_21)) (ax_lf_ok (ak_iload_n rfl dX9_gain_23))) (ax_nd_ok (ax_lf_ok (ak_invV (by decide) (by decide) (by decide) rfl wd_719 wd_670 wd_671 wd_98 wd_672 ⟨by decide, by decide, by decide +kernel⟩ dX9_gain_24)) (ax_lf_ok (ak_if_ne (by decide) dX9_gain_27)))))) (ax_nd_ok (ax_nd_ok (ax_nd_ok (ax_lf_ok (ak_ldc wd_720 dX9_gain_30)) (ax_nd_ok (ax_lf_ok (ak_iret rfl dX9_gain_32)) (ax_lf_ok (ak_aload_n rfl dX9_gain_33)))) (ax_nd_ok (ax_nd_ok (ax_lf_ok (ak_iload_n rfl dX9_gain_34)) (ax_lf_ok (ak_iload_n rfl dX9_gain_35))) (ax_nd_ok (ax_lf_ok (ak_invV (by decide) (by decide) (by decide) rfl wd_796 wd_798 wd_14 wd_96 wd_799 ⟨by decide, by decide, by decide +kernel⟩ dX9_gain_36)) (ax_lf_ok (ak_aload_n rfl dX9_gain_39))))) (ax_nd_ok (ax_nd_ok (ax_lf_ok (ak_gr fF_X9_43 dX9_gain_40)) (ax_nd_ok (ax_lf_ok (ak_gi fF_X9_152 dX9_gain_43)) (ax_lf_ok (ak_i2l dX9_gain_46)))) (ax_nd_ok (ax_nd_ok (ax_lf_ok (ak_iload dX9_gain_47)) (ax_lf_ok (ak_invS (by decide) (by decide) wd_729 wd_730 wd_105 wd_731 ⟨by decide, by decide, by decide +kernel⟩ dX9_gain_49))) (ax_nd_ok (ax_lf_ok (ak_l2i dX9_gain_52)) (ax_lf_ok (ak_iret rfl dX9_gain_53))))))
abbrev mX9_gain (g : ax_G) (as : List Value) (h : ax_H) (Ret : Option Value → ax_H → Prop) : Prop := ax_M g 6 0 0 yX9_gain cX9_gain 6 (some .int) as h Ret
theorem dX9_wish_0 : decode cX9_wish 0 = .ok (.aload_n 0, 1) := by decide +kernel
theorem dX9_wish_1 : decode cX9_wish 1 = .ok (.iload_n 1, 1) := by decide +kernel
theorem dX9_wish_2 : decode cX9_wish 2 = .ok (.invokevirtual 99, 3) := by decide +kernel
theorem dX9_wish_5 : decode cX9_wish 5 = .ok (.astore_n 3, 1) := by decide +kernel
theorem dX9_wish_6 : decode cX9_wish 6 = .ok (.aload_n 3, 1) := by decide +kernel
theorem dX9_wish_7 : decode cX9_wish 7 = .ok (.ifnull 11, 3) := by decide +kernel
theorem dX9_wish_10 : decode cX9_wish 10 = .ok (.aload_n 3, 1) := by decide +kernel
theorem dX9_wish_11 : decode cX9_wish 11 = .ok (.iload_n 2, 1) := by decide +kernel
theorem dX9_wish_12 : decode cX9_wish 12 = .ok (.invokevirtual 139, 3) := by decide +kernel
theorem dX9_wish_15 : decode cX9_wish 15 = .ok (.ifCond .ne 7, 3) := by decide +kernel
theorem dX9_wish_18 : decode cX9_wish 18 = .ok (.iconst (-1), 1) := by decide +kernel
theorem dX9_wish_19 : decode cX9_wish 19 = .ok (.goto 11, 3) := by decide +kernel
theorem dX9_wish_22 : decode cX9_wish 22 = .ok (.aload_n 0, 1) := by decide +kernel
theorem dX9_wish_23 : decode cX9_wish 23 = .ok (.getfield 36, 3) := by decide +kernel
theorem dX9_wish_26 : decode cX9_wish 26 = .ok (.iload_n 2, 1) := by decide +kernel
theorem dX9_wish_27 : decode cX9_wish 27 = .ok (.invokevirtual 202, 3) := by decide +kernel
theorem dX9_wish_30 : decode cX9_wish 30 = .ok (.ireturn, 1) := by decide +kernel
def tX9_wish (g : ax_G) : Nat → ax_O := ax_nd 11 (ax_nd 5 (ax_nd 1 (ax_nd 0 (ax_lf 0 (ao_al 0 1)) (ax_lf 1 (ao_il 1 1))) (ax_nd 2 (ax_lf 2 (ao_inv g 5 9 3 yX9_begun cX9_begun 3 (some (.object "GluedHour$Republic")) 2 0 0 0 0)) (ax_lf 5 (ao_as 3 1)))) (ax_nd 7 (ax_nd 6 (ax_lf 6 (ao_al 3 1)) (ax_lf 7 (ao_ifnull 18))) (ax_nd 10 (ax_lf 10 (ao_al 3 1)) (ax_lf 11 (ao_il 2 1))))) (ax_nd 19 (ax_nd 15 (ax_nd 12 (ax_lf 12 (ao_inv g 2 6 1 yX6_hasPersonOrAll cX6_hasPersonOrAll 2 (some .boolean) 2 0 0 0 0)) (ax_lf 15 (ao_if_ne 22))) (ax_nd 18 (ax_lf 18 (ao_ic (-1) 1)) (ax_lf 19 (ao_goto 30)))) (ax_nd 23 (ax_nd 22 (ax_lf 22 (ao_al 0 1)) (ax_lf 23 (ao_gr 9 3))) (ax_nd 26 (ax_lf 26 (ao_il 2 1)) (ax_nd 27 (ax_lf 27 (ao_inv g 2 0 1 yX0_bestHour cX0_bestHour 6 (some .int) 2 0 0 0 0)) (ax_lf 30 (ao_iret 0 0))))))
theorem oX9_wish (g : ax_G) : ∀ pc, ax_ok g cX9_wish 4 (some .int) RX9 "wish" 6 0 0 pc (tX9_wish g pc) := ax_nd_ok (ax_nd_ok (ax_nd_ok (ax_nd_ok (ax_lf_ok (ak_aload_n rfl dX9_wish_0)) (ax_lf_ok (ak_iload_n rfl dX9_wish_1))) (ax_nd_ok (ax_lf_ok (ak_invV (by decide) (by decide) (by decide) rfl wd_645 wd_647 wd_13 wd_96 wd_648 ⟨by decide, by decide, by decide +kernel⟩ dX9_wish_2)) (ax_lf_ok (ak_astore_n rfl (by decide) dX9_wish_5)))) (ax_nd_ok (ax_nd_ok (ax_lf_ok (ak_aload_n rfl dX9_wish_6)) (ax_lf_ok (ak_ifnull (by decide) dX9_wish_7))) (ax_nd_ok (ax_lf_ok (ak_aload_n rfl dX9_wish_10)) (ax_lf_ok (ak_iload_n rfl dX9_wish_11))))) (ax_nd_ok (ax_nd_ok (ax_nd_ok (ax_lf_ok (ak_invV (by decide) (by decide) (by decide) rfl wd_715 wd_716 wd_717 wd_98 wd_718 ⟨by decide, by decide, by decide +kernel⟩ dX9_wish_12)) (ax_lf_ok (ak_if_ne (by decide) dX9_wish_15))) (ax_nd_ok (ax_lf_ok (ak_iconst (by decide) dX9_wish_18)) (ax_lf_ok (ak_goto (by decide) dX9_wish_19)))) (ax_nd_ok (ax_nd_ok (ax_lf_ok (ak_aload_n rfl dX9_wish_22)) (ax_lf_ok (ak_gr fF_X9_36 dX9_wish_23))) (ax_nd_ok (ax_lf_ok (ak_iload_n rfl dX9_wish_26)) (ax_nd_ok (ax_lf_ok (ak_invV (by decide) (by decide) (by decide) rfl wd_804 wd_805 wd_806 wd_101 wd_807 ⟨by decide, by decide, by decide +kernel⟩ dX9_wish_27)) (ax_lf_ok (ak_iret rfl dX9_wish_30))))))
abbrev mX9_wish (g : ax_G) (as : List Value) (h : ax_H) (Ret : Option Value → ax_H → Prop) : Prop := ax_M g 6 0 0 yX9_wish cX9_wish 4 (some .int) as h Ret
theorem dX9_buyer_0 : decode cX9_buyer 0 = .ok (.aload_n 0, 1) := by decide +kernel
theorem dX9_buyer_1 : decode cX9_buyer 1 = .ok (.iload_n 1, 1) := by decide +kernel
theorem dX9_buyer_2 : decode cX9_buyer 2 = .ok (.invokevirtual 99, 3) := by decide +kernel
theorem dX9_buyer_5 : decode cX9_buyer 5 = .ok (.astore_n 3, 1) := by decide +kernel
theorem dX9_buyer_6 : decode cX9_buyer 6 = .ok (.aload_n 3, 1) := by decide +kernel
theorem dX9_buyer_7 : decode cX9_buyer 7 = .ok (.ifnull 19, 3) := by decide +kernel
theorem dX9_buyer_10 : decode cX9_buyer 10 = .ok (.aload_n 3, 1) := by decide +kernel
theorem dX9_buyer_11 : decode cX9_buyer 11 = .ok (.getfield 115, 3) := by decide +kernel
theorem dX9_buyer_14 : decode cX9_buyer 14 = .ok (.ifCond .eq 12, 3) := by decide +kernel
theorem dX9_buyer_17 : decode cX9_buyer 17 = .ok (.iload_n 2, 1) := by decide +kernel
theorem dX9_buyer_18 : decode cX9_buyer 18 = .ok (.ifCond .lt 8, 3) := by decide +kernel
theorem dX9_buyer_21 : decode cX9_buyer 21 = .ok (.iload_n 2, 1) := by decide +kernel
theorem dX9_buyer_22 : decode cX9_buyer 22 = .ok (.iconst 2, 1) := by decide +kernel
theorem dX9_buyer_23 : decode cX9_buyer 23 = .ok (.if_icmp .le 6, 3) := by decide +kernel
theorem dX9_buyer_26 : decode cX9_buyer 26 = .ok (.ldc 145, 2) := by decide +kernel
theorem dX9_buyer_28 : decode cX9_buyer 28 = .ok (.ireturn, 1) := by decide +kernel
theorem dX9_buyer_29 : decode cX9_buyer 29 = .ok (.iconst 0, 1) := by decide +kernel
theorem dX9_buyer_30 : decode cX9_buyer 30 = .ok (.istore 4, 2) := by decide +kernel
theorem dX9_buyer_32 : decode cX9_buyer 32 = .ok (.aload_n 0, 1) := by decide +kernel
theorem dX9_buyer_33 : decode cX9_buyer 33 = .ok (.iconst 0, 1) := by decide +kernel
theorem dX9_buyer_34 : decode cX9_buyer 34 = .ok (.aload_n 0, 1) := by decide +kernel
theorem dX9_buyer_35 : decode cX9_buyer 35 = .ok (.getfield 36, 3) := by decide +kernel
theorem dX9_buyer_38 : decode cX9_buyer 38 = .ok (.iconst 0, 1) := by decide +kernel
theorem dX9_buyer_39 : decode cX9_buyer 39 = .ok (.invokevirtual 202, 3) := by decide +kernel
theorem dX9_buyer_42 : decode cX9_buyer 42 = .ok (.invokevirtual 198, 3) := by decide +kernel
theorem dX9_buyer_45 : decode cX9_buyer 45 = .ok (.lstore 5, 2) := by decide +kernel
theorem dX9_buyer_47 : decode cX9_buyer 47 = .ok (.lconst 0, 1) := by decide +kernel
theorem dX9_buyer_48 : decode cX9_buyer 48 = .ok (.lstore 7, 2) := by decide +kernel
theorem dX9_buyer_50 : decode cX9_buyer 50 = .ok (.iconst 1, 1) := by decide +kernel
theorem dX9_buyer_51 : decode cX9_buyer 51 = .ok (.istore 9, 2) := by decide +kernel
theorem dX9_buyer_53 : decode cX9_buyer 53 = .ok (.iload 9, 2) := by decide +kernel
theorem dX9_buyer_55 : decode cX9_buyer 55 = .ok (.aload_n 3, 1) := by decide +kernel
theorem dX9_buyer_56 : decode cX9_buyer 56 = .ok (.getfield 115, 3) := by decide +kernel
theorem dX9_buyer_59 : decode cX9_buyer 59 = .ok (.if_icmp .ge 58, 3) := by decide +kernel
theorem dX9_buyer_62 : decode cX9_buyer 62 = .ok (.aload_n 0, 1) := by decide +kernel
theorem dX9_buyer_63 : decode cX9_buyer 63 = .ok (.iload 9, 2) := by decide +kernel
theorem dX9_buyer_65 : decode cX9_buyer 65 = .ok (.aload_n 0, 1) := by decide +kernel
theorem dX9_buyer_66 : decode cX9_buyer 66 = .ok (.getfield 36, 3) := by decide +kernel
theorem dX9_buyer_69 : decode cX9_buyer 69 = .ok (.iload 9, 2) := by decide +kernel
theorem dX9_buyer_71 : decode cX9_buyer 71 = .ok (.invokevirtual 202, 3) := by decide +kernel
theorem dX9_buyer_74 : decode cX9_buyer 74 = .ok (.invokevirtual 198, 3) := by decide +kernel
theorem dX9_buyer_77 : decode cX9_buyer 77 = .ok (.lstore 10, 2) := by decide +kernel
theorem dX9_buyer_79 : decode cX9_buyer 79 = .ok (.lload 10, 2) := by decide +kernel
theorem dX9_buyer_81 : decode cX9_buyer 81 = .ok (.lload 5, 2) := by decide +kernel
theorem dX9_buyer_83 : decode cX9_buyer 83 = .ok (.lcmp, 1) := by decide +kernel
theorem dX9_buyer_84 : decode cX9_buyer 84 = .ok (.ifCond .le 18, 3) := by decide +kernel
theorem dX9_buyer_87 : decode cX9_buyer 87 = .ok (.lload 5, 2) := by decide +kernel
theorem dX9_buyer_89 : decode cX9_buyer 89 = .ok (.lstore 7, 2) := by decide +kernel
theorem dX9_buyer_91 : decode cX9_buyer 91 = .ok (.lload 10, 2) := by decide +kernel
theorem dX9_buyer_93 : decode cX9_buyer 93 = .ok (.lstore 5, 2) := by decide +kernel
theorem dX9_buyer_95 : decode cX9_buyer 95 = .ok (.iload 9, 2) := by decide +kernel
theorem dX9_buyer_97 : decode cX9_buyer 97 = .ok (.istore 4, 2) := by decide +kernel
theorem dX9_buyer_99 : decode cX9_buyer 99 = .ok (.goto 12, 3) := by decide +kernel
theorem dX9_buyer_102 : decode cX9_buyer 102 = .ok (.lload 7, 2) := by decide +kernel
theorem dX9_buyer_104 : decode cX9_buyer 104 = .ok (.lload 10, 2) := by decide +kernel
theorem dX9_buyer_106 : decode cX9_buyer 106 = .ok (.invokestatic 205, 3) := by decide +kernel
theorem dX9_buyer_109 : decode cX9_buyer 109 = .ok (.lstore 7, 2) := by decide +kernel
theorem dX9_buyer_111 : decode cX9_buyer 111 = .ok (.iinc 9 1, 3) := by decide +kernel
theorem dX9_buyer_114 : decode cX9_buyer 114 = .ok (.goto (-61), 3) := by decide +kernel
theorem dX9_buyer_117 : decode cX9_buyer 117 = .ok (.iload_n 2, 1) := by decide +kernel
theorem dX9_buyer_118 : decode cX9_buyer 118 = .ok (.ifCond .ne 8, 3) := by decide +kernel
theorem dX9_buyer_121 : decode cX9_buyer 121 = .ok (.iload 4, 2) := by decide +kernel
theorem dX9_buyer_123 : decode cX9_buyer 123 = .ok (.goto 27, 3) := by decide +kernel
theorem dX9_buyer_126 : decode cX9_buyer 126 = .ok (.lload 7, 2) := by decide +kernel
theorem dX9_buyer_128 : decode cX9_buyer 128 = .ok (.aload_n 0, 1) := by decide +kernel
theorem dX9_buyer_129 : decode cX9_buyer 129 = .ok (.getfield 43, 3) := by decide +kernel
theorem dX9_buyer_132 : decode cX9_buyer 132 = .ok (.getfield 152, 3) := by decide +kernel
theorem dX9_buyer_135 : decode cX9_buyer 135 = .ok (.i2l, 1) := by decide +kernel
theorem dX9_buyer_136 : decode cX9_buyer 136 = .ok (.iload_n 2, 1) := by decide +kernel
theorem dX9_buyer_137 : decode cX9_buyer 137 = .ok (.iconst 2, 1) := by decide +kernel
theorem dX9_buyer_138 : decode cX9_buyer 138 = .ok (.if_icmp .ne 7, 3) := by decide +kernel
theorem dX9_buyer_141 : decode cX9_buyer 141 = .ok (.iconst 1, 1) := by decide +kernel
theorem dX9_buyer_142 : decode cX9_buyer 142 = .ok (.goto 4, 3) := by decide +kernel
theorem dX9_buyer_145 : decode cX9_buyer 145 = .ok (.iconst 0, 1) := by decide +kernel
theorem dX9_buyer_146 : decode cX9_buyer 146 = .ok (.invokestatic 155, 3) := by decide +kernel
theorem dX9_buyer_149 : decode cX9_buyer 149 = .ok (.l2i, 1) := by decide +kernel
theorem dX9_buyer_150 : decode cX9_buyer 150 = .ok (.ireturn, 1) := by decide +kernel
def tX9_buyer (g : ax_G) : Nat → ax_O := ax_nd 66 (ax_nd 32 (ax_nd 14 (ax_nd 5 (ax_nd 1 (ax_nd 0 (ax_lf 0 (ao_al 0 1)) (ax_lf 1 (ao_il 1 1))) (ax_nd 2 (ax_lf 2 (ao_inv g 5 9 3 yX9_begun cX9_begun 3 (some (.object "GluedHour$Republic")) 2 0 0 0 0)) (ax_lf 5 (ao_as 3 1)))) (ax_nd 7 (ax_nd 6 (ax_lf 6 (ao_al 3 1)) (ax_lf 7 (ao_ifnull 26))) (ax_nd 10 (ax_lf 10 (ao_al 3 1)) (ax_nd 11 (ax_lf 11 (ao_gi 6 6)) (ax_lf 14 (ao_if_eq 26)))))) (ax_nd 23 (ax_nd 18 (ax_nd 17 (ax_lf 17 (ao_il 2 1)) (ax_lf 18 (ao_if_lt 26))) (ax_nd 21 (ax_lf 21 (ao_il 2 1)) (ax_nd 22 (ax_lf 22 (ao_ic (2) 1)) (ax_lf 23 (ao_icmp_le 29))))) (ax_nd 28 (ax_nd 26 (ax_lf 26 (ao_ic (-1000000) 2)) (ax_lf 28 (ao_iret 0 0))) (ax_nd 29 (ax_lf 29 (ao_ic (0) 1)) (ax_nd 30 (ax_lf 30 (ao_is 4 2)) (ax_lf 32 (ao_al 0 1))))))) (ax_nd 48 (ax_nd 38 (ax_nd 34 (ax_nd 33 (ax_lf 33 (ao_ic (0) 1)) (ax_lf 34 (ao_al 0 1))) (ax_nd 35 (ax_lf 35 (ao_gr 9 3)) (ax_lf 38 (ao_ic (0) 1)))) (ax_nd 42 (ax_nd 39 (ax_lf 39 (ao_inv g 2 0 1 yX0_bestHour cX0_bestHour 6 (some .int) 2 0 0 0 0)) (ax_lf 42 (ao_inv g 3 9 2 yX9_gainBy cX9_gainBy 3 (some .long) 3 0 0 0 0))) (ax_nd 45 (ax_lf 45 (ao_ls 5 2)) (ax_nd 47 (ax_lf 47 (ao_lc (0) 1)) (ax_lf 48 (ao_ls 7 2)))))) (ax_nd 56 (ax_nd 51 (ax_nd 50 (ax_lf 50 (ao_ic (1) 1)) (ax_lf 51 (ao_is 9 2))) (ax_nd 53 (ax_lf 53 (ao_il 9 2)) (ax_nd 55 (ax_lf 55 (ao_al 3 1)) (ax_lf 56 (ao_gi 6 6))))) (ax_nd 62 (ax_nd 59 (ax_lf 59 (ao_icmp_ge 117)) (ax_lf 62 (ao_al 0 1))) (ax_nd 63 (ax_lf 63 (ao_il 9 2)) (ax_nd 65 (ax_lf 65 (ao_al 0 1)) (ax_lf 66 (ao_gr 9 3)))))))) (ax_nd 109 (ax_nd 87 (ax_nd 77 (ax_nd 71 (ax_nd 69 (ax_lf 69 (ao_il 9 2)) (ax_lf 71 (ao_inv g 2 0 1 yX0_bestHour cX0_bestHour 6 (some .int) 2 0 0 0 0))) (ax_nd 74 (ax_lf 74 (ao_inv g 3 9 2 yX9_gainBy cX9_gainBy 3 (some .long) 3 0 0 0 0)) (ax_lf 77 (ao_ls 10 2)))) (ax_nd 81 (ax_nd 79 (ax_lf 79 (ao_ll 10 2)) (ax_lf 81 (ao_ll 5 2))) (ax_nd 83 (ax_lf 83 ao_lcmp) (ax_nd 84 (ax_lf 84 (ao_if_le 102)) (ax_lf 87 (ao_ll 5 2)))))) (ax_nd 97 (ax_nd 91 (ax_nd 89 (ax_lf 89 (ao_ls 7 2)) (ax_lf 91 (ao_ll 10 2))) (ax_nd 93 (ax_lf 93 (ao_ls 5 2)) (ax_nd 95 (ax_lf 95 (ao_il 9 2)) (ax_lf 97 (ao_is 4 2))))) (ax_nd 102 (ax_nd 99 (ax_lf 99 (ao_goto 111)) (ax_lf 102 (ao_ll 7 2))) (ax_nd 104 (ax_lf 104 (ao_ll 10 2)) (ax_nd 106 (ax_lf 106 ao_lmax) (ax_lf 109 (ao_ls 7 2))))))) (ax_nd 132 (ax_nd 121 (ax_nd 114 (ax_nd 111 (ax_lf 111 (ao_iinc 9 (1))) (ax_lf 114 (ao_goto 53))) (ax_nd 117 (ax_lf 117 (ao_il 2 1)) (ax_nd 118 (ax_lf 118 (ao_if_ne 126)) (ax_lf 121 (ao_il 4 2))))) (ax_nd 126 (ax_nd 123 (ax_lf 123 (ao_goto 150)) (ax_lf 126 (ao_ll 7 2))) (ax_nd 128 (ax_lf 128 (ao_al 0 1)) (ax_nd 129 (ax_lf 129 (ao_gr 9 4)) (ax_lf 132 (ao_gi 3 2)))))) (ax_nd 141 (ax_nd 136 (ax_nd 135 (ax_lf 135 ao_i2l) (ax_lf 136 (ao_il 2 1))) (ax_nd 137 (ax_lf 137 (ao_ic (2) 1)) (ax_nd 138 (ax_lf 138 (ao_icmp_ne 145)) (ax_lf 141 (ao_ic (1) 1))))) (ax_nd 145 (ax_nd 142 (ax_lf 142 (ao_goto 146)) (ax_lf 145 (ao_ic (0) 1))) (ax_nd 146 (ax_lf 146 (ao_inv g 2 99 2 yX1_side cX1_side 7 (some .long) 3 0 0 0 0)) (ax_nd 149 (ax_lf 149 ao_l2i) (ax_lf 150 (ao_iret 0 0))))))))
theorem oX9_buyer (g : ax_G) : ∀ pc, ax_ok g cX9_buyer 12 (some .int) RX9 "buyer" 6 0 0 pc (tX9_buyer g pc) := ax_nd_ok (ax_nd_ok (ax_nd_ok (ax_nd_ok (ax_nd_ok (ax_nd_ok (ax_lf_ok (ak_aload_n rfl dX9_buyer_0)) (ax_lf_ok (ak_iload_n rfl dX9_buyer_1))) (ax_nd_ok (ax_lf_ok (ak_invV (by decide) (by decide) (by decide) rfl wd_645 wd_647 wd_13 wd_96 wd_648 ⟨by decide, by decide, by decide +kernel⟩ dX9_buyer_2)) (ax_lf_ok (ak_astore_n rfl (by decide) dX9_buyer_5)))) (ax_nd_ok (ax_nd_ok (ax_lf_ok (ak_aload_n rfl dX9_buyer_6)) (ax_lf_ok (ak_ifnull (by decide) dX9_buyer_7))) (ax_nd_ok (ax_lf_ok (ak_aload_n rfl dX9_buyer_10)) (ax_nd_ok (ax_lf_ok (ak_gi fF_X9_115 dX9_buyer_11)) (ax_lf_ok (ak_if_eq (by decide) dX9_buyer_14)))))) (ax_nd_ok (ax_nd_ok (ax_nd_ok (ax_lf_ok (ak_iload_n rfl dX9_buyer_17)) (ax_lf_ok (ak_if_lt (by decide) dX9_buyer_18))) (ax_nd_ok (ax_lf_ok (ak_iload_n rfl dX9_buyer_21)) (ax_nd_ok (ax_lf_ok (ak_iconst (by decide) dX9_buyer_22)) (ax_lf_ok (ak_icmp_le (by decide) dX9_buyer_23))))) (ax_nd_ok (ax_nd_ok (ax_lf_ok (ak_ldc wd_720 dX9_buyer_26)) (ax_lf_ok (ak_iret rfl dX9_buyer_28))) (ax_nd_ok (ax_lf_ok (ak_iconst (by decide) dX9_buyer_29)) (ax_nd_ok (ax_lf_ok (ak_istore (by decide) dX9_buyer_30)) (ax_lf_ok (ak_aload_n rfl dX9_buyer_32))))))) (ax_nd_ok (ax_nd_ok (ax_nd_ok (ax_nd_ok (ax_lf_ok (ak_iconst (by decide) dX9_buyer_33)) (ax_lf_ok (ak_aload_n rfl dX9_buyer_34))) (ax_nd_ok (ax_lf_ok (ak_gr fF_X9_36 dX9_buyer_35)) (ax_lf_ok (ak_iconst (by decide) dX9_buyer_38)))) (ax_nd_ok (ax_nd_ok (ax_lf_ok (ak_invV (by decide) (by decide) (by decide) rfl wd_804 wd_805 wd_806 wd_101 wd_807 ⟨by decide, by decide, by decide +kernel⟩ dX9_buyer_39)) (ax_lf_ok (ak_invV (by decide) (by decide) (by decide) rfl wd_796 wd_798 wd_14 wd_96 wd_799 ⟨by decide, by decide, by decide +kernel⟩ dX9_buyer_42))) (ax_nd_ok (ax_lf_ok (ak_lstore (by decide) dX9_buyer_45)) (ax_nd_ok (ax_lf_ok (ak_lconst (by decide) dX9_buyer_47)) (ax_lf_ok (ak_lstore (by decide) dX9_buyer_48)))))) (ax_nd_ok (ax_nd_ok (ax_nd_ok (ax_lf_ok (ak_iconst (by decide) dX9_buyer_50)) (ax_lf_ok (ak_istore (by decide) dX9_buyer_51))) (ax_nd_ok (ax_lf_ok (ak_iload dX9_buyer_53)) (ax_nd_ok (ax_lf_ok (ak_aload_n rfl dX9_buyer_55)) (ax_lf_ok (ak_gi fF_X9_115 dX9_buyer_56))))) (ax_nd_ok (ax_nd_ok (ax_lf_ok (ak_icmp_ge (by decide) dX9_buyer_59)) (ax_lf_ok (ak_aload_n rfl dX9_buyer_62))) (ax_nd_ok (ax_lf_ok (ak_iload dX9_buyer_63)) (ax_nd_ok (ax_lf_ok (ak_aload_n rfl dX9_buyer_65)) (ax_lf_ok (ak_gr fF_X9_36 dX9_buyer_66)))))))) (ax_nd_ok (ax_nd_ok (ax_nd_ok (ax_nd_ok (ax_nd_ok (ax_lf_ok (ak_iload dX9_buyer_69)) (ax_lf_ok (ak_invV (by decide) (by decide) (by decide) rfl wd_804 wd_805 wd_806 wd_101 wd_807 ⟨by decide, by decide, by decide +kernel⟩ dX9_buyer_71))) (ax_nd_ok (ax_lf_ok (ak_invV (by decide) (by decide) (by decide) rfl wd_796 wd_798 wd_14 wd_96 wd_799 ⟨by decide, by decide, by decide +kernel⟩ dX9_buyer_74)) (ax_lf_ok (ak_lstore (by decide) dX9_buyer_77)))) (ax_nd_ok (ax_nd_ok (ax_lf_ok (ak_lload dX9_buyer_79)) (ax_lf_ok (ak_lload dX9_buyer_81))) (ax_nd_ok (ax_lf_ok (ak_lcmp dX9_buyer_83)) (ax_nd_ok (ax_lf_ok (ak_if_le (by decide) dX9_buyer_84)) (ax_lf_ok (ak_lload dX9_buyer_87)))))) (ax_nd_ok (ax_nd_ok (ax_nd_ok (ax_lf_ok (ak_lstore (by decide) dX9_buyer_89)) (ax_lf_ok (ak_lload dX9_buyer_91))) (ax_nd_ok (ax_lf_ok (ak_lstore (by decide) dX9_buyer_93)) (ax_nd_ok (ax_lf_ok (ak_iload dX9_buyer_95)) (ax_lf_ok (ak_istore (by decide) dX9_buyer_97))))) (ax_nd_ok (ax_nd_ok (ax_lf_ok (ak_goto (by decide) dX9_buyer_99)) (ax_lf_ok (ak_lload dX9_buyer_102))) (ax_nd_ok (ax_lf_ok (ak_lload dX9_buyer_104)) (ax_nd_ok (ax_lf_ok (ak_lmax (by decide) wd_812 wd_739 wd_107 wd_740 dX9_buyer_106)) (ax_lf_ok (ak_lstore (by decide) dX9_buyer_109))))))) (ax_nd_ok (ax_nd_ok (ax_nd_ok (ax_nd_ok (ax_lf_ok (ak_iinc (by decide) (by decide) dX9_buyer_111)) (ax_lf_ok (ak_goto (by decide) dX9_buyer_114))) (ax_nd_ok (ax_lf_ok (ak_iload_n rfl dX9_buyer_117)) (ax_nd_ok (ax_lf_ok (ak_if_ne (by decide) dX9_buyer_118)) (ax_lf_ok (ak_iload dX9_buyer_121))))) (ax_nd_ok (ax_nd_ok (ax_lf_ok (ak_goto (by decide) dX9_buyer_123)) (ax_lf_ok (ak_lload dX9_buyer_126))) (ax_nd_ok (ax_lf_ok (ak_aload_n rfl dX9_buyer_128)) (ax_nd_ok (ax_lf_ok (ak_gr fF_X9_43 dX9_buyer_129)) (ax_lf_ok (ak_gi fF_X9_152 dX9_buyer_132)))))) (ax_nd_ok (ax_nd_ok (ax_nd_ok (ax_lf_ok (ak_i2l dX9_buyer_135)) (ax_lf_ok (ak_iload_n rfl dX9_buyer_136))) (ax_nd_ok (ax_lf_ok (ak_iconst (by decide) dX9_buyer_137)) (ax_nd_ok (ax_lf_ok (ak_icmp_ne (by decide) dX9_buyer_138)) (ax_lf_ok (ak_iconst (by decide) dX9_buyer_141))))) (ax_nd_ok (ax_nd_ok (ax_lf_ok (ak_goto (by decide) dX9_buyer_142)) (ax_lf_ok (ak_iconst (by decide) dX9_buyer_145))) (ax_nd_ok (ax_lf_ok (ak_invS (by decide) (by decide) wd_729 wd_730 wd_105 wd_731 ⟨by decide, by decide, by decide +kernel⟩ dX9_buyer_146)) (ax_nd_ok (ax_lf_ok (ak_l2i dX9_buyer_149)) (ax_lf_ok (ak_iret rfl dX9_buyer_150))))))))
abbrev mX9_buyer (g : ax_G) (as : List Value) (h : ax_H) (Ret : Option Value → ax_H → Prop) : Prop := ax_M g 6 0 0 yX9_buyer cX9_buyer 12 (some .int) as h Ret
end
