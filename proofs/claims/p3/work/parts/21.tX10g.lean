section
theorem dX10_free_0 : decode cX10_free 0 = .ok (.aload_n 0, 1) := by decide +kernel
theorem dX10_free_1 : decode cX10_free 1 = .ok (.iconst 0, 1) := by decide +kernel
theorem dX10_free_2 : decode cX10_free 2 = .ok (.putfield 88, 3) := by decide +kernel
theorem dX10_free_5 : decode cX10_free 5 = .ok (.aload_n 0, 1) := by decide +kernel
theorem dX10_free_6 : decode cX10_free 6 = .ok (.iload_n 2, 1) := by decide +kernel
theorem dX10_free_7 : decode cX10_free 7 = .ok (.invokevirtual 377, 3) := by decide +kernel
theorem dX10_free_10 : decode cX10_free 10 = .ok (.ifCond .eq 11, 3) := by decide +kernel
theorem dX10_free_13 : decode cX10_free 13 = .ok (.aload_n 0, 1) := by decide +kernel
theorem dX10_free_14 : decode cX10_free 14 = .ok (.iload_n 1, 1) := by decide +kernel
theorem dX10_free_15 : decode cX10_free 15 = .ok (.invokevirtual 288, 3) := by decide +kernel
theorem dX10_free_18 : decode cX10_free 18 = .ok (.ifCond .ne 7, 3) := by decide +kernel
theorem dX10_free_21 : decode cX10_free 21 = .ok (.ldc_w 300, 3) := by decide +kernel
theorem dX10_free_24 : decode cX10_free 24 = .ok (.ireturn, 1) := by decide +kernel
theorem dX10_free_25 : decode cX10_free 25 = .ok (.aload_n 0, 1) := by decide +kernel
theorem dX10_free_26 : decode cX10_free 26 = .ok (.iconst (-1), 1) := by decide +kernel
theorem dX10_free_27 : decode cX10_free 27 = .ok (.invokevirtual 401, 3) := by decide +kernel
theorem dX10_free_30 : decode cX10_free 30 = .ok (.lstore 4, 2) := by decide +kernel
theorem dX10_free_32 : decode cX10_free 32 = .ok (.aload_n 0, 1) := by decide +kernel
theorem dX10_free_33 : decode cX10_free 33 = .ok (.iconst 1, 1) := by decide +kernel
theorem dX10_free_34 : decode cX10_free 34 = .ok (.putfield 368, 3) := by decide +kernel
theorem dX10_free_37 : decode cX10_free 37 = .ok (.aload_n 0, 1) := by decide +kernel
theorem dX10_free_38 : decode cX10_free 38 = .ok (.iconst (-1), 1) := by decide +kernel
theorem dX10_free_39 : decode cX10_free 39 = .ok (.invokevirtual 401, 3) := by decide +kernel
theorem dX10_free_42 : decode cX10_free 42 = .ok (.lstore 6, 2) := by decide +kernel
theorem dX10_free_44 : decode cX10_free 44 = .ok (.aload_n 0, 1) := by decide +kernel
theorem dX10_free_45 : decode cX10_free 45 = .ok (.iconst 0, 1) := by decide +kernel
theorem dX10_free_46 : decode cX10_free 46 = .ok (.putfield 368, 3) := by decide +kernel
theorem dX10_free_49 : decode cX10_free 49 = .ok (.lload 4, 2) := by decide +kernel
theorem dX10_free_51 : decode cX10_free 51 = .ok (.ldc2_w 380, 3) := by decide +kernel
theorem dX10_free_54 : decode cX10_free 54 = .ok (.lcmp, 1) := by decide +kernel
theorem dX10_free_55 : decode cX10_free 55 = .ok (.ifCond .eq 12, 3) := by decide +kernel
theorem dX10_free_58 : decode cX10_free 58 = .ok (.lload 6, 2) := by decide +kernel
theorem dX10_free_60 : decode cX10_free 60 = .ok (.ldc2_w 380, 3) := by decide +kernel
theorem dX10_free_63 : decode cX10_free 63 = .ok (.lcmp, 1) := by decide +kernel
theorem dX10_free_64 : decode cX10_free 64 = .ok (.ifCond .ne 9, 3) := by decide +kernel
theorem dX10_free_67 : decode cX10_free 67 = .ok (.ldc_w 300, 3) := by decide +kernel
theorem dX10_free_70 : decode cX10_free 70 = .ok (.goto 18, 3) := by decide +kernel
theorem dX10_free_73 : decode cX10_free 73 = .ok (.lload 6, 2) := by decide +kernel
theorem dX10_free_75 : decode cX10_free 75 = .ok (.lload 4, 2) := by decide +kernel
theorem dX10_free_77 : decode cX10_free 77 = .ok (.lsub, 1) := by decide +kernel
theorem dX10_free_78 : decode cX10_free 78 = .ok (.aload_n 0, 1) := by decide +kernel
theorem dX10_free_79 : decode cX10_free 79 = .ok (.getfield 279, 3) := by decide +kernel
theorem dX10_free_82 : decode cX10_free 82 = .ok (.i2l, 1) := by decide +kernel
theorem dX10_free_83 : decode cX10_free 83 = .ok (.iload_n 3, 1) := by decide +kernel
theorem dX10_free_84 : decode cX10_free 84 = .ok (.invokestatic 308, 3) := by decide +kernel
theorem dX10_free_87 : decode cX10_free 87 = .ok (.l2i, 1) := by decide +kernel
theorem dX10_free_88 : decode cX10_free 88 = .ok (.ireturn, 1) := by decide +kernel
def tX10_free (g : ax_G) : Nat → ax_O := ax_nd 39 (ax_nd 18 (ax_nd 6 (ax_nd 1 (ax_nd 0 (ax_lf 0 (ao_al 0 1)) (ax_lf 1 (ao_ic (0) 1))) (ax_nd 2 (ax_lf 2 (ao_pi 10 0)) (ax_nd 5 (ax_lf 5 (ao_al 0 1)) (ax_lf 6 (ao_il 2 1))))) (ax_nd 13 (ax_nd 7 (ax_lf 7 (ao_inv g 3 10 1 yX10_hasErrands cX10_hasErrands 2 (some .boolean) 2 0 0 0 0)) (ax_nd 10 (ax_lf 10 (ao_if_eq 21)) (ax_lf 13 (ao_al 0 1)))) (ax_nd 14 (ax_lf 14 (ao_il 1 1)) (ax_nd 15 (ax_lf 15 (ao_inv g 6 10 1 yX10_hand cX10_hand 4 (some .boolean) 2 0 0 0 0)) (ax_lf 18 (ao_if_ne 25)))))) (ax_nd 30 (ax_nd 25 (ax_nd 21 (ax_lf 21 (ao_ic (-1000000) 3)) (ax_nd 24 (ax_lf 24 (ao_iret 0 0)) (ax_lf 25 (ao_al 0 1)))) (ax_nd 26 (ax_lf 26 (ao_ic (-1) 1)) (ax_nd 27 (ax_lf 27 (ao_inv g 13 10 2 yX10_findBest cX10_findBest 4 (some .long) 2 0 0 0 0)) (ax_lf 30 (ao_ls 4 2))))) (ax_nd 34 (ax_nd 32 (ax_lf 32 (ao_al 0 1)) (ax_nd 33 (ax_lf 33 (ao_ic (1) 1)) (ax_lf 34 (ao_pz 10 45)))) (ax_nd 37 (ax_lf 37 (ao_al 0 1)) (ax_nd 38 (ax_lf 38 (ao_ic (-1) 1)) (ax_lf 39 (ao_inv g 13 10 2 yX10_findBest cX10_findBest 4 (some .long) 2 0 0 0 0))))))) (ax_nd 64 (ax_nd 51 (ax_nd 45 (ax_nd 42 (ax_lf 42 (ao_ls 6 2)) (ax_nd 44 (ax_lf 44 (ao_al 0 1)) (ax_lf 45 (ao_ic (0) 1)))) (ax_nd 46 (ax_lf 46 (ao_pz 10 45)) (ax_nd 49 (ax_lf 49 (ao_ll 4 2)) (ax_lf 51 (ao_lc (-1000000000000) 3))))) (ax_nd 58 (ax_nd 54 (ax_lf 54 ao_lcmp) (ax_nd 55 (ax_lf 55 (ao_if_eq 67)) (ax_lf 58 (ao_ll 6 2)))) (ax_nd 60 (ax_lf 60 (ao_lc (-1000000000000) 3)) (ax_nd 63 (ax_lf 63 ao_lcmp) (ax_lf 64 (ao_if_ne 73)))))) (ax_nd 78 (ax_nd 73 (ax_nd 67 (ax_lf 67 (ao_ic (-1000000) 3)) (ax_nd 70 (ax_lf 70 (ao_goto 88)) (ax_lf 73 (ao_ll 6 2)))) (ax_nd 75 (ax_lf 75 (ao_ll 4 2)) (ax_nd 77 (ax_lf 77 ao_lsub) (ax_lf 78 (ao_al 0 1))))) (ax_nd 83 (ax_nd 79 (ax_lf 79 (ao_gi 10 32)) (ax_nd 82 (ax_lf 82 ao_i2l) (ax_lf 83 (ao_il 3 1)))) (ax_nd 84 (ax_lf 84 (ao_inv g 2 99 2 yX10_part cX10_part 7 (some .long) 3 0 0 0 0)) (ax_nd 87 (ax_lf 87 ao_l2i) (ax_lf 88 (ao_iret 0 0)))))))
theorem oX10_free (g : ax_G) : ∀ pc, ax_ok g cX10_free 8 (some .int) RX10 "free" 14 0 0 pc (tX10_free g pc) := ax_nd_ok (ax_nd_ok (ax_nd_ok (ax_nd_ok (ax_nd_ok (ax_lf_ok (ak_aload_n rfl dX10_free_0)) (ax_lf_ok (ak_iconst (by decide) dX10_free_1))) (ax_nd_ok (ax_lf_ok (ak_pi fF_X10_88 fW_X10_88_a dX10_free_2)) (ax_nd_ok (ax_lf_ok (ak_aload_n rfl dX10_free_5)) (ax_lf_ok (ak_iload_n rfl dX10_free_6))))) (ax_nd_ok (ax_nd_ok (ax_lf_ok (ak_invV (by decide) (by decide) (by decide) rfl wd_1524 wd_1526 wd_67 wd_106 wd_1527 ⟨by decide, by decide, by decide +kernel⟩ dX10_free_7)) (ax_nd_ok (ax_lf_ok (ak_if_eq (by decide) dX10_free_10)) (ax_lf_ok (ak_aload_n rfl dX10_free_13)))) (ax_nd_ok (ax_lf_ok (ak_iload_n rfl dX10_free_14)) (ax_nd_ok (ax_lf_ok (ak_invV (by decide) (by decide) (by decide) rfl wd_1356 wd_1358 wd_44 wd_106 wd_1359 ⟨by decide, by decide, by decide +kernel⟩ dX10_free_15)) (ax_lf_ok (ak_if_ne (by decide) dX10_free_18)))))) (ax_nd_ok (ax_nd_ok (ax_nd_ok (ax_lf_ok (ak_ldcw wd_1407 dX10_free_21)) (ax_nd_ok (ax_lf_ok (ak_iret rfl dX10_free_24)) (ax_lf_ok (ak_aload_n rfl dX10_free_25)))) (ax_nd_ok (ax_lf_ok (ak_iconst (by decide) dX10_free_26)) (ax_nd_ok (ax_lf_ok (ak_invV (by decide) (by decide) (by decide) rfl wd_1536 wd_1538 wd_69 wd_106 wd_1539 ⟨by decide, by decide, by decide +kernel⟩ dX10_free_27)) (ax_lf_ok (ak_lstore (by decide) dX10_free_30))))) (ax_nd_ok (ax_nd_ok (ax_lf_ok (ak_aload_n rfl dX10_free_32)) (ax_nd_ok (ax_lf_ok (ak_iconst (by decide) dX10_free_33)) (ax_lf_ok (ak_pz fF_X10_368 fW_X10_368_a dX10_free_34)))) (ax_nd_ok (ax_lf_ok (ak_aload_n rfl dX10_free_37)) (ax_nd_ok (ax_lf_ok (ak_iconst (by decide) dX10_free_38)) (ax_lf_ok (ak_invV (by decide) (by decide) (by decide) rfl wd_1536 wd_1538 wd_69 wd_106 wd_1539 ⟨by decide, by decide, by decide +kernel⟩ dX10_free_39))))))) (ax_nd_ok (ax_nd_ok (ax_nd_ok (ax_nd_ok (ax_lf_ok (ak_lstore (by decide) dX10_free_42)) (ax_nd_ok (ax_lf_ok (ak_aload_n rfl dX10_free_44)) (ax_lf_ok (ak_iconst (by decide) dX10_free_45)))) (ax_nd_ok (ax_lf_ok (ak_pz fF_X10_368 fW_X10_368_a dX10_free_46)) (ax_nd_ok (ax_lf_ok (ak_lload dX10_free_49)) (ax_lf_ok (ak_ldc2 wd_1544 dX10_free_51))))) (ax_nd_ok (ax_nd_ok (ax_lf_ok (ak_lcmp dX10_free_54)) (ax_nd_ok (ax_lf_ok (ak_if_eq (by decide) dX10_free_55)) (ax_lf_ok (ak_lload dX10_free_58)))) (ax_nd_ok (ax_lf_ok (ak_ldc2 wd_1544 dX10_free_60)) (ax_nd_ok (ax_lf_ok (ak_lcmp dX10_free_63)) (ax_lf_ok (ak_if_ne (by decide) dX10_free_64)))))) (ax_nd_ok (ax_nd_ok (ax_nd_ok (ax_lf_ok (ak_ldcw wd_1407 dX10_free_67)) (ax_nd_ok (ax_lf_ok (ak_goto (by decide) dX10_free_70)) (ax_lf_ok (ak_lload dX10_free_73)))) (ax_nd_ok (ax_lf_ok (ak_lload dX10_free_75)) (ax_nd_ok (ax_lf_ok (ak_lsub dX10_free_77)) (ax_lf_ok (ak_aload_n rfl dX10_free_78))))) (ax_nd_ok (ax_nd_ok (ax_lf_ok (ak_gi fF_X10_279 dX10_free_79)) (ax_nd_ok (ax_lf_ok (ak_i2l dX10_free_82)) (ax_lf_ok (ak_iload_n rfl dX10_free_83)))) (ax_nd_ok (ax_lf_ok (ak_invS (by decide) (by decide) wd_1416 wd_1417 wd_106 wd_1418 ⟨by decide, by decide, by decide +kernel⟩ dX10_free_84)) (ax_nd_ok (ax_lf_ok (ak_l2i dX10_free_87)) (ax_lf_ok (ak_iret rfl dX10_free_88)))))))
abbrev mX10_free (g : ax_G) (as : List Value) (h : ax_H) (Ret : Option Value → ax_H → Prop) : Prop := ax_M g 14 0 0 yX10_free cX10_free 8 (some .int) as h Ret
theorem dX10_count_0 : decode cX10_count 0 = .ok (.aload_n 0, 1) := by decide +kernel
theorem dX10_count_1 : decode cX10_count 1 = .ok (.iconst 0, 1) := by decide +kernel
theorem dX10_count_2 : decode cX10_count 2 = .ok (.putfield 88, 3) := by decide +kernel
theorem dX10_count_5 : decode cX10_count 5 = .ok (.iload_n 1, 1) := by decide +kernel
theorem dX10_count_6 : decode cX10_count 6 = .ok (.iconst 0, 1) := by decide +kernel
theorem dX10_count_7 : decode cX10_count 7 = .ok (.iconst 4, 1) := by decide +kernel
theorem dX10_count_8 : decode cX10_count 8 = .ok (.invokestatic 96, 3) := by decide +kernel
theorem dX10_count_11 : decode cX10_count 11 = .ok (.ifCond .eq 12, 3) := by decide +kernel
theorem dX10_count_14 : decode cX10_count 14 = .ok (.aload_n 0, 1) := by decide +kernel
theorem dX10_count_15 : decode cX10_count 15 = .ok (.getfield 23, 3) := by decide +kernel
theorem dX10_count_18 : decode cX10_count 18 = .ok (.iload_n 1, 1) := by decide +kernel
theorem dX10_count_19 : decode cX10_count 19 = .ok (.iaload, 1) := by decide +kernel
theorem dX10_count_20 : decode cX10_count 20 = .ok (.goto 5, 3) := by decide +kernel
theorem dX10_count_23 : decode cX10_count 23 = .ok (.bipush (-2), 2) := by decide +kernel
theorem dX10_count_25 : decode cX10_count 25 = .ok (.ireturn, 1) := by decide +kernel
def tX10_count (g : ax_G) : Nat → ax_O := ax_nd 8 (ax_nd 2 (ax_nd 0 (ax_lf 0 (ao_al 0 1)) (ax_nd 1 (ax_lf 1 (ao_ic (0) 1)) (ax_lf 2 (ao_pi 10 0)))) (ax_nd 6 (ax_nd 5 (ax_lf 5 (ao_il 1 1)) (ax_lf 6 (ao_ic (0) 1))) (ax_nd 7 (ax_lf 7 (ao_ic (4) 1)) (ax_lf 8 (ao_inv g 1 99 1 yX10_in cX10_in 3 (some .boolean) 3 0 0 0 0))))) (ax_nd 18 (ax_nd 14 (ax_nd 11 (ax_lf 11 (ao_if_eq 23)) (ax_lf 14 (ao_al 0 1))) (ax_nd 15 (ax_lf 15 (ao_gr 10 5)) (ax_lf 18 (ao_il 1 1)))) (ax_nd 20 (ax_nd 19 (ax_lf 19 ao_iald) (ax_lf 20 (ao_goto 25))) (ax_nd 23 (ax_lf 23 (ao_ic (-2) 2)) (ax_lf 25 (ao_iret 0 0)))))
theorem oX10_count (g : ax_G) : ∀ pc, ax_ok g cX10_count 2 (some .int) RX10 "count" 2 0 0 pc (tX10_count g pc) := ax_nd_ok (ax_nd_ok (ax_nd_ok (ax_lf_ok (ak_aload_n rfl dX10_count_0)) (ax_nd_ok (ax_lf_ok (ak_iconst (by decide) dX10_count_1)) (ax_lf_ok (ak_pi fF_X10_88 fW_X10_88_a dX10_count_2)))) (ax_nd_ok (ax_nd_ok (ax_lf_ok (ak_iload_n rfl dX10_count_5)) (ax_lf_ok (ak_iconst (by decide) dX10_count_6))) (ax_nd_ok (ax_lf_ok (ak_iconst (by decide) dX10_count_7)) (ax_lf_ok (ak_invS (by decide) (by decide) wd_1244 wd_1245 wd_106 wd_1246 ⟨by decide, by decide, by decide +kernel⟩ dX10_count_8))))) (ax_nd_ok (ax_nd_ok (ax_nd_ok (ax_lf_ok (ak_if_eq (by decide) dX10_count_11)) (ax_lf_ok (ak_aload_n rfl dX10_count_14))) (ax_nd_ok (ax_lf_ok (ak_gr fF_X10_23 dX10_count_15)) (ax_lf_ok (ak_iload_n rfl dX10_count_18)))) (ax_nd_ok (ax_nd_ok (ax_lf_ok (ak_iald dX10_count_19)) (ax_lf_ok (ak_goto (by decide) dX10_count_20))) (ax_nd_ok (ax_lf_ok (ak_bipush (by decide) dX10_count_23)) (ax_lf_ok (ak_iret rfl dX10_count_25)))))
abbrev mX10_count (g : ax_G) (as : List Value) (h : ax_H) (Ret : Option Value → ax_H → Prop) : Prop := ax_M g 2 0 0 yX10_count cX10_count 2 (some .int) as h Ret
theorem dX10_image_0 : decode cX10_image 0 = .ok (.aload_n 0, 1) := by decide +kernel
theorem dX10_image_1 : decode cX10_image 1 = .ok (.iconst 0, 1) := by decide +kernel
theorem dX10_image_2 : decode cX10_image 2 = .ok (.putfield 88, 3) := by decide +kernel
theorem dX10_image_5 : decode cX10_image 5 = .ok (.iload_n 1, 1) := by decide +kernel
theorem dX10_image_6 : decode cX10_image 6 = .ok (.iconst 0, 1) := by decide +kernel
theorem dX10_image_7 : decode cX10_image 7 = .ok (.iconst 2, 1) := by decide +kernel
theorem dX10_image_8 : decode cX10_image 8 = .ok (.invokestatic 96, 3) := by decide +kernel
theorem dX10_image_11 : decode cX10_image 11 = .ok (.ifCond .ne 5, 3) := by decide +kernel
theorem dX10_image_14 : decode cX10_image 14 = .ok (.iconst 0, 1) := by decide +kernel
theorem dX10_image_15 : decode cX10_image 15 = .ok (.ireturn, 1) := by decide +kernel
theorem dX10_image_16 : decode cX10_image 16 = .ok (.aload_n 0, 1) := by decide +kernel
theorem dX10_image_17 : decode cX10_image 17 = .ok (.iconst 0, 1) := by decide +kernel
theorem dX10_image_18 : decode cX10_image 18 = .ok (.iload_n 1, 1) := by decide +kernel
theorem dX10_image_19 : decode cX10_image 19 = .ok (.iconst 1, 1) := by decide +kernel
theorem dX10_image_20 : decode cX10_image 20 = .ok (.iadd, 1) := by decide +kernel
theorem dX10_image_21 : decode cX10_image 21 = .ok (.invokevirtual 493, 3) := by decide +kernel
theorem dX10_image_24 : decode cX10_image 24 = .ok (.aload_n 0, 1) := by decide +kernel
theorem dX10_image_25 : decode cX10_image 25 = .ok (.getfield 84, 3) := by decide +kernel
theorem dX10_image_28 : decode cX10_image 28 = .ok (.iload_n 1, 1) := by decide +kernel
theorem dX10_image_29 : decode cX10_image 29 = .ok (.iconst 1, 1) := by decide +kernel
theorem dX10_image_30 : decode cX10_image 30 = .ok (.bastore, 1) := by decide +kernel
theorem dX10_image_31 : decode cX10_image 31 = .ok (.iconst 1, 1) := by decide +kernel
theorem dX10_image_32 : decode cX10_image 32 = .ok (.ireturn, 1) := by decide +kernel
def tX10_image (g : ax_G) : Nat → ax_O := ax_nd 16 (ax_nd 6 (ax_nd 1 (ax_nd 0 (ax_lf 0 (ao_al 0 1)) (ax_lf 1 (ao_ic (0) 1))) (ax_nd 2 (ax_lf 2 (ao_pi 10 0)) (ax_nd 5 (ax_lf 5 (ao_il 1 1)) (ax_lf 6 (ao_ic (0) 1))))) (ax_nd 11 (ax_nd 7 (ax_lf 7 (ao_ic (2) 1)) (ax_nd 8 (ax_lf 8 (ao_inv g 1 99 1 yX10_in cX10_in 3 (some .boolean) 3 0 0 0 0)) (ax_lf 11 (ao_if_ne 16)))) (ax_nd 14 (ax_lf 14 (ao_ic (0) 1)) (ax_nd 15 (ax_lf 15 (ao_zret 0 0)) (ax_lf 16 (ao_al 0 1)))))) (ax_nd 24 (ax_nd 19 (ax_nd 17 (ax_lf 17 (ao_ic (0) 1)) (ax_nd 18 (ax_lf 18 (ao_il 1 1)) (ax_lf 19 (ao_ic (1) 1)))) (ax_nd 20 (ax_lf 20 ao_iadd) (ax_nd 21 (ax_lf 21 (ao_inv g 2 10 0 yX10_copyAll cX10_copyAll 4 none 3 0 0 0 0)) (ax_lf 24 (ao_al 0 1))))) (ax_nd 29 (ax_nd 25 (ax_lf 25 (ao_gr 10 58)) (ax_nd 28 (ax_lf 28 (ao_il 1 1)) (ax_lf 29 (ao_ic (1) 1)))) (ax_nd 30 (ax_lf 30 ao_zast) (ax_nd 31 (ax_lf 31 (ao_ic (1) 1)) (ax_lf 32 (ao_zret 0 0))))))
theorem oX10_image (g : ax_G) : ∀ pc, ax_ok g cX10_image 2 (some .boolean) RX10 "image" 3 0 0 pc (tX10_image g pc) := ax_nd_ok (ax_nd_ok (ax_nd_ok (ax_nd_ok (ax_lf_ok (ak_aload_n rfl dX10_image_0)) (ax_lf_ok (ak_iconst (by decide) dX10_image_1))) (ax_nd_ok (ax_lf_ok (ak_pi fF_X10_88 fW_X10_88_a dX10_image_2)) (ax_nd_ok (ax_lf_ok (ak_iload_n rfl dX10_image_5)) (ax_lf_ok (ak_iconst (by decide) dX10_image_6))))) (ax_nd_ok (ax_nd_ok (ax_lf_ok (ak_iconst (by decide) dX10_image_7)) (ax_nd_ok (ax_lf_ok (ak_invS (by decide) (by decide) wd_1244 wd_1245 wd_106 wd_1246 ⟨by decide, by decide, by decide +kernel⟩ dX10_image_8)) (ax_lf_ok (ak_if_ne (by decide) dX10_image_11)))) (ax_nd_ok (ax_lf_ok (ak_iconst (by decide) dX10_image_14)) (ax_nd_ok (ax_lf_ok (ak_zret rfl dX10_image_15)) (ax_lf_ok (ak_aload_n rfl dX10_image_16)))))) (ax_nd_ok (ax_nd_ok (ax_nd_ok (ax_lf_ok (ak_iconst (by decide) dX10_image_17)) (ax_nd_ok (ax_lf_ok (ak_iload_n rfl dX10_image_18)) (ax_lf_ok (ak_iconst (by decide) dX10_image_19)))) (ax_nd_ok (ax_lf_ok (ak_iadd dX10_image_20)) (ax_nd_ok (ax_lf_ok (ak_invV (by decide) (by decide) (by decide) rfl wd_1703 wd_1705 wd_94 wd_106 wd_1706 ⟨by decide, by decide, by decide +kernel⟩ dX10_image_21)) (ax_lf_ok (ak_aload_n rfl dX10_image_24))))) (ax_nd_ok (ax_nd_ok (ax_lf_ok (ak_gr fF_X10_84 dX10_image_25)) (ax_nd_ok (ax_lf_ok (ak_iload_n rfl dX10_image_28)) (ax_lf_ok (ak_iconst (by decide) dX10_image_29)))) (ax_nd_ok (ax_lf_ok (ak_zast dX10_image_30)) (ax_nd_ok (ax_lf_ok (ak_iconst (by decide) dX10_image_31)) (ax_lf_ok (ak_zret rfl dX10_image_32))))))
abbrev mX10_image (g : ax_G) (as : List Value) (h : ax_H) (Ret : Option Value → ax_H → Prop) : Prop := ax_M g 3 0 0 yX10_image cX10_image 2 (some .boolean) as h Ret
theorem dX10_again_0 : decode cX10_again 0 = .ok (.aload_n 0, 1) := by decide +kernel
theorem dX10_again_1 : decode cX10_again 1 = .ok (.iconst 0, 1) := by decide +kernel
theorem dX10_again_2 : decode cX10_again 2 = .ok (.putfield 88, 3) := by decide +kernel
theorem dX10_again_5 : decode cX10_again 5 = .ok (.iload_n 1, 1) := by decide +kernel
theorem dX10_again_6 : decode cX10_again 6 = .ok (.iconst 0, 1) := by decide +kernel
theorem dX10_again_7 : decode cX10_again 7 = .ok (.iconst 2, 1) := by decide +kernel
theorem dX10_again_8 : decode cX10_again 8 = .ok (.invokestatic 96, 3) := by decide +kernel
theorem dX10_again_11 : decode cX10_again 11 = .ok (.ifCond .eq 12, 3) := by decide +kernel
theorem dX10_again_14 : decode cX10_again 14 = .ok (.aload_n 0, 1) := by decide +kernel
theorem dX10_again_15 : decode cX10_again 15 = .ok (.getfield 84, 3) := by decide +kernel
theorem dX10_again_18 : decode cX10_again 18 = .ok (.iload_n 1, 1) := by decide +kernel
theorem dX10_again_19 : decode cX10_again 19 = .ok (.baload, 1) := by decide +kernel
theorem dX10_again_20 : decode cX10_again 20 = .ok (.ifCond .ne 5, 3) := by decide +kernel
theorem dX10_again_23 : decode cX10_again 23 = .ok (.iconst 0, 1) := by decide +kernel
theorem dX10_again_24 : decode cX10_again 24 = .ok (.ireturn, 1) := by decide +kernel
theorem dX10_again_25 : decode cX10_again 25 = .ok (.aload_n 0, 1) := by decide +kernel
theorem dX10_again_26 : decode cX10_again 26 = .ok (.iload_n 1, 1) := by decide +kernel
theorem dX10_again_27 : decode cX10_again 27 = .ok (.iconst 1, 1) := by decide +kernel
theorem dX10_again_28 : decode cX10_again 28 = .ok (.iadd, 1) := by decide +kernel
theorem dX10_again_29 : decode cX10_again 29 = .ok (.iconst 0, 1) := by decide +kernel
theorem dX10_again_30 : decode cX10_again 30 = .ok (.invokevirtual 493, 3) := by decide +kernel
theorem dX10_again_33 : decode cX10_again 33 = .ok (.iconst 1, 1) := by decide +kernel
theorem dX10_again_34 : decode cX10_again 34 = .ok (.ireturn, 1) := by decide +kernel
def tX10_again (g : ax_G) : Nat → ax_O := ax_nd 18 (ax_nd 6 (ax_nd 1 (ax_nd 0 (ax_lf 0 (ao_al 0 1)) (ax_lf 1 (ao_ic (0) 1))) (ax_nd 2 (ax_lf 2 (ao_pi 10 0)) (ax_nd 5 (ax_lf 5 (ao_il 1 1)) (ax_lf 6 (ao_ic (0) 1))))) (ax_nd 11 (ax_nd 7 (ax_lf 7 (ao_ic (2) 1)) (ax_nd 8 (ax_lf 8 (ao_inv g 1 99 1 yX10_in cX10_in 3 (some .boolean) 3 0 0 0 0)) (ax_lf 11 (ao_if_eq 23)))) (ax_nd 14 (ax_lf 14 (ao_al 0 1)) (ax_nd 15 (ax_lf 15 (ao_gr 10 58)) (ax_lf 18 (ao_il 1 1)))))) (ax_nd 26 (ax_nd 23 (ax_nd 19 (ax_lf 19 (ao_bald 13)) (ax_nd 20 (ax_lf 20 (ao_if_ne 25)) (ax_lf 23 (ao_ic (0) 1)))) (ax_nd 24 (ax_lf 24 (ao_zret 0 0)) (ax_nd 25 (ax_lf 25 (ao_al 0 1)) (ax_lf 26 (ao_il 1 1))))) (ax_nd 29 (ax_nd 27 (ax_lf 27 (ao_ic (1) 1)) (ax_nd 28 (ax_lf 28 ao_iadd) (ax_lf 29 (ao_ic (0) 1)))) (ax_nd 30 (ax_lf 30 (ao_inv g 2 10 0 yX10_copyAll cX10_copyAll 4 none 3 0 0 0 0)) (ax_nd 33 (ax_lf 33 (ao_ic (1) 1)) (ax_lf 34 (ao_zret 0 0))))))
theorem oX10_again (g : ax_G) : ∀ pc, ax_ok g cX10_again 2 (some .boolean) RX10 "again" 3 0 0 pc (tX10_again g pc) := ax_nd_ok (ax_nd_ok (ax_nd_ok (ax_nd_ok (ax_lf_ok (ak_aload_n rfl dX10_again_0)) (ax_lf_ok (ak_iconst (by decide) dX10_again_1))) (ax_nd_ok (ax_lf_ok (ak_pi fF_X10_88 fW_X10_88_a dX10_again_2)) (ax_nd_ok (ax_lf_ok (ak_iload_n rfl dX10_again_5)) (ax_lf_ok (ak_iconst (by decide) dX10_again_6))))) (ax_nd_ok (ax_nd_ok (ax_lf_ok (ak_iconst (by decide) dX10_again_7)) (ax_nd_ok (ax_lf_ok (ak_invS (by decide) (by decide) wd_1244 wd_1245 wd_106 wd_1246 ⟨by decide, by decide, by decide +kernel⟩ dX10_again_8)) (ax_lf_ok (ak_if_eq (by decide) dX10_again_11)))) (ax_nd_ok (ax_lf_ok (ak_aload_n rfl dX10_again_14)) (ax_nd_ok (ax_lf_ok (ak_gr fF_X10_84 dX10_again_15)) (ax_lf_ok (ak_iload_n rfl dX10_again_18)))))) (ax_nd_ok (ax_nd_ok (ax_nd_ok (ax_lf_ok (ak_zald dX10_again_19)) (ax_nd_ok (ax_lf_ok (ak_if_ne (by decide) dX10_again_20)) (ax_lf_ok (ak_iconst (by decide) dX10_again_23)))) (ax_nd_ok (ax_lf_ok (ak_zret rfl dX10_again_24)) (ax_nd_ok (ax_lf_ok (ak_aload_n rfl dX10_again_25)) (ax_lf_ok (ak_iload_n rfl dX10_again_26))))) (ax_nd_ok (ax_nd_ok (ax_lf_ok (ak_iconst (by decide) dX10_again_27)) (ax_nd_ok (ax_lf_ok (ak_iadd dX10_again_28)) (ax_lf_ok (ak_iconst (by decide) dX10_again_29)))) (ax_nd_ok (ax_lf_ok (ak_invV (by decide) (by decide) (by decide) rfl wd_1703 wd_1705 wd_94 wd_106 wd_1706 ⟨by decide, by decide, by decide +kernel⟩ dX10_again_30)) (ax_nd_ok (ax_lf_ok (ak_iconst (by decide) dX10_again_33)) (ax_lf_ok (ak_zret rfl dX10_again_34))))))
abbrev mX10_again (g : ax_G) (as : List Value) (h : ax_H) (Ret : Option Value → ax_H → Prop) : Prop := ax_M g 3 0 0 yX10_again cX10_again 2 (some .boolean) as h Ret
end
