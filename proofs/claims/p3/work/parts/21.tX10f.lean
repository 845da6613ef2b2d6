section
theorem dX10_isRow_0 : decode cX10_isRow 0 = .ok (.iload_n 1, 1) := by decide +kernel
theorem dX10_isRow_1 : decode cX10_isRow 1 = .ok (.istore_n 2, 1) := by decide +kernel
theorem dX10_isRow_2 : decode cX10_isRow 2 = .ok (.iconst 0, 1) := by decide +kernel
theorem dX10_isRow_3 : decode cX10_isRow 3 = .ok (.istore_n 3, 1) := by decide +kernel
theorem dX10_isRow_4 : decode cX10_isRow 4 = .ok (.iload_n 3, 1) := by decide +kernel
theorem dX10_isRow_5 : decode cX10_isRow 5 = .ok (.aload_n 0, 1) := by decide +kernel
theorem dX10_isRow_6 : decode cX10_isRow 6 = .ok (.getfield 276, 3) := by decide +kernel
theorem dX10_isRow_9 : decode cX10_isRow 9 = .ok (.if_icmp .ge 22, 3) := by decide +kernel
theorem dX10_isRow_12 : decode cX10_isRow 12 = .ok (.aload_n 0, 1) := by decide +kernel
theorem dX10_isRow_13 : decode cX10_isRow 13 = .ok (.getfield 47, 3) := by decide +kernel
theorem dX10_isRow_16 : decode cX10_isRow 16 = .ok (.iload_n 3, 1) := by decide +kernel
theorem dX10_isRow_17 : decode cX10_isRow 17 = .ok (.aload_n 0, 1) := by decide +kernel
theorem dX10_isRow_18 : decode cX10_isRow 18 = .ok (.iconst 2, 1) := by decide +kernel
theorem dX10_isRow_19 : decode cX10_isRow 19 = .ok (.iload_n 3, 1) := by decide +kernel
theorem dX10_isRow_20 : decode cX10_isRow 20 = .ok (.iadd, 1) := by decide +kernel
theorem dX10_isRow_21 : decode cX10_isRow 21 = .ok (.invokevirtual 253, 3) := by decide +kernel
theorem dX10_isRow_24 : decode cX10_isRow 24 = .ok (.iastore, 1) := by decide +kernel
theorem dX10_isRow_25 : decode cX10_isRow 25 = .ok (.iinc 3 1, 3) := by decide +kernel
theorem dX10_isRow_28 : decode cX10_isRow 28 = .ok (.goto (-24), 3) := by decide +kernel
theorem dX10_isRow_31 : decode cX10_isRow 31 = .ok (.aload_n 0, 1) := by decide +kernel
theorem dX10_isRow_32 : decode cX10_isRow 32 = .ok (.invokevirtual 285, 3) := by decide +kernel
theorem dX10_isRow_35 : decode cX10_isRow 35 = .ok (.iconst 0, 1) := by decide +kernel
theorem dX10_isRow_36 : decode cX10_isRow 36 = .ok (.istore_n 3, 1) := by decide +kernel
theorem dX10_isRow_37 : decode cX10_isRow 37 = .ok (.iload_n 3, 1) := by decide +kernel
theorem dX10_isRow_38 : decode cX10_isRow 38 = .ok (.aload_n 0, 1) := by decide +kernel
theorem dX10_isRow_39 : decode cX10_isRow 39 = .ok (.getfield 449, 3) := by decide +kernel
theorem dX10_isRow_42 : decode cX10_isRow 42 = .ok (.if_icmp .ge 66, 3) := by decide +kernel
theorem dX10_isRow_45 : decode cX10_isRow 45 = .ok (.aload_n 0, 1) := by decide +kernel
theorem dX10_isRow_46 : decode cX10_isRow 46 = .ok (.getfield 75, 3) := by decide +kernel
theorem dX10_isRow_49 : decode cX10_isRow 49 = .ok (.iload_n 3, 1) := by decide +kernel
theorem dX10_isRow_50 : decode cX10_isRow 50 = .ok (.iload_n 2, 1) := by decide +kernel
theorem dX10_isRow_51 : decode cX10_isRow 51 = .ok (.aload_n 0, 1) := by decide +kernel
theorem dX10_isRow_52 : decode cX10_isRow 52 = .ok (.getfield 263, 3) := by decide +kernel
theorem dX10_isRow_55 : decode cX10_isRow 55 = .ok (.irem, 1) := by decide +kernel
theorem dX10_isRow_56 : decode cX10_isRow 56 = .ok (.iastore, 1) := by decide +kernel
theorem dX10_isRow_57 : decode cX10_isRow 57 = .ok (.iload_n 2, 1) := by decide +kernel
theorem dX10_isRow_58 : decode cX10_isRow 58 = .ok (.aload_n 0, 1) := by decide +kernel
theorem dX10_isRow_59 : decode cX10_isRow 59 = .ok (.getfield 263, 3) := by decide +kernel
theorem dX10_isRow_62 : decode cX10_isRow 62 = .ok (.idiv, 1) := by decide +kernel
theorem dX10_isRow_63 : decode cX10_isRow 63 = .ok (.istore_n 2, 1) := by decide +kernel
theorem dX10_isRow_64 : decode cX10_isRow 64 = .ok (.aload_n 0, 1) := by decide +kernel
theorem dX10_isRow_65 : decode cX10_isRow 65 = .ok (.getfield 56, 3) := by decide +kernel
theorem dX10_isRow_68 : decode cX10_isRow 68 = .ok (.aload_n 0, 1) := by decide +kernel
theorem dX10_isRow_69 : decode cX10_isRow 69 = .ok (.getfield 75, 3) := by decide +kernel
theorem dX10_isRow_72 : decode cX10_isRow 72 = .ok (.iload_n 3, 1) := by decide +kernel
theorem dX10_isRow_73 : decode cX10_isRow 73 = .ok (.iaload, 1) := by decide +kernel
theorem dX10_isRow_74 : decode cX10_isRow 74 = .ok (.iaload, 1) := by decide +kernel
theorem dX10_isRow_75 : decode cX10_isRow 75 = .ok (.ifCond .ne 5, 3) := by decide +kernel
theorem dX10_isRow_78 : decode cX10_isRow 78 = .ok (.iconst 0, 1) := by decide +kernel
theorem dX10_isRow_79 : decode cX10_isRow 79 = .ok (.ireturn, 1) := by decide +kernel
theorem dX10_isRow_80 : decode cX10_isRow 80 = .ok (.aload_n 0, 1) := by decide +kernel
theorem dX10_isRow_81 : decode cX10_isRow 81 = .ok (.aload_n 0, 1) := by decide +kernel
theorem dX10_isRow_82 : decode cX10_isRow 82 = .ok (.getfield 75, 3) := by decide +kernel
theorem dX10_isRow_85 : decode cX10_isRow 85 = .ok (.iload_n 3, 1) := by decide +kernel
theorem dX10_isRow_86 : decode cX10_isRow 86 = .ok (.iaload, 1) := by decide +kernel
theorem dX10_isRow_87 : decode cX10_isRow 87 = .ok (.invokevirtual 327, 3) := by decide +kernel
theorem dX10_isRow_90 : decode cX10_isRow 90 = .ok (.aload_n 0, 1) := by decide +kernel
theorem dX10_isRow_91 : decode cX10_isRow 91 = .ok (.iload_n 3, 1) := by decide +kernel
theorem dX10_isRow_92 : decode cX10_isRow 92 = .ok (.iconst 1, 1) := by decide +kernel
theorem dX10_isRow_93 : decode cX10_isRow 93 = .ok (.iadd, 1) := by decide +kernel
theorem dX10_isRow_94 : decode cX10_isRow 94 = .ok (.invokevirtual 452, 3) := by decide +kernel
theorem dX10_isRow_97 : decode cX10_isRow 97 = .ok (.ifCond .ne 5, 3) := by decide +kernel
theorem dX10_isRow_100 : decode cX10_isRow 100 = .ok (.iconst 0, 1) := by decide +kernel
theorem dX10_isRow_101 : decode cX10_isRow 101 = .ok (.ireturn, 1) := by decide +kernel
theorem dX10_isRow_102 : decode cX10_isRow 102 = .ok (.iinc 3 1, 3) := by decide +kernel
theorem dX10_isRow_105 : decode cX10_isRow 105 = .ok (.goto (-68), 3) := by decide +kernel
theorem dX10_isRow_108 : decode cX10_isRow 108 = .ok (.iconst 1, 1) := by decide +kernel
theorem dX10_isRow_109 : decode cX10_isRow 109 = .ok (.ireturn, 1) := by decide +kernel
def tX10_isRow (g : ax_G) : Nat → ax_O := ax_nd 55 (ax_nd 24 (ax_nd 9 (ax_nd 3 (ax_nd 1 (ax_nd 0 (ax_lf 0 (ao_il 1 1)) (ax_lf 1 (ao_is 2 1))) (ax_nd 2 (ax_lf 2 (ao_ic (0) 1)) (ax_lf 3 (ao_is 3 1)))) (ax_nd 5 (ax_nd 4 (ax_lf 4 (ao_il 3 1)) (ax_lf 5 (ao_al 0 1))) (ax_nd 6 (ax_lf 6 (ao_gi 10 27)) (ax_lf 9 (ao_icmp_ge 31))))) (ax_nd 17 (ax_nd 13 (ax_nd 12 (ax_lf 12 (ao_al 0 1)) (ax_lf 13 (ao_gr 10 28))) (ax_nd 16 (ax_lf 16 (ao_il 3 1)) (ax_lf 17 (ao_al 0 1)))) (ax_nd 19 (ax_nd 18 (ax_lf 18 (ao_ic (2) 1)) (ax_lf 19 (ao_il 3 1))) (ax_nd 20 (ax_lf 20 ao_iadd) (ax_nd 21 (ax_lf 21 (ao_inv g 1 10 1 yX10_of cX10_of 2 (some .int) 2 0 0 0 0)) (ax_lf 24 ao_iast)))))) (ax_nd 38 (ax_nd 32 (ax_nd 28 (ax_nd 25 (ax_lf 25 (ao_iinc 3 (1))) (ax_lf 28 (ao_goto 4))) (ax_nd 31 (ax_lf 31 (ao_al 0 1)) (ax_lf 32 (ao_inv g 2 10 0 yX10_layOdds cX10_layOdds 2 none 1 0 0 0 0)))) (ax_nd 36 (ax_nd 35 (ax_lf 35 (ao_ic (0) 1)) (ax_lf 36 (ao_is 3 1))) (ax_nd 37 (ax_lf 37 (ao_il 3 1)) (ax_lf 38 (ao_al 0 1))))) (ax_nd 46 (ax_nd 42 (ax_nd 39 (ax_lf 39 (ao_gi 10 51)) (ax_lf 42 (ao_icmp_ge 108))) (ax_nd 45 (ax_lf 45 (ao_al 0 1)) (ax_lf 46 (ao_gr 10 53)))) (ax_nd 50 (ax_nd 49 (ax_lf 49 (ao_il 3 1)) (ax_lf 50 (ao_il 2 1))) (ax_nd 51 (ax_lf 51 (ao_al 0 1)) (ax_nd 52 (ax_lf 52 (ao_gi 10 26)) (ax_lf 55 ao_irem))))))) (ax_nd 80 (ax_nd 65 (ax_nd 59 (ax_nd 57 (ax_nd 56 (ax_lf 56 ao_iast) (ax_lf 57 (ao_il 2 1))) (ax_nd 58 (ax_lf 58 (ao_al 0 1)) (ax_lf 59 (ao_gi 10 26)))) (ax_nd 63 (ax_nd 62 (ax_lf 62 ao_idiv) (ax_lf 63 (ao_is 2 1))) (ax_nd 64 (ax_lf 64 (ao_al 0 1)) (ax_lf 65 (ao_gr 10 31))))) (ax_nd 73 (ax_nd 69 (ax_nd 68 (ax_lf 68 (ao_al 0 1)) (ax_lf 69 (ao_gr 10 53))) (ax_nd 72 (ax_lf 72 (ao_il 3 1)) (ax_lf 73 ao_iald))) (ax_nd 75 (ax_nd 74 (ax_lf 74 ao_iald) (ax_lf 75 (ao_if_ne 80))) (ax_nd 78 (ax_lf 78 (ao_ic (0) 1)) (ax_nd 79 (ax_lf 79 (ao_zret 0 0)) (ax_lf 80 (ao_al 0 1))))))) (ax_nd 92 (ax_nd 86 (ax_nd 82 (ax_nd 81 (ax_lf 81 (ao_al 0 1)) (ax_lf 82 (ao_gr 10 53))) (ax_nd 85 (ax_lf 85 (ao_il 3 1)) (ax_lf 86 ao_iald))) (ax_nd 90 (ax_nd 87 (ax_lf 87 (ao_inv g 3 10 0 yX10_live cX10_live 3 none 2 0 0 0 0)) (ax_lf 90 (ao_al 0 1))) (ax_nd 91 (ax_lf 91 (ao_il 3 1)) (ax_lf 92 (ao_ic (1) 1))))) (ax_nd 100 (ax_nd 94 (ax_nd 93 (ax_lf 93 ao_iadd) (ax_lf 94 (ao_inv g 3 10 1 yX10_isAsSeen cX10_isAsSeen 3 (some .boolean) 2 0 0 0 0))) (ax_nd 97 (ax_lf 97 (ao_if_ne 102)) (ax_lf 100 (ao_ic (0) 1)))) (ax_nd 102 (ax_nd 101 (ax_lf 101 (ao_zret 0 0)) (ax_lf 102 (ao_iinc 3 (1)))) (ax_nd 105 (ax_lf 105 (ao_goto 37)) (ax_nd 108 (ax_lf 108 (ao_ic (1) 1)) (ax_lf 109 (ao_zret 0 0))))))))
theorem oX10_isRow (g : ax_G) : ∀ pc, ax_ok g cX10_isRow 4 (some .boolean) RX10 "isRow" 4 0 0 pc (tX10_isRow g pc) := ax_nd_ok (ax_nd_ok (ax_nd_ok (ax_nd_ok (ax_nd_ok (ax_nd_ok (ax_lf_ok (ak_iload_n rfl dX10_isRow_0)) (ax_lf_ok (ak_istore_n rfl (by decide) dX10_isRow_1))) (ax_nd_ok (ax_lf_ok (ak_iconst (by decide) dX10_isRow_2)) (ax_lf_ok (ak_istore_n rfl (by decide) dX10_isRow_3)))) (ax_nd_ok (ax_nd_ok (ax_lf_ok (ak_iload_n rfl dX10_isRow_4)) (ax_lf_ok (ak_aload_n rfl dX10_isRow_5))) (ax_nd_ok (ax_lf_ok (ak_gi fF_X10_276 dX10_isRow_6)) (ax_lf_ok (ak_icmp_ge (by decide) dX10_isRow_9))))) (ax_nd_ok (ax_nd_ok (ax_nd_ok (ax_lf_ok (ak_aload_n rfl dX10_isRow_12)) (ax_lf_ok (ak_gr fF_X10_47 dX10_isRow_13))) (ax_nd_ok (ax_lf_ok (ak_iload_n rfl dX10_isRow_16)) (ax_lf_ok (ak_aload_n rfl dX10_isRow_17)))) (ax_nd_ok (ax_nd_ok (ax_lf_ok (ak_iconst (by decide) dX10_isRow_18)) (ax_lf_ok (ak_iload_n rfl dX10_isRow_19))) (ax_nd_ok (ax_lf_ok (ak_iadd dX10_isRow_20)) (ax_nd_ok (ax_lf_ok (ak_invV (by decide) (by decide) (by decide) rfl wd_1360 wd_1362 wd_45 wd_106 wd_1363 ⟨by decide, by decide, by decide +kernel⟩ dX10_isRow_21)) (ax_lf_ok (ak_iast dX10_isRow_24))))))) (ax_nd_ok (ax_nd_ok (ax_nd_ok (ax_nd_ok (ax_lf_ok (ak_iinc (by decide) (by decide) dX10_isRow_25)) (ax_lf_ok (ak_goto (by decide) dX10_isRow_28))) (ax_nd_ok (ax_lf_ok (ak_aload_n rfl dX10_isRow_31)) (ax_lf_ok (ak_invV (by decide) (by decide) (by decide) rfl wd_1383 wd_1385 wd_50 wd_106 wd_1386 ⟨by decide, by decide, by decide +kernel⟩ dX10_isRow_32)))) (ax_nd_ok (ax_nd_ok (ax_lf_ok (ak_iconst (by decide) dX10_isRow_35)) (ax_lf_ok (ak_istore_n rfl (by decide) dX10_isRow_36))) (ax_nd_ok (ax_lf_ok (ak_iload_n rfl dX10_isRow_37)) (ax_lf_ok (ak_aload_n rfl dX10_isRow_38))))) (ax_nd_ok (ax_nd_ok (ax_nd_ok (ax_lf_ok (ak_gi fF_X10_449 dX10_isRow_39)) (ax_lf_ok (ak_icmp_ge (by decide) dX10_isRow_42))) (ax_nd_ok (ax_lf_ok (ak_aload_n rfl dX10_isRow_45)) (ax_lf_ok (ak_gr fF_X10_75 dX10_isRow_46)))) (ax_nd_ok (ax_nd_ok (ax_lf_ok (ak_iload_n rfl dX10_isRow_49)) (ax_lf_ok (ak_iload_n rfl dX10_isRow_50))) (ax_nd_ok (ax_lf_ok (ak_aload_n rfl dX10_isRow_51)) (ax_nd_ok (ax_lf_ok (ak_gi fF_X10_263 dX10_isRow_52)) (ax_lf_ok (ak_irem dX10_isRow_55)))))))) (ax_nd_ok (ax_nd_ok (ax_nd_ok (ax_nd_ok (ax_nd_ok (ax_lf_ok (ak_iast dX10_isRow_56)) (ax_lf_ok (ak_iload_n rfl dX10_isRow_57))) (ax_nd_ok (ax_lf_ok (ak_aload_n rfl dX10_isRow_58)) (ax_lf_ok (ak_gi fF_X10_263 dX10_isRow_59)))) (ax_nd_ok (ax_nd_ok (ax_lf_ok (ak_idiv dX10_isRow_62)) (ax_lf_ok (ak_istore_n rfl (by decide) dX10_isRow_63))) (ax_nd_ok (ax_lf_ok (ak_aload_n rfl dX10_isRow_64)) (ax_lf_ok (ak_gr fF_X10_56 dX10_isRow_65))))) (ax_nd_ok (ax_nd_ok (ax_nd_ok (ax_lf_ok (ak_aload_n rfl dX10_isRow_68)) (ax_lf_ok (ak_gr fF_X10_75 dX10_isRow_69))) (ax_nd_ok (ax_lf_ok (ak_iload_n rfl dX10_isRow_72)) (ax_lf_ok (ak_iald dX10_isRow_73)))) (ax_nd_ok (ax_nd_ok (ax_lf_ok (ak_iald dX10_isRow_74)) (ax_lf_ok (ak_if_ne (by decide) dX10_isRow_75))) (ax_nd_ok (ax_lf_ok (ak_iconst (by decide) dX10_isRow_78)) (ax_nd_ok (ax_lf_ok (ak_zret rfl dX10_isRow_79)) (ax_lf_ok (ak_aload_n rfl dX10_isRow_80))))))) (ax_nd_ok (ax_nd_ok (ax_nd_ok (ax_nd_ok (ax_lf_ok (ak_aload_n rfl dX10_isRow_81)) (ax_lf_ok (ak_gr fF_X10_75 dX10_isRow_82))) (ax_nd_ok (ax_lf_ok (ak_iload_n rfl dX10_isRow_85)) (ax_lf_ok (ak_iald dX10_isRow_86)))) (ax_nd_ok (ax_nd_ok (ax_lf_ok (ak_invV (by decide) (by decide) (by decide) rfl wd_1442 wd_1444 wd_58 wd_106 wd_1445 ⟨by decide, by decide, by decide +kernel⟩ dX10_isRow_87)) (ax_lf_ok (ak_aload_n rfl dX10_isRow_90))) (ax_nd_ok (ax_lf_ok (ak_iload_n rfl dX10_isRow_91)) (ax_lf_ok (ak_iconst (by decide) dX10_isRow_92))))) (ax_nd_ok (ax_nd_ok (ax_nd_ok (ax_lf_ok (ak_iadd dX10_isRow_93)) (ax_lf_ok (ak_invV (by decide) (by decide) (by decide) rfl wd_1638 wd_1640 wd_87 wd_106 wd_1641 ⟨by decide, by decide, by decide +kernel⟩ dX10_isRow_94))) (ax_nd_ok (ax_lf_ok (ak_if_ne (by decide) dX10_isRow_97)) (ax_lf_ok (ak_iconst (by decide) dX10_isRow_100)))) (ax_nd_ok (ax_nd_ok (ax_lf_ok (ak_zret rfl dX10_isRow_101)) (ax_lf_ok (ak_iinc (by decide) (by decide) dX10_isRow_102))) (ax_nd_ok (ax_lf_ok (ak_goto (by decide) dX10_isRow_105)) (ax_nd_ok (ax_lf_ok (ak_iconst (by decide) dX10_isRow_108)) (ax_lf_ok (ak_zret rfl dX10_isRow_109))))))))
abbrev mX10_isRow (g : ax_G) (as : List Value) (h : ax_H) (Ret : Option Value → ax_H → Prop) : Prop := ax_M g 4 0 0 yX10_isRow cX10_isRow 4 (some .boolean) as h Ret
theorem dX10_findFits_0 : decode cX10_findFits 0 = .ok (.aload_n 0, 1) := by decide +kernel
theorem dX10_findFits_1 : decode cX10_findFits 1 = .ok (.iconst 0, 1) := by decide +kernel
theorem dX10_findFits_2 : decode cX10_findFits 2 = .ok (.putfield 449, 3) := by decide +kernel
theorem dX10_findFits_5 : decode cX10_findFits 5 = .ok (.iconst 0, 1) := by decide +kernel
theorem dX10_findFits_6 : decode cX10_findFits 6 = .ok (.istore_n 1, 1) := by decide +kernel
theorem dX10_findFits_7 : decode cX10_findFits 7 = .ok (.iload_n 1, 1) := by decide +kernel
theorem dX10_findFits_8 : decode cX10_findFits 8 = .ok (.aload_n 0, 1) := by decide +kernel
theorem dX10_findFits_9 : decode cX10_findFits 9 = .ok (.getfield 38, 3) := by decide +kernel
theorem dX10_findFits_12 : decode cX10_findFits 12 = .ok (.bipush 19, 2) := by decide +kernel
theorem dX10_findFits_14 : decode cX10_findFits 14 = .ok (.aload_n 0, 1) := by decide +kernel
theorem dX10_findFits_15 : decode cX10_findFits 15 = .ok (.getfield 440, 3) := by decide +kernel
theorem dX10_findFits_18 : decode cX10_findFits 18 = .ok (.imul, 1) := by decide +kernel
theorem dX10_findFits_19 : decode cX10_findFits 19 = .ok (.iaload, 1) := by decide +kernel
theorem dX10_findFits_20 : decode cX10_findFits 20 = .ok (.if_icmp .ge 26, 3) := by decide +kernel
theorem dX10_findFits_23 : decode cX10_findFits 23 = .ok (.aload_n 0, 1) := by decide +kernel
theorem dX10_findFits_24 : decode cX10_findFits 24 = .ok (.aload_n 0, 1) := by decide +kernel
theorem dX10_findFits_25 : decode cX10_findFits 25 = .ok (.getfield 449, 3) := by decide +kernel
theorem dX10_findFits_28 : decode cX10_findFits 28 = .ok (.aload_n 0, 1) := by decide +kernel
theorem dX10_findFits_29 : decode cX10_findFits 29 = .ok (.iload_n 1, 1) := by decide +kernel
theorem dX10_findFits_30 : decode cX10_findFits 30 = .ok (.iconst 0, 1) := by decide +kernel
theorem dX10_findFits_31 : decode cX10_findFits 31 = .ok (.invokevirtual 446, 3) := by decide +kernel
theorem dX10_findFits_34 : decode cX10_findFits 34 = .ok (.invokestatic 163, 3) := by decide +kernel
theorem dX10_findFits_37 : decode cX10_findFits 37 = .ok (.putfield 449, 3) := by decide +kernel
theorem dX10_findFits_40 : decode cX10_findFits 40 = .ok (.iinc 1 1, 3) := by decide +kernel
theorem dX10_findFits_43 : decode cX10_findFits 43 = .ok (.goto (-36), 3) := by decide +kernel
theorem dX10_findFits_46 : decode cX10_findFits 46 = .ok (.aload_n 0, 1) := by decide +kernel
theorem dX10_findFits_47 : decode cX10_findFits 47 = .ok (.iconst 0, 1) := by decide +kernel
theorem dX10_findFits_48 : decode cX10_findFits 48 = .ok (.putfield 455, 3) := by decide +kernel
theorem dX10_findFits_51 : decode cX10_findFits 51 = .ok (.iconst 1, 1) := by decide +kernel
theorem dX10_findFits_52 : decode cX10_findFits 52 = .ok (.istore_n 1, 1) := by decide +kernel
theorem dX10_findFits_53 : decode cX10_findFits 53 = .ok (.iconst 0, 1) := by decide +kernel
theorem dX10_findFits_54 : decode cX10_findFits 54 = .ok (.istore_n 2, 1) := by decide +kernel
theorem dX10_findFits_55 : decode cX10_findFits 55 = .ok (.iload_n 2, 1) := by decide +kernel
theorem dX10_findFits_56 : decode cX10_findFits 56 = .ok (.aload_n 0, 1) := by decide +kernel
theorem dX10_findFits_57 : decode cX10_findFits 57 = .ok (.getfield 449, 3) := by decide +kernel
theorem dX10_findFits_60 : decode cX10_findFits 60 = .ok (.if_icmp .ge 23, 3) := by decide +kernel
theorem dX10_findFits_63 : decode cX10_findFits 63 = .ok (.aload_n 0, 1) := by decide +kernel
theorem dX10_findFits_64 : decode cX10_findFits 64 = .ok (.getfield 72, 3) := by decide +kernel
theorem dX10_findFits_67 : decode cX10_findFits 67 = .ok (.iload_n 2, 1) := by decide +kernel
theorem dX10_findFits_68 : decode cX10_findFits 68 = .ok (.iconst 0, 1) := by decide +kernel
theorem dX10_findFits_69 : decode cX10_findFits 69 = .ok (.iastore, 1) := by decide +kernel
theorem dX10_findFits_70 : decode cX10_findFits 70 = .ok (.iload_n 1, 1) := by decide +kernel
theorem dX10_findFits_71 : decode cX10_findFits 71 = .ok (.aload_n 0, 1) := by decide +kernel
theorem dX10_findFits_72 : decode cX10_findFits 72 = .ok (.getfield 263, 3) := by decide +kernel
theorem dX10_findFits_75 : decode cX10_findFits 75 = .ok (.imul, 1) := by decide +kernel
theorem dX10_findFits_76 : decode cX10_findFits 76 = .ok (.istore_n 1, 1) := by decide +kernel
theorem dX10_findFits_77 : decode cX10_findFits 77 = .ok (.iinc 2 1, 3) := by decide +kernel
theorem dX10_findFits_80 : decode cX10_findFits 80 = .ok (.goto (-25), 3) := by decide +kernel
theorem dX10_findFits_83 : decode cX10_findFits 83 = .ok (.iconst 0, 1) := by decide +kernel
theorem dX10_findFits_84 : decode cX10_findFits 84 = .ok (.istore_n 2, 1) := by decide +kernel
theorem dX10_findFits_85 : decode cX10_findFits 85 = .ok (.iload_n 2, 1) := by decide +kernel
theorem dX10_findFits_86 : decode cX10_findFits 86 = .ok (.iload_n 1, 1) := by decide +kernel
theorem dX10_findFits_87 : decode cX10_findFits 87 = .ok (.if_icmp .ge 60, 3) := by decide +kernel
theorem dX10_findFits_90 : decode cX10_findFits 90 = .ok (.aload_n 0, 1) := by decide +kernel
theorem dX10_findFits_91 : decode cX10_findFits 91 = .ok (.iload_n 2, 1) := by decide +kernel
theorem dX10_findFits_92 : decode cX10_findFits 92 = .ok (.invokevirtual 458, 3) := by decide +kernel
theorem dX10_findFits_95 : decode cX10_findFits 95 = .ok (.ifCond .eq 46, 3) := by decide +kernel
theorem dX10_findFits_98 : decode cX10_findFits 98 = .ok (.aload_n 0, 1) := by decide +kernel
theorem dX10_findFits_99 : decode cX10_findFits 99 = .ok (.dup, 1) := by decide +kernel
theorem dX10_findFits_100 : decode cX10_findFits 100 = .ok (.getfield 455, 3) := by decide +kernel
theorem dX10_findFits_103 : decode cX10_findFits 103 = .ok (.iconst 1, 1) := by decide +kernel
theorem dX10_findFits_104 : decode cX10_findFits 104 = .ok (.iadd, 1) := by decide +kernel
theorem dX10_findFits_105 : decode cX10_findFits 105 = .ok (.putfield 455, 3) := by decide +kernel
theorem dX10_findFits_108 : decode cX10_findFits 108 = .ok (.iconst 0, 1) := by decide +kernel
theorem dX10_findFits_109 : decode cX10_findFits 109 = .ok (.istore_n 3, 1) := by decide +kernel
theorem dX10_findFits_110 : decode cX10_findFits 110 = .ok (.iload_n 3, 1) := by decide +kernel
theorem dX10_findFits_111 : decode cX10_findFits 111 = .ok (.aload_n 0, 1) := by decide +kernel
theorem dX10_findFits_112 : decode cX10_findFits 112 = .ok (.getfield 449, 3) := by decide +kernel
theorem dX10_findFits_115 : decode cX10_findFits 115 = .ok (.if_icmp .ge 26, 3) := by decide +kernel
theorem dX10_findFits_118 : decode cX10_findFits 118 = .ok (.aload_n 0, 1) := by decide +kernel
theorem dX10_findFits_119 : decode cX10_findFits 119 = .ok (.getfield 72, 3) := by decide +kernel
theorem dX10_findFits_122 : decode cX10_findFits 122 = .ok (.iload_n 3, 1) := by decide +kernel
theorem dX10_findFits_123 : decode cX10_findFits 123 = .ok (.dup2, 1) := by decide +kernel
theorem dX10_findFits_124 : decode cX10_findFits 124 = .ok (.iaload, 1) := by decide +kernel
theorem dX10_findFits_125 : decode cX10_findFits 125 = .ok (.iconst 1, 1) := by decide +kernel
theorem dX10_findFits_126 : decode cX10_findFits 126 = .ok (.aload_n 0, 1) := by decide +kernel
theorem dX10_findFits_127 : decode cX10_findFits 127 = .ok (.getfield 75, 3) := by decide +kernel
theorem dX10_findFits_130 : decode cX10_findFits 130 = .ok (.iload_n 3, 1) := by decide +kernel
theorem dX10_findFits_131 : decode cX10_findFits 131 = .ok (.iaload, 1) := by decide +kernel
theorem dX10_findFits_132 : decode cX10_findFits 132 = .ok (.ishl, 1) := by decide +kernel
theorem dX10_findFits_133 : decode cX10_findFits 133 = .ok (.ior, 1) := by decide +kernel
theorem dX10_findFits_134 : decode cX10_findFits 134 = .ok (.iastore, 1) := by decide +kernel
theorem dX10_findFits_135 : decode cX10_findFits 135 = .ok (.iinc 3 1, 3) := by decide +kernel
theorem dX10_findFits_138 : decode cX10_findFits 138 = .ok (.goto (-28), 3) := by decide +kernel
theorem dX10_findFits_141 : decode cX10_findFits 141 = .ok (.iinc 2 1, 3) := by decide +kernel
theorem dX10_findFits_144 : decode cX10_findFits 144 = .ok (.goto (-59), 3) := by decide +kernel
theorem dX10_findFits_147 : decode cX10_findFits 147 = .ok (.return_, 1) := by decide +kernel
def tX10_findFits (g : ax_G) : Nat → ax_O := ax_nd 71 (ax_nd 31 (ax_nd 14 (ax_nd 6 (ax_nd 1 (ax_nd 0 (ax_lf 0 (ao_al 0 1)) (ax_lf 1 (ao_ic (0) 1))) (ax_nd 2 (ax_lf 2 (ao_pi 10 51)) (ax_nd 5 (ax_lf 5 (ao_ic (0) 1)) (ax_lf 6 (ao_is 1 1))))) (ax_nd 8 (ax_nd 7 (ax_lf 7 (ao_il 1 1)) (ax_lf 8 (ao_al 0 1))) (ax_nd 9 (ax_lf 9 (ao_gr 10 10)) (ax_nd 12 (ax_lf 12 (ao_ic (19) 2)) (ax_lf 14 (ao_al 0 1)))))) (ax_nd 23 (ax_nd 18 (ax_nd 15 (ax_lf 15 (ao_gi 10 49)) (ax_lf 18 ao_imul)) (ax_nd 19 (ax_lf 19 ao_iald) (ax_nd 20 (ax_lf 20 (ao_icmp_ge 46)) (ax_lf 23 (ao_al 0 1))))) (ax_nd 28 (ax_nd 24 (ax_lf 24 (ao_al 0 1)) (ax_nd 25 (ax_lf 25 (ao_gi 10 51)) (ax_lf 28 (ao_al 0 1)))) (ax_nd 29 (ax_lf 29 (ao_il 1 1)) (ax_nd 30 (ax_lf 30 (ao_ic (0) 1)) (ax_lf 31 (ao_inv g 1 10 1 yX10_sightOf cX10_sightOf 3 (some .int) 3 0 0 0 0))))))) (ax_nd 54 (ax_nd 46 (ax_nd 37 (ax_nd 34 (ax_lf 34 (ao_inv g 1 99 1 yX10_greater cX10_greater 2 (some .int) 2 0 0 0 0)) (ax_lf 37 (ao_pi 10 51))) (ax_nd 40 (ax_lf 40 (ao_iinc 1 (1))) (ax_nd 43 (ax_lf 43 (ao_goto 7)) (ax_lf 46 (ao_al 0 1))))) (ax_nd 51 (ax_nd 47 (ax_lf 47 (ao_ic (0) 1)) (ax_nd 48 (ax_lf 48 (ao_pi 10 50)) (ax_lf 51 (ao_ic (1) 1)))) (ax_nd 52 (ax_lf 52 (ao_is 1 1)) (ax_nd 53 (ax_lf 53 (ao_ic (0) 1)) (ax_lf 54 (ao_is 2 1)))))) (ax_nd 63 (ax_nd 56 (ax_nd 55 (ax_lf 55 (ao_il 2 1)) (ax_lf 56 (ao_al 0 1))) (ax_nd 57 (ax_lf 57 (ao_gi 10 51)) (ax_nd 60 (ax_lf 60 (ao_icmp_ge 83)) (ax_lf 63 (ao_al 0 1))))) (ax_nd 68 (ax_nd 64 (ax_lf 64 (ao_gr 10 52)) (ax_nd 67 (ax_lf 67 (ao_il 2 1)) (ax_lf 68 (ao_ic (0) 1)))) (ax_nd 69 (ax_lf 69 ao_iast) (ax_nd 70 (ax_lf 70 (ao_il 1 1)) (ax_lf 71 (ao_al 0 1)))))))) (ax_nd 109 (ax_nd 90 (ax_nd 80 (ax_nd 75 (ax_nd 72 (ax_lf 72 (ao_gi 10 26)) (ax_lf 75 ao_imul)) (ax_nd 76 (ax_lf 76 (ao_is 1 1)) (ax_nd 77 (ax_lf 77 (ao_iinc 2 (1))) (ax_lf 80 (ao_goto 55))))) (ax_nd 85 (ax_nd 83 (ax_lf 83 (ao_ic (0) 1)) (ax_nd 84 (ax_lf 84 (ao_is 2 1)) (ax_lf 85 (ao_il 2 1)))) (ax_nd 86 (ax_lf 86 (ao_il 1 1)) (ax_nd 87 (ax_lf 87 (ao_icmp_ge 147)) (ax_lf 90 (ao_al 0 1)))))) (ax_nd 99 (ax_nd 92 (ax_nd 91 (ax_lf 91 (ao_il 2 1)) (ax_lf 92 (ao_inv g 4 10 1 yX10_isRow cX10_isRow 4 (some .boolean) 2 0 0 0 0))) (ax_nd 95 (ax_lf 95 (ao_if_eq 141)) (ax_nd 98 (ax_lf 98 (ao_al 0 1)) (ax_lf 99 ao_dup)))) (ax_nd 104 (ax_nd 100 (ax_lf 100 (ao_gi 10 50)) (ax_nd 103 (ax_lf 103 (ao_ic (1) 1)) (ax_lf 104 ao_iadd))) (ax_nd 105 (ax_lf 105 (ao_pi 10 50)) (ax_nd 108 (ax_lf 108 (ao_ic (0) 1)) (ax_lf 109 (ao_is 3 1))))))) (ax_nd 126 (ax_nd 118 (ax_nd 111 (ax_nd 110 (ax_lf 110 (ao_il 3 1)) (ax_lf 111 (ao_al 0 1))) (ax_nd 112 (ax_lf 112 (ao_gi 10 51)) (ax_nd 115 (ax_lf 115 (ao_icmp_ge 141)) (ax_lf 118 (ao_al 0 1))))) (ax_nd 123 (ax_nd 119 (ax_lf 119 (ao_gr 10 52)) (ax_nd 122 (ax_lf 122 (ao_il 3 1)) (ax_lf 123 ao_dup2))) (ax_nd 124 (ax_lf 124 ao_iald) (ax_nd 125 (ax_lf 125 (ao_ic (1) 1)) (ax_lf 126 (ao_al 0 1)))))) (ax_nd 133 (ax_nd 130 (ax_nd 127 (ax_lf 127 (ao_gr 10 53)) (ax_lf 130 (ao_il 3 1))) (ax_nd 131 (ax_lf 131 ao_iald) (ax_nd 132 (ax_lf 132 ao_ishl) (ax_lf 133 ao_ior)))) (ax_nd 138 (ax_nd 134 (ax_lf 134 ao_iast) (ax_nd 135 (ax_lf 135 (ao_iinc 3 (1))) (ax_lf 138 (ao_goto 110)))) (ax_nd 141 (ax_lf 141 (ao_iinc 2 (1))) (ax_nd 144 (ax_lf 144 (ao_goto 85)) (ax_lf 147 (ao_vret 0 0))))))))
theorem oX10_findFits (g : ax_G) : ∀ pc, ax_ok g cX10_findFits 4 none RX10 "findFits" 5 0 0 pc (tX10_findFits g pc) := ax_nd_ok (ax_nd_ok (ax_nd_ok (ax_nd_ok (ax_nd_ok (ax_nd_ok (ax_lf_ok (ak_aload_n rfl dX10_findFits_0)) (ax_lf_ok (ak_iconst (by decide) dX10_findFits_1))) (ax_nd_ok (ax_lf_ok (ak_pi fF_X10_449 fW_X10_449_a dX10_findFits_2)) (ax_nd_ok (ax_lf_ok (ak_iconst (by decide) dX10_findFits_5)) (ax_lf_ok (ak_istore_n rfl (by decide) dX10_findFits_6))))) (ax_nd_ok (ax_nd_ok (ax_lf_ok (ak_iload_n rfl dX10_findFits_7)) (ax_lf_ok (ak_aload_n rfl dX10_findFits_8))) (ax_nd_ok (ax_lf_ok (ak_gr fF_X10_38 dX10_findFits_9)) (ax_nd_ok (ax_lf_ok (ak_bipush (by decide) dX10_findFits_12)) (ax_lf_ok (ak_aload_n rfl dX10_findFits_14)))))) (ax_nd_ok (ax_nd_ok (ax_nd_ok (ax_lf_ok (ak_gi fF_X10_440 dX10_findFits_15)) (ax_lf_ok (ak_imul dX10_findFits_18))) (ax_nd_ok (ax_lf_ok (ak_iald dX10_findFits_19)) (ax_nd_ok (ax_lf_ok (ak_icmp_ge (by decide) dX10_findFits_20)) (ax_lf_ok (ak_aload_n rfl dX10_findFits_23))))) (ax_nd_ok (ax_nd_ok (ax_lf_ok (ak_aload_n rfl dX10_findFits_24)) (ax_nd_ok (ax_lf_ok (ak_gi fF_X10_449 dX10_findFits_25)) (ax_lf_ok (ak_aload_n rfl dX10_findFits_28)))) (ax_nd_ok (ax_lf_ok (ak_iload_n rfl dX10_findFits_29)) (ax_nd_ok (ax_lf_ok (ak_iconst (by decide) dX10_findFits_30)) (ax_lf_ok (ak_invV (by decide) (by decide) (by decide) rfl wd_1622 wd_1624 wd_84 wd_106 wd_1625 ⟨by decide, by decide, by decide +kernel⟩ dX10_findFits_31))))))) (ax_nd_ok (ax_nd_ok (ax_nd_ok (ax_nd_ok (ax_lf_ok (ak_invS (by decide) (by decide) wd_1312 wd_1313 wd_106 wd_1314 ⟨by decide, by decide, by decide +kernel⟩ dX10_findFits_34)) (ax_lf_ok (ak_pi fF_X10_449 fW_X10_449_a dX10_findFits_37))) (ax_nd_ok (ax_lf_ok (ak_iinc (by decide) (by decide) dX10_findFits_40)) (ax_nd_ok (ax_lf_ok (ak_goto (by decide) dX10_findFits_43)) (ax_lf_ok (ak_aload_n rfl dX10_findFits_46))))) (ax_nd_ok (ax_nd_ok (ax_lf_ok (ak_iconst (by decide) dX10_findFits_47)) (ax_nd_ok (ax_lf_ok (ak_pi fF_X10_455 fW_X10_455_a dX10_findFits_48)) (ax_lf_ok (ak_iconst (by decide) dX10_findFits_51)))) (ax_nd_ok (ax_lf_ok (ak_istore_n rfl (by decide) dX10_findFits_52)) (ax_nd_ok (ax_lf_ok (ak_iconst (by decide) dX10_findFits_53)) (ax_lf_ok (ak_istore_n rfl (by decide) dX10_findFits_54)))))) (ax_nd_ok (ax_nd_ok (ax_nd_ok (ax_lf_ok (ak_iload_n rfl dX10_findFits_55)) (ax_lf_ok (ak_aload_n rfl dX10_findFits_56))) (ax_nd_ok (ax_lf_ok (ak_gi fF_X10_449 dX10_findFits_57)) (ax_nd_ok (ax_lf_ok (ak_icmp_ge (by decide) dX10_findFits_60)) (ax_lf_ok (ak_aload_n rfl dX10_findFits_63))))) (ax_nd_ok (ax_nd_ok (ax_lf_ok (ak_gr fF_X10_72 dX10_findFits_64)) (ax_nd_ok (ax_lf_ok (ak_iload_n rfl dX10_findFits_67)) (ax_lf_ok (ak_iconst (by decide) dX10_findFits_68)))) (ax_nd_ok (ax_lf_ok (ak_iast dX10_findFits_69)) (ax_nd_ok (ax_lf_ok (ak_iload_n rfl dX10_findFits_70)) (ax_lf_ok (ak_aload_n rfl dX10_findFits_71)))))))) (ax_nd_ok (ax_nd_ok (ax_nd_ok (ax_nd_ok (ax_nd_ok (ax_lf_ok (ak_gi fF_X10_263 dX10_findFits_72)) (ax_lf_ok (ak_imul dX10_findFits_75))) (ax_nd_ok (ax_lf_ok (ak_istore_n rfl (by decide) dX10_findFits_76)) (ax_nd_ok (ax_lf_ok (ak_iinc (by decide) (by decide) dX10_findFits_77)) (ax_lf_ok (ak_goto (by decide) dX10_findFits_80))))) (ax_nd_ok (ax_nd_ok (ax_lf_ok (ak_iconst (by decide) dX10_findFits_83)) (ax_nd_ok (ax_lf_ok (ak_istore_n rfl (by decide) dX10_findFits_84)) (ax_lf_ok (ak_iload_n rfl dX10_findFits_85)))) (ax_nd_ok (ax_lf_ok (ak_iload_n rfl dX10_findFits_86)) (ax_nd_ok (ax_lf_ok (ak_icmp_ge (by decide) dX10_findFits_87)) (ax_lf_ok (ak_aload_n rfl dX10_findFits_90)))))) (ax_nd_ok (ax_nd_ok (ax_nd_ok (ax_lf_ok (ak_iload_n rfl dX10_findFits_91)) (ax_lf_ok (ak_invV (by decide) (by decide) (by decide) rfl wd_1634 wd_1636 wd_86 wd_106 wd_1637 ⟨by decide, by decide, by decide +kernel⟩ dX10_findFits_92))) (ax_nd_ok (ax_lf_ok (ak_if_eq (by decide) dX10_findFits_95)) (ax_nd_ok (ax_lf_ok (ak_aload_n rfl dX10_findFits_98)) (ax_lf_ok (ak_dup dX10_findFits_99))))) (ax_nd_ok (ax_nd_ok (ax_lf_ok (ak_gi fF_X10_455 dX10_findFits_100)) (ax_nd_ok (ax_lf_ok (ak_iconst (by decide) dX10_findFits_103)) (ax_lf_ok (ak_iadd dX10_findFits_104)))) (ax_nd_ok (ax_lf_ok (ak_pi fF_X10_455 fW_X10_455_a dX10_findFits_105)) (ax_nd_ok (ax_lf_ok (ak_iconst (by decide) dX10_findFits_108)) (ax_lf_ok (ak_istore_n rfl (by decide) dX10_findFits_109))))))) (ax_nd_ok (ax_nd_ok (ax_nd_ok (ax_nd_ok (ax_lf_ok (ak_iload_n rfl dX10_findFits_110)) (ax_lf_ok (ak_aload_n rfl dX10_findFits_111))) (ax_nd_ok (ax_lf_ok (ak_gi fF_X10_449 dX10_findFits_112)) (ax_nd_ok (ax_lf_ok (ak_icmp_ge (by decide) dX10_findFits_115)) (ax_lf_ok (ak_aload_n rfl dX10_findFits_118))))) (ax_nd_ok (ax_nd_ok (ax_lf_ok (ak_gr fF_X10_72 dX10_findFits_119)) (ax_nd_ok (ax_lf_ok (ak_iload_n rfl dX10_findFits_122)) (ax_lf_ok (ak_dup2 dX10_findFits_123)))) (ax_nd_ok (ax_lf_ok (ak_iald dX10_findFits_124)) (ax_nd_ok (ax_lf_ok (ak_iconst (by decide) dX10_findFits_125)) (ax_lf_ok (ak_aload_n rfl dX10_findFits_126)))))) (ax_nd_ok (ax_nd_ok (ax_nd_ok (ax_lf_ok (ak_gr fF_X10_75 dX10_findFits_127)) (ax_lf_ok (ak_iload_n rfl dX10_findFits_130))) (ax_nd_ok (ax_lf_ok (ak_iald dX10_findFits_131)) (ax_nd_ok (ax_lf_ok (ak_ishl dX10_findFits_132)) (ax_lf_ok (ak_ior dX10_findFits_133))))) (ax_nd_ok (ax_nd_ok (ax_lf_ok (ak_iast dX10_findFits_134)) (ax_nd_ok (ax_lf_ok (ak_iinc (by decide) (by decide) dX10_findFits_135)) (ax_lf_ok (ak_goto (by decide) dX10_findFits_138)))) (ax_nd_ok (ax_lf_ok (ak_iinc (by decide) (by decide) dX10_findFits_141)) (ax_nd_ok (ax_lf_ok (ak_goto (by decide) dX10_findFits_144)) (ax_lf_ok (ak_vret rfl dX10_findFits_147))))))))
abbrev mX10_findFits (g : ax_G) (as : List Value) (h : ax_H) (Ret : Option Value → ax_H → Prop) : Prop := ax_M g 5 0 0 yX10_findFits cX10_findFits 4 none as h Ret
theorem dX10_onlyOne_0 : decode cX10_onlyOne 0 = .ok (.iconst 0, 1) := by decide +kernel
theorem dX10_onlyOne_1 : decode cX10_onlyOne 1 = .ok (.istore_n 2, 1) := by decide +kernel
theorem dX10_onlyOne_2 : decode cX10_onlyOne 2 = .ok (.iload_n 2, 1) := by decide +kernel
theorem dX10_onlyOne_3 : decode cX10_onlyOne 3 = .ok (.aload_n 0, 1) := by decide +kernel
theorem dX10_onlyOne_4 : decode cX10_onlyOne 4 = .ok (.getfield 263, 3) := by decide +kernel
theorem dX10_onlyOne_7 : decode cX10_onlyOne 7 = .ok (.if_icmp .ge 18, 3) := by decide +kernel
theorem dX10_onlyOne_10 : decode cX10_onlyOne 10 = .ok (.iload_n 1, 1) := by decide +kernel
theorem dX10_onlyOne_11 : decode cX10_onlyOne 11 = .ok (.iconst 1, 1) := by decide +kernel
theorem dX10_onlyOne_12 : decode cX10_onlyOne 12 = .ok (.iload_n 2, 1) := by decide +kernel
theorem dX10_onlyOne_13 : decode cX10_onlyOne 13 = .ok (.ishl, 1) := by decide +kernel
theorem dX10_onlyOne_14 : decode cX10_onlyOne 14 = .ok (.if_icmp .ne 5, 3) := by decide +kernel
theorem dX10_onlyOne_17 : decode cX10_onlyOne 17 = .ok (.iload_n 2, 1) := by decide +kernel
theorem dX10_onlyOne_18 : decode cX10_onlyOne 18 = .ok (.ireturn, 1) := by decide +kernel
theorem dX10_onlyOne_19 : decode cX10_onlyOne 19 = .ok (.iinc 2 1, 3) := by decide +kernel
theorem dX10_onlyOne_22 : decode cX10_onlyOne 22 = .ok (.goto (-20), 3) := by decide +kernel
theorem dX10_onlyOne_25 : decode cX10_onlyOne 25 = .ok (.iconst (-1), 1) := by decide +kernel
theorem dX10_onlyOne_26 : decode cX10_onlyOne 26 = .ok (.ireturn, 1) := by decide +kernel
def tX10_onlyOne (g : ax_G) : Nat → ax_O := ax_nd 11 (ax_nd 3 (ax_nd 1 (ax_nd 0 (ax_lf 0 (ao_ic (0) 1)) (ax_lf 1 (ao_is 2 1))) (ax_nd 2 (ax_lf 2 (ao_il 2 1)) (ax_lf 3 (ao_al 0 1)))) (ax_nd 7 (ax_nd 4 (ax_lf 4 (ao_gi 10 26)) (ax_lf 7 (ao_icmp_ge 25))) (ax_nd 10 (ax_lf 10 (ao_il 1 1)) (ax_lf 11 (ao_ic (1) 1))))) (ax_nd 17 (ax_nd 13 (ax_nd 12 (ax_lf 12 (ao_il 2 1)) (ax_lf 13 ao_ishl)) (ax_nd 14 (ax_lf 14 (ao_icmp_ne 19)) (ax_lf 17 (ao_il 2 1)))) (ax_nd 19 (ax_nd 18 (ax_lf 18 (ao_iret 0 0)) (ax_lf 19 (ao_iinc 2 (1)))) (ax_nd 22 (ax_lf 22 (ao_goto 2)) (ax_nd 25 (ax_lf 25 (ao_ic (-1) 1)) (ax_lf 26 (ao_iret 0 0))))))
theorem oX10_onlyOne (g : ax_G) : ∀ pc, ax_ok g cX10_onlyOne 3 (some .int) RX10 "onlyOne" 1 0 0 pc (tX10_onlyOne g pc) := ax_nd_ok (ax_nd_ok (ax_nd_ok (ax_nd_ok (ax_lf_ok (ak_iconst (by decide) dX10_onlyOne_0)) (ax_lf_ok (ak_istore_n rfl (by decide) dX10_onlyOne_1))) (ax_nd_ok (ax_lf_ok (ak_iload_n rfl dX10_onlyOne_2)) (ax_lf_ok (ak_aload_n rfl dX10_onlyOne_3)))) (ax_nd_ok (ax_nd_ok (ax_lf_ok (ak_gi fF_X10_263 dX10_onlyOne_4)) (ax_lf_ok (ak_icmp_ge (by decide) dX10_onlyOne_7))) (ax_nd_ok (ax_lf_ok (ak_iload_n rfl dX10_onlyOne_10)) (ax_lf_ok (ak_iconst (by decide) dX10_onlyOne_11))))) (ax_nd_ok (ax_nd_ok (ax_nd_ok (ax_lf_ok (ak_iload_n rfl dX10_onlyOne_12)) (ax_lf_ok (ak_ishl dX10_onlyOne_13))) (ax_nd_ok (ax_lf_ok (ak_icmp_ne (by decide) dX10_onlyOne_14)) (ax_lf_ok (ak_iload_n rfl dX10_onlyOne_17)))) (ax_nd_ok (ax_nd_ok (ax_lf_ok (ak_iret rfl dX10_onlyOne_18)) (ax_lf_ok (ak_iinc (by decide) (by decide) dX10_onlyOne_19))) (ax_nd_ok (ax_lf_ok (ak_goto (by decide) dX10_onlyOne_22)) (ax_nd_ok (ax_lf_ok (ak_iconst (by decide) dX10_onlyOne_25)) (ax_lf_ok (ak_iret rfl dX10_onlyOne_26))))))
abbrev mX10_onlyOne (g : ax_G) (as : List Value) (h : ax_H) (Ret : Option Value → ax_H → Prop) : Prop := ax_M g 1 0 0 yX10_onlyOne cX10_onlyOne 3 (some .int) as h Ret
theorem dX10_fits_0 : decode cX10_fits 0 = .ok (.aload_n 0, 1) := by decide +kernel
theorem dX10_fits_1 : decode cX10_fits 1 = .ok (.iconst 0, 1) := by decide +kernel
theorem dX10_fits_2 : decode cX10_fits 2 = .ok (.putfield 88, 3) := by decide +kernel
theorem dX10_fits_5 : decode cX10_fits 5 = .ok (.aload_n 0, 1) := by decide +kernel
theorem dX10_fits_6 : decode cX10_fits 6 = .ok (.iload_n 2, 1) := by decide +kernel
theorem dX10_fits_7 : decode cX10_fits 7 = .ok (.invokevirtual 443, 3) := by decide +kernel
theorem dX10_fits_10 : decode cX10_fits 10 = .ok (.ifCond .eq 11, 3) := by decide +kernel
theorem dX10_fits_13 : decode cX10_fits 13 = .ok (.aload_n 0, 1) := by decide +kernel
theorem dX10_fits_14 : decode cX10_fits 14 = .ok (.iload_n 1, 1) := by decide +kernel
theorem dX10_fits_15 : decode cX10_fits 15 = .ok (.invokevirtual 288, 3) := by decide +kernel
theorem dX10_fits_18 : decode cX10_fits 18 = .ok (.ifCond .ne 6, 3) := by decide +kernel
theorem dX10_fits_21 : decode cX10_fits 21 = .ok (.bipush (-2), 2) := by decide +kernel
theorem dX10_fits_23 : decode cX10_fits 23 = .ok (.ireturn, 1) := by decide +kernel
theorem dX10_fits_24 : decode cX10_fits 24 = .ok (.aload_n 0, 1) := by decide +kernel
theorem dX10_fits_25 : decode cX10_fits 25 = .ok (.invokevirtual 461, 3) := by decide +kernel
theorem dX10_fits_28 : decode cX10_fits 28 = .ok (.iload_n 3, 1) := by decide +kernel
theorem dX10_fits_29 : decode cX10_fits 29 = .ok (.bipush 10, 2) := by decide +kernel
theorem dX10_fits_31 : decode cX10_fits 31 = .ok (.bipush 9, 2) := by decide +kernel
theorem dX10_fits_33 : decode cX10_fits 33 = .ok (.aload_n 0, 1) := by decide +kernel
theorem dX10_fits_34 : decode cX10_fits 34 = .ok (.getfield 449, 3) := by decide +kernel
theorem dX10_fits_37 : decode cX10_fits 37 = .ok (.iadd, 1) := by decide +kernel
theorem dX10_fits_38 : decode cX10_fits 38 = .ok (.invokestatic 96, 3) := by decide +kernel
theorem dX10_fits_41 : decode cX10_fits 41 = .ok (.ifCond .eq 17, 3) := by decide +kernel
theorem dX10_fits_44 : decode cX10_fits 44 = .ok (.aload_n 0, 1) := by decide +kernel
theorem dX10_fits_45 : decode cX10_fits 45 = .ok (.aload_n 0, 1) := by decide +kernel
theorem dX10_fits_46 : decode cX10_fits 46 = .ok (.getfield 72, 3) := by decide +kernel
theorem dX10_fits_49 : decode cX10_fits 49 = .ok (.iload_n 3, 1) := by decide +kernel
theorem dX10_fits_50 : decode cX10_fits 50 = .ok (.bipush 10, 2) := by decide +kernel
theorem dX10_fits_52 : decode cX10_fits 52 = .ok (.isub, 1) := by decide +kernel
theorem dX10_fits_53 : decode cX10_fits 53 = .ok (.iaload, 1) := by decide +kernel
theorem dX10_fits_54 : decode cX10_fits 54 = .ok (.invokevirtual 464, 3) := by decide +kernel
theorem dX10_fits_57 : decode cX10_fits 57 = .ok (.ireturn, 1) := by decide +kernel
theorem dX10_fits_58 : decode cX10_fits 58 = .ok (.iload_n 3, 1) := by decide +kernel
theorem dX10_fits_59 : decode cX10_fits 59 = .ok (.ifCond .ne 10, 3) := by decide +kernel
theorem dX10_fits_62 : decode cX10_fits 62 = .ok (.aload_n 0, 1) := by decide +kernel
theorem dX10_fits_63 : decode cX10_fits 63 = .ok (.getfield 455, 3) := by decide +kernel
theorem dX10_fits_66 : decode cX10_fits 66 = .ok (.goto 33, 3) := by decide +kernel
theorem dX10_fits_69 : decode cX10_fits 69 = .ok (.iload_n 3, 1) := by decide +kernel
theorem dX10_fits_70 : decode cX10_fits 70 = .ok (.bipush 20, 2) := by decide +kernel
theorem dX10_fits_72 : decode cX10_fits 72 = .ok (.bipush 19, 2) := by decide +kernel
theorem dX10_fits_74 : decode cX10_fits 74 = .ok (.aload_n 0, 1) := by decide +kernel
theorem dX10_fits_75 : decode cX10_fits 75 = .ok (.getfield 449, 3) := by decide +kernel
theorem dX10_fits_78 : decode cX10_fits 78 = .ok (.iadd, 1) := by decide +kernel
theorem dX10_fits_79 : decode cX10_fits 79 = .ok (.invokestatic 96, 3) := by decide +kernel
theorem dX10_fits_82 : decode cX10_fits 82 = .ok (.ifCond .eq 15, 3) := by decide +kernel
theorem dX10_fits_85 : decode cX10_fits 85 = .ok (.aload_n 0, 1) := by decide +kernel
theorem dX10_fits_86 : decode cX10_fits 86 = .ok (.getfield 72, 3) := by decide +kernel
theorem dX10_fits_89 : decode cX10_fits 89 = .ok (.iload_n 3, 1) := by decide +kernel
theorem dX10_fits_90 : decode cX10_fits 90 = .ok (.bipush 20, 2) := by decide +kernel
theorem dX10_fits_92 : decode cX10_fits 92 = .ok (.isub, 1) := by decide +kernel
theorem dX10_fits_93 : decode cX10_fits 93 = .ok (.iaload, 1) := by decide +kernel
theorem dX10_fits_94 : decode cX10_fits 94 = .ok (.goto 5, 3) := by decide +kernel
theorem dX10_fits_97 : decode cX10_fits 97 = .ok (.bipush (-2), 2) := by decide +kernel
theorem dX10_fits_99 : decode cX10_fits 99 = .ok (.ireturn, 1) := by decide +kernel
def tX10_fits (g : ax_G) : Nat → ax_O := ax_nd 49 (ax_nd 23 (ax_nd 7 (ax_nd 2 (ax_nd 0 (ax_lf 0 (ao_al 0 1)) (ax_nd 1 (ax_lf 1 (ao_ic (0) 1)) (ax_lf 2 (ao_pi 10 0)))) (ax_nd 5 (ax_lf 5 (ao_al 0 1)) (ax_nd 6 (ax_lf 6 (ao_il 2 1)) (ax_lf 7 (ao_inv g 3 10 1 yX10_hasSights cX10_hasSights 2 (some .boolean) 2 0 0 0 0))))) (ax_nd 14 (ax_nd 10 (ax_lf 10 (ao_if_eq 21)) (ax_nd 13 (ax_lf 13 (ao_al 0 1)) (ax_lf 14 (ao_il 1 1)))) (ax_nd 18 (ax_nd 15 (ax_lf 15 (ao_inv g 6 10 1 yX10_hand cX10_hand 4 (some .boolean) 2 0 0 0 0)) (ax_lf 18 (ao_if_ne 24))) (ax_nd 21 (ax_lf 21 (ao_ic (-2) 2)) (ax_lf 23 (ao_iret 0 0)))))) (ax_nd 34 (ax_nd 28 (ax_nd 24 (ax_lf 24 (ao_al 0 1)) (ax_nd 25 (ax_lf 25 (ao_inv g 5 10 0 yX10_findFits cX10_findFits 4 none 1 0 0 0 0)) (ax_lf 28 (ao_il 3 1)))) (ax_nd 31 (ax_nd 29 (ax_lf 29 (ao_ic (10) 2)) (ax_lf 31 (ao_ic (9) 2))) (ax_nd 33 (ax_lf 33 (ao_al 0 1)) (ax_lf 34 (ao_gi 10 51))))) (ax_nd 41 (ax_nd 37 (ax_lf 37 ao_iadd) (ax_nd 38 (ax_lf 38 (ao_inv g 1 99 1 yX10_in cX10_in 3 (some .boolean) 3 0 0 0 0)) (ax_lf 41 (ao_if_eq 58)))) (ax_nd 45 (ax_nd 44 (ax_lf 44 (ao_al 0 1)) (ax_lf 45 (ao_al 0 1))) (ax_nd 46 (ax_lf 46 (ao_gr 10 52)) (ax_lf 49 (ao_il 3 1))))))) (ax_nd 72 (ax_nd 58 (ax_nd 53 (ax_nd 50 (ax_lf 50 (ao_ic (10) 2)) (ax_nd 52 (ax_lf 52 ao_isub) (ax_lf 53 ao_iald))) (ax_nd 54 (ax_lf 54 (ao_inv g 1 10 1 yX10_onlyOne cX10_onlyOne 3 (some .int) 2 0 0 0 0)) (ax_nd 57 (ax_lf 57 (ao_iret 0 0)) (ax_lf 58 (ao_il 3 1))))) (ax_nd 63 (ax_nd 59 (ax_lf 59 (ao_if_ne 69)) (ax_nd 62 (ax_lf 62 (ao_al 0 1)) (ax_lf 63 (ao_gi 10 50)))) (ax_nd 69 (ax_nd 66 (ax_lf 66 (ao_goto 99)) (ax_lf 69 (ao_il 3 1))) (ax_nd 70 (ax_lf 70 (ao_ic (20) 2)) (ax_lf 72 (ao_ic (19) 2)))))) (ax_nd 86 (ax_nd 78 (ax_nd 74 (ax_lf 74 (ao_al 0 1)) (ax_nd 75 (ax_lf 75 (ao_gi 10 51)) (ax_lf 78 ao_iadd))) (ax_nd 82 (ax_nd 79 (ax_lf 79 (ao_inv g 1 99 1 yX10_in cX10_in 3 (some .boolean) 3 0 0 0 0)) (ax_lf 82 (ao_if_eq 97))) (ax_nd 85 (ax_lf 85 (ao_al 0 1)) (ax_lf 86 (ao_gr 10 52))))) (ax_nd 92 (ax_nd 89 (ax_lf 89 (ao_il 3 1)) (ax_nd 90 (ax_lf 90 (ao_ic (20) 2)) (ax_lf 92 ao_isub))) (ax_nd 94 (ax_nd 93 (ax_lf 93 ao_iald) (ax_lf 94 (ao_goto 99))) (ax_nd 97 (ax_lf 97 (ao_ic (-2) 2)) (ax_lf 99 (ao_iret 0 0)))))))
theorem oX10_fits (g : ax_G) : ∀ pc, ax_ok g cX10_fits 4 (some .int) RX10 "fits" 7 0 0 pc (tX10_fits g pc) := ax_nd_ok (ax_nd_ok (ax_nd_ok (ax_nd_ok (ax_nd_ok (ax_lf_ok (ak_aload_n rfl dX10_fits_0)) (ax_nd_ok (ax_lf_ok (ak_iconst (by decide) dX10_fits_1)) (ax_lf_ok (ak_pi fF_X10_88 fW_X10_88_a dX10_fits_2)))) (ax_nd_ok (ax_lf_ok (ak_aload_n rfl dX10_fits_5)) (ax_nd_ok (ax_lf_ok (ak_iload_n rfl dX10_fits_6)) (ax_lf_ok (ak_invV (by decide) (by decide) (by decide) rfl wd_1618 wd_1620 wd_83 wd_106 wd_1621 ⟨by decide, by decide, by decide +kernel⟩ dX10_fits_7))))) (ax_nd_ok (ax_nd_ok (ax_lf_ok (ak_if_eq (by decide) dX10_fits_10)) (ax_nd_ok (ax_lf_ok (ak_aload_n rfl dX10_fits_13)) (ax_lf_ok (ak_iload_n rfl dX10_fits_14)))) (ax_nd_ok (ax_nd_ok (ax_lf_ok (ak_invV (by decide) (by decide) (by decide) rfl wd_1356 wd_1358 wd_44 wd_106 wd_1359 ⟨by decide, by decide, by decide +kernel⟩ dX10_fits_15)) (ax_lf_ok (ak_if_ne (by decide) dX10_fits_18))) (ax_nd_ok (ax_lf_ok (ak_bipush (by decide) dX10_fits_21)) (ax_lf_ok (ak_iret rfl dX10_fits_23)))))) (ax_nd_ok (ax_nd_ok (ax_nd_ok (ax_lf_ok (ak_aload_n rfl dX10_fits_24)) (ax_nd_ok (ax_lf_ok (ak_invV (by decide) (by decide) (by decide) rfl wd_1630 wd_1632 wd_85 wd_106 wd_1633 ⟨by decide, by decide, by decide +kernel⟩ dX10_fits_25)) (ax_lf_ok (ak_iload_n rfl dX10_fits_28)))) (ax_nd_ok (ax_nd_ok (ax_lf_ok (ak_bipush (by decide) dX10_fits_29)) (ax_lf_ok (ak_bipush (by decide) dX10_fits_31))) (ax_nd_ok (ax_lf_ok (ak_aload_n rfl dX10_fits_33)) (ax_lf_ok (ak_gi fF_X10_449 dX10_fits_34))))) (ax_nd_ok (ax_nd_ok (ax_lf_ok (ak_iadd dX10_fits_37)) (ax_nd_ok (ax_lf_ok (ak_invS (by decide) (by decide) wd_1244 wd_1245 wd_106 wd_1246 ⟨by decide, by decide, by decide +kernel⟩ dX10_fits_38)) (ax_lf_ok (ak_if_eq (by decide) dX10_fits_41)))) (ax_nd_ok (ax_nd_ok (ax_lf_ok (ak_aload_n rfl dX10_fits_44)) (ax_lf_ok (ak_aload_n rfl dX10_fits_45))) (ax_nd_ok (ax_lf_ok (ak_gr fF_X10_72 dX10_fits_46)) (ax_lf_ok (ak_iload_n rfl dX10_fits_49))))))) (ax_nd_ok (ax_nd_ok (ax_nd_ok (ax_nd_ok (ax_lf_ok (ak_bipush (by decide) dX10_fits_50)) (ax_nd_ok (ax_lf_ok (ak_isub dX10_fits_52)) (ax_lf_ok (ak_iald dX10_fits_53)))) (ax_nd_ok (ax_lf_ok (ak_invV (by decide) (by decide) (by decide) rfl wd_1642 wd_1644 wd_88 wd_106 wd_1645 ⟨by decide, by decide, by decide +kernel⟩ dX10_fits_54)) (ax_nd_ok (ax_lf_ok (ak_iret rfl dX10_fits_57)) (ax_lf_ok (ak_iload_n rfl dX10_fits_58))))) (ax_nd_ok (ax_nd_ok (ax_lf_ok (ak_if_ne (by decide) dX10_fits_59)) (ax_nd_ok (ax_lf_ok (ak_aload_n rfl dX10_fits_62)) (ax_lf_ok (ak_gi fF_X10_455 dX10_fits_63)))) (ax_nd_ok (ax_nd_ok (ax_lf_ok (ak_goto (by decide) dX10_fits_66)) (ax_lf_ok (ak_iload_n rfl dX10_fits_69))) (ax_nd_ok (ax_lf_ok (ak_bipush (by decide) dX10_fits_70)) (ax_lf_ok (ak_bipush (by decide) dX10_fits_72)))))) (ax_nd_ok (ax_nd_ok (ax_nd_ok (ax_lf_ok (ak_aload_n rfl dX10_fits_74)) (ax_nd_ok (ax_lf_ok (ak_gi fF_X10_449 dX10_fits_75)) (ax_lf_ok (ak_iadd dX10_fits_78)))) (ax_nd_ok (ax_nd_ok (ax_lf_ok (ak_invS (by decide) (by decide) wd_1244 wd_1245 wd_106 wd_1246 ⟨by decide, by decide, by decide +kernel⟩ dX10_fits_79)) (ax_lf_ok (ak_if_eq (by decide) dX10_fits_82))) (ax_nd_ok (ax_lf_ok (ak_aload_n rfl dX10_fits_85)) (ax_lf_ok (ak_gr fF_X10_72 dX10_fits_86))))) (ax_nd_ok (ax_nd_ok (ax_lf_ok (ak_iload_n rfl dX10_fits_89)) (ax_nd_ok (ax_lf_ok (ak_bipush (by decide) dX10_fits_90)) (ax_lf_ok (ak_isub dX10_fits_92)))) (ax_nd_ok (ax_nd_ok (ax_lf_ok (ak_iald dX10_fits_93)) (ax_lf_ok (ak_goto (by decide) dX10_fits_94))) (ax_nd_ok (ax_lf_ok (ak_bipush (by decide) dX10_fits_97)) (ax_lf_ok (ak_iret rfl dX10_fits_99)))))))
abbrev mX10_fits (g : ax_G) (as : List Value) (h : ax_H) (Ret : Option Value → ax_H → Prop) : Prop := ax_M g 7 0 0 yX10_fits cX10_fits 4 (some .int) as h Ret
theorem dX10_reignDays_0 : decode cX10_reignDays 0 = .ok (.iconst (-1), 1) := by decide +kernel
theorem dX10_reignDays_1 : decode cX10_reignDays 1 = .ok (.istore_n 2, 1) := by decide +kernel
theorem dX10_reignDays_2 : decode cX10_reignDays 2 = .ok (.iconst 0, 1) := by decide +kernel
theorem dX10_reignDays_3 : decode cX10_reignDays 3 = .ok (.istore_n 3, 1) := by decide +kernel
theorem dX10_reignDays_4 : decode cX10_reignDays 4 = .ok (.iload_n 3, 1) := by decide +kernel
theorem dX10_reignDays_5 : decode cX10_reignDays 5 = .ok (.bipush 6, 2) := by decide +kernel
theorem dX10_reignDays_7 : decode cX10_reignDays 7 = .ok (.if_icmp .ge 16, 3) := by decide +kernel
theorem dX10_reignDays_10 : decode cX10_reignDays 10 = .ok (.aload_n 0, 1) := by decide +kernel
theorem dX10_reignDays_11 : decode cX10_reignDays 11 = .ok (.getfield 81, 3) := by decide +kernel
theorem dX10_reignDays_14 : decode cX10_reignDays 14 = .ok (.iload_n 3, 1) := by decide +kernel
theorem dX10_reignDays_15 : decode cX10_reignDays 15 = .ok (.iconst 0, 1) := by decide +kernel
theorem dX10_reignDays_16 : decode cX10_reignDays 16 = .ok (.iastore, 1) := by decide +kernel
theorem dX10_reignDays_17 : decode cX10_reignDays 17 = .ok (.iinc 3 1, 3) := by decide +kernel
theorem dX10_reignDays_20 : decode cX10_reignDays 20 = .ok (.goto (-16), 3) := by decide +kernel
theorem dX10_reignDays_23 : decode cX10_reignDays 23 = .ok (.iconst 0, 1) := by decide +kernel
theorem dX10_reignDays_24 : decode cX10_reignDays 24 = .ok (.istore_n 3, 1) := by decide +kernel
theorem dX10_reignDays_25 : decode cX10_reignDays 25 = .ok (.iload_n 3, 1) := by decide +kernel
theorem dX10_reignDays_26 : decode cX10_reignDays 26 = .ok (.iload_n 1, 1) := by decide +kernel
theorem dX10_reignDays_27 : decode cX10_reignDays 27 = .ok (.if_icmp .ge 84, 3) := by decide +kernel
theorem dX10_reignDays_30 : decode cX10_reignDays 30 = .ok (.aload_n 0, 1) := by decide +kernel
theorem dX10_reignDays_31 : decode cX10_reignDays 31 = .ok (.getfield 273, 3) := by decide +kernel
theorem dX10_reignDays_34 : decode cX10_reignDays 34 = .ok (.istore 4, 2) := by decide +kernel
theorem dX10_reignDays_36 : decode cX10_reignDays 36 = .ok (.aload_n 0, 1) := by decide +kernel
theorem dX10_reignDays_37 : decode cX10_reignDays 37 = .ok (.getfield 78, 3) := by decide +kernel
theorem dX10_reignDays_40 : decode cX10_reignDays 40 = .ok (.iload_n 3, 1) := by decide +kernel
theorem dX10_reignDays_41 : decode cX10_reignDays 41 = .ok (.iload 4, 2) := by decide +kernel
theorem dX10_reignDays_43 : decode cX10_reignDays 43 = .ok (.iconst (-1), 1) := by decide +kernel
theorem dX10_reignDays_44 : decode cX10_reignDays 44 = .ok (.if_icmp .ne 7, 3) := by decide +kernel
theorem dX10_reignDays_47 : decode cX10_reignDays 47 = .ok (.iconst 0, 1) := by decide +kernel
theorem dX10_reignDays_48 : decode cX10_reignDays 48 = .ok (.goto 9, 3) := by decide +kernel
theorem dX10_reignDays_51 : decode cX10_reignDays 51 = .ok (.aload_n 0, 1) := by decide +kernel
theorem dX10_reignDays_52 : decode cX10_reignDays 52 = .ok (.iload 4, 2) := by decide +kernel
theorem dX10_reignDays_54 : decode cX10_reignDays 54 = .ok (.invokevirtual 356, 3) := by decide +kernel
theorem dX10_reignDays_57 : decode cX10_reignDays 57 = .ok (.iastore, 1) := by decide +kernel
theorem dX10_reignDays_58 : decode cX10_reignDays 58 = .ok (.iload 4, 2) := by decide +kernel
theorem dX10_reignDays_60 : decode cX10_reignDays 60 = .ok (.iconst (-1), 1) := by decide +kernel
theorem dX10_reignDays_61 : decode cX10_reignDays 61 = .ok (.if_icmp .eq 14, 3) := by decide +kernel
theorem dX10_reignDays_64 : decode cX10_reignDays 64 = .ok (.aload_n 0, 1) := by decide +kernel
theorem dX10_reignDays_65 : decode cX10_reignDays 65 = .ok (.getfield 81, 3) := by decide +kernel
theorem dX10_reignDays_68 : decode cX10_reignDays 68 = .ok (.iload 4, 2) := by decide +kernel
theorem dX10_reignDays_70 : decode cX10_reignDays 70 = .ok (.dup2, 1) := by decide +kernel
theorem dX10_reignDays_71 : decode cX10_reignDays 71 = .ok (.iaload, 1) := by decide +kernel
theorem dX10_reignDays_72 : decode cX10_reignDays 72 = .ok (.iconst 1, 1) := by decide +kernel
theorem dX10_reignDays_73 : decode cX10_reignDays 73 = .ok (.iadd, 1) := by decide +kernel
theorem dX10_reignDays_74 : decode cX10_reignDays 74 = .ok (.iastore, 1) := by decide +kernel
theorem dX10_reignDays_75 : decode cX10_reignDays 75 = .ok (.aload_n 0, 1) := by decide +kernel
theorem dX10_reignDays_76 : decode cX10_reignDays 76 = .ok (.aload_n 0, 1) := by decide +kernel
theorem dX10_reignDays_77 : decode cX10_reignDays 77 = .ok (.getfield 78, 3) := by decide +kernel
theorem dX10_reignDays_80 : decode cX10_reignDays 80 = .ok (.iload_n 3, 1) := by decide +kernel
theorem dX10_reignDays_81 : decode cX10_reignDays 81 = .ok (.iaload, 1) := by decide +kernel
theorem dX10_reignDays_82 : decode cX10_reignDays 82 = .ok (.invokevirtual 327, 3) := by decide +kernel
theorem dX10_reignDays_85 : decode cX10_reignDays 85 = .ok (.iload_n 2, 1) := by decide +kernel
theorem dX10_reignDays_86 : decode cX10_reignDays 86 = .ok (.iconst (-1), 1) := by decide +kernel
theorem dX10_reignDays_87 : decode cX10_reignDays 87 = .ok (.if_icmp .ne 16, 3) := by decide +kernel
theorem dX10_reignDays_90 : decode cX10_reignDays 90 = .ok (.aload_n 0, 1) := by decide +kernel
theorem dX10_reignDays_91 : decode cX10_reignDays 91 = .ok (.getfield 273, 3) := by decide +kernel
theorem dX10_reignDays_94 : decode cX10_reignDays 94 = .ok (.iload 4, 2) := by decide +kernel
theorem dX10_reignDays_96 : decode cX10_reignDays 96 = .ok (.if_icmp .eq 7, 3) := by decide +kernel
theorem dX10_reignDays_99 : decode cX10_reignDays 99 = .ok (.iload_n 3, 1) := by decide +kernel
theorem dX10_reignDays_100 : decode cX10_reignDays 100 = .ok (.goto 4, 3) := by decide +kernel
theorem dX10_reignDays_103 : decode cX10_reignDays 103 = .ok (.iload_n 2, 1) := by decide +kernel
theorem dX10_reignDays_104 : decode cX10_reignDays 104 = .ok (.istore_n 2, 1) := by decide +kernel
theorem dX10_reignDays_105 : decode cX10_reignDays 105 = .ok (.iinc 3 1, 3) := by decide +kernel
theorem dX10_reignDays_108 : decode cX10_reignDays 108 = .ok (.goto (-83), 3) := by decide +kernel
theorem dX10_reignDays_111 : decode cX10_reignDays 111 = .ok (.iload_n 2, 1) := by decide +kernel
theorem dX10_reignDays_112 : decode cX10_reignDays 112 = .ok (.ireturn, 1) := by decide +kernel
def tX10_reignDays (g : ax_G) : Nat → ax_O := ax_nd 54 (ax_nd 24 (ax_nd 10 (ax_nd 3 (ax_nd 1 (ax_nd 0 (ax_lf 0 (ao_ic (-1) 1)) (ax_lf 1 (ao_is 2 1))) (ax_nd 2 (ax_lf 2 (ao_ic (0) 1)) (ax_lf 3 (ao_is 3 1)))) (ax_nd 5 (ax_nd 4 (ax_lf 4 (ao_il 3 1)) (ax_lf 5 (ao_ic (6) 2))) (ax_nd 7 (ax_lf 7 (ao_icmp_ge 23)) (ax_lf 10 (ao_al 0 1))))) (ax_nd 16 (ax_nd 14 (ax_nd 11 (ax_lf 11 (ao_gr 10 55)) (ax_lf 14 (ao_il 3 1))) (ax_nd 15 (ax_lf 15 (ao_ic (0) 1)) (ax_lf 16 ao_iast))) (ax_nd 20 (ax_nd 17 (ax_lf 17 (ao_iinc 3 (1))) (ax_lf 20 (ao_goto 4))) (ax_nd 23 (ax_lf 23 (ao_ic (0) 1)) (ax_lf 24 (ao_is 3 1)))))) (ax_nd 37 (ax_nd 30 (ax_nd 26 (ax_nd 25 (ax_lf 25 (ao_il 3 1)) (ax_lf 26 (ao_il 1 1))) (ax_nd 27 (ax_lf 27 (ao_icmp_ge 111)) (ax_lf 30 (ao_al 0 1)))) (ax_nd 34 (ax_nd 31 (ax_lf 31 (ao_gi 10 33)) (ax_lf 34 (ao_is 4 2))) (ax_nd 36 (ax_lf 36 (ao_al 0 1)) (ax_lf 37 (ao_gr 10 54))))) (ax_nd 44 (ax_nd 41 (ax_nd 40 (ax_lf 40 (ao_il 3 1)) (ax_lf 41 (ao_il 4 2))) (ax_nd 43 (ax_lf 43 (ao_ic (-1) 1)) (ax_lf 44 (ao_icmp_ne 51)))) (ax_nd 48 (ax_nd 47 (ax_lf 47 (ao_ic (0) 1)) (ax_lf 48 (ao_goto 57))) (ax_nd 51 (ax_lf 51 (ao_al 0 1)) (ax_nd 52 (ax_lf 52 (ao_il 4 2)) (ax_lf 54 (ao_inv g 1 10 1 yX10_wishOf cX10_wishOf 4 (some .int) 2 0 0 0 0)))))))) (ax_nd 80 (ax_nd 70 (ax_nd 61 (ax_nd 58 (ax_nd 57 (ax_lf 57 ao_iast) (ax_lf 58 (ao_il 4 2))) (ax_nd 60 (ax_lf 60 (ao_ic (-1) 1)) (ax_lf 61 (ao_icmp_eq 75)))) (ax_nd 65 (ax_nd 64 (ax_lf 64 (ao_al 0 1)) (ax_lf 65 (ao_gr 10 55))) (ax_nd 68 (ax_lf 68 (ao_il 4 2)) (ax_lf 70 ao_dup2)))) (ax_nd 74 (ax_nd 72 (ax_nd 71 (ax_lf 71 ao_iald) (ax_lf 72 (ao_ic (1) 1))) (ax_nd 73 (ax_lf 73 ao_iadd) (ax_lf 74 ao_iast))) (ax_nd 76 (ax_nd 75 (ax_lf 75 (ao_al 0 1)) (ax_lf 76 (ao_al 0 1))) (ax_nd 77 (ax_lf 77 (ao_gr 10 54)) (ax_lf 80 (ao_il 3 1)))))) (ax_nd 94 (ax_nd 86 (ax_nd 82 (ax_nd 81 (ax_lf 81 ao_iald) (ax_lf 82 (ao_inv g 3 10 0 yX10_live cX10_live 3 none 2 0 0 0 0))) (ax_nd 85 (ax_lf 85 (ao_il 2 1)) (ax_lf 86 (ao_ic (-1) 1)))) (ax_nd 90 (ax_nd 87 (ax_lf 87 (ao_icmp_ne 103)) (ax_lf 90 (ao_al 0 1))) (ax_nd 91 (ax_lf 91 (ao_gi 10 33)) (ax_lf 94 (ao_il 4 2))))) (ax_nd 103 (ax_nd 99 (ax_nd 96 (ax_lf 96 (ao_icmp_eq 103)) (ax_lf 99 (ao_il 3 1))) (ax_nd 100 (ax_lf 100 (ao_goto 104)) (ax_lf 103 (ao_il 2 1)))) (ax_nd 105 (ax_nd 104 (ax_lf 104 (ao_is 2 1)) (ax_lf 105 (ao_iinc 3 (1)))) (ax_nd 108 (ax_lf 108 (ao_goto 25)) (ax_nd 111 (ax_lf 111 (ao_il 2 1)) (ax_lf 112 (ao_iret 0 0))))))))
theorem oX10_reignDays (g : ax_G) : ∀ pc, ax_ok g cX10_reignDays 5 (some .int) RX10 "reignDays" 4 0 0 pc (tX10_reignDays g pc) := ax_nd_ok (ax_nd_ok (ax_nd_ok (ax_nd_ok (ax_nd_ok (ax_nd_ok (ax_lf_ok (ak_iconst (by decide) dX10_reignDays_0)) (ax_lf_ok (ak_istore_n rfl (by decide) dX10_reignDays_1))) (ax_nd_ok (ax_lf_ok (ak_iconst (by decide) dX10_reignDays_2)) (ax_lf_ok (ak_istore_n rfl (by decide) dX10_reignDays_3)))) (ax_nd_ok (ax_nd_ok (ax_lf_ok (ak_iload_n rfl dX10_reignDays_4)) (ax_lf_ok (ak_bipush (by decide) dX10_reignDays_5))) (ax_nd_ok (ax_lf_ok (ak_icmp_ge (by decide) dX10_reignDays_7)) (ax_lf_ok (ak_aload_n rfl dX10_reignDays_10))))) (ax_nd_ok (ax_nd_ok (ax_nd_ok (ax_lf_ok (ak_gr fF_X10_81 dX10_reignDays_11)) (ax_lf_ok (ak_iload_n rfl dX10_reignDays_14))) (ax_nd_ok (ax_lf_ok (ak_iconst (by decide) dX10_reignDays_15)) (ax_lf_ok (ak_iast dX10_reignDays_16)))) (ax_nd_ok (ax_nd_ok (ax_lf_ok (ak_iinc (by decide) (by decide) dX10_reignDays_17)) (ax_lf_ok (ak_goto (by decide) dX10_reignDays_20))) (ax_nd_ok (ax_lf_ok (ak_iconst (by decide) dX10_reignDays_23)) (ax_lf_ok (ak_istore_n rfl (by decide) dX10_reignDays_24)))))) (ax_nd_ok (ax_nd_ok (ax_nd_ok (ax_nd_ok (ax_lf_ok (ak_iload_n rfl dX10_reignDays_25)) (ax_lf_ok (ak_iload_n rfl dX10_reignDays_26))) (ax_nd_ok (ax_lf_ok (ak_icmp_ge (by decide) dX10_reignDays_27)) (ax_lf_ok (ak_aload_n rfl dX10_reignDays_30)))) (ax_nd_ok (ax_nd_ok (ax_lf_ok (ak_gi fF_X10_273 dX10_reignDays_31)) (ax_lf_ok (ak_istore (by decide) dX10_reignDays_34))) (ax_nd_ok (ax_lf_ok (ak_aload_n rfl dX10_reignDays_36)) (ax_lf_ok (ak_gr fF_X10_78 dX10_reignDays_37))))) (ax_nd_ok (ax_nd_ok (ax_nd_ok (ax_lf_ok (ak_iload_n rfl dX10_reignDays_40)) (ax_lf_ok (ak_iload dX10_reignDays_41))) (ax_nd_ok (ax_lf_ok (ak_iconst (by decide) dX10_reignDays_43)) (ax_lf_ok (ak_icmp_ne (by decide) dX10_reignDays_44)))) (ax_nd_ok (ax_nd_ok (ax_lf_ok (ak_iconst (by decide) dX10_reignDays_47)) (ax_lf_ok (ak_goto (by decide) dX10_reignDays_48))) (ax_nd_ok (ax_lf_ok (ak_aload_n rfl dX10_reignDays_51)) (ax_nd_ok (ax_lf_ok (ak_iload dX10_reignDays_52)) (ax_lf_ok (ak_invV (by decide) (by decide) (by decide) rfl wd_1488 wd_1490 wd_64 wd_106 wd_1491 ⟨by decide, by decide, by decide +kernel⟩ dX10_reignDays_54)))))))) (ax_nd_ok (ax_nd_ok (ax_nd_ok (ax_nd_ok (ax_nd_ok (ax_lf_ok (ak_iast dX10_reignDays_57)) (ax_lf_ok (ak_iload dX10_reignDays_58))) (ax_nd_ok (ax_lf_ok (ak_iconst (by decide) dX10_reignDays_60)) (ax_lf_ok (ak_icmp_eq (by decide) dX10_reignDays_61)))) (ax_nd_ok (ax_nd_ok (ax_lf_ok (ak_aload_n rfl dX10_reignDays_64)) (ax_lf_ok (ak_gr fF_X10_81 dX10_reignDays_65))) (ax_nd_ok (ax_lf_ok (ak_iload dX10_reignDays_68)) (ax_lf_ok (ak_dup2 dX10_reignDays_70))))) (ax_nd_ok (ax_nd_ok (ax_nd_ok (ax_lf_ok (ak_iald dX10_reignDays_71)) (ax_lf_ok (ak_iconst (by decide) dX10_reignDays_72))) (ax_nd_ok (ax_lf_ok (ak_iadd dX10_reignDays_73)) (ax_lf_ok (ak_iast dX10_reignDays_74)))) (ax_nd_ok (ax_nd_ok (ax_lf_ok (ak_aload_n rfl dX10_reignDays_75)) (ax_lf_ok (ak_aload_n rfl dX10_reignDays_76))) (ax_nd_ok (ax_lf_ok (ak_gr fF_X10_78 dX10_reignDays_77)) (ax_lf_ok (ak_iload_n rfl dX10_reignDays_80)))))) (ax_nd_ok (ax_nd_ok (ax_nd_ok (ax_nd_ok (ax_lf_ok (ak_iald dX10_reignDays_81)) (ax_lf_ok (ak_invV (by decide) (by decide) (by decide) rfl wd_1442 wd_1444 wd_58 wd_106 wd_1445 ⟨by decide, by decide, by decide +kernel⟩ dX10_reignDays_82))) (ax_nd_ok (ax_lf_ok (ak_iload_n rfl dX10_reignDays_85)) (ax_lf_ok (ak_iconst (by decide) dX10_reignDays_86)))) (ax_nd_ok (ax_nd_ok (ax_lf_ok (ak_icmp_ne (by decide) dX10_reignDays_87)) (ax_lf_ok (ak_aload_n rfl dX10_reignDays_90))) (ax_nd_ok (ax_lf_ok (ak_gi fF_X10_273 dX10_reignDays_91)) (ax_lf_ok (ak_iload dX10_reignDays_94))))) (ax_nd_ok (ax_nd_ok (ax_nd_ok (ax_lf_ok (ak_icmp_eq (by decide) dX10_reignDays_96)) (ax_lf_ok (ak_iload_n rfl dX10_reignDays_99))) (ax_nd_ok (ax_lf_ok (ak_goto (by decide) dX10_reignDays_100)) (ax_lf_ok (ak_iload_n rfl dX10_reignDays_103)))) (ax_nd_ok (ax_nd_ok (ax_lf_ok (ak_istore_n rfl (by decide) dX10_reignDays_104)) (ax_lf_ok (ak_iinc (by decide) (by decide) dX10_reignDays_105))) (ax_nd_ok (ax_lf_ok (ak_goto (by decide) dX10_reignDays_108)) (ax_nd_ok (ax_lf_ok (ak_iload_n rfl dX10_reignDays_111)) (ax_lf_ok (ak_iret rfl dX10_reignDays_112))))))))
abbrev mX10_reignDays (g : ax_G) (as : List Value) (h : ax_H) (Ret : Option Value → ax_H → Prop) : Prop := ax_M g 4 0 0 yX10_reignDays cX10_reignDays 5 (some .int) as h Ret
theorem dX10_reign_0 : decode cX10_reign 0 = .ok (.aload_n 0, 1) := by decide +kernel
theorem dX10_reign_1 : decode cX10_reign 1 = .ok (.iconst 0, 1) := by decide +kernel
theorem dX10_reign_2 : decode cX10_reign 2 = .ok (.putfield 88, 3) := by decide +kernel
theorem dX10_reign_5 : decode cX10_reign 5 = .ok (.iload_n 2, 1) := by decide +kernel
theorem dX10_reign_6 : decode cX10_reign 6 = .ok (.iconst 0, 1) := by decide +kernel
theorem dX10_reign_7 : decode cX10_reign 7 = .ok (.bipush 60, 2) := by decide +kernel
theorem dX10_reign_9 : decode cX10_reign 9 = .ok (.invokestatic 96, 3) := by decide +kernel
theorem dX10_reign_12 : decode cX10_reign 12 = .ok (.ifCond .eq 11, 3) := by decide +kernel
theorem dX10_reign_15 : decode cX10_reign 15 = .ok (.aload_n 0, 1) := by decide +kernel
theorem dX10_reign_16 : decode cX10_reign 16 = .ok (.iload_n 1, 1) := by decide +kernel
theorem dX10_reign_17 : decode cX10_reign 17 = .ok (.invokevirtual 288, 3) := by decide +kernel
theorem dX10_reign_20 : decode cX10_reign 20 = .ok (.ifCond .ne 7, 3) := by decide +kernel
theorem dX10_reign_23 : decode cX10_reign 23 = .ok (.ldc_w 300, 3) := by decide +kernel
theorem dX10_reign_26 : decode cX10_reign 26 = .ok (.ireturn, 1) := by decide +kernel
theorem dX10_reign_27 : decode cX10_reign 27 = .ok (.aload_n 0, 1) := by decide +kernel
theorem dX10_reign_28 : decode cX10_reign 28 = .ok (.iload_n 2, 1) := by decide +kernel
theorem dX10_reign_29 : decode cX10_reign 29 = .ok (.invokevirtual 467, 3) := by decide +kernel
theorem dX10_reign_32 : decode cX10_reign 32 = .ok (.istore 4, 2) := by decide +kernel
theorem dX10_reign_34 : decode cX10_reign 34 = .ok (.iload_n 3, 1) := by decide +kernel
theorem dX10_reign_35 : decode cX10_reign 35 = .ok (.bipush 100, 2) := by decide +kernel
theorem dX10_reign_37 : decode cX10_reign 37 = .ok (.bipush 99, 2) := by decide +kernel
theorem dX10_reign_39 : decode cX10_reign 39 = .ok (.iload_n 2, 1) := by decide +kernel
theorem dX10_reign_40 : decode cX10_reign 40 = .ok (.iadd, 1) := by decide +kernel
theorem dX10_reign_41 : decode cX10_reign 41 = .ok (.invokestatic 96, 3) := by decide +kernel
theorem dX10_reign_44 : decode cX10_reign 44 = .ok (.ifCond .eq 13, 3) := by decide +kernel
theorem dX10_reign_47 : decode cX10_reign 47 = .ok (.aload_n 0, 1) := by decide +kernel
theorem dX10_reign_48 : decode cX10_reign 48 = .ok (.getfield 78, 3) := by decide +kernel
theorem dX10_reign_51 : decode cX10_reign 51 = .ok (.iload_n 3, 1) := by decide +kernel
theorem dX10_reign_52 : decode cX10_reign 52 = .ok (.bipush 100, 2) := by decide +kernel
theorem dX10_reign_54 : decode cX10_reign 54 = .ok (.isub, 1) := by decide +kernel
theorem dX10_reign_55 : decode cX10_reign 55 = .ok (.iaload, 1) := by decide +kernel
theorem dX10_reign_56 : decode cX10_reign 56 = .ok (.ireturn, 1) := by decide +kernel
theorem dX10_reign_57 : decode cX10_reign 57 = .ok (.iload_n 3, 1) := by decide +kernel
theorem dX10_reign_58 : decode cX10_reign 58 = .ok (.bipush 20, 2) := by decide +kernel
theorem dX10_reign_60 : decode cX10_reign 60 = .ok (.bipush 19, 2) := by decide +kernel
theorem dX10_reign_62 : decode cX10_reign 62 = .ok (.aload_n 0, 1) := by decide +kernel
theorem dX10_reign_63 : decode cX10_reign 63 = .ok (.getfield 276, 3) := by decide +kernel
theorem dX10_reign_66 : decode cX10_reign 66 = .ok (.iadd, 1) := by decide +kernel
theorem dX10_reign_67 : decode cX10_reign 67 = .ok (.invokestatic 96, 3) := by decide +kernel
theorem dX10_reign_70 : decode cX10_reign 70 = .ok (.ifCond .eq 13, 3) := by decide +kernel
theorem dX10_reign_73 : decode cX10_reign 73 = .ok (.aload_n 0, 1) := by decide +kernel
theorem dX10_reign_74 : decode cX10_reign 74 = .ok (.getfield 81, 3) := by decide +kernel
theorem dX10_reign_77 : decode cX10_reign 77 = .ok (.iload_n 3, 1) := by decide +kernel
theorem dX10_reign_78 : decode cX10_reign 78 = .ok (.bipush 20, 2) := by decide +kernel
theorem dX10_reign_80 : decode cX10_reign 80 = .ok (.isub, 1) := by decide +kernel
theorem dX10_reign_81 : decode cX10_reign 81 = .ok (.iaload, 1) := by decide +kernel
theorem dX10_reign_82 : decode cX10_reign 82 = .ok (.ireturn, 1) := by decide +kernel
theorem dX10_reign_83 : decode cX10_reign 83 = .ok (.aload_n 0, 1) := by decide +kernel
theorem dX10_reign_84 : decode cX10_reign 84 = .ok (.iload_n 3, 1) := by decide +kernel
theorem dX10_reign_85 : decode cX10_reign 85 = .ok (.invokevirtual 291, 3) := by decide +kernel
theorem dX10_reign_88 : decode cX10_reign 88 = .ok (.ifCond .eq 12, 3) := by decide +kernel
theorem dX10_reign_91 : decode cX10_reign 91 = .ok (.aload_n 0, 1) := by decide +kernel
theorem dX10_reign_92 : decode cX10_reign 92 = .ok (.getfield 47, 3) := by decide +kernel
theorem dX10_reign_95 : decode cX10_reign 95 = .ok (.iload_n 3, 1) := by decide +kernel
theorem dX10_reign_96 : decode cX10_reign 96 = .ok (.iaload, 1) := by decide +kernel
theorem dX10_reign_97 : decode cX10_reign 97 = .ok (.goto 30, 3) := by decide +kernel
theorem dX10_reign_100 : decode cX10_reign 100 = .ok (.iload_n 3, 1) := by decide +kernel
theorem dX10_reign_101 : decode cX10_reign 101 = .ok (.bipush 10, 2) := by decide +kernel
theorem dX10_reign_103 : decode cX10_reign 103 = .ok (.if_icmp .ne 10, 3) := by decide +kernel
theorem dX10_reign_106 : decode cX10_reign 106 = .ok (.aload_n 0, 1) := by decide +kernel
theorem dX10_reign_107 : decode cX10_reign 107 = .ok (.getfield 273, 3) := by decide +kernel
theorem dX10_reign_110 : decode cX10_reign 110 = .ok (.goto 17, 3) := by decide +kernel
theorem dX10_reign_113 : decode cX10_reign 113 = .ok (.iload_n 3, 1) := by decide +kernel
theorem dX10_reign_114 : decode cX10_reign 114 = .ok (.bipush 11, 2) := by decide +kernel
theorem dX10_reign_116 : decode cX10_reign 116 = .ok (.if_icmp .ne 8, 3) := by decide +kernel
theorem dX10_reign_119 : decode cX10_reign 119 = .ok (.iload 4, 2) := by decide +kernel
theorem dX10_reign_121 : decode cX10_reign 121 = .ok (.goto 6, 3) := by decide +kernel
theorem dX10_reign_124 : decode cX10_reign 124 = .ok (.ldc_w 300, 3) := by decide +kernel
theorem dX10_reign_127 : decode cX10_reign 127 = .ok (.ireturn, 1) := by decide +kernel
def tX10_reign (g : ax_G) : Nat → ax_O := ax_nd 58 (ax_nd 29 (ax_nd 12 (ax_nd 5 (ax_nd 1 (ax_nd 0 (ax_lf 0 (ao_al 0 1)) (ax_lf 1 (ao_ic (0) 1))) (ax_nd 2 (ax_lf 2 (ao_pi 10 0)) (ax_lf 5 (ao_il 2 1)))) (ax_nd 7 (ax_nd 6 (ax_lf 6 (ao_ic (0) 1)) (ax_lf 7 (ao_ic (60) 2))) (ax_nd 9 (ax_lf 9 (ao_inv g 1 99 1 yX10_in cX10_in 3 (some .boolean) 3 0 0 0 0)) (ax_lf 12 (ao_if_eq 23))))) (ax_nd 20 (ax_nd 16 (ax_nd 15 (ax_lf 15 (ao_al 0 1)) (ax_lf 16 (ao_il 1 1))) (ax_nd 17 (ax_lf 17 (ao_inv g 6 10 1 yX10_hand cX10_hand 4 (some .boolean) 2 0 0 0 0)) (ax_lf 20 (ao_if_ne 27)))) (ax_nd 26 (ax_nd 23 (ax_lf 23 (ao_ic (-1000000) 3)) (ax_lf 26 (ao_iret 0 0))) (ax_nd 27 (ax_lf 27 (ao_al 0 1)) (ax_nd 28 (ax_lf 28 (ao_il 2 1)) (ax_lf 29 (ao_inv g 4 10 1 yX10_reignDays cX10_reignDays 5 (some .int) 2 0 0 0 0))))))) (ax_nd 44 (ax_nd 37 (ax_nd 34 (ax_nd 32 (ax_lf 32 (ao_is 4 2)) (ax_lf 34 (ao_il 3 1))) (ax_nd 35 (ax_lf 35 (ao_ic (100) 2)) (ax_lf 37 (ao_ic (99) 2)))) (ax_nd 40 (ax_nd 39 (ax_lf 39 (ao_il 2 1)) (ax_lf 40 ao_iadd)) (ax_nd 41 (ax_lf 41 (ao_inv g 1 99 1 yX10_in cX10_in 3 (some .boolean) 3 0 0 0 0)) (ax_lf 44 (ao_if_eq 57))))) (ax_nd 52 (ax_nd 48 (ax_nd 47 (ax_lf 47 (ao_al 0 1)) (ax_lf 48 (ao_gr 10 54))) (ax_nd 51 (ax_lf 51 (ao_il 3 1)) (ax_lf 52 (ao_ic (100) 2)))) (ax_nd 55 (ax_nd 54 (ax_lf 54 ao_isub) (ax_lf 55 ao_iald)) (ax_nd 56 (ax_lf 56 (ao_iret 0 0)) (ax_nd 57 (ax_lf 57 (ao_il 3 1)) (ax_lf 58 (ao_ic (20) 2)))))))) (ax_nd 88 (ax_nd 74 (ax_nd 66 (ax_nd 62 (ax_nd 60 (ax_lf 60 (ao_ic (19) 2)) (ax_lf 62 (ao_al 0 1))) (ax_nd 63 (ax_lf 63 (ao_gi 10 27)) (ax_lf 66 ao_iadd))) (ax_nd 70 (ax_nd 67 (ax_lf 67 (ao_inv g 1 99 1 yX10_in cX10_in 3 (some .boolean) 3 0 0 0 0)) (ax_lf 70 (ao_if_eq 83))) (ax_nd 73 (ax_lf 73 (ao_al 0 1)) (ax_lf 74 (ao_gr 10 55))))) (ax_nd 81 (ax_nd 78 (ax_nd 77 (ax_lf 77 (ao_il 3 1)) (ax_lf 78 (ao_ic (20) 2))) (ax_nd 80 (ax_lf 80 ao_isub) (ax_lf 81 ao_iald))) (ax_nd 83 (ax_nd 82 (ax_lf 82 (ao_iret 0 0)) (ax_lf 83 (ao_al 0 1))) (ax_nd 84 (ax_lf 84 (ao_il 3 1)) (ax_nd 85 (ax_lf 85 (ao_inv g 2 10 1 yX10_isOne cX10_isOne 2 (some .boolean) 2 0 0 0 0)) (ax_lf 88 (ao_if_eq 100))))))) (ax_nd 106 (ax_nd 96 (ax_nd 92 (ax_nd 91 (ax_lf 91 (ao_al 0 1)) (ax_lf 92 (ao_gr 10 28))) (ax_nd 95 (ax_lf 95 (ao_il 3 1)) (ax_lf 96 ao_iald))) (ax_nd 100 (ax_nd 97 (ax_lf 97 (ao_goto 127)) (ax_lf 100 (ao_il 3 1))) (ax_nd 101 (ax_lf 101 (ao_ic (10) 2)) (ax_nd 103 (ax_lf 103 (ao_icmp_ne 113)) (ax_lf 106 (ao_al 0 1)))))) (ax_nd 114 (ax_nd 110 (ax_nd 107 (ax_lf 107 (ao_gi 10 33)) (ax_lf 110 (ao_goto 127))) (ax_nd 113 (ax_lf 113 (ao_il 3 1)) (ax_lf 114 (ao_ic (11) 2)))) (ax_nd 119 (ax_nd 116 (ax_lf 116 (ao_icmp_ne 124)) (ax_lf 119 (ao_il 4 2))) (ax_nd 121 (ax_lf 121 (ao_goto 127)) (ax_nd 124 (ax_lf 124 (ao_ic (-1000000) 3)) (ax_lf 127 (ao_iret 0 0))))))))
theorem oX10_reign (g : ax_G) : ∀ pc, ax_ok g cX10_reign 5 (some .int) RX10 "reign" 7 0 0 pc (tX10_reign g pc) := ax_nd_ok (ax_nd_ok (ax_nd_ok (ax_nd_ok (ax_nd_ok (ax_nd_ok (ax_lf_ok (ak_aload_n rfl dX10_reign_0)) (ax_lf_ok (ak_iconst (by decide) dX10_reign_1))) (ax_nd_ok (ax_lf_ok (ak_pi fF_X10_88 fW_X10_88_a dX10_reign_2)) (ax_lf_ok (ak_iload_n rfl dX10_reign_5)))) (ax_nd_ok (ax_nd_ok (ax_lf_ok (ak_iconst (by decide) dX10_reign_6)) (ax_lf_ok (ak_bipush (by decide) dX10_reign_7))) (ax_nd_ok (ax_lf_ok (ak_invS (by decide) (by decide) wd_1244 wd_1245 wd_106 wd_1246 ⟨by decide, by decide, by decide +kernel⟩ dX10_reign_9)) (ax_lf_ok (ak_if_eq (by decide) dX10_reign_12))))) (ax_nd_ok (ax_nd_ok (ax_nd_ok (ax_lf_ok (ak_aload_n rfl dX10_reign_15)) (ax_lf_ok (ak_iload_n rfl dX10_reign_16))) (ax_nd_ok (ax_lf_ok (ak_invV (by decide) (by decide) (by decide) rfl wd_1356 wd_1358 wd_44 wd_106 wd_1359 ⟨by decide, by decide, by decide +kernel⟩ dX10_reign_17)) (ax_lf_ok (ak_if_ne (by decide) dX10_reign_20)))) (ax_nd_ok (ax_nd_ok (ax_lf_ok (ak_ldcw wd_1407 dX10_reign_23)) (ax_lf_ok (ak_iret rfl dX10_reign_26))) (ax_nd_ok (ax_lf_ok (ak_aload_n rfl dX10_reign_27)) (ax_nd_ok (ax_lf_ok (ak_iload_n rfl dX10_reign_28)) (ax_lf_ok (ak_invV (by decide) (by decide) (by decide) rfl wd_1650 wd_1652 wd_89 wd_106 wd_1653 ⟨by decide, by decide, by decide +kernel⟩ dX10_reign_29))))))) (ax_nd_ok (ax_nd_ok (ax_nd_ok (ax_nd_ok (ax_lf_ok (ak_istore (by decide) dX10_reign_32)) (ax_lf_ok (ak_iload_n rfl dX10_reign_34))) (ax_nd_ok (ax_lf_ok (ak_bipush (by decide) dX10_reign_35)) (ax_lf_ok (ak_bipush (by decide) dX10_reign_37)))) (ax_nd_ok (ax_nd_ok (ax_lf_ok (ak_iload_n rfl dX10_reign_39)) (ax_lf_ok (ak_iadd dX10_reign_40))) (ax_nd_ok (ax_lf_ok (ak_invS (by decide) (by decide) wd_1244 wd_1245 wd_106 wd_1246 ⟨by decide, by decide, by decide +kernel⟩ dX10_reign_41)) (ax_lf_ok (ak_if_eq (by decide) dX10_reign_44))))) (ax_nd_ok (ax_nd_ok (ax_nd_ok (ax_lf_ok (ak_aload_n rfl dX10_reign_47)) (ax_lf_ok (ak_gr fF_X10_78 dX10_reign_48))) (ax_nd_ok (ax_lf_ok (ak_iload_n rfl dX10_reign_51)) (ax_lf_ok (ak_bipush (by decide) dX10_reign_52)))) (ax_nd_ok (ax_nd_ok (ax_lf_ok (ak_isub dX10_reign_54)) (ax_lf_ok (ak_iald dX10_reign_55))) (ax_nd_ok (ax_lf_ok (ak_iret rfl dX10_reign_56)) (ax_nd_ok (ax_lf_ok (ak_iload_n rfl dX10_reign_57)) (ax_lf_ok (ak_bipush (by decide) dX10_reign_58)))))))) (ax_nd_ok (ax_nd_ok (ax_nd_ok (ax_nd_ok (ax_nd_ok (ax_lf_ok (ak_bipush (by decide) dX10_reign_60)) (ax_lf_ok (ak_aload_n rfl dX10_reign_62))) (ax_nd_ok (ax_lf_ok (ak_gi fF_X10_276 dX10_reign_63)) (ax_lf_ok (ak_iadd dX10_reign_66)))) (ax_nd_ok (ax_nd_ok (ax_lf_ok (ak_invS (by decide) (by decide) wd_1244 wd_1245 wd_106 wd_1246 ⟨by decide, by decide, by decide +kernel⟩ dX10_reign_67)) (ax_lf_ok (ak_if_eq (by decide) dX10_reign_70))) (ax_nd_ok (ax_lf_ok (ak_aload_n rfl dX10_reign_73)) (ax_lf_ok (ak_gr fF_X10_81 dX10_reign_74))))) (ax_nd_ok (ax_nd_ok (ax_nd_ok (ax_lf_ok (ak_iload_n rfl dX10_reign_77)) (ax_lf_ok (ak_bipush (by decide) dX10_reign_78))) (ax_nd_ok (ax_lf_ok (ak_isub dX10_reign_80)) (ax_lf_ok (ak_iald dX10_reign_81)))) (ax_nd_ok (ax_nd_ok (ax_lf_ok (ak_iret rfl dX10_reign_82)) (ax_lf_ok (ak_aload_n rfl dX10_reign_83))) (ax_nd_ok (ax_lf_ok (ak_iload_n rfl dX10_reign_84)) (ax_nd_ok (ax_lf_ok (ak_invV (by decide) (by decide) (by decide) rfl wd_1395 wd_1397 wd_52 wd_106 wd_1398 ⟨by decide, by decide, by decide +kernel⟩ dX10_reign_85)) (ax_lf_ok (ak_if_eq (by decide) dX10_reign_88))))))) (ax_nd_ok (ax_nd_ok (ax_nd_ok (ax_nd_ok (ax_lf_ok (ak_aload_n rfl dX10_reign_91)) (ax_lf_ok (ak_gr fF_X10_47 dX10_reign_92))) (ax_nd_ok (ax_lf_ok (ak_iload_n rfl dX10_reign_95)) (ax_lf_ok (ak_iald dX10_reign_96)))) (ax_nd_ok (ax_nd_ok (ax_lf_ok (ak_goto (by decide) dX10_reign_97)) (ax_lf_ok (ak_iload_n rfl dX10_reign_100))) (ax_nd_ok (ax_lf_ok (ak_bipush (by decide) dX10_reign_101)) (ax_nd_ok (ax_lf_ok (ak_icmp_ne (by decide) dX10_reign_103)) (ax_lf_ok (ak_aload_n rfl dX10_reign_106)))))) (ax_nd_ok (ax_nd_ok (ax_nd_ok (ax_lf_ok (ak_gi fF_X10_273 dX10_reign_107)) (ax_lf_ok (ak_goto (by decide) dX10_reign_110))) (ax_nd_ok (ax_lf_ok (ak_iload_n rfl dX10_reign_113)) (ax_lf_ok (ak_bipush (by decide) dX10_reign_114)))) (ax_nd_ok (ax_nd_ok (ax_lf_ok (ak_icmp_ne (by decide) dX10_reign_116)) (ax_lf_ok (ak_iload dX10_reign_119))) (ax_nd_ok (ax_lf_ok (ak_goto (by decide) dX10_reign_121)) (ax_nd_ok (ax_lf_ok (ak_ldcw wd_1407 dX10_reign_124)) (ax_lf_ok (ak_iret rfl dX10_reign_127))))))))
abbrev mX10_reign (g : ax_G) (as : List Value) (h : ax_H) (Ret : Option Value → ax_H → Prop) : Prop := ax_M g 7 0 0 yX10_reign cX10_reign 5 (some .int) as h Ret
theorem dX10_begin_0 : decode cX10_begin 0 = .ok (.iconst 0, 1) := by decide +kernel
theorem dX10_begin_1 : decode cX10_begin 1 = .ok (.istore_n 1, 1) := by decide +kernel
theorem dX10_begin_2 : decode cX10_begin 2 = .ok (.iload_n 1, 1) := by decide +kernel
theorem dX10_begin_3 : decode cX10_begin 3 = .ok (.aload_n 0, 1) := by decide +kernel
theorem dX10_begin_4 : decode cX10_begin 4 = .ok (.getfield 276, 3) := by decide +kernel
theorem dX10_begin_7 : decode cX10_begin 7 = .ok (.if_icmp .ge 22, 3) := by decide +kernel
theorem dX10_begin_10 : decode cX10_begin 10 = .ok (.aload_n 0, 1) := by decide +kernel
theorem dX10_begin_11 : decode cX10_begin 11 = .ok (.getfield 47, 3) := by decide +kernel
theorem dX10_begin_14 : decode cX10_begin 14 = .ok (.iload_n 1, 1) := by decide +kernel
theorem dX10_begin_15 : decode cX10_begin 15 = .ok (.aload_n 0, 1) := by decide +kernel
theorem dX10_begin_16 : decode cX10_begin 16 = .ok (.iconst 2, 1) := by decide +kernel
theorem dX10_begin_17 : decode cX10_begin 17 = .ok (.iload_n 1, 1) := by decide +kernel
theorem dX10_begin_18 : decode cX10_begin 18 = .ok (.iadd, 1) := by decide +kernel
theorem dX10_begin_19 : decode cX10_begin 19 = .ok (.invokevirtual 253, 3) := by decide +kernel
theorem dX10_begin_22 : decode cX10_begin 22 = .ok (.iastore, 1) := by decide +kernel
theorem dX10_begin_23 : decode cX10_begin 23 = .ok (.iinc 1 1, 3) := by decide +kernel
theorem dX10_begin_26 : decode cX10_begin 26 = .ok (.goto (-24), 3) := by decide +kernel
theorem dX10_begin_29 : decode cX10_begin 29 = .ok (.aload_n 0, 1) := by decide +kernel
theorem dX10_begin_30 : decode cX10_begin 30 = .ok (.invokevirtual 285, 3) := by decide +kernel
theorem dX10_begin_33 : decode cX10_begin 33 = .ok (.return_, 1) := by decide +kernel
def tX10_begin (g : ax_G) : Nat → ax_O := ax_nd 15 (ax_nd 4 (ax_nd 1 (ax_nd 0 (ax_lf 0 (ao_ic (0) 1)) (ax_lf 1 (ao_is 1 1))) (ax_nd 2 (ax_lf 2 (ao_il 1 1)) (ax_nd 3 (ax_lf 3 (ao_al 0 1)) (ax_lf 4 (ao_gi 10 27))))) (ax_nd 10 (ax_nd 7 (ax_lf 7 (ao_icmp_ge 29)) (ax_lf 10 (ao_al 0 1))) (ax_nd 11 (ax_lf 11 (ao_gr 10 28)) (ax_nd 14 (ax_lf 14 (ao_il 1 1)) (ax_lf 15 (ao_al 0 1)))))) (ax_nd 22 (ax_nd 17 (ax_nd 16 (ax_lf 16 (ao_ic (2) 1)) (ax_lf 17 (ao_il 1 1))) (ax_nd 18 (ax_lf 18 ao_iadd) (ax_nd 19 (ax_lf 19 (ao_inv g 1 10 1 yX10_of cX10_of 2 (some .int) 2 0 0 0 0)) (ax_lf 22 ao_iast)))) (ax_nd 26 (ax_nd 23 (ax_lf 23 (ao_iinc 1 (1))) (ax_lf 26 (ao_goto 2))) (ax_nd 29 (ax_lf 29 (ao_al 0 1)) (ax_nd 30 (ax_lf 30 (ao_inv g 2 10 0 yX10_layOdds cX10_layOdds 2 none 1 0 0 0 0)) (ax_lf 33 (ao_vret 0 0))))))
theorem oX10_begin (g : ax_G) : ∀ pc, ax_ok g cX10_begin 2 none RX10 "begin" 3 0 0 pc (tX10_begin g pc) := ax_nd_ok (ax_nd_ok (ax_nd_ok (ax_nd_ok (ax_lf_ok (ak_iconst (by decide) dX10_begin_0)) (ax_lf_ok (ak_istore_n rfl (by decide) dX10_begin_1))) (ax_nd_ok (ax_lf_ok (ak_iload_n rfl dX10_begin_2)) (ax_nd_ok (ax_lf_ok (ak_aload_n rfl dX10_begin_3)) (ax_lf_ok (ak_gi fF_X10_276 dX10_begin_4))))) (ax_nd_ok (ax_nd_ok (ax_lf_ok (ak_icmp_ge (by decide) dX10_begin_7)) (ax_lf_ok (ak_aload_n rfl dX10_begin_10))) (ax_nd_ok (ax_lf_ok (ak_gr fF_X10_47 dX10_begin_11)) (ax_nd_ok (ax_lf_ok (ak_iload_n rfl dX10_begin_14)) (ax_lf_ok (ak_aload_n rfl dX10_begin_15)))))) (ax_nd_ok (ax_nd_ok (ax_nd_ok (ax_lf_ok (ak_iconst (by decide) dX10_begin_16)) (ax_lf_ok (ak_iload_n rfl dX10_begin_17))) (ax_nd_ok (ax_lf_ok (ak_iadd dX10_begin_18)) (ax_nd_ok (ax_lf_ok (ak_invV (by decide) (by decide) (by decide) rfl wd_1360 wd_1362 wd_45 wd_106 wd_1363 ⟨by decide, by decide, by decide +kernel⟩ dX10_begin_19)) (ax_lf_ok (ak_iast dX10_begin_22))))) (ax_nd_ok (ax_nd_ok (ax_lf_ok (ak_iinc (by decide) (by decide) dX10_begin_23)) (ax_lf_ok (ak_goto (by decide) dX10_begin_26))) (ax_nd_ok (ax_lf_ok (ak_aload_n rfl dX10_begin_29)) (ax_nd_ok (ax_lf_ok (ak_invV (by decide) (by decide) (by decide) rfl wd_1383 wd_1385 wd_50 wd_106 wd_1386 ⟨by decide, by decide, by decide +kernel⟩ dX10_begin_30)) (ax_lf_ok (ak_vret rfl dX10_begin_33))))))
abbrev mX10_begin (g : ax_G) (as : List Value) (h : ax_H) (Ret : Option Value → ax_H → Prop) : Prop := ax_M g 3 0 0 yX10_begin cX10_begin 2 none as h Ret
theorem dX10_plus_0 : decode cX10_plus 0 = .ok (.aload_n 0, 1) := by decide +kernel
theorem dX10_plus_1 : decode cX10_plus 1 = .ok (.getfield 470, 3) := by decide +kernel
theorem dX10_plus_4 : decode cX10_plus 4 = .ok (.lload_n 3, 1) := by decide +kernel
theorem dX10_plus_5 : decode cX10_plus 5 = .ok (.invokestatic 304, 3) := by decide +kernel
theorem dX10_plus_8 : decode cX10_plus 8 = .ok (.lstore 5, 2) := by decide +kernel
theorem dX10_plus_10 : decode cX10_plus 10 = .ok (.aload_n 0, 1) := by decide +kernel
theorem dX10_plus_11 : decode cX10_plus 11 = .ok (.aload_n 0, 1) := by decide +kernel
theorem dX10_plus_12 : decode cX10_plus 12 = .ok (.getfield 473, 3) := by decide +kernel
theorem dX10_plus_15 : decode cX10_plus 15 = .ok (.lload_n 3, 1) := by decide +kernel
theorem dX10_plus_16 : decode cX10_plus 16 = .ok (.lload 5, 2) := by decide +kernel
theorem dX10_plus_18 : decode cX10_plus 18 = .ok (.ldiv, 1) := by decide +kernel
theorem dX10_plus_19 : decode cX10_plus 19 = .ok (.lmul, 1) := by decide +kernel
theorem dX10_plus_20 : decode cX10_plus 20 = .ok (.lload_n 1, 1) := by decide +kernel
theorem dX10_plus_21 : decode cX10_plus 21 = .ok (.aload_n 0, 1) := by decide +kernel
theorem dX10_plus_22 : decode cX10_plus 22 = .ok (.getfield 470, 3) := by decide +kernel
theorem dX10_plus_25 : decode cX10_plus 25 = .ok (.lload 5, 2) := by decide +kernel
theorem dX10_plus_27 : decode cX10_plus 27 = .ok (.ldiv, 1) := by decide +kernel
theorem dX10_plus_28 : decode cX10_plus 28 = .ok (.lmul, 1) := by decide +kernel
theorem dX10_plus_29 : decode cX10_plus 29 = .ok (.ladd, 1) := by decide +kernel
theorem dX10_plus_30 : decode cX10_plus 30 = .ok (.putfield 473, 3) := by decide +kernel
theorem dX10_plus_33 : decode cX10_plus 33 = .ok (.aload_n 0, 1) := by decide +kernel
theorem dX10_plus_34 : decode cX10_plus 34 = .ok (.aload_n 0, 1) := by decide +kernel
theorem dX10_plus_35 : decode cX10_plus 35 = .ok (.getfield 470, 3) := by decide +kernel
theorem dX10_plus_38 : decode cX10_plus 38 = .ok (.lload_n 3, 1) := by decide +kernel
theorem dX10_plus_39 : decode cX10_plus 39 = .ok (.lload 5, 2) := by decide +kernel
theorem dX10_plus_41 : decode cX10_plus 41 = .ok (.ldiv, 1) := by decide +kernel
theorem dX10_plus_42 : decode cX10_plus 42 = .ok (.lmul, 1) := by decide +kernel
theorem dX10_plus_43 : decode cX10_plus 43 = .ok (.putfield 470, 3) := by decide +kernel
theorem dX10_plus_46 : decode cX10_plus 46 = .ok (.aload_n 0, 1) := by decide +kernel
theorem dX10_plus_47 : decode cX10_plus 47 = .ok (.getfield 473, 3) := by decide +kernel
theorem dX10_plus_50 : decode cX10_plus 50 = .ok (.aload_n 0, 1) := by decide +kernel
theorem dX10_plus_51 : decode cX10_plus 51 = .ok (.getfield 470, 3) := by decide +kernel
theorem dX10_plus_54 : decode cX10_plus 54 = .ok (.invokestatic 304, 3) := by decide +kernel
theorem dX10_plus_57 : decode cX10_plus 57 = .ok (.lstore 7, 2) := by decide +kernel
theorem dX10_plus_59 : decode cX10_plus 59 = .ok (.aload_n 0, 1) := by decide +kernel
theorem dX10_plus_60 : decode cX10_plus 60 = .ok (.dup, 1) := by decide +kernel
theorem dX10_plus_61 : decode cX10_plus 61 = .ok (.getfield 473, 3) := by decide +kernel
theorem dX10_plus_64 : decode cX10_plus 64 = .ok (.lload 7, 2) := by decide +kernel
theorem dX10_plus_66 : decode cX10_plus 66 = .ok (.ldiv, 1) := by decide +kernel
theorem dX10_plus_67 : decode cX10_plus 67 = .ok (.putfield 473, 3) := by decide +kernel
theorem dX10_plus_70 : decode cX10_plus 70 = .ok (.aload_n 0, 1) := by decide +kernel
theorem dX10_plus_71 : decode cX10_plus 71 = .ok (.dup, 1) := by decide +kernel
theorem dX10_plus_72 : decode cX10_plus 72 = .ok (.getfield 470, 3) := by decide +kernel
theorem dX10_plus_75 : decode cX10_plus 75 = .ok (.lload 7, 2) := by decide +kernel
theorem dX10_plus_77 : decode cX10_plus 77 = .ok (.ldiv, 1) := by decide +kernel
theorem dX10_plus_78 : decode cX10_plus 78 = .ok (.putfield 470, 3) := by decide +kernel
theorem dX10_plus_81 : decode cX10_plus 81 = .ok (.return_, 1) := by decide +kernel
def tX10_plus (g : ax_G) : Nat → ax_O := ax_nd 35 (ax_nd 18 (ax_nd 8 (ax_nd 1 (ax_nd 0 (ax_lf 0 (ao_al 0 1)) (ax_lf 1 (ao_gl 10 57))) (ax_nd 4 (ax_lf 4 (ao_ll 3 1)) (ax_nd 5 (ax_lf 5 (ao_inv g 1 99 2 yX10_common cX10_common 10 (some .long) 2 0 0 0 0)) (ax_lf 8 (ao_ls 5 2))))) (ax_nd 12 (ax_nd 10 (ax_lf 10 (ao_al 0 1)) (ax_nd 11 (ax_lf 11 (ao_al 0 1)) (ax_lf 12 (ao_gl 10 56)))) (ax_nd 15 (ax_lf 15 (ao_ll 3 1)) (ax_nd 16 (ax_lf 16 (ao_ll 5 2)) (ax_lf 18 ao_ldiv))))) (ax_nd 27 (ax_nd 21 (ax_nd 19 (ax_lf 19 ao_lmul) (ax_nd 20 (ax_lf 20 (ao_ll 1 1)) (ax_lf 21 (ao_al 0 1)))) (ax_nd 22 (ax_lf 22 (ao_gl 10 57)) (ax_nd 25 (ax_lf 25 (ao_ll 5 2)) (ax_lf 27 ao_ldiv)))) (ax_nd 30 (ax_nd 28 (ax_lf 28 ao_lmul) (ax_nd 29 (ax_lf 29 ao_ladd) (ax_lf 30 (ao_pl 10 56)))) (ax_nd 33 (ax_lf 33 (ao_al 0 1)) (ax_nd 34 (ax_lf 34 (ao_al 0 1)) (ax_lf 35 (ao_gl 10 57))))))) (ax_nd 59 (ax_nd 46 (ax_nd 41 (ax_nd 38 (ax_lf 38 (ao_ll 3 1)) (ax_nd 39 (ax_lf 39 (ao_ll 5 2)) (ax_lf 41 ao_ldiv))) (ax_nd 42 (ax_lf 42 ao_lmul) (ax_nd 43 (ax_lf 43 (ao_pl 10 57)) (ax_lf 46 (ao_al 0 1))))) (ax_nd 51 (ax_nd 47 (ax_lf 47 (ao_gl 10 56)) (ax_nd 50 (ax_lf 50 (ao_al 0 1)) (ax_lf 51 (ao_gl 10 57)))) (ax_nd 54 (ax_lf 54 (ao_inv g 1 99 2 yX10_common cX10_common 10 (some .long) 2 0 0 0 0)) (ax_nd 57 (ax_lf 57 (ao_ls 7 2)) (ax_lf 59 (ao_al 0 1)))))) (ax_nd 70 (ax_nd 64 (ax_nd 60 (ax_lf 60 ao_dup) (ax_nd 61 (ax_lf 61 (ao_gl 10 56)) (ax_lf 64 (ao_ll 7 2)))) (ax_nd 66 (ax_lf 66 ao_ldiv) (ax_nd 67 (ax_lf 67 (ao_pl 10 56)) (ax_lf 70 (ao_al 0 1))))) (ax_nd 75 (ax_nd 71 (ax_lf 71 ao_dup) (ax_nd 72 (ax_lf 72 (ao_gl 10 57)) (ax_lf 75 (ao_ll 7 2)))) (ax_nd 77 (ax_lf 77 ao_ldiv) (ax_nd 78 (ax_lf 78 (ao_pl 10 57)) (ax_lf 81 (ao_vret 0 0)))))))
theorem oX10_plus (g : ax_G) : ∀ pc, ax_ok g cX10_plus 9 none RX10 "plus" 2 0 0 pc (tX10_plus g pc) := ax_nd_ok (ax_nd_ok (ax_nd_ok (ax_nd_ok (ax_nd_ok (ax_lf_ok (ak_aload_n rfl dX10_plus_0)) (ax_lf_ok (ak_gl fF_X10_470 dX10_plus_1))) (ax_nd_ok (ax_lf_ok (ak_lload_n rfl dX10_plus_4)) (ax_nd_ok (ax_lf_ok (ak_invS (by decide) (by decide) wd_1419 wd_1420 wd_106 wd_1421 ⟨by decide, by decide, by decide +kernel⟩ dX10_plus_5)) (ax_lf_ok (ak_lstore (by decide) dX10_plus_8))))) (ax_nd_ok (ax_nd_ok (ax_lf_ok (ak_aload_n rfl dX10_plus_10)) (ax_nd_ok (ax_lf_ok (ak_aload_n rfl dX10_plus_11)) (ax_lf_ok (ak_gl fF_X10_473 dX10_plus_12)))) (ax_nd_ok (ax_lf_ok (ak_lload_n rfl dX10_plus_15)) (ax_nd_ok (ax_lf_ok (ak_lload dX10_plus_16)) (ax_lf_ok (ak_ldiv dX10_plus_18)))))) (ax_nd_ok (ax_nd_ok (ax_nd_ok (ax_lf_ok (ak_lmul dX10_plus_19)) (ax_nd_ok (ax_lf_ok (ak_lload_n rfl dX10_plus_20)) (ax_lf_ok (ak_aload_n rfl dX10_plus_21)))) (ax_nd_ok (ax_lf_ok (ak_gl fF_X10_470 dX10_plus_22)) (ax_nd_ok (ax_lf_ok (ak_lload dX10_plus_25)) (ax_lf_ok (ak_ldiv dX10_plus_27))))) (ax_nd_ok (ax_nd_ok (ax_lf_ok (ak_lmul dX10_plus_28)) (ax_nd_ok (ax_lf_ok (ak_ladd dX10_plus_29)) (ax_lf_ok (ak_pl fF_X10_473 fW_X10_473_a dX10_plus_30)))) (ax_nd_ok (ax_lf_ok (ak_aload_n rfl dX10_plus_33)) (ax_nd_ok (ax_lf_ok (ak_aload_n rfl dX10_plus_34)) (ax_lf_ok (ak_gl fF_X10_470 dX10_plus_35))))))) (ax_nd_ok (ax_nd_ok (ax_nd_ok (ax_nd_ok (ax_lf_ok (ak_lload_n rfl dX10_plus_38)) (ax_nd_ok (ax_lf_ok (ak_lload dX10_plus_39)) (ax_lf_ok (ak_ldiv dX10_plus_41)))) (ax_nd_ok (ax_lf_ok (ak_lmul dX10_plus_42)) (ax_nd_ok (ax_lf_ok (ak_pl fF_X10_470 fW_X10_470_a dX10_plus_43)) (ax_lf_ok (ak_aload_n rfl dX10_plus_46))))) (ax_nd_ok (ax_nd_ok (ax_lf_ok (ak_gl fF_X10_473 dX10_plus_47)) (ax_nd_ok (ax_lf_ok (ak_aload_n rfl dX10_plus_50)) (ax_lf_ok (ak_gl fF_X10_470 dX10_plus_51)))) (ax_nd_ok (ax_lf_ok (ak_invS (by decide) (by decide) wd_1419 wd_1420 wd_106 wd_1421 ⟨by decide, by decide, by decide +kernel⟩ dX10_plus_54)) (ax_nd_ok (ax_lf_ok (ak_lstore (by decide) dX10_plus_57)) (ax_lf_ok (ak_aload_n rfl dX10_plus_59)))))) (ax_nd_ok (ax_nd_ok (ax_nd_ok (ax_lf_ok (ak_dup dX10_plus_60)) (ax_nd_ok (ax_lf_ok (ak_gl fF_X10_473 dX10_plus_61)) (ax_lf_ok (ak_lload dX10_plus_64)))) (ax_nd_ok (ax_lf_ok (ak_ldiv dX10_plus_66)) (ax_nd_ok (ax_lf_ok (ak_pl fF_X10_473 fW_X10_473_a dX10_plus_67)) (ax_lf_ok (ak_aload_n rfl dX10_plus_70))))) (ax_nd_ok (ax_nd_ok (ax_lf_ok (ak_dup dX10_plus_71)) (ax_nd_ok (ax_lf_ok (ak_gl fF_X10_470 dX10_plus_72)) (ax_lf_ok (ak_lload dX10_plus_75)))) (ax_nd_ok (ax_lf_ok (ak_ldiv dX10_plus_77)) (ax_nd_ok (ax_lf_ok (ak_pl fF_X10_470 fW_X10_470_a dX10_plus_78)) (ax_lf_ok (ak_vret rfl dX10_plus_81)))))))
abbrev mX10_plus (g : ax_G) (as : List Value) (h : ax_H) (Ret : Option Value → ax_H → Prop) : Prop := ax_M g 2 0 0 yX10_plus cX10_plus 9 none as h Ret
theorem dX10_expect_0 : decode cX10_expect 0 = .ok (.aload_n 0, 1) := by decide +kernel
theorem dX10_expect_1 : decode cX10_expect 1 = .ok (.lconst 0, 1) := by decide +kernel
theorem dX10_expect_2 : decode cX10_expect 2 = .ok (.putfield 473, 3) := by decide +kernel
theorem dX10_expect_5 : decode cX10_expect 5 = .ok (.aload_n 0, 1) := by decide +kernel
theorem dX10_expect_6 : decode cX10_expect 6 = .ok (.lconst 1, 1) := by decide +kernel
theorem dX10_expect_7 : decode cX10_expect 7 = .ok (.putfield 470, 3) := by decide +kernel
theorem dX10_expect_10 : decode cX10_expect 10 = .ok (.iload_n 2, 1) := by decide +kernel
theorem dX10_expect_11 : decode cX10_expect 11 = .ok (.ifCond .ne 7, 3) := by decide +kernel
theorem dX10_expect_14 : decode cX10_expect 14 = .ok (.iconst 1, 1) := by decide +kernel
theorem dX10_expect_15 : decode cX10_expect 15 = .ok (.goto 24, 3) := by decide +kernel
theorem dX10_expect_18 : decode cX10_expect 18 = .ok (.iload_n 2, 1) := by decide +kernel
theorem dX10_expect_19 : decode cX10_expect 19 = .ok (.iconst 1, 1) := by decide +kernel
theorem dX10_expect_20 : decode cX10_expect 20 = .ok (.if_icmp .ne 10, 3) := by decide +kernel
theorem dX10_expect_23 : decode cX10_expect 23 = .ok (.aload_n 0, 1) := by decide +kernel
theorem dX10_expect_24 : decode cX10_expect 24 = .ok (.getfield 263, 3) := by decide +kernel
theorem dX10_expect_27 : decode cX10_expect 27 = .ok (.goto 12, 3) := by decide +kernel
theorem dX10_expect_30 : decode cX10_expect 30 = .ok (.aload_n 0, 1) := by decide +kernel
theorem dX10_expect_31 : decode cX10_expect 31 = .ok (.getfield 263, 3) := by decide +kernel
theorem dX10_expect_34 : decode cX10_expect 34 = .ok (.aload_n 0, 1) := by decide +kernel
theorem dX10_expect_35 : decode cX10_expect 35 = .ok (.getfield 263, 3) := by decide +kernel
theorem dX10_expect_38 : decode cX10_expect 38 = .ok (.imul, 1) := by decide +kernel
theorem dX10_expect_39 : decode cX10_expect 39 = .ok (.istore 4, 2) := by decide +kernel
theorem dX10_expect_41 : decode cX10_expect 41 = .ok (.iconst 0, 1) := by decide +kernel
theorem dX10_expect_42 : decode cX10_expect 42 = .ok (.istore 5, 2) := by decide +kernel
theorem dX10_expect_44 : decode cX10_expect 44 = .ok (.iload 5, 2) := by decide +kernel
theorem dX10_expect_46 : decode cX10_expect 46 = .ok (.iload 4, 2) := by decide +kernel
theorem dX10_expect_48 : decode cX10_expect 48 = .ok (.if_icmp .ge 126, 3) := by decide +kernel
theorem dX10_expect_51 : decode cX10_expect 51 = .ok (.aload_n 0, 1) := by decide +kernel
theorem dX10_expect_52 : decode cX10_expect 52 = .ok (.invokevirtual 476, 3) := by decide +kernel
theorem dX10_expect_55 : decode cX10_expect 55 = .ok (.lconst 1, 1) := by decide +kernel
theorem dX10_expect_56 : decode cX10_expect 56 = .ok (.lstore 6, 2) := by decide +kernel
theorem dX10_expect_58 : decode cX10_expect 58 = .ok (.lconst 1, 1) := by decide +kernel
theorem dX10_expect_59 : decode cX10_expect 59 = .ok (.lstore 8, 2) := by decide +kernel
theorem dX10_expect_61 : decode cX10_expect 61 = .ok (.iload 5, 2) := by decide +kernel
theorem dX10_expect_63 : decode cX10_expect 63 = .ok (.istore 10, 2) := by decide +kernel
theorem dX10_expect_65 : decode cX10_expect 65 = .ok (.iconst 0, 1) := by decide +kernel
theorem dX10_expect_66 : decode cX10_expect 66 = .ok (.istore 11, 2) := by decide +kernel
theorem dX10_expect_68 : decode cX10_expect 68 = .ok (.iload 11, 2) := by decide +kernel
theorem dX10_expect_70 : decode cX10_expect 70 = .ok (.iload_n 2, 1) := by decide +kernel
theorem dX10_expect_71 : decode cX10_expect 71 = .ok (.if_icmp .ge 57, 3) := by decide +kernel
theorem dX10_expect_74 : decode cX10_expect 74 = .ok (.lload 6, 2) := by decide +kernel
theorem dX10_expect_76 : decode cX10_expect 76 = .ok (.aload_n 0, 1) := by decide +kernel
theorem dX10_expect_77 : decode cX10_expect 77 = .ok (.getfield 56, 3) := by decide +kernel
theorem dX10_expect_80 : decode cX10_expect 80 = .ok (.iload 10, 2) := by decide +kernel
theorem dX10_expect_82 : decode cX10_expect 82 = .ok (.aload_n 0, 1) := by decide +kernel
theorem dX10_expect_83 : decode cX10_expect 83 = .ok (.getfield 263, 3) := by decide +kernel
theorem dX10_expect_86 : decode cX10_expect 86 = .ok (.irem, 1) := by decide +kernel
theorem dX10_expect_87 : decode cX10_expect 87 = .ok (.iaload, 1) := by decide +kernel
theorem dX10_expect_88 : decode cX10_expect 88 = .ok (.i2l, 1) := by decide +kernel
theorem dX10_expect_89 : decode cX10_expect 89 = .ok (.lmul, 1) := by decide +kernel
theorem dX10_expect_90 : decode cX10_expect 90 = .ok (.lstore 6, 2) := by decide +kernel
theorem dX10_expect_92 : decode cX10_expect 92 = .ok (.lload 8, 2) := by decide +kernel
theorem dX10_expect_94 : decode cX10_expect 94 = .ok (.aload_n 0, 1) := by decide +kernel
theorem dX10_expect_95 : decode cX10_expect 95 = .ok (.getfield 279, 3) := by decide +kernel
theorem dX10_expect_98 : decode cX10_expect 98 = .ok (.i2l, 1) := by decide +kernel
theorem dX10_expect_99 : decode cX10_expect 99 = .ok (.lmul, 1) := by decide +kernel
theorem dX10_expect_100 : decode cX10_expect 100 = .ok (.lstore 8, 2) := by decide +kernel
theorem dX10_expect_102 : decode cX10_expect 102 = .ok (.aload_n 0, 1) := by decide +kernel
theorem dX10_expect_103 : decode cX10_expect 103 = .ok (.iload 10, 2) := by decide +kernel
theorem dX10_expect_105 : decode cX10_expect 105 = .ok (.aload_n 0, 1) := by decide +kernel
theorem dX10_expect_106 : decode cX10_expect 106 = .ok (.getfield 263, 3) := by decide +kernel
theorem dX10_expect_109 : decode cX10_expect 109 = .ok (.irem, 1) := by decide +kernel
theorem dX10_expect_110 : decode cX10_expect 110 = .ok (.invokevirtual 327, 3) := by decide +kernel
theorem dX10_expect_113 : decode cX10_expect 113 = .ok (.iload 10, 2) := by decide +kernel
theorem dX10_expect_115 : decode cX10_expect 115 = .ok (.aload_n 0, 1) := by decide +kernel
theorem dX10_expect_116 : decode cX10_expect 116 = .ok (.getfield 263, 3) := by decide +kernel
theorem dX10_expect_119 : decode cX10_expect 119 = .ok (.idiv, 1) := by decide +kernel
theorem dX10_expect_120 : decode cX10_expect 120 = .ok (.istore 10, 2) := by decide +kernel
theorem dX10_expect_122 : decode cX10_expect 122 = .ok (.iinc 11 1, 3) := by decide +kernel
theorem dX10_expect_125 : decode cX10_expect 125 = .ok (.goto (-57), 3) := by decide +kernel
theorem dX10_expect_128 : decode cX10_expect 128 = .ok (.iload_n 3, 1) := by decide +kernel
theorem dX10_expect_129 : decode cX10_expect 129 = .ok (.ifCond .eq 19, 3) := by decide +kernel
theorem dX10_expect_132 : decode cX10_expect 132 = .ok (.aload_n 0, 1) := by decide +kernel
theorem dX10_expect_133 : decode cX10_expect 133 = .ok (.getfield 273, 3) := by decide +kernel
theorem dX10_expect_136 : decode cX10_expect 136 = .ok (.iload_n 1, 1) := by decide +kernel
theorem dX10_expect_137 : decode cX10_expect 137 = .ok (.if_icmp .ne 7, 3) := by decide +kernel
theorem dX10_expect_140 : decode cX10_expect 140 = .ok (.lconst 1, 1) := by decide +kernel
theorem dX10_expect_141 : decode cX10_expect 141 = .ok (.goto 14, 3) := by decide +kernel
theorem dX10_expect_144 : decode cX10_expect 144 = .ok (.lconst 0, 1) := by decide +kernel
theorem dX10_expect_145 : decode cX10_expect 145 = .ok (.goto 10, 3) := by decide +kernel
theorem dX10_expect_148 : decode cX10_expect 148 = .ok (.aload_n 0, 1) := by decide +kernel
theorem dX10_expect_149 : decode cX10_expect 149 = .ok (.getfield 47, 3) := by decide +kernel
theorem dX10_expect_152 : decode cX10_expect 152 = .ok (.iload_n 1, 1) := by decide +kernel
theorem dX10_expect_153 : decode cX10_expect 153 = .ok (.iaload, 1) := by decide +kernel
theorem dX10_expect_154 : decode cX10_expect 154 = .ok (.i2l, 1) := by decide +kernel
theorem dX10_expect_155 : decode cX10_expect 155 = .ok (.lstore 11, 2) := by decide +kernel
theorem dX10_expect_157 : decode cX10_expect 157 = .ok (.aload_n 0, 1) := by decide +kernel
theorem dX10_expect_158 : decode cX10_expect 158 = .ok (.lload 6, 2) := by decide +kernel
theorem dX10_expect_160 : decode cX10_expect 160 = .ok (.lload 11, 2) := by decide +kernel
theorem dX10_expect_162 : decode cX10_expect 162 = .ok (.lmul, 1) := by decide +kernel
theorem dX10_expect_163 : decode cX10_expect 163 = .ok (.lload 8, 2) := by decide +kernel
theorem dX10_expect_165 : decode cX10_expect 165 = .ok (.invokevirtual 479, 3) := by decide +kernel
theorem dX10_expect_168 : decode cX10_expect 168 = .ok (.iinc 5 1, 3) := by decide +kernel
theorem dX10_expect_171 : decode cX10_expect 171 = .ok (.goto (-127), 3) := by decide +kernel
theorem dX10_expect_174 : decode cX10_expect 174 = .ok (.return_, 1) := by decide +kernel
def tX10_expect (g : ax_G) : Nat → ax_O := ax_nd 86 (ax_nd 41 (ax_nd 18 (ax_nd 6 (ax_nd 1 (ax_nd 0 (ax_lf 0 (ao_al 0 1)) (ax_lf 1 (ao_lc (0) 1))) (ax_nd 2 (ax_lf 2 (ao_pl 10 56)) (ax_nd 5 (ax_lf 5 (ao_al 0 1)) (ax_lf 6 (ao_lc (1) 1))))) (ax_nd 11 (ax_nd 7 (ax_lf 7 (ao_pl 10 57)) (ax_nd 10 (ax_lf 10 (ao_il 2 1)) (ax_lf 11 (ao_if_ne 18)))) (ax_nd 14 (ax_lf 14 (ao_ic (1) 1)) (ax_nd 15 (ax_lf 15 (ao_goto 39)) (ax_lf 18 (ao_il 2 1)))))) (ax_nd 30 (ax_nd 23 (ax_nd 19 (ax_lf 19 (ao_ic (1) 1)) (ax_nd 20 (ax_lf 20 (ao_icmp_ne 30)) (ax_lf 23 (ao_al 0 1)))) (ax_nd 24 (ax_lf 24 (ao_gi 10 26)) (ax_nd 27 (ax_lf 27 (ao_goto 39)) (ax_lf 30 (ao_al 0 1))))) (ax_nd 35 (ax_nd 31 (ax_lf 31 (ao_gi 10 26)) (ax_nd 34 (ax_lf 34 (ao_al 0 1)) (ax_lf 35 (ao_gi 10 26)))) (ax_nd 38 (ax_lf 38 ao_imul) (ax_nd 39 (ax_lf 39 (ao_is 4 2)) (ax_lf 41 (ao_ic (0) 1))))))) (ax_nd 63 (ax_nd 52 (ax_nd 46 (ax_nd 42 (ax_lf 42 (ao_is 5 2)) (ax_nd 44 (ax_lf 44 (ao_il 5 2)) (ax_lf 46 (ao_il 4 2)))) (ax_nd 48 (ax_lf 48 (ao_icmp_ge 174)) (ax_nd 51 (ax_lf 51 (ao_al 0 1)) (ax_lf 52 (ao_inv g 3 10 0 yX10_begin cX10_begin 2 none 1 0 0 0 0))))) (ax_nd 58 (ax_nd 55 (ax_lf 55 (ao_lc (1) 1)) (ax_nd 56 (ax_lf 56 (ao_ls 6 2)) (ax_lf 58 (ao_lc (1) 1)))) (ax_nd 59 (ax_lf 59 (ao_ls 8 2)) (ax_nd 61 (ax_lf 61 (ao_il 5 2)) (ax_lf 63 (ao_is 10 2)))))) (ax_nd 74 (ax_nd 68 (ax_nd 65 (ax_lf 65 (ao_ic (0) 1)) (ax_nd 66 (ax_lf 66 (ao_is 11 2)) (ax_lf 68 (ao_il 11 2)))) (ax_nd 70 (ax_lf 70 (ao_il 2 1)) (ax_nd 71 (ax_lf 71 (ao_icmp_ge 128)) (ax_lf 74 (ao_ll 6 2))))) (ax_nd 80 (ax_nd 76 (ax_lf 76 (ao_al 0 1)) (ax_nd 77 (ax_lf 77 (ao_gr 10 31)) (ax_lf 80 (ao_il 10 2)))) (ax_nd 82 (ax_lf 82 (ao_al 0 1)) (ax_nd 83 (ax_lf 83 (ao_gi 10 26)) (ax_lf 86 ao_irem))))))) (ax_nd 128 (ax_nd 103 (ax_nd 94 (ax_nd 89 (ax_nd 87 (ax_lf 87 ao_iald) (ax_nd 88 (ax_lf 88 ao_i2l) (ax_lf 89 ao_lmul))) (ax_nd 90 (ax_lf 90 (ao_ls 6 2)) (ax_nd 92 (ax_lf 92 (ao_ll 8 2)) (ax_lf 94 (ao_al 0 1))))) (ax_nd 99 (ax_nd 95 (ax_lf 95 (ao_gi 10 32)) (ax_nd 98 (ax_lf 98 ao_i2l) (ax_lf 99 ao_lmul))) (ax_nd 100 (ax_lf 100 (ao_ls 8 2)) (ax_nd 102 (ax_lf 102 (ao_al 0 1)) (ax_lf 103 (ao_il 10 2)))))) (ax_nd 115 (ax_nd 109 (ax_nd 105 (ax_lf 105 (ao_al 0 1)) (ax_nd 106 (ax_lf 106 (ao_gi 10 26)) (ax_lf 109 ao_irem))) (ax_nd 110 (ax_lf 110 (ao_inv g 3 10 0 yX10_live cX10_live 3 none 2 0 0 0 0)) (ax_nd 113 (ax_lf 113 (ao_il 10 2)) (ax_lf 115 (ao_al 0 1))))) (ax_nd 120 (ax_nd 116 (ax_lf 116 (ao_gi 10 26)) (ax_nd 119 (ax_lf 119 ao_idiv) (ax_lf 120 (ao_is 10 2)))) (ax_nd 122 (ax_lf 122 (ao_iinc 11 (1))) (ax_nd 125 (ax_lf 125 (ao_goto 68)) (ax_lf 128 (ao_il 3 1))))))) (ax_nd 152 (ax_nd 140 (ax_nd 133 (ax_nd 129 (ax_lf 129 (ao_if_eq 148)) (ax_nd 132 (ax_lf 132 (ao_al 0 1)) (ax_lf 133 (ao_gi 10 33)))) (ax_nd 136 (ax_lf 136 (ao_il 1 1)) (ax_nd 137 (ax_lf 137 (ao_icmp_ne 144)) (ax_lf 140 (ao_lc (1) 1))))) (ax_nd 145 (ax_nd 141 (ax_lf 141 (ao_goto 155)) (ax_nd 144 (ax_lf 144 (ao_lc (0) 1)) (ax_lf 145 (ao_goto 155)))) (ax_nd 148 (ax_lf 148 (ao_al 0 1)) (ax_nd 149 (ax_lf 149 (ao_gr 10 28)) (ax_lf 152 (ao_il 1 1)))))) (ax_nd 160 (ax_nd 155 (ax_nd 153 (ax_lf 153 ao_iald) (ax_nd 154 (ax_lf 154 ao_i2l) (ax_lf 155 (ao_ls 11 2)))) (ax_nd 157 (ax_lf 157 (ao_al 0 1)) (ax_nd 158 (ax_lf 158 (ao_ll 6 2)) (ax_lf 160 (ao_ll 11 2))))) (ax_nd 165 (ax_nd 162 (ax_lf 162 ao_lmul) (ax_nd 163 (ax_lf 163 (ao_ll 8 2)) (ax_lf 165 (ao_inv g 2 10 0 yX10_plus cX10_plus 9 none 3 0 0 0 0)))) (ax_nd 168 (ax_lf 168 (ao_iinc 5 (1))) (ax_nd 171 (ax_lf 171 (ao_goto 44)) (ax_lf 174 (ao_vret 0 0))))))))
theorem oX10_expect (g : ax_G) : ∀ pc, ax_ok g cX10_expect 13 none RX10 "expect" 4 0 0 pc (tX10_expect g pc) := ax_nd_ok (ax_nd_ok (ax_nd_ok (ax_nd_ok (ax_nd_ok (ax_nd_ok (ax_lf_ok (ak_aload_n rfl dX10_expect_0)) (ax_lf_ok (ak_lconst (by decide) dX10_expect_1))) (ax_nd_ok (ax_lf_ok (ak_pl fF_X10_473 fW_X10_473_a dX10_expect_2)) (ax_nd_ok (ax_lf_ok (ak_aload_n rfl dX10_expect_5)) (ax_lf_ok (ak_lconst (by decide) dX10_expect_6))))) (ax_nd_ok (ax_nd_ok (ax_lf_ok (ak_pl fF_X10_470 fW_X10_470_a dX10_expect_7)) (ax_nd_ok (ax_lf_ok (ak_iload_n rfl dX10_expect_10)) (ax_lf_ok (ak_if_ne (by decide) dX10_expect_11)))) (ax_nd_ok (ax_lf_ok (ak_iconst (by decide) dX10_expect_14)) (ax_nd_ok (ax_lf_ok (ak_goto (by decide) dX10_expect_15)) (ax_lf_ok (ak_iload_n rfl dX10_expect_18)))))) (ax_nd_ok (ax_nd_ok (ax_nd_ok (ax_lf_ok (ak_iconst (by decide) dX10_expect_19)) (ax_nd_ok (ax_lf_ok (ak_icmp_ne (by decide) dX10_expect_20)) (ax_lf_ok (ak_aload_n rfl dX10_expect_23)))) (ax_nd_ok (ax_lf_ok (ak_gi fF_X10_263 dX10_expect_24)) (ax_nd_ok (ax_lf_ok (ak_goto (by decide) dX10_expect_27)) (ax_lf_ok (ak_aload_n rfl dX10_expect_30))))) (ax_nd_ok (ax_nd_ok (ax_lf_ok (ak_gi fF_X10_263 dX10_expect_31)) (ax_nd_ok (ax_lf_ok (ak_aload_n rfl dX10_expect_34)) (ax_lf_ok (ak_gi fF_X10_263 dX10_expect_35)))) (ax_nd_ok (ax_lf_ok (ak_imul dX10_expect_38)) (ax_nd_ok (ax_lf_ok (ak_istore (by decide) dX10_expect_39)) (ax_lf_ok (ak_iconst (by decide) dX10_expect_41))))))) (ax_nd_ok (ax_nd_ok (ax_nd_ok (ax_nd_ok (ax_lf_ok (ak_istore (by decide) dX10_expect_42)) (ax_nd_ok (ax_lf_ok (ak_iload dX10_expect_44)) (ax_lf_ok (ak_iload dX10_expect_46)))) (ax_nd_ok (ax_lf_ok (ak_icmp_ge (by decide) dX10_expect_48)) (ax_nd_ok (ax_lf_ok (ak_aload_n rfl dX10_expect_51)) (ax_lf_ok (ak_invV (by decide) (by decide) (by decide) rfl wd_1663 wd_1665 wd_91 wd_106 wd_1666 ⟨by decide, by decide, by decide +kernel⟩ dX10_expect_52))))) (ax_nd_ok (ax_nd_ok (ax_lf_ok (ak_lconst (by decide) dX10_expect_55)) (ax_nd_ok (ax_lf_ok (ak_lstore (by decide) dX10_expect_56)) (ax_lf_ok (ak_lconst (by decide) dX10_expect_58)))) (ax_nd_ok (ax_lf_ok (ak_lstore (by decide) dX10_expect_59)) (ax_nd_ok (ax_lf_ok (ak_iload dX10_expect_61)) (ax_lf_ok (ak_istore (by decide) dX10_expect_63)))))) (ax_nd_ok (ax_nd_ok (ax_nd_ok (ax_lf_ok (ak_iconst (by decide) dX10_expect_65)) (ax_nd_ok (ax_lf_ok (ak_istore (by decide) dX10_expect_66)) (ax_lf_ok (ak_iload dX10_expect_68)))) (ax_nd_ok (ax_lf_ok (ak_iload_n rfl dX10_expect_70)) (ax_nd_ok (ax_lf_ok (ak_icmp_ge (by decide) dX10_expect_71)) (ax_lf_ok (ak_lload dX10_expect_74))))) (ax_nd_ok (ax_nd_ok (ax_lf_ok (ak_aload_n rfl dX10_expect_76)) (ax_nd_ok (ax_lf_ok (ak_gr fF_X10_56 dX10_expect_77)) (ax_lf_ok (ak_iload dX10_expect_80)))) (ax_nd_ok (ax_lf_ok (ak_aload_n rfl dX10_expect_82)) (ax_nd_ok (ax_lf_ok (ak_gi fF_X10_263 dX10_expect_83)) (ax_lf_ok (ak_irem dX10_expect_86)))))))) (ax_nd_ok (ax_nd_ok (ax_nd_ok (ax_nd_ok (ax_nd_ok (ax_lf_ok (ak_iald dX10_expect_87)) (ax_nd_ok (ax_lf_ok (ak_i2l dX10_expect_88)) (ax_lf_ok (ak_lmul dX10_expect_89)))) (ax_nd_ok (ax_lf_ok (ak_lstore (by decide) dX10_expect_90)) (ax_nd_ok (ax_lf_ok (ak_lload dX10_expect_92)) (ax_lf_ok (ak_aload_n rfl dX10_expect_94))))) (ax_nd_ok (ax_nd_ok (ax_lf_ok (ak_gi fF_X10_279 dX10_expect_95)) (ax_nd_ok (ax_lf_ok (ak_i2l dX10_expect_98)) (ax_lf_ok (ak_lmul dX10_expect_99)))) (ax_nd_ok (ax_lf_ok (ak_lstore (by decide) dX10_expect_100)) (ax_nd_ok (ax_lf_ok (ak_aload_n rfl dX10_expect_102)) (ax_lf_ok (ak_iload dX10_expect_103)))))) (ax_nd_ok (ax_nd_ok (ax_nd_ok (ax_lf_ok (ak_aload_n rfl dX10_expect_105)) (ax_nd_ok (ax_lf_ok (ak_gi fF_X10_263 dX10_expect_106)) (ax_lf_ok (ak_irem dX10_expect_109)))) (ax_nd_ok (ax_lf_ok (ak_invV (by decide) (by decide) (by decide) rfl wd_1442 wd_1444 wd_58 wd_106 wd_1445 ⟨by decide, by decide, by decide +kernel⟩ dX10_expect_110)) (ax_nd_ok (ax_lf_ok (ak_iload dX10_expect_113)) (ax_lf_ok (ak_aload_n rfl dX10_expect_115))))) (ax_nd_ok (ax_nd_ok (ax_lf_ok (ak_gi fF_X10_263 dX10_expect_116)) (ax_nd_ok (ax_lf_ok (ak_idiv dX10_expect_119)) (ax_lf_ok (ak_istore (by decide) dX10_expect_120)))) (ax_nd_ok (ax_lf_ok (ak_iinc (by decide) (by decide) dX10_expect_122)) (ax_nd_ok (ax_lf_ok (ak_goto (by decide) dX10_expect_125)) (ax_lf_ok (ak_iload_n rfl dX10_expect_128))))))) (ax_nd_ok (ax_nd_ok (ax_nd_ok (ax_nd_ok (ax_lf_ok (ak_if_eq (by decide) dX10_expect_129)) (ax_nd_ok (ax_lf_ok (ak_aload_n rfl dX10_expect_132)) (ax_lf_ok (ak_gi fF_X10_273 dX10_expect_133)))) (ax_nd_ok (ax_lf_ok (ak_iload_n rfl dX10_expect_136)) (ax_nd_ok (ax_lf_ok (ak_icmp_ne (by decide) dX10_expect_137)) (ax_lf_ok (ak_lconst (by decide) dX10_expect_140))))) (ax_nd_ok (ax_nd_ok (ax_lf_ok (ak_goto (by decide) dX10_expect_141)) (ax_nd_ok (ax_lf_ok (ak_lconst (by decide) dX10_expect_144)) (ax_lf_ok (ak_goto (by decide) dX10_expect_145)))) (ax_nd_ok (ax_lf_ok (ak_aload_n rfl dX10_expect_148)) (ax_nd_ok (ax_lf_ok (ak_gr fF_X10_47 dX10_expect_149)) (ax_lf_ok (ak_iload_n rfl dX10_expect_152)))))) (ax_nd_ok (ax_nd_ok (ax_nd_ok (ax_lf_ok (ak_iald dX10_expect_153)) (ax_nd_ok (ax_lf_ok (ak_i2l dX10_expect_154)) (ax_lf_ok (ak_lstore (by decide) dX10_expect_155)))) (ax_nd_ok (ax_lf_ok (ak_aload_n rfl dX10_expect_157)) (ax_nd_ok (ax_lf_ok (ak_lload dX10_expect_158)) (ax_lf_ok (ak_lload dX10_expect_160))))) (ax_nd_ok (ax_nd_ok (ax_lf_ok (ak_lmul dX10_expect_162)) (ax_nd_ok (ax_lf_ok (ak_lload dX10_expect_163)) (ax_lf_ok (ak_invV (by decide) (by decide) (by decide) rfl wd_1667 wd_1669 wd_92 wd_106 wd_1670 ⟨by decide, by decide, by decide +kernel⟩ dX10_expect_165)))) (ax_nd_ok (ax_lf_ok (ak_iinc (by decide) (by decide) dX10_expect_168)) (ax_nd_ok (ax_lf_ok (ak_goto (by decide) dX10_expect_171)) (ax_lf_ok (ak_vret rfl dX10_expect_174))))))))
abbrev mX10_expect (g : ax_G) (as : List Value) (h : ax_H) (Ret : Option Value → ax_H → Prop) : Prop := ax_M g 4 0 0 yX10_expect cX10_expect 13 none as h Ret
theorem dX10_hope_0 : decode cX10_hope 0 = .ok (.aload_n 0, 1) := by decide +kernel
theorem dX10_hope_1 : decode cX10_hope 1 = .ok (.iconst 0, 1) := by decide +kernel
theorem dX10_hope_2 : decode cX10_hope 2 = .ok (.putfield 88, 3) := by decide +kernel
theorem dX10_hope_5 : decode cX10_hope 5 = .ok (.iload_n 3, 1) := by decide +kernel
theorem dX10_hope_6 : decode cX10_hope 6 = .ok (.iconst 0, 1) := by decide +kernel
theorem dX10_hope_7 : decode cX10_hope 7 = .ok (.iconst 2, 1) := by decide +kernel
theorem dX10_hope_8 : decode cX10_hope 8 = .ok (.invokestatic 96, 3) := by decide +kernel
theorem dX10_hope_11 : decode cX10_hope 11 = .ok (.ifCond .eq 12, 3) := by decide +kernel
theorem dX10_hope_14 : decode cX10_hope 14 = .ok (.aload_n 0, 1) := by decide +kernel
theorem dX10_hope_15 : decode cX10_hope 15 = .ok (.iload_n 1, 1) := by decide +kernel
theorem dX10_hope_16 : decode cX10_hope 16 = .ok (.iload_n 2, 1) := by decide +kernel
theorem dX10_hope_17 : decode cX10_hope 17 = .ok (.invokevirtual 294, 3) := by decide +kernel
theorem dX10_hope_20 : decode cX10_hope 20 = .ok (.ifCond .ne 7, 3) := by decide +kernel
theorem dX10_hope_23 : decode cX10_hope 23 = .ok (.ldc2_w 483, 3) := by decide +kernel
theorem dX10_hope_26 : decode cX10_hope 26 = .ok (.lreturn, 1) := by decide +kernel
theorem dX10_hope_27 : decode cX10_hope 27 = .ok (.aload_n 0, 1) := by decide +kernel
theorem dX10_hope_28 : decode cX10_hope 28 = .ok (.iload_n 2, 1) := by decide +kernel
theorem dX10_hope_29 : decode cX10_hope 29 = .ok (.iload_n 3, 1) := by decide +kernel
theorem dX10_hope_30 : decode cX10_hope 30 = .ok (.iconst 0, 1) := by decide +kernel
theorem dX10_hope_31 : decode cX10_hope 31 = .ok (.invokevirtual 485, 3) := by decide +kernel
theorem dX10_hope_34 : decode cX10_hope 34 = .ok (.iload 4, 2) := by decide +kernel
theorem dX10_hope_36 : decode cX10_hope 36 = .ok (.ifCond .eq 10, 3) := by decide +kernel
theorem dX10_hope_39 : decode cX10_hope 39 = .ok (.aload_n 0, 1) := by decide +kernel
theorem dX10_hope_40 : decode cX10_hope 40 = .ok (.getfield 470, 3) := by decide +kernel
theorem dX10_hope_43 : decode cX10_hope 43 = .ok (.goto 7, 3) := by decide +kernel
theorem dX10_hope_46 : decode cX10_hope 46 = .ok (.aload_n 0, 1) := by decide +kernel
theorem dX10_hope_47 : decode cX10_hope 47 = .ok (.getfield 473, 3) := by decide +kernel
theorem dX10_hope_50 : decode cX10_hope 50 = .ok (.lreturn, 1) := by decide +kernel
def tX10_hope (g : ax_G) : Nat → ax_O := ax_nd 23 (ax_nd 8 (ax_nd 2 (ax_nd 0 (ax_lf 0 (ao_al 0 1)) (ax_nd 1 (ax_lf 1 (ao_ic (0) 1)) (ax_lf 2 (ao_pi 10 0)))) (ax_nd 6 (ax_nd 5 (ax_lf 5 (ao_il 3 1)) (ax_lf 6 (ao_ic (0) 1))) (ax_nd 7 (ax_lf 7 (ao_ic (2) 1)) (ax_lf 8 (ao_inv g 1 99 1 yX10_in cX10_in 3 (some .boolean) 3 0 0 0 0))))) (ax_nd 15 (ax_nd 11 (ax_lf 11 (ao_if_eq 23)) (ax_nd 14 (ax_lf 14 (ao_al 0 1)) (ax_lf 15 (ao_il 1 1)))) (ax_nd 17 (ax_nd 16 (ax_lf 16 (ao_il 2 1)) (ax_lf 17 (ao_inv g 7 10 1 yX10_handOne cX10_handOne 3 (some .boolean) 3 0 0 0 0))) (ax_nd 20 (ax_lf 20 (ao_if_ne 27)) (ax_lf 23 (ao_lc (-1000000) 3)))))) (ax_nd 34 (ax_nd 28 (ax_nd 26 (ax_lf 26 (ao_lret 0 0)) (ax_nd 27 (ax_lf 27 (ao_al 0 1)) (ax_lf 28 (ao_il 2 1)))) (ax_nd 30 (ax_nd 29 (ax_lf 29 (ao_il 3 1)) (ax_lf 30 (ao_ic (0) 1))) (ax_nd 31 (ax_lf 31 (ao_inv g 4 10 0 yX10_expect cX10_expect 13 none 4 0 0 0 0)) (ax_lf 34 (ao_il 4 2))))) (ax_nd 40 (ax_nd 36 (ax_lf 36 (ao_if_eq 46)) (ax_nd 39 (ax_lf 39 (ao_al 0 1)) (ax_lf 40 (ao_gl 10 57)))) (ax_nd 46 (ax_nd 43 (ax_lf 43 (ao_goto 50)) (ax_lf 46 (ao_al 0 1))) (ax_nd 47 (ax_lf 47 (ao_gl 10 56)) (ax_lf 50 (ao_lret 0 0))))))
theorem oX10_hope (g : ax_G) : ∀ pc, ax_ok g cX10_hope 5 (some .long) RX10 "hope" 8 0 0 pc (tX10_hope g pc) := ax_nd_ok (ax_nd_ok (ax_nd_ok (ax_nd_ok (ax_lf_ok (ak_aload_n rfl dX10_hope_0)) (ax_nd_ok (ax_lf_ok (ak_iconst (by decide) dX10_hope_1)) (ax_lf_ok (ak_pi fF_X10_88 fW_X10_88_a dX10_hope_2)))) (ax_nd_ok (ax_nd_ok (ax_lf_ok (ak_iload_n rfl dX10_hope_5)) (ax_lf_ok (ak_iconst (by decide) dX10_hope_6))) (ax_nd_ok (ax_lf_ok (ak_iconst (by decide) dX10_hope_7)) (ax_lf_ok (ak_invS (by decide) (by decide) wd_1244 wd_1245 wd_106 wd_1246 ⟨by decide, by decide, by decide +kernel⟩ dX10_hope_8))))) (ax_nd_ok (ax_nd_ok (ax_lf_ok (ak_if_eq (by decide) dX10_hope_11)) (ax_nd_ok (ax_lf_ok (ak_aload_n rfl dX10_hope_14)) (ax_lf_ok (ak_iload_n rfl dX10_hope_15)))) (ax_nd_ok (ax_nd_ok (ax_lf_ok (ak_iload_n rfl dX10_hope_16)) (ax_lf_ok (ak_invV (by decide) (by decide) (by decide) rfl wd_1391 wd_1393 wd_51 wd_106 wd_1394 ⟨by decide, by decide, by decide +kernel⟩ dX10_hope_17))) (ax_nd_ok (ax_lf_ok (ak_if_ne (by decide) dX10_hope_20)) (ax_lf_ok (ak_ldc2 wd_1658 dX10_hope_23)))))) (ax_nd_ok (ax_nd_ok (ax_nd_ok (ax_lf_ok (ak_lret rfl dX10_hope_26)) (ax_nd_ok (ax_lf_ok (ak_aload_n rfl dX10_hope_27)) (ax_lf_ok (ak_iload_n rfl dX10_hope_28)))) (ax_nd_ok (ax_nd_ok (ax_lf_ok (ak_iload_n rfl dX10_hope_29)) (ax_lf_ok (ak_iconst (by decide) dX10_hope_30))) (ax_nd_ok (ax_lf_ok (ak_invV (by decide) (by decide) (by decide) rfl wd_1659 wd_1661 wd_90 wd_106 wd_1662 ⟨by decide, by decide, by decide +kernel⟩ dX10_hope_31)) (ax_lf_ok (ak_iload dX10_hope_34))))) (ax_nd_ok (ax_nd_ok (ax_lf_ok (ak_if_eq (by decide) dX10_hope_36)) (ax_nd_ok (ax_lf_ok (ak_aload_n rfl dX10_hope_39)) (ax_lf_ok (ak_gl fF_X10_470 dX10_hope_40)))) (ax_nd_ok (ax_nd_ok (ax_lf_ok (ak_goto (by decide) dX10_hope_43)) (ax_lf_ok (ak_aload_n rfl dX10_hope_46))) (ax_nd_ok (ax_lf_ok (ak_gl fF_X10_473 dX10_hope_47)) (ax_lf_ok (ak_lret rfl dX10_hope_50))))))
abbrev mX10_hope (g : ax_G) (as : List Value) (h : ax_H) (Ret : Option Value → ax_H → Prop) : Prop := ax_M g 8 0 0 yX10_hope cX10_hope 5 (some .long) as h Ret
theorem dX10_doom_0 : decode cX10_doom 0 = .ok (.aload_n 0, 1) := by decide +kernel
theorem dX10_doom_1 : decode cX10_doom 1 = .ok (.iconst 0, 1) := by decide +kernel
theorem dX10_doom_2 : decode cX10_doom 2 = .ok (.putfield 88, 3) := by decide +kernel
theorem dX10_doom_5 : decode cX10_doom 5 = .ok (.iload_n 3, 1) := by decide +kernel
theorem dX10_doom_6 : decode cX10_doom 6 = .ok (.iconst 0, 1) := by decide +kernel
theorem dX10_doom_7 : decode cX10_doom 7 = .ok (.iconst 2, 1) := by decide +kernel
theorem dX10_doom_8 : decode cX10_doom 8 = .ok (.invokestatic 96, 3) := by decide +kernel
theorem dX10_doom_11 : decode cX10_doom 11 = .ok (.ifCond .eq 12, 3) := by decide +kernel
theorem dX10_doom_14 : decode cX10_doom 14 = .ok (.aload_n 0, 1) := by decide +kernel
theorem dX10_doom_15 : decode cX10_doom 15 = .ok (.iload_n 1, 1) := by decide +kernel
theorem dX10_doom_16 : decode cX10_doom 16 = .ok (.iload_n 2, 1) := by decide +kernel
theorem dX10_doom_17 : decode cX10_doom 17 = .ok (.invokevirtual 294, 3) := by decide +kernel
theorem dX10_doom_20 : decode cX10_doom 20 = .ok (.ifCond .ne 7, 3) := by decide +kernel
theorem dX10_doom_23 : decode cX10_doom 23 = .ok (.ldc2_w 333, 3) := by decide +kernel
theorem dX10_doom_26 : decode cX10_doom 26 = .ok (.lreturn, 1) := by decide +kernel
theorem dX10_doom_27 : decode cX10_doom 27 = .ok (.aload_n 0, 1) := by decide +kernel
theorem dX10_doom_28 : decode cX10_doom 28 = .ok (.iload_n 2, 1) := by decide +kernel
theorem dX10_doom_29 : decode cX10_doom 29 = .ok (.iload_n 3, 1) := by decide +kernel
theorem dX10_doom_30 : decode cX10_doom 30 = .ok (.iconst 1, 1) := by decide +kernel
theorem dX10_doom_31 : decode cX10_doom 31 = .ok (.invokevirtual 485, 3) := by decide +kernel
theorem dX10_doom_34 : decode cX10_doom 34 = .ok (.iload 4, 2) := by decide +kernel
theorem dX10_doom_36 : decode cX10_doom 36 = .ok (.ifCond .eq 10, 3) := by decide +kernel
theorem dX10_doom_39 : decode cX10_doom 39 = .ok (.aload_n 0, 1) := by decide +kernel
theorem dX10_doom_40 : decode cX10_doom 40 = .ok (.getfield 470, 3) := by decide +kernel
theorem dX10_doom_43 : decode cX10_doom 43 = .ok (.goto 7, 3) := by decide +kernel
theorem dX10_doom_46 : decode cX10_doom 46 = .ok (.aload_n 0, 1) := by decide +kernel
theorem dX10_doom_47 : decode cX10_doom 47 = .ok (.getfield 473, 3) := by decide +kernel
theorem dX10_doom_50 : decode cX10_doom 50 = .ok (.lreturn, 1) := by decide +kernel
def tX10_doom (g : ax_G) : Nat → ax_O := ax_nd 23 (ax_nd 8 (ax_nd 2 (ax_nd 0 (ax_lf 0 (ao_al 0 1)) (ax_nd 1 (ax_lf 1 (ao_ic (0) 1)) (ax_lf 2 (ao_pi 10 0)))) (ax_nd 6 (ax_nd 5 (ax_lf 5 (ao_il 3 1)) (ax_lf 6 (ao_ic (0) 1))) (ax_nd 7 (ax_lf 7 (ao_ic (2) 1)) (ax_lf 8 (ao_inv g 1 99 1 yX10_in cX10_in 3 (some .boolean) 3 0 0 0 0))))) (ax_nd 15 (ax_nd 11 (ax_lf 11 (ao_if_eq 23)) (ax_nd 14 (ax_lf 14 (ao_al 0 1)) (ax_lf 15 (ao_il 1 1)))) (ax_nd 17 (ax_nd 16 (ax_lf 16 (ao_il 2 1)) (ax_lf 17 (ao_inv g 7 10 1 yX10_handOne cX10_handOne 3 (some .boolean) 3 0 0 0 0))) (ax_nd 20 (ax_lf 20 (ao_if_ne 27)) (ax_lf 23 (ao_lc (-1) 3)))))) (ax_nd 34 (ax_nd 28 (ax_nd 26 (ax_lf 26 (ao_lret 0 0)) (ax_nd 27 (ax_lf 27 (ao_al 0 1)) (ax_lf 28 (ao_il 2 1)))) (ax_nd 30 (ax_nd 29 (ax_lf 29 (ao_il 3 1)) (ax_lf 30 (ao_ic (1) 1))) (ax_nd 31 (ax_lf 31 (ao_inv g 4 10 0 yX10_expect cX10_expect 13 none 4 0 0 0 0)) (ax_lf 34 (ao_il 4 2))))) (ax_nd 40 (ax_nd 36 (ax_lf 36 (ao_if_eq 46)) (ax_nd 39 (ax_lf 39 (ao_al 0 1)) (ax_lf 40 (ao_gl 10 57)))) (ax_nd 46 (ax_nd 43 (ax_lf 43 (ao_goto 50)) (ax_lf 46 (ao_al 0 1))) (ax_nd 47 (ax_lf 47 (ao_gl 10 56)) (ax_lf 50 (ao_lret 0 0))))))
theorem oX10_doom (g : ax_G) : ∀ pc, ax_ok g cX10_doom 5 (some .long) RX10 "doom" 8 0 0 pc (tX10_doom g pc) := ax_nd_ok (ax_nd_ok (ax_nd_ok (ax_nd_ok (ax_lf_ok (ak_aload_n rfl dX10_doom_0)) (ax_nd_ok (ax_lf_ok (ak_iconst (by decide) dX10_doom_1)) (ax_lf_ok (ak_pi fF_X10_88 fW_X10_88_a dX10_doom_2)))) (ax_nd_ok (ax_nd_ok (ax_lf_ok (ak_iload_n rfl dX10_doom_5)) (ax_lf_ok (ak_iconst (by decide) dX10_doom_6))) (ax_nd_ok (ax_lf_ok (ak_iconst (by decide) dX10_doom_7)) (ax_lf_ok (ak_invS (by decide) (by decide) wd_1244 wd_1245 wd_106 wd_1246 ⟨by decide, by decide, by decide +kernel⟩ dX10_doom_8))))) (ax_nd_ok (ax_nd_ok (ax_lf_ok (ak_if_eq (by decide) dX10_doom_11)) (ax_nd_ok (ax_lf_ok (ak_aload_n rfl dX10_doom_14)) (ax_lf_ok (ak_iload_n rfl dX10_doom_15)))) (ax_nd_ok (ax_nd_ok (ax_lf_ok (ak_iload_n rfl dX10_doom_16)) (ax_lf_ok (ak_invV (by decide) (by decide) (by decide) rfl wd_1391 wd_1393 wd_51 wd_106 wd_1394 ⟨by decide, by decide, by decide +kernel⟩ dX10_doom_17))) (ax_nd_ok (ax_lf_ok (ak_if_ne (by decide) dX10_doom_20)) (ax_lf_ok (ak_ldc2 wd_1450 dX10_doom_23)))))) (ax_nd_ok (ax_nd_ok (ax_nd_ok (ax_lf_ok (ak_lret rfl dX10_doom_26)) (ax_nd_ok (ax_lf_ok (ak_aload_n rfl dX10_doom_27)) (ax_lf_ok (ak_iload_n rfl dX10_doom_28)))) (ax_nd_ok (ax_nd_ok (ax_lf_ok (ak_iload_n rfl dX10_doom_29)) (ax_lf_ok (ak_iconst (by decide) dX10_doom_30))) (ax_nd_ok (ax_lf_ok (ak_invV (by decide) (by decide) (by decide) rfl wd_1659 wd_1661 wd_90 wd_106 wd_1662 ⟨by decide, by decide, by decide +kernel⟩ dX10_doom_31)) (ax_lf_ok (ak_iload dX10_doom_34))))) (ax_nd_ok (ax_nd_ok (ax_lf_ok (ak_if_eq (by decide) dX10_doom_36)) (ax_nd_ok (ax_lf_ok (ak_aload_n rfl dX10_doom_39)) (ax_lf_ok (ak_gl fF_X10_470 dX10_doom_40)))) (ax_nd_ok (ax_nd_ok (ax_lf_ok (ak_goto (by decide) dX10_doom_43)) (ax_lf_ok (ak_aload_n rfl dX10_doom_46))) (ax_nd_ok (ax_lf_ok (ak_gl fF_X10_473 dX10_doom_47)) (ax_lf_ok (ak_lret rfl dX10_doom_50))))))
abbrev mX10_doom (g : ax_G) (as : List Value) (h : ax_H) (Ret : Option Value → ax_H → Prop) : Prop := ax_M g 8 0 0 yX10_doom cX10_doom 5 (some .long) as h Ret
theorem dX10_allMeans_0 : decode cX10_allMeans 0 = .ok (.lconst 0, 1) := by decide +kernel
theorem dX10_allMeans_1 : decode cX10_allMeans 1 = .ok (.lstore_n 1, 1) := by decide +kernel
theorem dX10_allMeans_2 : decode cX10_allMeans 2 = .ok (.iconst 0, 1) := by decide +kernel
theorem dX10_allMeans_3 : decode cX10_allMeans 3 = .ok (.istore_n 3, 1) := by decide +kernel
theorem dX10_allMeans_4 : decode cX10_allMeans 4 = .ok (.iload_n 3, 1) := by decide +kernel
theorem dX10_allMeans_5 : decode cX10_allMeans 5 = .ok (.aload_n 0, 1) := by decide +kernel
theorem dX10_allMeans_6 : decode cX10_allMeans 6 = .ok (.getfield 276, 3) := by decide +kernel
theorem dX10_allMeans_9 : decode cX10_allMeans 9 = .ok (.if_icmp .ge 22, 3) := by decide +kernel
theorem dX10_allMeans_12 : decode cX10_allMeans 12 = .ok (.aload_n 0, 1) := by decide +kernel
theorem dX10_allMeans_13 : decode cX10_allMeans 13 = .ok (.iload_n 3, 1) := by decide +kernel
theorem dX10_allMeans_14 : decode cX10_allMeans 14 = .ok (.invokevirtual 282, 3) := by decide +kernel
theorem dX10_allMeans_17 : decode cX10_allMeans 17 = .ok (.lload_n 1, 1) := by decide +kernel
theorem dX10_allMeans_18 : decode cX10_allMeans 18 = .ok (.aload_n 0, 1) := by decide +kernel
theorem dX10_allMeans_19 : decode cX10_allMeans 19 = .ok (.iload_n 3, 1) := by decide +kernel
theorem dX10_allMeans_20 : decode cX10_allMeans 20 = .ok (.invokevirtual 345, 3) := by decide +kernel
theorem dX10_allMeans_23 : decode cX10_allMeans 23 = .ok (.ladd, 1) := by decide +kernel
theorem dX10_allMeans_24 : decode cX10_allMeans 24 = .ok (.lstore_n 1, 1) := by decide +kernel
theorem dX10_allMeans_25 : decode cX10_allMeans 25 = .ok (.iinc 3 1, 3) := by decide +kernel
theorem dX10_allMeans_28 : decode cX10_allMeans 28 = .ok (.goto (-24), 3) := by decide +kernel
theorem dX10_allMeans_31 : decode cX10_allMeans 31 = .ok (.lload_n 1, 1) := by decide +kernel
theorem dX10_allMeans_32 : decode cX10_allMeans 32 = .ok (.lreturn, 1) := by decide +kernel
def tX10_allMeans (g : ax_G) : Nat → ax_O := ax_nd 13 (ax_nd 4 (ax_nd 1 (ax_nd 0 (ax_lf 0 (ao_lc (0) 1)) (ax_lf 1 (ao_ls 1 1))) (ax_nd 2 (ax_lf 2 (ao_ic (0) 1)) (ax_nd 3 (ax_lf 3 (ao_is 3 1)) (ax_lf 4 (ao_il 3 1))))) (ax_nd 6 (ax_nd 5 (ax_lf 5 (ao_al 0 1)) (ax_lf 6 (ao_gi 10 27))) (ax_nd 9 (ax_lf 9 (ao_icmp_ge 31)) (ax_nd 12 (ax_lf 12 (ao_al 0 1)) (ax_lf 13 (ao_il 3 1)))))) (ax_nd 20 (ax_nd 17 (ax_nd 14 (ax_lf 14 (ao_inv g 5 10 0 yX10_layValues cX10_layValues 3 none 2 0 0 0 0)) (ax_lf 17 (ao_ll 1 1))) (ax_nd 18 (ax_lf 18 (ao_al 0 1)) (ax_nd 19 (ax_lf 19 (ao_il 3 1)) (ax_lf 20 (ao_inv g 1 10 2 yX10_meanOf cX10_meanOf 5 (some .long) 2 0 0 0 0))))) (ax_nd 25 (ax_nd 23 (ax_lf 23 ao_ladd) (ax_nd 24 (ax_lf 24 (ao_ls 1 1)) (ax_lf 25 (ao_iinc 3 (1))))) (ax_nd 28 (ax_lf 28 (ao_goto 4)) (ax_nd 31 (ax_lf 31 (ao_ll 1 1)) (ax_lf 32 (ao_lret 0 0))))))
theorem oX10_allMeans (g : ax_G) : ∀ pc, ax_ok g cX10_allMeans 4 (some .long) RX10 "allMeans" 6 0 0 pc (tX10_allMeans g pc) := ax_nd_ok (ax_nd_ok (ax_nd_ok (ax_nd_ok (ax_lf_ok (ak_lconst (by decide) dX10_allMeans_0)) (ax_lf_ok (ak_lstore_n rfl (by decide) dX10_allMeans_1))) (ax_nd_ok (ax_lf_ok (ak_iconst (by decide) dX10_allMeans_2)) (ax_nd_ok (ax_lf_ok (ak_istore_n rfl (by decide) dX10_allMeans_3)) (ax_lf_ok (ak_iload_n rfl dX10_allMeans_4))))) (ax_nd_ok (ax_nd_ok (ax_lf_ok (ak_aload_n rfl dX10_allMeans_5)) (ax_lf_ok (ak_gi fF_X10_276 dX10_allMeans_6))) (ax_nd_ok (ax_lf_ok (ak_icmp_ge (by decide) dX10_allMeans_9)) (ax_nd_ok (ax_lf_ok (ak_aload_n rfl dX10_allMeans_12)) (ax_lf_ok (ak_iload_n rfl dX10_allMeans_13)))))) (ax_nd_ok (ax_nd_ok (ax_nd_ok (ax_lf_ok (ak_invV (by decide) (by decide) (by decide) rfl wd_1364 wd_1366 wd_46 wd_106 wd_1367 ⟨by decide, by decide, by decide +kernel⟩ dX10_allMeans_14)) (ax_lf_ok (ak_lload_n rfl dX10_allMeans_17))) (ax_nd_ok (ax_lf_ok (ak_aload_n rfl dX10_allMeans_18)) (ax_nd_ok (ax_lf_ok (ak_iload_n rfl dX10_allMeans_19)) (ax_lf_ok (ak_invV (by decide) (by decide) (by decide) rfl wd_1468 wd_1470 wd_61 wd_106 wd_1471 ⟨by decide, by decide, by decide +kernel⟩ dX10_allMeans_20))))) (ax_nd_ok (ax_nd_ok (ax_lf_ok (ak_ladd dX10_allMeans_23)) (ax_nd_ok (ax_lf_ok (ak_lstore_n rfl (by decide) dX10_allMeans_24)) (ax_lf_ok (ak_iinc (by decide) (by decide) dX10_allMeans_25)))) (ax_nd_ok (ax_lf_ok (ak_goto (by decide) dX10_allMeans_28)) (ax_nd_ok (ax_lf_ok (ak_lload_n rfl dX10_allMeans_31)) (ax_lf_ok (ak_lret rfl dX10_allMeans_32))))))
abbrev mX10_allMeans (g : ax_G) (as : List Value) (h : ax_H) (Ret : Option Value → ax_H → Prop) : Prop := ax_M g 6 0 0 yX10_allMeans cX10_allMeans 4 (some .long) as h Ret
theorem dX10_ruling_0 : decode cX10_ruling 0 = .ok (.aload_n 0, 1) := by decide +kernel
theorem dX10_ruling_1 : decode cX10_ruling 1 = .ok (.iconst 0, 1) := by decide +kernel
theorem dX10_ruling_2 : decode cX10_ruling 2 = .ok (.putfield 88, 3) := by decide +kernel
theorem dX10_ruling_5 : decode cX10_ruling 5 = .ok (.iload_n 2, 1) := by decide +kernel
theorem dX10_ruling_6 : decode cX10_ruling 6 = .ok (.iconst 0, 1) := by decide +kernel
theorem dX10_ruling_7 : decode cX10_ruling 7 = .ok (.iconst 3, 1) := by decide +kernel
theorem dX10_ruling_8 : decode cX10_ruling 8 = .ok (.invokestatic 96, 3) := by decide +kernel
theorem dX10_ruling_11 : decode cX10_ruling 11 = .ok (.ifCond .eq 11, 3) := by decide +kernel
theorem dX10_ruling_14 : decode cX10_ruling 14 = .ok (.aload_n 0, 1) := by decide +kernel
theorem dX10_ruling_15 : decode cX10_ruling 15 = .ok (.iload_n 1, 1) := by decide +kernel
theorem dX10_ruling_16 : decode cX10_ruling 16 = .ok (.invokevirtual 288, 3) := by decide +kernel
theorem dX10_ruling_19 : decode cX10_ruling 19 = .ok (.ifCond .ne 7, 3) := by decide +kernel
theorem dX10_ruling_22 : decode cX10_ruling 22 = .ok (.ldc_w 300, 3) := by decide +kernel
theorem dX10_ruling_25 : decode cX10_ruling 25 = .ok (.ireturn, 1) := by decide +kernel
theorem dX10_ruling_26 : decode cX10_ruling 26 = .ok (.iconst (-1), 1) := by decide +kernel
theorem dX10_ruling_27 : decode cX10_ruling 27 = .ok (.istore_n 3, 1) := by decide +kernel
theorem dX10_ruling_28 : decode cX10_ruling 28 = .ok (.lconst 0, 1) := by decide +kernel
theorem dX10_ruling_29 : decode cX10_ruling 29 = .ok (.lstore 4, 2) := by decide +kernel
theorem dX10_ruling_31 : decode cX10_ruling 31 = .ok (.iconst 0, 1) := by decide +kernel
theorem dX10_ruling_32 : decode cX10_ruling 32 = .ok (.istore 6, 2) := by decide +kernel
theorem dX10_ruling_34 : decode cX10_ruling 34 = .ok (.iload 6, 2) := by decide +kernel
theorem dX10_ruling_36 : decode cX10_ruling 36 = .ok (.bipush 18, 2) := by decide +kernel
theorem dX10_ruling_38 : decode cX10_ruling 38 = .ok (.if_icmp .ge 66, 3) := by decide +kernel
theorem dX10_ruling_41 : decode cX10_ruling 41 = .ok (.aload_n 0, 1) := by decide +kernel
theorem dX10_ruling_42 : decode cX10_ruling 42 = .ok (.iload 6, 2) := by decide +kernel
theorem dX10_ruling_44 : decode cX10_ruling 44 = .ok (.iconst 3, 1) := by decide +kernel
theorem dX10_ruling_45 : decode cX10_ruling 45 = .ok (.idiv, 1) := by decide +kernel
theorem dX10_ruling_46 : decode cX10_ruling 46 = .ok (.putfield 247, 3) := by decide +kernel
theorem dX10_ruling_49 : decode cX10_ruling 49 = .ok (.aload_n 0, 1) := by decide +kernel
theorem dX10_ruling_50 : decode cX10_ruling 50 = .ok (.iload 6, 2) := by decide +kernel
theorem dX10_ruling_52 : decode cX10_ruling 52 = .ok (.iconst 3, 1) := by decide +kernel
theorem dX10_ruling_53 : decode cX10_ruling 53 = .ok (.irem, 1) := by decide +kernel
theorem dX10_ruling_54 : decode cX10_ruling 54 = .ok (.putfield 250, 3) := by decide +kernel
theorem dX10_ruling_57 : decode cX10_ruling 57 = .ok (.aload_n 0, 1) := by decide +kernel
theorem dX10_ruling_58 : decode cX10_ruling 58 = .ok (.invokevirtual 489, 3) := by decide +kernel
theorem dX10_ruling_61 : decode cX10_ruling 61 = .ok (.lstore 7, 2) := by decide +kernel
theorem dX10_ruling_63 : decode cX10_ruling 63 = .ok (.iload_n 3, 1) := by decide +kernel
theorem dX10_ruling_64 : decode cX10_ruling 64 = .ok (.iconst (-1), 1) := by decide +kernel
theorem dX10_ruling_65 : decode cX10_ruling 65 = .ok (.if_icmp .eq 11, 3) := by decide +kernel
theorem dX10_ruling_68 : decode cX10_ruling 68 = .ok (.lload 7, 2) := by decide +kernel
theorem dX10_ruling_70 : decode cX10_ruling 70 = .ok (.lload 4, 2) := by decide +kernel
theorem dX10_ruling_72 : decode cX10_ruling 72 = .ok (.lcmp, 1) := by decide +kernel
theorem dX10_ruling_73 : decode cX10_ruling 73 = .ok (.ifCond .le 8, 3) := by decide +kernel
theorem dX10_ruling_76 : decode cX10_ruling 76 = .ok (.iload 6, 2) := by decide +kernel
theorem dX10_ruling_78 : decode cX10_ruling 78 = .ok (.goto 4, 3) := by decide +kernel
theorem dX10_ruling_81 : decode cX10_ruling 81 = .ok (.iload_n 3, 1) := by decide +kernel
theorem dX10_ruling_82 : decode cX10_ruling 82 = .ok (.istore_n 3, 1) := by decide +kernel
theorem dX10_ruling_83 : decode cX10_ruling 83 = .ok (.iload_n 3, 1) := by decide +kernel
theorem dX10_ruling_84 : decode cX10_ruling 84 = .ok (.iload 6, 2) := by decide +kernel
theorem dX10_ruling_86 : decode cX10_ruling 86 = .ok (.if_icmp .ne 8, 3) := by decide +kernel
theorem dX10_ruling_89 : decode cX10_ruling 89 = .ok (.lload 7, 2) := by decide +kernel
theorem dX10_ruling_91 : decode cX10_ruling 91 = .ok (.goto 5, 3) := by decide +kernel
theorem dX10_ruling_94 : decode cX10_ruling 94 = .ok (.lload 4, 2) := by decide +kernel
theorem dX10_ruling_96 : decode cX10_ruling 96 = .ok (.lstore 4, 2) := by decide +kernel
theorem dX10_ruling_98 : decode cX10_ruling 98 = .ok (.iinc 6 1, 3) := by decide +kernel
theorem dX10_ruling_101 : decode cX10_ruling 101 = .ok (.goto (-67), 3) := by decide +kernel
theorem dX10_ruling_104 : decode cX10_ruling 104 = .ok (.aload_n 0, 1) := by decide +kernel
theorem dX10_ruling_105 : decode cX10_ruling 105 = .ok (.iconst (-1), 1) := by decide +kernel
theorem dX10_ruling_106 : decode cX10_ruling 106 = .ok (.putfield 247, 3) := by decide +kernel
theorem dX10_ruling_109 : decode cX10_ruling 109 = .ok (.iload_n 2, 1) := by decide +kernel
theorem dX10_ruling_110 : decode cX10_ruling 110 = .ok (.ifCond .ne 9, 3) := by decide +kernel
theorem dX10_ruling_113 : decode cX10_ruling 113 = .ok (.iload_n 3, 1) := by decide +kernel
theorem dX10_ruling_114 : decode cX10_ruling 114 = .ok (.iconst 3, 1) := by decide +kernel
theorem dX10_ruling_115 : decode cX10_ruling 115 = .ok (.idiv, 1) := by decide +kernel
theorem dX10_ruling_116 : decode cX10_ruling 116 = .ok (.goto 35, 3) := by decide +kernel
theorem dX10_ruling_119 : decode cX10_ruling 119 = .ok (.iload_n 2, 1) := by decide +kernel
theorem dX10_ruling_120 : decode cX10_ruling 120 = .ok (.iconst 1, 1) := by decide +kernel
theorem dX10_ruling_121 : decode cX10_ruling 121 = .ok (.if_icmp .ne 9, 3) := by decide +kernel
theorem dX10_ruling_124 : decode cX10_ruling 124 = .ok (.iload_n 3, 1) := by decide +kernel
theorem dX10_ruling_125 : decode cX10_ruling 125 = .ok (.iconst 3, 1) := by decide +kernel
theorem dX10_ruling_126 : decode cX10_ruling 126 = .ok (.irem, 1) := by decide +kernel
theorem dX10_ruling_127 : decode cX10_ruling 127 = .ok (.goto 24, 3) := by decide +kernel
theorem dX10_ruling_130 : decode cX10_ruling 130 = .ok (.lload 4, 2) := by decide +kernel
theorem dX10_ruling_132 : decode cX10_ruling 132 = .ok (.aload_n 0, 1) := by decide +kernel
theorem dX10_ruling_133 : decode cX10_ruling 133 = .ok (.getfield 279, 3) := by decide +kernel
theorem dX10_ruling_136 : decode cX10_ruling 136 = .ok (.i2l, 1) := by decide +kernel
theorem dX10_ruling_137 : decode cX10_ruling 137 = .ok (.iload_n 2, 1) := by decide +kernel
theorem dX10_ruling_138 : decode cX10_ruling 138 = .ok (.iconst 3, 1) := by decide +kernel
theorem dX10_ruling_139 : decode cX10_ruling 139 = .ok (.if_icmp .ne 7, 3) := by decide +kernel
theorem dX10_ruling_142 : decode cX10_ruling 142 = .ok (.iconst 1, 1) := by decide +kernel
theorem dX10_ruling_143 : decode cX10_ruling 143 = .ok (.goto 4, 3) := by decide +kernel
theorem dX10_ruling_146 : decode cX10_ruling 146 = .ok (.iconst 0, 1) := by decide +kernel
theorem dX10_ruling_147 : decode cX10_ruling 147 = .ok (.invokestatic 308, 3) := by decide +kernel
theorem dX10_ruling_150 : decode cX10_ruling 150 = .ok (.l2i, 1) := by decide +kernel
theorem dX10_ruling_151 : decode cX10_ruling 151 = .ok (.ireturn, 1) := by decide +kernel
def tX10_ruling (g : ax_G) : Nat → ax_O := ax_nd 72 (ax_nd 34 (ax_nd 15 (ax_nd 6 (ax_nd 1 (ax_nd 0 (ax_lf 0 (ao_al 0 1)) (ax_lf 1 (ao_ic (0) 1))) (ax_nd 2 (ax_lf 2 (ao_pi 10 0)) (ax_nd 5 (ax_lf 5 (ao_il 2 1)) (ax_lf 6 (ao_ic (0) 1))))) (ax_nd 8 (ax_nd 7 (ax_lf 7 (ao_ic (3) 1)) (ax_lf 8 (ao_inv g 1 99 1 yX10_in cX10_in 3 (some .boolean) 3 0 0 0 0))) (ax_nd 11 (ax_lf 11 (ao_if_eq 22)) (ax_nd 14 (ax_lf 14 (ao_al 0 1)) (ax_lf 15 (ao_il 1 1)))))) (ax_nd 26 (ax_nd 19 (ax_nd 16 (ax_lf 16 (ao_inv g 6 10 1 yX10_hand cX10_hand 4 (some .boolean) 2 0 0 0 0)) (ax_lf 19 (ao_if_ne 26))) (ax_nd 22 (ax_lf 22 (ao_ic (-1000000) 3)) (ax_nd 25 (ax_lf 25 (ao_iret 0 0)) (ax_lf 26 (ao_ic (-1) 1))))) (ax_nd 29 (ax_nd 27 (ax_lf 27 (ao_is 3 1)) (ax_nd 28 (ax_lf 28 (ao_lc (0) 1)) (ax_lf 29 (ao_ls 4 2)))) (ax_nd 31 (ax_lf 31 (ao_ic (0) 1)) (ax_nd 32 (ax_lf 32 (ao_is 6 2)) (ax_lf 34 (ao_il 6 2))))))) (ax_nd 52 (ax_nd 44 (ax_nd 38 (ax_nd 36 (ax_lf 36 (ao_ic (18) 2)) (ax_lf 38 (ao_icmp_ge 104))) (ax_nd 41 (ax_lf 41 (ao_al 0 1)) (ax_nd 42 (ax_lf 42 (ao_il 6 2)) (ax_lf 44 (ao_ic (3) 1))))) (ax_nd 46 (ax_nd 45 (ax_lf 45 ao_idiv) (ax_lf 46 (ao_pi 10 34))) (ax_nd 49 (ax_lf 49 (ao_al 0 1)) (ax_nd 50 (ax_lf 50 (ao_il 6 2)) (ax_lf 52 (ao_ic (3) 1)))))) (ax_nd 61 (ax_nd 54 (ax_nd 53 (ax_lf 53 ao_irem) (ax_lf 54 (ao_pi 10 35))) (ax_nd 57 (ax_lf 57 (ao_al 0 1)) (ax_nd 58 (ax_lf 58 (ao_inv g 6 10 2 yX10_allMeans cX10_allMeans 4 (some .long) 1 0 0 0 0)) (ax_lf 61 (ao_ls 7 2))))) (ax_nd 65 (ax_nd 63 (ax_lf 63 (ao_il 3 1)) (ax_nd 64 (ax_lf 64 (ao_ic (-1) 1)) (ax_lf 65 (ao_icmp_eq 76)))) (ax_nd 68 (ax_lf 68 (ao_ll 7 2)) (ax_nd 70 (ax_lf 70 (ao_ll 4 2)) (ax_lf 72 ao_lcmp))))))) (ax_nd 114 (ax_nd 91 (ax_nd 82 (ax_nd 76 (ax_nd 73 (ax_lf 73 (ao_if_le 81)) (ax_lf 76 (ao_il 6 2))) (ax_nd 78 (ax_lf 78 (ao_goto 82)) (ax_nd 81 (ax_lf 81 (ao_il 3 1)) (ax_lf 82 (ao_is 3 1))))) (ax_nd 84 (ax_nd 83 (ax_lf 83 (ao_il 3 1)) (ax_lf 84 (ao_il 6 2))) (ax_nd 86 (ax_lf 86 (ao_icmp_ne 94)) (ax_nd 89 (ax_lf 89 (ao_ll 7 2)) (ax_lf 91 (ao_goto 96)))))) (ax_nd 104 (ax_nd 96 (ax_nd 94 (ax_lf 94 (ao_ll 4 2)) (ax_lf 96 (ao_ls 4 2))) (ax_nd 98 (ax_lf 98 (ao_iinc 6 (1))) (ax_nd 101 (ax_lf 101 (ao_goto 34)) (ax_lf 104 (ao_al 0 1))))) (ax_nd 109 (ax_nd 105 (ax_lf 105 (ao_ic (-1) 1)) (ax_nd 106 (ax_lf 106 (ao_pi 10 34)) (ax_lf 109 (ao_il 2 1)))) (ax_nd 110 (ax_lf 110 (ao_if_ne 119)) (ax_nd 113 (ax_lf 113 (ao_il 3 1)) (ax_lf 114 (ao_ic (3) 1))))))) (ax_nd 132 (ax_nd 121 (ax_nd 116 (ax_nd 115 (ax_lf 115 ao_idiv) (ax_lf 116 (ao_goto 151))) (ax_nd 119 (ax_lf 119 (ao_il 2 1)) (ax_nd 120 (ax_lf 120 (ao_ic (1) 1)) (ax_lf 121 (ao_icmp_ne 130))))) (ax_nd 126 (ax_nd 124 (ax_lf 124 (ao_il 3 1)) (ax_nd 125 (ax_lf 125 (ao_ic (3) 1)) (ax_lf 126 ao_irem))) (ax_nd 127 (ax_lf 127 (ao_goto 151)) (ax_nd 130 (ax_lf 130 (ao_ll 4 2)) (ax_lf 132 (ao_al 0 1)))))) (ax_nd 139 (ax_nd 136 (ax_nd 133 (ax_lf 133 (ao_gi 10 32)) (ax_lf 136 ao_i2l)) (ax_nd 137 (ax_lf 137 (ao_il 2 1)) (ax_nd 138 (ax_lf 138 (ao_ic (3) 1)) (ax_lf 139 (ao_icmp_ne 146))))) (ax_nd 146 (ax_nd 142 (ax_lf 142 (ao_ic (1) 1)) (ax_nd 143 (ax_lf 143 (ao_goto 147)) (ax_lf 146 (ao_ic (0) 1)))) (ax_nd 147 (ax_lf 147 (ao_inv g 2 99 2 yX10_part cX10_part 7 (some .long) 3 0 0 0 0)) (ax_nd 150 (ax_lf 150 ao_l2i) (ax_lf 151 (ao_iret 0 0))))))))
theorem oX10_ruling (g : ax_G) : ∀ pc, ax_ok g cX10_ruling 9 (some .int) RX10 "ruling" 7 0 0 pc (tX10_ruling g pc) := ax_nd_ok (ax_nd_ok (ax_nd_ok (ax_nd_ok (ax_nd_ok (ax_nd_ok (ax_lf_ok (ak_aload_n rfl dX10_ruling_0)) (ax_lf_ok (ak_iconst (by decide) dX10_ruling_1))) (ax_nd_ok (ax_lf_ok (ak_pi fF_X10_88 fW_X10_88_a dX10_ruling_2)) (ax_nd_ok (ax_lf_ok (ak_iload_n rfl dX10_ruling_5)) (ax_lf_ok (ak_iconst (by decide) dX10_ruling_6))))) (ax_nd_ok (ax_nd_ok (ax_lf_ok (ak_iconst (by decide) dX10_ruling_7)) (ax_lf_ok (ak_invS (by decide) (by decide) wd_1244 wd_1245 wd_106 wd_1246 ⟨by decide, by decide, by decide +kernel⟩ dX10_ruling_8))) (ax_nd_ok (ax_lf_ok (ak_if_eq (by decide) dX10_ruling_11)) (ax_nd_ok (ax_lf_ok (ak_aload_n rfl dX10_ruling_14)) (ax_lf_ok (ak_iload_n rfl dX10_ruling_15)))))) (ax_nd_ok (ax_nd_ok (ax_nd_ok (ax_lf_ok (ak_invV (by decide) (by decide) (by decide) rfl wd_1356 wd_1358 wd_44 wd_106 wd_1359 ⟨by decide, by decide, by decide +kernel⟩ dX10_ruling_16)) (ax_lf_ok (ak_if_ne (by decide) dX10_ruling_19))) (ax_nd_ok (ax_lf_ok (ak_ldcw wd_1407 dX10_ruling_22)) (ax_nd_ok (ax_lf_ok (ak_iret rfl dX10_ruling_25)) (ax_lf_ok (ak_iconst (by decide) dX10_ruling_26))))) (ax_nd_ok (ax_nd_ok (ax_lf_ok (ak_istore_n rfl (by decide) dX10_ruling_27)) (ax_nd_ok (ax_lf_ok (ak_lconst (by decide) dX10_ruling_28)) (ax_lf_ok (ak_lstore (by decide) dX10_ruling_29)))) (ax_nd_ok (ax_lf_ok (ak_iconst (by decide) dX10_ruling_31)) (ax_nd_ok (ax_lf_ok (ak_istore (by decide) dX10_ruling_32)) (ax_lf_ok (ak_iload dX10_ruling_34))))))) (ax_nd_ok (ax_nd_ok (ax_nd_ok (ax_nd_ok (ax_lf_ok (ak_bipush (by decide) dX10_ruling_36)) (ax_lf_ok (ak_icmp_ge (by decide) dX10_ruling_38))) (ax_nd_ok (ax_lf_ok (ak_aload_n rfl dX10_ruling_41)) (ax_nd_ok (ax_lf_ok (ak_iload dX10_ruling_42)) (ax_lf_ok (ak_iconst (by decide) dX10_ruling_44))))) (ax_nd_ok (ax_nd_ok (ax_lf_ok (ak_idiv dX10_ruling_45)) (ax_lf_ok (ak_pi fF_X10_247 fW_X10_247_a dX10_ruling_46))) (ax_nd_ok (ax_lf_ok (ak_aload_n rfl dX10_ruling_49)) (ax_nd_ok (ax_lf_ok (ak_iload dX10_ruling_50)) (ax_lf_ok (ak_iconst (by decide) dX10_ruling_52)))))) (ax_nd_ok (ax_nd_ok (ax_nd_ok (ax_lf_ok (ak_irem dX10_ruling_53)) (ax_lf_ok (ak_pi fF_X10_250 fW_X10_250_a dX10_ruling_54))) (ax_nd_ok (ax_lf_ok (ak_aload_n rfl dX10_ruling_57)) (ax_nd_ok (ax_lf_ok (ak_invV (by decide) (by decide) (by decide) rfl wd_1679 wd_1681 wd_93 wd_106 wd_1682 ⟨by decide, by decide, by decide +kernel⟩ dX10_ruling_58)) (ax_lf_ok (ak_lstore (by decide) dX10_ruling_61))))) (ax_nd_ok (ax_nd_ok (ax_lf_ok (ak_iload_n rfl dX10_ruling_63)) (ax_nd_ok (ax_lf_ok (ak_iconst (by decide) dX10_ruling_64)) (ax_lf_ok (ak_icmp_eq (by decide) dX10_ruling_65)))) (ax_nd_ok (ax_lf_ok (ak_lload dX10_ruling_68)) (ax_nd_ok (ax_lf_ok (ak_lload dX10_ruling_70)) (ax_lf_ok (ak_lcmp dX10_ruling_72)))))))) (ax_nd_ok (ax_nd_ok (ax_nd_ok (ax_nd_ok (ax_nd_ok (ax_lf_ok (ak_if_le (by decide) dX10_ruling_73)) (ax_lf_ok (ak_iload dX10_ruling_76))) (ax_nd_ok (ax_lf_ok (ak_goto (by decide) dX10_ruling_78)) (ax_nd_ok (ax_lf_ok (ak_iload_n rfl dX10_ruling_81)) (ax_lf_ok (ak_istore_n rfl (by decide) dX10_ruling_82))))) (ax_nd_ok (ax_nd_ok (ax_lf_ok (ak_iload_n rfl dX10_ruling_83)) (ax_lf_ok (ak_iload dX10_ruling_84))) (ax_nd_ok (ax_lf_ok (ak_icmp_ne (by decide) dX10_ruling_86)) (ax_nd_ok (ax_lf_ok (ak_lload dX10_ruling_89)) (ax_lf_ok (ak_goto (by decide) dX10_ruling_91)))))) (ax_nd_ok (ax_nd_ok (ax_nd_ok (ax_lf_ok (ak_lload dX10_ruling_94)) (ax_lf_ok (ak_lstore (by decide) dX10_ruling_96))) (ax_nd_ok (ax_lf_ok (ak_iinc (by decide) (by decide) dX10_ruling_98)) (ax_nd_ok (ax_lf_ok (ak_goto (by decide) dX10_ruling_101)) (ax_lf_ok (ak_aload_n rfl dX10_ruling_104))))) (ax_nd_ok (ax_nd_ok (ax_lf_ok (ak_iconst (by decide) dX10_ruling_105)) (ax_nd_ok (ax_lf_ok (ak_pi fF_X10_247 fW_X10_247_a dX10_ruling_106)) (ax_lf_ok (ak_iload_n rfl dX10_ruling_109)))) (ax_nd_ok (ax_lf_ok (ak_if_ne (by decide) dX10_ruling_110)) (ax_nd_ok (ax_lf_ok (ak_iload_n rfl dX10_ruling_113)) (ax_lf_ok (ak_iconst (by decide) dX10_ruling_114))))))) (ax_nd_ok (ax_nd_ok (ax_nd_ok (ax_nd_ok (ax_lf_ok (ak_idiv dX10_ruling_115)) (ax_lf_ok (ak_goto (by decide) dX10_ruling_116))) (ax_nd_ok (ax_lf_ok (ak_iload_n rfl dX10_ruling_119)) (ax_nd_ok (ax_lf_ok (ak_iconst (by decide) dX10_ruling_120)) (ax_lf_ok (ak_icmp_ne (by decide) dX10_ruling_121))))) (ax_nd_ok (ax_nd_ok (ax_lf_ok (ak_iload_n rfl dX10_ruling_124)) (ax_nd_ok (ax_lf_ok (ak_iconst (by decide) dX10_ruling_125)) (ax_lf_ok (ak_irem dX10_ruling_126)))) (ax_nd_ok (ax_lf_ok (ak_goto (by decide) dX10_ruling_127)) (ax_nd_ok (ax_lf_ok (ak_lload dX10_ruling_130)) (ax_lf_ok (ak_aload_n rfl dX10_ruling_132)))))) (ax_nd_ok (ax_nd_ok (ax_nd_ok (ax_lf_ok (ak_gi fF_X10_279 dX10_ruling_133)) (ax_lf_ok (ak_i2l dX10_ruling_136))) (ax_nd_ok (ax_lf_ok (ak_iload_n rfl dX10_ruling_137)) (ax_nd_ok (ax_lf_ok (ak_iconst (by decide) dX10_ruling_138)) (ax_lf_ok (ak_icmp_ne (by decide) dX10_ruling_139))))) (ax_nd_ok (ax_nd_ok (ax_lf_ok (ak_iconst (by decide) dX10_ruling_142)) (ax_nd_ok (ax_lf_ok (ak_goto (by decide) dX10_ruling_143)) (ax_lf_ok (ak_iconst (by decide) dX10_ruling_146)))) (ax_nd_ok (ax_lf_ok (ak_invS (by decide) (by decide) wd_1416 wd_1417 wd_106 wd_1418 ⟨by decide, by decide, by decide +kernel⟩ dX10_ruling_147)) (ax_nd_ok (ax_lf_ok (ak_l2i dX10_ruling_150)) (ax_lf_ok (ak_iret rfl dX10_ruling_151))))))))
abbrev mX10_ruling (g : ax_G) (as : List Value) (h : ax_H) (Ret : Option Value → ax_H → Prop) : Prop := ax_M g 7 0 0 yX10_ruling cX10_ruling 9 (some .int) as h Ret
theorem dX10_trust_0 : decode cX10_trust 0 = .ok (.aload_n 0, 1) := by decide +kernel
theorem dX10_trust_1 : decode cX10_trust 1 = .ok (.iconst 0, 1) := by decide +kernel
theorem dX10_trust_2 : decode cX10_trust 2 = .ok (.putfield 88, 3) := by decide +kernel
theorem dX10_trust_5 : decode cX10_trust 5 = .ok (.aload_n 0, 1) := by decide +kernel
theorem dX10_trust_6 : decode cX10_trust 6 = .ok (.iload_n 2, 1) := by decide +kernel
theorem dX10_trust_7 : decode cX10_trust 7 = .ok (.invokevirtual 416, 3) := by decide +kernel
theorem dX10_trust_10 : decode cX10_trust 10 = .ok (.ifCond .eq 11, 3) := by decide +kernel
theorem dX10_trust_13 : decode cX10_trust 13 = .ok (.aload_n 0, 1) := by decide +kernel
theorem dX10_trust_14 : decode cX10_trust 14 = .ok (.iload_n 1, 1) := by decide +kernel
theorem dX10_trust_15 : decode cX10_trust 15 = .ok (.invokevirtual 288, 3) := by decide +kernel
theorem dX10_trust_18 : decode cX10_trust 18 = .ok (.ifCond .ne 5, 3) := by decide +kernel
theorem dX10_trust_21 : decode cX10_trust 21 = .ok (.iconst (-1), 1) := by decide +kernel
theorem dX10_trust_22 : decode cX10_trust 22 = .ok (.ireturn, 1) := by decide +kernel
theorem dX10_trust_23 : decode cX10_trust 23 = .ok (.lconst 0, 1) := by decide +kernel
theorem dX10_trust_24 : decode cX10_trust 24 = .ok (.lstore 4, 2) := by decide +kernel
theorem dX10_trust_26 : decode cX10_trust 26 = .ok (.iconst 0, 1) := by decide +kernel
theorem dX10_trust_27 : decode cX10_trust 27 = .ok (.istore 6, 2) := by decide +kernel
theorem dX10_trust_29 : decode cX10_trust 29 = .ok (.iload 6, 2) := by decide +kernel
theorem dX10_trust_31 : decode cX10_trust 31 = .ok (.aload_n 0, 1) := by decide +kernel
theorem dX10_trust_32 : decode cX10_trust 32 = .ok (.getfield 263, 3) := by decide +kernel
theorem dX10_trust_35 : decode cX10_trust 35 = .ok (.if_icmp .ge 35, 3) := by decide +kernel
theorem dX10_trust_38 : decode cX10_trust 38 = .ok (.lload 4, 2) := by decide +kernel
theorem dX10_trust_40 : decode cX10_trust 40 = .ok (.aload_n 0, 1) := by decide +kernel
theorem dX10_trust_41 : decode cX10_trust 41 = .ok (.iload 6, 2) := by decide +kernel
theorem dX10_trust_43 : decode cX10_trust 43 = .ok (.invokevirtual 431, 3) := by decide +kernel
theorem dX10_trust_46 : decode cX10_trust 46 = .ok (.ifCond .lt 14, 3) := by decide +kernel
theorem dX10_trust_49 : decode cX10_trust 49 = .ok (.aload_n 0, 1) := by decide +kernel
theorem dX10_trust_50 : decode cX10_trust 50 = .ok (.getfield 56, 3) := by decide +kernel
theorem dX10_trust_53 : decode cX10_trust 53 = .ok (.iload 6, 2) := by decide +kernel
theorem dX10_trust_55 : decode cX10_trust 55 = .ok (.iaload, 1) := by decide +kernel
theorem dX10_trust_56 : decode cX10_trust 56 = .ok (.i2l, 1) := by decide +kernel
theorem dX10_trust_57 : decode cX10_trust 57 = .ok (.goto 4, 3) := by decide +kernel
theorem dX10_trust_60 : decode cX10_trust 60 = .ok (.lconst 0, 1) := by decide +kernel
theorem dX10_trust_61 : decode cX10_trust 61 = .ok (.ladd, 1) := by decide +kernel
theorem dX10_trust_62 : decode cX10_trust 62 = .ok (.lstore 4, 2) := by decide +kernel
theorem dX10_trust_64 : decode cX10_trust 64 = .ok (.iinc 6 1, 3) := by decide +kernel
theorem dX10_trust_67 : decode cX10_trust 67 = .ok (.goto (-38), 3) := by decide +kernel
theorem dX10_trust_70 : decode cX10_trust 70 = .ok (.lload 4, 2) := by decide +kernel
theorem dX10_trust_72 : decode cX10_trust 72 = .ok (.aload_n 0, 1) := by decide +kernel
theorem dX10_trust_73 : decode cX10_trust 73 = .ok (.getfield 279, 3) := by decide +kernel
theorem dX10_trust_76 : decode cX10_trust 76 = .ok (.i2l, 1) := by decide +kernel
theorem dX10_trust_77 : decode cX10_trust 77 = .ok (.iload_n 3, 1) := by decide +kernel
theorem dX10_trust_78 : decode cX10_trust 78 = .ok (.invokestatic 308, 3) := by decide +kernel
theorem dX10_trust_81 : decode cX10_trust 81 = .ok (.l2i, 1) := by decide +kernel
theorem dX10_trust_82 : decode cX10_trust 82 = .ok (.ireturn, 1) := by decide +kernel
def tX10_trust (g : ax_G) : Nat → ax_O := ax_nd 38 (ax_nd 18 (ax_nd 6 (ax_nd 1 (ax_nd 0 (ax_lf 0 (ao_al 0 1)) (ax_lf 1 (ao_ic (0) 1))) (ax_nd 2 (ax_lf 2 (ao_pi 10 0)) (ax_nd 5 (ax_lf 5 (ao_al 0 1)) (ax_lf 6 (ao_il 2 1))))) (ax_nd 13 (ax_nd 7 (ax_lf 7 (ao_inv g 3 10 1 yX10_hasTable cX10_hasTable 2 (some .boolean) 2 0 0 0 0)) (ax_nd 10 (ax_lf 10 (ao_if_eq 21)) (ax_lf 13 (ao_al 0 1)))) (ax_nd 14 (ax_lf 14 (ao_il 1 1)) (ax_nd 15 (ax_lf 15 (ao_inv g 6 10 1 yX10_hand cX10_hand 4 (some .boolean) 2 0 0 0 0)) (ax_lf 18 (ao_if_ne 23)))))) (ax_nd 26 (ax_nd 22 (ax_nd 21 (ax_lf 21 (ao_ic (-1) 1)) (ax_lf 22 (ao_iret 0 0))) (ax_nd 23 (ax_lf 23 (ao_lc (0) 1)) (ax_nd 24 (ax_lf 24 (ao_ls 4 2)) (ax_lf 26 (ao_ic (0) 1))))) (ax_nd 31 (ax_nd 27 (ax_lf 27 (ao_is 6 2)) (ax_nd 29 (ax_lf 29 (ao_il 6 2)) (ax_lf 31 (ao_al 0 1)))) (ax_nd 32 (ax_lf 32 (ao_gi 10 26)) (ax_nd 35 (ax_lf 35 (ao_icmp_ge 70)) (ax_lf 38 (ao_ll 4 2))))))) (ax_nd 60 (ax_nd 49 (ax_nd 41 (ax_nd 40 (ax_lf 40 (ao_al 0 1)) (ax_lf 41 (ao_il 6 2))) (ax_nd 43 (ax_lf 43 (ao_inv g 2 10 1 yX10_slackBy cX10_slackBy 4 (some .int) 2 0 0 0 0)) (ax_nd 46 (ax_lf 46 (ao_if_lt 60)) (ax_lf 49 (ao_al 0 1))))) (ax_nd 55 (ax_nd 50 (ax_lf 50 (ao_gr 10 31)) (ax_nd 53 (ax_lf 53 (ao_il 6 2)) (ax_lf 55 ao_iald))) (ax_nd 56 (ax_lf 56 ao_i2l) (ax_nd 57 (ax_lf 57 (ao_goto 61)) (ax_lf 60 (ao_lc (0) 1)))))) (ax_nd 72 (ax_nd 64 (ax_nd 61 (ax_lf 61 ao_ladd) (ax_nd 62 (ax_lf 62 (ao_ls 4 2)) (ax_lf 64 (ao_iinc 6 (1))))) (ax_nd 67 (ax_lf 67 (ao_goto 29)) (ax_nd 70 (ax_lf 70 (ao_ll 4 2)) (ax_lf 72 (ao_al 0 1))))) (ax_nd 77 (ax_nd 73 (ax_lf 73 (ao_gi 10 32)) (ax_nd 76 (ax_lf 76 ao_i2l) (ax_lf 77 (ao_il 3 1)))) (ax_nd 78 (ax_lf 78 (ao_inv g 2 99 2 yX10_part cX10_part 7 (some .long) 3 0 0 0 0)) (ax_nd 81 (ax_lf 81 ao_l2i) (ax_lf 82 (ao_iret 0 0)))))))
theorem oX10_trust (g : ax_G) : ∀ pc, ax_ok g cX10_trust 7 (some .int) RX10 "trust" 7 0 0 pc (tX10_trust g pc) := ax_nd_ok (ax_nd_ok (ax_nd_ok (ax_nd_ok (ax_nd_ok (ax_lf_ok (ak_aload_n rfl dX10_trust_0)) (ax_lf_ok (ak_iconst (by decide) dX10_trust_1))) (ax_nd_ok (ax_lf_ok (ak_pi fF_X10_88 fW_X10_88_a dX10_trust_2)) (ax_nd_ok (ax_lf_ok (ak_aload_n rfl dX10_trust_5)) (ax_lf_ok (ak_iload_n rfl dX10_trust_6))))) (ax_nd_ok (ax_nd_ok (ax_lf_ok (ak_invV (by decide) (by decide) (by decide) rfl wd_1576 wd_1578 wd_77 wd_106 wd_1579 ⟨by decide, by decide, by decide +kernel⟩ dX10_trust_7)) (ax_nd_ok (ax_lf_ok (ak_if_eq (by decide) dX10_trust_10)) (ax_lf_ok (ak_aload_n rfl dX10_trust_13)))) (ax_nd_ok (ax_lf_ok (ak_iload_n rfl dX10_trust_14)) (ax_nd_ok (ax_lf_ok (ak_invV (by decide) (by decide) (by decide) rfl wd_1356 wd_1358 wd_44 wd_106 wd_1359 ⟨by decide, by decide, by decide +kernel⟩ dX10_trust_15)) (ax_lf_ok (ak_if_ne (by decide) dX10_trust_18)))))) (ax_nd_ok (ax_nd_ok (ax_nd_ok (ax_lf_ok (ak_iconst (by decide) dX10_trust_21)) (ax_lf_ok (ak_iret rfl dX10_trust_22))) (ax_nd_ok (ax_lf_ok (ak_lconst (by decide) dX10_trust_23)) (ax_nd_ok (ax_lf_ok (ak_lstore (by decide) dX10_trust_24)) (ax_lf_ok (ak_iconst (by decide) dX10_trust_26))))) (ax_nd_ok (ax_nd_ok (ax_lf_ok (ak_istore (by decide) dX10_trust_27)) (ax_nd_ok (ax_lf_ok (ak_iload dX10_trust_29)) (ax_lf_ok (ak_aload_n rfl dX10_trust_31)))) (ax_nd_ok (ax_lf_ok (ak_gi fF_X10_263 dX10_trust_32)) (ax_nd_ok (ax_lf_ok (ak_icmp_ge (by decide) dX10_trust_35)) (ax_lf_ok (ak_lload dX10_trust_38))))))) (ax_nd_ok (ax_nd_ok (ax_nd_ok (ax_nd_ok (ax_lf_ok (ak_aload_n rfl dX10_trust_40)) (ax_lf_ok (ak_iload dX10_trust_41))) (ax_nd_ok (ax_lf_ok (ak_invV (by decide) (by decide) (by decide) rfl wd_1592 wd_1594 wd_80 wd_106 wd_1595 ⟨by decide, by decide, by decide +kernel⟩ dX10_trust_43)) (ax_nd_ok (ax_lf_ok (ak_if_lt (by decide) dX10_trust_46)) (ax_lf_ok (ak_aload_n rfl dX10_trust_49))))) (ax_nd_ok (ax_nd_ok (ax_lf_ok (ak_gr fF_X10_56 dX10_trust_50)) (ax_nd_ok (ax_lf_ok (ak_iload dX10_trust_53)) (ax_lf_ok (ak_iald dX10_trust_55)))) (ax_nd_ok (ax_lf_ok (ak_i2l dX10_trust_56)) (ax_nd_ok (ax_lf_ok (ak_goto (by decide) dX10_trust_57)) (ax_lf_ok (ak_lconst (by decide) dX10_trust_60)))))) (ax_nd_ok (ax_nd_ok (ax_nd_ok (ax_lf_ok (ak_ladd dX10_trust_61)) (ax_nd_ok (ax_lf_ok (ak_lstore (by decide) dX10_trust_62)) (ax_lf_ok (ak_iinc (by decide) (by decide) dX10_trust_64)))) (ax_nd_ok (ax_lf_ok (ak_goto (by decide) dX10_trust_67)) (ax_nd_ok (ax_lf_ok (ak_lload dX10_trust_70)) (ax_lf_ok (ak_aload_n rfl dX10_trust_72))))) (ax_nd_ok (ax_nd_ok (ax_lf_ok (ak_gi fF_X10_279 dX10_trust_73)) (ax_nd_ok (ax_lf_ok (ak_i2l dX10_trust_76)) (ax_lf_ok (ak_iload_n rfl dX10_trust_77)))) (ax_nd_ok (ax_lf_ok (ak_invS (by decide) (by decide) wd_1416 wd_1417 wd_106 wd_1418 ⟨by decide, by decide, by decide +kernel⟩ dX10_trust_78)) (ax_nd_ok (ax_lf_ok (ak_l2i dX10_trust_81)) (ax_lf_ok (ak_iret rfl dX10_trust_82)))))))
abbrev mX10_trust (g : ax_G) (as : List Value) (h : ax_H) (Ret : Option Value → ax_H → Prop) : Prop := ax_M g 7 0 0 yX10_trust cX10_trust 7 (some .int) as h Ret
theorem dX10_tight_0 : decode cX10_tight 0 = .ok (.aload_n 0, 1) := by decide +kernel
theorem dX10_tight_1 : decode cX10_tight 1 = .ok (.iconst 0, 1) := by decide +kernel
theorem dX10_tight_2 : decode cX10_tight 2 = .ok (.putfield 88, 3) := by decide +kernel
theorem dX10_tight_5 : decode cX10_tight 5 = .ok (.aload_n 0, 1) := by decide +kernel
theorem dX10_tight_6 : decode cX10_tight 6 = .ok (.iload_n 2, 1) := by decide +kernel
theorem dX10_tight_7 : decode cX10_tight 7 = .ok (.invokevirtual 416, 3) := by decide +kernel
theorem dX10_tight_10 : decode cX10_tight 10 = .ok (.ifCond .eq 11, 3) := by decide +kernel
theorem dX10_tight_13 : decode cX10_tight 13 = .ok (.aload_n 0, 1) := by decide +kernel
theorem dX10_tight_14 : decode cX10_tight 14 = .ok (.iload_n 1, 1) := by decide +kernel
theorem dX10_tight_15 : decode cX10_tight 15 = .ok (.invokevirtual 288, 3) := by decide +kernel
theorem dX10_tight_18 : decode cX10_tight 18 = .ok (.ifCond .ne 5, 3) := by decide +kernel
theorem dX10_tight_21 : decode cX10_tight 21 = .ok (.iconst (-1), 1) := by decide +kernel
theorem dX10_tight_22 : decode cX10_tight 22 = .ok (.ireturn, 1) := by decide +kernel
theorem dX10_tight_23 : decode cX10_tight 23 = .ok (.iconst (-1), 1) := by decide +kernel
theorem dX10_tight_24 : decode cX10_tight 24 = .ok (.istore_n 3, 1) := by decide +kernel
theorem dX10_tight_25 : decode cX10_tight 25 = .ok (.sipush 1000, 3) := by decide +kernel
theorem dX10_tight_28 : decode cX10_tight 28 = .ok (.istore 4, 2) := by decide +kernel
theorem dX10_tight_30 : decode cX10_tight 30 = .ok (.iconst 0, 1) := by decide +kernel
theorem dX10_tight_31 : decode cX10_tight 31 = .ok (.istore 5, 2) := by decide +kernel
theorem dX10_tight_33 : decode cX10_tight 33 = .ok (.iload 5, 2) := by decide +kernel
theorem dX10_tight_35 : decode cX10_tight 35 = .ok (.iconst 1, 1) := by decide +kernel
theorem dX10_tight_36 : decode cX10_tight 36 = .ok (.iadd, 1) := by decide +kernel
theorem dX10_tight_37 : decode cX10_tight 37 = .ok (.aload_n 0, 1) := by decide +kernel
theorem dX10_tight_38 : decode cX10_tight 38 = .ok (.invokevirtual 419, 3) := by decide +kernel
theorem dX10_tight_41 : decode cX10_tight 41 = .ok (.if_icmp .ge 87, 3) := by decide +kernel
theorem dX10_tight_44 : decode cX10_tight 44 = .ok (.iconst 0, 1) := by decide +kernel
theorem dX10_tight_45 : decode cX10_tight 45 = .ok (.istore 6, 2) := by decide +kernel
theorem dX10_tight_47 : decode cX10_tight 47 = .ok (.iload 6, 2) := by decide +kernel
theorem dX10_tight_49 : decode cX10_tight 49 = .ok (.aload_n 0, 1) := by decide +kernel
theorem dX10_tight_50 : decode cX10_tight 50 = .ok (.getfield 263, 3) := by decide +kernel
theorem dX10_tight_53 : decode cX10_tight 53 = .ok (.if_icmp .ge 69, 3) := by decide +kernel
theorem dX10_tight_56 : decode cX10_tight 56 = .ok (.aload_n 0, 1) := by decide +kernel
theorem dX10_tight_57 : decode cX10_tight 57 = .ok (.iload 5, 2) := by decide +kernel
theorem dX10_tight_59 : decode cX10_tight 59 = .ok (.iconst 1, 1) := by decide +kernel
theorem dX10_tight_60 : decode cX10_tight 60 = .ok (.iadd, 1) := by decide +kernel
theorem dX10_tight_61 : decode cX10_tight 61 = .ok (.iconst 0, 1) := by decide +kernel
theorem dX10_tight_62 : decode cX10_tight 62 = .ok (.invokevirtual 422, 3) := by decide +kernel
theorem dX10_tight_65 : decode cX10_tight 65 = .ok (.iload 6, 2) := by decide +kernel
theorem dX10_tight_67 : decode cX10_tight 67 = .ok (.invokestatic 425, 3) := by decide +kernel
theorem dX10_tight_70 : decode cX10_tight 70 = .ok (.aload_n 0, 1) := by decide +kernel
theorem dX10_tight_71 : decode cX10_tight 71 = .ok (.iload 5, 2) := by decide +kernel
theorem dX10_tight_73 : decode cX10_tight 73 = .ok (.iconst 0, 1) := by decide +kernel
theorem dX10_tight_74 : decode cX10_tight 74 = .ok (.invokevirtual 422, 3) := by decide +kernel
theorem dX10_tight_77 : decode cX10_tight 77 = .ok (.iload 6, 2) := by decide +kernel
theorem dX10_tight_79 : decode cX10_tight 79 = .ok (.invokestatic 425, 3) := by decide +kernel
theorem dX10_tight_82 : decode cX10_tight 82 = .ok (.isub, 1) := by decide +kernel
theorem dX10_tight_83 : decode cX10_tight 83 = .ok (.aload_n 0, 1) := by decide +kernel
theorem dX10_tight_84 : decode cX10_tight 84 = .ok (.iload 5, 2) := by decide +kernel
theorem dX10_tight_86 : decode cX10_tight 86 = .ok (.iconst 1, 1) := by decide +kernel
theorem dX10_tight_87 : decode cX10_tight 87 = .ok (.invokevirtual 422, 3) := by decide +kernel
theorem dX10_tight_90 : decode cX10_tight 90 = .ok (.isub, 1) := by decide +kernel
theorem dX10_tight_91 : decode cX10_tight 91 = .ok (.istore 7, 2) := by decide +kernel
theorem dX10_tight_93 : decode cX10_tight 93 = .ok (.iload 7, 2) := by decide +kernel
theorem dX10_tight_95 : decode cX10_tight 95 = .ok (.iload 4, 2) := by decide +kernel
theorem dX10_tight_97 : decode cX10_tight 97 = .ok (.if_icmp .ge 8, 3) := by decide +kernel
theorem dX10_tight_100 : decode cX10_tight 100 = .ok (.iload 5, 2) := by decide +kernel
theorem dX10_tight_102 : decode cX10_tight 102 = .ok (.goto 4, 3) := by decide +kernel
theorem dX10_tight_105 : decode cX10_tight 105 = .ok (.iload_n 3, 1) := by decide +kernel
theorem dX10_tight_106 : decode cX10_tight 106 = .ok (.istore_n 3, 1) := by decide +kernel
theorem dX10_tight_107 : decode cX10_tight 107 = .ok (.iload 4, 2) := by decide +kernel
theorem dX10_tight_109 : decode cX10_tight 109 = .ok (.iload 7, 2) := by decide +kernel
theorem dX10_tight_111 : decode cX10_tight 111 = .ok (.invokestatic 428, 3) := by decide +kernel
theorem dX10_tight_114 : decode cX10_tight 114 = .ok (.istore 4, 2) := by decide +kernel
theorem dX10_tight_116 : decode cX10_tight 116 = .ok (.iinc 6 1, 3) := by decide +kernel
theorem dX10_tight_119 : decode cX10_tight 119 = .ok (.goto (-72), 3) := by decide +kernel
theorem dX10_tight_122 : decode cX10_tight 122 = .ok (.iinc 5 1, 3) := by decide +kernel
theorem dX10_tight_125 : decode cX10_tight 125 = .ok (.goto (-92), 3) := by decide +kernel
theorem dX10_tight_128 : decode cX10_tight 128 = .ok (.iload_n 3, 1) := by decide +kernel
theorem dX10_tight_129 : decode cX10_tight 129 = .ok (.ireturn, 1) := by decide +kernel
def tX10_tight (g : ax_G) : Nat → ax_O := ax_nd 59 (ax_nd 28 (ax_nd 13 (ax_nd 5 (ax_nd 1 (ax_nd 0 (ax_lf 0 (ao_al 0 1)) (ax_lf 1 (ao_ic (0) 1))) (ax_nd 2 (ax_lf 2 (ao_pi 10 0)) (ax_lf 5 (ao_al 0 1)))) (ax_nd 7 (ax_nd 6 (ax_lf 6 (ao_il 2 1)) (ax_lf 7 (ao_inv g 3 10 1 yX10_hasTable cX10_hasTable 2 (some .boolean) 2 0 0 0 0))) (ax_nd 10 (ax_lf 10 (ao_if_eq 21)) (ax_lf 13 (ao_al 0 1))))) (ax_nd 21 (ax_nd 15 (ax_nd 14 (ax_lf 14 (ao_il 1 1)) (ax_lf 15 (ao_inv g 6 10 1 yX10_hand cX10_hand 4 (some .boolean) 2 0 0 0 0))) (ax_nd 18 (ax_lf 18 (ao_if_ne 23)) (ax_lf 21 (ao_ic (-1) 1)))) (ax_nd 23 (ax_nd 22 (ax_lf 22 (ao_iret 0 0)) (ax_lf 23 (ao_ic (-1) 1))) (ax_nd 24 (ax_lf 24 (ao_is 3 1)) (ax_nd 25 (ax_lf 25 (ao_ic (1000) 3)) (ax_lf 28 (ao_is 4 2))))))) (ax_nd 41 (ax_nd 35 (ax_nd 31 (ax_nd 30 (ax_lf 30 (ao_ic (0) 1)) (ax_lf 31 (ao_is 5 2))) (ax_nd 33 (ax_lf 33 (ao_il 5 2)) (ax_lf 35 (ao_ic (1) 1)))) (ax_nd 37 (ax_nd 36 (ax_lf 36 ao_iadd) (ax_lf 37 (ao_al 0 1))) (ax_nd 38 (ax_lf 38 (ao_inv g 1 10 1 yX10_trains cX10_trains 1 (some .int) 1 0 0 0 0)) (ax_lf 41 (ao_icmp_ge 128))))) (ax_nd 49 (ax_nd 45 (ax_nd 44 (ax_lf 44 (ao_ic (0) 1)) (ax_lf 45 (ao_is 6 2))) (ax_nd 47 (ax_lf 47 (ao_il 6 2)) (ax_lf 49 (ao_al 0 1)))) (ax_nd 53 (ax_nd 50 (ax_lf 50 (ao_gi 10 26)) (ax_lf 53 (ao_icmp_ge 122))) (ax_nd 56 (ax_lf 56 (ao_al 0 1)) (ax_nd 57 (ax_lf 57 (ao_il 5 2)) (ax_lf 59 (ao_ic (1) 1)))))))) (ax_nd 90 (ax_nd 73 (ax_nd 65 (ax_nd 61 (ax_nd 60 (ax_lf 60 ao_iadd) (ax_lf 61 (ao_ic (0) 1))) (ax_nd 62 (ax_lf 62 (ao_inv g 1 10 1 yX10_trainOf cX10_trainOf 3 (some .int) 3 0 0 0 0)) (ax_lf 65 (ao_il 6 2)))) (ax_nd 70 (ax_nd 67 (ax_lf 67 (ao_inv g 1 99 1 yX10_trueAt cX10_trueAt 2 (some .int) 2 0 0 0 0)) (ax_lf 70 (ao_al 0 1))) (ax_nd 71 (ax_lf 71 (ao_il 5 2)) (ax_lf 73 (ao_ic (0) 1))))) (ax_nd 82 (ax_nd 77 (ax_nd 74 (ax_lf 74 (ao_inv g 1 10 1 yX10_trainOf cX10_trainOf 3 (some .int) 3 0 0 0 0)) (ax_lf 77 (ao_il 6 2))) (ax_nd 79 (ax_lf 79 (ao_inv g 1 99 1 yX10_trueAt cX10_trueAt 2 (some .int) 2 0 0 0 0)) (ax_lf 82 ao_isub))) (ax_nd 84 (ax_nd 83 (ax_lf 83 (ao_al 0 1)) (ax_lf 84 (ao_il 5 2))) (ax_nd 86 (ax_lf 86 (ao_ic (1) 1)) (ax_nd 87 (ax_lf 87 (ao_inv g 1 10 1 yX10_trainOf cX10_trainOf 3 (some .int) 3 0 0 0 0)) (ax_lf 90 ao_isub)))))) (ax_nd 107 (ax_nd 97 (ax_nd 93 (ax_nd 91 (ax_lf 91 (ao_is 7 2)) (ax_lf 93 (ao_il 7 2))) (ax_nd 95 (ax_lf 95 (ao_il 4 2)) (ax_lf 97 (ao_icmp_ge 105)))) (ax_nd 102 (ax_nd 100 (ax_lf 100 (ao_il 5 2)) (ax_lf 102 (ao_goto 106))) (ax_nd 105 (ax_lf 105 (ao_il 3 1)) (ax_nd 106 (ax_lf 106 (ao_is 3 1)) (ax_lf 107 (ao_il 4 2)))))) (ax_nd 116 (ax_nd 111 (ax_nd 109 (ax_lf 109 (ao_il 7 2)) (ax_lf 111 (ao_inv g 1 99 1 yX10_lesser cX10_lesser 2 (some .int) 2 0 0 0 0))) (ax_nd 114 (ax_lf 114 (ao_is 4 2)) (ax_lf 116 (ao_iinc 6 (1))))) (ax_nd 122 (ax_nd 119 (ax_lf 119 (ao_goto 47)) (ax_lf 122 (ao_iinc 5 (1)))) (ax_nd 125 (ax_lf 125 (ao_goto 33)) (ax_nd 128 (ax_lf 128 (ao_il 3 1)) (ax_lf 129 (ao_iret 0 0))))))))
theorem oX10_tight (g : ax_G) : ∀ pc, ax_ok g cX10_tight 8 (some .int) RX10 "tight" 7 0 0 pc (tX10_tight g pc) := ax_nd_ok (ax_nd_ok (ax_nd_ok (ax_nd_ok (ax_nd_ok (ax_nd_ok (ax_lf_ok (ak_aload_n rfl dX10_tight_0)) (ax_lf_ok (ak_iconst (by decide) dX10_tight_1))) (ax_nd_ok (ax_lf_ok (ak_pi fF_X10_88 fW_X10_88_a dX10_tight_2)) (ax_lf_ok (ak_aload_n rfl dX10_tight_5)))) (ax_nd_ok (ax_nd_ok (ax_lf_ok (ak_iload_n rfl dX10_tight_6)) (ax_lf_ok (ak_invV (by decide) (by decide) (by decide) rfl wd_1576 wd_1578 wd_77 wd_106 wd_1579 ⟨by decide, by decide, by decide +kernel⟩ dX10_tight_7))) (ax_nd_ok (ax_lf_ok (ak_if_eq (by decide) dX10_tight_10)) (ax_lf_ok (ak_aload_n rfl dX10_tight_13))))) (ax_nd_ok (ax_nd_ok (ax_nd_ok (ax_lf_ok (ak_iload_n rfl dX10_tight_14)) (ax_lf_ok (ak_invV (by decide) (by decide) (by decide) rfl wd_1356 wd_1358 wd_44 wd_106 wd_1359 ⟨by decide, by decide, by decide +kernel⟩ dX10_tight_15))) (ax_nd_ok (ax_lf_ok (ak_if_ne (by decide) dX10_tight_18)) (ax_lf_ok (ak_iconst (by decide) dX10_tight_21)))) (ax_nd_ok (ax_nd_ok (ax_lf_ok (ak_iret rfl dX10_tight_22)) (ax_lf_ok (ak_iconst (by decide) dX10_tight_23))) (ax_nd_ok (ax_lf_ok (ak_istore_n rfl (by decide) dX10_tight_24)) (ax_nd_ok (ax_lf_ok (ak_sipush (by decide) dX10_tight_25)) (ax_lf_ok (ak_istore (by decide) dX10_tight_28))))))) (ax_nd_ok (ax_nd_ok (ax_nd_ok (ax_nd_ok (ax_lf_ok (ak_iconst (by decide) dX10_tight_30)) (ax_lf_ok (ak_istore (by decide) dX10_tight_31))) (ax_nd_ok (ax_lf_ok (ak_iload dX10_tight_33)) (ax_lf_ok (ak_iconst (by decide) dX10_tight_35)))) (ax_nd_ok (ax_nd_ok (ax_lf_ok (ak_iadd dX10_tight_36)) (ax_lf_ok (ak_aload_n rfl dX10_tight_37))) (ax_nd_ok (ax_lf_ok (ak_invV (by decide) (by decide) (by decide) rfl wd_1580 wd_1582 wd_78 wd_106 wd_1583 ⟨by decide, by decide, by decide +kernel⟩ dX10_tight_38)) (ax_lf_ok (ak_icmp_ge (by decide) dX10_tight_41))))) (ax_nd_ok (ax_nd_ok (ax_nd_ok (ax_lf_ok (ak_iconst (by decide) dX10_tight_44)) (ax_lf_ok (ak_istore (by decide) dX10_tight_45))) (ax_nd_ok (ax_lf_ok (ak_iload dX10_tight_47)) (ax_lf_ok (ak_aload_n rfl dX10_tight_49)))) (ax_nd_ok (ax_nd_ok (ax_lf_ok (ak_gi fF_X10_263 dX10_tight_50)) (ax_lf_ok (ak_icmp_ge (by decide) dX10_tight_53))) (ax_nd_ok (ax_lf_ok (ak_aload_n rfl dX10_tight_56)) (ax_nd_ok (ax_lf_ok (ak_iload dX10_tight_57)) (ax_lf_ok (ak_iconst (by decide) dX10_tight_59)))))))) (ax_nd_ok (ax_nd_ok (ax_nd_ok (ax_nd_ok (ax_nd_ok (ax_lf_ok (ak_iadd dX10_tight_60)) (ax_lf_ok (ak_iconst (by decide) dX10_tight_61))) (ax_nd_ok (ax_lf_ok (ak_invV (by decide) (by decide) (by decide) rfl wd_1584 wd_1586 wd_79 wd_106 wd_1587 ⟨by decide, by decide, by decide +kernel⟩ dX10_tight_62)) (ax_lf_ok (ak_iload dX10_tight_65)))) (ax_nd_ok (ax_nd_ok (ax_lf_ok (ak_invS (by decide) (by decide) wd_1596 wd_1597 wd_106 wd_1598 ⟨by decide, by decide, by decide +kernel⟩ dX10_tight_67)) (ax_lf_ok (ak_aload_n rfl dX10_tight_70))) (ax_nd_ok (ax_lf_ok (ak_iload dX10_tight_71)) (ax_lf_ok (ak_iconst (by decide) dX10_tight_73))))) (ax_nd_ok (ax_nd_ok (ax_nd_ok (ax_lf_ok (ak_invV (by decide) (by decide) (by decide) rfl wd_1584 wd_1586 wd_79 wd_106 wd_1587 ⟨by decide, by decide, by decide +kernel⟩ dX10_tight_74)) (ax_lf_ok (ak_iload dX10_tight_77))) (ax_nd_ok (ax_lf_ok (ak_invS (by decide) (by decide) wd_1596 wd_1597 wd_106 wd_1598 ⟨by decide, by decide, by decide +kernel⟩ dX10_tight_79)) (ax_lf_ok (ak_isub dX10_tight_82)))) (ax_nd_ok (ax_nd_ok (ax_lf_ok (ak_aload_n rfl dX10_tight_83)) (ax_lf_ok (ak_iload dX10_tight_84))) (ax_nd_ok (ax_lf_ok (ak_iconst (by decide) dX10_tight_86)) (ax_nd_ok (ax_lf_ok (ak_invV (by decide) (by decide) (by decide) rfl wd_1584 wd_1586 wd_79 wd_106 wd_1587 ⟨by decide, by decide, by decide +kernel⟩ dX10_tight_87)) (ax_lf_ok (ak_isub dX10_tight_90))))))) (ax_nd_ok (ax_nd_ok (ax_nd_ok (ax_nd_ok (ax_lf_ok (ak_istore (by decide) dX10_tight_91)) (ax_lf_ok (ak_iload dX10_tight_93))) (ax_nd_ok (ax_lf_ok (ak_iload dX10_tight_95)) (ax_lf_ok (ak_icmp_ge (by decide) dX10_tight_97)))) (ax_nd_ok (ax_nd_ok (ax_lf_ok (ak_iload dX10_tight_100)) (ax_lf_ok (ak_goto (by decide) dX10_tight_102))) (ax_nd_ok (ax_lf_ok (ak_iload_n rfl dX10_tight_105)) (ax_nd_ok (ax_lf_ok (ak_istore_n rfl (by decide) dX10_tight_106)) (ax_lf_ok (ak_iload dX10_tight_107)))))) (ax_nd_ok (ax_nd_ok (ax_nd_ok (ax_lf_ok (ak_iload dX10_tight_109)) (ax_lf_ok (ak_invS (by decide) (by decide) wd_1599 wd_1600 wd_106 wd_1601 ⟨by decide, by decide, by decide +kernel⟩ dX10_tight_111))) (ax_nd_ok (ax_lf_ok (ak_istore (by decide) dX10_tight_114)) (ax_lf_ok (ak_iinc (by decide) (by decide) dX10_tight_116)))) (ax_nd_ok (ax_nd_ok (ax_lf_ok (ak_goto (by decide) dX10_tight_119)) (ax_lf_ok (ak_iinc (by decide) (by decide) dX10_tight_122))) (ax_nd_ok (ax_lf_ok (ak_goto (by decide) dX10_tight_125)) (ax_nd_ok (ax_lf_ok (ak_iload_n rfl dX10_tight_128)) (ax_lf_ok (ak_iret rfl dX10_tight_129))))))))
abbrev mX10_tight (g : ax_G) (as : List Value) (h : ax_H) (Ret : Option Value → ax_H → Prop) : Prop := ax_M g 7 0 0 yX10_tight cX10_tight 8 (some .int) as h Ret
end
