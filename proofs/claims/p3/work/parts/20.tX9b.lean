section
theorem dX9_promise_0 : decode cX9_promise 0 = .ok (.aload_n 0, 1) := by decide +kernel
theorem dX9_promise_1 : decode cX9_promise 1 = .ok (.iload_n 1, 1) := by decide +kernel
theorem dX9_promise_2 : decode cX9_promise 2 = .ok (.invokevirtual 99, 3) := by decide +kernel
theorem dX9_promise_5 : decode cX9_promise 5 = .ok (.astore 5, 2) := by decide +kernel
theorem dX9_promise_7 : decode cX9_promise 7 = .ok (.aload 5, 2) := by decide +kernel
theorem dX9_promise_9 : decode cX9_promise 9 = .ok (.ifnull 22, 3) := by decide +kernel
theorem dX9_promise_12 : decode cX9_promise 12 = .ok (.aload 5, 2) := by decide +kernel
theorem dX9_promise_14 : decode cX9_promise 14 = .ok (.iload_n 2, 1) := by decide +kernel
theorem dX9_promise_15 : decode cX9_promise 15 = .ok (.invokevirtual 125, 3) := by decide +kernel
theorem dX9_promise_18 : decode cX9_promise 18 = .ok (.ifCond .eq 13, 3) := by decide +kernel
theorem dX9_promise_21 : decode cX9_promise 21 = .ok (.iload_n 3, 1) := by decide +kernel
theorem dX9_promise_22 : decode cX9_promise 22 = .ok (.ifCond .lt 9, 3) := by decide +kernel
theorem dX9_promise_25 : decode cX9_promise 25 = .ok (.iload_n 3, 1) := by decide +kernel
theorem dX9_promise_26 : decode cX9_promise 26 = .ok (.bipush 6, 2) := by decide +kernel
theorem dX9_promise_28 : decode cX9_promise 28 = .ok (.if_icmp .lt 6, 3) := by decide +kernel
theorem dX9_promise_31 : decode cX9_promise 31 = .ok (.ldc 145, 2) := by decide +kernel
theorem dX9_promise_33 : decode cX9_promise 33 = .ok (.ireturn, 1) := by decide +kernel
theorem dX9_promise_34 : decode cX9_promise 34 = .ok (.lconst 0, 1) := by decide +kernel
theorem dX9_promise_35 : decode cX9_promise 35 = .ok (.lstore 6, 2) := by decide +kernel
theorem dX9_promise_37 : decode cX9_promise 37 = .ok (.iconst 0, 1) := by decide +kernel
theorem dX9_promise_38 : decode cX9_promise 38 = .ok (.istore 8, 2) := by decide +kernel
theorem dX9_promise_40 : decode cX9_promise 40 = .ok (.iload 8, 2) := by decide +kernel
theorem dX9_promise_42 : decode cX9_promise 42 = .ok (.aload 5, 2) := by decide +kernel
theorem dX9_promise_44 : decode cX9_promise 44 = .ok (.getfield 112, 3) := by decide +kernel
theorem dX9_promise_47 : decode cX9_promise 47 = .ok (.if_icmp .ge 41, 3) := by decide +kernel
theorem dX9_promise_50 : decode cX9_promise 50 = .ok (.lload 6, 2) := by decide +kernel
theorem dX9_promise_52 : decode cX9_promise 52 = .ok (.aload 5, 2) := by decide +kernel
theorem dX9_promise_54 : decode cX9_promise 54 = .ok (.iload_n 2, 1) := by decide +kernel
theorem dX9_promise_55 : decode cX9_promise 55 = .ok (.iload 8, 2) := by decide +kernel
theorem dX9_promise_57 : decode cX9_promise 57 = .ok (.invokevirtual 132, 3) := by decide +kernel
theorem dX9_promise_60 : decode cX9_promise 60 = .ok (.iconst (-1), 1) := by decide +kernel
theorem dX9_promise_61 : decode cX9_promise 61 = .ok (.if_icmp .ne 17, 3) := by decide +kernel
theorem dX9_promise_64 : decode cX9_promise 64 = .ok (.aload_n 0, 1) := by decide +kernel
theorem dX9_promise_65 : decode cX9_promise 65 = .ok (.getfield 43, 3) := by decide +kernel
theorem dX9_promise_68 : decode cX9_promise 68 = .ok (.getfield 149, 3) := by decide +kernel
theorem dX9_promise_71 : decode cX9_promise 71 = .ok (.iload 8, 2) := by decide +kernel
theorem dX9_promise_73 : decode cX9_promise 73 = .ok (.iaload, 1) := by decide +kernel
theorem dX9_promise_74 : decode cX9_promise 74 = .ok (.i2l, 1) := by decide +kernel
theorem dX9_promise_75 : decode cX9_promise 75 = .ok (.goto 4, 3) := by decide +kernel
theorem dX9_promise_78 : decode cX9_promise 78 = .ok (.lconst 0, 1) := by decide +kernel
theorem dX9_promise_79 : decode cX9_promise 79 = .ok (.ladd, 1) := by decide +kernel
theorem dX9_promise_80 : decode cX9_promise 80 = .ok (.lstore 6, 2) := by decide +kernel
theorem dX9_promise_82 : decode cX9_promise 82 = .ok (.iinc 8 1, 3) := by decide +kernel
theorem dX9_promise_85 : decode cX9_promise 85 = .ok (.goto (-45), 3) := by decide +kernel
theorem dX9_promise_88 : decode cX9_promise 88 = .ok (.aload 5, 2) := by decide +kernel
theorem dX9_promise_90 : decode cX9_promise 90 = .ok (.iload_n 3, 1) := by decide +kernel
theorem dX9_promise_91 : decode cX9_promise 91 = .ok (.invokevirtual 103, 3) := by decide +kernel
theorem dX9_promise_94 : decode cX9_promise 94 = .ok (.aload 5, 2) := by decide +kernel
theorem dX9_promise_96 : decode cX9_promise 96 = .ok (.iload_n 3, 1) := by decide +kernel
theorem dX9_promise_97 : decode cX9_promise 97 = .ok (.invokevirtual 211, 3) := by decide +kernel
theorem dX9_promise_100 : decode cX9_promise 100 = .ok (.iadd, 1) := by decide +kernel
theorem dX9_promise_101 : decode cX9_promise 101 = .ok (.i2l, 1) := by decide +kernel
theorem dX9_promise_102 : decode cX9_promise 102 = .ok (.lstore 8, 2) := by decide +kernel
theorem dX9_promise_104 : decode cX9_promise 104 = .ok (.lload 6, 2) := by decide +kernel
theorem dX9_promise_106 : decode cX9_promise 106 = .ok (.lload 8, 2) := by decide +kernel
theorem dX9_promise_108 : decode cX9_promise 108 = .ok (.lmul, 1) := by decide +kernel
theorem dX9_promise_109 : decode cX9_promise 109 = .ok (.aload_n 0, 1) := by decide +kernel
theorem dX9_promise_110 : decode cX9_promise 110 = .ok (.getfield 43, 3) := by decide +kernel
theorem dX9_promise_113 : decode cX9_promise 113 = .ok (.getfield 152, 3) := by decide +kernel
theorem dX9_promise_116 : decode cX9_promise 116 = .ok (.i2l, 1) := by decide +kernel
theorem dX9_promise_117 : decode cX9_promise 117 = .ok (.iload 4, 2) := by decide +kernel
theorem dX9_promise_119 : decode cX9_promise 119 = .ok (.invokestatic 155, 3) := by decide +kernel
theorem dX9_promise_122 : decode cX9_promise 122 = .ok (.l2i, 1) := by decide +kernel
theorem dX9_promise_123 : decode cX9_promise 123 = .ok (.ireturn, 1) := by decide +kernel
def tX9_promise (g : ax_G) : Nat → ax_O := ax_nd 61 (ax_nd 31 (ax_nd 14 (ax_nd 5 (ax_nd 1 (ax_nd 0 (ax_lf 0 (ao_al 0 1)) (ax_lf 1 (ao_il 1 1))) (ax_nd 2 (ax_lf 2 (ao_inv g 5 9 3 yX9_begun cX9_begun 3 (some (.object "GluedHour$Republic")) 2 0 0 0 0)) (ax_lf 5 (ao_as 5 2)))) (ax_nd 9 (ax_nd 7 (ax_lf 7 (ao_al 5 2)) (ax_lf 9 (ao_ifnull 31))) (ax_nd 12 (ax_lf 12 (ao_al 5 2)) (ax_lf 14 (ao_il 2 1))))) (ax_nd 22 (ax_nd 18 (ax_nd 15 (ax_lf 15 (ao_inv g 1 6 1 yX6_hasPerson cX6_hasPerson 2 (some .boolean) 2 0 0 0 0)) (ax_lf 18 (ao_if_eq 31))) (ax_nd 21 (ax_lf 21 (ao_il 3 1)) (ax_lf 22 (ao_if_lt 31)))) (ax_nd 26 (ax_nd 25 (ax_lf 25 (ao_il 3 1)) (ax_lf 26 (ao_ic (6) 2))) (ax_nd 28 (ax_lf 28 (ao_icmp_lt 34)) (ax_lf 31 (ao_ic (-1000000) 2)))))) (ax_nd 44 (ax_nd 37 (ax_nd 34 (ax_nd 33 (ax_lf 33 (ao_iret 0 0)) (ax_lf 34 (ao_lc (0) 1))) (ax_nd 35 (ax_lf 35 (ao_ls 6 2)) (ax_lf 37 (ao_ic (0) 1)))) (ax_nd 40 (ax_nd 38 (ax_lf 38 (ao_is 8 2)) (ax_lf 40 (ao_il 8 2))) (ax_nd 42 (ax_lf 42 (ao_al 5 2)) (ax_lf 44 (ao_gi 6 5))))) (ax_nd 54 (ax_nd 50 (ax_nd 47 (ax_lf 47 (ao_icmp_ge 88)) (ax_lf 50 (ao_ll 6 2))) (ax_nd 52 (ax_lf 52 (ao_al 5 2)) (ax_lf 54 (ao_il 2 1)))) (ax_nd 57 (ax_nd 55 (ax_lf 55 (ao_il 8 2)) (ax_lf 57 (ao_inv g 2 6 1 yX6_deedAt cX6_deedAt 3 (some .int) 3 0 0 0 0))) (ax_nd 60 (ax_lf 60 (ao_ic (-1) 1)) (ax_lf 61 (ao_icmp_ne 78))))))) (ax_nd 94 (ax_nd 78 (ax_nd 71 (ax_nd 65 (ax_nd 64 (ax_lf 64 (ao_al 0 1)) (ax_lf 65 (ao_gr 9 4))) (ax_nd 68 (ax_lf 68 (ao_gr 3 0)) (ax_lf 71 (ao_il 8 2)))) (ax_nd 74 (ax_nd 73 (ax_lf 73 ao_iald) (ax_lf 74 ao_i2l)) (ax_nd 75 (ax_lf 75 (ao_goto 79)) (ax_lf 78 (ao_lc (0) 1))))) (ax_nd 85 (ax_nd 80 (ax_nd 79 (ax_lf 79 ao_ladd) (ax_lf 80 (ao_ls 6 2))) (ax_nd 82 (ax_lf 82 (ao_iinc 8 (1))) (ax_lf 85 (ao_goto 40)))) (ax_nd 90 (ax_nd 88 (ax_lf 88 (ao_al 5 2)) (ax_lf 90 (ao_il 3 1))) (ax_nd 91 (ax_lf 91 (ao_inv g 1 6 1 yX6_worthOf cX6_worthOf 2 (some .int) 2 0 0 0 0)) (ax_lf 94 (ao_al 5 2)))))) (ax_nd 108 (ax_nd 101 (ax_nd 97 (ax_nd 96 (ax_lf 96 (ao_il 3 1)) (ax_lf 97 (ao_inv g 3 6 1 yX6_extraOf cX6_extraOf 2 (some .int) 2 0 0 0 0))) (ax_nd 100 (ax_lf 100 ao_iadd) (ax_lf 101 ao_i2l))) (ax_nd 104 (ax_nd 102 (ax_lf 102 (ao_ls 8 2)) (ax_lf 104 (ao_ll 6 2))) (ax_nd 106 (ax_lf 106 (ao_ll 8 2)) (ax_lf 108 ao_lmul)))) (ax_nd 116 (ax_nd 110 (ax_nd 109 (ax_lf 109 (ao_al 0 1)) (ax_lf 110 (ao_gr 9 4))) (ax_nd 113 (ax_lf 113 (ao_gi 3 2)) (ax_lf 116 ao_i2l))) (ax_nd 119 (ax_nd 117 (ax_lf 117 (ao_il 4 2)) (ax_lf 119 (ao_inv g 2 99 2 yX1_side cX1_side 7 (some .long) 3 0 0 0 0))) (ax_nd 122 (ax_lf 122 ao_l2i) (ax_lf 123 (ao_iret 0 0)))))))
theorem oX9_promise (g : ax_G) : ∀ pc, ax_ok g cX9_promise 10 (some .int) RX9 "promise" 6 0 0 pc (tX9_promise g pc) := ax_nd_ok (ax_nd_ok (ax_nd_ok (ax_nd_ok (ax_nd_ok (ax_nd_ok (ax_lf_ok (ak_aload_n rfl dX9_promise_0)) (ax_lf_ok (ak_iload_n rfl dX9_promise_1))) (ax_nd_ok (ax_lf_ok (ak_invV (by decide) (by decide) (by decide) rfl wd_645 wd_647 wd_13 wd_96 wd_648 ⟨by decide, by decide, by decide +kernel⟩ dX9_promise_2)) (ax_lf_ok (ak_astore (by decide) dX9_promise_5)))) (ax_nd_ok (ax_nd_ok (ax_lf_ok (ak_aload dX9_promise_7)) (ax_lf_ok (ak_ifnull (by decide) dX9_promise_9))) (ax_nd_ok (ax_lf_ok (ak_aload dX9_promise_12)) (ax_lf_ok (ak_iload_n rfl dX9_promise_14))))) (ax_nd_ok (ax_nd_ok (ax_nd_ok (ax_lf_ok (ak_invV (by decide) (by decide) (by decide) rfl wd_708 wd_666 wd_667 wd_98 wd_668 ⟨by decide, by decide, by decide +kernel⟩ dX9_promise_15)) (ax_lf_ok (ak_if_eq (by decide) dX9_promise_18))) (ax_nd_ok (ax_lf_ok (ak_iload_n rfl dX9_promise_21)) (ax_lf_ok (ak_if_lt (by decide) dX9_promise_22)))) (ax_nd_ok (ax_nd_ok (ax_lf_ok (ak_iload_n rfl dX9_promise_25)) (ax_lf_ok (ak_bipush (by decide) dX9_promise_26))) (ax_nd_ok (ax_lf_ok (ak_icmp_lt (by decide) dX9_promise_28)) (ax_lf_ok (ak_ldc wd_720 dX9_promise_31)))))) (ax_nd_ok (ax_nd_ok (ax_nd_ok (ax_nd_ok (ax_lf_ok (ak_iret rfl dX9_promise_33)) (ax_lf_ok (ak_lconst (by decide) dX9_promise_34))) (ax_nd_ok (ax_lf_ok (ak_lstore (by decide) dX9_promise_35)) (ax_lf_ok (ak_iconst (by decide) dX9_promise_37)))) (ax_nd_ok (ax_nd_ok (ax_lf_ok (ak_istore (by decide) dX9_promise_38)) (ax_lf_ok (ak_iload dX9_promise_40))) (ax_nd_ok (ax_lf_ok (ak_aload dX9_promise_42)) (ax_lf_ok (ak_gi fF_X9_112 dX9_promise_44))))) (ax_nd_ok (ax_nd_ok (ax_nd_ok (ax_lf_ok (ak_icmp_ge (by decide) dX9_promise_47)) (ax_lf_ok (ak_lload dX9_promise_50))) (ax_nd_ok (ax_lf_ok (ak_aload dX9_promise_52)) (ax_lf_ok (ak_iload_n rfl dX9_promise_54)))) (ax_nd_ok (ax_nd_ok (ax_lf_ok (ak_iload dX9_promise_55)) (ax_lf_ok (ak_invV (by decide) (by decide) (by decide) rfl wd_709 wd_662 wd_663 wd_98 wd_664 ⟨by decide, by decide, by decide +kernel⟩ dX9_promise_57))) (ax_nd_ok (ax_lf_ok (ak_iconst (by decide) dX9_promise_60)) (ax_lf_ok (ak_icmp_ne (by decide) dX9_promise_61))))))) (ax_nd_ok (ax_nd_ok (ax_nd_ok (ax_nd_ok (ax_nd_ok (ax_lf_ok (ak_aload_n rfl dX9_promise_64)) (ax_lf_ok (ak_gr fF_X9_43 dX9_promise_65))) (ax_nd_ok (ax_lf_ok (ak_gr fF_X9_149 dX9_promise_68)) (ax_lf_ok (ak_iload dX9_promise_71)))) (ax_nd_ok (ax_nd_ok (ax_lf_ok (ak_iald dX9_promise_73)) (ax_lf_ok (ak_i2l dX9_promise_74))) (ax_nd_ok (ax_lf_ok (ak_goto (by decide) dX9_promise_75)) (ax_lf_ok (ak_lconst (by decide) dX9_promise_78))))) (ax_nd_ok (ax_nd_ok (ax_nd_ok (ax_lf_ok (ak_ladd dX9_promise_79)) (ax_lf_ok (ak_lstore (by decide) dX9_promise_80))) (ax_nd_ok (ax_lf_ok (ak_iinc (by decide) (by decide) dX9_promise_82)) (ax_lf_ok (ak_goto (by decide) dX9_promise_85)))) (ax_nd_ok (ax_nd_ok (ax_lf_ok (ak_aload dX9_promise_88)) (ax_lf_ok (ak_iload_n rfl dX9_promise_90))) (ax_nd_ok (ax_lf_ok (ak_invV (by decide) (by decide) (by decide) rfl wd_702 wd_674 wd_675 wd_98 wd_676 ⟨by decide, by decide, by decide +kernel⟩ dX9_promise_91)) (ax_lf_ok (ak_aload dX9_promise_94)))))) (ax_nd_ok (ax_nd_ok (ax_nd_ok (ax_nd_ok (ax_lf_ok (ak_iload_n rfl dX9_promise_96)) (ax_lf_ok (ak_invV (by decide) (by decide) (by decide) rfl wd_817 wd_679 wd_680 wd_98 wd_681 ⟨by decide, by decide, by decide +kernel⟩ dX9_promise_97))) (ax_nd_ok (ax_lf_ok (ak_iadd dX9_promise_100)) (ax_lf_ok (ak_i2l dX9_promise_101)))) (ax_nd_ok (ax_nd_ok (ax_lf_ok (ak_lstore (by decide) dX9_promise_102)) (ax_lf_ok (ak_lload dX9_promise_104))) (ax_nd_ok (ax_lf_ok (ak_lload dX9_promise_106)) (ax_lf_ok (ak_lmul dX9_promise_108))))) (ax_nd_ok (ax_nd_ok (ax_nd_ok (ax_lf_ok (ak_aload_n rfl dX9_promise_109)) (ax_lf_ok (ak_gr fF_X9_43 dX9_promise_110))) (ax_nd_ok (ax_lf_ok (ak_gi fF_X9_152 dX9_promise_113)) (ax_lf_ok (ak_i2l dX9_promise_116)))) (ax_nd_ok (ax_nd_ok (ax_lf_ok (ak_iload dX9_promise_117)) (ax_lf_ok (ak_invS (by decide) (by decide) wd_729 wd_730 wd_105 wd_731 ⟨by decide, by decide, by decide +kernel⟩ dX9_promise_119))) (ax_nd_ok (ax_lf_ok (ak_l2i dX9_promise_122)) (ax_lf_ok (ak_iret rfl dX9_promise_123)))))))
abbrev mX9_promise (g : ax_G) (as : List Value) (h : ax_H) (Ret : Option Value → ax_H → Prop) : Prop := ax_M g 6 0 0 yX9_promise cX9_promise 10 (some .int) as h Ret
theorem dX9_two_0 : decode cX9_two 0 = .ok (.aload_n 0, 1) := by decide +kernel
theorem dX9_two_1 : decode cX9_two 1 = .ok (.getfield 10, 3) := by decide +kernel
theorem dX9_two_4 : decode cX9_two 4 = .ok (.iload_n 1, 1) := by decide +kernel
theorem dX9_two_5 : decode cX9_two 5 = .ok (.invokevirtual 122, 3) := by decide +kernel
theorem dX9_two_8 : decode cX9_two 8 = .ok (.astore 5, 2) := by decide +kernel
theorem dX9_two_10 : decode cX9_two 10 = .ok (.aload 5, 2) := by decide +kernel
theorem dX9_two_12 : decode cX9_two 12 = .ok (.ifnull 31, 3) := by decide +kernel
theorem dX9_two_15 : decode cX9_two 15 = .ok (.aload 5, 2) := by decide +kernel
theorem dX9_two_17 : decode cX9_two 17 = .ok (.iload_n 2, 1) := by decide +kernel
theorem dX9_two_18 : decode cX9_two 18 = .ok (.invokevirtual 125, 3) := by decide +kernel
theorem dX9_two_21 : decode cX9_two 21 = .ok (.ifCond .eq 22, 3) := by decide +kernel
theorem dX9_two_24 : decode cX9_two 24 = .ok (.aload 5, 2) := by decide +kernel
theorem dX9_two_26 : decode cX9_two 26 = .ok (.iload_n 3, 1) := by decide +kernel
theorem dX9_two_27 : decode cX9_two 27 = .ok (.invokevirtual 142, 3) := by decide +kernel
theorem dX9_two_30 : decode cX9_two 30 = .ok (.ifCond .eq 13, 3) := by decide +kernel
theorem dX9_two_33 : decode cX9_two 33 = .ok (.aload 5, 2) := by decide +kernel
theorem dX9_two_35 : decode cX9_two 35 = .ok (.iload 4, 2) := by decide +kernel
theorem dX9_two_37 : decode cX9_two 37 = .ok (.invokevirtual 142, 3) := by decide +kernel
theorem dX9_two_40 : decode cX9_two 40 = .ok (.ifCond .ne 6, 3) := by decide +kernel
theorem dX9_two_43 : decode cX9_two 43 = .ok (.ldc 145, 2) := by decide +kernel
theorem dX9_two_45 : decode cX9_two 45 = .ok (.ireturn, 1) := by decide +kernel
theorem dX9_two_46 : decode cX9_two 46 = .ok (.aload 5, 2) := by decide +kernel
theorem dX9_two_48 : decode cX9_two 48 = .ok (.iload_n 2, 1) := by decide +kernel
theorem dX9_two_49 : decode cX9_two 49 = .ok (.iload_n 3, 1) := by decide +kernel
theorem dX9_two_50 : decode cX9_two 50 = .ok (.invokevirtual 132, 3) := by decide +kernel
theorem dX9_two_53 : decode cX9_two 53 = .ok (.istore 6, 2) := by decide +kernel
theorem dX9_two_55 : decode cX9_two 55 = .ok (.aload 5, 2) := by decide +kernel
theorem dX9_two_57 : decode cX9_two 57 = .ok (.iload 6, 2) := by decide +kernel
theorem dX9_two_59 : decode cX9_two 59 = .ok (.invokevirtual 211, 3) := by decide +kernel
theorem dX9_two_62 : decode cX9_two 62 = .ok (.istore 7, 2) := by decide +kernel
theorem dX9_two_64 : decode cX9_two 64 = .ok (.iload_n 3, 1) := by decide +kernel
theorem dX9_two_65 : decode cX9_two 65 = .ok (.iload 4, 2) := by decide +kernel
theorem dX9_two_67 : decode cX9_two 67 = .ok (.if_icmp .eq 24, 3) := by decide +kernel
theorem dX9_two_70 : decode cX9_two 70 = .ok (.iload 7, 2) := by decide +kernel
theorem dX9_two_72 : decode cX9_two 72 = .ok (.aload 5, 2) := by decide +kernel
theorem dX9_two_74 : decode cX9_two 74 = .ok (.aload 5, 2) := by decide +kernel
theorem dX9_two_76 : decode cX9_two 76 = .ok (.iload_n 2, 1) := by decide +kernel
theorem dX9_two_77 : decode cX9_two 77 = .ok (.iload 4, 2) := by decide +kernel
theorem dX9_two_79 : decode cX9_two 79 = .ok (.invokevirtual 132, 3) := by decide +kernel
theorem dX9_two_82 : decode cX9_two 82 = .ok (.invokevirtual 211, 3) := by decide +kernel
theorem dX9_two_85 : decode cX9_two 85 = .ok (.iadd, 1) := by decide +kernel
theorem dX9_two_86 : decode cX9_two 86 = .ok (.istore 7, 2) := by decide +kernel
theorem dX9_two_88 : decode cX9_two 88 = .ok (.goto 20, 3) := by decide +kernel
theorem dX9_two_91 : decode cX9_two 91 = .ok (.aload 5, 2) := by decide +kernel
theorem dX9_two_93 : decode cX9_two 93 = .ok (.iload 6, 2) := by decide +kernel
theorem dX9_two_95 : decode cX9_two 95 = .ok (.invokevirtual 109, 3) := by decide +kernel
theorem dX9_two_98 : decode cX9_two 98 = .ok (.ifCond .ne 10, 3) := by decide +kernel
theorem dX9_two_101 : decode cX9_two 101 = .ok (.iload 7, 2) := by decide +kernel
theorem dX9_two_103 : decode cX9_two 103 = .ok (.iload 7, 2) := by decide +kernel
theorem dX9_two_105 : decode cX9_two 105 = .ok (.iadd, 1) := by decide +kernel
theorem dX9_two_106 : decode cX9_two 106 = .ok (.istore 7, 2) := by decide +kernel
theorem dX9_two_108 : decode cX9_two 108 = .ok (.aload 5, 2) := by decide +kernel
theorem dX9_two_110 : decode cX9_two 110 = .ok (.iload_n 2, 1) := by decide +kernel
theorem dX9_two_111 : decode cX9_two 111 = .ok (.invokevirtual 214, 3) := by decide +kernel
theorem dX9_two_114 : decode cX9_two 114 = .ok (.iload 7, 2) := by decide +kernel
theorem dX9_two_116 : decode cX9_two 116 = .ok (.iadd, 1) := by decide +kernel
theorem dX9_two_117 : decode cX9_two 117 = .ok (.ireturn, 1) := by decide +kernel
def tX9_two (g : ax_G) : Nat → ax_O := ax_nd 57 (ax_nd 27 (ax_nd 12 (ax_nd 4 (ax_nd 0 (ax_lf 0 (ao_al 0 1)) (ax_nd 1 (ax_lf 1 (ao_gr 9 0)) (ax_lf 4 (ao_il 1 1)))) (ax_nd 8 (ax_nd 5 (ax_lf 5 (ao_inv g 1 8 3 yX8_republicAt cX8_republicAt 2 (some (.object "GluedHour$Republic")) 2 0 0 0 0)) (ax_lf 8 (ao_as 5 2))) (ax_nd 10 (ax_lf 10 (ao_al 5 2)) (ax_lf 12 (ao_ifnull 43))))) (ax_nd 18 (ax_nd 15 (ax_lf 15 (ao_al 5 2)) (ax_nd 17 (ax_lf 17 (ao_il 2 1)) (ax_lf 18 (ao_inv g 1 6 1 yX6_hasPerson cX6_hasPerson 2 (some .boolean) 2 0 0 0 0)))) (ax_nd 24 (ax_nd 21 (ax_lf 21 (ao_if_eq 43)) (ax_lf 24 (ao_al 5 2))) (ax_nd 26 (ax_lf 26 (ao_il 3 1)) (ax_lf 27 (ao_inv g 1 6 1 yX6_hasHour cX6_hasHour 2 (some .boolean) 2 0 0 0 0)))))) (ax_nd 45 (ax_nd 35 (ax_nd 30 (ax_lf 30 (ao_if_eq 43)) (ax_nd 33 (ax_lf 33 (ao_al 5 2)) (ax_lf 35 (ao_il 4 2)))) (ax_nd 40 (ax_nd 37 (ax_lf 37 (ao_inv g 1 6 1 yX6_hasHour cX6_hasHour 2 (some .boolean) 2 0 0 0 0)) (ax_lf 40 (ao_if_ne 46))) (ax_nd 43 (ax_lf 43 (ao_ic (-1000000) 2)) (ax_lf 45 (ao_iret 0 0))))) (ax_nd 49 (ax_nd 46 (ax_lf 46 (ao_al 5 2)) (ax_nd 48 (ax_lf 48 (ao_il 2 1)) (ax_lf 49 (ao_il 3 1)))) (ax_nd 53 (ax_nd 50 (ax_lf 50 (ao_inv g 2 6 1 yX6_deedAt cX6_deedAt 3 (some .int) 3 0 0 0 0)) (ax_lf 53 (ao_is 6 2))) (ax_nd 55 (ax_lf 55 (ao_al 5 2)) (ax_lf 57 (ao_il 6 2))))))) (ax_nd 86 (ax_nd 72 (ax_nd 64 (ax_nd 59 (ax_lf 59 (ao_inv g 3 6 1 yX6_extraOf cX6_extraOf 2 (some .int) 2 0 0 0 0)) (ax_nd 62 (ax_lf 62 (ao_is 7 2)) (ax_lf 64 (ao_il 3 1)))) (ax_nd 67 (ax_nd 65 (ax_lf 65 (ao_il 4 2)) (ax_lf 67 (ao_icmp_eq 91))) (ax_nd 70 (ax_lf 70 (ao_il 7 2)) (ax_lf 72 (ao_al 5 2))))) (ax_nd 77 (ax_nd 74 (ax_lf 74 (ao_al 5 2)) (ax_nd 76 (ax_lf 76 (ao_il 2 1)) (ax_lf 77 (ao_il 4 2)))) (ax_nd 82 (ax_nd 79 (ax_lf 79 (ao_inv g 2 6 1 yX6_deedAt cX6_deedAt 3 (some .int) 3 0 0 0 0)) (ax_lf 82 (ao_inv g 3 6 1 yX6_extraOf cX6_extraOf 2 (some .int) 2 0 0 0 0))) (ax_nd 85 (ax_lf 85 ao_iadd) (ax_lf 86 (ao_is 7 2)))))) (ax_nd 103 (ax_nd 93 (ax_nd 88 (ax_lf 88 (ao_goto 108)) (ax_nd 91 (ax_lf 91 (ao_al 5 2)) (ax_lf 93 (ao_il 6 2)))) (ax_nd 98 (ax_nd 95 (ax_lf 95 (ao_inv g 1 6 1 yX6_modeOf cX6_modeOf 2 (some .int) 2 0 0 0 0)) (ax_lf 98 (ao_if_ne 108))) (ax_nd 101 (ax_lf 101 (ao_il 7 2)) (ax_lf 103 (ao_il 7 2))))) (ax_nd 110 (ax_nd 106 (ax_nd 105 (ax_lf 105 ao_iadd) (ax_lf 106 (ao_is 7 2))) (ax_nd 108 (ax_lf 108 (ao_al 5 2)) (ax_lf 110 (ao_il 2 1)))) (ax_nd 114 (ax_nd 111 (ax_lf 111 (ao_inv g 3 6 1 yX6_worthOfDeeds cX6_worthOfDeeds 4 (some .int) 2 0 0 0 0)) (ax_lf 114 (ao_il 7 2))) (ax_nd 116 (ax_lf 116 ao_iadd) (ax_lf 117 (ao_iret 0 0)))))))
theorem oX9_two (g : ax_G) : ∀ pc, ax_ok g cX9_two 8 (some .int) RX9 "two" 4 0 0 pc (tX9_two g pc) := ax_nd_ok (ax_nd_ok (ax_nd_ok (ax_nd_ok (ax_nd_ok (ax_lf_ok (ak_aload_n rfl dX9_two_0)) (ax_nd_ok (ax_lf_ok (ak_gr fF_X9_10 dX9_two_1)) (ax_lf_ok (ak_iload_n rfl dX9_two_4)))) (ax_nd_ok (ax_nd_ok (ax_lf_ok (ak_invV (by decide) (by decide) (by decide) rfl wd_649 wd_650 wd_651 wd_97 wd_652 ⟨by decide, by decide, by decide +kernel⟩ dX9_two_5)) (ax_lf_ok (ak_astore (by decide) dX9_two_8))) (ax_nd_ok (ax_lf_ok (ak_aload dX9_two_10)) (ax_lf_ok (ak_ifnull (by decide) dX9_two_12))))) (ax_nd_ok (ax_nd_ok (ax_lf_ok (ak_aload dX9_two_15)) (ax_nd_ok (ax_lf_ok (ak_iload_n rfl dX9_two_17)) (ax_lf_ok (ak_invV (by decide) (by decide) (by decide) rfl wd_708 wd_666 wd_667 wd_98 wd_668 ⟨by decide, by decide, by decide +kernel⟩ dX9_two_18)))) (ax_nd_ok (ax_nd_ok (ax_lf_ok (ak_if_eq (by decide) dX9_two_21)) (ax_lf_ok (ak_aload dX9_two_24))) (ax_nd_ok (ax_lf_ok (ak_iload_n rfl dX9_two_26)) (ax_lf_ok (ak_invV (by decide) (by decide) (by decide) rfl wd_719 wd_670 wd_671 wd_98 wd_672 ⟨by decide, by decide, by decide +kernel⟩ dX9_two_27)))))) (ax_nd_ok (ax_nd_ok (ax_nd_ok (ax_lf_ok (ak_if_eq (by decide) dX9_two_30)) (ax_nd_ok (ax_lf_ok (ak_aload dX9_two_33)) (ax_lf_ok (ak_iload dX9_two_35)))) (ax_nd_ok (ax_nd_ok (ax_lf_ok (ak_invV (by decide) (by decide) (by decide) rfl wd_719 wd_670 wd_671 wd_98 wd_672 ⟨by decide, by decide, by decide +kernel⟩ dX9_two_37)) (ax_lf_ok (ak_if_ne (by decide) dX9_two_40))) (ax_nd_ok (ax_lf_ok (ak_ldc wd_720 dX9_two_43)) (ax_lf_ok (ak_iret rfl dX9_two_45))))) (ax_nd_ok (ax_nd_ok (ax_lf_ok (ak_aload dX9_two_46)) (ax_nd_ok (ax_lf_ok (ak_iload_n rfl dX9_two_48)) (ax_lf_ok (ak_iload_n rfl dX9_two_49)))) (ax_nd_ok (ax_nd_ok (ax_lf_ok (ak_invV (by decide) (by decide) (by decide) rfl wd_709 wd_662 wd_663 wd_98 wd_664 ⟨by decide, by decide, by decide +kernel⟩ dX9_two_50)) (ax_lf_ok (ak_istore (by decide) dX9_two_53))) (ax_nd_ok (ax_lf_ok (ak_aload dX9_two_55)) (ax_lf_ok (ak_iload dX9_two_57))))))) (ax_nd_ok (ax_nd_ok (ax_nd_ok (ax_nd_ok (ax_lf_ok (ak_invV (by decide) (by decide) (by decide) rfl wd_817 wd_679 wd_680 wd_98 wd_681 ⟨by decide, by decide, by decide +kernel⟩ dX9_two_59)) (ax_nd_ok (ax_lf_ok (ak_istore (by decide) dX9_two_62)) (ax_lf_ok (ak_iload_n rfl dX9_two_64)))) (ax_nd_ok (ax_nd_ok (ax_lf_ok (ak_iload dX9_two_65)) (ax_lf_ok (ak_icmp_eq (by decide) dX9_two_67))) (ax_nd_ok (ax_lf_ok (ak_iload dX9_two_70)) (ax_lf_ok (ak_aload dX9_two_72))))) (ax_nd_ok (ax_nd_ok (ax_lf_ok (ak_aload dX9_two_74)) (ax_nd_ok (ax_lf_ok (ak_iload_n rfl dX9_two_76)) (ax_lf_ok (ak_iload dX9_two_77)))) (ax_nd_ok (ax_nd_ok (ax_lf_ok (ak_invV (by decide) (by decide) (by decide) rfl wd_709 wd_662 wd_663 wd_98 wd_664 ⟨by decide, by decide, by decide +kernel⟩ dX9_two_79)) (ax_lf_ok (ak_invV (by decide) (by decide) (by decide) rfl wd_817 wd_679 wd_680 wd_98 wd_681 ⟨by decide, by decide, by decide +kernel⟩ dX9_two_82))) (ax_nd_ok (ax_lf_ok (ak_iadd dX9_two_85)) (ax_lf_ok (ak_istore (by decide) dX9_two_86)))))) (ax_nd_ok (ax_nd_ok (ax_nd_ok (ax_lf_ok (ak_goto (by decide) dX9_two_88)) (ax_nd_ok (ax_lf_ok (ak_aload dX9_two_91)) (ax_lf_ok (ak_iload dX9_two_93)))) (ax_nd_ok (ax_nd_ok (ax_lf_ok (ak_invV (by decide) (by decide) (by decide) rfl wd_703 wd_683 wd_684 wd_98 wd_685 ⟨by decide, by decide, by decide +kernel⟩ dX9_two_95)) (ax_lf_ok (ak_if_ne (by decide) dX9_two_98))) (ax_nd_ok (ax_lf_ok (ak_iload dX9_two_101)) (ax_lf_ok (ak_iload dX9_two_103))))) (ax_nd_ok (ax_nd_ok (ax_nd_ok (ax_lf_ok (ak_iadd dX9_two_105)) (ax_lf_ok (ak_istore (by decide) dX9_two_106))) (ax_nd_ok (ax_lf_ok (ak_aload dX9_two_108)) (ax_lf_ok (ak_iload_n rfl dX9_two_110)))) (ax_nd_ok (ax_nd_ok (ax_lf_ok (ak_invV (by decide) (by decide) (by decide) rfl wd_822 wd_658 wd_659 wd_98 wd_660 ⟨by decide, by decide, by decide +kernel⟩ dX9_two_111)) (ax_lf_ok (ak_iload dX9_two_114))) (ax_nd_ok (ax_lf_ok (ak_iadd dX9_two_116)) (ax_lf_ok (ak_iret rfl dX9_two_117)))))))
abbrev mX9_two (g : ax_G) (as : List Value) (h : ax_H) (Ret : Option Value → ax_H → Prop) : Prop := ax_M g 4 0 0 yX9_two cX9_two 8 (some .int) as h Ret
theorem dX9_shift_0 : decode cX9_shift 0 = .ok (.aload_n 0, 1) := by decide +kernel
theorem dX9_shift_1 : decode cX9_shift 1 = .ok (.iload_n 1, 1) := by decide +kernel
theorem dX9_shift_2 : decode cX9_shift 2 = .ok (.invokevirtual 99, 3) := by decide +kernel
theorem dX9_shift_5 : decode cX9_shift 5 = .ok (.astore 4, 2) := by decide +kernel
theorem dX9_shift_7 : decode cX9_shift 7 = .ok (.aload 4, 2) := by decide +kernel
theorem dX9_shift_9 : decode cX9_shift 9 = .ok (.ifnull 21, 3) := by decide +kernel
theorem dX9_shift_12 : decode cX9_shift 12 = .ok (.aload 4, 2) := by decide +kernel
theorem dX9_shift_14 : decode cX9_shift 14 = .ok (.iload_n 2, 1) := by decide +kernel
theorem dX9_shift_15 : decode cX9_shift 15 = .ok (.invokevirtual 125, 3) := by decide +kernel
theorem dX9_shift_18 : decode cX9_shift 18 = .ok (.ifCond .eq 12, 3) := by decide +kernel
theorem dX9_shift_21 : decode cX9_shift 21 = .ok (.iload_n 3, 1) := by decide +kernel
theorem dX9_shift_22 : decode cX9_shift 22 = .ok (.ifCond .lt 8, 3) := by decide +kernel
theorem dX9_shift_25 : decode cX9_shift 25 = .ok (.iload_n 3, 1) := by decide +kernel
theorem dX9_shift_26 : decode cX9_shift 26 = .ok (.iconst 3, 1) := by decide +kernel
theorem dX9_shift_27 : decode cX9_shift 27 = .ok (.if_icmp .le 6, 3) := by decide +kernel
theorem dX9_shift_30 : decode cX9_shift 30 = .ok (.ldc 145, 2) := by decide +kernel
theorem dX9_shift_32 : decode cX9_shift 32 = .ok (.ireturn, 1) := by decide +kernel
theorem dX9_shift_33 : decode cX9_shift 33 = .ok (.iconst (-1), 1) := by decide +kernel
theorem dX9_shift_34 : decode cX9_shift 34 = .ok (.istore 5, 2) := by decide +kernel
theorem dX9_shift_36 : decode cX9_shift 36 = .ok (.iconst (-1), 1) := by decide +kernel
theorem dX9_shift_37 : decode cX9_shift 37 = .ok (.istore 6, 2) := by decide +kernel
theorem dX9_shift_39 : decode cX9_shift 39 = .ok (.lconst 0, 1) := by decide +kernel
theorem dX9_shift_40 : decode cX9_shift 40 = .ok (.lstore 7, 2) := by decide +kernel
theorem dX9_shift_42 : decode cX9_shift 42 = .ok (.iconst 0, 1) := by decide +kernel
theorem dX9_shift_43 : decode cX9_shift 43 = .ok (.istore 9, 2) := by decide +kernel
theorem dX9_shift_45 : decode cX9_shift 45 = .ok (.iload 9, 2) := by decide +kernel
theorem dX9_shift_47 : decode cX9_shift 47 = .ok (.aload 4, 2) := by decide +kernel
theorem dX9_shift_49 : decode cX9_shift 49 = .ok (.getfield 112, 3) := by decide +kernel
theorem dX9_shift_52 : decode cX9_shift 52 = .ok (.if_icmp .ge 103, 3) := by decide +kernel
theorem dX9_shift_55 : decode cX9_shift 55 = .ok (.aload 4, 2) := by decide +kernel
theorem dX9_shift_57 : decode cX9_shift 57 = .ok (.aload 4, 2) := by decide +kernel
theorem dX9_shift_59 : decode cX9_shift 59 = .ok (.iload_n 2, 1) := by decide +kernel
theorem dX9_shift_60 : decode cX9_shift 60 = .ok (.iload 9, 2) := by decide +kernel
theorem dX9_shift_62 : decode cX9_shift 62 = .ok (.invokevirtual 132, 3) := by decide +kernel
theorem dX9_shift_65 : decode cX9_shift 65 = .ok (.invokevirtual 211, 3) := by decide +kernel
theorem dX9_shift_68 : decode cX9_shift 68 = .ok (.istore 10, 2) := by decide +kernel
theorem dX9_shift_70 : decode cX9_shift 70 = .ok (.iconst 0, 1) := by decide +kernel
theorem dX9_shift_71 : decode cX9_shift 71 = .ok (.istore 11, 2) := by decide +kernel
theorem dX9_shift_73 : decode cX9_shift 73 = .ok (.iload 11, 2) := by decide +kernel
theorem dX9_shift_75 : decode cX9_shift 75 = .ok (.aload 4, 2) := by decide +kernel
theorem dX9_shift_77 : decode cX9_shift 77 = .ok (.getfield 112, 3) := by decide +kernel
theorem dX9_shift_80 : decode cX9_shift 80 = .ok (.if_icmp .ge 69, 3) := by decide +kernel
theorem dX9_shift_83 : decode cX9_shift 83 = .ok (.iload 10, 2) := by decide +kernel
theorem dX9_shift_85 : decode cX9_shift 85 = .ok (.i2l, 1) := by decide +kernel
theorem dX9_shift_86 : decode cX9_shift 86 = .ok (.aload_n 0, 1) := by decide +kernel
theorem dX9_shift_87 : decode cX9_shift 87 = .ok (.getfield 43, 3) := by decide +kernel
theorem dX9_shift_90 : decode cX9_shift 90 = .ok (.getfield 149, 3) := by decide +kernel
theorem dX9_shift_93 : decode cX9_shift 93 = .ok (.iload 11, 2) := by decide +kernel
theorem dX9_shift_95 : decode cX9_shift 95 = .ok (.iaload, 1) := by decide +kernel
theorem dX9_shift_96 : decode cX9_shift 96 = .ok (.aload_n 0, 1) := by decide +kernel
theorem dX9_shift_97 : decode cX9_shift 97 = .ok (.getfield 43, 3) := by decide +kernel
theorem dX9_shift_100 : decode cX9_shift 100 = .ok (.getfield 149, 3) := by decide +kernel
theorem dX9_shift_103 : decode cX9_shift 103 = .ok (.iload 9, 2) := by decide +kernel
theorem dX9_shift_105 : decode cX9_shift 105 = .ok (.iaload, 1) := by decide +kernel
theorem dX9_shift_106 : decode cX9_shift 106 = .ok (.isub, 1) := by decide +kernel
theorem dX9_shift_107 : decode cX9_shift 107 = .ok (.i2l, 1) := by decide +kernel
theorem dX9_shift_108 : decode cX9_shift 108 = .ok (.lmul, 1) := by decide +kernel
theorem dX9_shift_109 : decode cX9_shift 109 = .ok (.lstore 12, 2) := by decide +kernel
theorem dX9_shift_111 : decode cX9_shift 111 = .ok (.aload 4, 2) := by decide +kernel
theorem dX9_shift_113 : decode cX9_shift 113 = .ok (.iload_n 2, 1) := by decide +kernel
theorem dX9_shift_114 : decode cX9_shift 114 = .ok (.iload 11, 2) := by decide +kernel
theorem dX9_shift_116 : decode cX9_shift 116 = .ok (.invokevirtual 132, 3) := by decide +kernel
theorem dX9_shift_119 : decode cX9_shift 119 = .ok (.iconst (-1), 1) := by decide +kernel
theorem dX9_shift_120 : decode cX9_shift 120 = .ok (.if_icmp .ne 23, 3) := by decide +kernel
theorem dX9_shift_123 : decode cX9_shift 123 = .ok (.lload 12, 2) := by decide +kernel
theorem dX9_shift_125 : decode cX9_shift 125 = .ok (.lload 7, 2) := by decide +kernel
theorem dX9_shift_127 : decode cX9_shift 127 = .ok (.lcmp, 1) := by decide +kernel
theorem dX9_shift_128 : decode cX9_shift 128 = .ok (.ifCond .le 15, 3) := by decide +kernel
theorem dX9_shift_131 : decode cX9_shift 131 = .ok (.lload 12, 2) := by decide +kernel
theorem dX9_shift_133 : decode cX9_shift 133 = .ok (.lstore 7, 2) := by decide +kernel
theorem dX9_shift_135 : decode cX9_shift 135 = .ok (.iload 9, 2) := by decide +kernel
theorem dX9_shift_137 : decode cX9_shift 137 = .ok (.istore 5, 2) := by decide +kernel
theorem dX9_shift_139 : decode cX9_shift 139 = .ok (.iload 11, 2) := by decide +kernel
theorem dX9_shift_141 : decode cX9_shift 141 = .ok (.istore 6, 2) := by decide +kernel
theorem dX9_shift_143 : decode cX9_shift 143 = .ok (.iinc 11 1, 3) := by decide +kernel
theorem dX9_shift_146 : decode cX9_shift 146 = .ok (.goto (-73), 3) := by decide +kernel
theorem dX9_shift_149 : decode cX9_shift 149 = .ok (.iinc 9 1, 3) := by decide +kernel
theorem dX9_shift_152 : decode cX9_shift 152 = .ok (.goto (-107), 3) := by decide +kernel
theorem dX9_shift_155 : decode cX9_shift 155 = .ok (.iload_n 3, 1) := by decide +kernel
theorem dX9_shift_156 : decode cX9_shift 156 = .ok (.iconst 2, 1) := by decide +kernel
theorem dX9_shift_157 : decode cX9_shift 157 = .ok (.if_icmp .ge 15, 3) := by decide +kernel
theorem dX9_shift_160 : decode cX9_shift 160 = .ok (.iload_n 3, 1) := by decide +kernel
theorem dX9_shift_161 : decode cX9_shift 161 = .ok (.ifCond .ne 8, 3) := by decide +kernel
theorem dX9_shift_164 : decode cX9_shift 164 = .ok (.iload 5, 2) := by decide +kernel
theorem dX9_shift_166 : decode cX9_shift 166 = .ok (.goto 5, 3) := by decide +kernel
theorem dX9_shift_169 : decode cX9_shift 169 = .ok (.iload 6, 2) := by decide +kernel
theorem dX9_shift_171 : decode cX9_shift 171 = .ok (.ireturn, 1) := by decide +kernel
theorem dX9_shift_172 : decode cX9_shift 172 = .ok (.aload_n 0, 1) := by decide +kernel
theorem dX9_shift_173 : decode cX9_shift 173 = .ok (.getfield 36, 3) := by decide +kernel
theorem dX9_shift_176 : decode cX9_shift 176 = .ok (.iload_n 2, 1) := by decide +kernel
theorem dX9_shift_177 : decode cX9_shift 177 = .ok (.aload_n 0, 1) := by decide +kernel
theorem dX9_shift_178 : decode cX9_shift 178 = .ok (.getfield 43, 3) := by decide +kernel
theorem dX9_shift_181 : decode cX9_shift 181 = .ok (.invokevirtual 194, 3) := by decide +kernel
theorem dX9_shift_184 : decode cX9_shift 184 = .ok (.lload 7, 2) := by decide +kernel
theorem dX9_shift_186 : decode cX9_shift 186 = .ok (.ladd, 1) := by decide +kernel
theorem dX9_shift_187 : decode cX9_shift 187 = .ok (.aload_n 0, 1) := by decide +kernel
theorem dX9_shift_188 : decode cX9_shift 188 = .ok (.getfield 43, 3) := by decide +kernel
theorem dX9_shift_191 : decode cX9_shift 191 = .ok (.getfield 152, 3) := by decide +kernel
theorem dX9_shift_194 : decode cX9_shift 194 = .ok (.i2l, 1) := by decide +kernel
theorem dX9_shift_195 : decode cX9_shift 195 = .ok (.iload_n 3, 1) := by decide +kernel
theorem dX9_shift_196 : decode cX9_shift 196 = .ok (.iconst 3, 1) := by decide +kernel
theorem dX9_shift_197 : decode cX9_shift 197 = .ok (.if_icmp .ne 7, 3) := by decide +kernel
theorem dX9_shift_200 : decode cX9_shift 200 = .ok (.iconst 1, 1) := by decide +kernel
theorem dX9_shift_201 : decode cX9_shift 201 = .ok (.goto 4, 3) := by decide +kernel
theorem dX9_shift_204 : decode cX9_shift 204 = .ok (.iconst 0, 1) := by decide +kernel
theorem dX9_shift_205 : decode cX9_shift 205 = .ok (.invokestatic 155, 3) := by decide +kernel
theorem dX9_shift_208 : decode cX9_shift 208 = .ok (.l2i, 1) := by decide +kernel
theorem dX9_shift_209 : decode cX9_shift 209 = .ok (.ireturn, 1) := by decide +kernel
def tX9_shift (g : ax_G) : Nat → ax_O := ax_nd 105 (ax_nd 47 (ax_nd 25 (ax_nd 9 (ax_nd 2 (ax_nd 0 (ax_lf 0 (ao_al 0 1)) (ax_nd 1 (ax_lf 1 (ao_il 1 1)) (ax_lf 2 (ao_inv g 5 9 3 yX9_begun cX9_begun 3 (some (.object "GluedHour$Republic")) 2 0 0 0 0)))) (ax_nd 5 (ax_lf 5 (ao_as 4 2)) (ax_nd 7 (ax_lf 7 (ao_al 4 2)) (ax_lf 9 (ao_ifnull 30))))) (ax_nd 15 (ax_nd 12 (ax_lf 12 (ao_al 4 2)) (ax_nd 14 (ax_lf 14 (ao_il 2 1)) (ax_lf 15 (ao_inv g 1 6 1 yX6_hasPerson cX6_hasPerson 2 (some .boolean) 2 0 0 0 0)))) (ax_nd 21 (ax_nd 18 (ax_lf 18 (ao_if_eq 30)) (ax_lf 21 (ao_il 3 1))) (ax_nd 22 (ax_lf 22 (ao_if_lt 30)) (ax_lf 25 (ao_il 3 1)))))) (ax_nd 36 (ax_nd 30 (ax_nd 26 (ax_lf 26 (ao_ic (3) 1)) (ax_nd 27 (ax_lf 27 (ao_icmp_le 33)) (ax_lf 30 (ao_ic (-1000000) 2)))) (ax_nd 33 (ax_nd 32 (ax_lf 32 (ao_iret 0 0)) (ax_lf 33 (ao_ic (-1) 1))) (ax_nd 34 (ax_lf 34 (ao_is 5 2)) (ax_lf 36 (ao_ic (-1) 1))))) (ax_nd 40 (ax_nd 37 (ax_lf 37 (ao_is 6 2)) (ax_nd 39 (ax_lf 39 (ao_lc (0) 1)) (ax_lf 40 (ao_ls 7 2)))) (ax_nd 43 (ax_nd 42 (ax_lf 42 (ao_ic (0) 1)) (ax_lf 43 (ao_is 9 2))) (ax_nd 45 (ax_lf 45 (ao_il 9 2)) (ax_lf 47 (ao_al 4 2))))))) (ax_nd 75 (ax_nd 60 (ax_nd 55 (ax_nd 49 (ax_lf 49 (ao_gi 6 5)) (ax_nd 52 (ax_lf 52 (ao_icmp_ge 155)) (ax_lf 55 (ao_al 4 2)))) (ax_nd 57 (ax_lf 57 (ao_al 4 2)) (ax_nd 59 (ax_lf 59 (ao_il 2 1)) (ax_lf 60 (ao_il 9 2))))) (ax_nd 68 (ax_nd 62 (ax_lf 62 (ao_inv g 2 6 1 yX6_deedAt cX6_deedAt 3 (some .int) 3 0 0 0 0)) (ax_nd 65 (ax_lf 65 (ao_inv g 3 6 1 yX6_extraOf cX6_extraOf 2 (some .int) 2 0 0 0 0)) (ax_lf 68 (ao_is 10 2)))) (ax_nd 71 (ax_nd 70 (ax_lf 70 (ao_ic (0) 1)) (ax_lf 71 (ao_is 11 2))) (ax_nd 73 (ax_lf 73 (ao_il 11 2)) (ax_lf 75 (ao_al 4 2)))))) (ax_nd 90 (ax_nd 83 (ax_nd 77 (ax_lf 77 (ao_gi 6 5)) (ax_nd 80 (ax_lf 80 (ao_icmp_ge 149)) (ax_lf 83 (ao_il 10 2)))) (ax_nd 86 (ax_nd 85 (ax_lf 85 ao_i2l) (ax_lf 86 (ao_al 0 1))) (ax_nd 87 (ax_lf 87 (ao_gr 9 4)) (ax_lf 90 (ao_gr 3 0))))) (ax_nd 96 (ax_nd 93 (ax_lf 93 (ao_il 11 2)) (ax_nd 95 (ax_lf 95 ao_iald) (ax_lf 96 (ao_al 0 1)))) (ax_nd 100 (ax_nd 97 (ax_lf 97 (ao_gr 9 4)) (ax_lf 100 (ao_gr 3 0))) (ax_nd 103 (ax_lf 103 (ao_il 9 2)) (ax_lf 105 ao_iald))))))) (ax_nd 157 (ax_nd 127 (ax_nd 113 (ax_nd 108 (ax_nd 106 (ax_lf 106 ao_isub) (ax_nd 107 (ax_lf 107 ao_i2l) (ax_lf 108 ao_lmul))) (ax_nd 109 (ax_lf 109 (ao_ls 12 2)) (ax_nd 111 (ax_lf 111 (ao_al 4 2)) (ax_lf 113 (ao_il 2 1))))) (ax_nd 119 (ax_nd 114 (ax_lf 114 (ao_il 11 2)) (ax_nd 116 (ax_lf 116 (ao_inv g 2 6 1 yX6_deedAt cX6_deedAt 3 (some .int) 3 0 0 0 0)) (ax_lf 119 (ao_ic (-1) 1)))) (ax_nd 123 (ax_nd 120 (ax_lf 120 (ao_icmp_ne 143)) (ax_lf 123 (ao_ll 12 2))) (ax_nd 125 (ax_lf 125 (ao_ll 7 2)) (ax_lf 127 ao_lcmp))))) (ax_nd 141 (ax_nd 133 (ax_nd 128 (ax_lf 128 (ao_if_le 143)) (ax_nd 131 (ax_lf 131 (ao_ll 12 2)) (ax_lf 133 (ao_ls 7 2)))) (ax_nd 137 (ax_nd 135 (ax_lf 135 (ao_il 9 2)) (ax_lf 137 (ao_is 5 2))) (ax_nd 139 (ax_lf 139 (ao_il 11 2)) (ax_lf 141 (ao_is 6 2))))) (ax_nd 149 (ax_nd 143 (ax_lf 143 (ao_iinc 11 (1))) (ax_nd 146 (ax_lf 146 (ao_goto 73)) (ax_lf 149 (ao_iinc 9 (1))))) (ax_nd 155 (ax_nd 152 (ax_lf 152 (ao_goto 45)) (ax_lf 155 (ao_il 3 1))) (ax_nd 156 (ax_lf 156 (ao_ic (2) 1)) (ax_lf 157 (ao_icmp_ge 172))))))) (ax_nd 184 (ax_nd 171 (ax_nd 164 (ax_nd 160 (ax_lf 160 (ao_il 3 1)) (ax_nd 161 (ax_lf 161 (ao_if_ne 169)) (ax_lf 164 (ao_il 5 2)))) (ax_nd 166 (ax_lf 166 (ao_goto 171)) (ax_nd 169 (ax_lf 169 (ao_il 6 2)) (ax_lf 171 (ao_iret 0 0))))) (ax_nd 176 (ax_nd 172 (ax_lf 172 (ao_al 0 1)) (ax_nd 173 (ax_lf 173 (ao_gr 9 3)) (ax_lf 176 (ao_il 2 1)))) (ax_nd 178 (ax_nd 177 (ax_lf 177 (ao_al 0 1)) (ax_lf 178 (ao_gr 9 4))) (ax_nd 181 (ax_lf 181 (ao_inv g 2 0 2 yX0_weighed cX0_weighed 6 (some .long) 3 0 0 0 0)) (ax_lf 184 (ao_ll 7 2)))))) (ax_nd 196 (ax_nd 188 (ax_nd 186 (ax_lf 186 ao_ladd) (ax_nd 187 (ax_lf 187 (ao_al 0 1)) (ax_lf 188 (ao_gr 9 4)))) (ax_nd 194 (ax_nd 191 (ax_lf 191 (ao_gi 3 2)) (ax_lf 194 ao_i2l)) (ax_nd 195 (ax_lf 195 (ao_il 3 1)) (ax_lf 196 (ao_ic (3) 1))))) (ax_nd 201 (ax_nd 197 (ax_lf 197 (ao_icmp_ne 204)) (ax_nd 200 (ax_lf 200 (ao_ic (1) 1)) (ax_lf 201 (ao_goto 205)))) (ax_nd 205 (ax_nd 204 (ax_lf 204 (ao_ic (0) 1)) (ax_lf 205 (ao_inv g 2 99 2 yX1_side cX1_side 7 (some .long) 3 0 0 0 0))) (ax_nd 208 (ax_lf 208 ao_l2i) (ax_lf 209 (ao_iret 0 0))))))))
theorem oX9_shift (g : ax_G) : ∀ pc, ax_ok g cX9_shift 14 (some .int) RX9 "shift" 6 0 0 pc (tX9_shift g pc) := ax_nd_ok (ax_nd_ok (ax_nd_ok (ax_nd_ok (ax_nd_ok (ax_nd_ok (ax_lf_ok (ak_aload_n rfl dX9_shift_0)) (ax_nd_ok (ax_lf_ok (ak_iload_n rfl dX9_shift_1)) (ax_lf_ok (ak_invV (by decide) (by decide) (by decide) rfl wd_645 wd_647 wd_13 wd_96 wd_648 ⟨by decide, by decide, by decide +kernel⟩ dX9_shift_2)))) (ax_nd_ok (ax_lf_ok (ak_astore (by decide) dX9_shift_5)) (ax_nd_ok (ax_lf_ok (ak_aload dX9_shift_7)) (ax_lf_ok (ak_ifnull (by decide) dX9_shift_9))))) (ax_nd_ok (ax_nd_ok (ax_lf_ok (ak_aload dX9_shift_12)) (ax_nd_ok (ax_lf_ok (ak_iload_n rfl dX9_shift_14)) (ax_lf_ok (ak_invV (by decide) (by decide) (by decide) rfl wd_708 wd_666 wd_667 wd_98 wd_668 ⟨by decide, by decide, by decide +kernel⟩ dX9_shift_15)))) (ax_nd_ok (ax_nd_ok (ax_lf_ok (ak_if_eq (by decide) dX9_shift_18)) (ax_lf_ok (ak_iload_n rfl dX9_shift_21))) (ax_nd_ok (ax_lf_ok (ak_if_lt (by decide) dX9_shift_22)) (ax_lf_ok (ak_iload_n rfl dX9_shift_25)))))) (ax_nd_ok (ax_nd_ok (ax_nd_ok (ax_lf_ok (ak_iconst (by decide) dX9_shift_26)) (ax_nd_ok (ax_lf_ok (ak_icmp_le (by decide) dX9_shift_27)) (ax_lf_ok (ak_ldc wd_720 dX9_shift_30)))) (ax_nd_ok (ax_nd_ok (ax_lf_ok (ak_iret rfl dX9_shift_32)) (ax_lf_ok (ak_iconst (by decide) dX9_shift_33))) (ax_nd_ok (ax_lf_ok (ak_istore (by decide) dX9_shift_34)) (ax_lf_ok (ak_iconst (by decide) dX9_shift_36))))) (ax_nd_ok (ax_nd_ok (ax_lf_ok (ak_istore (by decide) dX9_shift_37)) (ax_nd_ok (ax_lf_ok (ak_lconst (by decide) dX9_shift_39)) (ax_lf_ok (ak_lstore (by decide) dX9_shift_40)))) (ax_nd_ok (ax_nd_ok (ax_lf_ok (ak_iconst (by decide) dX9_shift_42)) (ax_lf_ok (ak_istore (by decide) dX9_shift_43))) (ax_nd_ok (ax_lf_ok (ak_iload dX9_shift_45)) (ax_lf_ok (ak_aload dX9_shift_47))))))) (ax_nd_ok (ax_nd_ok (ax_nd_ok (ax_nd_ok (ax_lf_ok (ak_gi fF_X9_112 dX9_shift_49)) (ax_nd_ok (ax_lf_ok (ak_icmp_ge (by decide) dX9_shift_52)) (ax_lf_ok (ak_aload dX9_shift_55)))) (ax_nd_ok (ax_lf_ok (ak_aload dX9_shift_57)) (ax_nd_ok (ax_lf_ok (ak_iload_n rfl dX9_shift_59)) (ax_lf_ok (ak_iload dX9_shift_60))))) (ax_nd_ok (ax_nd_ok (ax_lf_ok (ak_invV (by decide) (by decide) (by decide) rfl wd_709 wd_662 wd_663 wd_98 wd_664 ⟨by decide, by decide, by decide +kernel⟩ dX9_shift_62)) (ax_nd_ok (ax_lf_ok (ak_invV (by decide) (by decide) (by decide) rfl wd_817 wd_679 wd_680 wd_98 wd_681 ⟨by decide, by decide, by decide +kernel⟩ dX9_shift_65)) (ax_lf_ok (ak_istore (by decide) dX9_shift_68)))) (ax_nd_ok (ax_nd_ok (ax_lf_ok (ak_iconst (by decide) dX9_shift_70)) (ax_lf_ok (ak_istore (by decide) dX9_shift_71))) (ax_nd_ok (ax_lf_ok (ak_iload dX9_shift_73)) (ax_lf_ok (ak_aload dX9_shift_75)))))) (ax_nd_ok (ax_nd_ok (ax_nd_ok (ax_lf_ok (ak_gi fF_X9_112 dX9_shift_77)) (ax_nd_ok (ax_lf_ok (ak_icmp_ge (by decide) dX9_shift_80)) (ax_lf_ok (ak_iload dX9_shift_83)))) (ax_nd_ok (ax_nd_ok (ax_lf_ok (ak_i2l dX9_shift_85)) (ax_lf_ok (ak_aload_n rfl dX9_shift_86))) (ax_nd_ok (ax_lf_ok (ak_gr fF_X9_43 dX9_shift_87)) (ax_lf_ok (ak_gr fF_X9_149 dX9_shift_90))))) (ax_nd_ok (ax_nd_ok (ax_lf_ok (ak_iload dX9_shift_93)) (ax_nd_ok (ax_lf_ok (ak_iald dX9_shift_95)) (ax_lf_ok (ak_aload_n rfl dX9_shift_96)))) (ax_nd_ok (ax_nd_ok (ax_lf_ok (ak_gr fF_X9_43 dX9_shift_97)) (ax_lf_ok (ak_gr fF_X9_149 dX9_shift_100))) (ax_nd_ok (ax_lf_ok (ak_iload dX9_shift_103)) (ax_lf_ok (ak_iald dX9_shift_105)))))))) (ax_nd_ok (ax_nd_ok (ax_nd_ok (ax_nd_ok (ax_nd_ok (ax_lf_ok (ak_isub dX9_shift_106)) (ax_nd_ok (ax_lf_ok (ak_i2l dX9_shift_107)) (ax_lf_ok (ak_lmul dX9_shift_108)))) (ax_nd_ok (ax_lf_ok (ak_lstore (by decide) dX9_shift_109)) (ax_nd_ok (ax_lf_ok (ak_aload dX9_shift_111)) (ax_lf_ok (ak_iload_n rfl dX9_shift_113))))) (ax_nd_ok (ax_nd_ok (ax_lf_ok (ak_iload dX9_shift_114)) (ax_nd_ok (ax_lf_ok (ak_invV (by decide) (by decide) (by decide) rfl wd_709 wd_662 wd_663 wd_98 wd_664 ⟨by decide, by decide, by decide +kernel⟩ dX9_shift_116)) (ax_lf_ok (ak_iconst (by decide) dX9_shift_119)))) (ax_nd_ok (ax_nd_ok (ax_lf_ok (ak_icmp_ne (by decide) dX9_shift_120)) (ax_lf_ok (ak_lload dX9_shift_123))) (ax_nd_ok (ax_lf_ok (ak_lload dX9_shift_125)) (ax_lf_ok (ak_lcmp dX9_shift_127)))))) (ax_nd_ok (ax_nd_ok (ax_nd_ok (ax_lf_ok (ak_if_le (by decide) dX9_shift_128)) (ax_nd_ok (ax_lf_ok (ak_lload dX9_shift_131)) (ax_lf_ok (ak_lstore (by decide) dX9_shift_133)))) (ax_nd_ok (ax_nd_ok (ax_lf_ok (ak_iload dX9_shift_135)) (ax_lf_ok (ak_istore (by decide) dX9_shift_137))) (ax_nd_ok (ax_lf_ok (ak_iload dX9_shift_139)) (ax_lf_ok (ak_istore (by decide) dX9_shift_141))))) (ax_nd_ok (ax_nd_ok (ax_lf_ok (ak_iinc (by decide) (by decide) dX9_shift_143)) (ax_nd_ok (ax_lf_ok (ak_goto (by decide) dX9_shift_146)) (ax_lf_ok (ak_iinc (by decide) (by decide) dX9_shift_149)))) (ax_nd_ok (ax_nd_ok (ax_lf_ok (ak_goto (by decide) dX9_shift_152)) (ax_lf_ok (ak_iload_n rfl dX9_shift_155))) (ax_nd_ok (ax_lf_ok (ak_iconst (by decide) dX9_shift_156)) (ax_lf_ok (ak_icmp_ge (by decide) dX9_shift_157))))))) (ax_nd_ok (ax_nd_ok (ax_nd_ok (ax_nd_ok (ax_lf_ok (ak_iload_n rfl dX9_shift_160)) (ax_nd_ok (ax_lf_ok (ak_if_ne (by decide) dX9_shift_161)) (ax_lf_ok (ak_iload dX9_shift_164)))) (ax_nd_ok (ax_lf_ok (ak_goto (by decide) dX9_shift_166)) (ax_nd_ok (ax_lf_ok (ak_iload dX9_shift_169)) (ax_lf_ok (ak_iret rfl dX9_shift_171))))) (ax_nd_ok (ax_nd_ok (ax_lf_ok (ak_aload_n rfl dX9_shift_172)) (ax_nd_ok (ax_lf_ok (ak_gr fF_X9_36 dX9_shift_173)) (ax_lf_ok (ak_iload_n rfl dX9_shift_176)))) (ax_nd_ok (ax_nd_ok (ax_lf_ok (ak_aload_n rfl dX9_shift_177)) (ax_lf_ok (ak_gr fF_X9_43 dX9_shift_178))) (ax_nd_ok (ax_lf_ok (ak_invV (by decide) (by decide) (by decide) rfl wd_788 wd_789 wd_790 wd_101 wd_791 ⟨by decide, by decide, by decide +kernel⟩ dX9_shift_181)) (ax_lf_ok (ak_lload dX9_shift_184)))))) (ax_nd_ok (ax_nd_ok (ax_nd_ok (ax_lf_ok (ak_ladd dX9_shift_186)) (ax_nd_ok (ax_lf_ok (ak_aload_n rfl dX9_shift_187)) (ax_lf_ok (ak_gr fF_X9_43 dX9_shift_188)))) (ax_nd_ok (ax_nd_ok (ax_lf_ok (ak_gi fF_X9_152 dX9_shift_191)) (ax_lf_ok (ak_i2l dX9_shift_194))) (ax_nd_ok (ax_lf_ok (ak_iload_n rfl dX9_shift_195)) (ax_lf_ok (ak_iconst (by decide) dX9_shift_196))))) (ax_nd_ok (ax_nd_ok (ax_lf_ok (ak_icmp_ne (by decide) dX9_shift_197)) (ax_nd_ok (ax_lf_ok (ak_iconst (by decide) dX9_shift_200)) (ax_lf_ok (ak_goto (by decide) dX9_shift_201)))) (ax_nd_ok (ax_nd_ok (ax_lf_ok (ak_iconst (by decide) dX9_shift_204)) (ax_lf_ok (ak_invS (by decide) (by decide) wd_729 wd_730 wd_105 wd_731 ⟨by decide, by decide, by decide +kernel⟩ dX9_shift_205))) (ax_nd_ok (ax_lf_ok (ak_l2i dX9_shift_208)) (ax_lf_ok (ak_iret rfl dX9_shift_209))))))))
abbrev mX9_shift (g : ax_G) (as : List Value) (h : ax_H) (Ret : Option Value → ax_H → Prop) : Prop := ax_M g 6 0 0 yX9_shift cX9_shift 14 (some .int) as h Ret
theorem dX9_feud_0 : decode cX9_feud 0 = .ok (.aload_n 0, 1) := by decide +kernel
theorem dX9_feud_1 : decode cX9_feud 1 = .ok (.iload_n 1, 1) := by decide +kernel
theorem dX9_feud_2 : decode cX9_feud 2 = .ok (.invokevirtual 99, 3) := by decide +kernel
theorem dX9_feud_5 : decode cX9_feud 5 = .ok (.astore_n 3, 1) := by decide +kernel
theorem dX9_feud_6 : decode cX9_feud 6 = .ok (.aload_n 3, 1) := by decide +kernel
theorem dX9_feud_7 : decode cX9_feud 7 = .ok (.ifnull 12, 3) := by decide +kernel
theorem dX9_feud_10 : decode cX9_feud 10 = .ok (.iload_n 2, 1) := by decide +kernel
theorem dX9_feud_11 : decode cX9_feud 11 = .ok (.ifCond .lt 8, 3) := by decide +kernel
theorem dX9_feud_14 : decode cX9_feud 14 = .ok (.iload_n 2, 1) := by decide +kernel
theorem dX9_feud_15 : decode cX9_feud 15 = .ok (.iconst 2, 1) := by decide +kernel
theorem dX9_feud_16 : decode cX9_feud 16 = .ok (.if_icmp .le 5, 3) := by decide +kernel
theorem dX9_feud_19 : decode cX9_feud 19 = .ok (.iconst (-1), 1) := by decide +kernel
theorem dX9_feud_20 : decode cX9_feud 20 = .ok (.ireturn, 1) := by decide +kernel
theorem dX9_feud_21 : decode cX9_feud 21 = .ok (.iconst 0, 1) := by decide +kernel
theorem dX9_feud_22 : decode cX9_feud 22 = .ok (.istore 4, 2) := by decide +kernel
theorem dX9_feud_24 : decode cX9_feud 24 = .ok (.iconst 1, 1) := by decide +kernel
theorem dX9_feud_25 : decode cX9_feud 25 = .ok (.istore 5, 2) := by decide +kernel
theorem dX9_feud_27 : decode cX9_feud 27 = .ok (.aload_n 0, 1) := by decide +kernel
theorem dX9_feud_28 : decode cX9_feud 28 = .ok (.getfield 36, 3) := by decide +kernel
theorem dX9_feud_31 : decode cX9_feud 31 = .ok (.iconst 0, 1) := by decide +kernel
theorem dX9_feud_32 : decode cX9_feud 32 = .ok (.iconst 1, 1) := by decide +kernel
theorem dX9_feud_33 : decode cX9_feud 33 = .ok (.invokevirtual 217, 3) := by decide +kernel
theorem dX9_feud_36 : decode cX9_feud 36 = .ok (.istore 6, 2) := by decide +kernel
theorem dX9_feud_38 : decode cX9_feud 38 = .ok (.iconst 0, 1) := by decide +kernel
theorem dX9_feud_39 : decode cX9_feud 39 = .ok (.istore 7, 2) := by decide +kernel
theorem dX9_feud_41 : decode cX9_feud 41 = .ok (.iload 7, 2) := by decide +kernel
theorem dX9_feud_43 : decode cX9_feud 43 = .ok (.aload_n 3, 1) := by decide +kernel
theorem dX9_feud_44 : decode cX9_feud 44 = .ok (.getfield 112, 3) := by decide +kernel
theorem dX9_feud_47 : decode cX9_feud 47 = .ok (.if_icmp .ge 62, 3) := by decide +kernel
theorem dX9_feud_50 : decode cX9_feud 50 = .ok (.iload 7, 2) := by decide +kernel
theorem dX9_feud_52 : decode cX9_feud 52 = .ok (.iconst 1, 1) := by decide +kernel
theorem dX9_feud_53 : decode cX9_feud 53 = .ok (.iadd, 1) := by decide +kernel
theorem dX9_feud_54 : decode cX9_feud 54 = .ok (.istore 8, 2) := by decide +kernel
theorem dX9_feud_56 : decode cX9_feud 56 = .ok (.iload 8, 2) := by decide +kernel
theorem dX9_feud_58 : decode cX9_feud 58 = .ok (.aload_n 3, 1) := by decide +kernel
theorem dX9_feud_59 : decode cX9_feud 59 = .ok (.getfield 112, 3) := by decide +kernel
theorem dX9_feud_62 : decode cX9_feud 62 = .ok (.if_icmp .ge 41, 3) := by decide +kernel
theorem dX9_feud_65 : decode cX9_feud 65 = .ok (.aload_n 0, 1) := by decide +kernel
theorem dX9_feud_66 : decode cX9_feud 66 = .ok (.getfield 36, 3) := by decide +kernel
theorem dX9_feud_69 : decode cX9_feud 69 = .ok (.iload 7, 2) := by decide +kernel
theorem dX9_feud_71 : decode cX9_feud 71 = .ok (.iload 8, 2) := by decide +kernel
theorem dX9_feud_73 : decode cX9_feud 73 = .ok (.invokevirtual 217, 3) := by decide +kernel
theorem dX9_feud_76 : decode cX9_feud 76 = .ok (.istore 9, 2) := by decide +kernel
theorem dX9_feud_78 : decode cX9_feud 78 = .ok (.iload 9, 2) := by decide +kernel
theorem dX9_feud_80 : decode cX9_feud 80 = .ok (.iload 6, 2) := by decide +kernel
theorem dX9_feud_82 : decode cX9_feud 82 = .ok (.if_icmp .le 15, 3) := by decide +kernel
theorem dX9_feud_85 : decode cX9_feud 85 = .ok (.iload 9, 2) := by decide +kernel
theorem dX9_feud_87 : decode cX9_feud 87 = .ok (.istore 6, 2) := by decide +kernel
theorem dX9_feud_89 : decode cX9_feud 89 = .ok (.iload 7, 2) := by decide +kernel
theorem dX9_feud_91 : decode cX9_feud 91 = .ok (.istore 4, 2) := by decide +kernel
theorem dX9_feud_93 : decode cX9_feud 93 = .ok (.iload 8, 2) := by decide +kernel
theorem dX9_feud_95 : decode cX9_feud 95 = .ok (.istore 5, 2) := by decide +kernel
theorem dX9_feud_97 : decode cX9_feud 97 = .ok (.iinc 8 1, 3) := by decide +kernel
theorem dX9_feud_100 : decode cX9_feud 100 = .ok (.goto (-44), 3) := by decide +kernel
theorem dX9_feud_103 : decode cX9_feud 103 = .ok (.iinc 7 1, 3) := by decide +kernel
theorem dX9_feud_106 : decode cX9_feud 106 = .ok (.goto (-65), 3) := by decide +kernel
theorem dX9_feud_109 : decode cX9_feud 109 = .ok (.iload_n 2, 1) := by decide +kernel
theorem dX9_feud_110 : decode cX9_feud 110 = .ok (.iconst 2, 1) := by decide +kernel
theorem dX9_feud_111 : decode cX9_feud 111 = .ok (.if_icmp .ne 6, 3) := by decide +kernel
theorem dX9_feud_114 : decode cX9_feud 114 = .ok (.iload 6, 2) := by decide +kernel
theorem dX9_feud_116 : decode cX9_feud 116 = .ok (.ireturn, 1) := by decide +kernel
theorem dX9_feud_117 : decode cX9_feud 117 = .ok (.iload_n 2, 1) := by decide +kernel
theorem dX9_feud_118 : decode cX9_feud 118 = .ok (.ifCond .ne 8, 3) := by decide +kernel
theorem dX9_feud_121 : decode cX9_feud 121 = .ok (.iload 4, 2) := by decide +kernel
theorem dX9_feud_123 : decode cX9_feud 123 = .ok (.goto 5, 3) := by decide +kernel
theorem dX9_feud_126 : decode cX9_feud 126 = .ok (.iload 5, 2) := by decide +kernel
theorem dX9_feud_128 : decode cX9_feud 128 = .ok (.ireturn, 1) := by decide +kernel
def tX9_feud (g : ax_G) : Nat → ax_O := ax_nd 54 (ax_nd 24 (ax_nd 11 (ax_nd 5 (ax_nd 1 (ax_nd 0 (ax_lf 0 (ao_al 0 1)) (ax_lf 1 (ao_il 1 1))) (ax_nd 2 (ax_lf 2 (ao_inv g 5 9 3 yX9_begun cX9_begun 3 (some (.object "GluedHour$Republic")) 2 0 0 0 0)) (ax_lf 5 (ao_as 3 1)))) (ax_nd 7 (ax_nd 6 (ax_lf 6 (ao_al 3 1)) (ax_lf 7 (ao_ifnull 19))) (ax_nd 10 (ax_lf 10 (ao_il 2 1)) (ax_lf 11 (ao_if_lt 19))))) (ax_nd 19 (ax_nd 15 (ax_nd 14 (ax_lf 14 (ao_il 2 1)) (ax_lf 15 (ao_ic (2) 1))) (ax_nd 16 (ax_lf 16 (ao_icmp_le 21)) (ax_lf 19 (ao_ic (-1) 1)))) (ax_nd 21 (ax_nd 20 (ax_lf 20 (ao_iret 0 0)) (ax_lf 21 (ao_ic (0) 1))) (ax_nd 22 (ax_lf 22 (ao_is 4 2)) (ax_lf 24 (ao_ic (1) 1)))))) (ax_nd 38 (ax_nd 31 (ax_nd 27 (ax_nd 25 (ax_lf 25 (ao_is 5 2)) (ax_lf 27 (ao_al 0 1))) (ax_nd 28 (ax_lf 28 (ao_gr 9 3)) (ax_lf 31 (ao_ic (0) 1)))) (ax_nd 33 (ax_nd 32 (ax_lf 32 (ao_ic (1) 1)) (ax_lf 33 (ao_inv g 2 0 1 yX0_apart cX0_apart 5 (some .int) 3 0 0 0 0))) (ax_nd 36 (ax_lf 36 (ao_is 6 2)) (ax_lf 38 (ao_ic (0) 1))))) (ax_nd 44 (ax_nd 41 (ax_nd 39 (ax_lf 39 (ao_is 7 2)) (ax_lf 41 (ao_il 7 2))) (ax_nd 43 (ax_lf 43 (ao_al 3 1)) (ax_lf 44 (ao_gi 6 5)))) (ax_nd 50 (ax_nd 47 (ax_lf 47 (ao_icmp_ge 109)) (ax_lf 50 (ao_il 7 2))) (ax_nd 52 (ax_lf 52 (ao_ic (1) 1)) (ax_nd 53 (ax_lf 53 ao_iadd) (ax_lf 54 (ao_is 8 2)))))))) (ax_nd 91 (ax_nd 71 (ax_nd 62 (ax_nd 58 (ax_nd 56 (ax_lf 56 (ao_il 8 2)) (ax_lf 58 (ao_al 3 1))) (ax_nd 59 (ax_lf 59 (ao_gi 6 5)) (ax_lf 62 (ao_icmp_ge 103)))) (ax_nd 66 (ax_nd 65 (ax_lf 65 (ao_al 0 1)) (ax_lf 66 (ao_gr 9 3))) (ax_nd 69 (ax_lf 69 (ao_il 7 2)) (ax_lf 71 (ao_il 8 2))))) (ax_nd 80 (ax_nd 76 (ax_nd 73 (ax_lf 73 (ao_inv g 2 0 1 yX0_apart cX0_apart 5 (some .int) 3 0 0 0 0)) (ax_lf 76 (ao_is 9 2))) (ax_nd 78 (ax_lf 78 (ao_il 9 2)) (ax_lf 80 (ao_il 6 2)))) (ax_nd 85 (ax_nd 82 (ax_lf 82 (ao_icmp_le 97)) (ax_lf 85 (ao_il 9 2))) (ax_nd 87 (ax_lf 87 (ao_is 6 2)) (ax_nd 89 (ax_lf 89 (ao_il 7 2)) (ax_lf 91 (ao_is 4 2))))))) (ax_nd 110 (ax_nd 100 (ax_nd 95 (ax_nd 93 (ax_lf 93 (ao_il 8 2)) (ax_lf 95 (ao_is 5 2))) (ax_nd 97 (ax_lf 97 (ao_iinc 8 (1))) (ax_lf 100 (ao_goto 56)))) (ax_nd 106 (ax_nd 103 (ax_lf 103 (ao_iinc 7 (1))) (ax_lf 106 (ao_goto 41))) (ax_nd 109 (ax_lf 109 (ao_il 2 1)) (ax_lf 110 (ao_ic (2) 1))))) (ax_nd 117 (ax_nd 114 (ax_nd 111 (ax_lf 111 (ao_icmp_ne 117)) (ax_lf 114 (ao_il 6 2))) (ax_nd 116 (ax_lf 116 (ao_iret 0 0)) (ax_lf 117 (ao_il 2 1)))) (ax_nd 121 (ax_nd 118 (ax_lf 118 (ao_if_ne 126)) (ax_lf 121 (ao_il 4 2))) (ax_nd 123 (ax_lf 123 (ao_goto 128)) (ax_nd 126 (ax_lf 126 (ao_il 5 2)) (ax_lf 128 (ao_iret 0 0))))))))
theorem oX9_feud (g : ax_G) : ∀ pc, ax_ok g cX9_feud 10 (some .int) RX9 "feud" 6 0 0 pc (tX9_feud g pc) := ax_nd_ok (ax_nd_ok (ax_nd_ok (ax_nd_ok (ax_nd_ok (ax_nd_ok (ax_lf_ok (ak_aload_n rfl dX9_feud_0)) (ax_lf_ok (ak_iload_n rfl dX9_feud_1))) (ax_nd_ok (ax_lf_ok (ak_invV (by decide) (by decide) (by decide) rfl wd_645 wd_647 wd_13 wd_96 wd_648 ⟨by decide, by decide, by decide +kernel⟩ dX9_feud_2)) (ax_lf_ok (ak_astore_n rfl (by decide) dX9_feud_5)))) (ax_nd_ok (ax_nd_ok (ax_lf_ok (ak_aload_n rfl dX9_feud_6)) (ax_lf_ok (ak_ifnull (by decide) dX9_feud_7))) (ax_nd_ok (ax_lf_ok (ak_iload_n rfl dX9_feud_10)) (ax_lf_ok (ak_if_lt (by decide) dX9_feud_11))))) (ax_nd_ok (ax_nd_ok (ax_nd_ok (ax_lf_ok (ak_iload_n rfl dX9_feud_14)) (ax_lf_ok (ak_iconst (by decide) dX9_feud_15))) (ax_nd_ok (ax_lf_ok (ak_icmp_le (by decide) dX9_feud_16)) (ax_lf_ok (ak_iconst (by decide) dX9_feud_19)))) (ax_nd_ok (ax_nd_ok (ax_lf_ok (ak_iret rfl dX9_feud_20)) (ax_lf_ok (ak_iconst (by decide) dX9_feud_21))) (ax_nd_ok (ax_lf_ok (ak_istore (by decide) dX9_feud_22)) (ax_lf_ok (ak_iconst (by decide) dX9_feud_24)))))) (ax_nd_ok (ax_nd_ok (ax_nd_ok (ax_nd_ok (ax_lf_ok (ak_istore (by decide) dX9_feud_25)) (ax_lf_ok (ak_aload_n rfl dX9_feud_27))) (ax_nd_ok (ax_lf_ok (ak_gr fF_X9_36 dX9_feud_28)) (ax_lf_ok (ak_iconst (by decide) dX9_feud_31)))) (ax_nd_ok (ax_nd_ok (ax_lf_ok (ak_iconst (by decide) dX9_feud_32)) (ax_lf_ok (ak_invV (by decide) (by decide) (by decide) rfl wd_831 wd_832 wd_833 wd_101 wd_834 ⟨by decide, by decide, by decide +kernel⟩ dX9_feud_33))) (ax_nd_ok (ax_lf_ok (ak_istore (by decide) dX9_feud_36)) (ax_lf_ok (ak_iconst (by decide) dX9_feud_38))))) (ax_nd_ok (ax_nd_ok (ax_nd_ok (ax_lf_ok (ak_istore (by decide) dX9_feud_39)) (ax_lf_ok (ak_iload dX9_feud_41))) (ax_nd_ok (ax_lf_ok (ak_aload_n rfl dX9_feud_43)) (ax_lf_ok (ak_gi fF_X9_112 dX9_feud_44)))) (ax_nd_ok (ax_nd_ok (ax_lf_ok (ak_icmp_ge (by decide) dX9_feud_47)) (ax_lf_ok (ak_iload dX9_feud_50))) (ax_nd_ok (ax_lf_ok (ak_iconst (by decide) dX9_feud_52)) (ax_nd_ok (ax_lf_ok (ak_iadd dX9_feud_53)) (ax_lf_ok (ak_istore (by decide) dX9_feud_54)))))))) (ax_nd_ok (ax_nd_ok (ax_nd_ok (ax_nd_ok (ax_nd_ok (ax_lf_ok (ak_iload dX9_feud_56)) (ax_lf_ok (ak_aload_n rfl dX9_feud_58))) (ax_nd_ok (ax_lf_ok (ak_gi fF_X9_112 dX9_feud_59)) (ax_lf_ok (ak_icmp_ge (by decide) dX9_feud_62)))) (ax_nd_ok (ax_nd_ok (ax_lf_ok (ak_aload_n rfl dX9_feud_65)) (ax_lf_ok (ak_gr fF_X9_36 dX9_feud_66))) (ax_nd_ok (ax_lf_ok (ak_iload dX9_feud_69)) (ax_lf_ok (ak_iload dX9_feud_71))))) (ax_nd_ok (ax_nd_ok (ax_nd_ok (ax_lf_ok (ak_invV (by decide) (by decide) (by decide) rfl wd_831 wd_832 wd_833 wd_101 wd_834 ⟨by decide, by decide, by decide +kernel⟩ dX9_feud_73)) (ax_lf_ok (ak_istore (by decide) dX9_feud_76))) (ax_nd_ok (ax_lf_ok (ak_iload dX9_feud_78)) (ax_lf_ok (ak_iload dX9_feud_80)))) (ax_nd_ok (ax_nd_ok (ax_lf_ok (ak_icmp_le (by decide) dX9_feud_82)) (ax_lf_ok (ak_iload dX9_feud_85))) (ax_nd_ok (ax_lf_ok (ak_istore (by decide) dX9_feud_87)) (ax_nd_ok (ax_lf_ok (ak_iload dX9_feud_89)) (ax_lf_ok (ak_istore (by decide) dX9_feud_91))))))) (ax_nd_ok (ax_nd_ok (ax_nd_ok (ax_nd_ok (ax_lf_ok (ak_iload dX9_feud_93)) (ax_lf_ok (ak_istore (by decide) dX9_feud_95))) (ax_nd_ok (ax_lf_ok (ak_iinc (by decide) (by decide) dX9_feud_97)) (ax_lf_ok (ak_goto (by decide) dX9_feud_100)))) (ax_nd_ok (ax_nd_ok (ax_lf_ok (ak_iinc (by decide) (by decide) dX9_feud_103)) (ax_lf_ok (ak_goto (by decide) dX9_feud_106))) (ax_nd_ok (ax_lf_ok (ak_iload_n rfl dX9_feud_109)) (ax_lf_ok (ak_iconst (by decide) dX9_feud_110))))) (ax_nd_ok (ax_nd_ok (ax_nd_ok (ax_lf_ok (ak_icmp_ne (by decide) dX9_feud_111)) (ax_lf_ok (ak_iload dX9_feud_114))) (ax_nd_ok (ax_lf_ok (ak_iret rfl dX9_feud_116)) (ax_lf_ok (ak_iload_n rfl dX9_feud_117)))) (ax_nd_ok (ax_nd_ok (ax_lf_ok (ak_if_ne (by decide) dX9_feud_118)) (ax_lf_ok (ak_iload dX9_feud_121))) (ax_nd_ok (ax_lf_ok (ak_goto (by decide) dX9_feud_123)) (ax_nd_ok (ax_lf_ok (ak_iload dX9_feud_126)) (ax_lf_ok (ak_iret rfl dX9_feud_128))))))))
abbrev mX9_feud (g : ax_G) (as : List Value) (h : ax_H) (Ret : Option Value → ax_H → Prop) : Prop := ax_M g 6 0 0 yX9_feud cX9_feud 10 (some .int) as h Ret
theorem dX9_errand_0 : decode cX9_errand 0 = .ok (.aload_n 0, 1) := by decide +kernel
theorem dX9_errand_1 : decode cX9_errand 1 = .ok (.getfield 10, 3) := by decide +kernel
theorem dX9_errand_4 : decode cX9_errand 4 = .ok (.iconst 2, 1) := by decide +kernel
theorem dX9_errand_5 : decode cX9_errand 5 = .ok (.iload_n 1, 1) := by decide +kernel
theorem dX9_errand_6 : decode cX9_errand 6 = .ok (.iload_n 2, 1) := by decide +kernel
theorem dX9_errand_7 : decode cX9_errand 7 = .ok (.iload_n 3, 1) := by decide +kernel
theorem dX9_errand_8 : decode cX9_errand 8 = .ok (.bipush (-2), 2) := by decide +kernel
theorem dX9_errand_10 : decode cX9_errand 10 = .ok (.invokevirtual 220, 3) := by decide +kernel
theorem dX9_errand_13 : decode cX9_errand 13 = .ok (.ireturn, 1) := by decide +kernel
def tX9_errand (g : ax_G) : Nat → ax_O := ax_nd 5 (ax_nd 1 (ax_nd 0 (ax_lf 0 (ao_al 0 1)) (ax_lf 1 (ao_gr 9 0))) (ax_nd 4 (ax_lf 4 (ao_ic (2) 1)) (ax_lf 5 (ao_il 1 1)))) (ax_nd 7 (ax_nd 6 (ax_lf 6 (ao_il 2 1)) (ax_lf 7 (ao_il 3 1))) (ax_nd 8 (ax_lf 8 (ao_ic (-2) 2)) (ax_nd 10 (ax_lf 10 (ao_inv g 3 8 1 yX8_lineCell cX8_lineCell 7 (some .int) 6 0 0 0 0)) (ax_lf 13 (ao_iret 0 0)))))
theorem oX9_errand (g : ax_G) : ∀ pc, ax_ok g cX9_errand 4 (some .int) RX9 "errand" 4 0 0 pc (tX9_errand g pc) := ax_nd_ok (ax_nd_ok (ax_nd_ok (ax_lf_ok (ak_aload_n rfl dX9_errand_0)) (ax_lf_ok (ak_gr fF_X9_10 dX9_errand_1))) (ax_nd_ok (ax_lf_ok (ak_iconst (by decide) dX9_errand_4)) (ax_lf_ok (ak_iload_n rfl dX9_errand_5)))) (ax_nd_ok (ax_nd_ok (ax_lf_ok (ak_iload_n rfl dX9_errand_6)) (ax_lf_ok (ak_iload_n rfl dX9_errand_7))) (ax_nd_ok (ax_lf_ok (ak_bipush (by decide) dX9_errand_8)) (ax_nd_ok (ax_lf_ok (ak_invV (by decide) (by decide) (by decide) rfl wd_842 wd_843 wd_844 wd_97 wd_845 ⟨by decide, by decide, by decide +kernel⟩ dX9_errand_10)) (ax_lf_ok (ak_iret rfl dX9_errand_13)))))
abbrev mX9_errand (g : ax_G) (as : List Value) (h : ax_H) (Ret : Option Value → ax_H → Prop) : Prop := ax_M g 4 0 0 yX9_errand cX9_errand 4 (some .int) as h Ret
theorem dX9_plan_0 : decode cX9_plan 0 = .ok (.aload_n 0, 1) := by decide +kernel
theorem dX9_plan_1 : decode cX9_plan 1 = .ok (.iload_n 1, 1) := by decide +kernel
theorem dX9_plan_2 : decode cX9_plan 2 = .ok (.invokevirtual 99, 3) := by decide +kernel
theorem dX9_plan_5 : decode cX9_plan 5 = .ok (.astore 4, 2) := by decide +kernel
theorem dX9_plan_7 : decode cX9_plan 7 = .ok (.aload_n 0, 1) := by decide +kernel
theorem dX9_plan_8 : decode cX9_plan 8 = .ok (.getfield 10, 3) := by decide +kernel
theorem dX9_plan_11 : decode cX9_plan 11 = .ok (.iconst 2, 1) := by decide +kernel
theorem dX9_plan_12 : decode cX9_plan 12 = .ok (.iload_n 2, 1) := by decide +kernel
theorem dX9_plan_13 : decode cX9_plan 13 = .ok (.invokevirtual 159, 3) := by decide +kernel
theorem dX9_plan_16 : decode cX9_plan 16 = .ok (.astore 5, 2) := by decide +kernel
theorem dX9_plan_18 : decode cX9_plan 18 = .ok (.aload 4, 2) := by decide +kernel
theorem dX9_plan_20 : decode cX9_plan 20 = .ok (.ifnull 26, 3) := by decide +kernel
theorem dX9_plan_23 : decode cX9_plan 23 = .ok (.aload 5, 2) := by decide +kernel
theorem dX9_plan_25 : decode cX9_plan 25 = .ok (.ifnull 21, 3) := by decide +kernel
theorem dX9_plan_28 : decode cX9_plan 28 = .ok (.aload_n 0, 1) := by decide +kernel
theorem dX9_plan_29 : decode cX9_plan 29 = .ok (.getfield 53, 3) := by decide +kernel
theorem dX9_plan_32 : decode cX9_plan 32 = .ok (.aload 4, 2) := by decide +kernel
theorem dX9_plan_34 : decode cX9_plan 34 = .ok (.aload_n 0, 1) := by decide +kernel
theorem dX9_plan_35 : decode cX9_plan 35 = .ok (.getfield 43, 3) := by decide +kernel
theorem dX9_plan_38 : decode cX9_plan 38 = .ok (.aload 5, 2) := by decide +kernel
theorem dX9_plan_40 : decode cX9_plan 40 = .ok (.invokevirtual 224, 3) := by decide +kernel
theorem dX9_plan_43 : decode cX9_plan 43 = .ok (.ifCond .ne 6, 3) := by decide +kernel
theorem dX9_plan_46 : decode cX9_plan 46 = .ok (.ldc 145, 2) := by decide +kernel
theorem dX9_plan_48 : decode cX9_plan 48 = .ok (.ireturn, 1) := by decide +kernel
theorem dX9_plan_49 : decode cX9_plan 49 = .ok (.iload_n 3, 1) := by decide +kernel
theorem dX9_plan_50 : decode cX9_plan 50 = .ok (.bipush 10, 2) := by decide +kernel
theorem dX9_plan_52 : decode cX9_plan 52 = .ok (.if_icmp .lt 33, 3) := by decide +kernel
theorem dX9_plan_55 : decode cX9_plan 55 = .ok (.aload 5, 2) := by decide +kernel
theorem dX9_plan_57 : decode cX9_plan 57 = .ok (.iload_n 3, 1) := by decide +kernel
theorem dX9_plan_58 : decode cX9_plan 58 = .ok (.bipush 10, 2) := by decide +kernel
theorem dX9_plan_60 : decode cX9_plan 60 = .ok (.isub, 1) := by decide +kernel
theorem dX9_plan_61 : decode cX9_plan 61 = .ok (.invokevirtual 168, 3) := by decide +kernel
theorem dX9_plan_64 : decode cX9_plan 64 = .ok (.ifCond .eq 18, 3) := by decide +kernel
theorem dX9_plan_67 : decode cX9_plan 67 = .ok (.aload_n 0, 1) := by decide +kernel
theorem dX9_plan_68 : decode cX9_plan 68 = .ok (.getfield 53, 3) := by decide +kernel
theorem dX9_plan_71 : decode cX9_plan 71 = .ok (.getfield 228, 3) := by decide +kernel
theorem dX9_plan_74 : decode cX9_plan 74 = .ok (.iload_n 3, 1) := by decide +kernel
theorem dX9_plan_75 : decode cX9_plan 75 = .ok (.bipush 10, 2) := by decide +kernel
theorem dX9_plan_77 : decode cX9_plan 77 = .ok (.isub, 1) := by decide +kernel
theorem dX9_plan_78 : decode cX9_plan 78 = .ok (.iaload, 1) := by decide +kernel
theorem dX9_plan_79 : decode cX9_plan 79 = .ok (.goto 5, 3) := by decide +kernel
theorem dX9_plan_82 : decode cX9_plan 82 = .ok (.ldc 145, 2) := by decide +kernel
theorem dX9_plan_84 : decode cX9_plan 84 = .ok (.ireturn, 1) := by decide +kernel
theorem dX9_plan_85 : decode cX9_plan 85 = .ok (.iload_n 3, 1) := by decide +kernel
theorem dX9_plan_86 : decode cX9_plan 86 = .ok (.tableswitch 193 0 6 #[42, 42, 72, 72, 117, 117, 170], 42) := by decide +kernel
theorem dX9_plan_128 : decode cX9_plan 128 = .ok (.aload_n 0, 1) := by decide +kernel
theorem dX9_plan_129 : decode cX9_plan 129 = .ok (.getfield 53, 3) := by decide +kernel
theorem dX9_plan_132 : decode cX9_plan 132 = .ok (.getfield 231, 3) := by decide +kernel
theorem dX9_plan_135 : decode cX9_plan 135 = .ok (.aload_n 0, 1) := by decide +kernel
theorem dX9_plan_136 : decode cX9_plan 136 = .ok (.getfield 43, 3) := by decide +kernel
theorem dX9_plan_139 : decode cX9_plan 139 = .ok (.getfield 152, 3) := by decide +kernel
theorem dX9_plan_142 : decode cX9_plan 142 = .ok (.i2l, 1) := by decide +kernel
theorem dX9_plan_143 : decode cX9_plan 143 = .ok (.iload_n 3, 1) := by decide +kernel
theorem dX9_plan_144 : decode cX9_plan 144 = .ok (.iconst 1, 1) := by decide +kernel
theorem dX9_plan_145 : decode cX9_plan 145 = .ok (.if_icmp .ne 7, 3) := by decide +kernel
theorem dX9_plan_148 : decode cX9_plan 148 = .ok (.iconst 1, 1) := by decide +kernel
theorem dX9_plan_149 : decode cX9_plan 149 = .ok (.goto 4, 3) := by decide +kernel
theorem dX9_plan_152 : decode cX9_plan 152 = .ok (.iconst 0, 1) := by decide +kernel
theorem dX9_plan_153 : decode cX9_plan 153 = .ok (.invokestatic 155, 3) := by decide +kernel
theorem dX9_plan_156 : decode cX9_plan 156 = .ok (.l2i, 1) := by decide +kernel
theorem dX9_plan_157 : decode cX9_plan 157 = .ok (.ireturn, 1) := by decide +kernel
theorem dX9_plan_158 : decode cX9_plan 158 = .ok (.aload_n 0, 1) := by decide +kernel
theorem dX9_plan_159 : decode cX9_plan 159 = .ok (.getfield 53, 3) := by decide +kernel
theorem dX9_plan_162 : decode cX9_plan 162 = .ok (.aload 4, 2) := by decide +kernel
theorem dX9_plan_164 : decode cX9_plan 164 = .ok (.aload_n 0, 1) := by decide +kernel
theorem dX9_plan_165 : decode cX9_plan 165 = .ok (.getfield 43, 3) := by decide +kernel
theorem dX9_plan_168 : decode cX9_plan 168 = .ok (.aload 5, 2) := by decide +kernel
theorem dX9_plan_170 : decode cX9_plan 170 = .ok (.invokevirtual 235, 3) := by decide +kernel
theorem dX9_plan_173 : decode cX9_plan 173 = .ok (.aload_n 0, 1) := by decide +kernel
theorem dX9_plan_174 : decode cX9_plan 174 = .ok (.getfield 53, 3) := by decide +kernel
theorem dX9_plan_177 : decode cX9_plan 177 = .ok (.getfield 239, 3) := by decide +kernel
theorem dX9_plan_180 : decode cX9_plan 180 = .ok (.aload_n 0, 1) := by decide +kernel
theorem dX9_plan_181 : decode cX9_plan 181 = .ok (.getfield 43, 3) := by decide +kernel
theorem dX9_plan_184 : decode cX9_plan 184 = .ok (.getfield 152, 3) := by decide +kernel
theorem dX9_plan_187 : decode cX9_plan 187 = .ok (.i2l, 1) := by decide +kernel
theorem dX9_plan_188 : decode cX9_plan 188 = .ok (.iload_n 3, 1) := by decide +kernel
theorem dX9_plan_189 : decode cX9_plan 189 = .ok (.iconst 3, 1) := by decide +kernel
theorem dX9_plan_190 : decode cX9_plan 190 = .ok (.if_icmp .ne 7, 3) := by decide +kernel
theorem dX9_plan_193 : decode cX9_plan 193 = .ok (.iconst 1, 1) := by decide +kernel
theorem dX9_plan_194 : decode cX9_plan 194 = .ok (.goto 4, 3) := by decide +kernel
theorem dX9_plan_197 : decode cX9_plan 197 = .ok (.iconst 0, 1) := by decide +kernel
theorem dX9_plan_198 : decode cX9_plan 198 = .ok (.invokestatic 155, 3) := by decide +kernel
theorem dX9_plan_201 : decode cX9_plan 201 = .ok (.l2i, 1) := by decide +kernel
theorem dX9_plan_202 : decode cX9_plan 202 = .ok (.ireturn, 1) := by decide +kernel
theorem dX9_plan_203 : decode cX9_plan 203 = .ok (.aload_n 0, 1) := by decide +kernel
theorem dX9_plan_204 : decode cX9_plan 204 = .ok (.getfield 53, 3) := by decide +kernel
theorem dX9_plan_207 : decode cX9_plan 207 = .ok (.aload 4, 2) := by decide +kernel
theorem dX9_plan_209 : decode cX9_plan 209 = .ok (.aload_n 0, 1) := by decide +kernel
theorem dX9_plan_210 : decode cX9_plan 210 = .ok (.getfield 43, 3) := by decide +kernel
theorem dX9_plan_213 : decode cX9_plan 213 = .ok (.aload 5, 2) := by decide +kernel
theorem dX9_plan_215 : decode cX9_plan 215 = .ok (.invokevirtual 235, 3) := by decide +kernel
theorem dX9_plan_218 : decode cX9_plan 218 = .ok (.aload_n 0, 1) := by decide +kernel
theorem dX9_plan_219 : decode cX9_plan 219 = .ok (.getfield 53, 3) := by decide +kernel
theorem dX9_plan_222 : decode cX9_plan 222 = .ok (.getfield 239, 3) := by decide +kernel
theorem dX9_plan_225 : decode cX9_plan 225 = .ok (.aload_n 0, 1) := by decide +kernel
theorem dX9_plan_226 : decode cX9_plan 226 = .ok (.getfield 53, 3) := by decide +kernel
theorem dX9_plan_229 : decode cX9_plan 229 = .ok (.getfield 231, 3) := by decide +kernel
theorem dX9_plan_232 : decode cX9_plan 232 = .ok (.lsub, 1) := by decide +kernel
theorem dX9_plan_233 : decode cX9_plan 233 = .ok (.aload_n 0, 1) := by decide +kernel
theorem dX9_plan_234 : decode cX9_plan 234 = .ok (.getfield 43, 3) := by decide +kernel
theorem dX9_plan_237 : decode cX9_plan 237 = .ok (.getfield 152, 3) := by decide +kernel
theorem dX9_plan_240 : decode cX9_plan 240 = .ok (.i2l, 1) := by decide +kernel
theorem dX9_plan_241 : decode cX9_plan 241 = .ok (.iload_n 3, 1) := by decide +kernel
theorem dX9_plan_242 : decode cX9_plan 242 = .ok (.iconst 5, 1) := by decide +kernel
theorem dX9_plan_243 : decode cX9_plan 243 = .ok (.if_icmp .ne 7, 3) := by decide +kernel
theorem dX9_plan_246 : decode cX9_plan 246 = .ok (.iconst 1, 1) := by decide +kernel
theorem dX9_plan_247 : decode cX9_plan 247 = .ok (.goto 4, 3) := by decide +kernel
theorem dX9_plan_250 : decode cX9_plan 250 = .ok (.iconst 0, 1) := by decide +kernel
theorem dX9_plan_251 : decode cX9_plan 251 = .ok (.invokestatic 155, 3) := by decide +kernel
theorem dX9_plan_254 : decode cX9_plan 254 = .ok (.l2i, 1) := by decide +kernel
theorem dX9_plan_255 : decode cX9_plan 255 = .ok (.ireturn, 1) := by decide +kernel
theorem dX9_plan_256 : decode cX9_plan 256 = .ok (.aload_n 0, 1) := by decide +kernel
theorem dX9_plan_257 : decode cX9_plan 257 = .ok (.getfield 53, 3) := by decide +kernel
theorem dX9_plan_260 : decode cX9_plan 260 = .ok (.aload 4, 2) := by decide +kernel
theorem dX9_plan_262 : decode cX9_plan 262 = .ok (.aload_n 0, 1) := by decide +kernel
theorem dX9_plan_263 : decode cX9_plan 263 = .ok (.getfield 43, 3) := by decide +kernel
theorem dX9_plan_266 : decode cX9_plan 266 = .ok (.aload 5, 2) := by decide +kernel
theorem dX9_plan_268 : decode cX9_plan 268 = .ok (.invokevirtual 235, 3) := by decide +kernel
theorem dX9_plan_271 : decode cX9_plan 271 = .ok (.aload_n 0, 1) := by decide +kernel
theorem dX9_plan_272 : decode cX9_plan 272 = .ok (.getfield 53, 3) := by decide +kernel
theorem dX9_plan_275 : decode cX9_plan 275 = .ok (.getfield 242, 3) := by decide +kernel
theorem dX9_plan_278 : decode cX9_plan 278 = .ok (.ireturn, 1) := by decide +kernel
theorem dX9_plan_279 : decode cX9_plan 279 = .ok (.ldc 145, 2) := by decide +kernel
theorem dX9_plan_281 : decode cX9_plan 281 = .ok (.ireturn, 1) := by decide +kernel
def tX9_plan (g : ax_G) : Nat → ax_O := ax_nd 158 (ax_nd 60 (ax_nd 28 (ax_nd 11 (ax_nd 2 (ax_nd 0 (ax_lf 0 (ao_al 0 1)) (ax_nd 1 (ax_lf 1 (ao_il 1 1)) (ax_lf 2 (ao_inv g 5 9 3 yX9_begun cX9_begun 3 (some (.object "GluedHour$Republic")) 2 0 0 0 0)))) (ax_nd 7 (ax_nd 5 (ax_lf 5 (ao_as 4 2)) (ax_lf 7 (ao_al 0 1))) (ax_nd 8 (ax_lf 8 (ao_gr 9 0)) (ax_lf 11 (ao_ic (2) 1))))) (ax_nd 18 (ax_nd 13 (ax_nd 12 (ax_lf 12 (ao_il 2 1)) (ax_lf 13 (ao_inv g 1 8 3 yX8_linesAt cX8_linesAt 3 (some (.object "GluedHour$Lines")) 3 0 0 0 0))) (ax_nd 16 (ax_lf 16 (ao_as 5 2)) (ax_lf 18 (ao_al 4 2)))) (ax_nd 23 (ax_nd 20 (ax_lf 20 (ao_ifnull 46)) (ax_lf 23 (ao_al 5 2))) (ax_nd 25 (ax_lf 25 (ao_ifnull 46)) (ax_lf 28 (ao_al 0 1)))))) (ax_nd 46 (ax_nd 35 (ax_nd 32 (ax_nd 29 (ax_lf 29 (ao_gr 9 6)) (ax_lf 32 (ao_al 4 2))) (ax_nd 34 (ax_lf 34 (ao_al 0 1)) (ax_lf 35 (ao_gr 9 4)))) (ax_nd 40 (ax_nd 38 (ax_lf 38 (ao_al 5 2)) (ax_lf 40 (ao_inv g 6 4 1 yX4_planBlind cX4_planBlind 4 (some .boolean) 4 0 0 0 0))) (ax_nd 43 (ax_lf 43 (ao_if_ne 49)) (ax_lf 46 (ao_ic (-1000000) 2))))) (ax_nd 52 (ax_nd 49 (ax_nd 48 (ax_lf 48 (ao_iret 0 0)) (ax_lf 49 (ao_il 3 1))) (ax_nd 50 (ax_lf 50 (ao_ic (10) 2)) (ax_lf 52 (ao_icmp_lt 85)))) (ax_nd 57 (ax_nd 55 (ax_lf 55 (ao_al 5 2)) (ax_lf 57 (ao_il 3 1))) (ax_nd 58 (ax_lf 58 (ao_ic (10) 2)) (ax_lf 60 ao_isub)))))) (ax_nd 128 (ax_nd 75 (ax_nd 67 (ax_nd 61 (ax_lf 61 (ao_inv g 1 2 1 yX2_has cX2_has 2 (some .boolean) 2 0 0 0 0)) (ax_nd 64 (ax_lf 64 (ao_if_eq 82)) (ax_lf 67 (ao_al 0 1)))) (ax_nd 71 (ax_nd 68 (ax_lf 68 (ao_gr 9 6)) (ax_lf 71 (ao_gr 4 0))) (ax_nd 74 (ax_lf 74 (ao_il 3 1)) (ax_lf 75 (ao_ic (10) 2))))) (ax_nd 82 (ax_nd 78 (ax_nd 77 (ax_lf 77 ao_isub) (ax_lf 78 ao_iald)) (ax_nd 79 (ax_lf 79 (ao_goto 84)) (ax_lf 82 (ao_ic (-1000000) 2)))) (ax_nd 85 (ax_nd 84 (ax_lf 84 (ao_iret 0 0)) (ax_lf 85 (ao_il 3 1))) (ax_nd 86 (ax_lf 86 (ao_sw [(0, 128), (1, 128), (2, 158), (3, 158), (4, 203), (5, 203), (6, 256)] 279)) (ax_lf 128 (ao_al 0 1)))))) (ax_nd 144 (ax_nd 136 (ax_nd 132 (ax_nd 129 (ax_lf 129 (ao_gr 9 6)) (ax_lf 132 (ao_gl 4 1))) (ax_nd 135 (ax_lf 135 (ao_al 0 1)) (ax_lf 136 (ao_gr 9 4)))) (ax_nd 142 (ax_nd 139 (ax_lf 139 (ao_gi 3 2)) (ax_lf 142 ao_i2l)) (ax_nd 143 (ax_lf 143 (ao_il 3 1)) (ax_lf 144 (ao_ic (1) 1))))) (ax_nd 152 (ax_nd 148 (ax_nd 145 (ax_lf 145 (ao_icmp_ne 152)) (ax_lf 148 (ao_ic (1) 1))) (ax_nd 149 (ax_lf 149 (ao_goto 153)) (ax_lf 152 (ao_ic (0) 1)))) (ax_nd 156 (ax_nd 153 (ax_lf 153 (ao_inv g 2 99 2 yX1_side cX1_side 7 (some .long) 3 0 0 0 0)) (ax_lf 156 ao_l2i)) (ax_nd 157 (ax_lf 157 (ao_iret 0 0)) (ax_lf 158 (ao_al 0 1)))))))) (ax_nd 219 (ax_nd 189 (ax_nd 173 (ax_nd 164 (ax_nd 159 (ax_lf 159 (ao_gr 9 6)) (ax_nd 162 (ax_lf 162 (ao_al 4 2)) (ax_lf 164 (ao_al 0 1)))) (ax_nd 168 (ax_nd 165 (ax_lf 165 (ao_gr 9 4)) (ax_lf 168 (ao_al 5 2))) (ax_nd 170 (ax_lf 170 (ao_inv g 6 4 0 yX4_planKnowing cX4_planKnowing 9 none 4 0 0 0 0)) (ax_lf 173 (ao_al 0 1))))) (ax_nd 181 (ax_nd 177 (ax_nd 174 (ax_lf 174 (ao_gr 9 6)) (ax_lf 177 (ao_gl 4 2))) (ax_nd 180 (ax_lf 180 (ao_al 0 1)) (ax_lf 181 (ao_gr 9 4)))) (ax_nd 187 (ax_nd 184 (ax_lf 184 (ao_gi 3 2)) (ax_lf 187 ao_i2l)) (ax_nd 188 (ax_lf 188 (ao_il 3 1)) (ax_lf 189 (ao_ic (3) 1)))))) (ax_nd 203 (ax_nd 197 (ax_nd 193 (ax_nd 190 (ax_lf 190 (ao_icmp_ne 197)) (ax_lf 193 (ao_ic (1) 1))) (ax_nd 194 (ax_lf 194 (ao_goto 198)) (ax_lf 197 (ao_ic (0) 1)))) (ax_nd 201 (ax_nd 198 (ax_lf 198 (ao_inv g 2 99 2 yX1_side cX1_side 7 (some .long) 3 0 0 0 0)) (ax_lf 201 ao_l2i)) (ax_nd 202 (ax_lf 202 (ao_iret 0 0)) (ax_lf 203 (ao_al 0 1))))) (ax_nd 210 (ax_nd 207 (ax_nd 204 (ax_lf 204 (ao_gr 9 6)) (ax_lf 207 (ao_al 4 2))) (ax_nd 209 (ax_lf 209 (ao_al 0 1)) (ax_lf 210 (ao_gr 9 4)))) (ax_nd 215 (ax_nd 213 (ax_lf 213 (ao_al 5 2)) (ax_lf 215 (ao_inv g 6 4 0 yX4_planKnowing cX4_planKnowing 9 none 4 0 0 0 0))) (ax_nd 218 (ax_lf 218 (ao_al 0 1)) (ax_lf 219 (ao_gr 9 6))))))) (ax_nd 250 (ax_nd 234 (ax_nd 226 (ax_nd 222 (ax_lf 222 (ao_gl 4 2)) (ax_nd 225 (ax_lf 225 (ao_al 0 1)) (ax_lf 226 (ao_gr 9 6)))) (ax_nd 232 (ax_nd 229 (ax_lf 229 (ao_gl 4 1)) (ax_lf 232 ao_lsub)) (ax_nd 233 (ax_lf 233 (ao_al 0 1)) (ax_lf 234 (ao_gr 9 4))))) (ax_nd 242 (ax_nd 240 (ax_nd 237 (ax_lf 237 (ao_gi 3 2)) (ax_lf 240 ao_i2l)) (ax_nd 241 (ax_lf 241 (ao_il 3 1)) (ax_lf 242 (ao_ic (5) 1)))) (ax_nd 246 (ax_nd 243 (ax_lf 243 (ao_icmp_ne 250)) (ax_lf 246 (ao_ic (1) 1))) (ax_nd 247 (ax_lf 247 (ao_goto 251)) (ax_lf 250 (ao_ic (0) 1)))))) (ax_nd 263 (ax_nd 256 (ax_nd 254 (ax_nd 251 (ax_lf 251 (ao_inv g 2 99 2 yX1_side cX1_side 7 (some .long) 3 0 0 0 0)) (ax_lf 254 ao_l2i)) (ax_nd 255 (ax_lf 255 (ao_iret 0 0)) (ax_lf 256 (ao_al 0 1)))) (ax_nd 260 (ax_nd 257 (ax_lf 257 (ao_gr 9 6)) (ax_lf 260 (ao_al 4 2))) (ax_nd 262 (ax_lf 262 (ao_al 0 1)) (ax_lf 263 (ao_gr 9 4))))) (ax_nd 272 (ax_nd 268 (ax_nd 266 (ax_lf 266 (ao_al 5 2)) (ax_lf 268 (ao_inv g 6 4 0 yX4_planKnowing cX4_planKnowing 9 none 4 0 0 0 0))) (ax_nd 271 (ax_lf 271 (ao_al 0 1)) (ax_lf 272 (ao_gr 9 6)))) (ax_nd 278 (ax_nd 275 (ax_lf 275 (ao_gi 4 3)) (ax_lf 278 (ao_iret 0 0))) (ax_nd 279 (ax_lf 279 (ao_ic (-1000000) 2)) (ax_lf 281 (ao_iret 0 0))))))))
theorem oX9_plan (g : ax_G) : ∀ pc, ax_ok g cX9_plan 6 (some .int) RX9 "plan" 7 0 0 pc (tX9_plan g pc) := ax_nd_ok (ax_nd_ok (ax_nd_ok (ax_nd_ok (ax_nd_ok (ax_nd_ok (ax_lf_ok (ak_aload_n rfl dX9_plan_0)) (ax_nd_ok (ax_lf_ok (ak_iload_n rfl dX9_plan_1)) (ax_lf_ok (ak_invV (by decide) (by decide) (by decide) rfl wd_645 wd_647 wd_13 wd_96 wd_648 ⟨by decide, by decide, by decide +kernel⟩ dX9_plan_2)))) (ax_nd_ok (ax_nd_ok (ax_lf_ok (ak_astore (by decide) dX9_plan_5)) (ax_lf_ok (ak_aload_n rfl dX9_plan_7))) (ax_nd_ok (ax_lf_ok (ak_gr fF_X9_10 dX9_plan_8)) (ax_lf_ok (ak_iconst (by decide) dX9_plan_11))))) (ax_nd_ok (ax_nd_ok (ax_nd_ok (ax_lf_ok (ak_iload_n rfl dX9_plan_12)) (ax_lf_ok (ak_invV (by decide) (by decide) (by decide) rfl wd_745 wd_746 wd_747 wd_97 wd_748 ⟨by decide, by decide, by decide +kernel⟩ dX9_plan_13))) (ax_nd_ok (ax_lf_ok (ak_astore (by decide) dX9_plan_16)) (ax_lf_ok (ak_aload dX9_plan_18)))) (ax_nd_ok (ax_nd_ok (ax_lf_ok (ak_ifnull (by decide) dX9_plan_20)) (ax_lf_ok (ak_aload dX9_plan_23))) (ax_nd_ok (ax_lf_ok (ak_ifnull (by decide) dX9_plan_25)) (ax_lf_ok (ak_aload_n rfl dX9_plan_28)))))) (ax_nd_ok (ax_nd_ok (ax_nd_ok (ax_nd_ok (ax_lf_ok (ak_gr fF_X9_53 dX9_plan_29)) (ax_lf_ok (ak_aload dX9_plan_32))) (ax_nd_ok (ax_lf_ok (ak_aload_n rfl dX9_plan_34)) (ax_lf_ok (ak_gr fF_X9_43 dX9_plan_35)))) (ax_nd_ok (ax_nd_ok (ax_lf_ok (ak_aload dX9_plan_38)) (ax_lf_ok (ak_invV (by decide) (by decide) (by decide) rfl wd_853 wd_854 wd_855 wd_103 wd_856 ⟨by decide, by decide, by decide +kernel⟩ dX9_plan_40))) (ax_nd_ok (ax_lf_ok (ak_if_ne (by decide) dX9_plan_43)) (ax_lf_ok (ak_ldc wd_720 dX9_plan_46))))) (ax_nd_ok (ax_nd_ok (ax_nd_ok (ax_lf_ok (ak_iret rfl dX9_plan_48)) (ax_lf_ok (ak_iload_n rfl dX9_plan_49))) (ax_nd_ok (ax_lf_ok (ak_bipush (by decide) dX9_plan_50)) (ax_lf_ok (ak_icmp_lt (by decide) dX9_plan_52)))) (ax_nd_ok (ax_nd_ok (ax_lf_ok (ak_aload dX9_plan_55)) (ax_lf_ok (ak_iload_n rfl dX9_plan_57))) (ax_nd_ok (ax_lf_ok (ak_bipush (by decide) dX9_plan_58)) (ax_lf_ok (ak_isub dX9_plan_60))))))) (ax_nd_ok (ax_nd_ok (ax_nd_ok (ax_nd_ok (ax_lf_ok (ak_invV (by decide) (by decide) (by decide) rfl wd_749 wd_750 wd_751 wd_99 wd_752 ⟨by decide, by decide, by decide +kernel⟩ dX9_plan_61)) (ax_nd_ok (ax_lf_ok (ak_if_eq (by decide) dX9_plan_64)) (ax_lf_ok (ak_aload_n rfl dX9_plan_67)))) (ax_nd_ok (ax_nd_ok (ax_lf_ok (ak_gr fF_X9_53 dX9_plan_68)) (ax_lf_ok (ak_gr fF_X9_228 dX9_plan_71))) (ax_nd_ok (ax_lf_ok (ak_iload_n rfl dX9_plan_74)) (ax_lf_ok (ak_bipush (by decide) dX9_plan_75))))) (ax_nd_ok (ax_nd_ok (ax_nd_ok (ax_lf_ok (ak_isub dX9_plan_77)) (ax_lf_ok (ak_iald dX9_plan_78))) (ax_nd_ok (ax_lf_ok (ak_goto (by decide) dX9_plan_79)) (ax_lf_ok (ak_ldc wd_720 dX9_plan_82)))) (ax_nd_ok (ax_nd_ok (ax_lf_ok (ak_iret rfl dX9_plan_84)) (ax_lf_ok (ak_iload_n rfl dX9_plan_85))) (ax_nd_ok (ax_lf_ok (ak_tsw dX9_plan_86 (by decide) (by decide) (by decide) (by decide) (by decide +kernel) (by decide))) (ax_lf_ok (ak_aload_n rfl dX9_plan_128)))))) (ax_nd_ok (ax_nd_ok (ax_nd_ok (ax_nd_ok (ax_lf_ok (ak_gr fF_X9_53 dX9_plan_129)) (ax_lf_ok (ak_gl fF_X9_231 dX9_plan_132))) (ax_nd_ok (ax_lf_ok (ak_aload_n rfl dX9_plan_135)) (ax_lf_ok (ak_gr fF_X9_43 dX9_plan_136)))) (ax_nd_ok (ax_nd_ok (ax_lf_ok (ak_gi fF_X9_152 dX9_plan_139)) (ax_lf_ok (ak_i2l dX9_plan_142))) (ax_nd_ok (ax_lf_ok (ak_iload_n rfl dX9_plan_143)) (ax_lf_ok (ak_iconst (by decide) dX9_plan_144))))) (ax_nd_ok (ax_nd_ok (ax_nd_ok (ax_lf_ok (ak_icmp_ne (by decide) dX9_plan_145)) (ax_lf_ok (ak_iconst (by decide) dX9_plan_148))) (ax_nd_ok (ax_lf_ok (ak_goto (by decide) dX9_plan_149)) (ax_lf_ok (ak_iconst (by decide) dX9_plan_152)))) (ax_nd_ok (ax_nd_ok (ax_lf_ok (ak_invS (by decide) (by decide) wd_729 wd_730 wd_105 wd_731 ⟨by decide, by decide, by decide +kernel⟩ dX9_plan_153)) (ax_lf_ok (ak_l2i dX9_plan_156))) (ax_nd_ok (ax_lf_ok (ak_iret rfl dX9_plan_157)) (ax_lf_ok (ak_aload_n rfl dX9_plan_158)))))))) (ax_nd_ok (ax_nd_ok (ax_nd_ok (ax_nd_ok (ax_nd_ok (ax_lf_ok (ak_gr fF_X9_53 dX9_plan_159)) (ax_nd_ok (ax_lf_ok (ak_aload dX9_plan_162)) (ax_lf_ok (ak_aload_n rfl dX9_plan_164)))) (ax_nd_ok (ax_nd_ok (ax_lf_ok (ak_gr fF_X9_43 dX9_plan_165)) (ax_lf_ok (ak_aload dX9_plan_168))) (ax_nd_ok (ax_lf_ok (ak_invV (by decide) (by decide) (by decide) rfl wd_883 wd_884 wd_885 wd_103 wd_886 ⟨by decide, by decide, by decide +kernel⟩ dX9_plan_170)) (ax_lf_ok (ak_aload_n rfl dX9_plan_173))))) (ax_nd_ok (ax_nd_ok (ax_nd_ok (ax_lf_ok (ak_gr fF_X9_53 dX9_plan_174)) (ax_lf_ok (ak_gl fF_X9_239 dX9_plan_177))) (ax_nd_ok (ax_lf_ok (ak_aload_n rfl dX9_plan_180)) (ax_lf_ok (ak_gr fF_X9_43 dX9_plan_181)))) (ax_nd_ok (ax_nd_ok (ax_lf_ok (ak_gi fF_X9_152 dX9_plan_184)) (ax_lf_ok (ak_i2l dX9_plan_187))) (ax_nd_ok (ax_lf_ok (ak_iload_n rfl dX9_plan_188)) (ax_lf_ok (ak_iconst (by decide) dX9_plan_189)))))) (ax_nd_ok (ax_nd_ok (ax_nd_ok (ax_nd_ok (ax_lf_ok (ak_icmp_ne (by decide) dX9_plan_190)) (ax_lf_ok (ak_iconst (by decide) dX9_plan_193))) (ax_nd_ok (ax_lf_ok (ak_goto (by decide) dX9_plan_194)) (ax_lf_ok (ak_iconst (by decide) dX9_plan_197)))) (ax_nd_ok (ax_nd_ok (ax_lf_ok (ak_invS (by decide) (by decide) wd_729 wd_730 wd_105 wd_731 ⟨by decide, by decide, by decide +kernel⟩ dX9_plan_198)) (ax_lf_ok (ak_l2i dX9_plan_201))) (ax_nd_ok (ax_lf_ok (ak_iret rfl dX9_plan_202)) (ax_lf_ok (ak_aload_n rfl dX9_plan_203))))) (ax_nd_ok (ax_nd_ok (ax_nd_ok (ax_lf_ok (ak_gr fF_X9_53 dX9_plan_204)) (ax_lf_ok (ak_aload dX9_plan_207))) (ax_nd_ok (ax_lf_ok (ak_aload_n rfl dX9_plan_209)) (ax_lf_ok (ak_gr fF_X9_43 dX9_plan_210)))) (ax_nd_ok (ax_nd_ok (ax_lf_ok (ak_aload dX9_plan_213)) (ax_lf_ok (ak_invV (by decide) (by decide) (by decide) rfl wd_883 wd_884 wd_885 wd_103 wd_886 ⟨by decide, by decide, by decide +kernel⟩ dX9_plan_215))) (ax_nd_ok (ax_lf_ok (ak_aload_n rfl dX9_plan_218)) (ax_lf_ok (ak_gr fF_X9_53 dX9_plan_219))))))) (ax_nd_ok (ax_nd_ok (ax_nd_ok (ax_nd_ok (ax_lf_ok (ak_gl fF_X9_239 dX9_plan_222)) (ax_nd_ok (ax_lf_ok (ak_aload_n rfl dX9_plan_225)) (ax_lf_ok (ak_gr fF_X9_53 dX9_plan_226)))) (ax_nd_ok (ax_nd_ok (ax_lf_ok (ak_gl fF_X9_231 dX9_plan_229)) (ax_lf_ok (ak_lsub dX9_plan_232))) (ax_nd_ok (ax_lf_ok (ak_aload_n rfl dX9_plan_233)) (ax_lf_ok (ak_gr fF_X9_43 dX9_plan_234))))) (ax_nd_ok (ax_nd_ok (ax_nd_ok (ax_lf_ok (ak_gi fF_X9_152 dX9_plan_237)) (ax_lf_ok (ak_i2l dX9_plan_240))) (ax_nd_ok (ax_lf_ok (ak_iload_n rfl dX9_plan_241)) (ax_lf_ok (ak_iconst (by decide) dX9_plan_242)))) (ax_nd_ok (ax_nd_ok (ax_lf_ok (ak_icmp_ne (by decide) dX9_plan_243)) (ax_lf_ok (ak_iconst (by decide) dX9_plan_246))) (ax_nd_ok (ax_lf_ok (ak_goto (by decide) dX9_plan_247)) (ax_lf_ok (ak_iconst (by decide) dX9_plan_250)))))) (ax_nd_ok (ax_nd_ok (ax_nd_ok (ax_nd_ok (ax_lf_ok (ak_invS (by decide) (by decide) wd_729 wd_730 wd_105 wd_731 ⟨by decide, by decide, by decide +kernel⟩ dX9_plan_251)) (ax_lf_ok (ak_l2i dX9_plan_254))) (ax_nd_ok (ax_lf_ok (ak_iret rfl dX9_plan_255)) (ax_lf_ok (ak_aload_n rfl dX9_plan_256)))) (ax_nd_ok (ax_nd_ok (ax_lf_ok (ak_gr fF_X9_53 dX9_plan_257)) (ax_lf_ok (ak_aload dX9_plan_260))) (ax_nd_ok (ax_lf_ok (ak_aload_n rfl dX9_plan_262)) (ax_lf_ok (ak_gr fF_X9_43 dX9_plan_263))))) (ax_nd_ok (ax_nd_ok (ax_nd_ok (ax_lf_ok (ak_aload dX9_plan_266)) (ax_lf_ok (ak_invV (by decide) (by decide) (by decide) rfl wd_883 wd_884 wd_885 wd_103 wd_886 ⟨by decide, by decide, by decide +kernel⟩ dX9_plan_268))) (ax_nd_ok (ax_lf_ok (ak_aload_n rfl dX9_plan_271)) (ax_lf_ok (ak_gr fF_X9_53 dX9_plan_272)))) (ax_nd_ok (ax_nd_ok (ax_lf_ok (ak_gi fF_X9_242 dX9_plan_275)) (ax_lf_ok (ak_iret rfl dX9_plan_278))) (ax_nd_ok (ax_lf_ok (ak_ldc wd_720 dX9_plan_279)) (ax_lf_ok (ak_iret rfl dX9_plan_281))))))))
abbrev mX9_plan (g : ax_G) (as : List Value) (h : ax_H) (Ret : Option Value → ax_H → Prop) : Prop := ax_M g 7 0 0 yX9_plan cX9_plan 6 (some .int) as h Ret
theorem dX9_train_0 : decode cX9_train 0 = .ok (.aload_n 0, 1) := by decide +kernel
theorem dX9_train_1 : decode cX9_train 1 = .ok (.getfield 10, 3) := by decide +kernel
theorem dX9_train_4 : decode cX9_train 4 = .ok (.iconst 3, 1) := by decide +kernel
theorem dX9_train_5 : decode cX9_train 5 = .ok (.iload_n 1, 1) := by decide +kernel
theorem dX9_train_6 : decode cX9_train 6 = .ok (.iload_n 2, 1) := by decide +kernel
theorem dX9_train_7 : decode cX9_train 7 = .ok (.iload_n 3, 1) := by decide +kernel
theorem dX9_train_8 : decode cX9_train 8 = .ok (.bipush (-2), 2) := by decide +kernel
theorem dX9_train_10 : decode cX9_train 10 = .ok (.invokevirtual 220, 3) := by decide +kernel
theorem dX9_train_13 : decode cX9_train 13 = .ok (.ireturn, 1) := by decide +kernel
def tX9_train (g : ax_G) : Nat → ax_O := ax_nd 5 (ax_nd 1 (ax_nd 0 (ax_lf 0 (ao_al 0 1)) (ax_lf 1 (ao_gr 9 0))) (ax_nd 4 (ax_lf 4 (ao_ic (3) 1)) (ax_lf 5 (ao_il 1 1)))) (ax_nd 7 (ax_nd 6 (ax_lf 6 (ao_il 2 1)) (ax_lf 7 (ao_il 3 1))) (ax_nd 8 (ax_lf 8 (ao_ic (-2) 2)) (ax_nd 10 (ax_lf 10 (ao_inv g 3 8 1 yX8_lineCell cX8_lineCell 7 (some .int) 6 0 0 0 0)) (ax_lf 13 (ao_iret 0 0)))))
theorem oX9_train (g : ax_G) : ∀ pc, ax_ok g cX9_train 4 (some .int) RX9 "train" 4 0 0 pc (tX9_train g pc) := ax_nd_ok (ax_nd_ok (ax_nd_ok (ax_lf_ok (ak_aload_n rfl dX9_train_0)) (ax_lf_ok (ak_gr fF_X9_10 dX9_train_1))) (ax_nd_ok (ax_lf_ok (ak_iconst (by decide) dX9_train_4)) (ax_lf_ok (ak_iload_n rfl dX9_train_5)))) (ax_nd_ok (ax_nd_ok (ax_lf_ok (ak_iload_n rfl dX9_train_6)) (ax_lf_ok (ak_iload_n rfl dX9_train_7))) (ax_nd_ok (ax_lf_ok (ak_bipush (by decide) dX9_train_8)) (ax_nd_ok (ax_lf_ok (ak_invV (by decide) (by decide) (by decide) rfl wd_842 wd_843 wd_844 wd_97 wd_845 ⟨by decide, by decide, by decide +kernel⟩ dX9_train_10)) (ax_lf_ok (ak_iret rfl dX9_train_13)))))
abbrev mX9_train (g : ax_G) (as : List Value) (h : ax_H) (Ret : Option Value → ax_H → Prop) : Prop := ax_M g 4 0 0 yX9_train cX9_train 4 (some .int) as h Ret
theorem dX9_holds_0 : decode cX9_holds 0 = .ok (.aload_n 0, 1) := by decide +kernel
theorem dX9_holds_1 : decode cX9_holds 1 = .ok (.getfield 10, 3) := by decide +kernel
theorem dX9_holds_4 : decode cX9_holds 4 = .ok (.iload_n 1, 1) := by decide +kernel
theorem dX9_holds_5 : decode cX9_holds 5 = .ok (.invokevirtual 122, 3) := by decide +kernel
theorem dX9_holds_8 : decode cX9_holds 8 = .ok (.astore 4, 2) := by decide +kernel
theorem dX9_holds_10 : decode cX9_holds 10 = .ok (.aload_n 0, 1) := by decide +kernel
theorem dX9_holds_11 : decode cX9_holds 11 = .ok (.getfield 10, 3) := by decide +kernel
theorem dX9_holds_14 : decode cX9_holds 14 = .ok (.iconst 3, 1) := by decide +kernel
theorem dX9_holds_15 : decode cX9_holds 15 = .ok (.iload_n 2, 1) := by decide +kernel
theorem dX9_holds_16 : decode cX9_holds 16 = .ok (.invokevirtual 159, 3) := by decide +kernel
theorem dX9_holds_19 : decode cX9_holds 19 = .ok (.astore 5, 2) := by decide +kernel
theorem dX9_holds_21 : decode cX9_holds 21 = .ok (.aload 4, 2) := by decide +kernel
theorem dX9_holds_23 : decode cX9_holds 23 = .ok (.ifnull 22, 3) := by decide +kernel
theorem dX9_holds_26 : decode cX9_holds 26 = .ok (.aload 5, 2) := by decide +kernel
theorem dX9_holds_28 : decode cX9_holds 28 = .ok (.ifnull 17, 3) := by decide +kernel
theorem dX9_holds_31 : decode cX9_holds 31 = .ok (.iload_n 3, 1) := by decide +kernel
theorem dX9_holds_32 : decode cX9_holds 32 = .ok (.iconst (-1), 1) := by decide +kernel
theorem dX9_holds_33 : decode cX9_holds 33 = .ok (.if_icmp .eq 16, 3) := by decide +kernel
theorem dX9_holds_36 : decode cX9_holds 36 = .ok (.aload 4, 2) := by decide +kernel
theorem dX9_holds_38 : decode cX9_holds 38 = .ok (.iload_n 3, 1) := by decide +kernel
theorem dX9_holds_39 : decode cX9_holds 39 = .ok (.invokevirtual 142, 3) := by decide +kernel
theorem dX9_holds_42 : decode cX9_holds 42 = .ok (.ifCond .ne 7, 3) := by decide +kernel
theorem dX9_holds_45 : decode cX9_holds 45 = .ok (.sipush (-1000), 3) := by decide +kernel
theorem dX9_holds_48 : decode cX9_holds 48 = .ok (.ireturn, 1) := by decide +kernel
theorem dX9_holds_49 : decode cX9_holds 49 = .ok (.iload_n 3, 1) := by decide +kernel
theorem dX9_holds_50 : decode cX9_holds 50 = .ok (.iconst (-1), 1) := by decide +kernel
theorem dX9_holds_51 : decode cX9_holds 51 = .ok (.if_icmp .eq 18, 3) := by decide +kernel
theorem dX9_holds_54 : decode cX9_holds 54 = .ok (.aload 5, 2) := by decide +kernel
theorem dX9_holds_56 : decode cX9_holds 56 = .ok (.iload_n 3, 1) := by decide +kernel
theorem dX9_holds_57 : decode cX9_holds 57 = .ok (.invokestatic 245, 3) := by decide +kernel
theorem dX9_holds_60 : decode cX9_holds 60 = .ok (.ifCond .eq 7, 3) := by decide +kernel
theorem dX9_holds_63 : decode cX9_holds 63 = .ok (.iconst 1, 1) := by decide +kernel
theorem dX9_holds_64 : decode cX9_holds 64 = .ok (.goto 4, 3) := by decide +kernel
theorem dX9_holds_67 : decode cX9_holds 67 = .ok (.iconst 0, 1) := by decide +kernel
theorem dX9_holds_68 : decode cX9_holds 68 = .ok (.ireturn, 1) := by decide +kernel
theorem dX9_holds_69 : decode cX9_holds 69 = .ok (.sipush 1000, 3) := by decide +kernel
theorem dX9_holds_72 : decode cX9_holds 72 = .ok (.istore 6, 2) := by decide +kernel
theorem dX9_holds_74 : decode cX9_holds 74 = .ok (.iconst 0, 1) := by decide +kernel
theorem dX9_holds_75 : decode cX9_holds 75 = .ok (.istore 7, 2) := by decide +kernel
theorem dX9_holds_77 : decode cX9_holds 77 = .ok (.iload 7, 2) := by decide +kernel
theorem dX9_holds_79 : decode cX9_holds 79 = .ok (.iconst 1, 1) := by decide +kernel
theorem dX9_holds_80 : decode cX9_holds 80 = .ok (.iadd, 1) := by decide +kernel
theorem dX9_holds_81 : decode cX9_holds 81 = .ok (.aload 5, 2) := by decide +kernel
theorem dX9_holds_83 : decode cX9_holds 83 = .ok (.getfield 163, 3) := by decide +kernel
theorem dX9_holds_86 : decode cX9_holds 86 = .ok (.if_icmp .ge 25, 3) := by decide +kernel
theorem dX9_holds_89 : decode cX9_holds 89 = .ok (.iload 6, 2) := by decide +kernel
theorem dX9_holds_91 : decode cX9_holds 91 = .ok (.aload 4, 2) := by decide +kernel
theorem dX9_holds_93 : decode cX9_holds 93 = .ok (.aload 5, 2) := by decide +kernel
theorem dX9_holds_95 : decode cX9_holds 95 = .ok (.iload 7, 2) := by decide +kernel
theorem dX9_holds_97 : decode cX9_holds 97 = .ok (.invokestatic 249, 3) := by decide +kernel
theorem dX9_holds_100 : decode cX9_holds 100 = .ok (.invokestatic 253, 3) := by decide +kernel
theorem dX9_holds_103 : decode cX9_holds 103 = .ok (.istore 6, 2) := by decide +kernel
theorem dX9_holds_105 : decode cX9_holds 105 = .ok (.iinc 7 1, 3) := by decide +kernel
theorem dX9_holds_108 : decode cX9_holds 108 = .ok (.goto (-31), 3) := by decide +kernel
theorem dX9_holds_111 : decode cX9_holds 111 = .ok (.iload 6, 2) := by decide +kernel
theorem dX9_holds_113 : decode cX9_holds 113 = .ok (.ireturn, 1) := by decide +kernel
def tX9_holds (g : ax_G) : Nat → ax_O := ax_nd 54 (ax_nd 26 (ax_nd 11 (ax_nd 4 (ax_nd 0 (ax_lf 0 (ao_al 0 1)) (ax_nd 1 (ax_lf 1 (ao_gr 9 0)) (ax_lf 4 (ao_il 1 1)))) (ax_nd 8 (ax_nd 5 (ax_lf 5 (ao_inv g 1 8 3 yX8_republicAt cX8_republicAt 2 (some (.object "GluedHour$Republic")) 2 0 0 0 0)) (ax_lf 8 (ao_as 4 2))) (ax_nd 10 (ax_lf 10 (ao_al 0 1)) (ax_lf 11 (ao_gr 9 0))))) (ax_nd 16 (ax_nd 14 (ax_lf 14 (ao_ic (3) 1)) (ax_nd 15 (ax_lf 15 (ao_il 2 1)) (ax_lf 16 (ao_inv g 1 8 3 yX8_linesAt cX8_linesAt 3 (some (.object "GluedHour$Lines")) 3 0 0 0 0)))) (ax_nd 21 (ax_nd 19 (ax_lf 19 (ao_as 5 2)) (ax_lf 21 (ao_al 4 2))) (ax_nd 23 (ax_lf 23 (ao_ifnull 45)) (ax_lf 26 (ao_al 5 2)))))) (ax_nd 39 (ax_nd 32 (ax_nd 28 (ax_lf 28 (ao_ifnull 45)) (ax_nd 31 (ax_lf 31 (ao_il 3 1)) (ax_lf 32 (ao_ic (-1) 1)))) (ax_nd 36 (ax_nd 33 (ax_lf 33 (ao_icmp_eq 49)) (ax_lf 36 (ao_al 4 2))) (ax_nd 38 (ax_lf 38 (ao_il 3 1)) (ax_lf 39 (ao_inv g 1 6 1 yX6_hasHour cX6_hasHour 2 (some .boolean) 2 0 0 0 0))))) (ax_nd 48 (ax_nd 42 (ax_lf 42 (ao_if_ne 49)) (ax_nd 45 (ax_lf 45 (ao_ic (-1000) 3)) (ax_lf 48 (ao_iret 0 0)))) (ax_nd 50 (ax_nd 49 (ax_lf 49 (ao_il 3 1)) (ax_lf 50 (ao_ic (-1) 1))) (ax_nd 51 (ax_lf 51 (ao_icmp_eq 69)) (ax_lf 54 (ao_al 5 2))))))) (ax_nd 80 (ax_nd 68 (ax_nd 60 (ax_nd 56 (ax_lf 56 (ao_il 3 1)) (ax_nd 57 (ax_lf 57 (ao_inv g 4 99 1 yX9_keepsBy cX9_keepsBy 3 (some .boolean) 2 0 0 0 0)) (ax_lf 60 (ao_if_eq 67)))) (ax_nd 64 (ax_nd 63 (ax_lf 63 (ao_ic (1) 1)) (ax_lf 64 (ao_goto 68))) (ax_nd 67 (ax_lf 67 (ao_ic (0) 1)) (ax_lf 68 (ao_iret 0 0))))) (ax_nd 74 (ax_nd 69 (ax_lf 69 (ao_ic (1000) 3)) (ax_nd 72 (ax_lf 72 (ao_is 6 2)) (ax_lf 74 (ao_ic (0) 1)))) (ax_nd 77 (ax_nd 75 (ax_lf 75 (ao_is 7 2)) (ax_lf 77 (ao_il 7 2))) (ax_nd 79 (ax_lf 79 (ao_ic (1) 1)) (ax_lf 80 ao_iadd))))) (ax_nd 95 (ax_nd 86 (ax_nd 81 (ax_lf 81 (ao_al 5 2)) (ax_nd 83 (ax_lf 83 (ao_gi 2 3)) (ax_lf 86 (ao_icmp_ge 111)))) (ax_nd 91 (ax_nd 89 (ax_lf 89 (ao_il 6 2)) (ax_lf 91 (ao_al 4 2))) (ax_nd 93 (ax_lf 93 (ao_al 5 2)) (ax_lf 95 (ao_il 7 2))))) (ax_nd 103 (ax_nd 97 (ax_lf 97 (ao_inv g 4 99 1 yX9_slackOf cX9_slackOf 5 (some .int) 3 0 0 0 0)) (ax_nd 100 (ax_lf 100 ao_imin) (ax_lf 103 (ao_is 6 2)))) (ax_nd 108 (ax_nd 105 (ax_lf 105 (ao_iinc 7 (1))) (ax_lf 108 (ao_goto 77))) (ax_nd 111 (ax_lf 111 (ao_il 6 2)) (ax_lf 113 (ao_iret 0 0)))))))
theorem oX9_holds (g : ax_G) : ∀ pc, ax_ok g cX9_holds 8 (some .int) RX9 "holds" 5 0 0 pc (tX9_holds g pc) := ax_nd_ok (ax_nd_ok (ax_nd_ok (ax_nd_ok (ax_nd_ok (ax_lf_ok (ak_aload_n rfl dX9_holds_0)) (ax_nd_ok (ax_lf_ok (ak_gr fF_X9_10 dX9_holds_1)) (ax_lf_ok (ak_iload_n rfl dX9_holds_4)))) (ax_nd_ok (ax_nd_ok (ax_lf_ok (ak_invV (by decide) (by decide) (by decide) rfl wd_649 wd_650 wd_651 wd_97 wd_652 ⟨by decide, by decide, by decide +kernel⟩ dX9_holds_5)) (ax_lf_ok (ak_astore (by decide) dX9_holds_8))) (ax_nd_ok (ax_lf_ok (ak_aload_n rfl dX9_holds_10)) (ax_lf_ok (ak_gr fF_X9_10 dX9_holds_11))))) (ax_nd_ok (ax_nd_ok (ax_lf_ok (ak_iconst (by decide) dX9_holds_14)) (ax_nd_ok (ax_lf_ok (ak_iload_n rfl dX9_holds_15)) (ax_lf_ok (ak_invV (by decide) (by decide) (by decide) rfl wd_745 wd_746 wd_747 wd_97 wd_748 ⟨by decide, by decide, by decide +kernel⟩ dX9_holds_16)))) (ax_nd_ok (ax_nd_ok (ax_lf_ok (ak_astore (by decide) dX9_holds_19)) (ax_lf_ok (ak_aload dX9_holds_21))) (ax_nd_ok (ax_lf_ok (ak_ifnull (by decide) dX9_holds_23)) (ax_lf_ok (ak_aload dX9_holds_26)))))) (ax_nd_ok (ax_nd_ok (ax_nd_ok (ax_lf_ok (ak_ifnull (by decide) dX9_holds_28)) (ax_nd_ok (ax_lf_ok (ak_iload_n rfl dX9_holds_31)) (ax_lf_ok (ak_iconst (by decide) dX9_holds_32)))) (ax_nd_ok (ax_nd_ok (ax_lf_ok (ak_icmp_eq (by decide) dX9_holds_33)) (ax_lf_ok (ak_aload dX9_holds_36))) (ax_nd_ok (ax_lf_ok (ak_iload_n rfl dX9_holds_38)) (ax_lf_ok (ak_invV (by decide) (by decide) (by decide) rfl wd_719 wd_670 wd_671 wd_98 wd_672 ⟨by decide, by decide, by decide +kernel⟩ dX9_holds_39))))) (ax_nd_ok (ax_nd_ok (ax_lf_ok (ak_if_ne (by decide) dX9_holds_42)) (ax_nd_ok (ax_lf_ok (ak_sipush (by decide) dX9_holds_45)) (ax_lf_ok (ak_iret rfl dX9_holds_48)))) (ax_nd_ok (ax_nd_ok (ax_lf_ok (ak_iload_n rfl dX9_holds_49)) (ax_lf_ok (ak_iconst (by decide) dX9_holds_50))) (ax_nd_ok (ax_lf_ok (ak_icmp_eq (by decide) dX9_holds_51)) (ax_lf_ok (ak_aload dX9_holds_54))))))) (ax_nd_ok (ax_nd_ok (ax_nd_ok (ax_nd_ok (ax_lf_ok (ak_iload_n rfl dX9_holds_56)) (ax_nd_ok (ax_lf_ok (ak_invS (by decide) (by decide) wd_903 wd_904 wd_96 wd_905 ⟨by decide, by decide, by decide +kernel⟩ dX9_holds_57)) (ax_lf_ok (ak_if_eq (by decide) dX9_holds_60)))) (ax_nd_ok (ax_nd_ok (ax_lf_ok (ak_iconst (by decide) dX9_holds_63)) (ax_lf_ok (ak_goto (by decide) dX9_holds_64))) (ax_nd_ok (ax_lf_ok (ak_iconst (by decide) dX9_holds_67)) (ax_lf_ok (ak_iret rfl dX9_holds_68))))) (ax_nd_ok (ax_nd_ok (ax_lf_ok (ak_sipush (by decide) dX9_holds_69)) (ax_nd_ok (ax_lf_ok (ak_istore (by decide) dX9_holds_72)) (ax_lf_ok (ak_iconst (by decide) dX9_holds_74)))) (ax_nd_ok (ax_nd_ok (ax_lf_ok (ak_istore (by decide) dX9_holds_75)) (ax_lf_ok (ak_iload dX9_holds_77))) (ax_nd_ok (ax_lf_ok (ak_iconst (by decide) dX9_holds_79)) (ax_lf_ok (ak_iadd dX9_holds_80)))))) (ax_nd_ok (ax_nd_ok (ax_nd_ok (ax_lf_ok (ak_aload dX9_holds_81)) (ax_nd_ok (ax_lf_ok (ak_gi fF_X9_163 dX9_holds_83)) (ax_lf_ok (ak_icmp_ge (by decide) dX9_holds_86)))) (ax_nd_ok (ax_nd_ok (ax_lf_ok (ak_iload dX9_holds_89)) (ax_lf_ok (ak_aload dX9_holds_91))) (ax_nd_ok (ax_lf_ok (ak_aload dX9_holds_93)) (ax_lf_ok (ak_iload dX9_holds_95))))) (ax_nd_ok (ax_nd_ok (ax_lf_ok (ak_invS (by decide) (by decide) wd_915 wd_916 wd_96 wd_917 ⟨by decide, by decide, by decide +kernel⟩ dX9_holds_97)) (ax_nd_ok (ax_lf_ok (ak_imin (by decide) wd_918 wd_472 wd_107 wd_473 dX9_holds_100)) (ax_lf_ok (ak_istore (by decide) dX9_holds_103)))) (ax_nd_ok (ax_nd_ok (ax_lf_ok (ak_iinc (by decide) (by decide) dX9_holds_105)) (ax_lf_ok (ak_goto (by decide) dX9_holds_108))) (ax_nd_ok (ax_lf_ok (ak_iload dX9_holds_111)) (ax_lf_ok (ak_iret rfl dX9_holds_113)))))))
abbrev mX9_holds (g : ax_G) (as : List Value) (h : ax_H) (Ret : Option Value → ax_H → Prop) : Prop := ax_M g 5 0 0 yX9_holds cX9_holds 8 (some .int) as h Ret
theorem dX9_clock_0 : decode cX9_clock 0 = .ok (.aload_n 0, 1) := by decide +kernel
theorem dX9_clock_1 : decode cX9_clock 1 = .ok (.getfield 10, 3) := by decide +kernel
theorem dX9_clock_4 : decode cX9_clock 4 = .ok (.iload_n 1, 1) := by decide +kernel
theorem dX9_clock_5 : decode cX9_clock 5 = .ok (.invokevirtual 122, 3) := by decide +kernel
theorem dX9_clock_8 : decode cX9_clock 8 = .ok (.astore 5, 2) := by decide +kernel
theorem dX9_clock_10 : decode cX9_clock 10 = .ok (.aload_n 0, 1) := by decide +kernel
theorem dX9_clock_11 : decode cX9_clock 11 = .ok (.getfield 10, 3) := by decide +kernel
theorem dX9_clock_14 : decode cX9_clock 14 = .ok (.iconst 3, 1) := by decide +kernel
theorem dX9_clock_15 : decode cX9_clock 15 = .ok (.iload_n 2, 1) := by decide +kernel
theorem dX9_clock_16 : decode cX9_clock 16 = .ok (.invokevirtual 159, 3) := by decide +kernel
theorem dX9_clock_19 : decode cX9_clock 19 = .ok (.astore 6, 2) := by decide +kernel
theorem dX9_clock_21 : decode cX9_clock 21 = .ok (.aload 5, 2) := by decide +kernel
theorem dX9_clock_23 : decode cX9_clock 23 = .ok (.ifnull 17, 3) := by decide +kernel
theorem dX9_clock_26 : decode cX9_clock 26 = .ok (.aload 6, 2) := by decide +kernel
theorem dX9_clock_28 : decode cX9_clock 28 = .ok (.ifnull 12, 3) := by decide +kernel
theorem dX9_clock_31 : decode cX9_clock 31 = .ok (.aload 6, 2) := by decide +kernel
theorem dX9_clock_33 : decode cX9_clock 33 = .ok (.iload_n 3, 1) := by decide +kernel
theorem dX9_clock_34 : decode cX9_clock 34 = .ok (.invokevirtual 168, 3) := by decide +kernel
theorem dX9_clock_37 : decode cX9_clock 37 = .ok (.ifCond .ne 5, 3) := by decide +kernel
theorem dX9_clock_40 : decode cX9_clock 40 = .ok (.iconst (-1), 1) := by decide +kernel
theorem dX9_clock_41 : decode cX9_clock 41 = .ok (.ireturn, 1) := by decide +kernel
theorem dX9_clock_42 : decode cX9_clock 42 = .ok (.iload 4, 2) := by decide +kernel
theorem dX9_clock_44 : decode cX9_clock 44 = .ok (.ifCond .lt 10, 3) := by decide +kernel
theorem dX9_clock_47 : decode cX9_clock 47 = .ok (.iload 4, 2) := by decide +kernel
theorem dX9_clock_49 : decode cX9_clock 49 = .ok (.bipush 12, 2) := by decide +kernel
theorem dX9_clock_51 : decode cX9_clock 51 = .ok (.if_icmp .lt 12, 3) := by decide +kernel
theorem dX9_clock_54 : decode cX9_clock 54 = .ok (.aload 5, 2) := by decide +kernel
theorem dX9_clock_56 : decode cX9_clock 56 = .ok (.aload 6, 2) := by decide +kernel
theorem dX9_clock_58 : decode cX9_clock 58 = .ok (.iload_n 3, 1) := by decide +kernel
theorem dX9_clock_59 : decode cX9_clock 59 = .ok (.invokestatic 256, 3) := by decide +kernel
theorem dX9_clock_62 : decode cX9_clock 62 = .ok (.ireturn, 1) := by decide +kernel
theorem dX9_clock_63 : decode cX9_clock 63 = .ok (.aload 5, 2) := by decide +kernel
theorem dX9_clock_65 : decode cX9_clock 65 = .ok (.iload 4, 2) := by decide +kernel
theorem dX9_clock_67 : decode cX9_clock 67 = .ok (.invokevirtual 142, 3) := by decide +kernel
theorem dX9_clock_70 : decode cX9_clock 70 = .ok (.ifCond .ne 5, 3) := by decide +kernel
theorem dX9_clock_73 : decode cX9_clock 73 = .ok (.iconst (-1), 1) := by decide +kernel
theorem dX9_clock_74 : decode cX9_clock 74 = .ok (.ireturn, 1) := by decide +kernel
theorem dX9_clock_75 : decode cX9_clock 75 = .ok (.aload 6, 2) := by decide +kernel
theorem dX9_clock_77 : decode cX9_clock 77 = .ok (.iload_n 3, 1) := by decide +kernel
theorem dX9_clock_78 : decode cX9_clock 78 = .ok (.iconst 0, 1) := by decide +kernel
theorem dX9_clock_79 : decode cX9_clock 79 = .ok (.invokevirtual 171, 3) := by decide +kernel
theorem dX9_clock_82 : decode cX9_clock 82 = .ok (.iload 4, 2) := by decide +kernel
theorem dX9_clock_84 : decode cX9_clock 84 = .ok (.invokestatic 259, 3) := by decide +kernel
theorem dX9_clock_87 : decode cX9_clock 87 = .ok (.aload 6, 2) := by decide +kernel
theorem dX9_clock_89 : decode cX9_clock 89 = .ok (.iload_n 3, 1) := by decide +kernel
theorem dX9_clock_90 : decode cX9_clock 90 = .ok (.iconst 1, 1) := by decide +kernel
theorem dX9_clock_91 : decode cX9_clock 91 = .ok (.invokevirtual 171, 3) := by decide +kernel
theorem dX9_clock_94 : decode cX9_clock 94 = .ok (.iadd, 1) := by decide +kernel
theorem dX9_clock_95 : decode cX9_clock 95 = .ok (.istore 7, 2) := by decide +kernel
theorem dX9_clock_97 : decode cX9_clock 97 = .ok (.iload 7, 2) := by decide +kernel
theorem dX9_clock_99 : decode cX9_clock 99 = .ok (.iload 4, 2) := by decide +kernel
theorem dX9_clock_101 : decode cX9_clock 101 = .ok (.if_icmp .le 10, 3) := by decide +kernel
theorem dX9_clock_104 : decode cX9_clock 104 = .ok (.iload 7, 2) := by decide +kernel
theorem dX9_clock_106 : decode cX9_clock 106 = .ok (.iconst 1, 1) := by decide +kernel
theorem dX9_clock_107 : decode cX9_clock 107 = .ok (.isub, 1) := by decide +kernel
theorem dX9_clock_108 : decode cX9_clock 108 = .ok (.goto 5, 3) := by decide +kernel
theorem dX9_clock_111 : decode cX9_clock 111 = .ok (.iload 7, 2) := by decide +kernel
theorem dX9_clock_113 : decode cX9_clock 113 = .ok (.ireturn, 1) := by decide +kernel
def tX9_clock (g : ax_G) : Nat → ax_O := ax_nd 58 (ax_nd 26 (ax_nd 11 (ax_nd 4 (ax_nd 0 (ax_lf 0 (ao_al 0 1)) (ax_nd 1 (ax_lf 1 (ao_gr 9 0)) (ax_lf 4 (ao_il 1 1)))) (ax_nd 8 (ax_nd 5 (ax_lf 5 (ao_inv g 1 8 3 yX8_republicAt cX8_republicAt 2 (some (.object "GluedHour$Republic")) 2 0 0 0 0)) (ax_lf 8 (ao_as 5 2))) (ax_nd 10 (ax_lf 10 (ao_al 0 1)) (ax_lf 11 (ao_gr 9 0))))) (ax_nd 16 (ax_nd 14 (ax_lf 14 (ao_ic (3) 1)) (ax_nd 15 (ax_lf 15 (ao_il 2 1)) (ax_lf 16 (ao_inv g 1 8 3 yX8_linesAt cX8_linesAt 3 (some (.object "GluedHour$Lines")) 3 0 0 0 0)))) (ax_nd 21 (ax_nd 19 (ax_lf 19 (ao_as 6 2)) (ax_lf 21 (ao_al 5 2))) (ax_nd 23 (ax_lf 23 (ao_ifnull 40)) (ax_lf 26 (ao_al 6 2)))))) (ax_nd 41 (ax_nd 33 (ax_nd 28 (ax_lf 28 (ao_ifnull 40)) (ax_nd 31 (ax_lf 31 (ao_al 6 2)) (ax_lf 33 (ao_il 3 1)))) (ax_nd 37 (ax_nd 34 (ax_lf 34 (ao_inv g 1 2 1 yX2_has cX2_has 2 (some .boolean) 2 0 0 0 0)) (ax_lf 37 (ao_if_ne 42))) (ax_nd 40 (ax_lf 40 (ao_ic (-1) 1)) (ax_lf 41 (ao_iret 0 0))))) (ax_nd 49 (ax_nd 44 (ax_nd 42 (ax_lf 42 (ao_il 4 2)) (ax_lf 44 (ao_if_lt 54))) (ax_nd 47 (ax_lf 47 (ao_il 4 2)) (ax_lf 49 (ao_ic (12) 2)))) (ax_nd 54 (ax_nd 51 (ax_lf 51 (ao_icmp_lt 63)) (ax_lf 54 (ao_al 5 2))) (ax_nd 56 (ax_lf 56 (ao_al 6 2)) (ax_lf 58 (ao_il 3 1))))))) (ax_nd 84 (ax_nd 73 (ax_nd 63 (ax_nd 59 (ax_lf 59 (ao_inv g 4 99 1 yX9_leastHour cX9_leastHour 5 (some .int) 3 0 0 0 0)) (ax_nd 62 (ax_lf 62 (ao_iret 0 0)) (ax_lf 63 (ao_al 5 2)))) (ax_nd 67 (ax_nd 65 (ax_lf 65 (ao_il 4 2)) (ax_lf 67 (ao_inv g 1 6 1 yX6_hasHour cX6_hasHour 2 (some .boolean) 2 0 0 0 0))) (ax_nd 70 (ax_lf 70 (ao_if_ne 75)) (ax_lf 73 (ao_ic (-1) 1))))) (ax_nd 77 (ax_nd 74 (ax_lf 74 (ao_iret 0 0)) (ax_nd 75 (ax_lf 75 (ao_al 6 2)) (ax_lf 77 (ao_il 3 1)))) (ax_nd 79 (ax_nd 78 (ax_lf 78 (ao_ic (0) 1)) (ax_lf 79 (ao_inv g 2 2 1 yX2_cell cX2_cell 3 (some .int) 3 0 0 0 0))) (ax_nd 82 (ax_lf 82 (ao_il 4 2)) (ax_lf 84 (ao_inv g 1 99 1 yX9_trueTime cX9_trueTime 2 (some .int) 2 0 0 0 0)))))) (ax_nd 97 (ax_nd 90 (ax_nd 87 (ax_lf 87 (ao_al 6 2)) (ax_nd 89 (ax_lf 89 (ao_il 3 1)) (ax_lf 90 (ao_ic (1) 1)))) (ax_nd 94 (ax_nd 91 (ax_lf 91 (ao_inv g 2 2 1 yX2_cell cX2_cell 3 (some .int) 3 0 0 0 0)) (ax_lf 94 ao_iadd)) (ax_nd 95 (ax_lf 95 (ao_is 7 2)) (ax_lf 97 (ao_il 7 2))))) (ax_nd 106 (ax_nd 101 (ax_nd 99 (ax_lf 99 (ao_il 4 2)) (ax_lf 101 (ao_icmp_le 111))) (ax_nd 104 (ax_lf 104 (ao_il 7 2)) (ax_lf 106 (ao_ic (1) 1)))) (ax_nd 108 (ax_nd 107 (ax_lf 107 ao_isub) (ax_lf 108 (ao_goto 113))) (ax_nd 111 (ax_lf 111 (ao_il 7 2)) (ax_lf 113 (ao_iret 0 0)))))))
theorem oX9_clock (g : ax_G) : ∀ pc, ax_ok g cX9_clock 8 (some .int) RX9 "clock" 5 0 0 pc (tX9_clock g pc) := ax_nd_ok (ax_nd_ok (ax_nd_ok (ax_nd_ok (ax_nd_ok (ax_lf_ok (ak_aload_n rfl dX9_clock_0)) (ax_nd_ok (ax_lf_ok (ak_gr fF_X9_10 dX9_clock_1)) (ax_lf_ok (ak_iload_n rfl dX9_clock_4)))) (ax_nd_ok (ax_nd_ok (ax_lf_ok (ak_invV (by decide) (by decide) (by decide) rfl wd_649 wd_650 wd_651 wd_97 wd_652 ⟨by decide, by decide, by decide +kernel⟩ dX9_clock_5)) (ax_lf_ok (ak_astore (by decide) dX9_clock_8))) (ax_nd_ok (ax_lf_ok (ak_aload_n rfl dX9_clock_10)) (ax_lf_ok (ak_gr fF_X9_10 dX9_clock_11))))) (ax_nd_ok (ax_nd_ok (ax_lf_ok (ak_iconst (by decide) dX9_clock_14)) (ax_nd_ok (ax_lf_ok (ak_iload_n rfl dX9_clock_15)) (ax_lf_ok (ak_invV (by decide) (by decide) (by decide) rfl wd_745 wd_746 wd_747 wd_97 wd_748 ⟨by decide, by decide, by decide +kernel⟩ dX9_clock_16)))) (ax_nd_ok (ax_nd_ok (ax_lf_ok (ak_astore (by decide) dX9_clock_19)) (ax_lf_ok (ak_aload dX9_clock_21))) (ax_nd_ok (ax_lf_ok (ak_ifnull (by decide) dX9_clock_23)) (ax_lf_ok (ak_aload dX9_clock_26)))))) (ax_nd_ok (ax_nd_ok (ax_nd_ok (ax_lf_ok (ak_ifnull (by decide) dX9_clock_28)) (ax_nd_ok (ax_lf_ok (ak_aload dX9_clock_31)) (ax_lf_ok (ak_iload_n rfl dX9_clock_33)))) (ax_nd_ok (ax_nd_ok (ax_lf_ok (ak_invV (by decide) (by decide) (by decide) rfl wd_749 wd_750 wd_751 wd_99 wd_752 ⟨by decide, by decide, by decide +kernel⟩ dX9_clock_34)) (ax_lf_ok (ak_if_ne (by decide) dX9_clock_37))) (ax_nd_ok (ax_lf_ok (ak_iconst (by decide) dX9_clock_40)) (ax_lf_ok (ak_iret rfl dX9_clock_41))))) (ax_nd_ok (ax_nd_ok (ax_nd_ok (ax_lf_ok (ak_iload dX9_clock_42)) (ax_lf_ok (ak_if_lt (by decide) dX9_clock_44))) (ax_nd_ok (ax_lf_ok (ak_iload dX9_clock_47)) (ax_lf_ok (ak_bipush (by decide) dX9_clock_49)))) (ax_nd_ok (ax_nd_ok (ax_lf_ok (ak_icmp_lt (by decide) dX9_clock_51)) (ax_lf_ok (ak_aload dX9_clock_54))) (ax_nd_ok (ax_lf_ok (ak_aload dX9_clock_56)) (ax_lf_ok (ak_iload_n rfl dX9_clock_58))))))) (ax_nd_ok (ax_nd_ok (ax_nd_ok (ax_nd_ok (ax_lf_ok (ak_invS (by decide) (by decide) wd_923 wd_924 wd_96 wd_925 ⟨by decide, by decide, by decide +kernel⟩ dX9_clock_59)) (ax_nd_ok (ax_lf_ok (ak_iret rfl dX9_clock_62)) (ax_lf_ok (ak_aload dX9_clock_63)))) (ax_nd_ok (ax_nd_ok (ax_lf_ok (ak_iload dX9_clock_65)) (ax_lf_ok (ak_invV (by decide) (by decide) (by decide) rfl wd_719 wd_670 wd_671 wd_98 wd_672 ⟨by decide, by decide, by decide +kernel⟩ dX9_clock_67))) (ax_nd_ok (ax_lf_ok (ak_if_ne (by decide) dX9_clock_70)) (ax_lf_ok (ak_iconst (by decide) dX9_clock_73))))) (ax_nd_ok (ax_nd_ok (ax_lf_ok (ak_iret rfl dX9_clock_74)) (ax_nd_ok (ax_lf_ok (ak_aload dX9_clock_75)) (ax_lf_ok (ak_iload_n rfl dX9_clock_77)))) (ax_nd_ok (ax_nd_ok (ax_lf_ok (ak_iconst (by decide) dX9_clock_78)) (ax_lf_ok (ak_invV (by decide) (by decide) (by decide) rfl wd_753 wd_754 wd_755 wd_99 wd_756 ⟨by decide, by decide, by decide +kernel⟩ dX9_clock_79))) (ax_nd_ok (ax_lf_ok (ak_iload dX9_clock_82)) (ax_lf_ok (ak_invS (by decide) (by decide) wd_912 wd_913 wd_96 wd_914 ⟨by decide, by decide, by decide +kernel⟩ dX9_clock_84)))))) (ax_nd_ok (ax_nd_ok (ax_nd_ok (ax_lf_ok (ak_aload dX9_clock_87)) (ax_nd_ok (ax_lf_ok (ak_iload_n rfl dX9_clock_89)) (ax_lf_ok (ak_iconst (by decide) dX9_clock_90)))) (ax_nd_ok (ax_nd_ok (ax_lf_ok (ak_invV (by decide) (by decide) (by decide) rfl wd_753 wd_754 wd_755 wd_99 wd_756 ⟨by decide, by decide, by decide +kernel⟩ dX9_clock_91)) (ax_lf_ok (ak_iadd dX9_clock_94))) (ax_nd_ok (ax_lf_ok (ak_istore (by decide) dX9_clock_95)) (ax_lf_ok (ak_iload dX9_clock_97))))) (ax_nd_ok (ax_nd_ok (ax_nd_ok (ax_lf_ok (ak_iload dX9_clock_99)) (ax_lf_ok (ak_icmp_le (by decide) dX9_clock_101))) (ax_nd_ok (ax_lf_ok (ak_iload dX9_clock_104)) (ax_lf_ok (ak_iconst (by decide) dX9_clock_106)))) (ax_nd_ok (ax_nd_ok (ax_lf_ok (ak_isub dX9_clock_107)) (ax_lf_ok (ak_goto (by decide) dX9_clock_108))) (ax_nd_ok (ax_lf_ok (ak_iload dX9_clock_111)) (ax_lf_ok (ak_iret rfl dX9_clock_113)))))))
abbrev mX9_clock (g : ax_G) (as : List Value) (h : ax_H) (Ret : Option Value → ax_H → Prop) : Prop := ax_M g 5 0 0 yX9_clock cX9_clock 8 (some .int) as h Ret
theorem dX9_sight_0 : decode cX9_sight 0 = .ok (.aload_n 0, 1) := by decide +kernel
theorem dX9_sight_1 : decode cX9_sight 1 = .ok (.getfield 10, 3) := by decide +kernel
theorem dX9_sight_4 : decode cX9_sight 4 = .ok (.iconst 4, 1) := by decide +kernel
theorem dX9_sight_5 : decode cX9_sight 5 = .ok (.iload_n 1, 1) := by decide +kernel
theorem dX9_sight_6 : decode cX9_sight 6 = .ok (.iload_n 2, 1) := by decide +kernel
theorem dX9_sight_7 : decode cX9_sight 7 = .ok (.iload_n 3, 1) := by decide +kernel
theorem dX9_sight_8 : decode cX9_sight 8 = .ok (.ldc 145, 2) := by decide +kernel
theorem dX9_sight_10 : decode cX9_sight 10 = .ok (.invokevirtual 220, 3) := by decide +kernel
theorem dX9_sight_13 : decode cX9_sight 13 = .ok (.ireturn, 1) := by decide +kernel
def tX9_sight (g : ax_G) : Nat → ax_O := ax_nd 5 (ax_nd 1 (ax_nd 0 (ax_lf 0 (ao_al 0 1)) (ax_lf 1 (ao_gr 9 0))) (ax_nd 4 (ax_lf 4 (ao_ic (4) 1)) (ax_lf 5 (ao_il 1 1)))) (ax_nd 7 (ax_nd 6 (ax_lf 6 (ao_il 2 1)) (ax_lf 7 (ao_il 3 1))) (ax_nd 8 (ax_lf 8 (ao_ic (-1000000) 2)) (ax_nd 10 (ax_lf 10 (ao_inv g 3 8 1 yX8_lineCell cX8_lineCell 7 (some .int) 6 0 0 0 0)) (ax_lf 13 (ao_iret 0 0)))))
theorem oX9_sight (g : ax_G) : ∀ pc, ax_ok g cX9_sight 4 (some .int) RX9 "sight" 4 0 0 pc (tX9_sight g pc) := ax_nd_ok (ax_nd_ok (ax_nd_ok (ax_lf_ok (ak_aload_n rfl dX9_sight_0)) (ax_lf_ok (ak_gr fF_X9_10 dX9_sight_1))) (ax_nd_ok (ax_lf_ok (ak_iconst (by decide) dX9_sight_4)) (ax_lf_ok (ak_iload_n rfl dX9_sight_5)))) (ax_nd_ok (ax_nd_ok (ax_lf_ok (ak_iload_n rfl dX9_sight_6)) (ax_lf_ok (ak_iload_n rfl dX9_sight_7))) (ax_nd_ok (ax_lf_ok (ak_ldc wd_720 dX9_sight_8)) (ax_nd_ok (ax_lf_ok (ak_invV (by decide) (by decide) (by decide) rfl wd_842 wd_843 wd_844 wd_97 wd_845 ⟨by decide, by decide, by decide +kernel⟩ dX9_sight_10)) (ax_lf_ok (ak_iret rfl dX9_sight_13)))))
abbrev mX9_sight (g : ax_G) (as : List Value) (h : ax_H) (Ret : Option Value → ax_H → Prop) : Prop := ax_M g 4 0 0 yX9_sight cX9_sight 4 (some .int) as h Ret
theorem dX9_fits_0 : decode cX9_fits 0 = .ok (.aload_n 0, 1) := by decide +kernel
theorem dX9_fits_1 : decode cX9_fits 1 = .ok (.iload_n 1, 1) := by decide +kernel
theorem dX9_fits_2 : decode cX9_fits 2 = .ok (.invokevirtual 99, 3) := by decide +kernel
theorem dX9_fits_5 : decode cX9_fits 5 = .ok (.astore 4, 2) := by decide +kernel
theorem dX9_fits_7 : decode cX9_fits 7 = .ok (.aload_n 0, 1) := by decide +kernel
theorem dX9_fits_8 : decode cX9_fits 8 = .ok (.getfield 10, 3) := by decide +kernel
theorem dX9_fits_11 : decode cX9_fits 11 = .ok (.iconst 4, 1) := by decide +kernel
theorem dX9_fits_12 : decode cX9_fits 12 = .ok (.iload_n 2, 1) := by decide +kernel
theorem dX9_fits_13 : decode cX9_fits 13 = .ok (.invokevirtual 159, 3) := by decide +kernel
theorem dX9_fits_16 : decode cX9_fits 16 = .ok (.astore 5, 2) := by decide +kernel
theorem dX9_fits_18 : decode cX9_fits 18 = .ok (.aload 4, 2) := by decide +kernel
theorem dX9_fits_20 : decode cX9_fits 20 = .ok (.ifnull 8, 3) := by decide +kernel
theorem dX9_fits_23 : decode cX9_fits 23 = .ok (.aload 5, 2) := by decide +kernel
theorem dX9_fits_25 : decode cX9_fits 25 = .ok (.ifnonnull 6, 3) := by decide +kernel
theorem dX9_fits_28 : decode cX9_fits 28 = .ok (.bipush (-2), 2) := by decide +kernel
theorem dX9_fits_30 : decode cX9_fits 30 = .ok (.ireturn, 1) := by decide +kernel
theorem dX9_fits_31 : decode cX9_fits 31 = .ok (.aload_n 0, 1) := by decide +kernel
theorem dX9_fits_32 : decode cX9_fits 32 = .ok (.getfield 60, 3) := by decide +kernel
theorem dX9_fits_35 : decode cX9_fits 35 = .ok (.aload 4, 2) := by decide +kernel
theorem dX9_fits_37 : decode cX9_fits 37 = .ok (.aload_n 0, 1) := by decide +kernel
theorem dX9_fits_38 : decode cX9_fits 38 = .ok (.getfield 36, 3) := by decide +kernel
theorem dX9_fits_41 : decode cX9_fits 41 = .ok (.aload 5, 2) := by decide +kernel
theorem dX9_fits_43 : decode cX9_fits 43 = .ok (.invokevirtual 262, 3) := by decide +kernel
theorem dX9_fits_46 : decode cX9_fits 46 = .ok (.iload_n 3, 1) := by decide +kernel
theorem dX9_fits_47 : decode cX9_fits 47 = .ok (.ifCond .ne 11, 3) := by decide +kernel
theorem dX9_fits_50 : decode cX9_fits 50 = .ok (.aload_n 0, 1) := by decide +kernel
theorem dX9_fits_51 : decode cX9_fits 51 = .ok (.getfield 60, 3) := by decide +kernel
theorem dX9_fits_54 : decode cX9_fits 54 = .ok (.getfield 266, 3) := by decide +kernel
theorem dX9_fits_57 : decode cX9_fits 57 = .ok (.ireturn, 1) := by decide +kernel
theorem dX9_fits_58 : decode cX9_fits 58 = .ok (.iload_n 3, 1) := by decide +kernel
theorem dX9_fits_59 : decode cX9_fits 59 = .ok (.bipush 10, 2) := by decide +kernel
theorem dX9_fits_61 : decode cX9_fits 61 = .ok (.if_icmp .lt 29, 3) := by decide +kernel
theorem dX9_fits_64 : decode cX9_fits 64 = .ok (.iload_n 3, 1) := by decide +kernel
theorem dX9_fits_65 : decode cX9_fits 65 = .ok (.bipush 10, 2) := by decide +kernel
theorem dX9_fits_67 : decode cX9_fits 67 = .ok (.aload_n 0, 1) := by decide +kernel
theorem dX9_fits_68 : decode cX9_fits 68 = .ok (.getfield 60, 3) := by decide +kernel
theorem dX9_fits_71 : decode cX9_fits 71 = .ok (.getfield 269, 3) := by decide +kernel
theorem dX9_fits_74 : decode cX9_fits 74 = .ok (.iadd, 1) := by decide +kernel
theorem dX9_fits_75 : decode cX9_fits 75 = .ok (.if_icmp .ge 15, 3) := by decide +kernel
theorem dX9_fits_78 : decode cX9_fits 78 = .ok (.aload_n 0, 1) := by decide +kernel
theorem dX9_fits_79 : decode cX9_fits 79 = .ok (.getfield 60, 3) := by decide +kernel
theorem dX9_fits_82 : decode cX9_fits 82 = .ok (.iload_n 3, 1) := by decide +kernel
theorem dX9_fits_83 : decode cX9_fits 83 = .ok (.bipush 10, 2) := by decide +kernel
theorem dX9_fits_85 : decode cX9_fits 85 = .ok (.isub, 1) := by decide +kernel
theorem dX9_fits_86 : decode cX9_fits 86 = .ok (.invokevirtual 272, 3) := by decide +kernel
theorem dX9_fits_89 : decode cX9_fits 89 = .ok (.ireturn, 1) := by decide +kernel
theorem dX9_fits_90 : decode cX9_fits 90 = .ok (.iload_n 3, 1) := by decide +kernel
theorem dX9_fits_91 : decode cX9_fits 91 = .ok (.bipush 20, 2) := by decide +kernel
theorem dX9_fits_93 : decode cX9_fits 93 = .ok (.if_icmp .lt 30, 3) := by decide +kernel
theorem dX9_fits_96 : decode cX9_fits 96 = .ok (.iload_n 3, 1) := by decide +kernel
theorem dX9_fits_97 : decode cX9_fits 97 = .ok (.bipush 20, 2) := by decide +kernel
theorem dX9_fits_99 : decode cX9_fits 99 = .ok (.aload_n 0, 1) := by decide +kernel
theorem dX9_fits_100 : decode cX9_fits 100 = .ok (.getfield 60, 3) := by decide +kernel
theorem dX9_fits_103 : decode cX9_fits 103 = .ok (.getfield 269, 3) := by decide +kernel
theorem dX9_fits_106 : decode cX9_fits 106 = .ok (.iadd, 1) := by decide +kernel
theorem dX9_fits_107 : decode cX9_fits 107 = .ok (.if_icmp .ge 16, 3) := by decide +kernel
theorem dX9_fits_110 : decode cX9_fits 110 = .ok (.aload_n 0, 1) := by decide +kernel
theorem dX9_fits_111 : decode cX9_fits 111 = .ok (.getfield 60, 3) := by decide +kernel
theorem dX9_fits_114 : decode cX9_fits 114 = .ok (.getfield 275, 3) := by decide +kernel
theorem dX9_fits_117 : decode cX9_fits 117 = .ok (.iload_n 3, 1) := by decide +kernel
theorem dX9_fits_118 : decode cX9_fits 118 = .ok (.bipush 20, 2) := by decide +kernel
theorem dX9_fits_120 : decode cX9_fits 120 = .ok (.isub, 1) := by decide +kernel
theorem dX9_fits_121 : decode cX9_fits 121 = .ok (.iaload, 1) := by decide +kernel
theorem dX9_fits_122 : decode cX9_fits 122 = .ok (.ireturn, 1) := by decide +kernel
theorem dX9_fits_123 : decode cX9_fits 123 = .ok (.bipush (-2), 2) := by decide +kernel
theorem dX9_fits_125 : decode cX9_fits 125 = .ok (.ireturn, 1) := by decide +kernel
def tX9_fits (g : ax_G) : Nat → ax_O := ax_nd 64 (ax_nd 30 (ax_nd 12 (ax_nd 5 (ax_nd 1 (ax_nd 0 (ax_lf 0 (ao_al 0 1)) (ax_lf 1 (ao_il 1 1))) (ax_nd 2 (ax_lf 2 (ao_inv g 5 9 3 yX9_begun cX9_begun 3 (some (.object "GluedHour$Republic")) 2 0 0 0 0)) (ax_lf 5 (ao_as 4 2)))) (ax_nd 8 (ax_nd 7 (ax_lf 7 (ao_al 0 1)) (ax_lf 8 (ao_gr 9 0))) (ax_nd 11 (ax_lf 11 (ao_ic (4) 1)) (ax_lf 12 (ao_il 2 1))))) (ax_nd 20 (ax_nd 16 (ax_nd 13 (ax_lf 13 (ao_inv g 1 8 3 yX8_linesAt cX8_linesAt 3 (some (.object "GluedHour$Lines")) 3 0 0 0 0)) (ax_lf 16 (ao_as 5 2))) (ax_nd 18 (ax_lf 18 (ao_al 4 2)) (ax_lf 20 (ao_ifnull 28)))) (ax_nd 25 (ax_nd 23 (ax_lf 23 (ao_al 5 2)) (ax_lf 25 (ao_ifnonnull 31))) (ax_nd 28 (ax_lf 28 (ao_ic (-2) 2)) (ax_lf 30 (ao_iret 0 0)))))) (ax_nd 46 (ax_nd 37 (ax_nd 32 (ax_nd 31 (ax_lf 31 (ao_al 0 1)) (ax_lf 32 (ao_gr 9 7))) (ax_nd 35 (ax_lf 35 (ao_al 4 2)) (ax_lf 37 (ao_al 0 1)))) (ax_nd 41 (ax_nd 38 (ax_lf 38 (ao_gr 9 3)) (ax_lf 41 (ao_al 5 2))) (ax_nd 43 (ax_lf 43 (ao_inv g 13 7 0 yX7_run cX7_run 5 none 4 0 0 0 0)) (ax_lf 46 (ao_il 3 1))))) (ax_nd 54 (ax_nd 50 (ax_nd 47 (ax_lf 47 (ao_if_ne 58)) (ax_lf 50 (ao_al 0 1))) (ax_nd 51 (ax_lf 51 (ao_gr 9 7)) (ax_lf 54 (ao_gi 7 2)))) (ax_nd 58 (ax_nd 57 (ax_lf 57 (ao_iret 0 0)) (ax_lf 58 (ao_il 3 1))) (ax_nd 59 (ax_lf 59 (ao_ic (10) 2)) (ax_nd 61 (ax_lf 61 (ao_icmp_lt 90)) (ax_lf 64 (ao_il 3 1)))))))) (ax_nd 93 (ax_nd 79 (ax_nd 71 (ax_nd 67 (ax_nd 65 (ax_lf 65 (ao_ic (10) 2)) (ax_lf 67 (ao_al 0 1))) (ax_nd 68 (ax_lf 68 (ao_gr 9 7)) (ax_lf 71 (ao_gi 7 1)))) (ax_nd 75 (ax_nd 74 (ax_lf 74 ao_iadd) (ax_lf 75 (ao_icmp_ge 90))) (ax_nd 78 (ax_lf 78 (ao_al 0 1)) (ax_lf 79 (ao_gr 9 7))))) (ax_nd 86 (ax_nd 83 (ax_nd 82 (ax_lf 82 (ao_il 3 1)) (ax_lf 83 (ao_ic (10) 2))) (ax_nd 85 (ax_lf 85 ao_isub) (ax_lf 86 (ao_inv g 1 7 1 yX7_sureHour cX7_sureHour 3 (some .int) 2 0 0 0 0)))) (ax_nd 90 (ax_nd 89 (ax_lf 89 (ao_iret 0 0)) (ax_lf 90 (ao_il 3 1))) (ax_nd 91 (ax_lf 91 (ao_ic (20) 2)) (ax_lf 93 (ao_icmp_lt 123)))))) (ax_nd 110 (ax_nd 100 (ax_nd 97 (ax_nd 96 (ax_lf 96 (ao_il 3 1)) (ax_lf 97 (ao_ic (20) 2))) (ax_nd 99 (ax_lf 99 (ao_al 0 1)) (ax_lf 100 (ao_gr 9 7)))) (ax_nd 106 (ax_nd 103 (ax_lf 103 (ao_gi 7 1)) (ax_lf 106 ao_iadd)) (ax_nd 107 (ax_lf 107 (ao_icmp_ge 123)) (ax_lf 110 (ao_al 0 1))))) (ax_nd 118 (ax_nd 114 (ax_nd 111 (ax_lf 111 (ao_gr 9 7)) (ax_lf 114 (ao_gr 7 0))) (ax_nd 117 (ax_lf 117 (ao_il 3 1)) (ax_lf 118 (ao_ic (20) 2)))) (ax_nd 121 (ax_nd 120 (ax_lf 120 ao_isub) (ax_lf 121 ao_iald)) (ax_nd 122 (ax_lf 122 (ao_iret 0 0)) (ax_nd 123 (ax_lf 123 (ao_ic (-2) 2)) (ax_lf 125 (ao_iret 0 0))))))))
theorem oX9_fits (g : ax_G) : ∀ pc, ax_ok g cX9_fits 6 (some .int) RX9 "fits" 14 0 0 pc (tX9_fits g pc) := ax_nd_ok (ax_nd_ok (ax_nd_ok (ax_nd_ok (ax_nd_ok (ax_nd_ok (ax_lf_ok (ak_aload_n rfl dX9_fits_0)) (ax_lf_ok (ak_iload_n rfl dX9_fits_1))) (ax_nd_ok (ax_lf_ok (ak_invV (by decide) (by decide) (by decide) rfl wd_645 wd_647 wd_13 wd_96 wd_648 ⟨by decide, by decide, by decide +kernel⟩ dX9_fits_2)) (ax_lf_ok (ak_astore (by decide) dX9_fits_5)))) (ax_nd_ok (ax_nd_ok (ax_lf_ok (ak_aload_n rfl dX9_fits_7)) (ax_lf_ok (ak_gr fF_X9_10 dX9_fits_8))) (ax_nd_ok (ax_lf_ok (ak_iconst (by decide) dX9_fits_11)) (ax_lf_ok (ak_iload_n rfl dX9_fits_12))))) (ax_nd_ok (ax_nd_ok (ax_nd_ok (ax_lf_ok (ak_invV (by decide) (by decide) (by decide) rfl wd_745 wd_746 wd_747 wd_97 wd_748 ⟨by decide, by decide, by decide +kernel⟩ dX9_fits_13)) (ax_lf_ok (ak_astore (by decide) dX9_fits_16))) (ax_nd_ok (ax_lf_ok (ak_aload dX9_fits_18)) (ax_lf_ok (ak_ifnull (by decide) dX9_fits_20)))) (ax_nd_ok (ax_nd_ok (ax_lf_ok (ak_aload dX9_fits_23)) (ax_lf_ok (ak_ifnonnull (by decide) dX9_fits_25))) (ax_nd_ok (ax_lf_ok (ak_bipush (by decide) dX9_fits_28)) (ax_lf_ok (ak_iret rfl dX9_fits_30)))))) (ax_nd_ok (ax_nd_ok (ax_nd_ok (ax_nd_ok (ax_lf_ok (ak_aload_n rfl dX9_fits_31)) (ax_lf_ok (ak_gr fF_X9_60 dX9_fits_32))) (ax_nd_ok (ax_lf_ok (ak_aload dX9_fits_35)) (ax_lf_ok (ak_aload_n rfl dX9_fits_37)))) (ax_nd_ok (ax_nd_ok (ax_lf_ok (ak_gr fF_X9_36 dX9_fits_38)) (ax_lf_ok (ak_aload dX9_fits_41))) (ax_nd_ok (ax_lf_ok (ak_invV (by decide) (by decide) (by decide) rfl wd_937 wd_938 wd_939 wd_104 wd_940 ⟨by decide, by decide, by decide +kernel⟩ dX9_fits_43)) (ax_lf_ok (ak_iload_n rfl dX9_fits_46))))) (ax_nd_ok (ax_nd_ok (ax_nd_ok (ax_lf_ok (ak_if_ne (by decide) dX9_fits_47)) (ax_lf_ok (ak_aload_n rfl dX9_fits_50))) (ax_nd_ok (ax_lf_ok (ak_gr fF_X9_60 dX9_fits_51)) (ax_lf_ok (ak_gi fF_X9_266 dX9_fits_54)))) (ax_nd_ok (ax_nd_ok (ax_lf_ok (ak_iret rfl dX9_fits_57)) (ax_lf_ok (ak_iload_n rfl dX9_fits_58))) (ax_nd_ok (ax_lf_ok (ak_bipush (by decide) dX9_fits_59)) (ax_nd_ok (ax_lf_ok (ak_icmp_lt (by decide) dX9_fits_61)) (ax_lf_ok (ak_iload_n rfl dX9_fits_64)))))))) (ax_nd_ok (ax_nd_ok (ax_nd_ok (ax_nd_ok (ax_nd_ok (ax_lf_ok (ak_bipush (by decide) dX9_fits_65)) (ax_lf_ok (ak_aload_n rfl dX9_fits_67))) (ax_nd_ok (ax_lf_ok (ak_gr fF_X9_60 dX9_fits_68)) (ax_lf_ok (ak_gi fF_X9_269 dX9_fits_71)))) (ax_nd_ok (ax_nd_ok (ax_lf_ok (ak_iadd dX9_fits_74)) (ax_lf_ok (ak_icmp_ge (by decide) dX9_fits_75))) (ax_nd_ok (ax_lf_ok (ak_aload_n rfl dX9_fits_78)) (ax_lf_ok (ak_gr fF_X9_60 dX9_fits_79))))) (ax_nd_ok (ax_nd_ok (ax_nd_ok (ax_lf_ok (ak_iload_n rfl dX9_fits_82)) (ax_lf_ok (ak_bipush (by decide) dX9_fits_83))) (ax_nd_ok (ax_lf_ok (ak_isub dX9_fits_85)) (ax_lf_ok (ak_invV (by decide) (by decide) (by decide) rfl wd_963 wd_964 wd_965 wd_104 wd_966 ⟨by decide, by decide, by decide +kernel⟩ dX9_fits_86)))) (ax_nd_ok (ax_nd_ok (ax_lf_ok (ak_iret rfl dX9_fits_89)) (ax_lf_ok (ak_iload_n rfl dX9_fits_90))) (ax_nd_ok (ax_lf_ok (ak_bipush (by decide) dX9_fits_91)) (ax_lf_ok (ak_icmp_lt (by decide) dX9_fits_93)))))) (ax_nd_ok (ax_nd_ok (ax_nd_ok (ax_nd_ok (ax_lf_ok (ak_iload_n rfl dX9_fits_96)) (ax_lf_ok (ak_bipush (by decide) dX9_fits_97))) (ax_nd_ok (ax_lf_ok (ak_aload_n rfl dX9_fits_99)) (ax_lf_ok (ak_gr fF_X9_60 dX9_fits_100)))) (ax_nd_ok (ax_nd_ok (ax_lf_ok (ak_gi fF_X9_269 dX9_fits_103)) (ax_lf_ok (ak_iadd dX9_fits_106))) (ax_nd_ok (ax_lf_ok (ak_icmp_ge (by decide) dX9_fits_107)) (ax_lf_ok (ak_aload_n rfl dX9_fits_110))))) (ax_nd_ok (ax_nd_ok (ax_nd_ok (ax_lf_ok (ak_gr fF_X9_60 dX9_fits_111)) (ax_lf_ok (ak_gr fF_X9_275 dX9_fits_114))) (ax_nd_ok (ax_lf_ok (ak_iload_n rfl dX9_fits_117)) (ax_lf_ok (ak_bipush (by decide) dX9_fits_118)))) (ax_nd_ok (ax_nd_ok (ax_lf_ok (ak_isub dX9_fits_120)) (ax_lf_ok (ak_iald dX9_fits_121))) (ax_nd_ok (ax_lf_ok (ak_iret rfl dX9_fits_122)) (ax_nd_ok (ax_lf_ok (ak_bipush (by decide) dX9_fits_123)) (ax_lf_ok (ak_iret rfl dX9_fits_125))))))))
abbrev mX9_fits (g : ax_G) (as : List Value) (h : ax_H) (Ret : Option Value → ax_H → Prop) : Prop := ax_M g 14 0 0 yX9_fits cX9_fits 6 (some .int) as h Ret
theorem dX9_reign_0 : decode cX9_reign 0 = .ok (.aload_n 0, 1) := by decide +kernel
theorem dX9_reign_1 : decode cX9_reign 1 = .ok (.iload_n 1, 1) := by decide +kernel
theorem dX9_reign_2 : decode cX9_reign 2 = .ok (.invokevirtual 99, 3) := by decide +kernel
theorem dX9_reign_5 : decode cX9_reign 5 = .ok (.astore 4, 2) := by decide +kernel
theorem dX9_reign_7 : decode cX9_reign 7 = .ok (.aload 4, 2) := by decide +kernel
theorem dX9_reign_9 : decode cX9_reign 9 = .ok (.ifnull 13, 3) := by decide +kernel
theorem dX9_reign_12 : decode cX9_reign 12 = .ok (.iload_n 2, 1) := by decide +kernel
theorem dX9_reign_13 : decode cX9_reign 13 = .ok (.ifCond .lt 9, 3) := by decide +kernel
theorem dX9_reign_16 : decode cX9_reign 16 = .ok (.iload_n 2, 1) := by decide +kernel
theorem dX9_reign_17 : decode cX9_reign 17 = .ok (.bipush 60, 2) := by decide +kernel
theorem dX9_reign_19 : decode cX9_reign 19 = .ok (.if_icmp .le 6, 3) := by decide +kernel
theorem dX9_reign_22 : decode cX9_reign 22 = .ok (.ldc 145, 2) := by decide +kernel
theorem dX9_reign_24 : decode cX9_reign 24 = .ok (.ireturn, 1) := by decide +kernel
theorem dX9_reign_25 : decode cX9_reign 25 = .ok (.iconst (-1), 1) := by decide +kernel
theorem dX9_reign_26 : decode cX9_reign 26 = .ok (.istore 5, 2) := by decide +kernel
theorem dX9_reign_28 : decode cX9_reign 28 = .ok (.iconst 0, 1) := by decide +kernel
theorem dX9_reign_29 : decode cX9_reign 29 = .ok (.istore 6, 2) := by decide +kernel
theorem dX9_reign_31 : decode cX9_reign 31 = .ok (.ldc 145, 2) := by decide +kernel
theorem dX9_reign_33 : decode cX9_reign 33 = .ok (.istore 7, 2) := by decide +kernel
theorem dX9_reign_35 : decode cX9_reign 35 = .ok (.iconst 0, 1) := by decide +kernel
theorem dX9_reign_36 : decode cX9_reign 36 = .ok (.istore 8, 2) := by decide +kernel
theorem dX9_reign_38 : decode cX9_reign 38 = .ok (.iload 8, 2) := by decide +kernel
theorem dX9_reign_40 : decode cX9_reign 40 = .ok (.iload_n 2, 1) := by decide +kernel
theorem dX9_reign_41 : decode cX9_reign 41 = .ok (.if_icmp .ge 112, 3) := by decide +kernel
theorem dX9_reign_44 : decode cX9_reign 44 = .ok (.aload_n 0, 1) := by decide +kernel
theorem dX9_reign_45 : decode cX9_reign 45 = .ok (.getfield 36, 3) := by decide +kernel
theorem dX9_reign_48 : decode cX9_reign 48 = .ok (.invokevirtual 118, 3) := by decide +kernel
theorem dX9_reign_51 : decode cX9_reign 51 = .ok (.istore 9, 2) := by decide +kernel
theorem dX9_reign_53 : decode cX9_reign 53 = .ok (.iload 9, 2) := by decide +kernel
theorem dX9_reign_55 : decode cX9_reign 55 = .ok (.iconst (-1), 1) := by decide +kernel
theorem dX9_reign_56 : decode cX9_reign 56 = .ok (.if_icmp .ne 7, 3) := by decide +kernel
theorem dX9_reign_59 : decode cX9_reign 59 = .ok (.iconst 0, 1) := by decide +kernel
theorem dX9_reign_60 : decode cX9_reign 60 = .ok (.goto 12, 3) := by decide +kernel
theorem dX9_reign_63 : decode cX9_reign 63 = .ok (.aload_n 0, 1) := by decide +kernel
theorem dX9_reign_64 : decode cX9_reign 64 = .ok (.getfield 36, 3) := by decide +kernel
theorem dX9_reign_67 : decode cX9_reign 67 = .ok (.iload 9, 2) := by decide +kernel
theorem dX9_reign_69 : decode cX9_reign 69 = .ok (.invokevirtual 202, 3) := by decide +kernel
theorem dX9_reign_72 : decode cX9_reign 72 = .ok (.istore 10, 2) := by decide +kernel
theorem dX9_reign_74 : decode cX9_reign 74 = .ok (.aload_n 0, 1) := by decide +kernel
theorem dX9_reign_75 : decode cX9_reign 75 = .ok (.getfield 36, 3) := by decide +kernel
theorem dX9_reign_78 : decode cX9_reign 78 = .ok (.iload 10, 2) := by decide +kernel
theorem dX9_reign_80 : decode cX9_reign 80 = .ok (.invokevirtual 178, 3) := by decide +kernel
theorem dX9_reign_83 : decode cX9_reign 83 = .ok (.iload 5, 2) := by decide +kernel
theorem dX9_reign_85 : decode cX9_reign 85 = .ok (.iconst (-1), 1) := by decide +kernel
theorem dX9_reign_86 : decode cX9_reign 86 = .ok (.if_icmp .ne 20, 3) := by decide +kernel
theorem dX9_reign_89 : decode cX9_reign 89 = .ok (.aload_n 0, 1) := by decide +kernel
theorem dX9_reign_90 : decode cX9_reign 90 = .ok (.getfield 36, 3) := by decide +kernel
theorem dX9_reign_93 : decode cX9_reign 93 = .ok (.invokevirtual 118, 3) := by decide +kernel
theorem dX9_reign_96 : decode cX9_reign 96 = .ok (.iload 9, 2) := by decide +kernel
theorem dX9_reign_98 : decode cX9_reign 98 = .ok (.if_icmp .eq 8, 3) := by decide +kernel
theorem dX9_reign_101 : decode cX9_reign 101 = .ok (.iload 8, 2) := by decide +kernel
theorem dX9_reign_103 : decode cX9_reign 103 = .ok (.goto 5, 3) := by decide +kernel
theorem dX9_reign_106 : decode cX9_reign 106 = .ok (.iload 5, 2) := by decide +kernel
theorem dX9_reign_108 : decode cX9_reign 108 = .ok (.istore 5, 2) := by decide +kernel
theorem dX9_reign_110 : decode cX9_reign 110 = .ok (.iload 6, 2) := by decide +kernel
theorem dX9_reign_112 : decode cX9_reign 112 = .ok (.iload 9, 2) := by decide +kernel
theorem dX9_reign_114 : decode cX9_reign 114 = .ok (.iload_n 3, 1) := by decide +kernel
theorem dX9_reign_115 : decode cX9_reign 115 = .ok (.bipush 20, 2) := by decide +kernel
theorem dX9_reign_117 : decode cX9_reign 117 = .ok (.isub, 1) := by decide +kernel
theorem dX9_reign_118 : decode cX9_reign 118 = .ok (.if_icmp .ne 7, 3) := by decide +kernel
theorem dX9_reign_121 : decode cX9_reign 121 = .ok (.iconst 1, 1) := by decide +kernel
theorem dX9_reign_122 : decode cX9_reign 122 = .ok (.goto 4, 3) := by decide +kernel
theorem dX9_reign_125 : decode cX9_reign 125 = .ok (.iconst 0, 1) := by decide +kernel
theorem dX9_reign_126 : decode cX9_reign 126 = .ok (.iadd, 1) := by decide +kernel
theorem dX9_reign_127 : decode cX9_reign 127 = .ok (.istore 6, 2) := by decide +kernel
theorem dX9_reign_129 : decode cX9_reign 129 = .ok (.iload 8, 2) := by decide +kernel
theorem dX9_reign_131 : decode cX9_reign 131 = .ok (.iload_n 3, 1) := by decide +kernel
theorem dX9_reign_132 : decode cX9_reign 132 = .ok (.bipush 100, 2) := by decide +kernel
theorem dX9_reign_134 : decode cX9_reign 134 = .ok (.isub, 1) := by decide +kernel
theorem dX9_reign_135 : decode cX9_reign 135 = .ok (.if_icmp .ne 8, 3) := by decide +kernel
theorem dX9_reign_138 : decode cX9_reign 138 = .ok (.iload 10, 2) := by decide +kernel
theorem dX9_reign_140 : decode cX9_reign 140 = .ok (.goto 5, 3) := by decide +kernel
theorem dX9_reign_143 : decode cX9_reign 143 = .ok (.iload 7, 2) := by decide +kernel
theorem dX9_reign_145 : decode cX9_reign 145 = .ok (.istore 7, 2) := by decide +kernel
theorem dX9_reign_147 : decode cX9_reign 147 = .ok (.iinc 8 1, 3) := by decide +kernel
theorem dX9_reign_150 : decode cX9_reign 150 = .ok (.goto (-112), 3) := by decide +kernel
theorem dX9_reign_153 : decode cX9_reign 153 = .ok (.aload 4, 2) := by decide +kernel
theorem dX9_reign_155 : decode cX9_reign 155 = .ok (.iload_n 3, 1) := by decide +kernel
theorem dX9_reign_156 : decode cX9_reign 156 = .ok (.invokevirtual 125, 3) := by decide +kernel
theorem dX9_reign_159 : decode cX9_reign 159 = .ok (.ifCond .eq 13, 3) := by decide +kernel
theorem dX9_reign_162 : decode cX9_reign 162 = .ok (.aload_n 0, 1) := by decide +kernel
theorem dX9_reign_163 : decode cX9_reign 163 = .ok (.getfield 36, 3) := by decide +kernel
theorem dX9_reign_166 : decode cX9_reign 166 = .ok (.getfield 181, 3) := by decide +kernel
theorem dX9_reign_169 : decode cX9_reign 169 = .ok (.iload_n 3, 1) := by decide +kernel
theorem dX9_reign_170 : decode cX9_reign 170 = .ok (.iaload, 1) := by decide +kernel
theorem dX9_reign_171 : decode cX9_reign 171 = .ok (.ireturn, 1) := by decide +kernel
theorem dX9_reign_172 : decode cX9_reign 172 = .ok (.iload_n 3, 1) := by decide +kernel
theorem dX9_reign_173 : decode cX9_reign 173 = .ok (.bipush 10, 2) := by decide +kernel
theorem dX9_reign_175 : decode cX9_reign 175 = .ok (.if_icmp .ne 11, 3) := by decide +kernel
theorem dX9_reign_178 : decode cX9_reign 178 = .ok (.aload_n 0, 1) := by decide +kernel
theorem dX9_reign_179 : decode cX9_reign 179 = .ok (.getfield 36, 3) := by decide +kernel
theorem dX9_reign_182 : decode cX9_reign 182 = .ok (.invokevirtual 118, 3) := by decide +kernel
theorem dX9_reign_185 : decode cX9_reign 185 = .ok (.ireturn, 1) := by decide +kernel
theorem dX9_reign_186 : decode cX9_reign 186 = .ok (.iload_n 3, 1) := by decide +kernel
theorem dX9_reign_187 : decode cX9_reign 187 = .ok (.bipush 11, 2) := by decide +kernel
theorem dX9_reign_189 : decode cX9_reign 189 = .ok (.if_icmp .ne 6, 3) := by decide +kernel
theorem dX9_reign_192 : decode cX9_reign 192 = .ok (.iload 5, 2) := by decide +kernel
theorem dX9_reign_194 : decode cX9_reign 194 = .ok (.ireturn, 1) := by decide +kernel
theorem dX9_reign_195 : decode cX9_reign 195 = .ok (.aload 4, 2) := by decide +kernel
theorem dX9_reign_197 : decode cX9_reign 197 = .ok (.iload_n 3, 1) := by decide +kernel
theorem dX9_reign_198 : decode cX9_reign 198 = .ok (.bipush 20, 2) := by decide +kernel
theorem dX9_reign_200 : decode cX9_reign 200 = .ok (.isub, 1) := by decide +kernel
theorem dX9_reign_201 : decode cX9_reign 201 = .ok (.invokevirtual 125, 3) := by decide +kernel
theorem dX9_reign_204 : decode cX9_reign 204 = .ok (.ifCond .eq 8, 3) := by decide +kernel
theorem dX9_reign_207 : decode cX9_reign 207 = .ok (.iload 6, 2) := by decide +kernel
theorem dX9_reign_209 : decode cX9_reign 209 = .ok (.goto 5, 3) := by decide +kernel
theorem dX9_reign_212 : decode cX9_reign 212 = .ok (.iload 7, 2) := by decide +kernel
theorem dX9_reign_214 : decode cX9_reign 214 = .ok (.ireturn, 1) := by decide +kernel
def tX9_reign (g : ax_G) : Nat → ax_O := ax_nd 108 (ax_nd 48 (ax_nd 24 (ax_nd 9 (ax_nd 2 (ax_nd 0 (ax_lf 0 (ao_al 0 1)) (ax_nd 1 (ax_lf 1 (ao_il 1 1)) (ax_lf 2 (ao_inv g 5 9 3 yX9_begun cX9_begun 3 (some (.object "GluedHour$Republic")) 2 0 0 0 0)))) (ax_nd 5 (ax_lf 5 (ao_as 4 2)) (ax_nd 7 (ax_lf 7 (ao_al 4 2)) (ax_lf 9 (ao_ifnull 22))))) (ax_nd 16 (ax_nd 12 (ax_lf 12 (ao_il 2 1)) (ax_nd 13 (ax_lf 13 (ao_if_lt 22)) (ax_lf 16 (ao_il 2 1)))) (ax_nd 19 (ax_nd 17 (ax_lf 17 (ao_ic (60) 2)) (ax_lf 19 (ao_icmp_le 25))) (ax_nd 22 (ax_lf 22 (ao_ic (-1000000) 2)) (ax_lf 24 (ao_iret 0 0)))))) (ax_nd 35 (ax_nd 28 (ax_nd 25 (ax_lf 25 (ao_ic (-1) 1)) (ax_nd 26 (ax_lf 26 (ao_is 5 2)) (ax_lf 28 (ao_ic (0) 1)))) (ax_nd 31 (ax_nd 29 (ax_lf 29 (ao_is 6 2)) (ax_lf 31 (ao_ic (-1000000) 2))) (ax_nd 33 (ax_lf 33 (ao_is 7 2)) (ax_lf 35 (ao_ic (0) 1))))) (ax_nd 40 (ax_nd 36 (ax_lf 36 (ao_is 8 2)) (ax_nd 38 (ax_lf 38 (ao_il 8 2)) (ax_lf 40 (ao_il 2 1)))) (ax_nd 44 (ax_nd 41 (ax_lf 41 (ao_icmp_ge 153)) (ax_lf 44 (ao_al 0 1))) (ax_nd 45 (ax_lf 45 (ao_gr 9 3)) (ax_lf 48 (ao_inv g 1 0 1 yX0_poorest cX0_poorest 3 (some .int) 1 0 0 0 0))))))) (ax_nd 75 (ax_nd 60 (ax_nd 55 (ax_nd 51 (ax_lf 51 (ao_is 9 2)) (ax_nd 53 (ax_lf 53 (ao_il 9 2)) (ax_lf 55 (ao_ic (-1) 1)))) (ax_nd 56 (ax_lf 56 (ao_icmp_ne 63)) (ax_nd 59 (ax_lf 59 (ao_ic (0) 1)) (ax_lf 60 (ao_goto 72))))) (ax_nd 67 (ax_nd 63 (ax_lf 63 (ao_al 0 1)) (ax_nd 64 (ax_lf 64 (ao_gr 9 3)) (ax_lf 67 (ao_il 9 2)))) (ax_nd 72 (ax_nd 69 (ax_lf 69 (ao_inv g 2 0 1 yX0_bestHour cX0_bestHour 6 (some .int) 2 0 0 0 0)) (ax_lf 72 (ao_is 10 2))) (ax_nd 74 (ax_lf 74 (ao_al 0 1)) (ax_lf 75 (ao_gr 9 3)))))) (ax_nd 90 (ax_nd 83 (ax_nd 78 (ax_lf 78 (ao_il 10 2)) (ax_nd 80 (ax_lf 80 (ao_inv g 2 0 0 yX0_live cX0_live 3 none 2 0 0 0 0)) (ax_lf 83 (ao_il 5 2)))) (ax_nd 86 (ax_nd 85 (ax_lf 85 (ao_ic (-1) 1)) (ax_lf 86 (ao_icmp_ne 106))) (ax_nd 89 (ax_lf 89 (ao_al 0 1)) (ax_lf 90 (ao_gr 9 3))))) (ax_nd 98 (ax_nd 93 (ax_lf 93 (ao_inv g 1 0 1 yX0_poorest cX0_poorest 3 (some .int) 1 0 0 0 0)) (ax_nd 96 (ax_lf 96 (ao_il 9 2)) (ax_lf 98 (ao_icmp_eq 106)))) (ax_nd 103 (ax_nd 101 (ax_lf 101 (ao_il 8 2)) (ax_lf 103 (ao_goto 108))) (ax_nd 106 (ax_lf 106 (ao_il 5 2)) (ax_lf 108 (ao_is 5 2)))))))) (ax_nd 162 (ax_nd 131 (ax_nd 118 (ax_nd 114 (ax_nd 110 (ax_lf 110 (ao_il 6 2)) (ax_nd 112 (ax_lf 112 (ao_il 9 2)) (ax_lf 114 (ao_il 3 1)))) (ax_nd 115 (ax_lf 115 (ao_ic (20) 2)) (ax_nd 117 (ax_lf 117 ao_isub) (ax_lf 118 (ao_icmp_ne 125))))) (ax_nd 125 (ax_nd 121 (ax_lf 121 (ao_ic (1) 1)) (ax_nd 122 (ax_lf 122 (ao_goto 126)) (ax_lf 125 (ao_ic (0) 1)))) (ax_nd 127 (ax_nd 126 (ax_lf 126 ao_iadd) (ax_lf 127 (ao_is 6 2))) (ax_nd 129 (ax_lf 129 (ao_il 8 2)) (ax_lf 131 (ao_il 3 1)))))) (ax_nd 145 (ax_nd 135 (ax_nd 132 (ax_lf 132 (ao_ic (100) 2)) (ax_nd 134 (ax_lf 134 ao_isub) (ax_lf 135 (ao_icmp_ne 143)))) (ax_nd 140 (ax_nd 138 (ax_lf 138 (ao_il 10 2)) (ax_lf 140 (ao_goto 145))) (ax_nd 143 (ax_lf 143 (ao_il 7 2)) (ax_lf 145 (ao_is 7 2))))) (ax_nd 153 (ax_nd 147 (ax_lf 147 (ao_iinc 8 (1))) (ax_nd 150 (ax_lf 150 (ao_goto 38)) (ax_lf 153 (ao_al 4 2)))) (ax_nd 156 (ax_nd 155 (ax_lf 155 (ao_il 3 1)) (ax_lf 156 (ao_inv g 1 6 1 yX6_hasPerson cX6_hasPerson 2 (some .boolean) 2 0 0 0 0))) (ax_nd 159 (ax_lf 159 (ao_if_eq 172)) (ax_lf 162 (ao_al 0 1))))))) (ax_nd 186 (ax_nd 172 (ax_nd 169 (ax_nd 163 (ax_lf 163 (ao_gr 9 3)) (ax_nd 166 (ax_lf 166 (ao_gr 0 0)) (ax_lf 169 (ao_il 3 1)))) (ax_nd 170 (ax_lf 170 ao_iald) (ax_nd 171 (ax_lf 171 (ao_iret 0 0)) (ax_lf 172 (ao_il 3 1))))) (ax_nd 178 (ax_nd 173 (ax_lf 173 (ao_ic (10) 2)) (ax_nd 175 (ax_lf 175 (ao_icmp_ne 186)) (ax_lf 178 (ao_al 0 1)))) (ax_nd 182 (ax_nd 179 (ax_lf 179 (ao_gr 9 3)) (ax_lf 182 (ao_inv g 1 0 1 yX0_poorest cX0_poorest 3 (some .int) 1 0 0 0 0))) (ax_nd 185 (ax_lf 185 (ao_iret 0 0)) (ax_lf 186 (ao_il 3 1)))))) (ax_nd 198 (ax_nd 192 (ax_nd 187 (ax_lf 187 (ao_ic (11) 2)) (ax_nd 189 (ax_lf 189 (ao_icmp_ne 195)) (ax_lf 192 (ao_il 5 2)))) (ax_nd 195 (ax_nd 194 (ax_lf 194 (ao_iret 0 0)) (ax_lf 195 (ao_al 4 2))) (ax_nd 197 (ax_lf 197 (ao_il 3 1)) (ax_lf 198 (ao_ic (20) 2))))) (ax_nd 204 (ax_nd 200 (ax_lf 200 ao_isub) (ax_nd 201 (ax_lf 201 (ao_inv g 1 6 1 yX6_hasPerson cX6_hasPerson 2 (some .boolean) 2 0 0 0 0)) (ax_lf 204 (ao_if_eq 212)))) (ax_nd 209 (ax_nd 207 (ax_lf 207 (ao_il 6 2)) (ax_lf 209 (ao_goto 214))) (ax_nd 212 (ax_lf 212 (ao_il 7 2)) (ax_lf 214 (ao_iret 0 0))))))))
theorem oX9_reign (g : ax_G) : ∀ pc, ax_ok g cX9_reign 11 (some .int) RX9 "reign" 6 0 0 pc (tX9_reign g pc) := ax_nd_ok (ax_nd_ok (ax_nd_ok (ax_nd_ok (ax_nd_ok (ax_nd_ok (ax_lf_ok (ak_aload_n rfl dX9_reign_0)) (ax_nd_ok (ax_lf_ok (ak_iload_n rfl dX9_reign_1)) (ax_lf_ok (ak_invV (by decide) (by decide) (by decide) rfl wd_645 wd_647 wd_13 wd_96 wd_648 ⟨by decide, by decide, by decide +kernel⟩ dX9_reign_2)))) (ax_nd_ok (ax_lf_ok (ak_astore (by decide) dX9_reign_5)) (ax_nd_ok (ax_lf_ok (ak_aload dX9_reign_7)) (ax_lf_ok (ak_ifnull (by decide) dX9_reign_9))))) (ax_nd_ok (ax_nd_ok (ax_lf_ok (ak_iload_n rfl dX9_reign_12)) (ax_nd_ok (ax_lf_ok (ak_if_lt (by decide) dX9_reign_13)) (ax_lf_ok (ak_iload_n rfl dX9_reign_16)))) (ax_nd_ok (ax_nd_ok (ax_lf_ok (ak_bipush (by decide) dX9_reign_17)) (ax_lf_ok (ak_icmp_le (by decide) dX9_reign_19))) (ax_nd_ok (ax_lf_ok (ak_ldc wd_720 dX9_reign_22)) (ax_lf_ok (ak_iret rfl dX9_reign_24)))))) (ax_nd_ok (ax_nd_ok (ax_nd_ok (ax_lf_ok (ak_iconst (by decide) dX9_reign_25)) (ax_nd_ok (ax_lf_ok (ak_istore (by decide) dX9_reign_26)) (ax_lf_ok (ak_iconst (by decide) dX9_reign_28)))) (ax_nd_ok (ax_nd_ok (ax_lf_ok (ak_istore (by decide) dX9_reign_29)) (ax_lf_ok (ak_ldc wd_720 dX9_reign_31))) (ax_nd_ok (ax_lf_ok (ak_istore (by decide) dX9_reign_33)) (ax_lf_ok (ak_iconst (by decide) dX9_reign_35))))) (ax_nd_ok (ax_nd_ok (ax_lf_ok (ak_istore (by decide) dX9_reign_36)) (ax_nd_ok (ax_lf_ok (ak_iload dX9_reign_38)) (ax_lf_ok (ak_iload_n rfl dX9_reign_40)))) (ax_nd_ok (ax_nd_ok (ax_lf_ok (ak_icmp_ge (by decide) dX9_reign_41)) (ax_lf_ok (ak_aload_n rfl dX9_reign_44))) (ax_nd_ok (ax_lf_ok (ak_gr fF_X9_36 dX9_reign_45)) (ax_lf_ok (ak_invV (by decide) (by decide) (by decide) rfl wd_690 wd_691 wd_692 wd_101 wd_693 ⟨by decide, by decide, by decide +kernel⟩ dX9_reign_48))))))) (ax_nd_ok (ax_nd_ok (ax_nd_ok (ax_nd_ok (ax_lf_ok (ak_istore (by decide) dX9_reign_51)) (ax_nd_ok (ax_lf_ok (ak_iload dX9_reign_53)) (ax_lf_ok (ak_iconst (by decide) dX9_reign_55)))) (ax_nd_ok (ax_lf_ok (ak_icmp_ne (by decide) dX9_reign_56)) (ax_nd_ok (ax_lf_ok (ak_iconst (by decide) dX9_reign_59)) (ax_lf_ok (ak_goto (by decide) dX9_reign_60))))) (ax_nd_ok (ax_nd_ok (ax_lf_ok (ak_aload_n rfl dX9_reign_63)) (ax_nd_ok (ax_lf_ok (ak_gr fF_X9_36 dX9_reign_64)) (ax_lf_ok (ak_iload dX9_reign_67)))) (ax_nd_ok (ax_nd_ok (ax_lf_ok (ak_invV (by decide) (by decide) (by decide) rfl wd_804 wd_805 wd_806 wd_101 wd_807 ⟨by decide, by decide, by decide +kernel⟩ dX9_reign_69)) (ax_lf_ok (ak_istore (by decide) dX9_reign_72))) (ax_nd_ok (ax_lf_ok (ak_aload_n rfl dX9_reign_74)) (ax_lf_ok (ak_gr fF_X9_36 dX9_reign_75)))))) (ax_nd_ok (ax_nd_ok (ax_nd_ok (ax_lf_ok (ak_iload dX9_reign_78)) (ax_nd_ok (ax_lf_ok (ak_invV (by decide) (by decide) (by decide) rfl wd_765 wd_766 wd_767 wd_101 wd_768 ⟨by decide, by decide, by decide +kernel⟩ dX9_reign_80)) (ax_lf_ok (ak_iload dX9_reign_83)))) (ax_nd_ok (ax_nd_ok (ax_lf_ok (ak_iconst (by decide) dX9_reign_85)) (ax_lf_ok (ak_icmp_ne (by decide) dX9_reign_86))) (ax_nd_ok (ax_lf_ok (ak_aload_n rfl dX9_reign_89)) (ax_lf_ok (ak_gr fF_X9_36 dX9_reign_90))))) (ax_nd_ok (ax_nd_ok (ax_lf_ok (ak_invV (by decide) (by decide) (by decide) rfl wd_690 wd_691 wd_692 wd_101 wd_693 ⟨by decide, by decide, by decide +kernel⟩ dX9_reign_93)) (ax_nd_ok (ax_lf_ok (ak_iload dX9_reign_96)) (ax_lf_ok (ak_icmp_eq (by decide) dX9_reign_98)))) (ax_nd_ok (ax_nd_ok (ax_lf_ok (ak_iload dX9_reign_101)) (ax_lf_ok (ak_goto (by decide) dX9_reign_103))) (ax_nd_ok (ax_lf_ok (ak_iload dX9_reign_106)) (ax_lf_ok (ak_istore (by decide) dX9_reign_108)))))))) (ax_nd_ok (ax_nd_ok (ax_nd_ok (ax_nd_ok (ax_nd_ok (ax_lf_ok (ak_iload dX9_reign_110)) (ax_nd_ok (ax_lf_ok (ak_iload dX9_reign_112)) (ax_lf_ok (ak_iload_n rfl dX9_reign_114)))) (ax_nd_ok (ax_lf_ok (ak_bipush (by decide) dX9_reign_115)) (ax_nd_ok (ax_lf_ok (ak_isub dX9_reign_117)) (ax_lf_ok (ak_icmp_ne (by decide) dX9_reign_118))))) (ax_nd_ok (ax_nd_ok (ax_lf_ok (ak_iconst (by decide) dX9_reign_121)) (ax_nd_ok (ax_lf_ok (ak_goto (by decide) dX9_reign_122)) (ax_lf_ok (ak_iconst (by decide) dX9_reign_125)))) (ax_nd_ok (ax_nd_ok (ax_lf_ok (ak_iadd dX9_reign_126)) (ax_lf_ok (ak_istore (by decide) dX9_reign_127))) (ax_nd_ok (ax_lf_ok (ak_iload dX9_reign_129)) (ax_lf_ok (ak_iload_n rfl dX9_reign_131)))))) (ax_nd_ok (ax_nd_ok (ax_nd_ok (ax_lf_ok (ak_bipush (by decide) dX9_reign_132)) (ax_nd_ok (ax_lf_ok (ak_isub dX9_reign_134)) (ax_lf_ok (ak_icmp_ne (by decide) dX9_reign_135)))) (ax_nd_ok (ax_nd_ok (ax_lf_ok (ak_iload dX9_reign_138)) (ax_lf_ok (ak_goto (by decide) dX9_reign_140))) (ax_nd_ok (ax_lf_ok (ak_iload dX9_reign_143)) (ax_lf_ok (ak_istore (by decide) dX9_reign_145))))) (ax_nd_ok (ax_nd_ok (ax_lf_ok (ak_iinc (by decide) (by decide) dX9_reign_147)) (ax_nd_ok (ax_lf_ok (ak_goto (by decide) dX9_reign_150)) (ax_lf_ok (ak_aload dX9_reign_153)))) (ax_nd_ok (ax_nd_ok (ax_lf_ok (ak_iload_n rfl dX9_reign_155)) (ax_lf_ok (ak_invV (by decide) (by decide) (by decide) rfl wd_708 wd_666 wd_667 wd_98 wd_668 ⟨by decide, by decide, by decide +kernel⟩ dX9_reign_156))) (ax_nd_ok (ax_lf_ok (ak_if_eq (by decide) dX9_reign_159)) (ax_lf_ok (ak_aload_n rfl dX9_reign_162))))))) (ax_nd_ok (ax_nd_ok (ax_nd_ok (ax_nd_ok (ax_lf_ok (ak_gr fF_X9_36 dX9_reign_163)) (ax_nd_ok (ax_lf_ok (ak_gr fF_X9_181 dX9_reign_166)) (ax_lf_ok (ak_iload_n rfl dX9_reign_169)))) (ax_nd_ok (ax_lf_ok (ak_iald dX9_reign_170)) (ax_nd_ok (ax_lf_ok (ak_iret rfl dX9_reign_171)) (ax_lf_ok (ak_iload_n rfl dX9_reign_172))))) (ax_nd_ok (ax_nd_ok (ax_lf_ok (ak_bipush (by decide) dX9_reign_173)) (ax_nd_ok (ax_lf_ok (ak_icmp_ne (by decide) dX9_reign_175)) (ax_lf_ok (ak_aload_n rfl dX9_reign_178)))) (ax_nd_ok (ax_nd_ok (ax_lf_ok (ak_gr fF_X9_36 dX9_reign_179)) (ax_lf_ok (ak_invV (by decide) (by decide) (by decide) rfl wd_690 wd_691 wd_692 wd_101 wd_693 ⟨by decide, by decide, by decide +kernel⟩ dX9_reign_182))) (ax_nd_ok (ax_lf_ok (ak_iret rfl dX9_reign_185)) (ax_lf_ok (ak_iload_n rfl dX9_reign_186)))))) (ax_nd_ok (ax_nd_ok (ax_nd_ok (ax_lf_ok (ak_bipush (by decide) dX9_reign_187)) (ax_nd_ok (ax_lf_ok (ak_icmp_ne (by decide) dX9_reign_189)) (ax_lf_ok (ak_iload dX9_reign_192)))) (ax_nd_ok (ax_nd_ok (ax_lf_ok (ak_iret rfl dX9_reign_194)) (ax_lf_ok (ak_aload dX9_reign_195))) (ax_nd_ok (ax_lf_ok (ak_iload_n rfl dX9_reign_197)) (ax_lf_ok (ak_bipush (by decide) dX9_reign_198))))) (ax_nd_ok (ax_nd_ok (ax_lf_ok (ak_isub dX9_reign_200)) (ax_nd_ok (ax_lf_ok (ak_invV (by decide) (by decide) (by decide) rfl wd_708 wd_666 wd_667 wd_98 wd_668 ⟨by decide, by decide, by decide +kernel⟩ dX9_reign_201)) (ax_lf_ok (ak_if_eq (by decide) dX9_reign_204)))) (ax_nd_ok (ax_nd_ok (ax_lf_ok (ak_iload dX9_reign_207)) (ax_lf_ok (ak_goto (by decide) dX9_reign_209))) (ax_nd_ok (ax_lf_ok (ak_iload dX9_reign_212)) (ax_lf_ok (ak_iret rfl dX9_reign_214))))))))
abbrev mX9_reign (g : ax_G) (as : List Value) (h : ax_H) (Ret : Option Value → ax_H → Prop) : Prop := ax_M g 6 0 0 yX9_reign cX9_reign 11 (some .int) as h Ret
theorem dX9_hope_0 : decode cX9_hope 0 = .ok (.aload_n 0, 1) := by decide +kernel
theorem dX9_hope_1 : decode cX9_hope 1 = .ok (.iload_n 1, 1) := by decide +kernel
theorem dX9_hope_2 : decode cX9_hope 2 = .ok (.iload_n 2, 1) := by decide +kernel
theorem dX9_hope_3 : decode cX9_hope 3 = .ok (.iload_n 3, 1) := by decide +kernel
theorem dX9_hope_4 : decode cX9_hope 4 = .ok (.iconst 0, 1) := by decide +kernel
theorem dX9_hope_5 : decode cX9_hope 5 = .ok (.invokevirtual 278, 3) := by decide +kernel
theorem dX9_hope_8 : decode cX9_hope 8 = .ok (.ifCond .eq 15, 3) := by decide +kernel
theorem dX9_hope_11 : decode cX9_hope 11 = .ok (.aload_n 0, 1) := by decide +kernel
theorem dX9_hope_12 : decode cX9_hope 12 = .ok (.getfield 67, 3) := by decide +kernel
theorem dX9_hope_15 : decode cX9_hope 15 = .ok (.iload 4, 2) := by decide +kernel
theorem dX9_hope_17 : decode cX9_hope 17 = .ok (.invokevirtual 282, 3) := by decide +kernel
theorem dX9_hope_20 : decode cX9_hope 20 = .ok (.goto 6, 3) := by decide +kernel
theorem dX9_hope_23 : decode cX9_hope 23 = .ok (.ldc2_w 286, 3) := by decide +kernel
theorem dX9_hope_26 : decode cX9_hope 26 = .ok (.lreturn, 1) := by decide +kernel
def tX9_hope (g : ax_G) : Nat → ax_O := ax_nd 8 (ax_nd 2 (ax_nd 0 (ax_lf 0 (ao_al 0 1)) (ax_nd 1 (ax_lf 1 (ao_il 1 1)) (ax_lf 2 (ao_il 2 1)))) (ax_nd 4 (ax_nd 3 (ax_lf 3 (ao_il 3 1)) (ax_lf 4 (ao_ic (0) 1))) (ax_nd 5 (ax_lf 5 (ao_inv g 6 9 1 yX9_expected cX9_expected 9 (some .boolean) 5 0 0 0 0)) (ax_lf 8 (ao_if_eq 23))))) (ax_nd 15 (ax_nd 11 (ax_lf 11 (ao_al 0 1)) (ax_nd 12 (ax_lf 12 (ao_gr 9 8)) (ax_lf 15 (ao_il 4 2)))) (ax_nd 20 (ax_nd 17 (ax_lf 17 (ao_inv g 1 1 2 yX1_sideOf cX1_sideOf 2 (some .long) 2 0 0 0 0)) (ax_lf 20 (ao_goto 26))) (ax_nd 23 (ax_lf 23 (ao_lc (-1000000) 3)) (ax_lf 26 (ao_lret 0 0)))))
theorem oX9_hope (g : ax_G) : ∀ pc, ax_ok g cX9_hope 5 (some .long) RX9 "hope" 7 0 0 pc (tX9_hope g pc) := ax_nd_ok (ax_nd_ok (ax_nd_ok (ax_lf_ok (ak_aload_n rfl dX9_hope_0)) (ax_nd_ok (ax_lf_ok (ak_iload_n rfl dX9_hope_1)) (ax_lf_ok (ak_iload_n rfl dX9_hope_2)))) (ax_nd_ok (ax_nd_ok (ax_lf_ok (ak_iload_n rfl dX9_hope_3)) (ax_lf_ok (ak_iconst (by decide) dX9_hope_4))) (ax_nd_ok (ax_lf_ok (ak_invV (by decide) (by decide) (by decide) rfl wd_975 wd_977 wd_20 wd_96 wd_978 ⟨by decide, by decide, by decide +kernel⟩ dX9_hope_5)) (ax_lf_ok (ak_if_eq (by decide) dX9_hope_8))))) (ax_nd_ok (ax_nd_ok (ax_lf_ok (ak_aload_n rfl dX9_hope_11)) (ax_nd_ok (ax_lf_ok (ak_gr fF_X9_67 dX9_hope_12)) (ax_lf_ok (ak_iload dX9_hope_15)))) (ax_nd_ok (ax_nd_ok (ax_lf_ok (ak_invV (by decide) (by decide) (by decide) rfl wd_999 wd_1000 wd_1001 wd_105 wd_1002 ⟨by decide, by decide, by decide +kernel⟩ dX9_hope_17)) (ax_lf_ok (ak_goto (by decide) dX9_hope_20))) (ax_nd_ok (ax_lf_ok (ak_ldc2 wd_1003 dX9_hope_23)) (ax_lf_ok (ak_lret rfl dX9_hope_26)))))
abbrev mX9_hope (g : ax_G) (as : List Value) (h : ax_H) (Ret : Option Value → ax_H → Prop) : Prop := ax_M g 7 0 0 yX9_hope cX9_hope 5 (some .long) as h Ret
theorem dX9_doom_0 : decode cX9_doom 0 = .ok (.aload_n 0, 1) := by decide +kernel
theorem dX9_doom_1 : decode cX9_doom 1 = .ok (.iload_n 1, 1) := by decide +kernel
theorem dX9_doom_2 : decode cX9_doom 2 = .ok (.iload_n 2, 1) := by decide +kernel
theorem dX9_doom_3 : decode cX9_doom 3 = .ok (.iload_n 3, 1) := by decide +kernel
theorem dX9_doom_4 : decode cX9_doom 4 = .ok (.iconst 1, 1) := by decide +kernel
theorem dX9_doom_5 : decode cX9_doom 5 = .ok (.invokevirtual 278, 3) := by decide +kernel
theorem dX9_doom_8 : decode cX9_doom 8 = .ok (.ifCond .eq 15, 3) := by decide +kernel
theorem dX9_doom_11 : decode cX9_doom 11 = .ok (.aload_n 0, 1) := by decide +kernel
theorem dX9_doom_12 : decode cX9_doom 12 = .ok (.getfield 67, 3) := by decide +kernel
theorem dX9_doom_15 : decode cX9_doom 15 = .ok (.iload 4, 2) := by decide +kernel
theorem dX9_doom_17 : decode cX9_doom 17 = .ok (.invokevirtual 282, 3) := by decide +kernel
theorem dX9_doom_20 : decode cX9_doom 20 = .ok (.goto 6, 3) := by decide +kernel
theorem dX9_doom_23 : decode cX9_doom 23 = .ok (.ldc2_w 184, 3) := by decide +kernel
theorem dX9_doom_26 : decode cX9_doom 26 = .ok (.lreturn, 1) := by decide +kernel
def tX9_doom (g : ax_G) : Nat → ax_O := ax_nd 8 (ax_nd 2 (ax_nd 0 (ax_lf 0 (ao_al 0 1)) (ax_nd 1 (ax_lf 1 (ao_il 1 1)) (ax_lf 2 (ao_il 2 1)))) (ax_nd 4 (ax_nd 3 (ax_lf 3 (ao_il 3 1)) (ax_lf 4 (ao_ic (1) 1))) (ax_nd 5 (ax_lf 5 (ao_inv g 6 9 1 yX9_expected cX9_expected 9 (some .boolean) 5 0 0 0 0)) (ax_lf 8 (ao_if_eq 23))))) (ax_nd 15 (ax_nd 11 (ax_lf 11 (ao_al 0 1)) (ax_nd 12 (ax_lf 12 (ao_gr 9 8)) (ax_lf 15 (ao_il 4 2)))) (ax_nd 20 (ax_nd 17 (ax_lf 17 (ao_inv g 1 1 2 yX1_sideOf cX1_sideOf 2 (some .long) 2 0 0 0 0)) (ax_lf 20 (ao_goto 26))) (ax_nd 23 (ax_lf 23 (ao_lc (-1) 3)) (ax_lf 26 (ao_lret 0 0)))))
theorem oX9_doom (g : ax_G) : ∀ pc, ax_ok g cX9_doom 5 (some .long) RX9 "doom" 7 0 0 pc (tX9_doom g pc) := ax_nd_ok (ax_nd_ok (ax_nd_ok (ax_lf_ok (ak_aload_n rfl dX9_doom_0)) (ax_nd_ok (ax_lf_ok (ak_iload_n rfl dX9_doom_1)) (ax_lf_ok (ak_iload_n rfl dX9_doom_2)))) (ax_nd_ok (ax_nd_ok (ax_lf_ok (ak_iload_n rfl dX9_doom_3)) (ax_lf_ok (ak_iconst (by decide) dX9_doom_4))) (ax_nd_ok (ax_lf_ok (ak_invV (by decide) (by decide) (by decide) rfl wd_975 wd_977 wd_20 wd_96 wd_978 ⟨by decide, by decide, by decide +kernel⟩ dX9_doom_5)) (ax_lf_ok (ak_if_eq (by decide) dX9_doom_8))))) (ax_nd_ok (ax_nd_ok (ax_lf_ok (ak_aload_n rfl dX9_doom_11)) (ax_nd_ok (ax_lf_ok (ak_gr fF_X9_67 dX9_doom_12)) (ax_lf_ok (ak_iload dX9_doom_15)))) (ax_nd_ok (ax_nd_ok (ax_lf_ok (ak_invV (by decide) (by decide) (by decide) rfl wd_999 wd_1000 wd_1001 wd_105 wd_1002 ⟨by decide, by decide, by decide +kernel⟩ dX9_doom_17)) (ax_lf_ok (ak_goto (by decide) dX9_doom_20))) (ax_nd_ok (ax_lf_ok (ak_ldc2 wd_774 dX9_doom_23)) (ax_lf_ok (ak_lret rfl dX9_doom_26)))))
abbrev mX9_doom (g : ax_G) (as : List Value) (h : ax_H) (Ret : Option Value → ax_H → Prop) : Prop := ax_M g 7 0 0 yX9_doom cX9_doom 5 (some .long) as h Ret
end
