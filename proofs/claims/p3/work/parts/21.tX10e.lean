section
theorem dX10_bestFrom_0 : decode cX10_bestFrom 0 = .ok (.ldc2_w 380, 3) := by decide +kernel
theorem dX10_bestFrom_3 : decode cX10_bestFrom 3 = .ok (.lstore 4, 2) := by decide +kernel
theorem dX10_bestFrom_5 : decode cX10_bestFrom 5 = .ok (.aload_n 0, 1) := by decide +kernel
theorem dX10_bestFrom_6 : decode cX10_bestFrom 6 = .ok (.iload_n 1, 1) := by decide +kernel
theorem dX10_bestFrom_7 : decode cX10_bestFrom 7 = .ok (.invokevirtual 382, 3) := by decide +kernel
theorem dX10_bestFrom_10 : decode cX10_bestFrom 10 = .ok (.istore 6, 2) := by decide +kernel
theorem dX10_bestFrom_12 : decode cX10_bestFrom 12 = .ok (.iload 6, 2) := by decide +kernel
theorem dX10_bestFrom_14 : decode cX10_bestFrom 14 = .ok (.aload_n 0, 1) := by decide +kernel
theorem dX10_bestFrom_15 : decode cX10_bestFrom 15 = .ok (.iload_n 1, 1) := by decide +kernel
theorem dX10_bestFrom_16 : decode cX10_bestFrom 16 = .ok (.invokevirtual 385, 3) := by decide +kernel
theorem dX10_bestFrom_19 : decode cX10_bestFrom 19 = .ok (.if_icmp .gt 93, 3) := by decide +kernel
theorem dX10_bestFrom_22 : decode cX10_bestFrom 22 = .ok (.iload 6, 2) := by decide +kernel
theorem dX10_bestFrom_24 : decode cX10_bestFrom 24 = .ok (.aload_n 0, 1) := by decide +kernel
theorem dX10_bestFrom_25 : decode cX10_bestFrom 25 = .ok (.getfield 263, 3) := by decide +kernel
theorem dX10_bestFrom_28 : decode cX10_bestFrom 28 = .ok (.if_icmp .ge 84, 3) := by decide +kernel
theorem dX10_bestFrom_31 : decode cX10_bestFrom 31 = .ok (.iload_n 2, 1) := by decide +kernel
theorem dX10_bestFrom_32 : decode cX10_bestFrom 32 = .ok (.iload 6, 2) := by decide +kernel
theorem dX10_bestFrom_34 : decode cX10_bestFrom 34 = .ok (.invokestatic 388, 3) := by decide +kernel
theorem dX10_bestFrom_37 : decode cX10_bestFrom 37 = .ok (.ifCond .ne 69, 3) := by decide +kernel
theorem dX10_bestFrom_40 : decode cX10_bestFrom 40 = .ok (.aload_n 0, 1) := by decide +kernel
theorem dX10_bestFrom_41 : decode cX10_bestFrom 41 = .ok (.getfield 62, 3) := by decide +kernel
theorem dX10_bestFrom_44 : decode cX10_bestFrom 44 = .ok (.sipush 4096, 3) := by decide +kernel
theorem dX10_bestFrom_47 : decode cX10_bestFrom 47 = .ok (.iload_n 1, 1) := by decide +kernel
theorem dX10_bestFrom_48 : decode cX10_bestFrom 48 = .ok (.iconst 1, 1) := by decide +kernel
theorem dX10_bestFrom_49 : decode cX10_bestFrom 49 = .ok (.iadd, 1) := by decide +kernel
theorem dX10_bestFrom_50 : decode cX10_bestFrom 50 = .ok (.imul, 1) := by decide +kernel
theorem dX10_bestFrom_51 : decode cX10_bestFrom 51 = .ok (.iload_n 2, 1) := by decide +kernel
theorem dX10_bestFrom_52 : decode cX10_bestFrom 52 = .ok (.iconst 1, 1) := by decide +kernel
theorem dX10_bestFrom_53 : decode cX10_bestFrom 53 = .ok (.iload 6, 2) := by decide +kernel
theorem dX10_bestFrom_55 : decode cX10_bestFrom 55 = .ok (.ishl, 1) := by decide +kernel
theorem dX10_bestFrom_56 : decode cX10_bestFrom 56 = .ok (.ior, 1) := by decide +kernel
theorem dX10_bestFrom_57 : decode cX10_bestFrom 57 = .ok (.iadd, 1) := by decide +kernel
theorem dX10_bestFrom_58 : decode cX10_bestFrom 58 = .ok (.laload, 1) := by decide +kernel
theorem dX10_bestFrom_59 : decode cX10_bestFrom 59 = .ok (.lstore 7, 2) := by decide +kernel
theorem dX10_bestFrom_61 : decode cX10_bestFrom 61 = .ok (.lload 7, 2) := by decide +kernel
theorem dX10_bestFrom_63 : decode cX10_bestFrom 63 = .ok (.ldc2_w 380, 3) := by decide +kernel
theorem dX10_bestFrom_66 : decode cX10_bestFrom 66 = .ok (.lcmp, 1) := by decide +kernel
theorem dX10_bestFrom_67 : decode cX10_bestFrom 67 = .ok (.ifCond .ne 9, 3) := by decide +kernel
theorem dX10_bestFrom_70 : decode cX10_bestFrom 70 = .ok (.ldc2_w 380, 3) := by decide +kernel
theorem dX10_bestFrom_73 : decode cX10_bestFrom 73 = .ok (.goto 14, 3) := by decide +kernel
theorem dX10_bestFrom_76 : decode cX10_bestFrom 76 = .ok (.lload 7, 2) := by decide +kernel
theorem dX10_bestFrom_78 : decode cX10_bestFrom 78 = .ok (.aload_n 0, 1) := by decide +kernel
theorem dX10_bestFrom_79 : decode cX10_bestFrom 79 = .ok (.iload_n 1, 1) := by decide +kernel
theorem dX10_bestFrom_80 : decode cX10_bestFrom 80 = .ok (.iload 6, 2) := by decide +kernel
theorem dX10_bestFrom_82 : decode cX10_bestFrom 82 = .ok (.iload_n 3, 1) := by decide +kernel
theorem dX10_bestFrom_83 : decode cX10_bestFrom 83 = .ok (.invokevirtual 391, 3) := by decide +kernel
theorem dX10_bestFrom_86 : decode cX10_bestFrom 86 = .ok (.ladd, 1) := by decide +kernel
theorem dX10_bestFrom_87 : decode cX10_bestFrom 87 = .ok (.lstore 9, 2) := by decide +kernel
theorem dX10_bestFrom_89 : decode cX10_bestFrom 89 = .ok (.lload 9, 2) := by decide +kernel
theorem dX10_bestFrom_91 : decode cX10_bestFrom 91 = .ok (.lload 4, 2) := by decide +kernel
theorem dX10_bestFrom_93 : decode cX10_bestFrom 93 = .ok (.lcmp, 1) := by decide +kernel
theorem dX10_bestFrom_94 : decode cX10_bestFrom 94 = .ok (.ifCond .le 8, 3) := by decide +kernel
theorem dX10_bestFrom_97 : decode cX10_bestFrom 97 = .ok (.lload 9, 2) := by decide +kernel
theorem dX10_bestFrom_99 : decode cX10_bestFrom 99 = .ok (.goto 5, 3) := by decide +kernel
theorem dX10_bestFrom_102 : decode cX10_bestFrom 102 = .ok (.lload 4, 2) := by decide +kernel
theorem dX10_bestFrom_104 : decode cX10_bestFrom 104 = .ok (.lstore 4, 2) := by decide +kernel
theorem dX10_bestFrom_106 : decode cX10_bestFrom 106 = .ok (.iinc 6 1, 3) := by decide +kernel
theorem dX10_bestFrom_109 : decode cX10_bestFrom 109 = .ok (.goto (-97), 3) := by decide +kernel
theorem dX10_bestFrom_112 : decode cX10_bestFrom 112 = .ok (.lload 4, 2) := by decide +kernel
theorem dX10_bestFrom_114 : decode cX10_bestFrom 114 = .ok (.lreturn, 1) := by decide +kernel
def tX10_bestFrom (g : ax_G) (n : Nat) : Nat → ax_O := ax_nd 55 (ax_nd 28 (ax_nd 12 (ax_nd 5 (ax_nd 0 (ax_lf 0 (ao_lc (-1000000000000) 3)) (ax_nd 3 (ax_lf 3 (ao_ls 4 2)) (ax_lf 5 (ao_al 0 1)))) (ax_nd 7 (ax_nd 6 (ax_lf 6 (ao_il 1 1)) (ax_lf 7 (ao_inv g 2 10 1 yX10_fromOf cX10_fromOf 2 (some .int) 2 0 0 0 0))) (ax_nd 10 (ax_lf 10 (ao_is 6 2)) (ax_lf 12 (ao_il 6 2))))) (ax_nd 19 (ax_nd 15 (ax_nd 14 (ax_lf 14 (ao_al 0 1)) (ax_lf 15 (ao_il 1 1))) (ax_nd 16 (ax_lf 16 (ao_inv g 2 10 1 yX10_toOf cX10_toOf 2 (some .int) 2 0 0 0 0)) (ax_lf 19 (ao_icmp_gt 112)))) (ax_nd 24 (ax_nd 22 (ax_lf 22 (ao_il 6 2)) (ax_lf 24 (ao_al 0 1))) (ax_nd 25 (ax_lf 25 (ao_gi 10 26)) (ax_lf 28 (ao_icmp_ge 112)))))) (ax_nd 44 (ax_nd 34 (ax_nd 31 (ax_lf 31 (ao_il 2 1)) (ax_nd 32 (ax_lf 32 (ao_il 6 2)) (ax_lf 34 (ao_inv g 1 99 1 yX10_has cX10_has 2 (some .boolean) 2 0 0 0 0)))) (ax_nd 40 (ax_nd 37 (ax_lf 37 (ao_if_ne 106)) (ax_lf 40 (ao_al 0 1))) (ax_nd 41 (ax_lf 41 (ao_gr 10 43)) (ax_lf 44 (ao_ic (4096) 3))))) (ax_nd 50 (ax_nd 48 (ax_nd 47 (ax_lf 47 (ao_il 1 1)) (ax_lf 48 (ao_ic (1) 1))) (ax_nd 49 (ax_lf 49 ao_iadd) (ax_lf 50 ao_imul))) (ax_nd 52 (ax_nd 51 (ax_lf 51 (ao_il 2 1)) (ax_lf 52 (ao_ic (1) 1))) (ax_nd 53 (ax_lf 53 (ao_il 6 2)) (ax_lf 55 ao_ishl)))))) (ax_nd 82 (ax_nd 66 (ax_nd 58 (ax_nd 56 (ax_lf 56 ao_ior) (ax_nd 57 (ax_lf 57 ao_iadd) (ax_lf 58 ao_lald))) (ax_nd 61 (ax_nd 59 (ax_lf 59 (ao_ls 7 2)) (ax_lf 61 (ao_ll 7 2))) (ax_nd 63 (ax_lf 63 (ao_lc (-1000000000000) 3)) (ax_lf 66 ao_lcmp)))) (ax_nd 76 (ax_nd 70 (ax_nd 67 (ax_lf 67 (ao_if_ne 76)) (ax_lf 70 (ao_lc (-1000000000000) 3))) (ax_nd 73 (ax_lf 73 (ao_goto 87)) (ax_lf 76 (ao_ll 7 2)))) (ax_nd 79 (ax_nd 78 (ax_lf 78 (ao_al 0 1)) (ax_lf 79 (ao_il 1 1))) (ax_nd 80 (ax_lf 80 (ao_il 6 2)) (ax_lf 82 (ao_il 3 1)))))) (ax_nd 94 (ax_nd 87 (ax_nd 83 (ax_lf 83 (ao_inv g 2 10 2 yX10_worthAt cX10_worthAt 7 (some .long) 4 0 0 0 0)) (ax_nd 86 (ax_lf 86 ao_ladd) (ax_lf 87 (ao_ls 9 2)))) (ax_nd 91 (ax_nd 89 (ax_lf 89 (ao_ll 9 2)) (ax_lf 91 (ao_ll 4 2))) (ax_nd 93 (ax_lf 93 ao_lcmp) (ax_lf 94 (ao_if_le 102))))) (ax_nd 104 (ax_nd 99 (ax_nd 97 (ax_lf 97 (ao_ll 9 2)) (ax_lf 99 (ao_goto 104))) (ax_nd 102 (ax_lf 102 (ao_ll 4 2)) (ax_lf 104 (ao_ls 4 2)))) (ax_nd 109 (ax_nd 106 (ax_lf 106 (ao_iinc 6 (1))) (ax_lf 109 (ao_goto 12))) (ax_nd 112 (ax_lf 112 (ao_ll 4 2)) (ax_lf 114 (ao_lret 0 0)))))))
theorem oX10_bestFrom (g : ax_G) (n : Nat) : ∀ pc, ax_ok g cX10_bestFrom 11 (some .long) RX10 "bestFrom" (n + 4) 0 0 pc (tX10_bestFrom g n pc) := ax_nd_ok (ax_nd_ok (ax_nd_ok (ax_nd_ok (ax_nd_ok (ax_lf_ok (ak_ldc2 wd_1544 dX10_bestFrom_0)) (ax_nd_ok (ax_lf_ok (ak_lstore (by decide) dX10_bestFrom_3)) (ax_lf_ok (ak_aload_n rfl dX10_bestFrom_5)))) (ax_nd_ok (ax_nd_ok (ax_lf_ok (ak_iload_n rfl dX10_bestFrom_6)) (ax_lf_ok (ak_invV (by omega) (by decide) (by decide) rfl wd_1545 wd_1547 wd_71 wd_106 wd_1548 ⟨by decide, by decide, by decide +kernel⟩ dX10_bestFrom_7))) (ax_nd_ok (ax_lf_ok (ak_istore (by decide) dX10_bestFrom_10)) (ax_lf_ok (ak_iload dX10_bestFrom_12))))) (ax_nd_ok (ax_nd_ok (ax_nd_ok (ax_lf_ok (ak_aload_n rfl dX10_bestFrom_14)) (ax_lf_ok (ak_iload_n rfl dX10_bestFrom_15))) (ax_nd_ok (ax_lf_ok (ak_invV (by omega) (by decide) (by decide) rfl wd_1549 wd_1551 wd_72 wd_106 wd_1552 ⟨by decide, by decide, by decide +kernel⟩ dX10_bestFrom_16)) (ax_lf_ok (ak_icmp_gt (by decide) dX10_bestFrom_19)))) (ax_nd_ok (ax_nd_ok (ax_lf_ok (ak_iload dX10_bestFrom_22)) (ax_lf_ok (ak_aload_n rfl dX10_bestFrom_24))) (ax_nd_ok (ax_lf_ok (ak_gi fF_X10_263 dX10_bestFrom_25)) (ax_lf_ok (ak_icmp_ge (by decide) dX10_bestFrom_28)))))) (ax_nd_ok (ax_nd_ok (ax_nd_ok (ax_lf_ok (ak_iload_n rfl dX10_bestFrom_31)) (ax_nd_ok (ax_lf_ok (ak_iload dX10_bestFrom_32)) (ax_lf_ok (ak_invS (by omega) (by decide) wd_1553 wd_1554 wd_106 wd_1555 ⟨by decide, by decide, by decide +kernel⟩ dX10_bestFrom_34)))) (ax_nd_ok (ax_nd_ok (ax_lf_ok (ak_if_ne (by decide) dX10_bestFrom_37)) (ax_lf_ok (ak_aload_n rfl dX10_bestFrom_40))) (ax_nd_ok (ax_lf_ok (ak_gr fF_X10_62 dX10_bestFrom_41)) (ax_lf_ok (ak_sipush (by decide) dX10_bestFrom_44))))) (ax_nd_ok (ax_nd_ok (ax_nd_ok (ax_lf_ok (ak_iload_n rfl dX10_bestFrom_47)) (ax_lf_ok (ak_iconst (by decide) dX10_bestFrom_48))) (ax_nd_ok (ax_lf_ok (ak_iadd dX10_bestFrom_49)) (ax_lf_ok (ak_imul dX10_bestFrom_50)))) (ax_nd_ok (ax_nd_ok (ax_lf_ok (ak_iload_n rfl dX10_bestFrom_51)) (ax_lf_ok (ak_iconst (by decide) dX10_bestFrom_52))) (ax_nd_ok (ax_lf_ok (ak_iload dX10_bestFrom_53)) (ax_lf_ok (ak_ishl dX10_bestFrom_55))))))) (ax_nd_ok (ax_nd_ok (ax_nd_ok (ax_nd_ok (ax_lf_ok (ak_ior dX10_bestFrom_56)) (ax_nd_ok (ax_lf_ok (ak_iadd dX10_bestFrom_57)) (ax_lf_ok (ak_lald dX10_bestFrom_58)))) (ax_nd_ok (ax_nd_ok (ax_lf_ok (ak_lstore (by decide) dX10_bestFrom_59)) (ax_lf_ok (ak_lload dX10_bestFrom_61))) (ax_nd_ok (ax_lf_ok (ak_ldc2 wd_1544 dX10_bestFrom_63)) (ax_lf_ok (ak_lcmp dX10_bestFrom_66))))) (ax_nd_ok (ax_nd_ok (ax_nd_ok (ax_lf_ok (ak_if_ne (by decide) dX10_bestFrom_67)) (ax_lf_ok (ak_ldc2 wd_1544 dX10_bestFrom_70))) (ax_nd_ok (ax_lf_ok (ak_goto (by decide) dX10_bestFrom_73)) (ax_lf_ok (ak_lload dX10_bestFrom_76)))) (ax_nd_ok (ax_nd_ok (ax_lf_ok (ak_aload_n rfl dX10_bestFrom_78)) (ax_lf_ok (ak_iload_n rfl dX10_bestFrom_79))) (ax_nd_ok (ax_lf_ok (ak_iload dX10_bestFrom_80)) (ax_lf_ok (ak_iload_n rfl dX10_bestFrom_82)))))) (ax_nd_ok (ax_nd_ok (ax_nd_ok (ax_lf_ok (ak_invV (by omega) (by decide) (by decide) rfl wd_1556 wd_1558 wd_73 wd_106 wd_1559 ⟨by decide, by decide, by decide +kernel⟩ dX10_bestFrom_83)) (ax_nd_ok (ax_lf_ok (ak_ladd dX10_bestFrom_86)) (ax_lf_ok (ak_lstore (by decide) dX10_bestFrom_87)))) (ax_nd_ok (ax_nd_ok (ax_lf_ok (ak_lload dX10_bestFrom_89)) (ax_lf_ok (ak_lload dX10_bestFrom_91))) (ax_nd_ok (ax_lf_ok (ak_lcmp dX10_bestFrom_93)) (ax_lf_ok (ak_if_le (by decide) dX10_bestFrom_94))))) (ax_nd_ok (ax_nd_ok (ax_nd_ok (ax_lf_ok (ak_lload dX10_bestFrom_97)) (ax_lf_ok (ak_goto (by decide) dX10_bestFrom_99))) (ax_nd_ok (ax_lf_ok (ak_lload dX10_bestFrom_102)) (ax_lf_ok (ak_lstore (by decide) dX10_bestFrom_104)))) (ax_nd_ok (ax_nd_ok (ax_lf_ok (ak_iinc (by decide) (by decide) dX10_bestFrom_106)) (ax_lf_ok (ak_goto (by decide) dX10_bestFrom_109))) (ax_nd_ok (ax_lf_ok (ak_lload dX10_bestFrom_112)) (ax_lf_ok (ak_lret rfl dX10_bestFrom_114)))))))
abbrev mX10_bestFrom (g : ax_G) (n : Nat) (as : List Value) (h : ax_H) (Ret : Option Value → ax_H → Prop) : Prop := ax_M g (n + 4) 0 0 yX10_bestFrom cX10_bestFrom 11 (some .long) as h Ret
theorem dX10_findBest_0 : decode cX10_findBest 0 = .ok (.iconst 0, 1) := by decide +kernel
theorem dX10_findBest_1 : decode cX10_findBest 1 = .ok (.istore_n 2, 1) := by decide +kernel
theorem dX10_findBest_2 : decode cX10_findBest 2 = .ok (.iload_n 2, 1) := by decide +kernel
theorem dX10_findBest_3 : decode cX10_findBest 3 = .ok (.iconst 1, 1) := by decide +kernel
theorem dX10_findBest_4 : decode cX10_findBest 4 = .ok (.aload_n 0, 1) := by decide +kernel
theorem dX10_findBest_5 : decode cX10_findBest 5 = .ok (.getfield 263, 3) := by decide +kernel
theorem dX10_findBest_8 : decode cX10_findBest 8 = .ok (.ishl, 1) := by decide +kernel
theorem dX10_findBest_9 : decode cX10_findBest 9 = .ok (.if_icmp .ge 25, 3) := by decide +kernel
theorem dX10_findBest_12 : decode cX10_findBest 12 = .ok (.aload_n 0, 1) := by decide +kernel
theorem dX10_findBest_13 : decode cX10_findBest 13 = .ok (.getfield 62, 3) := by decide +kernel
theorem dX10_findBest_16 : decode cX10_findBest 16 = .ok (.sipush 4096, 3) := by decide +kernel
theorem dX10_findBest_19 : decode cX10_findBest 19 = .ok (.aload_n 0, 1) := by decide +kernel
theorem dX10_findBest_20 : decode cX10_findBest 20 = .ok (.getfield 374, 3) := by decide +kernel
theorem dX10_findBest_23 : decode cX10_findBest 23 = .ok (.imul, 1) := by decide +kernel
theorem dX10_findBest_24 : decode cX10_findBest 24 = .ok (.iload_n 2, 1) := by decide +kernel
theorem dX10_findBest_25 : decode cX10_findBest 25 = .ok (.iadd, 1) := by decide +kernel
theorem dX10_findBest_26 : decode cX10_findBest 26 = .ok (.lconst 0, 1) := by decide +kernel
theorem dX10_findBest_27 : decode cX10_findBest 27 = .ok (.lastore, 1) := by decide +kernel
theorem dX10_findBest_28 : decode cX10_findBest 28 = .ok (.iinc 2 1, 3) := by decide +kernel
theorem dX10_findBest_31 : decode cX10_findBest 31 = .ok (.goto (-29), 3) := by decide +kernel
theorem dX10_findBest_34 : decode cX10_findBest 34 = .ok (.aload_n 0, 1) := by decide +kernel
theorem dX10_findBest_35 : decode cX10_findBest 35 = .ok (.getfield 374, 3) := by decide +kernel
theorem dX10_findBest_38 : decode cX10_findBest 38 = .ok (.iconst 1, 1) := by decide +kernel
theorem dX10_findBest_39 : decode cX10_findBest 39 = .ok (.isub, 1) := by decide +kernel
theorem dX10_findBest_40 : decode cX10_findBest 40 = .ok (.istore_n 2, 1) := by decide +kernel
theorem dX10_findBest_41 : decode cX10_findBest 41 = .ok (.iload_n 2, 1) := by decide +kernel
theorem dX10_findBest_42 : decode cX10_findBest 42 = .ok (.ifCond .lt 46, 3) := by decide +kernel
theorem dX10_findBest_45 : decode cX10_findBest 45 = .ok (.iconst 0, 1) := by decide +kernel
theorem dX10_findBest_46 : decode cX10_findBest 46 = .ok (.istore_n 3, 1) := by decide +kernel
theorem dX10_findBest_47 : decode cX10_findBest 47 = .ok (.iload_n 3, 1) := by decide +kernel
theorem dX10_findBest_48 : decode cX10_findBest 48 = .ok (.iconst 1, 1) := by decide +kernel
theorem dX10_findBest_49 : decode cX10_findBest 49 = .ok (.aload_n 0, 1) := by decide +kernel
theorem dX10_findBest_50 : decode cX10_findBest 50 = .ok (.getfield 263, 3) := by decide +kernel
theorem dX10_findBest_53 : decode cX10_findBest 53 = .ok (.ishl, 1) := by decide +kernel
theorem dX10_findBest_54 : decode cX10_findBest 54 = .ok (.if_icmp .ge 28, 3) := by decide +kernel
theorem dX10_findBest_57 : decode cX10_findBest 57 = .ok (.aload_n 0, 1) := by decide +kernel
theorem dX10_findBest_58 : decode cX10_findBest 58 = .ok (.getfield 62, 3) := by decide +kernel
theorem dX10_findBest_61 : decode cX10_findBest 61 = .ok (.sipush 4096, 3) := by decide +kernel
theorem dX10_findBest_64 : decode cX10_findBest 64 = .ok (.iload_n 2, 1) := by decide +kernel
theorem dX10_findBest_65 : decode cX10_findBest 65 = .ok (.imul, 1) := by decide +kernel
theorem dX10_findBest_66 : decode cX10_findBest 66 = .ok (.iload_n 3, 1) := by decide +kernel
theorem dX10_findBest_67 : decode cX10_findBest 67 = .ok (.iadd, 1) := by decide +kernel
theorem dX10_findBest_68 : decode cX10_findBest 68 = .ok (.aload_n 0, 1) := by decide +kernel
theorem dX10_findBest_69 : decode cX10_findBest 69 = .ok (.iload_n 2, 1) := by decide +kernel
theorem dX10_findBest_70 : decode cX10_findBest 70 = .ok (.iload_n 3, 1) := by decide +kernel
theorem dX10_findBest_71 : decode cX10_findBest 71 = .ok (.iload_n 1, 1) := by decide +kernel
theorem dX10_findBest_72 : decode cX10_findBest 72 = .ok (.invokevirtual 395, 3) := by decide +kernel
theorem dX10_findBest_75 : decode cX10_findBest 75 = .ok (.lastore, 1) := by decide +kernel
theorem dX10_findBest_76 : decode cX10_findBest 76 = .ok (.iinc 3 1, 3) := by decide +kernel
theorem dX10_findBest_79 : decode cX10_findBest 79 = .ok (.goto (-32), 3) := by decide +kernel
theorem dX10_findBest_82 : decode cX10_findBest 82 = .ok (.iinc 2 (-1), 3) := by decide +kernel
theorem dX10_findBest_85 : decode cX10_findBest 85 = .ok (.goto (-44), 3) := by decide +kernel
theorem dX10_findBest_88 : decode cX10_findBest 88 = .ok (.aload_n 0, 1) := by decide +kernel
theorem dX10_findBest_89 : decode cX10_findBest 89 = .ok (.getfield 62, 3) := by decide +kernel
theorem dX10_findBest_92 : decode cX10_findBest 92 = .ok (.iconst 0, 1) := by decide +kernel
theorem dX10_findBest_93 : decode cX10_findBest 93 = .ok (.laload, 1) := by decide +kernel
theorem dX10_findBest_94 : decode cX10_findBest 94 = .ok (.lreturn, 1) := by decide +kernel
def tX10_findBest (g : ax_G) : Nat → ax_O := ax_nd 45 (ax_nd 23 (ax_nd 8 (ax_nd 2 (ax_nd 0 (ax_lf 0 (ao_ic (0) 1)) (ax_nd 1 (ax_lf 1 (ao_is 2 1)) (ax_lf 2 (ao_il 2 1)))) (ax_nd 4 (ax_nd 3 (ax_lf 3 (ao_ic (1) 1)) (ax_lf 4 (ao_al 0 1))) (ax_nd 5 (ax_lf 5 (ao_gi 10 26)) (ax_lf 8 ao_ishl)))) (ax_nd 13 (ax_nd 9 (ax_lf 9 (ao_icmp_ge 34)) (ax_nd 12 (ax_lf 12 (ao_al 0 1)) (ax_lf 13 (ao_gr 10 43)))) (ax_nd 19 (ax_nd 16 (ax_lf 16 (ao_ic (4096) 3)) (ax_lf 19 (ao_al 0 1))) (ax_nd 20 (ax_lf 20 (ao_gi 10 42)) (ax_lf 23 ao_imul))))) (ax_nd 34 (ax_nd 26 (ax_nd 24 (ax_lf 24 (ao_il 2 1)) (ax_nd 25 (ax_lf 25 ao_iadd) (ax_lf 26 (ao_lc (0) 1)))) (ax_nd 28 (ax_nd 27 (ax_lf 27 ao_last) (ax_lf 28 (ao_iinc 2 (1)))) (ax_nd 31 (ax_lf 31 (ao_goto 2)) (ax_lf 34 (ao_al 0 1))))) (ax_nd 39 (ax_nd 35 (ax_lf 35 (ao_gi 10 42)) (ax_nd 38 (ax_lf 38 (ao_ic (1) 1)) (ax_lf 39 ao_isub))) (ax_nd 41 (ax_nd 40 (ax_lf 40 (ao_is 2 1)) (ax_lf 41 (ao_il 2 1))) (ax_nd 42 (ax_lf 42 (ao_if_lt 88)) (ax_lf 45 (ao_ic (0) 1))))))) (ax_nd 67 (ax_nd 54 (ax_nd 48 (ax_nd 46 (ax_lf 46 (ao_is 3 1)) (ax_nd 47 (ax_lf 47 (ao_il 3 1)) (ax_lf 48 (ao_ic (1) 1)))) (ax_nd 50 (ax_nd 49 (ax_lf 49 (ao_al 0 1)) (ax_lf 50 (ao_gi 10 26))) (ax_nd 53 (ax_lf 53 ao_ishl) (ax_lf 54 (ao_icmp_ge 82))))) (ax_nd 61 (ax_nd 57 (ax_lf 57 (ao_al 0 1)) (ax_nd 58 (ax_lf 58 (ao_gr 10 43)) (ax_lf 61 (ao_ic (4096) 3)))) (ax_nd 65 (ax_nd 64 (ax_lf 64 (ao_il 2 1)) (ax_lf 65 ao_imul)) (ax_nd 66 (ax_lf 66 (ao_il 3 1)) (ax_lf 67 ao_iadd))))) (ax_nd 76 (ax_nd 70 (ax_nd 68 (ax_lf 68 (ao_al 0 1)) (ax_nd 69 (ax_lf 69 (ao_il 2 1)) (ax_lf 70 (ao_il 3 1)))) (ax_nd 72 (ax_nd 71 (ax_lf 71 (ao_il 1 1)) (ax_lf 72 (ao_inv g 12 10 2 yX10_bestFrom cX10_bestFrom 11 (some .long) 4 0 0 0 0))) (ax_nd 75 (ax_lf 75 ao_last) (ax_lf 76 (ao_iinc 3 (1)))))) (ax_nd 88 (ax_nd 82 (ax_nd 79 (ax_lf 79 (ao_goto 47)) (ax_lf 82 (ao_iinc 2 (-1)))) (ax_nd 85 (ax_lf 85 (ao_goto 41)) (ax_lf 88 (ao_al 0 1)))) (ax_nd 92 (ax_nd 89 (ax_lf 89 (ao_gr 10 43)) (ax_lf 92 (ao_ic (0) 1))) (ax_nd 93 (ax_lf 93 ao_lald) (ax_lf 94 (ao_lret 0 0)))))))
theorem oX10_findBest (g : ax_G) : ∀ pc, ax_ok g cX10_findBest 4 (some .long) RX10 "findBest" 13 0 0 pc (tX10_findBest g pc) := ax_nd_ok (ax_nd_ok (ax_nd_ok (ax_nd_ok (ax_nd_ok (ax_lf_ok (ak_iconst (by decide) dX10_findBest_0)) (ax_nd_ok (ax_lf_ok (ak_istore_n rfl (by decide) dX10_findBest_1)) (ax_lf_ok (ak_iload_n rfl dX10_findBest_2)))) (ax_nd_ok (ax_nd_ok (ax_lf_ok (ak_iconst (by decide) dX10_findBest_3)) (ax_lf_ok (ak_aload_n rfl dX10_findBest_4))) (ax_nd_ok (ax_lf_ok (ak_gi fF_X10_263 dX10_findBest_5)) (ax_lf_ok (ak_ishl dX10_findBest_8))))) (ax_nd_ok (ax_nd_ok (ax_lf_ok (ak_icmp_ge (by decide) dX10_findBest_9)) (ax_nd_ok (ax_lf_ok (ak_aload_n rfl dX10_findBest_12)) (ax_lf_ok (ak_gr fF_X10_62 dX10_findBest_13)))) (ax_nd_ok (ax_nd_ok (ax_lf_ok (ak_sipush (by decide) dX10_findBest_16)) (ax_lf_ok (ak_aload_n rfl dX10_findBest_19))) (ax_nd_ok (ax_lf_ok (ak_gi fF_X10_374 dX10_findBest_20)) (ax_lf_ok (ak_imul dX10_findBest_23)))))) (ax_nd_ok (ax_nd_ok (ax_nd_ok (ax_lf_ok (ak_iload_n rfl dX10_findBest_24)) (ax_nd_ok (ax_lf_ok (ak_iadd dX10_findBest_25)) (ax_lf_ok (ak_lconst (by decide) dX10_findBest_26)))) (ax_nd_ok (ax_nd_ok (ax_lf_ok (ak_last dX10_findBest_27)) (ax_lf_ok (ak_iinc (by decide) (by decide) dX10_findBest_28))) (ax_nd_ok (ax_lf_ok (ak_goto (by decide) dX10_findBest_31)) (ax_lf_ok (ak_aload_n rfl dX10_findBest_34))))) (ax_nd_ok (ax_nd_ok (ax_lf_ok (ak_gi fF_X10_374 dX10_findBest_35)) (ax_nd_ok (ax_lf_ok (ak_iconst (by decide) dX10_findBest_38)) (ax_lf_ok (ak_isub dX10_findBest_39)))) (ax_nd_ok (ax_nd_ok (ax_lf_ok (ak_istore_n rfl (by decide) dX10_findBest_40)) (ax_lf_ok (ak_iload_n rfl dX10_findBest_41))) (ax_nd_ok (ax_lf_ok (ak_if_lt (by decide) dX10_findBest_42)) (ax_lf_ok (ak_iconst (by decide) dX10_findBest_45))))))) (ax_nd_ok (ax_nd_ok (ax_nd_ok (ax_nd_ok (ax_lf_ok (ak_istore_n rfl (by decide) dX10_findBest_46)) (ax_nd_ok (ax_lf_ok (ak_iload_n rfl dX10_findBest_47)) (ax_lf_ok (ak_iconst (by decide) dX10_findBest_48)))) (ax_nd_ok (ax_nd_ok (ax_lf_ok (ak_aload_n rfl dX10_findBest_49)) (ax_lf_ok (ak_gi fF_X10_263 dX10_findBest_50))) (ax_nd_ok (ax_lf_ok (ak_ishl dX10_findBest_53)) (ax_lf_ok (ak_icmp_ge (by decide) dX10_findBest_54))))) (ax_nd_ok (ax_nd_ok (ax_lf_ok (ak_aload_n rfl dX10_findBest_57)) (ax_nd_ok (ax_lf_ok (ak_gr fF_X10_62 dX10_findBest_58)) (ax_lf_ok (ak_sipush (by decide) dX10_findBest_61)))) (ax_nd_ok (ax_nd_ok (ax_lf_ok (ak_iload_n rfl dX10_findBest_64)) (ax_lf_ok (ak_imul dX10_findBest_65))) (ax_nd_ok (ax_lf_ok (ak_iload_n rfl dX10_findBest_66)) (ax_lf_ok (ak_iadd dX10_findBest_67)))))) (ax_nd_ok (ax_nd_ok (ax_nd_ok (ax_lf_ok (ak_aload_n rfl dX10_findBest_68)) (ax_nd_ok (ax_lf_ok (ak_iload_n rfl dX10_findBest_69)) (ax_lf_ok (ak_iload_n rfl dX10_findBest_70)))) (ax_nd_ok (ax_nd_ok (ax_lf_ok (ak_iload_n rfl dX10_findBest_71)) (ax_lf_ok (ak_invV (by decide) (by decide) (by decide) rfl wd_1540 wd_1542 wd_70 wd_106 wd_1543 ⟨by decide, by decide, by decide +kernel⟩ dX10_findBest_72))) (ax_nd_ok (ax_lf_ok (ak_last dX10_findBest_75)) (ax_lf_ok (ak_iinc (by decide) (by decide) dX10_findBest_76))))) (ax_nd_ok (ax_nd_ok (ax_nd_ok (ax_lf_ok (ak_goto (by decide) dX10_findBest_79)) (ax_lf_ok (ak_iinc (by decide) (by decide) dX10_findBest_82))) (ax_nd_ok (ax_lf_ok (ak_goto (by decide) dX10_findBest_85)) (ax_lf_ok (ak_aload_n rfl dX10_findBest_88)))) (ax_nd_ok (ax_nd_ok (ax_lf_ok (ak_gr fF_X10_62 dX10_findBest_89)) (ax_lf_ok (ak_iconst (by decide) dX10_findBest_92))) (ax_nd_ok (ax_lf_ok (ak_lald dX10_findBest_93)) (ax_lf_ok (ak_lret rfl dX10_findBest_94)))))))
abbrev mX10_findBest (g : ax_G) (as : List Value) (h : ax_H) (Ret : Option Value → ax_H → Prop) : Prop := ax_M g 13 0 0 yX10_findBest cX10_findBest 4 (some .long) as h Ret
theorem dX10_choose_0 : decode cX10_choose 0 = .ok (.iconst 0, 1) := by decide +kernel
theorem dX10_choose_1 : decode cX10_choose 1 = .ok (.istore_n 2, 1) := by decide +kernel
theorem dX10_choose_2 : decode cX10_choose 2 = .ok (.iconst 0, 1) := by decide +kernel
theorem dX10_choose_3 : decode cX10_choose 3 = .ok (.istore_n 3, 1) := by decide +kernel
theorem dX10_choose_4 : decode cX10_choose 4 = .ok (.iload_n 3, 1) := by decide +kernel
theorem dX10_choose_5 : decode cX10_choose 5 = .ok (.aload_n 0, 1) := by decide +kernel
theorem dX10_choose_6 : decode cX10_choose 6 = .ok (.getfield 374, 3) := by decide +kernel
theorem dX10_choose_9 : decode cX10_choose 9 = .ok (.if_icmp .ge 117, 3) := by decide +kernel
theorem dX10_choose_12 : decode cX10_choose 12 = .ok (.aload_n 0, 1) := by decide +kernel
theorem dX10_choose_13 : decode cX10_choose 13 = .ok (.iload_n 3, 1) := by decide +kernel
theorem dX10_choose_14 : decode cX10_choose 14 = .ok (.iconst 1, 1) := by decide +kernel
theorem dX10_choose_15 : decode cX10_choose 15 = .ok (.invokevirtual 371, 3) := by decide +kernel
theorem dX10_choose_18 : decode cX10_choose 18 = .ok (.istore 4, 2) := by decide +kernel
theorem dX10_choose_20 : decode cX10_choose 20 = .ok (.iload_n 2, 1) := by decide +kernel
theorem dX10_choose_21 : decode cX10_choose 21 = .ok (.iload 4, 2) := by decide +kernel
theorem dX10_choose_23 : decode cX10_choose 23 = .ok (.invokestatic 388, 3) := by decide +kernel
theorem dX10_choose_26 : decode cX10_choose 26 = .ok (.ifCond .ne 73, 3) := by decide +kernel
theorem dX10_choose_29 : decode cX10_choose 29 = .ok (.aload_n 0, 1) := by decide +kernel
theorem dX10_choose_30 : decode cX10_choose 30 = .ok (.getfield 62, 3) := by decide +kernel
theorem dX10_choose_33 : decode cX10_choose 33 = .ok (.sipush 4096, 3) := by decide +kernel
theorem dX10_choose_36 : decode cX10_choose 36 = .ok (.iload_n 3, 1) := by decide +kernel
theorem dX10_choose_37 : decode cX10_choose 37 = .ok (.iconst 1, 1) := by decide +kernel
theorem dX10_choose_38 : decode cX10_choose 38 = .ok (.iadd, 1) := by decide +kernel
theorem dX10_choose_39 : decode cX10_choose 39 = .ok (.imul, 1) := by decide +kernel
theorem dX10_choose_40 : decode cX10_choose 40 = .ok (.iload_n 2, 1) := by decide +kernel
theorem dX10_choose_41 : decode cX10_choose 41 = .ok (.iconst 1, 1) := by decide +kernel
theorem dX10_choose_42 : decode cX10_choose 42 = .ok (.iload 4, 2) := by decide +kernel
theorem dX10_choose_44 : decode cX10_choose 44 = .ok (.ishl, 1) := by decide +kernel
theorem dX10_choose_45 : decode cX10_choose 45 = .ok (.ior, 1) := by decide +kernel
theorem dX10_choose_46 : decode cX10_choose 46 = .ok (.iadd, 1) := by decide +kernel
theorem dX10_choose_47 : decode cX10_choose 47 = .ok (.laload, 1) := by decide +kernel
theorem dX10_choose_48 : decode cX10_choose 48 = .ok (.ldc2_w 380, 3) := by decide +kernel
theorem dX10_choose_51 : decode cX10_choose 51 = .ok (.lcmp, 1) := by decide +kernel
theorem dX10_choose_52 : decode cX10_choose 52 = .ok (.ifCond .eq 47, 3) := by decide +kernel
theorem dX10_choose_55 : decode cX10_choose 55 = .ok (.aload_n 0, 1) := by decide +kernel
theorem dX10_choose_56 : decode cX10_choose 56 = .ok (.getfield 62, 3) := by decide +kernel
theorem dX10_choose_59 : decode cX10_choose 59 = .ok (.sipush 4096, 3) := by decide +kernel
theorem dX10_choose_62 : decode cX10_choose 62 = .ok (.iload_n 3, 1) := by decide +kernel
theorem dX10_choose_63 : decode cX10_choose 63 = .ok (.iconst 1, 1) := by decide +kernel
theorem dX10_choose_64 : decode cX10_choose 64 = .ok (.iadd, 1) := by decide +kernel
theorem dX10_choose_65 : decode cX10_choose 65 = .ok (.imul, 1) := by decide +kernel
theorem dX10_choose_66 : decode cX10_choose 66 = .ok (.iload_n 2, 1) := by decide +kernel
theorem dX10_choose_67 : decode cX10_choose 67 = .ok (.iconst 1, 1) := by decide +kernel
theorem dX10_choose_68 : decode cX10_choose 68 = .ok (.iload 4, 2) := by decide +kernel
theorem dX10_choose_70 : decode cX10_choose 70 = .ok (.ishl, 1) := by decide +kernel
theorem dX10_choose_71 : decode cX10_choose 71 = .ok (.ior, 1) := by decide +kernel
theorem dX10_choose_72 : decode cX10_choose 72 = .ok (.iadd, 1) := by decide +kernel
theorem dX10_choose_73 : decode cX10_choose 73 = .ok (.laload, 1) := by decide +kernel
theorem dX10_choose_74 : decode cX10_choose 74 = .ok (.aload_n 0, 1) := by decide +kernel
theorem dX10_choose_75 : decode cX10_choose 75 = .ok (.iload_n 3, 1) := by decide +kernel
theorem dX10_choose_76 : decode cX10_choose 76 = .ok (.iload 4, 2) := by decide +kernel
theorem dX10_choose_78 : decode cX10_choose 78 = .ok (.iload_n 1, 1) := by decide +kernel
theorem dX10_choose_79 : decode cX10_choose 79 = .ok (.invokevirtual 391, 3) := by decide +kernel
theorem dX10_choose_82 : decode cX10_choose 82 = .ok (.ladd, 1) := by decide +kernel
theorem dX10_choose_83 : decode cX10_choose 83 = .ok (.aload_n 0, 1) := by decide +kernel
theorem dX10_choose_84 : decode cX10_choose 84 = .ok (.getfield 62, 3) := by decide +kernel
theorem dX10_choose_87 : decode cX10_choose 87 = .ok (.sipush 4096, 3) := by decide +kernel
theorem dX10_choose_90 : decode cX10_choose 90 = .ok (.iload_n 3, 1) := by decide +kernel
theorem dX10_choose_91 : decode cX10_choose 91 = .ok (.imul, 1) := by decide +kernel
theorem dX10_choose_92 : decode cX10_choose 92 = .ok (.iload_n 2, 1) := by decide +kernel
theorem dX10_choose_93 : decode cX10_choose 93 = .ok (.iadd, 1) := by decide +kernel
theorem dX10_choose_94 : decode cX10_choose 94 = .ok (.laload, 1) := by decide +kernel
theorem dX10_choose_95 : decode cX10_choose 95 = .ok (.lcmp, 1) := by decide +kernel
theorem dX10_choose_96 : decode cX10_choose 96 = .ok (.ifCond .eq 9, 3) := by decide +kernel
theorem dX10_choose_99 : decode cX10_choose 99 = .ok (.iinc 4 1, 3) := by decide +kernel
theorem dX10_choose_102 : decode cX10_choose 102 = .ok (.goto (-82), 3) := by decide +kernel
theorem dX10_choose_105 : decode cX10_choose 105 = .ok (.aload_n 0, 1) := by decide +kernel
theorem dX10_choose_106 : decode cX10_choose 106 = .ok (.getfield 66, 3) := by decide +kernel
theorem dX10_choose_109 : decode cX10_choose 109 = .ok (.iload_n 3, 1) := by decide +kernel
theorem dX10_choose_110 : decode cX10_choose 110 = .ok (.iload 4, 2) := by decide +kernel
theorem dX10_choose_112 : decode cX10_choose 112 = .ok (.iastore, 1) := by decide +kernel
theorem dX10_choose_113 : decode cX10_choose 113 = .ok (.iload_n 2, 1) := by decide +kernel
theorem dX10_choose_114 : decode cX10_choose 114 = .ok (.iconst 1, 1) := by decide +kernel
theorem dX10_choose_115 : decode cX10_choose 115 = .ok (.iload 4, 2) := by decide +kernel
theorem dX10_choose_117 : decode cX10_choose 117 = .ok (.ishl, 1) := by decide +kernel
theorem dX10_choose_118 : decode cX10_choose 118 = .ok (.ior, 1) := by decide +kernel
theorem dX10_choose_119 : decode cX10_choose 119 = .ok (.istore_n 2, 1) := by decide +kernel
theorem dX10_choose_120 : decode cX10_choose 120 = .ok (.iinc 3 1, 3) := by decide +kernel
theorem dX10_choose_123 : decode cX10_choose 123 = .ok (.goto (-119), 3) := by decide +kernel
theorem dX10_choose_126 : decode cX10_choose 126 = .ok (.return_, 1) := by decide +kernel
def tX10_choose (g : ax_G) : Nat → ax_O := ax_nd 64 (ax_nd 33 (ax_nd 13 (ax_nd 4 (ax_nd 1 (ax_nd 0 (ax_lf 0 (ao_ic (0) 1)) (ax_lf 1 (ao_is 2 1))) (ax_nd 2 (ax_lf 2 (ao_ic (0) 1)) (ax_nd 3 (ax_lf 3 (ao_is 3 1)) (ax_lf 4 (ao_il 3 1))))) (ax_nd 6 (ax_nd 5 (ax_lf 5 (ao_al 0 1)) (ax_lf 6 (ao_gi 10 42))) (ax_nd 9 (ax_lf 9 (ao_icmp_ge 126)) (ax_nd 12 (ax_lf 12 (ao_al 0 1)) (ax_lf 13 (ao_il 3 1)))))) (ax_nd 21 (ax_nd 15 (ax_nd 14 (ax_lf 14 (ao_ic (1) 1)) (ax_lf 15 (ao_inv g 1 10 1 yX10_errandOf cX10_errandOf 3 (some .int) 3 0 0 0 0))) (ax_nd 18 (ax_lf 18 (ao_is 4 2)) (ax_nd 20 (ax_lf 20 (ao_il 2 1)) (ax_lf 21 (ao_il 4 2))))) (ax_nd 26 (ax_nd 23 (ax_lf 23 (ao_inv g 1 99 1 yX10_has cX10_has 2 (some .boolean) 2 0 0 0 0)) (ax_lf 26 (ao_if_ne 99))) (ax_nd 29 (ax_lf 29 (ao_al 0 1)) (ax_nd 30 (ax_lf 30 (ao_gr 10 43)) (ax_lf 33 (ao_ic (4096) 3))))))) (ax_nd 46 (ax_nd 40 (ax_nd 37 (ax_nd 36 (ax_lf 36 (ao_il 3 1)) (ax_lf 37 (ao_ic (1) 1))) (ax_nd 38 (ax_lf 38 ao_iadd) (ax_nd 39 (ax_lf 39 ao_imul) (ax_lf 40 (ao_il 2 1))))) (ax_nd 42 (ax_nd 41 (ax_lf 41 (ao_ic (1) 1)) (ax_lf 42 (ao_il 4 2))) (ax_nd 44 (ax_lf 44 ao_ishl) (ax_nd 45 (ax_lf 45 ao_ior) (ax_lf 46 ao_iadd))))) (ax_nd 55 (ax_nd 48 (ax_nd 47 (ax_lf 47 ao_lald) (ax_lf 48 (ao_lc (-1000000000000) 3))) (ax_nd 51 (ax_lf 51 ao_lcmp) (ax_nd 52 (ax_lf 52 (ao_if_eq 99)) (ax_lf 55 (ao_al 0 1))))) (ax_nd 59 (ax_nd 56 (ax_lf 56 (ao_gr 10 43)) (ax_lf 59 (ao_ic (4096) 3))) (ax_nd 62 (ax_lf 62 (ao_il 3 1)) (ax_nd 63 (ax_lf 63 (ao_ic (1) 1)) (ax_lf 64 ao_iadd))))))) (ax_nd 92 (ax_nd 75 (ax_nd 70 (ax_nd 66 (ax_nd 65 (ax_lf 65 ao_imul) (ax_lf 66 (ao_il 2 1))) (ax_nd 67 (ax_lf 67 (ao_ic (1) 1)) (ax_nd 68 (ax_lf 68 (ao_il 4 2)) (ax_lf 70 ao_ishl)))) (ax_nd 72 (ax_nd 71 (ax_lf 71 ao_ior) (ax_lf 72 ao_iadd)) (ax_nd 73 (ax_lf 73 ao_lald) (ax_nd 74 (ax_lf 74 (ao_al 0 1)) (ax_lf 75 (ao_il 3 1)))))) (ax_nd 83 (ax_nd 78 (ax_nd 76 (ax_lf 76 (ao_il 4 2)) (ax_lf 78 (ao_il 1 1))) (ax_nd 79 (ax_lf 79 (ao_inv g 2 10 2 yX10_worthAt cX10_worthAt 7 (some .long) 4 0 0 0 0)) (ax_nd 82 (ax_lf 82 ao_ladd) (ax_lf 83 (ao_al 0 1))))) (ax_nd 87 (ax_nd 84 (ax_lf 84 (ao_gr 10 43)) (ax_lf 87 (ao_ic (4096) 3))) (ax_nd 90 (ax_lf 90 (ao_il 3 1)) (ax_nd 91 (ax_lf 91 ao_imul) (ax_lf 92 (ao_il 2 1))))))) (ax_nd 110 (ax_nd 99 (ax_nd 94 (ax_nd 93 (ax_lf 93 ao_iadd) (ax_lf 94 ao_lald)) (ax_nd 95 (ax_lf 95 ao_lcmp) (ax_nd 96 (ax_lf 96 (ao_if_eq 105)) (ax_lf 99 (ao_iinc 4 (1)))))) (ax_nd 105 (ax_nd 102 (ax_lf 102 (ao_goto 20)) (ax_lf 105 (ao_al 0 1))) (ax_nd 106 (ax_lf 106 (ao_gr 10 44)) (ax_nd 109 (ax_lf 109 (ao_il 3 1)) (ax_lf 110 (ao_il 4 2)))))) (ax_nd 117 (ax_nd 113 (ax_nd 112 (ax_lf 112 ao_iast) (ax_lf 113 (ao_il 2 1))) (ax_nd 114 (ax_lf 114 (ao_ic (1) 1)) (ax_nd 115 (ax_lf 115 (ao_il 4 2)) (ax_lf 117 ao_ishl)))) (ax_nd 119 (ax_nd 118 (ax_lf 118 ao_ior) (ax_lf 119 (ao_is 2 1))) (ax_nd 120 (ax_lf 120 (ao_iinc 3 (1))) (ax_nd 123 (ax_lf 123 (ao_goto 4)) (ax_lf 126 (ao_vret 0 0))))))))
theorem oX10_choose (g : ax_G) : ∀ pc, ax_ok g cX10_choose 5 none RX10 "choose" 3 0 0 pc (tX10_choose g pc) := ax_nd_ok (ax_nd_ok (ax_nd_ok (ax_nd_ok (ax_nd_ok (ax_nd_ok (ax_lf_ok (ak_iconst (by decide) dX10_choose_0)) (ax_lf_ok (ak_istore_n rfl (by decide) dX10_choose_1))) (ax_nd_ok (ax_lf_ok (ak_iconst (by decide) dX10_choose_2)) (ax_nd_ok (ax_lf_ok (ak_istore_n rfl (by decide) dX10_choose_3)) (ax_lf_ok (ak_iload_n rfl dX10_choose_4))))) (ax_nd_ok (ax_nd_ok (ax_lf_ok (ak_aload_n rfl dX10_choose_5)) (ax_lf_ok (ak_gi fF_X10_374 dX10_choose_6))) (ax_nd_ok (ax_lf_ok (ak_icmp_ge (by decide) dX10_choose_9)) (ax_nd_ok (ax_lf_ok (ak_aload_n rfl dX10_choose_12)) (ax_lf_ok (ak_iload_n rfl dX10_choose_13)))))) (ax_nd_ok (ax_nd_ok (ax_nd_ok (ax_lf_ok (ak_iconst (by decide) dX10_choose_14)) (ax_lf_ok (ak_invV (by decide) (by decide) (by decide) rfl wd_1528 wd_1530 wd_68 wd_106 wd_1531 ⟨by decide, by decide, by decide +kernel⟩ dX10_choose_15))) (ax_nd_ok (ax_lf_ok (ak_istore (by decide) dX10_choose_18)) (ax_nd_ok (ax_lf_ok (ak_iload_n rfl dX10_choose_20)) (ax_lf_ok (ak_iload dX10_choose_21))))) (ax_nd_ok (ax_nd_ok (ax_lf_ok (ak_invS (by decide) (by decide) wd_1553 wd_1554 wd_106 wd_1555 ⟨by decide, by decide, by decide +kernel⟩ dX10_choose_23)) (ax_lf_ok (ak_if_ne (by decide) dX10_choose_26))) (ax_nd_ok (ax_lf_ok (ak_aload_n rfl dX10_choose_29)) (ax_nd_ok (ax_lf_ok (ak_gr fF_X10_62 dX10_choose_30)) (ax_lf_ok (ak_sipush (by decide) dX10_choose_33))))))) (ax_nd_ok (ax_nd_ok (ax_nd_ok (ax_nd_ok (ax_lf_ok (ak_iload_n rfl dX10_choose_36)) (ax_lf_ok (ak_iconst (by decide) dX10_choose_37))) (ax_nd_ok (ax_lf_ok (ak_iadd dX10_choose_38)) (ax_nd_ok (ax_lf_ok (ak_imul dX10_choose_39)) (ax_lf_ok (ak_iload_n rfl dX10_choose_40))))) (ax_nd_ok (ax_nd_ok (ax_lf_ok (ak_iconst (by decide) dX10_choose_41)) (ax_lf_ok (ak_iload dX10_choose_42))) (ax_nd_ok (ax_lf_ok (ak_ishl dX10_choose_44)) (ax_nd_ok (ax_lf_ok (ak_ior dX10_choose_45)) (ax_lf_ok (ak_iadd dX10_choose_46)))))) (ax_nd_ok (ax_nd_ok (ax_nd_ok (ax_lf_ok (ak_lald dX10_choose_47)) (ax_lf_ok (ak_ldc2 wd_1544 dX10_choose_48))) (ax_nd_ok (ax_lf_ok (ak_lcmp dX10_choose_51)) (ax_nd_ok (ax_lf_ok (ak_if_eq (by decide) dX10_choose_52)) (ax_lf_ok (ak_aload_n rfl dX10_choose_55))))) (ax_nd_ok (ax_nd_ok (ax_lf_ok (ak_gr fF_X10_62 dX10_choose_56)) (ax_lf_ok (ak_sipush (by decide) dX10_choose_59))) (ax_nd_ok (ax_lf_ok (ak_iload_n rfl dX10_choose_62)) (ax_nd_ok (ax_lf_ok (ak_iconst (by decide) dX10_choose_63)) (ax_lf_ok (ak_iadd dX10_choose_64)))))))) (ax_nd_ok (ax_nd_ok (ax_nd_ok (ax_nd_ok (ax_nd_ok (ax_lf_ok (ak_imul dX10_choose_65)) (ax_lf_ok (ak_iload_n rfl dX10_choose_66))) (ax_nd_ok (ax_lf_ok (ak_iconst (by decide) dX10_choose_67)) (ax_nd_ok (ax_lf_ok (ak_iload dX10_choose_68)) (ax_lf_ok (ak_ishl dX10_choose_70))))) (ax_nd_ok (ax_nd_ok (ax_lf_ok (ak_ior dX10_choose_71)) (ax_lf_ok (ak_iadd dX10_choose_72))) (ax_nd_ok (ax_lf_ok (ak_lald dX10_choose_73)) (ax_nd_ok (ax_lf_ok (ak_aload_n rfl dX10_choose_74)) (ax_lf_ok (ak_iload_n rfl dX10_choose_75)))))) (ax_nd_ok (ax_nd_ok (ax_nd_ok (ax_lf_ok (ak_iload dX10_choose_76)) (ax_lf_ok (ak_iload_n rfl dX10_choose_78))) (ax_nd_ok (ax_lf_ok (ak_invV (by decide) (by decide) (by decide) rfl wd_1556 wd_1558 wd_73 wd_106 wd_1559 ⟨by decide, by decide, by decide +kernel⟩ dX10_choose_79)) (ax_nd_ok (ax_lf_ok (ak_ladd dX10_choose_82)) (ax_lf_ok (ak_aload_n rfl dX10_choose_83))))) (ax_nd_ok (ax_nd_ok (ax_lf_ok (ak_gr fF_X10_62 dX10_choose_84)) (ax_lf_ok (ak_sipush (by decide) dX10_choose_87))) (ax_nd_ok (ax_lf_ok (ak_iload_n rfl dX10_choose_90)) (ax_nd_ok (ax_lf_ok (ak_imul dX10_choose_91)) (ax_lf_ok (ak_iload_n rfl dX10_choose_92))))))) (ax_nd_ok (ax_nd_ok (ax_nd_ok (ax_nd_ok (ax_lf_ok (ak_iadd dX10_choose_93)) (ax_lf_ok (ak_lald dX10_choose_94))) (ax_nd_ok (ax_lf_ok (ak_lcmp dX10_choose_95)) (ax_nd_ok (ax_lf_ok (ak_if_eq (by decide) dX10_choose_96)) (ax_lf_ok (ak_iinc (by decide) (by decide) dX10_choose_99))))) (ax_nd_ok (ax_nd_ok (ax_lf_ok (ak_goto (by decide) dX10_choose_102)) (ax_lf_ok (ak_aload_n rfl dX10_choose_105))) (ax_nd_ok (ax_lf_ok (ak_gr fF_X10_66 dX10_choose_106)) (ax_nd_ok (ax_lf_ok (ak_iload_n rfl dX10_choose_109)) (ax_lf_ok (ak_iload dX10_choose_110)))))) (ax_nd_ok (ax_nd_ok (ax_nd_ok (ax_lf_ok (ak_iast dX10_choose_112)) (ax_lf_ok (ak_iload_n rfl dX10_choose_113))) (ax_nd_ok (ax_lf_ok (ak_iconst (by decide) dX10_choose_114)) (ax_nd_ok (ax_lf_ok (ak_iload dX10_choose_115)) (ax_lf_ok (ak_ishl dX10_choose_117))))) (ax_nd_ok (ax_nd_ok (ax_lf_ok (ak_ior dX10_choose_118)) (ax_lf_ok (ak_istore_n rfl (by decide) dX10_choose_119))) (ax_nd_ok (ax_lf_ok (ak_iinc (by decide) (by decide) dX10_choose_120)) (ax_nd_ok (ax_lf_ok (ak_goto (by decide) dX10_choose_123)) (ax_lf_ok (ak_vret rfl dX10_choose_126))))))))
abbrev mX10_choose (g : ax_G) (as : List Value) (h : ax_H) (Ret : Option Value → ax_H → Prop) : Prop := ax_M g 3 0 0 yX10_choose cX10_choose 5 none as h Ret
theorem dX10_chosenBy_0 : decode cX10_chosenBy 0 = .ok (.lconst 0, 1) := by decide +kernel
theorem dX10_chosenBy_1 : decode cX10_chosenBy 1 = .ok (.lstore_n 2, 1) := by decide +kernel
theorem dX10_chosenBy_2 : decode cX10_chosenBy 2 = .ok (.iconst 0, 1) := by decide +kernel
theorem dX10_chosenBy_3 : decode cX10_chosenBy 3 = .ok (.istore 4, 2) := by decide +kernel
theorem dX10_chosenBy_5 : decode cX10_chosenBy 5 = .ok (.iload 4, 2) := by decide +kernel
theorem dX10_chosenBy_7 : decode cX10_chosenBy 7 = .ok (.aload_n 0, 1) := by decide +kernel
theorem dX10_chosenBy_8 : decode cX10_chosenBy 8 = .ok (.getfield 374, 3) := by decide +kernel
theorem dX10_chosenBy_11 : decode cX10_chosenBy 11 = .ok (.if_icmp .ge 26, 3) := by decide +kernel
theorem dX10_chosenBy_14 : decode cX10_chosenBy 14 = .ok (.lload_n 2, 1) := by decide +kernel
theorem dX10_chosenBy_15 : decode cX10_chosenBy 15 = .ok (.aload_n 0, 1) := by decide +kernel
theorem dX10_chosenBy_16 : decode cX10_chosenBy 16 = .ok (.iload 4, 2) := by decide +kernel
theorem dX10_chosenBy_18 : decode cX10_chosenBy 18 = .ok (.aload_n 0, 1) := by decide +kernel
theorem dX10_chosenBy_19 : decode cX10_chosenBy 19 = .ok (.getfield 66, 3) := by decide +kernel
theorem dX10_chosenBy_22 : decode cX10_chosenBy 22 = .ok (.iload 4, 2) := by decide +kernel
theorem dX10_chosenBy_24 : decode cX10_chosenBy 24 = .ok (.iaload, 1) := by decide +kernel
theorem dX10_chosenBy_25 : decode cX10_chosenBy 25 = .ok (.iload_n 1, 1) := by decide +kernel
theorem dX10_chosenBy_26 : decode cX10_chosenBy 26 = .ok (.invokevirtual 391, 3) := by decide +kernel
theorem dX10_chosenBy_29 : decode cX10_chosenBy 29 = .ok (.ladd, 1) := by decide +kernel
theorem dX10_chosenBy_30 : decode cX10_chosenBy 30 = .ok (.lstore_n 2, 1) := by decide +kernel
theorem dX10_chosenBy_31 : decode cX10_chosenBy 31 = .ok (.iinc 4 1, 3) := by decide +kernel
theorem dX10_chosenBy_34 : decode cX10_chosenBy 34 = .ok (.goto (-29), 3) := by decide +kernel
theorem dX10_chosenBy_37 : decode cX10_chosenBy 37 = .ok (.lload_n 2, 1) := by decide +kernel
theorem dX10_chosenBy_38 : decode cX10_chosenBy 38 = .ok (.lreturn, 1) := by decide +kernel
def tX10_chosenBy (g : ax_G) : Nat → ax_O := ax_nd 16 (ax_nd 5 (ax_nd 1 (ax_nd 0 (ax_lf 0 (ao_lc (0) 1)) (ax_lf 1 (ao_ls 2 1))) (ax_nd 2 (ax_lf 2 (ao_ic (0) 1)) (ax_nd 3 (ax_lf 3 (ao_is 4 2)) (ax_lf 5 (ao_il 4 2))))) (ax_nd 11 (ax_nd 7 (ax_lf 7 (ao_al 0 1)) (ax_nd 8 (ax_lf 8 (ao_gi 10 42)) (ax_lf 11 (ao_icmp_ge 37)))) (ax_nd 14 (ax_lf 14 (ao_ll 2 1)) (ax_nd 15 (ax_lf 15 (ao_al 0 1)) (ax_lf 16 (ao_il 4 2)))))) (ax_nd 26 (ax_nd 22 (ax_nd 18 (ax_lf 18 (ao_al 0 1)) (ax_nd 19 (ax_lf 19 (ao_gr 10 44)) (ax_lf 22 (ao_il 4 2)))) (ax_nd 24 (ax_lf 24 ao_iald) (ax_nd 25 (ax_lf 25 (ao_il 1 1)) (ax_lf 26 (ao_inv g 2 10 2 yX10_worthAt cX10_worthAt 7 (some .long) 4 0 0 0 0))))) (ax_nd 31 (ax_nd 29 (ax_lf 29 ao_ladd) (ax_nd 30 (ax_lf 30 (ao_ls 2 1)) (ax_lf 31 (ao_iinc 4 (1))))) (ax_nd 34 (ax_lf 34 (ao_goto 5)) (ax_nd 37 (ax_lf 37 (ao_ll 2 1)) (ax_lf 38 (ao_lret 0 0))))))
theorem oX10_chosenBy (g : ax_G) : ∀ pc, ax_ok g cX10_chosenBy 5 (some .long) RX10 "chosenBy" 3 0 0 pc (tX10_chosenBy g pc) := ax_nd_ok (ax_nd_ok (ax_nd_ok (ax_nd_ok (ax_lf_ok (ak_lconst (by decide) dX10_chosenBy_0)) (ax_lf_ok (ak_lstore_n rfl (by decide) dX10_chosenBy_1))) (ax_nd_ok (ax_lf_ok (ak_iconst (by decide) dX10_chosenBy_2)) (ax_nd_ok (ax_lf_ok (ak_istore (by decide) dX10_chosenBy_3)) (ax_lf_ok (ak_iload dX10_chosenBy_5))))) (ax_nd_ok (ax_nd_ok (ax_lf_ok (ak_aload_n rfl dX10_chosenBy_7)) (ax_nd_ok (ax_lf_ok (ak_gi fF_X10_374 dX10_chosenBy_8)) (ax_lf_ok (ak_icmp_ge (by decide) dX10_chosenBy_11)))) (ax_nd_ok (ax_lf_ok (ak_lload_n rfl dX10_chosenBy_14)) (ax_nd_ok (ax_lf_ok (ak_aload_n rfl dX10_chosenBy_15)) (ax_lf_ok (ak_iload dX10_chosenBy_16)))))) (ax_nd_ok (ax_nd_ok (ax_nd_ok (ax_lf_ok (ak_aload_n rfl dX10_chosenBy_18)) (ax_nd_ok (ax_lf_ok (ak_gr fF_X10_66 dX10_chosenBy_19)) (ax_lf_ok (ak_iload dX10_chosenBy_22)))) (ax_nd_ok (ax_lf_ok (ak_iald dX10_chosenBy_24)) (ax_nd_ok (ax_lf_ok (ak_iload_n rfl dX10_chosenBy_25)) (ax_lf_ok (ak_invV (by decide) (by decide) (by decide) rfl wd_1556 wd_1558 wd_73 wd_106 wd_1559 ⟨by decide, by decide, by decide +kernel⟩ dX10_chosenBy_26))))) (ax_nd_ok (ax_nd_ok (ax_lf_ok (ak_ladd dX10_chosenBy_29)) (ax_nd_ok (ax_lf_ok (ak_lstore_n rfl (by decide) dX10_chosenBy_30)) (ax_lf_ok (ak_iinc (by decide) (by decide) dX10_chosenBy_31)))) (ax_nd_ok (ax_lf_ok (ak_goto (by decide) dX10_chosenBy_34)) (ax_nd_ok (ax_lf_ok (ak_lload_n rfl dX10_chosenBy_37)) (ax_lf_ok (ak_lret rfl dX10_chosenBy_38))))))
abbrev mX10_chosenBy (g : ax_G) (as : List Value) (h : ax_H) (Ret : Option Value → ax_H → Prop) : Prop := ax_M g 3 0 0 yX10_chosenBy cX10_chosenBy 5 (some .long) as h Ret
theorem dX10_rued_0 : decode cX10_rued 0 = .ok (.iconst (-1), 1) := by decide +kernel
theorem dX10_rued_1 : decode cX10_rued 1 = .ok (.istore_n 1, 1) := by decide +kernel
theorem dX10_rued_2 : decode cX10_rued 2 = .ok (.lconst 0, 1) := by decide +kernel
theorem dX10_rued_3 : decode cX10_rued 3 = .ok (.lstore_n 2, 1) := by decide +kernel
theorem dX10_rued_4 : decode cX10_rued 4 = .ok (.aload_n 0, 1) := by decide +kernel
theorem dX10_rued_5 : decode cX10_rued 5 = .ok (.lconst 0, 1) := by decide +kernel
theorem dX10_rued_6 : decode cX10_rued 6 = .ok (.putfield 398, 3) := by decide +kernel
theorem dX10_rued_9 : decode cX10_rued 9 = .ok (.iconst 0, 1) := by decide +kernel
theorem dX10_rued_10 : decode cX10_rued 10 = .ok (.istore 4, 2) := by decide +kernel
theorem dX10_rued_12 : decode cX10_rued 12 = .ok (.iload 4, 2) := by decide +kernel
theorem dX10_rued_14 : decode cX10_rued 14 = .ok (.aload_n 0, 1) := by decide +kernel
theorem dX10_rued_15 : decode cX10_rued 15 = .ok (.getfield 263, 3) := by decide +kernel
theorem dX10_rued_18 : decode cX10_rued 18 = .ok (.if_icmp .ge 90, 3) := by decide +kernel
theorem dX10_rued_21 : decode cX10_rued 21 = .ok (.aload_n 0, 1) := by decide +kernel
theorem dX10_rued_22 : decode cX10_rued 22 = .ok (.iload 4, 2) := by decide +kernel
theorem dX10_rued_24 : decode cX10_rued 24 = .ok (.invokevirtual 401, 3) := by decide +kernel
theorem dX10_rued_27 : decode cX10_rued 27 = .ok (.lstore 5, 2) := by decide +kernel
theorem dX10_rued_29 : decode cX10_rued 29 = .ok (.aload_n 0, 1) := by decide +kernel
theorem dX10_rued_30 : decode cX10_rued 30 = .ok (.dup, 1) := by decide +kernel
theorem dX10_rued_31 : decode cX10_rued 31 = .ok (.getfield 398, 3) := by decide +kernel
theorem dX10_rued_34 : decode cX10_rued 34 = .ok (.aload_n 0, 1) := by decide +kernel
theorem dX10_rued_35 : decode cX10_rued 35 = .ok (.getfield 56, 3) := by decide +kernel
theorem dX10_rued_38 : decode cX10_rued 38 = .ok (.iload 4, 2) := by decide +kernel
theorem dX10_rued_40 : decode cX10_rued 40 = .ok (.iaload, 1) := by decide +kernel
theorem dX10_rued_41 : decode cX10_rued 41 = .ok (.i2l, 1) := by decide +kernel
theorem dX10_rued_42 : decode cX10_rued 42 = .ok (.lload 5, 2) := by decide +kernel
theorem dX10_rued_44 : decode cX10_rued 44 = .ok (.lmul, 1) := by decide +kernel
theorem dX10_rued_45 : decode cX10_rued 45 = .ok (.ladd, 1) := by decide +kernel
theorem dX10_rued_46 : decode cX10_rued 46 = .ok (.putfield 398, 3) := by decide +kernel
theorem dX10_rued_49 : decode cX10_rued 49 = .ok (.aload_n 0, 1) := by decide +kernel
theorem dX10_rued_50 : decode cX10_rued 50 = .ok (.getfield 56, 3) := by decide +kernel
theorem dX10_rued_53 : decode cX10_rued 53 = .ok (.iload 4, 2) := by decide +kernel
theorem dX10_rued_55 : decode cX10_rued 55 = .ok (.iaload, 1) := by decide +kernel
theorem dX10_rued_56 : decode cX10_rued 56 = .ok (.ifCond .ne 7, 3) := by decide +kernel
theorem dX10_rued_59 : decode cX10_rued 59 = .ok (.lconst 0, 1) := by decide +kernel
theorem dX10_rued_60 : decode cX10_rued 60 = .ok (.goto 12, 3) := by decide +kernel
theorem dX10_rued_63 : decode cX10_rued 63 = .ok (.lload 5, 2) := by decide +kernel
theorem dX10_rued_65 : decode cX10_rued 65 = .ok (.aload_n 0, 1) := by decide +kernel
theorem dX10_rued_66 : decode cX10_rued 66 = .ok (.iload 4, 2) := by decide +kernel
theorem dX10_rued_68 : decode cX10_rued 68 = .ok (.invokevirtual 404, 3) := by decide +kernel
theorem dX10_rued_71 : decode cX10_rued 71 = .ok (.lsub, 1) := by decide +kernel
theorem dX10_rued_72 : decode cX10_rued 72 = .ok (.lstore 7, 2) := by decide +kernel
theorem dX10_rued_74 : decode cX10_rued 74 = .ok (.lload 7, 2) := by decide +kernel
theorem dX10_rued_76 : decode cX10_rued 76 = .ok (.lload_n 2, 1) := by decide +kernel
theorem dX10_rued_77 : decode cX10_rued 77 = .ok (.lcmp, 1) := by decide +kernel
theorem dX10_rued_78 : decode cX10_rued 78 = .ok (.ifCond .le 8, 3) := by decide +kernel
theorem dX10_rued_81 : decode cX10_rued 81 = .ok (.iload 4, 2) := by decide +kernel
theorem dX10_rued_83 : decode cX10_rued 83 = .ok (.goto 4, 3) := by decide +kernel
theorem dX10_rued_86 : decode cX10_rued 86 = .ok (.iload_n 1, 1) := by decide +kernel
theorem dX10_rued_87 : decode cX10_rued 87 = .ok (.istore_n 1, 1) := by decide +kernel
theorem dX10_rued_88 : decode cX10_rued 88 = .ok (.lload 7, 2) := by decide +kernel
theorem dX10_rued_90 : decode cX10_rued 90 = .ok (.lload_n 2, 1) := by decide +kernel
theorem dX10_rued_91 : decode cX10_rued 91 = .ok (.lcmp, 1) := by decide +kernel
theorem dX10_rued_92 : decode cX10_rued 92 = .ok (.ifCond .le 8, 3) := by decide +kernel
theorem dX10_rued_95 : decode cX10_rued 95 = .ok (.lload 7, 2) := by decide +kernel
theorem dX10_rued_97 : decode cX10_rued 97 = .ok (.goto 4, 3) := by decide +kernel
theorem dX10_rued_100 : decode cX10_rued 100 = .ok (.lload_n 2, 1) := by decide +kernel
theorem dX10_rued_101 : decode cX10_rued 101 = .ok (.lstore_n 2, 1) := by decide +kernel
theorem dX10_rued_102 : decode cX10_rued 102 = .ok (.iinc 4 1, 3) := by decide +kernel
theorem dX10_rued_105 : decode cX10_rued 105 = .ok (.goto (-93), 3) := by decide +kernel
theorem dX10_rued_108 : decode cX10_rued 108 = .ok (.iload_n 1, 1) := by decide +kernel
theorem dX10_rued_109 : decode cX10_rued 109 = .ok (.ireturn, 1) := by decide +kernel
def tX10_rued (g : ax_G) : Nat → ax_O := ax_nd 50 (ax_nd 22 (ax_nd 6 (ax_nd 2 (ax_nd 0 (ax_lf 0 (ao_ic (-1) 1)) (ax_nd 1 (ax_lf 1 (ao_is 1 1)) (ax_lf 2 (ao_lc (0) 1)))) (ax_nd 4 (ax_nd 3 (ax_lf 3 (ao_ls 2 1)) (ax_lf 4 (ao_al 0 1))) (ax_nd 5 (ax_lf 5 (ao_lc (0) 1)) (ax_lf 6 (ao_pl 10 46))))) (ax_nd 14 (ax_nd 10 (ax_nd 9 (ax_lf 9 (ao_ic (0) 1)) (ax_lf 10 (ao_is 4 2))) (ax_nd 12 (ax_lf 12 (ao_il 4 2)) (ax_lf 14 (ao_al 0 1)))) (ax_nd 18 (ax_nd 15 (ax_lf 15 (ao_gi 10 26)) (ax_lf 18 (ao_icmp_ge 108))) (ax_nd 21 (ax_lf 21 (ao_al 0 1)) (ax_lf 22 (ao_il 4 2)))))) (ax_nd 38 (ax_nd 30 (ax_nd 27 (ax_nd 24 (ax_lf 24 (ao_inv g 13 10 2 yX10_findBest cX10_findBest 4 (some .long) 2 0 0 0 0)) (ax_lf 27 (ao_ls 5 2))) (ax_nd 29 (ax_lf 29 (ao_al 0 1)) (ax_lf 30 ao_dup))) (ax_nd 34 (ax_nd 31 (ax_lf 31 (ao_gl 10 46)) (ax_lf 34 (ao_al 0 1))) (ax_nd 35 (ax_lf 35 (ao_gr 10 31)) (ax_lf 38 (ao_il 4 2))))) (ax_nd 44 (ax_nd 41 (ax_nd 40 (ax_lf 40 ao_iald) (ax_lf 41 ao_i2l)) (ax_nd 42 (ax_lf 42 (ao_ll 5 2)) (ax_lf 44 ao_lmul))) (ax_nd 46 (ax_nd 45 (ax_lf 45 ao_ladd) (ax_lf 46 (ao_pl 10 46))) (ax_nd 49 (ax_lf 49 (ao_al 0 1)) (ax_lf 50 (ao_gr 10 31))))))) (ax_nd 78 (ax_nd 65 (ax_nd 56 (ax_nd 53 (ax_lf 53 (ao_il 4 2)) (ax_nd 55 (ax_lf 55 ao_iald) (ax_lf 56 (ao_if_ne 63)))) (ax_nd 60 (ax_nd 59 (ax_lf 59 (ao_lc (0) 1)) (ax_lf 60 (ao_goto 72))) (ax_nd 63 (ax_lf 63 (ao_ll 5 2)) (ax_lf 65 (ao_al 0 1))))) (ax_nd 72 (ax_nd 68 (ax_nd 66 (ax_lf 66 (ao_il 4 2)) (ax_lf 68 (ao_inv g 3 10 2 yX10_chosenBy cX10_chosenBy 5 (some .long) 2 0 0 0 0))) (ax_nd 71 (ax_lf 71 ao_lsub) (ax_lf 72 (ao_ls 7 2)))) (ax_nd 76 (ax_nd 74 (ax_lf 74 (ao_ll 7 2)) (ax_lf 76 (ao_ll 2 1))) (ax_nd 77 (ax_lf 77 ao_lcmp) (ax_lf 78 (ao_if_le 86)))))) (ax_nd 92 (ax_nd 87 (ax_nd 83 (ax_nd 81 (ax_lf 81 (ao_il 4 2)) (ax_lf 83 (ao_goto 87))) (ax_nd 86 (ax_lf 86 (ao_il 1 1)) (ax_lf 87 (ao_is 1 1)))) (ax_nd 90 (ax_nd 88 (ax_lf 88 (ao_ll 7 2)) (ax_lf 90 (ao_ll 2 1))) (ax_nd 91 (ax_lf 91 ao_lcmp) (ax_lf 92 (ao_if_le 100))))) (ax_nd 101 (ax_nd 97 (ax_nd 95 (ax_lf 95 (ao_ll 7 2)) (ax_lf 97 (ao_goto 101))) (ax_nd 100 (ax_lf 100 (ao_ll 2 1)) (ax_lf 101 (ao_ls 2 1)))) (ax_nd 105 (ax_nd 102 (ax_lf 102 (ao_iinc 4 (1))) (ax_lf 105 (ao_goto 12))) (ax_nd 108 (ax_lf 108 (ao_il 1 1)) (ax_lf 109 (ao_iret 0 0)))))))
theorem oX10_rued (g : ax_G) : ∀ pc, ax_ok g cX10_rued 9 (some .int) RX10 "rued" 14 0 0 pc (tX10_rued g pc) := ax_nd_ok (ax_nd_ok (ax_nd_ok (ax_nd_ok (ax_nd_ok (ax_lf_ok (ak_iconst (by decide) dX10_rued_0)) (ax_nd_ok (ax_lf_ok (ak_istore_n rfl (by decide) dX10_rued_1)) (ax_lf_ok (ak_lconst (by decide) dX10_rued_2)))) (ax_nd_ok (ax_nd_ok (ax_lf_ok (ak_lstore_n rfl (by decide) dX10_rued_3)) (ax_lf_ok (ak_aload_n rfl dX10_rued_4))) (ax_nd_ok (ax_lf_ok (ak_lconst (by decide) dX10_rued_5)) (ax_lf_ok (ak_pl fF_X10_398 fW_X10_398_a dX10_rued_6))))) (ax_nd_ok (ax_nd_ok (ax_nd_ok (ax_lf_ok (ak_iconst (by decide) dX10_rued_9)) (ax_lf_ok (ak_istore (by decide) dX10_rued_10))) (ax_nd_ok (ax_lf_ok (ak_iload dX10_rued_12)) (ax_lf_ok (ak_aload_n rfl dX10_rued_14)))) (ax_nd_ok (ax_nd_ok (ax_lf_ok (ak_gi fF_X10_263 dX10_rued_15)) (ax_lf_ok (ak_icmp_ge (by decide) dX10_rued_18))) (ax_nd_ok (ax_lf_ok (ak_aload_n rfl dX10_rued_21)) (ax_lf_ok (ak_iload dX10_rued_22)))))) (ax_nd_ok (ax_nd_ok (ax_nd_ok (ax_nd_ok (ax_lf_ok (ak_invV (by decide) (by decide) (by decide) rfl wd_1536 wd_1538 wd_69 wd_106 wd_1539 ⟨by decide, by decide, by decide +kernel⟩ dX10_rued_24)) (ax_lf_ok (ak_lstore (by decide) dX10_rued_27))) (ax_nd_ok (ax_lf_ok (ak_aload_n rfl dX10_rued_29)) (ax_lf_ok (ak_dup dX10_rued_30)))) (ax_nd_ok (ax_nd_ok (ax_lf_ok (ak_gl fF_X10_398 dX10_rued_31)) (ax_lf_ok (ak_aload_n rfl dX10_rued_34))) (ax_nd_ok (ax_lf_ok (ak_gr fF_X10_56 dX10_rued_35)) (ax_lf_ok (ak_iload dX10_rued_38))))) (ax_nd_ok (ax_nd_ok (ax_nd_ok (ax_lf_ok (ak_iald dX10_rued_40)) (ax_lf_ok (ak_i2l dX10_rued_41))) (ax_nd_ok (ax_lf_ok (ak_lload dX10_rued_42)) (ax_lf_ok (ak_lmul dX10_rued_44)))) (ax_nd_ok (ax_nd_ok (ax_lf_ok (ak_ladd dX10_rued_45)) (ax_lf_ok (ak_pl fF_X10_398 fW_X10_398_a dX10_rued_46))) (ax_nd_ok (ax_lf_ok (ak_aload_n rfl dX10_rued_49)) (ax_lf_ok (ak_gr fF_X10_56 dX10_rued_50))))))) (ax_nd_ok (ax_nd_ok (ax_nd_ok (ax_nd_ok (ax_lf_ok (ak_iload dX10_rued_53)) (ax_nd_ok (ax_lf_ok (ak_iald dX10_rued_55)) (ax_lf_ok (ak_if_ne (by decide) dX10_rued_56)))) (ax_nd_ok (ax_nd_ok (ax_lf_ok (ak_lconst (by decide) dX10_rued_59)) (ax_lf_ok (ak_goto (by decide) dX10_rued_60))) (ax_nd_ok (ax_lf_ok (ak_lload dX10_rued_63)) (ax_lf_ok (ak_aload_n rfl dX10_rued_65))))) (ax_nd_ok (ax_nd_ok (ax_nd_ok (ax_lf_ok (ak_iload dX10_rued_66)) (ax_lf_ok (ak_invV (by decide) (by decide) (by decide) rfl wd_1568 wd_1570 wd_76 wd_106 wd_1571 ⟨by decide, by decide, by decide +kernel⟩ dX10_rued_68))) (ax_nd_ok (ax_lf_ok (ak_lsub dX10_rued_71)) (ax_lf_ok (ak_lstore (by decide) dX10_rued_72)))) (ax_nd_ok (ax_nd_ok (ax_lf_ok (ak_lload dX10_rued_74)) (ax_lf_ok (ak_lload_n rfl dX10_rued_76))) (ax_nd_ok (ax_lf_ok (ak_lcmp dX10_rued_77)) (ax_lf_ok (ak_if_le (by decide) dX10_rued_78)))))) (ax_nd_ok (ax_nd_ok (ax_nd_ok (ax_nd_ok (ax_lf_ok (ak_iload dX10_rued_81)) (ax_lf_ok (ak_goto (by decide) dX10_rued_83))) (ax_nd_ok (ax_lf_ok (ak_iload_n rfl dX10_rued_86)) (ax_lf_ok (ak_istore_n rfl (by decide) dX10_rued_87)))) (ax_nd_ok (ax_nd_ok (ax_lf_ok (ak_lload dX10_rued_88)) (ax_lf_ok (ak_lload_n rfl dX10_rued_90))) (ax_nd_ok (ax_lf_ok (ak_lcmp dX10_rued_91)) (ax_lf_ok (ak_if_le (by decide) dX10_rued_92))))) (ax_nd_ok (ax_nd_ok (ax_nd_ok (ax_lf_ok (ak_lload dX10_rued_95)) (ax_lf_ok (ak_goto (by decide) dX10_rued_97))) (ax_nd_ok (ax_lf_ok (ak_lload_n rfl dX10_rued_100)) (ax_lf_ok (ak_lstore_n rfl (by decide) dX10_rued_101)))) (ax_nd_ok (ax_nd_ok (ax_lf_ok (ak_iinc (by decide) (by decide) dX10_rued_102)) (ax_lf_ok (ak_goto (by decide) dX10_rued_105))) (ax_nd_ok (ax_lf_ok (ak_iload_n rfl dX10_rued_108)) (ax_lf_ok (ak_iret rfl dX10_rued_109)))))))
abbrev mX10_rued (g : ax_G) (as : List Value) (h : ax_H) (Ret : Option Value → ax_H → Prop) : Prop := ax_M g 14 0 0 yX10_rued cX10_rued 9 (some .int) as h Ret
theorem dX10_plan_0 : decode cX10_plan 0 = .ok (.aload_n 0, 1) := by decide +kernel
theorem dX10_plan_1 : decode cX10_plan 1 = .ok (.iconst 0, 1) := by decide +kernel
theorem dX10_plan_2 : decode cX10_plan 2 = .ok (.putfield 88, 3) := by decide +kernel
theorem dX10_plan_5 : decode cX10_plan 5 = .ok (.aload_n 0, 1) := by decide +kernel
theorem dX10_plan_6 : decode cX10_plan 6 = .ok (.iload_n 2, 1) := by decide +kernel
theorem dX10_plan_7 : decode cX10_plan 7 = .ok (.invokevirtual 377, 3) := by decide +kernel
theorem dX10_plan_10 : decode cX10_plan 10 = .ok (.ifCond .eq 37, 3) := by decide +kernel
theorem dX10_plan_13 : decode cX10_plan 13 = .ok (.aload_n 0, 1) := by decide +kernel
theorem dX10_plan_14 : decode cX10_plan 14 = .ok (.iload_n 1, 1) := by decide +kernel
theorem dX10_plan_15 : decode cX10_plan 15 = .ok (.invokevirtual 288, 3) := by decide +kernel
theorem dX10_plan_18 : decode cX10_plan 18 = .ok (.ifCond .eq 29, 3) := by decide +kernel
theorem dX10_plan_21 : decode cX10_plan 21 = .ok (.iload_n 3, 1) := by decide +kernel
theorem dX10_plan_22 : decode cX10_plan 22 = .ok (.iconst 0, 1) := by decide +kernel
theorem dX10_plan_23 : decode cX10_plan 23 = .ok (.bipush 6, 2) := by decide +kernel
theorem dX10_plan_25 : decode cX10_plan 25 = .ok (.invokestatic 96, 3) := by decide +kernel
theorem dX10_plan_28 : decode cX10_plan 28 = .ok (.ifCond .ne 23, 3) := by decide +kernel
theorem dX10_plan_31 : decode cX10_plan 31 = .ok (.iload_n 3, 1) := by decide +kernel
theorem dX10_plan_32 : decode cX10_plan 32 = .ok (.bipush 10, 2) := by decide +kernel
theorem dX10_plan_34 : decode cX10_plan 34 = .ok (.bipush 9, 2) := by decide +kernel
theorem dX10_plan_36 : decode cX10_plan 36 = .ok (.aload_n 0, 1) := by decide +kernel
theorem dX10_plan_37 : decode cX10_plan 37 = .ok (.getfield 374, 3) := by decide +kernel
theorem dX10_plan_40 : decode cX10_plan 40 = .ok (.iadd, 1) := by decide +kernel
theorem dX10_plan_41 : decode cX10_plan 41 = .ok (.invokestatic 96, 3) := by decide +kernel
theorem dX10_plan_44 : decode cX10_plan 44 = .ok (.ifCond .ne 7, 3) := by decide +kernel
theorem dX10_plan_47 : decode cX10_plan 47 = .ok (.ldc_w 300, 3) := by decide +kernel
theorem dX10_plan_50 : decode cX10_plan 50 = .ok (.ireturn, 1) := by decide +kernel
theorem dX10_plan_51 : decode cX10_plan 51 = .ok (.aload_n 0, 1) := by decide +kernel
theorem dX10_plan_52 : decode cX10_plan 52 = .ok (.iconst (-1), 1) := by decide +kernel
theorem dX10_plan_53 : decode cX10_plan 53 = .ok (.invokevirtual 401, 3) := by decide +kernel
theorem dX10_plan_56 : decode cX10_plan 56 = .ok (.lstore 4, 2) := by decide +kernel
theorem dX10_plan_58 : decode cX10_plan 58 = .ok (.lload 4, 2) := by decide +kernel
theorem dX10_plan_60 : decode cX10_plan 60 = .ok (.ldc2_w 380, 3) := by decide +kernel
theorem dX10_plan_63 : decode cX10_plan 63 = .ok (.lcmp, 1) := by decide +kernel
theorem dX10_plan_64 : decode cX10_plan 64 = .ok (.ifCond .ne 7, 3) := by decide +kernel
theorem dX10_plan_67 : decode cX10_plan 67 = .ok (.ldc_w 300, 3) := by decide +kernel
theorem dX10_plan_70 : decode cX10_plan 70 = .ok (.ireturn, 1) := by decide +kernel
theorem dX10_plan_71 : decode cX10_plan 71 = .ok (.aload_n 0, 1) := by decide +kernel
theorem dX10_plan_72 : decode cX10_plan 72 = .ok (.iconst (-1), 1) := by decide +kernel
theorem dX10_plan_73 : decode cX10_plan 73 = .ok (.invokevirtual 407, 3) := by decide +kernel
theorem dX10_plan_76 : decode cX10_plan 76 = .ok (.iload_n 3, 1) := by decide +kernel
theorem dX10_plan_77 : decode cX10_plan 77 = .ok (.bipush 10, 2) := by decide +kernel
theorem dX10_plan_79 : decode cX10_plan 79 = .ok (.if_icmp .lt 13, 3) := by decide +kernel
theorem dX10_plan_82 : decode cX10_plan 82 = .ok (.aload_n 0, 1) := by decide +kernel
theorem dX10_plan_83 : decode cX10_plan 83 = .ok (.getfield 66, 3) := by decide +kernel
theorem dX10_plan_86 : decode cX10_plan 86 = .ok (.iload_n 3, 1) := by decide +kernel
theorem dX10_plan_87 : decode cX10_plan 87 = .ok (.bipush 10, 2) := by decide +kernel
theorem dX10_plan_89 : decode cX10_plan 89 = .ok (.isub, 1) := by decide +kernel
theorem dX10_plan_90 : decode cX10_plan 90 = .ok (.iaload, 1) := by decide +kernel
theorem dX10_plan_91 : decode cX10_plan 91 = .ok (.ireturn, 1) := by decide +kernel
theorem dX10_plan_92 : decode cX10_plan 92 = .ok (.iload_n 3, 1) := by decide +kernel
theorem dX10_plan_93 : decode cX10_plan 93 = .ok (.iconst 2, 1) := by decide +kernel
theorem dX10_plan_94 : decode cX10_plan 94 = .ok (.if_icmp .ge 25, 3) := by decide +kernel
theorem dX10_plan_97 : decode cX10_plan 97 = .ok (.lload 4, 2) := by decide +kernel
theorem dX10_plan_99 : decode cX10_plan 99 = .ok (.aload_n 0, 1) := by decide +kernel
theorem dX10_plan_100 : decode cX10_plan 100 = .ok (.getfield 279, 3) := by decide +kernel
theorem dX10_plan_103 : decode cX10_plan 103 = .ok (.i2l, 1) := by decide +kernel
theorem dX10_plan_104 : decode cX10_plan 104 = .ok (.iload_n 3, 1) := by decide +kernel
theorem dX10_plan_105 : decode cX10_plan 105 = .ok (.iconst 1, 1) := by decide +kernel
theorem dX10_plan_106 : decode cX10_plan 106 = .ok (.if_icmp .ne 7, 3) := by decide +kernel
theorem dX10_plan_109 : decode cX10_plan 109 = .ok (.iconst 1, 1) := by decide +kernel
theorem dX10_plan_110 : decode cX10_plan 110 = .ok (.goto 4, 3) := by decide +kernel
theorem dX10_plan_113 : decode cX10_plan 113 = .ok (.iconst 0, 1) := by decide +kernel
theorem dX10_plan_114 : decode cX10_plan 114 = .ok (.invokestatic 308, 3) := by decide +kernel
theorem dX10_plan_117 : decode cX10_plan 117 = .ok (.l2i, 1) := by decide +kernel
theorem dX10_plan_118 : decode cX10_plan 118 = .ok (.ireturn, 1) := by decide +kernel
theorem dX10_plan_119 : decode cX10_plan 119 = .ok (.aload_n 0, 1) := by decide +kernel
theorem dX10_plan_120 : decode cX10_plan 120 = .ok (.invokevirtual 410, 3) := by decide +kernel
theorem dX10_plan_123 : decode cX10_plan 123 = .ok (.istore 6, 2) := by decide +kernel
theorem dX10_plan_125 : decode cX10_plan 125 = .ok (.iload_n 3, 1) := by decide +kernel
theorem dX10_plan_126 : decode cX10_plan 126 = .ok (.bipush 6, 2) := by decide +kernel
theorem dX10_plan_128 : decode cX10_plan 128 = .ok (.if_icmp .ne 6, 3) := by decide +kernel
theorem dX10_plan_131 : decode cX10_plan 131 = .ok (.iload 6, 2) := by decide +kernel
theorem dX10_plan_133 : decode cX10_plan 133 = .ok (.ireturn, 1) := by decide +kernel
theorem dX10_plan_134 : decode cX10_plan 134 = .ok (.aload_n 0, 1) := by decide +kernel
theorem dX10_plan_135 : decode cX10_plan 135 = .ok (.getfield 279, 3) := by decide +kernel
theorem dX10_plan_138 : decode cX10_plan 138 = .ok (.i2l, 1) := by decide +kernel
theorem dX10_plan_139 : decode cX10_plan 139 = .ok (.aload_n 0, 1) := by decide +kernel
theorem dX10_plan_140 : decode cX10_plan 140 = .ok (.getfield 279, 3) := by decide +kernel
theorem dX10_plan_143 : decode cX10_plan 143 = .ok (.i2l, 1) := by decide +kernel
theorem dX10_plan_144 : decode cX10_plan 144 = .ok (.lmul, 1) := by decide +kernel
theorem dX10_plan_145 : decode cX10_plan 145 = .ok (.lstore 7, 2) := by decide +kernel
theorem dX10_plan_147 : decode cX10_plan 147 = .ok (.iload_n 3, 1) := by decide +kernel
theorem dX10_plan_148 : decode cX10_plan 148 = .ok (.iconst 4, 1) := by decide +kernel
theorem dX10_plan_149 : decode cX10_plan 149 = .ok (.if_icmp .ge 10, 3) := by decide +kernel
theorem dX10_plan_152 : decode cX10_plan 152 = .ok (.aload_n 0, 1) := by decide +kernel
theorem dX10_plan_153 : decode cX10_plan 153 = .ok (.getfield 398, 3) := by decide +kernel
theorem dX10_plan_156 : decode cX10_plan 156 = .ok (.goto 16, 3) := by decide +kernel
theorem dX10_plan_159 : decode cX10_plan 159 = .ok (.aload_n 0, 1) := by decide +kernel
theorem dX10_plan_160 : decode cX10_plan 160 = .ok (.getfield 398, 3) := by decide +kernel
theorem dX10_plan_163 : decode cX10_plan 163 = .ok (.lload 4, 2) := by decide +kernel
theorem dX10_plan_165 : decode cX10_plan 165 = .ok (.aload_n 0, 1) := by decide +kernel
theorem dX10_plan_166 : decode cX10_plan 166 = .ok (.getfield 279, 3) := by decide +kernel
theorem dX10_plan_169 : decode cX10_plan 169 = .ok (.i2l, 1) := by decide +kernel
theorem dX10_plan_170 : decode cX10_plan 170 = .ok (.lmul, 1) := by decide +kernel
theorem dX10_plan_171 : decode cX10_plan 171 = .ok (.lsub, 1) := by decide +kernel
theorem dX10_plan_172 : decode cX10_plan 172 = .ok (.lload 7, 2) := by decide +kernel
theorem dX10_plan_174 : decode cX10_plan 174 = .ok (.iload_n 3, 1) := by decide +kernel
theorem dX10_plan_175 : decode cX10_plan 175 = .ok (.iconst 3, 1) := by decide +kernel
theorem dX10_plan_176 : decode cX10_plan 176 = .ok (.if_icmp .eq 8, 3) := by decide +kernel
theorem dX10_plan_179 : decode cX10_plan 179 = .ok (.iload_n 3, 1) := by decide +kernel
theorem dX10_plan_180 : decode cX10_plan 180 = .ok (.iconst 5, 1) := by decide +kernel
theorem dX10_plan_181 : decode cX10_plan 181 = .ok (.if_icmp .ne 7, 3) := by decide +kernel
theorem dX10_plan_184 : decode cX10_plan 184 = .ok (.iconst 1, 1) := by decide +kernel
theorem dX10_plan_185 : decode cX10_plan 185 = .ok (.goto 4, 3) := by decide +kernel
theorem dX10_plan_188 : decode cX10_plan 188 = .ok (.iconst 0, 1) := by decide +kernel
theorem dX10_plan_189 : decode cX10_plan 189 = .ok (.invokestatic 308, 3) := by decide +kernel
theorem dX10_plan_192 : decode cX10_plan 192 = .ok (.l2i, 1) := by decide +kernel
theorem dX10_plan_193 : decode cX10_plan 193 = .ok (.ireturn, 1) := by decide +kernel
def tX10_plan (g : ax_G) : Nat → ax_O := ax_nd 99 (ax_nd 51 (ax_nd 22 (ax_nd 7 (ax_nd 2 (ax_nd 0 (ax_lf 0 (ao_al 0 1)) (ax_nd 1 (ax_lf 1 (ao_ic (0) 1)) (ax_lf 2 (ao_pi 10 0)))) (ax_nd 5 (ax_lf 5 (ao_al 0 1)) (ax_nd 6 (ax_lf 6 (ao_il 2 1)) (ax_lf 7 (ao_inv g 3 10 1 yX10_hasErrands cX10_hasErrands 2 (some .boolean) 2 0 0 0 0))))) (ax_nd 14 (ax_nd 10 (ax_lf 10 (ao_if_eq 47)) (ax_nd 13 (ax_lf 13 (ao_al 0 1)) (ax_lf 14 (ao_il 1 1)))) (ax_nd 18 (ax_nd 15 (ax_lf 15 (ao_inv g 6 10 1 yX10_hand cX10_hand 4 (some .boolean) 2 0 0 0 0)) (ax_lf 18 (ao_if_eq 47))) (ax_nd 21 (ax_lf 21 (ao_il 3 1)) (ax_lf 22 (ao_ic (0) 1)))))) (ax_nd 36 (ax_nd 28 (ax_nd 23 (ax_lf 23 (ao_ic (6) 2)) (ax_nd 25 (ax_lf 25 (ao_inv g 1 99 1 yX10_in cX10_in 3 (some .boolean) 3 0 0 0 0)) (ax_lf 28 (ao_if_ne 51)))) (ax_nd 32 (ax_nd 31 (ax_lf 31 (ao_il 3 1)) (ax_lf 32 (ao_ic (10) 2))) (ax_nd 34 (ax_lf 34 (ao_ic (9) 2)) (ax_lf 36 (ao_al 0 1))))) (ax_nd 41 (ax_nd 37 (ax_lf 37 (ao_gi 10 42)) (ax_nd 40 (ax_lf 40 ao_iadd) (ax_lf 41 (ao_inv g 1 99 1 yX10_in cX10_in 3 (some .boolean) 3 0 0 0 0)))) (ax_nd 47 (ax_nd 44 (ax_lf 44 (ao_if_ne 51)) (ax_lf 47 (ao_ic (-1000000) 3))) (ax_nd 50 (ax_lf 50 (ao_iret 0 0)) (ax_lf 51 (ao_al 0 1))))))) (ax_nd 76 (ax_nd 63 (ax_nd 56 (ax_nd 52 (ax_lf 52 (ao_ic (-1) 1)) (ax_nd 53 (ax_lf 53 (ao_inv g 13 10 2 yX10_findBest cX10_findBest 4 (some .long) 2 0 0 0 0)) (ax_lf 56 (ao_ls 4 2)))) (ax_nd 58 (ax_lf 58 (ao_ll 4 2)) (ax_nd 60 (ax_lf 60 (ao_lc (-1000000000000) 3)) (ax_lf 63 ao_lcmp)))) (ax_nd 70 (ax_nd 64 (ax_lf 64 (ao_if_ne 71)) (ax_nd 67 (ax_lf 67 (ao_ic (-1000000) 3)) (ax_lf 70 (ao_iret 0 0)))) (ax_nd 72 (ax_nd 71 (ax_lf 71 (ao_al 0 1)) (ax_lf 72 (ao_ic (-1) 1))) (ax_nd 73 (ax_lf 73 (ao_inv g 3 10 0 yX10_choose cX10_choose 5 none 2 0 0 0 0)) (ax_lf 76 (ao_il 3 1)))))) (ax_nd 89 (ax_nd 82 (ax_nd 77 (ax_lf 77 (ao_ic (10) 2)) (ax_nd 79 (ax_lf 79 (ao_icmp_lt 92)) (ax_lf 82 (ao_al 0 1)))) (ax_nd 86 (ax_nd 83 (ax_lf 83 (ao_gr 10 44)) (ax_lf 86 (ao_il 3 1))) (ax_nd 87 (ax_lf 87 (ao_ic (10) 2)) (ax_lf 89 ao_isub)))) (ax_nd 92 (ax_nd 90 (ax_lf 90 ao_iald) (ax_nd 91 (ax_lf 91 (ao_iret 0 0)) (ax_lf 92 (ao_il 3 1)))) (ax_nd 94 (ax_nd 93 (ax_lf 93 (ao_ic (2) 1)) (ax_lf 94 (ao_icmp_ge 119))) (ax_nd 97 (ax_lf 97 (ao_ll 4 2)) (ax_lf 99 (ao_al 0 1)))))))) (ax_nd 145 (ax_nd 120 (ax_nd 109 (ax_nd 104 (ax_nd 100 (ax_lf 100 (ao_gi 10 32)) (ax_nd 103 (ax_lf 103 ao_i2l) (ax_lf 104 (ao_il 3 1)))) (ax_nd 105 (ax_lf 105 (ao_ic (1) 1)) (ax_nd 106 (ax_lf 106 (ao_icmp_ne 113)) (ax_lf 109 (ao_ic (1) 1))))) (ax_nd 114 (ax_nd 110 (ax_lf 110 (ao_goto 114)) (ax_nd 113 (ax_lf 113 (ao_ic (0) 1)) (ax_lf 114 (ao_inv g 2 99 2 yX10_part cX10_part 7 (some .long) 3 0 0 0 0)))) (ax_nd 118 (ax_nd 117 (ax_lf 117 ao_l2i) (ax_lf 118 (ao_iret 0 0))) (ax_nd 119 (ax_lf 119 (ao_al 0 1)) (ax_lf 120 (ao_inv g 14 10 1 yX10_rued cX10_rued 9 (some .int) 1 0 0 0 0)))))) (ax_nd 134 (ax_nd 126 (ax_nd 123 (ax_lf 123 (ao_is 6 2)) (ax_nd 125 (ax_lf 125 (ao_il 3 1)) (ax_lf 126 (ao_ic (6) 2)))) (ax_nd 131 (ax_nd 128 (ax_lf 128 (ao_icmp_ne 134)) (ax_lf 131 (ao_il 6 2))) (ax_nd 133 (ax_lf 133 (ao_iret 0 0)) (ax_lf 134 (ao_al 0 1))))) (ax_nd 139 (ax_nd 135 (ax_lf 135 (ao_gi 10 32)) (ax_nd 138 (ax_lf 138 ao_i2l) (ax_lf 139 (ao_al 0 1)))) (ax_nd 143 (ax_nd 140 (ax_lf 140 (ao_gi 10 32)) (ax_lf 143 ao_i2l)) (ax_nd 144 (ax_lf 144 ao_lmul) (ax_lf 145 (ao_ls 7 2))))))) (ax_nd 170 (ax_nd 156 (ax_nd 149 (ax_nd 147 (ax_lf 147 (ao_il 3 1)) (ax_nd 148 (ax_lf 148 (ao_ic (4) 1)) (ax_lf 149 (ao_icmp_ge 159)))) (ax_nd 152 (ax_lf 152 (ao_al 0 1)) (ax_nd 153 (ax_lf 153 (ao_gl 10 46)) (ax_lf 156 (ao_goto 172))))) (ax_nd 163 (ax_nd 159 (ax_lf 159 (ao_al 0 1)) (ax_nd 160 (ax_lf 160 (ao_gl 10 46)) (ax_lf 163 (ao_ll 4 2)))) (ax_nd 166 (ax_nd 165 (ax_lf 165 (ao_al 0 1)) (ax_lf 166 (ao_gi 10 32))) (ax_nd 169 (ax_lf 169 ao_i2l) (ax_lf 170 ao_lmul))))) (ax_nd 180 (ax_nd 174 (ax_nd 171 (ax_lf 171 ao_lsub) (ax_nd 172 (ax_lf 172 (ao_ll 7 2)) (ax_lf 174 (ao_il 3 1)))) (ax_nd 176 (ax_nd 175 (ax_lf 175 (ao_ic (3) 1)) (ax_lf 176 (ao_icmp_eq 184))) (ax_nd 179 (ax_lf 179 (ao_il 3 1)) (ax_lf 180 (ao_ic (5) 1))))) (ax_nd 185 (ax_nd 181 (ax_lf 181 (ao_icmp_ne 188)) (ax_nd 184 (ax_lf 184 (ao_ic (1) 1)) (ax_lf 185 (ao_goto 189)))) (ax_nd 189 (ax_nd 188 (ax_lf 188 (ao_ic (0) 1)) (ax_lf 189 (ao_inv g 2 99 2 yX10_part cX10_part 7 (some .long) 3 0 0 0 0))) (ax_nd 192 (ax_lf 192 ao_l2i) (ax_lf 193 (ao_iret 0 0))))))))
theorem oX10_plan (g : ax_G) : ∀ pc, ax_ok g cX10_plan 9 (some .int) RX10 "plan" 15 0 0 pc (tX10_plan g pc) := ax_nd_ok (ax_nd_ok (ax_nd_ok (ax_nd_ok (ax_nd_ok (ax_nd_ok (ax_lf_ok (ak_aload_n rfl dX10_plan_0)) (ax_nd_ok (ax_lf_ok (ak_iconst (by decide) dX10_plan_1)) (ax_lf_ok (ak_pi fF_X10_88 fW_X10_88_a dX10_plan_2)))) (ax_nd_ok (ax_lf_ok (ak_aload_n rfl dX10_plan_5)) (ax_nd_ok (ax_lf_ok (ak_iload_n rfl dX10_plan_6)) (ax_lf_ok (ak_invV (by decide) (by decide) (by decide) rfl wd_1524 wd_1526 wd_67 wd_106 wd_1527 ⟨by decide, by decide, by decide +kernel⟩ dX10_plan_7))))) (ax_nd_ok (ax_nd_ok (ax_lf_ok (ak_if_eq (by decide) dX10_plan_10)) (ax_nd_ok (ax_lf_ok (ak_aload_n rfl dX10_plan_13)) (ax_lf_ok (ak_iload_n rfl dX10_plan_14)))) (ax_nd_ok (ax_nd_ok (ax_lf_ok (ak_invV (by decide) (by decide) (by decide) rfl wd_1356 wd_1358 wd_44 wd_106 wd_1359 ⟨by decide, by decide, by decide +kernel⟩ dX10_plan_15)) (ax_lf_ok (ak_if_eq (by decide) dX10_plan_18))) (ax_nd_ok (ax_lf_ok (ak_iload_n rfl dX10_plan_21)) (ax_lf_ok (ak_iconst (by decide) dX10_plan_22)))))) (ax_nd_ok (ax_nd_ok (ax_nd_ok (ax_lf_ok (ak_bipush (by decide) dX10_plan_23)) (ax_nd_ok (ax_lf_ok (ak_invS (by decide) (by decide) wd_1244 wd_1245 wd_106 wd_1246 ⟨by decide, by decide, by decide +kernel⟩ dX10_plan_25)) (ax_lf_ok (ak_if_ne (by decide) dX10_plan_28)))) (ax_nd_ok (ax_nd_ok (ax_lf_ok (ak_iload_n rfl dX10_plan_31)) (ax_lf_ok (ak_bipush (by decide) dX10_plan_32))) (ax_nd_ok (ax_lf_ok (ak_bipush (by decide) dX10_plan_34)) (ax_lf_ok (ak_aload_n rfl dX10_plan_36))))) (ax_nd_ok (ax_nd_ok (ax_lf_ok (ak_gi fF_X10_374 dX10_plan_37)) (ax_nd_ok (ax_lf_ok (ak_iadd dX10_plan_40)) (ax_lf_ok (ak_invS (by decide) (by decide) wd_1244 wd_1245 wd_106 wd_1246 ⟨by decide, by decide, by decide +kernel⟩ dX10_plan_41)))) (ax_nd_ok (ax_nd_ok (ax_lf_ok (ak_if_ne (by decide) dX10_plan_44)) (ax_lf_ok (ak_ldcw wd_1407 dX10_plan_47))) (ax_nd_ok (ax_lf_ok (ak_iret rfl dX10_plan_50)) (ax_lf_ok (ak_aload_n rfl dX10_plan_51))))))) (ax_nd_ok (ax_nd_ok (ax_nd_ok (ax_nd_ok (ax_lf_ok (ak_iconst (by decide) dX10_plan_52)) (ax_nd_ok (ax_lf_ok (ak_invV (by decide) (by decide) (by decide) rfl wd_1536 wd_1538 wd_69 wd_106 wd_1539 ⟨by decide, by decide, by decide +kernel⟩ dX10_plan_53)) (ax_lf_ok (ak_lstore (by decide) dX10_plan_56)))) (ax_nd_ok (ax_lf_ok (ak_lload dX10_plan_58)) (ax_nd_ok (ax_lf_ok (ak_ldc2 wd_1544 dX10_plan_60)) (ax_lf_ok (ak_lcmp dX10_plan_63))))) (ax_nd_ok (ax_nd_ok (ax_lf_ok (ak_if_ne (by decide) dX10_plan_64)) (ax_nd_ok (ax_lf_ok (ak_ldcw wd_1407 dX10_plan_67)) (ax_lf_ok (ak_iret rfl dX10_plan_70)))) (ax_nd_ok (ax_nd_ok (ax_lf_ok (ak_aload_n rfl dX10_plan_71)) (ax_lf_ok (ak_iconst (by decide) dX10_plan_72))) (ax_nd_ok (ax_lf_ok (ak_invV (by decide) (by decide) (by decide) rfl wd_1560 wd_1562 wd_74 wd_106 wd_1563 ⟨by decide, by decide, by decide +kernel⟩ dX10_plan_73)) (ax_lf_ok (ak_iload_n rfl dX10_plan_76)))))) (ax_nd_ok (ax_nd_ok (ax_nd_ok (ax_lf_ok (ak_bipush (by decide) dX10_plan_77)) (ax_nd_ok (ax_lf_ok (ak_icmp_lt (by decide) dX10_plan_79)) (ax_lf_ok (ak_aload_n rfl dX10_plan_82)))) (ax_nd_ok (ax_nd_ok (ax_lf_ok (ak_gr fF_X10_66 dX10_plan_83)) (ax_lf_ok (ak_iload_n rfl dX10_plan_86))) (ax_nd_ok (ax_lf_ok (ak_bipush (by decide) dX10_plan_87)) (ax_lf_ok (ak_isub dX10_plan_89))))) (ax_nd_ok (ax_nd_ok (ax_lf_ok (ak_iald dX10_plan_90)) (ax_nd_ok (ax_lf_ok (ak_iret rfl dX10_plan_91)) (ax_lf_ok (ak_iload_n rfl dX10_plan_92)))) (ax_nd_ok (ax_nd_ok (ax_lf_ok (ak_iconst (by decide) dX10_plan_93)) (ax_lf_ok (ak_icmp_ge (by decide) dX10_plan_94))) (ax_nd_ok (ax_lf_ok (ak_lload dX10_plan_97)) (ax_lf_ok (ak_aload_n rfl dX10_plan_99)))))))) (ax_nd_ok (ax_nd_ok (ax_nd_ok (ax_nd_ok (ax_nd_ok (ax_lf_ok (ak_gi fF_X10_279 dX10_plan_100)) (ax_nd_ok (ax_lf_ok (ak_i2l dX10_plan_103)) (ax_lf_ok (ak_iload_n rfl dX10_plan_104)))) (ax_nd_ok (ax_lf_ok (ak_iconst (by decide) dX10_plan_105)) (ax_nd_ok (ax_lf_ok (ak_icmp_ne (by decide) dX10_plan_106)) (ax_lf_ok (ak_iconst (by decide) dX10_plan_109))))) (ax_nd_ok (ax_nd_ok (ax_lf_ok (ak_goto (by decide) dX10_plan_110)) (ax_nd_ok (ax_lf_ok (ak_iconst (by decide) dX10_plan_113)) (ax_lf_ok (ak_invS (by decide) (by decide) wd_1416 wd_1417 wd_106 wd_1418 ⟨by decide, by decide, by decide +kernel⟩ dX10_plan_114)))) (ax_nd_ok (ax_nd_ok (ax_lf_ok (ak_l2i dX10_plan_117)) (ax_lf_ok (ak_iret rfl dX10_plan_118))) (ax_nd_ok (ax_lf_ok (ak_aload_n rfl dX10_plan_119)) (ax_lf_ok (ak_invV (by decide) (by decide) (by decide) rfl wd_1564 wd_1566 wd_75 wd_106 wd_1567 ⟨by decide, by decide, by decide +kernel⟩ dX10_plan_120)))))) (ax_nd_ok (ax_nd_ok (ax_nd_ok (ax_lf_ok (ak_istore (by decide) dX10_plan_123)) (ax_nd_ok (ax_lf_ok (ak_iload_n rfl dX10_plan_125)) (ax_lf_ok (ak_bipush (by decide) dX10_plan_126)))) (ax_nd_ok (ax_nd_ok (ax_lf_ok (ak_icmp_ne (by decide) dX10_plan_128)) (ax_lf_ok (ak_iload dX10_plan_131))) (ax_nd_ok (ax_lf_ok (ak_iret rfl dX10_plan_133)) (ax_lf_ok (ak_aload_n rfl dX10_plan_134))))) (ax_nd_ok (ax_nd_ok (ax_lf_ok (ak_gi fF_X10_279 dX10_plan_135)) (ax_nd_ok (ax_lf_ok (ak_i2l dX10_plan_138)) (ax_lf_ok (ak_aload_n rfl dX10_plan_139)))) (ax_nd_ok (ax_nd_ok (ax_lf_ok (ak_gi fF_X10_279 dX10_plan_140)) (ax_lf_ok (ak_i2l dX10_plan_143))) (ax_nd_ok (ax_lf_ok (ak_lmul dX10_plan_144)) (ax_lf_ok (ak_lstore (by decide) dX10_plan_145))))))) (ax_nd_ok (ax_nd_ok (ax_nd_ok (ax_nd_ok (ax_lf_ok (ak_iload_n rfl dX10_plan_147)) (ax_nd_ok (ax_lf_ok (ak_iconst (by decide) dX10_plan_148)) (ax_lf_ok (ak_icmp_ge (by decide) dX10_plan_149)))) (ax_nd_ok (ax_lf_ok (ak_aload_n rfl dX10_plan_152)) (ax_nd_ok (ax_lf_ok (ak_gl fF_X10_398 dX10_plan_153)) (ax_lf_ok (ak_goto (by decide) dX10_plan_156))))) (ax_nd_ok (ax_nd_ok (ax_lf_ok (ak_aload_n rfl dX10_plan_159)) (ax_nd_ok (ax_lf_ok (ak_gl fF_X10_398 dX10_plan_160)) (ax_lf_ok (ak_lload dX10_plan_163)))) (ax_nd_ok (ax_nd_ok (ax_lf_ok (ak_aload_n rfl dX10_plan_165)) (ax_lf_ok (ak_gi fF_X10_279 dX10_plan_166))) (ax_nd_ok (ax_lf_ok (ak_i2l dX10_plan_169)) (ax_lf_ok (ak_lmul dX10_plan_170)))))) (ax_nd_ok (ax_nd_ok (ax_nd_ok (ax_lf_ok (ak_lsub dX10_plan_171)) (ax_nd_ok (ax_lf_ok (ak_lload dX10_plan_172)) (ax_lf_ok (ak_iload_n rfl dX10_plan_174)))) (ax_nd_ok (ax_nd_ok (ax_lf_ok (ak_iconst (by decide) dX10_plan_175)) (ax_lf_ok (ak_icmp_eq (by decide) dX10_plan_176))) (ax_nd_ok (ax_lf_ok (ak_iload_n rfl dX10_plan_179)) (ax_lf_ok (ak_iconst (by decide) dX10_plan_180))))) (ax_nd_ok (ax_nd_ok (ax_lf_ok (ak_icmp_ne (by decide) dX10_plan_181)) (ax_nd_ok (ax_lf_ok (ak_iconst (by decide) dX10_plan_184)) (ax_lf_ok (ak_goto (by decide) dX10_plan_185)))) (ax_nd_ok (ax_nd_ok (ax_lf_ok (ak_iconst (by decide) dX10_plan_188)) (ax_lf_ok (ak_invS (by decide) (by decide) wd_1416 wd_1417 wd_106 wd_1418 ⟨by decide, by decide, by decide +kernel⟩ dX10_plan_189))) (ax_nd_ok (ax_lf_ok (ak_l2i dX10_plan_192)) (ax_lf_ok (ak_iret rfl dX10_plan_193))))))))
abbrev mX10_plan (g : ax_G) (as : List Value) (h : ax_H) (Ret : Option Value → ax_H → Prop) : Prop := ax_M g 15 0 0 yX10_plan cX10_plan 9 (some .int) as h Ret
theorem dX10_trainOf_0 : decode cX10_trainOf 0 = .ok (.aload_n 0, 1) := by decide +kernel
theorem dX10_trainOf_1 : decode cX10_trainOf 1 = .ok (.getfield 35, 3) := by decide +kernel
theorem dX10_trainOf_4 : decode cX10_trainOf 4 = .ok (.bipush 17, 2) := by decide +kernel
theorem dX10_trainOf_6 : decode cX10_trainOf 6 = .ok (.aload_n 0, 1) := by decide +kernel
theorem dX10_trainOf_7 : decode cX10_trainOf 7 = .ok (.getfield 413, 3) := by decide +kernel
theorem dX10_trainOf_10 : decode cX10_trainOf 10 = .ok (.imul, 1) := by decide +kernel
theorem dX10_trainOf_11 : decode cX10_trainOf 11 = .ok (.iconst 1, 1) := by decide +kernel
theorem dX10_trainOf_12 : decode cX10_trainOf 12 = .ok (.iadd, 1) := by decide +kernel
theorem dX10_trainOf_13 : decode cX10_trainOf 13 = .ok (.iconst 2, 1) := by decide +kernel
theorem dX10_trainOf_14 : decode cX10_trainOf 14 = .ok (.iload_n 1, 1) := by decide +kernel
theorem dX10_trainOf_15 : decode cX10_trainOf 15 = .ok (.imul, 1) := by decide +kernel
theorem dX10_trainOf_16 : decode cX10_trainOf 16 = .ok (.iadd, 1) := by decide +kernel
theorem dX10_trainOf_17 : decode cX10_trainOf 17 = .ok (.iload_n 2, 1) := by decide +kernel
theorem dX10_trainOf_18 : decode cX10_trainOf 18 = .ok (.iadd, 1) := by decide +kernel
theorem dX10_trainOf_19 : decode cX10_trainOf 19 = .ok (.iaload, 1) := by decide +kernel
theorem dX10_trainOf_20 : decode cX10_trainOf 20 = .ok (.ireturn, 1) := by decide +kernel
def tX10_trainOf (g : ax_G) : Nat → ax_O := ax_nd 12 (ax_nd 6 (ax_nd 1 (ax_nd 0 (ax_lf 0 (ao_al 0 1)) (ax_lf 1 (ao_gr 10 9))) (ax_nd 4 (ax_lf 4 (ao_ic (17) 2)) (ax_lf 6 (ao_al 0 1)))) (ax_nd 10 (ax_nd 7 (ax_lf 7 (ao_gi 10 47)) (ax_lf 10 ao_imul)) (ax_nd 11 (ax_lf 11 (ao_ic (1) 1)) (ax_lf 12 ao_iadd)))) (ax_nd 16 (ax_nd 14 (ax_nd 13 (ax_lf 13 (ao_ic (2) 1)) (ax_lf 14 (ao_il 1 1))) (ax_nd 15 (ax_lf 15 ao_imul) (ax_lf 16 ao_iadd))) (ax_nd 18 (ax_nd 17 (ax_lf 17 (ao_il 2 1)) (ax_lf 18 ao_iadd)) (ax_nd 19 (ax_lf 19 ao_iald) (ax_lf 20 (ao_iret 0 0)))))
theorem oX10_trainOf (g : ax_G) : ∀ pc, ax_ok g cX10_trainOf 3 (some .int) RX10 "trainOf" 1 0 0 pc (tX10_trainOf g pc) := ax_nd_ok (ax_nd_ok (ax_nd_ok (ax_nd_ok (ax_lf_ok (ak_aload_n rfl dX10_trainOf_0)) (ax_lf_ok (ak_gr fF_X10_35 dX10_trainOf_1))) (ax_nd_ok (ax_lf_ok (ak_bipush (by decide) dX10_trainOf_4)) (ax_lf_ok (ak_aload_n rfl dX10_trainOf_6)))) (ax_nd_ok (ax_nd_ok (ax_lf_ok (ak_gi fF_X10_413 dX10_trainOf_7)) (ax_lf_ok (ak_imul dX10_trainOf_10))) (ax_nd_ok (ax_lf_ok (ak_iconst (by decide) dX10_trainOf_11)) (ax_lf_ok (ak_iadd dX10_trainOf_12))))) (ax_nd_ok (ax_nd_ok (ax_nd_ok (ax_lf_ok (ak_iconst (by decide) dX10_trainOf_13)) (ax_lf_ok (ak_iload_n rfl dX10_trainOf_14))) (ax_nd_ok (ax_lf_ok (ak_imul dX10_trainOf_15)) (ax_lf_ok (ak_iadd dX10_trainOf_16)))) (ax_nd_ok (ax_nd_ok (ax_lf_ok (ak_iload_n rfl dX10_trainOf_17)) (ax_lf_ok (ak_iadd dX10_trainOf_18))) (ax_nd_ok (ax_lf_ok (ak_iald dX10_trainOf_19)) (ax_lf_ok (ak_iret rfl dX10_trainOf_20)))))
abbrev mX10_trainOf (g : ax_G) (as : List Value) (h : ax_H) (Ret : Option Value → ax_H → Prop) : Prop := ax_M g 1 0 0 yX10_trainOf cX10_trainOf 3 (some .int) as h Ret
theorem dX10_hasTable_0 : decode cX10_hasTable 0 = .ok (.aload_n 0, 1) := by decide +kernel
theorem dX10_hasTable_1 : decode cX10_hasTable 1 = .ok (.iload_n 1, 1) := by decide +kernel
theorem dX10_hasTable_2 : decode cX10_hasTable 2 = .ok (.putfield 413, 3) := by decide +kernel
theorem dX10_hasTable_5 : decode cX10_hasTable 5 = .ok (.aload_n 0, 1) := by decide +kernel
theorem dX10_hasTable_6 : decode cX10_hasTable 6 = .ok (.iconst 3, 1) := by decide +kernel
theorem dX10_hasTable_7 : decode cX10_hasTable 7 = .ok (.iload_n 1, 1) := by decide +kernel
theorem dX10_hasTable_8 : decode cX10_hasTable 8 = .ok (.invokevirtual 234, 3) := by decide +kernel
theorem dX10_hasTable_11 : decode cX10_hasTable 11 = .ok (.ireturn, 1) := by decide +kernel
def tX10_hasTable (g : ax_G) : Nat → ax_O := ax_nd 5 (ax_nd 1 (ax_nd 0 (ax_lf 0 (ao_al 0 1)) (ax_lf 1 (ao_il 1 1))) (ax_nd 2 (ax_lf 2 (ao_pi 10 47)) (ax_lf 5 (ao_al 0 1)))) (ax_nd 7 (ax_nd 6 (ax_lf 6 (ao_ic (3) 1)) (ax_lf 7 (ao_il 1 1))) (ax_nd 8 (ax_lf 8 (ao_inv g 2 10 1 yX10_is cX10_is 3 (some .boolean) 3 0 0 0 0)) (ax_lf 11 (ao_zret 0 0))))
theorem oX10_hasTable (g : ax_G) : ∀ pc, ax_ok g cX10_hasTable 2 (some .boolean) RX10 "hasTable" 3 0 0 pc (tX10_hasTable g pc) := ax_nd_ok (ax_nd_ok (ax_nd_ok (ax_lf_ok (ak_aload_n rfl dX10_hasTable_0)) (ax_lf_ok (ak_iload_n rfl dX10_hasTable_1))) (ax_nd_ok (ax_lf_ok (ak_pi fF_X10_413 fW_X10_413_a dX10_hasTable_2)) (ax_lf_ok (ak_aload_n rfl dX10_hasTable_5)))) (ax_nd_ok (ax_nd_ok (ax_lf_ok (ak_iconst (by decide) dX10_hasTable_6)) (ax_lf_ok (ak_iload_n rfl dX10_hasTable_7))) (ax_nd_ok (ax_lf_ok (ak_invV (by decide) (by decide) (by decide) rfl wd_1251 wd_1253 wd_24 wd_106 wd_1254 ⟨by decide, by decide, by decide +kernel⟩ dX10_hasTable_8)) (ax_lf_ok (ak_zret rfl dX10_hasTable_11))))
abbrev mX10_hasTable (g : ax_G) (as : List Value) (h : ax_H) (Ret : Option Value → ax_H → Prop) : Prop := ax_M g 3 0 0 yX10_hasTable cX10_hasTable 2 (some .boolean) as h Ret
theorem dX10_trains_0 : decode cX10_trains 0 = .ok (.aload_n 0, 1) := by decide +kernel
theorem dX10_trains_1 : decode cX10_trains 1 = .ok (.getfield 35, 3) := by decide +kernel
theorem dX10_trains_4 : decode cX10_trains 4 = .ok (.bipush 17, 2) := by decide +kernel
theorem dX10_trains_6 : decode cX10_trains 6 = .ok (.aload_n 0, 1) := by decide +kernel
theorem dX10_trains_7 : decode cX10_trains 7 = .ok (.getfield 413, 3) := by decide +kernel
theorem dX10_trains_10 : decode cX10_trains 10 = .ok (.imul, 1) := by decide +kernel
theorem dX10_trains_11 : decode cX10_trains 11 = .ok (.iaload, 1) := by decide +kernel
theorem dX10_trains_12 : decode cX10_trains 12 = .ok (.ireturn, 1) := by decide +kernel
def tX10_trains (g : ax_G) : Nat → ax_O := ax_nd 6 (ax_nd 1 (ax_nd 0 (ax_lf 0 (ao_al 0 1)) (ax_lf 1 (ao_gr 10 9))) (ax_nd 4 (ax_lf 4 (ao_ic (17) 2)) (ax_lf 6 (ao_al 0 1)))) (ax_nd 10 (ax_nd 7 (ax_lf 7 (ao_gi 10 47)) (ax_lf 10 ao_imul)) (ax_nd 11 (ax_lf 11 ao_iald) (ax_lf 12 (ao_iret 0 0))))
theorem oX10_trains (g : ax_G) : ∀ pc, ax_ok g cX10_trains 1 (some .int) RX10 "trains" 1 0 0 pc (tX10_trains g pc) := ax_nd_ok (ax_nd_ok (ax_nd_ok (ax_lf_ok (ak_aload_n rfl dX10_trains_0)) (ax_lf_ok (ak_gr fF_X10_35 dX10_trains_1))) (ax_nd_ok (ax_lf_ok (ak_bipush (by decide) dX10_trains_4)) (ax_lf_ok (ak_aload_n rfl dX10_trains_6)))) (ax_nd_ok (ax_nd_ok (ax_lf_ok (ak_gi fF_X10_413 dX10_trains_7)) (ax_lf_ok (ak_imul dX10_trains_10))) (ax_nd_ok (ax_lf_ok (ak_iald dX10_trains_11)) (ax_lf_ok (ak_iret rfl dX10_trains_12))))
abbrev mX10_trains (g : ax_G) (as : List Value) (h : ax_H) (Ret : Option Value → ax_H → Prop) : Prop := ax_M g 1 0 0 yX10_trains cX10_trains 1 (some .int) as h Ret
theorem dX10_train_0 : decode cX10_train 0 = .ok (.aload_n 0, 1) := by decide +kernel
theorem dX10_train_1 : decode cX10_train 1 = .ok (.iconst 0, 1) := by decide +kernel
theorem dX10_train_2 : decode cX10_train 2 = .ok (.putfield 88, 3) := by decide +kernel
theorem dX10_train_5 : decode cX10_train 5 = .ok (.aload_n 0, 1) := by decide +kernel
theorem dX10_train_6 : decode cX10_train 6 = .ok (.iload_n 1, 1) := by decide +kernel
theorem dX10_train_7 : decode cX10_train 7 = .ok (.invokevirtual 416, 3) := by decide +kernel
theorem dX10_train_10 : decode cX10_train 10 = .ok (.ifCond .ne 6, 3) := by decide +kernel
theorem dX10_train_13 : decode cX10_train 13 = .ok (.bipush (-2), 2) := by decide +kernel
theorem dX10_train_15 : decode cX10_train 15 = .ok (.ireturn, 1) := by decide +kernel
theorem dX10_train_16 : decode cX10_train 16 = .ok (.iload_n 2, 1) := by decide +kernel
theorem dX10_train_17 : decode cX10_train 17 = .ok (.iconst (-1), 1) := by decide +kernel
theorem dX10_train_18 : decode cX10_train 18 = .ok (.if_icmp .ne 17, 3) := by decide +kernel
theorem dX10_train_21 : decode cX10_train 21 = .ok (.iload_n 3, 1) := by decide +kernel
theorem dX10_train_22 : decode cX10_train 22 = .ok (.ifCond .ne 10, 3) := by decide +kernel
theorem dX10_train_25 : decode cX10_train 25 = .ok (.aload_n 0, 1) := by decide +kernel
theorem dX10_train_26 : decode cX10_train 26 = .ok (.invokevirtual 419, 3) := by decide +kernel
theorem dX10_train_29 : decode cX10_train 29 = .ok (.goto 5, 3) := by decide +kernel
theorem dX10_train_32 : decode cX10_train 32 = .ok (.bipush (-2), 2) := by decide +kernel
theorem dX10_train_34 : decode cX10_train 34 = .ok (.ireturn, 1) := by decide +kernel
theorem dX10_train_35 : decode cX10_train 35 = .ok (.iload_n 2, 1) := by decide +kernel
theorem dX10_train_36 : decode cX10_train 36 = .ok (.iconst 0, 1) := by decide +kernel
theorem dX10_train_37 : decode cX10_train 37 = .ok (.aload_n 0, 1) := by decide +kernel
theorem dX10_train_38 : decode cX10_train 38 = .ok (.invokevirtual 419, 3) := by decide +kernel
theorem dX10_train_41 : decode cX10_train 41 = .ok (.iconst 1, 1) := by decide +kernel
theorem dX10_train_42 : decode cX10_train 42 = .ok (.isub, 1) := by decide +kernel
theorem dX10_train_43 : decode cX10_train 43 = .ok (.invokestatic 96, 3) := by decide +kernel
theorem dX10_train_46 : decode cX10_train 46 = .ok (.ifCond .eq 21, 3) := by decide +kernel
theorem dX10_train_49 : decode cX10_train 49 = .ok (.iload_n 3, 1) := by decide +kernel
theorem dX10_train_50 : decode cX10_train 50 = .ok (.iconst 0, 1) := by decide +kernel
theorem dX10_train_51 : decode cX10_train 51 = .ok (.iconst 1, 1) := by decide +kernel
theorem dX10_train_52 : decode cX10_train 52 = .ok (.invokestatic 96, 3) := by decide +kernel
theorem dX10_train_55 : decode cX10_train 55 = .ok (.ifCond .eq 12, 3) := by decide +kernel
theorem dX10_train_58 : decode cX10_train 58 = .ok (.aload_n 0, 1) := by decide +kernel
theorem dX10_train_59 : decode cX10_train 59 = .ok (.iload_n 2, 1) := by decide +kernel
theorem dX10_train_60 : decode cX10_train 60 = .ok (.iload_n 3, 1) := by decide +kernel
theorem dX10_train_61 : decode cX10_train 61 = .ok (.invokevirtual 422, 3) := by decide +kernel
theorem dX10_train_64 : decode cX10_train 64 = .ok (.goto 5, 3) := by decide +kernel
theorem dX10_train_67 : decode cX10_train 67 = .ok (.bipush (-2), 2) := by decide +kernel
theorem dX10_train_69 : decode cX10_train 69 = .ok (.ireturn, 1) := by decide +kernel
def tX10_train (g : ax_G) : Nat → ax_O := ax_nd 34 (ax_nd 15 (ax_nd 5 (ax_nd 1 (ax_nd 0 (ax_lf 0 (ao_al 0 1)) (ax_lf 1 (ao_ic (0) 1))) (ax_nd 2 (ax_lf 2 (ao_pi 10 0)) (ax_lf 5 (ao_al 0 1)))) (ax_nd 7 (ax_nd 6 (ax_lf 6 (ao_il 1 1)) (ax_lf 7 (ao_inv g 3 10 1 yX10_hasTable cX10_hasTable 2 (some .boolean) 2 0 0 0 0))) (ax_nd 10 (ax_lf 10 (ao_if_ne 16)) (ax_nd 13 (ax_lf 13 (ao_ic (-2) 2)) (ax_lf 15 (ao_iret 0 0)))))) (ax_nd 22 (ax_nd 17 (ax_nd 16 (ax_lf 16 (ao_il 2 1)) (ax_lf 17 (ao_ic (-1) 1))) (ax_nd 18 (ax_lf 18 (ao_icmp_ne 35)) (ax_nd 21 (ax_lf 21 (ao_il 3 1)) (ax_lf 22 (ao_if_ne 32))))) (ax_nd 26 (ax_nd 25 (ax_lf 25 (ao_al 0 1)) (ax_lf 26 (ao_inv g 1 10 1 yX10_trains cX10_trains 1 (some .int) 1 0 0 0 0))) (ax_nd 29 (ax_lf 29 (ao_goto 34)) (ax_nd 32 (ax_lf 32 (ao_ic (-2) 2)) (ax_lf 34 (ao_iret 0 0))))))) (ax_nd 50 (ax_nd 41 (ax_nd 36 (ax_nd 35 (ax_lf 35 (ao_il 2 1)) (ax_lf 36 (ao_ic (0) 1))) (ax_nd 37 (ax_lf 37 (ao_al 0 1)) (ax_nd 38 (ax_lf 38 (ao_inv g 1 10 1 yX10_trains cX10_trains 1 (some .int) 1 0 0 0 0)) (ax_lf 41 (ao_ic (1) 1))))) (ax_nd 43 (ax_nd 42 (ax_lf 42 ao_isub) (ax_lf 43 (ao_inv g 1 99 1 yX10_in cX10_in 3 (some .boolean) 3 0 0 0 0))) (ax_nd 46 (ax_lf 46 (ao_if_eq 67)) (ax_nd 49 (ax_lf 49 (ao_il 3 1)) (ax_lf 50 (ao_ic (0) 1)))))) (ax_nd 59 (ax_nd 52 (ax_nd 51 (ax_lf 51 (ao_ic (1) 1)) (ax_lf 52 (ao_inv g 1 99 1 yX10_in cX10_in 3 (some .boolean) 3 0 0 0 0))) (ax_nd 55 (ax_lf 55 (ao_if_eq 67)) (ax_nd 58 (ax_lf 58 (ao_al 0 1)) (ax_lf 59 (ao_il 2 1))))) (ax_nd 61 (ax_nd 60 (ax_lf 60 (ao_il 3 1)) (ax_lf 61 (ao_inv g 1 10 1 yX10_trainOf cX10_trainOf 3 (some .int) 3 0 0 0 0))) (ax_nd 64 (ax_lf 64 (ao_goto 69)) (ax_nd 67 (ax_lf 67 (ao_ic (-2) 2)) (ax_lf 69 (ao_iret 0 0)))))))
theorem oX10_train (g : ax_G) : ∀ pc, ax_ok g cX10_train 4 (some .int) RX10 "train" 4 0 0 pc (tX10_train g pc) := ax_nd_ok (ax_nd_ok (ax_nd_ok (ax_nd_ok (ax_nd_ok (ax_lf_ok (ak_aload_n rfl dX10_train_0)) (ax_lf_ok (ak_iconst (by decide) dX10_train_1))) (ax_nd_ok (ax_lf_ok (ak_pi fF_X10_88 fW_X10_88_a dX10_train_2)) (ax_lf_ok (ak_aload_n rfl dX10_train_5)))) (ax_nd_ok (ax_nd_ok (ax_lf_ok (ak_iload_n rfl dX10_train_6)) (ax_lf_ok (ak_invV (by decide) (by decide) (by decide) rfl wd_1576 wd_1578 wd_77 wd_106 wd_1579 ⟨by decide, by decide, by decide +kernel⟩ dX10_train_7))) (ax_nd_ok (ax_lf_ok (ak_if_ne (by decide) dX10_train_10)) (ax_nd_ok (ax_lf_ok (ak_bipush (by decide) dX10_train_13)) (ax_lf_ok (ak_iret rfl dX10_train_15)))))) (ax_nd_ok (ax_nd_ok (ax_nd_ok (ax_lf_ok (ak_iload_n rfl dX10_train_16)) (ax_lf_ok (ak_iconst (by decide) dX10_train_17))) (ax_nd_ok (ax_lf_ok (ak_icmp_ne (by decide) dX10_train_18)) (ax_nd_ok (ax_lf_ok (ak_iload_n rfl dX10_train_21)) (ax_lf_ok (ak_if_ne (by decide) dX10_train_22))))) (ax_nd_ok (ax_nd_ok (ax_lf_ok (ak_aload_n rfl dX10_train_25)) (ax_lf_ok (ak_invV (by decide) (by decide) (by decide) rfl wd_1580 wd_1582 wd_78 wd_106 wd_1583 ⟨by decide, by decide, by decide +kernel⟩ dX10_train_26))) (ax_nd_ok (ax_lf_ok (ak_goto (by decide) dX10_train_29)) (ax_nd_ok (ax_lf_ok (ak_bipush (by decide) dX10_train_32)) (ax_lf_ok (ak_iret rfl dX10_train_34))))))) (ax_nd_ok (ax_nd_ok (ax_nd_ok (ax_nd_ok (ax_lf_ok (ak_iload_n rfl dX10_train_35)) (ax_lf_ok (ak_iconst (by decide) dX10_train_36))) (ax_nd_ok (ax_lf_ok (ak_aload_n rfl dX10_train_37)) (ax_nd_ok (ax_lf_ok (ak_invV (by decide) (by decide) (by decide) rfl wd_1580 wd_1582 wd_78 wd_106 wd_1583 ⟨by decide, by decide, by decide +kernel⟩ dX10_train_38)) (ax_lf_ok (ak_iconst (by decide) dX10_train_41))))) (ax_nd_ok (ax_nd_ok (ax_lf_ok (ak_isub dX10_train_42)) (ax_lf_ok (ak_invS (by decide) (by decide) wd_1244 wd_1245 wd_106 wd_1246 ⟨by decide, by decide, by decide +kernel⟩ dX10_train_43))) (ax_nd_ok (ax_lf_ok (ak_if_eq (by decide) dX10_train_46)) (ax_nd_ok (ax_lf_ok (ak_iload_n rfl dX10_train_49)) (ax_lf_ok (ak_iconst (by decide) dX10_train_50)))))) (ax_nd_ok (ax_nd_ok (ax_nd_ok (ax_lf_ok (ak_iconst (by decide) dX10_train_51)) (ax_lf_ok (ak_invS (by decide) (by decide) wd_1244 wd_1245 wd_106 wd_1246 ⟨by decide, by decide, by decide +kernel⟩ dX10_train_52))) (ax_nd_ok (ax_lf_ok (ak_if_eq (by decide) dX10_train_55)) (ax_nd_ok (ax_lf_ok (ak_aload_n rfl dX10_train_58)) (ax_lf_ok (ak_iload_n rfl dX10_train_59))))) (ax_nd_ok (ax_nd_ok (ax_lf_ok (ak_iload_n rfl dX10_train_60)) (ax_lf_ok (ak_invV (by decide) (by decide) (by decide) rfl wd_1584 wd_1586 wd_79 wd_106 wd_1587 ⟨by decide, by decide, by decide +kernel⟩ dX10_train_61))) (ax_nd_ok (ax_lf_ok (ak_goto (by decide) dX10_train_64)) (ax_nd_ok (ax_lf_ok (ak_bipush (by decide) dX10_train_67)) (ax_lf_ok (ak_iret rfl dX10_train_69)))))))
abbrev mX10_train (g : ax_G) (as : List Value) (h : ax_H) (Ret : Option Value → ax_H → Prop) : Prop := ax_M g 4 0 0 yX10_train cX10_train 4 (some .int) as h Ret
theorem dX10_trueAt_0 : decode cX10_trueAt 0 = .ok (.iload_n 0, 1) := by decide +kernel
theorem dX10_trueAt_1 : decode cX10_trueAt 1 = .ok (.iload_n 1, 1) := by decide +kernel
theorem dX10_trueAt_2 : decode cX10_trueAt 2 = .ok (.if_icmp .le 9, 3) := by decide +kernel
theorem dX10_trueAt_5 : decode cX10_trueAt 5 = .ok (.iload_n 0, 1) := by decide +kernel
theorem dX10_trueAt_6 : decode cX10_trueAt 6 = .ok (.iconst 1, 1) := by decide +kernel
theorem dX10_trueAt_7 : decode cX10_trueAt 7 = .ok (.iadd, 1) := by decide +kernel
theorem dX10_trueAt_8 : decode cX10_trueAt 8 = .ok (.goto 4, 3) := by decide +kernel
theorem dX10_trueAt_11 : decode cX10_trueAt 11 = .ok (.iload_n 0, 1) := by decide +kernel
theorem dX10_trueAt_12 : decode cX10_trueAt 12 = .ok (.ireturn, 1) := by decide +kernel
def tX10_trueAt (g : ax_G) : Nat → ax_O := ax_nd 5 (ax_nd 1 (ax_nd 0 (ax_lf 0 (ao_il 0 1)) (ax_lf 1 (ao_il 1 1))) (ax_nd 2 (ax_lf 2 (ao_icmp_le 11)) (ax_lf 5 (ao_il 0 1)))) (ax_nd 7 (ax_nd 6 (ax_lf 6 (ao_ic (1) 1)) (ax_lf 7 ao_iadd)) (ax_nd 8 (ax_lf 8 (ao_goto 12)) (ax_nd 11 (ax_lf 11 (ao_il 0 1)) (ax_lf 12 (ao_iret 0 0)))))
theorem oX10_trueAt (g : ax_G) : ∀ pc, ax_ok g cX10_trueAt 2 (some .int) RX10 "trueAt" 1 0 0 pc (tX10_trueAt g pc) := ax_nd_ok (ax_nd_ok (ax_nd_ok (ax_lf_ok (ak_iload_n rfl dX10_trueAt_0)) (ax_lf_ok (ak_iload_n rfl dX10_trueAt_1))) (ax_nd_ok (ax_lf_ok (ak_icmp_le (by decide) dX10_trueAt_2)) (ax_lf_ok (ak_iload_n rfl dX10_trueAt_5)))) (ax_nd_ok (ax_nd_ok (ax_lf_ok (ak_iconst (by decide) dX10_trueAt_6)) (ax_lf_ok (ak_iadd dX10_trueAt_7))) (ax_nd_ok (ax_lf_ok (ak_goto (by decide) dX10_trueAt_8)) (ax_nd_ok (ax_lf_ok (ak_iload_n rfl dX10_trueAt_11)) (ax_lf_ok (ak_iret rfl dX10_trueAt_12)))))
abbrev mX10_trueAt (g : ax_G) (as : List Value) (h : ax_H) (Ret : Option Value → ax_H → Prop) : Prop := ax_M g 1 0 0 yX10_trueAt cX10_trueAt 2 (some .int) as h Ret
theorem dX10_slackBy_0 : decode cX10_slackBy 0 = .ok (.sipush 1000, 3) := by decide +kernel
theorem dX10_slackBy_3 : decode cX10_slackBy 3 = .ok (.istore_n 2, 1) := by decide +kernel
theorem dX10_slackBy_4 : decode cX10_slackBy 4 = .ok (.iconst 0, 1) := by decide +kernel
theorem dX10_slackBy_5 : decode cX10_slackBy 5 = .ok (.istore_n 3, 1) := by decide +kernel
theorem dX10_slackBy_6 : decode cX10_slackBy 6 = .ok (.iload_n 3, 1) := by decide +kernel
theorem dX10_slackBy_7 : decode cX10_slackBy 7 = .ok (.iconst 1, 1) := by decide +kernel
theorem dX10_slackBy_8 : decode cX10_slackBy 8 = .ok (.iadd, 1) := by decide +kernel
theorem dX10_slackBy_9 : decode cX10_slackBy 9 = .ok (.aload_n 0, 1) := by decide +kernel
theorem dX10_slackBy_10 : decode cX10_slackBy 10 = .ok (.invokevirtual 419, 3) := by decide +kernel
theorem dX10_slackBy_13 : decode cX10_slackBy 13 = .ok (.if_icmp .ge 44, 3) := by decide +kernel
theorem dX10_slackBy_16 : decode cX10_slackBy 16 = .ok (.iload_n 2, 1) := by decide +kernel
theorem dX10_slackBy_17 : decode cX10_slackBy 17 = .ok (.aload_n 0, 1) := by decide +kernel
theorem dX10_slackBy_18 : decode cX10_slackBy 18 = .ok (.iload_n 3, 1) := by decide +kernel
theorem dX10_slackBy_19 : decode cX10_slackBy 19 = .ok (.iconst 1, 1) := by decide +kernel
theorem dX10_slackBy_20 : decode cX10_slackBy 20 = .ok (.iadd, 1) := by decide +kernel
theorem dX10_slackBy_21 : decode cX10_slackBy 21 = .ok (.iconst 0, 1) := by decide +kernel
theorem dX10_slackBy_22 : decode cX10_slackBy 22 = .ok (.invokevirtual 422, 3) := by decide +kernel
theorem dX10_slackBy_25 : decode cX10_slackBy 25 = .ok (.iload_n 1, 1) := by decide +kernel
theorem dX10_slackBy_26 : decode cX10_slackBy 26 = .ok (.invokestatic 425, 3) := by decide +kernel
theorem dX10_slackBy_29 : decode cX10_slackBy 29 = .ok (.aload_n 0, 1) := by decide +kernel
theorem dX10_slackBy_30 : decode cX10_slackBy 30 = .ok (.iload_n 3, 1) := by decide +kernel
theorem dX10_slackBy_31 : decode cX10_slackBy 31 = .ok (.iconst 0, 1) := by decide +kernel
theorem dX10_slackBy_32 : decode cX10_slackBy 32 = .ok (.invokevirtual 422, 3) := by decide +kernel
theorem dX10_slackBy_35 : decode cX10_slackBy 35 = .ok (.iload_n 1, 1) := by decide +kernel
theorem dX10_slackBy_36 : decode cX10_slackBy 36 = .ok (.invokestatic 425, 3) := by decide +kernel
theorem dX10_slackBy_39 : decode cX10_slackBy 39 = .ok (.isub, 1) := by decide +kernel
theorem dX10_slackBy_40 : decode cX10_slackBy 40 = .ok (.aload_n 0, 1) := by decide +kernel
theorem dX10_slackBy_41 : decode cX10_slackBy 41 = .ok (.iload_n 3, 1) := by decide +kernel
theorem dX10_slackBy_42 : decode cX10_slackBy 42 = .ok (.iconst 1, 1) := by decide +kernel
theorem dX10_slackBy_43 : decode cX10_slackBy 43 = .ok (.invokevirtual 422, 3) := by decide +kernel
theorem dX10_slackBy_46 : decode cX10_slackBy 46 = .ok (.isub, 1) := by decide +kernel
theorem dX10_slackBy_47 : decode cX10_slackBy 47 = .ok (.invokestatic 428, 3) := by decide +kernel
theorem dX10_slackBy_50 : decode cX10_slackBy 50 = .ok (.istore_n 2, 1) := by decide +kernel
theorem dX10_slackBy_51 : decode cX10_slackBy 51 = .ok (.iinc 3 1, 3) := by decide +kernel
theorem dX10_slackBy_54 : decode cX10_slackBy 54 = .ok (.goto (-48), 3) := by decide +kernel
theorem dX10_slackBy_57 : decode cX10_slackBy 57 = .ok (.iload_n 2, 1) := by decide +kernel
theorem dX10_slackBy_58 : decode cX10_slackBy 58 = .ok (.ireturn, 1) := by decide +kernel
def tX10_slackBy (g : ax_G) : Nat → ax_O := ax_nd 25 (ax_nd 10 (ax_nd 5 (ax_nd 3 (ax_nd 0 (ax_lf 0 (ao_ic (1000) 3)) (ax_lf 3 (ao_is 2 1))) (ax_nd 4 (ax_lf 4 (ao_ic (0) 1)) (ax_lf 5 (ao_is 3 1)))) (ax_nd 7 (ax_nd 6 (ax_lf 6 (ao_il 3 1)) (ax_lf 7 (ao_ic (1) 1))) (ax_nd 8 (ax_lf 8 ao_iadd) (ax_nd 9 (ax_lf 9 (ao_al 0 1)) (ax_lf 10 (ao_inv g 1 10 1 yX10_trains cX10_trains 1 (some .int) 1 0 0 0 0)))))) (ax_nd 18 (ax_nd 16 (ax_nd 13 (ax_lf 13 (ao_icmp_ge 57)) (ax_lf 16 (ao_il 2 1))) (ax_nd 17 (ax_lf 17 (ao_al 0 1)) (ax_lf 18 (ao_il 3 1)))) (ax_nd 20 (ax_nd 19 (ax_lf 19 (ao_ic (1) 1)) (ax_lf 20 ao_iadd)) (ax_nd 21 (ax_lf 21 (ao_ic (0) 1)) (ax_nd 22 (ax_lf 22 (ao_inv g 1 10 1 yX10_trainOf cX10_trainOf 3 (some .int) 3 0 0 0 0)) (ax_lf 25 (ao_il 1 1))))))) (ax_nd 40 (ax_nd 31 (ax_nd 29 (ax_nd 26 (ax_lf 26 (ao_inv g 1 99 1 yX10_trueAt cX10_trueAt 2 (some .int) 2 0 0 0 0)) (ax_lf 29 (ao_al 0 1))) (ax_nd 30 (ax_lf 30 (ao_il 3 1)) (ax_lf 31 (ao_ic (0) 1)))) (ax_nd 35 (ax_nd 32 (ax_lf 32 (ao_inv g 1 10 1 yX10_trainOf cX10_trainOf 3 (some .int) 3 0 0 0 0)) (ax_lf 35 (ao_il 1 1))) (ax_nd 36 (ax_lf 36 (ao_inv g 1 99 1 yX10_trueAt cX10_trueAt 2 (some .int) 2 0 0 0 0)) (ax_nd 39 (ax_lf 39 ao_isub) (ax_lf 40 (ao_al 0 1)))))) (ax_nd 47 (ax_nd 42 (ax_nd 41 (ax_lf 41 (ao_il 3 1)) (ax_lf 42 (ao_ic (1) 1))) (ax_nd 43 (ax_lf 43 (ao_inv g 1 10 1 yX10_trainOf cX10_trainOf 3 (some .int) 3 0 0 0 0)) (ax_nd 46 (ax_lf 46 ao_isub) (ax_lf 47 (ao_inv g 1 99 1 yX10_lesser cX10_lesser 2 (some .int) 2 0 0 0 0))))) (ax_nd 51 (ax_nd 50 (ax_lf 50 (ao_is 2 1)) (ax_lf 51 (ao_iinc 3 (1)))) (ax_nd 54 (ax_lf 54 (ao_goto 6)) (ax_nd 57 (ax_lf 57 (ao_il 2 1)) (ax_lf 58 (ao_iret 0 0)))))))
theorem oX10_slackBy (g : ax_G) : ∀ pc, ax_ok g cX10_slackBy 4 (some .int) RX10 "slackBy" 2 0 0 pc (tX10_slackBy g pc) := ax_nd_ok (ax_nd_ok (ax_nd_ok (ax_nd_ok (ax_nd_ok (ax_lf_ok (ak_sipush (by decide) dX10_slackBy_0)) (ax_lf_ok (ak_istore_n rfl (by decide) dX10_slackBy_3))) (ax_nd_ok (ax_lf_ok (ak_iconst (by decide) dX10_slackBy_4)) (ax_lf_ok (ak_istore_n rfl (by decide) dX10_slackBy_5)))) (ax_nd_ok (ax_nd_ok (ax_lf_ok (ak_iload_n rfl dX10_slackBy_6)) (ax_lf_ok (ak_iconst (by decide) dX10_slackBy_7))) (ax_nd_ok (ax_lf_ok (ak_iadd dX10_slackBy_8)) (ax_nd_ok (ax_lf_ok (ak_aload_n rfl dX10_slackBy_9)) (ax_lf_ok (ak_invV (by decide) (by decide) (by decide) rfl wd_1580 wd_1582 wd_78 wd_106 wd_1583 ⟨by decide, by decide, by decide +kernel⟩ dX10_slackBy_10)))))) (ax_nd_ok (ax_nd_ok (ax_nd_ok (ax_lf_ok (ak_icmp_ge (by decide) dX10_slackBy_13)) (ax_lf_ok (ak_iload_n rfl dX10_slackBy_16))) (ax_nd_ok (ax_lf_ok (ak_aload_n rfl dX10_slackBy_17)) (ax_lf_ok (ak_iload_n rfl dX10_slackBy_18)))) (ax_nd_ok (ax_nd_ok (ax_lf_ok (ak_iconst (by decide) dX10_slackBy_19)) (ax_lf_ok (ak_iadd dX10_slackBy_20))) (ax_nd_ok (ax_lf_ok (ak_iconst (by decide) dX10_slackBy_21)) (ax_nd_ok (ax_lf_ok (ak_invV (by decide) (by decide) (by decide) rfl wd_1584 wd_1586 wd_79 wd_106 wd_1587 ⟨by decide, by decide, by decide +kernel⟩ dX10_slackBy_22)) (ax_lf_ok (ak_iload_n rfl dX10_slackBy_25))))))) (ax_nd_ok (ax_nd_ok (ax_nd_ok (ax_nd_ok (ax_lf_ok (ak_invS (by decide) (by decide) wd_1596 wd_1597 wd_106 wd_1598 ⟨by decide, by decide, by decide +kernel⟩ dX10_slackBy_26)) (ax_lf_ok (ak_aload_n rfl dX10_slackBy_29))) (ax_nd_ok (ax_lf_ok (ak_iload_n rfl dX10_slackBy_30)) (ax_lf_ok (ak_iconst (by decide) dX10_slackBy_31)))) (ax_nd_ok (ax_nd_ok (ax_lf_ok (ak_invV (by decide) (by decide) (by decide) rfl wd_1584 wd_1586 wd_79 wd_106 wd_1587 ⟨by decide, by decide, by decide +kernel⟩ dX10_slackBy_32)) (ax_lf_ok (ak_iload_n rfl dX10_slackBy_35))) (ax_nd_ok (ax_lf_ok (ak_invS (by decide) (by decide) wd_1596 wd_1597 wd_106 wd_1598 ⟨by decide, by decide, by decide +kernel⟩ dX10_slackBy_36)) (ax_nd_ok (ax_lf_ok (ak_isub dX10_slackBy_39)) (ax_lf_ok (ak_aload_n rfl dX10_slackBy_40)))))) (ax_nd_ok (ax_nd_ok (ax_nd_ok (ax_lf_ok (ak_iload_n rfl dX10_slackBy_41)) (ax_lf_ok (ak_iconst (by decide) dX10_slackBy_42))) (ax_nd_ok (ax_lf_ok (ak_invV (by decide) (by decide) (by decide) rfl wd_1584 wd_1586 wd_79 wd_106 wd_1587 ⟨by decide, by decide, by decide +kernel⟩ dX10_slackBy_43)) (ax_nd_ok (ax_lf_ok (ak_isub dX10_slackBy_46)) (ax_lf_ok (ak_invS (by decide) (by decide) wd_1599 wd_1600 wd_106 wd_1601 ⟨by decide, by decide, by decide +kernel⟩ dX10_slackBy_47))))) (ax_nd_ok (ax_nd_ok (ax_lf_ok (ak_istore_n rfl (by decide) dX10_slackBy_50)) (ax_lf_ok (ak_iinc (by decide) (by decide) dX10_slackBy_51))) (ax_nd_ok (ax_lf_ok (ak_goto (by decide) dX10_slackBy_54)) (ax_nd_ok (ax_lf_ok (ak_iload_n rfl dX10_slackBy_57)) (ax_lf_ok (ak_iret rfl dX10_slackBy_58)))))))
abbrev mX10_slackBy (g : ax_G) (as : List Value) (h : ax_H) (Ret : Option Value → ax_H → Prop) : Prop := ax_M g 2 0 0 yX10_slackBy cX10_slackBy 4 (some .int) as h Ret
theorem dX10_holds_0 : decode cX10_holds 0 = .ok (.aload_n 0, 1) := by decide +kernel
theorem dX10_holds_1 : decode cX10_holds 1 = .ok (.iconst 0, 1) := by decide +kernel
theorem dX10_holds_2 : decode cX10_holds 2 = .ok (.putfield 88, 3) := by decide +kernel
theorem dX10_holds_5 : decode cX10_holds 5 = .ok (.aload_n 0, 1) := by decide +kernel
theorem dX10_holds_6 : decode cX10_holds 6 = .ok (.iload_n 2, 1) := by decide +kernel
theorem dX10_holds_7 : decode cX10_holds 7 = .ok (.invokevirtual 416, 3) := by decide +kernel
theorem dX10_holds_10 : decode cX10_holds 10 = .ok (.ifCond .eq 24, 3) := by decide +kernel
theorem dX10_holds_13 : decode cX10_holds 13 = .ok (.aload_n 0, 1) := by decide +kernel
theorem dX10_holds_14 : decode cX10_holds 14 = .ok (.iload_n 1, 1) := by decide +kernel
theorem dX10_holds_15 : decode cX10_holds 15 = .ok (.invokevirtual 288, 3) := by decide +kernel
theorem dX10_holds_18 : decode cX10_holds 18 = .ok (.ifCond .eq 16, 3) := by decide +kernel
theorem dX10_holds_21 : decode cX10_holds 21 = .ok (.iload_n 3, 1) := by decide +kernel
theorem dX10_holds_22 : decode cX10_holds 22 = .ok (.iconst (-1), 1) := by decide +kernel
theorem dX10_holds_23 : decode cX10_holds 23 = .ok (.if_icmp .eq 15, 3) := by decide +kernel
theorem dX10_holds_26 : decode cX10_holds 26 = .ok (.aload_n 0, 1) := by decide +kernel
theorem dX10_holds_27 : decode cX10_holds 27 = .ok (.iload_n 3, 1) := by decide +kernel
theorem dX10_holds_28 : decode cX10_holds 28 = .ok (.invokevirtual 297, 3) := by decide +kernel
theorem dX10_holds_31 : decode cX10_holds 31 = .ok (.ifCond .ne 7, 3) := by decide +kernel
theorem dX10_holds_34 : decode cX10_holds 34 = .ok (.sipush (-1000), 3) := by decide +kernel
theorem dX10_holds_37 : decode cX10_holds 37 = .ok (.ireturn, 1) := by decide +kernel
theorem dX10_holds_38 : decode cX10_holds 38 = .ok (.iload_n 3, 1) := by decide +kernel
theorem dX10_holds_39 : decode cX10_holds 39 = .ok (.iconst (-1), 1) := by decide +kernel
theorem dX10_holds_40 : decode cX10_holds 40 = .ok (.if_icmp .eq 17, 3) := by decide +kernel
theorem dX10_holds_43 : decode cX10_holds 43 = .ok (.aload_n 0, 1) := by decide +kernel
theorem dX10_holds_44 : decode cX10_holds 44 = .ok (.iload_n 3, 1) := by decide +kernel
theorem dX10_holds_45 : decode cX10_holds 45 = .ok (.invokevirtual 431, 3) := by decide +kernel
theorem dX10_holds_48 : decode cX10_holds 48 = .ok (.ifCond .lt 7, 3) := by decide +kernel
theorem dX10_holds_51 : decode cX10_holds 51 = .ok (.iconst 1, 1) := by decide +kernel
theorem dX10_holds_52 : decode cX10_holds 52 = .ok (.goto 4, 3) := by decide +kernel
theorem dX10_holds_55 : decode cX10_holds 55 = .ok (.iconst 0, 1) := by decide +kernel
theorem dX10_holds_56 : decode cX10_holds 56 = .ok (.ireturn, 1) := by decide +kernel
theorem dX10_holds_57 : decode cX10_holds 57 = .ok (.sipush 1000, 3) := by decide +kernel
theorem dX10_holds_60 : decode cX10_holds 60 = .ok (.istore 4, 2) := by decide +kernel
theorem dX10_holds_62 : decode cX10_holds 62 = .ok (.iconst 0, 1) := by decide +kernel
theorem dX10_holds_63 : decode cX10_holds 63 = .ok (.istore 5, 2) := by decide +kernel
theorem dX10_holds_65 : decode cX10_holds 65 = .ok (.iload 5, 2) := by decide +kernel
theorem dX10_holds_67 : decode cX10_holds 67 = .ok (.aload_n 0, 1) := by decide +kernel
theorem dX10_holds_68 : decode cX10_holds 68 = .ok (.getfield 263, 3) := by decide +kernel
theorem dX10_holds_71 : decode cX10_holds 71 = .ok (.if_icmp .ge 22, 3) := by decide +kernel
theorem dX10_holds_74 : decode cX10_holds 74 = .ok (.iload 4, 2) := by decide +kernel
theorem dX10_holds_76 : decode cX10_holds 76 = .ok (.aload_n 0, 1) := by decide +kernel
theorem dX10_holds_77 : decode cX10_holds 77 = .ok (.iload 5, 2) := by decide +kernel
theorem dX10_holds_79 : decode cX10_holds 79 = .ok (.invokevirtual 431, 3) := by decide +kernel
theorem dX10_holds_82 : decode cX10_holds 82 = .ok (.invokestatic 428, 3) := by decide +kernel
theorem dX10_holds_85 : decode cX10_holds 85 = .ok (.istore 4, 2) := by decide +kernel
theorem dX10_holds_87 : decode cX10_holds 87 = .ok (.iinc 5 1, 3) := by decide +kernel
theorem dX10_holds_90 : decode cX10_holds 90 = .ok (.goto (-25), 3) := by decide +kernel
theorem dX10_holds_93 : decode cX10_holds 93 = .ok (.iload 4, 2) := by decide +kernel
theorem dX10_holds_95 : decode cX10_holds 95 = .ok (.ireturn, 1) := by decide +kernel
def tX10_holds (g : ax_G) : Nat → ax_O := ax_nd 43 (ax_nd 21 (ax_nd 7 (ax_nd 2 (ax_nd 0 (ax_lf 0 (ao_al 0 1)) (ax_nd 1 (ax_lf 1 (ao_ic (0) 1)) (ax_lf 2 (ao_pi 10 0)))) (ax_nd 5 (ax_lf 5 (ao_al 0 1)) (ax_nd 6 (ax_lf 6 (ao_il 2 1)) (ax_lf 7 (ao_inv g 3 10 1 yX10_hasTable cX10_hasTable 2 (some .boolean) 2 0 0 0 0))))) (ax_nd 14 (ax_nd 10 (ax_lf 10 (ao_if_eq 34)) (ax_nd 13 (ax_lf 13 (ao_al 0 1)) (ax_lf 14 (ao_il 1 1)))) (ax_nd 15 (ax_lf 15 (ao_inv g 6 10 1 yX10_hand cX10_hand 4 (some .boolean) 2 0 0 0 0)) (ax_nd 18 (ax_lf 18 (ao_if_eq 34)) (ax_lf 21 (ao_il 3 1)))))) (ax_nd 31 (ax_nd 26 (ax_nd 22 (ax_lf 22 (ao_ic (-1) 1)) (ax_nd 23 (ax_lf 23 (ao_icmp_eq 38)) (ax_lf 26 (ao_al 0 1)))) (ax_nd 27 (ax_lf 27 (ao_il 3 1)) (ax_nd 28 (ax_lf 28 (ao_inv g 2 10 1 yX10_isHour cX10_isHour 2 (some .boolean) 2 0 0 0 0)) (ax_lf 31 (ao_if_ne 38))))) (ax_nd 38 (ax_nd 34 (ax_lf 34 (ao_ic (-1000) 3)) (ax_nd 37 (ax_lf 37 (ao_iret 0 0)) (ax_lf 38 (ao_il 3 1)))) (ax_nd 39 (ax_lf 39 (ao_ic (-1) 1)) (ax_nd 40 (ax_lf 40 (ao_icmp_eq 57)) (ax_lf 43 (ao_al 0 1))))))) (ax_nd 65 (ax_nd 55 (ax_nd 48 (ax_nd 44 (ax_lf 44 (ao_il 3 1)) (ax_nd 45 (ax_lf 45 (ao_inv g 2 10 1 yX10_slackBy cX10_slackBy 4 (some .int) 2 0 0 0 0)) (ax_lf 48 (ao_if_lt 55)))) (ax_nd 51 (ax_lf 51 (ao_ic (1) 1)) (ax_nd 52 (ax_lf 52 (ao_goto 56)) (ax_lf 55 (ao_ic (0) 1))))) (ax_nd 60 (ax_nd 56 (ax_lf 56 (ao_iret 0 0)) (ax_nd 57 (ax_lf 57 (ao_ic (1000) 3)) (ax_lf 60 (ao_is 4 2)))) (ax_nd 62 (ax_lf 62 (ao_ic (0) 1)) (ax_nd 63 (ax_lf 63 (ao_is 5 2)) (ax_lf 65 (ao_il 5 2)))))) (ax_nd 77 (ax_nd 71 (ax_nd 67 (ax_lf 67 (ao_al 0 1)) (ax_nd 68 (ax_lf 68 (ao_gi 10 26)) (ax_lf 71 (ao_icmp_ge 93)))) (ax_nd 74 (ax_lf 74 (ao_il 4 2)) (ax_nd 76 (ax_lf 76 (ao_al 0 1)) (ax_lf 77 (ao_il 5 2))))) (ax_nd 85 (ax_nd 79 (ax_lf 79 (ao_inv g 2 10 1 yX10_slackBy cX10_slackBy 4 (some .int) 2 0 0 0 0)) (ax_nd 82 (ax_lf 82 (ao_inv g 1 99 1 yX10_lesser cX10_lesser 2 (some .int) 2 0 0 0 0)) (ax_lf 85 (ao_is 4 2)))) (ax_nd 90 (ax_nd 87 (ax_lf 87 (ao_iinc 5 (1))) (ax_lf 90 (ao_goto 65))) (ax_nd 93 (ax_lf 93 (ao_il 4 2)) (ax_lf 95 (ao_iret 0 0)))))))
theorem oX10_holds (g : ax_G) : ∀ pc, ax_ok g cX10_holds 6 (some .int) RX10 "holds" 7 0 0 pc (tX10_holds g pc) := ax_nd_ok (ax_nd_ok (ax_nd_ok (ax_nd_ok (ax_nd_ok (ax_lf_ok (ak_aload_n rfl dX10_holds_0)) (ax_nd_ok (ax_lf_ok (ak_iconst (by decide) dX10_holds_1)) (ax_lf_ok (ak_pi fF_X10_88 fW_X10_88_a dX10_holds_2)))) (ax_nd_ok (ax_lf_ok (ak_aload_n rfl dX10_holds_5)) (ax_nd_ok (ax_lf_ok (ak_iload_n rfl dX10_holds_6)) (ax_lf_ok (ak_invV (by decide) (by decide) (by decide) rfl wd_1576 wd_1578 wd_77 wd_106 wd_1579 ⟨by decide, by decide, by decide +kernel⟩ dX10_holds_7))))) (ax_nd_ok (ax_nd_ok (ax_lf_ok (ak_if_eq (by decide) dX10_holds_10)) (ax_nd_ok (ax_lf_ok (ak_aload_n rfl dX10_holds_13)) (ax_lf_ok (ak_iload_n rfl dX10_holds_14)))) (ax_nd_ok (ax_lf_ok (ak_invV (by decide) (by decide) (by decide) rfl wd_1356 wd_1358 wd_44 wd_106 wd_1359 ⟨by decide, by decide, by decide +kernel⟩ dX10_holds_15)) (ax_nd_ok (ax_lf_ok (ak_if_eq (by decide) dX10_holds_18)) (ax_lf_ok (ak_iload_n rfl dX10_holds_21)))))) (ax_nd_ok (ax_nd_ok (ax_nd_ok (ax_lf_ok (ak_iconst (by decide) dX10_holds_22)) (ax_nd_ok (ax_lf_ok (ak_icmp_eq (by decide) dX10_holds_23)) (ax_lf_ok (ak_aload_n rfl dX10_holds_26)))) (ax_nd_ok (ax_lf_ok (ak_iload_n rfl dX10_holds_27)) (ax_nd_ok (ax_lf_ok (ak_invV (by decide) (by decide) (by decide) rfl wd_1403 wd_1405 wd_53 wd_106 wd_1406 ⟨by decide, by decide, by decide +kernel⟩ dX10_holds_28)) (ax_lf_ok (ak_if_ne (by decide) dX10_holds_31))))) (ax_nd_ok (ax_nd_ok (ax_lf_ok (ak_sipush (by decide) dX10_holds_34)) (ax_nd_ok (ax_lf_ok (ak_iret rfl dX10_holds_37)) (ax_lf_ok (ak_iload_n rfl dX10_holds_38)))) (ax_nd_ok (ax_lf_ok (ak_iconst (by decide) dX10_holds_39)) (ax_nd_ok (ax_lf_ok (ak_icmp_eq (by decide) dX10_holds_40)) (ax_lf_ok (ak_aload_n rfl dX10_holds_43))))))) (ax_nd_ok (ax_nd_ok (ax_nd_ok (ax_nd_ok (ax_lf_ok (ak_iload_n rfl dX10_holds_44)) (ax_nd_ok (ax_lf_ok (ak_invV (by decide) (by decide) (by decide) rfl wd_1592 wd_1594 wd_80 wd_106 wd_1595 ⟨by decide, by decide, by decide +kernel⟩ dX10_holds_45)) (ax_lf_ok (ak_if_lt (by decide) dX10_holds_48)))) (ax_nd_ok (ax_lf_ok (ak_iconst (by decide) dX10_holds_51)) (ax_nd_ok (ax_lf_ok (ak_goto (by decide) dX10_holds_52)) (ax_lf_ok (ak_iconst (by decide) dX10_holds_55))))) (ax_nd_ok (ax_nd_ok (ax_lf_ok (ak_iret rfl dX10_holds_56)) (ax_nd_ok (ax_lf_ok (ak_sipush (by decide) dX10_holds_57)) (ax_lf_ok (ak_istore (by decide) dX10_holds_60)))) (ax_nd_ok (ax_lf_ok (ak_iconst (by decide) dX10_holds_62)) (ax_nd_ok (ax_lf_ok (ak_istore (by decide) dX10_holds_63)) (ax_lf_ok (ak_iload dX10_holds_65)))))) (ax_nd_ok (ax_nd_ok (ax_nd_ok (ax_lf_ok (ak_aload_n rfl dX10_holds_67)) (ax_nd_ok (ax_lf_ok (ak_gi fF_X10_263 dX10_holds_68)) (ax_lf_ok (ak_icmp_ge (by decide) dX10_holds_71)))) (ax_nd_ok (ax_lf_ok (ak_iload dX10_holds_74)) (ax_nd_ok (ax_lf_ok (ak_aload_n rfl dX10_holds_76)) (ax_lf_ok (ak_iload dX10_holds_77))))) (ax_nd_ok (ax_nd_ok (ax_lf_ok (ak_invV (by decide) (by decide) (by decide) rfl wd_1592 wd_1594 wd_80 wd_106 wd_1595 ⟨by decide, by decide, by decide +kernel⟩ dX10_holds_79)) (ax_nd_ok (ax_lf_ok (ak_invS (by decide) (by decide) wd_1599 wd_1600 wd_106 wd_1601 ⟨by decide, by decide, by decide +kernel⟩ dX10_holds_82)) (ax_lf_ok (ak_istore (by decide) dX10_holds_85)))) (ax_nd_ok (ax_nd_ok (ax_lf_ok (ak_iinc (by decide) (by decide) dX10_holds_87)) (ax_lf_ok (ak_goto (by decide) dX10_holds_90))) (ax_nd_ok (ax_lf_ok (ak_iload dX10_holds_93)) (ax_lf_ok (ak_iret rfl dX10_holds_95)))))))
abbrev mX10_holds (g : ax_G) (as : List Value) (h : ax_H) (Ret : Option Value → ax_H → Prop) : Prop := ax_M g 7 0 0 yX10_holds cX10_holds 6 (some .int) as h Ret
theorem dX10_canLeave_0 : decode cX10_canLeave 0 = .ok (.iconst 0, 1) := by decide +kernel
theorem dX10_canLeave_1 : decode cX10_canLeave 1 = .ok (.istore 4, 2) := by decide +kernel
theorem dX10_canLeave_3 : decode cX10_canLeave 3 = .ok (.iload 4, 2) := by decide +kernel
theorem dX10_canLeave_5 : decode cX10_canLeave 5 = .ok (.aload_n 0, 1) := by decide +kernel
theorem dX10_canLeave_6 : decode cX10_canLeave 6 = .ok (.getfield 263, 3) := by decide +kernel
theorem dX10_canLeave_9 : decode cX10_canLeave 9 = .ok (.if_icmp .ge 28, 3) := by decide +kernel
theorem dX10_canLeave_12 : decode cX10_canLeave 12 = .ok (.iload_n 2, 1) := by decide +kernel
theorem dX10_canLeave_13 : decode cX10_canLeave 13 = .ok (.iload 4, 2) := by decide +kernel
theorem dX10_canLeave_15 : decode cX10_canLeave 15 = .ok (.invokestatic 425, 3) := by decide +kernel
theorem dX10_canLeave_18 : decode cX10_canLeave 18 = .ok (.iload_n 3, 1) := by decide +kernel
theorem dX10_canLeave_19 : decode cX10_canLeave 19 = .ok (.iadd, 1) := by decide +kernel
theorem dX10_canLeave_20 : decode cX10_canLeave 20 = .ok (.iload_n 1, 1) := by decide +kernel
theorem dX10_canLeave_21 : decode cX10_canLeave 21 = .ok (.iload 4, 2) := by decide +kernel
theorem dX10_canLeave_23 : decode cX10_canLeave 23 = .ok (.invokestatic 425, 3) := by decide +kernel
theorem dX10_canLeave_26 : decode cX10_canLeave 26 = .ok (.if_icmp .le 5, 3) := by decide +kernel
theorem dX10_canLeave_29 : decode cX10_canLeave 29 = .ok (.iconst 0, 1) := by decide +kernel
theorem dX10_canLeave_30 : decode cX10_canLeave 30 = .ok (.ireturn, 1) := by decide +kernel
theorem dX10_canLeave_31 : decode cX10_canLeave 31 = .ok (.iinc 4 1, 3) := by decide +kernel
theorem dX10_canLeave_34 : decode cX10_canLeave 34 = .ok (.goto (-31), 3) := by decide +kernel
theorem dX10_canLeave_37 : decode cX10_canLeave 37 = .ok (.iconst 1, 1) := by decide +kernel
theorem dX10_canLeave_38 : decode cX10_canLeave 38 = .ok (.ireturn, 1) := by decide +kernel
def tX10_canLeave (g : ax_G) : Nat → ax_O := ax_nd 18 (ax_nd 6 (ax_nd 1 (ax_nd 0 (ax_lf 0 (ao_ic (0) 1)) (ax_lf 1 (ao_is 4 2))) (ax_nd 3 (ax_lf 3 (ao_il 4 2)) (ax_nd 5 (ax_lf 5 (ao_al 0 1)) (ax_lf 6 (ao_gi 10 26))))) (ax_nd 12 (ax_nd 9 (ax_lf 9 (ao_icmp_ge 37)) (ax_lf 12 (ao_il 2 1))) (ax_nd 13 (ax_lf 13 (ao_il 4 2)) (ax_nd 15 (ax_lf 15 (ao_inv g 1 99 1 yX10_trueAt cX10_trueAt 2 (some .int) 2 0 0 0 0)) (ax_lf 18 (ao_il 3 1)))))) (ax_nd 26 (ax_nd 20 (ax_nd 19 (ax_lf 19 ao_iadd) (ax_lf 20 (ao_il 1 1))) (ax_nd 21 (ax_lf 21 (ao_il 4 2)) (ax_nd 23 (ax_lf 23 (ao_inv g 1 99 1 yX10_trueAt cX10_trueAt 2 (some .int) 2 0 0 0 0)) (ax_lf 26 (ao_icmp_le 31))))) (ax_nd 31 (ax_nd 29 (ax_lf 29 (ao_ic (0) 1)) (ax_nd 30 (ax_lf 30 (ao_zret 0 0)) (ax_lf 31 (ao_iinc 4 (1))))) (ax_nd 34 (ax_lf 34 (ao_goto 3)) (ax_nd 37 (ax_lf 37 (ao_ic (1) 1)) (ax_lf 38 (ao_zret 0 0))))))
theorem oX10_canLeave (g : ax_G) : ∀ pc, ax_ok g cX10_canLeave 5 (some .boolean) RX10 "canLeave" 2 0 0 pc (tX10_canLeave g pc) := ax_nd_ok (ax_nd_ok (ax_nd_ok (ax_nd_ok (ax_lf_ok (ak_iconst (by decide) dX10_canLeave_0)) (ax_lf_ok (ak_istore (by decide) dX10_canLeave_1))) (ax_nd_ok (ax_lf_ok (ak_iload dX10_canLeave_3)) (ax_nd_ok (ax_lf_ok (ak_aload_n rfl dX10_canLeave_5)) (ax_lf_ok (ak_gi fF_X10_263 dX10_canLeave_6))))) (ax_nd_ok (ax_nd_ok (ax_lf_ok (ak_icmp_ge (by decide) dX10_canLeave_9)) (ax_lf_ok (ak_iload_n rfl dX10_canLeave_12))) (ax_nd_ok (ax_lf_ok (ak_iload dX10_canLeave_13)) (ax_nd_ok (ax_lf_ok (ak_invS (by decide) (by decide) wd_1596 wd_1597 wd_106 wd_1598 ⟨by decide, by decide, by decide +kernel⟩ dX10_canLeave_15)) (ax_lf_ok (ak_iload_n rfl dX10_canLeave_18)))))) (ax_nd_ok (ax_nd_ok (ax_nd_ok (ax_lf_ok (ak_iadd dX10_canLeave_19)) (ax_lf_ok (ak_iload_n rfl dX10_canLeave_20))) (ax_nd_ok (ax_lf_ok (ak_iload dX10_canLeave_21)) (ax_nd_ok (ax_lf_ok (ak_invS (by decide) (by decide) wd_1596 wd_1597 wd_106 wd_1598 ⟨by decide, by decide, by decide +kernel⟩ dX10_canLeave_23)) (ax_lf_ok (ak_icmp_le (by decide) dX10_canLeave_26))))) (ax_nd_ok (ax_nd_ok (ax_lf_ok (ak_iconst (by decide) dX10_canLeave_29)) (ax_nd_ok (ax_lf_ok (ak_zret rfl dX10_canLeave_30)) (ax_lf_ok (ak_iinc (by decide) (by decide) dX10_canLeave_31)))) (ax_nd_ok (ax_lf_ok (ak_goto (by decide) dX10_canLeave_34)) (ax_nd_ok (ax_lf_ok (ak_iconst (by decide) dX10_canLeave_37)) (ax_lf_ok (ak_zret rfl dX10_canLeave_38))))))
abbrev mX10_canLeave (g : ax_G) (as : List Value) (h : ax_H) (Ret : Option Value → ax_H → Prop) : Prop := ax_M g 2 0 0 yX10_canLeave cX10_canLeave 5 (some .boolean) as h Ret
theorem dX10_findEarliest_0 : decode cX10_findEarliest 0 = .ok (.aload_n 0, 1) := by decide +kernel
theorem dX10_findEarliest_1 : decode cX10_findEarliest 1 = .ok (.getfield 69, 3) := by decide +kernel
theorem dX10_findEarliest_4 : decode cX10_findEarliest 4 = .ok (.iconst 0, 1) := by decide +kernel
theorem dX10_findEarliest_5 : decode cX10_findEarliest 5 = .ok (.aload_n 0, 1) := by decide +kernel
theorem dX10_findEarliest_6 : decode cX10_findEarliest 6 = .ok (.iconst 0, 1) := by decide +kernel
theorem dX10_findEarliest_7 : decode cX10_findEarliest 7 = .ok (.iconst 0, 1) := by decide +kernel
theorem dX10_findEarliest_8 : decode cX10_findEarliest 8 = .ok (.invokevirtual 422, 3) := by decide +kernel
theorem dX10_findEarliest_11 : decode cX10_findEarliest 11 = .ok (.iastore, 1) := by decide +kernel
theorem dX10_findEarliest_12 : decode cX10_findEarliest 12 = .ok (.iconst 1, 1) := by decide +kernel
theorem dX10_findEarliest_13 : decode cX10_findEarliest 13 = .ok (.istore_n 1, 1) := by decide +kernel
theorem dX10_findEarliest_14 : decode cX10_findEarliest 14 = .ok (.iload_n 1, 1) := by decide +kernel
theorem dX10_findEarliest_15 : decode cX10_findEarliest 15 = .ok (.aload_n 0, 1) := by decide +kernel
theorem dX10_findEarliest_16 : decode cX10_findEarliest 16 = .ok (.invokevirtual 419, 3) := by decide +kernel
theorem dX10_findEarliest_19 : decode cX10_findEarliest 19 = .ok (.if_icmp .ge 48, 3) := by decide +kernel
theorem dX10_findEarliest_22 : decode cX10_findEarliest 22 = .ok (.iconst 0, 1) := by decide +kernel
theorem dX10_findEarliest_23 : decode cX10_findEarliest 23 = .ok (.istore_n 2, 1) := by decide +kernel
theorem dX10_findEarliest_24 : decode cX10_findEarliest 24 = .ok (.aload_n 0, 1) := by decide +kernel
theorem dX10_findEarliest_25 : decode cX10_findEarliest 25 = .ok (.iload_n 2, 1) := by decide +kernel
theorem dX10_findEarliest_26 : decode cX10_findEarliest 26 = .ok (.aload_n 0, 1) := by decide +kernel
theorem dX10_findEarliest_27 : decode cX10_findEarliest 27 = .ok (.getfield 69, 3) := by decide +kernel
theorem dX10_findEarliest_30 : decode cX10_findEarliest 30 = .ok (.iload_n 1, 1) := by decide +kernel
theorem dX10_findEarliest_31 : decode cX10_findEarliest 31 = .ok (.iconst 1, 1) := by decide +kernel
theorem dX10_findEarliest_32 : decode cX10_findEarliest 32 = .ok (.isub, 1) := by decide +kernel
theorem dX10_findEarliest_33 : decode cX10_findEarliest 33 = .ok (.iaload, 1) := by decide +kernel
theorem dX10_findEarliest_34 : decode cX10_findEarliest 34 = .ok (.aload_n 0, 1) := by decide +kernel
theorem dX10_findEarliest_35 : decode cX10_findEarliest 35 = .ok (.iload_n 1, 1) := by decide +kernel
theorem dX10_findEarliest_36 : decode cX10_findEarliest 36 = .ok (.iconst 1, 1) := by decide +kernel
theorem dX10_findEarliest_37 : decode cX10_findEarliest 37 = .ok (.isub, 1) := by decide +kernel
theorem dX10_findEarliest_38 : decode cX10_findEarliest 38 = .ok (.iconst 1, 1) := by decide +kernel
theorem dX10_findEarliest_39 : decode cX10_findEarliest 39 = .ok (.invokevirtual 422, 3) := by decide +kernel
theorem dX10_findEarliest_42 : decode cX10_findEarliest 42 = .ok (.invokevirtual 434, 3) := by decide +kernel
theorem dX10_findEarliest_45 : decode cX10_findEarliest 45 = .ok (.ifCond .ne 9, 3) := by decide +kernel
theorem dX10_findEarliest_48 : decode cX10_findEarliest 48 = .ok (.iinc 2 1, 3) := by decide +kernel
theorem dX10_findEarliest_51 : decode cX10_findEarliest 51 = .ok (.goto (-27), 3) := by decide +kernel
theorem dX10_findEarliest_54 : decode cX10_findEarliest 54 = .ok (.aload_n 0, 1) := by decide +kernel
theorem dX10_findEarliest_55 : decode cX10_findEarliest 55 = .ok (.getfield 69, 3) := by decide +kernel
theorem dX10_findEarliest_58 : decode cX10_findEarliest 58 = .ok (.iload_n 1, 1) := by decide +kernel
theorem dX10_findEarliest_59 : decode cX10_findEarliest 59 = .ok (.iload_n 2, 1) := by decide +kernel
theorem dX10_findEarliest_60 : decode cX10_findEarliest 60 = .ok (.iastore, 1) := by decide +kernel
theorem dX10_findEarliest_61 : decode cX10_findEarliest 61 = .ok (.iinc 1 1, 3) := by decide +kernel
theorem dX10_findEarliest_64 : decode cX10_findEarliest 64 = .ok (.goto (-50), 3) := by decide +kernel
theorem dX10_findEarliest_67 : decode cX10_findEarliest 67 = .ok (.return_, 1) := by decide +kernel
def tX10_findEarliest (g : ax_G) : Nat → ax_O := ax_nd 30 (ax_nd 13 (ax_nd 6 (ax_nd 1 (ax_nd 0 (ax_lf 0 (ao_al 0 1)) (ax_lf 1 (ao_gr 10 48))) (ax_nd 4 (ax_lf 4 (ao_ic (0) 1)) (ax_nd 5 (ax_lf 5 (ao_al 0 1)) (ax_lf 6 (ao_ic (0) 1))))) (ax_nd 8 (ax_nd 7 (ax_lf 7 (ao_ic (0) 1)) (ax_lf 8 (ao_inv g 1 10 1 yX10_trainOf cX10_trainOf 3 (some .int) 3 0 0 0 0))) (ax_nd 11 (ax_lf 11 ao_iast) (ax_nd 12 (ax_lf 12 (ao_ic (1) 1)) (ax_lf 13 (ao_is 1 1)))))) (ax_nd 22 (ax_nd 15 (ax_nd 14 (ax_lf 14 (ao_il 1 1)) (ax_lf 15 (ao_al 0 1))) (ax_nd 16 (ax_lf 16 (ao_inv g 1 10 1 yX10_trains cX10_trains 1 (some .int) 1 0 0 0 0)) (ax_nd 19 (ax_lf 19 (ao_icmp_ge 67)) (ax_lf 22 (ao_ic (0) 1))))) (ax_nd 25 (ax_nd 23 (ax_lf 23 (ao_is 2 1)) (ax_nd 24 (ax_lf 24 (ao_al 0 1)) (ax_lf 25 (ao_il 2 1)))) (ax_nd 26 (ax_lf 26 (ao_al 0 1)) (ax_nd 27 (ax_lf 27 (ao_gr 10 48)) (ax_lf 30 (ao_il 1 1))))))) (ax_nd 42 (ax_nd 35 (ax_nd 32 (ax_nd 31 (ax_lf 31 (ao_ic (1) 1)) (ax_lf 32 ao_isub)) (ax_nd 33 (ax_lf 33 ao_iald) (ax_nd 34 (ax_lf 34 (ao_al 0 1)) (ax_lf 35 (ao_il 1 1))))) (ax_nd 37 (ax_nd 36 (ax_lf 36 (ao_ic (1) 1)) (ax_lf 37 ao_isub)) (ax_nd 38 (ax_lf 38 (ao_ic (1) 1)) (ax_nd 39 (ax_lf 39 (ao_inv g 1 10 1 yX10_trainOf cX10_trainOf 3 (some .int) 3 0 0 0 0)) (ax_lf 42 (ao_inv g 2 10 1 yX10_canLeave cX10_canLeave 5 (some .boolean) 4 0 0 0 0)))))) (ax_nd 55 (ax_nd 48 (ax_nd 45 (ax_lf 45 (ao_if_ne 54)) (ax_lf 48 (ao_iinc 2 (1)))) (ax_nd 51 (ax_lf 51 (ao_goto 24)) (ax_nd 54 (ax_lf 54 (ao_al 0 1)) (ax_lf 55 (ao_gr 10 48))))) (ax_nd 60 (ax_nd 58 (ax_lf 58 (ao_il 1 1)) (ax_nd 59 (ax_lf 59 (ao_il 2 1)) (ax_lf 60 ao_iast))) (ax_nd 61 (ax_lf 61 (ao_iinc 1 (1))) (ax_nd 64 (ax_lf 64 (ao_goto 14)) (ax_lf 67 (ao_vret 0 0)))))))
theorem oX10_findEarliest (g : ax_G) : ∀ pc, ax_ok g cX10_findEarliest 3 none RX10 "findEarliest" 3 0 0 pc (tX10_findEarliest g pc) := ax_nd_ok (ax_nd_ok (ax_nd_ok (ax_nd_ok (ax_nd_ok (ax_lf_ok (ak_aload_n rfl dX10_findEarliest_0)) (ax_lf_ok (ak_gr fF_X10_69 dX10_findEarliest_1))) (ax_nd_ok (ax_lf_ok (ak_iconst (by decide) dX10_findEarliest_4)) (ax_nd_ok (ax_lf_ok (ak_aload_n rfl dX10_findEarliest_5)) (ax_lf_ok (ak_iconst (by decide) dX10_findEarliest_6))))) (ax_nd_ok (ax_nd_ok (ax_lf_ok (ak_iconst (by decide) dX10_findEarliest_7)) (ax_lf_ok (ak_invV (by decide) (by decide) (by decide) rfl wd_1584 wd_1586 wd_79 wd_106 wd_1587 ⟨by decide, by decide, by decide +kernel⟩ dX10_findEarliest_8))) (ax_nd_ok (ax_lf_ok (ak_iast dX10_findEarliest_11)) (ax_nd_ok (ax_lf_ok (ak_iconst (by decide) dX10_findEarliest_12)) (ax_lf_ok (ak_istore_n rfl (by decide) dX10_findEarliest_13)))))) (ax_nd_ok (ax_nd_ok (ax_nd_ok (ax_lf_ok (ak_iload_n rfl dX10_findEarliest_14)) (ax_lf_ok (ak_aload_n rfl dX10_findEarliest_15))) (ax_nd_ok (ax_lf_ok (ak_invV (by decide) (by decide) (by decide) rfl wd_1580 wd_1582 wd_78 wd_106 wd_1583 ⟨by decide, by decide, by decide +kernel⟩ dX10_findEarliest_16)) (ax_nd_ok (ax_lf_ok (ak_icmp_ge (by decide) dX10_findEarliest_19)) (ax_lf_ok (ak_iconst (by decide) dX10_findEarliest_22))))) (ax_nd_ok (ax_nd_ok (ax_lf_ok (ak_istore_n rfl (by decide) dX10_findEarliest_23)) (ax_nd_ok (ax_lf_ok (ak_aload_n rfl dX10_findEarliest_24)) (ax_lf_ok (ak_iload_n rfl dX10_findEarliest_25)))) (ax_nd_ok (ax_lf_ok (ak_aload_n rfl dX10_findEarliest_26)) (ax_nd_ok (ax_lf_ok (ak_gr fF_X10_69 dX10_findEarliest_27)) (ax_lf_ok (ak_iload_n rfl dX10_findEarliest_30))))))) (ax_nd_ok (ax_nd_ok (ax_nd_ok (ax_nd_ok (ax_lf_ok (ak_iconst (by decide) dX10_findEarliest_31)) (ax_lf_ok (ak_isub dX10_findEarliest_32))) (ax_nd_ok (ax_lf_ok (ak_iald dX10_findEarliest_33)) (ax_nd_ok (ax_lf_ok (ak_aload_n rfl dX10_findEarliest_34)) (ax_lf_ok (ak_iload_n rfl dX10_findEarliest_35))))) (ax_nd_ok (ax_nd_ok (ax_lf_ok (ak_iconst (by decide) dX10_findEarliest_36)) (ax_lf_ok (ak_isub dX10_findEarliest_37))) (ax_nd_ok (ax_lf_ok (ak_iconst (by decide) dX10_findEarliest_38)) (ax_nd_ok (ax_lf_ok (ak_invV (by decide) (by decide) (by decide) rfl wd_1584 wd_1586 wd_79 wd_106 wd_1587 ⟨by decide, by decide, by decide +kernel⟩ dX10_findEarliest_39)) (ax_lf_ok (ak_invV (by decide) (by decide) (by decide) rfl wd_1610 wd_1612 wd_82 wd_106 wd_1613 ⟨by decide, by decide, by decide +kernel⟩ dX10_findEarliest_42)))))) (ax_nd_ok (ax_nd_ok (ax_nd_ok (ax_lf_ok (ak_if_ne (by decide) dX10_findEarliest_45)) (ax_lf_ok (ak_iinc (by decide) (by decide) dX10_findEarliest_48))) (ax_nd_ok (ax_lf_ok (ak_goto (by decide) dX10_findEarliest_51)) (ax_nd_ok (ax_lf_ok (ak_aload_n rfl dX10_findEarliest_54)) (ax_lf_ok (ak_gr fF_X10_69 dX10_findEarliest_55))))) (ax_nd_ok (ax_nd_ok (ax_lf_ok (ak_iload_n rfl dX10_findEarliest_58)) (ax_nd_ok (ax_lf_ok (ak_iload_n rfl dX10_findEarliest_59)) (ax_lf_ok (ak_iast dX10_findEarliest_60)))) (ax_nd_ok (ax_lf_ok (ak_iinc (by decide) (by decide) dX10_findEarliest_61)) (ax_nd_ok (ax_lf_ok (ak_goto (by decide) dX10_findEarliest_64)) (ax_lf_ok (ak_vret rfl dX10_findEarliest_67)))))))
abbrev mX10_findEarliest (g : ax_G) (as : List Value) (h : ax_H) (Ret : Option Value → ax_H → Prop) : Prop := ax_M g 3 0 0 yX10_findEarliest cX10_findEarliest 3 none as h Ret
theorem dX10_clock_0 : decode cX10_clock 0 = .ok (.aload_n 0, 1) := by decide +kernel
theorem dX10_clock_1 : decode cX10_clock 1 = .ok (.iconst 0, 1) := by decide +kernel
theorem dX10_clock_2 : decode cX10_clock 2 = .ok (.putfield 88, 3) := by decide +kernel
theorem dX10_clock_5 : decode cX10_clock 5 = .ok (.aload_n 0, 1) := by decide +kernel
theorem dX10_clock_6 : decode cX10_clock 6 = .ok (.iload_n 2, 1) := by decide +kernel
theorem dX10_clock_7 : decode cX10_clock 7 = .ok (.invokevirtual 416, 3) := by decide +kernel
theorem dX10_clock_10 : decode cX10_clock 10 = .ok (.ifCond .eq 40, 3) := by decide +kernel
theorem dX10_clock_13 : decode cX10_clock 13 = .ok (.aload_n 0, 1) := by decide +kernel
theorem dX10_clock_14 : decode cX10_clock 14 = .ok (.iload_n 1, 1) := by decide +kernel
theorem dX10_clock_15 : decode cX10_clock 15 = .ok (.invokevirtual 288, 3) := by decide +kernel
theorem dX10_clock_18 : decode cX10_clock 18 = .ok (.ifCond .eq 32, 3) := by decide +kernel
theorem dX10_clock_21 : decode cX10_clock 21 = .ok (.iload_n 3, 1) := by decide +kernel
theorem dX10_clock_22 : decode cX10_clock 22 = .ok (.iconst 0, 1) := by decide +kernel
theorem dX10_clock_23 : decode cX10_clock 23 = .ok (.aload_n 0, 1) := by decide +kernel
theorem dX10_clock_24 : decode cX10_clock 24 = .ok (.invokevirtual 419, 3) := by decide +kernel
theorem dX10_clock_27 : decode cX10_clock 27 = .ok (.iconst 1, 1) := by decide +kernel
theorem dX10_clock_28 : decode cX10_clock 28 = .ok (.isub, 1) := by decide +kernel
theorem dX10_clock_29 : decode cX10_clock 29 = .ok (.invokestatic 96, 3) := by decide +kernel
theorem dX10_clock_32 : decode cX10_clock 32 = .ok (.ifCond .eq 18, 3) := by decide +kernel
theorem dX10_clock_35 : decode cX10_clock 35 = .ok (.iload 4, 2) := by decide +kernel
theorem dX10_clock_37 : decode cX10_clock 37 = .ok (.iconst (-1), 1) := by decide +kernel
theorem dX10_clock_38 : decode cX10_clock 38 = .ok (.if_icmp .eq 14, 3) := by decide +kernel
theorem dX10_clock_41 : decode cX10_clock 41 = .ok (.aload_n 0, 1) := by decide +kernel
theorem dX10_clock_42 : decode cX10_clock 42 = .ok (.iload 4, 2) := by decide +kernel
theorem dX10_clock_44 : decode cX10_clock 44 = .ok (.invokevirtual 297, 3) := by decide +kernel
theorem dX10_clock_47 : decode cX10_clock 47 = .ok (.ifCond .ne 5, 3) := by decide +kernel
theorem dX10_clock_50 : decode cX10_clock 50 = .ok (.iconst (-1), 1) := by decide +kernel
theorem dX10_clock_51 : decode cX10_clock 51 = .ok (.ireturn, 1) := by decide +kernel
theorem dX10_clock_52 : decode cX10_clock 52 = .ok (.iload 4, 2) := by decide +kernel
theorem dX10_clock_54 : decode cX10_clock 54 = .ok (.iconst (-1), 1) := by decide +kernel
theorem dX10_clock_55 : decode cX10_clock 55 = .ok (.if_icmp .ne 14, 3) := by decide +kernel
theorem dX10_clock_58 : decode cX10_clock 58 = .ok (.aload_n 0, 1) := by decide +kernel
theorem dX10_clock_59 : decode cX10_clock 59 = .ok (.invokevirtual 437, 3) := by decide +kernel
theorem dX10_clock_62 : decode cX10_clock 62 = .ok (.aload_n 0, 1) := by decide +kernel
theorem dX10_clock_63 : decode cX10_clock 63 = .ok (.getfield 69, 3) := by decide +kernel
theorem dX10_clock_66 : decode cX10_clock 66 = .ok (.iload_n 3, 1) := by decide +kernel
theorem dX10_clock_67 : decode cX10_clock 67 = .ok (.iaload, 1) := by decide +kernel
theorem dX10_clock_68 : decode cX10_clock 68 = .ok (.ireturn, 1) := by decide +kernel
theorem dX10_clock_69 : decode cX10_clock 69 = .ok (.aload_n 0, 1) := by decide +kernel
theorem dX10_clock_70 : decode cX10_clock 70 = .ok (.iload_n 3, 1) := by decide +kernel
theorem dX10_clock_71 : decode cX10_clock 71 = .ok (.iconst 0, 1) := by decide +kernel
theorem dX10_clock_72 : decode cX10_clock 72 = .ok (.invokevirtual 422, 3) := by decide +kernel
theorem dX10_clock_75 : decode cX10_clock 75 = .ok (.iload 4, 2) := by decide +kernel
theorem dX10_clock_77 : decode cX10_clock 77 = .ok (.invokestatic 425, 3) := by decide +kernel
theorem dX10_clock_80 : decode cX10_clock 80 = .ok (.aload_n 0, 1) := by decide +kernel
theorem dX10_clock_81 : decode cX10_clock 81 = .ok (.iload_n 3, 1) := by decide +kernel
theorem dX10_clock_82 : decode cX10_clock 82 = .ok (.iconst 1, 1) := by decide +kernel
theorem dX10_clock_83 : decode cX10_clock 83 = .ok (.invokevirtual 422, 3) := by decide +kernel
theorem dX10_clock_86 : decode cX10_clock 86 = .ok (.iadd, 1) := by decide +kernel
theorem dX10_clock_87 : decode cX10_clock 87 = .ok (.istore 5, 2) := by decide +kernel
theorem dX10_clock_89 : decode cX10_clock 89 = .ok (.iload 5, 2) := by decide +kernel
theorem dX10_clock_91 : decode cX10_clock 91 = .ok (.iload 4, 2) := by decide +kernel
theorem dX10_clock_93 : decode cX10_clock 93 = .ok (.if_icmp .gt 8, 3) := by decide +kernel
theorem dX10_clock_96 : decode cX10_clock 96 = .ok (.iload 5, 2) := by decide +kernel
theorem dX10_clock_98 : decode cX10_clock 98 = .ok (.goto 7, 3) := by decide +kernel
theorem dX10_clock_101 : decode cX10_clock 101 = .ok (.iload 5, 2) := by decide +kernel
theorem dX10_clock_103 : decode cX10_clock 103 = .ok (.iconst 1, 1) := by decide +kernel
theorem dX10_clock_104 : decode cX10_clock 104 = .ok (.isub, 1) := by decide +kernel
theorem dX10_clock_105 : decode cX10_clock 105 = .ok (.ireturn, 1) := by decide +kernel
def tX10_clock (g : ax_G) : Nat → ax_O := ax_nd 52 (ax_nd 23 (ax_nd 10 (ax_nd 2 (ax_nd 0 (ax_lf 0 (ao_al 0 1)) (ax_nd 1 (ax_lf 1 (ao_ic (0) 1)) (ax_lf 2 (ao_pi 10 0)))) (ax_nd 6 (ax_nd 5 (ax_lf 5 (ao_al 0 1)) (ax_lf 6 (ao_il 2 1))) (ax_nd 7 (ax_lf 7 (ao_inv g 3 10 1 yX10_hasTable cX10_hasTable 2 (some .boolean) 2 0 0 0 0)) (ax_lf 10 (ao_if_eq 50))))) (ax_nd 15 (ax_nd 13 (ax_lf 13 (ao_al 0 1)) (ax_nd 14 (ax_lf 14 (ao_il 1 1)) (ax_lf 15 (ao_inv g 6 10 1 yX10_hand cX10_hand 4 (some .boolean) 2 0 0 0 0)))) (ax_nd 21 (ax_nd 18 (ax_lf 18 (ao_if_eq 50)) (ax_lf 21 (ao_il 3 1))) (ax_nd 22 (ax_lf 22 (ao_ic (0) 1)) (ax_lf 23 (ao_al 0 1)))))) (ax_nd 37 (ax_nd 28 (ax_nd 24 (ax_lf 24 (ao_inv g 1 10 1 yX10_trains cX10_trains 1 (some .int) 1 0 0 0 0)) (ax_nd 27 (ax_lf 27 (ao_ic (1) 1)) (ax_lf 28 ao_isub))) (ax_nd 32 (ax_nd 29 (ax_lf 29 (ao_inv g 1 99 1 yX10_in cX10_in 3 (some .boolean) 3 0 0 0 0)) (ax_lf 32 (ao_if_eq 50))) (ax_nd 35 (ax_lf 35 (ao_il 4 2)) (ax_lf 37 (ao_ic (-1) 1))))) (ax_nd 44 (ax_nd 41 (ax_nd 38 (ax_lf 38 (ao_icmp_eq 52)) (ax_lf 41 (ao_al 0 1))) (ax_nd 42 (ax_lf 42 (ao_il 4 2)) (ax_lf 44 (ao_inv g 2 10 1 yX10_isHour cX10_isHour 2 (some .boolean) 2 0 0 0 0)))) (ax_nd 50 (ax_nd 47 (ax_lf 47 (ao_if_ne 52)) (ax_lf 50 (ao_ic (-1) 1))) (ax_nd 51 (ax_lf 51 (ao_iret 0 0)) (ax_lf 52 (ao_il 4 2))))))) (ax_nd 77 (ax_nd 66 (ax_nd 58 (ax_nd 54 (ax_lf 54 (ao_ic (-1) 1)) (ax_nd 55 (ax_lf 55 (ao_icmp_ne 69)) (ax_lf 58 (ao_al 0 1)))) (ax_nd 62 (ax_nd 59 (ax_lf 59 (ao_inv g 3 10 0 yX10_findEarliest cX10_findEarliest 3 none 1 0 0 0 0)) (ax_lf 62 (ao_al 0 1))) (ax_nd 63 (ax_lf 63 (ao_gr 10 48)) (ax_lf 66 (ao_il 3 1))))) (ax_nd 70 (ax_nd 68 (ax_nd 67 (ax_lf 67 ao_iald) (ax_lf 68 (ao_iret 0 0))) (ax_nd 69 (ax_lf 69 (ao_al 0 1)) (ax_lf 70 (ao_il 3 1)))) (ax_nd 72 (ax_nd 71 (ax_lf 71 (ao_ic (0) 1)) (ax_lf 72 (ao_inv g 1 10 1 yX10_trainOf cX10_trainOf 3 (some .int) 3 0 0 0 0))) (ax_nd 75 (ax_lf 75 (ao_il 4 2)) (ax_lf 77 (ao_inv g 1 99 1 yX10_trueAt cX10_trueAt 2 (some .int) 2 0 0 0 0)))))) (ax_nd 89 (ax_nd 82 (ax_nd 80 (ax_lf 80 (ao_al 0 1)) (ax_nd 81 (ax_lf 81 (ao_il 3 1)) (ax_lf 82 (ao_ic (1) 1)))) (ax_nd 86 (ax_nd 83 (ax_lf 83 (ao_inv g 1 10 1 yX10_trainOf cX10_trainOf 3 (some .int) 3 0 0 0 0)) (ax_lf 86 ao_iadd)) (ax_nd 87 (ax_lf 87 (ao_is 5 2)) (ax_lf 89 (ao_il 5 2))))) (ax_nd 98 (ax_nd 93 (ax_nd 91 (ax_lf 91 (ao_il 4 2)) (ax_lf 93 (ao_icmp_gt 101))) (ax_nd 96 (ax_lf 96 (ao_il 5 2)) (ax_lf 98 (ao_goto 105)))) (ax_nd 103 (ax_nd 101 (ax_lf 101 (ao_il 5 2)) (ax_lf 103 (ao_ic (1) 1))) (ax_nd 104 (ax_lf 104 ao_isub) (ax_lf 105 (ao_iret 0 0)))))))
theorem oX10_clock (g : ax_G) : ∀ pc, ax_ok g cX10_clock 6 (some .int) RX10 "clock" 7 0 0 pc (tX10_clock g pc) := ax_nd_ok (ax_nd_ok (ax_nd_ok (ax_nd_ok (ax_nd_ok (ax_lf_ok (ak_aload_n rfl dX10_clock_0)) (ax_nd_ok (ax_lf_ok (ak_iconst (by decide) dX10_clock_1)) (ax_lf_ok (ak_pi fF_X10_88 fW_X10_88_a dX10_clock_2)))) (ax_nd_ok (ax_nd_ok (ax_lf_ok (ak_aload_n rfl dX10_clock_5)) (ax_lf_ok (ak_iload_n rfl dX10_clock_6))) (ax_nd_ok (ax_lf_ok (ak_invV (by decide) (by decide) (by decide) rfl wd_1576 wd_1578 wd_77 wd_106 wd_1579 ⟨by decide, by decide, by decide +kernel⟩ dX10_clock_7)) (ax_lf_ok (ak_if_eq (by decide) dX10_clock_10))))) (ax_nd_ok (ax_nd_ok (ax_lf_ok (ak_aload_n rfl dX10_clock_13)) (ax_nd_ok (ax_lf_ok (ak_iload_n rfl dX10_clock_14)) (ax_lf_ok (ak_invV (by decide) (by decide) (by decide) rfl wd_1356 wd_1358 wd_44 wd_106 wd_1359 ⟨by decide, by decide, by decide +kernel⟩ dX10_clock_15)))) (ax_nd_ok (ax_nd_ok (ax_lf_ok (ak_if_eq (by decide) dX10_clock_18)) (ax_lf_ok (ak_iload_n rfl dX10_clock_21))) (ax_nd_ok (ax_lf_ok (ak_iconst (by decide) dX10_clock_22)) (ax_lf_ok (ak_aload_n rfl dX10_clock_23)))))) (ax_nd_ok (ax_nd_ok (ax_nd_ok (ax_lf_ok (ak_invV (by decide) (by decide) (by decide) rfl wd_1580 wd_1582 wd_78 wd_106 wd_1583 ⟨by decide, by decide, by decide +kernel⟩ dX10_clock_24)) (ax_nd_ok (ax_lf_ok (ak_iconst (by decide) dX10_clock_27)) (ax_lf_ok (ak_isub dX10_clock_28)))) (ax_nd_ok (ax_nd_ok (ax_lf_ok (ak_invS (by decide) (by decide) wd_1244 wd_1245 wd_106 wd_1246 ⟨by decide, by decide, by decide +kernel⟩ dX10_clock_29)) (ax_lf_ok (ak_if_eq (by decide) dX10_clock_32))) (ax_nd_ok (ax_lf_ok (ak_iload dX10_clock_35)) (ax_lf_ok (ak_iconst (by decide) dX10_clock_37))))) (ax_nd_ok (ax_nd_ok (ax_nd_ok (ax_lf_ok (ak_icmp_eq (by decide) dX10_clock_38)) (ax_lf_ok (ak_aload_n rfl dX10_clock_41))) (ax_nd_ok (ax_lf_ok (ak_iload dX10_clock_42)) (ax_lf_ok (ak_invV (by decide) (by decide) (by decide) rfl wd_1403 wd_1405 wd_53 wd_106 wd_1406 ⟨by decide, by decide, by decide +kernel⟩ dX10_clock_44)))) (ax_nd_ok (ax_nd_ok (ax_lf_ok (ak_if_ne (by decide) dX10_clock_47)) (ax_lf_ok (ak_iconst (by decide) dX10_clock_50))) (ax_nd_ok (ax_lf_ok (ak_iret rfl dX10_clock_51)) (ax_lf_ok (ak_iload dX10_clock_52))))))) (ax_nd_ok (ax_nd_ok (ax_nd_ok (ax_nd_ok (ax_lf_ok (ak_iconst (by decide) dX10_clock_54)) (ax_nd_ok (ax_lf_ok (ak_icmp_ne (by decide) dX10_clock_55)) (ax_lf_ok (ak_aload_n rfl dX10_clock_58)))) (ax_nd_ok (ax_nd_ok (ax_lf_ok (ak_invV (by decide) (by decide) (by decide) rfl wd_1606 wd_1608 wd_81 wd_106 wd_1609 ⟨by decide, by decide, by decide +kernel⟩ dX10_clock_59)) (ax_lf_ok (ak_aload_n rfl dX10_clock_62))) (ax_nd_ok (ax_lf_ok (ak_gr fF_X10_69 dX10_clock_63)) (ax_lf_ok (ak_iload_n rfl dX10_clock_66))))) (ax_nd_ok (ax_nd_ok (ax_nd_ok (ax_lf_ok (ak_iald dX10_clock_67)) (ax_lf_ok (ak_iret rfl dX10_clock_68))) (ax_nd_ok (ax_lf_ok (ak_aload_n rfl dX10_clock_69)) (ax_lf_ok (ak_iload_n rfl dX10_clock_70)))) (ax_nd_ok (ax_nd_ok (ax_lf_ok (ak_iconst (by decide) dX10_clock_71)) (ax_lf_ok (ak_invV (by decide) (by decide) (by decide) rfl wd_1584 wd_1586 wd_79 wd_106 wd_1587 ⟨by decide, by decide, by decide +kernel⟩ dX10_clock_72))) (ax_nd_ok (ax_lf_ok (ak_iload dX10_clock_75)) (ax_lf_ok (ak_invS (by decide) (by decide) wd_1596 wd_1597 wd_106 wd_1598 ⟨by decide, by decide, by decide +kernel⟩ dX10_clock_77)))))) (ax_nd_ok (ax_nd_ok (ax_nd_ok (ax_lf_ok (ak_aload_n rfl dX10_clock_80)) (ax_nd_ok (ax_lf_ok (ak_iload_n rfl dX10_clock_81)) (ax_lf_ok (ak_iconst (by decide) dX10_clock_82)))) (ax_nd_ok (ax_nd_ok (ax_lf_ok (ak_invV (by decide) (by decide) (by decide) rfl wd_1584 wd_1586 wd_79 wd_106 wd_1587 ⟨by decide, by decide, by decide +kernel⟩ dX10_clock_83)) (ax_lf_ok (ak_iadd dX10_clock_86))) (ax_nd_ok (ax_lf_ok (ak_istore (by decide) dX10_clock_87)) (ax_lf_ok (ak_iload dX10_clock_89))))) (ax_nd_ok (ax_nd_ok (ax_nd_ok (ax_lf_ok (ak_iload dX10_clock_91)) (ax_lf_ok (ak_icmp_gt (by decide) dX10_clock_93))) (ax_nd_ok (ax_lf_ok (ak_iload dX10_clock_96)) (ax_lf_ok (ak_goto (by decide) dX10_clock_98)))) (ax_nd_ok (ax_nd_ok (ax_lf_ok (ak_iload dX10_clock_101)) (ax_lf_ok (ak_iconst (by decide) dX10_clock_103))) (ax_nd_ok (ax_lf_ok (ak_isub dX10_clock_104)) (ax_lf_ok (ak_iret rfl dX10_clock_105)))))))
abbrev mX10_clock (g : ax_G) (as : List Value) (h : ax_H) (Ret : Option Value → ax_H → Prop) : Prop := ax_M g 7 0 0 yX10_clock cX10_clock 6 (some .int) as h Ret
theorem dX10_sightOf_0 : decode cX10_sightOf 0 = .ok (.aload_n 0, 1) := by decide +kernel
theorem dX10_sightOf_1 : decode cX10_sightOf 1 = .ok (.getfield 38, 3) := by decide +kernel
theorem dX10_sightOf_4 : decode cX10_sightOf 4 = .ok (.bipush 19, 2) := by decide +kernel
theorem dX10_sightOf_6 : decode cX10_sightOf 6 = .ok (.aload_n 0, 1) := by decide +kernel
theorem dX10_sightOf_7 : decode cX10_sightOf 7 = .ok (.getfield 440, 3) := by decide +kernel
theorem dX10_sightOf_10 : decode cX10_sightOf 10 = .ok (.imul, 1) := by decide +kernel
theorem dX10_sightOf_11 : decode cX10_sightOf 11 = .ok (.iconst 1, 1) := by decide +kernel
theorem dX10_sightOf_12 : decode cX10_sightOf 12 = .ok (.iadd, 1) := by decide +kernel
theorem dX10_sightOf_13 : decode cX10_sightOf 13 = .ok (.iconst 3, 1) := by decide +kernel
theorem dX10_sightOf_14 : decode cX10_sightOf 14 = .ok (.iload_n 1, 1) := by decide +kernel
theorem dX10_sightOf_15 : decode cX10_sightOf 15 = .ok (.imul, 1) := by decide +kernel
theorem dX10_sightOf_16 : decode cX10_sightOf 16 = .ok (.iadd, 1) := by decide +kernel
theorem dX10_sightOf_17 : decode cX10_sightOf 17 = .ok (.iload_n 2, 1) := by decide +kernel
theorem dX10_sightOf_18 : decode cX10_sightOf 18 = .ok (.iadd, 1) := by decide +kernel
theorem dX10_sightOf_19 : decode cX10_sightOf 19 = .ok (.iaload, 1) := by decide +kernel
theorem dX10_sightOf_20 : decode cX10_sightOf 20 = .ok (.ireturn, 1) := by decide +kernel
def tX10_sightOf (g : ax_G) : Nat → ax_O := ax_nd 12 (ax_nd 6 (ax_nd 1 (ax_nd 0 (ax_lf 0 (ao_al 0 1)) (ax_lf 1 (ao_gr 10 10))) (ax_nd 4 (ax_lf 4 (ao_ic (19) 2)) (ax_lf 6 (ao_al 0 1)))) (ax_nd 10 (ax_nd 7 (ax_lf 7 (ao_gi 10 49)) (ax_lf 10 ao_imul)) (ax_nd 11 (ax_lf 11 (ao_ic (1) 1)) (ax_lf 12 ao_iadd)))) (ax_nd 16 (ax_nd 14 (ax_nd 13 (ax_lf 13 (ao_ic (3) 1)) (ax_lf 14 (ao_il 1 1))) (ax_nd 15 (ax_lf 15 ao_imul) (ax_lf 16 ao_iadd))) (ax_nd 18 (ax_nd 17 (ax_lf 17 (ao_il 2 1)) (ax_lf 18 ao_iadd)) (ax_nd 19 (ax_lf 19 ao_iald) (ax_lf 20 (ao_iret 0 0)))))
theorem oX10_sightOf (g : ax_G) : ∀ pc, ax_ok g cX10_sightOf 3 (some .int) RX10 "sightOf" 1 0 0 pc (tX10_sightOf g pc) := ax_nd_ok (ax_nd_ok (ax_nd_ok (ax_nd_ok (ax_lf_ok (ak_aload_n rfl dX10_sightOf_0)) (ax_lf_ok (ak_gr fF_X10_38 dX10_sightOf_1))) (ax_nd_ok (ax_lf_ok (ak_bipush (by decide) dX10_sightOf_4)) (ax_lf_ok (ak_aload_n rfl dX10_sightOf_6)))) (ax_nd_ok (ax_nd_ok (ax_lf_ok (ak_gi fF_X10_440 dX10_sightOf_7)) (ax_lf_ok (ak_imul dX10_sightOf_10))) (ax_nd_ok (ax_lf_ok (ak_iconst (by decide) dX10_sightOf_11)) (ax_lf_ok (ak_iadd dX10_sightOf_12))))) (ax_nd_ok (ax_nd_ok (ax_nd_ok (ax_lf_ok (ak_iconst (by decide) dX10_sightOf_13)) (ax_lf_ok (ak_iload_n rfl dX10_sightOf_14))) (ax_nd_ok (ax_lf_ok (ak_imul dX10_sightOf_15)) (ax_lf_ok (ak_iadd dX10_sightOf_16)))) (ax_nd_ok (ax_nd_ok (ax_lf_ok (ak_iload_n rfl dX10_sightOf_17)) (ax_lf_ok (ak_iadd dX10_sightOf_18))) (ax_nd_ok (ax_lf_ok (ak_iald dX10_sightOf_19)) (ax_lf_ok (ak_iret rfl dX10_sightOf_20)))))
abbrev mX10_sightOf (g : ax_G) (as : List Value) (h : ax_H) (Ret : Option Value → ax_H → Prop) : Prop := ax_M g 1 0 0 yX10_sightOf cX10_sightOf 3 (some .int) as h Ret
theorem dX10_hasSights_0 : decode cX10_hasSights 0 = .ok (.aload_n 0, 1) := by decide +kernel
theorem dX10_hasSights_1 : decode cX10_hasSights 1 = .ok (.iload_n 1, 1) := by decide +kernel
theorem dX10_hasSights_2 : decode cX10_hasSights 2 = .ok (.putfield 440, 3) := by decide +kernel
theorem dX10_hasSights_5 : decode cX10_hasSights 5 = .ok (.aload_n 0, 1) := by decide +kernel
theorem dX10_hasSights_6 : decode cX10_hasSights 6 = .ok (.iconst 4, 1) := by decide +kernel
theorem dX10_hasSights_7 : decode cX10_hasSights 7 = .ok (.iload_n 1, 1) := by decide +kernel
theorem dX10_hasSights_8 : decode cX10_hasSights 8 = .ok (.invokevirtual 234, 3) := by decide +kernel
theorem dX10_hasSights_11 : decode cX10_hasSights 11 = .ok (.ireturn, 1) := by decide +kernel
def tX10_hasSights (g : ax_G) : Nat → ax_O := ax_nd 5 (ax_nd 1 (ax_nd 0 (ax_lf 0 (ao_al 0 1)) (ax_lf 1 (ao_il 1 1))) (ax_nd 2 (ax_lf 2 (ao_pi 10 49)) (ax_lf 5 (ao_al 0 1)))) (ax_nd 7 (ax_nd 6 (ax_lf 6 (ao_ic (4) 1)) (ax_lf 7 (ao_il 1 1))) (ax_nd 8 (ax_lf 8 (ao_inv g 2 10 1 yX10_is cX10_is 3 (some .boolean) 3 0 0 0 0)) (ax_lf 11 (ao_zret 0 0))))
theorem oX10_hasSights (g : ax_G) : ∀ pc, ax_ok g cX10_hasSights 2 (some .boolean) RX10 "hasSights" 3 0 0 pc (tX10_hasSights g pc) := ax_nd_ok (ax_nd_ok (ax_nd_ok (ax_lf_ok (ak_aload_n rfl dX10_hasSights_0)) (ax_lf_ok (ak_iload_n rfl dX10_hasSights_1))) (ax_nd_ok (ax_lf_ok (ak_pi fF_X10_440 fW_X10_440_a dX10_hasSights_2)) (ax_lf_ok (ak_aload_n rfl dX10_hasSights_5)))) (ax_nd_ok (ax_nd_ok (ax_lf_ok (ak_iconst (by decide) dX10_hasSights_6)) (ax_lf_ok (ak_iload_n rfl dX10_hasSights_7))) (ax_nd_ok (ax_lf_ok (ak_invV (by decide) (by decide) (by decide) rfl wd_1251 wd_1253 wd_24 wd_106 wd_1254 ⟨by decide, by decide, by decide +kernel⟩ dX10_hasSights_8)) (ax_lf_ok (ak_zret rfl dX10_hasSights_11))))
abbrev mX10_hasSights (g : ax_G) (as : List Value) (h : ax_H) (Ret : Option Value → ax_H → Prop) : Prop := ax_M g 3 0 0 yX10_hasSights cX10_hasSights 2 (some .boolean) as h Ret
theorem dX10_sight_0 : decode cX10_sight 0 = .ok (.aload_n 0, 1) := by decide +kernel
theorem dX10_sight_1 : decode cX10_sight 1 = .ok (.iconst 0, 1) := by decide +kernel
theorem dX10_sight_2 : decode cX10_sight 2 = .ok (.putfield 88, 3) := by decide +kernel
theorem dX10_sight_5 : decode cX10_sight 5 = .ok (.aload_n 0, 1) := by decide +kernel
theorem dX10_sight_6 : decode cX10_sight 6 = .ok (.iload_n 1, 1) := by decide +kernel
theorem dX10_sight_7 : decode cX10_sight 7 = .ok (.invokevirtual 443, 3) := by decide +kernel
theorem dX10_sight_10 : decode cX10_sight 10 = .ok (.ifCond .ne 7, 3) := by decide +kernel
theorem dX10_sight_13 : decode cX10_sight 13 = .ok (.ldc_w 300, 3) := by decide +kernel
theorem dX10_sight_16 : decode cX10_sight 16 = .ok (.ireturn, 1) := by decide +kernel
theorem dX10_sight_17 : decode cX10_sight 17 = .ok (.aload_n 0, 1) := by decide +kernel
theorem dX10_sight_18 : decode cX10_sight 18 = .ok (.getfield 38, 3) := by decide +kernel
theorem dX10_sight_21 : decode cX10_sight 21 = .ok (.bipush 19, 2) := by decide +kernel
theorem dX10_sight_23 : decode cX10_sight 23 = .ok (.iload_n 1, 1) := by decide +kernel
theorem dX10_sight_24 : decode cX10_sight 24 = .ok (.imul, 1) := by decide +kernel
theorem dX10_sight_25 : decode cX10_sight 25 = .ok (.iaload, 1) := by decide +kernel
theorem dX10_sight_26 : decode cX10_sight 26 = .ok (.istore 4, 2) := by decide +kernel
theorem dX10_sight_28 : decode cX10_sight 28 = .ok (.iload_n 2, 1) := by decide +kernel
theorem dX10_sight_29 : decode cX10_sight 29 = .ok (.iconst (-1), 1) := by decide +kernel
theorem dX10_sight_30 : decode cX10_sight 30 = .ok (.if_icmp .ne 16, 3) := by decide +kernel
theorem dX10_sight_33 : decode cX10_sight 33 = .ok (.iload_n 3, 1) := by decide +kernel
theorem dX10_sight_34 : decode cX10_sight 34 = .ok (.ifCond .ne 8, 3) := by decide +kernel
theorem dX10_sight_37 : decode cX10_sight 37 = .ok (.iload 4, 2) := by decide +kernel
theorem dX10_sight_39 : decode cX10_sight 39 = .ok (.goto 6, 3) := by decide +kernel
theorem dX10_sight_42 : decode cX10_sight 42 = .ok (.ldc_w 300, 3) := by decide +kernel
theorem dX10_sight_45 : decode cX10_sight 45 = .ok (.ireturn, 1) := by decide +kernel
theorem dX10_sight_46 : decode cX10_sight 46 = .ok (.iload_n 2, 1) := by decide +kernel
theorem dX10_sight_47 : decode cX10_sight 47 = .ok (.iconst 0, 1) := by decide +kernel
theorem dX10_sight_48 : decode cX10_sight 48 = .ok (.iload 4, 2) := by decide +kernel
theorem dX10_sight_50 : decode cX10_sight 50 = .ok (.iconst 1, 1) := by decide +kernel
theorem dX10_sight_51 : decode cX10_sight 51 = .ok (.isub, 1) := by decide +kernel
theorem dX10_sight_52 : decode cX10_sight 52 = .ok (.invokestatic 96, 3) := by decide +kernel
theorem dX10_sight_55 : decode cX10_sight 55 = .ok (.ifCond .eq 21, 3) := by decide +kernel
theorem dX10_sight_58 : decode cX10_sight 58 = .ok (.iload_n 3, 1) := by decide +kernel
theorem dX10_sight_59 : decode cX10_sight 59 = .ok (.iconst 0, 1) := by decide +kernel
theorem dX10_sight_60 : decode cX10_sight 60 = .ok (.iconst 2, 1) := by decide +kernel
theorem dX10_sight_61 : decode cX10_sight 61 = .ok (.invokestatic 96, 3) := by decide +kernel
theorem dX10_sight_64 : decode cX10_sight 64 = .ok (.ifCond .eq 12, 3) := by decide +kernel
theorem dX10_sight_67 : decode cX10_sight 67 = .ok (.aload_n 0, 1) := by decide +kernel
theorem dX10_sight_68 : decode cX10_sight 68 = .ok (.iload_n 2, 1) := by decide +kernel
theorem dX10_sight_69 : decode cX10_sight 69 = .ok (.iload_n 3, 1) := by decide +kernel
theorem dX10_sight_70 : decode cX10_sight 70 = .ok (.invokevirtual 446, 3) := by decide +kernel
theorem dX10_sight_73 : decode cX10_sight 73 = .ok (.goto 6, 3) := by decide +kernel
theorem dX10_sight_76 : decode cX10_sight 76 = .ok (.ldc_w 300, 3) := by decide +kernel
theorem dX10_sight_79 : decode cX10_sight 79 = .ok (.ireturn, 1) := by decide +kernel
def tX10_sight (g : ax_G) : Nat → ax_O := ax_nd 37 (ax_nd 18 (ax_nd 6 (ax_nd 1 (ax_nd 0 (ax_lf 0 (ao_al 0 1)) (ax_lf 1 (ao_ic (0) 1))) (ax_nd 2 (ax_lf 2 (ao_pi 10 0)) (ax_nd 5 (ax_lf 5 (ao_al 0 1)) (ax_lf 6 (ao_il 1 1))))) (ax_nd 13 (ax_nd 7 (ax_lf 7 (ao_inv g 3 10 1 yX10_hasSights cX10_hasSights 2 (some .boolean) 2 0 0 0 0)) (ax_nd 10 (ax_lf 10 (ao_if_ne 17)) (ax_lf 13 (ao_ic (-1000000) 3)))) (ax_nd 16 (ax_lf 16 (ao_iret 0 0)) (ax_nd 17 (ax_lf 17 (ao_al 0 1)) (ax_lf 18 (ao_gr 10 10)))))) (ax_nd 26 (ax_nd 23 (ax_nd 21 (ax_lf 21 (ao_ic (19) 2)) (ax_lf 23 (ao_il 1 1))) (ax_nd 24 (ax_lf 24 ao_imul) (ax_nd 25 (ax_lf 25 ao_iald) (ax_lf 26 (ao_is 4 2))))) (ax_nd 30 (ax_nd 28 (ax_lf 28 (ao_il 2 1)) (ax_nd 29 (ax_lf 29 (ao_ic (-1) 1)) (ax_lf 30 (ao_icmp_ne 46)))) (ax_nd 33 (ax_lf 33 (ao_il 3 1)) (ax_nd 34 (ax_lf 34 (ao_if_ne 42)) (ax_lf 37 (ao_il 4 2))))))) (ax_nd 58 (ax_nd 47 (ax_nd 42 (ax_nd 39 (ax_lf 39 (ao_goto 45)) (ax_lf 42 (ao_ic (-1000000) 3))) (ax_nd 45 (ax_lf 45 (ao_iret 0 0)) (ax_nd 46 (ax_lf 46 (ao_il 2 1)) (ax_lf 47 (ao_ic (0) 1))))) (ax_nd 51 (ax_nd 48 (ax_lf 48 (ao_il 4 2)) (ax_nd 50 (ax_lf 50 (ao_ic (1) 1)) (ax_lf 51 ao_isub))) (ax_nd 52 (ax_lf 52 (ao_inv g 1 99 1 yX10_in cX10_in 3 (some .boolean) 3 0 0 0 0)) (ax_nd 55 (ax_lf 55 (ao_if_eq 76)) (ax_lf 58 (ao_il 3 1)))))) (ax_nd 67 (ax_nd 60 (ax_nd 59 (ax_lf 59 (ao_ic (0) 1)) (ax_lf 60 (ao_ic (2) 1))) (ax_nd 61 (ax_lf 61 (ao_inv g 1 99 1 yX10_in cX10_in 3 (some .boolean) 3 0 0 0 0)) (ax_nd 64 (ax_lf 64 (ao_if_eq 76)) (ax_lf 67 (ao_al 0 1))))) (ax_nd 70 (ax_nd 68 (ax_lf 68 (ao_il 2 1)) (ax_nd 69 (ax_lf 69 (ao_il 3 1)) (ax_lf 70 (ao_inv g 1 10 1 yX10_sightOf cX10_sightOf 3 (some .int) 3 0 0 0 0)))) (ax_nd 73 (ax_lf 73 (ao_goto 79)) (ax_nd 76 (ax_lf 76 (ao_ic (-1000000) 3)) (ax_lf 79 (ao_iret 0 0)))))))
theorem oX10_sight (g : ax_G) : ∀ pc, ax_ok g cX10_sight 5 (some .int) RX10 "sight" 4 0 0 pc (tX10_sight g pc) := ax_nd_ok (ax_nd_ok (ax_nd_ok (ax_nd_ok (ax_nd_ok (ax_lf_ok (ak_aload_n rfl dX10_sight_0)) (ax_lf_ok (ak_iconst (by decide) dX10_sight_1))) (ax_nd_ok (ax_lf_ok (ak_pi fF_X10_88 fW_X10_88_a dX10_sight_2)) (ax_nd_ok (ax_lf_ok (ak_aload_n rfl dX10_sight_5)) (ax_lf_ok (ak_iload_n rfl dX10_sight_6))))) (ax_nd_ok (ax_nd_ok (ax_lf_ok (ak_invV (by decide) (by decide) (by decide) rfl wd_1618 wd_1620 wd_83 wd_106 wd_1621 ⟨by decide, by decide, by decide +kernel⟩ dX10_sight_7)) (ax_nd_ok (ax_lf_ok (ak_if_ne (by decide) dX10_sight_10)) (ax_lf_ok (ak_ldcw wd_1407 dX10_sight_13)))) (ax_nd_ok (ax_lf_ok (ak_iret rfl dX10_sight_16)) (ax_nd_ok (ax_lf_ok (ak_aload_n rfl dX10_sight_17)) (ax_lf_ok (ak_gr fF_X10_38 dX10_sight_18)))))) (ax_nd_ok (ax_nd_ok (ax_nd_ok (ax_lf_ok (ak_bipush (by decide) dX10_sight_21)) (ax_lf_ok (ak_iload_n rfl dX10_sight_23))) (ax_nd_ok (ax_lf_ok (ak_imul dX10_sight_24)) (ax_nd_ok (ax_lf_ok (ak_iald dX10_sight_25)) (ax_lf_ok (ak_istore (by decide) dX10_sight_26))))) (ax_nd_ok (ax_nd_ok (ax_lf_ok (ak_iload_n rfl dX10_sight_28)) (ax_nd_ok (ax_lf_ok (ak_iconst (by decide) dX10_sight_29)) (ax_lf_ok (ak_icmp_ne (by decide) dX10_sight_30)))) (ax_nd_ok (ax_lf_ok (ak_iload_n rfl dX10_sight_33)) (ax_nd_ok (ax_lf_ok (ak_if_ne (by decide) dX10_sight_34)) (ax_lf_ok (ak_iload dX10_sight_37))))))) (ax_nd_ok (ax_nd_ok (ax_nd_ok (ax_nd_ok (ax_lf_ok (ak_goto (by decide) dX10_sight_39)) (ax_lf_ok (ak_ldcw wd_1407 dX10_sight_42))) (ax_nd_ok (ax_lf_ok (ak_iret rfl dX10_sight_45)) (ax_nd_ok (ax_lf_ok (ak_iload_n rfl dX10_sight_46)) (ax_lf_ok (ak_iconst (by decide) dX10_sight_47))))) (ax_nd_ok (ax_nd_ok (ax_lf_ok (ak_iload dX10_sight_48)) (ax_nd_ok (ax_lf_ok (ak_iconst (by decide) dX10_sight_50)) (ax_lf_ok (ak_isub dX10_sight_51)))) (ax_nd_ok (ax_lf_ok (ak_invS (by decide) (by decide) wd_1244 wd_1245 wd_106 wd_1246 ⟨by decide, by decide, by decide +kernel⟩ dX10_sight_52)) (ax_nd_ok (ax_lf_ok (ak_if_eq (by decide) dX10_sight_55)) (ax_lf_ok (ak_iload_n rfl dX10_sight_58)))))) (ax_nd_ok (ax_nd_ok (ax_nd_ok (ax_lf_ok (ak_iconst (by decide) dX10_sight_59)) (ax_lf_ok (ak_iconst (by decide) dX10_sight_60))) (ax_nd_ok (ax_lf_ok (ak_invS (by decide) (by decide) wd_1244 wd_1245 wd_106 wd_1246 ⟨by decide, by decide, by decide +kernel⟩ dX10_sight_61)) (ax_nd_ok (ax_lf_ok (ak_if_eq (by decide) dX10_sight_64)) (ax_lf_ok (ak_aload_n rfl dX10_sight_67))))) (ax_nd_ok (ax_nd_ok (ax_lf_ok (ak_iload_n rfl dX10_sight_68)) (ax_nd_ok (ax_lf_ok (ak_iload_n rfl dX10_sight_69)) (ax_lf_ok (ak_invV (by decide) (by decide) (by decide) rfl wd_1622 wd_1624 wd_84 wd_106 wd_1625 ⟨by decide, by decide, by decide +kernel⟩ dX10_sight_70)))) (ax_nd_ok (ax_lf_ok (ak_goto (by decide) dX10_sight_73)) (ax_nd_ok (ax_lf_ok (ak_ldcw wd_1407 dX10_sight_76)) (ax_lf_ok (ak_iret rfl dX10_sight_79)))))))
abbrev mX10_sight (g : ax_G) (as : List Value) (h : ax_H) (Ret : Option Value → ax_H → Prop) : Prop := ax_M g 4 0 0 yX10_sight cX10_sight 5 (some .int) as h Ret
theorem dX10_isAsSeen_0 : decode cX10_isAsSeen 0 = .ok (.iconst 0, 1) := by decide +kernel
theorem dX10_isAsSeen_1 : decode cX10_isAsSeen 1 = .ok (.istore_n 2, 1) := by decide +kernel
theorem dX10_isAsSeen_2 : decode cX10_isAsSeen 2 = .ok (.iload_n 2, 1) := by decide +kernel
theorem dX10_isAsSeen_3 : decode cX10_isAsSeen 3 = .ok (.aload_n 0, 1) := by decide +kernel
theorem dX10_isAsSeen_4 : decode cX10_isAsSeen 4 = .ok (.getfield 38, 3) := by decide +kernel
theorem dX10_isAsSeen_7 : decode cX10_isAsSeen 7 = .ok (.bipush 19, 2) := by decide +kernel
theorem dX10_isAsSeen_9 : decode cX10_isAsSeen 9 = .ok (.aload_n 0, 1) := by decide +kernel
theorem dX10_isAsSeen_10 : decode cX10_isAsSeen 10 = .ok (.getfield 440, 3) := by decide +kernel
theorem dX10_isAsSeen_13 : decode cX10_isAsSeen 13 = .ok (.imul, 1) := by decide +kernel
theorem dX10_isAsSeen_14 : decode cX10_isAsSeen 14 = .ok (.iaload, 1) := by decide +kernel
theorem dX10_isAsSeen_15 : decode cX10_isAsSeen 15 = .ok (.if_icmp .ge 54, 3) := by decide +kernel
theorem dX10_isAsSeen_18 : decode cX10_isAsSeen 18 = .ok (.aload_n 0, 1) := by decide +kernel
theorem dX10_isAsSeen_19 : decode cX10_isAsSeen 19 = .ok (.iload_n 2, 1) := by decide +kernel
theorem dX10_isAsSeen_20 : decode cX10_isAsSeen 20 = .ok (.iconst 0, 1) := by decide +kernel
theorem dX10_isAsSeen_21 : decode cX10_isAsSeen 21 = .ok (.invokevirtual 446, 3) := by decide +kernel
theorem dX10_isAsSeen_24 : decode cX10_isAsSeen 24 = .ok (.iload_n 1, 1) := by decide +kernel
theorem dX10_isAsSeen_25 : decode cX10_isAsSeen 25 = .ok (.if_icmp .ne 38, 3) := by decide +kernel
theorem dX10_isAsSeen_28 : decode cX10_isAsSeen 28 = .ok (.aload_n 0, 1) := by decide +kernel
theorem dX10_isAsSeen_29 : decode cX10_isAsSeen 29 = .ok (.aload_n 0, 1) := by decide +kernel
theorem dX10_isAsSeen_30 : decode cX10_isAsSeen 30 = .ok (.iload_n 2, 1) := by decide +kernel
theorem dX10_isAsSeen_31 : decode cX10_isAsSeen 31 = .ok (.iconst 1, 1) := by decide +kernel
theorem dX10_isAsSeen_32 : decode cX10_isAsSeen 32 = .ok (.invokevirtual 446, 3) := by decide +kernel
theorem dX10_isAsSeen_35 : decode cX10_isAsSeen 35 = .ok (.invokevirtual 291, 3) := by decide +kernel
theorem dX10_isAsSeen_38 : decode cX10_isAsSeen 38 = .ok (.ifCond .eq 23, 3) := by decide +kernel
theorem dX10_isAsSeen_41 : decode cX10_isAsSeen 41 = .ok (.aload_n 0, 1) := by decide +kernel
theorem dX10_isAsSeen_42 : decode cX10_isAsSeen 42 = .ok (.getfield 47, 3) := by decide +kernel
theorem dX10_isAsSeen_45 : decode cX10_isAsSeen 45 = .ok (.aload_n 0, 1) := by decide +kernel
theorem dX10_isAsSeen_46 : decode cX10_isAsSeen 46 = .ok (.iload_n 2, 1) := by decide +kernel
theorem dX10_isAsSeen_47 : decode cX10_isAsSeen 47 = .ok (.iconst 1, 1) := by decide +kernel
theorem dX10_isAsSeen_48 : decode cX10_isAsSeen 48 = .ok (.invokevirtual 446, 3) := by decide +kernel
theorem dX10_isAsSeen_51 : decode cX10_isAsSeen 51 = .ok (.iaload, 1) := by decide +kernel
theorem dX10_isAsSeen_52 : decode cX10_isAsSeen 52 = .ok (.aload_n 0, 1) := by decide +kernel
theorem dX10_isAsSeen_53 : decode cX10_isAsSeen 53 = .ok (.iload_n 2, 1) := by decide +kernel
theorem dX10_isAsSeen_54 : decode cX10_isAsSeen 54 = .ok (.iconst 2, 1) := by decide +kernel
theorem dX10_isAsSeen_55 : decode cX10_isAsSeen 55 = .ok (.invokevirtual 446, 3) := by decide +kernel
theorem dX10_isAsSeen_58 : decode cX10_isAsSeen 58 = .ok (.if_icmp .eq 5, 3) := by decide +kernel
theorem dX10_isAsSeen_61 : decode cX10_isAsSeen 61 = .ok (.iconst 0, 1) := by decide +kernel
theorem dX10_isAsSeen_62 : decode cX10_isAsSeen 62 = .ok (.ireturn, 1) := by decide +kernel
theorem dX10_isAsSeen_63 : decode cX10_isAsSeen 63 = .ok (.iinc 2 1, 3) := by decide +kernel
theorem dX10_isAsSeen_66 : decode cX10_isAsSeen 66 = .ok (.goto (-64), 3) := by decide +kernel
theorem dX10_isAsSeen_69 : decode cX10_isAsSeen 69 = .ok (.iconst 1, 1) := by decide +kernel
theorem dX10_isAsSeen_70 : decode cX10_isAsSeen 70 = .ok (.ireturn, 1) := by decide +kernel
def tX10_isAsSeen (g : ax_G) : Nat → ax_O := ax_nd 31 (ax_nd 14 (ax_nd 4 (ax_nd 1 (ax_nd 0 (ax_lf 0 (ao_ic (0) 1)) (ax_lf 1 (ao_is 2 1))) (ax_nd 2 (ax_lf 2 (ao_il 2 1)) (ax_nd 3 (ax_lf 3 (ao_al 0 1)) (ax_lf 4 (ao_gr 10 10))))) (ax_nd 9 (ax_nd 7 (ax_lf 7 (ao_ic (19) 2)) (ax_lf 9 (ao_al 0 1))) (ax_nd 10 (ax_lf 10 (ao_gi 10 49)) (ax_nd 13 (ax_lf 13 ao_imul) (ax_lf 14 ao_iald))))) (ax_nd 21 (ax_nd 18 (ax_nd 15 (ax_lf 15 (ao_icmp_ge 69)) (ax_lf 18 (ao_al 0 1))) (ax_nd 19 (ax_lf 19 (ao_il 2 1)) (ax_nd 20 (ax_lf 20 (ao_ic (0) 1)) (ax_lf 21 (ao_inv g 1 10 1 yX10_sightOf cX10_sightOf 3 (some .int) 3 0 0 0 0))))) (ax_nd 28 (ax_nd 24 (ax_lf 24 (ao_il 1 1)) (ax_nd 25 (ax_lf 25 (ao_icmp_ne 63)) (ax_lf 28 (ao_al 0 1)))) (ax_nd 29 (ax_lf 29 (ao_al 0 1)) (ax_nd 30 (ax_lf 30 (ao_il 2 1)) (ax_lf 31 (ao_ic (1) 1))))))) (ax_nd 51 (ax_nd 42 (ax_nd 35 (ax_nd 32 (ax_lf 32 (ao_inv g 1 10 1 yX10_sightOf cX10_sightOf 3 (some .int) 3 0 0 0 0)) (ax_lf 35 (ao_inv g 2 10 1 yX10_isOne cX10_isOne 2 (some .boolean) 2 0 0 0 0))) (ax_nd 38 (ax_lf 38 (ao_if_eq 61)) (ax_nd 41 (ax_lf 41 (ao_al 0 1)) (ax_lf 42 (ao_gr 10 28))))) (ax_nd 46 (ax_nd 45 (ax_lf 45 (ao_al 0 1)) (ax_lf 46 (ao_il 2 1))) (ax_nd 47 (ax_lf 47 (ao_ic (1) 1)) (ax_nd 48 (ax_lf 48 (ao_inv g 1 10 1 yX10_sightOf cX10_sightOf 3 (some .int) 3 0 0 0 0)) (ax_lf 51 ao_iald))))) (ax_nd 58 (ax_nd 53 (ax_nd 52 (ax_lf 52 (ao_al 0 1)) (ax_lf 53 (ao_il 2 1))) (ax_nd 54 (ax_lf 54 (ao_ic (2) 1)) (ax_nd 55 (ax_lf 55 (ao_inv g 1 10 1 yX10_sightOf cX10_sightOf 3 (some .int) 3 0 0 0 0)) (ax_lf 58 (ao_icmp_eq 63))))) (ax_nd 63 (ax_nd 61 (ax_lf 61 (ao_ic (0) 1)) (ax_nd 62 (ax_lf 62 (ao_zret 0 0)) (ax_lf 63 (ao_iinc 2 (1))))) (ax_nd 66 (ax_lf 66 (ao_goto 2)) (ax_nd 69 (ax_lf 69 (ao_ic (1) 1)) (ax_lf 70 (ao_zret 0 0)))))))
theorem oX10_isAsSeen (g : ax_G) : ∀ pc, ax_ok g cX10_isAsSeen 3 (some .boolean) RX10 "isAsSeen" 3 0 0 pc (tX10_isAsSeen g pc) := ax_nd_ok (ax_nd_ok (ax_nd_ok (ax_nd_ok (ax_nd_ok (ax_lf_ok (ak_iconst (by decide) dX10_isAsSeen_0)) (ax_lf_ok (ak_istore_n rfl (by decide) dX10_isAsSeen_1))) (ax_nd_ok (ax_lf_ok (ak_iload_n rfl dX10_isAsSeen_2)) (ax_nd_ok (ax_lf_ok (ak_aload_n rfl dX10_isAsSeen_3)) (ax_lf_ok (ak_gr fF_X10_38 dX10_isAsSeen_4))))) (ax_nd_ok (ax_nd_ok (ax_lf_ok (ak_bipush (by decide) dX10_isAsSeen_7)) (ax_lf_ok (ak_aload_n rfl dX10_isAsSeen_9))) (ax_nd_ok (ax_lf_ok (ak_gi fF_X10_440 dX10_isAsSeen_10)) (ax_nd_ok (ax_lf_ok (ak_imul dX10_isAsSeen_13)) (ax_lf_ok (ak_iald dX10_isAsSeen_14)))))) (ax_nd_ok (ax_nd_ok (ax_nd_ok (ax_lf_ok (ak_icmp_ge (by decide) dX10_isAsSeen_15)) (ax_lf_ok (ak_aload_n rfl dX10_isAsSeen_18))) (ax_nd_ok (ax_lf_ok (ak_iload_n rfl dX10_isAsSeen_19)) (ax_nd_ok (ax_lf_ok (ak_iconst (by decide) dX10_isAsSeen_20)) (ax_lf_ok (ak_invV (by decide) (by decide) (by decide) rfl wd_1622 wd_1624 wd_84 wd_106 wd_1625 ⟨by decide, by decide, by decide +kernel⟩ dX10_isAsSeen_21))))) (ax_nd_ok (ax_nd_ok (ax_lf_ok (ak_iload_n rfl dX10_isAsSeen_24)) (ax_nd_ok (ax_lf_ok (ak_icmp_ne (by decide) dX10_isAsSeen_25)) (ax_lf_ok (ak_aload_n rfl dX10_isAsSeen_28)))) (ax_nd_ok (ax_lf_ok (ak_aload_n rfl dX10_isAsSeen_29)) (ax_nd_ok (ax_lf_ok (ak_iload_n rfl dX10_isAsSeen_30)) (ax_lf_ok (ak_iconst (by decide) dX10_isAsSeen_31))))))) (ax_nd_ok (ax_nd_ok (ax_nd_ok (ax_nd_ok (ax_lf_ok (ak_invV (by decide) (by decide) (by decide) rfl wd_1622 wd_1624 wd_84 wd_106 wd_1625 ⟨by decide, by decide, by decide +kernel⟩ dX10_isAsSeen_32)) (ax_lf_ok (ak_invV (by decide) (by decide) (by decide) rfl wd_1395 wd_1397 wd_52 wd_106 wd_1398 ⟨by decide, by decide, by decide +kernel⟩ dX10_isAsSeen_35))) (ax_nd_ok (ax_lf_ok (ak_if_eq (by decide) dX10_isAsSeen_38)) (ax_nd_ok (ax_lf_ok (ak_aload_n rfl dX10_isAsSeen_41)) (ax_lf_ok (ak_gr fF_X10_47 dX10_isAsSeen_42))))) (ax_nd_ok (ax_nd_ok (ax_lf_ok (ak_aload_n rfl dX10_isAsSeen_45)) (ax_lf_ok (ak_iload_n rfl dX10_isAsSeen_46))) (ax_nd_ok (ax_lf_ok (ak_iconst (by decide) dX10_isAsSeen_47)) (ax_nd_ok (ax_lf_ok (ak_invV (by decide) (by decide) (by decide) rfl wd_1622 wd_1624 wd_84 wd_106 wd_1625 ⟨by decide, by decide, by decide +kernel⟩ dX10_isAsSeen_48)) (ax_lf_ok (ak_iald dX10_isAsSeen_51)))))) (ax_nd_ok (ax_nd_ok (ax_nd_ok (ax_lf_ok (ak_aload_n rfl dX10_isAsSeen_52)) (ax_lf_ok (ak_iload_n rfl dX10_isAsSeen_53))) (ax_nd_ok (ax_lf_ok (ak_iconst (by decide) dX10_isAsSeen_54)) (ax_nd_ok (ax_lf_ok (ak_invV (by decide) (by decide) (by decide) rfl wd_1622 wd_1624 wd_84 wd_106 wd_1625 ⟨by decide, by decide, by decide +kernel⟩ dX10_isAsSeen_55)) (ax_lf_ok (ak_icmp_eq (by decide) dX10_isAsSeen_58))))) (ax_nd_ok (ax_nd_ok (ax_lf_ok (ak_iconst (by decide) dX10_isAsSeen_61)) (ax_nd_ok (ax_lf_ok (ak_zret rfl dX10_isAsSeen_62)) (ax_lf_ok (ak_iinc (by decide) (by decide) dX10_isAsSeen_63)))) (ax_nd_ok (ax_lf_ok (ak_goto (by decide) dX10_isAsSeen_66)) (ax_nd_ok (ax_lf_ok (ak_iconst (by decide) dX10_isAsSeen_69)) (ax_lf_ok (ak_zret rfl dX10_isAsSeen_70)))))))
abbrev mX10_isAsSeen (g : ax_G) (as : List Value) (h : ax_H) (Ret : Option Value → ax_H → Prop) : Prop := ax_M g 3 0 0 yX10_isAsSeen cX10_isAsSeen 3 (some .boolean) as h Ret
end
