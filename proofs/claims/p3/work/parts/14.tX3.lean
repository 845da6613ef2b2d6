section
theorem dX3_init_0 : decode cX3_init 0 = .ok (.aload_n 0, 1) := by decide +kernel
theorem dX3_init_1 : decode cX3_init 1 = .ok (.invokespecial 3, 3) := by decide +kernel
theorem dX3_init_4 : decode cX3_init 4 = .ok (.aload_n 0, 1) := by decide +kernel
theorem dX3_init_5 : decode cX3_init 5 = .ok (.bipush 12, 2) := by decide +kernel
theorem dX3_init_7 : decode cX3_init 7 = .ok (.newarray .int, 2) := by decide +kernel
theorem dX3_init_9 : decode cX3_init 9 = .ok (.putfield 9, 3) := by decide +kernel
theorem dX3_init_12 : decode cX3_init 12 = .ok (.aload_n 0, 1) := by decide +kernel
theorem dX3_init_13 : decode cX3_init 13 = .ok (.iconst 1, 1) := by decide +kernel
theorem dX3_init_14 : decode cX3_init 14 = .ok (.putfield 15, 3) := by decide +kernel
theorem dX3_init_17 : decode cX3_init 17 = .ok (.aload_n 0, 1) := by decide +kernel
theorem dX3_init_18 : decode cX3_init 18 = .ok (.iconst 1, 1) := by decide +kernel
theorem dX3_init_19 : decode cX3_init 19 = .ok (.putfield 19, 3) := by decide +kernel
theorem dX3_init_22 : decode cX3_init 22 = .ok (.return_, 1) := by decide +kernel
def tX3_init (g : ax_G) : Nat → ax_O := ax_nd 9 (ax_nd 4 (ax_nd 0 (ax_lf 0 (ao_al 0 1)) (ax_nd 1 (ax_lf 1 ao_obj) (ax_lf 4 (ao_al 0 1)))) (ax_nd 5 (ax_lf 5 (ao_ic (12) 2)) (ax_nd 7 (ax_lf 7 (ao_newa 11 4 1 12)) (ax_lf 9 (ao_pr 3 0))))) (ax_nd 14 (ax_nd 12 (ax_lf 12 (ao_al 0 1)) (ax_nd 13 (ax_lf 13 (ao_ic (1) 1)) (ax_lf 14 (ao_pi 3 1)))) (ax_nd 18 (ax_nd 17 (ax_lf 17 (ao_al 0 1)) (ax_lf 18 (ao_ic (1) 1))) (ax_nd 19 (ax_lf 19 (ao_pi 3 2)) (ax_lf 22 (ao_vreta 1 12)))))
theorem oX3_init (g : ax_G) : ∀ pc, ax_ok g cX3_init 1 none RX3 "<init>" 1 1 12 pc (tX3_init g pc) := ax_nd_ok (ax_nd_ok (ax_nd_ok (ax_lf_ok (ak_aload_n rfl dX3_init_0)) (ax_nd_ok (ax_lf_ok (ak_obj (by decide) wd_319 wd_119 wd_120 dX3_init_1)) (ax_lf_ok (ak_aload_n rfl dX3_init_4)))) (ax_nd_ok (ax_lf_ok (ak_bipush (by decide) dX3_init_5)) (ax_nd_ok (ax_lf_ok (ak_newa (atype := .int) (ty := .int) (by decide) (by decide) rfl rfl (fun _ h => by cases h) (t0 := 0) rfl (fun _ _ => rfl) wd_179 dX3_init_7)) (ax_lf_ok (ak_pr fF_X3_9 rfl fW_X3_9_i dX3_init_9))))) (ax_nd_ok (ax_nd_ok (ax_lf_ok (ak_aload_n rfl dX3_init_12)) (ax_nd_ok (ax_lf_ok (ak_iconst (by decide) dX3_init_13)) (ax_lf_ok (ak_pi fF_X3_15 fW_X3_15_a dX3_init_14)))) (ax_nd_ok (ax_nd_ok (ax_lf_ok (ak_aload_n rfl dX3_init_17)) (ax_lf_ok (ak_iconst (by decide) dX3_init_18))) (ax_nd_ok (ax_lf_ok (ak_pi fF_X3_19 fW_X3_19_a dX3_init_19)) (ax_lf_ok (ak_vreta (ak_vret rfl dX3_init_22))))))
abbrev mX3_init (g : ax_G) (as : List Value) (h : ax_H) (Ret : Option Value → ax_H → Prop) : Prop := ax_M g 1 1 12 yX3_init cX3_init 1 none as h Ret
theorem dX3_weigh_0 : decode cX3_weigh 0 = .ok (.aload_n 0, 1) := by decide +kernel
theorem dX3_weigh_1 : decode cX3_weigh 1 = .ok (.aload_n 1, 1) := by decide +kernel
theorem dX3_weigh_2 : decode cX3_weigh 2 = .ok (.getfield 22, 3) := by decide +kernel
theorem dX3_weigh_5 : decode cX3_weigh 5 = .ok (.putfield 15, 3) := by decide +kernel
theorem dX3_weigh_8 : decode cX3_weigh 8 = .ok (.aload_n 0, 1) := by decide +kernel
theorem dX3_weigh_9 : decode cX3_weigh 9 = .ok (.iconst 0, 1) := by decide +kernel
theorem dX3_weigh_10 : decode cX3_weigh 10 = .ok (.putfield 19, 3) := by decide +kernel
theorem dX3_weigh_13 : decode cX3_weigh 13 = .ok (.iconst 0, 1) := by decide +kernel
theorem dX3_weigh_14 : decode cX3_weigh 14 = .ok (.istore_n 3, 1) := by decide +kernel
theorem dX3_weigh_15 : decode cX3_weigh 15 = .ok (.iload_n 3, 1) := by decide +kernel
theorem dX3_weigh_16 : decode cX3_weigh 16 = .ok (.aload_n 0, 1) := by decide +kernel
theorem dX3_weigh_17 : decode cX3_weigh 17 = .ok (.getfield 15, 3) := by decide +kernel
theorem dX3_weigh_20 : decode cX3_weigh 20 = .ok (.if_icmp .ge 36, 3) := by decide +kernel
theorem dX3_weigh_23 : decode cX3_weigh 23 = .ok (.aload_n 0, 1) := by decide +kernel
theorem dX3_weigh_24 : decode cX3_weigh 24 = .ok (.getfield 9, 3) := by decide +kernel
theorem dX3_weigh_27 : decode cX3_weigh 27 = .ok (.iload_n 3, 1) := by decide +kernel
theorem dX3_weigh_28 : decode cX3_weigh 28 = .ok (.aload_n 1, 1) := by decide +kernel
theorem dX3_weigh_29 : decode cX3_weigh 29 = .ok (.iload_n 2, 1) := by decide +kernel
theorem dX3_weigh_30 : decode cX3_weigh 30 = .ok (.iload_n 3, 1) := by decide +kernel
theorem dX3_weigh_31 : decode cX3_weigh 31 = .ok (.invokevirtual 25, 3) := by decide +kernel
theorem dX3_weigh_34 : decode cX3_weigh 34 = .ok (.iastore, 1) := by decide +kernel
theorem dX3_weigh_35 : decode cX3_weigh 35 = .ok (.aload_n 0, 1) := by decide +kernel
theorem dX3_weigh_36 : decode cX3_weigh 36 = .ok (.dup, 1) := by decide +kernel
theorem dX3_weigh_37 : decode cX3_weigh 37 = .ok (.getfield 19, 3) := by decide +kernel
theorem dX3_weigh_40 : decode cX3_weigh 40 = .ok (.aload_n 0, 1) := by decide +kernel
theorem dX3_weigh_41 : decode cX3_weigh 41 = .ok (.getfield 9, 3) := by decide +kernel
theorem dX3_weigh_44 : decode cX3_weigh 44 = .ok (.iload_n 3, 1) := by decide +kernel
theorem dX3_weigh_45 : decode cX3_weigh 45 = .ok (.iaload, 1) := by decide +kernel
theorem dX3_weigh_46 : decode cX3_weigh 46 = .ok (.iadd, 1) := by decide +kernel
theorem dX3_weigh_47 : decode cX3_weigh 47 = .ok (.putfield 19, 3) := by decide +kernel
theorem dX3_weigh_50 : decode cX3_weigh 50 = .ok (.iinc 3 1, 3) := by decide +kernel
theorem dX3_weigh_53 : decode cX3_weigh 53 = .ok (.goto (-38), 3) := by decide +kernel
theorem dX3_weigh_56 : decode cX3_weigh 56 = .ok (.aload_n 0, 1) := by decide +kernel
theorem dX3_weigh_57 : decode cX3_weigh 57 = .ok (.getfield 19, 3) := by decide +kernel
theorem dX3_weigh_60 : decode cX3_weigh 60 = .ok (.ifCond .ne 34, 3) := by decide +kernel
theorem dX3_weigh_63 : decode cX3_weigh 63 = .ok (.iconst 0, 1) := by decide +kernel
theorem dX3_weigh_64 : decode cX3_weigh 64 = .ok (.istore_n 3, 1) := by decide +kernel
theorem dX3_weigh_65 : decode cX3_weigh 65 = .ok (.iload_n 3, 1) := by decide +kernel
theorem dX3_weigh_66 : decode cX3_weigh 66 = .ok (.aload_n 0, 1) := by decide +kernel
theorem dX3_weigh_67 : decode cX3_weigh 67 = .ok (.getfield 15, 3) := by decide +kernel
theorem dX3_weigh_70 : decode cX3_weigh 70 = .ok (.if_icmp .ge 16, 3) := by decide +kernel
theorem dX3_weigh_73 : decode cX3_weigh 73 = .ok (.aload_n 0, 1) := by decide +kernel
theorem dX3_weigh_74 : decode cX3_weigh 74 = .ok (.getfield 9, 3) := by decide +kernel
theorem dX3_weigh_77 : decode cX3_weigh 77 = .ok (.iload_n 3, 1) := by decide +kernel
theorem dX3_weigh_78 : decode cX3_weigh 78 = .ok (.iconst 1, 1) := by decide +kernel
theorem dX3_weigh_79 : decode cX3_weigh 79 = .ok (.iastore, 1) := by decide +kernel
theorem dX3_weigh_80 : decode cX3_weigh 80 = .ok (.iinc 3 1, 3) := by decide +kernel
theorem dX3_weigh_83 : decode cX3_weigh 83 = .ok (.goto (-18), 3) := by decide +kernel
theorem dX3_weigh_86 : decode cX3_weigh 86 = .ok (.aload_n 0, 1) := by decide +kernel
theorem dX3_weigh_87 : decode cX3_weigh 87 = .ok (.aload_n 0, 1) := by decide +kernel
theorem dX3_weigh_88 : decode cX3_weigh 88 = .ok (.getfield 15, 3) := by decide +kernel
theorem dX3_weigh_91 : decode cX3_weigh 91 = .ok (.putfield 19, 3) := by decide +kernel
theorem dX3_weigh_94 : decode cX3_weigh 94 = .ok (.return_, 1) := by decide +kernel
def tX3_weigh (g : ax_G) : Nat → ax_O := ax_nd 41 (ax_nd 20 (ax_nd 9 (ax_nd 2 (ax_nd 0 (ax_lf 0 (ao_al 0 1)) (ax_nd 1 (ax_lf 1 (ao_al 1 1)) (ax_lf 2 (ao_gi 6 5)))) (ax_nd 5 (ax_lf 5 (ao_pi 3 1)) (ax_nd 8 (ax_lf 8 (ao_al 0 1)) (ax_lf 9 (ao_ic (0) 1))))) (ax_nd 14 (ax_nd 10 (ax_lf 10 (ao_pi 3 2)) (ax_nd 13 (ax_lf 13 (ao_ic (0) 1)) (ax_lf 14 (ao_is 3 1)))) (ax_nd 16 (ax_nd 15 (ax_lf 15 (ao_il 3 1)) (ax_lf 16 (ao_al 0 1))) (ax_nd 17 (ax_lf 17 (ao_gi 3 1)) (ax_lf 20 (ao_icmp_ge 56)))))) (ax_nd 30 (ax_nd 27 (ax_nd 23 (ax_lf 23 (ao_al 0 1)) (ax_nd 24 (ax_lf 24 (ao_gr 3 0)) (ax_lf 27 (ao_il 3 1)))) (ax_nd 28 (ax_lf 28 (ao_al 1 1)) (ax_nd 29 (ax_lf 29 (ao_il 2 1)) (ax_lf 30 (ao_il 3 1))))) (ax_nd 35 (ax_nd 31 (ax_lf 31 (ao_inv g 2 6 1 yX6_lotAt cX6_lotAt 3 (some .int) 3 0 0 0 0)) (ax_nd 34 (ax_lf 34 ao_iast) (ax_lf 35 (ao_al 0 1)))) (ax_nd 37 (ax_nd 36 (ax_lf 36 ao_dup) (ax_lf 37 (ao_gi 3 2))) (ax_nd 40 (ax_lf 40 (ao_al 0 1)) (ax_lf 41 (ao_gr 3 0))))))) (ax_nd 66 (ax_nd 53 (ax_nd 46 (ax_nd 44 (ax_lf 44 (ao_il 3 1)) (ax_nd 45 (ax_lf 45 ao_iald) (ax_lf 46 ao_iadd))) (ax_nd 47 (ax_lf 47 (ao_pi 3 2)) (ax_nd 50 (ax_lf 50 (ao_iinc 3 (1))) (ax_lf 53 (ao_goto 15))))) (ax_nd 60 (ax_nd 56 (ax_lf 56 (ao_al 0 1)) (ax_nd 57 (ax_lf 57 (ao_gi 3 2)) (ax_lf 60 (ao_if_ne 94)))) (ax_nd 64 (ax_nd 63 (ax_lf 63 (ao_ic (0) 1)) (ax_lf 64 (ao_is 3 1))) (ax_nd 65 (ax_lf 65 (ao_il 3 1)) (ax_lf 66 (ao_al 0 1)))))) (ax_nd 79 (ax_nd 73 (ax_nd 67 (ax_lf 67 (ao_gi 3 1)) (ax_nd 70 (ax_lf 70 (ao_icmp_ge 86)) (ax_lf 73 (ao_al 0 1)))) (ax_nd 77 (ax_nd 74 (ax_lf 74 (ao_gr 3 0)) (ax_lf 77 (ao_il 3 1))) (ax_nd 78 (ax_lf 78 (ao_ic (1) 1)) (ax_lf 79 ao_iast)))) (ax_nd 86 (ax_nd 80 (ax_lf 80 (ao_iinc 3 (1))) (ax_nd 83 (ax_lf 83 (ao_goto 65)) (ax_lf 86 (ao_al 0 1)))) (ax_nd 88 (ax_nd 87 (ax_lf 87 (ao_al 0 1)) (ax_lf 88 (ao_gi 3 1))) (ax_nd 91 (ax_lf 91 (ao_pi 3 2)) (ax_lf 94 (ao_vret 0 0)))))))
theorem oX3_weigh (g : ax_G) : ∀ pc, ax_ok g cX3_weigh 4 none RX3 "weigh" 3 0 0 pc (tX3_weigh g pc) := ax_nd_ok (ax_nd_ok (ax_nd_ok (ax_nd_ok (ax_nd_ok (ax_lf_ok (ak_aload_n rfl dX3_weigh_0)) (ax_nd_ok (ax_lf_ok (ak_aload_n rfl dX3_weigh_1)) (ax_lf_ok (ak_gi fF_X3_22 dX3_weigh_2)))) (ax_nd_ok (ax_lf_ok (ak_pi fF_X3_15 fW_X3_15_a dX3_weigh_5)) (ax_nd_ok (ax_lf_ok (ak_aload_n rfl dX3_weigh_8)) (ax_lf_ok (ak_iconst (by decide) dX3_weigh_9))))) (ax_nd_ok (ax_nd_ok (ax_lf_ok (ak_pi fF_X3_19 fW_X3_19_a dX3_weigh_10)) (ax_nd_ok (ax_lf_ok (ak_iconst (by decide) dX3_weigh_13)) (ax_lf_ok (ak_istore_n rfl (by decide) dX3_weigh_14)))) (ax_nd_ok (ax_nd_ok (ax_lf_ok (ak_iload_n rfl dX3_weigh_15)) (ax_lf_ok (ak_aload_n rfl dX3_weigh_16))) (ax_nd_ok (ax_lf_ok (ak_gi fF_X3_15 dX3_weigh_17)) (ax_lf_ok (ak_icmp_ge (by decide) dX3_weigh_20)))))) (ax_nd_ok (ax_nd_ok (ax_nd_ok (ax_lf_ok (ak_aload_n rfl dX3_weigh_23)) (ax_nd_ok (ax_lf_ok (ak_gr fF_X3_9 dX3_weigh_24)) (ax_lf_ok (ak_iload_n rfl dX3_weigh_27)))) (ax_nd_ok (ax_lf_ok (ak_aload_n rfl dX3_weigh_28)) (ax_nd_ok (ax_lf_ok (ak_iload_n rfl dX3_weigh_29)) (ax_lf_ok (ak_iload_n rfl dX3_weigh_30))))) (ax_nd_ok (ax_nd_ok (ax_lf_ok (ak_invV (by decide) (by decide) (by decide) rfl wd_698 wd_699 wd_700 wd_98 wd_701 ⟨by decide, by decide, by decide +kernel⟩ dX3_weigh_31)) (ax_nd_ok (ax_lf_ok (ak_iast dX3_weigh_34)) (ax_lf_ok (ak_aload_n rfl dX3_weigh_35)))) (ax_nd_ok (ax_nd_ok (ax_lf_ok (ak_dup dX3_weigh_36)) (ax_lf_ok (ak_gi fF_X3_19 dX3_weigh_37))) (ax_nd_ok (ax_lf_ok (ak_aload_n rfl dX3_weigh_40)) (ax_lf_ok (ak_gr fF_X3_9 dX3_weigh_41))))))) (ax_nd_ok (ax_nd_ok (ax_nd_ok (ax_nd_ok (ax_lf_ok (ak_iload_n rfl dX3_weigh_44)) (ax_nd_ok (ax_lf_ok (ak_iald dX3_weigh_45)) (ax_lf_ok (ak_iadd dX3_weigh_46)))) (ax_nd_ok (ax_lf_ok (ak_pi fF_X3_19 fW_X3_19_a dX3_weigh_47)) (ax_nd_ok (ax_lf_ok (ak_iinc (by decide) (by decide) dX3_weigh_50)) (ax_lf_ok (ak_goto (by decide) dX3_weigh_53))))) (ax_nd_ok (ax_nd_ok (ax_lf_ok (ak_aload_n rfl dX3_weigh_56)) (ax_nd_ok (ax_lf_ok (ak_gi fF_X3_19 dX3_weigh_57)) (ax_lf_ok (ak_if_ne (by decide) dX3_weigh_60)))) (ax_nd_ok (ax_nd_ok (ax_lf_ok (ak_iconst (by decide) dX3_weigh_63)) (ax_lf_ok (ak_istore_n rfl (by decide) dX3_weigh_64))) (ax_nd_ok (ax_lf_ok (ak_iload_n rfl dX3_weigh_65)) (ax_lf_ok (ak_aload_n rfl dX3_weigh_66)))))) (ax_nd_ok (ax_nd_ok (ax_nd_ok (ax_lf_ok (ak_gi fF_X3_15 dX3_weigh_67)) (ax_nd_ok (ax_lf_ok (ak_icmp_ge (by decide) dX3_weigh_70)) (ax_lf_ok (ak_aload_n rfl dX3_weigh_73)))) (ax_nd_ok (ax_nd_ok (ax_lf_ok (ak_gr fF_X3_9 dX3_weigh_74)) (ax_lf_ok (ak_iload_n rfl dX3_weigh_77))) (ax_nd_ok (ax_lf_ok (ak_iconst (by decide) dX3_weigh_78)) (ax_lf_ok (ak_iast dX3_weigh_79))))) (ax_nd_ok (ax_nd_ok (ax_lf_ok (ak_iinc (by decide) (by decide) dX3_weigh_80)) (ax_nd_ok (ax_lf_ok (ak_goto (by decide) dX3_weigh_83)) (ax_lf_ok (ak_aload_n rfl dX3_weigh_86)))) (ax_nd_ok (ax_nd_ok (ax_lf_ok (ak_aload_n rfl dX3_weigh_87)) (ax_lf_ok (ak_gi fF_X3_15 dX3_weigh_88))) (ax_nd_ok (ax_lf_ok (ak_pi fF_X3_19 fW_X3_19_a dX3_weigh_91)) (ax_lf_ok (ak_vret rfl dX3_weigh_94)))))))
abbrev mX3_weigh (g : ax_G) (as : List Value) (h : ax_H) (Ret : Option Value → ax_H → Prop) : Prop := ax_M g 3 0 0 yX3_weigh cX3_weigh 4 none as h Ret
theorem dX3_know_0 : decode cX3_know 0 = .ok (.aload_n 0, 1) := by decide +kernel
theorem dX3_know_1 : decode cX3_know 1 = .ok (.iload_n 1, 1) := by decide +kernel
theorem dX3_know_2 : decode cX3_know 2 = .ok (.putfield 15, 3) := by decide +kernel
theorem dX3_know_5 : decode cX3_know 5 = .ok (.aload_n 0, 1) := by decide +kernel
theorem dX3_know_6 : decode cX3_know 6 = .ok (.iconst 1, 1) := by decide +kernel
theorem dX3_know_7 : decode cX3_know 7 = .ok (.putfield 19, 3) := by decide +kernel
theorem dX3_know_10 : decode cX3_know 10 = .ok (.iconst 0, 1) := by decide +kernel
theorem dX3_know_11 : decode cX3_know 11 = .ok (.istore_n 3, 1) := by decide +kernel
theorem dX3_know_12 : decode cX3_know 12 = .ok (.iload_n 3, 1) := by decide +kernel
theorem dX3_know_13 : decode cX3_know 13 = .ok (.aload_n 0, 1) := by decide +kernel
theorem dX3_know_14 : decode cX3_know 14 = .ok (.getfield 15, 3) := by decide +kernel
theorem dX3_know_17 : decode cX3_know 17 = .ok (.if_icmp .ge 25, 3) := by decide +kernel
theorem dX3_know_20 : decode cX3_know 20 = .ok (.aload_n 0, 1) := by decide +kernel
theorem dX3_know_21 : decode cX3_know 21 = .ok (.getfield 9, 3) := by decide +kernel
theorem dX3_know_24 : decode cX3_know 24 = .ok (.iload_n 3, 1) := by decide +kernel
theorem dX3_know_25 : decode cX3_know 25 = .ok (.iload_n 3, 1) := by decide +kernel
theorem dX3_know_26 : decode cX3_know 26 = .ok (.iload_n 2, 1) := by decide +kernel
theorem dX3_know_27 : decode cX3_know 27 = .ok (.if_icmp .ne 7, 3) := by decide +kernel
theorem dX3_know_30 : decode cX3_know 30 = .ok (.iconst 1, 1) := by decide +kernel
theorem dX3_know_31 : decode cX3_know 31 = .ok (.goto 4, 3) := by decide +kernel
theorem dX3_know_34 : decode cX3_know 34 = .ok (.iconst 0, 1) := by decide +kernel
theorem dX3_know_35 : decode cX3_know 35 = .ok (.iastore, 1) := by decide +kernel
theorem dX3_know_36 : decode cX3_know 36 = .ok (.iinc 3 1, 3) := by decide +kernel
theorem dX3_know_39 : decode cX3_know 39 = .ok (.goto (-27), 3) := by decide +kernel
theorem dX3_know_42 : decode cX3_know 42 = .ok (.return_, 1) := by decide +kernel
def tX3_know (g : ax_G) : Nat → ax_O := ax_nd 17 (ax_nd 7 (ax_nd 2 (ax_nd 0 (ax_lf 0 (ao_al 0 1)) (ax_nd 1 (ax_lf 1 (ao_il 1 1)) (ax_lf 2 (ao_pi 3 1)))) (ax_nd 5 (ax_lf 5 (ao_al 0 1)) (ax_nd 6 (ax_lf 6 (ao_ic (1) 1)) (ax_lf 7 (ao_pi 3 2))))) (ax_nd 12 (ax_nd 10 (ax_lf 10 (ao_ic (0) 1)) (ax_nd 11 (ax_lf 11 (ao_is 3 1)) (ax_lf 12 (ao_il 3 1)))) (ax_nd 13 (ax_lf 13 (ao_al 0 1)) (ax_nd 14 (ax_lf 14 (ao_gi 3 1)) (ax_lf 17 (ao_icmp_ge 42)))))) (ax_nd 27 (ax_nd 24 (ax_nd 20 (ax_lf 20 (ao_al 0 1)) (ax_nd 21 (ax_lf 21 (ao_gr 3 0)) (ax_lf 24 (ao_il 3 1)))) (ax_nd 25 (ax_lf 25 (ao_il 3 1)) (ax_nd 26 (ax_lf 26 (ao_il 2 1)) (ax_lf 27 (ao_icmp_ne 34))))) (ax_nd 34 (ax_nd 30 (ax_lf 30 (ao_ic (1) 1)) (ax_nd 31 (ax_lf 31 (ao_goto 35)) (ax_lf 34 (ao_ic (0) 1)))) (ax_nd 36 (ax_nd 35 (ax_lf 35 ao_iast) (ax_lf 36 (ao_iinc 3 (1)))) (ax_nd 39 (ax_lf 39 (ao_goto 12)) (ax_lf 42 (ao_vret 0 0))))))
theorem oX3_know (g : ax_G) : ∀ pc, ax_ok g cX3_know 4 none RX3 "know" 1 0 0 pc (tX3_know g pc) := ax_nd_ok (ax_nd_ok (ax_nd_ok (ax_nd_ok (ax_lf_ok (ak_aload_n rfl dX3_know_0)) (ax_nd_ok (ax_lf_ok (ak_iload_n rfl dX3_know_1)) (ax_lf_ok (ak_pi fF_X3_15 fW_X3_15_a dX3_know_2)))) (ax_nd_ok (ax_lf_ok (ak_aload_n rfl dX3_know_5)) (ax_nd_ok (ax_lf_ok (ak_iconst (by decide) dX3_know_6)) (ax_lf_ok (ak_pi fF_X3_19 fW_X3_19_a dX3_know_7))))) (ax_nd_ok (ax_nd_ok (ax_lf_ok (ak_iconst (by decide) dX3_know_10)) (ax_nd_ok (ax_lf_ok (ak_istore_n rfl (by decide) dX3_know_11)) (ax_lf_ok (ak_iload_n rfl dX3_know_12)))) (ax_nd_ok (ax_lf_ok (ak_aload_n rfl dX3_know_13)) (ax_nd_ok (ax_lf_ok (ak_gi fF_X3_15 dX3_know_14)) (ax_lf_ok (ak_icmp_ge (by decide) dX3_know_17)))))) (ax_nd_ok (ax_nd_ok (ax_nd_ok (ax_lf_ok (ak_aload_n rfl dX3_know_20)) (ax_nd_ok (ax_lf_ok (ak_gr fF_X3_9 dX3_know_21)) (ax_lf_ok (ak_iload_n rfl dX3_know_24)))) (ax_nd_ok (ax_lf_ok (ak_iload_n rfl dX3_know_25)) (ax_nd_ok (ax_lf_ok (ak_iload_n rfl dX3_know_26)) (ax_lf_ok (ak_icmp_ne (by decide) dX3_know_27))))) (ax_nd_ok (ax_nd_ok (ax_lf_ok (ak_iconst (by decide) dX3_know_30)) (ax_nd_ok (ax_lf_ok (ak_goto (by decide) dX3_know_31)) (ax_lf_ok (ak_iconst (by decide) dX3_know_34)))) (ax_nd_ok (ax_nd_ok (ax_lf_ok (ak_iast dX3_know_35)) (ax_lf_ok (ak_iinc (by decide) (by decide) dX3_know_36))) (ax_nd_ok (ax_lf_ok (ak_goto (by decide) dX3_know_39)) (ax_lf_ok (ak_vret rfl dX3_know_42))))))
abbrev mX3_know (g : ax_G) (as : List Value) (h : ax_H) (Ret : Option Value → ax_H → Prop) : Prop := ax_M g 1 0 0 yX3_know cX3_know 4 none as h Ret
theorem dX3_hourOf_0 : decode cX3_hourOf 0 = .ok (.aload_n 0, 1) := by decide +kernel
theorem dX3_hourOf_1 : decode cX3_hourOf 1 = .ok (.getfield 19, 3) := by decide +kernel
theorem dX3_hourOf_4 : decode cX3_hourOf 4 = .ok (.ifCond .ne 7, 3) := by decide +kernel
theorem dX3_hourOf_7 : decode cX3_hourOf 7 = .ok (.iconst 0, 1) := by decide +kernel
theorem dX3_hourOf_8 : decode cX3_hourOf 8 = .ok (.goto 9, 3) := by decide +kernel
theorem dX3_hourOf_11 : decode cX3_hourOf 11 = .ok (.iload_n 1, 1) := by decide +kernel
theorem dX3_hourOf_12 : decode cX3_hourOf 12 = .ok (.aload_n 0, 1) := by decide +kernel
theorem dX3_hourOf_13 : decode cX3_hourOf 13 = .ok (.getfield 19, 3) := by decide +kernel
theorem dX3_hourOf_16 : decode cX3_hourOf 16 = .ok (.irem, 1) := by decide +kernel
theorem dX3_hourOf_17 : decode cX3_hourOf 17 = .ok (.istore_n 2, 1) := by decide +kernel
theorem dX3_hourOf_18 : decode cX3_hourOf 18 = .ok (.iconst 0, 1) := by decide +kernel
theorem dX3_hourOf_19 : decode cX3_hourOf 19 = .ok (.istore_n 3, 1) := by decide +kernel
theorem dX3_hourOf_20 : decode cX3_hourOf 20 = .ok (.iload_n 3, 1) := by decide +kernel
theorem dX3_hourOf_21 : decode cX3_hourOf 21 = .ok (.aload_n 0, 1) := by decide +kernel
theorem dX3_hourOf_22 : decode cX3_hourOf 22 = .ok (.getfield 15, 3) := by decide +kernel
theorem dX3_hourOf_25 : decode cX3_hourOf 25 = .ok (.iconst 1, 1) := by decide +kernel
theorem dX3_hourOf_26 : decode cX3_hourOf 26 = .ok (.isub, 1) := by decide +kernel
theorem dX3_hourOf_27 : decode cX3_hourOf 27 = .ok (.if_icmp .ge 28, 3) := by decide +kernel
theorem dX3_hourOf_30 : decode cX3_hourOf 30 = .ok (.iload_n 2, 1) := by decide +kernel
theorem dX3_hourOf_31 : decode cX3_hourOf 31 = .ok (.aload_n 0, 1) := by decide +kernel
theorem dX3_hourOf_32 : decode cX3_hourOf 32 = .ok (.getfield 9, 3) := by decide +kernel
theorem dX3_hourOf_35 : decode cX3_hourOf 35 = .ok (.iload_n 3, 1) := by decide +kernel
theorem dX3_hourOf_36 : decode cX3_hourOf 36 = .ok (.iaload, 1) := by decide +kernel
theorem dX3_hourOf_37 : decode cX3_hourOf 37 = .ok (.if_icmp .lt 18, 3) := by decide +kernel
theorem dX3_hourOf_40 : decode cX3_hourOf 40 = .ok (.iload_n 2, 1) := by decide +kernel
theorem dX3_hourOf_41 : decode cX3_hourOf 41 = .ok (.aload_n 0, 1) := by decide +kernel
theorem dX3_hourOf_42 : decode cX3_hourOf 42 = .ok (.getfield 9, 3) := by decide +kernel
theorem dX3_hourOf_45 : decode cX3_hourOf 45 = .ok (.iload_n 3, 1) := by decide +kernel
theorem dX3_hourOf_46 : decode cX3_hourOf 46 = .ok (.iaload, 1) := by decide +kernel
theorem dX3_hourOf_47 : decode cX3_hourOf 47 = .ok (.isub, 1) := by decide +kernel
theorem dX3_hourOf_48 : decode cX3_hourOf 48 = .ok (.istore_n 2, 1) := by decide +kernel
theorem dX3_hourOf_49 : decode cX3_hourOf 49 = .ok (.iinc 3 1, 3) := by decide +kernel
theorem dX3_hourOf_52 : decode cX3_hourOf 52 = .ok (.goto (-32), 3) := by decide +kernel
theorem dX3_hourOf_55 : decode cX3_hourOf 55 = .ok (.iload_n 3, 1) := by decide +kernel
theorem dX3_hourOf_56 : decode cX3_hourOf 56 = .ok (.ireturn, 1) := by decide +kernel
def tX3_hourOf (g : ax_G) : Nat → ax_O := ax_nd 26 (ax_nd 13 (ax_nd 7 (ax_nd 1 (ax_nd 0 (ax_lf 0 (ao_al 0 1)) (ax_lf 1 (ao_gi 3 2))) (ax_nd 4 (ax_lf 4 (ao_if_ne 11)) (ax_lf 7 (ao_ic (0) 1)))) (ax_nd 11 (ax_nd 8 (ax_lf 8 (ao_goto 17)) (ax_lf 11 (ao_il 1 1))) (ax_nd 12 (ax_lf 12 (ao_al 0 1)) (ax_lf 13 (ao_gi 3 2))))) (ax_nd 19 (ax_nd 17 (ax_nd 16 (ax_lf 16 ao_irem) (ax_lf 17 (ao_is 2 1))) (ax_nd 18 (ax_lf 18 (ao_ic (0) 1)) (ax_lf 19 (ao_is 3 1)))) (ax_nd 21 (ax_nd 20 (ax_lf 20 (ao_il 3 1)) (ax_lf 21 (ao_al 0 1))) (ax_nd 22 (ax_lf 22 (ao_gi 3 1)) (ax_nd 25 (ax_lf 25 (ao_ic (1) 1)) (ax_lf 26 ao_isub)))))) (ax_nd 41 (ax_nd 32 (ax_nd 30 (ax_nd 27 (ax_lf 27 (ao_icmp_ge 55)) (ax_lf 30 (ao_il 2 1))) (ax_nd 31 (ax_lf 31 (ao_al 0 1)) (ax_lf 32 (ao_gr 3 0)))) (ax_nd 36 (ax_nd 35 (ax_lf 35 (ao_il 3 1)) (ax_lf 36 ao_iald)) (ax_nd 37 (ax_lf 37 (ao_icmp_lt 55)) (ax_nd 40 (ax_lf 40 (ao_il 2 1)) (ax_lf 41 (ao_al 0 1)))))) (ax_nd 47 (ax_nd 45 (ax_nd 42 (ax_lf 42 (ao_gr 3 0)) (ax_lf 45 (ao_il 3 1))) (ax_nd 46 (ax_lf 46 ao_iald) (ax_lf 47 ao_isub))) (ax_nd 49 (ax_nd 48 (ax_lf 48 (ao_is 2 1)) (ax_lf 49 (ao_iinc 3 (1)))) (ax_nd 52 (ax_lf 52 (ao_goto 20)) (ax_nd 55 (ax_lf 55 (ao_il 3 1)) (ax_lf 56 (ao_iret 0 0)))))))
theorem oX3_hourOf (g : ax_G) : ∀ pc, ax_ok g cX3_hourOf 4 (some .int) RX3 "hourOf" 1 0 0 pc (tX3_hourOf g pc) := ax_nd_ok (ax_nd_ok (ax_nd_ok (ax_nd_ok (ax_nd_ok (ax_lf_ok (ak_aload_n rfl dX3_hourOf_0)) (ax_lf_ok (ak_gi fF_X3_19 dX3_hourOf_1))) (ax_nd_ok (ax_lf_ok (ak_if_ne (by decide) dX3_hourOf_4)) (ax_lf_ok (ak_iconst (by decide) dX3_hourOf_7)))) (ax_nd_ok (ax_nd_ok (ax_lf_ok (ak_goto (by decide) dX3_hourOf_8)) (ax_lf_ok (ak_iload_n rfl dX3_hourOf_11))) (ax_nd_ok (ax_lf_ok (ak_aload_n rfl dX3_hourOf_12)) (ax_lf_ok (ak_gi fF_X3_19 dX3_hourOf_13))))) (ax_nd_ok (ax_nd_ok (ax_nd_ok (ax_lf_ok (ak_irem dX3_hourOf_16)) (ax_lf_ok (ak_istore_n rfl (by decide) dX3_hourOf_17))) (ax_nd_ok (ax_lf_ok (ak_iconst (by decide) dX3_hourOf_18)) (ax_lf_ok (ak_istore_n rfl (by decide) dX3_hourOf_19)))) (ax_nd_ok (ax_nd_ok (ax_lf_ok (ak_iload_n rfl dX3_hourOf_20)) (ax_lf_ok (ak_aload_n rfl dX3_hourOf_21))) (ax_nd_ok (ax_lf_ok (ak_gi fF_X3_15 dX3_hourOf_22)) (ax_nd_ok (ax_lf_ok (ak_iconst (by decide) dX3_hourOf_25)) (ax_lf_ok (ak_isub dX3_hourOf_26))))))) (ax_nd_ok (ax_nd_ok (ax_nd_ok (ax_nd_ok (ax_lf_ok (ak_icmp_ge (by decide) dX3_hourOf_27)) (ax_lf_ok (ak_iload_n rfl dX3_hourOf_30))) (ax_nd_ok (ax_lf_ok (ak_aload_n rfl dX3_hourOf_31)) (ax_lf_ok (ak_gr fF_X3_9 dX3_hourOf_32)))) (ax_nd_ok (ax_nd_ok (ax_lf_ok (ak_iload_n rfl dX3_hourOf_35)) (ax_lf_ok (ak_iald dX3_hourOf_36))) (ax_nd_ok (ax_lf_ok (ak_icmp_lt (by decide) dX3_hourOf_37)) (ax_nd_ok (ax_lf_ok (ak_iload_n rfl dX3_hourOf_40)) (ax_lf_ok (ak_aload_n rfl dX3_hourOf_41)))))) (ax_nd_ok (ax_nd_ok (ax_nd_ok (ax_lf_ok (ak_gr fF_X3_9 dX3_hourOf_42)) (ax_lf_ok (ak_iload_n rfl dX3_hourOf_45))) (ax_nd_ok (ax_lf_ok (ak_iald dX3_hourOf_46)) (ax_lf_ok (ak_isub dX3_hourOf_47)))) (ax_nd_ok (ax_nd_ok (ax_lf_ok (ak_istore_n rfl (by decide) dX3_hourOf_48)) (ax_lf_ok (ak_iinc (by decide) (by decide) dX3_hourOf_49))) (ax_nd_ok (ax_lf_ok (ak_goto (by decide) dX3_hourOf_52)) (ax_nd_ok (ax_lf_ok (ak_iload_n rfl dX3_hourOf_55)) (ax_lf_ok (ak_iret rfl dX3_hourOf_56)))))))
abbrev mX3_hourOf (g : ax_G) (as : List Value) (h : ax_H) (Ret : Option Value → ax_H → Prop) : Prop := ax_M g 1 0 0 yX3_hourOf cX3_hourOf 4 (some .int) as h Ret
end
