section
theorem dX0_init_0 : decode cX0_init 0 = .ok (.aload_n 0, 1) := by decide +kernel
theorem dX0_init_1 : decode cX0_init 1 = .ok (.invokespecial 3, 3) := by decide +kernel
theorem dX0_init_4 : decode cX0_init 4 = .ok (.aload_n 0, 1) := by decide +kernel
theorem dX0_init_5 : decode cX0_init 5 = .ok (.bipush 6, 2) := by decide +kernel
theorem dX0_init_7 : decode cX0_init 7 = .ok (.newarray .int, 2) := by decide +kernel
theorem dX0_init_9 : decode cX0_init 9 = .ok (.putfield 9, 3) := by decide +kernel
theorem dX0_init_12 : decode cX0_init 12 = .ok (.aload_n 0, 1) := by decide +kernel
theorem dX0_init_13 : decode cX0_init 13 = .ok (.bipush 72, 2) := by decide +kernel
theorem dX0_init_15 : decode cX0_init 15 = .ok (.newarray .int, 2) := by decide +kernel
theorem dX0_init_17 : decode cX0_init 17 = .ok (.putfield 15, 3) := by decide +kernel
theorem dX0_init_20 : decode cX0_init 20 = .ok (.aload_n 0, 1) := by decide +kernel
theorem dX0_init_21 : decode cX0_init 21 = .ok (.iconst 0, 1) := by decide +kernel
theorem dX0_init_22 : decode cX0_init 22 = .ok (.putfield 18, 3) := by decide +kernel
theorem dX0_init_25 : decode cX0_init 25 = .ok (.aload_n 0, 1) := by decide +kernel
theorem dX0_init_26 : decode cX0_init 26 = .ok (.iconst 0, 1) := by decide +kernel
theorem dX0_init_27 : decode cX0_init 27 = .ok (.putfield 22, 3) := by decide +kernel
theorem dX0_init_30 : decode cX0_init 30 = .ok (.return_, 1) := by decide +kernel
def tX0_init (g : ax_G) : Nat → ax_O := ax_nd 13 (ax_nd 5 (ax_nd 1 (ax_nd 0 (ax_lf 0 (ao_al 0 1)) (ax_lf 1 ao_obj)) (ax_nd 4 (ax_lf 4 (ao_al 0 1)) (ax_lf 5 (ao_ic (6) 2)))) (ax_nd 9 (ax_nd 7 (ax_lf 7 (ao_newa 11 4 2 78)) (ax_lf 9 (ao_pr 0 0))) (ax_nd 12 (ax_lf 12 (ao_al 0 1)) (ax_lf 13 (ao_ic (72) 2))))) (ax_nd 21 (ax_nd 17 (ax_nd 15 (ax_lf 15 (ao_newa 11 4 2 78)) (ax_lf 17 (ao_pr 0 1))) (ax_nd 20 (ax_lf 20 (ao_al 0 1)) (ax_lf 21 (ao_ic (0) 1)))) (ax_nd 25 (ax_nd 22 (ax_lf 22 (ao_pi 0 2)) (ax_lf 25 (ao_al 0 1))) (ax_nd 26 (ax_lf 26 (ao_ic (0) 1)) (ax_nd 27 (ax_lf 27 (ao_pi 0 3)) (ax_lf 30 (ao_vreta 2 78))))))
theorem oX0_init (g : ax_G) : ∀ pc, ax_ok g cX0_init 1 none RX0 "<init>" 1 2 78 pc (tX0_init g pc) := ax_nd_ok (ax_nd_ok (ax_nd_ok (ax_nd_ok (ax_lf_ok (ak_aload_n rfl dX0_init_0)) (ax_lf_ok (ak_obj (by decide) wd_298 wd_119 wd_120 dX0_init_1))) (ax_nd_ok (ax_lf_ok (ak_aload_n rfl dX0_init_4)) (ax_lf_ok (ak_bipush (by decide) dX0_init_5)))) (ax_nd_ok (ax_nd_ok (ax_lf_ok (ak_newa (atype := .int) (ty := .int) (by decide) (by decide) rfl rfl (fun _ h => by cases h) (t0 := 0) rfl (fun _ _ => rfl) wd_179 dX0_init_7)) (ax_lf_ok (ak_pr fF_X0_9 rfl fW_X0_9_i dX0_init_9))) (ax_nd_ok (ax_lf_ok (ak_aload_n rfl dX0_init_12)) (ax_lf_ok (ak_bipush (by decide) dX0_init_13))))) (ax_nd_ok (ax_nd_ok (ax_nd_ok (ax_lf_ok (ak_newa (atype := .int) (ty := .int) (by decide) (by decide) rfl rfl (fun _ h => by cases h) (t0 := 0) rfl (fun _ _ => rfl) wd_179 dX0_init_15)) (ax_lf_ok (ak_pr fF_X0_15 rfl fW_X0_15_i dX0_init_17))) (ax_nd_ok (ax_lf_ok (ak_aload_n rfl dX0_init_20)) (ax_lf_ok (ak_iconst (by decide) dX0_init_21)))) (ax_nd_ok (ax_nd_ok (ax_lf_ok (ak_pi fF_X0_18 fW_X0_18_a dX0_init_22)) (ax_lf_ok (ak_aload_n rfl dX0_init_25))) (ax_nd_ok (ax_lf_ok (ak_iconst (by decide) dX0_init_26)) (ax_nd_ok (ax_lf_ok (ak_pi fF_X0_22 fW_X0_22_a dX0_init_27)) (ax_lf_ok (ak_vreta (ak_vret rfl dX0_init_30)))))))
abbrev mX0_init (g : ax_G) (as : List Value) (h : ax_H) (Ret : Option Value → ax_H → Prop) : Prop := ax_M g 1 2 78 yX0_init cX0_init 1 none as h Ret
theorem dX0_begin_0 : decode cX0_begin 0 = .ok (.aload_n 0, 1) := by decide +kernel
theorem dX0_begin_1 : decode cX0_begin 1 = .ok (.aload_n 1, 1) := by decide +kernel
theorem dX0_begin_2 : decode cX0_begin 2 = .ok (.getfield 25, 3) := by decide +kernel
theorem dX0_begin_5 : decode cX0_begin 5 = .ok (.putfield 18, 3) := by decide +kernel
theorem dX0_begin_8 : decode cX0_begin 8 = .ok (.aload_n 0, 1) := by decide +kernel
theorem dX0_begin_9 : decode cX0_begin 9 = .ok (.aload_n 1, 1) := by decide +kernel
theorem dX0_begin_10 : decode cX0_begin 10 = .ok (.getfield 28, 3) := by decide +kernel
theorem dX0_begin_13 : decode cX0_begin 13 = .ok (.putfield 22, 3) := by decide +kernel
theorem dX0_begin_16 : decode cX0_begin 16 = .ok (.iconst 0, 1) := by decide +kernel
theorem dX0_begin_17 : decode cX0_begin 17 = .ok (.istore_n 2, 1) := by decide +kernel
theorem dX0_begin_18 : decode cX0_begin 18 = .ok (.iload_n 2, 1) := by decide +kernel
theorem dX0_begin_19 : decode cX0_begin 19 = .ok (.aload_n 0, 1) := by decide +kernel
theorem dX0_begin_20 : decode cX0_begin 20 = .ok (.getfield 18, 3) := by decide +kernel
theorem dX0_begin_23 : decode cX0_begin 23 = .ok (.if_icmp .ge 70, 3) := by decide +kernel
theorem dX0_begin_26 : decode cX0_begin 26 = .ok (.aload_n 0, 1) := by decide +kernel
theorem dX0_begin_27 : decode cX0_begin 27 = .ok (.getfield 9, 3) := by decide +kernel
theorem dX0_begin_30 : decode cX0_begin 30 = .ok (.iload_n 2, 1) := by decide +kernel
theorem dX0_begin_31 : decode cX0_begin 31 = .ok (.aload_n 1, 1) := by decide +kernel
theorem dX0_begin_32 : decode cX0_begin 32 = .ok (.getfield 29, 3) := by decide +kernel
theorem dX0_begin_35 : decode cX0_begin 35 = .ok (.iload_n 2, 1) := by decide +kernel
theorem dX0_begin_36 : decode cX0_begin 36 = .ok (.iaload, 1) := by decide +kernel
theorem dX0_begin_37 : decode cX0_begin 37 = .ok (.iastore, 1) := by decide +kernel
theorem dX0_begin_38 : decode cX0_begin 38 = .ok (.aload_n 1, 1) := by decide +kernel
theorem dX0_begin_39 : decode cX0_begin 39 = .ok (.iload_n 2, 1) := by decide +kernel
theorem dX0_begin_40 : decode cX0_begin 40 = .ok (.invokevirtual 32, 3) := by decide +kernel
theorem dX0_begin_43 : decode cX0_begin 43 = .ok (.istore_n 3, 1) := by decide +kernel
theorem dX0_begin_44 : decode cX0_begin 44 = .ok (.iconst 0, 1) := by decide +kernel
theorem dX0_begin_45 : decode cX0_begin 45 = .ok (.istore 4, 2) := by decide +kernel
theorem dX0_begin_47 : decode cX0_begin 47 = .ok (.iload 4, 2) := by decide +kernel
theorem dX0_begin_49 : decode cX0_begin 49 = .ok (.aload_n 0, 1) := by decide +kernel
theorem dX0_begin_50 : decode cX0_begin 50 = .ok (.getfield 22, 3) := by decide +kernel
theorem dX0_begin_53 : decode cX0_begin 53 = .ok (.if_icmp .ge 34, 3) := by decide +kernel
theorem dX0_begin_56 : decode cX0_begin 56 = .ok (.aload_n 0, 1) := by decide +kernel
theorem dX0_begin_57 : decode cX0_begin 57 = .ok (.getfield 15, 3) := by decide +kernel
theorem dX0_begin_60 : decode cX0_begin 60 = .ok (.iload_n 2, 1) := by decide +kernel
theorem dX0_begin_61 : decode cX0_begin 61 = .ok (.bipush 12, 2) := by decide +kernel
theorem dX0_begin_63 : decode cX0_begin 63 = .ok (.imul, 1) := by decide +kernel
theorem dX0_begin_64 : decode cX0_begin 64 = .ok (.iload 4, 2) := by decide +kernel
theorem dX0_begin_66 : decode cX0_begin 66 = .ok (.iadd, 1) := by decide +kernel
theorem dX0_begin_67 : decode cX0_begin 67 = .ok (.iload_n 3, 1) := by decide +kernel
theorem dX0_begin_68 : decode cX0_begin 68 = .ok (.aload_n 1, 1) := by decide +kernel
theorem dX0_begin_69 : decode cX0_begin 69 = .ok (.aload_n 1, 1) := by decide +kernel
theorem dX0_begin_70 : decode cX0_begin 70 = .ok (.iload_n 2, 1) := by decide +kernel
theorem dX0_begin_71 : decode cX0_begin 71 = .ok (.iload 4, 2) := by decide +kernel
theorem dX0_begin_73 : decode cX0_begin 73 = .ok (.invokevirtual 36, 3) := by decide +kernel
theorem dX0_begin_76 : decode cX0_begin 76 = .ok (.invokevirtual 40, 3) := by decide +kernel
theorem dX0_begin_79 : decode cX0_begin 79 = .ok (.iadd, 1) := by decide +kernel
theorem dX0_begin_80 : decode cX0_begin 80 = .ok (.iastore, 1) := by decide +kernel
theorem dX0_begin_81 : decode cX0_begin 81 = .ok (.iinc 4 1, 3) := by decide +kernel
theorem dX0_begin_84 : decode cX0_begin 84 = .ok (.goto (-37), 3) := by decide +kernel
theorem dX0_begin_87 : decode cX0_begin 87 = .ok (.iinc 2 1, 3) := by decide +kernel
theorem dX0_begin_90 : decode cX0_begin 90 = .ok (.goto (-72), 3) := by decide +kernel
theorem dX0_begin_93 : decode cX0_begin 93 = .ok (.return_, 1) := by decide +kernel
def tX0_begin (g : ax_G) : Nat → ax_O := ax_nd 43 (ax_nd 20 (ax_nd 9 (ax_nd 2 (ax_nd 0 (ax_lf 0 (ao_al 0 1)) (ax_nd 1 (ax_lf 1 (ao_al 1 1)) (ax_lf 2 (ao_gi 6 6)))) (ax_nd 5 (ax_lf 5 (ao_pi 0 2)) (ax_nd 8 (ax_lf 8 (ao_al 0 1)) (ax_lf 9 (ao_al 1 1))))) (ax_nd 16 (ax_nd 10 (ax_lf 10 (ao_gi 6 5)) (ax_nd 13 (ax_lf 13 (ao_pi 0 3)) (ax_lf 16 (ao_ic (0) 1)))) (ax_nd 18 (ax_nd 17 (ax_lf 17 (ao_is 2 1)) (ax_lf 18 (ao_il 2 1))) (ax_nd 19 (ax_lf 19 (ao_al 0 1)) (ax_lf 20 (ao_gi 0 2)))))) (ax_nd 32 (ax_nd 27 (ax_nd 23 (ax_lf 23 (ao_icmp_ge 93)) (ax_nd 26 (ax_lf 26 (ao_al 0 1)) (ax_lf 27 (ao_gr 0 0)))) (ax_nd 30 (ax_lf 30 (ao_il 2 1)) (ax_nd 31 (ax_lf 31 (ao_al 1 1)) (ax_lf 32 (ao_gr 6 2))))) (ax_nd 37 (ax_nd 35 (ax_lf 35 (ao_il 2 1)) (ax_nd 36 (ax_lf 36 ao_iald) (ax_lf 37 ao_iast))) (ax_nd 39 (ax_nd 38 (ax_lf 38 (ao_al 1 1)) (ax_lf 39 (ao_il 2 1))) (ax_nd 40 (ax_lf 40 (ao_inv g 3 6 1 yX6_worthOfDeeds cX6_worthOfDeeds 4 (some .int) 2 0 0 0 0)) (ax_lf 43 (ao_is 3 1))))))) (ax_nd 66 (ax_nd 53 (ax_nd 47 (ax_nd 44 (ax_lf 44 (ao_ic (0) 1)) (ax_nd 45 (ax_lf 45 (ao_is 4 2)) (ax_lf 47 (ao_il 4 2)))) (ax_nd 49 (ax_lf 49 (ao_al 0 1)) (ax_nd 50 (ax_lf 50 (ao_gi 0 3)) (ax_lf 53 (ao_icmp_ge 87))))) (ax_nd 60 (ax_nd 56 (ax_lf 56 (ao_al 0 1)) (ax_nd 57 (ax_lf 57 (ao_gr 0 1)) (ax_lf 60 (ao_il 2 1)))) (ax_nd 63 (ax_nd 61 (ax_lf 61 (ao_ic (12) 2)) (ax_lf 63 ao_imul)) (ax_nd 64 (ax_lf 64 (ao_il 4 2)) (ax_lf 66 ao_iadd))))) (ax_nd 76 (ax_nd 69 (ax_nd 67 (ax_lf 67 (ao_il 3 1)) (ax_nd 68 (ax_lf 68 (ao_al 1 1)) (ax_lf 69 (ao_al 1 1)))) (ax_nd 71 (ax_nd 70 (ax_lf 70 (ao_il 2 1)) (ax_lf 71 (ao_il 4 2))) (ax_nd 73 (ax_lf 73 (ao_inv g 2 6 1 yX6_deedAt cX6_deedAt 3 (some .int) 3 0 0 0 0)) (ax_lf 76 (ao_inv g 3 6 1 yX6_extraOf cX6_extraOf 2 (some .int) 2 0 0 0 0))))) (ax_nd 81 (ax_nd 79 (ax_lf 79 ao_iadd) (ax_nd 80 (ax_lf 80 ao_iast) (ax_lf 81 (ao_iinc 4 (1))))) (ax_nd 87 (ax_nd 84 (ax_lf 84 (ao_goto 47)) (ax_lf 87 (ao_iinc 2 (1)))) (ax_nd 90 (ax_lf 90 (ao_goto 18)) (ax_lf 93 (ao_vret 0 0)))))))
theorem oX0_begin (g : ax_G) : ∀ pc, ax_ok g cX0_begin 5 none RX0 "begin" 4 0 0 pc (tX0_begin g pc) := ax_nd_ok (ax_nd_ok (ax_nd_ok (ax_nd_ok (ax_nd_ok (ax_lf_ok (ak_aload_n rfl dX0_begin_0)) (ax_nd_ok (ax_lf_ok (ak_aload_n rfl dX0_begin_1)) (ax_lf_ok (ak_gi fF_X0_25 dX0_begin_2)))) (ax_nd_ok (ax_lf_ok (ak_pi fF_X0_18 fW_X0_18_a dX0_begin_5)) (ax_nd_ok (ax_lf_ok (ak_aload_n rfl dX0_begin_8)) (ax_lf_ok (ak_aload_n rfl dX0_begin_9))))) (ax_nd_ok (ax_nd_ok (ax_lf_ok (ak_gi fF_X0_28 dX0_begin_10)) (ax_nd_ok (ax_lf_ok (ak_pi fF_X0_22 fW_X0_22_a dX0_begin_13)) (ax_lf_ok (ak_iconst (by decide) dX0_begin_16)))) (ax_nd_ok (ax_nd_ok (ax_lf_ok (ak_istore_n rfl (by decide) dX0_begin_17)) (ax_lf_ok (ak_iload_n rfl dX0_begin_18))) (ax_nd_ok (ax_lf_ok (ak_aload_n rfl dX0_begin_19)) (ax_lf_ok (ak_gi fF_X0_18 dX0_begin_20)))))) (ax_nd_ok (ax_nd_ok (ax_nd_ok (ax_lf_ok (ak_icmp_ge (by decide) dX0_begin_23)) (ax_nd_ok (ax_lf_ok (ak_aload_n rfl dX0_begin_26)) (ax_lf_ok (ak_gr fF_X0_9 dX0_begin_27)))) (ax_nd_ok (ax_lf_ok (ak_iload_n rfl dX0_begin_30)) (ax_nd_ok (ax_lf_ok (ak_aload_n rfl dX0_begin_31)) (ax_lf_ok (ak_gr fF_X0_29 dX0_begin_32))))) (ax_nd_ok (ax_nd_ok (ax_lf_ok (ak_iload_n rfl dX0_begin_35)) (ax_nd_ok (ax_lf_ok (ak_iald dX0_begin_36)) (ax_lf_ok (ak_iast dX0_begin_37)))) (ax_nd_ok (ax_nd_ok (ax_lf_ok (ak_aload_n rfl dX0_begin_38)) (ax_lf_ok (ak_iload_n rfl dX0_begin_39))) (ax_nd_ok (ax_lf_ok (ak_invV (by decide) (by decide) (by decide) rfl wd_657 wd_658 wd_659 wd_98 wd_660 ⟨by decide, by decide, by decide +kernel⟩ dX0_begin_40)) (ax_lf_ok (ak_istore_n rfl (by decide) dX0_begin_43))))))) (ax_nd_ok (ax_nd_ok (ax_nd_ok (ax_nd_ok (ax_lf_ok (ak_iconst (by decide) dX0_begin_44)) (ax_nd_ok (ax_lf_ok (ak_istore (by decide) dX0_begin_45)) (ax_lf_ok (ak_iload dX0_begin_47)))) (ax_nd_ok (ax_lf_ok (ak_aload_n rfl dX0_begin_49)) (ax_nd_ok (ax_lf_ok (ak_gi fF_X0_22 dX0_begin_50)) (ax_lf_ok (ak_icmp_ge (by decide) dX0_begin_53))))) (ax_nd_ok (ax_nd_ok (ax_lf_ok (ak_aload_n rfl dX0_begin_56)) (ax_nd_ok (ax_lf_ok (ak_gr fF_X0_15 dX0_begin_57)) (ax_lf_ok (ak_iload_n rfl dX0_begin_60)))) (ax_nd_ok (ax_nd_ok (ax_lf_ok (ak_bipush (by decide) dX0_begin_61)) (ax_lf_ok (ak_imul dX0_begin_63))) (ax_nd_ok (ax_lf_ok (ak_iload dX0_begin_64)) (ax_lf_ok (ak_iadd dX0_begin_66)))))) (ax_nd_ok (ax_nd_ok (ax_nd_ok (ax_lf_ok (ak_iload_n rfl dX0_begin_67)) (ax_nd_ok (ax_lf_ok (ak_aload_n rfl dX0_begin_68)) (ax_lf_ok (ak_aload_n rfl dX0_begin_69)))) (ax_nd_ok (ax_nd_ok (ax_lf_ok (ak_iload_n rfl dX0_begin_70)) (ax_lf_ok (ak_iload dX0_begin_71))) (ax_nd_ok (ax_lf_ok (ak_invV (by decide) (by decide) (by decide) rfl wd_677 wd_662 wd_663 wd_98 wd_664 ⟨by decide, by decide, by decide +kernel⟩ dX0_begin_73)) (ax_lf_ok (ak_invV (by decide) (by decide) (by decide) rfl wd_678 wd_679 wd_680 wd_98 wd_681 ⟨by decide, by decide, by decide +kernel⟩ dX0_begin_76))))) (ax_nd_ok (ax_nd_ok (ax_lf_ok (ak_iadd dX0_begin_79)) (ax_nd_ok (ax_lf_ok (ak_iast dX0_begin_80)) (ax_lf_ok (ak_iinc (by decide) (by decide) dX0_begin_81)))) (ax_nd_ok (ax_nd_ok (ax_lf_ok (ak_goto (by decide) dX0_begin_84)) (ax_lf_ok (ak_iinc (by decide) (by decide) dX0_begin_87))) (ax_nd_ok (ax_lf_ok (ak_goto (by decide) dX0_begin_90)) (ax_lf_ok (ak_vret rfl dX0_begin_93)))))))
abbrev mX0_begin (g : ax_G) (as : List Value) (h : ax_H) (Ret : Option Value → ax_H → Prop) : Prop := ax_M g 4 0 0 yX0_begin cX0_begin 5 none as h Ret
theorem dX0_poorest_0 : decode cX0_poorest 0 = .ok (.aload_n 0, 1) := by decide +kernel
theorem dX0_poorest_1 : decode cX0_poorest 1 = .ok (.getfield 18, 3) := by decide +kernel
theorem dX0_poorest_4 : decode cX0_poorest 4 = .ok (.ifCond .ne 7, 3) := by decide +kernel
theorem dX0_poorest_7 : decode cX0_poorest 7 = .ok (.iconst (-1), 1) := by decide +kernel
theorem dX0_poorest_8 : decode cX0_poorest 8 = .ok (.goto 4, 3) := by decide +kernel
theorem dX0_poorest_11 : decode cX0_poorest 11 = .ok (.iconst 0, 1) := by decide +kernel
theorem dX0_poorest_12 : decode cX0_poorest 12 = .ok (.istore_n 1, 1) := by decide +kernel
theorem dX0_poorest_13 : decode cX0_poorest 13 = .ok (.iconst 1, 1) := by decide +kernel
theorem dX0_poorest_14 : decode cX0_poorest 14 = .ok (.istore_n 2, 1) := by decide +kernel
theorem dX0_poorest_15 : decode cX0_poorest 15 = .ok (.iload_n 2, 1) := by decide +kernel
theorem dX0_poorest_16 : decode cX0_poorest 16 = .ok (.aload_n 0, 1) := by decide +kernel
theorem dX0_poorest_17 : decode cX0_poorest 17 = .ok (.getfield 18, 3) := by decide +kernel
theorem dX0_poorest_20 : decode cX0_poorest 20 = .ok (.if_icmp .ge 30, 3) := by decide +kernel
theorem dX0_poorest_23 : decode cX0_poorest 23 = .ok (.aload_n 0, 1) := by decide +kernel
theorem dX0_poorest_24 : decode cX0_poorest 24 = .ok (.getfield 9, 3) := by decide +kernel
theorem dX0_poorest_27 : decode cX0_poorest 27 = .ok (.iload_n 2, 1) := by decide +kernel
theorem dX0_poorest_28 : decode cX0_poorest 28 = .ok (.iaload, 1) := by decide +kernel
theorem dX0_poorest_29 : decode cX0_poorest 29 = .ok (.aload_n 0, 1) := by decide +kernel
theorem dX0_poorest_30 : decode cX0_poorest 30 = .ok (.getfield 9, 3) := by decide +kernel
theorem dX0_poorest_33 : decode cX0_poorest 33 = .ok (.iload_n 1, 1) := by decide +kernel
theorem dX0_poorest_34 : decode cX0_poorest 34 = .ok (.iaload, 1) := by decide +kernel
theorem dX0_poorest_35 : decode cX0_poorest 35 = .ok (.if_icmp .ge 7, 3) := by decide +kernel
theorem dX0_poorest_38 : decode cX0_poorest 38 = .ok (.iload_n 2, 1) := by decide +kernel
theorem dX0_poorest_39 : decode cX0_poorest 39 = .ok (.goto 4, 3) := by decide +kernel
theorem dX0_poorest_42 : decode cX0_poorest 42 = .ok (.iload_n 1, 1) := by decide +kernel
theorem dX0_poorest_43 : decode cX0_poorest 43 = .ok (.istore_n 1, 1) := by decide +kernel
theorem dX0_poorest_44 : decode cX0_poorest 44 = .ok (.iinc 2 1, 3) := by decide +kernel
theorem dX0_poorest_47 : decode cX0_poorest 47 = .ok (.goto (-32), 3) := by decide +kernel
theorem dX0_poorest_50 : decode cX0_poorest 50 = .ok (.iload_n 1, 1) := by decide +kernel
theorem dX0_poorest_51 : decode cX0_poorest 51 = .ok (.ireturn, 1) := by decide +kernel
def tX0_poorest (g : ax_G) : Nat → ax_O := ax_nd 24 (ax_nd 12 (ax_nd 4 (ax_nd 0 (ax_lf 0 (ao_al 0 1)) (ax_nd 1 (ax_lf 1 (ao_gi 0 2)) (ax_lf 4 (ao_if_ne 11)))) (ax_nd 8 (ax_nd 7 (ax_lf 7 (ao_ic (-1) 1)) (ax_lf 8 (ao_goto 12))) (ax_nd 11 (ax_lf 11 (ao_ic (0) 1)) (ax_lf 12 (ao_is 1 1))))) (ax_nd 16 (ax_nd 14 (ax_nd 13 (ax_lf 13 (ao_ic (1) 1)) (ax_lf 14 (ao_is 2 1))) (ax_nd 15 (ax_lf 15 (ao_il 2 1)) (ax_lf 16 (ao_al 0 1)))) (ax_nd 20 (ax_nd 17 (ax_lf 17 (ao_gi 0 2)) (ax_lf 20 (ao_icmp_ge 50))) (ax_nd 23 (ax_lf 23 (ao_al 0 1)) (ax_lf 24 (ao_gr 0 0)))))) (ax_nd 35 (ax_nd 29 (ax_nd 27 (ax_lf 27 (ao_il 2 1)) (ax_nd 28 (ax_lf 28 ao_iald) (ax_lf 29 (ao_al 0 1)))) (ax_nd 33 (ax_nd 30 (ax_lf 30 (ao_gr 0 0)) (ax_lf 33 (ao_il 1 1))) (ax_nd 34 (ax_lf 34 ao_iald) (ax_lf 35 (ao_icmp_ge 42))))) (ax_nd 43 (ax_nd 39 (ax_nd 38 (ax_lf 38 (ao_il 2 1)) (ax_lf 39 (ao_goto 43))) (ax_nd 42 (ax_lf 42 (ao_il 1 1)) (ax_lf 43 (ao_is 1 1)))) (ax_nd 47 (ax_nd 44 (ax_lf 44 (ao_iinc 2 (1))) (ax_lf 47 (ao_goto 15))) (ax_nd 50 (ax_lf 50 (ao_il 1 1)) (ax_lf 51 (ao_iret 0 0))))))
theorem oX0_poorest (g : ax_G) : ∀ pc, ax_ok g cX0_poorest 3 (some .int) RX0 "poorest" 1 0 0 pc (tX0_poorest g pc) := ax_nd_ok (ax_nd_ok (ax_nd_ok (ax_nd_ok (ax_lf_ok (ak_aload_n rfl dX0_poorest_0)) (ax_nd_ok (ax_lf_ok (ak_gi fF_X0_18 dX0_poorest_1)) (ax_lf_ok (ak_if_ne (by decide) dX0_poorest_4)))) (ax_nd_ok (ax_nd_ok (ax_lf_ok (ak_iconst (by decide) dX0_poorest_7)) (ax_lf_ok (ak_goto (by decide) dX0_poorest_8))) (ax_nd_ok (ax_lf_ok (ak_iconst (by decide) dX0_poorest_11)) (ax_lf_ok (ak_istore_n rfl (by decide) dX0_poorest_12))))) (ax_nd_ok (ax_nd_ok (ax_nd_ok (ax_lf_ok (ak_iconst (by decide) dX0_poorest_13)) (ax_lf_ok (ak_istore_n rfl (by decide) dX0_poorest_14))) (ax_nd_ok (ax_lf_ok (ak_iload_n rfl dX0_poorest_15)) (ax_lf_ok (ak_aload_n rfl dX0_poorest_16)))) (ax_nd_ok (ax_nd_ok (ax_lf_ok (ak_gi fF_X0_18 dX0_poorest_17)) (ax_lf_ok (ak_icmp_ge (by decide) dX0_poorest_20))) (ax_nd_ok (ax_lf_ok (ak_aload_n rfl dX0_poorest_23)) (ax_lf_ok (ak_gr fF_X0_9 dX0_poorest_24)))))) (ax_nd_ok (ax_nd_ok (ax_nd_ok (ax_lf_ok (ak_iload_n rfl dX0_poorest_27)) (ax_nd_ok (ax_lf_ok (ak_iald dX0_poorest_28)) (ax_lf_ok (ak_aload_n rfl dX0_poorest_29)))) (ax_nd_ok (ax_nd_ok (ax_lf_ok (ak_gr fF_X0_9 dX0_poorest_30)) (ax_lf_ok (ak_iload_n rfl dX0_poorest_33))) (ax_nd_ok (ax_lf_ok (ak_iald dX0_poorest_34)) (ax_lf_ok (ak_icmp_ge (by decide) dX0_poorest_35))))) (ax_nd_ok (ax_nd_ok (ax_nd_ok (ax_lf_ok (ak_iload_n rfl dX0_poorest_38)) (ax_lf_ok (ak_goto (by decide) dX0_poorest_39))) (ax_nd_ok (ax_lf_ok (ak_iload_n rfl dX0_poorest_42)) (ax_lf_ok (ak_istore_n rfl (by decide) dX0_poorest_43)))) (ax_nd_ok (ax_nd_ok (ax_lf_ok (ak_iinc (by decide) (by decide) dX0_poorest_44)) (ax_lf_ok (ak_goto (by decide) dX0_poorest_47))) (ax_nd_ok (ax_lf_ok (ak_iload_n rfl dX0_poorest_50)) (ax_lf_ok (ak_iret rfl dX0_poorest_51))))))
abbrev mX0_poorest (g : ax_G) (as : List Value) (h : ax_H) (Ret : Option Value → ax_H → Prop) : Prop := ax_M g 1 0 0 yX0_poorest cX0_poorest 3 (some .int) as h Ret
theorem dX0_live_0 : decode cX0_live 0 = .ok (.iconst 0, 1) := by decide +kernel
theorem dX0_live_1 : decode cX0_live 1 = .ok (.istore_n 2, 1) := by decide +kernel
theorem dX0_live_2 : decode cX0_live 2 = .ok (.iload_n 2, 1) := by decide +kernel
theorem dX0_live_3 : decode cX0_live 3 = .ok (.aload_n 0, 1) := by decide +kernel
theorem dX0_live_4 : decode cX0_live 4 = .ok (.getfield 18, 3) := by decide +kernel
theorem dX0_live_7 : decode cX0_live 7 = .ok (.if_icmp .ge 24, 3) := by decide +kernel
theorem dX0_live_10 : decode cX0_live 10 = .ok (.aload_n 0, 1) := by decide +kernel
theorem dX0_live_11 : decode cX0_live 11 = .ok (.getfield 9, 3) := by decide +kernel
theorem dX0_live_14 : decode cX0_live 14 = .ok (.iload_n 2, 1) := by decide +kernel
theorem dX0_live_15 : decode cX0_live 15 = .ok (.dup2, 1) := by decide +kernel
theorem dX0_live_16 : decode cX0_live 16 = .ok (.iaload, 1) := by decide +kernel
theorem dX0_live_17 : decode cX0_live 17 = .ok (.aload_n 0, 1) := by decide +kernel
theorem dX0_live_18 : decode cX0_live 18 = .ok (.iload_n 2, 1) := by decide +kernel
theorem dX0_live_19 : decode cX0_live 19 = .ok (.iload_n 1, 1) := by decide +kernel
theorem dX0_live_20 : decode cX0_live 20 = .ok (.invokevirtual 43, 3) := by decide +kernel
theorem dX0_live_23 : decode cX0_live 23 = .ok (.iadd, 1) := by decide +kernel
theorem dX0_live_24 : decode cX0_live 24 = .ok (.iastore, 1) := by decide +kernel
theorem dX0_live_25 : decode cX0_live 25 = .ok (.iinc 2 1, 3) := by decide +kernel
theorem dX0_live_28 : decode cX0_live 28 = .ok (.goto (-26), 3) := by decide +kernel
theorem dX0_live_31 : decode cX0_live 31 = .ok (.return_, 1) := by decide +kernel
def tX0_live (g : ax_G) : Nat → ax_O := ax_nd 15 (ax_nd 4 (ax_nd 1 (ax_nd 0 (ax_lf 0 (ao_ic (0) 1)) (ax_lf 1 (ao_is 2 1))) (ax_nd 2 (ax_lf 2 (ao_il 2 1)) (ax_nd 3 (ax_lf 3 (ao_al 0 1)) (ax_lf 4 (ao_gi 0 2))))) (ax_nd 10 (ax_nd 7 (ax_lf 7 (ao_icmp_ge 31)) (ax_lf 10 (ao_al 0 1))) (ax_nd 11 (ax_lf 11 (ao_gr 0 0)) (ax_nd 14 (ax_lf 14 (ao_il 2 1)) (ax_lf 15 ao_dup2))))) (ax_nd 20 (ax_nd 17 (ax_nd 16 (ax_lf 16 ao_iald) (ax_lf 17 (ao_al 0 1))) (ax_nd 18 (ax_lf 18 (ao_il 2 1)) (ax_nd 19 (ax_lf 19 (ao_il 1 1)) (ax_lf 20 (ao_inv g 1 0 1 yX0_brings cX0_brings 5 (some .int) 3 0 0 0 0))))) (ax_nd 24 (ax_nd 23 (ax_lf 23 ao_iadd) (ax_lf 24 ao_iast)) (ax_nd 25 (ax_lf 25 (ao_iinc 2 (1))) (ax_nd 28 (ax_lf 28 (ao_goto 2)) (ax_lf 31 (ao_vret 0 0))))))
theorem oX0_live (g : ax_G) : ∀ pc, ax_ok g cX0_live 3 none RX0 "live" 2 0 0 pc (tX0_live g pc) := ax_nd_ok (ax_nd_ok (ax_nd_ok (ax_nd_ok (ax_lf_ok (ak_iconst (by decide) dX0_live_0)) (ax_lf_ok (ak_istore_n rfl (by decide) dX0_live_1))) (ax_nd_ok (ax_lf_ok (ak_iload_n rfl dX0_live_2)) (ax_nd_ok (ax_lf_ok (ak_aload_n rfl dX0_live_3)) (ax_lf_ok (ak_gi fF_X0_18 dX0_live_4))))) (ax_nd_ok (ax_nd_ok (ax_lf_ok (ak_icmp_ge (by decide) dX0_live_7)) (ax_lf_ok (ak_aload_n rfl dX0_live_10))) (ax_nd_ok (ax_lf_ok (ak_gr fF_X0_9 dX0_live_11)) (ax_nd_ok (ax_lf_ok (ak_iload_n rfl dX0_live_14)) (ax_lf_ok (ak_dup2 dX0_live_15)))))) (ax_nd_ok (ax_nd_ok (ax_nd_ok (ax_lf_ok (ak_iald dX0_live_16)) (ax_lf_ok (ak_aload_n rfl dX0_live_17))) (ax_nd_ok (ax_lf_ok (ak_iload_n rfl dX0_live_18)) (ax_nd_ok (ax_lf_ok (ak_iload_n rfl dX0_live_19)) (ax_lf_ok (ak_invV (by decide) (by decide) (by decide) rfl wd_769 wd_722 wd_723 wd_101 wd_724 ⟨by decide, by decide, by decide +kernel⟩ dX0_live_20))))) (ax_nd_ok (ax_nd_ok (ax_lf_ok (ak_iadd dX0_live_23)) (ax_lf_ok (ak_iast dX0_live_24))) (ax_nd_ok (ax_lf_ok (ak_iinc (by decide) (by decide) dX0_live_25)) (ax_nd_ok (ax_lf_ok (ak_goto (by decide) dX0_live_28)) (ax_lf_ok (ak_vret rfl dX0_live_31))))))
abbrev mX0_live (g : ax_G) (as : List Value) (h : ax_H) (Ret : Option Value → ax_H → Prop) : Prop := ax_M g 2 0 0 yX0_live cX0_live 3 none as h Ret
theorem dX0_unlive_0 : decode cX0_unlive 0 = .ok (.iconst 0, 1) := by decide +kernel
theorem dX0_unlive_1 : decode cX0_unlive 1 = .ok (.istore_n 2, 1) := by decide +kernel
theorem dX0_unlive_2 : decode cX0_unlive 2 = .ok (.iload_n 2, 1) := by decide +kernel
theorem dX0_unlive_3 : decode cX0_unlive 3 = .ok (.aload_n 0, 1) := by decide +kernel
theorem dX0_unlive_4 : decode cX0_unlive 4 = .ok (.getfield 18, 3) := by decide +kernel
theorem dX0_unlive_7 : decode cX0_unlive 7 = .ok (.if_icmp .ge 24, 3) := by decide +kernel
theorem dX0_unlive_10 : decode cX0_unlive 10 = .ok (.aload_n 0, 1) := by decide +kernel
theorem dX0_unlive_11 : decode cX0_unlive 11 = .ok (.getfield 9, 3) := by decide +kernel
theorem dX0_unlive_14 : decode cX0_unlive 14 = .ok (.iload_n 2, 1) := by decide +kernel
theorem dX0_unlive_15 : decode cX0_unlive 15 = .ok (.dup2, 1) := by decide +kernel
theorem dX0_unlive_16 : decode cX0_unlive 16 = .ok (.iaload, 1) := by decide +kernel
theorem dX0_unlive_17 : decode cX0_unlive 17 = .ok (.aload_n 0, 1) := by decide +kernel
theorem dX0_unlive_18 : decode cX0_unlive 18 = .ok (.iload_n 2, 1) := by decide +kernel
theorem dX0_unlive_19 : decode cX0_unlive 19 = .ok (.iload_n 1, 1) := by decide +kernel
theorem dX0_unlive_20 : decode cX0_unlive 20 = .ok (.invokevirtual 43, 3) := by decide +kernel
theorem dX0_unlive_23 : decode cX0_unlive 23 = .ok (.isub, 1) := by decide +kernel
theorem dX0_unlive_24 : decode cX0_unlive 24 = .ok (.iastore, 1) := by decide +kernel
theorem dX0_unlive_25 : decode cX0_unlive 25 = .ok (.iinc 2 1, 3) := by decide +kernel
theorem dX0_unlive_28 : decode cX0_unlive 28 = .ok (.goto (-26), 3) := by decide +kernel
theorem dX0_unlive_31 : decode cX0_unlive 31 = .ok (.return_, 1) := by decide +kernel
def tX0_unlive (g : ax_G) : Nat → ax_O := ax_nd 15 (ax_nd 4 (ax_nd 1 (ax_nd 0 (ax_lf 0 (ao_ic (0) 1)) (ax_lf 1 (ao_is 2 1))) (ax_nd 2 (ax_lf 2 (ao_il 2 1)) (ax_nd 3 (ax_lf 3 (ao_al 0 1)) (ax_lf 4 (ao_gi 0 2))))) (ax_nd 10 (ax_nd 7 (ax_lf 7 (ao_icmp_ge 31)) (ax_lf 10 (ao_al 0 1))) (ax_nd 11 (ax_lf 11 (ao_gr 0 0)) (ax_nd 14 (ax_lf 14 (ao_il 2 1)) (ax_lf 15 ao_dup2))))) (ax_nd 20 (ax_nd 17 (ax_nd 16 (ax_lf 16 ao_iald) (ax_lf 17 (ao_al 0 1))) (ax_nd 18 (ax_lf 18 (ao_il 2 1)) (ax_nd 19 (ax_lf 19 (ao_il 1 1)) (ax_lf 20 (ao_inv g 1 0 1 yX0_brings cX0_brings 5 (some .int) 3 0 0 0 0))))) (ax_nd 24 (ax_nd 23 (ax_lf 23 ao_isub) (ax_lf 24 ao_iast)) (ax_nd 25 (ax_lf 25 (ao_iinc 2 (1))) (ax_nd 28 (ax_lf 28 (ao_goto 2)) (ax_lf 31 (ao_vret 0 0))))))
theorem oX0_unlive (g : ax_G) : ∀ pc, ax_ok g cX0_unlive 3 none RX0 "unlive" 2 0 0 pc (tX0_unlive g pc) := ax_nd_ok (ax_nd_ok (ax_nd_ok (ax_nd_ok (ax_lf_ok (ak_iconst (by decide) dX0_unlive_0)) (ax_lf_ok (ak_istore_n rfl (by decide) dX0_unlive_1))) (ax_nd_ok (ax_lf_ok (ak_iload_n rfl dX0_unlive_2)) (ax_nd_ok (ax_lf_ok (ak_aload_n rfl dX0_unlive_3)) (ax_lf_ok (ak_gi fF_X0_18 dX0_unlive_4))))) (ax_nd_ok (ax_nd_ok (ax_lf_ok (ak_icmp_ge (by decide) dX0_unlive_7)) (ax_lf_ok (ak_aload_n rfl dX0_unlive_10))) (ax_nd_ok (ax_lf_ok (ak_gr fF_X0_9 dX0_unlive_11)) (ax_nd_ok (ax_lf_ok (ak_iload_n rfl dX0_unlive_14)) (ax_lf_ok (ak_dup2 dX0_unlive_15)))))) (ax_nd_ok (ax_nd_ok (ax_nd_ok (ax_lf_ok (ak_iald dX0_unlive_16)) (ax_lf_ok (ak_aload_n rfl dX0_unlive_17))) (ax_nd_ok (ax_lf_ok (ak_iload_n rfl dX0_unlive_18)) (ax_nd_ok (ax_lf_ok (ak_iload_n rfl dX0_unlive_19)) (ax_lf_ok (ak_invV (by decide) (by decide) (by decide) rfl wd_769 wd_722 wd_723 wd_101 wd_724 ⟨by decide, by decide, by decide +kernel⟩ dX0_unlive_20))))) (ax_nd_ok (ax_nd_ok (ax_lf_ok (ak_isub dX0_unlive_23)) (ax_lf_ok (ak_iast dX0_unlive_24))) (ax_nd_ok (ax_lf_ok (ak_iinc (by decide) (by decide) dX0_unlive_25)) (ax_nd_ok (ax_lf_ok (ak_goto (by decide) dX0_unlive_28)) (ax_lf_ok (ak_vret rfl dX0_unlive_31))))))
abbrev mX0_unlive (g : ax_G) (as : List Value) (h : ax_H) (Ret : Option Value → ax_H → Prop) : Prop := ax_M g 2 0 0 yX0_unlive cX0_unlive 3 none as h Ret
theorem dX0_brings_0 : decode cX0_brings 0 = .ok (.iload_n 2, 1) := by decide +kernel
theorem dX0_brings_1 : decode cX0_brings 1 = .ok (.ifCond .lt 19, 3) := by decide +kernel
theorem dX0_brings_4 : decode cX0_brings 4 = .ok (.iload_n 2, 1) := by decide +kernel
theorem dX0_brings_5 : decode cX0_brings 5 = .ok (.aload_n 0, 1) := by decide +kernel
theorem dX0_brings_6 : decode cX0_brings 6 = .ok (.getfield 22, 3) := by decide +kernel
theorem dX0_brings_9 : decode cX0_brings 9 = .ok (.if_icmp .ge 11, 3) := by decide +kernel
theorem dX0_brings_12 : decode cX0_brings 12 = .ok (.iload_n 1, 1) := by decide +kernel
theorem dX0_brings_13 : decode cX0_brings 13 = .ok (.aload_n 0, 1) := by decide +kernel
theorem dX0_brings_14 : decode cX0_brings 14 = .ok (.getfield 18, 3) := by decide +kernel
theorem dX0_brings_17 : decode cX0_brings 17 = .ok (.if_icmp .lt 5, 3) := by decide +kernel
theorem dX0_brings_20 : decode cX0_brings 20 = .ok (.iconst 0, 1) := by decide +kernel
theorem dX0_brings_21 : decode cX0_brings 21 = .ok (.ireturn, 1) := by decide +kernel
theorem dX0_brings_22 : decode cX0_brings 22 = .ok (.iload_n 1, 1) := by decide +kernel
theorem dX0_brings_23 : decode cX0_brings 23 = .ok (.ifCond .lt 15, 3) := by decide +kernel
theorem dX0_brings_26 : decode cX0_brings 26 = .ok (.aload_n 0, 1) := by decide +kernel
theorem dX0_brings_27 : decode cX0_brings 27 = .ok (.getfield 15, 3) := by decide +kernel
theorem dX0_brings_30 : decode cX0_brings 30 = .ok (.iload_n 1, 1) := by decide +kernel
theorem dX0_brings_31 : decode cX0_brings 31 = .ok (.bipush 12, 2) := by decide +kernel
theorem dX0_brings_33 : decode cX0_brings 33 = .ok (.imul, 1) := by decide +kernel
theorem dX0_brings_34 : decode cX0_brings 34 = .ok (.iload_n 2, 1) := by decide +kernel
theorem dX0_brings_35 : decode cX0_brings 35 = .ok (.iadd, 1) := by decide +kernel
theorem dX0_brings_36 : decode cX0_brings 36 = .ok (.iaload, 1) := by decide +kernel
theorem dX0_brings_37 : decode cX0_brings 37 = .ok (.ireturn, 1) := by decide +kernel
theorem dX0_brings_38 : decode cX0_brings 38 = .ok (.iconst 0, 1) := by decide +kernel
theorem dX0_brings_39 : decode cX0_brings 39 = .ok (.istore_n 3, 1) := by decide +kernel
theorem dX0_brings_40 : decode cX0_brings 40 = .ok (.iconst 0, 1) := by decide +kernel
theorem dX0_brings_41 : decode cX0_brings 41 = .ok (.istore 4, 2) := by decide +kernel
theorem dX0_brings_43 : decode cX0_brings 43 = .ok (.iload 4, 2) := by decide +kernel
theorem dX0_brings_45 : decode cX0_brings 45 = .ok (.aload_n 0, 1) := by decide +kernel
theorem dX0_brings_46 : decode cX0_brings 46 = .ok (.getfield 18, 3) := by decide +kernel
theorem dX0_brings_49 : decode cX0_brings 49 = .ok (.if_icmp .ge 24, 3) := by decide +kernel
theorem dX0_brings_52 : decode cX0_brings 52 = .ok (.iload_n 3, 1) := by decide +kernel
theorem dX0_brings_53 : decode cX0_brings 53 = .ok (.aload_n 0, 1) := by decide +kernel
theorem dX0_brings_54 : decode cX0_brings 54 = .ok (.getfield 15, 3) := by decide +kernel
theorem dX0_brings_57 : decode cX0_brings 57 = .ok (.iload 4, 2) := by decide +kernel
theorem dX0_brings_59 : decode cX0_brings 59 = .ok (.bipush 12, 2) := by decide +kernel
theorem dX0_brings_61 : decode cX0_brings 61 = .ok (.imul, 1) := by decide +kernel
theorem dX0_brings_62 : decode cX0_brings 62 = .ok (.iload_n 2, 1) := by decide +kernel
theorem dX0_brings_63 : decode cX0_brings 63 = .ok (.iadd, 1) := by decide +kernel
theorem dX0_brings_64 : decode cX0_brings 64 = .ok (.iaload, 1) := by decide +kernel
theorem dX0_brings_65 : decode cX0_brings 65 = .ok (.iadd, 1) := by decide +kernel
theorem dX0_brings_66 : decode cX0_brings 66 = .ok (.istore_n 3, 1) := by decide +kernel
theorem dX0_brings_67 : decode cX0_brings 67 = .ok (.iinc 4 1, 3) := by decide +kernel
theorem dX0_brings_70 : decode cX0_brings 70 = .ok (.goto (-27), 3) := by decide +kernel
theorem dX0_brings_73 : decode cX0_brings 73 = .ok (.iload_n 3, 1) := by decide +kernel
theorem dX0_brings_74 : decode cX0_brings 74 = .ok (.ireturn, 1) := by decide +kernel
def tX0_brings (g : ax_G) : Nat → ax_O := ax_nd 37 (ax_nd 20 (ax_nd 6 (ax_nd 1 (ax_nd 0 (ax_lf 0 (ao_il 2 1)) (ax_lf 1 (ao_if_lt 20))) (ax_nd 4 (ax_lf 4 (ao_il 2 1)) (ax_nd 5 (ax_lf 5 (ao_al 0 1)) (ax_lf 6 (ao_gi 0 3))))) (ax_nd 13 (ax_nd 9 (ax_lf 9 (ao_icmp_ge 20)) (ax_nd 12 (ax_lf 12 (ao_il 1 1)) (ax_lf 13 (ao_al 0 1)))) (ax_nd 14 (ax_lf 14 (ao_gi 0 2)) (ax_nd 17 (ax_lf 17 (ao_icmp_lt 22)) (ax_lf 20 (ao_ic (0) 1)))))) (ax_nd 30 (ax_nd 23 (ax_nd 21 (ax_lf 21 (ao_iret 0 0)) (ax_nd 22 (ax_lf 22 (ao_il 1 1)) (ax_lf 23 (ao_if_lt 38)))) (ax_nd 26 (ax_lf 26 (ao_al 0 1)) (ax_nd 27 (ax_lf 27 (ao_gr 0 1)) (ax_lf 30 (ao_il 1 1))))) (ax_nd 34 (ax_nd 31 (ax_lf 31 (ao_ic (12) 2)) (ax_nd 33 (ax_lf 33 ao_imul) (ax_lf 34 (ao_il 2 1)))) (ax_nd 35 (ax_lf 35 ao_iadd) (ax_nd 36 (ax_lf 36 ao_iald) (ax_lf 37 (ao_iret 0 0))))))) (ax_nd 54 (ax_nd 43 (ax_nd 39 (ax_nd 38 (ax_lf 38 (ao_ic (0) 1)) (ax_lf 39 (ao_is 3 1))) (ax_nd 40 (ax_lf 40 (ao_ic (0) 1)) (ax_nd 41 (ax_lf 41 (ao_is 4 2)) (ax_lf 43 (ao_il 4 2))))) (ax_nd 49 (ax_nd 45 (ax_lf 45 (ao_al 0 1)) (ax_nd 46 (ax_lf 46 (ao_gi 0 2)) (ax_lf 49 (ao_icmp_ge 73)))) (ax_nd 52 (ax_lf 52 (ao_il 3 1)) (ax_nd 53 (ax_lf 53 (ao_al 0 1)) (ax_lf 54 (ao_gr 0 1)))))) (ax_nd 64 (ax_nd 61 (ax_nd 57 (ax_lf 57 (ao_il 4 2)) (ax_nd 59 (ax_lf 59 (ao_ic (12) 2)) (ax_lf 61 ao_imul))) (ax_nd 62 (ax_lf 62 (ao_il 2 1)) (ax_nd 63 (ax_lf 63 ao_iadd) (ax_lf 64 ao_iald)))) (ax_nd 67 (ax_nd 65 (ax_lf 65 ao_iadd) (ax_nd 66 (ax_lf 66 (ao_is 3 1)) (ax_lf 67 (ao_iinc 4 (1))))) (ax_nd 70 (ax_lf 70 (ao_goto 43)) (ax_nd 73 (ax_lf 73 (ao_il 3 1)) (ax_lf 74 (ao_iret 0 0)))))))
theorem oX0_brings (g : ax_G) : ∀ pc, ax_ok g cX0_brings 5 (some .int) RX0 "brings" 1 0 0 pc (tX0_brings g pc) := ax_nd_ok (ax_nd_ok (ax_nd_ok (ax_nd_ok (ax_nd_ok (ax_lf_ok (ak_iload_n rfl dX0_brings_0)) (ax_lf_ok (ak_if_lt (by decide) dX0_brings_1))) (ax_nd_ok (ax_lf_ok (ak_iload_n rfl dX0_brings_4)) (ax_nd_ok (ax_lf_ok (ak_aload_n rfl dX0_brings_5)) (ax_lf_ok (ak_gi fF_X0_22 dX0_brings_6))))) (ax_nd_ok (ax_nd_ok (ax_lf_ok (ak_icmp_ge (by decide) dX0_brings_9)) (ax_nd_ok (ax_lf_ok (ak_iload_n rfl dX0_brings_12)) (ax_lf_ok (ak_aload_n rfl dX0_brings_13)))) (ax_nd_ok (ax_lf_ok (ak_gi fF_X0_18 dX0_brings_14)) (ax_nd_ok (ax_lf_ok (ak_icmp_lt (by decide) dX0_brings_17)) (ax_lf_ok (ak_iconst (by decide) dX0_brings_20)))))) (ax_nd_ok (ax_nd_ok (ax_nd_ok (ax_lf_ok (ak_iret rfl dX0_brings_21)) (ax_nd_ok (ax_lf_ok (ak_iload_n rfl dX0_brings_22)) (ax_lf_ok (ak_if_lt (by decide) dX0_brings_23)))) (ax_nd_ok (ax_lf_ok (ak_aload_n rfl dX0_brings_26)) (ax_nd_ok (ax_lf_ok (ak_gr fF_X0_15 dX0_brings_27)) (ax_lf_ok (ak_iload_n rfl dX0_brings_30))))) (ax_nd_ok (ax_nd_ok (ax_lf_ok (ak_bipush (by decide) dX0_brings_31)) (ax_nd_ok (ax_lf_ok (ak_imul dX0_brings_33)) (ax_lf_ok (ak_iload_n rfl dX0_brings_34)))) (ax_nd_ok (ax_lf_ok (ak_iadd dX0_brings_35)) (ax_nd_ok (ax_lf_ok (ak_iald dX0_brings_36)) (ax_lf_ok (ak_iret rfl dX0_brings_37))))))) (ax_nd_ok (ax_nd_ok (ax_nd_ok (ax_nd_ok (ax_lf_ok (ak_iconst (by decide) dX0_brings_38)) (ax_lf_ok (ak_istore_n rfl (by decide) dX0_brings_39))) (ax_nd_ok (ax_lf_ok (ak_iconst (by decide) dX0_brings_40)) (ax_nd_ok (ax_lf_ok (ak_istore (by decide) dX0_brings_41)) (ax_lf_ok (ak_iload dX0_brings_43))))) (ax_nd_ok (ax_nd_ok (ax_lf_ok (ak_aload_n rfl dX0_brings_45)) (ax_nd_ok (ax_lf_ok (ak_gi fF_X0_18 dX0_brings_46)) (ax_lf_ok (ak_icmp_ge (by decide) dX0_brings_49)))) (ax_nd_ok (ax_lf_ok (ak_iload_n rfl dX0_brings_52)) (ax_nd_ok (ax_lf_ok (ak_aload_n rfl dX0_brings_53)) (ax_lf_ok (ak_gr fF_X0_15 dX0_brings_54)))))) (ax_nd_ok (ax_nd_ok (ax_nd_ok (ax_lf_ok (ak_iload dX0_brings_57)) (ax_nd_ok (ax_lf_ok (ak_bipush (by decide) dX0_brings_59)) (ax_lf_ok (ak_imul dX0_brings_61)))) (ax_nd_ok (ax_lf_ok (ak_iload_n rfl dX0_brings_62)) (ax_nd_ok (ax_lf_ok (ak_iadd dX0_brings_63)) (ax_lf_ok (ak_iald dX0_brings_64))))) (ax_nd_ok (ax_nd_ok (ax_lf_ok (ak_iadd dX0_brings_65)) (ax_nd_ok (ax_lf_ok (ak_istore_n rfl (by decide) dX0_brings_66)) (ax_lf_ok (ak_iinc (by decide) (by decide) dX0_brings_67)))) (ax_nd_ok (ax_lf_ok (ak_goto (by decide) dX0_brings_70)) (ax_nd_ok (ax_lf_ok (ak_iload_n rfl dX0_brings_73)) (ax_lf_ok (ak_iret rfl dX0_brings_74)))))))
abbrev mX0_brings (g : ax_G) (as : List Value) (h : ax_H) (Ret : Option Value → ax_H → Prop) : Prop := ax_M g 1 0 0 yX0_brings cX0_brings 5 (some .int) as h Ret
theorem dX0_bestHour_0 : decode cX0_bestHour 0 = .ok (.iconst 0, 1) := by decide +kernel
theorem dX0_bestHour_1 : decode cX0_bestHour 1 = .ok (.istore_n 2, 1) := by decide +kernel
theorem dX0_bestHour_2 : decode cX0_bestHour 2 = .ok (.aload_n 0, 1) := by decide +kernel
theorem dX0_bestHour_3 : decode cX0_bestHour 3 = .ok (.iload_n 1, 1) := by decide +kernel
theorem dX0_bestHour_4 : decode cX0_bestHour 4 = .ok (.iconst 0, 1) := by decide +kernel
theorem dX0_bestHour_5 : decode cX0_bestHour 5 = .ok (.invokevirtual 43, 3) := by decide +kernel
theorem dX0_bestHour_8 : decode cX0_bestHour 8 = .ok (.istore_n 3, 1) := by decide +kernel
theorem dX0_bestHour_9 : decode cX0_bestHour 9 = .ok (.iconst 1, 1) := by decide +kernel
theorem dX0_bestHour_10 : decode cX0_bestHour 10 = .ok (.istore 4, 2) := by decide +kernel
theorem dX0_bestHour_12 : decode cX0_bestHour 12 = .ok (.iload 4, 2) := by decide +kernel
theorem dX0_bestHour_14 : decode cX0_bestHour 14 = .ok (.aload_n 0, 1) := by decide +kernel
theorem dX0_bestHour_15 : decode cX0_bestHour 15 = .ok (.getfield 22, 3) := by decide +kernel
theorem dX0_bestHour_18 : decode cX0_bestHour 18 = .ok (.if_icmp .ge 30, 3) := by decide +kernel
theorem dX0_bestHour_21 : decode cX0_bestHour 21 = .ok (.aload_n 0, 1) := by decide +kernel
theorem dX0_bestHour_22 : decode cX0_bestHour 22 = .ok (.iload_n 1, 1) := by decide +kernel
theorem dX0_bestHour_23 : decode cX0_bestHour 23 = .ok (.iload 4, 2) := by decide +kernel
theorem dX0_bestHour_25 : decode cX0_bestHour 25 = .ok (.invokevirtual 43, 3) := by decide +kernel
theorem dX0_bestHour_28 : decode cX0_bestHour 28 = .ok (.istore 5, 2) := by decide +kernel
theorem dX0_bestHour_30 : decode cX0_bestHour 30 = .ok (.iload 5, 2) := by decide +kernel
theorem dX0_bestHour_32 : decode cX0_bestHour 32 = .ok (.iload_n 3, 1) := by decide +kernel
theorem dX0_bestHour_33 : decode cX0_bestHour 33 = .ok (.if_icmp .le 9, 3) := by decide +kernel
theorem dX0_bestHour_36 : decode cX0_bestHour 36 = .ok (.iload 5, 2) := by decide +kernel
theorem dX0_bestHour_38 : decode cX0_bestHour 38 = .ok (.istore_n 3, 1) := by decide +kernel
theorem dX0_bestHour_39 : decode cX0_bestHour 39 = .ok (.iload 4, 2) := by decide +kernel
theorem dX0_bestHour_41 : decode cX0_bestHour 41 = .ok (.istore_n 2, 1) := by decide +kernel
theorem dX0_bestHour_42 : decode cX0_bestHour 42 = .ok (.iinc 4 1, 3) := by decide +kernel
theorem dX0_bestHour_45 : decode cX0_bestHour 45 = .ok (.goto (-33), 3) := by decide +kernel
theorem dX0_bestHour_48 : decode cX0_bestHour 48 = .ok (.iload_n 2, 1) := by decide +kernel
theorem dX0_bestHour_49 : decode cX0_bestHour 49 = .ok (.ireturn, 1) := by decide +kernel
def tX0_bestHour (g : ax_G) : Nat → ax_O := ax_nd 21 (ax_nd 8 (ax_nd 2 (ax_nd 0 (ax_lf 0 (ao_ic (0) 1)) (ax_nd 1 (ax_lf 1 (ao_is 2 1)) (ax_lf 2 (ao_al 0 1)))) (ax_nd 4 (ax_nd 3 (ax_lf 3 (ao_il 1 1)) (ax_lf 4 (ao_ic (0) 1))) (ax_nd 5 (ax_lf 5 (ao_inv g 1 0 1 yX0_brings cX0_brings 5 (some .int) 3 0 0 0 0)) (ax_lf 8 (ao_is 3 1))))) (ax_nd 12 (ax_nd 9 (ax_lf 9 (ao_ic (1) 1)) (ax_nd 10 (ax_lf 10 (ao_is 4 2)) (ax_lf 12 (ao_il 4 2)))) (ax_nd 15 (ax_nd 14 (ax_lf 14 (ao_al 0 1)) (ax_lf 15 (ao_gi 0 3))) (ax_nd 18 (ax_lf 18 (ao_icmp_ge 48)) (ax_lf 21 (ao_al 0 1)))))) (ax_nd 33 (ax_nd 25 (ax_nd 22 (ax_lf 22 (ao_il 1 1)) (ax_nd 23 (ax_lf 23 (ao_il 4 2)) (ax_lf 25 (ao_inv g 1 0 1 yX0_brings cX0_brings 5 (some .int) 3 0 0 0 0)))) (ax_nd 30 (ax_nd 28 (ax_lf 28 (ao_is 5 2)) (ax_lf 30 (ao_il 5 2))) (ax_nd 32 (ax_lf 32 (ao_il 3 1)) (ax_lf 33 (ao_icmp_le 42))))) (ax_nd 41 (ax_nd 38 (ax_nd 36 (ax_lf 36 (ao_il 5 2)) (ax_lf 38 (ao_is 3 1))) (ax_nd 39 (ax_lf 39 (ao_il 4 2)) (ax_lf 41 (ao_is 2 1)))) (ax_nd 45 (ax_nd 42 (ax_lf 42 (ao_iinc 4 (1))) (ax_lf 45 (ao_goto 12))) (ax_nd 48 (ax_lf 48 (ao_il 2 1)) (ax_lf 49 (ao_iret 0 0))))))
theorem oX0_bestHour (g : ax_G) : ∀ pc, ax_ok g cX0_bestHour 6 (some .int) RX0 "bestHour" 2 0 0 pc (tX0_bestHour g pc) := ax_nd_ok (ax_nd_ok (ax_nd_ok (ax_nd_ok (ax_lf_ok (ak_iconst (by decide) dX0_bestHour_0)) (ax_nd_ok (ax_lf_ok (ak_istore_n rfl (by decide) dX0_bestHour_1)) (ax_lf_ok (ak_aload_n rfl dX0_bestHour_2)))) (ax_nd_ok (ax_nd_ok (ax_lf_ok (ak_iload_n rfl dX0_bestHour_3)) (ax_lf_ok (ak_iconst (by decide) dX0_bestHour_4))) (ax_nd_ok (ax_lf_ok (ak_invV (by decide) (by decide) (by decide) rfl wd_769 wd_722 wd_723 wd_101 wd_724 ⟨by decide, by decide, by decide +kernel⟩ dX0_bestHour_5)) (ax_lf_ok (ak_istore_n rfl (by decide) dX0_bestHour_8))))) (ax_nd_ok (ax_nd_ok (ax_lf_ok (ak_iconst (by decide) dX0_bestHour_9)) (ax_nd_ok (ax_lf_ok (ak_istore (by decide) dX0_bestHour_10)) (ax_lf_ok (ak_iload dX0_bestHour_12)))) (ax_nd_ok (ax_nd_ok (ax_lf_ok (ak_aload_n rfl dX0_bestHour_14)) (ax_lf_ok (ak_gi fF_X0_22 dX0_bestHour_15))) (ax_nd_ok (ax_lf_ok (ak_icmp_ge (by decide) dX0_bestHour_18)) (ax_lf_ok (ak_aload_n rfl dX0_bestHour_21)))))) (ax_nd_ok (ax_nd_ok (ax_nd_ok (ax_lf_ok (ak_iload_n rfl dX0_bestHour_22)) (ax_nd_ok (ax_lf_ok (ak_iload dX0_bestHour_23)) (ax_lf_ok (ak_invV (by decide) (by decide) (by decide) rfl wd_769 wd_722 wd_723 wd_101 wd_724 ⟨by decide, by decide, by decide +kernel⟩ dX0_bestHour_25)))) (ax_nd_ok (ax_nd_ok (ax_lf_ok (ak_istore (by decide) dX0_bestHour_28)) (ax_lf_ok (ak_iload dX0_bestHour_30))) (ax_nd_ok (ax_lf_ok (ak_iload_n rfl dX0_bestHour_32)) (ax_lf_ok (ak_icmp_le (by decide) dX0_bestHour_33))))) (ax_nd_ok (ax_nd_ok (ax_nd_ok (ax_lf_ok (ak_iload dX0_bestHour_36)) (ax_lf_ok (ak_istore_n rfl (by decide) dX0_bestHour_38))) (ax_nd_ok (ax_lf_ok (ak_iload dX0_bestHour_39)) (ax_lf_ok (ak_istore_n rfl (by decide) dX0_bestHour_41)))) (ax_nd_ok (ax_nd_ok (ax_lf_ok (ak_iinc (by decide) (by decide) dX0_bestHour_42)) (ax_lf_ok (ak_goto (by decide) dX0_bestHour_45))) (ax_nd_ok (ax_lf_ok (ak_iload_n rfl dX0_bestHour_48)) (ax_lf_ok (ak_iret rfl dX0_bestHour_49))))))
abbrev mX0_bestHour (g : ax_G) (as : List Value) (h : ax_H) (Ret : Option Value → ax_H → Prop) : Prop := ax_M g 2 0 0 yX0_bestHour cX0_bestHour 6 (some .int) as h Ret
theorem dX0_weighed_0 : decode cX0_weighed 0 = .ok (.lconst 0, 1) := by decide +kernel
theorem dX0_weighed_1 : decode cX0_weighed 1 = .ok (.lstore_n 3, 1) := by decide +kernel
theorem dX0_weighed_2 : decode cX0_weighed 2 = .ok (.iconst 0, 1) := by decide +kernel
theorem dX0_weighed_3 : decode cX0_weighed 3 = .ok (.istore 5, 2) := by decide +kernel
theorem dX0_weighed_5 : decode cX0_weighed 5 = .ok (.iload 5, 2) := by decide +kernel
theorem dX0_weighed_7 : decode cX0_weighed 7 = .ok (.aload_n 0, 1) := by decide +kernel
theorem dX0_weighed_8 : decode cX0_weighed 8 = .ok (.getfield 22, 3) := by decide +kernel
theorem dX0_weighed_11 : decode cX0_weighed 11 = .ok (.if_icmp .ge 29, 3) := by decide +kernel
theorem dX0_weighed_14 : decode cX0_weighed 14 = .ok (.lload_n 3, 1) := by decide +kernel
theorem dX0_weighed_15 : decode cX0_weighed 15 = .ok (.aload_n 2, 1) := by decide +kernel
theorem dX0_weighed_16 : decode cX0_weighed 16 = .ok (.getfield 46, 3) := by decide +kernel
theorem dX0_weighed_19 : decode cX0_weighed 19 = .ok (.iload 5, 2) := by decide +kernel
theorem dX0_weighed_21 : decode cX0_weighed 21 = .ok (.iaload, 1) := by decide +kernel
theorem dX0_weighed_22 : decode cX0_weighed 22 = .ok (.i2l, 1) := by decide +kernel
theorem dX0_weighed_23 : decode cX0_weighed 23 = .ok (.aload_n 0, 1) := by decide +kernel
theorem dX0_weighed_24 : decode cX0_weighed 24 = .ok (.iload_n 1, 1) := by decide +kernel
theorem dX0_weighed_25 : decode cX0_weighed 25 = .ok (.iload 5, 2) := by decide +kernel
theorem dX0_weighed_27 : decode cX0_weighed 27 = .ok (.invokevirtual 43, 3) := by decide +kernel
theorem dX0_weighed_30 : decode cX0_weighed 30 = .ok (.i2l, 1) := by decide +kernel
theorem dX0_weighed_31 : decode cX0_weighed 31 = .ok (.lmul, 1) := by decide +kernel
theorem dX0_weighed_32 : decode cX0_weighed 32 = .ok (.ladd, 1) := by decide +kernel
theorem dX0_weighed_33 : decode cX0_weighed 33 = .ok (.lstore_n 3, 1) := by decide +kernel
theorem dX0_weighed_34 : decode cX0_weighed 34 = .ok (.iinc 5 1, 3) := by decide +kernel
theorem dX0_weighed_37 : decode cX0_weighed 37 = .ok (.goto (-32), 3) := by decide +kernel
theorem dX0_weighed_40 : decode cX0_weighed 40 = .ok (.lload_n 3, 1) := by decide +kernel
theorem dX0_weighed_41 : decode cX0_weighed 41 = .ok (.lreturn, 1) := by decide +kernel
def tX0_weighed (g : ax_G) : Nat → ax_O := ax_nd 21 (ax_nd 7 (ax_nd 2 (ax_nd 0 (ax_lf 0 (ao_lc (0) 1)) (ax_nd 1 (ax_lf 1 (ao_ls 3 1)) (ax_lf 2 (ao_ic (0) 1)))) (ax_nd 3 (ax_lf 3 (ao_is 5 2)) (ax_nd 5 (ax_lf 5 (ao_il 5 2)) (ax_lf 7 (ao_al 0 1))))) (ax_nd 14 (ax_nd 8 (ax_lf 8 (ao_gi 0 3)) (ax_nd 11 (ax_lf 11 (ao_icmp_ge 40)) (ax_lf 14 (ao_ll 3 1)))) (ax_nd 16 (ax_nd 15 (ax_lf 15 (ao_al 2 1)) (ax_lf 16 (ao_gr 3 0))) (ax_nd 19 (ax_lf 19 (ao_il 5 2)) (ax_lf 21 ao_iald))))) (ax_nd 30 (ax_nd 24 (ax_nd 22 (ax_lf 22 ao_i2l) (ax_nd 23 (ax_lf 23 (ao_al 0 1)) (ax_lf 24 (ao_il 1 1)))) (ax_nd 25 (ax_lf 25 (ao_il 5 2)) (ax_nd 27 (ax_lf 27 (ao_inv g 1 0 1 yX0_brings cX0_brings 5 (some .int) 3 0 0 0 0)) (ax_lf 30 ao_i2l)))) (ax_nd 33 (ax_nd 31 (ax_lf 31 ao_lmul) (ax_nd 32 (ax_lf 32 ao_ladd) (ax_lf 33 (ao_ls 3 1)))) (ax_nd 37 (ax_nd 34 (ax_lf 34 (ao_iinc 5 (1))) (ax_lf 37 (ao_goto 5))) (ax_nd 40 (ax_lf 40 (ao_ll 3 1)) (ax_lf 41 (ao_lret 0 0))))))
theorem oX0_weighed (g : ax_G) : ∀ pc, ax_ok g cX0_weighed 6 (some .long) RX0 "weighed" 2 0 0 pc (tX0_weighed g pc) := ax_nd_ok (ax_nd_ok (ax_nd_ok (ax_nd_ok (ax_lf_ok (ak_lconst (by decide) dX0_weighed_0)) (ax_nd_ok (ax_lf_ok (ak_lstore_n rfl (by decide) dX0_weighed_1)) (ax_lf_ok (ak_iconst (by decide) dX0_weighed_2)))) (ax_nd_ok (ax_lf_ok (ak_istore (by decide) dX0_weighed_3)) (ax_nd_ok (ax_lf_ok (ak_iload dX0_weighed_5)) (ax_lf_ok (ak_aload_n rfl dX0_weighed_7))))) (ax_nd_ok (ax_nd_ok (ax_lf_ok (ak_gi fF_X0_22 dX0_weighed_8)) (ax_nd_ok (ax_lf_ok (ak_icmp_ge (by decide) dX0_weighed_11)) (ax_lf_ok (ak_lload_n rfl dX0_weighed_14)))) (ax_nd_ok (ax_nd_ok (ax_lf_ok (ak_aload_n rfl dX0_weighed_15)) (ax_lf_ok (ak_gr fF_X0_46 dX0_weighed_16))) (ax_nd_ok (ax_lf_ok (ak_iload dX0_weighed_19)) (ax_lf_ok (ak_iald dX0_weighed_21)))))) (ax_nd_ok (ax_nd_ok (ax_nd_ok (ax_lf_ok (ak_i2l dX0_weighed_22)) (ax_nd_ok (ax_lf_ok (ak_aload_n rfl dX0_weighed_23)) (ax_lf_ok (ak_iload_n rfl dX0_weighed_24)))) (ax_nd_ok (ax_lf_ok (ak_iload dX0_weighed_25)) (ax_nd_ok (ax_lf_ok (ak_invV (by decide) (by decide) (by decide) rfl wd_769 wd_722 wd_723 wd_101 wd_724 ⟨by decide, by decide, by decide +kernel⟩ dX0_weighed_27)) (ax_lf_ok (ak_i2l dX0_weighed_30))))) (ax_nd_ok (ax_nd_ok (ax_lf_ok (ak_lmul dX0_weighed_31)) (ax_nd_ok (ax_lf_ok (ak_ladd dX0_weighed_32)) (ax_lf_ok (ak_lstore_n rfl (by decide) dX0_weighed_33)))) (ax_nd_ok (ax_nd_ok (ax_lf_ok (ak_iinc (by decide) (by decide) dX0_weighed_34)) (ax_lf_ok (ak_goto (by decide) dX0_weighed_37))) (ax_nd_ok (ax_lf_ok (ak_lload_n rfl dX0_weighed_40)) (ax_lf_ok (ak_lret rfl dX0_weighed_41))))))
abbrev mX0_weighed (g : ax_G) (as : List Value) (h : ax_H) (Ret : Option Value → ax_H → Prop) : Prop := ax_M g 2 0 0 yX0_weighed cX0_weighed 6 (some .long) as h Ret
theorem dX0_apart_0 : decode cX0_apart 0 = .ok (.iconst 0, 1) := by decide +kernel
theorem dX0_apart_1 : decode cX0_apart 1 = .ok (.istore_n 3, 1) := by decide +kernel
theorem dX0_apart_2 : decode cX0_apart 2 = .ok (.iconst 0, 1) := by decide +kernel
theorem dX0_apart_3 : decode cX0_apart 3 = .ok (.istore 4, 2) := by decide +kernel
theorem dX0_apart_5 : decode cX0_apart 5 = .ok (.iload 4, 2) := by decide +kernel
theorem dX0_apart_7 : decode cX0_apart 7 = .ok (.aload_n 0, 1) := by decide +kernel
theorem dX0_apart_8 : decode cX0_apart 8 = .ok (.getfield 18, 3) := by decide +kernel
theorem dX0_apart_11 : decode cX0_apart 11 = .ok (.if_icmp .ge 30, 3) := by decide +kernel
theorem dX0_apart_14 : decode cX0_apart 14 = .ok (.iload_n 3, 1) := by decide +kernel
theorem dX0_apart_15 : decode cX0_apart 15 = .ok (.aload_n 0, 1) := by decide +kernel
theorem dX0_apart_16 : decode cX0_apart 16 = .ok (.iload 4, 2) := by decide +kernel
theorem dX0_apart_18 : decode cX0_apart 18 = .ok (.iload_n 1, 1) := by decide +kernel
theorem dX0_apart_19 : decode cX0_apart 19 = .ok (.invokevirtual 43, 3) := by decide +kernel
theorem dX0_apart_22 : decode cX0_apart 22 = .ok (.aload_n 0, 1) := by decide +kernel
theorem dX0_apart_23 : decode cX0_apart 23 = .ok (.iload 4, 2) := by decide +kernel
theorem dX0_apart_25 : decode cX0_apart 25 = .ok (.iload_n 2, 1) := by decide +kernel
theorem dX0_apart_26 : decode cX0_apart 26 = .ok (.invokevirtual 43, 3) := by decide +kernel
theorem dX0_apart_29 : decode cX0_apart 29 = .ok (.isub, 1) := by decide +kernel
theorem dX0_apart_30 : decode cX0_apart 30 = .ok (.invokestatic 51, 3) := by decide +kernel
theorem dX0_apart_33 : decode cX0_apart 33 = .ok (.iadd, 1) := by decide +kernel
theorem dX0_apart_34 : decode cX0_apart 34 = .ok (.istore_n 3, 1) := by decide +kernel
theorem dX0_apart_35 : decode cX0_apart 35 = .ok (.iinc 4 1, 3) := by decide +kernel
theorem dX0_apart_38 : decode cX0_apart 38 = .ok (.goto (-33), 3) := by decide +kernel
theorem dX0_apart_41 : decode cX0_apart 41 = .ok (.iload_n 3, 1) := by decide +kernel
theorem dX0_apart_42 : decode cX0_apart 42 = .ok (.ireturn, 1) := by decide +kernel
def tX0_apart (g : ax_G) : Nat → ax_O := ax_nd 18 (ax_nd 7 (ax_nd 2 (ax_nd 0 (ax_lf 0 (ao_ic (0) 1)) (ax_nd 1 (ax_lf 1 (ao_is 3 1)) (ax_lf 2 (ao_ic (0) 1)))) (ax_nd 3 (ax_lf 3 (ao_is 4 2)) (ax_nd 5 (ax_lf 5 (ao_il 4 2)) (ax_lf 7 (ao_al 0 1))))) (ax_nd 14 (ax_nd 8 (ax_lf 8 (ao_gi 0 2)) (ax_nd 11 (ax_lf 11 (ao_icmp_ge 41)) (ax_lf 14 (ao_il 3 1)))) (ax_nd 15 (ax_lf 15 (ao_al 0 1)) (ax_nd 16 (ax_lf 16 (ao_il 4 2)) (ax_lf 18 (ao_il 1 1)))))) (ax_nd 29 (ax_nd 23 (ax_nd 19 (ax_lf 19 (ao_inv g 1 0 1 yX0_brings cX0_brings 5 (some .int) 3 0 0 0 0)) (ax_nd 22 (ax_lf 22 (ao_al 0 1)) (ax_lf 23 (ao_il 4 2)))) (ax_nd 25 (ax_lf 25 (ao_il 2 1)) (ax_nd 26 (ax_lf 26 (ao_inv g 1 0 1 yX0_brings cX0_brings 5 (some .int) 3 0 0 0 0)) (ax_lf 29 ao_isub)))) (ax_nd 34 (ax_nd 30 (ax_lf 30 ao_iabs) (ax_nd 33 (ax_lf 33 ao_iadd) (ax_lf 34 (ao_is 3 1)))) (ax_nd 38 (ax_nd 35 (ax_lf 35 (ao_iinc 4 (1))) (ax_lf 38 (ao_goto 5))) (ax_nd 41 (ax_lf 41 (ao_il 3 1)) (ax_lf 42 (ao_iret 0 0))))))
theorem oX0_apart (g : ax_G) : ∀ pc, ax_ok g cX0_apart 5 (some .int) RX0 "apart" 2 0 0 pc (tX0_apart g pc) := ax_nd_ok (ax_nd_ok (ax_nd_ok (ax_nd_ok (ax_lf_ok (ak_iconst (by decide) dX0_apart_0)) (ax_nd_ok (ax_lf_ok (ak_istore_n rfl (by decide) dX0_apart_1)) (ax_lf_ok (ak_iconst (by decide) dX0_apart_2)))) (ax_nd_ok (ax_lf_ok (ak_istore (by decide) dX0_apart_3)) (ax_nd_ok (ax_lf_ok (ak_iload dX0_apart_5)) (ax_lf_ok (ak_aload_n rfl dX0_apart_7))))) (ax_nd_ok (ax_nd_ok (ax_lf_ok (ak_gi fF_X0_18 dX0_apart_8)) (ax_nd_ok (ax_lf_ok (ak_icmp_ge (by decide) dX0_apart_11)) (ax_lf_ok (ak_iload_n rfl dX0_apart_14)))) (ax_nd_ok (ax_lf_ok (ak_aload_n rfl dX0_apart_15)) (ax_nd_ok (ax_lf_ok (ak_iload dX0_apart_16)) (ax_lf_ok (ak_iload_n rfl dX0_apart_18)))))) (ax_nd_ok (ax_nd_ok (ax_nd_ok (ax_lf_ok (ak_invV (by decide) (by decide) (by decide) rfl wd_769 wd_722 wd_723 wd_101 wd_724 ⟨by decide, by decide, by decide +kernel⟩ dX0_apart_19)) (ax_nd_ok (ax_lf_ok (ak_aload_n rfl dX0_apart_22)) (ax_lf_ok (ak_iload dX0_apart_23)))) (ax_nd_ok (ax_lf_ok (ak_iload_n rfl dX0_apart_25)) (ax_nd_ok (ax_lf_ok (ak_invV (by decide) (by decide) (by decide) rfl wd_769 wd_722 wd_723 wd_101 wd_724 ⟨by decide, by decide, by decide +kernel⟩ dX0_apart_26)) (ax_lf_ok (ak_isub dX0_apart_29))))) (ax_nd_ok (ax_nd_ok (ax_lf_ok (ak_iabs (by decide) wd_835 wd_836 wd_107 wd_837 dX0_apart_30)) (ax_nd_ok (ax_lf_ok (ak_iadd dX0_apart_33)) (ax_lf_ok (ak_istore_n rfl (by decide) dX0_apart_34)))) (ax_nd_ok (ax_nd_ok (ax_lf_ok (ak_iinc (by decide) (by decide) dX0_apart_35)) (ax_lf_ok (ak_goto (by decide) dX0_apart_38))) (ax_nd_ok (ax_lf_ok (ak_iload_n rfl dX0_apart_41)) (ax_lf_ok (ak_iret rfl dX0_apart_42))))))
abbrev mX0_apart (g : ax_G) (as : List Value) (h : ax_H) (Ret : Option Value → ax_H → Prop) : Prop := ax_M g 2 0 0 yX0_apart cX0_apart 5 (some .int) as h Ret
theorem dX0_measure_0 : decode cX0_measure 0 = .ok (.iload_n 2, 1) := by decide +kernel
theorem dX0_measure_1 : decode cX0_measure 1 = .ok (.ifCond .eq 17, 3) := by decide +kernel
theorem dX0_measure_4 : decode cX0_measure 4 = .ok (.aload_n 0, 1) := by decide +kernel
theorem dX0_measure_5 : decode cX0_measure 5 = .ok (.invokevirtual 56, 3) := by decide +kernel
theorem dX0_measure_8 : decode cX0_measure 8 = .ok (.iload_n 1, 1) := by decide +kernel
theorem dX0_measure_9 : decode cX0_measure 9 = .ok (.if_icmp .ne 7, 3) := by decide +kernel
theorem dX0_measure_12 : decode cX0_measure 12 = .ok (.iconst 1, 1) := by decide +kernel
theorem dX0_measure_13 : decode cX0_measure 13 = .ok (.goto 4, 3) := by decide +kernel
theorem dX0_measure_16 : decode cX0_measure 16 = .ok (.iconst 0, 1) := by decide +kernel
theorem dX0_measure_17 : decode cX0_measure 17 = .ok (.ireturn, 1) := by decide +kernel
theorem dX0_measure_18 : decode cX0_measure 18 = .ok (.iload_n 1, 1) := by decide +kernel
theorem dX0_measure_19 : decode cX0_measure 19 = .ok (.ifCond .lt 11, 3) := by decide +kernel
theorem dX0_measure_22 : decode cX0_measure 22 = .ok (.iload_n 1, 1) := by decide +kernel
theorem dX0_measure_23 : decode cX0_measure 23 = .ok (.aload_n 0, 1) := by decide +kernel
theorem dX0_measure_24 : decode cX0_measure 24 = .ok (.getfield 18, 3) := by decide +kernel
theorem dX0_measure_27 : decode cX0_measure 27 = .ok (.if_icmp .lt 7, 3) := by decide +kernel
theorem dX0_measure_30 : decode cX0_measure 30 = .ok (.iconst 0, 1) := by decide +kernel
theorem dX0_measure_31 : decode cX0_measure 31 = .ok (.goto 9, 3) := by decide +kernel
theorem dX0_measure_34 : decode cX0_measure 34 = .ok (.aload_n 0, 1) := by decide +kernel
theorem dX0_measure_35 : decode cX0_measure 35 = .ok (.getfield 9, 3) := by decide +kernel
theorem dX0_measure_38 : decode cX0_measure 38 = .ok (.iload_n 1, 1) := by decide +kernel
theorem dX0_measure_39 : decode cX0_measure 39 = .ok (.iaload, 1) := by decide +kernel
theorem dX0_measure_40 : decode cX0_measure 40 = .ok (.ireturn, 1) := by decide +kernel
def tX0_measure (g : ax_G) : Nat → ax_O := ax_nd 18 (ax_nd 8 (ax_nd 1 (ax_nd 0 (ax_lf 0 (ao_il 2 1)) (ax_lf 1 (ao_if_eq 18))) (ax_nd 4 (ax_lf 4 (ao_al 0 1)) (ax_nd 5 (ax_lf 5 (ao_inv g 1 0 1 yX0_poorest cX0_poorest 3 (some .int) 1 0 0 0 0)) (ax_lf 8 (ao_il 1 1))))) (ax_nd 13 (ax_nd 9 (ax_lf 9 (ao_icmp_ne 16)) (ax_nd 12 (ax_lf 12 (ao_ic (1) 1)) (ax_lf 13 (ao_goto 17)))) (ax_nd 16 (ax_lf 16 (ao_ic (0) 1)) (ax_nd 17 (ax_lf 17 (ao_iret 0 0)) (ax_lf 18 (ao_il 1 1)))))) (ax_nd 30 (ax_nd 23 (ax_nd 19 (ax_lf 19 (ao_if_lt 30)) (ax_nd 22 (ax_lf 22 (ao_il 1 1)) (ax_lf 23 (ao_al 0 1)))) (ax_nd 24 (ax_lf 24 (ao_gi 0 2)) (ax_nd 27 (ax_lf 27 (ao_icmp_lt 34)) (ax_lf 30 (ao_ic (0) 1))))) (ax_nd 35 (ax_nd 31 (ax_lf 31 (ao_goto 40)) (ax_nd 34 (ax_lf 34 (ao_al 0 1)) (ax_lf 35 (ao_gr 0 0)))) (ax_nd 38 (ax_lf 38 (ao_il 1 1)) (ax_nd 39 (ax_lf 39 ao_iald) (ax_lf 40 (ao_iret 0 0))))))
theorem oX0_measure (g : ax_G) : ∀ pc, ax_ok g cX0_measure 3 (some .int) RX0 "measure" 2 0 0 pc (tX0_measure g pc) := ax_nd_ok (ax_nd_ok (ax_nd_ok (ax_nd_ok (ax_lf_ok (ak_iload_n rfl dX0_measure_0)) (ax_lf_ok (ak_if_eq (by decide) dX0_measure_1))) (ax_nd_ok (ax_lf_ok (ak_aload_n rfl dX0_measure_4)) (ax_nd_ok (ax_lf_ok (ak_invV (by decide) (by decide) (by decide) rfl wd_988 wd_691 wd_692 wd_101 wd_693 ⟨by decide, by decide, by decide +kernel⟩ dX0_measure_5)) (ax_lf_ok (ak_iload_n rfl dX0_measure_8))))) (ax_nd_ok (ax_nd_ok (ax_lf_ok (ak_icmp_ne (by decide) dX0_measure_9)) (ax_nd_ok (ax_lf_ok (ak_iconst (by decide) dX0_measure_12)) (ax_lf_ok (ak_goto (by decide) dX0_measure_13)))) (ax_nd_ok (ax_lf_ok (ak_iconst (by decide) dX0_measure_16)) (ax_nd_ok (ax_lf_ok (ak_iret rfl dX0_measure_17)) (ax_lf_ok (ak_iload_n rfl dX0_measure_18)))))) (ax_nd_ok (ax_nd_ok (ax_nd_ok (ax_lf_ok (ak_if_lt (by decide) dX0_measure_19)) (ax_nd_ok (ax_lf_ok (ak_iload_n rfl dX0_measure_22)) (ax_lf_ok (ak_aload_n rfl dX0_measure_23)))) (ax_nd_ok (ax_lf_ok (ak_gi fF_X0_18 dX0_measure_24)) (ax_nd_ok (ax_lf_ok (ak_icmp_lt (by decide) dX0_measure_27)) (ax_lf_ok (ak_iconst (by decide) dX0_measure_30))))) (ax_nd_ok (ax_nd_ok (ax_lf_ok (ak_goto (by decide) dX0_measure_31)) (ax_nd_ok (ax_lf_ok (ak_aload_n rfl dX0_measure_34)) (ax_lf_ok (ak_gr fF_X0_9 dX0_measure_35)))) (ax_nd_ok (ax_lf_ok (ak_iload_n rfl dX0_measure_38)) (ax_nd_ok (ax_lf_ok (ak_iald dX0_measure_39)) (ax_lf_ok (ak_iret rfl dX0_measure_40))))))
abbrev mX0_measure (g : ax_G) (as : List Value) (h : ax_H) (Ret : Option Value → ax_H → Prop) : Prop := ax_M g 2 0 0 yX0_measure cX0_measure 3 (some .int) as h Ret
end
