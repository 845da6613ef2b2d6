section
theorem dX7_init_0 : decode cX7_init 0 = .ok (.aload_n 0, 1) := by decide +kernel
theorem dX7_init_1 : decode cX7_init 1 = .ok (.invokespecial 3, 3) := by decide +kernel
theorem dX7_init_4 : decode cX7_init 4 = .ok (.aload_n 0, 1) := by decide +kernel
theorem dX7_init_5 : decode cX7_init 5 = .ok (.iconst 3, 1) := by decide +kernel
theorem dX7_init_6 : decode cX7_init 6 = .ok (.newarray .int, 2) := by decide +kernel
theorem dX7_init_8 : decode cX7_init 8 = .ok (.putfield 9, 3) := by decide +kernel
theorem dX7_init_11 : decode cX7_init 11 = .ok (.aload_n 0, 1) := by decide +kernel
theorem dX7_init_12 : decode cX7_init 12 = .ok (.iconst 0, 1) := by decide +kernel
theorem dX7_init_13 : decode cX7_init 13 = .ok (.putfield 15, 3) := by decide +kernel
theorem dX7_init_16 : decode cX7_init 16 = .ok (.aload_n 0, 1) := by decide +kernel
theorem dX7_init_17 : decode cX7_init 17 = .ok (.iconst 0, 1) := by decide +kernel
theorem dX7_init_18 : decode cX7_init 18 = .ok (.putfield 19, 3) := by decide +kernel
theorem dX7_init_21 : decode cX7_init 21 = .ok (.aload_n 0, 1) := by decide +kernel
theorem dX7_init_22 : decode cX7_init 22 = .ok (.iconst 3, 1) := by decide +kernel
theorem dX7_init_23 : decode cX7_init 23 = .ok (.newarray .int, 2) := by decide +kernel
theorem dX7_init_25 : decode cX7_init 25 = .ok (.putfield 22, 3) := by decide +kernel
theorem dX7_init_28 : decode cX7_init 28 = .ok (.aload_n 0, 1) := by decide +kernel
theorem dX7_init_29 : decode cX7_init 29 = .ok (.iconst 3, 1) := by decide +kernel
theorem dX7_init_30 : decode cX7_init 30 = .ok (.anewarray 25, 3) := by decide +kernel
theorem dX7_init_33 : decode cX7_init 33 = .ok (.putfield 27, 3) := by decide +kernel
theorem dX7_init_36 : decode cX7_init 36 = .ok (.iconst 0, 1) := by decide +kernel
theorem dX7_init_37 : decode cX7_init 37 = .ok (.istore_n 1, 1) := by decide +kernel
theorem dX7_init_38 : decode cX7_init 38 = .ok (.iload_n 1, 1) := by decide +kernel
theorem dX7_init_39 : decode cX7_init 39 = .ok (.iconst 3, 1) := by decide +kernel
theorem dX7_init_40 : decode cX7_init 40 = .ok (.if_icmp .ge 22, 3) := by decide +kernel
theorem dX7_init_43 : decode cX7_init 43 = .ok (.aload_n 0, 1) := by decide +kernel
theorem dX7_init_44 : decode cX7_init 44 = .ok (.getfield 27, 3) := by decide +kernel
theorem dX7_init_47 : decode cX7_init 47 = .ok (.iload_n 1, 1) := by decide +kernel
theorem dX7_init_48 : decode cX7_init 48 = .ok (.new 25, 3) := by decide +kernel
theorem dX7_init_51 : decode cX7_init 51 = .ok (.dup, 1) := by decide +kernel
theorem dX7_init_52 : decode cX7_init 52 = .ok (.invokespecial 31, 3) := by decide +kernel
theorem dX7_init_55 : decode cX7_init 55 = .ok (.aastore, 1) := by decide +kernel
theorem dX7_init_56 : decode cX7_init 56 = .ok (.iinc 1 1, 3) := by decide +kernel
theorem dX7_init_59 : decode cX7_init 59 = .ok (.goto (-21), 3) := by decide +kernel
theorem dX7_init_62 : decode cX7_init 62 = .ok (.return_, 1) := by decide +kernel
def tX7_init (g : ax_G) : Nat → ax_O := ax_nd 28 (ax_nd 12 (ax_nd 5 (ax_nd 1 (ax_nd 0 (ax_lf 0 (ao_al 0 1)) (ax_lf 1 ao_obj)) (ax_nd 4 (ax_lf 4 (ao_al 0 1)) (ax_lf 5 (ao_ic (3) 1)))) (ax_nd 8 (ax_nd 6 (ax_lf 6 (ao_newa 11 4 9 54)) (ax_lf 8 (ao_pr 7 0))) (ax_nd 11 (ax_lf 11 (ao_al 0 1)) (ax_lf 12 (ao_ic (0) 1))))) (ax_nd 18 (ax_nd 16 (ax_nd 13 (ax_lf 13 (ao_pi 7 1)) (ax_lf 16 (ao_al 0 1))) (ax_nd 17 (ax_lf 17 (ao_ic (0) 1)) (ax_lf 18 (ao_pi 7 2)))) (ax_nd 22 (ax_nd 21 (ax_lf 21 (ao_al 0 1)) (ax_lf 22 (ao_ic (3) 1))) (ax_nd 23 (ax_lf 23 (ao_newa 11 4 9 54)) (ax_nd 25 (ax_lf 25 (ao_pr 7 3)) (ax_lf 28 (ao_al 0 1))))))) (ax_nd 43 (ax_nd 36 (ax_nd 30 (ax_nd 29 (ax_lf 29 (ao_ic (3) 1)) (ax_lf 30 (ao_newr 16 9 54))) (ax_nd 33 (ax_lf 33 (ao_pr 7 4)) (ax_lf 36 (ao_ic (0) 1)))) (ax_nd 38 (ax_nd 37 (ax_lf 37 (ao_is 1 1)) (ax_lf 38 (ao_il 1 1))) (ax_nd 39 (ax_lf 39 (ao_ic (3) 1)) (ax_nd 40 (ax_lf 40 (ao_icmp_ge 62)) (ax_lf 43 (ao_al 0 1)))))) (ax_nd 51 (ax_nd 47 (ax_nd 44 (ax_lf 44 (ao_gr 7 4)) (ax_lf 47 (ao_il 1 1))) (ax_nd 48 (ax_lf 48 (ao_new 3 3 9 54)) (ax_lf 51 ao_dup))) (ax_nd 55 (ax_nd 52 (ax_lf 52 (ao_inva g 1 3 0 yX3_init cX3_init 1 none 1 1 9 12 54)) (ax_lf 55 (ao_aast 16 3))) (ax_nd 56 (ax_lf 56 (ao_iinc 1 (1))) (ax_nd 59 (ax_lf 59 (ao_goto 38)) (ax_lf 62 (ao_vreta 9 54)))))))
theorem oX7_init (g : ax_G) : ∀ pc, ax_ok g cX7_init 2 none RX7 "<init>" 2 9 54 pc (tX7_init g pc) := ax_nd_ok (ax_nd_ok (ax_nd_ok (ax_nd_ok (ax_nd_ok (ax_lf_ok (ak_aload_n rfl dX7_init_0)) (ax_lf_ok (ak_obj (by decide) wd_383 wd_119 wd_120 dX7_init_1))) (ax_nd_ok (ax_lf_ok (ak_aload_n rfl dX7_init_4)) (ax_lf_ok (ak_iconst (by decide) dX7_init_5)))) (ax_nd_ok (ax_nd_ok (ax_lf_ok (ak_newa (atype := .int) (ty := .int) (by decide) (by decide) rfl rfl (fun _ h => by cases h) (t0 := 0) rfl (fun _ _ => rfl) wd_179 dX7_init_6)) (ax_lf_ok (ak_pr fF_X7_9 rfl fW_X7_9_i dX7_init_8))) (ax_nd_ok (ax_lf_ok (ak_aload_n rfl dX7_init_11)) (ax_lf_ok (ak_iconst (by decide) dX7_init_12))))) (ax_nd_ok (ax_nd_ok (ax_nd_ok (ax_lf_ok (ak_pi fF_X7_15 fW_X7_15_a dX7_init_13)) (ax_lf_ok (ak_aload_n rfl dX7_init_16))) (ax_nd_ok (ax_lf_ok (ak_iconst (by decide) dX7_init_17)) (ax_lf_ok (ak_pi fF_X7_19 fW_X7_19_a dX7_init_18)))) (ax_nd_ok (ax_nd_ok (ax_lf_ok (ak_aload_n rfl dX7_init_21)) (ax_lf_ok (ak_iconst (by decide) dX7_init_22))) (ax_nd_ok (ax_lf_ok (ak_newa (atype := .int) (ty := .int) (by decide) (by decide) rfl rfl (fun _ h => by cases h) (t0 := 0) rfl (fun _ _ => rfl) wd_179 dX7_init_23)) (ax_nd_ok (ax_lf_ok (ak_pr fF_X7_22 rfl fW_X7_22_i dX7_init_25)) (ax_lf_ok (ak_aload_n rfl dX7_init_28))))))) (ax_nd_ok (ax_nd_ok (ax_nd_ok (ax_nd_ok (ax_lf_ok (ak_iconst (by decide) dX7_init_29)) (ax_lf_ok (ak_newr (by decide) (t0 := 5) rfl wd_384 (by decide +kernel) dX7_init_30))) (ax_nd_ok (ax_lf_ok (ak_pr fF_X7_27 rfl fW_X7_27_i dX7_init_33)) (ax_lf_ok (ak_iconst (by decide) dX7_init_36)))) (ax_nd_ok (ax_nd_ok (ax_lf_ok (ak_istore_n rfl (by decide) dX7_init_37)) (ax_lf_ok (ak_iload_n rfl dX7_init_38))) (ax_nd_ok (ax_lf_ok (ak_iconst (by decide) dX7_init_39)) (ax_nd_ok (ax_lf_ok (ak_icmp_ge (by decide) dX7_init_40)) (ax_lf_ok (ak_aload_n rfl dX7_init_43)))))) (ax_nd_ok (ax_nd_ok (ax_nd_ok (ax_lf_ok (ak_gr fF_X7_27 dX7_init_44)) (ax_lf_ok (ak_iload_n rfl dX7_init_47))) (ax_nd_ok (ax_lf_ok (ak_new (by decide) rfl ig_X3 tyX3_ok dv_X3 wd_384 wd_315 wd_102 dX7_init_48)) (ax_lf_ok (ak_dup dX7_init_51)))) (ax_nd_ok (ax_nd_ok (ax_lf_ok (ak_inva (ak_invIN (host := "GluedHour") (by decide) (by decide) (by decide) (by decide +kernel) wd_317 wd_102 wd_318 rfl ⟨by decide, by decide, by decide +kernel⟩ dX7_init_52))) (ax_lf_ok (ak_aast (by decide) (by decide) (by decide) rfl (t0 := 5) rfl dX7_init_55))) (ax_nd_ok (ax_lf_ok (ak_iinc (by decide) (by decide) dX7_init_56)) (ax_nd_ok (ax_lf_ok (ak_goto (by decide) dX7_init_59)) (ax_lf_ok (ak_vreta (ak_vret rfl dX7_init_62))))))))
abbrev mX7_init (g : ax_G) (as : List Value) (h : ax_H) (Ret : Option Value → ax_H → Prop) : Prop := ax_M g 2 9 54 yX7_init cX7_init 2 none as h Ret
theorem dX7_run_0 : decode cX7_run 0 = .ok (.aload_n 0, 1) := by decide +kernel
theorem dX7_run_1 : decode cX7_run 1 = .ok (.iconst 0, 1) := by decide +kernel
theorem dX7_run_2 : decode cX7_run 2 = .ok (.putfield 15, 3) := by decide +kernel
theorem dX7_run_5 : decode cX7_run 5 = .ok (.aload_n 0, 1) := by decide +kernel
theorem dX7_run_6 : decode cX7_run 6 = .ok (.iconst 0, 1) := by decide +kernel
theorem dX7_run_7 : decode cX7_run 7 = .ok (.putfield 19, 3) := by decide +kernel
theorem dX7_run_10 : decode cX7_run 10 = .ok (.iconst 0, 1) := by decide +kernel
theorem dX7_run_11 : decode cX7_run 11 = .ok (.istore 4, 2) := by decide +kernel
theorem dX7_run_13 : decode cX7_run 13 = .ok (.iload 4, 2) := by decide +kernel
theorem dX7_run_15 : decode cX7_run 15 = .ok (.aload_n 3, 1) := by decide +kernel
theorem dX7_run_16 : decode cX7_run 16 = .ok (.getfield 32, 3) := by decide +kernel
theorem dX7_run_19 : decode cX7_run 19 = .ok (.if_icmp .ge 31, 3) := by decide +kernel
theorem dX7_run_22 : decode cX7_run 22 = .ok (.aload_n 0, 1) := by decide +kernel
theorem dX7_run_23 : decode cX7_run 23 = .ok (.aload_n 0, 1) := by decide +kernel
theorem dX7_run_24 : decode cX7_run 24 = .ok (.getfield 15, 3) := by decide +kernel
theorem dX7_run_27 : decode cX7_run 27 = .ok (.aload_n 3, 1) := by decide +kernel
theorem dX7_run_28 : decode cX7_run 28 = .ok (.iload 4, 2) := by decide +kernel
theorem dX7_run_30 : decode cX7_run 30 = .ok (.iconst 0, 1) := by decide +kernel
theorem dX7_run_31 : decode cX7_run 31 = .ok (.invokevirtual 37, 3) := by decide +kernel
theorem dX7_run_34 : decode cX7_run 34 = .ok (.iconst 3, 1) := by decide +kernel
theorem dX7_run_35 : decode cX7_run 35 = .ok (.invokestatic 41, 3) := by decide +kernel
theorem dX7_run_38 : decode cX7_run 38 = .ok (.invokestatic 46, 3) := by decide +kernel
theorem dX7_run_41 : decode cX7_run 41 = .ok (.putfield 15, 3) := by decide +kernel
theorem dX7_run_44 : decode cX7_run 44 = .ok (.iinc 4 1, 3) := by decide +kernel
theorem dX7_run_47 : decode cX7_run 47 = .ok (.goto (-34), 3) := by decide +kernel
theorem dX7_run_50 : decode cX7_run 50 = .ok (.iconst 0, 1) := by decide +kernel
theorem dX7_run_51 : decode cX7_run 51 = .ok (.istore 4, 2) := by decide +kernel
theorem dX7_run_53 : decode cX7_run 53 = .ok (.iload 4, 2) := by decide +kernel
theorem dX7_run_55 : decode cX7_run 55 = .ok (.iconst 3, 1) := by decide +kernel
theorem dX7_run_56 : decode cX7_run 56 = .ok (.if_icmp .ge 17, 3) := by decide +kernel
theorem dX7_run_59 : decode cX7_run 59 = .ok (.aload_n 0, 1) := by decide +kernel
theorem dX7_run_60 : decode cX7_run 60 = .ok (.getfield 9, 3) := by decide +kernel
theorem dX7_run_63 : decode cX7_run 63 = .ok (.iload 4, 2) := by decide +kernel
theorem dX7_run_65 : decode cX7_run 65 = .ok (.iconst 0, 1) := by decide +kernel
theorem dX7_run_66 : decode cX7_run 66 = .ok (.iastore, 1) := by decide +kernel
theorem dX7_run_67 : decode cX7_run 67 = .ok (.iinc 4 1, 3) := by decide +kernel
theorem dX7_run_70 : decode cX7_run 70 = .ok (.goto (-17), 3) := by decide +kernel
theorem dX7_run_73 : decode cX7_run 73 = .ok (.aload_n 0, 1) := by decide +kernel
theorem dX7_run_74 : decode cX7_run 74 = .ok (.aload_n 1, 1) := by decide +kernel
theorem dX7_run_75 : decode cX7_run 75 = .ok (.aload_n 2, 1) := by decide +kernel
theorem dX7_run_76 : decode cX7_run 76 = .ok (.aload_n 3, 1) := by decide +kernel
theorem dX7_run_77 : decode cX7_run 77 = .ok (.iconst 0, 1) := by decide +kernel
theorem dX7_run_78 : decode cX7_run 78 = .ok (.invokevirtual 49, 3) := by decide +kernel
theorem dX7_run_81 : decode cX7_run 81 = .ok (.return_, 1) := by decide +kernel
def tX7_run (g : ax_G) : Nat → ax_O := ax_nd 38 (ax_nd 16 (ax_nd 6 (ax_nd 1 (ax_nd 0 (ax_lf 0 (ao_al 0 1)) (ax_lf 1 (ao_ic (0) 1))) (ax_nd 2 (ax_lf 2 (ao_pi 7 1)) (ax_nd 5 (ax_lf 5 (ao_al 0 1)) (ax_lf 6 (ao_ic (0) 1))))) (ax_nd 11 (ax_nd 7 (ax_lf 7 (ao_pi 7 2)) (ax_nd 10 (ax_lf 10 (ao_ic (0) 1)) (ax_lf 11 (ao_is 4 2)))) (ax_nd 13 (ax_lf 13 (ao_il 4 2)) (ax_nd 15 (ax_lf 15 (ao_al 3 1)) (ax_lf 16 (ao_gi 2 3)))))) (ax_nd 27 (ax_nd 22 (ax_nd 19 (ax_lf 19 (ao_icmp_ge 50)) (ax_lf 22 (ao_al 0 1))) (ax_nd 23 (ax_lf 23 (ao_al 0 1)) (ax_nd 24 (ax_lf 24 (ao_gi 7 1)) (ax_lf 27 (ao_al 3 1))))) (ax_nd 31 (ax_nd 28 (ax_lf 28 (ao_il 4 2)) (ax_nd 30 (ax_lf 30 (ao_ic (0) 1)) (ax_lf 31 (ao_inv g 2 2 1 yX2_cell cX2_cell 3 (some .int) 3 0 0 0 0)))) (ax_nd 34 (ax_lf 34 (ao_ic (3) 1)) (ax_nd 35 (ax_lf 35 ao_imin) (ax_lf 38 ao_imax)))))) (ax_nd 63 (ax_nd 51 (ax_nd 44 (ax_nd 41 (ax_lf 41 (ao_pi 7 1)) (ax_lf 44 (ao_iinc 4 (1)))) (ax_nd 47 (ax_lf 47 (ao_goto 13)) (ax_nd 50 (ax_lf 50 (ao_ic (0) 1)) (ax_lf 51 (ao_is 4 2))))) (ax_nd 56 (ax_nd 53 (ax_lf 53 (ao_il 4 2)) (ax_nd 55 (ax_lf 55 (ao_ic (3) 1)) (ax_lf 56 (ao_icmp_ge 73)))) (ax_nd 59 (ax_lf 59 (ao_al 0 1)) (ax_nd 60 (ax_lf 60 (ao_gr 7 0)) (ax_lf 63 (ao_il 4 2)))))) (ax_nd 73 (ax_nd 66 (ax_nd 65 (ax_lf 65 (ao_ic (0) 1)) (ax_lf 66 ao_iast)) (ax_nd 67 (ax_lf 67 (ao_iinc 4 (1))) (ax_nd 70 (ax_lf 70 (ao_goto 53)) (ax_lf 73 (ao_al 0 1))))) (ax_nd 76 (ax_nd 74 (ax_lf 74 (ao_al 1 1)) (ax_nd 75 (ax_lf 75 (ao_al 2 1)) (ax_lf 76 (ao_al 3 1)))) (ax_nd 77 (ax_lf 77 (ao_ic (0) 1)) (ax_nd 78 (ax_lf 78 (ao_inv g 12 7 0 yX7_follow cX7_follow 7 none 5 0 0 0 0)) (ax_lf 81 (ao_vret 0 0)))))))
theorem oX7_run (g : ax_G) : ∀ pc, ax_ok g cX7_run 5 none RX7 "run" 13 0 0 pc (tX7_run g pc) := ax_nd_ok (ax_nd_ok (ax_nd_ok (ax_nd_ok (ax_nd_ok (ax_lf_ok (ak_aload_n rfl dX7_run_0)) (ax_lf_ok (ak_iconst (by decide) dX7_run_1))) (ax_nd_ok (ax_lf_ok (ak_pi fF_X7_15 fW_X7_15_a dX7_run_2)) (ax_nd_ok (ax_lf_ok (ak_aload_n rfl dX7_run_5)) (ax_lf_ok (ak_iconst (by decide) dX7_run_6))))) (ax_nd_ok (ax_nd_ok (ax_lf_ok (ak_pi fF_X7_19 fW_X7_19_a dX7_run_7)) (ax_nd_ok (ax_lf_ok (ak_iconst (by decide) dX7_run_10)) (ax_lf_ok (ak_istore (by decide) dX7_run_11)))) (ax_nd_ok (ax_lf_ok (ak_iload dX7_run_13)) (ax_nd_ok (ax_lf_ok (ak_aload_n rfl dX7_run_15)) (ax_lf_ok (ak_gi fF_X7_32 dX7_run_16)))))) (ax_nd_ok (ax_nd_ok (ax_nd_ok (ax_lf_ok (ak_icmp_ge (by decide) dX7_run_19)) (ax_lf_ok (ak_aload_n rfl dX7_run_22))) (ax_nd_ok (ax_lf_ok (ak_aload_n rfl dX7_run_23)) (ax_nd_ok (ax_lf_ok (ak_gi fF_X7_15 dX7_run_24)) (ax_lf_ok (ak_aload_n rfl dX7_run_27))))) (ax_nd_ok (ax_nd_ok (ax_lf_ok (ak_iload dX7_run_28)) (ax_nd_ok (ax_lf_ok (ak_iconst (by decide) dX7_run_30)) (ax_lf_ok (ak_invV (by decide) (by decide) (by decide) rfl wd_941 wd_754 wd_755 wd_99 wd_756 ⟨by decide, by decide, by decide +kernel⟩ dX7_run_31)))) (ax_nd_ok (ax_lf_ok (ak_iconst (by decide) dX7_run_34)) (ax_nd_ok (ax_lf_ok (ak_imin (by decide) wd_942 wd_472 wd_107 wd_473 dX7_run_35)) (ax_lf_ok (ak_imax (by decide) wd_943 wd_475 wd_107 wd_476 dX7_run_38))))))) (ax_nd_ok (ax_nd_ok (ax_nd_ok (ax_nd_ok (ax_lf_ok (ak_pi fF_X7_15 fW_X7_15_a dX7_run_41)) (ax_lf_ok (ak_iinc (by decide) (by decide) dX7_run_44))) (ax_nd_ok (ax_lf_ok (ak_goto (by decide) dX7_run_47)) (ax_nd_ok (ax_lf_ok (ak_iconst (by decide) dX7_run_50)) (ax_lf_ok (ak_istore (by decide) dX7_run_51))))) (ax_nd_ok (ax_nd_ok (ax_lf_ok (ak_iload dX7_run_53)) (ax_nd_ok (ax_lf_ok (ak_iconst (by decide) dX7_run_55)) (ax_lf_ok (ak_icmp_ge (by decide) dX7_run_56)))) (ax_nd_ok (ax_lf_ok (ak_aload_n rfl dX7_run_59)) (ax_nd_ok (ax_lf_ok (ak_gr fF_X7_9 dX7_run_60)) (ax_lf_ok (ak_iload dX7_run_63)))))) (ax_nd_ok (ax_nd_ok (ax_nd_ok (ax_lf_ok (ak_iconst (by decide) dX7_run_65)) (ax_lf_ok (ak_iast dX7_run_66))) (ax_nd_ok (ax_lf_ok (ak_iinc (by decide) (by decide) dX7_run_67)) (ax_nd_ok (ax_lf_ok (ak_goto (by decide) dX7_run_70)) (ax_lf_ok (ak_aload_n rfl dX7_run_73))))) (ax_nd_ok (ax_nd_ok (ax_lf_ok (ak_aload_n rfl dX7_run_74)) (ax_nd_ok (ax_lf_ok (ak_aload_n rfl dX7_run_75)) (ax_lf_ok (ak_aload_n rfl dX7_run_76)))) (ax_nd_ok (ax_lf_ok (ak_iconst (by decide) dX7_run_77)) (ax_nd_ok (ax_lf_ok (ak_invV (by decide) (by decide) (by decide) rfl wd_944 wd_946 wd_18 wd_104 wd_947 ⟨by decide, by decide, by decide +kernel⟩ dX7_run_78)) (ax_lf_ok (ak_vret rfl dX7_run_81)))))))
abbrev mX7_run (g : ax_G) (as : List Value) (h : ax_H) (Ret : Option Value → ax_H → Prop) : Prop := ax_M g 13 0 0 yX7_run cX7_run 5 none as h Ret
theorem dX7_follow_0 : decode cX7_follow 0 = .ok (.iload 4, 2) := by decide +kernel
theorem dX7_follow_2 : decode cX7_follow 2 = .ok (.aload_n 0, 1) := by decide +kernel
theorem dX7_follow_3 : decode cX7_follow 3 = .ok (.getfield 15, 3) := by decide +kernel
theorem dX7_follow_6 : decode cX7_follow 6 = .ok (.if_icmp .ge 9, 3) := by decide +kernel
theorem dX7_follow_9 : decode cX7_follow 9 = .ok (.iload 4, 2) := by decide +kernel
theorem dX7_follow_11 : decode cX7_follow 11 = .ok (.iconst 3, 1) := by decide +kernel
theorem dX7_follow_12 : decode cX7_follow 12 = .ok (.if_icmp .lt 8, 3) := by decide +kernel
theorem dX7_follow_15 : decode cX7_follow 15 = .ok (.aload_n 0, 1) := by decide +kernel
theorem dX7_follow_16 : decode cX7_follow 16 = .ok (.invokevirtual 53, 3) := by decide +kernel
theorem dX7_follow_19 : decode cX7_follow 19 = .ok (.return_, 1) := by decide +kernel
theorem dX7_follow_20 : decode cX7_follow 20 = .ok (.aload_n 0, 1) := by decide +kernel
theorem dX7_follow_21 : decode cX7_follow 21 = .ok (.getfield 27, 3) := by decide +kernel
theorem dX7_follow_24 : decode cX7_follow 24 = .ok (.iload 4, 2) := by decide +kernel
theorem dX7_follow_26 : decode cX7_follow 26 = .ok (.aaload, 1) := by decide +kernel
theorem dX7_follow_27 : decode cX7_follow 27 = .ok (.astore 5, 2) := by decide +kernel
theorem dX7_follow_29 : decode cX7_follow 29 = .ok (.aload 5, 2) := by decide +kernel
theorem dX7_follow_31 : decode cX7_follow 31 = .ok (.ifnonnull 4, 3) := by decide +kernel
theorem dX7_follow_34 : decode cX7_follow 34 = .ok (.return_, 1) := by decide +kernel
theorem dX7_follow_35 : decode cX7_follow 35 = .ok (.aload 5, 2) := by decide +kernel
theorem dX7_follow_37 : decode cX7_follow 37 = .ok (.aload_n 1, 1) := by decide +kernel
theorem dX7_follow_38 : decode cX7_follow 38 = .ok (.aload_n 2, 1) := by decide +kernel
theorem dX7_follow_39 : decode cX7_follow 39 = .ok (.invokevirtual 56, 3) := by decide +kernel
theorem dX7_follow_42 : decode cX7_follow 42 = .ok (.invokevirtual 62, 3) := by decide +kernel
theorem dX7_follow_45 : decode cX7_follow 45 = .ok (.iconst 0, 1) := by decide +kernel
theorem dX7_follow_46 : decode cX7_follow 46 = .ok (.istore 6, 2) := by decide +kernel
theorem dX7_follow_48 : decode cX7_follow 48 = .ok (.iload 6, 2) := by decide +kernel
theorem dX7_follow_50 : decode cX7_follow 50 = .ok (.aload_n 1, 1) := by decide +kernel
theorem dX7_follow_51 : decode cX7_follow 51 = .ok (.getfield 66, 3) := by decide +kernel
theorem dX7_follow_54 : decode cX7_follow 54 = .ok (.if_icmp .ge 68, 3) := by decide +kernel
theorem dX7_follow_57 : decode cX7_follow 57 = .ok (.aload 5, 2) := by decide +kernel
theorem dX7_follow_59 : decode cX7_follow 59 = .ok (.getfield 71, 3) := by decide +kernel
theorem dX7_follow_62 : decode cX7_follow 62 = .ok (.iload 6, 2) := by decide +kernel
theorem dX7_follow_64 : decode cX7_follow 64 = .ok (.iaload, 1) := by decide +kernel
theorem dX7_follow_65 : decode cX7_follow 65 = .ok (.ifCond .ne 6, 3) := by decide +kernel
theorem dX7_follow_68 : decode cX7_follow 68 = .ok (.goto 48, 3) := by decide +kernel
theorem dX7_follow_71 : decode cX7_follow 71 = .ok (.aload_n 2, 1) := by decide +kernel
theorem dX7_follow_72 : decode cX7_follow 72 = .ok (.iload 6, 2) := by decide +kernel
theorem dX7_follow_74 : decode cX7_follow 74 = .ok (.invokevirtual 74, 3) := by decide +kernel
theorem dX7_follow_77 : decode cX7_follow 77 = .ok (.aload_n 0, 1) := by decide +kernel
theorem dX7_follow_78 : decode cX7_follow 78 = .ok (.getfield 22, 3) := by decide +kernel
theorem dX7_follow_81 : decode cX7_follow 81 = .ok (.iload 4, 2) := by decide +kernel
theorem dX7_follow_83 : decode cX7_follow 83 = .ok (.iload 6, 2) := by decide +kernel
theorem dX7_follow_85 : decode cX7_follow 85 = .ok (.iastore, 1) := by decide +kernel
theorem dX7_follow_86 : decode cX7_follow 86 = .ok (.aload_n 1, 1) := by decide +kernel
theorem dX7_follow_87 : decode cX7_follow 87 = .ok (.aload_n 2, 1) := by decide +kernel
theorem dX7_follow_88 : decode cX7_follow 88 = .ok (.aload_n 3, 1) := by decide +kernel
theorem dX7_follow_89 : decode cX7_follow 89 = .ok (.iload 4, 2) := by decide +kernel
theorem dX7_follow_91 : decode cX7_follow 91 = .ok (.iconst 1, 1) := by decide +kernel
theorem dX7_follow_92 : decode cX7_follow 92 = .ok (.iadd, 1) := by decide +kernel
theorem dX7_follow_93 : decode cX7_follow 93 = .ok (.invokestatic 78, 3) := by decide +kernel
theorem dX7_follow_96 : decode cX7_follow 96 = .ok (.ifCond .eq 14, 3) := by decide +kernel
theorem dX7_follow_99 : decode cX7_follow 99 = .ok (.aload_n 0, 1) := by decide +kernel
theorem dX7_follow_100 : decode cX7_follow 100 = .ok (.aload_n 1, 1) := by decide +kernel
theorem dX7_follow_101 : decode cX7_follow 101 = .ok (.aload_n 2, 1) := by decide +kernel
theorem dX7_follow_102 : decode cX7_follow 102 = .ok (.aload_n 3, 1) := by decide +kernel
theorem dX7_follow_103 : decode cX7_follow 103 = .ok (.iload 4, 2) := by decide +kernel
theorem dX7_follow_105 : decode cX7_follow 105 = .ok (.iconst 1, 1) := by decide +kernel
theorem dX7_follow_106 : decode cX7_follow 106 = .ok (.iadd, 1) := by decide +kernel
theorem dX7_follow_107 : decode cX7_follow 107 = .ok (.invokevirtual 49, 3) := by decide +kernel
theorem dX7_follow_110 : decode cX7_follow 110 = .ok (.aload_n 2, 1) := by decide +kernel
theorem dX7_follow_111 : decode cX7_follow 111 = .ok (.iload 6, 2) := by decide +kernel
theorem dX7_follow_113 : decode cX7_follow 113 = .ok (.invokevirtual 82, 3) := by decide +kernel
theorem dX7_follow_116 : decode cX7_follow 116 = .ok (.iinc 6 1, 3) := by decide +kernel
theorem dX7_follow_119 : decode cX7_follow 119 = .ok (.goto (-71), 3) := by decide +kernel
theorem dX7_follow_122 : decode cX7_follow 122 = .ok (.return_, 1) := by decide +kernel
def tX7_follow (g : ax_G) (n : Nat) : Nat → ax_O := ax_nd 62 (ax_nd 29 (ax_nd 15 (ax_nd 6 (ax_nd 2 (ax_nd 0 (ax_lf 0 (ao_il 4 2)) (ax_lf 2 (ao_al 0 1))) (ax_nd 3 (ax_lf 3 (ao_gi 7 1)) (ax_lf 6 (ao_icmp_ge 15)))) (ax_nd 11 (ax_nd 9 (ax_lf 9 (ao_il 4 2)) (ax_lf 11 (ao_ic (3) 1))) (ax_nd 12 (ax_lf 12 (ao_icmp_lt 20)) (ax_lf 15 (ao_al 0 1))))) (ax_nd 21 (ax_nd 19 (ax_nd 16 (ax_lf 16 (ao_inv g 1 7 0 yX7_keepRow cX7_keepRow 2 none 1 0 0 0 0)) (ax_lf 19 (ao_vret 0 0))) (ax_nd 20 (ax_lf 20 (ao_al 0 1)) (ax_lf 21 (ao_gr 7 4)))) (ax_nd 26 (ax_nd 24 (ax_lf 24 (ao_il 4 2)) (ax_lf 26 (ao_aaln 16))) (ax_nd 27 (ax_lf 27 (ao_as 5 2)) (ax_lf 29 (ao_al 5 2)))))) (ax_nd 45 (ax_nd 37 (ax_nd 34 (ax_nd 31 (ax_lf 31 (ao_ifnonnull 35)) (ax_lf 34 (ao_vret 0 0))) (ax_nd 35 (ax_lf 35 (ao_al 5 2)) (ax_lf 37 (ao_al 1 1)))) (ax_nd 39 (ax_nd 38 (ax_lf 38 (ao_al 2 1)) (ax_lf 39 (ao_inv g 1 0 1 yX0_poorest cX0_poorest 3 (some .int) 1 0 0 0 0))) (ax_nd 42 (ax_lf 42 (ao_inv g 3 3 0 yX3_weigh cX3_weigh 4 none 3 0 0 0 0)) (ax_lf 45 (ao_ic (0) 1))))) (ax_nd 51 (ax_nd 48 (ax_nd 46 (ax_lf 46 (ao_is 6 2)) (ax_lf 48 (ao_il 6 2))) (ax_nd 50 (ax_lf 50 (ao_al 1 1)) (ax_lf 51 (ao_gi 6 5)))) (ax_nd 57 (ax_nd 54 (ax_lf 54 (ao_icmp_ge 122)) (ax_lf 57 (ao_al 5 2))) (ax_nd 59 (ax_lf 59 (ao_gr 3 0)) (ax_lf 62 (ao_il 6 2))))))) (ax_nd 91 (ax_nd 78 (ax_nd 71 (ax_nd 65 (ax_nd 64 (ax_lf 64 ao_iald) (ax_lf 65 (ao_if_ne 71))) (ax_nd 68 (ax_lf 68 (ao_goto 116)) (ax_lf 71 (ao_al 2 1)))) (ax_nd 74 (ax_nd 72 (ax_lf 72 (ao_il 6 2)) (ax_lf 74 (ao_inv g 2 0 0 yX0_live cX0_live 3 none 2 0 0 0 0))) (ax_nd 77 (ax_lf 77 (ao_al 0 1)) (ax_lf 78 (ao_gr 7 3))))) (ax_nd 86 (ax_nd 83 (ax_nd 81 (ax_lf 81 (ao_il 4 2)) (ax_lf 83 (ao_il 6 2))) (ax_nd 85 (ax_lf 85 ao_iast) (ax_lf 86 (ao_al 1 1)))) (ax_nd 88 (ax_nd 87 (ax_lf 87 (ao_al 2 1)) (ax_lf 88 (ao_al 3 1))) (ax_nd 89 (ax_lf 89 (ao_il 4 2)) (ax_lf 91 (ao_ic (1) 1)))))) (ax_nd 103 (ax_nd 99 (ax_nd 93 (ax_nd 92 (ax_lf 92 ao_iadd) (ax_lf 93 (ao_inv g 3 99 1 yX7_isAsSeen cX7_isAsSeen 6 (some .boolean) 4 0 0 0 0))) (ax_nd 96 (ax_lf 96 (ao_if_eq 110)) (ax_lf 99 (ao_al 0 1)))) (ax_nd 101 (ax_nd 100 (ax_lf 100 (ao_al 1 1)) (ax_lf 101 (ao_al 2 1))) (ax_nd 102 (ax_lf 102 (ao_al 3 1)) (ax_lf 103 (ao_il 4 2))))) (ax_nd 110 (ax_nd 106 (ax_nd 105 (ax_lf 105 (ao_ic (1) 1)) (ax_lf 106 ao_iadd)) (ax_nd 107 (ax_lf 107 (ao_inv g (n + 4) 7 0 yX7_follow cX7_follow 7 none 5 0 0 0 0)) (ax_lf 110 (ao_al 2 1)))) (ax_nd 113 (ax_nd 111 (ax_lf 111 (ao_il 6 2)) (ax_lf 113 (ao_inv g 2 0 0 yX0_unlive cX0_unlive 3 none 2 0 0 0 0))) (ax_nd 116 (ax_lf 116 (ao_iinc 6 (1))) (ax_nd 119 (ax_lf 119 (ao_goto 48)) (ax_lf 122 (ao_vret 0 0))))))))
theorem oX7_follow (g : ax_G) (n : Nat) : ∀ pc, ax_ok g cX7_follow 7 none RX7 "follow" (n + 5) 0 0 pc (tX7_follow g n pc) := ax_nd_ok (ax_nd_ok (ax_nd_ok (ax_nd_ok (ax_nd_ok (ax_nd_ok (ax_lf_ok (ak_iload dX7_follow_0)) (ax_lf_ok (ak_aload_n rfl dX7_follow_2))) (ax_nd_ok (ax_lf_ok (ak_gi fF_X7_15 dX7_follow_3)) (ax_lf_ok (ak_icmp_ge (by decide) dX7_follow_6)))) (ax_nd_ok (ax_nd_ok (ax_lf_ok (ak_iload dX7_follow_9)) (ax_lf_ok (ak_iconst (by decide) dX7_follow_11))) (ax_nd_ok (ax_lf_ok (ak_icmp_lt (by decide) dX7_follow_12)) (ax_lf_ok (ak_aload_n rfl dX7_follow_15))))) (ax_nd_ok (ax_nd_ok (ax_nd_ok (ax_lf_ok (ak_invV (by omega) (by decide) (by decide) rfl wd_948 wd_950 wd_19 wd_104 wd_951 ⟨by decide, by decide, by decide +kernel⟩ dX7_follow_16)) (ax_lf_ok (ak_vret rfl dX7_follow_19))) (ax_nd_ok (ax_lf_ok (ak_aload_n rfl dX7_follow_20)) (ax_lf_ok (ak_gr fF_X7_27 dX7_follow_21)))) (ax_nd_ok (ax_nd_ok (ax_lf_ok (ak_iload dX7_follow_24)) (ax_lf_ok (ak_aaln (by decide) (by decide) (t0 := 5) rfl dX7_follow_26))) (ax_nd_ok (ax_lf_ok (ak_astore (by decide) dX7_follow_27)) (ax_lf_ok (ak_aload dX7_follow_29)))))) (ax_nd_ok (ax_nd_ok (ax_nd_ok (ax_nd_ok (ax_lf_ok (ak_ifnonnull (by decide) dX7_follow_31)) (ax_lf_ok (ak_vret rfl dX7_follow_34))) (ax_nd_ok (ax_lf_ok (ak_aload dX7_follow_35)) (ax_lf_ok (ak_aload_n rfl dX7_follow_37)))) (ax_nd_ok (ax_nd_ok (ax_lf_ok (ak_aload_n rfl dX7_follow_38)) (ax_lf_ok (ak_invV (by omega) (by decide) (by decide) rfl wd_952 wd_691 wd_692 wd_101 wd_693 ⟨by decide, by decide, by decide +kernel⟩ dX7_follow_39))) (ax_nd_ok (ax_lf_ok (ak_invV (by omega) (by decide) (by decide) rfl wd_953 wd_695 wd_696 wd_102 wd_697 ⟨by decide, by decide, by decide +kernel⟩ dX7_follow_42)) (ax_lf_ok (ak_iconst (by decide) dX7_follow_45))))) (ax_nd_ok (ax_nd_ok (ax_nd_ok (ax_lf_ok (ak_istore (by decide) dX7_follow_46)) (ax_lf_ok (ak_iload dX7_follow_48))) (ax_nd_ok (ax_lf_ok (ak_aload_n rfl dX7_follow_50)) (ax_lf_ok (ak_gi fF_X7_66 dX7_follow_51)))) (ax_nd_ok (ax_nd_ok (ax_lf_ok (ak_icmp_ge (by decide) dX7_follow_54)) (ax_lf_ok (ak_aload dX7_follow_57))) (ax_nd_ok (ax_lf_ok (ak_gr fF_X7_71 dX7_follow_59)) (ax_lf_ok (ak_iload dX7_follow_62))))))) (ax_nd_ok (ax_nd_ok (ax_nd_ok (ax_nd_ok (ax_nd_ok (ax_lf_ok (ak_iald dX7_follow_64)) (ax_lf_ok (ak_if_ne (by decide) dX7_follow_65))) (ax_nd_ok (ax_lf_ok (ak_goto (by decide) dX7_follow_68)) (ax_lf_ok (ak_aload_n rfl dX7_follow_71)))) (ax_nd_ok (ax_nd_ok (ax_lf_ok (ak_iload dX7_follow_72)) (ax_lf_ok (ak_invV (by omega) (by decide) (by decide) rfl wd_954 wd_766 wd_767 wd_101 wd_768 ⟨by decide, by decide, by decide +kernel⟩ dX7_follow_74))) (ax_nd_ok (ax_lf_ok (ak_aload_n rfl dX7_follow_77)) (ax_lf_ok (ak_gr fF_X7_22 dX7_follow_78))))) (ax_nd_ok (ax_nd_ok (ax_nd_ok (ax_lf_ok (ak_iload dX7_follow_81)) (ax_lf_ok (ak_iload dX7_follow_83))) (ax_nd_ok (ax_lf_ok (ak_iast dX7_follow_85)) (ax_lf_ok (ak_aload_n rfl dX7_follow_86)))) (ax_nd_ok (ax_nd_ok (ax_lf_ok (ak_aload_n rfl dX7_follow_87)) (ax_lf_ok (ak_aload_n rfl dX7_follow_88))) (ax_nd_ok (ax_lf_ok (ak_iload dX7_follow_89)) (ax_lf_ok (ak_iconst (by decide) dX7_follow_91)))))) (ax_nd_ok (ax_nd_ok (ax_nd_ok (ax_nd_ok (ax_lf_ok (ak_iadd dX7_follow_92)) (ax_lf_ok (ak_invS (by omega) (by decide) wd_955 wd_956 wd_104 wd_957 ⟨by decide, by decide, by decide +kernel⟩ dX7_follow_93))) (ax_nd_ok (ax_lf_ok (ak_if_eq (by decide) dX7_follow_96)) (ax_lf_ok (ak_aload_n rfl dX7_follow_99)))) (ax_nd_ok (ax_nd_ok (ax_lf_ok (ak_aload_n rfl dX7_follow_100)) (ax_lf_ok (ak_aload_n rfl dX7_follow_101))) (ax_nd_ok (ax_lf_ok (ak_aload_n rfl dX7_follow_102)) (ax_lf_ok (ak_iload dX7_follow_103))))) (ax_nd_ok (ax_nd_ok (ax_nd_ok (ax_lf_ok (ak_iconst (by decide) dX7_follow_105)) (ax_lf_ok (ak_iadd dX7_follow_106))) (ax_nd_ok (ax_lf_ok (ak_invV (by omega) (by decide) (by decide) rfl wd_944 wd_946 wd_18 wd_104 wd_947 ⟨by decide, by decide, by decide +kernel⟩ dX7_follow_107)) (ax_lf_ok (ak_aload_n rfl dX7_follow_110)))) (ax_nd_ok (ax_nd_ok (ax_lf_ok (ak_iload dX7_follow_111)) (ax_lf_ok (ak_invV (by omega) (by decide) (by decide) rfl wd_959 wd_960 wd_961 wd_101 wd_962 ⟨by decide, by decide, by decide +kernel⟩ dX7_follow_113))) (ax_nd_ok (ax_lf_ok (ak_iinc (by decide) (by decide) dX7_follow_116)) (ax_nd_ok (ax_lf_ok (ak_goto (by decide) dX7_follow_119)) (ax_lf_ok (ak_vret rfl dX7_follow_122))))))))
abbrev mX7_follow (g : ax_G) (n : Nat) (as : List Value) (h : ax_H) (Ret : Option Value → ax_H → Prop) : Prop := ax_M g (n + 5) 0 0 yX7_follow cX7_follow 7 none as h Ret
theorem dX7_isAsSeen_0 : decode cX7_isAsSeen 0 = .ok (.iconst 0, 1) := by decide +kernel
theorem dX7_isAsSeen_1 : decode cX7_isAsSeen 1 = .ok (.istore 4, 2) := by decide +kernel
theorem dX7_isAsSeen_3 : decode cX7_isAsSeen 3 = .ok (.iload 4, 2) := by decide +kernel
theorem dX7_isAsSeen_5 : decode cX7_isAsSeen 5 = .ok (.aload_n 2, 1) := by decide +kernel
theorem dX7_isAsSeen_6 : decode cX7_isAsSeen 6 = .ok (.getfield 32, 3) := by decide +kernel
theorem dX7_isAsSeen_9 : decode cX7_isAsSeen 9 = .ok (.if_icmp .ge 57, 3) := by decide +kernel
theorem dX7_isAsSeen_12 : decode cX7_isAsSeen 12 = .ok (.aload_n 2, 1) := by decide +kernel
theorem dX7_isAsSeen_13 : decode cX7_isAsSeen 13 = .ok (.iload 4, 2) := by decide +kernel
theorem dX7_isAsSeen_15 : decode cX7_isAsSeen 15 = .ok (.iconst 1, 1) := by decide +kernel
theorem dX7_isAsSeen_16 : decode cX7_isAsSeen 16 = .ok (.invokevirtual 37, 3) := by decide +kernel
theorem dX7_isAsSeen_19 : decode cX7_isAsSeen 19 = .ok (.istore 5, 2) := by decide +kernel
theorem dX7_isAsSeen_21 : decode cX7_isAsSeen 21 = .ok (.aload_n 2, 1) := by decide +kernel
theorem dX7_isAsSeen_22 : decode cX7_isAsSeen 22 = .ok (.iload 4, 2) := by decide +kernel
theorem dX7_isAsSeen_24 : decode cX7_isAsSeen 24 = .ok (.iconst 0, 1) := by decide +kernel
theorem dX7_isAsSeen_25 : decode cX7_isAsSeen 25 = .ok (.invokevirtual 37, 3) := by decide +kernel
theorem dX7_isAsSeen_28 : decode cX7_isAsSeen 28 = .ok (.iload_n 3, 1) := by decide +kernel
theorem dX7_isAsSeen_29 : decode cX7_isAsSeen 29 = .ok (.if_icmp .ne 31, 3) := by decide +kernel
theorem dX7_isAsSeen_32 : decode cX7_isAsSeen 32 = .ok (.aload_n 0, 1) := by decide +kernel
theorem dX7_isAsSeen_33 : decode cX7_isAsSeen 33 = .ok (.iload 5, 2) := by decide +kernel
theorem dX7_isAsSeen_35 : decode cX7_isAsSeen 35 = .ok (.invokevirtual 85, 3) := by decide +kernel
theorem dX7_isAsSeen_38 : decode cX7_isAsSeen 38 = .ok (.ifCond .eq 20, 3) := by decide +kernel
theorem dX7_isAsSeen_41 : decode cX7_isAsSeen 41 = .ok (.aload_n 1, 1) := by decide +kernel
theorem dX7_isAsSeen_42 : decode cX7_isAsSeen 42 = .ok (.getfield 89, 3) := by decide +kernel
theorem dX7_isAsSeen_45 : decode cX7_isAsSeen 45 = .ok (.iload 5, 2) := by decide +kernel
theorem dX7_isAsSeen_47 : decode cX7_isAsSeen 47 = .ok (.iaload, 1) := by decide +kernel
theorem dX7_isAsSeen_48 : decode cX7_isAsSeen 48 = .ok (.aload_n 2, 1) := by decide +kernel
theorem dX7_isAsSeen_49 : decode cX7_isAsSeen 49 = .ok (.iload 4, 2) := by decide +kernel
theorem dX7_isAsSeen_51 : decode cX7_isAsSeen 51 = .ok (.iconst 2, 1) := by decide +kernel
theorem dX7_isAsSeen_52 : decode cX7_isAsSeen 52 = .ok (.invokevirtual 37, 3) := by decide +kernel
theorem dX7_isAsSeen_55 : decode cX7_isAsSeen 55 = .ok (.if_icmp .eq 5, 3) := by decide +kernel
theorem dX7_isAsSeen_58 : decode cX7_isAsSeen 58 = .ok (.iconst 0, 1) := by decide +kernel
theorem dX7_isAsSeen_59 : decode cX7_isAsSeen 59 = .ok (.ireturn, 1) := by decide +kernel
theorem dX7_isAsSeen_60 : decode cX7_isAsSeen 60 = .ok (.iinc 4 1, 3) := by decide +kernel
theorem dX7_isAsSeen_63 : decode cX7_isAsSeen 63 = .ok (.goto (-60), 3) := by decide +kernel
theorem dX7_isAsSeen_66 : decode cX7_isAsSeen 66 = .ok (.iconst 1, 1) := by decide +kernel
theorem dX7_isAsSeen_67 : decode cX7_isAsSeen 67 = .ok (.ireturn, 1) := by decide +kernel
def tX7_isAsSeen (g : ax_G) : Nat → ax_O := ax_nd 32 (ax_nd 15 (ax_nd 5 (ax_nd 1 (ax_nd 0 (ax_lf 0 (ao_ic (0) 1)) (ax_lf 1 (ao_is 4 2))) (ax_nd 3 (ax_lf 3 (ao_il 4 2)) (ax_lf 5 (ao_al 2 1)))) (ax_nd 9 (ax_nd 6 (ax_lf 6 (ao_gi 2 3)) (ax_lf 9 (ao_icmp_ge 66))) (ax_nd 12 (ax_lf 12 (ao_al 2 1)) (ax_nd 13 (ax_lf 13 (ao_il 4 2)) (ax_lf 15 (ao_ic (1) 1)))))) (ax_nd 22 (ax_nd 19 (ax_nd 16 (ax_lf 16 (ao_inv g 2 2 1 yX2_cell cX2_cell 3 (some .int) 3 0 0 0 0)) (ax_lf 19 (ao_is 5 2))) (ax_nd 21 (ax_lf 21 (ao_al 2 1)) (ax_lf 22 (ao_il 4 2)))) (ax_nd 25 (ax_nd 24 (ax_lf 24 (ao_ic (0) 1)) (ax_lf 25 (ao_inv g 2 2 1 yX2_cell cX2_cell 3 (some .int) 3 0 0 0 0))) (ax_nd 28 (ax_lf 28 (ao_il 3 1)) (ax_nd 29 (ax_lf 29 (ao_icmp_ne 60)) (ax_lf 32 (ao_al 0 1))))))) (ax_nd 49 (ax_nd 41 (ax_nd 35 (ax_nd 33 (ax_lf 33 (ao_il 5 2)) (ax_lf 35 (ao_inv g 1 6 1 yX6_hasPerson cX6_hasPerson 2 (some .boolean) 2 0 0 0 0))) (ax_nd 38 (ax_lf 38 (ao_if_eq 58)) (ax_lf 41 (ao_al 1 1)))) (ax_nd 45 (ax_nd 42 (ax_lf 42 (ao_gr 0 0)) (ax_lf 45 (ao_il 5 2))) (ax_nd 47 (ax_lf 47 ao_iald) (ax_nd 48 (ax_lf 48 (ao_al 2 1)) (ax_lf 49 (ao_il 4 2)))))) (ax_nd 58 (ax_nd 52 (ax_nd 51 (ax_lf 51 (ao_ic (2) 1)) (ax_lf 52 (ao_inv g 2 2 1 yX2_cell cX2_cell 3 (some .int) 3 0 0 0 0))) (ax_nd 55 (ax_lf 55 (ao_icmp_eq 60)) (ax_lf 58 (ao_ic (0) 1)))) (ax_nd 60 (ax_nd 59 (ax_lf 59 (ao_zret 0 0)) (ax_lf 60 (ao_iinc 4 (1)))) (ax_nd 63 (ax_lf 63 (ao_goto 3)) (ax_nd 66 (ax_lf 66 (ao_ic (1) 1)) (ax_lf 67 (ao_zret 0 0)))))))
theorem oX7_isAsSeen (g : ax_G) : ∀ pc, ax_ok g cX7_isAsSeen 6 (some .boolean) RX7 "isAsSeen" 3 0 0 pc (tX7_isAsSeen g pc) := ax_nd_ok (ax_nd_ok (ax_nd_ok (ax_nd_ok (ax_nd_ok (ax_lf_ok (ak_iconst (by decide) dX7_isAsSeen_0)) (ax_lf_ok (ak_istore (by decide) dX7_isAsSeen_1))) (ax_nd_ok (ax_lf_ok (ak_iload dX7_isAsSeen_3)) (ax_lf_ok (ak_aload_n rfl dX7_isAsSeen_5)))) (ax_nd_ok (ax_nd_ok (ax_lf_ok (ak_gi fF_X7_32 dX7_isAsSeen_6)) (ax_lf_ok (ak_icmp_ge (by decide) dX7_isAsSeen_9))) (ax_nd_ok (ax_lf_ok (ak_aload_n rfl dX7_isAsSeen_12)) (ax_nd_ok (ax_lf_ok (ak_iload dX7_isAsSeen_13)) (ax_lf_ok (ak_iconst (by decide) dX7_isAsSeen_15)))))) (ax_nd_ok (ax_nd_ok (ax_nd_ok (ax_lf_ok (ak_invV (by decide) (by decide) (by decide) rfl wd_941 wd_754 wd_755 wd_99 wd_756 ⟨by decide, by decide, by decide +kernel⟩ dX7_isAsSeen_16)) (ax_lf_ok (ak_istore (by decide) dX7_isAsSeen_19))) (ax_nd_ok (ax_lf_ok (ak_aload_n rfl dX7_isAsSeen_21)) (ax_lf_ok (ak_iload dX7_isAsSeen_22)))) (ax_nd_ok (ax_nd_ok (ax_lf_ok (ak_iconst (by decide) dX7_isAsSeen_24)) (ax_lf_ok (ak_invV (by decide) (by decide) (by decide) rfl wd_941 wd_754 wd_755 wd_99 wd_756 ⟨by decide, by decide, by decide +kernel⟩ dX7_isAsSeen_25))) (ax_nd_ok (ax_lf_ok (ak_iload_n rfl dX7_isAsSeen_28)) (ax_nd_ok (ax_lf_ok (ak_icmp_ne (by decide) dX7_isAsSeen_29)) (ax_lf_ok (ak_aload_n rfl dX7_isAsSeen_32))))))) (ax_nd_ok (ax_nd_ok (ax_nd_ok (ax_nd_ok (ax_lf_ok (ak_iload dX7_isAsSeen_33)) (ax_lf_ok (ak_invV (by decide) (by decide) (by decide) rfl wd_958 wd_666 wd_667 wd_98 wd_668 ⟨by decide, by decide, by decide +kernel⟩ dX7_isAsSeen_35))) (ax_nd_ok (ax_lf_ok (ak_if_eq (by decide) dX7_isAsSeen_38)) (ax_lf_ok (ak_aload_n rfl dX7_isAsSeen_41)))) (ax_nd_ok (ax_nd_ok (ax_lf_ok (ak_gr fF_X7_89 dX7_isAsSeen_42)) (ax_lf_ok (ak_iload dX7_isAsSeen_45))) (ax_nd_ok (ax_lf_ok (ak_iald dX7_isAsSeen_47)) (ax_nd_ok (ax_lf_ok (ak_aload_n rfl dX7_isAsSeen_48)) (ax_lf_ok (ak_iload dX7_isAsSeen_49)))))) (ax_nd_ok (ax_nd_ok (ax_nd_ok (ax_lf_ok (ak_iconst (by decide) dX7_isAsSeen_51)) (ax_lf_ok (ak_invV (by decide) (by decide) (by decide) rfl wd_941 wd_754 wd_755 wd_99 wd_756 ⟨by decide, by decide, by decide +kernel⟩ dX7_isAsSeen_52))) (ax_nd_ok (ax_lf_ok (ak_icmp_eq (by decide) dX7_isAsSeen_55)) (ax_lf_ok (ak_iconst (by decide) dX7_isAsSeen_58)))) (ax_nd_ok (ax_nd_ok (ax_lf_ok (ak_zret rfl dX7_isAsSeen_59)) (ax_lf_ok (ak_iinc (by decide) (by decide) dX7_isAsSeen_60))) (ax_nd_ok (ax_lf_ok (ak_goto (by decide) dX7_isAsSeen_63)) (ax_nd_ok (ax_lf_ok (ak_iconst (by decide) dX7_isAsSeen_66)) (ax_lf_ok (ak_zret rfl dX7_isAsSeen_67)))))))
abbrev mX7_isAsSeen (g : ax_G) (as : List Value) (h : ax_H) (Ret : Option Value → ax_H → Prop) : Prop := ax_M g 3 0 0 yX7_isAsSeen cX7_isAsSeen 6 (some .boolean) as h Ret
theorem dX7_keepRow_0 : decode cX7_keepRow 0 = .ok (.aload_n 0, 1) := by decide +kernel
theorem dX7_keepRow_1 : decode cX7_keepRow 1 = .ok (.dup, 1) := by decide +kernel
theorem dX7_keepRow_2 : decode cX7_keepRow 2 = .ok (.getfield 19, 3) := by decide +kernel
theorem dX7_keepRow_5 : decode cX7_keepRow 5 = .ok (.iconst 1, 1) := by decide +kernel
theorem dX7_keepRow_6 : decode cX7_keepRow 6 = .ok (.iadd, 1) := by decide +kernel
theorem dX7_keepRow_7 : decode cX7_keepRow 7 = .ok (.putfield 19, 3) := by decide +kernel
theorem dX7_keepRow_10 : decode cX7_keepRow 10 = .ok (.iconst 0, 1) := by decide +kernel
theorem dX7_keepRow_11 : decode cX7_keepRow 11 = .ok (.istore_n 1, 1) := by decide +kernel
theorem dX7_keepRow_12 : decode cX7_keepRow 12 = .ok (.iload_n 1, 1) := by decide +kernel
theorem dX7_keepRow_13 : decode cX7_keepRow 13 = .ok (.aload_n 0, 1) := by decide +kernel
theorem dX7_keepRow_14 : decode cX7_keepRow 14 = .ok (.getfield 15, 3) := by decide +kernel
theorem dX7_keepRow_17 : decode cX7_keepRow 17 = .ok (.if_icmp .ge 26, 3) := by decide +kernel
theorem dX7_keepRow_20 : decode cX7_keepRow 20 = .ok (.aload_n 0, 1) := by decide +kernel
theorem dX7_keepRow_21 : decode cX7_keepRow 21 = .ok (.getfield 9, 3) := by decide +kernel
theorem dX7_keepRow_24 : decode cX7_keepRow 24 = .ok (.iload_n 1, 1) := by decide +kernel
theorem dX7_keepRow_25 : decode cX7_keepRow 25 = .ok (.dup2, 1) := by decide +kernel
theorem dX7_keepRow_26 : decode cX7_keepRow 26 = .ok (.iaload, 1) := by decide +kernel
theorem dX7_keepRow_27 : decode cX7_keepRow 27 = .ok (.iconst 1, 1) := by decide +kernel
theorem dX7_keepRow_28 : decode cX7_keepRow 28 = .ok (.aload_n 0, 1) := by decide +kernel
theorem dX7_keepRow_29 : decode cX7_keepRow 29 = .ok (.getfield 22, 3) := by decide +kernel
theorem dX7_keepRow_32 : decode cX7_keepRow 32 = .ok (.iload_n 1, 1) := by decide +kernel
theorem dX7_keepRow_33 : decode cX7_keepRow 33 = .ok (.iaload, 1) := by decide +kernel
theorem dX7_keepRow_34 : decode cX7_keepRow 34 = .ok (.ishl, 1) := by decide +kernel
theorem dX7_keepRow_35 : decode cX7_keepRow 35 = .ok (.ior, 1) := by decide +kernel
theorem dX7_keepRow_36 : decode cX7_keepRow 36 = .ok (.iastore, 1) := by decide +kernel
theorem dX7_keepRow_37 : decode cX7_keepRow 37 = .ok (.iinc 1 1, 3) := by decide +kernel
theorem dX7_keepRow_40 : decode cX7_keepRow 40 = .ok (.goto (-28), 3) := by decide +kernel
theorem dX7_keepRow_43 : decode cX7_keepRow 43 = .ok (.return_, 1) := by decide +kernel
def tX7_keepRow (g : ax_G) : Nat → ax_O := ax_nd 21 (ax_nd 10 (ax_nd 2 (ax_nd 0 (ax_lf 0 (ao_al 0 1)) (ax_nd 1 (ax_lf 1 ao_dup) (ax_lf 2 (ao_gi 7 2)))) (ax_nd 6 (ax_nd 5 (ax_lf 5 (ao_ic (1) 1)) (ax_lf 6 ao_iadd)) (ax_nd 7 (ax_lf 7 (ao_pi 7 2)) (ax_lf 10 (ao_ic (0) 1))))) (ax_nd 13 (ax_nd 11 (ax_lf 11 (ao_is 1 1)) (ax_nd 12 (ax_lf 12 (ao_il 1 1)) (ax_lf 13 (ao_al 0 1)))) (ax_nd 17 (ax_nd 14 (ax_lf 14 (ao_gi 7 1)) (ax_lf 17 (ao_icmp_ge 43))) (ax_nd 20 (ax_lf 20 (ao_al 0 1)) (ax_lf 21 (ao_gr 7 0)))))) (ax_nd 32 (ax_nd 26 (ax_nd 24 (ax_lf 24 (ao_il 1 1)) (ax_nd 25 (ax_lf 25 ao_dup2) (ax_lf 26 ao_iald))) (ax_nd 28 (ax_nd 27 (ax_lf 27 (ao_ic (1) 1)) (ax_lf 28 (ao_al 0 1))) (ax_nd 29 (ax_lf 29 (ao_gr 7 3)) (ax_lf 32 (ao_il 1 1))))) (ax_nd 35 (ax_nd 33 (ax_lf 33 ao_iald) (ax_nd 34 (ax_lf 34 ao_ishl) (ax_lf 35 ao_ior))) (ax_nd 37 (ax_nd 36 (ax_lf 36 ao_iast) (ax_lf 37 (ao_iinc 1 (1)))) (ax_nd 40 (ax_lf 40 (ao_goto 12)) (ax_lf 43 (ao_vret 0 0))))))
theorem oX7_keepRow (g : ax_G) : ∀ pc, ax_ok g cX7_keepRow 2 none RX7 "keepRow" 1 0 0 pc (tX7_keepRow g pc) := ax_nd_ok (ax_nd_ok (ax_nd_ok (ax_nd_ok (ax_lf_ok (ak_aload_n rfl dX7_keepRow_0)) (ax_nd_ok (ax_lf_ok (ak_dup dX7_keepRow_1)) (ax_lf_ok (ak_gi fF_X7_19 dX7_keepRow_2)))) (ax_nd_ok (ax_nd_ok (ax_lf_ok (ak_iconst (by decide) dX7_keepRow_5)) (ax_lf_ok (ak_iadd dX7_keepRow_6))) (ax_nd_ok (ax_lf_ok (ak_pi fF_X7_19 fW_X7_19_a dX7_keepRow_7)) (ax_lf_ok (ak_iconst (by decide) dX7_keepRow_10))))) (ax_nd_ok (ax_nd_ok (ax_lf_ok (ak_istore_n rfl (by decide) dX7_keepRow_11)) (ax_nd_ok (ax_lf_ok (ak_iload_n rfl dX7_keepRow_12)) (ax_lf_ok (ak_aload_n rfl dX7_keepRow_13)))) (ax_nd_ok (ax_nd_ok (ax_lf_ok (ak_gi fF_X7_15 dX7_keepRow_14)) (ax_lf_ok (ak_icmp_ge (by decide) dX7_keepRow_17))) (ax_nd_ok (ax_lf_ok (ak_aload_n rfl dX7_keepRow_20)) (ax_lf_ok (ak_gr fF_X7_9 dX7_keepRow_21)))))) (ax_nd_ok (ax_nd_ok (ax_nd_ok (ax_lf_ok (ak_iload_n rfl dX7_keepRow_24)) (ax_nd_ok (ax_lf_ok (ak_dup2 dX7_keepRow_25)) (ax_lf_ok (ak_iald dX7_keepRow_26)))) (ax_nd_ok (ax_nd_ok (ax_lf_ok (ak_iconst (by decide) dX7_keepRow_27)) (ax_lf_ok (ak_aload_n rfl dX7_keepRow_28))) (ax_nd_ok (ax_lf_ok (ak_gr fF_X7_22 dX7_keepRow_29)) (ax_lf_ok (ak_iload_n rfl dX7_keepRow_32))))) (ax_nd_ok (ax_nd_ok (ax_lf_ok (ak_iald dX7_keepRow_33)) (ax_nd_ok (ax_lf_ok (ak_ishl dX7_keepRow_34)) (ax_lf_ok (ak_ior dX7_keepRow_35)))) (ax_nd_ok (ax_nd_ok (ax_lf_ok (ak_iast dX7_keepRow_36)) (ax_lf_ok (ak_iinc (by decide) (by decide) dX7_keepRow_37))) (ax_nd_ok (ax_lf_ok (ak_goto (by decide) dX7_keepRow_40)) (ax_lf_ok (ak_vret rfl dX7_keepRow_43))))))
abbrev mX7_keepRow (g : ax_G) (as : List Value) (h : ax_H) (Ret : Option Value → ax_H → Prop) : Prop := ax_M g 1 0 0 yX7_keepRow cX7_keepRow 2 none as h Ret
theorem dX7_sureHour_0 : decode cX7_sureHour 0 = .ok (.iload_n 1, 1) := by decide +kernel
theorem dX7_sureHour_1 : decode cX7_sureHour 1 = .ok (.ifCond .lt 8, 3) := by decide +kernel
theorem dX7_sureHour_4 : decode cX7_sureHour 4 = .ok (.iload_n 1, 1) := by decide +kernel
theorem dX7_sureHour_5 : decode cX7_sureHour 5 = .ok (.iconst 3, 1) := by decide +kernel
theorem dX7_sureHour_6 : decode cX7_sureHour 6 = .ok (.if_icmp .lt 5, 3) := by decide +kernel
theorem dX7_sureHour_9 : decode cX7_sureHour 9 = .ok (.iconst (-1), 1) := by decide +kernel
theorem dX7_sureHour_10 : decode cX7_sureHour 10 = .ok (.ireturn, 1) := by decide +kernel
theorem dX7_sureHour_11 : decode cX7_sureHour 11 = .ok (.iconst 0, 1) := by decide +kernel
theorem dX7_sureHour_12 : decode cX7_sureHour 12 = .ok (.istore_n 2, 1) := by decide +kernel
theorem dX7_sureHour_13 : decode cX7_sureHour 13 = .ok (.iload_n 2, 1) := by decide +kernel
theorem dX7_sureHour_14 : decode cX7_sureHour 14 = .ok (.bipush 12, 2) := by decide +kernel
theorem dX7_sureHour_16 : decode cX7_sureHour 16 = .ok (.if_icmp .ge 23, 3) := by decide +kernel
theorem dX7_sureHour_19 : decode cX7_sureHour 19 = .ok (.aload_n 0, 1) := by decide +kernel
theorem dX7_sureHour_20 : decode cX7_sureHour 20 = .ok (.getfield 9, 3) := by decide +kernel
theorem dX7_sureHour_23 : decode cX7_sureHour 23 = .ok (.iload_n 1, 1) := by decide +kernel
theorem dX7_sureHour_24 : decode cX7_sureHour 24 = .ok (.iaload, 1) := by decide +kernel
theorem dX7_sureHour_25 : decode cX7_sureHour 25 = .ok (.iconst 1, 1) := by decide +kernel
theorem dX7_sureHour_26 : decode cX7_sureHour 26 = .ok (.iload_n 2, 1) := by decide +kernel
theorem dX7_sureHour_27 : decode cX7_sureHour 27 = .ok (.ishl, 1) := by decide +kernel
theorem dX7_sureHour_28 : decode cX7_sureHour 28 = .ok (.if_icmp .ne 5, 3) := by decide +kernel
theorem dX7_sureHour_31 : decode cX7_sureHour 31 = .ok (.iload_n 2, 1) := by decide +kernel
theorem dX7_sureHour_32 : decode cX7_sureHour 32 = .ok (.ireturn, 1) := by decide +kernel
theorem dX7_sureHour_33 : decode cX7_sureHour 33 = .ok (.iinc 2 1, 3) := by decide +kernel
theorem dX7_sureHour_36 : decode cX7_sureHour 36 = .ok (.goto (-23), 3) := by decide +kernel
theorem dX7_sureHour_39 : decode cX7_sureHour 39 = .ok (.iconst (-1), 1) := by decide +kernel
theorem dX7_sureHour_40 : decode cX7_sureHour 40 = .ok (.ireturn, 1) := by decide +kernel
def tX7_sureHour (g : ax_G) : Nat → ax_O := ax_nd 19 (ax_nd 9 (ax_nd 4 (ax_nd 0 (ax_lf 0 (ao_il 1 1)) (ax_nd 1 (ax_lf 1 (ao_if_lt 9)) (ax_lf 4 (ao_il 1 1)))) (ax_nd 5 (ax_lf 5 (ao_ic (3) 1)) (ax_nd 6 (ax_lf 6 (ao_icmp_lt 11)) (ax_lf 9 (ao_ic (-1) 1))))) (ax_nd 12 (ax_nd 10 (ax_lf 10 (ao_iret 0 0)) (ax_nd 11 (ax_lf 11 (ao_ic (0) 1)) (ax_lf 12 (ao_is 2 1)))) (ax_nd 14 (ax_nd 13 (ax_lf 13 (ao_il 2 1)) (ax_lf 14 (ao_ic (12) 2))) (ax_nd 16 (ax_lf 16 (ao_icmp_ge 39)) (ax_lf 19 (ao_al 0 1)))))) (ax_nd 27 (ax_nd 24 (ax_nd 20 (ax_lf 20 (ao_gr 7 0)) (ax_nd 23 (ax_lf 23 (ao_il 1 1)) (ax_lf 24 ao_iald))) (ax_nd 25 (ax_lf 25 (ao_ic (1) 1)) (ax_nd 26 (ax_lf 26 (ao_il 2 1)) (ax_lf 27 ao_ishl)))) (ax_nd 32 (ax_nd 28 (ax_lf 28 (ao_icmp_ne 33)) (ax_nd 31 (ax_lf 31 (ao_il 2 1)) (ax_lf 32 (ao_iret 0 0)))) (ax_nd 36 (ax_nd 33 (ax_lf 33 (ao_iinc 2 (1))) (ax_lf 36 (ao_goto 13))) (ax_nd 39 (ax_lf 39 (ao_ic (-1) 1)) (ax_lf 40 (ao_iret 0 0))))))
theorem oX7_sureHour (g : ax_G) : ∀ pc, ax_ok g cX7_sureHour 3 (some .int) RX7 "sureHour" 1 0 0 pc (tX7_sureHour g pc) := ax_nd_ok (ax_nd_ok (ax_nd_ok (ax_nd_ok (ax_lf_ok (ak_iload_n rfl dX7_sureHour_0)) (ax_nd_ok (ax_lf_ok (ak_if_lt (by decide) dX7_sureHour_1)) (ax_lf_ok (ak_iload_n rfl dX7_sureHour_4)))) (ax_nd_ok (ax_lf_ok (ak_iconst (by decide) dX7_sureHour_5)) (ax_nd_ok (ax_lf_ok (ak_icmp_lt (by decide) dX7_sureHour_6)) (ax_lf_ok (ak_iconst (by decide) dX7_sureHour_9))))) (ax_nd_ok (ax_nd_ok (ax_lf_ok (ak_iret rfl dX7_sureHour_10)) (ax_nd_ok (ax_lf_ok (ak_iconst (by decide) dX7_sureHour_11)) (ax_lf_ok (ak_istore_n rfl (by decide) dX7_sureHour_12)))) (ax_nd_ok (ax_nd_ok (ax_lf_ok (ak_iload_n rfl dX7_sureHour_13)) (ax_lf_ok (ak_bipush (by decide) dX7_sureHour_14))) (ax_nd_ok (ax_lf_ok (ak_icmp_ge (by decide) dX7_sureHour_16)) (ax_lf_ok (ak_aload_n rfl dX7_sureHour_19)))))) (ax_nd_ok (ax_nd_ok (ax_nd_ok (ax_lf_ok (ak_gr fF_X7_9 dX7_sureHour_20)) (ax_nd_ok (ax_lf_ok (ak_iload_n rfl dX7_sureHour_23)) (ax_lf_ok (ak_iald dX7_sureHour_24)))) (ax_nd_ok (ax_lf_ok (ak_iconst (by decide) dX7_sureHour_25)) (ax_nd_ok (ax_lf_ok (ak_iload_n rfl dX7_sureHour_26)) (ax_lf_ok (ak_ishl dX7_sureHour_27))))) (ax_nd_ok (ax_nd_ok (ax_lf_ok (ak_icmp_ne (by decide) dX7_sureHour_28)) (ax_nd_ok (ax_lf_ok (ak_iload_n rfl dX7_sureHour_31)) (ax_lf_ok (ak_iret rfl dX7_sureHour_32)))) (ax_nd_ok (ax_nd_ok (ax_lf_ok (ak_iinc (by decide) (by decide) dX7_sureHour_33)) (ax_lf_ok (ak_goto (by decide) dX7_sureHour_36))) (ax_nd_ok (ax_lf_ok (ak_iconst (by decide) dX7_sureHour_39)) (ax_lf_ok (ak_iret rfl dX7_sureHour_40))))))
abbrev mX7_sureHour (g : ax_G) (as : List Value) (h : ax_H) (Ret : Option Value → ax_H → Prop) : Prop := ax_M g 1 0 0 yX7_sureHour cX7_sureHour 3 (some .int) as h Ret
end
