section
theorem dX4_init_0 : decode cX4_init 0 = .ok (.aload_n 0, 1) := by decide +kernel
theorem dX4_init_1 : decode cX4_init 1 = .ok (.invokespecial 3, 3) := by decide +kernel
theorem dX4_init_4 : decode cX4_init 4 = .ok (.aload_n 0, 1) := by decide +kernel
theorem dX4_init_5 : decode cX4_init 5 = .ok (.bipush 6, 2) := by decide +kernel
theorem dX4_init_7 : decode cX4_init 7 = .ok (.newarray .int, 2) := by decide +kernel
theorem dX4_init_9 : decode cX4_init 9 = .ok (.putfield 9, 3) := by decide +kernel
theorem dX4_init_12 : decode cX4_init 12 = .ok (.aload_n 0, 1) := by decide +kernel
theorem dX4_init_13 : decode cX4_init 13 = .ok (.lconst 0, 1) := by decide +kernel
theorem dX4_init_14 : decode cX4_init 14 = .ok (.putfield 15, 3) := by decide +kernel
theorem dX4_init_17 : decode cX4_init 17 = .ok (.aload_n 0, 1) := by decide +kernel
theorem dX4_init_18 : decode cX4_init 18 = .ok (.lconst 0, 1) := by decide +kernel
theorem dX4_init_19 : decode cX4_init 19 = .ok (.putfield 19, 3) := by decide +kernel
theorem dX4_init_22 : decode cX4_init 22 = .ok (.aload_n 0, 1) := by decide +kernel
theorem dX4_init_23 : decode cX4_init 23 = .ok (.iconst (-1), 1) := by decide +kernel
theorem dX4_init_24 : decode cX4_init 24 = .ok (.putfield 22, 3) := by decide +kernel
theorem dX4_init_27 : decode cX4_init 27 = .ok (.aload_n 0, 1) := by decide +kernel
theorem dX4_init_28 : decode cX4_init 28 = .ok (.lconst 0, 1) := by decide +kernel
theorem dX4_init_29 : decode cX4_init 29 = .ok (.putfield 26, 3) := by decide +kernel
theorem dX4_init_32 : decode cX4_init 32 = .ok (.aload_n 0, 1) := by decide +kernel
theorem dX4_init_33 : decode cX4_init 33 = .ok (.bipush 6, 2) := by decide +kernel
theorem dX4_init_35 : decode cX4_init 35 = .ok (.newarray .int, 2) := by decide +kernel
theorem dX4_init_37 : decode cX4_init 37 = .ok (.putfield 29, 3) := by decide +kernel
theorem dX4_init_40 : decode cX4_init 40 = .ok (.aload_n 0, 1) := by decide +kernel
theorem dX4_init_41 : decode cX4_init 41 = .ok (.bipush 64, 2) := by decide +kernel
theorem dX4_init_43 : decode cX4_init 43 = .ok (.newarray .long, 2) := by decide +kernel
theorem dX4_init_45 : decode cX4_init 45 = .ok (.putfield 32, 3) := by decide +kernel
theorem dX4_init_48 : decode cX4_init 48 = .ok (.aload_n 0, 1) := by decide +kernel
theorem dX4_init_49 : decode cX4_init 49 = .ok (.bipush 6, 2) := by decide +kernel
theorem dX4_init_51 : decode cX4_init 51 = .ok (.newarray .long, 2) := by decide +kernel
theorem dX4_init_53 : decode cX4_init 53 = .ok (.putfield 36, 3) := by decide +kernel
theorem dX4_init_56 : decode cX4_init 56 = .ok (.aload_n 0, 1) := by decide +kernel
theorem dX4_init_57 : decode cX4_init 57 = .ok (.new 39, 3) := by decide +kernel
theorem dX4_init_60 : decode cX4_init 60 = .ok (.dup, 1) := by decide +kernel
theorem dX4_init_61 : decode cX4_init 61 = .ok (.invokespecial 41, 3) := by decide +kernel
theorem dX4_init_64 : decode cX4_init 64 = .ok (.putfield 42, 3) := by decide +kernel
theorem dX4_init_67 : decode cX4_init 67 = .ok (.return_, 1) := by decide +kernel
def tX4_init (g : ax_G) : Nat → ax_O := ax_nd 29 (ax_nd 14 (ax_nd 5 (ax_nd 1 (ax_nd 0 (ax_lf 0 (ao_al 0 1)) (ax_lf 1 ao_obj)) (ax_nd 4 (ax_lf 4 (ao_al 0 1)) (ax_lf 5 (ao_ic (6) 2)))) (ax_nd 9 (ax_nd 7 (ax_lf 7 (ao_newa 11 4 6 97)) (ax_lf 9 (ao_pr 4 0))) (ax_nd 12 (ax_lf 12 (ao_al 0 1)) (ax_nd 13 (ax_lf 13 (ao_lc (0) 1)) (ax_lf 14 (ao_pl 4 1)))))) (ax_nd 22 (ax_nd 18 (ax_nd 17 (ax_lf 17 (ao_al 0 1)) (ax_lf 18 (ao_lc (0) 1))) (ax_nd 19 (ax_lf 19 (ao_pl 4 2)) (ax_lf 22 (ao_al 0 1)))) (ax_nd 24 (ax_nd 23 (ax_lf 23 (ao_ic (-1) 1)) (ax_lf 24 (ao_pi 4 3))) (ax_nd 27 (ax_lf 27 (ao_al 0 1)) (ax_nd 28 (ax_lf 28 (ao_lc (0) 1)) (ax_lf 29 (ao_pl 4 4))))))) (ax_nd 48 (ax_nd 37 (ax_nd 33 (ax_nd 32 (ax_lf 32 (ao_al 0 1)) (ax_lf 33 (ao_ic (6) 2))) (ax_nd 35 (ax_lf 35 (ao_newa 11 4 6 97)) (ax_lf 37 (ao_pr 4 5)))) (ax_nd 41 (ax_nd 40 (ax_lf 40 (ao_al 0 1)) (ax_lf 41 (ao_ic (64) 2))) (ax_nd 43 (ax_lf 43 (ao_newa 14 8 6 97)) (ax_nd 45 (ax_lf 45 (ao_pr 4 6)) (ax_lf 48 (ao_al 0 1)))))) (ax_nd 56 (ax_nd 51 (ax_nd 49 (ax_lf 49 (ao_ic (6) 2)) (ax_lf 51 (ao_newa 14 8 6 97))) (ax_nd 53 (ax_lf 53 (ao_pr 4 7)) (ax_lf 56 (ao_al 0 1)))) (ax_nd 60 (ax_nd 57 (ax_lf 57 (ao_new 3 3 6 97)) (ax_lf 60 ao_dup)) (ax_nd 61 (ax_lf 61 (ao_inva g 1 3 0 yX3_init cX3_init 1 none 1 1 6 12 97)) (ax_nd 64 (ax_lf 64 (ao_pr 4 8)) (ax_lf 67 (ao_vreta 6 97)))))))
theorem oX4_init (g : ax_G) : ∀ pc, ax_ok g cX4_init 1 none RX4 "<init>" 2 6 97 pc (tX4_init g pc) := ax_nd_ok (ax_nd_ok (ax_nd_ok (ax_nd_ok (ax_nd_ok (ax_lf_ok (ak_aload_n rfl dX4_init_0)) (ax_lf_ok (ak_obj (by decide) wd_341 wd_119 wd_120 dX4_init_1))) (ax_nd_ok (ax_lf_ok (ak_aload_n rfl dX4_init_4)) (ax_lf_ok (ak_bipush (by decide) dX4_init_5)))) (ax_nd_ok (ax_nd_ok (ax_lf_ok (ak_newa (atype := .int) (ty := .int) (by decide) (by decide) rfl rfl (fun _ h => by cases h) (t0 := 0) rfl (fun _ _ => rfl) wd_179 dX4_init_7)) (ax_lf_ok (ak_pr fF_X4_9 rfl fW_X4_9_i dX4_init_9))) (ax_nd_ok (ax_lf_ok (ak_aload_n rfl dX4_init_12)) (ax_nd_ok (ax_lf_ok (ak_lconst (by decide) dX4_init_13)) (ax_lf_ok (ak_pl fF_X4_15 fW_X4_15_a dX4_init_14)))))) (ax_nd_ok (ax_nd_ok (ax_nd_ok (ax_lf_ok (ak_aload_n rfl dX4_init_17)) (ax_lf_ok (ak_lconst (by decide) dX4_init_18))) (ax_nd_ok (ax_lf_ok (ak_pl fF_X4_19 fW_X4_19_a dX4_init_19)) (ax_lf_ok (ak_aload_n rfl dX4_init_22)))) (ax_nd_ok (ax_nd_ok (ax_lf_ok (ak_iconst (by decide) dX4_init_23)) (ax_lf_ok (ak_pi fF_X4_22 fW_X4_22_a dX4_init_24))) (ax_nd_ok (ax_lf_ok (ak_aload_n rfl dX4_init_27)) (ax_nd_ok (ax_lf_ok (ak_lconst (by decide) dX4_init_28)) (ax_lf_ok (ak_pl fF_X4_26 fW_X4_26_a dX4_init_29))))))) (ax_nd_ok (ax_nd_ok (ax_nd_ok (ax_nd_ok (ax_lf_ok (ak_aload_n rfl dX4_init_32)) (ax_lf_ok (ak_bipush (by decide) dX4_init_33))) (ax_nd_ok (ax_lf_ok (ak_newa (atype := .int) (ty := .int) (by decide) (by decide) rfl rfl (fun _ h => by cases h) (t0 := 0) rfl (fun _ _ => rfl) wd_179 dX4_init_35)) (ax_lf_ok (ak_pr fF_X4_29 rfl fW_X4_29_i dX4_init_37)))) (ax_nd_ok (ax_nd_ok (ax_lf_ok (ak_aload_n rfl dX4_init_40)) (ax_lf_ok (ak_bipush (by decide) dX4_init_41))) (ax_nd_ok (ax_lf_ok (ak_newa (atype := .long) (ty := .long) (by decide) (by decide) rfl rfl (fun _ h => by cases h) (t0 := 3) rfl (fun _ _ => rfl) wd_377 dX4_init_43)) (ax_nd_ok (ax_lf_ok (ak_pr fF_X4_32 rfl fW_X4_32_i dX4_init_45)) (ax_lf_ok (ak_aload_n rfl dX4_init_48)))))) (ax_nd_ok (ax_nd_ok (ax_nd_ok (ax_lf_ok (ak_bipush (by decide) dX4_init_49)) (ax_lf_ok (ak_newa (atype := .long) (ty := .long) (by decide) (by decide) rfl rfl (fun _ h => by cases h) (t0 := 3) rfl (fun _ _ => rfl) wd_377 dX4_init_51))) (ax_nd_ok (ax_lf_ok (ak_pr fF_X4_36 rfl fW_X4_36_i dX4_init_53)) (ax_lf_ok (ak_aload_n rfl dX4_init_56)))) (ax_nd_ok (ax_nd_ok (ax_lf_ok (ak_new (by decide) rfl ig_X3 tyX3_ok dv_X3 wd_342 wd_315 wd_102 dX4_init_57)) (ax_lf_ok (ak_dup dX4_init_60))) (ax_nd_ok (ax_lf_ok (ak_inva (ak_invIN (host := "GluedHour") (by decide) (by decide) (by decide) (by decide +kernel) wd_317 wd_102 wd_318 rfl ⟨by decide, by decide, by decide +kernel⟩ dX4_init_61))) (ax_nd_ok (ax_lf_ok (ak_pr fF_X4_42 rfl fW_X4_42_i dX4_init_64)) (ax_lf_ok (ak_vreta (ak_vret rfl dX4_init_67))))))))
abbrev mX4_init (g : ax_G) (as : List Value) (h : ax_H) (Ret : Option Value → ax_H → Prop) : Prop := ax_M g 2 6 97 yX4_init cX4_init 1 none as h Ret
theorem dX4_planBlind_0 : decode cX4_planBlind 0 = .ok (.aload_n 0, 1) := by decide +kernel
theorem dX4_planBlind_1 : decode cX4_planBlind 1 = .ok (.aload_n 1, 1) := by decide +kernel
theorem dX4_planBlind_2 : decode cX4_planBlind 2 = .ok (.aload_n 2, 1) := by decide +kernel
theorem dX4_planBlind_3 : decode cX4_planBlind 3 = .ok (.aload_n 3, 1) := by decide +kernel
theorem dX4_planBlind_4 : decode cX4_planBlind 4 = .ok (.iconst 0, 1) := by decide +kernel
theorem dX4_planBlind_5 : decode cX4_planBlind 5 = .ok (.invokevirtual 46, 3) := by decide +kernel
theorem dX4_planBlind_8 : decode cX4_planBlind 8 = .ok (.ifCond .ne 5, 3) := by decide +kernel
theorem dX4_planBlind_11 : decode cX4_planBlind 11 = .ok (.iconst 0, 1) := by decide +kernel
theorem dX4_planBlind_12 : decode cX4_planBlind 12 = .ok (.ireturn, 1) := by decide +kernel
theorem dX4_planBlind_13 : decode cX4_planBlind 13 = .ok (.aload_n 0, 1) := by decide +kernel
theorem dX4_planBlind_14 : decode cX4_planBlind 14 = .ok (.aload_n 0, 1) := by decide +kernel
theorem dX4_planBlind_15 : decode cX4_planBlind 15 = .ok (.getfield 26, 3) := by decide +kernel
theorem dX4_planBlind_18 : decode cX4_planBlind 18 = .ok (.putfield 15, 3) := by decide +kernel
theorem dX4_planBlind_21 : decode cX4_planBlind 21 = .ok (.aload_n 0, 1) := by decide +kernel
theorem dX4_planBlind_22 : decode cX4_planBlind 22 = .ok (.getfield 29, 3) := by decide +kernel
theorem dX4_planBlind_25 : decode cX4_planBlind 25 = .ok (.iconst 0, 1) := by decide +kernel
theorem dX4_planBlind_26 : decode cX4_planBlind 26 = .ok (.aload_n 0, 1) := by decide +kernel
theorem dX4_planBlind_27 : decode cX4_planBlind 27 = .ok (.getfield 9, 3) := by decide +kernel
theorem dX4_planBlind_30 : decode cX4_planBlind 30 = .ok (.iconst 0, 1) := by decide +kernel
theorem dX4_planBlind_31 : decode cX4_planBlind 31 = .ok (.bipush 6, 2) := by decide +kernel
theorem dX4_planBlind_33 : decode cX4_planBlind 33 = .ok (.invokestatic 50, 3) := by decide +kernel
theorem dX4_planBlind_36 : decode cX4_planBlind 36 = .ok (.iconst 1, 1) := by decide +kernel
theorem dX4_planBlind_37 : decode cX4_planBlind 37 = .ok (.ireturn, 1) := by decide +kernel
def tX4_planBlind (g : ax_G) : Nat → ax_O := ax_nd 14 (ax_nd 4 (ax_nd 1 (ax_nd 0 (ax_lf 0 (ao_al 0 1)) (ax_lf 1 (ao_al 1 1))) (ax_nd 2 (ax_lf 2 (ao_al 2 1)) (ax_nd 3 (ax_lf 3 (ao_al 3 1)) (ax_lf 4 (ao_ic (0) 1))))) (ax_nd 11 (ax_nd 5 (ax_lf 5 (ao_inv g 5 4 1 yX4_choose cX4_choose 10 (some .boolean) 5 0 0 0 0)) (ax_nd 8 (ax_lf 8 (ao_if_ne 13)) (ax_lf 11 (ao_ic (0) 1)))) (ax_nd 12 (ax_lf 12 (ao_zret 0 0)) (ax_nd 13 (ax_lf 13 (ao_al 0 1)) (ax_lf 14 (ao_al 0 1)))))) (ax_nd 26 (ax_nd 21 (ax_nd 15 (ax_lf 15 (ao_gl 4 4)) (ax_nd 18 (ax_lf 18 (ao_pl 4 1)) (ax_lf 21 (ao_al 0 1)))) (ax_nd 22 (ax_lf 22 (ao_gr 4 5)) (ax_nd 25 (ax_lf 25 (ao_ic (0) 1)) (ax_lf 26 (ao_al 0 1))))) (ax_nd 31 (ax_nd 27 (ax_lf 27 (ao_gr 4 0)) (ax_nd 30 (ax_lf 30 (ao_ic (0) 1)) (ax_lf 31 (ao_ic (6) 2)))) (ax_nd 33 (ax_lf 33 (ao_copy 11)) (ax_nd 36 (ax_lf 36 (ao_ic (1) 1)) (ax_lf 37 (ao_zret 0 0))))))
theorem oX4_planBlind (g : ax_G) : ∀ pc, ax_ok g cX4_planBlind 4 (some .boolean) RX4 "planBlind" 6 0 0 pc (tX4_planBlind g pc) := ax_nd_ok (ax_nd_ok (ax_nd_ok (ax_nd_ok (ax_lf_ok (ak_aload_n rfl dX4_planBlind_0)) (ax_lf_ok (ak_aload_n rfl dX4_planBlind_1))) (ax_nd_ok (ax_lf_ok (ak_aload_n rfl dX4_planBlind_2)) (ax_nd_ok (ax_lf_ok (ak_aload_n rfl dX4_planBlind_3)) (ax_lf_ok (ak_iconst (by decide) dX4_planBlind_4))))) (ax_nd_ok (ax_nd_ok (ax_lf_ok (ak_invV (by decide) (by decide) (by decide) rfl wd_857 wd_858 wd_859 wd_103 wd_860 ⟨by decide, by decide, by decide +kernel⟩ dX4_planBlind_5)) (ax_nd_ok (ax_lf_ok (ak_if_ne (by decide) dX4_planBlind_8)) (ax_lf_ok (ak_iconst (by decide) dX4_planBlind_11)))) (ax_nd_ok (ax_lf_ok (ak_zret rfl dX4_planBlind_12)) (ax_nd_ok (ax_lf_ok (ak_aload_n rfl dX4_planBlind_13)) (ax_lf_ok (ak_aload_n rfl dX4_planBlind_14)))))) (ax_nd_ok (ax_nd_ok (ax_nd_ok (ax_lf_ok (ak_gl fF_X4_26 dX4_planBlind_15)) (ax_nd_ok (ax_lf_ok (ak_pl fF_X4_15 fW_X4_15_a dX4_planBlind_18)) (ax_lf_ok (ak_aload_n rfl dX4_planBlind_21)))) (ax_nd_ok (ax_lf_ok (ak_gr fF_X4_29 dX4_planBlind_22)) (ax_nd_ok (ax_lf_ok (ak_iconst (by decide) dX4_planBlind_25)) (ax_lf_ok (ak_aload_n rfl dX4_planBlind_26))))) (ax_nd_ok (ax_nd_ok (ax_lf_ok (ak_gr fF_X4_9 dX4_planBlind_27)) (ax_nd_ok (ax_lf_ok (ak_iconst (by decide) dX4_planBlind_30)) (ax_lf_ok (ak_bipush (by decide) dX4_planBlind_31)))) (ax_nd_ok (ax_lf_ok (ak_copy (by decide) (Or.inl ⟨rfl, rfl⟩) (t0 := 0) rfl wd_882 wd_616 wd_615 wd_112 dX4_planBlind_33)) (ax_nd_ok (ax_lf_ok (ak_iconst (by decide) dX4_planBlind_36)) (ax_lf_ok (ak_zret rfl dX4_planBlind_37))))))
abbrev mX4_planBlind (g : ax_G) (as : List Value) (h : ax_H) (Ret : Option Value → ax_H → Prop) : Prop := ax_M g 6 0 0 yX4_planBlind cX4_planBlind 4 (some .boolean) as h Ret
theorem dX4_planKnowing_0 : decode cX4_planKnowing 0 = .ok (.aload_n 0, 1) := by decide +kernel
theorem dX4_planKnowing_1 : decode cX4_planKnowing 1 = .ok (.lconst 0, 1) := by decide +kernel
theorem dX4_planKnowing_2 : decode cX4_planKnowing 2 = .ok (.putfield 19, 3) := by decide +kernel
theorem dX4_planKnowing_5 : decode cX4_planKnowing 5 = .ok (.aload_n 0, 1) := by decide +kernel
theorem dX4_planKnowing_6 : decode cX4_planKnowing 6 = .ok (.iconst (-1), 1) := by decide +kernel
theorem dX4_planKnowing_7 : decode cX4_planKnowing 7 = .ok (.putfield 22, 3) := by decide +kernel
theorem dX4_planKnowing_10 : decode cX4_planKnowing 10 = .ok (.lconst 0, 1) := by decide +kernel
theorem dX4_planKnowing_11 : decode cX4_planKnowing 11 = .ok (.lstore 4, 2) := by decide +kernel
theorem dX4_planKnowing_13 : decode cX4_planKnowing 13 = .ok (.iconst 0, 1) := by decide +kernel
theorem dX4_planKnowing_14 : decode cX4_planKnowing 14 = .ok (.istore 6, 2) := by decide +kernel
theorem dX4_planKnowing_16 : decode cX4_planKnowing 16 = .ok (.iload 6, 2) := by decide +kernel
theorem dX4_planKnowing_18 : decode cX4_planKnowing 18 = .ok (.aload_n 1, 1) := by decide +kernel
theorem dX4_planKnowing_19 : decode cX4_planKnowing 19 = .ok (.getfield 56, 3) := by decide +kernel
theorem dX4_planKnowing_22 : decode cX4_planKnowing 22 = .ok (.if_icmp .ge 104, 3) := by decide +kernel
theorem dX4_planKnowing_25 : decode cX4_planKnowing 25 = .ok (.aload_n 0, 1) := by decide +kernel
theorem dX4_planKnowing_26 : decode cX4_planKnowing 26 = .ok (.getfield 42, 3) := by decide +kernel
theorem dX4_planKnowing_29 : decode cX4_planKnowing 29 = .ok (.aload_n 1, 1) := by decide +kernel
theorem dX4_planKnowing_30 : decode cX4_planKnowing 30 = .ok (.getfield 56, 3) := by decide +kernel
theorem dX4_planKnowing_33 : decode cX4_planKnowing 33 = .ok (.iload 6, 2) := by decide +kernel
theorem dX4_planKnowing_35 : decode cX4_planKnowing 35 = .ok (.invokevirtual 61, 3) := by decide +kernel
theorem dX4_planKnowing_38 : decode cX4_planKnowing 38 = .ok (.aload_n 2, 1) := by decide +kernel
theorem dX4_planKnowing_39 : decode cX4_planKnowing 39 = .ok (.getfield 65, 3) := by decide +kernel
theorem dX4_planKnowing_42 : decode cX4_planKnowing 42 = .ok (.iload 6, 2) := by decide +kernel
theorem dX4_planKnowing_44 : decode cX4_planKnowing 44 = .ok (.iaload, 1) := by decide +kernel
theorem dX4_planKnowing_45 : decode cX4_planKnowing 45 = .ok (.ifCond .eq 75, 3) := by decide +kernel
theorem dX4_planKnowing_48 : decode cX4_planKnowing 48 = .ok (.aload_n 0, 1) := by decide +kernel
theorem dX4_planKnowing_49 : decode cX4_planKnowing 49 = .ok (.aload_n 1, 1) := by decide +kernel
theorem dX4_planKnowing_50 : decode cX4_planKnowing 50 = .ok (.aload_n 0, 1) := by decide +kernel
theorem dX4_planKnowing_51 : decode cX4_planKnowing 51 = .ok (.getfield 42, 3) := by decide +kernel
theorem dX4_planKnowing_54 : decode cX4_planKnowing 54 = .ok (.aload_n 3, 1) := by decide +kernel
theorem dX4_planKnowing_55 : decode cX4_planKnowing 55 = .ok (.iconst 0, 1) := by decide +kernel
theorem dX4_planKnowing_56 : decode cX4_planKnowing 56 = .ok (.invokevirtual 46, 3) := by decide +kernel
theorem dX4_planKnowing_59 : decode cX4_planKnowing 59 = .ok (.ifCond .ne 6, 3) := by decide +kernel
theorem dX4_planKnowing_62 : decode cX4_planKnowing 62 = .ok (.goto 58, 3) := by decide +kernel
theorem dX4_planKnowing_65 : decode cX4_planKnowing 65 = .ok (.aload_n 0, 1) := by decide +kernel
theorem dX4_planKnowing_66 : decode cX4_planKnowing 66 = .ok (.dup, 1) := by decide +kernel
theorem dX4_planKnowing_67 : decode cX4_planKnowing 67 = .ok (.getfield 19, 3) := by decide +kernel
theorem dX4_planKnowing_70 : decode cX4_planKnowing 70 = .ok (.aload_n 2, 1) := by decide +kernel
theorem dX4_planKnowing_71 : decode cX4_planKnowing 71 = .ok (.getfield 65, 3) := by decide +kernel
theorem dX4_planKnowing_74 : decode cX4_planKnowing 74 = .ok (.iload 6, 2) := by decide +kernel
theorem dX4_planKnowing_76 : decode cX4_planKnowing 76 = .ok (.iaload, 1) := by decide +kernel
theorem dX4_planKnowing_77 : decode cX4_planKnowing 77 = .ok (.i2l, 1) := by decide +kernel
theorem dX4_planKnowing_78 : decode cX4_planKnowing 78 = .ok (.aload_n 0, 1) := by decide +kernel
theorem dX4_planKnowing_79 : decode cX4_planKnowing 79 = .ok (.getfield 26, 3) := by decide +kernel
theorem dX4_planKnowing_82 : decode cX4_planKnowing 82 = .ok (.lmul, 1) := by decide +kernel
theorem dX4_planKnowing_83 : decode cX4_planKnowing 83 = .ok (.ladd, 1) := by decide +kernel
theorem dX4_planKnowing_84 : decode cX4_planKnowing 84 = .ok (.putfield 19, 3) := by decide +kernel
theorem dX4_planKnowing_87 : decode cX4_planKnowing 87 = .ok (.aload_n 0, 1) := by decide +kernel
theorem dX4_planKnowing_88 : decode cX4_planKnowing 88 = .ok (.getfield 26, 3) := by decide +kernel
theorem dX4_planKnowing_91 : decode cX4_planKnowing 91 = .ok (.aload_n 0, 1) := by decide +kernel
theorem dX4_planKnowing_92 : decode cX4_planKnowing 92 = .ok (.aload_n 1, 1) := by decide +kernel
theorem dX4_planKnowing_93 : decode cX4_planKnowing 93 = .ok (.aload_n 3, 1) := by decide +kernel
theorem dX4_planKnowing_94 : decode cX4_planKnowing 94 = .ok (.iload 6, 2) := by decide +kernel
theorem dX4_planKnowing_96 : decode cX4_planKnowing 96 = .ok (.invokevirtual 68, 3) := by decide +kernel
theorem dX4_planKnowing_99 : decode cX4_planKnowing 99 = .ok (.lsub, 1) := by decide +kernel
theorem dX4_planKnowing_100 : decode cX4_planKnowing 100 = .ok (.lstore 7, 2) := by decide +kernel
theorem dX4_planKnowing_102 : decode cX4_planKnowing 102 = .ok (.lload 7, 2) := by decide +kernel
theorem dX4_planKnowing_104 : decode cX4_planKnowing 104 = .ok (.lload 4, 2) := by decide +kernel
theorem dX4_planKnowing_106 : decode cX4_planKnowing 106 = .ok (.lcmp, 1) := by decide +kernel
theorem dX4_planKnowing_107 : decode cX4_planKnowing 107 = .ok (.ifCond .le 13, 3) := by decide +kernel
theorem dX4_planKnowing_110 : decode cX4_planKnowing 110 = .ok (.lload 7, 2) := by decide +kernel
theorem dX4_planKnowing_112 : decode cX4_planKnowing 112 = .ok (.lstore 4, 2) := by decide +kernel
theorem dX4_planKnowing_114 : decode cX4_planKnowing 114 = .ok (.aload_n 0, 1) := by decide +kernel
theorem dX4_planKnowing_115 : decode cX4_planKnowing 115 = .ok (.iload 6, 2) := by decide +kernel
theorem dX4_planKnowing_117 : decode cX4_planKnowing 117 = .ok (.putfield 22, 3) := by decide +kernel
theorem dX4_planKnowing_120 : decode cX4_planKnowing 120 = .ok (.iinc 6 1, 3) := by decide +kernel
theorem dX4_planKnowing_123 : decode cX4_planKnowing 123 = .ok (.goto (-107), 3) := by decide +kernel
theorem dX4_planKnowing_126 : decode cX4_planKnowing 126 = .ok (.return_, 1) := by decide +kernel
def tX4_planKnowing (g : ax_G) : Nat → ax_O := ax_nd 62 (ax_nd 29 (ax_nd 11 (ax_nd 5 (ax_nd 1 (ax_nd 0 (ax_lf 0 (ao_al 0 1)) (ax_lf 1 (ao_lc (0) 1))) (ax_nd 2 (ax_lf 2 (ao_pl 4 2)) (ax_lf 5 (ao_al 0 1)))) (ax_nd 7 (ax_nd 6 (ax_lf 6 (ao_ic (-1) 1)) (ax_lf 7 (ao_pi 4 3))) (ax_nd 10 (ax_lf 10 (ao_lc (0) 1)) (ax_lf 11 (ao_ls 4 2))))) (ax_nd 18 (ax_nd 14 (ax_nd 13 (ax_lf 13 (ao_ic (0) 1)) (ax_lf 14 (ao_is 6 2))) (ax_nd 16 (ax_lf 16 (ao_il 6 2)) (ax_lf 18 (ao_al 1 1)))) (ax_nd 22 (ax_nd 19 (ax_lf 19 (ao_gi 6 5)) (ax_lf 22 (ao_icmp_ge 126))) (ax_nd 25 (ax_lf 25 (ao_al 0 1)) (ax_nd 26 (ax_lf 26 (ao_gr 4 8)) (ax_lf 29 (ao_al 1 1))))))) (ax_nd 45 (ax_nd 38 (ax_nd 33 (ax_nd 30 (ax_lf 30 (ao_gi 6 5)) (ax_lf 33 (ao_il 6 2))) (ax_nd 35 (ax_lf 35 (ao_inv g 1 3 0 yX3_know cX3_know 4 none 3 0 0 0 0)) (ax_lf 38 (ao_al 2 1)))) (ax_nd 42 (ax_nd 39 (ax_lf 39 (ao_gr 3 0)) (ax_lf 42 (ao_il 6 2))) (ax_nd 44 (ax_lf 44 ao_iald) (ax_lf 45 (ao_if_eq 120))))) (ax_nd 51 (ax_nd 49 (ax_nd 48 (ax_lf 48 (ao_al 0 1)) (ax_lf 49 (ao_al 1 1))) (ax_nd 50 (ax_lf 50 (ao_al 0 1)) (ax_lf 51 (ao_gr 4 8)))) (ax_nd 55 (ax_nd 54 (ax_lf 54 (ao_al 3 1)) (ax_lf 55 (ao_ic (0) 1))) (ax_nd 56 (ax_lf 56 (ao_inv g 5 4 1 yX4_choose cX4_choose 10 (some .boolean) 5 0 0 0 0)) (ax_nd 59 (ax_lf 59 (ao_if_ne 65)) (ax_lf 62 (ao_goto 120)))))))) (ax_nd 92 (ax_nd 77 (ax_nd 70 (ax_nd 66 (ax_nd 65 (ax_lf 65 (ao_al 0 1)) (ax_lf 66 ao_dup)) (ax_nd 67 (ax_lf 67 (ao_gl 4 2)) (ax_lf 70 (ao_al 2 1)))) (ax_nd 74 (ax_nd 71 (ax_lf 71 (ao_gr 3 0)) (ax_lf 74 (ao_il 6 2))) (ax_nd 76 (ax_lf 76 ao_iald) (ax_lf 77 ao_i2l)))) (ax_nd 83 (ax_nd 79 (ax_nd 78 (ax_lf 78 (ao_al 0 1)) (ax_lf 79 (ao_gl 4 4))) (ax_nd 82 (ax_lf 82 ao_lmul) (ax_lf 83 ao_ladd))) (ax_nd 87 (ax_nd 84 (ax_lf 84 (ao_pl 4 2)) (ax_lf 87 (ao_al 0 1))) (ax_nd 88 (ax_lf 88 (ao_gl 4 4)) (ax_nd 91 (ax_lf 91 (ao_al 0 1)) (ax_lf 92 (ao_al 1 1))))))) (ax_nd 106 (ax_nd 99 (ax_nd 94 (ax_nd 93 (ax_lf 93 (ao_al 3 1)) (ax_lf 94 (ao_il 6 2))) (ax_nd 96 (ax_lf 96 (ao_inv g 4 4 2 yX4_blindBy cX4_blindBy 8 (some .long) 4 0 0 0 0)) (ax_lf 99 ao_lsub))) (ax_nd 102 (ax_nd 100 (ax_lf 100 (ao_ls 7 2)) (ax_lf 102 (ao_ll 7 2))) (ax_nd 104 (ax_lf 104 (ao_ll 4 2)) (ax_lf 106 ao_lcmp)))) (ax_nd 114 (ax_nd 110 (ax_nd 107 (ax_lf 107 (ao_if_le 120)) (ax_lf 110 (ao_ll 7 2))) (ax_nd 112 (ax_lf 112 (ao_ls 4 2)) (ax_lf 114 (ao_al 0 1)))) (ax_nd 117 (ax_nd 115 (ax_lf 115 (ao_il 6 2)) (ax_lf 117 (ao_pi 4 3))) (ax_nd 120 (ax_lf 120 (ao_iinc 6 (1))) (ax_nd 123 (ax_lf 123 (ao_goto 16)) (ax_lf 126 (ao_vret 0 0))))))))
theorem oX4_planKnowing (g : ax_G) : ∀ pc, ax_ok g cX4_planKnowing 9 none RX4 "planKnowing" 6 0 0 pc (tX4_planKnowing g pc) := ax_nd_ok (ax_nd_ok (ax_nd_ok (ax_nd_ok (ax_nd_ok (ax_nd_ok (ax_lf_ok (ak_aload_n rfl dX4_planKnowing_0)) (ax_lf_ok (ak_lconst (by decide) dX4_planKnowing_1))) (ax_nd_ok (ax_lf_ok (ak_pl fF_X4_19 fW_X4_19_a dX4_planKnowing_2)) (ax_lf_ok (ak_aload_n rfl dX4_planKnowing_5)))) (ax_nd_ok (ax_nd_ok (ax_lf_ok (ak_iconst (by decide) dX4_planKnowing_6)) (ax_lf_ok (ak_pi fF_X4_22 fW_X4_22_a dX4_planKnowing_7))) (ax_nd_ok (ax_lf_ok (ak_lconst (by decide) dX4_planKnowing_10)) (ax_lf_ok (ak_lstore (by decide) dX4_planKnowing_11))))) (ax_nd_ok (ax_nd_ok (ax_nd_ok (ax_lf_ok (ak_iconst (by decide) dX4_planKnowing_13)) (ax_lf_ok (ak_istore (by decide) dX4_planKnowing_14))) (ax_nd_ok (ax_lf_ok (ak_iload dX4_planKnowing_16)) (ax_lf_ok (ak_aload_n rfl dX4_planKnowing_18)))) (ax_nd_ok (ax_nd_ok (ax_lf_ok (ak_gi fF_X4_56 dX4_planKnowing_19)) (ax_lf_ok (ak_icmp_ge (by decide) dX4_planKnowing_22))) (ax_nd_ok (ax_lf_ok (ak_aload_n rfl dX4_planKnowing_25)) (ax_nd_ok (ax_lf_ok (ak_gr fF_X4_42 dX4_planKnowing_26)) (ax_lf_ok (ak_aload_n rfl dX4_planKnowing_29))))))) (ax_nd_ok (ax_nd_ok (ax_nd_ok (ax_nd_ok (ax_lf_ok (ak_gi fF_X4_56 dX4_planKnowing_30)) (ax_lf_ok (ak_iload dX4_planKnowing_33))) (ax_nd_ok (ax_lf_ok (ak_invV (by decide) (by decide) (by decide) rfl wd_887 wd_888 wd_889 wd_102 wd_890 ⟨by decide, by decide, by decide +kernel⟩ dX4_planKnowing_35)) (ax_lf_ok (ak_aload_n rfl dX4_planKnowing_38)))) (ax_nd_ok (ax_nd_ok (ax_lf_ok (ak_gr fF_X4_65 dX4_planKnowing_39)) (ax_lf_ok (ak_iload dX4_planKnowing_42))) (ax_nd_ok (ax_lf_ok (ak_iald dX4_planKnowing_44)) (ax_lf_ok (ak_if_eq (by decide) dX4_planKnowing_45))))) (ax_nd_ok (ax_nd_ok (ax_nd_ok (ax_lf_ok (ak_aload_n rfl dX4_planKnowing_48)) (ax_lf_ok (ak_aload_n rfl dX4_planKnowing_49))) (ax_nd_ok (ax_lf_ok (ak_aload_n rfl dX4_planKnowing_50)) (ax_lf_ok (ak_gr fF_X4_42 dX4_planKnowing_51)))) (ax_nd_ok (ax_nd_ok (ax_lf_ok (ak_aload_n rfl dX4_planKnowing_54)) (ax_lf_ok (ak_iconst (by decide) dX4_planKnowing_55))) (ax_nd_ok (ax_lf_ok (ak_invV (by decide) (by decide) (by decide) rfl wd_857 wd_858 wd_859 wd_103 wd_860 ⟨by decide, by decide, by decide +kernel⟩ dX4_planKnowing_56)) (ax_nd_ok (ax_lf_ok (ak_if_ne (by decide) dX4_planKnowing_59)) (ax_lf_ok (ak_goto (by decide) dX4_planKnowing_62)))))))) (ax_nd_ok (ax_nd_ok (ax_nd_ok (ax_nd_ok (ax_nd_ok (ax_lf_ok (ak_aload_n rfl dX4_planKnowing_65)) (ax_lf_ok (ak_dup dX4_planKnowing_66))) (ax_nd_ok (ax_lf_ok (ak_gl fF_X4_19 dX4_planKnowing_67)) (ax_lf_ok (ak_aload_n rfl dX4_planKnowing_70)))) (ax_nd_ok (ax_nd_ok (ax_lf_ok (ak_gr fF_X4_65 dX4_planKnowing_71)) (ax_lf_ok (ak_iload dX4_planKnowing_74))) (ax_nd_ok (ax_lf_ok (ak_iald dX4_planKnowing_76)) (ax_lf_ok (ak_i2l dX4_planKnowing_77))))) (ax_nd_ok (ax_nd_ok (ax_nd_ok (ax_lf_ok (ak_aload_n rfl dX4_planKnowing_78)) (ax_lf_ok (ak_gl fF_X4_26 dX4_planKnowing_79))) (ax_nd_ok (ax_lf_ok (ak_lmul dX4_planKnowing_82)) (ax_lf_ok (ak_ladd dX4_planKnowing_83)))) (ax_nd_ok (ax_nd_ok (ax_lf_ok (ak_pl fF_X4_19 fW_X4_19_a dX4_planKnowing_84)) (ax_lf_ok (ak_aload_n rfl dX4_planKnowing_87))) (ax_nd_ok (ax_lf_ok (ak_gl fF_X4_26 dX4_planKnowing_88)) (ax_nd_ok (ax_lf_ok (ak_aload_n rfl dX4_planKnowing_91)) (ax_lf_ok (ak_aload_n rfl dX4_planKnowing_92))))))) (ax_nd_ok (ax_nd_ok (ax_nd_ok (ax_nd_ok (ax_lf_ok (ak_aload_n rfl dX4_planKnowing_93)) (ax_lf_ok (ak_iload dX4_planKnowing_94))) (ax_nd_ok (ax_lf_ok (ak_invV (by decide) (by decide) (by decide) rfl wd_891 wd_893 wd_17 wd_103 wd_894 ⟨by decide, by decide, by decide +kernel⟩ dX4_planKnowing_96)) (ax_lf_ok (ak_lsub dX4_planKnowing_99)))) (ax_nd_ok (ax_nd_ok (ax_lf_ok (ak_lstore (by decide) dX4_planKnowing_100)) (ax_lf_ok (ak_lload dX4_planKnowing_102))) (ax_nd_ok (ax_lf_ok (ak_lload dX4_planKnowing_104)) (ax_lf_ok (ak_lcmp dX4_planKnowing_106))))) (ax_nd_ok (ax_nd_ok (ax_nd_ok (ax_lf_ok (ak_if_le (by decide) dX4_planKnowing_107)) (ax_lf_ok (ak_lload dX4_planKnowing_110))) (ax_nd_ok (ax_lf_ok (ak_lstore (by decide) dX4_planKnowing_112)) (ax_lf_ok (ak_aload_n rfl dX4_planKnowing_114)))) (ax_nd_ok (ax_nd_ok (ax_lf_ok (ak_iload dX4_planKnowing_115)) (ax_lf_ok (ak_pi fF_X4_22 fW_X4_22_a dX4_planKnowing_117))) (ax_nd_ok (ax_lf_ok (ak_iinc (by decide) (by decide) dX4_planKnowing_120)) (ax_nd_ok (ax_lf_ok (ak_goto (by decide) dX4_planKnowing_123)) (ax_lf_ok (ak_vret rfl dX4_planKnowing_126))))))))
abbrev mX4_planKnowing (g : ax_G) (as : List Value) (h : ax_H) (Ret : Option Value → ax_H → Prop) : Prop := ax_M g 6 0 0 yX4_planKnowing cX4_planKnowing 9 none as h Ret
theorem dX4_blindBy_0 : decode cX4_blindBy 0 = .ok (.lconst 0, 1) := by decide +kernel
theorem dX4_blindBy_1 : decode cX4_blindBy 1 = .ok (.lstore 4, 2) := by decide +kernel
theorem dX4_blindBy_3 : decode cX4_blindBy 3 = .ok (.iconst 0, 1) := by decide +kernel
theorem dX4_blindBy_4 : decode cX4_blindBy 4 = .ok (.istore 6, 2) := by decide +kernel
theorem dX4_blindBy_6 : decode cX4_blindBy 6 = .ok (.iload 6, 2) := by decide +kernel
theorem dX4_blindBy_8 : decode cX4_blindBy 8 = .ok (.aload_n 2, 1) := by decide +kernel
theorem dX4_blindBy_9 : decode cX4_blindBy 9 = .ok (.getfield 72, 3) := by decide +kernel
theorem dX4_blindBy_12 : decode cX4_blindBy 12 = .ok (.if_icmp .ge 59, 3) := by decide +kernel
theorem dX4_blindBy_15 : decode cX4_blindBy 15 = .ok (.iload 6, 2) := by decide +kernel
theorem dX4_blindBy_17 : decode cX4_blindBy 17 = .ok (.bipush 6, 2) := by decide +kernel
theorem dX4_blindBy_19 : decode cX4_blindBy 19 = .ok (.if_icmp .ge 52, 3) := by decide +kernel
theorem dX4_blindBy_22 : decode cX4_blindBy 22 = .ok (.aload_n 2, 1) := by decide +kernel
theorem dX4_blindBy_23 : decode cX4_blindBy 23 = .ok (.iload 6, 2) := by decide +kernel
theorem dX4_blindBy_25 : decode cX4_blindBy 25 = .ok (.iconst 0, 1) := by decide +kernel
theorem dX4_blindBy_26 : decode cX4_blindBy 26 = .ok (.invokevirtual 77, 3) := by decide +kernel
theorem dX4_blindBy_29 : decode cX4_blindBy 29 = .ok (.istore 7, 2) := by decide +kernel
theorem dX4_blindBy_31 : decode cX4_blindBy 31 = .ok (.lload 4, 2) := by decide +kernel
theorem dX4_blindBy_33 : decode cX4_blindBy 33 = .ok (.aload_n 1, 1) := by decide +kernel
theorem dX4_blindBy_34 : decode cX4_blindBy 34 = .ok (.iload 7, 2) := by decide +kernel
theorem dX4_blindBy_36 : decode cX4_blindBy 36 = .ok (.invokevirtual 81, 3) := by decide +kernel
theorem dX4_blindBy_39 : decode cX4_blindBy 39 = .ok (.aload_n 0, 1) := by decide +kernel
theorem dX4_blindBy_40 : decode cX4_blindBy 40 = .ok (.getfield 9, 3) := by decide +kernel
theorem dX4_blindBy_43 : decode cX4_blindBy 43 = .ok (.iload 6, 2) := by decide +kernel
theorem dX4_blindBy_45 : decode cX4_blindBy 45 = .ok (.iaload, 1) := by decide +kernel
theorem dX4_blindBy_46 : decode cX4_blindBy 46 = .ok (.iload_n 3, 1) := by decide +kernel
theorem dX4_blindBy_47 : decode cX4_blindBy 47 = .ok (.if_icmp .ne 12, 3) := by decide +kernel
theorem dX4_blindBy_50 : decode cX4_blindBy 50 = .ok (.aload_n 1, 1) := by decide +kernel
theorem dX4_blindBy_51 : decode cX4_blindBy 51 = .ok (.iload 7, 2) := by decide +kernel
theorem dX4_blindBy_53 : decode cX4_blindBy 53 = .ok (.invokevirtual 85, 3) := by decide +kernel
theorem dX4_blindBy_56 : decode cX4_blindBy 56 = .ok (.goto 4, 3) := by decide +kernel
theorem dX4_blindBy_59 : decode cX4_blindBy 59 = .ok (.iconst 0, 1) := by decide +kernel
theorem dX4_blindBy_60 : decode cX4_blindBy 60 = .ok (.iadd, 1) := by decide +kernel
theorem dX4_blindBy_61 : decode cX4_blindBy 61 = .ok (.i2l, 1) := by decide +kernel
theorem dX4_blindBy_62 : decode cX4_blindBy 62 = .ok (.ladd, 1) := by decide +kernel
theorem dX4_blindBy_63 : decode cX4_blindBy 63 = .ok (.lstore 4, 2) := by decide +kernel
theorem dX4_blindBy_65 : decode cX4_blindBy 65 = .ok (.iinc 6 1, 3) := by decide +kernel
theorem dX4_blindBy_68 : decode cX4_blindBy 68 = .ok (.goto (-62), 3) := by decide +kernel
theorem dX4_blindBy_71 : decode cX4_blindBy 71 = .ok (.lload 4, 2) := by decide +kernel
theorem dX4_blindBy_73 : decode cX4_blindBy 73 = .ok (.lreturn, 1) := by decide +kernel
def tX4_blindBy (g : ax_G) : Nat → ax_O := ax_nd 34 (ax_nd 15 (ax_nd 4 (ax_nd 1 (ax_nd 0 (ax_lf 0 (ao_lc (0) 1)) (ax_lf 1 (ao_ls 4 2))) (ax_nd 3 (ax_lf 3 (ao_ic (0) 1)) (ax_lf 4 (ao_is 6 2)))) (ax_nd 8 (ax_nd 6 (ax_lf 6 (ao_il 6 2)) (ax_lf 8 (ao_al 2 1))) (ax_nd 9 (ax_lf 9 (ao_gi 2 3)) (ax_nd 12 (ax_lf 12 (ao_icmp_ge 71)) (ax_lf 15 (ao_il 6 2)))))) (ax_nd 25 (ax_nd 19 (ax_nd 17 (ax_lf 17 (ao_ic (6) 2)) (ax_lf 19 (ao_icmp_ge 71))) (ax_nd 22 (ax_lf 22 (ao_al 2 1)) (ax_nd 23 (ax_lf 23 (ao_il 6 2)) (ax_lf 25 (ao_ic (0) 1))))) (ax_nd 29 (ax_nd 26 (ax_lf 26 (ao_inv g 2 2 1 yX2_cell cX2_cell 3 (some .int) 3 0 0 0 0)) (ax_lf 29 (ao_is 7 2))) (ax_nd 31 (ax_lf 31 (ao_ll 4 2)) (ax_nd 33 (ax_lf 33 (ao_al 1 1)) (ax_lf 34 (ao_il 7 2))))))) (ax_nd 53 (ax_nd 45 (ax_nd 39 (ax_nd 36 (ax_lf 36 (ao_inv g 1 6 1 yX6_worthOf cX6_worthOf 2 (some .int) 2 0 0 0 0)) (ax_lf 39 (ao_al 0 1))) (ax_nd 40 (ax_lf 40 (ao_gr 4 0)) (ax_nd 43 (ax_lf 43 (ao_il 6 2)) (ax_lf 45 ao_iald)))) (ax_nd 47 (ax_nd 46 (ax_lf 46 (ao_il 3 1)) (ax_lf 47 (ao_icmp_ne 59))) (ax_nd 50 (ax_lf 50 (ao_al 1 1)) (ax_nd 51 (ax_lf 51 (ao_il 7 2)) (ax_lf 53 (ao_inv g 3 6 1 yX6_extraOf cX6_extraOf 2 (some .int) 2 0 0 0 0)))))) (ax_nd 62 (ax_nd 59 (ax_nd 56 (ax_lf 56 (ao_goto 60)) (ax_lf 59 (ao_ic (0) 1))) (ax_nd 60 (ax_lf 60 ao_iadd) (ax_nd 61 (ax_lf 61 ao_i2l) (ax_lf 62 ao_ladd)))) (ax_nd 65 (ax_nd 63 (ax_lf 63 (ao_ls 4 2)) (ax_lf 65 (ao_iinc 6 (1)))) (ax_nd 68 (ax_lf 68 (ao_goto 6)) (ax_nd 71 (ax_lf 71 (ao_ll 4 2)) (ax_lf 73 (ao_lret 0 0)))))))
theorem oX4_blindBy (g : ax_G) : ∀ pc, ax_ok g cX4_blindBy 8 (some .long) RX4 "blindBy" 4 0 0 pc (tX4_blindBy g pc) := ax_nd_ok (ax_nd_ok (ax_nd_ok (ax_nd_ok (ax_nd_ok (ax_lf_ok (ak_lconst (by decide) dX4_blindBy_0)) (ax_lf_ok (ak_lstore (by decide) dX4_blindBy_1))) (ax_nd_ok (ax_lf_ok (ak_iconst (by decide) dX4_blindBy_3)) (ax_lf_ok (ak_istore (by decide) dX4_blindBy_4)))) (ax_nd_ok (ax_nd_ok (ax_lf_ok (ak_iload dX4_blindBy_6)) (ax_lf_ok (ak_aload_n rfl dX4_blindBy_8))) (ax_nd_ok (ax_lf_ok (ak_gi fF_X4_72 dX4_blindBy_9)) (ax_nd_ok (ax_lf_ok (ak_icmp_ge (by decide) dX4_blindBy_12)) (ax_lf_ok (ak_iload dX4_blindBy_15)))))) (ax_nd_ok (ax_nd_ok (ax_nd_ok (ax_lf_ok (ak_bipush (by decide) dX4_blindBy_17)) (ax_lf_ok (ak_icmp_ge (by decide) dX4_blindBy_19))) (ax_nd_ok (ax_lf_ok (ak_aload_n rfl dX4_blindBy_22)) (ax_nd_ok (ax_lf_ok (ak_iload dX4_blindBy_23)) (ax_lf_ok (ak_iconst (by decide) dX4_blindBy_25))))) (ax_nd_ok (ax_nd_ok (ax_lf_ok (ak_invV (by decide) (by decide) (by decide) rfl wd_863 wd_754 wd_755 wd_99 wd_756 ⟨by decide, by decide, by decide +kernel⟩ dX4_blindBy_26)) (ax_lf_ok (ak_istore (by decide) dX4_blindBy_29))) (ax_nd_ok (ax_lf_ok (ak_lload dX4_blindBy_31)) (ax_nd_ok (ax_lf_ok (ak_aload_n rfl dX4_blindBy_33)) (ax_lf_ok (ak_iload dX4_blindBy_34))))))) (ax_nd_ok (ax_nd_ok (ax_nd_ok (ax_nd_ok (ax_lf_ok (ak_invV (by decide) (by decide) (by decide) rfl wd_867 wd_674 wd_675 wd_98 wd_676 ⟨by decide, by decide, by decide +kernel⟩ dX4_blindBy_36)) (ax_lf_ok (ak_aload_n rfl dX4_blindBy_39))) (ax_nd_ok (ax_lf_ok (ak_gr fF_X4_9 dX4_blindBy_40)) (ax_nd_ok (ax_lf_ok (ak_iload dX4_blindBy_43)) (ax_lf_ok (ak_iald dX4_blindBy_45))))) (ax_nd_ok (ax_nd_ok (ax_lf_ok (ak_iload_n rfl dX4_blindBy_46)) (ax_lf_ok (ak_icmp_ne (by decide) dX4_blindBy_47))) (ax_nd_ok (ax_lf_ok (ak_aload_n rfl dX4_blindBy_50)) (ax_nd_ok (ax_lf_ok (ak_iload dX4_blindBy_51)) (ax_lf_ok (ak_invV (by decide) (by decide) (by decide) rfl wd_868 wd_679 wd_680 wd_98 wd_681 ⟨by decide, by decide, by decide +kernel⟩ dX4_blindBy_53)))))) (ax_nd_ok (ax_nd_ok (ax_nd_ok (ax_lf_ok (ak_goto (by decide) dX4_blindBy_56)) (ax_lf_ok (ak_iconst (by decide) dX4_blindBy_59))) (ax_nd_ok (ax_lf_ok (ak_iadd dX4_blindBy_60)) (ax_nd_ok (ax_lf_ok (ak_i2l dX4_blindBy_61)) (ax_lf_ok (ak_ladd dX4_blindBy_62))))) (ax_nd_ok (ax_nd_ok (ax_lf_ok (ak_lstore (by decide) dX4_blindBy_63)) (ax_lf_ok (ak_iinc (by decide) (by decide) dX4_blindBy_65))) (ax_nd_ok (ax_lf_ok (ak_goto (by decide) dX4_blindBy_68)) (ax_nd_ok (ax_lf_ok (ak_lload dX4_blindBy_71)) (ax_lf_ok (ak_lret rfl dX4_blindBy_73)))))))
abbrev mX4_blindBy (g : ax_G) (as : List Value) (h : ax_H) (Ret : Option Value → ax_H → Prop) : Prop := ax_M g 4 0 0 yX4_blindBy cX4_blindBy 8 (some .long) as h Ret
theorem dX4_choose_0 : decode cX4_choose 0 = .ok (.aload_n 3, 1) := by decide +kernel
theorem dX4_choose_1 : decode cX4_choose 1 = .ok (.getfield 72, 3) := by decide +kernel
theorem dX4_choose_4 : decode cX4_choose 4 = .ok (.bipush 6, 2) := by decide +kernel
theorem dX4_choose_6 : decode cX4_choose 6 = .ok (.invokestatic 88, 3) := by decide +kernel
theorem dX4_choose_9 : decode cX4_choose 9 = .ok (.istore 5, 2) := by decide +kernel
theorem dX4_choose_11 : decode cX4_choose 11 = .ok (.iconst 1, 1) := by decide +kernel
theorem dX4_choose_12 : decode cX4_choose 12 = .ok (.iload 5, 2) := by decide +kernel
theorem dX4_choose_14 : decode cX4_choose 14 = .ok (.ishl, 1) := by decide +kernel
theorem dX4_choose_15 : decode cX4_choose 15 = .ok (.iconst 1, 1) := by decide +kernel
theorem dX4_choose_16 : decode cX4_choose 16 = .ok (.isub, 1) := by decide +kernel
theorem dX4_choose_17 : decode cX4_choose 17 = .ok (.istore 6, 2) := by decide +kernel
theorem dX4_choose_19 : decode cX4_choose 19 = .ok (.iconst 1, 1) := by decide +kernel
theorem dX4_choose_20 : decode cX4_choose 20 = .ok (.istore 7, 2) := by decide +kernel
theorem dX4_choose_22 : decode cX4_choose 22 = .ok (.iload 7, 2) := by decide +kernel
theorem dX4_choose_24 : decode cX4_choose 24 = .ok (.iload 6, 2) := by decide +kernel
theorem dX4_choose_26 : decode cX4_choose 26 = .ok (.if_icmp .gt 19, 3) := by decide +kernel
theorem dX4_choose_29 : decode cX4_choose 29 = .ok (.aload_n 0, 1) := by decide +kernel
theorem dX4_choose_30 : decode cX4_choose 30 = .ok (.getfield 32, 3) := by decide +kernel
theorem dX4_choose_33 : decode cX4_choose 33 = .ok (.iload 7, 2) := by decide +kernel
theorem dX4_choose_35 : decode cX4_choose 35 = .ok (.ldc2_w 93, 3) := by decide +kernel
theorem dX4_choose_38 : decode cX4_choose 38 = .ok (.lastore, 1) := by decide +kernel
theorem dX4_choose_39 : decode cX4_choose 39 = .ok (.iinc 7 1, 3) := by decide +kernel
theorem dX4_choose_42 : decode cX4_choose 42 = .ok (.goto (-20), 3) := by decide +kernel
theorem dX4_choose_45 : decode cX4_choose 45 = .ok (.aload_n 0, 1) := by decide +kernel
theorem dX4_choose_46 : decode cX4_choose 46 = .ok (.getfield 32, 3) := by decide +kernel
theorem dX4_choose_49 : decode cX4_choose 49 = .ok (.iconst 0, 1) := by decide +kernel
theorem dX4_choose_50 : decode cX4_choose 50 = .ok (.lconst 0, 1) := by decide +kernel
theorem dX4_choose_51 : decode cX4_choose 51 = .ok (.lastore, 1) := by decide +kernel
theorem dX4_choose_52 : decode cX4_choose 52 = .ok (.iconst 0, 1) := by decide +kernel
theorem dX4_choose_53 : decode cX4_choose 53 = .ok (.istore 7, 2) := by decide +kernel
theorem dX4_choose_55 : decode cX4_choose 55 = .ok (.iload 7, 2) := by decide +kernel
theorem dX4_choose_57 : decode cX4_choose 57 = .ok (.aload_n 1, 1) := by decide +kernel
theorem dX4_choose_58 : decode cX4_choose 58 = .ok (.getfield 56, 3) := by decide +kernel
theorem dX4_choose_61 : decode cX4_choose 61 = .ok (.if_icmp .ge 125, 3) := by decide +kernel
theorem dX4_choose_64 : decode cX4_choose 64 = .ok (.iconst 0, 1) := by decide +kernel
theorem dX4_choose_65 : decode cX4_choose 65 = .ok (.istore 8, 2) := by decide +kernel
theorem dX4_choose_67 : decode cX4_choose 67 = .ok (.iload 8, 2) := by decide +kernel
theorem dX4_choose_69 : decode cX4_choose 69 = .ok (.iload 5, 2) := by decide +kernel
theorem dX4_choose_71 : decode cX4_choose 71 = .ok (.if_icmp .ge 79, 3) := by decide +kernel
theorem dX4_choose_74 : decode cX4_choose 74 = .ok (.iload 4, 2) := by decide +kernel
theorem dX4_choose_76 : decode cX4_choose 76 = .ok (.ifCond .ne 27, 3) := by decide +kernel
theorem dX4_choose_79 : decode cX4_choose 79 = .ok (.iload 7, 2) := by decide +kernel
theorem dX4_choose_81 : decode cX4_choose 81 = .ok (.aload_n 3, 1) := by decide +kernel
theorem dX4_choose_82 : decode cX4_choose 82 = .ok (.iload 8, 2) := by decide +kernel
theorem dX4_choose_84 : decode cX4_choose 84 = .ok (.iconst 1, 1) := by decide +kernel
theorem dX4_choose_85 : decode cX4_choose 85 = .ok (.invokevirtual 77, 3) := by decide +kernel
theorem dX4_choose_88 : decode cX4_choose 88 = .ok (.if_icmp .lt 19, 3) := by decide +kernel
theorem dX4_choose_91 : decode cX4_choose 91 = .ok (.iload 7, 2) := by decide +kernel
theorem dX4_choose_93 : decode cX4_choose 93 = .ok (.aload_n 3, 1) := by decide +kernel
theorem dX4_choose_94 : decode cX4_choose 94 = .ok (.iload 8, 2) := by decide +kernel
theorem dX4_choose_96 : decode cX4_choose 96 = .ok (.iconst 2, 1) := by decide +kernel
theorem dX4_choose_97 : decode cX4_choose 97 = .ok (.invokevirtual 77, 3) := by decide +kernel
theorem dX4_choose_100 : decode cX4_choose 100 = .ok (.if_icmp .gt 7, 3) := by decide +kernel
theorem dX4_choose_103 : decode cX4_choose 103 = .ok (.iconst 1, 1) := by decide +kernel
theorem dX4_choose_104 : decode cX4_choose 104 = .ok (.goto 4, 3) := by decide +kernel
theorem dX4_choose_107 : decode cX4_choose 107 = .ok (.iconst 0, 1) := by decide +kernel
theorem dX4_choose_108 : decode cX4_choose 108 = .ok (.istore 9, 2) := by decide +kernel
theorem dX4_choose_110 : decode cX4_choose 110 = .ok (.aload_n 0, 1) := by decide +kernel
theorem dX4_choose_111 : decode cX4_choose 111 = .ok (.getfield 36, 3) := by decide +kernel
theorem dX4_choose_114 : decode cX4_choose 114 = .ok (.iload 8, 2) := by decide +kernel
theorem dX4_choose_116 : decode cX4_choose 116 = .ok (.iload 9, 2) := by decide +kernel
theorem dX4_choose_118 : decode cX4_choose 118 = .ok (.ifCond .eq 22, 3) := by decide +kernel
theorem dX4_choose_121 : decode cX4_choose 121 = .ok (.aload_n 1, 1) := by decide +kernel
theorem dX4_choose_122 : decode cX4_choose 122 = .ok (.aload_n 2, 1) := by decide +kernel
theorem dX4_choose_123 : decode cX4_choose 123 = .ok (.aload_n 3, 1) := by decide +kernel
theorem dX4_choose_124 : decode cX4_choose 124 = .ok (.iload 8, 2) := by decide +kernel
theorem dX4_choose_126 : decode cX4_choose 126 = .ok (.iconst 0, 1) := by decide +kernel
theorem dX4_choose_127 : decode cX4_choose 127 = .ok (.invokevirtual 77, 3) := by decide +kernel
theorem dX4_choose_130 : decode cX4_choose 130 = .ok (.iload 8, 2) := by decide +kernel
theorem dX4_choose_132 : decode cX4_choose 132 = .ok (.iload 7, 2) := by decide +kernel
theorem dX4_choose_134 : decode cX4_choose 134 = .ok (.invokestatic 95, 3) := by decide +kernel
theorem dX4_choose_137 : decode cX4_choose 137 = .ok (.goto 6, 3) := by decide +kernel
theorem dX4_choose_140 : decode cX4_choose 140 = .ok (.ldc2_w 93, 3) := by decide +kernel
theorem dX4_choose_143 : decode cX4_choose 143 = .ok (.lastore, 1) := by decide +kernel
theorem dX4_choose_144 : decode cX4_choose 144 = .ok (.iinc 8 1, 3) := by decide +kernel
theorem dX4_choose_147 : decode cX4_choose 147 = .ok (.goto (-80), 3) := by decide +kernel
theorem dX4_choose_150 : decode cX4_choose 150 = .ok (.iload 6, 2) := by decide +kernel
theorem dX4_choose_152 : decode cX4_choose 152 = .ok (.istore 8, 2) := by decide +kernel
theorem dX4_choose_154 : decode cX4_choose 154 = .ok (.iload 8, 2) := by decide +kernel
theorem dX4_choose_156 : decode cX4_choose 156 = .ok (.ifCond .le 24, 3) := by decide +kernel
theorem dX4_choose_159 : decode cX4_choose 159 = .ok (.aload_n 0, 1) := by decide +kernel
theorem dX4_choose_160 : decode cX4_choose 160 = .ok (.getfield 32, 3) := by decide +kernel
theorem dX4_choose_163 : decode cX4_choose 163 = .ok (.iload 8, 2) := by decide +kernel
theorem dX4_choose_165 : decode cX4_choose 165 = .ok (.aload_n 0, 1) := by decide +kernel
theorem dX4_choose_166 : decode cX4_choose 166 = .ok (.iload 8, 2) := by decide +kernel
theorem dX4_choose_168 : decode cX4_choose 168 = .ok (.iload 5, 2) := by decide +kernel
theorem dX4_choose_170 : decode cX4_choose 170 = .ok (.invokevirtual 99, 3) := by decide +kernel
theorem dX4_choose_173 : decode cX4_choose 173 = .ok (.lastore, 1) := by decide +kernel
theorem dX4_choose_174 : decode cX4_choose 174 = .ok (.iinc 8 (-1), 3) := by decide +kernel
theorem dX4_choose_177 : decode cX4_choose 177 = .ok (.goto (-23), 3) := by decide +kernel
theorem dX4_choose_180 : decode cX4_choose 180 = .ok (.iinc 7 1, 3) := by decide +kernel
theorem dX4_choose_183 : decode cX4_choose 183 = .ok (.goto (-128), 3) := by decide +kernel
theorem dX4_choose_186 : decode cX4_choose 186 = .ok (.aload_n 0, 1) := by decide +kernel
theorem dX4_choose_187 : decode cX4_choose 187 = .ok (.getfield 32, 3) := by decide +kernel
theorem dX4_choose_190 : decode cX4_choose 190 = .ok (.iload 6, 2) := by decide +kernel
theorem dX4_choose_192 : decode cX4_choose 192 = .ok (.laload, 1) := by decide +kernel
theorem dX4_choose_193 : decode cX4_choose 193 = .ok (.ldc2_w 93, 3) := by decide +kernel
theorem dX4_choose_196 : decode cX4_choose 196 = .ok (.lcmp, 1) := by decide +kernel
theorem dX4_choose_197 : decode cX4_choose 197 = .ok (.ifCond .ne 5, 3) := by decide +kernel
theorem dX4_choose_200 : decode cX4_choose 200 = .ok (.iconst 0, 1) := by decide +kernel
theorem dX4_choose_201 : decode cX4_choose 201 = .ok (.ireturn, 1) := by decide +kernel
theorem dX4_choose_202 : decode cX4_choose 202 = .ok (.aload_n 0, 1) := by decide +kernel
theorem dX4_choose_203 : decode cX4_choose 203 = .ok (.aload_n 0, 1) := by decide +kernel
theorem dX4_choose_204 : decode cX4_choose 204 = .ok (.getfield 32, 3) := by decide +kernel
theorem dX4_choose_207 : decode cX4_choose 207 = .ok (.iload 6, 2) := by decide +kernel
theorem dX4_choose_209 : decode cX4_choose 209 = .ok (.laload, 1) := by decide +kernel
theorem dX4_choose_210 : decode cX4_choose 210 = .ok (.invokevirtual 103, 3) := by decide +kernel
theorem dX4_choose_213 : decode cX4_choose 213 = .ok (.iconst 1, 1) := by decide +kernel
theorem dX4_choose_214 : decode cX4_choose 214 = .ok (.ireturn, 1) := by decide +kernel
def tX4_choose (g : ax_G) : Nat → ax_O := ax_nd 103 (ax_nd 50 (ax_nd 20 (ax_nd 11 (ax_nd 4 (ax_nd 0 (ax_lf 0 (ao_al 3 1)) (ax_nd 1 (ax_lf 1 (ao_gi 2 3)) (ax_lf 4 (ao_ic (6) 2)))) (ax_nd 6 (ax_lf 6 ao_imin) (ax_nd 9 (ax_lf 9 (ao_is 5 2)) (ax_lf 11 (ao_ic (1) 1))))) (ax_nd 15 (ax_nd 12 (ax_lf 12 (ao_il 5 2)) (ax_nd 14 (ax_lf 14 ao_ishl) (ax_lf 15 (ao_ic (1) 1)))) (ax_nd 17 (ax_nd 16 (ax_lf 16 ao_isub) (ax_lf 17 (ao_is 6 2))) (ax_nd 19 (ax_lf 19 (ao_ic (1) 1)) (ax_lf 20 (ao_is 7 2)))))) (ax_nd 35 (ax_nd 26 (ax_nd 22 (ax_lf 22 (ao_il 7 2)) (ax_nd 24 (ax_lf 24 (ao_il 6 2)) (ax_lf 26 (ao_icmp_gt 45)))) (ax_nd 30 (ax_nd 29 (ax_lf 29 (ao_al 0 1)) (ax_lf 30 (ao_gr 4 6))) (ax_nd 33 (ax_lf 33 (ao_il 7 2)) (ax_lf 35 (ao_lc (-1152921504606846976) 3))))) (ax_nd 42 (ax_nd 38 (ax_lf 38 ao_last) (ax_nd 39 (ax_lf 39 (ao_iinc 7 (1))) (ax_lf 42 (ao_goto 22)))) (ax_nd 46 (ax_nd 45 (ax_lf 45 (ao_al 0 1)) (ax_lf 46 (ao_gr 4 6))) (ax_nd 49 (ax_lf 49 (ao_ic (0) 1)) (ax_lf 50 (ao_lc (0) 1))))))) (ax_nd 74 (ax_nd 58 (ax_nd 53 (ax_nd 51 (ax_lf 51 ao_last) (ax_nd 52 (ax_lf 52 (ao_ic (0) 1)) (ax_lf 53 (ao_is 7 2)))) (ax_nd 55 (ax_lf 55 (ao_il 7 2)) (ax_nd 57 (ax_lf 57 (ao_al 1 1)) (ax_lf 58 (ao_gi 6 5))))) (ax_nd 65 (ax_nd 61 (ax_lf 61 (ao_icmp_ge 186)) (ax_nd 64 (ax_lf 64 (ao_ic (0) 1)) (ax_lf 65 (ao_is 8 2)))) (ax_nd 69 (ax_nd 67 (ax_lf 67 (ao_il 8 2)) (ax_lf 69 (ao_il 5 2))) (ax_nd 71 (ax_lf 71 (ao_icmp_ge 150)) (ax_lf 74 (ao_il 4 2)))))) (ax_nd 88 (ax_nd 81 (ax_nd 76 (ax_lf 76 (ao_if_ne 103)) (ax_nd 79 (ax_lf 79 (ao_il 7 2)) (ax_lf 81 (ao_al 3 1)))) (ax_nd 84 (ax_nd 82 (ax_lf 82 (ao_il 8 2)) (ax_lf 84 (ao_ic (1) 1))) (ax_nd 85 (ax_lf 85 (ao_inv g 2 2 1 yX2_cell cX2_cell 3 (some .int) 3 0 0 0 0)) (ax_lf 88 (ao_icmp_lt 107))))) (ax_nd 94 (ax_nd 91 (ax_lf 91 (ao_il 7 2)) (ax_nd 93 (ax_lf 93 (ao_al 3 1)) (ax_lf 94 (ao_il 8 2)))) (ax_nd 97 (ax_nd 96 (ax_lf 96 (ao_ic (2) 1)) (ax_lf 97 (ao_inv g 2 2 1 yX2_cell cX2_cell 3 (some .int) 3 0 0 0 0))) (ax_nd 100 (ax_lf 100 (ao_icmp_gt 107)) (ax_lf 103 (ao_ic (1) 1)))))))) (ax_nd 159 (ax_nd 126 (ax_nd 114 (ax_nd 108 (ax_nd 104 (ax_lf 104 (ao_goto 108)) (ax_nd 107 (ax_lf 107 (ao_ic (0) 1)) (ax_lf 108 (ao_is 9 2)))) (ax_nd 110 (ax_lf 110 (ao_al 0 1)) (ax_nd 111 (ax_lf 111 (ao_gr 4 7)) (ax_lf 114 (ao_il 8 2))))) (ax_nd 121 (ax_nd 116 (ax_lf 116 (ao_il 9 2)) (ax_nd 118 (ax_lf 118 (ao_if_eq 140)) (ax_lf 121 (ao_al 1 1)))) (ax_nd 123 (ax_nd 122 (ax_lf 122 (ao_al 2 1)) (ax_lf 123 (ao_al 3 1))) (ax_nd 124 (ax_lf 124 (ao_il 8 2)) (ax_lf 126 (ao_ic (0) 1)))))) (ax_nd 143 (ax_nd 132 (ax_nd 127 (ax_lf 127 (ao_inv g 2 2 1 yX2_cell cX2_cell 3 (some .int) 3 0 0 0 0)) (ax_nd 130 (ax_lf 130 (ao_il 8 2)) (ax_lf 132 (ao_il 7 2)))) (ax_nd 137 (ax_nd 134 (ax_lf 134 (ao_inv g 4 99 2 yX4_scoreOf cX4_scoreOf 7 (some .long) 5 0 0 0 0)) (ax_lf 137 (ao_goto 143))) (ax_nd 140 (ax_lf 140 (ao_lc (-1152921504606846976) 3)) (ax_lf 143 ao_last)))) (ax_nd 150 (ax_nd 144 (ax_lf 144 (ao_iinc 8 (1))) (ax_nd 147 (ax_lf 147 (ao_goto 67)) (ax_lf 150 (ao_il 6 2)))) (ax_nd 154 (ax_nd 152 (ax_lf 152 (ao_is 8 2)) (ax_lf 154 (ao_il 8 2))) (ax_nd 156 (ax_lf 156 (ao_if_le 180)) (ax_lf 159 (ao_al 0 1))))))) (ax_nd 190 (ax_nd 173 (ax_nd 165 (ax_nd 160 (ax_lf 160 (ao_gr 4 6)) (ax_nd 163 (ax_lf 163 (ao_il 8 2)) (ax_lf 165 (ao_al 0 1)))) (ax_nd 168 (ax_nd 166 (ax_lf 166 (ao_il 8 2)) (ax_lf 168 (ao_il 5 2))) (ax_nd 170 (ax_lf 170 (ao_inv g 1 4 2 yX4_bestOf cX4_bestOf 7 (some .long) 3 0 0 0 0)) (ax_lf 173 ao_last)))) (ax_nd 180 (ax_nd 174 (ax_lf 174 (ao_iinc 8 (-1))) (ax_nd 177 (ax_lf 177 (ao_goto 154)) (ax_lf 180 (ao_iinc 7 (1))))) (ax_nd 186 (ax_nd 183 (ax_lf 183 (ao_goto 55)) (ax_lf 186 (ao_al 0 1))) (ax_nd 187 (ax_lf 187 (ao_gr 4 6)) (ax_lf 190 (ao_il 6 2)))))) (ax_nd 202 (ax_nd 196 (ax_nd 192 (ax_lf 192 ao_lald) (ax_nd 193 (ax_lf 193 (ao_lc (-1152921504606846976) 3)) (ax_lf 196 ao_lcmp))) (ax_nd 200 (ax_nd 197 (ax_lf 197 (ao_if_ne 202)) (ax_lf 200 (ao_ic (0) 1))) (ax_nd 201 (ax_lf 201 (ao_zret 0 0)) (ax_lf 202 (ao_al 0 1))))) (ax_nd 207 (ax_nd 203 (ax_lf 203 (ao_al 0 1)) (ax_nd 204 (ax_lf 204 (ao_gr 4 6)) (ax_lf 207 (ao_il 6 2)))) (ax_nd 210 (ax_nd 209 (ax_lf 209 ao_lald) (ax_lf 210 (ao_inv g 2 4 0 yX4_keep cX4_keep 6 none 2 0 0 0 0))) (ax_nd 213 (ax_lf 213 (ao_ic (1) 1)) (ax_lf 214 (ao_zret 0 0))))))))
theorem oX4_choose (g : ax_G) : ∀ pc, ax_ok g cX4_choose 10 (some .boolean) RX4 "choose" 5 0 0 pc (tX4_choose g pc) := ax_nd_ok (ax_nd_ok (ax_nd_ok (ax_nd_ok (ax_nd_ok (ax_nd_ok (ax_lf_ok (ak_aload_n rfl dX4_choose_0)) (ax_nd_ok (ax_lf_ok (ak_gi fF_X4_72 dX4_choose_1)) (ax_lf_ok (ak_bipush (by decide) dX4_choose_4)))) (ax_nd_ok (ax_lf_ok (ak_imin (by decide) wd_861 wd_472 wd_107 wd_473 dX4_choose_6)) (ax_nd_ok (ax_lf_ok (ak_istore (by decide) dX4_choose_9)) (ax_lf_ok (ak_iconst (by decide) dX4_choose_11))))) (ax_nd_ok (ax_nd_ok (ax_lf_ok (ak_iload dX4_choose_12)) (ax_nd_ok (ax_lf_ok (ak_ishl dX4_choose_14)) (ax_lf_ok (ak_iconst (by decide) dX4_choose_15)))) (ax_nd_ok (ax_nd_ok (ax_lf_ok (ak_isub dX4_choose_16)) (ax_lf_ok (ak_istore (by decide) dX4_choose_17))) (ax_nd_ok (ax_lf_ok (ak_iconst (by decide) dX4_choose_19)) (ax_lf_ok (ak_istore (by decide) dX4_choose_20)))))) (ax_nd_ok (ax_nd_ok (ax_nd_ok (ax_lf_ok (ak_iload dX4_choose_22)) (ax_nd_ok (ax_lf_ok (ak_iload dX4_choose_24)) (ax_lf_ok (ak_icmp_gt (by decide) dX4_choose_26)))) (ax_nd_ok (ax_nd_ok (ax_lf_ok (ak_aload_n rfl dX4_choose_29)) (ax_lf_ok (ak_gr fF_X4_32 dX4_choose_30))) (ax_nd_ok (ax_lf_ok (ak_iload dX4_choose_33)) (ax_lf_ok (ak_ldc2 wd_862 dX4_choose_35))))) (ax_nd_ok (ax_nd_ok (ax_lf_ok (ak_last dX4_choose_38)) (ax_nd_ok (ax_lf_ok (ak_iinc (by decide) (by decide) dX4_choose_39)) (ax_lf_ok (ak_goto (by decide) dX4_choose_42)))) (ax_nd_ok (ax_nd_ok (ax_lf_ok (ak_aload_n rfl dX4_choose_45)) (ax_lf_ok (ak_gr fF_X4_32 dX4_choose_46))) (ax_nd_ok (ax_lf_ok (ak_iconst (by decide) dX4_choose_49)) (ax_lf_ok (ak_lconst (by decide) dX4_choose_50))))))) (ax_nd_ok (ax_nd_ok (ax_nd_ok (ax_nd_ok (ax_lf_ok (ak_last dX4_choose_51)) (ax_nd_ok (ax_lf_ok (ak_iconst (by decide) dX4_choose_52)) (ax_lf_ok (ak_istore (by decide) dX4_choose_53)))) (ax_nd_ok (ax_lf_ok (ak_iload dX4_choose_55)) (ax_nd_ok (ax_lf_ok (ak_aload_n rfl dX4_choose_57)) (ax_lf_ok (ak_gi fF_X4_56 dX4_choose_58))))) (ax_nd_ok (ax_nd_ok (ax_lf_ok (ak_icmp_ge (by decide) dX4_choose_61)) (ax_nd_ok (ax_lf_ok (ak_iconst (by decide) dX4_choose_64)) (ax_lf_ok (ak_istore (by decide) dX4_choose_65)))) (ax_nd_ok (ax_nd_ok (ax_lf_ok (ak_iload dX4_choose_67)) (ax_lf_ok (ak_iload dX4_choose_69))) (ax_nd_ok (ax_lf_ok (ak_icmp_ge (by decide) dX4_choose_71)) (ax_lf_ok (ak_iload dX4_choose_74)))))) (ax_nd_ok (ax_nd_ok (ax_nd_ok (ax_lf_ok (ak_if_ne (by decide) dX4_choose_76)) (ax_nd_ok (ax_lf_ok (ak_iload dX4_choose_79)) (ax_lf_ok (ak_aload_n rfl dX4_choose_81)))) (ax_nd_ok (ax_nd_ok (ax_lf_ok (ak_iload dX4_choose_82)) (ax_lf_ok (ak_iconst (by decide) dX4_choose_84))) (ax_nd_ok (ax_lf_ok (ak_invV (by decide) (by decide) (by decide) rfl wd_863 wd_754 wd_755 wd_99 wd_756 ⟨by decide, by decide, by decide +kernel⟩ dX4_choose_85)) (ax_lf_ok (ak_icmp_lt (by decide) dX4_choose_88))))) (ax_nd_ok (ax_nd_ok (ax_lf_ok (ak_iload dX4_choose_91)) (ax_nd_ok (ax_lf_ok (ak_aload_n rfl dX4_choose_93)) (ax_lf_ok (ak_iload dX4_choose_94)))) (ax_nd_ok (ax_nd_ok (ax_lf_ok (ak_iconst (by decide) dX4_choose_96)) (ax_lf_ok (ak_invV (by decide) (by decide) (by decide) rfl wd_863 wd_754 wd_755 wd_99 wd_756 ⟨by decide, by decide, by decide +kernel⟩ dX4_choose_97))) (ax_nd_ok (ax_lf_ok (ak_icmp_gt (by decide) dX4_choose_100)) (ax_lf_ok (ak_iconst (by decide) dX4_choose_103)))))))) (ax_nd_ok (ax_nd_ok (ax_nd_ok (ax_nd_ok (ax_nd_ok (ax_lf_ok (ak_goto (by decide) dX4_choose_104)) (ax_nd_ok (ax_lf_ok (ak_iconst (by decide) dX4_choose_107)) (ax_lf_ok (ak_istore (by decide) dX4_choose_108)))) (ax_nd_ok (ax_lf_ok (ak_aload_n rfl dX4_choose_110)) (ax_nd_ok (ax_lf_ok (ak_gr fF_X4_36 dX4_choose_111)) (ax_lf_ok (ak_iload dX4_choose_114))))) (ax_nd_ok (ax_nd_ok (ax_lf_ok (ak_iload dX4_choose_116)) (ax_nd_ok (ax_lf_ok (ak_if_eq (by decide) dX4_choose_118)) (ax_lf_ok (ak_aload_n rfl dX4_choose_121)))) (ax_nd_ok (ax_nd_ok (ax_lf_ok (ak_aload_n rfl dX4_choose_122)) (ax_lf_ok (ak_aload_n rfl dX4_choose_123))) (ax_nd_ok (ax_lf_ok (ak_iload dX4_choose_124)) (ax_lf_ok (ak_iconst (by decide) dX4_choose_126)))))) (ax_nd_ok (ax_nd_ok (ax_nd_ok (ax_lf_ok (ak_invV (by decide) (by decide) (by decide) rfl wd_863 wd_754 wd_755 wd_99 wd_756 ⟨by decide, by decide, by decide +kernel⟩ dX4_choose_127)) (ax_nd_ok (ax_lf_ok (ak_iload dX4_choose_130)) (ax_lf_ok (ak_iload dX4_choose_132)))) (ax_nd_ok (ax_nd_ok (ax_lf_ok (ak_invS (by decide) (by decide) wd_864 wd_865 wd_103 wd_866 ⟨by decide, by decide, by decide +kernel⟩ dX4_choose_134)) (ax_lf_ok (ak_goto (by decide) dX4_choose_137))) (ax_nd_ok (ax_lf_ok (ak_ldc2 wd_862 dX4_choose_140)) (ax_lf_ok (ak_last dX4_choose_143))))) (ax_nd_ok (ax_nd_ok (ax_lf_ok (ak_iinc (by decide) (by decide) dX4_choose_144)) (ax_nd_ok (ax_lf_ok (ak_goto (by decide) dX4_choose_147)) (ax_lf_ok (ak_iload dX4_choose_150)))) (ax_nd_ok (ax_nd_ok (ax_lf_ok (ak_istore (by decide) dX4_choose_152)) (ax_lf_ok (ak_iload dX4_choose_154))) (ax_nd_ok (ax_lf_ok (ak_if_le (by decide) dX4_choose_156)) (ax_lf_ok (ak_aload_n rfl dX4_choose_159))))))) (ax_nd_ok (ax_nd_ok (ax_nd_ok (ax_nd_ok (ax_lf_ok (ak_gr fF_X4_32 dX4_choose_160)) (ax_nd_ok (ax_lf_ok (ak_iload dX4_choose_163)) (ax_lf_ok (ak_aload_n rfl dX4_choose_165)))) (ax_nd_ok (ax_nd_ok (ax_lf_ok (ak_iload dX4_choose_166)) (ax_lf_ok (ak_iload dX4_choose_168))) (ax_nd_ok (ax_lf_ok (ak_invV (by decide) (by decide) (by decide) rfl wd_872 wd_874 wd_15 wd_103 wd_875 ⟨by decide, by decide, by decide +kernel⟩ dX4_choose_170)) (ax_lf_ok (ak_last dX4_choose_173))))) (ax_nd_ok (ax_nd_ok (ax_lf_ok (ak_iinc (by decide) (by decide) dX4_choose_174)) (ax_nd_ok (ax_lf_ok (ak_goto (by decide) dX4_choose_177)) (ax_lf_ok (ak_iinc (by decide) (by decide) dX4_choose_180)))) (ax_nd_ok (ax_nd_ok (ax_lf_ok (ak_goto (by decide) dX4_choose_183)) (ax_lf_ok (ak_aload_n rfl dX4_choose_186))) (ax_nd_ok (ax_lf_ok (ak_gr fF_X4_32 dX4_choose_187)) (ax_lf_ok (ak_iload dX4_choose_190)))))) (ax_nd_ok (ax_nd_ok (ax_nd_ok (ax_lf_ok (ak_lald dX4_choose_192)) (ax_nd_ok (ax_lf_ok (ak_ldc2 wd_862 dX4_choose_193)) (ax_lf_ok (ak_lcmp dX4_choose_196)))) (ax_nd_ok (ax_nd_ok (ax_lf_ok (ak_if_ne (by decide) dX4_choose_197)) (ax_lf_ok (ak_iconst (by decide) dX4_choose_200))) (ax_nd_ok (ax_lf_ok (ak_zret rfl dX4_choose_201)) (ax_lf_ok (ak_aload_n rfl dX4_choose_202))))) (ax_nd_ok (ax_nd_ok (ax_lf_ok (ak_aload_n rfl dX4_choose_203)) (ax_nd_ok (ax_lf_ok (ak_gr fF_X4_32 dX4_choose_204)) (ax_lf_ok (ak_iload dX4_choose_207)))) (ax_nd_ok (ax_nd_ok (ax_lf_ok (ak_lald dX4_choose_209)) (ax_lf_ok (ak_invV (by decide) (by decide) (by decide) rfl wd_877 wd_879 wd_16 wd_103 wd_880 ⟨by decide, by decide, by decide +kernel⟩ dX4_choose_210))) (ax_nd_ok (ax_lf_ok (ak_iconst (by decide) dX4_choose_213)) (ax_lf_ok (ak_zret rfl dX4_choose_214))))))))
abbrev mX4_choose (g : ax_G) (as : List Value) (h : ax_H) (Ret : Option Value → ax_H → Prop) : Prop := ax_M g 5 0 0 yX4_choose cX4_choose 10 (some .boolean) as h Ret
theorem dX4_scoreOf_0 : decode cX4_scoreOf 0 = .ok (.aload_n 0, 1) := by decide +kernel
theorem dX4_scoreOf_1 : decode cX4_scoreOf 1 = .ok (.iload_n 2, 1) := by decide +kernel
theorem dX4_scoreOf_2 : decode cX4_scoreOf 2 = .ok (.invokevirtual 81, 3) := by decide +kernel
theorem dX4_scoreOf_5 : decode cX4_scoreOf 5 = .ok (.i2l, 1) := by decide +kernel
theorem dX4_scoreOf_6 : decode cX4_scoreOf 6 = .ok (.aload_n 1, 1) := by decide +kernel
theorem dX4_scoreOf_7 : decode cX4_scoreOf 7 = .ok (.getfield 107, 3) := by decide +kernel
theorem dX4_scoreOf_10 : decode cX4_scoreOf 10 = .ok (.i2l, 1) := by decide +kernel
theorem dX4_scoreOf_11 : decode cX4_scoreOf 11 = .ok (.lmul, 1) := by decide +kernel
theorem dX4_scoreOf_12 : decode cX4_scoreOf 12 = .ok (.aload_n 0, 1) := by decide +kernel
theorem dX4_scoreOf_13 : decode cX4_scoreOf 13 = .ok (.iload_n 2, 1) := by decide +kernel
theorem dX4_scoreOf_14 : decode cX4_scoreOf 14 = .ok (.invokevirtual 85, 3) := by decide +kernel
theorem dX4_scoreOf_17 : decode cX4_scoreOf 17 = .ok (.i2l, 1) := by decide +kernel
theorem dX4_scoreOf_18 : decode cX4_scoreOf 18 = .ok (.aload_n 1, 1) := by decide +kernel
theorem dX4_scoreOf_19 : decode cX4_scoreOf 19 = .ok (.getfield 65, 3) := by decide +kernel
theorem dX4_scoreOf_22 : decode cX4_scoreOf 22 = .ok (.iload 4, 2) := by decide +kernel
theorem dX4_scoreOf_24 : decode cX4_scoreOf 24 = .ok (.iaload, 1) := by decide +kernel
theorem dX4_scoreOf_25 : decode cX4_scoreOf 25 = .ok (.i2l, 1) := by decide +kernel
theorem dX4_scoreOf_26 : decode cX4_scoreOf 26 = .ok (.lmul, 1) := by decide +kernel
theorem dX4_scoreOf_27 : decode cX4_scoreOf 27 = .ok (.ladd, 1) := by decide +kernel
theorem dX4_scoreOf_28 : decode cX4_scoreOf 28 = .ok (.lstore 5, 2) := by decide +kernel
theorem dX4_scoreOf_30 : decode cX4_scoreOf 30 = .ok (.lload 5, 2) := by decide +kernel
theorem dX4_scoreOf_32 : decode cX4_scoreOf 32 = .ok (.bipush 24, 2) := by decide +kernel
theorem dX4_scoreOf_34 : decode cX4_scoreOf 34 = .ok (.lshl, 1) := by decide +kernel
theorem dX4_scoreOf_35 : decode cX4_scoreOf 35 = .ok (.iload 4, 2) := by decide +kernel
theorem dX4_scoreOf_37 : decode cX4_scoreOf 37 = .ok (.i2l, 1) := by decide +kernel
theorem dX4_scoreOf_38 : decode cX4_scoreOf 38 = .ok (.iload_n 3, 1) := by decide +kernel
theorem dX4_scoreOf_39 : decode cX4_scoreOf 39 = .ok (.invokestatic 110, 3) := by decide +kernel
theorem dX4_scoreOf_42 : decode cX4_scoreOf 42 = .ok (.lshl, 1) := by decide +kernel
theorem dX4_scoreOf_43 : decode cX4_scoreOf 43 = .ok (.lsub, 1) := by decide +kernel
theorem dX4_scoreOf_44 : decode cX4_scoreOf 44 = .ok (.lreturn, 1) := by decide +kernel
def tX4_scoreOf (g : ax_G) : Nat → ax_O := ax_nd 22 (ax_nd 10 (ax_nd 2 (ax_nd 0 (ax_lf 0 (ao_al 0 1)) (ax_nd 1 (ax_lf 1 (ao_il 2 1)) (ax_lf 2 (ao_inv g 1 6 1 yX6_worthOf cX6_worthOf 2 (some .int) 2 0 0 0 0)))) (ax_nd 6 (ax_nd 5 (ax_lf 5 ao_i2l) (ax_lf 6 (ao_al 1 1))) (ax_nd 7 (ax_lf 7 (ao_gi 3 2)) (ax_lf 10 ao_i2l)))) (ax_nd 14 (ax_nd 12 (ax_nd 11 (ax_lf 11 ao_lmul) (ax_lf 12 (ao_al 0 1))) (ax_nd 13 (ax_lf 13 (ao_il 2 1)) (ax_lf 14 (ao_inv g 3 6 1 yX6_extraOf cX6_extraOf 2 (some .int) 2 0 0 0 0)))) (ax_nd 18 (ax_nd 17 (ax_lf 17 ao_i2l) (ax_lf 18 (ao_al 1 1))) (ax_nd 19 (ax_lf 19 (ao_gr 3 0)) (ax_lf 22 (ao_il 4 2)))))) (ax_nd 32 (ax_nd 26 (ax_nd 24 (ax_lf 24 ao_iald) (ax_nd 25 (ax_lf 25 ao_i2l) (ax_lf 26 ao_lmul))) (ax_nd 28 (ax_nd 27 (ax_lf 27 ao_ladd) (ax_lf 28 (ao_ls 5 2))) (ax_nd 30 (ax_lf 30 (ao_ll 5 2)) (ax_lf 32 (ao_ic (24) 2))))) (ax_nd 38 (ax_nd 35 (ax_nd 34 (ax_lf 34 ao_lshl) (ax_lf 35 (ao_il 4 2))) (ax_nd 37 (ax_lf 37 ao_i2l) (ax_lf 38 (ao_il 3 1)))) (ax_nd 42 (ax_nd 39 (ax_lf 39 (ao_inv g 1 99 1 yX4_rowShift cX4_rowShift 1 (some .int) 1 0 0 0 0)) (ax_lf 42 ao_lshl)) (ax_nd 43 (ax_lf 43 ao_lsub) (ax_lf 44 (ao_lret 0 0))))))
theorem oX4_scoreOf (g : ax_G) : ∀ pc, ax_ok g cX4_scoreOf 7 (some .long) RX4 "scoreOf" 4 0 0 pc (tX4_scoreOf g pc) := ax_nd_ok (ax_nd_ok (ax_nd_ok (ax_nd_ok (ax_lf_ok (ak_aload_n rfl dX4_scoreOf_0)) (ax_nd_ok (ax_lf_ok (ak_iload_n rfl dX4_scoreOf_1)) (ax_lf_ok (ak_invV (by decide) (by decide) (by decide) rfl wd_867 wd_674 wd_675 wd_98 wd_676 ⟨by decide, by decide, by decide +kernel⟩ dX4_scoreOf_2)))) (ax_nd_ok (ax_nd_ok (ax_lf_ok (ak_i2l dX4_scoreOf_5)) (ax_lf_ok (ak_aload_n rfl dX4_scoreOf_6))) (ax_nd_ok (ax_lf_ok (ak_gi fF_X4_107 dX4_scoreOf_7)) (ax_lf_ok (ak_i2l dX4_scoreOf_10))))) (ax_nd_ok (ax_nd_ok (ax_nd_ok (ax_lf_ok (ak_lmul dX4_scoreOf_11)) (ax_lf_ok (ak_aload_n rfl dX4_scoreOf_12))) (ax_nd_ok (ax_lf_ok (ak_iload_n rfl dX4_scoreOf_13)) (ax_lf_ok (ak_invV (by decide) (by decide) (by decide) rfl wd_868 wd_679 wd_680 wd_98 wd_681 ⟨by decide, by decide, by decide +kernel⟩ dX4_scoreOf_14)))) (ax_nd_ok (ax_nd_ok (ax_lf_ok (ak_i2l dX4_scoreOf_17)) (ax_lf_ok (ak_aload_n rfl dX4_scoreOf_18))) (ax_nd_ok (ax_lf_ok (ak_gr fF_X4_65 dX4_scoreOf_19)) (ax_lf_ok (ak_iload dX4_scoreOf_22)))))) (ax_nd_ok (ax_nd_ok (ax_nd_ok (ax_lf_ok (ak_iald dX4_scoreOf_24)) (ax_nd_ok (ax_lf_ok (ak_i2l dX4_scoreOf_25)) (ax_lf_ok (ak_lmul dX4_scoreOf_26)))) (ax_nd_ok (ax_nd_ok (ax_lf_ok (ak_ladd dX4_scoreOf_27)) (ax_lf_ok (ak_lstore (by decide) dX4_scoreOf_28))) (ax_nd_ok (ax_lf_ok (ak_lload dX4_scoreOf_30)) (ax_lf_ok (ak_bipush (by decide) dX4_scoreOf_32))))) (ax_nd_ok (ax_nd_ok (ax_nd_ok (ax_lf_ok (ak_lshl dX4_scoreOf_34)) (ax_lf_ok (ak_iload dX4_scoreOf_35))) (ax_nd_ok (ax_lf_ok (ak_i2l dX4_scoreOf_37)) (ax_lf_ok (ak_iload_n rfl dX4_scoreOf_38)))) (ax_nd_ok (ax_nd_ok (ax_lf_ok (ak_invS (by decide) (by decide) wd_869 wd_870 wd_103 wd_871 ⟨by decide, by decide, by decide +kernel⟩ dX4_scoreOf_39)) (ax_lf_ok (ak_lshl dX4_scoreOf_42))) (ax_nd_ok (ax_lf_ok (ak_lsub dX4_scoreOf_43)) (ax_lf_ok (ak_lret rfl dX4_scoreOf_44))))))
abbrev mX4_scoreOf (g : ax_G) (as : List Value) (h : ax_H) (Ret : Option Value → ax_H → Prop) : Prop := ax_M g 4 0 0 yX4_scoreOf cX4_scoreOf 7 (some .long) as h Ret
theorem dX4_rowShift_0 : decode cX4_rowShift 0 = .ok (.iconst 4, 1) := by decide +kernel
theorem dX4_rowShift_1 : decode cX4_rowShift 1 = .ok (.iconst 5, 1) := by decide +kernel
theorem dX4_rowShift_2 : decode cX4_rowShift 2 = .ok (.iload_n 0, 1) := by decide +kernel
theorem dX4_rowShift_3 : decode cX4_rowShift 3 = .ok (.isub, 1) := by decide +kernel
theorem dX4_rowShift_4 : decode cX4_rowShift 4 = .ok (.imul, 1) := by decide +kernel
theorem dX4_rowShift_5 : decode cX4_rowShift 5 = .ok (.ireturn, 1) := by decide +kernel
def tX4_rowShift (g : ax_G) : Nat → ax_O := ax_nd 2 (ax_nd 0 (ax_lf 0 (ao_ic (4) 1)) (ax_nd 1 (ax_lf 1 (ao_ic (5) 1)) (ax_lf 2 (ao_il 0 1)))) (ax_nd 3 (ax_lf 3 ao_isub) (ax_nd 4 (ax_lf 4 ao_imul) (ax_lf 5 (ao_iret 0 0))))
theorem oX4_rowShift (g : ax_G) : ∀ pc, ax_ok g cX4_rowShift 1 (some .int) RX4 "rowShift" 1 0 0 pc (tX4_rowShift g pc) := ax_nd_ok (ax_nd_ok (ax_lf_ok (ak_iconst (by decide) dX4_rowShift_0)) (ax_nd_ok (ax_lf_ok (ak_iconst (by decide) dX4_rowShift_1)) (ax_lf_ok (ak_iload_n rfl dX4_rowShift_2)))) (ax_nd_ok (ax_lf_ok (ak_isub dX4_rowShift_3)) (ax_nd_ok (ax_lf_ok (ak_imul dX4_rowShift_4)) (ax_lf_ok (ak_iret rfl dX4_rowShift_5))))
abbrev mX4_rowShift (g : ax_G) (as : List Value) (h : ax_H) (Ret : Option Value → ax_H → Prop) : Prop := ax_M g 1 0 0 yX4_rowShift cX4_rowShift 1 (some .int) as h Ret
theorem dX4_bestOf_0 : decode cX4_bestOf 0 = .ok (.aload_n 0, 1) := by decide +kernel
theorem dX4_bestOf_1 : decode cX4_bestOf 1 = .ok (.getfield 32, 3) := by decide +kernel
theorem dX4_bestOf_4 : decode cX4_bestOf 4 = .ok (.iload_n 1, 1) := by decide +kernel
theorem dX4_bestOf_5 : decode cX4_bestOf 5 = .ok (.laload, 1) := by decide +kernel
theorem dX4_bestOf_6 : decode cX4_bestOf 6 = .ok (.lstore_n 3, 1) := by decide +kernel
theorem dX4_bestOf_7 : decode cX4_bestOf 7 = .ok (.iconst 0, 1) := by decide +kernel
theorem dX4_bestOf_8 : decode cX4_bestOf 8 = .ok (.istore 5, 2) := by decide +kernel
theorem dX4_bestOf_10 : decode cX4_bestOf 10 = .ok (.iload 5, 2) := by decide +kernel
theorem dX4_bestOf_12 : decode cX4_bestOf 12 = .ok (.iload_n 2, 1) := by decide +kernel
theorem dX4_bestOf_13 : decode cX4_bestOf 13 = .ok (.if_icmp .ge 74, 3) := by decide +kernel
theorem dX4_bestOf_16 : decode cX4_bestOf 16 = .ok (.iconst 1, 1) := by decide +kernel
theorem dX4_bestOf_17 : decode cX4_bestOf 17 = .ok (.iload 5, 2) := by decide +kernel
theorem dX4_bestOf_19 : decode cX4_bestOf 19 = .ok (.ishl, 1) := by decide +kernel
theorem dX4_bestOf_20 : decode cX4_bestOf 20 = .ok (.istore 6, 2) := by decide +kernel
theorem dX4_bestOf_22 : decode cX4_bestOf 22 = .ok (.iload_n 1, 1) := by decide +kernel
theorem dX4_bestOf_23 : decode cX4_bestOf 23 = .ok (.iload 6, 2) := by decide +kernel
theorem dX4_bestOf_25 : decode cX4_bestOf 25 = .ok (.iand, 1) := by decide +kernel
theorem dX4_bestOf_26 : decode cX4_bestOf 26 = .ok (.ifCond .eq 55, 3) := by decide +kernel
theorem dX4_bestOf_29 : decode cX4_bestOf 29 = .ok (.aload_n 0, 1) := by decide +kernel
theorem dX4_bestOf_30 : decode cX4_bestOf 30 = .ok (.getfield 36, 3) := by decide +kernel
theorem dX4_bestOf_33 : decode cX4_bestOf 33 = .ok (.iload 5, 2) := by decide +kernel
theorem dX4_bestOf_35 : decode cX4_bestOf 35 = .ok (.laload, 1) := by decide +kernel
theorem dX4_bestOf_36 : decode cX4_bestOf 36 = .ok (.ldc2_w 93, 3) := by decide +kernel
theorem dX4_bestOf_39 : decode cX4_bestOf 39 = .ok (.lcmp, 1) := by decide +kernel
theorem dX4_bestOf_40 : decode cX4_bestOf 40 = .ok (.ifCond .eq 41, 3) := by decide +kernel
theorem dX4_bestOf_43 : decode cX4_bestOf 43 = .ok (.aload_n 0, 1) := by decide +kernel
theorem dX4_bestOf_44 : decode cX4_bestOf 44 = .ok (.getfield 32, 3) := by decide +kernel
theorem dX4_bestOf_47 : decode cX4_bestOf 47 = .ok (.iload_n 1, 1) := by decide +kernel
theorem dX4_bestOf_48 : decode cX4_bestOf 48 = .ok (.iload 6, 2) := by decide +kernel
theorem dX4_bestOf_50 : decode cX4_bestOf 50 = .ok (.ixor, 1) := by decide +kernel
theorem dX4_bestOf_51 : decode cX4_bestOf 51 = .ok (.laload, 1) := by decide +kernel
theorem dX4_bestOf_52 : decode cX4_bestOf 52 = .ok (.ldc2_w 93, 3) := by decide +kernel
theorem dX4_bestOf_55 : decode cX4_bestOf 55 = .ok (.lcmp, 1) := by decide +kernel
theorem dX4_bestOf_56 : decode cX4_bestOf 56 = .ok (.ifCond .eq 25, 3) := by decide +kernel
theorem dX4_bestOf_59 : decode cX4_bestOf 59 = .ok (.lload_n 3, 1) := by decide +kernel
theorem dX4_bestOf_60 : decode cX4_bestOf 60 = .ok (.aload_n 0, 1) := by decide +kernel
theorem dX4_bestOf_61 : decode cX4_bestOf 61 = .ok (.getfield 32, 3) := by decide +kernel
theorem dX4_bestOf_64 : decode cX4_bestOf 64 = .ok (.iload_n 1, 1) := by decide +kernel
theorem dX4_bestOf_65 : decode cX4_bestOf 65 = .ok (.iload 6, 2) := by decide +kernel
theorem dX4_bestOf_67 : decode cX4_bestOf 67 = .ok (.ixor, 1) := by decide +kernel
theorem dX4_bestOf_68 : decode cX4_bestOf 68 = .ok (.laload, 1) := by decide +kernel
theorem dX4_bestOf_69 : decode cX4_bestOf 69 = .ok (.aload_n 0, 1) := by decide +kernel
theorem dX4_bestOf_70 : decode cX4_bestOf 70 = .ok (.getfield 36, 3) := by decide +kernel
theorem dX4_bestOf_73 : decode cX4_bestOf 73 = .ok (.iload 5, 2) := by decide +kernel
theorem dX4_bestOf_75 : decode cX4_bestOf 75 = .ok (.laload, 1) := by decide +kernel
theorem dX4_bestOf_76 : decode cX4_bestOf 76 = .ok (.ladd, 1) := by decide +kernel
theorem dX4_bestOf_77 : decode cX4_bestOf 77 = .ok (.invokestatic 113, 3) := by decide +kernel
theorem dX4_bestOf_80 : decode cX4_bestOf 80 = .ok (.lstore_n 3, 1) := by decide +kernel
theorem dX4_bestOf_81 : decode cX4_bestOf 81 = .ok (.iinc 5 1, 3) := by decide +kernel
theorem dX4_bestOf_84 : decode cX4_bestOf 84 = .ok (.goto (-74), 3) := by decide +kernel
theorem dX4_bestOf_87 : decode cX4_bestOf 87 = .ok (.lload_n 3, 1) := by decide +kernel
theorem dX4_bestOf_88 : decode cX4_bestOf 88 = .ok (.lreturn, 1) := by decide +kernel
def tX4_bestOf (g : ax_G) : Nat → ax_O := ax_nd 43 (ax_nd 19 (ax_nd 7 (ax_nd 4 (ax_nd 0 (ax_lf 0 (ao_al 0 1)) (ax_nd 1 (ax_lf 1 (ao_gr 4 6)) (ax_lf 4 (ao_il 1 1)))) (ax_nd 5 (ax_lf 5 ao_lald) (ax_nd 6 (ax_lf 6 (ao_ls 3 1)) (ax_lf 7 (ao_ic (0) 1))))) (ax_nd 12 (ax_nd 8 (ax_lf 8 (ao_is 5 2)) (ax_nd 10 (ax_lf 10 (ao_il 5 2)) (ax_lf 12 (ao_il 2 1)))) (ax_nd 16 (ax_nd 13 (ax_lf 13 (ao_icmp_ge 87)) (ax_lf 16 (ao_ic (1) 1))) (ax_nd 17 (ax_lf 17 (ao_il 5 2)) (ax_lf 19 ao_ishl))))) (ax_nd 29 (ax_nd 23 (ax_nd 20 (ax_lf 20 (ao_is 6 2)) (ax_nd 22 (ax_lf 22 (ao_il 1 1)) (ax_lf 23 (ao_il 6 2)))) (ax_nd 25 (ax_lf 25 ao_iand) (ax_nd 26 (ax_lf 26 (ao_if_eq 81)) (ax_lf 29 (ao_al 0 1))))) (ax_nd 35 (ax_nd 30 (ax_lf 30 (ao_gr 4 7)) (ax_nd 33 (ax_lf 33 (ao_il 5 2)) (ax_lf 35 ao_lald))) (ax_nd 39 (ax_nd 36 (ax_lf 36 (ao_lc (-1152921504606846976) 3)) (ax_lf 39 ao_lcmp)) (ax_nd 40 (ax_lf 40 (ao_if_eq 81)) (ax_lf 43 (ao_al 0 1))))))) (ax_nd 65 (ax_nd 52 (ax_nd 48 (ax_nd 44 (ax_lf 44 (ao_gr 4 6)) (ax_nd 47 (ax_lf 47 (ao_il 1 1)) (ax_lf 48 (ao_il 6 2)))) (ax_nd 50 (ax_lf 50 ao_ixor) (ax_nd 51 (ax_lf 51 ao_lald) (ax_lf 52 (ao_lc (-1152921504606846976) 3))))) (ax_nd 59 (ax_nd 55 (ax_lf 55 ao_lcmp) (ax_nd 56 (ax_lf 56 (ao_if_eq 81)) (ax_lf 59 (ao_ll 3 1)))) (ax_nd 61 (ax_nd 60 (ax_lf 60 (ao_al 0 1)) (ax_lf 61 (ao_gr 4 6))) (ax_nd 64 (ax_lf 64 (ao_il 1 1)) (ax_lf 65 (ao_il 6 2)))))) (ax_nd 75 (ax_nd 69 (ax_nd 67 (ax_lf 67 ao_ixor) (ax_nd 68 (ax_lf 68 ao_lald) (ax_lf 69 (ao_al 0 1)))) (ax_nd 70 (ax_lf 70 (ao_gr 4 7)) (ax_nd 73 (ax_lf 73 (ao_il 5 2)) (ax_lf 75 ao_lald)))) (ax_nd 80 (ax_nd 76 (ax_lf 76 ao_ladd) (ax_nd 77 (ax_lf 77 ao_lmax) (ax_lf 80 (ao_ls 3 1)))) (ax_nd 84 (ax_nd 81 (ax_lf 81 (ao_iinc 5 (1))) (ax_lf 84 (ao_goto 10))) (ax_nd 87 (ax_lf 87 (ao_ll 3 1)) (ax_lf 88 (ao_lret 0 0)))))))
theorem oX4_bestOf (g : ax_G) : ∀ pc, ax_ok g cX4_bestOf 7 (some .long) RX4 "bestOf" 1 0 0 pc (tX4_bestOf g pc) := ax_nd_ok (ax_nd_ok (ax_nd_ok (ax_nd_ok (ax_nd_ok (ax_lf_ok (ak_aload_n rfl dX4_bestOf_0)) (ax_nd_ok (ax_lf_ok (ak_gr fF_X4_32 dX4_bestOf_1)) (ax_lf_ok (ak_iload_n rfl dX4_bestOf_4)))) (ax_nd_ok (ax_lf_ok (ak_lald dX4_bestOf_5)) (ax_nd_ok (ax_lf_ok (ak_lstore_n rfl (by decide) dX4_bestOf_6)) (ax_lf_ok (ak_iconst (by decide) dX4_bestOf_7))))) (ax_nd_ok (ax_nd_ok (ax_lf_ok (ak_istore (by decide) dX4_bestOf_8)) (ax_nd_ok (ax_lf_ok (ak_iload dX4_bestOf_10)) (ax_lf_ok (ak_iload_n rfl dX4_bestOf_12)))) (ax_nd_ok (ax_nd_ok (ax_lf_ok (ak_icmp_ge (by decide) dX4_bestOf_13)) (ax_lf_ok (ak_iconst (by decide) dX4_bestOf_16))) (ax_nd_ok (ax_lf_ok (ak_iload dX4_bestOf_17)) (ax_lf_ok (ak_ishl dX4_bestOf_19)))))) (ax_nd_ok (ax_nd_ok (ax_nd_ok (ax_lf_ok (ak_istore (by decide) dX4_bestOf_20)) (ax_nd_ok (ax_lf_ok (ak_iload_n rfl dX4_bestOf_22)) (ax_lf_ok (ak_iload dX4_bestOf_23)))) (ax_nd_ok (ax_lf_ok (ak_iand dX4_bestOf_25)) (ax_nd_ok (ax_lf_ok (ak_if_eq (by decide) dX4_bestOf_26)) (ax_lf_ok (ak_aload_n rfl dX4_bestOf_29))))) (ax_nd_ok (ax_nd_ok (ax_lf_ok (ak_gr fF_X4_36 dX4_bestOf_30)) (ax_nd_ok (ax_lf_ok (ak_iload dX4_bestOf_33)) (ax_lf_ok (ak_lald dX4_bestOf_35)))) (ax_nd_ok (ax_nd_ok (ax_lf_ok (ak_ldc2 wd_862 dX4_bestOf_36)) (ax_lf_ok (ak_lcmp dX4_bestOf_39))) (ax_nd_ok (ax_lf_ok (ak_if_eq (by decide) dX4_bestOf_40)) (ax_lf_ok (ak_aload_n rfl dX4_bestOf_43))))))) (ax_nd_ok (ax_nd_ok (ax_nd_ok (ax_nd_ok (ax_lf_ok (ak_gr fF_X4_32 dX4_bestOf_44)) (ax_nd_ok (ax_lf_ok (ak_iload_n rfl dX4_bestOf_47)) (ax_lf_ok (ak_iload dX4_bestOf_48)))) (ax_nd_ok (ax_lf_ok (ak_ixor dX4_bestOf_50)) (ax_nd_ok (ax_lf_ok (ak_lald dX4_bestOf_51)) (ax_lf_ok (ak_ldc2 wd_862 dX4_bestOf_52))))) (ax_nd_ok (ax_nd_ok (ax_lf_ok (ak_lcmp dX4_bestOf_55)) (ax_nd_ok (ax_lf_ok (ak_if_eq (by decide) dX4_bestOf_56)) (ax_lf_ok (ak_lload_n rfl dX4_bestOf_59)))) (ax_nd_ok (ax_nd_ok (ax_lf_ok (ak_aload_n rfl dX4_bestOf_60)) (ax_lf_ok (ak_gr fF_X4_32 dX4_bestOf_61))) (ax_nd_ok (ax_lf_ok (ak_iload_n rfl dX4_bestOf_64)) (ax_lf_ok (ak_iload dX4_bestOf_65)))))) (ax_nd_ok (ax_nd_ok (ax_nd_ok (ax_lf_ok (ak_ixor dX4_bestOf_67)) (ax_nd_ok (ax_lf_ok (ak_lald dX4_bestOf_68)) (ax_lf_ok (ak_aload_n rfl dX4_bestOf_69)))) (ax_nd_ok (ax_lf_ok (ak_gr fF_X4_36 dX4_bestOf_70)) (ax_nd_ok (ax_lf_ok (ak_iload dX4_bestOf_73)) (ax_lf_ok (ak_lald dX4_bestOf_75))))) (ax_nd_ok (ax_nd_ok (ax_lf_ok (ak_ladd dX4_bestOf_76)) (ax_nd_ok (ax_lf_ok (ak_lmax (by decide) wd_876 wd_739 wd_107 wd_740 dX4_bestOf_77)) (ax_lf_ok (ak_lstore_n rfl (by decide) dX4_bestOf_80)))) (ax_nd_ok (ax_nd_ok (ax_lf_ok (ak_iinc (by decide) (by decide) dX4_bestOf_81)) (ax_lf_ok (ak_goto (by decide) dX4_bestOf_84))) (ax_nd_ok (ax_lf_ok (ak_lload_n rfl dX4_bestOf_87)) (ax_lf_ok (ak_lret rfl dX4_bestOf_88)))))))
abbrev mX4_bestOf (g : ax_G) (as : List Value) (h : ax_H) (Ret : Option Value → ax_H → Prop) : Prop := ax_M g 1 0 0 yX4_bestOf cX4_bestOf 7 (some .long) as h Ret
theorem dX4_keep_0 : decode cX4_keep 0 = .ok (.aload_n 0, 1) := by decide +kernel
theorem dX4_keep_1 : decode cX4_keep 1 = .ok (.lload_n 1, 1) := by decide +kernel
theorem dX4_keep_2 : decode cX4_keep 2 = .ok (.ldc2_w 117, 3) := by decide +kernel
theorem dX4_keep_5 : decode cX4_keep 5 = .ok (.ladd, 1) := by decide +kernel
theorem dX4_keep_6 : decode cX4_keep 6 = .ok (.lconst 1, 1) := by decide +kernel
theorem dX4_keep_7 : decode cX4_keep 7 = .ok (.lsub, 1) := by decide +kernel
theorem dX4_keep_8 : decode cX4_keep 8 = .ok (.bipush 24, 2) := by decide +kernel
theorem dX4_keep_10 : decode cX4_keep 10 = .ok (.lshr, 1) := by decide +kernel
theorem dX4_keep_11 : decode cX4_keep 11 = .ok (.putfield 26, 3) := by decide +kernel
theorem dX4_keep_14 : decode cX4_keep 14 = .ok (.aload_n 0, 1) := by decide +kernel
theorem dX4_keep_15 : decode cX4_keep 15 = .ok (.getfield 26, 3) := by decide +kernel
theorem dX4_keep_18 : decode cX4_keep 18 = .ok (.bipush 24, 2) := by decide +kernel
theorem dX4_keep_20 : decode cX4_keep 20 = .ok (.lshl, 1) := by decide +kernel
theorem dX4_keep_21 : decode cX4_keep 21 = .ok (.lload_n 1, 1) := by decide +kernel
theorem dX4_keep_22 : decode cX4_keep 22 = .ok (.lsub, 1) := by decide +kernel
theorem dX4_keep_23 : decode cX4_keep 23 = .ok (.lstore_n 3, 1) := by decide +kernel
theorem dX4_keep_24 : decode cX4_keep 24 = .ok (.iconst 0, 1) := by decide +kernel
theorem dX4_keep_25 : decode cX4_keep 25 = .ok (.istore 5, 2) := by decide +kernel
theorem dX4_keep_27 : decode cX4_keep 27 = .ok (.iload 5, 2) := by decide +kernel
theorem dX4_keep_29 : decode cX4_keep 29 = .ok (.bipush 6, 2) := by decide +kernel
theorem dX4_keep_31 : decode cX4_keep 31 = .ok (.if_icmp .ge 27, 3) := by decide +kernel
theorem dX4_keep_34 : decode cX4_keep 34 = .ok (.aload_n 0, 1) := by decide +kernel
theorem dX4_keep_35 : decode cX4_keep 35 = .ok (.getfield 29, 3) := by decide +kernel
theorem dX4_keep_38 : decode cX4_keep 38 = .ok (.iload 5, 2) := by decide +kernel
theorem dX4_keep_40 : decode cX4_keep 40 = .ok (.lload_n 3, 1) := by decide +kernel
theorem dX4_keep_41 : decode cX4_keep 41 = .ok (.iload 5, 2) := by decide +kernel
theorem dX4_keep_43 : decode cX4_keep 43 = .ok (.invokestatic 110, 3) := by decide +kernel
theorem dX4_keep_46 : decode cX4_keep 46 = .ok (.lshr, 1) := by decide +kernel
theorem dX4_keep_47 : decode cX4_keep 47 = .ok (.l2i, 1) := by decide +kernel
theorem dX4_keep_48 : decode cX4_keep 48 = .ok (.bipush 15, 2) := by decide +kernel
theorem dX4_keep_50 : decode cX4_keep 50 = .ok (.iand, 1) := by decide +kernel
theorem dX4_keep_51 : decode cX4_keep 51 = .ok (.iastore, 1) := by decide +kernel
theorem dX4_keep_52 : decode cX4_keep 52 = .ok (.iinc 5 1, 3) := by decide +kernel
theorem dX4_keep_55 : decode cX4_keep 55 = .ok (.goto (-28), 3) := by decide +kernel
theorem dX4_keep_58 : decode cX4_keep 58 = .ok (.return_, 1) := by decide +kernel
def tX4_keep (g : ax_G) : Nat → ax_O := ax_nd 24 (ax_nd 10 (ax_nd 5 (ax_nd 1 (ax_nd 0 (ax_lf 0 (ao_al 0 1)) (ax_lf 1 (ao_ll 1 1))) (ax_nd 2 (ax_lf 2 (ao_lc (16777216) 3)) (ax_lf 5 ao_ladd))) (ax_nd 7 (ax_nd 6 (ax_lf 6 (ao_lc (1) 1)) (ax_lf 7 ao_lsub)) (ax_nd 8 (ax_lf 8 (ao_ic (24) 2)) (ax_lf 10 ao_lshr)))) (ax_nd 18 (ax_nd 14 (ax_nd 11 (ax_lf 11 (ao_pl 4 4)) (ax_lf 14 (ao_al 0 1))) (ax_nd 15 (ax_lf 15 (ao_gl 4 4)) (ax_lf 18 (ao_ic (24) 2)))) (ax_nd 21 (ax_nd 20 (ax_lf 20 ao_lshl) (ax_lf 21 (ao_ll 1 1))) (ax_nd 22 (ax_lf 22 ao_lsub) (ax_nd 23 (ax_lf 23 (ao_ls 3 1)) (ax_lf 24 (ao_ic (0) 1))))))) (ax_nd 41 (ax_nd 31 (ax_nd 27 (ax_nd 25 (ax_lf 25 (ao_is 5 2)) (ax_lf 27 (ao_il 5 2))) (ax_nd 29 (ax_lf 29 (ao_ic (6) 2)) (ax_lf 31 (ao_icmp_ge 58)))) (ax_nd 35 (ax_nd 34 (ax_lf 34 (ao_al 0 1)) (ax_lf 35 (ao_gr 4 5))) (ax_nd 38 (ax_lf 38 (ao_il 5 2)) (ax_nd 40 (ax_lf 40 (ao_ll 3 1)) (ax_lf 41 (ao_il 5 2)))))) (ax_nd 48 (ax_nd 46 (ax_nd 43 (ax_lf 43 (ao_inv g 1 99 1 yX4_rowShift cX4_rowShift 1 (some .int) 1 0 0 0 0)) (ax_lf 46 ao_lshr)) (ax_nd 47 (ax_lf 47 ao_l2i) (ax_lf 48 (ao_ic (15) 2)))) (ax_nd 51 (ax_nd 50 (ax_lf 50 ao_iand) (ax_lf 51 ao_iast)) (ax_nd 52 (ax_lf 52 (ao_iinc 5 (1))) (ax_nd 55 (ax_lf 55 (ao_goto 27)) (ax_lf 58 (ao_vret 0 0)))))))
theorem oX4_keep (g : ax_G) : ∀ pc, ax_ok g cX4_keep 6 none RX4 "keep" 2 0 0 pc (tX4_keep g pc) := ax_nd_ok (ax_nd_ok (ax_nd_ok (ax_nd_ok (ax_nd_ok (ax_lf_ok (ak_aload_n rfl dX4_keep_0)) (ax_lf_ok (ak_lload_n rfl dX4_keep_1))) (ax_nd_ok (ax_lf_ok (ak_ldc2 wd_881 dX4_keep_2)) (ax_lf_ok (ak_ladd dX4_keep_5)))) (ax_nd_ok (ax_nd_ok (ax_lf_ok (ak_lconst (by decide) dX4_keep_6)) (ax_lf_ok (ak_lsub dX4_keep_7))) (ax_nd_ok (ax_lf_ok (ak_bipush (by decide) dX4_keep_8)) (ax_lf_ok (ak_lshr dX4_keep_10))))) (ax_nd_ok (ax_nd_ok (ax_nd_ok (ax_lf_ok (ak_pl fF_X4_26 fW_X4_26_a dX4_keep_11)) (ax_lf_ok (ak_aload_n rfl dX4_keep_14))) (ax_nd_ok (ax_lf_ok (ak_gl fF_X4_26 dX4_keep_15)) (ax_lf_ok (ak_bipush (by decide) dX4_keep_18)))) (ax_nd_ok (ax_nd_ok (ax_lf_ok (ak_lshl dX4_keep_20)) (ax_lf_ok (ak_lload_n rfl dX4_keep_21))) (ax_nd_ok (ax_lf_ok (ak_lsub dX4_keep_22)) (ax_nd_ok (ax_lf_ok (ak_lstore_n rfl (by decide) dX4_keep_23)) (ax_lf_ok (ak_iconst (by decide) dX4_keep_24))))))) (ax_nd_ok (ax_nd_ok (ax_nd_ok (ax_nd_ok (ax_lf_ok (ak_istore (by decide) dX4_keep_25)) (ax_lf_ok (ak_iload dX4_keep_27))) (ax_nd_ok (ax_lf_ok (ak_bipush (by decide) dX4_keep_29)) (ax_lf_ok (ak_icmp_ge (by decide) dX4_keep_31)))) (ax_nd_ok (ax_nd_ok (ax_lf_ok (ak_aload_n rfl dX4_keep_34)) (ax_lf_ok (ak_gr fF_X4_29 dX4_keep_35))) (ax_nd_ok (ax_lf_ok (ak_iload dX4_keep_38)) (ax_nd_ok (ax_lf_ok (ak_lload_n rfl dX4_keep_40)) (ax_lf_ok (ak_iload dX4_keep_41)))))) (ax_nd_ok (ax_nd_ok (ax_nd_ok (ax_lf_ok (ak_invS (by decide) (by decide) wd_869 wd_870 wd_103 wd_871 ⟨by decide, by decide, by decide +kernel⟩ dX4_keep_43)) (ax_lf_ok (ak_lshr dX4_keep_46))) (ax_nd_ok (ax_lf_ok (ak_l2i dX4_keep_47)) (ax_lf_ok (ak_bipush (by decide) dX4_keep_48)))) (ax_nd_ok (ax_nd_ok (ax_lf_ok (ak_iand dX4_keep_50)) (ax_lf_ok (ak_iast dX4_keep_51))) (ax_nd_ok (ax_lf_ok (ak_iinc (by decide) (by decide) dX4_keep_52)) (ax_nd_ok (ax_lf_ok (ak_goto (by decide) dX4_keep_55)) (ax_lf_ok (ak_vret rfl dX4_keep_58)))))))
abbrev mX4_keep (g : ax_G) (as : List Value) (h : ax_H) (Ret : Option Value → ax_H → Prop) : Prop := ax_M g 2 0 0 yX4_keep cX4_keep 6 none as h Ret
end
