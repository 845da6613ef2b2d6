section
theorem dX6_init_0 : decode cX6_init 0 = .ok (.aload_n 0, 1) := by decide +kernel
theorem dX6_init_1 : decode cX6_init 1 = .ok (.invokespecial 3, 3) := by decide +kernel
theorem dX6_init_4 : decode cX6_init 4 = .ok (.aload_n 0, 1) := by decide +kernel
theorem dX6_init_5 : decode cX6_init 5 = .ok (.bipush 6, 2) := by decide +kernel
theorem dX6_init_7 : decode cX6_init 7 = .ok (.newarray .int, 2) := by decide +kernel
theorem dX6_init_9 : decode cX6_init 9 = .ok (.putfield 9, 3) := by decide +kernel
theorem dX6_init_12 : decode cX6_init 12 = .ok (.aload_n 0, 1) := by decide +kernel
theorem dX6_init_13 : decode cX6_init 13 = .ok (.bipush 6, 2) := by decide +kernel
theorem dX6_init_15 : decode cX6_init 15 = .ok (.newarray .int, 2) := by decide +kernel
theorem dX6_init_17 : decode cX6_init 17 = .ok (.putfield 15, 3) := by decide +kernel
theorem dX6_init_20 : decode cX6_init 20 = .ok (.aload_n 0, 1) := by decide +kernel
theorem dX6_init_21 : decode cX6_init 21 = .ok (.bipush 6, 2) := by decide +kernel
theorem dX6_init_23 : decode cX6_init 23 = .ok (.newarray .int, 2) := by decide +kernel
theorem dX6_init_25 : decode cX6_init 25 = .ok (.putfield 18, 3) := by decide +kernel
theorem dX6_init_28 : decode cX6_init 28 = .ok (.aload_n 0, 1) := by decide +kernel
theorem dX6_init_29 : decode cX6_init 29 = .ok (.bipush 72, 2) := by decide +kernel
theorem dX6_init_31 : decode cX6_init 31 = .ok (.newarray .int, 2) := by decide +kernel
theorem dX6_init_33 : decode cX6_init 33 = .ok (.putfield 21, 3) := by decide +kernel
theorem dX6_init_36 : decode cX6_init 36 = .ok (.aload_n 0, 1) := by decide +kernel
theorem dX6_init_37 : decode cX6_init 37 = .ok (.bipush 72, 2) := by decide +kernel
theorem dX6_init_39 : decode cX6_init 39 = .ok (.newarray .int, 2) := by decide +kernel
theorem dX6_init_41 : decode cX6_init 41 = .ok (.putfield 24, 3) := by decide +kernel
theorem dX6_init_44 : decode cX6_init 44 = .ok (.aload_n 0, 1) := by decide +kernel
theorem dX6_init_45 : decode cX6_init 45 = .ok (.invokevirtual 27, 3) := by decide +kernel
theorem dX6_init_48 : decode cX6_init 48 = .ok (.return_, 1) := by decide +kernel
def tX6_init (g : ax_G) : Nat → ax_O := ax_nd 21 (ax_nd 9 (ax_nd 4 (ax_nd 0 (ax_lf 0 (ao_al 0 1)) (ax_nd 1 (ax_lf 1 ao_obj) (ax_lf 4 (ao_al 0 1)))) (ax_nd 5 (ax_lf 5 (ao_ic (6) 2)) (ax_nd 7 (ax_lf 7 (ao_newa 11 4 5 162)) (ax_lf 9 (ao_pr 6 0))))) (ax_nd 15 (ax_nd 12 (ax_lf 12 (ao_al 0 1)) (ax_nd 13 (ax_lf 13 (ao_ic (6) 2)) (ax_lf 15 (ao_newa 11 4 5 162)))) (ax_nd 17 (ax_lf 17 (ao_pr 6 1)) (ax_nd 20 (ax_lf 20 (ao_al 0 1)) (ax_lf 21 (ao_ic (6) 2)))))) (ax_nd 33 (ax_nd 28 (ax_nd 23 (ax_lf 23 (ao_newa 11 4 5 162)) (ax_nd 25 (ax_lf 25 (ao_pr 6 2)) (ax_lf 28 (ao_al 0 1)))) (ax_nd 29 (ax_lf 29 (ao_ic (72) 2)) (ax_nd 31 (ax_lf 31 (ao_newa 11 4 5 162)) (ax_lf 33 (ao_pr 6 3))))) (ax_nd 39 (ax_nd 36 (ax_lf 36 (ao_al 0 1)) (ax_nd 37 (ax_lf 37 (ao_ic (72) 2)) (ax_lf 39 (ao_newa 11 4 5 162)))) (ax_nd 44 (ax_nd 41 (ax_lf 41 (ao_pr 6 4)) (ax_lf 44 (ao_al 0 1))) (ax_nd 45 (ax_lf 45 (ao_inva g 1 6 0 yX6_clear cX6_clear 2 none 1 0 5 0 162)) (ax_lf 48 (ao_vreta 5 162))))))
theorem oX6_init (g : ax_G) : ∀ pc, ax_ok g cX6_init 1 none RX6 "<init>" 2 5 162 pc (tX6_init g pc) := ax_nd_ok (ax_nd_ok (ax_nd_ok (ax_nd_ok (ax_lf_ok (ak_aload_n rfl dX6_init_0)) (ax_nd_ok (ax_lf_ok (ak_obj (by decide) wd_135 wd_119 wd_120 dX6_init_1)) (ax_lf_ok (ak_aload_n rfl dX6_init_4)))) (ax_nd_ok (ax_lf_ok (ak_bipush (by decide) dX6_init_5)) (ax_nd_ok (ax_lf_ok (ak_newa (atype := .int) (ty := .int) (by decide) (by decide) rfl rfl (fun _ h => by cases h) (t0 := 0) rfl (fun _ _ => rfl) wd_179 dX6_init_7)) (ax_lf_ok (ak_pr fF_X6_9 rfl fW_X6_9_i dX6_init_9))))) (ax_nd_ok (ax_nd_ok (ax_lf_ok (ak_aload_n rfl dX6_init_12)) (ax_nd_ok (ax_lf_ok (ak_bipush (by decide) dX6_init_13)) (ax_lf_ok (ak_newa (atype := .int) (ty := .int) (by decide) (by decide) rfl rfl (fun _ h => by cases h) (t0 := 0) rfl (fun _ _ => rfl) wd_179 dX6_init_15)))) (ax_nd_ok (ax_lf_ok (ak_pr fF_X6_15 rfl fW_X6_15_i dX6_init_17)) (ax_nd_ok (ax_lf_ok (ak_aload_n rfl dX6_init_20)) (ax_lf_ok (ak_bipush (by decide) dX6_init_21)))))) (ax_nd_ok (ax_nd_ok (ax_nd_ok (ax_lf_ok (ak_newa (atype := .int) (ty := .int) (by decide) (by decide) rfl rfl (fun _ h => by cases h) (t0 := 0) rfl (fun _ _ => rfl) wd_179 dX6_init_23)) (ax_nd_ok (ax_lf_ok (ak_pr fF_X6_18 rfl fW_X6_18_i dX6_init_25)) (ax_lf_ok (ak_aload_n rfl dX6_init_28)))) (ax_nd_ok (ax_lf_ok (ak_bipush (by decide) dX6_init_29)) (ax_nd_ok (ax_lf_ok (ak_newa (atype := .int) (ty := .int) (by decide) (by decide) rfl rfl (fun _ h => by cases h) (t0 := 0) rfl (fun _ _ => rfl) wd_179 dX6_init_31)) (ax_lf_ok (ak_pr fF_X6_21 rfl fW_X6_21_i dX6_init_33))))) (ax_nd_ok (ax_nd_ok (ax_lf_ok (ak_aload_n rfl dX6_init_36)) (ax_nd_ok (ax_lf_ok (ak_bipush (by decide) dX6_init_37)) (ax_lf_ok (ak_newa (atype := .int) (ty := .int) (by decide) (by decide) rfl rfl (fun _ h => by cases h) (t0 := 0) rfl (fun _ _ => rfl) wd_179 dX6_init_39)))) (ax_nd_ok (ax_nd_ok (ax_lf_ok (ak_pr fF_X6_24 rfl fW_X6_24_i dX6_init_41)) (ax_lf_ok (ak_aload_n rfl dX6_init_44))) (ax_nd_ok (ax_lf_ok (ak_inva (ak_invV (by decide) (by decide) (by decide) rfl wd_136 wd_137 wd_138 wd_98 wd_139 ⟨by decide, by decide, by decide +kernel⟩ dX6_init_45))) (ax_lf_ok (ak_vreta (ak_vret rfl dX6_init_48)))))))
abbrev mX6_init (g : ax_G) (as : List Value) (h : ax_H) (Ret : Option Value → ax_H → Prop) : Prop := ax_M g 2 5 162 yX6_init cX6_init 1 none as h Ret
theorem dX6_clear_0 : decode cX6_clear 0 = .ok (.aload_n 0, 1) := by decide +kernel
theorem dX6_clear_1 : decode cX6_clear 1 = .ok (.bipush 8, 2) := by decide +kernel
theorem dX6_clear_3 : decode cX6_clear 3 = .ok (.putfield 30, 3) := by decide +kernel
theorem dX6_clear_6 : decode cX6_clear 6 = .ok (.aload_n 0, 1) := by decide +kernel
theorem dX6_clear_7 : decode cX6_clear 7 = .ok (.iconst 0, 1) := by decide +kernel
theorem dX6_clear_8 : decode cX6_clear 8 = .ok (.putfield 34, 3) := by decide +kernel
theorem dX6_clear_11 : decode cX6_clear 11 = .ok (.iconst 0, 1) := by decide +kernel
theorem dX6_clear_12 : decode cX6_clear 12 = .ok (.istore_n 1, 1) := by decide +kernel
theorem dX6_clear_13 : decode cX6_clear 13 = .ok (.iload_n 1, 1) := by decide +kernel
theorem dX6_clear_14 : decode cX6_clear 14 = .ok (.bipush 6, 2) := by decide +kernel
theorem dX6_clear_16 : decode cX6_clear 16 = .ok (.if_icmp .ge 23, 3) := by decide +kernel
theorem dX6_clear_19 : decode cX6_clear 19 = .ok (.aload_n 0, 1) := by decide +kernel
theorem dX6_clear_20 : decode cX6_clear 20 = .ok (.getfield 9, 3) := by decide +kernel
theorem dX6_clear_23 : decode cX6_clear 23 = .ok (.iload_n 1, 1) := by decide +kernel
theorem dX6_clear_24 : decode cX6_clear 24 = .ok (.iconst 0, 1) := by decide +kernel
theorem dX6_clear_25 : decode cX6_clear 25 = .ok (.iastore, 1) := by decide +kernel
theorem dX6_clear_26 : decode cX6_clear 26 = .ok (.aload_n 0, 1) := by decide +kernel
theorem dX6_clear_27 : decode cX6_clear 27 = .ok (.getfield 15, 3) := by decide +kernel
theorem dX6_clear_30 : decode cX6_clear 30 = .ok (.iload_n 1, 1) := by decide +kernel
theorem dX6_clear_31 : decode cX6_clear 31 = .ok (.iconst 0, 1) := by decide +kernel
theorem dX6_clear_32 : decode cX6_clear 32 = .ok (.iastore, 1) := by decide +kernel
theorem dX6_clear_33 : decode cX6_clear 33 = .ok (.iinc 1 1, 3) := by decide +kernel
theorem dX6_clear_36 : decode cX6_clear 36 = .ok (.goto (-23), 3) := by decide +kernel
theorem dX6_clear_39 : decode cX6_clear 39 = .ok (.iconst 0, 1) := by decide +kernel
theorem dX6_clear_40 : decode cX6_clear 40 = .ok (.istore_n 1, 1) := by decide +kernel
theorem dX6_clear_41 : decode cX6_clear 41 = .ok (.iload_n 1, 1) := by decide +kernel
theorem dX6_clear_42 : decode cX6_clear 42 = .ok (.bipush 72, 2) := by decide +kernel
theorem dX6_clear_44 : decode cX6_clear 44 = .ok (.if_icmp .ge 23, 3) := by decide +kernel
theorem dX6_clear_47 : decode cX6_clear 47 = .ok (.aload_n 0, 1) := by decide +kernel
theorem dX6_clear_48 : decode cX6_clear 48 = .ok (.getfield 21, 3) := by decide +kernel
theorem dX6_clear_51 : decode cX6_clear 51 = .ok (.iload_n 1, 1) := by decide +kernel
theorem dX6_clear_52 : decode cX6_clear 52 = .ok (.iconst (-1), 1) := by decide +kernel
theorem dX6_clear_53 : decode cX6_clear 53 = .ok (.iastore, 1) := by decide +kernel
theorem dX6_clear_54 : decode cX6_clear 54 = .ok (.aload_n 0, 1) := by decide +kernel
theorem dX6_clear_55 : decode cX6_clear 55 = .ok (.getfield 24, 3) := by decide +kernel
theorem dX6_clear_58 : decode cX6_clear 58 = .ok (.iload_n 1, 1) := by decide +kernel
theorem dX6_clear_59 : decode cX6_clear 59 = .ok (.iconst 1, 1) := by decide +kernel
theorem dX6_clear_60 : decode cX6_clear 60 = .ok (.iastore, 1) := by decide +kernel
theorem dX6_clear_61 : decode cX6_clear 61 = .ok (.iinc 1 1, 3) := by decide +kernel
theorem dX6_clear_64 : decode cX6_clear 64 = .ok (.goto (-23), 3) := by decide +kernel
theorem dX6_clear_67 : decode cX6_clear 67 = .ok (.return_, 1) := by decide +kernel
def tX6_clear (g : ax_G) : Nat → ax_O := ax_nd 31 (ax_nd 14 (ax_nd 7 (ax_nd 1 (ax_nd 0 (ax_lf 0 (ao_al 0 1)) (ax_lf 1 (ao_ic (8) 2))) (ax_nd 3 (ax_lf 3 (ao_pi 6 5)) (ax_nd 6 (ax_lf 6 (ao_al 0 1)) (ax_lf 7 (ao_ic (0) 1))))) (ax_nd 11 (ax_nd 8 (ax_lf 8 (ao_pi 6 6)) (ax_lf 11 (ao_ic (0) 1))) (ax_nd 12 (ax_lf 12 (ao_is 1 1)) (ax_nd 13 (ax_lf 13 (ao_il 1 1)) (ax_lf 14 (ao_ic (6) 2)))))) (ax_nd 24 (ax_nd 19 (ax_nd 16 (ax_lf 16 (ao_icmp_ge 39)) (ax_lf 19 (ao_al 0 1))) (ax_nd 20 (ax_lf 20 (ao_gr 6 0)) (ax_nd 23 (ax_lf 23 (ao_il 1 1)) (ax_lf 24 (ao_ic (0) 1))))) (ax_nd 26 (ax_nd 25 (ax_lf 25 ao_iast) (ax_lf 26 (ao_al 0 1))) (ax_nd 27 (ax_lf 27 (ao_gr 6 1)) (ax_nd 30 (ax_lf 30 (ao_il 1 1)) (ax_lf 31 (ao_ic (0) 1))))))) (ax_nd 48 (ax_nd 40 (ax_nd 33 (ax_nd 32 (ax_lf 32 ao_iast) (ax_lf 33 (ao_iinc 1 (1)))) (ax_nd 36 (ax_lf 36 (ao_goto 13)) (ax_nd 39 (ax_lf 39 (ao_ic (0) 1)) (ax_lf 40 (ao_is 1 1))))) (ax_nd 42 (ax_nd 41 (ax_lf 41 (ao_il 1 1)) (ax_lf 42 (ao_ic (72) 2))) (ax_nd 44 (ax_lf 44 (ao_icmp_ge 67)) (ax_nd 47 (ax_lf 47 (ao_al 0 1)) (ax_lf 48 (ao_gr 6 3)))))) (ax_nd 55 (ax_nd 52 (ax_nd 51 (ax_lf 51 (ao_il 1 1)) (ax_lf 52 (ao_ic (-1) 1))) (ax_nd 53 (ax_lf 53 ao_iast) (ax_nd 54 (ax_lf 54 (ao_al 0 1)) (ax_lf 55 (ao_gr 6 4))))) (ax_nd 60 (ax_nd 58 (ax_lf 58 (ao_il 1 1)) (ax_nd 59 (ax_lf 59 (ao_ic (1) 1)) (ax_lf 60 ao_iast))) (ax_nd 61 (ax_lf 61 (ao_iinc 1 (1))) (ax_nd 64 (ax_lf 64 (ao_goto 41)) (ax_lf 67 (ao_vret 0 0)))))))
theorem oX6_clear (g : ax_G) : ∀ pc, ax_ok g cX6_clear 2 none RX6 "clear" 1 0 0 pc (tX6_clear g pc) := ax_nd_ok (ax_nd_ok (ax_nd_ok (ax_nd_ok (ax_nd_ok (ax_lf_ok (ak_aload_n rfl dX6_clear_0)) (ax_lf_ok (ak_bipush (by decide) dX6_clear_1))) (ax_nd_ok (ax_lf_ok (ak_pi fF_X6_30 fW_X6_30_a dX6_clear_3)) (ax_nd_ok (ax_lf_ok (ak_aload_n rfl dX6_clear_6)) (ax_lf_ok (ak_iconst (by decide) dX6_clear_7))))) (ax_nd_ok (ax_nd_ok (ax_lf_ok (ak_pi fF_X6_34 fW_X6_34_a dX6_clear_8)) (ax_lf_ok (ak_iconst (by decide) dX6_clear_11))) (ax_nd_ok (ax_lf_ok (ak_istore_n rfl (by decide) dX6_clear_12)) (ax_nd_ok (ax_lf_ok (ak_iload_n rfl dX6_clear_13)) (ax_lf_ok (ak_bipush (by decide) dX6_clear_14)))))) (ax_nd_ok (ax_nd_ok (ax_nd_ok (ax_lf_ok (ak_icmp_ge (by decide) dX6_clear_16)) (ax_lf_ok (ak_aload_n rfl dX6_clear_19))) (ax_nd_ok (ax_lf_ok (ak_gr fF_X6_9 dX6_clear_20)) (ax_nd_ok (ax_lf_ok (ak_iload_n rfl dX6_clear_23)) (ax_lf_ok (ak_iconst (by decide) dX6_clear_24))))) (ax_nd_ok (ax_nd_ok (ax_lf_ok (ak_iast dX6_clear_25)) (ax_lf_ok (ak_aload_n rfl dX6_clear_26))) (ax_nd_ok (ax_lf_ok (ak_gr fF_X6_15 dX6_clear_27)) (ax_nd_ok (ax_lf_ok (ak_iload_n rfl dX6_clear_30)) (ax_lf_ok (ak_iconst (by decide) dX6_clear_31))))))) (ax_nd_ok (ax_nd_ok (ax_nd_ok (ax_nd_ok (ax_lf_ok (ak_iast dX6_clear_32)) (ax_lf_ok (ak_iinc (by decide) (by decide) dX6_clear_33))) (ax_nd_ok (ax_lf_ok (ak_goto (by decide) dX6_clear_36)) (ax_nd_ok (ax_lf_ok (ak_iconst (by decide) dX6_clear_39)) (ax_lf_ok (ak_istore_n rfl (by decide) dX6_clear_40))))) (ax_nd_ok (ax_nd_ok (ax_lf_ok (ak_iload_n rfl dX6_clear_41)) (ax_lf_ok (ak_bipush (by decide) dX6_clear_42))) (ax_nd_ok (ax_lf_ok (ak_icmp_ge (by decide) dX6_clear_44)) (ax_nd_ok (ax_lf_ok (ak_aload_n rfl dX6_clear_47)) (ax_lf_ok (ak_gr fF_X6_21 dX6_clear_48)))))) (ax_nd_ok (ax_nd_ok (ax_nd_ok (ax_lf_ok (ak_iload_n rfl dX6_clear_51)) (ax_lf_ok (ak_iconst (by decide) dX6_clear_52))) (ax_nd_ok (ax_lf_ok (ak_iast dX6_clear_53)) (ax_nd_ok (ax_lf_ok (ak_aload_n rfl dX6_clear_54)) (ax_lf_ok (ak_gr fF_X6_24 dX6_clear_55))))) (ax_nd_ok (ax_nd_ok (ax_lf_ok (ak_iload_n rfl dX6_clear_58)) (ax_nd_ok (ax_lf_ok (ak_iconst (by decide) dX6_clear_59)) (ax_lf_ok (ak_iast dX6_clear_60)))) (ax_nd_ok (ax_lf_ok (ak_iinc (by decide) (by decide) dX6_clear_61)) (ax_nd_ok (ax_lf_ok (ak_goto (by decide) dX6_clear_64)) (ax_lf_ok (ak_vret rfl dX6_clear_67)))))))
abbrev mX6_clear (g : ax_G) (as : List Value) (h : ax_H) (Ret : Option Value → ax_H → Prop) : Prop := ax_M g 1 0 0 yX6_clear cX6_clear 2 none as h Ret
theorem dX6_copy_0 : decode cX6_copy 0 = .ok (.aload_n 1, 1) := by decide +kernel
theorem dX6_copy_1 : decode cX6_copy 1 = .ok (.getfield 9, 3) := by decide +kernel
theorem dX6_copy_4 : decode cX6_copy 4 = .ok (.iconst 0, 1) := by decide +kernel
theorem dX6_copy_5 : decode cX6_copy 5 = .ok (.aload_n 0, 1) := by decide +kernel
theorem dX6_copy_6 : decode cX6_copy 6 = .ok (.getfield 9, 3) := by decide +kernel
theorem dX6_copy_9 : decode cX6_copy 9 = .ok (.iconst 0, 1) := by decide +kernel
theorem dX6_copy_10 : decode cX6_copy 10 = .ok (.bipush 6, 2) := by decide +kernel
theorem dX6_copy_12 : decode cX6_copy 12 = .ok (.invokestatic 37, 3) := by decide +kernel
theorem dX6_copy_15 : decode cX6_copy 15 = .ok (.aload_n 1, 1) := by decide +kernel
theorem dX6_copy_16 : decode cX6_copy 16 = .ok (.getfield 15, 3) := by decide +kernel
theorem dX6_copy_19 : decode cX6_copy 19 = .ok (.iconst 0, 1) := by decide +kernel
theorem dX6_copy_20 : decode cX6_copy 20 = .ok (.aload_n 0, 1) := by decide +kernel
theorem dX6_copy_21 : decode cX6_copy 21 = .ok (.getfield 15, 3) := by decide +kernel
theorem dX6_copy_24 : decode cX6_copy 24 = .ok (.iconst 0, 1) := by decide +kernel
theorem dX6_copy_25 : decode cX6_copy 25 = .ok (.bipush 6, 2) := by decide +kernel
theorem dX6_copy_27 : decode cX6_copy 27 = .ok (.invokestatic 37, 3) := by decide +kernel
theorem dX6_copy_30 : decode cX6_copy 30 = .ok (.aload_n 1, 1) := by decide +kernel
theorem dX6_copy_31 : decode cX6_copy 31 = .ok (.getfield 18, 3) := by decide +kernel
theorem dX6_copy_34 : decode cX6_copy 34 = .ok (.iconst 0, 1) := by decide +kernel
theorem dX6_copy_35 : decode cX6_copy 35 = .ok (.aload_n 0, 1) := by decide +kernel
theorem dX6_copy_36 : decode cX6_copy 36 = .ok (.getfield 18, 3) := by decide +kernel
theorem dX6_copy_39 : decode cX6_copy 39 = .ok (.iconst 0, 1) := by decide +kernel
theorem dX6_copy_40 : decode cX6_copy 40 = .ok (.bipush 6, 2) := by decide +kernel
theorem dX6_copy_42 : decode cX6_copy 42 = .ok (.invokestatic 37, 3) := by decide +kernel
theorem dX6_copy_45 : decode cX6_copy 45 = .ok (.aload_n 1, 1) := by decide +kernel
theorem dX6_copy_46 : decode cX6_copy 46 = .ok (.getfield 21, 3) := by decide +kernel
theorem dX6_copy_49 : decode cX6_copy 49 = .ok (.iconst 0, 1) := by decide +kernel
theorem dX6_copy_50 : decode cX6_copy 50 = .ok (.aload_n 0, 1) := by decide +kernel
theorem dX6_copy_51 : decode cX6_copy 51 = .ok (.getfield 21, 3) := by decide +kernel
theorem dX6_copy_54 : decode cX6_copy 54 = .ok (.iconst 0, 1) := by decide +kernel
theorem dX6_copy_55 : decode cX6_copy 55 = .ok (.bipush 72, 2) := by decide +kernel
theorem dX6_copy_57 : decode cX6_copy 57 = .ok (.invokestatic 37, 3) := by decide +kernel
theorem dX6_copy_60 : decode cX6_copy 60 = .ok (.aload_n 1, 1) := by decide +kernel
theorem dX6_copy_61 : decode cX6_copy 61 = .ok (.getfield 24, 3) := by decide +kernel
theorem dX6_copy_64 : decode cX6_copy 64 = .ok (.iconst 0, 1) := by decide +kernel
theorem dX6_copy_65 : decode cX6_copy 65 = .ok (.aload_n 0, 1) := by decide +kernel
theorem dX6_copy_66 : decode cX6_copy 66 = .ok (.getfield 24, 3) := by decide +kernel
theorem dX6_copy_69 : decode cX6_copy 69 = .ok (.iconst 0, 1) := by decide +kernel
theorem dX6_copy_70 : decode cX6_copy 70 = .ok (.bipush 72, 2) := by decide +kernel
theorem dX6_copy_72 : decode cX6_copy 72 = .ok (.invokestatic 37, 3) := by decide +kernel
theorem dX6_copy_75 : decode cX6_copy 75 = .ok (.aload_n 0, 1) := by decide +kernel
theorem dX6_copy_76 : decode cX6_copy 76 = .ok (.aload_n 1, 1) := by decide +kernel
theorem dX6_copy_77 : decode cX6_copy 77 = .ok (.getfield 30, 3) := by decide +kernel
theorem dX6_copy_80 : decode cX6_copy 80 = .ok (.putfield 30, 3) := by decide +kernel
theorem dX6_copy_83 : decode cX6_copy 83 = .ok (.aload_n 0, 1) := by decide +kernel
theorem dX6_copy_84 : decode cX6_copy 84 = .ok (.aload_n 1, 1) := by decide +kernel
theorem dX6_copy_85 : decode cX6_copy 85 = .ok (.getfield 34, 3) := by decide +kernel
theorem dX6_copy_88 : decode cX6_copy 88 = .ok (.putfield 34, 3) := by decide +kernel
theorem dX6_copy_91 : decode cX6_copy 91 = .ok (.return_, 1) := by decide +kernel
def tX6_copy (g : ax_G) : Nat → ax_O := ax_nd 42 (ax_nd 20 (ax_nd 9 (ax_nd 4 (ax_nd 0 (ax_lf 0 (ao_al 1 1)) (ax_nd 1 (ax_lf 1 (ao_gr 6 0)) (ax_lf 4 (ao_ic (0) 1)))) (ax_nd 5 (ax_lf 5 (ao_al 0 1)) (ax_nd 6 (ax_lf 6 (ao_gr 6 0)) (ax_lf 9 (ao_ic (0) 1))))) (ax_nd 15 (ax_nd 10 (ax_lf 10 (ao_ic (6) 2)) (ax_nd 12 (ax_lf 12 (ao_copy 11)) (ax_lf 15 (ao_al 1 1)))) (ax_nd 16 (ax_lf 16 (ao_gr 6 1)) (ax_nd 19 (ax_lf 19 (ao_ic (0) 1)) (ax_lf 20 (ao_al 0 1)))))) (ax_nd 31 (ax_nd 25 (ax_nd 21 (ax_lf 21 (ao_gr 6 1)) (ax_nd 24 (ax_lf 24 (ao_ic (0) 1)) (ax_lf 25 (ao_ic (6) 2)))) (ax_nd 27 (ax_lf 27 (ao_copy 11)) (ax_nd 30 (ax_lf 30 (ao_al 1 1)) (ax_lf 31 (ao_gr 6 2))))) (ax_nd 36 (ax_nd 34 (ax_lf 34 (ao_ic (0) 1)) (ax_nd 35 (ax_lf 35 (ao_al 0 1)) (ax_lf 36 (ao_gr 6 2)))) (ax_nd 39 (ax_lf 39 (ao_ic (0) 1)) (ax_nd 40 (ax_lf 40 (ao_ic (6) 2)) (ax_lf 42 (ao_copy 11))))))) (ax_nd 65 (ax_nd 54 (ax_nd 49 (ax_nd 45 (ax_lf 45 (ao_al 1 1)) (ax_nd 46 (ax_lf 46 (ao_gr 6 3)) (ax_lf 49 (ao_ic (0) 1)))) (ax_nd 50 (ax_lf 50 (ao_al 0 1)) (ax_nd 51 (ax_lf 51 (ao_gr 6 3)) (ax_lf 54 (ao_ic (0) 1))))) (ax_nd 60 (ax_nd 55 (ax_lf 55 (ao_ic (72) 2)) (ax_nd 57 (ax_lf 57 (ao_copy 11)) (ax_lf 60 (ao_al 1 1)))) (ax_nd 61 (ax_lf 61 (ao_gr 6 4)) (ax_nd 64 (ax_lf 64 (ao_ic (0) 1)) (ax_lf 65 (ao_al 0 1)))))) (ax_nd 76 (ax_nd 70 (ax_nd 66 (ax_lf 66 (ao_gr 6 4)) (ax_nd 69 (ax_lf 69 (ao_ic (0) 1)) (ax_lf 70 (ao_ic (72) 2)))) (ax_nd 72 (ax_lf 72 (ao_copy 11)) (ax_nd 75 (ax_lf 75 (ao_al 0 1)) (ax_lf 76 (ao_al 1 1))))) (ax_nd 83 (ax_nd 77 (ax_lf 77 (ao_gi 6 5)) (ax_nd 80 (ax_lf 80 (ao_pi 6 5)) (ax_lf 83 (ao_al 0 1)))) (ax_nd 85 (ax_nd 84 (ax_lf 84 (ao_al 1 1)) (ax_lf 85 (ao_gi 6 6))) (ax_nd 88 (ax_lf 88 (ao_pi 6 6)) (ax_lf 91 (ao_vret 0 0)))))))
theorem oX6_copy (g : ax_G) : ∀ pc, ax_ok g cX6_copy 2 none RX6 "copy" 2 0 0 pc (tX6_copy g pc) := ax_nd_ok (ax_nd_ok (ax_nd_ok (ax_nd_ok (ax_nd_ok (ax_lf_ok (ak_aload_n rfl dX6_copy_0)) (ax_nd_ok (ax_lf_ok (ak_gr fF_X6_9 dX6_copy_1)) (ax_lf_ok (ak_iconst (by decide) dX6_copy_4)))) (ax_nd_ok (ax_lf_ok (ak_aload_n rfl dX6_copy_5)) (ax_nd_ok (ax_lf_ok (ak_gr fF_X6_9 dX6_copy_6)) (ax_lf_ok (ak_iconst (by decide) dX6_copy_9))))) (ax_nd_ok (ax_nd_ok (ax_lf_ok (ak_bipush (by decide) dX6_copy_10)) (ax_nd_ok (ax_lf_ok (ak_copy (by decide) (Or.inl ⟨rfl, rfl⟩) (t0 := 0) rfl wd_629 wd_616 wd_615 wd_112 dX6_copy_12)) (ax_lf_ok (ak_aload_n rfl dX6_copy_15)))) (ax_nd_ok (ax_lf_ok (ak_gr fF_X6_15 dX6_copy_16)) (ax_nd_ok (ax_lf_ok (ak_iconst (by decide) dX6_copy_19)) (ax_lf_ok (ak_aload_n rfl dX6_copy_20)))))) (ax_nd_ok (ax_nd_ok (ax_nd_ok (ax_lf_ok (ak_gr fF_X6_15 dX6_copy_21)) (ax_nd_ok (ax_lf_ok (ak_iconst (by decide) dX6_copy_24)) (ax_lf_ok (ak_bipush (by decide) dX6_copy_25)))) (ax_nd_ok (ax_lf_ok (ak_copy (by decide) (Or.inl ⟨rfl, rfl⟩) (t0 := 0) rfl wd_629 wd_616 wd_615 wd_112 dX6_copy_27)) (ax_nd_ok (ax_lf_ok (ak_aload_n rfl dX6_copy_30)) (ax_lf_ok (ak_gr fF_X6_18 dX6_copy_31))))) (ax_nd_ok (ax_nd_ok (ax_lf_ok (ak_iconst (by decide) dX6_copy_34)) (ax_nd_ok (ax_lf_ok (ak_aload_n rfl dX6_copy_35)) (ax_lf_ok (ak_gr fF_X6_18 dX6_copy_36)))) (ax_nd_ok (ax_lf_ok (ak_iconst (by decide) dX6_copy_39)) (ax_nd_ok (ax_lf_ok (ak_bipush (by decide) dX6_copy_40)) (ax_lf_ok (ak_copy (by decide) (Or.inl ⟨rfl, rfl⟩) (t0 := 0) rfl wd_629 wd_616 wd_615 wd_112 dX6_copy_42))))))) (ax_nd_ok (ax_nd_ok (ax_nd_ok (ax_nd_ok (ax_lf_ok (ak_aload_n rfl dX6_copy_45)) (ax_nd_ok (ax_lf_ok (ak_gr fF_X6_21 dX6_copy_46)) (ax_lf_ok (ak_iconst (by decide) dX6_copy_49)))) (ax_nd_ok (ax_lf_ok (ak_aload_n rfl dX6_copy_50)) (ax_nd_ok (ax_lf_ok (ak_gr fF_X6_21 dX6_copy_51)) (ax_lf_ok (ak_iconst (by decide) dX6_copy_54))))) (ax_nd_ok (ax_nd_ok (ax_lf_ok (ak_bipush (by decide) dX6_copy_55)) (ax_nd_ok (ax_lf_ok (ak_copy (by decide) (Or.inl ⟨rfl, rfl⟩) (t0 := 0) rfl wd_629 wd_616 wd_615 wd_112 dX6_copy_57)) (ax_lf_ok (ak_aload_n rfl dX6_copy_60)))) (ax_nd_ok (ax_lf_ok (ak_gr fF_X6_24 dX6_copy_61)) (ax_nd_ok (ax_lf_ok (ak_iconst (by decide) dX6_copy_64)) (ax_lf_ok (ak_aload_n rfl dX6_copy_65)))))) (ax_nd_ok (ax_nd_ok (ax_nd_ok (ax_lf_ok (ak_gr fF_X6_24 dX6_copy_66)) (ax_nd_ok (ax_lf_ok (ak_iconst (by decide) dX6_copy_69)) (ax_lf_ok (ak_bipush (by decide) dX6_copy_70)))) (ax_nd_ok (ax_lf_ok (ak_copy (by decide) (Or.inl ⟨rfl, rfl⟩) (t0 := 0) rfl wd_629 wd_616 wd_615 wd_112 dX6_copy_72)) (ax_nd_ok (ax_lf_ok (ak_aload_n rfl dX6_copy_75)) (ax_lf_ok (ak_aload_n rfl dX6_copy_76))))) (ax_nd_ok (ax_nd_ok (ax_lf_ok (ak_gi fF_X6_30 dX6_copy_77)) (ax_nd_ok (ax_lf_ok (ak_pi fF_X6_30 fW_X6_30_a dX6_copy_80)) (ax_lf_ok (ak_aload_n rfl dX6_copy_83)))) (ax_nd_ok (ax_nd_ok (ax_lf_ok (ak_aload_n rfl dX6_copy_84)) (ax_lf_ok (ak_gi fF_X6_34 dX6_copy_85))) (ax_nd_ok (ax_lf_ok (ak_pi fF_X6_34 fW_X6_34_a dX6_copy_88)) (ax_lf_ok (ak_vret rfl dX6_copy_91)))))))
abbrev mX6_copy (g : ax_G) (as : List Value) (h : ax_H) (Ret : Option Value → ax_H → Prop) : Prop := ax_M g 2 0 0 yX6_copy cX6_copy 2 none as h Ret
theorem dX6_hasHour_0 : decode cX6_hasHour 0 = .ok (.iload_n 1, 1) := by decide +kernel
theorem dX6_hasHour_1 : decode cX6_hasHour 1 = .ok (.ifCond .lt 15, 3) := by decide +kernel
theorem dX6_hasHour_4 : decode cX6_hasHour 4 = .ok (.iload_n 1, 1) := by decide +kernel
theorem dX6_hasHour_5 : decode cX6_hasHour 5 = .ok (.aload_n 0, 1) := by decide +kernel
theorem dX6_hasHour_6 : decode cX6_hasHour 6 = .ok (.getfield 30, 3) := by decide +kernel
theorem dX6_hasHour_9 : decode cX6_hasHour 9 = .ok (.if_icmp .ge 7, 3) := by decide +kernel
theorem dX6_hasHour_12 : decode cX6_hasHour 12 = .ok (.iconst 1, 1) := by decide +kernel
theorem dX6_hasHour_13 : decode cX6_hasHour 13 = .ok (.goto 4, 3) := by decide +kernel
theorem dX6_hasHour_16 : decode cX6_hasHour 16 = .ok (.iconst 0, 1) := by decide +kernel
theorem dX6_hasHour_17 : decode cX6_hasHour 17 = .ok (.ireturn, 1) := by decide +kernel
def tX6_hasHour (g : ax_G) : Nat → ax_O := ax_nd 6 (ax_nd 1 (ax_nd 0 (ax_lf 0 (ao_il 1 1)) (ax_lf 1 (ao_if_lt 16))) (ax_nd 4 (ax_lf 4 (ao_il 1 1)) (ax_nd 5 (ax_lf 5 (ao_al 0 1)) (ax_lf 6 (ao_gi 6 5))))) (ax_nd 12 (ax_nd 9 (ax_lf 9 (ao_icmp_ge 16)) (ax_lf 12 (ao_ic (1) 1))) (ax_nd 13 (ax_lf 13 (ao_goto 17)) (ax_nd 16 (ax_lf 16 (ao_ic (0) 1)) (ax_lf 17 (ao_zret 0 0)))))
theorem oX6_hasHour (g : ax_G) : ∀ pc, ax_ok g cX6_hasHour 2 (some .boolean) RX6 "hasHour" 1 0 0 pc (tX6_hasHour g pc) := ax_nd_ok (ax_nd_ok (ax_nd_ok (ax_lf_ok (ak_iload_n rfl dX6_hasHour_0)) (ax_lf_ok (ak_if_lt (by decide) dX6_hasHour_1))) (ax_nd_ok (ax_lf_ok (ak_iload_n rfl dX6_hasHour_4)) (ax_nd_ok (ax_lf_ok (ak_aload_n rfl dX6_hasHour_5)) (ax_lf_ok (ak_gi fF_X6_30 dX6_hasHour_6))))) (ax_nd_ok (ax_nd_ok (ax_lf_ok (ak_icmp_ge (by decide) dX6_hasHour_9)) (ax_lf_ok (ak_iconst (by decide) dX6_hasHour_12))) (ax_nd_ok (ax_lf_ok (ak_goto (by decide) dX6_hasHour_13)) (ax_nd_ok (ax_lf_ok (ak_iconst (by decide) dX6_hasHour_16)) (ax_lf_ok (ak_zret rfl dX6_hasHour_17)))))
abbrev mX6_hasHour (g : ax_G) (as : List Value) (h : ax_H) (Ret : Option Value → ax_H → Prop) : Prop := ax_M g 1 0 0 yX6_hasHour cX6_hasHour 2 (some .boolean) as h Ret
theorem dX6_hasPerson_0 : decode cX6_hasPerson 0 = .ok (.iload_n 1, 1) := by decide +kernel
theorem dX6_hasPerson_1 : decode cX6_hasPerson 1 = .ok (.ifCond .lt 15, 3) := by decide +kernel
theorem dX6_hasPerson_4 : decode cX6_hasPerson 4 = .ok (.iload_n 1, 1) := by decide +kernel
theorem dX6_hasPerson_5 : decode cX6_hasPerson 5 = .ok (.aload_n 0, 1) := by decide +kernel
theorem dX6_hasPerson_6 : decode cX6_hasPerson 6 = .ok (.getfield 34, 3) := by decide +kernel
theorem dX6_hasPerson_9 : decode cX6_hasPerson 9 = .ok (.if_icmp .ge 7, 3) := by decide +kernel
theorem dX6_hasPerson_12 : decode cX6_hasPerson 12 = .ok (.iconst 1, 1) := by decide +kernel
theorem dX6_hasPerson_13 : decode cX6_hasPerson 13 = .ok (.goto 4, 3) := by decide +kernel
theorem dX6_hasPerson_16 : decode cX6_hasPerson 16 = .ok (.iconst 0, 1) := by decide +kernel
theorem dX6_hasPerson_17 : decode cX6_hasPerson 17 = .ok (.ireturn, 1) := by decide +kernel
def tX6_hasPerson (g : ax_G) : Nat → ax_O := ax_nd 6 (ax_nd 1 (ax_nd 0 (ax_lf 0 (ao_il 1 1)) (ax_lf 1 (ao_if_lt 16))) (ax_nd 4 (ax_lf 4 (ao_il 1 1)) (ax_nd 5 (ax_lf 5 (ao_al 0 1)) (ax_lf 6 (ao_gi 6 6))))) (ax_nd 12 (ax_nd 9 (ax_lf 9 (ao_icmp_ge 16)) (ax_lf 12 (ao_ic (1) 1))) (ax_nd 13 (ax_lf 13 (ao_goto 17)) (ax_nd 16 (ax_lf 16 (ao_ic (0) 1)) (ax_lf 17 (ao_zret 0 0)))))
theorem oX6_hasPerson (g : ax_G) : ∀ pc, ax_ok g cX6_hasPerson 2 (some .boolean) RX6 "hasPerson" 1 0 0 pc (tX6_hasPerson g pc) := ax_nd_ok (ax_nd_ok (ax_nd_ok (ax_lf_ok (ak_iload_n rfl dX6_hasPerson_0)) (ax_lf_ok (ak_if_lt (by decide) dX6_hasPerson_1))) (ax_nd_ok (ax_lf_ok (ak_iload_n rfl dX6_hasPerson_4)) (ax_nd_ok (ax_lf_ok (ak_aload_n rfl dX6_hasPerson_5)) (ax_lf_ok (ak_gi fF_X6_34 dX6_hasPerson_6))))) (ax_nd_ok (ax_nd_ok (ax_lf_ok (ak_icmp_ge (by decide) dX6_hasPerson_9)) (ax_lf_ok (ak_iconst (by decide) dX6_hasPerson_12))) (ax_nd_ok (ax_lf_ok (ak_goto (by decide) dX6_hasPerson_13)) (ax_nd_ok (ax_lf_ok (ak_iconst (by decide) dX6_hasPerson_16)) (ax_lf_ok (ak_zret rfl dX6_hasPerson_17)))))
abbrev mX6_hasPerson (g : ax_G) (as : List Value) (h : ax_H) (Ret : Option Value → ax_H → Prop) : Prop := ax_M g 1 0 0 yX6_hasPerson cX6_hasPerson 2 (some .boolean) as h Ret
theorem dX6_hasPersonOrAll_0 : decode cX6_hasPersonOrAll 0 = .ok (.iload_n 1, 1) := by decide +kernel
theorem dX6_hasPersonOrAll_1 : decode cX6_hasPersonOrAll 1 = .ok (.iconst (-1), 1) := by decide +kernel
theorem dX6_hasPersonOrAll_2 : decode cX6_hasPersonOrAll 2 = .ok (.if_icmp .eq 11, 3) := by decide +kernel
theorem dX6_hasPersonOrAll_5 : decode cX6_hasPersonOrAll 5 = .ok (.aload_n 0, 1) := by decide +kernel
theorem dX6_hasPersonOrAll_6 : decode cX6_hasPersonOrAll 6 = .ok (.iload_n 1, 1) := by decide +kernel
theorem dX6_hasPersonOrAll_7 : decode cX6_hasPersonOrAll 7 = .ok (.invokevirtual 43, 3) := by decide +kernel
theorem dX6_hasPersonOrAll_10 : decode cX6_hasPersonOrAll 10 = .ok (.ifCond .eq 7, 3) := by decide +kernel
theorem dX6_hasPersonOrAll_13 : decode cX6_hasPersonOrAll 13 = .ok (.iconst 1, 1) := by decide +kernel
theorem dX6_hasPersonOrAll_14 : decode cX6_hasPersonOrAll 14 = .ok (.goto 4, 3) := by decide +kernel
theorem dX6_hasPersonOrAll_17 : decode cX6_hasPersonOrAll 17 = .ok (.iconst 0, 1) := by decide +kernel
theorem dX6_hasPersonOrAll_18 : decode cX6_hasPersonOrAll 18 = .ok (.ireturn, 1) := by decide +kernel
def tX6_hasPersonOrAll (g : ax_G) : Nat → ax_O := ax_nd 6 (ax_nd 1 (ax_nd 0 (ax_lf 0 (ao_il 1 1)) (ax_lf 1 (ao_ic (-1) 1))) (ax_nd 2 (ax_lf 2 (ao_icmp_eq 13)) (ax_nd 5 (ax_lf 5 (ao_al 0 1)) (ax_lf 6 (ao_il 1 1))))) (ax_nd 13 (ax_nd 7 (ax_lf 7 (ao_inv g 1 6 1 yX6_hasPerson cX6_hasPerson 2 (some .boolean) 2 0 0 0 0)) (ax_nd 10 (ax_lf 10 (ao_if_eq 17)) (ax_lf 13 (ao_ic (1) 1)))) (ax_nd 14 (ax_lf 14 (ao_goto 18)) (ax_nd 17 (ax_lf 17 (ao_ic (0) 1)) (ax_lf 18 (ao_zret 0 0)))))
theorem oX6_hasPersonOrAll (g : ax_G) : ∀ pc, ax_ok g cX6_hasPersonOrAll 2 (some .boolean) RX6 "hasPersonOrAll" 2 0 0 pc (tX6_hasPersonOrAll g pc) := ax_nd_ok (ax_nd_ok (ax_nd_ok (ax_lf_ok (ak_iload_n rfl dX6_hasPersonOrAll_0)) (ax_lf_ok (ak_iconst (by decide) dX6_hasPersonOrAll_1))) (ax_nd_ok (ax_lf_ok (ak_icmp_eq (by decide) dX6_hasPersonOrAll_2)) (ax_nd_ok (ax_lf_ok (ak_aload_n rfl dX6_hasPersonOrAll_5)) (ax_lf_ok (ak_iload_n rfl dX6_hasPersonOrAll_6))))) (ax_nd_ok (ax_nd_ok (ax_lf_ok (ak_invV (by decide) (by decide) (by decide) rfl wd_665 wd_666 wd_667 wd_98 wd_668 ⟨by decide, by decide, by decide +kernel⟩ dX6_hasPersonOrAll_7)) (ax_nd_ok (ax_lf_ok (ak_if_eq (by decide) dX6_hasPersonOrAll_10)) (ax_lf_ok (ak_iconst (by decide) dX6_hasPersonOrAll_13)))) (ax_nd_ok (ax_lf_ok (ak_goto (by decide) dX6_hasPersonOrAll_14)) (ax_nd_ok (ax_lf_ok (ak_iconst (by decide) dX6_hasPersonOrAll_17)) (ax_lf_ok (ak_zret rfl dX6_hasPersonOrAll_18)))))
abbrev mX6_hasPersonOrAll (g : ax_G) (as : List Value) (h : ax_H) (Ret : Option Value → ax_H → Prop) : Prop := ax_M g 2 0 0 yX6_hasPersonOrAll cX6_hasPersonOrAll 2 (some .boolean) as h Ret
theorem dX6_deedAt_0 : decode cX6_deedAt 0 = .ok (.aload_n 0, 1) := by decide +kernel
theorem dX6_deedAt_1 : decode cX6_deedAt 1 = .ok (.iload_n 1, 1) := by decide +kernel
theorem dX6_deedAt_2 : decode cX6_deedAt 2 = .ok (.invokevirtual 43, 3) := by decide +kernel
theorem dX6_deedAt_5 : decode cX6_deedAt 5 = .ok (.ifCond .eq 25, 3) := by decide +kernel
theorem dX6_deedAt_8 : decode cX6_deedAt 8 = .ok (.aload_n 0, 1) := by decide +kernel
theorem dX6_deedAt_9 : decode cX6_deedAt 9 = .ok (.iload_n 2, 1) := by decide +kernel
theorem dX6_deedAt_10 : decode cX6_deedAt 10 = .ok (.invokevirtual 47, 3) := by decide +kernel
theorem dX6_deedAt_13 : decode cX6_deedAt 13 = .ok (.ifCond .eq 17, 3) := by decide +kernel
theorem dX6_deedAt_16 : decode cX6_deedAt 16 = .ok (.aload_n 0, 1) := by decide +kernel
theorem dX6_deedAt_17 : decode cX6_deedAt 17 = .ok (.getfield 21, 3) := by decide +kernel
theorem dX6_deedAt_20 : decode cX6_deedAt 20 = .ok (.iload_n 1, 1) := by decide +kernel
theorem dX6_deedAt_21 : decode cX6_deedAt 21 = .ok (.bipush 12, 2) := by decide +kernel
theorem dX6_deedAt_23 : decode cX6_deedAt 23 = .ok (.imul, 1) := by decide +kernel
theorem dX6_deedAt_24 : decode cX6_deedAt 24 = .ok (.iload_n 2, 1) := by decide +kernel
theorem dX6_deedAt_25 : decode cX6_deedAt 25 = .ok (.iadd, 1) := by decide +kernel
theorem dX6_deedAt_26 : decode cX6_deedAt 26 = .ok (.iaload, 1) := by decide +kernel
theorem dX6_deedAt_27 : decode cX6_deedAt 27 = .ok (.goto 4, 3) := by decide +kernel
theorem dX6_deedAt_30 : decode cX6_deedAt 30 = .ok (.iconst (-1), 1) := by decide +kernel
theorem dX6_deedAt_31 : decode cX6_deedAt 31 = .ok (.ireturn, 1) := by decide +kernel
def tX6_deedAt (g : ax_G) : Nat → ax_O := ax_nd 16 (ax_nd 5 (ax_nd 1 (ax_nd 0 (ax_lf 0 (ao_al 0 1)) (ax_lf 1 (ao_il 1 1))) (ax_nd 2 (ax_lf 2 (ao_inv g 1 6 1 yX6_hasPerson cX6_hasPerson 2 (some .boolean) 2 0 0 0 0)) (ax_lf 5 (ao_if_eq 30)))) (ax_nd 9 (ax_nd 8 (ax_lf 8 (ao_al 0 1)) (ax_lf 9 (ao_il 2 1))) (ax_nd 10 (ax_lf 10 (ao_inv g 1 6 1 yX6_hasHour cX6_hasHour 2 (some .boolean) 2 0 0 0 0)) (ax_nd 13 (ax_lf 13 (ao_if_eq 30)) (ax_lf 16 (ao_al 0 1)))))) (ax_nd 24 (ax_nd 20 (ax_nd 17 (ax_lf 17 (ao_gr 6 3)) (ax_lf 20 (ao_il 1 1))) (ax_nd 21 (ax_lf 21 (ao_ic (12) 2)) (ax_nd 23 (ax_lf 23 ao_imul) (ax_lf 24 (ao_il 2 1))))) (ax_nd 26 (ax_nd 25 (ax_lf 25 ao_iadd) (ax_lf 26 ao_iald)) (ax_nd 27 (ax_lf 27 (ao_goto 31)) (ax_nd 30 (ax_lf 30 (ao_ic (-1) 1)) (ax_lf 31 (ao_iret 0 0))))))
theorem oX6_deedAt (g : ax_G) : ∀ pc, ax_ok g cX6_deedAt 3 (some .int) RX6 "deedAt" 2 0 0 pc (tX6_deedAt g pc) := ax_nd_ok (ax_nd_ok (ax_nd_ok (ax_nd_ok (ax_lf_ok (ak_aload_n rfl dX6_deedAt_0)) (ax_lf_ok (ak_iload_n rfl dX6_deedAt_1))) (ax_nd_ok (ax_lf_ok (ak_invV (by decide) (by decide) (by decide) rfl wd_665 wd_666 wd_667 wd_98 wd_668 ⟨by decide, by decide, by decide +kernel⟩ dX6_deedAt_2)) (ax_lf_ok (ak_if_eq (by decide) dX6_deedAt_5)))) (ax_nd_ok (ax_nd_ok (ax_lf_ok (ak_aload_n rfl dX6_deedAt_8)) (ax_lf_ok (ak_iload_n rfl dX6_deedAt_9))) (ax_nd_ok (ax_lf_ok (ak_invV (by decide) (by decide) (by decide) rfl wd_669 wd_670 wd_671 wd_98 wd_672 ⟨by decide, by decide, by decide +kernel⟩ dX6_deedAt_10)) (ax_nd_ok (ax_lf_ok (ak_if_eq (by decide) dX6_deedAt_13)) (ax_lf_ok (ak_aload_n rfl dX6_deedAt_16)))))) (ax_nd_ok (ax_nd_ok (ax_nd_ok (ax_lf_ok (ak_gr fF_X6_21 dX6_deedAt_17)) (ax_lf_ok (ak_iload_n rfl dX6_deedAt_20))) (ax_nd_ok (ax_lf_ok (ak_bipush (by decide) dX6_deedAt_21)) (ax_nd_ok (ax_lf_ok (ak_imul dX6_deedAt_23)) (ax_lf_ok (ak_iload_n rfl dX6_deedAt_24))))) (ax_nd_ok (ax_nd_ok (ax_lf_ok (ak_iadd dX6_deedAt_25)) (ax_lf_ok (ak_iald dX6_deedAt_26))) (ax_nd_ok (ax_lf_ok (ak_goto (by decide) dX6_deedAt_27)) (ax_nd_ok (ax_lf_ok (ak_iconst (by decide) dX6_deedAt_30)) (ax_lf_ok (ak_iret rfl dX6_deedAt_31))))))
abbrev mX6_deedAt (g : ax_G) (as : List Value) (h : ax_H) (Ret : Option Value → ax_H → Prop) : Prop := ax_M g 2 0 0 yX6_deedAt cX6_deedAt 3 (some .int) as h Ret
theorem dX6_lotAt_0 : decode cX6_lotAt 0 = .ok (.aload_n 0, 1) := by decide +kernel
theorem dX6_lotAt_1 : decode cX6_lotAt 1 = .ok (.iload_n 1, 1) := by decide +kernel
theorem dX6_lotAt_2 : decode cX6_lotAt 2 = .ok (.invokevirtual 43, 3) := by decide +kernel
theorem dX6_lotAt_5 : decode cX6_lotAt 5 = .ok (.ifCond .eq 25, 3) := by decide +kernel
theorem dX6_lotAt_8 : decode cX6_lotAt 8 = .ok (.aload_n 0, 1) := by decide +kernel
theorem dX6_lotAt_9 : decode cX6_lotAt 9 = .ok (.iload_n 2, 1) := by decide +kernel
theorem dX6_lotAt_10 : decode cX6_lotAt 10 = .ok (.invokevirtual 47, 3) := by decide +kernel
theorem dX6_lotAt_13 : decode cX6_lotAt 13 = .ok (.ifCond .eq 17, 3) := by decide +kernel
theorem dX6_lotAt_16 : decode cX6_lotAt 16 = .ok (.aload_n 0, 1) := by decide +kernel
theorem dX6_lotAt_17 : decode cX6_lotAt 17 = .ok (.getfield 24, 3) := by decide +kernel
theorem dX6_lotAt_20 : decode cX6_lotAt 20 = .ok (.iload_n 1, 1) := by decide +kernel
theorem dX6_lotAt_21 : decode cX6_lotAt 21 = .ok (.bipush 12, 2) := by decide +kernel
theorem dX6_lotAt_23 : decode cX6_lotAt 23 = .ok (.imul, 1) := by decide +kernel
theorem dX6_lotAt_24 : decode cX6_lotAt 24 = .ok (.iload_n 2, 1) := by decide +kernel
theorem dX6_lotAt_25 : decode cX6_lotAt 25 = .ok (.iadd, 1) := by decide +kernel
theorem dX6_lotAt_26 : decode cX6_lotAt 26 = .ok (.iaload, 1) := by decide +kernel
theorem dX6_lotAt_27 : decode cX6_lotAt 27 = .ok (.goto 4, 3) := by decide +kernel
theorem dX6_lotAt_30 : decode cX6_lotAt 30 = .ok (.iconst 0, 1) := by decide +kernel
theorem dX6_lotAt_31 : decode cX6_lotAt 31 = .ok (.ireturn, 1) := by decide +kernel
def tX6_lotAt (g : ax_G) : Nat → ax_O := ax_nd 16 (ax_nd 5 (ax_nd 1 (ax_nd 0 (ax_lf 0 (ao_al 0 1)) (ax_lf 1 (ao_il 1 1))) (ax_nd 2 (ax_lf 2 (ao_inv g 1 6 1 yX6_hasPerson cX6_hasPerson 2 (some .boolean) 2 0 0 0 0)) (ax_lf 5 (ao_if_eq 30)))) (ax_nd 9 (ax_nd 8 (ax_lf 8 (ao_al 0 1)) (ax_lf 9 (ao_il 2 1))) (ax_nd 10 (ax_lf 10 (ao_inv g 1 6 1 yX6_hasHour cX6_hasHour 2 (some .boolean) 2 0 0 0 0)) (ax_nd 13 (ax_lf 13 (ao_if_eq 30)) (ax_lf 16 (ao_al 0 1)))))) (ax_nd 24 (ax_nd 20 (ax_nd 17 (ax_lf 17 (ao_gr 6 4)) (ax_lf 20 (ao_il 1 1))) (ax_nd 21 (ax_lf 21 (ao_ic (12) 2)) (ax_nd 23 (ax_lf 23 ao_imul) (ax_lf 24 (ao_il 2 1))))) (ax_nd 26 (ax_nd 25 (ax_lf 25 ao_iadd) (ax_lf 26 ao_iald)) (ax_nd 27 (ax_lf 27 (ao_goto 31)) (ax_nd 30 (ax_lf 30 (ao_ic (0) 1)) (ax_lf 31 (ao_iret 0 0))))))
theorem oX6_lotAt (g : ax_G) : ∀ pc, ax_ok g cX6_lotAt 3 (some .int) RX6 "lotAt" 2 0 0 pc (tX6_lotAt g pc) := ax_nd_ok (ax_nd_ok (ax_nd_ok (ax_nd_ok (ax_lf_ok (ak_aload_n rfl dX6_lotAt_0)) (ax_lf_ok (ak_iload_n rfl dX6_lotAt_1))) (ax_nd_ok (ax_lf_ok (ak_invV (by decide) (by decide) (by decide) rfl wd_665 wd_666 wd_667 wd_98 wd_668 ⟨by decide, by decide, by decide +kernel⟩ dX6_lotAt_2)) (ax_lf_ok (ak_if_eq (by decide) dX6_lotAt_5)))) (ax_nd_ok (ax_nd_ok (ax_lf_ok (ak_aload_n rfl dX6_lotAt_8)) (ax_lf_ok (ak_iload_n rfl dX6_lotAt_9))) (ax_nd_ok (ax_lf_ok (ak_invV (by decide) (by decide) (by decide) rfl wd_669 wd_670 wd_671 wd_98 wd_672 ⟨by decide, by decide, by decide +kernel⟩ dX6_lotAt_10)) (ax_nd_ok (ax_lf_ok (ak_if_eq (by decide) dX6_lotAt_13)) (ax_lf_ok (ak_aload_n rfl dX6_lotAt_16)))))) (ax_nd_ok (ax_nd_ok (ax_nd_ok (ax_lf_ok (ak_gr fF_X6_24 dX6_lotAt_17)) (ax_lf_ok (ak_iload_n rfl dX6_lotAt_20))) (ax_nd_ok (ax_lf_ok (ak_bipush (by decide) dX6_lotAt_21)) (ax_nd_ok (ax_lf_ok (ak_imul dX6_lotAt_23)) (ax_lf_ok (ak_iload_n rfl dX6_lotAt_24))))) (ax_nd_ok (ax_nd_ok (ax_lf_ok (ak_iadd dX6_lotAt_25)) (ax_lf_ok (ak_iald dX6_lotAt_26))) (ax_nd_ok (ax_lf_ok (ak_goto (by decide) dX6_lotAt_27)) (ax_nd_ok (ax_lf_ok (ak_iconst (by decide) dX6_lotAt_30)) (ax_lf_ok (ak_iret rfl dX6_lotAt_31))))))
abbrev mX6_lotAt (g : ax_G) (as : List Value) (h : ax_H) (Ret : Option Value → ax_H → Prop) : Prop := ax_M g 2 0 0 yX6_lotAt cX6_lotAt 3 (some .int) as h Ret
theorem dX6_worthOf_0 : decode cX6_worthOf 0 = .ok (.iload_n 1, 1) := by decide +kernel
theorem dX6_worthOf_1 : decode cX6_worthOf 1 = .ok (.ifCond .lt 9, 3) := by decide +kernel
theorem dX6_worthOf_4 : decode cX6_worthOf 4 = .ok (.iload_n 1, 1) := by decide +kernel
theorem dX6_worthOf_5 : decode cX6_worthOf 5 = .ok (.bipush 6, 2) := by decide +kernel
theorem dX6_worthOf_7 : decode cX6_worthOf 7 = .ok (.if_icmp .lt 7, 3) := by decide +kernel
theorem dX6_worthOf_10 : decode cX6_worthOf 10 = .ok (.iconst 0, 1) := by decide +kernel
theorem dX6_worthOf_11 : decode cX6_worthOf 11 = .ok (.goto 9, 3) := by decide +kernel
theorem dX6_worthOf_14 : decode cX6_worthOf 14 = .ok (.aload_n 0, 1) := by decide +kernel
theorem dX6_worthOf_15 : decode cX6_worthOf 15 = .ok (.getfield 9, 3) := by decide +kernel
theorem dX6_worthOf_18 : decode cX6_worthOf 18 = .ok (.iload_n 1, 1) := by decide +kernel
theorem dX6_worthOf_19 : decode cX6_worthOf 19 = .ok (.iaload, 1) := by decide +kernel
theorem dX6_worthOf_20 : decode cX6_worthOf 20 = .ok (.ireturn, 1) := by decide +kernel
def tX6_worthOf (g : ax_G) : Nat → ax_O := ax_nd 10 (ax_nd 4 (ax_nd 0 (ax_lf 0 (ao_il 1 1)) (ax_nd 1 (ax_lf 1 (ao_if_lt 10)) (ax_lf 4 (ao_il 1 1)))) (ax_nd 5 (ax_lf 5 (ao_ic (6) 2)) (ax_nd 7 (ax_lf 7 (ao_icmp_lt 14)) (ax_lf 10 (ao_ic (0) 1))))) (ax_nd 15 (ax_nd 11 (ax_lf 11 (ao_goto 20)) (ax_nd 14 (ax_lf 14 (ao_al 0 1)) (ax_lf 15 (ao_gr 6 0)))) (ax_nd 18 (ax_lf 18 (ao_il 1 1)) (ax_nd 19 (ax_lf 19 ao_iald) (ax_lf 20 (ao_iret 0 0)))))
theorem oX6_worthOf (g : ax_G) : ∀ pc, ax_ok g cX6_worthOf 2 (some .int) RX6 "worthOf" 1 0 0 pc (tX6_worthOf g pc) := ax_nd_ok (ax_nd_ok (ax_nd_ok (ax_lf_ok (ak_iload_n rfl dX6_worthOf_0)) (ax_nd_ok (ax_lf_ok (ak_if_lt (by decide) dX6_worthOf_1)) (ax_lf_ok (ak_iload_n rfl dX6_worthOf_4)))) (ax_nd_ok (ax_lf_ok (ak_bipush (by decide) dX6_worthOf_5)) (ax_nd_ok (ax_lf_ok (ak_icmp_lt (by decide) dX6_worthOf_7)) (ax_lf_ok (ak_iconst (by decide) dX6_worthOf_10))))) (ax_nd_ok (ax_nd_ok (ax_lf_ok (ak_goto (by decide) dX6_worthOf_11)) (ax_nd_ok (ax_lf_ok (ak_aload_n rfl dX6_worthOf_14)) (ax_lf_ok (ak_gr fF_X6_9 dX6_worthOf_15)))) (ax_nd_ok (ax_lf_ok (ak_iload_n rfl dX6_worthOf_18)) (ax_nd_ok (ax_lf_ok (ak_iald dX6_worthOf_19)) (ax_lf_ok (ak_iret rfl dX6_worthOf_20)))))
abbrev mX6_worthOf (g : ax_G) (as : List Value) (h : ax_H) (Ret : Option Value → ax_H → Prop) : Prop := ax_M g 1 0 0 yX6_worthOf cX6_worthOf 2 (some .int) as h Ret
theorem dX6_modeOf_0 : decode cX6_modeOf 0 = .ok (.iload_n 1, 1) := by decide +kernel
theorem dX6_modeOf_1 : decode cX6_modeOf 1 = .ok (.ifCond .lt 9, 3) := by decide +kernel
theorem dX6_modeOf_4 : decode cX6_modeOf 4 = .ok (.iload_n 1, 1) := by decide +kernel
theorem dX6_modeOf_5 : decode cX6_modeOf 5 = .ok (.bipush 6, 2) := by decide +kernel
theorem dX6_modeOf_7 : decode cX6_modeOf 7 = .ok (.if_icmp .lt 7, 3) := by decide +kernel
theorem dX6_modeOf_10 : decode cX6_modeOf 10 = .ok (.iconst 1, 1) := by decide +kernel
theorem dX6_modeOf_11 : decode cX6_modeOf 11 = .ok (.goto 9, 3) := by decide +kernel
theorem dX6_modeOf_14 : decode cX6_modeOf 14 = .ok (.aload_n 0, 1) := by decide +kernel
theorem dX6_modeOf_15 : decode cX6_modeOf 15 = .ok (.getfield 15, 3) := by decide +kernel
theorem dX6_modeOf_18 : decode cX6_modeOf 18 = .ok (.iload_n 1, 1) := by decide +kernel
theorem dX6_modeOf_19 : decode cX6_modeOf 19 = .ok (.iaload, 1) := by decide +kernel
theorem dX6_modeOf_20 : decode cX6_modeOf 20 = .ok (.ireturn, 1) := by decide +kernel
def tX6_modeOf (g : ax_G) : Nat → ax_O := ax_nd 10 (ax_nd 4 (ax_nd 0 (ax_lf 0 (ao_il 1 1)) (ax_nd 1 (ax_lf 1 (ao_if_lt 10)) (ax_lf 4 (ao_il 1 1)))) (ax_nd 5 (ax_lf 5 (ao_ic (6) 2)) (ax_nd 7 (ax_lf 7 (ao_icmp_lt 14)) (ax_lf 10 (ao_ic (1) 1))))) (ax_nd 15 (ax_nd 11 (ax_lf 11 (ao_goto 20)) (ax_nd 14 (ax_lf 14 (ao_al 0 1)) (ax_lf 15 (ao_gr 6 1)))) (ax_nd 18 (ax_lf 18 (ao_il 1 1)) (ax_nd 19 (ax_lf 19 ao_iald) (ax_lf 20 (ao_iret 0 0)))))
theorem oX6_modeOf (g : ax_G) : ∀ pc, ax_ok g cX6_modeOf 2 (some .int) RX6 "modeOf" 1 0 0 pc (tX6_modeOf g pc) := ax_nd_ok (ax_nd_ok (ax_nd_ok (ax_lf_ok (ak_iload_n rfl dX6_modeOf_0)) (ax_nd_ok (ax_lf_ok (ak_if_lt (by decide) dX6_modeOf_1)) (ax_lf_ok (ak_iload_n rfl dX6_modeOf_4)))) (ax_nd_ok (ax_lf_ok (ak_bipush (by decide) dX6_modeOf_5)) (ax_nd_ok (ax_lf_ok (ak_icmp_lt (by decide) dX6_modeOf_7)) (ax_lf_ok (ak_iconst (by decide) dX6_modeOf_10))))) (ax_nd_ok (ax_nd_ok (ax_lf_ok (ak_goto (by decide) dX6_modeOf_11)) (ax_nd_ok (ax_lf_ok (ak_aload_n rfl dX6_modeOf_14)) (ax_lf_ok (ak_gr fF_X6_15 dX6_modeOf_15)))) (ax_nd_ok (ax_lf_ok (ak_iload_n rfl dX6_modeOf_18)) (ax_nd_ok (ax_lf_ok (ak_iald dX6_modeOf_19)) (ax_lf_ok (ak_iret rfl dX6_modeOf_20)))))
abbrev mX6_modeOf (g : ax_G) (as : List Value) (h : ax_H) (Ret : Option Value → ax_H → Prop) : Prop := ax_M g 1 0 0 yX6_modeOf cX6_modeOf 2 (some .int) as h Ret
theorem dX6_extraOf_0 : decode cX6_extraOf 0 = .ok (.aload_n 0, 1) := by decide +kernel
theorem dX6_extraOf_1 : decode cX6_extraOf 1 = .ok (.iload_n 1, 1) := by decide +kernel
theorem dX6_extraOf_2 : decode cX6_extraOf 2 = .ok (.aload_n 0, 1) := by decide +kernel
theorem dX6_extraOf_3 : decode cX6_extraOf 3 = .ok (.iload_n 1, 1) := by decide +kernel
theorem dX6_extraOf_4 : decode cX6_extraOf 4 = .ok (.invokevirtual 50, 3) := by decide +kernel
theorem dX6_extraOf_7 : decode cX6_extraOf 7 = .ok (.invokevirtual 54, 3) := by decide +kernel
theorem dX6_extraOf_10 : decode cX6_extraOf 10 = .ok (.ireturn, 1) := by decide +kernel
def tX6_extraOf (g : ax_G) : Nat → ax_O := ax_nd 2 (ax_nd 0 (ax_lf 0 (ao_al 0 1)) (ax_nd 1 (ax_lf 1 (ao_il 1 1)) (ax_lf 2 (ao_al 0 1)))) (ax_nd 4 (ax_nd 3 (ax_lf 3 (ao_il 1 1)) (ax_lf 4 (ao_inv g 1 6 1 yX6_modeOf cX6_modeOf 2 (some .int) 2 0 0 0 0))) (ax_nd 7 (ax_lf 7 (ao_inv g 2 6 1 yX6_extraBy cX6_extraBy 3 (some .int) 3 0 0 0 0)) (ax_lf 10 (ao_iret 0 0))))
theorem oX6_extraOf (g : ax_G) : ∀ pc, ax_ok g cX6_extraOf 2 (some .int) RX6 "extraOf" 3 0 0 pc (tX6_extraOf g pc) := ax_nd_ok (ax_nd_ok (ax_lf_ok (ak_aload_n rfl dX6_extraOf_0)) (ax_nd_ok (ax_lf_ok (ak_iload_n rfl dX6_extraOf_1)) (ax_lf_ok (ak_aload_n rfl dX6_extraOf_2)))) (ax_nd_ok (ax_nd_ok (ax_lf_ok (ak_iload_n rfl dX6_extraOf_3)) (ax_lf_ok (ak_invV (by decide) (by decide) (by decide) rfl wd_682 wd_683 wd_684 wd_98 wd_685 ⟨by decide, by decide, by decide +kernel⟩ dX6_extraOf_4))) (ax_nd_ok (ax_lf_ok (ak_invV (by decide) (by decide) (by decide) rfl wd_686 wd_687 wd_688 wd_98 wd_689 ⟨by decide, by decide, by decide +kernel⟩ dX6_extraOf_7)) (ax_lf_ok (ak_iret rfl dX6_extraOf_10))))
abbrev mX6_extraOf (g : ax_G) (as : List Value) (h : ax_H) (Ret : Option Value → ax_H → Prop) : Prop := ax_M g 3 0 0 yX6_extraOf cX6_extraOf 2 (some .int) as h Ret
theorem dX6_extraBy_0 : decode cX6_extraBy 0 = .ok (.iload_n 2, 1) := by decide +kernel
theorem dX6_extraBy_1 : decode cX6_extraBy 1 = .ok (.lookupswitch 40 #[(0, 27), (2, 33)], 27) := by decide +kernel
theorem dX6_extraBy_28 : decode cX6_extraBy 28 = .ok (.aload_n 0, 1) := by decide +kernel
theorem dX6_extraBy_29 : decode cX6_extraBy 29 = .ok (.iload_n 1, 1) := by decide +kernel
theorem dX6_extraBy_30 : decode cX6_extraBy 30 = .ok (.invokevirtual 58, 3) := by decide +kernel
theorem dX6_extraBy_33 : decode cX6_extraBy 33 = .ok (.ireturn, 1) := by decide +kernel
theorem dX6_extraBy_34 : decode cX6_extraBy 34 = .ok (.aload_n 0, 1) := by decide +kernel
theorem dX6_extraBy_35 : decode cX6_extraBy 35 = .ok (.iload_n 1, 1) := by decide +kernel
theorem dX6_extraBy_36 : decode cX6_extraBy 36 = .ok (.invokevirtual 58, 3) := by decide +kernel
theorem dX6_extraBy_39 : decode cX6_extraBy 39 = .ok (.ineg, 1) := by decide +kernel
theorem dX6_extraBy_40 : decode cX6_extraBy 40 = .ok (.ireturn, 1) := by decide +kernel
theorem dX6_extraBy_41 : decode cX6_extraBy 41 = .ok (.iconst 0, 1) := by decide +kernel
theorem dX6_extraBy_42 : decode cX6_extraBy 42 = .ok (.ireturn, 1) := by decide +kernel
def tX6_extraBy (g : ax_G) : Nat → ax_O := ax_nd 33 (ax_nd 28 (ax_nd 0 (ax_lf 0 (ao_il 2 1)) (ax_nd 1 (ax_lf 1 (ao_sw [(0, 28), (2, 34)] 41)) (ax_lf 28 (ao_al 0 1)))) (ax_nd 29 (ax_lf 29 (ao_il 1 1)) (ax_nd 30 (ax_lf 30 (ao_inv g 1 6 1 yX6_worthOf cX6_worthOf 2 (some .int) 2 0 0 0 0)) (ax_lf 33 (ao_iret 0 0))))) (ax_nd 36 (ax_nd 34 (ax_lf 34 (ao_al 0 1)) (ax_nd 35 (ax_lf 35 (ao_il 1 1)) (ax_lf 36 (ao_inv g 1 6 1 yX6_worthOf cX6_worthOf 2 (some .int) 2 0 0 0 0)))) (ax_nd 40 (ax_nd 39 (ax_lf 39 ao_ineg) (ax_lf 40 (ao_iret 0 0))) (ax_nd 41 (ax_lf 41 (ao_ic (0) 1)) (ax_lf 42 (ao_iret 0 0)))))
theorem oX6_extraBy (g : ax_G) : ∀ pc, ax_ok g cX6_extraBy 3 (some .int) RX6 "extraBy" 2 0 0 pc (tX6_extraBy g pc) := ax_nd_ok (ax_nd_ok (ax_nd_ok (ax_lf_ok (ak_iload_n rfl dX6_extraBy_0)) (ax_nd_ok (ax_lf_ok (ak_look dX6_extraBy_1 (by decide +kernel) (by decide) (by decide) (by decide +kernel))) (ax_lf_ok (ak_aload_n rfl dX6_extraBy_28)))) (ax_nd_ok (ax_lf_ok (ak_iload_n rfl dX6_extraBy_29)) (ax_nd_ok (ax_lf_ok (ak_invV (by decide) (by decide) (by decide) rfl wd_673 wd_674 wd_675 wd_98 wd_676 ⟨by decide, by decide, by decide +kernel⟩ dX6_extraBy_30)) (ax_lf_ok (ak_iret rfl dX6_extraBy_33))))) (ax_nd_ok (ax_nd_ok (ax_lf_ok (ak_aload_n rfl dX6_extraBy_34)) (ax_nd_ok (ax_lf_ok (ak_iload_n rfl dX6_extraBy_35)) (ax_lf_ok (ak_invV (by decide) (by decide) (by decide) rfl wd_673 wd_674 wd_675 wd_98 wd_676 ⟨by decide, by decide, by decide +kernel⟩ dX6_extraBy_36)))) (ax_nd_ok (ax_nd_ok (ax_lf_ok (ak_ineg dX6_extraBy_39)) (ax_lf_ok (ak_iret rfl dX6_extraBy_40))) (ax_nd_ok (ax_lf_ok (ak_iconst (by decide) dX6_extraBy_41)) (ax_lf_ok (ak_iret rfl dX6_extraBy_42)))))
abbrev mX6_extraBy (g : ax_G) (as : List Value) (h : ax_H) (Ret : Option Value → ax_H → Prop) : Prop := ax_M g 2 0 0 yX6_extraBy cX6_extraBy 3 (some .int) as h Ret
theorem dX6_worthOfDeeds_0 : decode cX6_worthOfDeeds 0 = .ok (.iconst 0, 1) := by decide +kernel
theorem dX6_worthOfDeeds_1 : decode cX6_worthOfDeeds 1 = .ok (.istore_n 2, 1) := by decide +kernel
theorem dX6_worthOfDeeds_2 : decode cX6_worthOfDeeds 2 = .ok (.iconst 0, 1) := by decide +kernel
theorem dX6_worthOfDeeds_3 : decode cX6_worthOfDeeds 3 = .ok (.istore_n 3, 1) := by decide +kernel
theorem dX6_worthOfDeeds_4 : decode cX6_worthOfDeeds 4 = .ok (.iload_n 3, 1) := by decide +kernel
theorem dX6_worthOfDeeds_5 : decode cX6_worthOfDeeds 5 = .ok (.aload_n 0, 1) := by decide +kernel
theorem dX6_worthOfDeeds_6 : decode cX6_worthOfDeeds 6 = .ok (.getfield 30, 3) := by decide +kernel
theorem dX6_worthOfDeeds_9 : decode cX6_worthOfDeeds 9 = .ok (.if_icmp .ge 22, 3) := by decide +kernel
theorem dX6_worthOfDeeds_12 : decode cX6_worthOfDeeds 12 = .ok (.iload_n 2, 1) := by decide +kernel
theorem dX6_worthOfDeeds_13 : decode cX6_worthOfDeeds 13 = .ok (.aload_n 0, 1) := by decide +kernel
theorem dX6_worthOfDeeds_14 : decode cX6_worthOfDeeds 14 = .ok (.aload_n 0, 1) := by decide +kernel
theorem dX6_worthOfDeeds_15 : decode cX6_worthOfDeeds 15 = .ok (.iload_n 1, 1) := by decide +kernel
theorem dX6_worthOfDeeds_16 : decode cX6_worthOfDeeds 16 = .ok (.iload_n 3, 1) := by decide +kernel
theorem dX6_worthOfDeeds_17 : decode cX6_worthOfDeeds 17 = .ok (.invokevirtual 61, 3) := by decide +kernel
theorem dX6_worthOfDeeds_20 : decode cX6_worthOfDeeds 20 = .ok (.invokevirtual 58, 3) := by decide +kernel
theorem dX6_worthOfDeeds_23 : decode cX6_worthOfDeeds 23 = .ok (.iadd, 1) := by decide +kernel
theorem dX6_worthOfDeeds_24 : decode cX6_worthOfDeeds 24 = .ok (.istore_n 2, 1) := by decide +kernel
theorem dX6_worthOfDeeds_25 : decode cX6_worthOfDeeds 25 = .ok (.iinc 3 1, 3) := by decide +kernel
theorem dX6_worthOfDeeds_28 : decode cX6_worthOfDeeds 28 = .ok (.goto (-24), 3) := by decide +kernel
theorem dX6_worthOfDeeds_31 : decode cX6_worthOfDeeds 31 = .ok (.iload_n 2, 1) := by decide +kernel
theorem dX6_worthOfDeeds_32 : decode cX6_worthOfDeeds 32 = .ok (.ireturn, 1) := by decide +kernel
def tX6_worthOfDeeds (g : ax_G) : Nat → ax_O := ax_nd 13 (ax_nd 4 (ax_nd 1 (ax_nd 0 (ax_lf 0 (ao_ic (0) 1)) (ax_lf 1 (ao_is 2 1))) (ax_nd 2 (ax_lf 2 (ao_ic (0) 1)) (ax_nd 3 (ax_lf 3 (ao_is 3 1)) (ax_lf 4 (ao_il 3 1))))) (ax_nd 6 (ax_nd 5 (ax_lf 5 (ao_al 0 1)) (ax_lf 6 (ao_gi 6 5))) (ax_nd 9 (ax_lf 9 (ao_icmp_ge 31)) (ax_nd 12 (ax_lf 12 (ao_il 2 1)) (ax_lf 13 (ao_al 0 1)))))) (ax_nd 20 (ax_nd 15 (ax_nd 14 (ax_lf 14 (ao_al 0 1)) (ax_lf 15 (ao_il 1 1))) (ax_nd 16 (ax_lf 16 (ao_il 3 1)) (ax_nd 17 (ax_lf 17 (ao_inv g 2 6 1 yX6_deedAt cX6_deedAt 3 (some .int) 3 0 0 0 0)) (ax_lf 20 (ao_inv g 1 6 1 yX6_worthOf cX6_worthOf 2 (some .int) 2 0 0 0 0))))) (ax_nd 25 (ax_nd 23 (ax_lf 23 ao_iadd) (ax_nd 24 (ax_lf 24 (ao_is 2 1)) (ax_lf 25 (ao_iinc 3 (1))))) (ax_nd 28 (ax_lf 28 (ao_goto 4)) (ax_nd 31 (ax_lf 31 (ao_il 2 1)) (ax_lf 32 (ao_iret 0 0))))))
theorem oX6_worthOfDeeds (g : ax_G) : ∀ pc, ax_ok g cX6_worthOfDeeds 4 (some .int) RX6 "worthOfDeeds" 3 0 0 pc (tX6_worthOfDeeds g pc) := ax_nd_ok (ax_nd_ok (ax_nd_ok (ax_nd_ok (ax_lf_ok (ak_iconst (by decide) dX6_worthOfDeeds_0)) (ax_lf_ok (ak_istore_n rfl (by decide) dX6_worthOfDeeds_1))) (ax_nd_ok (ax_lf_ok (ak_iconst (by decide) dX6_worthOfDeeds_2)) (ax_nd_ok (ax_lf_ok (ak_istore_n rfl (by decide) dX6_worthOfDeeds_3)) (ax_lf_ok (ak_iload_n rfl dX6_worthOfDeeds_4))))) (ax_nd_ok (ax_nd_ok (ax_lf_ok (ak_aload_n rfl dX6_worthOfDeeds_5)) (ax_lf_ok (ak_gi fF_X6_30 dX6_worthOfDeeds_6))) (ax_nd_ok (ax_lf_ok (ak_icmp_ge (by decide) dX6_worthOfDeeds_9)) (ax_nd_ok (ax_lf_ok (ak_iload_n rfl dX6_worthOfDeeds_12)) (ax_lf_ok (ak_aload_n rfl dX6_worthOfDeeds_13)))))) (ax_nd_ok (ax_nd_ok (ax_nd_ok (ax_lf_ok (ak_aload_n rfl dX6_worthOfDeeds_14)) (ax_lf_ok (ak_iload_n rfl dX6_worthOfDeeds_15))) (ax_nd_ok (ax_lf_ok (ak_iload_n rfl dX6_worthOfDeeds_16)) (ax_nd_ok (ax_lf_ok (ak_invV (by decide) (by decide) (by decide) rfl wd_661 wd_662 wd_663 wd_98 wd_664 ⟨by decide, by decide, by decide +kernel⟩ dX6_worthOfDeeds_17)) (ax_lf_ok (ak_invV (by decide) (by decide) (by decide) rfl wd_673 wd_674 wd_675 wd_98 wd_676 ⟨by decide, by decide, by decide +kernel⟩ dX6_worthOfDeeds_20))))) (ax_nd_ok (ax_nd_ok (ax_lf_ok (ak_iadd dX6_worthOfDeeds_23)) (ax_nd_ok (ax_lf_ok (ak_istore_n rfl (by decide) dX6_worthOfDeeds_24)) (ax_lf_ok (ak_iinc (by decide) (by decide) dX6_worthOfDeeds_25)))) (ax_nd_ok (ax_lf_ok (ak_goto (by decide) dX6_worthOfDeeds_28)) (ax_nd_ok (ax_lf_ok (ak_iload_n rfl dX6_worthOfDeeds_31)) (ax_lf_ok (ak_iret rfl dX6_worthOfDeeds_32))))))
abbrev mX6_worthOfDeeds (g : ax_G) (as : List Value) (h : ax_H) (Ret : Option Value → ax_H → Prop) : Prop := ax_M g 3 0 0 yX6_worthOfDeeds cX6_worthOfDeeds 4 (some .int) as h Ret
end
