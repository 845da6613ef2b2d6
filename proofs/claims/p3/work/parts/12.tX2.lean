section
theorem dX2_init_0 : decode cX2_init 0 = .ok (.aload_n 0, 1) := by decide +kernel
theorem dX2_init_1 : decode cX2_init 1 = .ok (.invokespecial 3, 3) := by decide +kernel
theorem dX2_init_4 : decode cX2_init 4 = .ok (.aload_n 0, 1) := by decide +kernel
theorem dX2_init_5 : decode cX2_init 5 = .ok (.iconst 0, 1) := by decide +kernel
theorem dX2_init_6 : decode cX2_init 6 = .ok (.putfield 9, 3) := by decide +kernel
theorem dX2_init_9 : decode cX2_init 9 = .ok (.iload_n 1, 1) := by decide +kernel
theorem dX2_init_10 : decode cX2_init 10 = .ok (.ifCond .lt 12, 3) := by decide +kernel
theorem dX2_init_13 : decode cX2_init 13 = .ok (.iload_n 1, 1) := by decide +kernel
theorem dX2_init_14 : decode cX2_init 14 = .ok (.iconst 5, 1) := by decide +kernel
theorem dX2_init_15 : decode cX2_init 15 = .ok (.if_icmp .ge 7, 3) := by decide +kernel
theorem dX2_init_18 : decode cX2_init 18 = .ok (.iconst 1, 1) := by decide +kernel
theorem dX2_init_19 : decode cX2_init 19 = .ok (.goto 4, 3) := by decide +kernel
theorem dX2_init_22 : decode cX2_init 22 = .ok (.iconst 0, 1) := by decide +kernel
theorem dX2_init_23 : decode cX2_init 23 = .ok (.istore_n 2, 1) := by decide +kernel
theorem dX2_init_24 : decode cX2_init 24 = .ok (.aload_n 0, 1) := by decide +kernel
theorem dX2_init_25 : decode cX2_init 25 = .ok (.iload_n 2, 1) := by decide +kernel
theorem dX2_init_26 : decode cX2_init 26 = .ok (.ifCond .eq 11, 3) := by decide +kernel
theorem dX2_init_29 : decode cX2_init 29 = .ok (.getstatic 15, 3) := by decide +kernel
theorem dX2_init_32 : decode cX2_init 32 = .ok (.iload_n 1, 1) := by decide +kernel
theorem dX2_init_33 : decode cX2_init 33 = .ok (.iaload, 1) := by decide +kernel
theorem dX2_init_34 : decode cX2_init 34 = .ok (.goto 4, 3) := by decide +kernel
theorem dX2_init_37 : decode cX2_init 37 = .ok (.iconst 0, 1) := by decide +kernel
theorem dX2_init_38 : decode cX2_init 38 = .ok (.putfield 19, 3) := by decide +kernel
theorem dX2_init_41 : decode cX2_init 41 = .ok (.aload_n 0, 1) := by decide +kernel
theorem dX2_init_42 : decode cX2_init 42 = .ok (.iload_n 2, 1) := by decide +kernel
theorem dX2_init_43 : decode cX2_init 43 = .ok (.ifCond .eq 11, 3) := by decide +kernel
theorem dX2_init_46 : decode cX2_init 46 = .ok (.getstatic 22, 3) := by decide +kernel
theorem dX2_init_49 : decode cX2_init 49 = .ok (.iload_n 1, 1) := by decide +kernel
theorem dX2_init_50 : decode cX2_init 50 = .ok (.iaload, 1) := by decide +kernel
theorem dX2_init_51 : decode cX2_init 51 = .ok (.goto 4, 3) := by decide +kernel
theorem dX2_init_54 : decode cX2_init 54 = .ok (.iconst 0, 1) := by decide +kernel
theorem dX2_init_55 : decode cX2_init 55 = .ok (.putfield 25, 3) := by decide +kernel
theorem dX2_init_58 : decode cX2_init 58 = .ok (.aload_n 0, 1) := by decide +kernel
theorem dX2_init_59 : decode cX2_init 59 = .ok (.aload_n 0, 1) := by decide +kernel
theorem dX2_init_60 : decode cX2_init 60 = .ok (.getfield 19, 3) := by decide +kernel
theorem dX2_init_63 : decode cX2_init 63 = .ok (.aload_n 0, 1) := by decide +kernel
theorem dX2_init_64 : decode cX2_init 64 = .ok (.getfield 25, 3) := by decide +kernel
theorem dX2_init_67 : decode cX2_init 67 = .ok (.imul, 1) := by decide +kernel
theorem dX2_init_68 : decode cX2_init 68 = .ok (.newarray .int, 2) := by decide +kernel
theorem dX2_init_70 : decode cX2_init 70 = .ok (.putfield 28, 3) := by decide +kernel
theorem dX2_init_73 : decode cX2_init 73 = .ok (.return_, 1) := by decide +kernel
def tX2_init (g : ax_G) : Nat → ax_O := ax_nd 33 (ax_nd 15 (ax_nd 6 (ax_nd 1 (ax_nd 0 (ax_lf 0 (ao_al 0 1)) (ax_lf 1 ao_obj)) (ax_nd 4 (ax_lf 4 (ao_al 0 1)) (ax_nd 5 (ax_lf 5 (ao_ic (0) 1)) (ax_lf 6 (ao_pi 2 3))))) (ax_nd 10 (ax_nd 9 (ax_lf 9 (ao_il 1 1)) (ax_lf 10 (ao_if_lt 22))) (ax_nd 13 (ax_lf 13 (ao_il 1 1)) (ax_nd 14 (ax_lf 14 (ao_ic (5) 1)) (ax_lf 15 (ao_icmp_ge 22)))))) (ax_nd 24 (ax_nd 19 (ax_nd 18 (ax_lf 18 (ao_ic (1) 1)) (ax_lf 19 (ao_goto 23))) (ax_nd 22 (ax_lf 22 (ao_ic (0) 1)) (ax_nd 23 (ax_lf 23 (ao_is 2 1)) (ax_lf 24 (ao_al 0 1))))) (ax_nd 26 (ax_nd 25 (ax_lf 25 (ao_il 2 1)) (ax_lf 26 (ao_if_eq 37))) (ax_nd 29 (ax_lf 29 (ao_gs 0)) (ax_nd 32 (ax_lf 32 (ao_il 1 1)) (ax_lf 33 (ao_sald 0 [0, 14, 6, 8, 6]))))))) (ax_nd 51 (ax_nd 42 (ax_nd 37 (ax_nd 34 (ax_lf 34 (ao_goto 38)) (ax_lf 37 (ao_ic (0) 1))) (ax_nd 38 (ax_lf 38 (ao_pi 2 0)) (ax_nd 41 (ax_lf 41 (ao_al 0 1)) (ax_lf 42 (ao_il 2 1))))) (ax_nd 46 (ax_nd 43 (ax_lf 43 (ao_if_eq 54)) (ax_lf 46 (ao_gs 1))) (ax_nd 49 (ax_lf 49 (ao_il 1 1)) (ax_nd 50 (ax_lf 50 (ao_sald 1 [0, 1, 3, 2, 3])) (ax_lf 51 (ao_goto 55)))))) (ax_nd 60 (ax_nd 55 (ax_nd 54 (ax_lf 54 (ao_ic (0) 1)) (ax_lf 55 (ao_pi 2 1))) (ax_nd 58 (ax_lf 58 (ao_al 0 1)) (ax_nd 59 (ax_lf 59 (ao_al 0 1)) (ax_lf 60 (ao_gi 2 0))))) (ax_nd 67 (ax_nd 63 (ax_lf 63 (ao_al 0 1)) (ax_nd 64 (ax_lf 64 (ao_gi 2 1)) (ax_lf 67 ao_imul))) (ax_nd 68 (ax_lf 68 (ao_newa 11 4 1 18)) (ax_nd 70 (ax_lf 70 (ao_pr 2 2)) (ax_lf 73 (ao_vreta 1 18)))))))
theorem oX2_init (g : ax_G) : ∀ pc, ax_ok g cX2_init 3 none RX2 "<init>" 1 1 18 pc (tX2_init g pc) := ax_nd_ok (ax_nd_ok (ax_nd_ok (ax_nd_ok (ax_nd_ok (ax_lf_ok (ak_aload_n rfl dX2_init_0)) (ax_lf_ok (ak_obj (by decide) wd_184 wd_119 wd_120 dX2_init_1))) (ax_nd_ok (ax_lf_ok (ak_aload_n rfl dX2_init_4)) (ax_nd_ok (ax_lf_ok (ak_iconst (by decide) dX2_init_5)) (ax_lf_ok (ak_pi fF_X2_9 fW_X2_9_a dX2_init_6))))) (ax_nd_ok (ax_nd_ok (ax_lf_ok (ak_iload_n rfl dX2_init_9)) (ax_lf_ok (ak_if_lt (by decide) dX2_init_10))) (ax_nd_ok (ax_lf_ok (ak_iload_n rfl dX2_init_13)) (ax_nd_ok (ax_lf_ok (ak_iconst (by decide) dX2_init_14)) (ax_lf_ok (ak_icmp_ge (by decide) dX2_init_15)))))) (ax_nd_ok (ax_nd_ok (ax_nd_ok (ax_lf_ok (ak_iconst (by decide) dX2_init_18)) (ax_lf_ok (ak_goto (by decide) dX2_init_19))) (ax_nd_ok (ax_lf_ok (ak_iconst (by decide) dX2_init_22)) (ax_nd_ok (ax_lf_ok (ak_istore_n rfl (by decide) dX2_init_23)) (ax_lf_ok (ak_aload_n rfl dX2_init_24))))) (ax_nd_ok (ax_nd_ok (ax_lf_ok (ak_iload_n rfl dX2_init_25)) (ax_lf_ok (ak_if_eq (by decide) dX2_init_26))) (ax_nd_ok (ax_lf_ok (ak_gsN (j := 0) rfl (host := "GluedHour") (by decide +kernel) dX2_init_29)) (ax_nd_ok (ax_lf_ok (ak_iload_n rfl dX2_init_32)) (ax_lf_ok (ak_sald (j := 0) rfl dX2_init_33))))))) (ax_nd_ok (ax_nd_ok (ax_nd_ok (ax_nd_ok (ax_lf_ok (ak_goto (by decide) dX2_init_34)) (ax_lf_ok (ak_iconst (by decide) dX2_init_37))) (ax_nd_ok (ax_lf_ok (ak_pi fF_X2_19 fW_X2_19_i dX2_init_38)) (ax_nd_ok (ax_lf_ok (ak_aload_n rfl dX2_init_41)) (ax_lf_ok (ak_iload_n rfl dX2_init_42))))) (ax_nd_ok (ax_nd_ok (ax_lf_ok (ak_if_eq (by decide) dX2_init_43)) (ax_lf_ok (ak_gsN (j := 1) rfl (host := "GluedHour") (by decide +kernel) dX2_init_46))) (ax_nd_ok (ax_lf_ok (ak_iload_n rfl dX2_init_49)) (ax_nd_ok (ax_lf_ok (ak_sald (j := 1) rfl dX2_init_50)) (ax_lf_ok (ak_goto (by decide) dX2_init_51)))))) (ax_nd_ok (ax_nd_ok (ax_nd_ok (ax_lf_ok (ak_iconst (by decide) dX2_init_54)) (ax_lf_ok (ak_pi fF_X2_25 fW_X2_25_i dX2_init_55))) (ax_nd_ok (ax_lf_ok (ak_aload_n rfl dX2_init_58)) (ax_nd_ok (ax_lf_ok (ak_aload_n rfl dX2_init_59)) (ax_lf_ok (ak_gi fF_X2_19 dX2_init_60))))) (ax_nd_ok (ax_nd_ok (ax_lf_ok (ak_aload_n rfl dX2_init_63)) (ax_nd_ok (ax_lf_ok (ak_gi fF_X2_25 dX2_init_64)) (ax_lf_ok (ak_imul dX2_init_67)))) (ax_nd_ok (ax_lf_ok (ak_newa (atype := .int) (ty := .int) (by decide) (by decide) rfl rfl (fun _ h => by cases h) (t0 := 0) rfl (fun _ _ => rfl) wd_179 dX2_init_68)) (ax_nd_ok (ax_lf_ok (ak_pr fF_X2_28 rfl fW_X2_28_i dX2_init_70)) (ax_lf_ok (ak_vreta (ak_vret rfl dX2_init_73))))))))
abbrev mX2_init (g : ax_G) (as : List Value) (h : ax_H) (Ret : Option Value → ax_H → Prop) : Prop := ax_M g 1 1 18 yX2_init cX2_init 3 none as h Ret
theorem dX2_has_0 : decode cX2_has 0 = .ok (.iload_n 1, 1) := by decide +kernel
theorem dX2_has_1 : decode cX2_has 1 = .ok (.ifCond .lt 15, 3) := by decide +kernel
theorem dX2_has_4 : decode cX2_has 4 = .ok (.iload_n 1, 1) := by decide +kernel
theorem dX2_has_5 : decode cX2_has 5 = .ok (.aload_n 0, 1) := by decide +kernel
theorem dX2_has_6 : decode cX2_has 6 = .ok (.getfield 9, 3) := by decide +kernel
theorem dX2_has_9 : decode cX2_has 9 = .ok (.if_icmp .ge 7, 3) := by decide +kernel
theorem dX2_has_12 : decode cX2_has 12 = .ok (.iconst 1, 1) := by decide +kernel
theorem dX2_has_13 : decode cX2_has 13 = .ok (.goto 4, 3) := by decide +kernel
theorem dX2_has_16 : decode cX2_has 16 = .ok (.iconst 0, 1) := by decide +kernel
theorem dX2_has_17 : decode cX2_has 17 = .ok (.ireturn, 1) := by decide +kernel
def tX2_has (g : ax_G) : Nat → ax_O := ax_nd 6 (ax_nd 1 (ax_nd 0 (ax_lf 0 (ao_il 1 1)) (ax_lf 1 (ao_if_lt 16))) (ax_nd 4 (ax_lf 4 (ao_il 1 1)) (ax_nd 5 (ax_lf 5 (ao_al 0 1)) (ax_lf 6 (ao_gi 2 3))))) (ax_nd 12 (ax_nd 9 (ax_lf 9 (ao_icmp_ge 16)) (ax_lf 12 (ao_ic (1) 1))) (ax_nd 13 (ax_lf 13 (ao_goto 17)) (ax_nd 16 (ax_lf 16 (ao_ic (0) 1)) (ax_lf 17 (ao_zret 0 0)))))
theorem oX2_has (g : ax_G) : ∀ pc, ax_ok g cX2_has 2 (some .boolean) RX2 "has" 1 0 0 pc (tX2_has g pc) := ax_nd_ok (ax_nd_ok (ax_nd_ok (ax_lf_ok (ak_iload_n rfl dX2_has_0)) (ax_lf_ok (ak_if_lt (by decide) dX2_has_1))) (ax_nd_ok (ax_lf_ok (ak_iload_n rfl dX2_has_4)) (ax_nd_ok (ax_lf_ok (ak_aload_n rfl dX2_has_5)) (ax_lf_ok (ak_gi fF_X2_9 dX2_has_6))))) (ax_nd_ok (ax_nd_ok (ax_lf_ok (ak_icmp_ge (by decide) dX2_has_9)) (ax_lf_ok (ak_iconst (by decide) dX2_has_12))) (ax_nd_ok (ax_lf_ok (ak_goto (by decide) dX2_has_13)) (ax_nd_ok (ax_lf_ok (ak_iconst (by decide) dX2_has_16)) (ax_lf_ok (ak_zret rfl dX2_has_17)))))
abbrev mX2_has (g : ax_G) (as : List Value) (h : ax_H) (Ret : Option Value → ax_H → Prop) : Prop := ax_M g 1 0 0 yX2_has cX2_has 2 (some .boolean) as h Ret
theorem dX2_cell_0 : decode cX2_cell 0 = .ok (.aload_n 0, 1) := by decide +kernel
theorem dX2_cell_1 : decode cX2_cell 1 = .ok (.iload_n 1, 1) := by decide +kernel
theorem dX2_cell_2 : decode cX2_cell 2 = .ok (.invokevirtual 31, 3) := by decide +kernel
theorem dX2_cell_5 : decode cX2_cell 5 = .ok (.ifCond .eq 31, 3) := by decide +kernel
theorem dX2_cell_8 : decode cX2_cell 8 = .ok (.iload_n 2, 1) := by decide +kernel
theorem dX2_cell_9 : decode cX2_cell 9 = .ok (.ifCond .lt 27, 3) := by decide +kernel
theorem dX2_cell_12 : decode cX2_cell 12 = .ok (.iload_n 2, 1) := by decide +kernel
theorem dX2_cell_13 : decode cX2_cell 13 = .ok (.aload_n 0, 1) := by decide +kernel
theorem dX2_cell_14 : decode cX2_cell 14 = .ok (.getfield 25, 3) := by decide +kernel
theorem dX2_cell_17 : decode cX2_cell 17 = .ok (.if_icmp .ge 19, 3) := by decide +kernel
theorem dX2_cell_20 : decode cX2_cell 20 = .ok (.aload_n 0, 1) := by decide +kernel
theorem dX2_cell_21 : decode cX2_cell 21 = .ok (.getfield 28, 3) := by decide +kernel
theorem dX2_cell_24 : decode cX2_cell 24 = .ok (.iload_n 1, 1) := by decide +kernel
theorem dX2_cell_25 : decode cX2_cell 25 = .ok (.aload_n 0, 1) := by decide +kernel
theorem dX2_cell_26 : decode cX2_cell 26 = .ok (.getfield 25, 3) := by decide +kernel
theorem dX2_cell_29 : decode cX2_cell 29 = .ok (.imul, 1) := by decide +kernel
theorem dX2_cell_30 : decode cX2_cell 30 = .ok (.iload_n 2, 1) := by decide +kernel
theorem dX2_cell_31 : decode cX2_cell 31 = .ok (.iadd, 1) := by decide +kernel
theorem dX2_cell_32 : decode cX2_cell 32 = .ok (.iaload, 1) := by decide +kernel
theorem dX2_cell_33 : decode cX2_cell 33 = .ok (.goto 4, 3) := by decide +kernel
theorem dX2_cell_36 : decode cX2_cell 36 = .ok (.iconst 0, 1) := by decide +kernel
theorem dX2_cell_37 : decode cX2_cell 37 = .ok (.ireturn, 1) := by decide +kernel
def tX2_cell (g : ax_G) : Nat → ax_O := ax_nd 20 (ax_nd 8 (ax_nd 1 (ax_nd 0 (ax_lf 0 (ao_al 0 1)) (ax_lf 1 (ao_il 1 1))) (ax_nd 2 (ax_lf 2 (ao_inv g 1 2 1 yX2_has cX2_has 2 (some .boolean) 2 0 0 0 0)) (ax_nd 5 (ax_lf 5 (ao_if_eq 36)) (ax_lf 8 (ao_il 2 1))))) (ax_nd 13 (ax_nd 9 (ax_lf 9 (ao_if_lt 36)) (ax_nd 12 (ax_lf 12 (ao_il 2 1)) (ax_lf 13 (ao_al 0 1)))) (ax_nd 14 (ax_lf 14 (ao_gi 2 1)) (ax_nd 17 (ax_lf 17 (ao_icmp_ge 36)) (ax_lf 20 (ao_al 0 1)))))) (ax_nd 29 (ax_nd 24 (ax_nd 21 (ax_lf 21 (ao_gr 2 2)) (ax_lf 24 (ao_il 1 1))) (ax_nd 25 (ax_lf 25 (ao_al 0 1)) (ax_nd 26 (ax_lf 26 (ao_gi 2 1)) (ax_lf 29 ao_imul)))) (ax_nd 32 (ax_nd 30 (ax_lf 30 (ao_il 2 1)) (ax_nd 31 (ax_lf 31 ao_iadd) (ax_lf 32 ao_iald))) (ax_nd 33 (ax_lf 33 (ao_goto 37)) (ax_nd 36 (ax_lf 36 (ao_ic (0) 1)) (ax_lf 37 (ao_iret 0 0))))))
theorem oX2_cell (g : ax_G) : ∀ pc, ax_ok g cX2_cell 3 (some .int) RX2 "cell" 2 0 0 pc (tX2_cell g pc) := ax_nd_ok (ax_nd_ok (ax_nd_ok (ax_nd_ok (ax_lf_ok (ak_aload_n rfl dX2_cell_0)) (ax_lf_ok (ak_iload_n rfl dX2_cell_1))) (ax_nd_ok (ax_lf_ok (ak_invV (by decide) (by decide) (by decide) rfl wd_757 wd_750 wd_751 wd_99 wd_752 ⟨by decide, by decide, by decide +kernel⟩ dX2_cell_2)) (ax_nd_ok (ax_lf_ok (ak_if_eq (by decide) dX2_cell_5)) (ax_lf_ok (ak_iload_n rfl dX2_cell_8))))) (ax_nd_ok (ax_nd_ok (ax_lf_ok (ak_if_lt (by decide) dX2_cell_9)) (ax_nd_ok (ax_lf_ok (ak_iload_n rfl dX2_cell_12)) (ax_lf_ok (ak_aload_n rfl dX2_cell_13)))) (ax_nd_ok (ax_lf_ok (ak_gi fF_X2_25 dX2_cell_14)) (ax_nd_ok (ax_lf_ok (ak_icmp_ge (by decide) dX2_cell_17)) (ax_lf_ok (ak_aload_n rfl dX2_cell_20)))))) (ax_nd_ok (ax_nd_ok (ax_nd_ok (ax_lf_ok (ak_gr fF_X2_28 dX2_cell_21)) (ax_lf_ok (ak_iload_n rfl dX2_cell_24))) (ax_nd_ok (ax_lf_ok (ak_aload_n rfl dX2_cell_25)) (ax_nd_ok (ax_lf_ok (ak_gi fF_X2_25 dX2_cell_26)) (ax_lf_ok (ak_imul dX2_cell_29))))) (ax_nd_ok (ax_nd_ok (ax_lf_ok (ak_iload_n rfl dX2_cell_30)) (ax_nd_ok (ax_lf_ok (ak_iadd dX2_cell_31)) (ax_lf_ok (ak_iald dX2_cell_32)))) (ax_nd_ok (ax_lf_ok (ak_goto (by decide) dX2_cell_33)) (ax_nd_ok (ax_lf_ok (ak_iconst (by decide) dX2_cell_36)) (ax_lf_ok (ak_iret rfl dX2_cell_37))))))
abbrev mX2_cell (g : ax_G) (as : List Value) (h : ax_H) (Ret : Option Value → ax_H → Prop) : Prop := ax_M g 2 0 0 yX2_cell cX2_cell 3 (some .int) as h Ret
theorem dX2_isFull_0 : decode cX2_isFull 0 = .ok (.aload_n 0, 1) := by decide +kernel
theorem dX2_isFull_1 : decode cX2_isFull 1 = .ok (.getfield 9, 3) := by decide +kernel
theorem dX2_isFull_4 : decode cX2_isFull 4 = .ok (.aload_n 0, 1) := by decide +kernel
theorem dX2_isFull_5 : decode cX2_isFull 5 = .ok (.getfield 19, 3) := by decide +kernel
theorem dX2_isFull_8 : decode cX2_isFull 8 = .ok (.if_icmp .lt 7, 3) := by decide +kernel
theorem dX2_isFull_11 : decode cX2_isFull 11 = .ok (.iconst 1, 1) := by decide +kernel
theorem dX2_isFull_12 : decode cX2_isFull 12 = .ok (.goto 4, 3) := by decide +kernel
theorem dX2_isFull_15 : decode cX2_isFull 15 = .ok (.iconst 0, 1) := by decide +kernel
theorem dX2_isFull_16 : decode cX2_isFull 16 = .ok (.ireturn, 1) := by decide +kernel
def tX2_isFull (g : ax_G) : Nat → ax_O := ax_nd 5 (ax_nd 1 (ax_nd 0 (ax_lf 0 (ao_al 0 1)) (ax_lf 1 (ao_gi 2 3))) (ax_nd 4 (ax_lf 4 (ao_al 0 1)) (ax_lf 5 (ao_gi 2 0)))) (ax_nd 11 (ax_nd 8 (ax_lf 8 (ao_icmp_lt 15)) (ax_lf 11 (ao_ic (1) 1))) (ax_nd 12 (ax_lf 12 (ao_goto 16)) (ax_nd 15 (ax_lf 15 (ao_ic (0) 1)) (ax_lf 16 (ao_zret 0 0)))))
theorem oX2_isFull (g : ax_G) : ∀ pc, ax_ok g cX2_isFull 1 (some .boolean) RX2 "isFull" 1 0 0 pc (tX2_isFull g pc) := ax_nd_ok (ax_nd_ok (ax_nd_ok (ax_lf_ok (ak_aload_n rfl dX2_isFull_0)) (ax_lf_ok (ak_gi fF_X2_9 dX2_isFull_1))) (ax_nd_ok (ax_lf_ok (ak_aload_n rfl dX2_isFull_4)) (ax_lf_ok (ak_gi fF_X2_19 dX2_isFull_5)))) (ax_nd_ok (ax_nd_ok (ax_lf_ok (ak_icmp_lt (by decide) dX2_isFull_8)) (ax_lf_ok (ak_iconst (by decide) dX2_isFull_11))) (ax_nd_ok (ax_lf_ok (ak_goto (by decide) dX2_isFull_12)) (ax_nd_ok (ax_lf_ok (ak_iconst (by decide) dX2_isFull_15)) (ax_lf_ok (ak_zret rfl dX2_isFull_16)))))
abbrev mX2_isFull (g : ax_G) (as : List Value) (h : ax_H) (Ret : Option Value → ax_H → Prop) : Prop := ax_M g 1 0 0 yX2_isFull cX2_isFull 1 (some .boolean) as h Ret
theorem dX2_add_0 : decode cX2_add 0 = .ok (.aload_n 0, 1) := by decide +kernel
theorem dX2_add_1 : decode cX2_add 1 = .ok (.invokevirtual 35, 3) := by decide +kernel
theorem dX2_add_4 : decode cX2_add 4 = .ok (.ifCond .ne 12, 3) := by decide +kernel
theorem dX2_add_7 : decode cX2_add 7 = .ok (.aload_n 1, 1) := by decide +kernel
theorem dX2_add_8 : decode cX2_add 8 = .ok (.arraylength, 1) := by decide +kernel
theorem dX2_add_9 : decode cX2_add 9 = .ok (.aload_n 0, 1) := by decide +kernel
theorem dX2_add_10 : decode cX2_add 10 = .ok (.getfield 25, 3) := by decide +kernel
theorem dX2_add_13 : decode cX2_add 13 = .ok (.if_icmp .ge 4, 3) := by decide +kernel
theorem dX2_add_16 : decode cX2_add 16 = .ok (.return_, 1) := by decide +kernel
theorem dX2_add_17 : decode cX2_add 17 = .ok (.aload_n 1, 1) := by decide +kernel
theorem dX2_add_18 : decode cX2_add 18 = .ok (.iconst 0, 1) := by decide +kernel
theorem dX2_add_19 : decode cX2_add 19 = .ok (.aload_n 0, 1) := by decide +kernel
theorem dX2_add_20 : decode cX2_add 20 = .ok (.getfield 28, 3) := by decide +kernel
theorem dX2_add_23 : decode cX2_add 23 = .ok (.aload_n 0, 1) := by decide +kernel
theorem dX2_add_24 : decode cX2_add 24 = .ok (.getfield 9, 3) := by decide +kernel
theorem dX2_add_27 : decode cX2_add 27 = .ok (.aload_n 0, 1) := by decide +kernel
theorem dX2_add_28 : decode cX2_add 28 = .ok (.getfield 25, 3) := by decide +kernel
theorem dX2_add_31 : decode cX2_add 31 = .ok (.imul, 1) := by decide +kernel
theorem dX2_add_32 : decode cX2_add 32 = .ok (.aload_n 0, 1) := by decide +kernel
theorem dX2_add_33 : decode cX2_add 33 = .ok (.getfield 25, 3) := by decide +kernel
theorem dX2_add_36 : decode cX2_add 36 = .ok (.invokestatic 39, 3) := by decide +kernel
theorem dX2_add_39 : decode cX2_add 39 = .ok (.aload_n 0, 1) := by decide +kernel
theorem dX2_add_40 : decode cX2_add 40 = .ok (.dup, 1) := by decide +kernel
theorem dX2_add_41 : decode cX2_add 41 = .ok (.getfield 9, 3) := by decide +kernel
theorem dX2_add_44 : decode cX2_add 44 = .ok (.iconst 1, 1) := by decide +kernel
theorem dX2_add_45 : decode cX2_add 45 = .ok (.iadd, 1) := by decide +kernel
theorem dX2_add_46 : decode cX2_add 46 = .ok (.putfield 9, 3) := by decide +kernel
theorem dX2_add_49 : decode cX2_add 49 = .ok (.return_, 1) := by decide +kernel
def tX2_add (g : ax_G) : Nat → ax_O := ax_nd 23 (ax_nd 10 (ax_nd 4 (ax_nd 0 (ax_lf 0 (ao_al 0 1)) (ax_nd 1 (ax_lf 1 (ao_inv g 1 2 1 yX2_isFull cX2_isFull 1 (some .boolean) 1 0 0 0 0)) (ax_lf 4 (ao_if_ne 16)))) (ax_nd 8 (ax_nd 7 (ax_lf 7 (ao_al 1 1)) (ax_lf 8 (ao_alen 11))) (ax_nd 9 (ax_lf 9 (ao_al 0 1)) (ax_lf 10 (ao_gi 2 1))))) (ax_nd 17 (ax_nd 13 (ax_lf 13 (ao_icmp_ge 17)) (ax_nd 16 (ax_lf 16 (ao_vret 0 0)) (ax_lf 17 (ao_al 1 1)))) (ax_nd 19 (ax_nd 18 (ax_lf 18 (ao_ic (0) 1)) (ax_lf 19 (ao_al 0 1))) (ax_nd 20 (ax_lf 20 (ao_gr 2 2)) (ax_lf 23 (ao_al 0 1)))))) (ax_nd 36 (ax_nd 28 (ax_nd 24 (ax_lf 24 (ao_gi 2 3)) (ax_nd 27 (ax_lf 27 (ao_al 0 1)) (ax_lf 28 (ao_gi 2 1)))) (ax_nd 32 (ax_nd 31 (ax_lf 31 ao_imul) (ax_lf 32 (ao_al 0 1))) (ax_nd 33 (ax_lf 33 (ao_gi 2 1)) (ax_lf 36 (ao_copy 11))))) (ax_nd 41 (ax_nd 39 (ax_lf 39 (ao_al 0 1)) (ax_nd 40 (ax_lf 40 ao_dup) (ax_lf 41 (ao_gi 2 3)))) (ax_nd 45 (ax_nd 44 (ax_lf 44 (ao_ic (1) 1)) (ax_lf 45 ao_iadd)) (ax_nd 46 (ax_lf 46 (ao_pi 2 3)) (ax_lf 49 (ao_vret 0 0))))))
theorem oX2_add (g : ax_G) : ∀ pc, ax_ok g cX2_add 2 none RX2 "add" 2 0 0 pc (tX2_add g pc) := ax_nd_ok (ax_nd_ok (ax_nd_ok (ax_nd_ok (ax_lf_ok (ak_aload_n rfl dX2_add_0)) (ax_nd_ok (ax_lf_ok (ak_invV (by decide) (by decide) (by decide) rfl wd_613 wd_577 wd_578 wd_99 wd_579 ⟨by decide, by decide, by decide +kernel⟩ dX2_add_1)) (ax_lf_ok (ak_if_ne (by decide) dX2_add_4)))) (ax_nd_ok (ax_nd_ok (ax_lf_ok (ak_aload_n rfl dX2_add_7)) (ax_lf_ok (ak_alen (by decide) (by decide) (t0 := 0) rfl dX2_add_8))) (ax_nd_ok (ax_lf_ok (ak_aload_n rfl dX2_add_9)) (ax_lf_ok (ak_gi fF_X2_25 dX2_add_10))))) (ax_nd_ok (ax_nd_ok (ax_lf_ok (ak_icmp_ge (by decide) dX2_add_13)) (ax_nd_ok (ax_lf_ok (ak_vret rfl dX2_add_16)) (ax_lf_ok (ak_aload_n rfl dX2_add_17)))) (ax_nd_ok (ax_nd_ok (ax_lf_ok (ak_iconst (by decide) dX2_add_18)) (ax_lf_ok (ak_aload_n rfl dX2_add_19))) (ax_nd_ok (ax_lf_ok (ak_gr fF_X2_28 dX2_add_20)) (ax_lf_ok (ak_aload_n rfl dX2_add_23)))))) (ax_nd_ok (ax_nd_ok (ax_nd_ok (ax_lf_ok (ak_gi fF_X2_9 dX2_add_24)) (ax_nd_ok (ax_lf_ok (ak_aload_n rfl dX2_add_27)) (ax_lf_ok (ak_gi fF_X2_25 dX2_add_28)))) (ax_nd_ok (ax_nd_ok (ax_lf_ok (ak_imul dX2_add_31)) (ax_lf_ok (ak_aload_n rfl dX2_add_32))) (ax_nd_ok (ax_lf_ok (ak_gi fF_X2_25 dX2_add_33)) (ax_lf_ok (ak_copy (by decide) (Or.inl ⟨rfl, rfl⟩) (t0 := 0) rfl wd_614 wd_616 wd_615 wd_112 dX2_add_36))))) (ax_nd_ok (ax_nd_ok (ax_lf_ok (ak_aload_n rfl dX2_add_39)) (ax_nd_ok (ax_lf_ok (ak_dup dX2_add_40)) (ax_lf_ok (ak_gi fF_X2_9 dX2_add_41)))) (ax_nd_ok (ax_nd_ok (ax_lf_ok (ak_iconst (by decide) dX2_add_44)) (ax_lf_ok (ak_iadd dX2_add_45))) (ax_nd_ok (ax_lf_ok (ak_pi fF_X2_9 fW_X2_9_a dX2_add_46)) (ax_lf_ok (ak_vret rfl dX2_add_49))))))
abbrev mX2_add (g : ax_G) (as : List Value) (h : ax_H) (Ret : Option Value → ax_H → Prop) : Prop := ax_M g 2 0 0 yX2_add cX2_add 2 none as h Ret
theorem dX2_copy_0 : decode cX2_copy 0 = .ok (.aload_n 1, 1) := by decide +kernel
theorem dX2_copy_1 : decode cX2_copy 1 = .ok (.getfield 28, 3) := by decide +kernel
theorem dX2_copy_4 : decode cX2_copy 4 = .ok (.arraylength, 1) := by decide +kernel
theorem dX2_copy_5 : decode cX2_copy 5 = .ok (.aload_n 0, 1) := by decide +kernel
theorem dX2_copy_6 : decode cX2_copy 6 = .ok (.getfield 28, 3) := by decide +kernel
theorem dX2_copy_9 : decode cX2_copy 9 = .ok (.arraylength, 1) := by decide +kernel
theorem dX2_copy_10 : decode cX2_copy 10 = .ok (.if_icmp .ne 29, 3) := by decide +kernel
theorem dX2_copy_13 : decode cX2_copy 13 = .ok (.aload_n 1, 1) := by decide +kernel
theorem dX2_copy_14 : decode cX2_copy 14 = .ok (.getfield 28, 3) := by decide +kernel
theorem dX2_copy_17 : decode cX2_copy 17 = .ok (.iconst 0, 1) := by decide +kernel
theorem dX2_copy_18 : decode cX2_copy 18 = .ok (.aload_n 0, 1) := by decide +kernel
theorem dX2_copy_19 : decode cX2_copy 19 = .ok (.getfield 28, 3) := by decide +kernel
theorem dX2_copy_22 : decode cX2_copy 22 = .ok (.iconst 0, 1) := by decide +kernel
theorem dX2_copy_23 : decode cX2_copy 23 = .ok (.aload_n 0, 1) := by decide +kernel
theorem dX2_copy_24 : decode cX2_copy 24 = .ok (.getfield 28, 3) := by decide +kernel
theorem dX2_copy_27 : decode cX2_copy 27 = .ok (.arraylength, 1) := by decide +kernel
theorem dX2_copy_28 : decode cX2_copy 28 = .ok (.invokestatic 39, 3) := by decide +kernel
theorem dX2_copy_31 : decode cX2_copy 31 = .ok (.aload_n 0, 1) := by decide +kernel
theorem dX2_copy_32 : decode cX2_copy 32 = .ok (.aload_n 1, 1) := by decide +kernel
theorem dX2_copy_33 : decode cX2_copy 33 = .ok (.getfield 9, 3) := by decide +kernel
theorem dX2_copy_36 : decode cX2_copy 36 = .ok (.putfield 9, 3) := by decide +kernel
theorem dX2_copy_39 : decode cX2_copy 39 = .ok (.return_, 1) := by decide +kernel
def tX2_copy (g : ax_G) : Nat → ax_O := ax_nd 18 (ax_nd 6 (ax_nd 1 (ax_nd 0 (ax_lf 0 (ao_al 1 1)) (ax_lf 1 (ao_gr 2 2))) (ax_nd 4 (ax_lf 4 (ao_alen 11)) (ax_nd 5 (ax_lf 5 (ao_al 0 1)) (ax_lf 6 (ao_gr 2 2))))) (ax_nd 13 (ax_nd 9 (ax_lf 9 (ao_alen 11)) (ax_nd 10 (ax_lf 10 (ao_icmp_ne 39)) (ax_lf 13 (ao_al 1 1)))) (ax_nd 14 (ax_lf 14 (ao_gr 2 2)) (ax_nd 17 (ax_lf 17 (ao_ic (0) 1)) (ax_lf 18 (ao_al 0 1)))))) (ax_nd 27 (ax_nd 22 (ax_nd 19 (ax_lf 19 (ao_gr 2 2)) (ax_lf 22 (ao_ic (0) 1))) (ax_nd 23 (ax_lf 23 (ao_al 0 1)) (ax_nd 24 (ax_lf 24 (ao_gr 2 2)) (ax_lf 27 (ao_alen 11))))) (ax_nd 32 (ax_nd 28 (ax_lf 28 (ao_copy 11)) (ax_nd 31 (ax_lf 31 (ao_al 0 1)) (ax_lf 32 (ao_al 1 1)))) (ax_nd 33 (ax_lf 33 (ao_gi 2 3)) (ax_nd 36 (ax_lf 36 (ao_pi 2 3)) (ax_lf 39 (ao_vret 0 0))))))
theorem oX2_copy (g : ax_G) : ∀ pc, ax_ok g cX2_copy 2 none RX2 "copy" 2 0 0 pc (tX2_copy g pc) := ax_nd_ok (ax_nd_ok (ax_nd_ok (ax_nd_ok (ax_lf_ok (ak_aload_n rfl dX2_copy_0)) (ax_lf_ok (ak_gr fF_X2_28 dX2_copy_1))) (ax_nd_ok (ax_lf_ok (ak_alen (by decide) (by decide) (t0 := 0) rfl dX2_copy_4)) (ax_nd_ok (ax_lf_ok (ak_aload_n rfl dX2_copy_5)) (ax_lf_ok (ak_gr fF_X2_28 dX2_copy_6))))) (ax_nd_ok (ax_nd_ok (ax_lf_ok (ak_alen (by decide) (by decide) (t0 := 0) rfl dX2_copy_9)) (ax_nd_ok (ax_lf_ok (ak_icmp_ne (by decide) dX2_copy_10)) (ax_lf_ok (ak_aload_n rfl dX2_copy_13)))) (ax_nd_ok (ax_lf_ok (ak_gr fF_X2_28 dX2_copy_14)) (ax_nd_ok (ax_lf_ok (ak_iconst (by decide) dX2_copy_17)) (ax_lf_ok (ak_aload_n rfl dX2_copy_18)))))) (ax_nd_ok (ax_nd_ok (ax_nd_ok (ax_lf_ok (ak_gr fF_X2_28 dX2_copy_19)) (ax_lf_ok (ak_iconst (by decide) dX2_copy_22))) (ax_nd_ok (ax_lf_ok (ak_aload_n rfl dX2_copy_23)) (ax_nd_ok (ax_lf_ok (ak_gr fF_X2_28 dX2_copy_24)) (ax_lf_ok (ak_alen (by decide) (by decide) (t0 := 0) rfl dX2_copy_27))))) (ax_nd_ok (ax_nd_ok (ax_lf_ok (ak_copy (by decide) (Or.inl ⟨rfl, rfl⟩) (t0 := 0) rfl wd_614 wd_616 wd_615 wd_112 dX2_copy_28)) (ax_nd_ok (ax_lf_ok (ak_aload_n rfl dX2_copy_31)) (ax_lf_ok (ak_aload_n rfl dX2_copy_32)))) (ax_nd_ok (ax_lf_ok (ak_gi fF_X2_9 dX2_copy_33)) (ax_nd_ok (ax_lf_ok (ak_pi fF_X2_9 fW_X2_9_a dX2_copy_36)) (ax_lf_ok (ak_vret rfl dX2_copy_39))))))
abbrev mX2_copy (g : ax_G) (as : List Value) (h : ax_H) (Ret : Option Value → ax_H → Prop) : Prop := ax_M g 2 0 0 yX2_copy cX2_copy 2 none as h Ret
end
