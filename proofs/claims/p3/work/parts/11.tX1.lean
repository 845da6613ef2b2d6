section
theorem dX1_init_0 : decode cX1_init 0 = .ok (.aload_n 0, 1) := by decide +kernel
theorem dX1_init_1 : decode cX1_init 1 = .ok (.invokespecial 1, 3) := by decide +kernel
theorem dX1_init_4 : decode cX1_init 4 = .ok (.aload_n 0, 1) := by decide +kernel
theorem dX1_init_5 : decode cX1_init 5 = .ok (.lconst 0, 1) := by decide +kernel
theorem dX1_init_6 : decode cX1_init 6 = .ok (.putfield 7, 3) := by decide +kernel
theorem dX1_init_9 : decode cX1_init 9 = .ok (.aload_n 0, 1) := by decide +kernel
theorem dX1_init_10 : decode cX1_init 10 = .ok (.lconst 1, 1) := by decide +kernel
theorem dX1_init_11 : decode cX1_init 11 = .ok (.putfield 13, 3) := by decide +kernel
theorem dX1_init_14 : decode cX1_init 14 = .ok (.return_, 1) := by decide +kernel
def tX1_init (g : ax_G) : Nat → ax_O := ax_nd 5 (ax_nd 1 (ax_nd 0 (ax_lf 0 (ao_al 0 1)) (ax_lf 1 ao_obj)) (ax_nd 4 (ax_lf 4 (ao_al 0 1)) (ax_lf 5 (ao_lc (0) 1)))) (ax_nd 9 (ax_nd 6 (ax_lf 6 (ao_pl 1 0)) (ax_lf 9 (ao_al 0 1))) (ax_nd 10 (ax_lf 10 (ao_lc (1) 1)) (ax_nd 11 (ax_lf 11 (ao_pl 1 1)) (ax_lf 14 (ao_vret 0 0)))))
theorem oX1_init (g : ax_G) : ∀ pc, ax_ok g cX1_init 1 none RX1 "<init>" 1 0 0 pc (tX1_init g pc) := ax_nd_ok (ax_nd_ok (ax_nd_ok (ax_lf_ok (ak_aload_n rfl dX1_init_0)) (ax_lf_ok (ak_obj (by decide) wd_411 wd_119 wd_120 dX1_init_1))) (ax_nd_ok (ax_lf_ok (ak_aload_n rfl dX1_init_4)) (ax_lf_ok (ak_lconst (by decide) dX1_init_5)))) (ax_nd_ok (ax_nd_ok (ax_lf_ok (ak_pl fF_X1_7 fW_X1_7_a dX1_init_6)) (ax_lf_ok (ak_aload_n rfl dX1_init_9))) (ax_nd_ok (ax_lf_ok (ak_lconst (by decide) dX1_init_10)) (ax_nd_ok (ax_lf_ok (ak_pl fF_X1_13 fW_X1_13_a dX1_init_11)) (ax_lf_ok (ak_vret rfl dX1_init_14)))))
abbrev mX1_init (g : ax_G) (as : List Value) (h : ax_H) (Ret : Option Value → ax_H → Prop) : Prop := ax_M g 1 0 0 yX1_init cX1_init 1 none as h Ret
theorem dX1_put_0 : decode cX1_put 0 = .ok (.aload_n 0, 1) := by decide +kernel
theorem dX1_put_1 : decode cX1_put 1 = .ok (.lload_n 1, 1) := by decide +kernel
theorem dX1_put_2 : decode cX1_put 2 = .ok (.lload_n 3, 1) := by decide +kernel
theorem dX1_put_3 : decode cX1_put 3 = .ok (.iconst 0, 1) := by decide +kernel
theorem dX1_put_4 : decode cX1_put 4 = .ok (.invokestatic 16, 3) := by decide +kernel
theorem dX1_put_7 : decode cX1_put 7 = .ok (.putfield 7, 3) := by decide +kernel
theorem dX1_put_10 : decode cX1_put 10 = .ok (.aload_n 0, 1) := by decide +kernel
theorem dX1_put_11 : decode cX1_put 11 = .ok (.lload_n 1, 1) := by decide +kernel
theorem dX1_put_12 : decode cX1_put 12 = .ok (.lload_n 3, 1) := by decide +kernel
theorem dX1_put_13 : decode cX1_put 13 = .ok (.iconst 1, 1) := by decide +kernel
theorem dX1_put_14 : decode cX1_put 14 = .ok (.invokestatic 16, 3) := by decide +kernel
theorem dX1_put_17 : decode cX1_put 17 = .ok (.putfield 13, 3) := by decide +kernel
theorem dX1_put_20 : decode cX1_put 20 = .ok (.return_, 1) := by decide +kernel
def tX1_put (g : ax_G) : Nat → ax_O := ax_nd 7 (ax_nd 2 (ax_nd 0 (ax_lf 0 (ao_al 0 1)) (ax_nd 1 (ax_lf 1 (ao_ll 1 1)) (ax_lf 2 (ao_ll 3 1)))) (ax_nd 3 (ax_lf 3 (ao_ic (0) 1)) (ax_nd 4 (ax_lf 4 (ao_inv g 2 99 2 yX1_side cX1_side 7 (some .long) 3 0 0 0 0)) (ax_lf 7 (ao_pl 1 0))))) (ax_nd 12 (ax_nd 10 (ax_lf 10 (ao_al 0 1)) (ax_nd 11 (ax_lf 11 (ao_ll 1 1)) (ax_lf 12 (ao_ll 3 1)))) (ax_nd 14 (ax_nd 13 (ax_lf 13 (ao_ic (1) 1)) (ax_lf 14 (ao_inv g 2 99 2 yX1_side cX1_side 7 (some .long) 3 0 0 0 0))) (ax_nd 17 (ax_lf 17 (ao_pl 1 1)) (ax_lf 20 (ao_vret 0 0)))))
theorem oX1_put (g : ax_G) : ∀ pc, ax_ok g cX1_put 5 none RX1 "put" 3 0 0 pc (tX1_put g pc) := ax_nd_ok (ax_nd_ok (ax_nd_ok (ax_lf_ok (ak_aload_n rfl dX1_put_0)) (ax_nd_ok (ax_lf_ok (ak_lload_n rfl dX1_put_1)) (ax_lf_ok (ak_lload_n rfl dX1_put_2)))) (ax_nd_ok (ax_lf_ok (ak_iconst (by decide) dX1_put_3)) (ax_nd_ok (ax_lf_ok (ak_invS (by decide) (by decide) wd_983 wd_730 wd_105 wd_731 ⟨by decide, by decide, by decide +kernel⟩ dX1_put_4)) (ax_lf_ok (ak_pl fF_X1_7 fW_X1_7_a dX1_put_7))))) (ax_nd_ok (ax_nd_ok (ax_lf_ok (ak_aload_n rfl dX1_put_10)) (ax_nd_ok (ax_lf_ok (ak_lload_n rfl dX1_put_11)) (ax_lf_ok (ak_lload_n rfl dX1_put_12)))) (ax_nd_ok (ax_nd_ok (ax_lf_ok (ak_iconst (by decide) dX1_put_13)) (ax_lf_ok (ak_invS (by decide) (by decide) wd_983 wd_730 wd_105 wd_731 ⟨by decide, by decide, by decide +kernel⟩ dX1_put_14))) (ax_nd_ok (ax_lf_ok (ak_pl fF_X1_13 fW_X1_13_a dX1_put_17)) (ax_lf_ok (ak_vret rfl dX1_put_20)))))
abbrev mX1_put (g : ax_G) (as : List Value) (h : ax_H) (Ret : Option Value → ax_H → Prop) : Prop := ax_M g 3 0 0 yX1_put cX1_put 5 none as h Ret
theorem dX1_add_0 : decode cX1_add 0 = .ok (.aload_n 0, 1) := by decide +kernel
theorem dX1_add_1 : decode cX1_add 1 = .ok (.getfield 13, 3) := by decide +kernel
theorem dX1_add_4 : decode cX1_add 4 = .ok (.lload_n 3, 1) := by decide +kernel
theorem dX1_add_5 : decode cX1_add 5 = .ok (.invokestatic 20, 3) := by decide +kernel
theorem dX1_add_8 : decode cX1_add 8 = .ok (.lstore 5, 2) := by decide +kernel
theorem dX1_add_10 : decode cX1_add 10 = .ok (.lload_n 3, 1) := by decide +kernel
theorem dX1_add_11 : decode cX1_add 11 = .ok (.lload 5, 2) := by decide +kernel
theorem dX1_add_13 : decode cX1_add 13 = .ok (.ldiv, 1) := by decide +kernel
theorem dX1_add_14 : decode cX1_add 14 = .ok (.lstore 7, 2) := by decide +kernel
theorem dX1_add_16 : decode cX1_add 16 = .ok (.aload_n 0, 1) := by decide +kernel
theorem dX1_add_17 : decode cX1_add 17 = .ok (.aload_n 0, 1) := by decide +kernel
theorem dX1_add_18 : decode cX1_add 18 = .ok (.getfield 7, 3) := by decide +kernel
theorem dX1_add_21 : decode cX1_add 21 = .ok (.lload 7, 2) := by decide +kernel
theorem dX1_add_23 : decode cX1_add 23 = .ok (.lmul, 1) := by decide +kernel
theorem dX1_add_24 : decode cX1_add 24 = .ok (.lload_n 1, 1) := by decide +kernel
theorem dX1_add_25 : decode cX1_add 25 = .ok (.aload_n 0, 1) := by decide +kernel
theorem dX1_add_26 : decode cX1_add 26 = .ok (.getfield 13, 3) := by decide +kernel
theorem dX1_add_29 : decode cX1_add 29 = .ok (.lload 5, 2) := by decide +kernel
theorem dX1_add_31 : decode cX1_add 31 = .ok (.ldiv, 1) := by decide +kernel
theorem dX1_add_32 : decode cX1_add 32 = .ok (.lmul, 1) := by decide +kernel
theorem dX1_add_33 : decode cX1_add 33 = .ok (.ladd, 1) := by decide +kernel
theorem dX1_add_34 : decode cX1_add 34 = .ok (.aload_n 0, 1) := by decide +kernel
theorem dX1_add_35 : decode cX1_add 35 = .ok (.getfield 13, 3) := by decide +kernel
theorem dX1_add_38 : decode cX1_add 38 = .ok (.lload 7, 2) := by decide +kernel
theorem dX1_add_40 : decode cX1_add 40 = .ok (.lmul, 1) := by decide +kernel
theorem dX1_add_41 : decode cX1_add 41 = .ok (.invokevirtual 24, 3) := by decide +kernel
theorem dX1_add_44 : decode cX1_add 44 = .ok (.return_, 1) := by decide +kernel
def tX1_add (g : ax_G) : Nat → ax_O := ax_nd 21 (ax_nd 10 (ax_nd 4 (ax_nd 0 (ax_lf 0 (ao_al 0 1)) (ax_nd 1 (ax_lf 1 (ao_gl 1 1)) (ax_lf 4 (ao_ll 3 1)))) (ax_nd 5 (ax_lf 5 (ao_inv g 1 99 2 yX1_divisor cX1_divisor 11 (some .long) 2 0 0 0 0)) (ax_nd 8 (ax_lf 8 (ao_ls 5 2)) (ax_lf 10 (ao_ll 3 1))))) (ax_nd 14 (ax_nd 11 (ax_lf 11 (ao_ll 5 2)) (ax_nd 13 (ax_lf 13 ao_ldiv) (ax_lf 14 (ao_ls 7 2)))) (ax_nd 17 (ax_nd 16 (ax_lf 16 (ao_al 0 1)) (ax_lf 17 (ao_al 0 1))) (ax_nd 18 (ax_lf 18 (ao_gl 1 0)) (ax_lf 21 (ao_ll 7 2)))))) (ax_nd 32 (ax_nd 25 (ax_nd 23 (ax_lf 23 ao_lmul) (ax_nd 24 (ax_lf 24 (ao_ll 1 1)) (ax_lf 25 (ao_al 0 1)))) (ax_nd 29 (ax_nd 26 (ax_lf 26 (ao_gl 1 1)) (ax_lf 29 (ao_ll 5 2))) (ax_nd 31 (ax_lf 31 ao_ldiv) (ax_lf 32 ao_lmul)))) (ax_nd 35 (ax_nd 33 (ax_lf 33 ao_ladd) (ax_nd 34 (ax_lf 34 (ao_al 0 1)) (ax_lf 35 (ao_gl 1 1)))) (ax_nd 40 (ax_nd 38 (ax_lf 38 (ao_ll 7 2)) (ax_lf 40 ao_lmul)) (ax_nd 41 (ax_lf 41 (ao_inv g 3 1 0 yX1_put cX1_put 5 none 3 0 0 0 0)) (ax_lf 44 (ao_vret 0 0))))))
theorem oX1_add (g : ax_G) : ∀ pc, ax_ok g cX1_add 9 none RX1 "add" 4 0 0 pc (tX1_add g pc) := ax_nd_ok (ax_nd_ok (ax_nd_ok (ax_nd_ok (ax_lf_ok (ak_aload_n rfl dX1_add_0)) (ax_nd_ok (ax_lf_ok (ak_gl fF_X1_13 dX1_add_1)) (ax_lf_ok (ak_lload_n rfl dX1_add_4)))) (ax_nd_ok (ax_lf_ok (ak_invS (by decide) (by decide) wd_732 wd_733 wd_105 wd_734 ⟨by decide, by decide, by decide +kernel⟩ dX1_add_5)) (ax_nd_ok (ax_lf_ok (ak_lstore (by decide) dX1_add_8)) (ax_lf_ok (ak_lload_n rfl dX1_add_10))))) (ax_nd_ok (ax_nd_ok (ax_lf_ok (ak_lload dX1_add_11)) (ax_nd_ok (ax_lf_ok (ak_ldiv dX1_add_13)) (ax_lf_ok (ak_lstore (by decide) dX1_add_14)))) (ax_nd_ok (ax_nd_ok (ax_lf_ok (ak_aload_n rfl dX1_add_16)) (ax_lf_ok (ak_aload_n rfl dX1_add_17))) (ax_nd_ok (ax_lf_ok (ak_gl fF_X1_7 dX1_add_18)) (ax_lf_ok (ak_lload dX1_add_21)))))) (ax_nd_ok (ax_nd_ok (ax_nd_ok (ax_lf_ok (ak_lmul dX1_add_23)) (ax_nd_ok (ax_lf_ok (ak_lload_n rfl dX1_add_24)) (ax_lf_ok (ak_aload_n rfl dX1_add_25)))) (ax_nd_ok (ax_nd_ok (ax_lf_ok (ak_gl fF_X1_13 dX1_add_26)) (ax_lf_ok (ak_lload dX1_add_29))) (ax_nd_ok (ax_lf_ok (ak_ldiv dX1_add_31)) (ax_lf_ok (ak_lmul dX1_add_32))))) (ax_nd_ok (ax_nd_ok (ax_lf_ok (ak_ladd dX1_add_33)) (ax_nd_ok (ax_lf_ok (ak_aload_n rfl dX1_add_34)) (ax_lf_ok (ak_gl fF_X1_13 dX1_add_35)))) (ax_nd_ok (ax_nd_ok (ax_lf_ok (ak_lload dX1_add_38)) (ax_lf_ok (ak_lmul dX1_add_40))) (ax_nd_ok (ax_lf_ok (ak_invV (by decide) (by decide) (by decide) rfl wd_998 wd_980 wd_981 wd_105 wd_982 ⟨by decide, by decide, by decide +kernel⟩ dX1_add_41)) (ax_lf_ok (ak_vret rfl dX1_add_44))))))
abbrev mX1_add (g : ax_G) (as : List Value) (h : ax_H) (Ret : Option Value → ax_H → Prop) : Prop := ax_M g 4 0 0 yX1_add cX1_add 9 none as h Ret
theorem dX1_sideOf_0 : decode cX1_sideOf 0 = .ok (.iload_n 1, 1) := by decide +kernel
theorem dX1_sideOf_1 : decode cX1_sideOf 1 = .ok (.ifCond .eq 10, 3) := by decide +kernel
theorem dX1_sideOf_4 : decode cX1_sideOf 4 = .ok (.aload_n 0, 1) := by decide +kernel
theorem dX1_sideOf_5 : decode cX1_sideOf 5 = .ok (.getfield 13, 3) := by decide +kernel
theorem dX1_sideOf_8 : decode cX1_sideOf 8 = .ok (.goto 7, 3) := by decide +kernel
theorem dX1_sideOf_11 : decode cX1_sideOf 11 = .ok (.aload_n 0, 1) := by decide +kernel
theorem dX1_sideOf_12 : decode cX1_sideOf 12 = .ok (.getfield 7, 3) := by decide +kernel
theorem dX1_sideOf_15 : decode cX1_sideOf 15 = .ok (.lreturn, 1) := by decide +kernel
def tX1_sideOf (g : ax_G) : Nat → ax_O := ax_nd 5 (ax_nd 1 (ax_nd 0 (ax_lf 0 (ao_il 1 1)) (ax_lf 1 (ao_if_eq 11))) (ax_nd 4 (ax_lf 4 (ao_al 0 1)) (ax_lf 5 (ao_gl 1 1)))) (ax_nd 11 (ax_nd 8 (ax_lf 8 (ao_goto 15)) (ax_lf 11 (ao_al 0 1))) (ax_nd 12 (ax_lf 12 (ao_gl 1 0)) (ax_lf 15 (ao_lret 0 0))))
theorem oX1_sideOf (g : ax_G) : ∀ pc, ax_ok g cX1_sideOf 2 (some .long) RX1 "sideOf" 1 0 0 pc (tX1_sideOf g pc) := ax_nd_ok (ax_nd_ok (ax_nd_ok (ax_lf_ok (ak_iload_n rfl dX1_sideOf_0)) (ax_lf_ok (ak_if_eq (by decide) dX1_sideOf_1))) (ax_nd_ok (ax_lf_ok (ak_aload_n rfl dX1_sideOf_4)) (ax_lf_ok (ak_gl fF_X1_13 dX1_sideOf_5)))) (ax_nd_ok (ax_nd_ok (ax_lf_ok (ak_goto (by decide) dX1_sideOf_8)) (ax_lf_ok (ak_aload_n rfl dX1_sideOf_11))) (ax_nd_ok (ax_lf_ok (ak_gl fF_X1_7 dX1_sideOf_12)) (ax_lf_ok (ak_lret rfl dX1_sideOf_15))))
abbrev mX1_sideOf (g : ax_G) (as : List Value) (h : ax_H) (Ret : Option Value → ax_H → Prop) : Prop := ax_M g 1 0 0 yX1_sideOf cX1_sideOf 2 (some .long) as h Ret
theorem dX1_side_0 : decode cX1_side 0 = .ok (.lload_n 0, 1) := by decide +kernel
theorem dX1_side_1 : decode cX1_side 1 = .ok (.lload_n 2, 1) := by decide +kernel
theorem dX1_side_2 : decode cX1_side 2 = .ok (.invokestatic 20, 3) := by decide +kernel
theorem dX1_side_5 : decode cX1_side 5 = .ok (.lstore 5, 2) := by decide +kernel
theorem dX1_side_7 : decode cX1_side 7 = .ok (.iload 4, 2) := by decide +kernel
theorem dX1_side_9 : decode cX1_side 9 = .ok (.ifCond .eq 7, 3) := by decide +kernel
theorem dX1_side_12 : decode cX1_side 12 = .ok (.lload_n 2, 1) := by decide +kernel
theorem dX1_side_13 : decode cX1_side 13 = .ok (.goto 4, 3) := by decide +kernel
theorem dX1_side_16 : decode cX1_side 16 = .ok (.lload_n 0, 1) := by decide +kernel
theorem dX1_side_17 : decode cX1_side 17 = .ok (.lload 5, 2) := by decide +kernel
theorem dX1_side_19 : decode cX1_side 19 = .ok (.ldiv, 1) := by decide +kernel
theorem dX1_side_20 : decode cX1_side 20 = .ok (.lreturn, 1) := by decide +kernel
def tX1_side (g : ax_G) : Nat → ax_O := ax_nd 9 (ax_nd 2 (ax_nd 0 (ax_lf 0 (ao_ll 0 1)) (ax_nd 1 (ax_lf 1 (ao_ll 2 1)) (ax_lf 2 (ao_inv g 1 99 2 yX1_divisor cX1_divisor 11 (some .long) 2 0 0 0 0)))) (ax_nd 5 (ax_lf 5 (ao_ls 5 2)) (ax_nd 7 (ax_lf 7 (ao_il 4 2)) (ax_lf 9 (ao_if_eq 16))))) (ax_nd 16 (ax_nd 12 (ax_lf 12 (ao_ll 2 1)) (ax_nd 13 (ax_lf 13 (ao_goto 17)) (ax_lf 16 (ao_ll 0 1)))) (ax_nd 17 (ax_lf 17 (ao_ll 5 2)) (ax_nd 19 (ax_lf 19 ao_ldiv) (ax_lf 20 (ao_lret 0 0)))))
theorem oX1_side (g : ax_G) : ∀ pc, ax_ok g cX1_side 7 (some .long) RX1 "side" 2 0 0 pc (tX1_side g pc) := ax_nd_ok (ax_nd_ok (ax_nd_ok (ax_lf_ok (ak_lload_n rfl dX1_side_0)) (ax_nd_ok (ax_lf_ok (ak_lload_n rfl dX1_side_1)) (ax_lf_ok (ak_invS (by decide) (by decide) wd_732 wd_733 wd_105 wd_734 ⟨by decide, by decide, by decide +kernel⟩ dX1_side_2)))) (ax_nd_ok (ax_lf_ok (ak_lstore (by decide) dX1_side_5)) (ax_nd_ok (ax_lf_ok (ak_iload dX1_side_7)) (ax_lf_ok (ak_if_eq (by decide) dX1_side_9))))) (ax_nd_ok (ax_nd_ok (ax_lf_ok (ak_lload_n rfl dX1_side_12)) (ax_nd_ok (ax_lf_ok (ak_goto (by decide) dX1_side_13)) (ax_lf_ok (ak_lload_n rfl dX1_side_16)))) (ax_nd_ok (ax_lf_ok (ak_lload dX1_side_17)) (ax_nd_ok (ax_lf_ok (ak_ldiv dX1_side_19)) (ax_lf_ok (ak_lret rfl dX1_side_20)))))
abbrev mX1_side (g : ax_G) (as : List Value) (h : ax_H) (Ret : Option Value → ax_H → Prop) : Prop := ax_M g 2 0 0 yX1_side cX1_side 7 (some .long) as h Ret
theorem dX1_divisor_0 : decode cX1_divisor 0 = .ok (.lload_n 0, 1) := by decide +kernel
theorem dX1_divisor_1 : decode cX1_divisor 1 = .ok (.invokestatic 28, 3) := by decide +kernel
theorem dX1_divisor_4 : decode cX1_divisor 4 = .ok (.lstore 4, 2) := by decide +kernel
theorem dX1_divisor_6 : decode cX1_divisor 6 = .ok (.lload_n 2, 1) := by decide +kernel
theorem dX1_divisor_7 : decode cX1_divisor 7 = .ok (.invokestatic 28, 3) := by decide +kernel
theorem dX1_divisor_10 : decode cX1_divisor 10 = .ok (.lstore 6, 2) := by decide +kernel
theorem dX1_divisor_12 : decode cX1_divisor 12 = .ok (.iconst 0, 1) := by decide +kernel
theorem dX1_divisor_13 : decode cX1_divisor 13 = .ok (.istore 8, 2) := by decide +kernel
theorem dX1_divisor_15 : decode cX1_divisor 15 = .ok (.iload 8, 2) := by decide +kernel
theorem dX1_divisor_17 : decode cX1_divisor 17 = .ok (.bipush 100, 2) := by decide +kernel
theorem dX1_divisor_19 : decode cX1_divisor 19 = .ok (.if_icmp .ge 31, 3) := by decide +kernel
theorem dX1_divisor_22 : decode cX1_divisor 22 = .ok (.lload 6, 2) := by decide +kernel
theorem dX1_divisor_24 : decode cX1_divisor 24 = .ok (.lconst 0, 1) := by decide +kernel
theorem dX1_divisor_25 : decode cX1_divisor 25 = .ok (.lcmp, 1) := by decide +kernel
theorem dX1_divisor_26 : decode cX1_divisor 26 = .ok (.ifCond .eq 24, 3) := by decide +kernel
theorem dX1_divisor_29 : decode cX1_divisor 29 = .ok (.lload 4, 2) := by decide +kernel
theorem dX1_divisor_31 : decode cX1_divisor 31 = .ok (.lload 6, 2) := by decide +kernel
theorem dX1_divisor_33 : decode cX1_divisor 33 = .ok (.lrem, 1) := by decide +kernel
theorem dX1_divisor_34 : decode cX1_divisor 34 = .ok (.lstore 9, 2) := by decide +kernel
theorem dX1_divisor_36 : decode cX1_divisor 36 = .ok (.lload 6, 2) := by decide +kernel
theorem dX1_divisor_38 : decode cX1_divisor 38 = .ok (.lstore 4, 2) := by decide +kernel
theorem dX1_divisor_40 : decode cX1_divisor 40 = .ok (.lload 9, 2) := by decide +kernel
theorem dX1_divisor_42 : decode cX1_divisor 42 = .ok (.lstore 6, 2) := by decide +kernel
theorem dX1_divisor_44 : decode cX1_divisor 44 = .ok (.iinc 8 1, 3) := by decide +kernel
theorem dX1_divisor_47 : decode cX1_divisor 47 = .ok (.goto (-32), 3) := by decide +kernel
theorem dX1_divisor_50 : decode cX1_divisor 50 = .ok (.lload 4, 2) := by decide +kernel
theorem dX1_divisor_52 : decode cX1_divisor 52 = .ok (.lconst 1, 1) := by decide +kernel
theorem dX1_divisor_53 : decode cX1_divisor 53 = .ok (.invokestatic 34, 3) := by decide +kernel
theorem dX1_divisor_56 : decode cX1_divisor 56 = .ok (.lreturn, 1) := by decide +kernel
def tX1_divisor (g : ax_G) : Nat → ax_O := ax_nd 25 (ax_nd 12 (ax_nd 4 (ax_nd 0 (ax_lf 0 (ao_ll 0 1)) (ax_nd 1 (ax_lf 1 ao_labs) (ax_lf 4 (ao_ls 4 2)))) (ax_nd 7 (ax_nd 6 (ax_lf 6 (ao_ll 2 1)) (ax_lf 7 ao_labs)) (ax_nd 10 (ax_lf 10 (ao_ls 6 2)) (ax_lf 12 (ao_ic (0) 1))))) (ax_nd 17 (ax_nd 13 (ax_lf 13 (ao_is 8 2)) (ax_nd 15 (ax_lf 15 (ao_il 8 2)) (ax_lf 17 (ao_ic (100) 2)))) (ax_nd 22 (ax_nd 19 (ax_lf 19 (ao_icmp_ge 50)) (ax_lf 22 (ao_ll 6 2))) (ax_nd 24 (ax_lf 24 (ao_lc (0) 1)) (ax_lf 25 ao_lcmp))))) (ax_nd 38 (ax_nd 31 (ax_nd 26 (ax_lf 26 (ao_if_eq 50)) (ax_nd 29 (ax_lf 29 (ao_ll 4 2)) (ax_lf 31 (ao_ll 6 2)))) (ax_nd 34 (ax_nd 33 (ax_lf 33 ao_lrem) (ax_lf 34 (ao_ls 9 2))) (ax_nd 36 (ax_lf 36 (ao_ll 6 2)) (ax_lf 38 (ao_ls 4 2))))) (ax_nd 47 (ax_nd 42 (ax_nd 40 (ax_lf 40 (ao_ll 9 2)) (ax_lf 42 (ao_ls 6 2))) (ax_nd 44 (ax_lf 44 (ao_iinc 8 (1))) (ax_lf 47 (ao_goto 15)))) (ax_nd 52 (ax_nd 50 (ax_lf 50 (ao_ll 4 2)) (ax_lf 52 (ao_lc (1) 1))) (ax_nd 53 (ax_lf 53 ao_lmax) (ax_lf 56 (ao_lret 0 0))))))
theorem oX1_divisor (g : ax_G) : ∀ pc, ax_ok g cX1_divisor 11 (some .long) RX1 "divisor" 1 0 0 pc (tX1_divisor g pc) := ax_nd_ok (ax_nd_ok (ax_nd_ok (ax_nd_ok (ax_lf_ok (ak_lload_n rfl dX1_divisor_0)) (ax_nd_ok (ax_lf_ok (ak_labs (by decide) wd_735 wd_736 wd_107 wd_737 dX1_divisor_1)) (ax_lf_ok (ak_lstore (by decide) dX1_divisor_4)))) (ax_nd_ok (ax_nd_ok (ax_lf_ok (ak_lload_n rfl dX1_divisor_6)) (ax_lf_ok (ak_labs (by decide) wd_735 wd_736 wd_107 wd_737 dX1_divisor_7))) (ax_nd_ok (ax_lf_ok (ak_lstore (by decide) dX1_divisor_10)) (ax_lf_ok (ak_iconst (by decide) dX1_divisor_12))))) (ax_nd_ok (ax_nd_ok (ax_lf_ok (ak_istore (by decide) dX1_divisor_13)) (ax_nd_ok (ax_lf_ok (ak_iload dX1_divisor_15)) (ax_lf_ok (ak_bipush (by decide) dX1_divisor_17)))) (ax_nd_ok (ax_nd_ok (ax_lf_ok (ak_icmp_ge (by decide) dX1_divisor_19)) (ax_lf_ok (ak_lload dX1_divisor_22))) (ax_nd_ok (ax_lf_ok (ak_lconst (by decide) dX1_divisor_24)) (ax_lf_ok (ak_lcmp dX1_divisor_25)))))) (ax_nd_ok (ax_nd_ok (ax_nd_ok (ax_lf_ok (ak_if_eq (by decide) dX1_divisor_26)) (ax_nd_ok (ax_lf_ok (ak_lload dX1_divisor_29)) (ax_lf_ok (ak_lload dX1_divisor_31)))) (ax_nd_ok (ax_nd_ok (ax_lf_ok (ak_lrem dX1_divisor_33)) (ax_lf_ok (ak_lstore (by decide) dX1_divisor_34))) (ax_nd_ok (ax_lf_ok (ak_lload dX1_divisor_36)) (ax_lf_ok (ak_lstore (by decide) dX1_divisor_38))))) (ax_nd_ok (ax_nd_ok (ax_nd_ok (ax_lf_ok (ak_lload dX1_divisor_40)) (ax_lf_ok (ak_lstore (by decide) dX1_divisor_42))) (ax_nd_ok (ax_lf_ok (ak_iinc (by decide) (by decide) dX1_divisor_44)) (ax_lf_ok (ak_goto (by decide) dX1_divisor_47)))) (ax_nd_ok (ax_nd_ok (ax_lf_ok (ak_lload dX1_divisor_50)) (ax_lf_ok (ak_lconst (by decide) dX1_divisor_52))) (ax_nd_ok (ax_lf_ok (ak_lmax (by decide) wd_738 wd_739 wd_107 wd_740 dX1_divisor_53)) (ax_lf_ok (ak_lret rfl dX1_divisor_56))))))
abbrev mX1_divisor (g : ax_G) (as : List Value) (h : ax_H) (Ret : Option Value → ax_H → Prop) : Prop := ax_M g 1 0 0 yX1_divisor cX1_divisor 11 (some .long) as h Ret
end
