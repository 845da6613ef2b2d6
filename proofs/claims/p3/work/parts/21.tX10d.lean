section
theorem dX10_mean_0 : decode cX10_mean 0 = .ok (.aload_n 0, 1) := by decide +kernel
theorem dX10_mean_1 : decode cX10_mean 1 = .ok (.iconst 0, 1) := by decide +kernel
theorem dX10_mean_2 : decode cX10_mean 2 = .ok (.putfield 88, 3) := by decide +kernel
theorem dX10_mean_5 : decode cX10_mean 5 = .ok (.aload_n 0, 1) := by decide +kernel
theorem dX10_mean_6 : decode cX10_mean 6 = .ok (.iload_n 1, 1) := by decide +kernel
theorem dX10_mean_7 : decode cX10_mean 7 = .ok (.iload_n 2, 1) := by decide +kernel
theorem dX10_mean_8 : decode cX10_mean 8 = .ok (.invokevirtual 294, 3) := by decide +kernel
theorem dX10_mean_11 : decode cX10_mean 11 = .ok (.ifCond .eq 21, 3) := by decide +kernel
theorem dX10_mean_14 : decode cX10_mean 14 = .ok (.aload_n 0, 1) := by decide +kernel
theorem dX10_mean_15 : decode cX10_mean 15 = .ok (.iload_n 2, 1) := by decide +kernel
theorem dX10_mean_16 : decode cX10_mean 16 = .ok (.invokevirtual 345, 3) := by decide +kernel
theorem dX10_mean_19 : decode cX10_mean 19 = .ok (.aload_n 0, 1) := by decide +kernel
theorem dX10_mean_20 : decode cX10_mean 20 = .ok (.getfield 279, 3) := by decide +kernel
theorem dX10_mean_23 : decode cX10_mean 23 = .ok (.i2l, 1) := by decide +kernel
theorem dX10_mean_24 : decode cX10_mean 24 = .ok (.iload_n 3, 1) := by decide +kernel
theorem dX10_mean_25 : decode cX10_mean 25 = .ok (.invokestatic 308, 3) := by decide +kernel
theorem dX10_mean_28 : decode cX10_mean 28 = .ok (.l2i, 1) := by decide +kernel
theorem dX10_mean_29 : decode cX10_mean 29 = .ok (.goto 6, 3) := by decide +kernel
theorem dX10_mean_32 : decode cX10_mean 32 = .ok (.ldc_w 300, 3) := by decide +kernel
theorem dX10_mean_35 : decode cX10_mean 35 = .ok (.ireturn, 1) := by decide +kernel
def tX10_mean (g : ax_G) : Nat → ax_O := ax_nd 15 (ax_nd 6 (ax_nd 1 (ax_nd 0 (ax_lf 0 (ao_al 0 1)) (ax_lf 1 (ao_ic (0) 1))) (ax_nd 2 (ax_lf 2 (ao_pi 10 0)) (ax_nd 5 (ax_lf 5 (ao_al 0 1)) (ax_lf 6 (ao_il 1 1))))) (ax_nd 8 (ax_nd 7 (ax_lf 7 (ao_il 2 1)) (ax_lf 8 (ao_inv g 7 10 1 yX10_handOne cX10_handOne 3 (some .boolean) 3 0 0 0 0))) (ax_nd 11 (ax_lf 11 (ao_if_eq 32)) (ax_nd 14 (ax_lf 14 (ao_al 0 1)) (ax_lf 15 (ao_il 2 1)))))) (ax_nd 24 (ax_nd 19 (ax_nd 16 (ax_lf 16 (ao_inv g 1 10 2 yX10_meanOf cX10_meanOf 5 (some .long) 2 0 0 0 0)) (ax_lf 19 (ao_al 0 1))) (ax_nd 20 (ax_lf 20 (ao_gi 10 32)) (ax_nd 23 (ax_lf 23 ao_i2l) (ax_lf 24 (ao_il 3 1))))) (ax_nd 28 (ax_nd 25 (ax_lf 25 (ao_inv g 2 99 2 yX10_part cX10_part 7 (some .long) 3 0 0 0 0)) (ax_lf 28 ao_l2i)) (ax_nd 29 (ax_lf 29 (ao_goto 35)) (ax_nd 32 (ax_lf 32 (ao_ic (-1000000) 3)) (ax_lf 35 (ao_iret 0 0))))))
theorem oX10_mean (g : ax_G) : ∀ pc, ax_ok g cX10_mean 4 (some .int) RX10 "mean" 8 0 0 pc (tX10_mean g pc) := ax_nd_ok (ax_nd_ok (ax_nd_ok (ax_nd_ok (ax_lf_ok (ak_aload_n rfl dX10_mean_0)) (ax_lf_ok (ak_iconst (by decide) dX10_mean_1))) (ax_nd_ok (ax_lf_ok (ak_pi fF_X10_88 fW_X10_88_a dX10_mean_2)) (ax_nd_ok (ax_lf_ok (ak_aload_n rfl dX10_mean_5)) (ax_lf_ok (ak_iload_n rfl dX10_mean_6))))) (ax_nd_ok (ax_nd_ok (ax_lf_ok (ak_iload_n rfl dX10_mean_7)) (ax_lf_ok (ak_invV (by decide) (by decide) (by decide) rfl wd_1391 wd_1393 wd_51 wd_106 wd_1394 ⟨by decide, by decide, by decide +kernel⟩ dX10_mean_8))) (ax_nd_ok (ax_lf_ok (ak_if_eq (by decide) dX10_mean_11)) (ax_nd_ok (ax_lf_ok (ak_aload_n rfl dX10_mean_14)) (ax_lf_ok (ak_iload_n rfl dX10_mean_15)))))) (ax_nd_ok (ax_nd_ok (ax_nd_ok (ax_lf_ok (ak_invV (by decide) (by decide) (by decide) rfl wd_1468 wd_1470 wd_61 wd_106 wd_1471 ⟨by decide, by decide, by decide +kernel⟩ dX10_mean_16)) (ax_lf_ok (ak_aload_n rfl dX10_mean_19))) (ax_nd_ok (ax_lf_ok (ak_gi fF_X10_279 dX10_mean_20)) (ax_nd_ok (ax_lf_ok (ak_i2l dX10_mean_23)) (ax_lf_ok (ak_iload_n rfl dX10_mean_24))))) (ax_nd_ok (ax_nd_ok (ax_lf_ok (ak_invS (by decide) (by decide) wd_1416 wd_1417 wd_106 wd_1418 ⟨by decide, by decide, by decide +kernel⟩ dX10_mean_25)) (ax_lf_ok (ak_l2i dX10_mean_28))) (ax_nd_ok (ax_lf_ok (ak_goto (by decide) dX10_mean_29)) (ax_nd_ok (ax_lf_ok (ak_ldcw wd_1407 dX10_mean_32)) (ax_lf_ok (ak_iret rfl dX10_mean_35))))))
abbrev mX10_mean (g : ax_G) (as : List Value) (h : ax_H) (Ret : Option Value → ax_H → Prop) : Prop := ax_M g 8 0 0 yX10_mean cX10_mean 4 (some .int) as h Ret
theorem dX10_gainOf_0 : decode cX10_gainOf 0 = .ok (.aload_n 0, 1) := by decide +kernel
theorem dX10_gainOf_1 : decode cX10_gainOf 1 = .ok (.getfield 279, 3) := by decide +kernel
theorem dX10_gainOf_4 : decode cX10_gainOf 4 = .ok (.i2l, 1) := by decide +kernel
theorem dX10_gainOf_5 : decode cX10_gainOf 5 = .ok (.aload_n 0, 1) := by decide +kernel
theorem dX10_gainOf_6 : decode cX10_gainOf 6 = .ok (.getfield 53, 3) := by decide +kernel
theorem dX10_gainOf_9 : decode cX10_gainOf 9 = .ok (.bipush 12, 2) := by decide +kernel
theorem dX10_gainOf_11 : decode cX10_gainOf 11 = .ok (.iload_n 1, 1) := by decide +kernel
theorem dX10_gainOf_12 : decode cX10_gainOf 12 = .ok (.imul, 1) := by decide +kernel
theorem dX10_gainOf_13 : decode cX10_gainOf 13 = .ok (.iload_n 2, 1) := by decide +kernel
theorem dX10_gainOf_14 : decode cX10_gainOf 14 = .ok (.iadd, 1) := by decide +kernel
theorem dX10_gainOf_15 : decode cX10_gainOf 15 = .ok (.iaload, 1) := by decide +kernel
theorem dX10_gainOf_16 : decode cX10_gainOf 16 = .ok (.i2l, 1) := by decide +kernel
theorem dX10_gainOf_17 : decode cX10_gainOf 17 = .ok (.lmul, 1) := by decide +kernel
theorem dX10_gainOf_18 : decode cX10_gainOf 18 = .ok (.aload_n 0, 1) := by decide +kernel
theorem dX10_gainOf_19 : decode cX10_gainOf 19 = .ok (.iload_n 1, 1) := by decide +kernel
theorem dX10_gainOf_20 : decode cX10_gainOf 20 = .ok (.invokevirtual 345, 3) := by decide +kernel
theorem dX10_gainOf_23 : decode cX10_gainOf 23 = .ok (.lsub, 1) := by decide +kernel
theorem dX10_gainOf_24 : decode cX10_gainOf 24 = .ok (.lreturn, 1) := by decide +kernel
def tX10_gainOf (g : ax_G) : Nat → ax_O := ax_nd 13 (ax_nd 5 (ax_nd 1 (ax_nd 0 (ax_lf 0 (ao_al 0 1)) (ax_lf 1 (ao_gi 10 32))) (ax_nd 4 (ax_lf 4 ao_i2l) (ax_lf 5 (ao_al 0 1)))) (ax_nd 9 (ax_nd 6 (ax_lf 6 (ao_gr 10 30)) (ax_lf 9 (ao_ic (12) 2))) (ax_nd 11 (ax_lf 11 (ao_il 1 1)) (ax_nd 12 (ax_lf 12 ao_imul) (ax_lf 13 (ao_il 2 1)))))) (ax_nd 17 (ax_nd 15 (ax_nd 14 (ax_lf 14 ao_iadd) (ax_lf 15 ao_iald)) (ax_nd 16 (ax_lf 16 ao_i2l) (ax_lf 17 ao_lmul))) (ax_nd 19 (ax_nd 18 (ax_lf 18 (ao_al 0 1)) (ax_lf 19 (ao_il 1 1))) (ax_nd 20 (ax_lf 20 (ao_inv g 1 10 2 yX10_meanOf cX10_meanOf 5 (some .long) 2 0 0 0 0)) (ax_nd 23 (ax_lf 23 ao_lsub) (ax_lf 24 (ao_lret 0 0))))))
theorem oX10_gainOf (g : ax_G) : ∀ pc, ax_ok g cX10_gainOf 3 (some .long) RX10 "gainOf" 2 0 0 pc (tX10_gainOf g pc) := ax_nd_ok (ax_nd_ok (ax_nd_ok (ax_nd_ok (ax_lf_ok (ak_aload_n rfl dX10_gainOf_0)) (ax_lf_ok (ak_gi fF_X10_279 dX10_gainOf_1))) (ax_nd_ok (ax_lf_ok (ak_i2l dX10_gainOf_4)) (ax_lf_ok (ak_aload_n rfl dX10_gainOf_5)))) (ax_nd_ok (ax_nd_ok (ax_lf_ok (ak_gr fF_X10_53 dX10_gainOf_6)) (ax_lf_ok (ak_bipush (by decide) dX10_gainOf_9))) (ax_nd_ok (ax_lf_ok (ak_iload_n rfl dX10_gainOf_11)) (ax_nd_ok (ax_lf_ok (ak_imul dX10_gainOf_12)) (ax_lf_ok (ak_iload_n rfl dX10_gainOf_13)))))) (ax_nd_ok (ax_nd_ok (ax_nd_ok (ax_lf_ok (ak_iadd dX10_gainOf_14)) (ax_lf_ok (ak_iald dX10_gainOf_15))) (ax_nd_ok (ax_lf_ok (ak_i2l dX10_gainOf_16)) (ax_lf_ok (ak_lmul dX10_gainOf_17)))) (ax_nd_ok (ax_nd_ok (ax_lf_ok (ak_aload_n rfl dX10_gainOf_18)) (ax_lf_ok (ak_iload_n rfl dX10_gainOf_19))) (ax_nd_ok (ax_lf_ok (ak_invV (by decide) (by decide) (by decide) rfl wd_1468 wd_1470 wd_61 wd_106 wd_1471 ⟨by decide, by decide, by decide +kernel⟩ dX10_gainOf_20)) (ax_nd_ok (ax_lf_ok (ak_lsub dX10_gainOf_23)) (ax_lf_ok (ak_lret rfl dX10_gainOf_24))))))
abbrev mX10_gainOf (g : ax_G) (as : List Value) (h : ax_H) (Ret : Option Value → ax_H → Prop) : Prop := ax_M g 2 0 0 yX10_gainOf cX10_gainOf 3 (some .long) as h Ret
theorem dX10_gain_0 : decode cX10_gain 0 = .ok (.aload_n 0, 1) := by decide +kernel
theorem dX10_gain_1 : decode cX10_gain 1 = .ok (.iconst 0, 1) := by decide +kernel
theorem dX10_gain_2 : decode cX10_gain 2 = .ok (.putfield 88, 3) := by decide +kernel
theorem dX10_gain_5 : decode cX10_gain 5 = .ok (.aload_n 0, 1) := by decide +kernel
theorem dX10_gain_6 : decode cX10_gain 6 = .ok (.iload_n 1, 1) := by decide +kernel
theorem dX10_gain_7 : decode cX10_gain 7 = .ok (.iload_n 2, 1) := by decide +kernel
theorem dX10_gain_8 : decode cX10_gain 8 = .ok (.invokevirtual 294, 3) := by decide +kernel
theorem dX10_gain_11 : decode cX10_gain 11 = .ok (.ifCond .eq 31, 3) := by decide +kernel
theorem dX10_gain_14 : decode cX10_gain 14 = .ok (.aload_n 0, 1) := by decide +kernel
theorem dX10_gain_15 : decode cX10_gain 15 = .ok (.iload_n 3, 1) := by decide +kernel
theorem dX10_gain_16 : decode cX10_gain 16 = .ok (.invokevirtual 297, 3) := by decide +kernel
theorem dX10_gain_19 : decode cX10_gain 19 = .ok (.ifCond .eq 23, 3) := by decide +kernel
theorem dX10_gain_22 : decode cX10_gain 22 = .ok (.aload_n 0, 1) := by decide +kernel
theorem dX10_gain_23 : decode cX10_gain 23 = .ok (.iload_n 2, 1) := by decide +kernel
theorem dX10_gain_24 : decode cX10_gain 24 = .ok (.iload_n 3, 1) := by decide +kernel
theorem dX10_gain_25 : decode cX10_gain 25 = .ok (.invokevirtual 349, 3) := by decide +kernel
theorem dX10_gain_28 : decode cX10_gain 28 = .ok (.aload_n 0, 1) := by decide +kernel
theorem dX10_gain_29 : decode cX10_gain 29 = .ok (.getfield 279, 3) := by decide +kernel
theorem dX10_gain_32 : decode cX10_gain 32 = .ok (.i2l, 1) := by decide +kernel
theorem dX10_gain_33 : decode cX10_gain 33 = .ok (.iload 4, 2) := by decide +kernel
theorem dX10_gain_35 : decode cX10_gain 35 = .ok (.invokestatic 308, 3) := by decide +kernel
theorem dX10_gain_38 : decode cX10_gain 38 = .ok (.l2i, 1) := by decide +kernel
theorem dX10_gain_39 : decode cX10_gain 39 = .ok (.goto 6, 3) := by decide +kernel
theorem dX10_gain_42 : decode cX10_gain 42 = .ok (.ldc_w 300, 3) := by decide +kernel
theorem dX10_gain_45 : decode cX10_gain 45 = .ok (.ireturn, 1) := by decide +kernel
def tX10_gain (g : ax_G) : Nat → ax_O := ax_nd 19 (ax_nd 7 (ax_nd 2 (ax_nd 0 (ax_lf 0 (ao_al 0 1)) (ax_nd 1 (ax_lf 1 (ao_ic (0) 1)) (ax_lf 2 (ao_pi 10 0)))) (ax_nd 5 (ax_lf 5 (ao_al 0 1)) (ax_nd 6 (ax_lf 6 (ao_il 1 1)) (ax_lf 7 (ao_il 2 1))))) (ax_nd 14 (ax_nd 8 (ax_lf 8 (ao_inv g 7 10 1 yX10_handOne cX10_handOne 3 (some .boolean) 3 0 0 0 0)) (ax_nd 11 (ax_lf 11 (ao_if_eq 42)) (ax_lf 14 (ao_al 0 1)))) (ax_nd 15 (ax_lf 15 (ao_il 3 1)) (ax_nd 16 (ax_lf 16 (ao_inv g 2 10 1 yX10_isHour cX10_isHour 2 (some .boolean) 2 0 0 0 0)) (ax_lf 19 (ao_if_eq 42)))))) (ax_nd 29 (ax_nd 24 (ax_nd 22 (ax_lf 22 (ao_al 0 1)) (ax_nd 23 (ax_lf 23 (ao_il 2 1)) (ax_lf 24 (ao_il 3 1)))) (ax_nd 25 (ax_lf 25 (ao_inv g 2 10 2 yX10_gainOf cX10_gainOf 3 (some .long) 3 0 0 0 0)) (ax_nd 28 (ax_lf 28 (ao_al 0 1)) (ax_lf 29 (ao_gi 10 32))))) (ax_nd 35 (ax_nd 32 (ax_lf 32 ao_i2l) (ax_nd 33 (ax_lf 33 (ao_il 4 2)) (ax_lf 35 (ao_inv g 2 99 2 yX10_part cX10_part 7 (some .long) 3 0 0 0 0)))) (ax_nd 39 (ax_nd 38 (ax_lf 38 ao_l2i) (ax_lf 39 (ao_goto 45))) (ax_nd 42 (ax_lf 42 (ao_ic (-1000000) 3)) (ax_lf 45 (ao_iret 0 0))))))
theorem oX10_gain (g : ax_G) : ∀ pc, ax_ok g cX10_gain 5 (some .int) RX10 "gain" 8 0 0 pc (tX10_gain g pc) := ax_nd_ok (ax_nd_ok (ax_nd_ok (ax_nd_ok (ax_lf_ok (ak_aload_n rfl dX10_gain_0)) (ax_nd_ok (ax_lf_ok (ak_iconst (by decide) dX10_gain_1)) (ax_lf_ok (ak_pi fF_X10_88 fW_X10_88_a dX10_gain_2)))) (ax_nd_ok (ax_lf_ok (ak_aload_n rfl dX10_gain_5)) (ax_nd_ok (ax_lf_ok (ak_iload_n rfl dX10_gain_6)) (ax_lf_ok (ak_iload_n rfl dX10_gain_7))))) (ax_nd_ok (ax_nd_ok (ax_lf_ok (ak_invV (by decide) (by decide) (by decide) rfl wd_1391 wd_1393 wd_51 wd_106 wd_1394 ⟨by decide, by decide, by decide +kernel⟩ dX10_gain_8)) (ax_nd_ok (ax_lf_ok (ak_if_eq (by decide) dX10_gain_11)) (ax_lf_ok (ak_aload_n rfl dX10_gain_14)))) (ax_nd_ok (ax_lf_ok (ak_iload_n rfl dX10_gain_15)) (ax_nd_ok (ax_lf_ok (ak_invV (by decide) (by decide) (by decide) rfl wd_1403 wd_1405 wd_53 wd_106 wd_1406 ⟨by decide, by decide, by decide +kernel⟩ dX10_gain_16)) (ax_lf_ok (ak_if_eq (by decide) dX10_gain_19)))))) (ax_nd_ok (ax_nd_ok (ax_nd_ok (ax_lf_ok (ak_aload_n rfl dX10_gain_22)) (ax_nd_ok (ax_lf_ok (ak_iload_n rfl dX10_gain_23)) (ax_lf_ok (ak_iload_n rfl dX10_gain_24)))) (ax_nd_ok (ax_lf_ok (ak_invV (by decide) (by decide) (by decide) rfl wd_1476 wd_1478 wd_62 wd_106 wd_1479 ⟨by decide, by decide, by decide +kernel⟩ dX10_gain_25)) (ax_nd_ok (ax_lf_ok (ak_aload_n rfl dX10_gain_28)) (ax_lf_ok (ak_gi fF_X10_279 dX10_gain_29))))) (ax_nd_ok (ax_nd_ok (ax_lf_ok (ak_i2l dX10_gain_32)) (ax_nd_ok (ax_lf_ok (ak_iload dX10_gain_33)) (ax_lf_ok (ak_invS (by decide) (by decide) wd_1416 wd_1417 wd_106 wd_1418 ⟨by decide, by decide, by decide +kernel⟩ dX10_gain_35)))) (ax_nd_ok (ax_nd_ok (ax_lf_ok (ak_l2i dX10_gain_38)) (ax_lf_ok (ak_goto (by decide) dX10_gain_39))) (ax_nd_ok (ax_lf_ok (ak_ldcw wd_1407 dX10_gain_42)) (ax_lf_ok (ak_iret rfl dX10_gain_45))))))
abbrev mX10_gain (g : ax_G) (as : List Value) (h : ax_H) (Ret : Option Value → ax_H → Prop) : Prop := ax_M g 8 0 0 yX10_gain cX10_gain 5 (some .int) as h Ret
theorem dX10_wishOf_0 : decode cX10_wishOf 0 = .ok (.iconst 0, 1) := by decide +kernel
theorem dX10_wishOf_1 : decode cX10_wishOf 1 = .ok (.istore_n 2, 1) := by decide +kernel
theorem dX10_wishOf_2 : decode cX10_wishOf 2 = .ok (.iconst 1, 1) := by decide +kernel
theorem dX10_wishOf_3 : decode cX10_wishOf 3 = .ok (.istore_n 3, 1) := by decide +kernel
theorem dX10_wishOf_4 : decode cX10_wishOf 4 = .ok (.iload_n 3, 1) := by decide +kernel
theorem dX10_wishOf_5 : decode cX10_wishOf 5 = .ok (.aload_n 0, 1) := by decide +kernel
theorem dX10_wishOf_6 : decode cX10_wishOf 6 = .ok (.getfield 263, 3) := by decide +kernel
theorem dX10_wishOf_9 : decode cX10_wishOf 9 = .ok (.if_icmp .ge 40, 3) := by decide +kernel
theorem dX10_wishOf_12 : decode cX10_wishOf 12 = .ok (.aload_n 0, 1) := by decide +kernel
theorem dX10_wishOf_13 : decode cX10_wishOf 13 = .ok (.getfield 53, 3) := by decide +kernel
theorem dX10_wishOf_16 : decode cX10_wishOf 16 = .ok (.bipush 12, 2) := by decide +kernel
theorem dX10_wishOf_18 : decode cX10_wishOf 18 = .ok (.iload_n 1, 1) := by decide +kernel
theorem dX10_wishOf_19 : decode cX10_wishOf 19 = .ok (.imul, 1) := by decide +kernel
theorem dX10_wishOf_20 : decode cX10_wishOf 20 = .ok (.iload_n 3, 1) := by decide +kernel
theorem dX10_wishOf_21 : decode cX10_wishOf 21 = .ok (.iadd, 1) := by decide +kernel
theorem dX10_wishOf_22 : decode cX10_wishOf 22 = .ok (.iaload, 1) := by decide +kernel
theorem dX10_wishOf_23 : decode cX10_wishOf 23 = .ok (.aload_n 0, 1) := by decide +kernel
theorem dX10_wishOf_24 : decode cX10_wishOf 24 = .ok (.getfield 53, 3) := by decide +kernel
theorem dX10_wishOf_27 : decode cX10_wishOf 27 = .ok (.bipush 12, 2) := by decide +kernel
theorem dX10_wishOf_29 : decode cX10_wishOf 29 = .ok (.iload_n 1, 1) := by decide +kernel
theorem dX10_wishOf_30 : decode cX10_wishOf 30 = .ok (.imul, 1) := by decide +kernel
theorem dX10_wishOf_31 : decode cX10_wishOf 31 = .ok (.iload_n 2, 1) := by decide +kernel
theorem dX10_wishOf_32 : decode cX10_wishOf 32 = .ok (.iadd, 1) := by decide +kernel
theorem dX10_wishOf_33 : decode cX10_wishOf 33 = .ok (.iaload, 1) := by decide +kernel
theorem dX10_wishOf_34 : decode cX10_wishOf 34 = .ok (.if_icmp .le 7, 3) := by decide +kernel
theorem dX10_wishOf_37 : decode cX10_wishOf 37 = .ok (.iload_n 3, 1) := by decide +kernel
theorem dX10_wishOf_38 : decode cX10_wishOf 38 = .ok (.goto 4, 3) := by decide +kernel
theorem dX10_wishOf_41 : decode cX10_wishOf 41 = .ok (.iload_n 2, 1) := by decide +kernel
theorem dX10_wishOf_42 : decode cX10_wishOf 42 = .ok (.istore_n 2, 1) := by decide +kernel
theorem dX10_wishOf_43 : decode cX10_wishOf 43 = .ok (.iinc 3 1, 3) := by decide +kernel
theorem dX10_wishOf_46 : decode cX10_wishOf 46 = .ok (.goto (-42), 3) := by decide +kernel
theorem dX10_wishOf_49 : decode cX10_wishOf 49 = .ok (.iload_n 2, 1) := by decide +kernel
theorem dX10_wishOf_50 : decode cX10_wishOf 50 = .ok (.ireturn, 1) := by decide +kernel
def tX10_wishOf (g : ax_G) : Nat → ax_O := ax_nd 22 (ax_nd 9 (ax_nd 3 (ax_nd 1 (ax_nd 0 (ax_lf 0 (ao_ic (0) 1)) (ax_lf 1 (ao_is 2 1))) (ax_nd 2 (ax_lf 2 (ao_ic (1) 1)) (ax_lf 3 (ao_is 3 1)))) (ax_nd 5 (ax_nd 4 (ax_lf 4 (ao_il 3 1)) (ax_lf 5 (ao_al 0 1))) (ax_nd 6 (ax_lf 6 (ao_gi 10 26)) (ax_lf 9 (ao_icmp_ge 49))))) (ax_nd 18 (ax_nd 13 (ax_nd 12 (ax_lf 12 (ao_al 0 1)) (ax_lf 13 (ao_gr 10 30))) (ax_nd 16 (ax_lf 16 (ao_ic (12) 2)) (ax_lf 18 (ao_il 1 1)))) (ax_nd 20 (ax_nd 19 (ax_lf 19 ao_imul) (ax_lf 20 (ao_il 3 1))) (ax_nd 21 (ax_lf 21 ao_iadd) (ax_lf 22 ao_iald))))) (ax_nd 33 (ax_nd 29 (ax_nd 24 (ax_nd 23 (ax_lf 23 (ao_al 0 1)) (ax_lf 24 (ao_gr 10 30))) (ax_nd 27 (ax_lf 27 (ao_ic (12) 2)) (ax_lf 29 (ao_il 1 1)))) (ax_nd 31 (ax_nd 30 (ax_lf 30 ao_imul) (ax_lf 31 (ao_il 2 1))) (ax_nd 32 (ax_lf 32 ao_iadd) (ax_lf 33 ao_iald)))) (ax_nd 41 (ax_nd 37 (ax_nd 34 (ax_lf 34 (ao_icmp_le 41)) (ax_lf 37 (ao_il 3 1))) (ax_nd 38 (ax_lf 38 (ao_goto 42)) (ax_lf 41 (ao_il 2 1)))) (ax_nd 43 (ax_nd 42 (ax_lf 42 (ao_is 2 1)) (ax_lf 43 (ao_iinc 3 (1)))) (ax_nd 46 (ax_lf 46 (ao_goto 4)) (ax_nd 49 (ax_lf 49 (ao_il 2 1)) (ax_lf 50 (ao_iret 0 0)))))))
theorem oX10_wishOf (g : ax_G) : ∀ pc, ax_ok g cX10_wishOf 4 (some .int) RX10 "wishOf" 1 0 0 pc (tX10_wishOf g pc) := ax_nd_ok (ax_nd_ok (ax_nd_ok (ax_nd_ok (ax_nd_ok (ax_lf_ok (ak_iconst (by decide) dX10_wishOf_0)) (ax_lf_ok (ak_istore_n rfl (by decide) dX10_wishOf_1))) (ax_nd_ok (ax_lf_ok (ak_iconst (by decide) dX10_wishOf_2)) (ax_lf_ok (ak_istore_n rfl (by decide) dX10_wishOf_3)))) (ax_nd_ok (ax_nd_ok (ax_lf_ok (ak_iload_n rfl dX10_wishOf_4)) (ax_lf_ok (ak_aload_n rfl dX10_wishOf_5))) (ax_nd_ok (ax_lf_ok (ak_gi fF_X10_263 dX10_wishOf_6)) (ax_lf_ok (ak_icmp_ge (by decide) dX10_wishOf_9))))) (ax_nd_ok (ax_nd_ok (ax_nd_ok (ax_lf_ok (ak_aload_n rfl dX10_wishOf_12)) (ax_lf_ok (ak_gr fF_X10_53 dX10_wishOf_13))) (ax_nd_ok (ax_lf_ok (ak_bipush (by decide) dX10_wishOf_16)) (ax_lf_ok (ak_iload_n rfl dX10_wishOf_18)))) (ax_nd_ok (ax_nd_ok (ax_lf_ok (ak_imul dX10_wishOf_19)) (ax_lf_ok (ak_iload_n rfl dX10_wishOf_20))) (ax_nd_ok (ax_lf_ok (ak_iadd dX10_wishOf_21)) (ax_lf_ok (ak_iald dX10_wishOf_22)))))) (ax_nd_ok (ax_nd_ok (ax_nd_ok (ax_nd_ok (ax_lf_ok (ak_aload_n rfl dX10_wishOf_23)) (ax_lf_ok (ak_gr fF_X10_53 dX10_wishOf_24))) (ax_nd_ok (ax_lf_ok (ak_bipush (by decide) dX10_wishOf_27)) (ax_lf_ok (ak_iload_n rfl dX10_wishOf_29)))) (ax_nd_ok (ax_nd_ok (ax_lf_ok (ak_imul dX10_wishOf_30)) (ax_lf_ok (ak_iload_n rfl dX10_wishOf_31))) (ax_nd_ok (ax_lf_ok (ak_iadd dX10_wishOf_32)) (ax_lf_ok (ak_iald dX10_wishOf_33))))) (ax_nd_ok (ax_nd_ok (ax_nd_ok (ax_lf_ok (ak_icmp_le (by decide) dX10_wishOf_34)) (ax_lf_ok (ak_iload_n rfl dX10_wishOf_37))) (ax_nd_ok (ax_lf_ok (ak_goto (by decide) dX10_wishOf_38)) (ax_lf_ok (ak_iload_n rfl dX10_wishOf_41)))) (ax_nd_ok (ax_nd_ok (ax_lf_ok (ak_istore_n rfl (by decide) dX10_wishOf_42)) (ax_lf_ok (ak_iinc (by decide) (by decide) dX10_wishOf_43))) (ax_nd_ok (ax_lf_ok (ak_goto (by decide) dX10_wishOf_46)) (ax_nd_ok (ax_lf_ok (ak_iload_n rfl dX10_wishOf_49)) (ax_lf_ok (ak_iret rfl dX10_wishOf_50)))))))
abbrev mX10_wishOf (g : ax_G) (as : List Value) (h : ax_H) (Ret : Option Value → ax_H → Prop) : Prop := ax_M g 1 0 0 yX10_wishOf cX10_wishOf 4 (some .int) as h Ret
theorem dX10_choice_0 : decode cX10_choice 0 = .ok (.iconst 0, 1) := by decide +kernel
theorem dX10_choice_1 : decode cX10_choice 1 = .ok (.istore_n 1, 1) := by decide +kernel
theorem dX10_choice_2 : decode cX10_choice 2 = .ok (.iconst 1, 1) := by decide +kernel
theorem dX10_choice_3 : decode cX10_choice 3 = .ok (.istore_n 2, 1) := by decide +kernel
theorem dX10_choice_4 : decode cX10_choice 4 = .ok (.iload_n 2, 1) := by decide +kernel
theorem dX10_choice_5 : decode cX10_choice 5 = .ok (.aload_n 0, 1) := by decide +kernel
theorem dX10_choice_6 : decode cX10_choice 6 = .ok (.getfield 263, 3) := by decide +kernel
theorem dX10_choice_9 : decode cX10_choice 9 = .ok (.if_icmp .ge 28, 3) := by decide +kernel
theorem dX10_choice_12 : decode cX10_choice 12 = .ok (.aload_n 0, 1) := by decide +kernel
theorem dX10_choice_13 : decode cX10_choice 13 = .ok (.iload_n 2, 1) := by decide +kernel
theorem dX10_choice_14 : decode cX10_choice 14 = .ok (.invokevirtual 301, 3) := by decide +kernel
theorem dX10_choice_17 : decode cX10_choice 17 = .ok (.aload_n 0, 1) := by decide +kernel
theorem dX10_choice_18 : decode cX10_choice 18 = .ok (.iload_n 1, 1) := by decide +kernel
theorem dX10_choice_19 : decode cX10_choice 19 = .ok (.invokevirtual 301, 3) := by decide +kernel
theorem dX10_choice_22 : decode cX10_choice 22 = .ok (.if_icmp .le 7, 3) := by decide +kernel
theorem dX10_choice_25 : decode cX10_choice 25 = .ok (.iload_n 2, 1) := by decide +kernel
theorem dX10_choice_26 : decode cX10_choice 26 = .ok (.goto 4, 3) := by decide +kernel
theorem dX10_choice_29 : decode cX10_choice 29 = .ok (.iload_n 1, 1) := by decide +kernel
theorem dX10_choice_30 : decode cX10_choice 30 = .ok (.istore_n 1, 1) := by decide +kernel
theorem dX10_choice_31 : decode cX10_choice 31 = .ok (.iinc 2 1, 3) := by decide +kernel
theorem dX10_choice_34 : decode cX10_choice 34 = .ok (.goto (-30), 3) := by decide +kernel
theorem dX10_choice_37 : decode cX10_choice 37 = .ok (.iload_n 1, 1) := by decide +kernel
theorem dX10_choice_38 : decode cX10_choice 38 = .ok (.ireturn, 1) := by decide +kernel
def tX10_choice (g : ax_G) : Nat → ax_O := ax_nd 14 (ax_nd 4 (ax_nd 1 (ax_nd 0 (ax_lf 0 (ao_ic (0) 1)) (ax_lf 1 (ao_is 1 1))) (ax_nd 2 (ax_lf 2 (ao_ic (1) 1)) (ax_nd 3 (ax_lf 3 (ao_is 2 1)) (ax_lf 4 (ao_il 2 1))))) (ax_nd 9 (ax_nd 5 (ax_lf 5 (ao_al 0 1)) (ax_nd 6 (ax_lf 6 (ao_gi 10 26)) (ax_lf 9 (ao_icmp_ge 37)))) (ax_nd 12 (ax_lf 12 (ao_al 0 1)) (ax_nd 13 (ax_lf 13 (ao_il 2 1)) (ax_lf 14 (ao_inv g 1 10 1 yX10_allBy cX10_allBy 4 (some .int) 2 0 0 0 0)))))) (ax_nd 26 (ax_nd 19 (ax_nd 17 (ax_lf 17 (ao_al 0 1)) (ax_nd 18 (ax_lf 18 (ao_il 1 1)) (ax_lf 19 (ao_inv g 1 10 1 yX10_allBy cX10_allBy 4 (some .int) 2 0 0 0 0)))) (ax_nd 22 (ax_lf 22 (ao_icmp_le 29)) (ax_nd 25 (ax_lf 25 (ao_il 2 1)) (ax_lf 26 (ao_goto 30))))) (ax_nd 31 (ax_nd 29 (ax_lf 29 (ao_il 1 1)) (ax_nd 30 (ax_lf 30 (ao_is 1 1)) (ax_lf 31 (ao_iinc 2 (1))))) (ax_nd 34 (ax_lf 34 (ao_goto 4)) (ax_nd 37 (ax_lf 37 (ao_il 1 1)) (ax_lf 38 (ao_iret 0 0))))))
theorem oX10_choice (g : ax_G) : ∀ pc, ax_ok g cX10_choice 3 (some .int) RX10 "choice" 2 0 0 pc (tX10_choice g pc) := ax_nd_ok (ax_nd_ok (ax_nd_ok (ax_nd_ok (ax_lf_ok (ak_iconst (by decide) dX10_choice_0)) (ax_lf_ok (ak_istore_n rfl (by decide) dX10_choice_1))) (ax_nd_ok (ax_lf_ok (ak_iconst (by decide) dX10_choice_2)) (ax_nd_ok (ax_lf_ok (ak_istore_n rfl (by decide) dX10_choice_3)) (ax_lf_ok (ak_iload_n rfl dX10_choice_4))))) (ax_nd_ok (ax_nd_ok (ax_lf_ok (ak_aload_n rfl dX10_choice_5)) (ax_nd_ok (ax_lf_ok (ak_gi fF_X10_263 dX10_choice_6)) (ax_lf_ok (ak_icmp_ge (by decide) dX10_choice_9)))) (ax_nd_ok (ax_lf_ok (ak_aload_n rfl dX10_choice_12)) (ax_nd_ok (ax_lf_ok (ak_iload_n rfl dX10_choice_13)) (ax_lf_ok (ak_invV (by decide) (by decide) (by decide) rfl wd_1408 wd_1410 wd_54 wd_106 wd_1411 ⟨by decide, by decide, by decide +kernel⟩ dX10_choice_14)))))) (ax_nd_ok (ax_nd_ok (ax_nd_ok (ax_lf_ok (ak_aload_n rfl dX10_choice_17)) (ax_nd_ok (ax_lf_ok (ak_iload_n rfl dX10_choice_18)) (ax_lf_ok (ak_invV (by decide) (by decide) (by decide) rfl wd_1408 wd_1410 wd_54 wd_106 wd_1411 ⟨by decide, by decide, by decide +kernel⟩ dX10_choice_19)))) (ax_nd_ok (ax_lf_ok (ak_icmp_le (by decide) dX10_choice_22)) (ax_nd_ok (ax_lf_ok (ak_iload_n rfl dX10_choice_25)) (ax_lf_ok (ak_goto (by decide) dX10_choice_26))))) (ax_nd_ok (ax_nd_ok (ax_lf_ok (ak_iload_n rfl dX10_choice_29)) (ax_nd_ok (ax_lf_ok (ak_istore_n rfl (by decide) dX10_choice_30)) (ax_lf_ok (ak_iinc (by decide) (by decide) dX10_choice_31)))) (ax_nd_ok (ax_lf_ok (ak_goto (by decide) dX10_choice_34)) (ax_nd_ok (ax_lf_ok (ak_iload_n rfl dX10_choice_37)) (ax_lf_ok (ak_iret rfl dX10_choice_38))))))
abbrev mX10_choice (g : ax_G) (as : List Value) (h : ax_H) (Ret : Option Value → ax_H → Prop) : Prop := ax_M g 2 0 0 yX10_choice cX10_choice 3 (some .int) as h Ret
theorem dX10_wish_0 : decode cX10_wish 0 = .ok (.aload_n 0, 1) := by decide +kernel
theorem dX10_wish_1 : decode cX10_wish 1 = .ok (.iconst 0, 1) := by decide +kernel
theorem dX10_wish_2 : decode cX10_wish 2 = .ok (.putfield 88, 3) := by decide +kernel
theorem dX10_wish_5 : decode cX10_wish 5 = .ok (.aload_n 0, 1) := by decide +kernel
theorem dX10_wish_6 : decode cX10_wish 6 = .ok (.iload_n 1, 1) := by decide +kernel
theorem dX10_wish_7 : decode cX10_wish 7 = .ok (.invokevirtual 288, 3) := by decide +kernel
theorem dX10_wish_10 : decode cX10_wish 10 = .ok (.ifCond .eq 16, 3) := by decide +kernel
theorem dX10_wish_13 : decode cX10_wish 13 = .ok (.iload_n 2, 1) := by decide +kernel
theorem dX10_wish_14 : decode cX10_wish 14 = .ok (.iconst (-1), 1) := by decide +kernel
theorem dX10_wish_15 : decode cX10_wish 15 = .ok (.if_icmp .eq 13, 3) := by decide +kernel
theorem dX10_wish_18 : decode cX10_wish 18 = .ok (.aload_n 0, 1) := by decide +kernel
theorem dX10_wish_19 : decode cX10_wish 19 = .ok (.iload_n 2, 1) := by decide +kernel
theorem dX10_wish_20 : decode cX10_wish 20 = .ok (.invokevirtual 291, 3) := by decide +kernel
theorem dX10_wish_23 : decode cX10_wish 23 = .ok (.ifCond .ne 5, 3) := by decide +kernel
theorem dX10_wish_26 : decode cX10_wish 26 = .ok (.iconst (-1), 1) := by decide +kernel
theorem dX10_wish_27 : decode cX10_wish 27 = .ok (.ireturn, 1) := by decide +kernel
theorem dX10_wish_28 : decode cX10_wish 28 = .ok (.iload_n 2, 1) := by decide +kernel
theorem dX10_wish_29 : decode cX10_wish 29 = .ok (.iconst (-1), 1) := by decide +kernel
theorem dX10_wish_30 : decode cX10_wish 30 = .ok (.if_icmp .ne 10, 3) := by decide +kernel
theorem dX10_wish_33 : decode cX10_wish 33 = .ok (.aload_n 0, 1) := by decide +kernel
theorem dX10_wish_34 : decode cX10_wish 34 = .ok (.invokevirtual 353, 3) := by decide +kernel
theorem dX10_wish_37 : decode cX10_wish 37 = .ok (.goto 8, 3) := by decide +kernel
theorem dX10_wish_40 : decode cX10_wish 40 = .ok (.aload_n 0, 1) := by decide +kernel
theorem dX10_wish_41 : decode cX10_wish 41 = .ok (.iload_n 2, 1) := by decide +kernel
theorem dX10_wish_42 : decode cX10_wish 42 = .ok (.invokevirtual 356, 3) := by decide +kernel
theorem dX10_wish_45 : decode cX10_wish 45 = .ok (.ireturn, 1) := by decide +kernel
def tX10_wish (g : ax_G) : Nat → ax_O := ax_nd 20 (ax_nd 7 (ax_nd 2 (ax_nd 0 (ax_lf 0 (ao_al 0 1)) (ax_nd 1 (ax_lf 1 (ao_ic (0) 1)) (ax_lf 2 (ao_pi 10 0)))) (ax_nd 5 (ax_lf 5 (ao_al 0 1)) (ax_nd 6 (ax_lf 6 (ao_il 1 1)) (ax_lf 7 (ao_inv g 6 10 1 yX10_hand cX10_hand 4 (some .boolean) 2 0 0 0 0))))) (ax_nd 14 (ax_nd 10 (ax_lf 10 (ao_if_eq 26)) (ax_nd 13 (ax_lf 13 (ao_il 2 1)) (ax_lf 14 (ao_ic (-1) 1)))) (ax_nd 18 (ax_nd 15 (ax_lf 15 (ao_icmp_eq 28)) (ax_lf 18 (ao_al 0 1))) (ax_nd 19 (ax_lf 19 (ao_il 2 1)) (ax_lf 20 (ao_inv g 2 10 1 yX10_isOne cX10_isOne 2 (some .boolean) 2 0 0 0 0)))))) (ax_nd 30 (ax_nd 27 (ax_nd 23 (ax_lf 23 (ao_if_ne 28)) (ax_nd 26 (ax_lf 26 (ao_ic (-1) 1)) (ax_lf 27 (ao_iret 0 0)))) (ax_nd 28 (ax_lf 28 (ao_il 2 1)) (ax_nd 29 (ax_lf 29 (ao_ic (-1) 1)) (ax_lf 30 (ao_icmp_ne 40))))) (ax_nd 37 (ax_nd 33 (ax_lf 33 (ao_al 0 1)) (ax_nd 34 (ax_lf 34 (ao_inv g 2 10 1 yX10_choice cX10_choice 3 (some .int) 1 0 0 0 0)) (ax_lf 37 (ao_goto 45)))) (ax_nd 41 (ax_nd 40 (ax_lf 40 (ao_al 0 1)) (ax_lf 41 (ao_il 2 1))) (ax_nd 42 (ax_lf 42 (ao_inv g 1 10 1 yX10_wishOf cX10_wishOf 4 (some .int) 2 0 0 0 0)) (ax_lf 45 (ao_iret 0 0))))))
theorem oX10_wish (g : ax_G) : ∀ pc, ax_ok g cX10_wish 3 (some .int) RX10 "wish" 7 0 0 pc (tX10_wish g pc) := ax_nd_ok (ax_nd_ok (ax_nd_ok (ax_nd_ok (ax_lf_ok (ak_aload_n rfl dX10_wish_0)) (ax_nd_ok (ax_lf_ok (ak_iconst (by decide) dX10_wish_1)) (ax_lf_ok (ak_pi fF_X10_88 fW_X10_88_a dX10_wish_2)))) (ax_nd_ok (ax_lf_ok (ak_aload_n rfl dX10_wish_5)) (ax_nd_ok (ax_lf_ok (ak_iload_n rfl dX10_wish_6)) (ax_lf_ok (ak_invV (by decide) (by decide) (by decide) rfl wd_1356 wd_1358 wd_44 wd_106 wd_1359 ⟨by decide, by decide, by decide +kernel⟩ dX10_wish_7))))) (ax_nd_ok (ax_nd_ok (ax_lf_ok (ak_if_eq (by decide) dX10_wish_10)) (ax_nd_ok (ax_lf_ok (ak_iload_n rfl dX10_wish_13)) (ax_lf_ok (ak_iconst (by decide) dX10_wish_14)))) (ax_nd_ok (ax_nd_ok (ax_lf_ok (ak_icmp_eq (by decide) dX10_wish_15)) (ax_lf_ok (ak_aload_n rfl dX10_wish_18))) (ax_nd_ok (ax_lf_ok (ak_iload_n rfl dX10_wish_19)) (ax_lf_ok (ak_invV (by decide) (by decide) (by decide) rfl wd_1395 wd_1397 wd_52 wd_106 wd_1398 ⟨by decide, by decide, by decide +kernel⟩ dX10_wish_20)))))) (ax_nd_ok (ax_nd_ok (ax_nd_ok (ax_lf_ok (ak_if_ne (by decide) dX10_wish_23)) (ax_nd_ok (ax_lf_ok (ak_iconst (by decide) dX10_wish_26)) (ax_lf_ok (ak_iret rfl dX10_wish_27)))) (ax_nd_ok (ax_lf_ok (ak_iload_n rfl dX10_wish_28)) (ax_nd_ok (ax_lf_ok (ak_iconst (by decide) dX10_wish_29)) (ax_lf_ok (ak_icmp_ne (by decide) dX10_wish_30))))) (ax_nd_ok (ax_nd_ok (ax_lf_ok (ak_aload_n rfl dX10_wish_33)) (ax_nd_ok (ax_lf_ok (ak_invV (by decide) (by decide) (by decide) rfl wd_1484 wd_1486 wd_63 wd_106 wd_1487 ⟨by decide, by decide, by decide +kernel⟩ dX10_wish_34)) (ax_lf_ok (ak_goto (by decide) dX10_wish_37)))) (ax_nd_ok (ax_nd_ok (ax_lf_ok (ak_aload_n rfl dX10_wish_40)) (ax_lf_ok (ak_iload_n rfl dX10_wish_41))) (ax_nd_ok (ax_lf_ok (ak_invV (by decide) (by decide) (by decide) rfl wd_1488 wd_1490 wd_64 wd_106 wd_1491 ⟨by decide, by decide, by decide +kernel⟩ dX10_wish_42)) (ax_lf_ok (ak_iret rfl dX10_wish_45))))))
abbrev mX10_wish (g : ax_G) (as : List Value) (h : ax_H) (Ret : Option Value → ax_H → Prop) : Prop := ax_M g 7 0 0 yX10_wish cX10_wish 3 (some .int) as h Ret
theorem dX10_buyer_0 : decode cX10_buyer 0 = .ok (.aload_n 0, 1) := by decide +kernel
theorem dX10_buyer_1 : decode cX10_buyer 1 = .ok (.iconst 0, 1) := by decide +kernel
theorem dX10_buyer_2 : decode cX10_buyer 2 = .ok (.putfield 88, 3) := by decide +kernel
theorem dX10_buyer_5 : decode cX10_buyer 5 = .ok (.iload_n 2, 1) := by decide +kernel
theorem dX10_buyer_6 : decode cX10_buyer 6 = .ok (.iconst 0, 1) := by decide +kernel
theorem dX10_buyer_7 : decode cX10_buyer 7 = .ok (.iconst 2, 1) := by decide +kernel
theorem dX10_buyer_8 : decode cX10_buyer 8 = .ok (.invokestatic 96, 3) := by decide +kernel
theorem dX10_buyer_11 : decode cX10_buyer 11 = .ok (.ifCond .eq 18, 3) := by decide +kernel
theorem dX10_buyer_14 : decode cX10_buyer 14 = .ok (.aload_n 0, 1) := by decide +kernel
theorem dX10_buyer_15 : decode cX10_buyer 15 = .ok (.iload_n 1, 1) := by decide +kernel
theorem dX10_buyer_16 : decode cX10_buyer 16 = .ok (.invokevirtual 288, 3) := by decide +kernel
theorem dX10_buyer_19 : decode cX10_buyer 19 = .ok (.ifCond .eq 10, 3) := by decide +kernel
theorem dX10_buyer_22 : decode cX10_buyer 22 = .ok (.aload_n 0, 1) := by decide +kernel
theorem dX10_buyer_23 : decode cX10_buyer 23 = .ok (.getfield 276, 3) := by decide +kernel
theorem dX10_buyer_26 : decode cX10_buyer 26 = .ok (.ifCond .ne 7, 3) := by decide +kernel
theorem dX10_buyer_29 : decode cX10_buyer 29 = .ok (.ldc_w 300, 3) := by decide +kernel
theorem dX10_buyer_32 : decode cX10_buyer 32 = .ok (.ireturn, 1) := by decide +kernel
theorem dX10_buyer_33 : decode cX10_buyer 33 = .ok (.iconst 0, 1) := by decide +kernel
theorem dX10_buyer_34 : decode cX10_buyer 34 = .ok (.istore_n 3, 1) := by decide +kernel
theorem dX10_buyer_35 : decode cX10_buyer 35 = .ok (.iconst 1, 1) := by decide +kernel
theorem dX10_buyer_36 : decode cX10_buyer 36 = .ok (.istore 4, 2) := by decide +kernel
theorem dX10_buyer_38 : decode cX10_buyer 38 = .ok (.iload 4, 2) := by decide +kernel
theorem dX10_buyer_40 : decode cX10_buyer 40 = .ok (.aload_n 0, 1) := by decide +kernel
theorem dX10_buyer_41 : decode cX10_buyer 41 = .ok (.getfield 276, 3) := by decide +kernel
theorem dX10_buyer_44 : decode cX10_buyer 44 = .ok (.if_icmp .ge 42, 3) := by decide +kernel
theorem dX10_buyer_47 : decode cX10_buyer 47 = .ok (.aload_n 0, 1) := by decide +kernel
theorem dX10_buyer_48 : decode cX10_buyer 48 = .ok (.iload 4, 2) := by decide +kernel
theorem dX10_buyer_50 : decode cX10_buyer 50 = .ok (.aload_n 0, 1) := by decide +kernel
theorem dX10_buyer_51 : decode cX10_buyer 51 = .ok (.iload 4, 2) := by decide +kernel
theorem dX10_buyer_53 : decode cX10_buyer 53 = .ok (.invokevirtual 356, 3) := by decide +kernel
theorem dX10_buyer_56 : decode cX10_buyer 56 = .ok (.invokevirtual 349, 3) := by decide +kernel
theorem dX10_buyer_59 : decode cX10_buyer 59 = .ok (.aload_n 0, 1) := by decide +kernel
theorem dX10_buyer_60 : decode cX10_buyer 60 = .ok (.iload_n 3, 1) := by decide +kernel
theorem dX10_buyer_61 : decode cX10_buyer 61 = .ok (.aload_n 0, 1) := by decide +kernel
theorem dX10_buyer_62 : decode cX10_buyer 62 = .ok (.iload_n 3, 1) := by decide +kernel
theorem dX10_buyer_63 : decode cX10_buyer 63 = .ok (.invokevirtual 356, 3) := by decide +kernel
theorem dX10_buyer_66 : decode cX10_buyer 66 = .ok (.invokevirtual 349, 3) := by decide +kernel
theorem dX10_buyer_69 : decode cX10_buyer 69 = .ok (.lcmp, 1) := by decide +kernel
theorem dX10_buyer_70 : decode cX10_buyer 70 = .ok (.ifCond .le 8, 3) := by decide +kernel
theorem dX10_buyer_73 : decode cX10_buyer 73 = .ok (.iload 4, 2) := by decide +kernel
theorem dX10_buyer_75 : decode cX10_buyer 75 = .ok (.goto 4, 3) := by decide +kernel
theorem dX10_buyer_78 : decode cX10_buyer 78 = .ok (.iload_n 3, 1) := by decide +kernel
theorem dX10_buyer_79 : decode cX10_buyer 79 = .ok (.istore_n 3, 1) := by decide +kernel
theorem dX10_buyer_80 : decode cX10_buyer 80 = .ok (.iinc 4 1, 3) := by decide +kernel
theorem dX10_buyer_83 : decode cX10_buyer 83 = .ok (.goto (-45), 3) := by decide +kernel
theorem dX10_buyer_86 : decode cX10_buyer 86 = .ok (.lconst 0, 1) := by decide +kernel
theorem dX10_buyer_87 : decode cX10_buyer 87 = .ok (.lstore 4, 2) := by decide +kernel
theorem dX10_buyer_89 : decode cX10_buyer 89 = .ok (.iconst 0, 1) := by decide +kernel
theorem dX10_buyer_90 : decode cX10_buyer 90 = .ok (.istore 6, 2) := by decide +kernel
theorem dX10_buyer_92 : decode cX10_buyer 92 = .ok (.iconst 0, 1) := by decide +kernel
theorem dX10_buyer_93 : decode cX10_buyer 93 = .ok (.istore 7, 2) := by decide +kernel
theorem dX10_buyer_95 : decode cX10_buyer 95 = .ok (.iload 7, 2) := by decide +kernel
theorem dX10_buyer_97 : decode cX10_buyer 97 = .ok (.aload_n 0, 1) := by decide +kernel
theorem dX10_buyer_98 : decode cX10_buyer 98 = .ok (.getfield 276, 3) := by decide +kernel
theorem dX10_buyer_101 : decode cX10_buyer 101 = .ok (.if_icmp .ge 54, 3) := by decide +kernel
theorem dX10_buyer_104 : decode cX10_buyer 104 = .ok (.iload 7, 2) := by decide +kernel
theorem dX10_buyer_106 : decode cX10_buyer 106 = .ok (.iload_n 3, 1) := by decide +kernel
theorem dX10_buyer_107 : decode cX10_buyer 107 = .ok (.if_icmp .eq 42, 3) := by decide +kernel
theorem dX10_buyer_110 : decode cX10_buyer 110 = .ok (.aload_n 0, 1) := by decide +kernel
theorem dX10_buyer_111 : decode cX10_buyer 111 = .ok (.iload 7, 2) := by decide +kernel
theorem dX10_buyer_113 : decode cX10_buyer 113 = .ok (.aload_n 0, 1) := by decide +kernel
theorem dX10_buyer_114 : decode cX10_buyer 114 = .ok (.iload 7, 2) := by decide +kernel
theorem dX10_buyer_116 : decode cX10_buyer 116 = .ok (.invokevirtual 356, 3) := by decide +kernel
theorem dX10_buyer_119 : decode cX10_buyer 119 = .ok (.invokevirtual 349, 3) := by decide +kernel
theorem dX10_buyer_122 : decode cX10_buyer 122 = .ok (.lstore 8, 2) := by decide +kernel
theorem dX10_buyer_124 : decode cX10_buyer 124 = .ok (.iload 6, 2) := by decide +kernel
theorem dX10_buyer_126 : decode cX10_buyer 126 = .ok (.ifCond .eq 11, 3) := by decide +kernel
theorem dX10_buyer_129 : decode cX10_buyer 129 = .ok (.lload 8, 2) := by decide +kernel
theorem dX10_buyer_131 : decode cX10_buyer 131 = .ok (.lload 4, 2) := by decide +kernel
theorem dX10_buyer_133 : decode cX10_buyer 133 = .ok (.lcmp, 1) := by decide +kernel
theorem dX10_buyer_134 : decode cX10_buyer 134 = .ok (.ifCond .le 8, 3) := by decide +kernel
theorem dX10_buyer_137 : decode cX10_buyer 137 = .ok (.lload 8, 2) := by decide +kernel
theorem dX10_buyer_139 : decode cX10_buyer 139 = .ok (.goto 5, 3) := by decide +kernel
theorem dX10_buyer_142 : decode cX10_buyer 142 = .ok (.lload 4, 2) := by decide +kernel
theorem dX10_buyer_144 : decode cX10_buyer 144 = .ok (.lstore 4, 2) := by decide +kernel
theorem dX10_buyer_146 : decode cX10_buyer 146 = .ok (.iconst 1, 1) := by decide +kernel
theorem dX10_buyer_147 : decode cX10_buyer 147 = .ok (.istore 6, 2) := by decide +kernel
theorem dX10_buyer_149 : decode cX10_buyer 149 = .ok (.iinc 7 1, 3) := by decide +kernel
theorem dX10_buyer_152 : decode cX10_buyer 152 = .ok (.goto (-57), 3) := by decide +kernel
theorem dX10_buyer_155 : decode cX10_buyer 155 = .ok (.iload_n 2, 1) := by decide +kernel
theorem dX10_buyer_156 : decode cX10_buyer 156 = .ok (.ifCond .ne 7, 3) := by decide +kernel
theorem dX10_buyer_159 : decode cX10_buyer 159 = .ok (.iload_n 3, 1) := by decide +kernel
theorem dX10_buyer_160 : decode cX10_buyer 160 = .ok (.goto 24, 3) := by decide +kernel
theorem dX10_buyer_163 : decode cX10_buyer 163 = .ok (.lload 4, 2) := by decide +kernel
theorem dX10_buyer_165 : decode cX10_buyer 165 = .ok (.aload_n 0, 1) := by decide +kernel
theorem dX10_buyer_166 : decode cX10_buyer 166 = .ok (.getfield 279, 3) := by decide +kernel
theorem dX10_buyer_169 : decode cX10_buyer 169 = .ok (.i2l, 1) := by decide +kernel
theorem dX10_buyer_170 : decode cX10_buyer 170 = .ok (.iload_n 2, 1) := by decide +kernel
theorem dX10_buyer_171 : decode cX10_buyer 171 = .ok (.iconst 2, 1) := by decide +kernel
theorem dX10_buyer_172 : decode cX10_buyer 172 = .ok (.if_icmp .ne 7, 3) := by decide +kernel
theorem dX10_buyer_175 : decode cX10_buyer 175 = .ok (.iconst 1, 1) := by decide +kernel
theorem dX10_buyer_176 : decode cX10_buyer 176 = .ok (.goto 4, 3) := by decide +kernel
theorem dX10_buyer_179 : decode cX10_buyer 179 = .ok (.iconst 0, 1) := by decide +kernel
theorem dX10_buyer_180 : decode cX10_buyer 180 = .ok (.invokestatic 308, 3) := by decide +kernel
theorem dX10_buyer_183 : decode cX10_buyer 183 = .ok (.l2i, 1) := by decide +kernel
theorem dX10_buyer_184 : decode cX10_buyer 184 = .ok (.ireturn, 1) := by decide +kernel
def tX10_buyer (g : ax_G) : Nat → ax_O := ax_nd 89 (ax_nd 41 (ax_nd 19 (ax_nd 7 (ax_nd 2 (ax_nd 0 (ax_lf 0 (ao_al 0 1)) (ax_nd 1 (ax_lf 1 (ao_ic (0) 1)) (ax_lf 2 (ao_pi 10 0)))) (ax_nd 5 (ax_lf 5 (ao_il 2 1)) (ax_nd 6 (ax_lf 6 (ao_ic (0) 1)) (ax_lf 7 (ao_ic (2) 1))))) (ax_nd 14 (ax_nd 8 (ax_lf 8 (ao_inv g 1 99 1 yX10_in cX10_in 3 (some .boolean) 3 0 0 0 0)) (ax_nd 11 (ax_lf 11 (ao_if_eq 29)) (ax_lf 14 (ao_al 0 1)))) (ax_nd 15 (ax_lf 15 (ao_il 1 1)) (ax_nd 16 (ax_lf 16 (ao_inv g 6 10 1 yX10_hand cX10_hand 4 (some .boolean) 2 0 0 0 0)) (ax_lf 19 (ao_if_eq 29)))))) (ax_nd 33 (ax_nd 26 (ax_nd 22 (ax_lf 22 (ao_al 0 1)) (ax_nd 23 (ax_lf 23 (ao_gi 10 27)) (ax_lf 26 (ao_if_ne 33)))) (ax_nd 29 (ax_lf 29 (ao_ic (-1000000) 3)) (ax_nd 32 (ax_lf 32 (ao_iret 0 0)) (ax_lf 33 (ao_ic (0) 1))))) (ax_nd 36 (ax_nd 34 (ax_lf 34 (ao_is 3 1)) (ax_nd 35 (ax_lf 35 (ao_ic (1) 1)) (ax_lf 36 (ao_is 4 2)))) (ax_nd 38 (ax_lf 38 (ao_il 4 2)) (ax_nd 40 (ax_lf 40 (ao_al 0 1)) (ax_lf 41 (ao_gi 10 27))))))) (ax_nd 63 (ax_nd 53 (ax_nd 48 (ax_nd 44 (ax_lf 44 (ao_icmp_ge 86)) (ax_nd 47 (ax_lf 47 (ao_al 0 1)) (ax_lf 48 (ao_il 4 2)))) (ax_nd 50 (ax_lf 50 (ao_al 0 1)) (ax_nd 51 (ax_lf 51 (ao_il 4 2)) (ax_lf 53 (ao_inv g 1 10 1 yX10_wishOf cX10_wishOf 4 (some .int) 2 0 0 0 0))))) (ax_nd 60 (ax_nd 56 (ax_lf 56 (ao_inv g 2 10 2 yX10_gainOf cX10_gainOf 3 (some .long) 3 0 0 0 0)) (ax_nd 59 (ax_lf 59 (ao_al 0 1)) (ax_lf 60 (ao_il 3 1)))) (ax_nd 61 (ax_lf 61 (ao_al 0 1)) (ax_nd 62 (ax_lf 62 (ao_il 3 1)) (ax_lf 63 (ao_inv g 1 10 1 yX10_wishOf cX10_wishOf 4 (some .int) 2 0 0 0 0)))))) (ax_nd 78 (ax_nd 70 (ax_nd 66 (ax_lf 66 (ao_inv g 2 10 2 yX10_gainOf cX10_gainOf 3 (some .long) 3 0 0 0 0)) (ax_nd 69 (ax_lf 69 ao_lcmp) (ax_lf 70 (ao_if_le 78)))) (ax_nd 73 (ax_lf 73 (ao_il 4 2)) (ax_nd 75 (ax_lf 75 (ao_goto 79)) (ax_lf 78 (ao_il 3 1))))) (ax_nd 83 (ax_nd 79 (ax_lf 79 (ao_is 3 1)) (ax_nd 80 (ax_lf 80 (ao_iinc 4 (1))) (ax_lf 83 (ao_goto 38)))) (ax_nd 86 (ax_lf 86 (ao_lc (0) 1)) (ax_nd 87 (ax_lf 87 (ao_ls 4 2)) (ax_lf 89 (ao_ic (0) 1)))))))) (ax_nd 137 (ax_nd 111 (ax_nd 98 (ax_nd 93 (ax_nd 90 (ax_lf 90 (ao_is 6 2)) (ax_nd 92 (ax_lf 92 (ao_ic (0) 1)) (ax_lf 93 (ao_is 7 2)))) (ax_nd 95 (ax_lf 95 (ao_il 7 2)) (ax_nd 97 (ax_lf 97 (ao_al 0 1)) (ax_lf 98 (ao_gi 10 27))))) (ax_nd 106 (ax_nd 101 (ax_lf 101 (ao_icmp_ge 155)) (ax_nd 104 (ax_lf 104 (ao_il 7 2)) (ax_lf 106 (ao_il 3 1)))) (ax_nd 107 (ax_lf 107 (ao_icmp_eq 149)) (ax_nd 110 (ax_lf 110 (ao_al 0 1)) (ax_lf 111 (ao_il 7 2)))))) (ax_nd 124 (ax_nd 116 (ax_nd 113 (ax_lf 113 (ao_al 0 1)) (ax_nd 114 (ax_lf 114 (ao_il 7 2)) (ax_lf 116 (ao_inv g 1 10 1 yX10_wishOf cX10_wishOf 4 (some .int) 2 0 0 0 0)))) (ax_nd 119 (ax_lf 119 (ao_inv g 2 10 2 yX10_gainOf cX10_gainOf 3 (some .long) 3 0 0 0 0)) (ax_nd 122 (ax_lf 122 (ao_ls 8 2)) (ax_lf 124 (ao_il 6 2))))) (ax_nd 131 (ax_nd 126 (ax_lf 126 (ao_if_eq 137)) (ax_nd 129 (ax_lf 129 (ao_ll 8 2)) (ax_lf 131 (ao_ll 4 2)))) (ax_nd 133 (ax_lf 133 ao_lcmp) (ax_nd 134 (ax_lf 134 (ao_if_le 142)) (ax_lf 137 (ao_ll 8 2))))))) (ax_nd 163 (ax_nd 149 (ax_nd 144 (ax_nd 139 (ax_lf 139 (ao_goto 144)) (ax_nd 142 (ax_lf 142 (ao_ll 4 2)) (ax_lf 144 (ao_ls 4 2)))) (ax_nd 146 (ax_lf 146 (ao_ic (1) 1)) (ax_nd 147 (ax_lf 147 (ao_is 6 2)) (ax_lf 149 (ao_iinc 7 (1)))))) (ax_nd 156 (ax_nd 152 (ax_lf 152 (ao_goto 95)) (ax_nd 155 (ax_lf 155 (ao_il 2 1)) (ax_lf 156 (ao_if_ne 163)))) (ax_nd 159 (ax_lf 159 (ao_il 3 1)) (ax_nd 160 (ax_lf 160 (ao_goto 184)) (ax_lf 163 (ao_ll 4 2)))))) (ax_nd 172 (ax_nd 169 (ax_nd 165 (ax_lf 165 (ao_al 0 1)) (ax_nd 166 (ax_lf 166 (ao_gi 10 32)) (ax_lf 169 ao_i2l))) (ax_nd 170 (ax_lf 170 (ao_il 2 1)) (ax_nd 171 (ax_lf 171 (ao_ic (2) 1)) (ax_lf 172 (ao_icmp_ne 179))))) (ax_nd 179 (ax_nd 175 (ax_lf 175 (ao_ic (1) 1)) (ax_nd 176 (ax_lf 176 (ao_goto 180)) (ax_lf 179 (ao_ic (0) 1)))) (ax_nd 180 (ax_lf 180 (ao_inv g 2 99 2 yX10_part cX10_part 7 (some .long) 3 0 0 0 0)) (ax_nd 183 (ax_lf 183 ao_l2i) (ax_lf 184 (ao_iret 0 0))))))))
theorem oX10_buyer (g : ax_G) : ∀ pc, ax_ok g cX10_buyer 10 (some .int) RX10 "buyer" 7 0 0 pc (tX10_buyer g pc) := ax_nd_ok (ax_nd_ok (ax_nd_ok (ax_nd_ok (ax_nd_ok (ax_nd_ok (ax_lf_ok (ak_aload_n rfl dX10_buyer_0)) (ax_nd_ok (ax_lf_ok (ak_iconst (by decide) dX10_buyer_1)) (ax_lf_ok (ak_pi fF_X10_88 fW_X10_88_a dX10_buyer_2)))) (ax_nd_ok (ax_lf_ok (ak_iload_n rfl dX10_buyer_5)) (ax_nd_ok (ax_lf_ok (ak_iconst (by decide) dX10_buyer_6)) (ax_lf_ok (ak_iconst (by decide) dX10_buyer_7))))) (ax_nd_ok (ax_nd_ok (ax_lf_ok (ak_invS (by decide) (by decide) wd_1244 wd_1245 wd_106 wd_1246 ⟨by decide, by decide, by decide +kernel⟩ dX10_buyer_8)) (ax_nd_ok (ax_lf_ok (ak_if_eq (by decide) dX10_buyer_11)) (ax_lf_ok (ak_aload_n rfl dX10_buyer_14)))) (ax_nd_ok (ax_lf_ok (ak_iload_n rfl dX10_buyer_15)) (ax_nd_ok (ax_lf_ok (ak_invV (by decide) (by decide) (by decide) rfl wd_1356 wd_1358 wd_44 wd_106 wd_1359 ⟨by decide, by decide, by decide +kernel⟩ dX10_buyer_16)) (ax_lf_ok (ak_if_eq (by decide) dX10_buyer_19)))))) (ax_nd_ok (ax_nd_ok (ax_nd_ok (ax_lf_ok (ak_aload_n rfl dX10_buyer_22)) (ax_nd_ok (ax_lf_ok (ak_gi fF_X10_276 dX10_buyer_23)) (ax_lf_ok (ak_if_ne (by decide) dX10_buyer_26)))) (ax_nd_ok (ax_lf_ok (ak_ldcw wd_1407 dX10_buyer_29)) (ax_nd_ok (ax_lf_ok (ak_iret rfl dX10_buyer_32)) (ax_lf_ok (ak_iconst (by decide) dX10_buyer_33))))) (ax_nd_ok (ax_nd_ok (ax_lf_ok (ak_istore_n rfl (by decide) dX10_buyer_34)) (ax_nd_ok (ax_lf_ok (ak_iconst (by decide) dX10_buyer_35)) (ax_lf_ok (ak_istore (by decide) dX10_buyer_36)))) (ax_nd_ok (ax_lf_ok (ak_iload dX10_buyer_38)) (ax_nd_ok (ax_lf_ok (ak_aload_n rfl dX10_buyer_40)) (ax_lf_ok (ak_gi fF_X10_276 dX10_buyer_41))))))) (ax_nd_ok (ax_nd_ok (ax_nd_ok (ax_nd_ok (ax_lf_ok (ak_icmp_ge (by decide) dX10_buyer_44)) (ax_nd_ok (ax_lf_ok (ak_aload_n rfl dX10_buyer_47)) (ax_lf_ok (ak_iload dX10_buyer_48)))) (ax_nd_ok (ax_lf_ok (ak_aload_n rfl dX10_buyer_50)) (ax_nd_ok (ax_lf_ok (ak_iload dX10_buyer_51)) (ax_lf_ok (ak_invV (by decide) (by decide) (by decide) rfl wd_1488 wd_1490 wd_64 wd_106 wd_1491 ⟨by decide, by decide, by decide +kernel⟩ dX10_buyer_53))))) (ax_nd_ok (ax_nd_ok (ax_lf_ok (ak_invV (by decide) (by decide) (by decide) rfl wd_1476 wd_1478 wd_62 wd_106 wd_1479 ⟨by decide, by decide, by decide +kernel⟩ dX10_buyer_56)) (ax_nd_ok (ax_lf_ok (ak_aload_n rfl dX10_buyer_59)) (ax_lf_ok (ak_iload_n rfl dX10_buyer_60)))) (ax_nd_ok (ax_lf_ok (ak_aload_n rfl dX10_buyer_61)) (ax_nd_ok (ax_lf_ok (ak_iload_n rfl dX10_buyer_62)) (ax_lf_ok (ak_invV (by decide) (by decide) (by decide) rfl wd_1488 wd_1490 wd_64 wd_106 wd_1491 ⟨by decide, by decide, by decide +kernel⟩ dX10_buyer_63)))))) (ax_nd_ok (ax_nd_ok (ax_nd_ok (ax_lf_ok (ak_invV (by decide) (by decide) (by decide) rfl wd_1476 wd_1478 wd_62 wd_106 wd_1479 ⟨by decide, by decide, by decide +kernel⟩ dX10_buyer_66)) (ax_nd_ok (ax_lf_ok (ak_lcmp dX10_buyer_69)) (ax_lf_ok (ak_if_le (by decide) dX10_buyer_70)))) (ax_nd_ok (ax_lf_ok (ak_iload dX10_buyer_73)) (ax_nd_ok (ax_lf_ok (ak_goto (by decide) dX10_buyer_75)) (ax_lf_ok (ak_iload_n rfl dX10_buyer_78))))) (ax_nd_ok (ax_nd_ok (ax_lf_ok (ak_istore_n rfl (by decide) dX10_buyer_79)) (ax_nd_ok (ax_lf_ok (ak_iinc (by decide) (by decide) dX10_buyer_80)) (ax_lf_ok (ak_goto (by decide) dX10_buyer_83)))) (ax_nd_ok (ax_lf_ok (ak_lconst (by decide) dX10_buyer_86)) (ax_nd_ok (ax_lf_ok (ak_lstore (by decide) dX10_buyer_87)) (ax_lf_ok (ak_iconst (by decide) dX10_buyer_89)))))))) (ax_nd_ok (ax_nd_ok (ax_nd_ok (ax_nd_ok (ax_nd_ok (ax_lf_ok (ak_istore (by decide) dX10_buyer_90)) (ax_nd_ok (ax_lf_ok (ak_iconst (by decide) dX10_buyer_92)) (ax_lf_ok (ak_istore (by decide) dX10_buyer_93)))) (ax_nd_ok (ax_lf_ok (ak_iload dX10_buyer_95)) (ax_nd_ok (ax_lf_ok (ak_aload_n rfl dX10_buyer_97)) (ax_lf_ok (ak_gi fF_X10_276 dX10_buyer_98))))) (ax_nd_ok (ax_nd_ok (ax_lf_ok (ak_icmp_ge (by decide) dX10_buyer_101)) (ax_nd_ok (ax_lf_ok (ak_iload dX10_buyer_104)) (ax_lf_ok (ak_iload_n rfl dX10_buyer_106)))) (ax_nd_ok (ax_lf_ok (ak_icmp_eq (by decide) dX10_buyer_107)) (ax_nd_ok (ax_lf_ok (ak_aload_n rfl dX10_buyer_110)) (ax_lf_ok (ak_iload dX10_buyer_111)))))) (ax_nd_ok (ax_nd_ok (ax_nd_ok (ax_lf_ok (ak_aload_n rfl dX10_buyer_113)) (ax_nd_ok (ax_lf_ok (ak_iload dX10_buyer_114)) (ax_lf_ok (ak_invV (by decide) (by decide) (by decide) rfl wd_1488 wd_1490 wd_64 wd_106 wd_1491 ⟨by decide, by decide, by decide +kernel⟩ dX10_buyer_116)))) (ax_nd_ok (ax_lf_ok (ak_invV (by decide) (by decide) (by decide) rfl wd_1476 wd_1478 wd_62 wd_106 wd_1479 ⟨by decide, by decide, by decide +kernel⟩ dX10_buyer_119)) (ax_nd_ok (ax_lf_ok (ak_lstore (by decide) dX10_buyer_122)) (ax_lf_ok (ak_iload dX10_buyer_124))))) (ax_nd_ok (ax_nd_ok (ax_lf_ok (ak_if_eq (by decide) dX10_buyer_126)) (ax_nd_ok (ax_lf_ok (ak_lload dX10_buyer_129)) (ax_lf_ok (ak_lload dX10_buyer_131)))) (ax_nd_ok (ax_lf_ok (ak_lcmp dX10_buyer_133)) (ax_nd_ok (ax_lf_ok (ak_if_le (by decide) dX10_buyer_134)) (ax_lf_ok (ak_lload dX10_buyer_137))))))) (ax_nd_ok (ax_nd_ok (ax_nd_ok (ax_nd_ok (ax_lf_ok (ak_goto (by decide) dX10_buyer_139)) (ax_nd_ok (ax_lf_ok (ak_lload dX10_buyer_142)) (ax_lf_ok (ak_lstore (by decide) dX10_buyer_144)))) (ax_nd_ok (ax_lf_ok (ak_iconst (by decide) dX10_buyer_146)) (ax_nd_ok (ax_lf_ok (ak_istore (by decide) dX10_buyer_147)) (ax_lf_ok (ak_iinc (by decide) (by decide) dX10_buyer_149))))) (ax_nd_ok (ax_nd_ok (ax_lf_ok (ak_goto (by decide) dX10_buyer_152)) (ax_nd_ok (ax_lf_ok (ak_iload_n rfl dX10_buyer_155)) (ax_lf_ok (ak_if_ne (by decide) dX10_buyer_156)))) (ax_nd_ok (ax_lf_ok (ak_iload_n rfl dX10_buyer_159)) (ax_nd_ok (ax_lf_ok (ak_goto (by decide) dX10_buyer_160)) (ax_lf_ok (ak_lload dX10_buyer_163)))))) (ax_nd_ok (ax_nd_ok (ax_nd_ok (ax_lf_ok (ak_aload_n rfl dX10_buyer_165)) (ax_nd_ok (ax_lf_ok (ak_gi fF_X10_279 dX10_buyer_166)) (ax_lf_ok (ak_i2l dX10_buyer_169)))) (ax_nd_ok (ax_lf_ok (ak_iload_n rfl dX10_buyer_170)) (ax_nd_ok (ax_lf_ok (ak_iconst (by decide) dX10_buyer_171)) (ax_lf_ok (ak_icmp_ne (by decide) dX10_buyer_172))))) (ax_nd_ok (ax_nd_ok (ax_lf_ok (ak_iconst (by decide) dX10_buyer_175)) (ax_nd_ok (ax_lf_ok (ak_goto (by decide) dX10_buyer_176)) (ax_lf_ok (ak_iconst (by decide) dX10_buyer_179)))) (ax_nd_ok (ax_lf_ok (ak_invS (by decide) (by decide) wd_1416 wd_1417 wd_106 wd_1418 ⟨by decide, by decide, by decide +kernel⟩ dX10_buyer_180)) (ax_nd_ok (ax_lf_ok (ak_l2i dX10_buyer_183)) (ax_lf_ok (ak_iret rfl dX10_buyer_184))))))))
abbrev mX10_buyer (g : ax_G) (as : List Value) (h : ax_H) (Ret : Option Value → ax_H → Prop) : Prop := ax_M g 7 0 0 yX10_buyer cX10_buyer 10 (some .int) as h Ret
theorem dX10_promise_0 : decode cX10_promise 0 = .ok (.aload_n 0, 1) := by decide +kernel
theorem dX10_promise_1 : decode cX10_promise 1 = .ok (.iconst 0, 1) := by decide +kernel
theorem dX10_promise_2 : decode cX10_promise 2 = .ok (.putfield 88, 3) := by decide +kernel
theorem dX10_promise_5 : decode cX10_promise 5 = .ok (.aload_n 0, 1) := by decide +kernel
theorem dX10_promise_6 : decode cX10_promise 6 = .ok (.iload_n 1, 1) := by decide +kernel
theorem dX10_promise_7 : decode cX10_promise 7 = .ok (.iload_n 2, 1) := by decide +kernel
theorem dX10_promise_8 : decode cX10_promise 8 = .ok (.invokevirtual 294, 3) := by decide +kernel
theorem dX10_promise_11 : decode cX10_promise 11 = .ok (.ifCond .eq 12, 3) := by decide +kernel
theorem dX10_promise_14 : decode cX10_promise 14 = .ok (.iload_n 3, 1) := by decide +kernel
theorem dX10_promise_15 : decode cX10_promise 15 = .ok (.iconst 0, 1) := by decide +kernel
theorem dX10_promise_16 : decode cX10_promise 16 = .ok (.iconst 5, 1) := by decide +kernel
theorem dX10_promise_17 : decode cX10_promise 17 = .ok (.invokestatic 96, 3) := by decide +kernel
theorem dX10_promise_20 : decode cX10_promise 20 = .ok (.ifCond .ne 7, 3) := by decide +kernel
theorem dX10_promise_23 : decode cX10_promise 23 = .ok (.ldc_w 300, 3) := by decide +kernel
theorem dX10_promise_26 : decode cX10_promise 26 = .ok (.ireturn, 1) := by decide +kernel
theorem dX10_promise_27 : decode cX10_promise 27 = .ok (.lconst 0, 1) := by decide +kernel
theorem dX10_promise_28 : decode cX10_promise 28 = .ok (.lstore 5, 2) := by decide +kernel
theorem dX10_promise_30 : decode cX10_promise 30 = .ok (.iconst 0, 1) := by decide +kernel
theorem dX10_promise_31 : decode cX10_promise 31 = .ok (.istore 7, 2) := by decide +kernel
theorem dX10_promise_33 : decode cX10_promise 33 = .ok (.iload 7, 2) := by decide +kernel
theorem dX10_promise_35 : decode cX10_promise 35 = .ok (.aload_n 0, 1) := by decide +kernel
theorem dX10_promise_36 : decode cX10_promise 36 = .ok (.getfield 263, 3) := by decide +kernel
theorem dX10_promise_39 : decode cX10_promise 39 = .ok (.if_icmp .ge 66, 3) := by decide +kernel
theorem dX10_promise_42 : decode cX10_promise 42 = .ok (.lload 5, 2) := by decide +kernel
theorem dX10_promise_44 : decode cX10_promise 44 = .ok (.aload_n 0, 1) := by decide +kernel
theorem dX10_promise_45 : decode cX10_promise 45 = .ok (.getfield 50, 3) := by decide +kernel
theorem dX10_promise_48 : decode cX10_promise 48 = .ok (.bipush 12, 2) := by decide +kernel
theorem dX10_promise_50 : decode cX10_promise 50 = .ok (.iload_n 2, 1) := by decide +kernel
theorem dX10_promise_51 : decode cX10_promise 51 = .ok (.imul, 1) := by decide +kernel
theorem dX10_promise_52 : decode cX10_promise 52 = .ok (.iload 7, 2) := by decide +kernel
theorem dX10_promise_54 : decode cX10_promise 54 = .ok (.iadd, 1) := by decide +kernel
theorem dX10_promise_55 : decode cX10_promise 55 = .ok (.iaload, 1) := by decide +kernel
theorem dX10_promise_56 : decode cX10_promise 56 = .ok (.iconst (-1), 1) := by decide +kernel
theorem dX10_promise_57 : decode cX10_promise 57 = .ok (.if_icmp .eq 7, 3) := by decide +kernel
theorem dX10_promise_60 : decode cX10_promise 60 = .ok (.lconst 0, 1) := by decide +kernel
theorem dX10_promise_61 : decode cX10_promise 61 = .ok (.goto 35, 3) := by decide +kernel
theorem dX10_promise_64 : decode cX10_promise 64 = .ok (.aload_n 0, 1) := by decide +kernel
theorem dX10_promise_65 : decode cX10_promise 65 = .ok (.getfield 56, 3) := by decide +kernel
theorem dX10_promise_68 : decode cX10_promise 68 = .ok (.iload 7, 2) := by decide +kernel
theorem dX10_promise_70 : decode cX10_promise 70 = .ok (.iaload, 1) := by decide +kernel
theorem dX10_promise_71 : decode cX10_promise 71 = .ok (.i2l, 1) := by decide +kernel
theorem dX10_promise_72 : decode cX10_promise 72 = .ok (.aload_n 0, 1) := by decide +kernel
theorem dX10_promise_73 : decode cX10_promise 73 = .ok (.bipush 8, 2) := by decide +kernel
theorem dX10_promise_75 : decode cX10_promise 75 = .ok (.iload_n 3, 1) := by decide +kernel
theorem dX10_promise_76 : decode cX10_promise 76 = .ok (.iadd, 1) := by decide +kernel
theorem dX10_promise_77 : decode cX10_promise 77 = .ok (.invokevirtual 253, 3) := by decide +kernel
theorem dX10_promise_80 : decode cX10_promise 80 = .ok (.i2l, 1) := by decide +kernel
theorem dX10_promise_81 : decode cX10_promise 81 = .ok (.lmul, 1) := by decide +kernel
theorem dX10_promise_82 : decode cX10_promise 82 = .ok (.aload_n 0, 1) := by decide +kernel
theorem dX10_promise_83 : decode cX10_promise 83 = .ok (.bipush 14, 2) := by decide +kernel
theorem dX10_promise_85 : decode cX10_promise 85 = .ok (.iload_n 3, 1) := by decide +kernel
theorem dX10_promise_86 : decode cX10_promise 86 = .ok (.iadd, 1) := by decide +kernel
theorem dX10_promise_87 : decode cX10_promise 87 = .ok (.invokevirtual 253, 3) := by decide +kernel
theorem dX10_promise_90 : decode cX10_promise 90 = .ok (.iconst 2, 1) := by decide +kernel
theorem dX10_promise_91 : decode cX10_promise 91 = .ok (.invokestatic 260, 3) := by decide +kernel
theorem dX10_promise_94 : decode cX10_promise 94 = .ok (.i2l, 1) := by decide +kernel
theorem dX10_promise_95 : decode cX10_promise 95 = .ok (.lmul, 1) := by decide +kernel
theorem dX10_promise_96 : decode cX10_promise 96 = .ok (.ladd, 1) := by decide +kernel
theorem dX10_promise_97 : decode cX10_promise 97 = .ok (.lstore 5, 2) := by decide +kernel
theorem dX10_promise_99 : decode cX10_promise 99 = .ok (.iinc 7 1, 3) := by decide +kernel
theorem dX10_promise_102 : decode cX10_promise 102 = .ok (.goto (-69), 3) := by decide +kernel
theorem dX10_promise_105 : decode cX10_promise 105 = .ok (.lload 5, 2) := by decide +kernel
theorem dX10_promise_107 : decode cX10_promise 107 = .ok (.aload_n 0, 1) := by decide +kernel
theorem dX10_promise_108 : decode cX10_promise 108 = .ok (.getfield 279, 3) := by decide +kernel
theorem dX10_promise_111 : decode cX10_promise 111 = .ok (.i2l, 1) := by decide +kernel
theorem dX10_promise_112 : decode cX10_promise 112 = .ok (.iload 4, 2) := by decide +kernel
theorem dX10_promise_114 : decode cX10_promise 114 = .ok (.invokestatic 308, 3) := by decide +kernel
theorem dX10_promise_117 : decode cX10_promise 117 = .ok (.l2i, 1) := by decide +kernel
theorem dX10_promise_118 : decode cX10_promise 118 = .ok (.ireturn, 1) := by decide +kernel
def tX10_promise (g : ax_G) : Nat → ax_O := ax_nd 57 (ax_nd 28 (ax_nd 11 (ax_nd 5 (ax_nd 1 (ax_nd 0 (ax_lf 0 (ao_al 0 1)) (ax_lf 1 (ao_ic (0) 1))) (ax_nd 2 (ax_lf 2 (ao_pi 10 0)) (ax_lf 5 (ao_al 0 1)))) (ax_nd 7 (ax_nd 6 (ax_lf 6 (ao_il 1 1)) (ax_lf 7 (ao_il 2 1))) (ax_nd 8 (ax_lf 8 (ao_inv g 7 10 1 yX10_handOne cX10_handOne 3 (some .boolean) 3 0 0 0 0)) (ax_lf 11 (ao_if_eq 23))))) (ax_nd 17 (ax_nd 15 (ax_nd 14 (ax_lf 14 (ao_il 3 1)) (ax_lf 15 (ao_ic (0) 1))) (ax_nd 16 (ax_lf 16 (ao_ic (5) 1)) (ax_lf 17 (ao_inv g 1 99 1 yX10_in cX10_in 3 (some .boolean) 3 0 0 0 0)))) (ax_nd 23 (ax_nd 20 (ax_lf 20 (ao_if_ne 27)) (ax_lf 23 (ao_ic (-1000000) 3))) (ax_nd 26 (ax_lf 26 (ao_iret 0 0)) (ax_nd 27 (ax_lf 27 (ao_lc (0) 1)) (ax_lf 28 (ao_ls 5 2))))))) (ax_nd 44 (ax_nd 35 (ax_nd 31 (ax_nd 30 (ax_lf 30 (ao_ic (0) 1)) (ax_lf 31 (ao_is 7 2))) (ax_nd 33 (ax_lf 33 (ao_il 7 2)) (ax_lf 35 (ao_al 0 1)))) (ax_nd 39 (ax_nd 36 (ax_lf 36 (ao_gi 10 26)) (ax_lf 39 (ao_icmp_ge 105))) (ax_nd 42 (ax_lf 42 (ao_ll 5 2)) (ax_lf 44 (ao_al 0 1))))) (ax_nd 51 (ax_nd 48 (ax_nd 45 (ax_lf 45 (ao_gr 10 29)) (ax_lf 48 (ao_ic (12) 2))) (ax_nd 50 (ax_lf 50 (ao_il 2 1)) (ax_lf 51 ao_imul))) (ax_nd 54 (ax_nd 52 (ax_lf 52 (ao_il 7 2)) (ax_lf 54 ao_iadd)) (ax_nd 55 (ax_lf 55 ao_iald) (ax_nd 56 (ax_lf 56 (ao_ic (-1) 1)) (ax_lf 57 (ao_icmp_eq 64)))))))) (ax_nd 85 (ax_nd 72 (ax_nd 65 (ax_nd 61 (ax_nd 60 (ax_lf 60 (ao_lc (0) 1)) (ax_lf 61 (ao_goto 96))) (ax_nd 64 (ax_lf 64 (ao_al 0 1)) (ax_lf 65 (ao_gr 10 31)))) (ax_nd 70 (ax_nd 68 (ax_lf 68 (ao_il 7 2)) (ax_lf 70 ao_iald)) (ax_nd 71 (ax_lf 71 ao_i2l) (ax_lf 72 (ao_al 0 1))))) (ax_nd 77 (ax_nd 75 (ax_nd 73 (ax_lf 73 (ao_ic (8) 2)) (ax_lf 75 (ao_il 3 1))) (ax_nd 76 (ax_lf 76 ao_iadd) (ax_lf 77 (ao_inv g 1 10 1 yX10_of cX10_of 2 (some .int) 2 0 0 0 0)))) (ax_nd 81 (ax_nd 80 (ax_lf 80 ao_i2l) (ax_lf 81 ao_lmul)) (ax_nd 82 (ax_lf 82 (ao_al 0 1)) (ax_nd 83 (ax_lf 83 (ao_ic (14) 2)) (ax_lf 85 (ao_il 3 1))))))) (ax_nd 99 (ax_nd 91 (ax_nd 87 (ax_nd 86 (ax_lf 86 ao_iadd) (ax_lf 87 (ao_inv g 1 10 1 yX10_of cX10_of 2 (some .int) 2 0 0 0 0))) (ax_nd 90 (ax_lf 90 (ao_ic (2) 1)) (ax_lf 91 (ao_inv g 1 99 1 yX10_times cX10_times 2 (some .int) 2 0 0 0 0)))) (ax_nd 95 (ax_nd 94 (ax_lf 94 ao_i2l) (ax_lf 95 ao_lmul)) (ax_nd 96 (ax_lf 96 ao_ladd) (ax_nd 97 (ax_lf 97 (ao_ls 5 2)) (ax_lf 99 (ao_iinc 7 (1))))))) (ax_nd 108 (ax_nd 105 (ax_nd 102 (ax_lf 102 (ao_goto 33)) (ax_lf 105 (ao_ll 5 2))) (ax_nd 107 (ax_lf 107 (ao_al 0 1)) (ax_lf 108 (ao_gi 10 32)))) (ax_nd 112 (ax_nd 111 (ax_lf 111 ao_i2l) (ax_lf 112 (ao_il 4 2))) (ax_nd 114 (ax_lf 114 (ao_inv g 2 99 2 yX10_part cX10_part 7 (some .long) 3 0 0 0 0)) (ax_nd 117 (ax_lf 117 ao_l2i) (ax_lf 118 (ao_iret 0 0))))))))
theorem oX10_promise (g : ax_G) : ∀ pc, ax_ok g cX10_promise 8 (some .int) RX10 "promise" 8 0 0 pc (tX10_promise g pc) := ax_nd_ok (ax_nd_ok (ax_nd_ok (ax_nd_ok (ax_nd_ok (ax_nd_ok (ax_lf_ok (ak_aload_n rfl dX10_promise_0)) (ax_lf_ok (ak_iconst (by decide) dX10_promise_1))) (ax_nd_ok (ax_lf_ok (ak_pi fF_X10_88 fW_X10_88_a dX10_promise_2)) (ax_lf_ok (ak_aload_n rfl dX10_promise_5)))) (ax_nd_ok (ax_nd_ok (ax_lf_ok (ak_iload_n rfl dX10_promise_6)) (ax_lf_ok (ak_iload_n rfl dX10_promise_7))) (ax_nd_ok (ax_lf_ok (ak_invV (by decide) (by decide) (by decide) rfl wd_1391 wd_1393 wd_51 wd_106 wd_1394 ⟨by decide, by decide, by decide +kernel⟩ dX10_promise_8)) (ax_lf_ok (ak_if_eq (by decide) dX10_promise_11))))) (ax_nd_ok (ax_nd_ok (ax_nd_ok (ax_lf_ok (ak_iload_n rfl dX10_promise_14)) (ax_lf_ok (ak_iconst (by decide) dX10_promise_15))) (ax_nd_ok (ax_lf_ok (ak_iconst (by decide) dX10_promise_16)) (ax_lf_ok (ak_invS (by decide) (by decide) wd_1244 wd_1245 wd_106 wd_1246 ⟨by decide, by decide, by decide +kernel⟩ dX10_promise_17)))) (ax_nd_ok (ax_nd_ok (ax_lf_ok (ak_if_ne (by decide) dX10_promise_20)) (ax_lf_ok (ak_ldcw wd_1407 dX10_promise_23))) (ax_nd_ok (ax_lf_ok (ak_iret rfl dX10_promise_26)) (ax_nd_ok (ax_lf_ok (ak_lconst (by decide) dX10_promise_27)) (ax_lf_ok (ak_lstore (by decide) dX10_promise_28))))))) (ax_nd_ok (ax_nd_ok (ax_nd_ok (ax_nd_ok (ax_lf_ok (ak_iconst (by decide) dX10_promise_30)) (ax_lf_ok (ak_istore (by decide) dX10_promise_31))) (ax_nd_ok (ax_lf_ok (ak_iload dX10_promise_33)) (ax_lf_ok (ak_aload_n rfl dX10_promise_35)))) (ax_nd_ok (ax_nd_ok (ax_lf_ok (ak_gi fF_X10_263 dX10_promise_36)) (ax_lf_ok (ak_icmp_ge (by decide) dX10_promise_39))) (ax_nd_ok (ax_lf_ok (ak_lload dX10_promise_42)) (ax_lf_ok (ak_aload_n rfl dX10_promise_44))))) (ax_nd_ok (ax_nd_ok (ax_nd_ok (ax_lf_ok (ak_gr fF_X10_50 dX10_promise_45)) (ax_lf_ok (ak_bipush (by decide) dX10_promise_48))) (ax_nd_ok (ax_lf_ok (ak_iload_n rfl dX10_promise_50)) (ax_lf_ok (ak_imul dX10_promise_51)))) (ax_nd_ok (ax_nd_ok (ax_lf_ok (ak_iload dX10_promise_52)) (ax_lf_ok (ak_iadd dX10_promise_54))) (ax_nd_ok (ax_lf_ok (ak_iald dX10_promise_55)) (ax_nd_ok (ax_lf_ok (ak_iconst (by decide) dX10_promise_56)) (ax_lf_ok (ak_icmp_eq (by decide) dX10_promise_57)))))))) (ax_nd_ok (ax_nd_ok (ax_nd_ok (ax_nd_ok (ax_nd_ok (ax_lf_ok (ak_lconst (by decide) dX10_promise_60)) (ax_lf_ok (ak_goto (by decide) dX10_promise_61))) (ax_nd_ok (ax_lf_ok (ak_aload_n rfl dX10_promise_64)) (ax_lf_ok (ak_gr fF_X10_56 dX10_promise_65)))) (ax_nd_ok (ax_nd_ok (ax_lf_ok (ak_iload dX10_promise_68)) (ax_lf_ok (ak_iald dX10_promise_70))) (ax_nd_ok (ax_lf_ok (ak_i2l dX10_promise_71)) (ax_lf_ok (ak_aload_n rfl dX10_promise_72))))) (ax_nd_ok (ax_nd_ok (ax_nd_ok (ax_lf_ok (ak_bipush (by decide) dX10_promise_73)) (ax_lf_ok (ak_iload_n rfl dX10_promise_75))) (ax_nd_ok (ax_lf_ok (ak_iadd dX10_promise_76)) (ax_lf_ok (ak_invV (by decide) (by decide) (by decide) rfl wd_1360 wd_1362 wd_45 wd_106 wd_1363 ⟨by decide, by decide, by decide +kernel⟩ dX10_promise_77)))) (ax_nd_ok (ax_nd_ok (ax_lf_ok (ak_i2l dX10_promise_80)) (ax_lf_ok (ak_lmul dX10_promise_81))) (ax_nd_ok (ax_lf_ok (ak_aload_n rfl dX10_promise_82)) (ax_nd_ok (ax_lf_ok (ak_bipush (by decide) dX10_promise_83)) (ax_lf_ok (ak_iload_n rfl dX10_promise_85))))))) (ax_nd_ok (ax_nd_ok (ax_nd_ok (ax_nd_ok (ax_lf_ok (ak_iadd dX10_promise_86)) (ax_lf_ok (ak_invV (by decide) (by decide) (by decide) rfl wd_1360 wd_1362 wd_45 wd_106 wd_1363 ⟨by decide, by decide, by decide +kernel⟩ dX10_promise_87))) (ax_nd_ok (ax_lf_ok (ak_iconst (by decide) dX10_promise_90)) (ax_lf_ok (ak_invS (by decide) (by decide) wd_1380 wd_1381 wd_106 wd_1382 ⟨by decide, by decide, by decide +kernel⟩ dX10_promise_91)))) (ax_nd_ok (ax_nd_ok (ax_lf_ok (ak_i2l dX10_promise_94)) (ax_lf_ok (ak_lmul dX10_promise_95))) (ax_nd_ok (ax_lf_ok (ak_ladd dX10_promise_96)) (ax_nd_ok (ax_lf_ok (ak_lstore (by decide) dX10_promise_97)) (ax_lf_ok (ak_iinc (by decide) (by decide) dX10_promise_99)))))) (ax_nd_ok (ax_nd_ok (ax_nd_ok (ax_lf_ok (ak_goto (by decide) dX10_promise_102)) (ax_lf_ok (ak_lload dX10_promise_105))) (ax_nd_ok (ax_lf_ok (ak_aload_n rfl dX10_promise_107)) (ax_lf_ok (ak_gi fF_X10_279 dX10_promise_108)))) (ax_nd_ok (ax_nd_ok (ax_lf_ok (ak_i2l dX10_promise_111)) (ax_lf_ok (ak_iload dX10_promise_112))) (ax_nd_ok (ax_lf_ok (ak_invS (by decide) (by decide) wd_1416 wd_1417 wd_106 wd_1418 ⟨by decide, by decide, by decide +kernel⟩ dX10_promise_114)) (ax_nd_ok (ax_lf_ok (ak_l2i dX10_promise_117)) (ax_lf_ok (ak_iret rfl dX10_promise_118))))))))
abbrev mX10_promise (g : ax_G) (as : List Value) (h : ax_H) (Ret : Option Value → ax_H → Prop) : Prop := ax_M g 8 0 0 yX10_promise cX10_promise 8 (some .int) as h Ret
theorem dX10_two_0 : decode cX10_two 0 = .ok (.aload_n 0, 1) := by decide +kernel
theorem dX10_two_1 : decode cX10_two 1 = .ok (.iconst 0, 1) := by decide +kernel
theorem dX10_two_2 : decode cX10_two 2 = .ok (.putfield 88, 3) := by decide +kernel
theorem dX10_two_5 : decode cX10_two 5 = .ok (.aload_n 0, 1) := by decide +kernel
theorem dX10_two_6 : decode cX10_two 6 = .ok (.iload_n 1, 1) := by decide +kernel
theorem dX10_two_7 : decode cX10_two 7 = .ok (.iload_n 2, 1) := by decide +kernel
theorem dX10_two_8 : decode cX10_two 8 = .ok (.invokevirtual 294, 3) := by decide +kernel
theorem dX10_two_11 : decode cX10_two 11 = .ok (.ifCond .eq 31, 3) := by decide +kernel
theorem dX10_two_14 : decode cX10_two 14 = .ok (.aload_n 0, 1) := by decide +kernel
theorem dX10_two_15 : decode cX10_two 15 = .ok (.iload_n 3, 1) := by decide +kernel
theorem dX10_two_16 : decode cX10_two 16 = .ok (.invokevirtual 297, 3) := by decide +kernel
theorem dX10_two_19 : decode cX10_two 19 = .ok (.ifCond .eq 23, 3) := by decide +kernel
theorem dX10_two_22 : decode cX10_two 22 = .ok (.aload_n 0, 1) := by decide +kernel
theorem dX10_two_23 : decode cX10_two 23 = .ok (.iload 4, 2) := by decide +kernel
theorem dX10_two_25 : decode cX10_two 25 = .ok (.invokevirtual 297, 3) := by decide +kernel
theorem dX10_two_28 : decode cX10_two 28 = .ok (.ifCond .eq 14, 3) := by decide +kernel
theorem dX10_two_31 : decode cX10_two 31 = .ok (.aload_n 0, 1) := by decide +kernel
theorem dX10_two_32 : decode cX10_two 32 = .ok (.iload_n 2, 1) := by decide +kernel
theorem dX10_two_33 : decode cX10_two 33 = .ok (.iload_n 3, 1) := by decide +kernel
theorem dX10_two_34 : decode cX10_two 34 = .ok (.iload 4, 2) := by decide +kernel
theorem dX10_two_36 : decode cX10_two 36 = .ok (.invokevirtual 270, 3) := by decide +kernel
theorem dX10_two_39 : decode cX10_two 39 = .ok (.goto 6, 3) := by decide +kernel
theorem dX10_two_42 : decode cX10_two 42 = .ok (.ldc_w 300, 3) := by decide +kernel
theorem dX10_two_45 : decode cX10_two 45 = .ok (.ireturn, 1) := by decide +kernel
def tX10_two (g : ax_G) : Nat → ax_O := ax_nd 19 (ax_nd 7 (ax_nd 2 (ax_nd 0 (ax_lf 0 (ao_al 0 1)) (ax_nd 1 (ax_lf 1 (ao_ic (0) 1)) (ax_lf 2 (ao_pi 10 0)))) (ax_nd 5 (ax_lf 5 (ao_al 0 1)) (ax_nd 6 (ax_lf 6 (ao_il 1 1)) (ax_lf 7 (ao_il 2 1))))) (ax_nd 14 (ax_nd 8 (ax_lf 8 (ao_inv g 7 10 1 yX10_handOne cX10_handOne 3 (some .boolean) 3 0 0 0 0)) (ax_nd 11 (ax_lf 11 (ao_if_eq 42)) (ax_lf 14 (ao_al 0 1)))) (ax_nd 15 (ax_lf 15 (ao_il 3 1)) (ax_nd 16 (ax_lf 16 (ao_inv g 2 10 1 yX10_isHour cX10_isHour 2 (some .boolean) 2 0 0 0 0)) (ax_lf 19 (ao_if_eq 42)))))) (ax_nd 32 (ax_nd 25 (ax_nd 22 (ax_lf 22 (ao_al 0 1)) (ax_nd 23 (ax_lf 23 (ao_il 4 2)) (ax_lf 25 (ao_inv g 2 10 1 yX10_isHour cX10_isHour 2 (some .boolean) 2 0 0 0 0)))) (ax_nd 28 (ax_lf 28 (ao_if_eq 42)) (ax_nd 31 (ax_lf 31 (ao_al 0 1)) (ax_lf 32 (ao_il 2 1))))) (ax_nd 36 (ax_nd 33 (ax_lf 33 (ao_il 3 1)) (ax_nd 34 (ax_lf 34 (ao_il 4 2)) (ax_lf 36 (ao_inv g 4 10 1 yX10_valueBy cX10_valueBy 7 (some .int) 4 0 0 0 0)))) (ax_nd 39 (ax_lf 39 (ao_goto 45)) (ax_nd 42 (ax_lf 42 (ao_ic (-1000000) 3)) (ax_lf 45 (ao_iret 0 0))))))
theorem oX10_two (g : ax_G) : ∀ pc, ax_ok g cX10_two 5 (some .int) RX10 "two" 8 0 0 pc (tX10_two g pc) := ax_nd_ok (ax_nd_ok (ax_nd_ok (ax_nd_ok (ax_lf_ok (ak_aload_n rfl dX10_two_0)) (ax_nd_ok (ax_lf_ok (ak_iconst (by decide) dX10_two_1)) (ax_lf_ok (ak_pi fF_X10_88 fW_X10_88_a dX10_two_2)))) (ax_nd_ok (ax_lf_ok (ak_aload_n rfl dX10_two_5)) (ax_nd_ok (ax_lf_ok (ak_iload_n rfl dX10_two_6)) (ax_lf_ok (ak_iload_n rfl dX10_two_7))))) (ax_nd_ok (ax_nd_ok (ax_lf_ok (ak_invV (by decide) (by decide) (by decide) rfl wd_1391 wd_1393 wd_51 wd_106 wd_1394 ⟨by decide, by decide, by decide +kernel⟩ dX10_two_8)) (ax_nd_ok (ax_lf_ok (ak_if_eq (by decide) dX10_two_11)) (ax_lf_ok (ak_aload_n rfl dX10_two_14)))) (ax_nd_ok (ax_lf_ok (ak_iload_n rfl dX10_two_15)) (ax_nd_ok (ax_lf_ok (ak_invV (by decide) (by decide) (by decide) rfl wd_1403 wd_1405 wd_53 wd_106 wd_1406 ⟨by decide, by decide, by decide +kernel⟩ dX10_two_16)) (ax_lf_ok (ak_if_eq (by decide) dX10_two_19)))))) (ax_nd_ok (ax_nd_ok (ax_nd_ok (ax_lf_ok (ak_aload_n rfl dX10_two_22)) (ax_nd_ok (ax_lf_ok (ak_iload dX10_two_23)) (ax_lf_ok (ak_invV (by decide) (by decide) (by decide) rfl wd_1403 wd_1405 wd_53 wd_106 wd_1406 ⟨by decide, by decide, by decide +kernel⟩ dX10_two_25)))) (ax_nd_ok (ax_lf_ok (ak_if_eq (by decide) dX10_two_28)) (ax_nd_ok (ax_lf_ok (ak_aload_n rfl dX10_two_31)) (ax_lf_ok (ak_iload_n rfl dX10_two_32))))) (ax_nd_ok (ax_nd_ok (ax_lf_ok (ak_iload_n rfl dX10_two_33)) (ax_nd_ok (ax_lf_ok (ak_iload dX10_two_34)) (ax_lf_ok (ak_invV (by decide) (by decide) (by decide) rfl wd_1368 wd_1370 wd_47 wd_106 wd_1371 ⟨by decide, by decide, by decide +kernel⟩ dX10_two_36)))) (ax_nd_ok (ax_lf_ok (ak_goto (by decide) dX10_two_39)) (ax_nd_ok (ax_lf_ok (ak_ldcw wd_1407 dX10_two_42)) (ax_lf_ok (ak_iret rfl dX10_two_45))))))
abbrev mX10_two (g : ax_G) (as : List Value) (h : ax_H) (Ret : Option Value → ax_H → Prop) : Prop := ax_M g 8 0 0 yX10_two cX10_two 5 (some .int) as h Ret
theorem dX10_swapDeed_0 : decode cX10_swapDeed 0 = .ok (.aload_n 0, 1) := by decide +kernel
theorem dX10_swapDeed_1 : decode cX10_swapDeed 1 = .ok (.getfield 50, 3) := by decide +kernel
theorem dX10_swapDeed_4 : decode cX10_swapDeed 4 = .ok (.bipush 12, 2) := by decide +kernel
theorem dX10_swapDeed_6 : decode cX10_swapDeed 6 = .ok (.iload_n 1, 1) := by decide +kernel
theorem dX10_swapDeed_7 : decode cX10_swapDeed 7 = .ok (.imul, 1) := by decide +kernel
theorem dX10_swapDeed_8 : decode cX10_swapDeed 8 = .ok (.iload_n 2, 1) := by decide +kernel
theorem dX10_swapDeed_9 : decode cX10_swapDeed 9 = .ok (.iadd, 1) := by decide +kernel
theorem dX10_swapDeed_10 : decode cX10_swapDeed 10 = .ok (.iaload, 1) := by decide +kernel
theorem dX10_swapDeed_11 : decode cX10_swapDeed 11 = .ok (.istore 4, 2) := by decide +kernel
theorem dX10_swapDeed_13 : decode cX10_swapDeed 13 = .ok (.aload_n 0, 1) := by decide +kernel
theorem dX10_swapDeed_14 : decode cX10_swapDeed 14 = .ok (.getfield 50, 3) := by decide +kernel
theorem dX10_swapDeed_17 : decode cX10_swapDeed 17 = .ok (.bipush 12, 2) := by decide +kernel
theorem dX10_swapDeed_19 : decode cX10_swapDeed 19 = .ok (.iload_n 1, 1) := by decide +kernel
theorem dX10_swapDeed_20 : decode cX10_swapDeed 20 = .ok (.imul, 1) := by decide +kernel
theorem dX10_swapDeed_21 : decode cX10_swapDeed 21 = .ok (.iload_n 2, 1) := by decide +kernel
theorem dX10_swapDeed_22 : decode cX10_swapDeed 22 = .ok (.iadd, 1) := by decide +kernel
theorem dX10_swapDeed_23 : decode cX10_swapDeed 23 = .ok (.aload_n 0, 1) := by decide +kernel
theorem dX10_swapDeed_24 : decode cX10_swapDeed 24 = .ok (.getfield 50, 3) := by decide +kernel
theorem dX10_swapDeed_27 : decode cX10_swapDeed 27 = .ok (.bipush 12, 2) := by decide +kernel
theorem dX10_swapDeed_29 : decode cX10_swapDeed 29 = .ok (.iload_n 1, 1) := by decide +kernel
theorem dX10_swapDeed_30 : decode cX10_swapDeed 30 = .ok (.imul, 1) := by decide +kernel
theorem dX10_swapDeed_31 : decode cX10_swapDeed 31 = .ok (.iload_n 3, 1) := by decide +kernel
theorem dX10_swapDeed_32 : decode cX10_swapDeed 32 = .ok (.iadd, 1) := by decide +kernel
theorem dX10_swapDeed_33 : decode cX10_swapDeed 33 = .ok (.iaload, 1) := by decide +kernel
theorem dX10_swapDeed_34 : decode cX10_swapDeed 34 = .ok (.iastore, 1) := by decide +kernel
theorem dX10_swapDeed_35 : decode cX10_swapDeed 35 = .ok (.aload_n 0, 1) := by decide +kernel
theorem dX10_swapDeed_36 : decode cX10_swapDeed 36 = .ok (.getfield 50, 3) := by decide +kernel
theorem dX10_swapDeed_39 : decode cX10_swapDeed 39 = .ok (.bipush 12, 2) := by decide +kernel
theorem dX10_swapDeed_41 : decode cX10_swapDeed 41 = .ok (.iload_n 1, 1) := by decide +kernel
theorem dX10_swapDeed_42 : decode cX10_swapDeed 42 = .ok (.imul, 1) := by decide +kernel
theorem dX10_swapDeed_43 : decode cX10_swapDeed 43 = .ok (.iload_n 3, 1) := by decide +kernel
theorem dX10_swapDeed_44 : decode cX10_swapDeed 44 = .ok (.iadd, 1) := by decide +kernel
theorem dX10_swapDeed_45 : decode cX10_swapDeed 45 = .ok (.iload 4, 2) := by decide +kernel
theorem dX10_swapDeed_47 : decode cX10_swapDeed 47 = .ok (.iastore, 1) := by decide +kernel
theorem dX10_swapDeed_48 : decode cX10_swapDeed 48 = .ok (.aload_n 0, 1) := by decide +kernel
theorem dX10_swapDeed_49 : decode cX10_swapDeed 49 = .ok (.iload_n 1, 1) := by decide +kernel
theorem dX10_swapDeed_50 : decode cX10_swapDeed 50 = .ok (.invokevirtual 282, 3) := by decide +kernel
theorem dX10_swapDeed_53 : decode cX10_swapDeed 53 = .ok (.return_, 1) := by decide +kernel
def tX10_swapDeed (g : ax_G) : Nat → ax_O := ax_nd 27 (ax_nd 11 (ax_nd 6 (ax_nd 1 (ax_nd 0 (ax_lf 0 (ao_al 0 1)) (ax_lf 1 (ao_gr 10 29))) (ax_nd 4 (ax_lf 4 (ao_ic (12) 2)) (ax_lf 6 (ao_il 1 1)))) (ax_nd 8 (ax_nd 7 (ax_lf 7 ao_imul) (ax_lf 8 (ao_il 2 1))) (ax_nd 9 (ax_lf 9 ao_iadd) (ax_nd 10 (ax_lf 10 ao_iald) (ax_lf 11 (ao_is 4 2)))))) (ax_nd 20 (ax_nd 14 (ax_nd 13 (ax_lf 13 (ao_al 0 1)) (ax_lf 14 (ao_gr 10 29))) (ax_nd 17 (ax_lf 17 (ao_ic (12) 2)) (ax_nd 19 (ax_lf 19 (ao_il 1 1)) (ax_lf 20 ao_imul)))) (ax_nd 22 (ax_nd 21 (ax_lf 21 (ao_il 2 1)) (ax_lf 22 ao_iadd)) (ax_nd 23 (ax_lf 23 (ao_al 0 1)) (ax_nd 24 (ax_lf 24 (ao_gr 10 29)) (ax_lf 27 (ao_ic (12) 2))))))) (ax_nd 39 (ax_nd 32 (ax_nd 30 (ax_nd 29 (ax_lf 29 (ao_il 1 1)) (ax_lf 30 ao_imul)) (ax_nd 31 (ax_lf 31 (ao_il 3 1)) (ax_lf 32 ao_iadd))) (ax_nd 34 (ax_nd 33 (ax_lf 33 ao_iald) (ax_lf 34 ao_iast)) (ax_nd 35 (ax_lf 35 (ao_al 0 1)) (ax_nd 36 (ax_lf 36 (ao_gr 10 29)) (ax_lf 39 (ao_ic (12) 2)))))) (ax_nd 45 (ax_nd 42 (ax_nd 41 (ax_lf 41 (ao_il 1 1)) (ax_lf 42 ao_imul)) (ax_nd 43 (ax_lf 43 (ao_il 3 1)) (ax_nd 44 (ax_lf 44 ao_iadd) (ax_lf 45 (ao_il 4 2))))) (ax_nd 48 (ax_nd 47 (ax_lf 47 ao_iast) (ax_lf 48 (ao_al 0 1))) (ax_nd 49 (ax_lf 49 (ao_il 1 1)) (ax_nd 50 (ax_lf 50 (ao_inv g 5 10 0 yX10_layValues cX10_layValues 3 none 2 0 0 0 0)) (ax_lf 53 (ao_vret 0 0)))))))
theorem oX10_swapDeed (g : ax_G) : ∀ pc, ax_ok g cX10_swapDeed 5 none RX10 "swapDeed" 6 0 0 pc (tX10_swapDeed g pc) := ax_nd_ok (ax_nd_ok (ax_nd_ok (ax_nd_ok (ax_nd_ok (ax_lf_ok (ak_aload_n rfl dX10_swapDeed_0)) (ax_lf_ok (ak_gr fF_X10_50 dX10_swapDeed_1))) (ax_nd_ok (ax_lf_ok (ak_bipush (by decide) dX10_swapDeed_4)) (ax_lf_ok (ak_iload_n rfl dX10_swapDeed_6)))) (ax_nd_ok (ax_nd_ok (ax_lf_ok (ak_imul dX10_swapDeed_7)) (ax_lf_ok (ak_iload_n rfl dX10_swapDeed_8))) (ax_nd_ok (ax_lf_ok (ak_iadd dX10_swapDeed_9)) (ax_nd_ok (ax_lf_ok (ak_iald dX10_swapDeed_10)) (ax_lf_ok (ak_istore (by decide) dX10_swapDeed_11)))))) (ax_nd_ok (ax_nd_ok (ax_nd_ok (ax_lf_ok (ak_aload_n rfl dX10_swapDeed_13)) (ax_lf_ok (ak_gr fF_X10_50 dX10_swapDeed_14))) (ax_nd_ok (ax_lf_ok (ak_bipush (by decide) dX10_swapDeed_17)) (ax_nd_ok (ax_lf_ok (ak_iload_n rfl dX10_swapDeed_19)) (ax_lf_ok (ak_imul dX10_swapDeed_20))))) (ax_nd_ok (ax_nd_ok (ax_lf_ok (ak_iload_n rfl dX10_swapDeed_21)) (ax_lf_ok (ak_iadd dX10_swapDeed_22))) (ax_nd_ok (ax_lf_ok (ak_aload_n rfl dX10_swapDeed_23)) (ax_nd_ok (ax_lf_ok (ak_gr fF_X10_50 dX10_swapDeed_24)) (ax_lf_ok (ak_bipush (by decide) dX10_swapDeed_27))))))) (ax_nd_ok (ax_nd_ok (ax_nd_ok (ax_nd_ok (ax_lf_ok (ak_iload_n rfl dX10_swapDeed_29)) (ax_lf_ok (ak_imul dX10_swapDeed_30))) (ax_nd_ok (ax_lf_ok (ak_iload_n rfl dX10_swapDeed_31)) (ax_lf_ok (ak_iadd dX10_swapDeed_32)))) (ax_nd_ok (ax_nd_ok (ax_lf_ok (ak_iald dX10_swapDeed_33)) (ax_lf_ok (ak_iast dX10_swapDeed_34))) (ax_nd_ok (ax_lf_ok (ak_aload_n rfl dX10_swapDeed_35)) (ax_nd_ok (ax_lf_ok (ak_gr fF_X10_50 dX10_swapDeed_36)) (ax_lf_ok (ak_bipush (by decide) dX10_swapDeed_39)))))) (ax_nd_ok (ax_nd_ok (ax_nd_ok (ax_lf_ok (ak_iload_n rfl dX10_swapDeed_41)) (ax_lf_ok (ak_imul dX10_swapDeed_42))) (ax_nd_ok (ax_lf_ok (ak_iload_n rfl dX10_swapDeed_43)) (ax_nd_ok (ax_lf_ok (ak_iadd dX10_swapDeed_44)) (ax_lf_ok (ak_iload dX10_swapDeed_45))))) (ax_nd_ok (ax_nd_ok (ax_lf_ok (ak_iast dX10_swapDeed_47)) (ax_lf_ok (ak_aload_n rfl dX10_swapDeed_48))) (ax_nd_ok (ax_lf_ok (ak_iload_n rfl dX10_swapDeed_49)) (ax_nd_ok (ax_lf_ok (ak_invV (by decide) (by decide) (by decide) rfl wd_1364 wd_1366 wd_46 wd_106 wd_1367 ⟨by decide, by decide, by decide +kernel⟩ dX10_swapDeed_50)) (ax_lf_ok (ak_vret rfl dX10_swapDeed_53)))))))
abbrev mX10_swapDeed (g : ax_G) (as : List Value) (h : ax_H) (Ret : Option Value → ax_H → Prop) : Prop := ax_M g 6 0 0 yX10_swapDeed cX10_swapDeed 5 none as h Ret
theorem dX10_shift_0 : decode cX10_shift 0 = .ok (.aload_n 0, 1) := by decide +kernel
theorem dX10_shift_1 : decode cX10_shift 1 = .ok (.iconst 0, 1) := by decide +kernel
theorem dX10_shift_2 : decode cX10_shift 2 = .ok (.putfield 88, 3) := by decide +kernel
theorem dX10_shift_5 : decode cX10_shift 5 = .ok (.iload_n 3, 1) := by decide +kernel
theorem dX10_shift_6 : decode cX10_shift 6 = .ok (.iconst 0, 1) := by decide +kernel
theorem dX10_shift_7 : decode cX10_shift 7 = .ok (.iconst 3, 1) := by decide +kernel
theorem dX10_shift_8 : decode cX10_shift 8 = .ok (.invokestatic 96, 3) := by decide +kernel
theorem dX10_shift_11 : decode cX10_shift 11 = .ok (.ifCond .eq 12, 3) := by decide +kernel
theorem dX10_shift_14 : decode cX10_shift 14 = .ok (.aload_n 0, 1) := by decide +kernel
theorem dX10_shift_15 : decode cX10_shift 15 = .ok (.iload_n 1, 1) := by decide +kernel
theorem dX10_shift_16 : decode cX10_shift 16 = .ok (.iload_n 2, 1) := by decide +kernel
theorem dX10_shift_17 : decode cX10_shift 17 = .ok (.invokevirtual 294, 3) := by decide +kernel
theorem dX10_shift_20 : decode cX10_shift 20 = .ok (.ifCond .ne 7, 3) := by decide +kernel
theorem dX10_shift_23 : decode cX10_shift 23 = .ok (.ldc_w 300, 3) := by decide +kernel
theorem dX10_shift_26 : decode cX10_shift 26 = .ok (.ireturn, 1) := by decide +kernel
theorem dX10_shift_27 : decode cX10_shift 27 = .ok (.iconst (-1), 1) := by decide +kernel
theorem dX10_shift_28 : decode cX10_shift 28 = .ok (.istore 4, 2) := by decide +kernel
theorem dX10_shift_30 : decode cX10_shift 30 = .ok (.aload_n 0, 1) := by decide +kernel
theorem dX10_shift_31 : decode cX10_shift 31 = .ok (.iload_n 2, 1) := by decide +kernel
theorem dX10_shift_32 : decode cX10_shift 32 = .ok (.invokevirtual 345, 3) := by decide +kernel
theorem dX10_shift_35 : decode cX10_shift 35 = .ok (.lstore 5, 2) := by decide +kernel
theorem dX10_shift_37 : decode cX10_shift 37 = .ok (.iconst 0, 1) := by decide +kernel
theorem dX10_shift_38 : decode cX10_shift 38 = .ok (.istore 7, 2) := by decide +kernel
theorem dX10_shift_40 : decode cX10_shift 40 = .ok (.iload 7, 2) := by decide +kernel
theorem dX10_shift_42 : decode cX10_shift 42 = .ok (.bipush 12, 2) := by decide +kernel
theorem dX10_shift_44 : decode cX10_shift 44 = .ok (.aload_n 0, 1) := by decide +kernel
theorem dX10_shift_45 : decode cX10_shift 45 = .ok (.getfield 263, 3) := by decide +kernel
theorem dX10_shift_48 : decode cX10_shift 48 = .ok (.imul, 1) := by decide +kernel
theorem dX10_shift_49 : decode cX10_shift 49 = .ok (.if_icmp .ge 123, 3) := by decide +kernel
theorem dX10_shift_52 : decode cX10_shift 52 = .ok (.iload 7, 2) := by decide +kernel
theorem dX10_shift_54 : decode cX10_shift 54 = .ok (.bipush 12, 2) := by decide +kernel
theorem dX10_shift_56 : decode cX10_shift 56 = .ok (.idiv, 1) := by decide +kernel
theorem dX10_shift_57 : decode cX10_shift 57 = .ok (.istore 8, 2) := by decide +kernel
theorem dX10_shift_59 : decode cX10_shift 59 = .ok (.iload 7, 2) := by decide +kernel
theorem dX10_shift_61 : decode cX10_shift 61 = .ok (.bipush 12, 2) := by decide +kernel
theorem dX10_shift_63 : decode cX10_shift 63 = .ok (.irem, 1) := by decide +kernel
theorem dX10_shift_64 : decode cX10_shift 64 = .ok (.istore 9, 2) := by decide +kernel
theorem dX10_shift_66 : decode cX10_shift 66 = .ok (.iload 9, 2) := by decide +kernel
theorem dX10_shift_68 : decode cX10_shift 68 = .ok (.aload_n 0, 1) := by decide +kernel
theorem dX10_shift_69 : decode cX10_shift 69 = .ok (.getfield 263, 3) := by decide +kernel
theorem dX10_shift_72 : decode cX10_shift 72 = .ok (.if_icmp .ge 94, 3) := by decide +kernel
theorem dX10_shift_75 : decode cX10_shift 75 = .ok (.aload_n 0, 1) := by decide +kernel
theorem dX10_shift_76 : decode cX10_shift 76 = .ok (.getfield 50, 3) := by decide +kernel
theorem dX10_shift_79 : decode cX10_shift 79 = .ok (.bipush 12, 2) := by decide +kernel
theorem dX10_shift_81 : decode cX10_shift 81 = .ok (.iload_n 2, 1) := by decide +kernel
theorem dX10_shift_82 : decode cX10_shift 82 = .ok (.imul, 1) := by decide +kernel
theorem dX10_shift_83 : decode cX10_shift 83 = .ok (.iload 8, 2) := by decide +kernel
theorem dX10_shift_85 : decode cX10_shift 85 = .ok (.iadd, 1) := by decide +kernel
theorem dX10_shift_86 : decode cX10_shift 86 = .ok (.iaload, 1) := by decide +kernel
theorem dX10_shift_87 : decode cX10_shift 87 = .ok (.iconst (-1), 1) := by decide +kernel
theorem dX10_shift_88 : decode cX10_shift 88 = .ok (.if_icmp .eq 78, 3) := by decide +kernel
theorem dX10_shift_91 : decode cX10_shift 91 = .ok (.aload_n 0, 1) := by decide +kernel
theorem dX10_shift_92 : decode cX10_shift 92 = .ok (.getfield 50, 3) := by decide +kernel
theorem dX10_shift_95 : decode cX10_shift 95 = .ok (.bipush 12, 2) := by decide +kernel
theorem dX10_shift_97 : decode cX10_shift 97 = .ok (.iload_n 2, 1) := by decide +kernel
theorem dX10_shift_98 : decode cX10_shift 98 = .ok (.imul, 1) := by decide +kernel
theorem dX10_shift_99 : decode cX10_shift 99 = .ok (.iload 9, 2) := by decide +kernel
theorem dX10_shift_101 : decode cX10_shift 101 = .ok (.iadd, 1) := by decide +kernel
theorem dX10_shift_102 : decode cX10_shift 102 = .ok (.iaload, 1) := by decide +kernel
theorem dX10_shift_103 : decode cX10_shift 103 = .ok (.iconst (-1), 1) := by decide +kernel
theorem dX10_shift_104 : decode cX10_shift 104 = .ok (.if_icmp .ne 62, 3) := by decide +kernel
theorem dX10_shift_107 : decode cX10_shift 107 = .ok (.aload_n 0, 1) := by decide +kernel
theorem dX10_shift_108 : decode cX10_shift 108 = .ok (.iload_n 2, 1) := by decide +kernel
theorem dX10_shift_109 : decode cX10_shift 109 = .ok (.iload 8, 2) := by decide +kernel
theorem dX10_shift_111 : decode cX10_shift 111 = .ok (.iload 9, 2) := by decide +kernel
theorem dX10_shift_113 : decode cX10_shift 113 = .ok (.invokevirtual 359, 3) := by decide +kernel
theorem dX10_shift_116 : decode cX10_shift 116 = .ok (.aload_n 0, 1) := by decide +kernel
theorem dX10_shift_117 : decode cX10_shift 117 = .ok (.iload_n 2, 1) := by decide +kernel
theorem dX10_shift_118 : decode cX10_shift 118 = .ok (.invokevirtual 345, 3) := by decide +kernel
theorem dX10_shift_121 : decode cX10_shift 121 = .ok (.lstore 10, 2) := by decide +kernel
theorem dX10_shift_123 : decode cX10_shift 123 = .ok (.aload_n 0, 1) := by decide +kernel
theorem dX10_shift_124 : decode cX10_shift 124 = .ok (.iload_n 2, 1) := by decide +kernel
theorem dX10_shift_125 : decode cX10_shift 125 = .ok (.iload 8, 2) := by decide +kernel
theorem dX10_shift_127 : decode cX10_shift 127 = .ok (.iload 9, 2) := by decide +kernel
theorem dX10_shift_129 : decode cX10_shift 129 = .ok (.invokevirtual 359, 3) := by decide +kernel
theorem dX10_shift_132 : decode cX10_shift 132 = .ok (.lload 10, 2) := by decide +kernel
theorem dX10_shift_134 : decode cX10_shift 134 = .ok (.lload 5, 2) := by decide +kernel
theorem dX10_shift_136 : decode cX10_shift 136 = .ok (.lcmp, 1) := by decide +kernel
theorem dX10_shift_137 : decode cX10_shift 137 = .ok (.ifCond .le 8, 3) := by decide +kernel
theorem dX10_shift_140 : decode cX10_shift 140 = .ok (.iload 7, 2) := by decide +kernel
theorem dX10_shift_142 : decode cX10_shift 142 = .ok (.goto 5, 3) := by decide +kernel
theorem dX10_shift_145 : decode cX10_shift 145 = .ok (.iload 4, 2) := by decide +kernel
theorem dX10_shift_147 : decode cX10_shift 147 = .ok (.istore 4, 2) := by decide +kernel
theorem dX10_shift_149 : decode cX10_shift 149 = .ok (.lload 10, 2) := by decide +kernel
theorem dX10_shift_151 : decode cX10_shift 151 = .ok (.lload 5, 2) := by decide +kernel
theorem dX10_shift_153 : decode cX10_shift 153 = .ok (.lcmp, 1) := by decide +kernel
theorem dX10_shift_154 : decode cX10_shift 154 = .ok (.ifCond .le 8, 3) := by decide +kernel
theorem dX10_shift_157 : decode cX10_shift 157 = .ok (.lload 10, 2) := by decide +kernel
theorem dX10_shift_159 : decode cX10_shift 159 = .ok (.goto 5, 3) := by decide +kernel
theorem dX10_shift_162 : decode cX10_shift 162 = .ok (.lload 5, 2) := by decide +kernel
theorem dX10_shift_164 : decode cX10_shift 164 = .ok (.lstore 5, 2) := by decide +kernel
theorem dX10_shift_166 : decode cX10_shift 166 = .ok (.iinc 7 1, 3) := by decide +kernel
theorem dX10_shift_169 : decode cX10_shift 169 = .ok (.goto (-129), 3) := by decide +kernel
theorem dX10_shift_172 : decode cX10_shift 172 = .ok (.iload_n 3, 1) := by decide +kernel
theorem dX10_shift_173 : decode cX10_shift 173 = .ok (.iconst 1, 1) := by decide +kernel
theorem dX10_shift_174 : decode cX10_shift 174 = .ok (.if_icmp .le 25, 3) := by decide +kernel
theorem dX10_shift_177 : decode cX10_shift 177 = .ok (.lload 5, 2) := by decide +kernel
theorem dX10_shift_179 : decode cX10_shift 179 = .ok (.aload_n 0, 1) := by decide +kernel
theorem dX10_shift_180 : decode cX10_shift 180 = .ok (.getfield 279, 3) := by decide +kernel
theorem dX10_shift_183 : decode cX10_shift 183 = .ok (.i2l, 1) := by decide +kernel
theorem dX10_shift_184 : decode cX10_shift 184 = .ok (.iload_n 3, 1) := by decide +kernel
theorem dX10_shift_185 : decode cX10_shift 185 = .ok (.iconst 3, 1) := by decide +kernel
theorem dX10_shift_186 : decode cX10_shift 186 = .ok (.if_icmp .ne 7, 3) := by decide +kernel
theorem dX10_shift_189 : decode cX10_shift 189 = .ok (.iconst 1, 1) := by decide +kernel
theorem dX10_shift_190 : decode cX10_shift 190 = .ok (.goto 4, 3) := by decide +kernel
theorem dX10_shift_193 : decode cX10_shift 193 = .ok (.iconst 0, 1) := by decide +kernel
theorem dX10_shift_194 : decode cX10_shift 194 = .ok (.invokestatic 308, 3) := by decide +kernel
theorem dX10_shift_197 : decode cX10_shift 197 = .ok (.l2i, 1) := by decide +kernel
theorem dX10_shift_198 : decode cX10_shift 198 = .ok (.ireturn, 1) := by decide +kernel
theorem dX10_shift_199 : decode cX10_shift 199 = .ok (.iload 4, 2) := by decide +kernel
theorem dX10_shift_201 : decode cX10_shift 201 = .ok (.iconst (-1), 1) := by decide +kernel
theorem dX10_shift_202 : decode cX10_shift 202 = .ok (.if_icmp .ne 7, 3) := by decide +kernel
theorem dX10_shift_205 : decode cX10_shift 205 = .ok (.iconst (-1), 1) := by decide +kernel
theorem dX10_shift_206 : decode cX10_shift 206 = .ok (.goto 20, 3) := by decide +kernel
theorem dX10_shift_209 : decode cX10_shift 209 = .ok (.iload_n 3, 1) := by decide +kernel
theorem dX10_shift_210 : decode cX10_shift 210 = .ok (.ifCond .ne 11, 3) := by decide +kernel
theorem dX10_shift_213 : decode cX10_shift 213 = .ok (.iload 4, 2) := by decide +kernel
theorem dX10_shift_215 : decode cX10_shift 215 = .ok (.bipush 12, 2) := by decide +kernel
theorem dX10_shift_217 : decode cX10_shift 217 = .ok (.idiv, 1) := by decide +kernel
theorem dX10_shift_218 : decode cX10_shift 218 = .ok (.goto 8, 3) := by decide +kernel
theorem dX10_shift_221 : decode cX10_shift 221 = .ok (.iload 4, 2) := by decide +kernel
theorem dX10_shift_223 : decode cX10_shift 223 = .ok (.bipush 12, 2) := by decide +kernel
theorem dX10_shift_225 : decode cX10_shift 225 = .ok (.irem, 1) := by decide +kernel
theorem dX10_shift_226 : decode cX10_shift 226 = .ok (.ireturn, 1) := by decide +kernel
def tX10_shift (g : ax_G) : Nat → ax_O := ax_nd 107 (ax_nd 54 (ax_nd 26 (ax_nd 8 (ax_nd 2 (ax_nd 0 (ax_lf 0 (ao_al 0 1)) (ax_nd 1 (ax_lf 1 (ao_ic (0) 1)) (ax_lf 2 (ao_pi 10 0)))) (ax_nd 6 (ax_nd 5 (ax_lf 5 (ao_il 3 1)) (ax_lf 6 (ao_ic (0) 1))) (ax_nd 7 (ax_lf 7 (ao_ic (3) 1)) (ax_lf 8 (ao_inv g 1 99 1 yX10_in cX10_in 3 (some .boolean) 3 0 0 0 0))))) (ax_nd 16 (ax_nd 14 (ax_nd 11 (ax_lf 11 (ao_if_eq 23)) (ax_lf 14 (ao_al 0 1))) (ax_nd 15 (ax_lf 15 (ao_il 1 1)) (ax_lf 16 (ao_il 2 1)))) (ax_nd 20 (ax_nd 17 (ax_lf 17 (ao_inv g 7 10 1 yX10_handOne cX10_handOne 3 (some .boolean) 3 0 0 0 0)) (ax_lf 20 (ao_if_ne 27))) (ax_nd 23 (ax_lf 23 (ao_ic (-1000000) 3)) (ax_lf 26 (ao_iret 0 0)))))) (ax_nd 38 (ax_nd 31 (ax_nd 28 (ax_nd 27 (ax_lf 27 (ao_ic (-1) 1)) (ax_lf 28 (ao_is 4 2))) (ax_nd 30 (ax_lf 30 (ao_al 0 1)) (ax_lf 31 (ao_il 2 1)))) (ax_nd 35 (ax_nd 32 (ax_lf 32 (ao_inv g 1 10 2 yX10_meanOf cX10_meanOf 5 (some .long) 2 0 0 0 0)) (ax_lf 35 (ao_ls 5 2))) (ax_nd 37 (ax_lf 37 (ao_ic (0) 1)) (ax_lf 38 (ao_is 7 2))))) (ax_nd 45 (ax_nd 42 (ax_nd 40 (ax_lf 40 (ao_il 7 2)) (ax_lf 42 (ao_ic (12) 2))) (ax_nd 44 (ax_lf 44 (ao_al 0 1)) (ax_lf 45 (ao_gi 10 26)))) (ax_nd 49 (ax_nd 48 (ax_lf 48 ao_imul) (ax_lf 49 (ao_icmp_ge 172))) (ax_nd 52 (ax_lf 52 (ao_il 7 2)) (ax_lf 54 (ao_ic (12) 2))))))) (ax_nd 82 (ax_nd 66 (ax_nd 59 (ax_nd 56 (ax_lf 56 ao_idiv) (ax_nd 57 (ax_lf 57 (ao_is 8 2)) (ax_lf 59 (ao_il 7 2)))) (ax_nd 63 (ax_nd 61 (ax_lf 61 (ao_ic (12) 2)) (ax_lf 63 ao_irem)) (ax_nd 64 (ax_lf 64 (ao_is 9 2)) (ax_lf 66 (ao_il 9 2))))) (ax_nd 75 (ax_nd 69 (ax_nd 68 (ax_lf 68 (ao_al 0 1)) (ax_lf 69 (ao_gi 10 26))) (ax_nd 72 (ax_lf 72 (ao_icmp_ge 166)) (ax_lf 75 (ao_al 0 1)))) (ax_nd 79 (ax_nd 76 (ax_lf 76 (ao_gr 10 29)) (ax_lf 79 (ao_ic (12) 2))) (ax_nd 81 (ax_lf 81 (ao_il 2 1)) (ax_lf 82 ao_imul))))) (ax_nd 95 (ax_nd 87 (ax_nd 85 (ax_nd 83 (ax_lf 83 (ao_il 8 2)) (ax_lf 85 ao_iadd)) (ax_nd 86 (ax_lf 86 ao_iald) (ax_lf 87 (ao_ic (-1) 1)))) (ax_nd 91 (ax_nd 88 (ax_lf 88 (ao_icmp_eq 166)) (ax_lf 91 (ao_al 0 1))) (ax_nd 92 (ax_lf 92 (ao_gr 10 29)) (ax_lf 95 (ao_ic (12) 2))))) (ax_nd 101 (ax_nd 98 (ax_nd 97 (ax_lf 97 (ao_il 2 1)) (ax_lf 98 ao_imul)) (ax_nd 99 (ax_lf 99 (ao_il 9 2)) (ax_lf 101 ao_iadd))) (ax_nd 103 (ax_nd 102 (ax_lf 102 ao_iald) (ax_lf 103 (ao_ic (-1) 1))) (ax_nd 104 (ax_lf 104 (ao_icmp_ne 166)) (ax_lf 107 (ao_al 0 1)))))))) (ax_nd 169 (ax_nd 134 (ax_nd 118 (ax_nd 111 (ax_nd 108 (ax_lf 108 (ao_il 2 1)) (ax_nd 109 (ax_lf 109 (ao_il 8 2)) (ax_lf 111 (ao_il 9 2)))) (ax_nd 116 (ax_nd 113 (ax_lf 113 (ao_inv g 6 10 0 yX10_swapDeed cX10_swapDeed 5 none 4 0 0 0 0)) (ax_lf 116 (ao_al 0 1))) (ax_nd 117 (ax_lf 117 (ao_il 2 1)) (ax_lf 118 (ao_inv g 1 10 2 yX10_meanOf cX10_meanOf 5 (some .long) 2 0 0 0 0))))) (ax_nd 125 (ax_nd 123 (ax_nd 121 (ax_lf 121 (ao_ls 10 2)) (ax_lf 123 (ao_al 0 1))) (ax_nd 124 (ax_lf 124 (ao_il 2 1)) (ax_lf 125 (ao_il 8 2)))) (ax_nd 129 (ax_nd 127 (ax_lf 127 (ao_il 9 2)) (ax_lf 129 (ao_inv g 6 10 0 yX10_swapDeed cX10_swapDeed 5 none 4 0 0 0 0))) (ax_nd 132 (ax_lf 132 (ao_ll 10 2)) (ax_lf 134 (ao_ll 5 2)))))) (ax_nd 151 (ax_nd 142 (ax_nd 137 (ax_nd 136 (ax_lf 136 ao_lcmp) (ax_lf 137 (ao_if_le 145))) (ax_nd 140 (ax_lf 140 (ao_il 7 2)) (ax_lf 142 (ao_goto 147)))) (ax_nd 147 (ax_nd 145 (ax_lf 145 (ao_il 4 2)) (ax_lf 147 (ao_is 4 2))) (ax_nd 149 (ax_lf 149 (ao_ll 10 2)) (ax_lf 151 (ao_ll 5 2))))) (ax_nd 159 (ax_nd 154 (ax_nd 153 (ax_lf 153 ao_lcmp) (ax_lf 154 (ao_if_le 162))) (ax_nd 157 (ax_lf 157 (ao_ll 10 2)) (ax_lf 159 (ao_goto 164)))) (ax_nd 164 (ax_nd 162 (ax_lf 162 (ao_ll 5 2)) (ax_lf 164 (ao_ls 5 2))) (ax_nd 166 (ax_lf 166 (ao_iinc 7 (1))) (ax_lf 169 (ao_goto 40))))))) (ax_nd 197 (ax_nd 183 (ax_nd 174 (ax_nd 172 (ax_lf 172 (ao_il 3 1)) (ax_nd 173 (ax_lf 173 (ao_ic (1) 1)) (ax_lf 174 (ao_icmp_le 199)))) (ax_nd 179 (ax_nd 177 (ax_lf 177 (ao_ll 5 2)) (ax_lf 179 (ao_al 0 1))) (ax_nd 180 (ax_lf 180 (ao_gi 10 32)) (ax_lf 183 ao_i2l)))) (ax_nd 189 (ax_nd 185 (ax_nd 184 (ax_lf 184 (ao_il 3 1)) (ax_lf 185 (ao_ic (3) 1))) (ax_nd 186 (ax_lf 186 (ao_icmp_ne 193)) (ax_lf 189 (ao_ic (1) 1)))) (ax_nd 193 (ax_nd 190 (ax_lf 190 (ao_goto 194)) (ax_lf 193 (ao_ic (0) 1))) (ax_nd 194 (ax_lf 194 (ao_inv g 2 99 2 yX10_part cX10_part 7 (some .long) 3 0 0 0 0)) (ax_lf 197 ao_l2i))))) (ax_nd 210 (ax_nd 202 (ax_nd 199 (ax_nd 198 (ax_lf 198 (ao_iret 0 0)) (ax_lf 199 (ao_il 4 2))) (ax_nd 201 (ax_lf 201 (ao_ic (-1) 1)) (ax_lf 202 (ao_icmp_ne 209)))) (ax_nd 206 (ax_nd 205 (ax_lf 205 (ao_ic (-1) 1)) (ax_lf 206 (ao_goto 226))) (ax_nd 209 (ax_lf 209 (ao_il 3 1)) (ax_lf 210 (ao_if_ne 221))))) (ax_nd 218 (ax_nd 215 (ax_nd 213 (ax_lf 213 (ao_il 4 2)) (ax_lf 215 (ao_ic (12) 2))) (ax_nd 217 (ax_lf 217 ao_idiv) (ax_lf 218 (ao_goto 226)))) (ax_nd 223 (ax_nd 221 (ax_lf 221 (ao_il 4 2)) (ax_lf 223 (ao_ic (12) 2))) (ax_nd 225 (ax_lf 225 ao_irem) (ax_lf 226 (ao_iret 0 0))))))))
theorem oX10_shift (g : ax_G) : ∀ pc, ax_ok g cX10_shift 12 (some .int) RX10 "shift" 8 0 0 pc (tX10_shift g pc) := ax_nd_ok (ax_nd_ok (ax_nd_ok (ax_nd_ok (ax_nd_ok (ax_nd_ok (ax_lf_ok (ak_aload_n rfl dX10_shift_0)) (ax_nd_ok (ax_lf_ok (ak_iconst (by decide) dX10_shift_1)) (ax_lf_ok (ak_pi fF_X10_88 fW_X10_88_a dX10_shift_2)))) (ax_nd_ok (ax_nd_ok (ax_lf_ok (ak_iload_n rfl dX10_shift_5)) (ax_lf_ok (ak_iconst (by decide) dX10_shift_6))) (ax_nd_ok (ax_lf_ok (ak_iconst (by decide) dX10_shift_7)) (ax_lf_ok (ak_invS (by decide) (by decide) wd_1244 wd_1245 wd_106 wd_1246 ⟨by decide, by decide, by decide +kernel⟩ dX10_shift_8))))) (ax_nd_ok (ax_nd_ok (ax_nd_ok (ax_lf_ok (ak_if_eq (by decide) dX10_shift_11)) (ax_lf_ok (ak_aload_n rfl dX10_shift_14))) (ax_nd_ok (ax_lf_ok (ak_iload_n rfl dX10_shift_15)) (ax_lf_ok (ak_iload_n rfl dX10_shift_16)))) (ax_nd_ok (ax_nd_ok (ax_lf_ok (ak_invV (by decide) (by decide) (by decide) rfl wd_1391 wd_1393 wd_51 wd_106 wd_1394 ⟨by decide, by decide, by decide +kernel⟩ dX10_shift_17)) (ax_lf_ok (ak_if_ne (by decide) dX10_shift_20))) (ax_nd_ok (ax_lf_ok (ak_ldcw wd_1407 dX10_shift_23)) (ax_lf_ok (ak_iret rfl dX10_shift_26)))))) (ax_nd_ok (ax_nd_ok (ax_nd_ok (ax_nd_ok (ax_lf_ok (ak_iconst (by decide) dX10_shift_27)) (ax_lf_ok (ak_istore (by decide) dX10_shift_28))) (ax_nd_ok (ax_lf_ok (ak_aload_n rfl dX10_shift_30)) (ax_lf_ok (ak_iload_n rfl dX10_shift_31)))) (ax_nd_ok (ax_nd_ok (ax_lf_ok (ak_invV (by decide) (by decide) (by decide) rfl wd_1468 wd_1470 wd_61 wd_106 wd_1471 ⟨by decide, by decide, by decide +kernel⟩ dX10_shift_32)) (ax_lf_ok (ak_lstore (by decide) dX10_shift_35))) (ax_nd_ok (ax_lf_ok (ak_iconst (by decide) dX10_shift_37)) (ax_lf_ok (ak_istore (by decide) dX10_shift_38))))) (ax_nd_ok (ax_nd_ok (ax_nd_ok (ax_lf_ok (ak_iload dX10_shift_40)) (ax_lf_ok (ak_bipush (by decide) dX10_shift_42))) (ax_nd_ok (ax_lf_ok (ak_aload_n rfl dX10_shift_44)) (ax_lf_ok (ak_gi fF_X10_263 dX10_shift_45)))) (ax_nd_ok (ax_nd_ok (ax_lf_ok (ak_imul dX10_shift_48)) (ax_lf_ok (ak_icmp_ge (by decide) dX10_shift_49))) (ax_nd_ok (ax_lf_ok (ak_iload dX10_shift_52)) (ax_lf_ok (ak_bipush (by decide) dX10_shift_54))))))) (ax_nd_ok (ax_nd_ok (ax_nd_ok (ax_nd_ok (ax_lf_ok (ak_idiv dX10_shift_56)) (ax_nd_ok (ax_lf_ok (ak_istore (by decide) dX10_shift_57)) (ax_lf_ok (ak_iload dX10_shift_59)))) (ax_nd_ok (ax_nd_ok (ax_lf_ok (ak_bipush (by decide) dX10_shift_61)) (ax_lf_ok (ak_irem dX10_shift_63))) (ax_nd_ok (ax_lf_ok (ak_istore (by decide) dX10_shift_64)) (ax_lf_ok (ak_iload dX10_shift_66))))) (ax_nd_ok (ax_nd_ok (ax_nd_ok (ax_lf_ok (ak_aload_n rfl dX10_shift_68)) (ax_lf_ok (ak_gi fF_X10_263 dX10_shift_69))) (ax_nd_ok (ax_lf_ok (ak_icmp_ge (by decide) dX10_shift_72)) (ax_lf_ok (ak_aload_n rfl dX10_shift_75)))) (ax_nd_ok (ax_nd_ok (ax_lf_ok (ak_gr fF_X10_50 dX10_shift_76)) (ax_lf_ok (ak_bipush (by decide) dX10_shift_79))) (ax_nd_ok (ax_lf_ok (ak_iload_n rfl dX10_shift_81)) (ax_lf_ok (ak_imul dX10_shift_82)))))) (ax_nd_ok (ax_nd_ok (ax_nd_ok (ax_nd_ok (ax_lf_ok (ak_iload dX10_shift_83)) (ax_lf_ok (ak_iadd dX10_shift_85))) (ax_nd_ok (ax_lf_ok (ak_iald dX10_shift_86)) (ax_lf_ok (ak_iconst (by decide) dX10_shift_87)))) (ax_nd_ok (ax_nd_ok (ax_lf_ok (ak_icmp_eq (by decide) dX10_shift_88)) (ax_lf_ok (ak_aload_n rfl dX10_shift_91))) (ax_nd_ok (ax_lf_ok (ak_gr fF_X10_50 dX10_shift_92)) (ax_lf_ok (ak_bipush (by decide) dX10_shift_95))))) (ax_nd_ok (ax_nd_ok (ax_nd_ok (ax_lf_ok (ak_iload_n rfl dX10_shift_97)) (ax_lf_ok (ak_imul dX10_shift_98))) (ax_nd_ok (ax_lf_ok (ak_iload dX10_shift_99)) (ax_lf_ok (ak_iadd dX10_shift_101)))) (ax_nd_ok (ax_nd_ok (ax_lf_ok (ak_iald dX10_shift_102)) (ax_lf_ok (ak_iconst (by decide) dX10_shift_103))) (ax_nd_ok (ax_lf_ok (ak_icmp_ne (by decide) dX10_shift_104)) (ax_lf_ok (ak_aload_n rfl dX10_shift_107)))))))) (ax_nd_ok (ax_nd_ok (ax_nd_ok (ax_nd_ok (ax_nd_ok (ax_lf_ok (ak_iload_n rfl dX10_shift_108)) (ax_nd_ok (ax_lf_ok (ak_iload dX10_shift_109)) (ax_lf_ok (ak_iload dX10_shift_111)))) (ax_nd_ok (ax_nd_ok (ax_lf_ok (ak_invV (by decide) (by decide) (by decide) rfl wd_1508 wd_1510 wd_65 wd_106 wd_1511 ⟨by decide, by decide, by decide +kernel⟩ dX10_shift_113)) (ax_lf_ok (ak_aload_n rfl dX10_shift_116))) (ax_nd_ok (ax_lf_ok (ak_iload_n rfl dX10_shift_117)) (ax_lf_ok (ak_invV (by decide) (by decide) (by decide) rfl wd_1468 wd_1470 wd_61 wd_106 wd_1471 ⟨by decide, by decide, by decide +kernel⟩ dX10_shift_118))))) (ax_nd_ok (ax_nd_ok (ax_nd_ok (ax_lf_ok (ak_lstore (by decide) dX10_shift_121)) (ax_lf_ok (ak_aload_n rfl dX10_shift_123))) (ax_nd_ok (ax_lf_ok (ak_iload_n rfl dX10_shift_124)) (ax_lf_ok (ak_iload dX10_shift_125)))) (ax_nd_ok (ax_nd_ok (ax_lf_ok (ak_iload dX10_shift_127)) (ax_lf_ok (ak_invV (by decide) (by decide) (by decide) rfl wd_1508 wd_1510 wd_65 wd_106 wd_1511 ⟨by decide, by decide, by decide +kernel⟩ dX10_shift_129))) (ax_nd_ok (ax_lf_ok (ak_lload dX10_shift_132)) (ax_lf_ok (ak_lload dX10_shift_134)))))) (ax_nd_ok (ax_nd_ok (ax_nd_ok (ax_nd_ok (ax_lf_ok (ak_lcmp dX10_shift_136)) (ax_lf_ok (ak_if_le (by decide) dX10_shift_137))) (ax_nd_ok (ax_lf_ok (ak_iload dX10_shift_140)) (ax_lf_ok (ak_goto (by decide) dX10_shift_142)))) (ax_nd_ok (ax_nd_ok (ax_lf_ok (ak_iload dX10_shift_145)) (ax_lf_ok (ak_istore (by decide) dX10_shift_147))) (ax_nd_ok (ax_lf_ok (ak_lload dX10_shift_149)) (ax_lf_ok (ak_lload dX10_shift_151))))) (ax_nd_ok (ax_nd_ok (ax_nd_ok (ax_lf_ok (ak_lcmp dX10_shift_153)) (ax_lf_ok (ak_if_le (by decide) dX10_shift_154))) (ax_nd_ok (ax_lf_ok (ak_lload dX10_shift_157)) (ax_lf_ok (ak_goto (by decide) dX10_shift_159)))) (ax_nd_ok (ax_nd_ok (ax_lf_ok (ak_lload dX10_shift_162)) (ax_lf_ok (ak_lstore (by decide) dX10_shift_164))) (ax_nd_ok (ax_lf_ok (ak_iinc (by decide) (by decide) dX10_shift_166)) (ax_lf_ok (ak_goto (by decide) dX10_shift_169))))))) (ax_nd_ok (ax_nd_ok (ax_nd_ok (ax_nd_ok (ax_lf_ok (ak_iload_n rfl dX10_shift_172)) (ax_nd_ok (ax_lf_ok (ak_iconst (by decide) dX10_shift_173)) (ax_lf_ok (ak_icmp_le (by decide) dX10_shift_174)))) (ax_nd_ok (ax_nd_ok (ax_lf_ok (ak_lload dX10_shift_177)) (ax_lf_ok (ak_aload_n rfl dX10_shift_179))) (ax_nd_ok (ax_lf_ok (ak_gi fF_X10_279 dX10_shift_180)) (ax_lf_ok (ak_i2l dX10_shift_183))))) (ax_nd_ok (ax_nd_ok (ax_nd_ok (ax_lf_ok (ak_iload_n rfl dX10_shift_184)) (ax_lf_ok (ak_iconst (by decide) dX10_shift_185))) (ax_nd_ok (ax_lf_ok (ak_icmp_ne (by decide) dX10_shift_186)) (ax_lf_ok (ak_iconst (by decide) dX10_shift_189)))) (ax_nd_ok (ax_nd_ok (ax_lf_ok (ak_goto (by decide) dX10_shift_190)) (ax_lf_ok (ak_iconst (by decide) dX10_shift_193))) (ax_nd_ok (ax_lf_ok (ak_invS (by decide) (by decide) wd_1416 wd_1417 wd_106 wd_1418 ⟨by decide, by decide, by decide +kernel⟩ dX10_shift_194)) (ax_lf_ok (ak_l2i dX10_shift_197)))))) (ax_nd_ok (ax_nd_ok (ax_nd_ok (ax_nd_ok (ax_lf_ok (ak_iret rfl dX10_shift_198)) (ax_lf_ok (ak_iload dX10_shift_199))) (ax_nd_ok (ax_lf_ok (ak_iconst (by decide) dX10_shift_201)) (ax_lf_ok (ak_icmp_ne (by decide) dX10_shift_202)))) (ax_nd_ok (ax_nd_ok (ax_lf_ok (ak_iconst (by decide) dX10_shift_205)) (ax_lf_ok (ak_goto (by decide) dX10_shift_206))) (ax_nd_ok (ax_lf_ok (ak_iload_n rfl dX10_shift_209)) (ax_lf_ok (ak_if_ne (by decide) dX10_shift_210))))) (ax_nd_ok (ax_nd_ok (ax_nd_ok (ax_lf_ok (ak_iload dX10_shift_213)) (ax_lf_ok (ak_bipush (by decide) dX10_shift_215))) (ax_nd_ok (ax_lf_ok (ak_idiv dX10_shift_217)) (ax_lf_ok (ak_goto (by decide) dX10_shift_218)))) (ax_nd_ok (ax_nd_ok (ax_lf_ok (ak_iload dX10_shift_221)) (ax_lf_ok (ak_bipush (by decide) dX10_shift_223))) (ax_nd_ok (ax_lf_ok (ak_irem dX10_shift_225)) (ax_lf_ok (ak_iret rfl dX10_shift_226))))))))
abbrev mX10_shift (g : ax_G) (as : List Value) (h : ax_H) (Ret : Option Value → ax_H → Prop) : Prop := ax_M g 8 0 0 yX10_shift cX10_shift 12 (some .int) as h Ret
theorem dX10_apart_0 : decode cX10_apart 0 = .ok (.iconst 0, 1) := by decide +kernel
theorem dX10_apart_1 : decode cX10_apart 1 = .ok (.istore_n 3, 1) := by decide +kernel
theorem dX10_apart_2 : decode cX10_apart 2 = .ok (.iconst 0, 1) := by decide +kernel
theorem dX10_apart_3 : decode cX10_apart 3 = .ok (.istore 4, 2) := by decide +kernel
theorem dX10_apart_5 : decode cX10_apart 5 = .ok (.iload 4, 2) := by decide +kernel
theorem dX10_apart_7 : decode cX10_apart 7 = .ok (.aload_n 0, 1) := by decide +kernel
theorem dX10_apart_8 : decode cX10_apart 8 = .ok (.getfield 276, 3) := by decide +kernel
theorem dX10_apart_11 : decode cX10_apart 11 = .ok (.if_icmp .ge 52, 3) := by decide +kernel
theorem dX10_apart_14 : decode cX10_apart 14 = .ok (.aload_n 0, 1) := by decide +kernel
theorem dX10_apart_15 : decode cX10_apart 15 = .ok (.getfield 53, 3) := by decide +kernel
theorem dX10_apart_18 : decode cX10_apart 18 = .ok (.bipush 12, 2) := by decide +kernel
theorem dX10_apart_20 : decode cX10_apart 20 = .ok (.iload 4, 2) := by decide +kernel
theorem dX10_apart_22 : decode cX10_apart 22 = .ok (.imul, 1) := by decide +kernel
theorem dX10_apart_23 : decode cX10_apart 23 = .ok (.iload_n 1, 1) := by decide +kernel
theorem dX10_apart_24 : decode cX10_apart 24 = .ok (.iadd, 1) := by decide +kernel
theorem dX10_apart_25 : decode cX10_apart 25 = .ok (.iaload, 1) := by decide +kernel
theorem dX10_apart_26 : decode cX10_apart 26 = .ok (.aload_n 0, 1) := by decide +kernel
theorem dX10_apart_27 : decode cX10_apart 27 = .ok (.getfield 53, 3) := by decide +kernel
theorem dX10_apart_30 : decode cX10_apart 30 = .ok (.bipush 12, 2) := by decide +kernel
theorem dX10_apart_32 : decode cX10_apart 32 = .ok (.iload 4, 2) := by decide +kernel
theorem dX10_apart_34 : decode cX10_apart 34 = .ok (.imul, 1) := by decide +kernel
theorem dX10_apart_35 : decode cX10_apart 35 = .ok (.iload_n 2, 1) := by decide +kernel
theorem dX10_apart_36 : decode cX10_apart 36 = .ok (.iadd, 1) := by decide +kernel
theorem dX10_apart_37 : decode cX10_apart 37 = .ok (.iaload, 1) := by decide +kernel
theorem dX10_apart_38 : decode cX10_apart 38 = .ok (.isub, 1) := by decide +kernel
theorem dX10_apart_39 : decode cX10_apart 39 = .ok (.istore 5, 2) := by decide +kernel
theorem dX10_apart_41 : decode cX10_apart 41 = .ok (.iload_n 3, 1) := by decide +kernel
theorem dX10_apart_42 : decode cX10_apart 42 = .ok (.iload 5, 2) := by decide +kernel
theorem dX10_apart_44 : decode cX10_apart 44 = .ok (.ifCond .ge 9, 3) := by decide +kernel
theorem dX10_apart_47 : decode cX10_apart 47 = .ok (.iload 5, 2) := by decide +kernel
theorem dX10_apart_49 : decode cX10_apart 49 = .ok (.ineg, 1) := by decide +kernel
theorem dX10_apart_50 : decode cX10_apart 50 = .ok (.goto 5, 3) := by decide +kernel
theorem dX10_apart_53 : decode cX10_apart 53 = .ok (.iload 5, 2) := by decide +kernel
theorem dX10_apart_55 : decode cX10_apart 55 = .ok (.iadd, 1) := by decide +kernel
theorem dX10_apart_56 : decode cX10_apart 56 = .ok (.istore_n 3, 1) := by decide +kernel
theorem dX10_apart_57 : decode cX10_apart 57 = .ok (.iinc 4 1, 3) := by decide +kernel
theorem dX10_apart_60 : decode cX10_apart 60 = .ok (.goto (-55), 3) := by decide +kernel
theorem dX10_apart_63 : decode cX10_apart 63 = .ok (.iload_n 3, 1) := by decide +kernel
theorem dX10_apart_64 : decode cX10_apart 64 = .ok (.ireturn, 1) := by decide +kernel
def tX10_apart (g : ax_G) : Nat → ax_O := ax_nd 30 (ax_nd 14 (ax_nd 3 (ax_nd 1 (ax_nd 0 (ax_lf 0 (ao_ic (0) 1)) (ax_lf 1 (ao_is 3 1))) (ax_nd 2 (ax_lf 2 (ao_ic (0) 1)) (ax_lf 3 (ao_is 4 2)))) (ax_nd 7 (ax_nd 5 (ax_lf 5 (ao_il 4 2)) (ax_lf 7 (ao_al 0 1))) (ax_nd 8 (ax_lf 8 (ao_gi 10 27)) (ax_nd 11 (ax_lf 11 (ao_icmp_ge 63)) (ax_lf 14 (ao_al 0 1)))))) (ax_nd 23 (ax_nd 18 (ax_nd 15 (ax_lf 15 (ao_gr 10 30)) (ax_lf 18 (ao_ic (12) 2))) (ax_nd 20 (ax_lf 20 (ao_il 4 2)) (ax_nd 22 (ax_lf 22 ao_imul) (ax_lf 23 (ao_il 1 1))))) (ax_nd 25 (ax_nd 24 (ax_lf 24 ao_iadd) (ax_lf 25 ao_iald)) (ax_nd 26 (ax_lf 26 (ao_al 0 1)) (ax_nd 27 (ax_lf 27 (ao_gr 10 30)) (ax_lf 30 (ao_ic (12) 2))))))) (ax_nd 44 (ax_nd 37 (ax_nd 34 (ax_nd 32 (ax_lf 32 (ao_il 4 2)) (ax_lf 34 ao_imul)) (ax_nd 35 (ax_lf 35 (ao_il 2 1)) (ax_nd 36 (ax_lf 36 ao_iadd) (ax_lf 37 ao_iald)))) (ax_nd 39 (ax_nd 38 (ax_lf 38 ao_isub) (ax_lf 39 (ao_is 5 2))) (ax_nd 41 (ax_lf 41 (ao_il 3 1)) (ax_nd 42 (ax_lf 42 (ao_il 5 2)) (ax_lf 44 (ao_if_ge 53)))))) (ax_nd 55 (ax_nd 49 (ax_nd 47 (ax_lf 47 (ao_il 5 2)) (ax_lf 49 ao_ineg)) (ax_nd 50 (ax_lf 50 (ao_goto 55)) (ax_nd 53 (ax_lf 53 (ao_il 5 2)) (ax_lf 55 ao_iadd)))) (ax_nd 57 (ax_nd 56 (ax_lf 56 (ao_is 3 1)) (ax_lf 57 (ao_iinc 4 (1)))) (ax_nd 60 (ax_lf 60 (ao_goto 5)) (ax_nd 63 (ax_lf 63 (ao_il 3 1)) (ax_lf 64 (ao_iret 0 0)))))))
theorem oX10_apart (g : ax_G) : ∀ pc, ax_ok g cX10_apart 6 (some .int) RX10 "apart" 1 0 0 pc (tX10_apart g pc) := ax_nd_ok (ax_nd_ok (ax_nd_ok (ax_nd_ok (ax_nd_ok (ax_lf_ok (ak_iconst (by decide) dX10_apart_0)) (ax_lf_ok (ak_istore_n rfl (by decide) dX10_apart_1))) (ax_nd_ok (ax_lf_ok (ak_iconst (by decide) dX10_apart_2)) (ax_lf_ok (ak_istore (by decide) dX10_apart_3)))) (ax_nd_ok (ax_nd_ok (ax_lf_ok (ak_iload dX10_apart_5)) (ax_lf_ok (ak_aload_n rfl dX10_apart_7))) (ax_nd_ok (ax_lf_ok (ak_gi fF_X10_276 dX10_apart_8)) (ax_nd_ok (ax_lf_ok (ak_icmp_ge (by decide) dX10_apart_11)) (ax_lf_ok (ak_aload_n rfl dX10_apart_14)))))) (ax_nd_ok (ax_nd_ok (ax_nd_ok (ax_lf_ok (ak_gr fF_X10_53 dX10_apart_15)) (ax_lf_ok (ak_bipush (by decide) dX10_apart_18))) (ax_nd_ok (ax_lf_ok (ak_iload dX10_apart_20)) (ax_nd_ok (ax_lf_ok (ak_imul dX10_apart_22)) (ax_lf_ok (ak_iload_n rfl dX10_apart_23))))) (ax_nd_ok (ax_nd_ok (ax_lf_ok (ak_iadd dX10_apart_24)) (ax_lf_ok (ak_iald dX10_apart_25))) (ax_nd_ok (ax_lf_ok (ak_aload_n rfl dX10_apart_26)) (ax_nd_ok (ax_lf_ok (ak_gr fF_X10_53 dX10_apart_27)) (ax_lf_ok (ak_bipush (by decide) dX10_apart_30))))))) (ax_nd_ok (ax_nd_ok (ax_nd_ok (ax_nd_ok (ax_lf_ok (ak_iload dX10_apart_32)) (ax_lf_ok (ak_imul dX10_apart_34))) (ax_nd_ok (ax_lf_ok (ak_iload_n rfl dX10_apart_35)) (ax_nd_ok (ax_lf_ok (ak_iadd dX10_apart_36)) (ax_lf_ok (ak_iald dX10_apart_37))))) (ax_nd_ok (ax_nd_ok (ax_lf_ok (ak_isub dX10_apart_38)) (ax_lf_ok (ak_istore (by decide) dX10_apart_39))) (ax_nd_ok (ax_lf_ok (ak_iload_n rfl dX10_apart_41)) (ax_nd_ok (ax_lf_ok (ak_iload dX10_apart_42)) (ax_lf_ok (ak_if_ge (by decide) dX10_apart_44)))))) (ax_nd_ok (ax_nd_ok (ax_nd_ok (ax_lf_ok (ak_iload dX10_apart_47)) (ax_lf_ok (ak_ineg dX10_apart_49))) (ax_nd_ok (ax_lf_ok (ak_goto (by decide) dX10_apart_50)) (ax_nd_ok (ax_lf_ok (ak_iload dX10_apart_53)) (ax_lf_ok (ak_iadd dX10_apart_55))))) (ax_nd_ok (ax_nd_ok (ax_lf_ok (ak_istore_n rfl (by decide) dX10_apart_56)) (ax_lf_ok (ak_iinc (by decide) (by decide) dX10_apart_57))) (ax_nd_ok (ax_lf_ok (ak_goto (by decide) dX10_apart_60)) (ax_nd_ok (ax_lf_ok (ak_iload_n rfl dX10_apart_63)) (ax_lf_ok (ak_iret rfl dX10_apart_64)))))))
abbrev mX10_apart (g : ax_G) (as : List Value) (h : ax_H) (Ret : Option Value → ax_H → Prop) : Prop := ax_M g 1 0 0 yX10_apart cX10_apart 6 (some .int) as h Ret
theorem dX10_feud_0 : decode cX10_feud 0 = .ok (.aload_n 0, 1) := by decide +kernel
theorem dX10_feud_1 : decode cX10_feud 1 = .ok (.iconst 0, 1) := by decide +kernel
theorem dX10_feud_2 : decode cX10_feud 2 = .ok (.putfield 88, 3) := by decide +kernel
theorem dX10_feud_5 : decode cX10_feud 5 = .ok (.iload_n 2, 1) := by decide +kernel
theorem dX10_feud_6 : decode cX10_feud 6 = .ok (.iconst 0, 1) := by decide +kernel
theorem dX10_feud_7 : decode cX10_feud 7 = .ok (.iconst 2, 1) := by decide +kernel
theorem dX10_feud_8 : decode cX10_feud 8 = .ok (.invokestatic 96, 3) := by decide +kernel
theorem dX10_feud_11 : decode cX10_feud 11 = .ok (.ifCond .eq 11, 3) := by decide +kernel
theorem dX10_feud_14 : decode cX10_feud 14 = .ok (.aload_n 0, 1) := by decide +kernel
theorem dX10_feud_15 : decode cX10_feud 15 = .ok (.iload_n 1, 1) := by decide +kernel
theorem dX10_feud_16 : decode cX10_feud 16 = .ok (.invokevirtual 288, 3) := by decide +kernel
theorem dX10_feud_19 : decode cX10_feud 19 = .ok (.ifCond .ne 5, 3) := by decide +kernel
theorem dX10_feud_22 : decode cX10_feud 22 = .ok (.iconst (-1), 1) := by decide +kernel
theorem dX10_feud_23 : decode cX10_feud 23 = .ok (.ireturn, 1) := by decide +kernel
theorem dX10_feud_24 : decode cX10_feud 24 = .ok (.iconst (-1), 1) := by decide +kernel
theorem dX10_feud_25 : decode cX10_feud 25 = .ok (.istore_n 3, 1) := by decide +kernel
theorem dX10_feud_26 : decode cX10_feud 26 = .ok (.iconst (-1), 1) := by decide +kernel
theorem dX10_feud_27 : decode cX10_feud 27 = .ok (.istore 4, 2) := by decide +kernel
theorem dX10_feud_29 : decode cX10_feud 29 = .ok (.iconst 0, 1) := by decide +kernel
theorem dX10_feud_30 : decode cX10_feud 30 = .ok (.istore 5, 2) := by decide +kernel
theorem dX10_feud_32 : decode cX10_feud 32 = .ok (.iload 5, 2) := by decide +kernel
theorem dX10_feud_34 : decode cX10_feud 34 = .ok (.aload_n 0, 1) := by decide +kernel
theorem dX10_feud_35 : decode cX10_feud 35 = .ok (.getfield 263, 3) := by decide +kernel
theorem dX10_feud_38 : decode cX10_feud 38 = .ok (.if_icmp .ge 71, 3) := by decide +kernel
theorem dX10_feud_41 : decode cX10_feud 41 = .ok (.iload 5, 2) := by decide +kernel
theorem dX10_feud_43 : decode cX10_feud 43 = .ok (.iconst 1, 1) := by decide +kernel
theorem dX10_feud_44 : decode cX10_feud 44 = .ok (.iadd, 1) := by decide +kernel
theorem dX10_feud_45 : decode cX10_feud 45 = .ok (.istore 6, 2) := by decide +kernel
theorem dX10_feud_47 : decode cX10_feud 47 = .ok (.iload 6, 2) := by decide +kernel
theorem dX10_feud_49 : decode cX10_feud 49 = .ok (.aload_n 0, 1) := by decide +kernel
theorem dX10_feud_50 : decode cX10_feud 50 = .ok (.getfield 263, 3) := by decide +kernel
theorem dX10_feud_53 : decode cX10_feud 53 = .ok (.if_icmp .ge 50, 3) := by decide +kernel
theorem dX10_feud_56 : decode cX10_feud 56 = .ok (.aload_n 0, 1) := by decide +kernel
theorem dX10_feud_57 : decode cX10_feud 57 = .ok (.iload 5, 2) := by decide +kernel
theorem dX10_feud_59 : decode cX10_feud 59 = .ok (.iload 6, 2) := by decide +kernel
theorem dX10_feud_61 : decode cX10_feud 61 = .ok (.invokevirtual 362, 3) := by decide +kernel
theorem dX10_feud_64 : decode cX10_feud 64 = .ok (.iload 4, 2) := by decide +kernel
theorem dX10_feud_66 : decode cX10_feud 66 = .ok (.if_icmp .le 14, 3) := by decide +kernel
theorem dX10_feud_69 : decode cX10_feud 69 = .ok (.bipush 12, 2) := by decide +kernel
theorem dX10_feud_71 : decode cX10_feud 71 = .ok (.iload 5, 2) := by decide +kernel
theorem dX10_feud_73 : decode cX10_feud 73 = .ok (.imul, 1) := by decide +kernel
theorem dX10_feud_74 : decode cX10_feud 74 = .ok (.iload 6, 2) := by decide +kernel
theorem dX10_feud_76 : decode cX10_feud 76 = .ok (.iadd, 1) := by decide +kernel
theorem dX10_feud_77 : decode cX10_feud 77 = .ok (.goto 4, 3) := by decide +kernel
theorem dX10_feud_80 : decode cX10_feud 80 = .ok (.iload_n 3, 1) := by decide +kernel
theorem dX10_feud_81 : decode cX10_feud 81 = .ok (.istore_n 3, 1) := by decide +kernel
theorem dX10_feud_82 : decode cX10_feud 82 = .ok (.iload 4, 2) := by decide +kernel
theorem dX10_feud_84 : decode cX10_feud 84 = .ok (.aload_n 0, 1) := by decide +kernel
theorem dX10_feud_85 : decode cX10_feud 85 = .ok (.iload 5, 2) := by decide +kernel
theorem dX10_feud_87 : decode cX10_feud 87 = .ok (.iload 6, 2) := by decide +kernel
theorem dX10_feud_89 : decode cX10_feud 89 = .ok (.invokevirtual 362, 3) := by decide +kernel
theorem dX10_feud_92 : decode cX10_feud 92 = .ok (.invokestatic 163, 3) := by decide +kernel
theorem dX10_feud_95 : decode cX10_feud 95 = .ok (.istore 4, 2) := by decide +kernel
theorem dX10_feud_97 : decode cX10_feud 97 = .ok (.iinc 6 1, 3) := by decide +kernel
theorem dX10_feud_100 : decode cX10_feud 100 = .ok (.goto (-53), 3) := by decide +kernel
theorem dX10_feud_103 : decode cX10_feud 103 = .ok (.iinc 5 1, 3) := by decide +kernel
theorem dX10_feud_106 : decode cX10_feud 106 = .ok (.goto (-74), 3) := by decide +kernel
theorem dX10_feud_109 : decode cX10_feud 109 = .ok (.iload_n 2, 1) := by decide +kernel
theorem dX10_feud_110 : decode cX10_feud 110 = .ok (.ifCond .ne 10, 3) := by decide +kernel
theorem dX10_feud_113 : decode cX10_feud 113 = .ok (.iload_n 3, 1) := by decide +kernel
theorem dX10_feud_114 : decode cX10_feud 114 = .ok (.bipush 12, 2) := by decide +kernel
theorem dX10_feud_116 : decode cX10_feud 116 = .ok (.idiv, 1) := by decide +kernel
theorem dX10_feud_117 : decode cX10_feud 117 = .ok (.goto 17, 3) := by decide +kernel
theorem dX10_feud_120 : decode cX10_feud 120 = .ok (.iload_n 2, 1) := by decide +kernel
theorem dX10_feud_121 : decode cX10_feud 121 = .ok (.iconst 1, 1) := by decide +kernel
theorem dX10_feud_122 : decode cX10_feud 122 = .ok (.if_icmp .ne 10, 3) := by decide +kernel
theorem dX10_feud_125 : decode cX10_feud 125 = .ok (.iload_n 3, 1) := by decide +kernel
theorem dX10_feud_126 : decode cX10_feud 126 = .ok (.bipush 12, 2) := by decide +kernel
theorem dX10_feud_128 : decode cX10_feud 128 = .ok (.irem, 1) := by decide +kernel
theorem dX10_feud_129 : decode cX10_feud 129 = .ok (.goto 5, 3) := by decide +kernel
theorem dX10_feud_132 : decode cX10_feud 132 = .ok (.iload 4, 2) := by decide +kernel
theorem dX10_feud_134 : decode cX10_feud 134 = .ok (.ireturn, 1) := by decide +kernel
def tX10_feud (g : ax_G) : Nat → ax_O := ax_nd 61 (ax_nd 27 (ax_nd 14 (ax_nd 5 (ax_nd 1 (ax_nd 0 (ax_lf 0 (ao_al 0 1)) (ax_lf 1 (ao_ic (0) 1))) (ax_nd 2 (ax_lf 2 (ao_pi 10 0)) (ax_lf 5 (ao_il 2 1)))) (ax_nd 7 (ax_nd 6 (ax_lf 6 (ao_ic (0) 1)) (ax_lf 7 (ao_ic (2) 1))) (ax_nd 8 (ax_lf 8 (ao_inv g 1 99 1 yX10_in cX10_in 3 (some .boolean) 3 0 0 0 0)) (ax_nd 11 (ax_lf 11 (ao_if_eq 22)) (ax_lf 14 (ao_al 0 1)))))) (ax_nd 22 (ax_nd 16 (ax_nd 15 (ax_lf 15 (ao_il 1 1)) (ax_lf 16 (ao_inv g 6 10 1 yX10_hand cX10_hand 4 (some .boolean) 2 0 0 0 0))) (ax_nd 19 (ax_lf 19 (ao_if_ne 24)) (ax_lf 22 (ao_ic (-1) 1)))) (ax_nd 24 (ax_nd 23 (ax_lf 23 (ao_iret 0 0)) (ax_lf 24 (ao_ic (-1) 1))) (ax_nd 25 (ax_lf 25 (ao_is 3 1)) (ax_nd 26 (ax_lf 26 (ao_ic (-1) 1)) (ax_lf 27 (ao_is 4 2))))))) (ax_nd 44 (ax_nd 34 (ax_nd 30 (ax_nd 29 (ax_lf 29 (ao_ic (0) 1)) (ax_lf 30 (ao_is 5 2))) (ax_nd 32 (ax_lf 32 (ao_il 5 2)) (ax_lf 34 (ao_al 0 1)))) (ax_nd 38 (ax_nd 35 (ax_lf 35 (ao_gi 10 26)) (ax_lf 38 (ao_icmp_ge 109))) (ax_nd 41 (ax_lf 41 (ao_il 5 2)) (ax_nd 43 (ax_lf 43 (ao_ic (1) 1)) (ax_lf 44 ao_iadd))))) (ax_nd 50 (ax_nd 47 (ax_nd 45 (ax_lf 45 (ao_is 6 2)) (ax_lf 47 (ao_il 6 2))) (ax_nd 49 (ax_lf 49 (ao_al 0 1)) (ax_lf 50 (ao_gi 10 26)))) (ax_nd 56 (ax_nd 53 (ax_lf 53 (ao_icmp_ge 103)) (ax_lf 56 (ao_al 0 1))) (ax_nd 57 (ax_lf 57 (ao_il 5 2)) (ax_nd 59 (ax_lf 59 (ao_il 6 2)) (ax_lf 61 (ao_inv g 1 10 1 yX10_apart cX10_apart 6 (some .int) 3 0 0 0 0)))))))) (ax_nd 97 (ax_nd 80 (ax_nd 71 (ax_nd 66 (ax_nd 64 (ax_lf 64 (ao_il 4 2)) (ax_lf 66 (ao_icmp_le 80))) (ax_nd 69 (ax_lf 69 (ao_ic (12) 2)) (ax_lf 71 (ao_il 5 2)))) (ax_nd 74 (ax_nd 73 (ax_lf 73 ao_imul) (ax_lf 74 (ao_il 6 2))) (ax_nd 76 (ax_lf 76 ao_iadd) (ax_nd 77 (ax_lf 77 (ao_goto 81)) (ax_lf 80 (ao_il 3 1)))))) (ax_nd 85 (ax_nd 82 (ax_nd 81 (ax_lf 81 (ao_is 3 1)) (ax_lf 82 (ao_il 4 2))) (ax_nd 84 (ax_lf 84 (ao_al 0 1)) (ax_lf 85 (ao_il 5 2)))) (ax_nd 89 (ax_nd 87 (ax_lf 87 (ao_il 6 2)) (ax_lf 89 (ao_inv g 1 10 1 yX10_apart cX10_apart 6 (some .int) 3 0 0 0 0))) (ax_nd 92 (ax_lf 92 (ao_inv g 1 99 1 yX10_greater cX10_greater 2 (some .int) 2 0 0 0 0)) (ax_nd 95 (ax_lf 95 (ao_is 4 2)) (ax_lf 97 (ao_iinc 6 (1)))))))) (ax_nd 117 (ax_nd 109 (ax_nd 103 (ax_nd 100 (ax_lf 100 (ao_goto 47)) (ax_lf 103 (ao_iinc 5 (1)))) (ax_nd 106 (ax_lf 106 (ao_goto 32)) (ax_lf 109 (ao_il 2 1)))) (ax_nd 113 (ax_nd 110 (ax_lf 110 (ao_if_ne 120)) (ax_lf 113 (ao_il 3 1))) (ax_nd 114 (ax_lf 114 (ao_ic (12) 2)) (ax_nd 116 (ax_lf 116 ao_idiv) (ax_lf 117 (ao_goto 134)))))) (ax_nd 125 (ax_nd 121 (ax_nd 120 (ax_lf 120 (ao_il 2 1)) (ax_lf 121 (ao_ic (1) 1))) (ax_nd 122 (ax_lf 122 (ao_icmp_ne 132)) (ax_lf 125 (ao_il 3 1)))) (ax_nd 128 (ax_nd 126 (ax_lf 126 (ao_ic (12) 2)) (ax_lf 128 ao_irem)) (ax_nd 129 (ax_lf 129 (ao_goto 134)) (ax_nd 132 (ax_lf 132 (ao_il 4 2)) (ax_lf 134 (ao_iret 0 0))))))))
theorem oX10_feud (g : ax_G) : ∀ pc, ax_ok g cX10_feud 7 (some .int) RX10 "feud" 7 0 0 pc (tX10_feud g pc) := ax_nd_ok (ax_nd_ok (ax_nd_ok (ax_nd_ok (ax_nd_ok (ax_nd_ok (ax_lf_ok (ak_aload_n rfl dX10_feud_0)) (ax_lf_ok (ak_iconst (by decide) dX10_feud_1))) (ax_nd_ok (ax_lf_ok (ak_pi fF_X10_88 fW_X10_88_a dX10_feud_2)) (ax_lf_ok (ak_iload_n rfl dX10_feud_5)))) (ax_nd_ok (ax_nd_ok (ax_lf_ok (ak_iconst (by decide) dX10_feud_6)) (ax_lf_ok (ak_iconst (by decide) dX10_feud_7))) (ax_nd_ok (ax_lf_ok (ak_invS (by decide) (by decide) wd_1244 wd_1245 wd_106 wd_1246 ⟨by decide, by decide, by decide +kernel⟩ dX10_feud_8)) (ax_nd_ok (ax_lf_ok (ak_if_eq (by decide) dX10_feud_11)) (ax_lf_ok (ak_aload_n rfl dX10_feud_14)))))) (ax_nd_ok (ax_nd_ok (ax_nd_ok (ax_lf_ok (ak_iload_n rfl dX10_feud_15)) (ax_lf_ok (ak_invV (by decide) (by decide) (by decide) rfl wd_1356 wd_1358 wd_44 wd_106 wd_1359 ⟨by decide, by decide, by decide +kernel⟩ dX10_feud_16))) (ax_nd_ok (ax_lf_ok (ak_if_ne (by decide) dX10_feud_19)) (ax_lf_ok (ak_iconst (by decide) dX10_feud_22)))) (ax_nd_ok (ax_nd_ok (ax_lf_ok (ak_iret rfl dX10_feud_23)) (ax_lf_ok (ak_iconst (by decide) dX10_feud_24))) (ax_nd_ok (ax_lf_ok (ak_istore_n rfl (by decide) dX10_feud_25)) (ax_nd_ok (ax_lf_ok (ak_iconst (by decide) dX10_feud_26)) (ax_lf_ok (ak_istore (by decide) dX10_feud_27))))))) (ax_nd_ok (ax_nd_ok (ax_nd_ok (ax_nd_ok (ax_lf_ok (ak_iconst (by decide) dX10_feud_29)) (ax_lf_ok (ak_istore (by decide) dX10_feud_30))) (ax_nd_ok (ax_lf_ok (ak_iload dX10_feud_32)) (ax_lf_ok (ak_aload_n rfl dX10_feud_34)))) (ax_nd_ok (ax_nd_ok (ax_lf_ok (ak_gi fF_X10_263 dX10_feud_35)) (ax_lf_ok (ak_icmp_ge (by decide) dX10_feud_38))) (ax_nd_ok (ax_lf_ok (ak_iload dX10_feud_41)) (ax_nd_ok (ax_lf_ok (ak_iconst (by decide) dX10_feud_43)) (ax_lf_ok (ak_iadd dX10_feud_44)))))) (ax_nd_ok (ax_nd_ok (ax_nd_ok (ax_lf_ok (ak_istore (by decide) dX10_feud_45)) (ax_lf_ok (ak_iload dX10_feud_47))) (ax_nd_ok (ax_lf_ok (ak_aload_n rfl dX10_feud_49)) (ax_lf_ok (ak_gi fF_X10_263 dX10_feud_50)))) (ax_nd_ok (ax_nd_ok (ax_lf_ok (ak_icmp_ge (by decide) dX10_feud_53)) (ax_lf_ok (ak_aload_n rfl dX10_feud_56))) (ax_nd_ok (ax_lf_ok (ak_iload dX10_feud_57)) (ax_nd_ok (ax_lf_ok (ak_iload dX10_feud_59)) (ax_lf_ok (ak_invV (by decide) (by decide) (by decide) rfl wd_1516 wd_1518 wd_66 wd_106 wd_1519 ⟨by decide, by decide, by decide +kernel⟩ dX10_feud_61)))))))) (ax_nd_ok (ax_nd_ok (ax_nd_ok (ax_nd_ok (ax_nd_ok (ax_lf_ok (ak_iload dX10_feud_64)) (ax_lf_ok (ak_icmp_le (by decide) dX10_feud_66))) (ax_nd_ok (ax_lf_ok (ak_bipush (by decide) dX10_feud_69)) (ax_lf_ok (ak_iload dX10_feud_71)))) (ax_nd_ok (ax_nd_ok (ax_lf_ok (ak_imul dX10_feud_73)) (ax_lf_ok (ak_iload dX10_feud_74))) (ax_nd_ok (ax_lf_ok (ak_iadd dX10_feud_76)) (ax_nd_ok (ax_lf_ok (ak_goto (by decide) dX10_feud_77)) (ax_lf_ok (ak_iload_n rfl dX10_feud_80)))))) (ax_nd_ok (ax_nd_ok (ax_nd_ok (ax_lf_ok (ak_istore_n rfl (by decide) dX10_feud_81)) (ax_lf_ok (ak_iload dX10_feud_82))) (ax_nd_ok (ax_lf_ok (ak_aload_n rfl dX10_feud_84)) (ax_lf_ok (ak_iload dX10_feud_85)))) (ax_nd_ok (ax_nd_ok (ax_lf_ok (ak_iload dX10_feud_87)) (ax_lf_ok (ak_invV (by decide) (by decide) (by decide) rfl wd_1516 wd_1518 wd_66 wd_106 wd_1519 ⟨by decide, by decide, by decide +kernel⟩ dX10_feud_89))) (ax_nd_ok (ax_lf_ok (ak_invS (by decide) (by decide) wd_1312 wd_1313 wd_106 wd_1314 ⟨by decide, by decide, by decide +kernel⟩ dX10_feud_92)) (ax_nd_ok (ax_lf_ok (ak_istore (by decide) dX10_feud_95)) (ax_lf_ok (ak_iinc (by decide) (by decide) dX10_feud_97))))))) (ax_nd_ok (ax_nd_ok (ax_nd_ok (ax_nd_ok (ax_lf_ok (ak_goto (by decide) dX10_feud_100)) (ax_lf_ok (ak_iinc (by decide) (by decide) dX10_feud_103))) (ax_nd_ok (ax_lf_ok (ak_goto (by decide) dX10_feud_106)) (ax_lf_ok (ak_iload_n rfl dX10_feud_109)))) (ax_nd_ok (ax_nd_ok (ax_lf_ok (ak_if_ne (by decide) dX10_feud_110)) (ax_lf_ok (ak_iload_n rfl dX10_feud_113))) (ax_nd_ok (ax_lf_ok (ak_bipush (by decide) dX10_feud_114)) (ax_nd_ok (ax_lf_ok (ak_idiv dX10_feud_116)) (ax_lf_ok (ak_goto (by decide) dX10_feud_117)))))) (ax_nd_ok (ax_nd_ok (ax_nd_ok (ax_lf_ok (ak_iload_n rfl dX10_feud_120)) (ax_lf_ok (ak_iconst (by decide) dX10_feud_121))) (ax_nd_ok (ax_lf_ok (ak_icmp_ne (by decide) dX10_feud_122)) (ax_lf_ok (ak_iload_n rfl dX10_feud_125)))) (ax_nd_ok (ax_nd_ok (ax_lf_ok (ak_bipush (by decide) dX10_feud_126)) (ax_lf_ok (ak_irem dX10_feud_128))) (ax_nd_ok (ax_lf_ok (ak_goto (by decide) dX10_feud_129)) (ax_nd_ok (ax_lf_ok (ak_iload dX10_feud_132)) (ax_lf_ok (ak_iret rfl dX10_feud_134))))))))
abbrev mX10_feud (g : ax_G) (as : List Value) (h : ax_H) (Ret : Option Value → ax_H → Prop) : Prop := ax_M g 7 0 0 yX10_feud cX10_feud 7 (some .int) as h Ret
theorem dX10_errandOf_0 : decode cX10_errandOf 0 = .ok (.aload_n 0, 1) := by decide +kernel
theorem dX10_errandOf_1 : decode cX10_errandOf 1 = .ok (.getfield 32, 3) := by decide +kernel
theorem dX10_errandOf_4 : decode cX10_errandOf 4 = .ok (.bipush 19, 2) := by decide +kernel
theorem dX10_errandOf_6 : decode cX10_errandOf 6 = .ok (.aload_n 0, 1) := by decide +kernel
theorem dX10_errandOf_7 : decode cX10_errandOf 7 = .ok (.getfield 365, 3) := by decide +kernel
theorem dX10_errandOf_10 : decode cX10_errandOf 10 = .ok (.imul, 1) := by decide +kernel
theorem dX10_errandOf_11 : decode cX10_errandOf 11 = .ok (.iconst 1, 1) := by decide +kernel
theorem dX10_errandOf_12 : decode cX10_errandOf 12 = .ok (.iadd, 1) := by decide +kernel
theorem dX10_errandOf_13 : decode cX10_errandOf 13 = .ok (.iconst 3, 1) := by decide +kernel
theorem dX10_errandOf_14 : decode cX10_errandOf 14 = .ok (.iload_n 1, 1) := by decide +kernel
theorem dX10_errandOf_15 : decode cX10_errandOf 15 = .ok (.imul, 1) := by decide +kernel
theorem dX10_errandOf_16 : decode cX10_errandOf 16 = .ok (.iadd, 1) := by decide +kernel
theorem dX10_errandOf_17 : decode cX10_errandOf 17 = .ok (.iload_n 2, 1) := by decide +kernel
theorem dX10_errandOf_18 : decode cX10_errandOf 18 = .ok (.iadd, 1) := by decide +kernel
theorem dX10_errandOf_19 : decode cX10_errandOf 19 = .ok (.iaload, 1) := by decide +kernel
theorem dX10_errandOf_20 : decode cX10_errandOf 20 = .ok (.ireturn, 1) := by decide +kernel
def tX10_errandOf (g : ax_G) : Nat → ax_O := ax_nd 12 (ax_nd 6 (ax_nd 1 (ax_nd 0 (ax_lf 0 (ao_al 0 1)) (ax_lf 1 (ao_gr 10 8))) (ax_nd 4 (ax_lf 4 (ao_ic (19) 2)) (ax_lf 6 (ao_al 0 1)))) (ax_nd 10 (ax_nd 7 (ax_lf 7 (ao_gi 10 41)) (ax_lf 10 ao_imul)) (ax_nd 11 (ax_lf 11 (ao_ic (1) 1)) (ax_lf 12 ao_iadd)))) (ax_nd 16 (ax_nd 14 (ax_nd 13 (ax_lf 13 (ao_ic (3) 1)) (ax_lf 14 (ao_il 1 1))) (ax_nd 15 (ax_lf 15 ao_imul) (ax_lf 16 ao_iadd))) (ax_nd 18 (ax_nd 17 (ax_lf 17 (ao_il 2 1)) (ax_lf 18 ao_iadd)) (ax_nd 19 (ax_lf 19 ao_iald) (ax_lf 20 (ao_iret 0 0)))))
theorem oX10_errandOf (g : ax_G) : ∀ pc, ax_ok g cX10_errandOf 3 (some .int) RX10 "errandOf" 1 0 0 pc (tX10_errandOf g pc) := ax_nd_ok (ax_nd_ok (ax_nd_ok (ax_nd_ok (ax_lf_ok (ak_aload_n rfl dX10_errandOf_0)) (ax_lf_ok (ak_gr fF_X10_32 dX10_errandOf_1))) (ax_nd_ok (ax_lf_ok (ak_bipush (by decide) dX10_errandOf_4)) (ax_lf_ok (ak_aload_n rfl dX10_errandOf_6)))) (ax_nd_ok (ax_nd_ok (ax_lf_ok (ak_gi fF_X10_365 dX10_errandOf_7)) (ax_lf_ok (ak_imul dX10_errandOf_10))) (ax_nd_ok (ax_lf_ok (ak_iconst (by decide) dX10_errandOf_11)) (ax_lf_ok (ak_iadd dX10_errandOf_12))))) (ax_nd_ok (ax_nd_ok (ax_nd_ok (ax_lf_ok (ak_iconst (by decide) dX10_errandOf_13)) (ax_lf_ok (ak_iload_n rfl dX10_errandOf_14))) (ax_nd_ok (ax_lf_ok (ak_imul dX10_errandOf_15)) (ax_lf_ok (ak_iadd dX10_errandOf_16)))) (ax_nd_ok (ax_nd_ok (ax_lf_ok (ak_iload_n rfl dX10_errandOf_17)) (ax_lf_ok (ak_iadd dX10_errandOf_18))) (ax_nd_ok (ax_lf_ok (ak_iald dX10_errandOf_19)) (ax_lf_ok (ak_iret rfl dX10_errandOf_20)))))
abbrev mX10_errandOf (g : ax_G) (as : List Value) (h : ax_H) (Ret : Option Value → ax_H → Prop) : Prop := ax_M g 1 0 0 yX10_errandOf cX10_errandOf 3 (some .int) as h Ret
theorem dX10_fromOf_0 : decode cX10_fromOf 0 = .ok (.aload_n 0, 1) := by decide +kernel
theorem dX10_fromOf_1 : decode cX10_fromOf 1 = .ok (.getfield 368, 3) := by decide +kernel
theorem dX10_fromOf_4 : decode cX10_fromOf 4 = .ok (.ifCond .eq 7, 3) := by decide +kernel
theorem dX10_fromOf_7 : decode cX10_fromOf 7 = .ok (.iconst 0, 1) := by decide +kernel
theorem dX10_fromOf_8 : decode cX10_fromOf 8 = .ok (.goto 9, 3) := by decide +kernel
theorem dX10_fromOf_11 : decode cX10_fromOf 11 = .ok (.aload_n 0, 1) := by decide +kernel
theorem dX10_fromOf_12 : decode cX10_fromOf 12 = .ok (.iload_n 1, 1) := by decide +kernel
theorem dX10_fromOf_13 : decode cX10_fromOf 13 = .ok (.iconst 1, 1) := by decide +kernel
theorem dX10_fromOf_14 : decode cX10_fromOf 14 = .ok (.invokevirtual 371, 3) := by decide +kernel
theorem dX10_fromOf_17 : decode cX10_fromOf 17 = .ok (.ireturn, 1) := by decide +kernel
def tX10_fromOf (g : ax_G) : Nat → ax_O := ax_nd 8 (ax_nd 1 (ax_nd 0 (ax_lf 0 (ao_al 0 1)) (ax_lf 1 (ao_gi 10 45))) (ax_nd 4 (ax_lf 4 (ao_if_eq 11)) (ax_nd 7 (ax_lf 7 (ao_ic (0) 1)) (ax_lf 8 (ao_goto 17))))) (ax_nd 12 (ax_nd 11 (ax_lf 11 (ao_al 0 1)) (ax_lf 12 (ao_il 1 1))) (ax_nd 13 (ax_lf 13 (ao_ic (1) 1)) (ax_nd 14 (ax_lf 14 (ao_inv g 1 10 1 yX10_errandOf cX10_errandOf 3 (some .int) 3 0 0 0 0)) (ax_lf 17 (ao_iret 0 0)))))
theorem oX10_fromOf (g : ax_G) : ∀ pc, ax_ok g cX10_fromOf 2 (some .int) RX10 "fromOf" 2 0 0 pc (tX10_fromOf g pc) := ax_nd_ok (ax_nd_ok (ax_nd_ok (ax_lf_ok (ak_aload_n rfl dX10_fromOf_0)) (ax_lf_ok (ak_gi fF_X10_368 dX10_fromOf_1))) (ax_nd_ok (ax_lf_ok (ak_if_eq (by decide) dX10_fromOf_4)) (ax_nd_ok (ax_lf_ok (ak_iconst (by decide) dX10_fromOf_7)) (ax_lf_ok (ak_goto (by decide) dX10_fromOf_8))))) (ax_nd_ok (ax_nd_ok (ax_lf_ok (ak_aload_n rfl dX10_fromOf_11)) (ax_lf_ok (ak_iload_n rfl dX10_fromOf_12))) (ax_nd_ok (ax_lf_ok (ak_iconst (by decide) dX10_fromOf_13)) (ax_nd_ok (ax_lf_ok (ak_invV (by decide) (by decide) (by decide) rfl wd_1528 wd_1530 wd_68 wd_106 wd_1531 ⟨by decide, by decide, by decide +kernel⟩ dX10_fromOf_14)) (ax_lf_ok (ak_iret rfl dX10_fromOf_17)))))
abbrev mX10_fromOf (g : ax_G) (as : List Value) (h : ax_H) (Ret : Option Value → ax_H → Prop) : Prop := ax_M g 2 0 0 yX10_fromOf cX10_fromOf 2 (some .int) as h Ret
theorem dX10_toOf_0 : decode cX10_toOf 0 = .ok (.aload_n 0, 1) := by decide +kernel
theorem dX10_toOf_1 : decode cX10_toOf 1 = .ok (.getfield 368, 3) := by decide +kernel
theorem dX10_toOf_4 : decode cX10_toOf 4 = .ok (.ifCond .eq 8, 3) := by decide +kernel
theorem dX10_toOf_7 : decode cX10_toOf 7 = .ok (.bipush 11, 2) := by decide +kernel
theorem dX10_toOf_9 : decode cX10_toOf 9 = .ok (.goto 9, 3) := by decide +kernel
theorem dX10_toOf_12 : decode cX10_toOf 12 = .ok (.aload_n 0, 1) := by decide +kernel
theorem dX10_toOf_13 : decode cX10_toOf 13 = .ok (.iload_n 1, 1) := by decide +kernel
theorem dX10_toOf_14 : decode cX10_toOf 14 = .ok (.iconst 2, 1) := by decide +kernel
theorem dX10_toOf_15 : decode cX10_toOf 15 = .ok (.invokevirtual 371, 3) := by decide +kernel
theorem dX10_toOf_18 : decode cX10_toOf 18 = .ok (.ireturn, 1) := by decide +kernel
def tX10_toOf (g : ax_G) : Nat → ax_O := ax_nd 9 (ax_nd 1 (ax_nd 0 (ax_lf 0 (ao_al 0 1)) (ax_lf 1 (ao_gi 10 45))) (ax_nd 4 (ax_lf 4 (ao_if_eq 12)) (ax_nd 7 (ax_lf 7 (ao_ic (11) 2)) (ax_lf 9 (ao_goto 18))))) (ax_nd 13 (ax_nd 12 (ax_lf 12 (ao_al 0 1)) (ax_lf 13 (ao_il 1 1))) (ax_nd 14 (ax_lf 14 (ao_ic (2) 1)) (ax_nd 15 (ax_lf 15 (ao_inv g 1 10 1 yX10_errandOf cX10_errandOf 3 (some .int) 3 0 0 0 0)) (ax_lf 18 (ao_iret 0 0)))))
theorem oX10_toOf (g : ax_G) : ∀ pc, ax_ok g cX10_toOf 2 (some .int) RX10 "toOf" 2 0 0 pc (tX10_toOf g pc) := ax_nd_ok (ax_nd_ok (ax_nd_ok (ax_lf_ok (ak_aload_n rfl dX10_toOf_0)) (ax_lf_ok (ak_gi fF_X10_368 dX10_toOf_1))) (ax_nd_ok (ax_lf_ok (ak_if_eq (by decide) dX10_toOf_4)) (ax_nd_ok (ax_lf_ok (ak_bipush (by decide) dX10_toOf_7)) (ax_lf_ok (ak_goto (by decide) dX10_toOf_9))))) (ax_nd_ok (ax_nd_ok (ax_lf_ok (ak_aload_n rfl dX10_toOf_12)) (ax_lf_ok (ak_iload_n rfl dX10_toOf_13))) (ax_nd_ok (ax_lf_ok (ak_iconst (by decide) dX10_toOf_14)) (ax_nd_ok (ax_lf_ok (ak_invV (by decide) (by decide) (by decide) rfl wd_1528 wd_1530 wd_68 wd_106 wd_1531 ⟨by decide, by decide, by decide +kernel⟩ dX10_toOf_15)) (ax_lf_ok (ak_iret rfl dX10_toOf_18)))))
abbrev mX10_toOf (g : ax_G) (as : List Value) (h : ax_H) (Ret : Option Value → ax_H → Prop) : Prop := ax_M g 2 0 0 yX10_toOf cX10_toOf 2 (some .int) as h Ret
theorem dX10_hasErrands_0 : decode cX10_hasErrands 0 = .ok (.aload_n 0, 1) := by decide +kernel
theorem dX10_hasErrands_1 : decode cX10_hasErrands 1 = .ok (.iconst 0, 1) := by decide +kernel
theorem dX10_hasErrands_2 : decode cX10_hasErrands 2 = .ok (.putfield 368, 3) := by decide +kernel
theorem dX10_hasErrands_5 : decode cX10_hasErrands 5 = .ok (.aload_n 0, 1) := by decide +kernel
theorem dX10_hasErrands_6 : decode cX10_hasErrands 6 = .ok (.iload_n 1, 1) := by decide +kernel
theorem dX10_hasErrands_7 : decode cX10_hasErrands 7 = .ok (.putfield 365, 3) := by decide +kernel
theorem dX10_hasErrands_10 : decode cX10_hasErrands 10 = .ok (.aload_n 0, 1) := by decide +kernel
theorem dX10_hasErrands_11 : decode cX10_hasErrands 11 = .ok (.aload_n 0, 1) := by decide +kernel
theorem dX10_hasErrands_12 : decode cX10_hasErrands 12 = .ok (.iconst 2, 1) := by decide +kernel
theorem dX10_hasErrands_13 : decode cX10_hasErrands 13 = .ok (.iload_n 1, 1) := by decide +kernel
theorem dX10_hasErrands_14 : decode cX10_hasErrands 14 = .ok (.invokevirtual 234, 3) := by decide +kernel
theorem dX10_hasErrands_17 : decode cX10_hasErrands 17 = .ok (.ifCond .eq 15, 3) := by decide +kernel
theorem dX10_hasErrands_20 : decode cX10_hasErrands 20 = .ok (.aload_n 0, 1) := by decide +kernel
theorem dX10_hasErrands_21 : decode cX10_hasErrands 21 = .ok (.getfield 32, 3) := by decide +kernel
theorem dX10_hasErrands_24 : decode cX10_hasErrands 24 = .ok (.bipush 19, 2) := by decide +kernel
theorem dX10_hasErrands_26 : decode cX10_hasErrands 26 = .ok (.iload_n 1, 1) := by decide +kernel
theorem dX10_hasErrands_27 : decode cX10_hasErrands 27 = .ok (.imul, 1) := by decide +kernel
theorem dX10_hasErrands_28 : decode cX10_hasErrands 28 = .ok (.iaload, 1) := by decide +kernel
theorem dX10_hasErrands_29 : decode cX10_hasErrands 29 = .ok (.goto 4, 3) := by decide +kernel
theorem dX10_hasErrands_32 : decode cX10_hasErrands 32 = .ok (.iconst 0, 1) := by decide +kernel
theorem dX10_hasErrands_33 : decode cX10_hasErrands 33 = .ok (.putfield 374, 3) := by decide +kernel
theorem dX10_hasErrands_36 : decode cX10_hasErrands 36 = .ok (.aload_n 0, 1) := by decide +kernel
theorem dX10_hasErrands_37 : decode cX10_hasErrands 37 = .ok (.iconst 2, 1) := by decide +kernel
theorem dX10_hasErrands_38 : decode cX10_hasErrands 38 = .ok (.iload_n 1, 1) := by decide +kernel
theorem dX10_hasErrands_39 : decode cX10_hasErrands 39 = .ok (.invokevirtual 234, 3) := by decide +kernel
theorem dX10_hasErrands_42 : decode cX10_hasErrands 42 = .ok (.ireturn, 1) := by decide +kernel
def tX10_hasErrands (g : ax_G) : Nat → ax_O := ax_nd 20 (ax_nd 7 (ax_nd 2 (ax_nd 0 (ax_lf 0 (ao_al 0 1)) (ax_nd 1 (ax_lf 1 (ao_ic (0) 1)) (ax_lf 2 (ao_pz 10 45)))) (ax_nd 5 (ax_lf 5 (ao_al 0 1)) (ax_nd 6 (ax_lf 6 (ao_il 1 1)) (ax_lf 7 (ao_pi 10 41))))) (ax_nd 12 (ax_nd 10 (ax_lf 10 (ao_al 0 1)) (ax_nd 11 (ax_lf 11 (ao_al 0 1)) (ax_lf 12 (ao_ic (2) 1)))) (ax_nd 14 (ax_nd 13 (ax_lf 13 (ao_il 1 1)) (ax_lf 14 (ao_inv g 2 10 1 yX10_is cX10_is 3 (some .boolean) 3 0 0 0 0))) (ax_nd 17 (ax_lf 17 (ao_if_eq 32)) (ax_lf 20 (ao_al 0 1)))))) (ax_nd 29 (ax_nd 26 (ax_nd 21 (ax_lf 21 (ao_gr 10 8)) (ax_nd 24 (ax_lf 24 (ao_ic (19) 2)) (ax_lf 26 (ao_il 1 1)))) (ax_nd 27 (ax_lf 27 ao_imul) (ax_nd 28 (ax_lf 28 ao_iald) (ax_lf 29 (ao_goto 33))))) (ax_nd 36 (ax_nd 32 (ax_lf 32 (ao_ic (0) 1)) (ax_nd 33 (ax_lf 33 (ao_pi 10 42)) (ax_lf 36 (ao_al 0 1)))) (ax_nd 38 (ax_nd 37 (ax_lf 37 (ao_ic (2) 1)) (ax_lf 38 (ao_il 1 1))) (ax_nd 39 (ax_lf 39 (ao_inv g 2 10 1 yX10_is cX10_is 3 (some .boolean) 3 0 0 0 0)) (ax_lf 42 (ao_zret 0 0))))))
theorem oX10_hasErrands (g : ax_G) : ∀ pc, ax_ok g cX10_hasErrands 2 (some .boolean) RX10 "hasErrands" 3 0 0 pc (tX10_hasErrands g pc) := ax_nd_ok (ax_nd_ok (ax_nd_ok (ax_nd_ok (ax_lf_ok (ak_aload_n rfl dX10_hasErrands_0)) (ax_nd_ok (ax_lf_ok (ak_iconst (by decide) dX10_hasErrands_1)) (ax_lf_ok (ak_pz fF_X10_368 fW_X10_368_a dX10_hasErrands_2)))) (ax_nd_ok (ax_lf_ok (ak_aload_n rfl dX10_hasErrands_5)) (ax_nd_ok (ax_lf_ok (ak_iload_n rfl dX10_hasErrands_6)) (ax_lf_ok (ak_pi fF_X10_365 fW_X10_365_a dX10_hasErrands_7))))) (ax_nd_ok (ax_nd_ok (ax_lf_ok (ak_aload_n rfl dX10_hasErrands_10)) (ax_nd_ok (ax_lf_ok (ak_aload_n rfl dX10_hasErrands_11)) (ax_lf_ok (ak_iconst (by decide) dX10_hasErrands_12)))) (ax_nd_ok (ax_nd_ok (ax_lf_ok (ak_iload_n rfl dX10_hasErrands_13)) (ax_lf_ok (ak_invV (by decide) (by decide) (by decide) rfl wd_1251 wd_1253 wd_24 wd_106 wd_1254 ⟨by decide, by decide, by decide +kernel⟩ dX10_hasErrands_14))) (ax_nd_ok (ax_lf_ok (ak_if_eq (by decide) dX10_hasErrands_17)) (ax_lf_ok (ak_aload_n rfl dX10_hasErrands_20)))))) (ax_nd_ok (ax_nd_ok (ax_nd_ok (ax_lf_ok (ak_gr fF_X10_32 dX10_hasErrands_21)) (ax_nd_ok (ax_lf_ok (ak_bipush (by decide) dX10_hasErrands_24)) (ax_lf_ok (ak_iload_n rfl dX10_hasErrands_26)))) (ax_nd_ok (ax_lf_ok (ak_imul dX10_hasErrands_27)) (ax_nd_ok (ax_lf_ok (ak_iald dX10_hasErrands_28)) (ax_lf_ok (ak_goto (by decide) dX10_hasErrands_29))))) (ax_nd_ok (ax_nd_ok (ax_lf_ok (ak_iconst (by decide) dX10_hasErrands_32)) (ax_nd_ok (ax_lf_ok (ak_pi fF_X10_374 fW_X10_374_a dX10_hasErrands_33)) (ax_lf_ok (ak_aload_n rfl dX10_hasErrands_36)))) (ax_nd_ok (ax_nd_ok (ax_lf_ok (ak_iconst (by decide) dX10_hasErrands_37)) (ax_lf_ok (ak_iload_n rfl dX10_hasErrands_38))) (ax_nd_ok (ax_lf_ok (ak_invV (by decide) (by decide) (by decide) rfl wd_1251 wd_1253 wd_24 wd_106 wd_1254 ⟨by decide, by decide, by decide +kernel⟩ dX10_hasErrands_39)) (ax_lf_ok (ak_zret rfl dX10_hasErrands_42))))))
abbrev mX10_hasErrands (g : ax_G) (as : List Value) (h : ax_H) (Ret : Option Value → ax_H → Prop) : Prop := ax_M g 3 0 0 yX10_hasErrands cX10_hasErrands 2 (some .boolean) as h Ret
theorem dX10_errand_0 : decode cX10_errand 0 = .ok (.aload_n 0, 1) := by decide +kernel
theorem dX10_errand_1 : decode cX10_errand 1 = .ok (.iconst 0, 1) := by decide +kernel
theorem dX10_errand_2 : decode cX10_errand 2 = .ok (.putfield 88, 3) := by decide +kernel
theorem dX10_errand_5 : decode cX10_errand 5 = .ok (.aload_n 0, 1) := by decide +kernel
theorem dX10_errand_6 : decode cX10_errand 6 = .ok (.iload_n 1, 1) := by decide +kernel
theorem dX10_errand_7 : decode cX10_errand 7 = .ok (.invokevirtual 377, 3) := by decide +kernel
theorem dX10_errand_10 : decode cX10_errand 10 = .ok (.ifCond .ne 6, 3) := by decide +kernel
theorem dX10_errand_13 : decode cX10_errand 13 = .ok (.bipush (-2), 2) := by decide +kernel
theorem dX10_errand_15 : decode cX10_errand 15 = .ok (.ireturn, 1) := by decide +kernel
theorem dX10_errand_16 : decode cX10_errand 16 = .ok (.iload_n 2, 1) := by decide +kernel
theorem dX10_errand_17 : decode cX10_errand 17 = .ok (.iconst (-1), 1) := by decide +kernel
theorem dX10_errand_18 : decode cX10_errand 18 = .ok (.if_icmp .ne 17, 3) := by decide +kernel
theorem dX10_errand_21 : decode cX10_errand 21 = .ok (.iload_n 3, 1) := by decide +kernel
theorem dX10_errand_22 : decode cX10_errand 22 = .ok (.ifCond .ne 10, 3) := by decide +kernel
theorem dX10_errand_25 : decode cX10_errand 25 = .ok (.aload_n 0, 1) := by decide +kernel
theorem dX10_errand_26 : decode cX10_errand 26 = .ok (.getfield 374, 3) := by decide +kernel
theorem dX10_errand_29 : decode cX10_errand 29 = .ok (.goto 5, 3) := by decide +kernel
theorem dX10_errand_32 : decode cX10_errand 32 = .ok (.bipush (-2), 2) := by decide +kernel
theorem dX10_errand_34 : decode cX10_errand 34 = .ok (.ireturn, 1) := by decide +kernel
theorem dX10_errand_35 : decode cX10_errand 35 = .ok (.iload_n 2, 1) := by decide +kernel
theorem dX10_errand_36 : decode cX10_errand 36 = .ok (.iconst 0, 1) := by decide +kernel
theorem dX10_errand_37 : decode cX10_errand 37 = .ok (.aload_n 0, 1) := by decide +kernel
theorem dX10_errand_38 : decode cX10_errand 38 = .ok (.getfield 374, 3) := by decide +kernel
theorem dX10_errand_41 : decode cX10_errand 41 = .ok (.iconst 1, 1) := by decide +kernel
theorem dX10_errand_42 : decode cX10_errand 42 = .ok (.isub, 1) := by decide +kernel
theorem dX10_errand_43 : decode cX10_errand 43 = .ok (.invokestatic 96, 3) := by decide +kernel
theorem dX10_errand_46 : decode cX10_errand 46 = .ok (.ifCond .eq 21, 3) := by decide +kernel
theorem dX10_errand_49 : decode cX10_errand 49 = .ok (.iload_n 3, 1) := by decide +kernel
theorem dX10_errand_50 : decode cX10_errand 50 = .ok (.iconst 0, 1) := by decide +kernel
theorem dX10_errand_51 : decode cX10_errand 51 = .ok (.iconst 2, 1) := by decide +kernel
theorem dX10_errand_52 : decode cX10_errand 52 = .ok (.invokestatic 96, 3) := by decide +kernel
theorem dX10_errand_55 : decode cX10_errand 55 = .ok (.ifCond .eq 12, 3) := by decide +kernel
theorem dX10_errand_58 : decode cX10_errand 58 = .ok (.aload_n 0, 1) := by decide +kernel
theorem dX10_errand_59 : decode cX10_errand 59 = .ok (.iload_n 2, 1) := by decide +kernel
theorem dX10_errand_60 : decode cX10_errand 60 = .ok (.iload_n 3, 1) := by decide +kernel
theorem dX10_errand_61 : decode cX10_errand 61 = .ok (.invokevirtual 371, 3) := by decide +kernel
theorem dX10_errand_64 : decode cX10_errand 64 = .ok (.goto 5, 3) := by decide +kernel
theorem dX10_errand_67 : decode cX10_errand 67 = .ok (.bipush (-2), 2) := by decide +kernel
theorem dX10_errand_69 : decode cX10_errand 69 = .ok (.ireturn, 1) := by decide +kernel
def tX10_errand (g : ax_G) : Nat → ax_O := ax_nd 34 (ax_nd 15 (ax_nd 5 (ax_nd 1 (ax_nd 0 (ax_lf 0 (ao_al 0 1)) (ax_lf 1 (ao_ic (0) 1))) (ax_nd 2 (ax_lf 2 (ao_pi 10 0)) (ax_lf 5 (ao_al 0 1)))) (ax_nd 7 (ax_nd 6 (ax_lf 6 (ao_il 1 1)) (ax_lf 7 (ao_inv g 3 10 1 yX10_hasErrands cX10_hasErrands 2 (some .boolean) 2 0 0 0 0))) (ax_nd 10 (ax_lf 10 (ao_if_ne 16)) (ax_nd 13 (ax_lf 13 (ao_ic (-2) 2)) (ax_lf 15 (ao_iret 0 0)))))) (ax_nd 22 (ax_nd 17 (ax_nd 16 (ax_lf 16 (ao_il 2 1)) (ax_lf 17 (ao_ic (-1) 1))) (ax_nd 18 (ax_lf 18 (ao_icmp_ne 35)) (ax_nd 21 (ax_lf 21 (ao_il 3 1)) (ax_lf 22 (ao_if_ne 32))))) (ax_nd 26 (ax_nd 25 (ax_lf 25 (ao_al 0 1)) (ax_lf 26 (ao_gi 10 42))) (ax_nd 29 (ax_lf 29 (ao_goto 34)) (ax_nd 32 (ax_lf 32 (ao_ic (-2) 2)) (ax_lf 34 (ao_iret 0 0))))))) (ax_nd 50 (ax_nd 41 (ax_nd 36 (ax_nd 35 (ax_lf 35 (ao_il 2 1)) (ax_lf 36 (ao_ic (0) 1))) (ax_nd 37 (ax_lf 37 (ao_al 0 1)) (ax_nd 38 (ax_lf 38 (ao_gi 10 42)) (ax_lf 41 (ao_ic (1) 1))))) (ax_nd 43 (ax_nd 42 (ax_lf 42 ao_isub) (ax_lf 43 (ao_inv g 1 99 1 yX10_in cX10_in 3 (some .boolean) 3 0 0 0 0))) (ax_nd 46 (ax_lf 46 (ao_if_eq 67)) (ax_nd 49 (ax_lf 49 (ao_il 3 1)) (ax_lf 50 (ao_ic (0) 1)))))) (ax_nd 59 (ax_nd 52 (ax_nd 51 (ax_lf 51 (ao_ic (2) 1)) (ax_lf 52 (ao_inv g 1 99 1 yX10_in cX10_in 3 (some .boolean) 3 0 0 0 0))) (ax_nd 55 (ax_lf 55 (ao_if_eq 67)) (ax_nd 58 (ax_lf 58 (ao_al 0 1)) (ax_lf 59 (ao_il 2 1))))) (ax_nd 61 (ax_nd 60 (ax_lf 60 (ao_il 3 1)) (ax_lf 61 (ao_inv g 1 10 1 yX10_errandOf cX10_errandOf 3 (some .int) 3 0 0 0 0))) (ax_nd 64 (ax_lf 64 (ao_goto 69)) (ax_nd 67 (ax_lf 67 (ao_ic (-2) 2)) (ax_lf 69 (ao_iret 0 0)))))))
theorem oX10_errand (g : ax_G) : ∀ pc, ax_ok g cX10_errand 4 (some .int) RX10 "errand" 4 0 0 pc (tX10_errand g pc) := ax_nd_ok (ax_nd_ok (ax_nd_ok (ax_nd_ok (ax_nd_ok (ax_lf_ok (ak_aload_n rfl dX10_errand_0)) (ax_lf_ok (ak_iconst (by decide) dX10_errand_1))) (ax_nd_ok (ax_lf_ok (ak_pi fF_X10_88 fW_X10_88_a dX10_errand_2)) (ax_lf_ok (ak_aload_n rfl dX10_errand_5)))) (ax_nd_ok (ax_nd_ok (ax_lf_ok (ak_iload_n rfl dX10_errand_6)) (ax_lf_ok (ak_invV (by decide) (by decide) (by decide) rfl wd_1524 wd_1526 wd_67 wd_106 wd_1527 ⟨by decide, by decide, by decide +kernel⟩ dX10_errand_7))) (ax_nd_ok (ax_lf_ok (ak_if_ne (by decide) dX10_errand_10)) (ax_nd_ok (ax_lf_ok (ak_bipush (by decide) dX10_errand_13)) (ax_lf_ok (ak_iret rfl dX10_errand_15)))))) (ax_nd_ok (ax_nd_ok (ax_nd_ok (ax_lf_ok (ak_iload_n rfl dX10_errand_16)) (ax_lf_ok (ak_iconst (by decide) dX10_errand_17))) (ax_nd_ok (ax_lf_ok (ak_icmp_ne (by decide) dX10_errand_18)) (ax_nd_ok (ax_lf_ok (ak_iload_n rfl dX10_errand_21)) (ax_lf_ok (ak_if_ne (by decide) dX10_errand_22))))) (ax_nd_ok (ax_nd_ok (ax_lf_ok (ak_aload_n rfl dX10_errand_25)) (ax_lf_ok (ak_gi fF_X10_374 dX10_errand_26))) (ax_nd_ok (ax_lf_ok (ak_goto (by decide) dX10_errand_29)) (ax_nd_ok (ax_lf_ok (ak_bipush (by decide) dX10_errand_32)) (ax_lf_ok (ak_iret rfl dX10_errand_34))))))) (ax_nd_ok (ax_nd_ok (ax_nd_ok (ax_nd_ok (ax_lf_ok (ak_iload_n rfl dX10_errand_35)) (ax_lf_ok (ak_iconst (by decide) dX10_errand_36))) (ax_nd_ok (ax_lf_ok (ak_aload_n rfl dX10_errand_37)) (ax_nd_ok (ax_lf_ok (ak_gi fF_X10_374 dX10_errand_38)) (ax_lf_ok (ak_iconst (by decide) dX10_errand_41))))) (ax_nd_ok (ax_nd_ok (ax_lf_ok (ak_isub dX10_errand_42)) (ax_lf_ok (ak_invS (by decide) (by decide) wd_1244 wd_1245 wd_106 wd_1246 ⟨by decide, by decide, by decide +kernel⟩ dX10_errand_43))) (ax_nd_ok (ax_lf_ok (ak_if_eq (by decide) dX10_errand_46)) (ax_nd_ok (ax_lf_ok (ak_iload_n rfl dX10_errand_49)) (ax_lf_ok (ak_iconst (by decide) dX10_errand_50)))))) (ax_nd_ok (ax_nd_ok (ax_nd_ok (ax_lf_ok (ak_iconst (by decide) dX10_errand_51)) (ax_lf_ok (ak_invS (by decide) (by decide) wd_1244 wd_1245 wd_106 wd_1246 ⟨by decide, by decide, by decide +kernel⟩ dX10_errand_52))) (ax_nd_ok (ax_lf_ok (ak_if_eq (by decide) dX10_errand_55)) (ax_nd_ok (ax_lf_ok (ak_aload_n rfl dX10_errand_58)) (ax_lf_ok (ak_iload_n rfl dX10_errand_59))))) (ax_nd_ok (ax_nd_ok (ax_lf_ok (ak_iload_n rfl dX10_errand_60)) (ax_lf_ok (ak_invV (by decide) (by decide) (by decide) rfl wd_1528 wd_1530 wd_68 wd_106 wd_1531 ⟨by decide, by decide, by decide +kernel⟩ dX10_errand_61))) (ax_nd_ok (ax_lf_ok (ak_goto (by decide) dX10_errand_64)) (ax_nd_ok (ax_lf_ok (ak_bipush (by decide) dX10_errand_67)) (ax_lf_ok (ak_iret rfl dX10_errand_69)))))))
abbrev mX10_errand (g : ax_G) (as : List Value) (h : ax_H) (Ret : Option Value → ax_H → Prop) : Prop := ax_M g 4 0 0 yX10_errand cX10_errand 4 (some .int) as h Ret
theorem dX10_worthAt_0 : decode cX10_worthAt 0 = .ok (.aload_n 0, 1) := by decide +kernel
theorem dX10_worthAt_1 : decode cX10_worthAt 1 = .ok (.bipush 8, 2) := by decide +kernel
theorem dX10_worthAt_3 : decode cX10_worthAt 3 = .ok (.aload_n 0, 1) := by decide +kernel
theorem dX10_worthAt_4 : decode cX10_worthAt 4 = .ok (.iload_n 1, 1) := by decide +kernel
theorem dX10_worthAt_5 : decode cX10_worthAt 5 = .ok (.iconst 0, 1) := by decide +kernel
theorem dX10_worthAt_6 : decode cX10_worthAt 6 = .ok (.invokevirtual 371, 3) := by decide +kernel
theorem dX10_worthAt_9 : decode cX10_worthAt 9 = .ok (.iadd, 1) := by decide +kernel
theorem dX10_worthAt_10 : decode cX10_worthAt 10 = .ok (.invokevirtual 253, 3) := by decide +kernel
theorem dX10_worthAt_13 : decode cX10_worthAt 13 = .ok (.i2l, 1) := by decide +kernel
theorem dX10_worthAt_14 : decode cX10_worthAt 14 = .ok (.lstore 4, 2) := by decide +kernel
theorem dX10_worthAt_16 : decode cX10_worthAt 16 = .ok (.aload_n 0, 1) := by decide +kernel
theorem dX10_worthAt_17 : decode cX10_worthAt 17 = .ok (.bipush 14, 2) := by decide +kernel
theorem dX10_worthAt_19 : decode cX10_worthAt 19 = .ok (.aload_n 0, 1) := by decide +kernel
theorem dX10_worthAt_20 : decode cX10_worthAt 20 = .ok (.iload_n 1, 1) := by decide +kernel
theorem dX10_worthAt_21 : decode cX10_worthAt 21 = .ok (.iconst 0, 1) := by decide +kernel
theorem dX10_worthAt_22 : decode cX10_worthAt 22 = .ok (.invokevirtual 371, 3) := by decide +kernel
theorem dX10_worthAt_25 : decode cX10_worthAt 25 = .ok (.iadd, 1) := by decide +kernel
theorem dX10_worthAt_26 : decode cX10_worthAt 26 = .ok (.invokevirtual 253, 3) := by decide +kernel
theorem dX10_worthAt_29 : decode cX10_worthAt 29 = .ok (.iconst 2, 1) := by decide +kernel
theorem dX10_worthAt_30 : decode cX10_worthAt 30 = .ok (.invokestatic 260, 3) := by decide +kernel
theorem dX10_worthAt_33 : decode cX10_worthAt 33 = .ok (.istore 6, 2) := by decide +kernel
theorem dX10_worthAt_35 : decode cX10_worthAt 35 = .ok (.iload_n 3, 1) := by decide +kernel
theorem dX10_worthAt_36 : decode cX10_worthAt 36 = .ok (.iconst (-1), 1) := by decide +kernel
theorem dX10_worthAt_37 : decode cX10_worthAt 37 = .ok (.if_icmp .ne 26, 3) := by decide +kernel
theorem dX10_worthAt_40 : decode cX10_worthAt 40 = .ok (.lload 4, 2) := by decide +kernel
theorem dX10_worthAt_42 : decode cX10_worthAt 42 = .ok (.aload_n 0, 1) := by decide +kernel
theorem dX10_worthAt_43 : decode cX10_worthAt 43 = .ok (.getfield 279, 3) := by decide +kernel
theorem dX10_worthAt_46 : decode cX10_worthAt 46 = .ok (.i2l, 1) := by decide +kernel
theorem dX10_worthAt_47 : decode cX10_worthAt 47 = .ok (.aload_n 0, 1) := by decide +kernel
theorem dX10_worthAt_48 : decode cX10_worthAt 48 = .ok (.getfield 56, 3) := by decide +kernel
theorem dX10_worthAt_51 : decode cX10_worthAt 51 = .ok (.iload_n 2, 1) := by decide +kernel
theorem dX10_worthAt_52 : decode cX10_worthAt 52 = .ok (.iaload, 1) := by decide +kernel
theorem dX10_worthAt_53 : decode cX10_worthAt 53 = .ok (.i2l, 1) := by decide +kernel
theorem dX10_worthAt_54 : decode cX10_worthAt 54 = .ok (.iload 6, 2) := by decide +kernel
theorem dX10_worthAt_56 : decode cX10_worthAt 56 = .ok (.iconst 1, 1) := by decide +kernel
theorem dX10_worthAt_57 : decode cX10_worthAt 57 = .ok (.isub, 1) := by decide +kernel
theorem dX10_worthAt_58 : decode cX10_worthAt 58 = .ok (.i2l, 1) := by decide +kernel
theorem dX10_worthAt_59 : decode cX10_worthAt 59 = .ok (.lmul, 1) := by decide +kernel
theorem dX10_worthAt_60 : decode cX10_worthAt 60 = .ok (.ladd, 1) := by decide +kernel
theorem dX10_worthAt_61 : decode cX10_worthAt 61 = .ok (.lmul, 1) := by decide +kernel
theorem dX10_worthAt_62 : decode cX10_worthAt 62 = .ok (.lreturn, 1) := by decide +kernel
theorem dX10_worthAt_63 : decode cX10_worthAt 63 = .ok (.lload 4, 2) := by decide +kernel
theorem dX10_worthAt_65 : decode cX10_worthAt 65 = .ok (.aload_n 0, 1) := by decide +kernel
theorem dX10_worthAt_66 : decode cX10_worthAt 66 = .ok (.getfield 279, 3) := by decide +kernel
theorem dX10_worthAt_69 : decode cX10_worthAt 69 = .ok (.i2l, 1) := by decide +kernel
theorem dX10_worthAt_70 : decode cX10_worthAt 70 = .ok (.lmul, 1) := by decide +kernel
theorem dX10_worthAt_71 : decode cX10_worthAt 71 = .ok (.iload_n 3, 1) := by decide +kernel
theorem dX10_worthAt_72 : decode cX10_worthAt 72 = .ok (.iload_n 2, 1) := by decide +kernel
theorem dX10_worthAt_73 : decode cX10_worthAt 73 = .ok (.if_icmp .ne 8, 3) := by decide +kernel
theorem dX10_worthAt_76 : decode cX10_worthAt 76 = .ok (.iload 6, 2) := by decide +kernel
theorem dX10_worthAt_78 : decode cX10_worthAt 78 = .ok (.goto 4, 3) := by decide +kernel
theorem dX10_worthAt_81 : decode cX10_worthAt 81 = .ok (.iconst 1, 1) := by decide +kernel
theorem dX10_worthAt_82 : decode cX10_worthAt 82 = .ok (.i2l, 1) := by decide +kernel
theorem dX10_worthAt_83 : decode cX10_worthAt 83 = .ok (.lmul, 1) := by decide +kernel
theorem dX10_worthAt_84 : decode cX10_worthAt 84 = .ok (.lreturn, 1) := by decide +kernel
def tX10_worthAt (g : ax_G) : Nat → ax_O := ax_nd 43 (ax_nd 19 (ax_nd 6 (ax_nd 3 (ax_nd 0 (ax_lf 0 (ao_al 0 1)) (ax_nd 1 (ax_lf 1 (ao_ic (8) 2)) (ax_lf 3 (ao_al 0 1)))) (ax_nd 4 (ax_lf 4 (ao_il 1 1)) (ax_nd 5 (ax_lf 5 (ao_ic (0) 1)) (ax_lf 6 (ao_inv g 1 10 1 yX10_errandOf cX10_errandOf 3 (some .int) 3 0 0 0 0))))) (ax_nd 13 (ax_nd 9 (ax_lf 9 ao_iadd) (ax_nd 10 (ax_lf 10 (ao_inv g 1 10 1 yX10_of cX10_of 2 (some .int) 2 0 0 0 0)) (ax_lf 13 ao_i2l))) (ax_nd 16 (ax_nd 14 (ax_lf 14 (ao_ls 4 2)) (ax_lf 16 (ao_al 0 1))) (ax_nd 17 (ax_lf 17 (ao_ic (14) 2)) (ax_lf 19 (ao_al 0 1)))))) (ax_nd 30 (ax_nd 22 (ax_nd 20 (ax_lf 20 (ao_il 1 1)) (ax_nd 21 (ax_lf 21 (ao_ic (0) 1)) (ax_lf 22 (ao_inv g 1 10 1 yX10_errandOf cX10_errandOf 3 (some .int) 3 0 0 0 0)))) (ax_nd 26 (ax_nd 25 (ax_lf 25 ao_iadd) (ax_lf 26 (ao_inv g 1 10 1 yX10_of cX10_of 2 (some .int) 2 0 0 0 0))) (ax_nd 29 (ax_lf 29 (ao_ic (2) 1)) (ax_lf 30 (ao_inv g 1 99 1 yX10_times cX10_times 2 (some .int) 2 0 0 0 0))))) (ax_nd 36 (ax_nd 33 (ax_lf 33 (ao_is 6 2)) (ax_nd 35 (ax_lf 35 (ao_il 3 1)) (ax_lf 36 (ao_ic (-1) 1)))) (ax_nd 40 (ax_nd 37 (ax_lf 37 (ao_icmp_ne 63)) (ax_lf 40 (ao_ll 4 2))) (ax_nd 42 (ax_lf 42 (ao_al 0 1)) (ax_lf 43 (ao_gi 10 32))))))) (ax_nd 62 (ax_nd 54 (ax_nd 48 (ax_nd 46 (ax_lf 46 ao_i2l) (ax_nd 47 (ax_lf 47 (ao_al 0 1)) (ax_lf 48 (ao_gr 10 31)))) (ax_nd 52 (ax_nd 51 (ax_lf 51 (ao_il 2 1)) (ax_lf 52 ao_iald)) (ax_nd 53 (ax_lf 53 ao_i2l) (ax_lf 54 (ao_il 6 2))))) (ax_nd 58 (ax_nd 56 (ax_lf 56 (ao_ic (1) 1)) (ax_nd 57 (ax_lf 57 ao_isub) (ax_lf 58 ao_i2l))) (ax_nd 60 (ax_nd 59 (ax_lf 59 ao_lmul) (ax_lf 60 ao_ladd)) (ax_nd 61 (ax_lf 61 ao_lmul) (ax_lf 62 (ao_lret 0 0)))))) (ax_nd 72 (ax_nd 66 (ax_nd 63 (ax_lf 63 (ao_ll 4 2)) (ax_nd 65 (ax_lf 65 (ao_al 0 1)) (ax_lf 66 (ao_gi 10 32)))) (ax_nd 70 (ax_nd 69 (ax_lf 69 ao_i2l) (ax_lf 70 ao_lmul)) (ax_nd 71 (ax_lf 71 (ao_il 3 1)) (ax_lf 72 (ao_il 2 1))))) (ax_nd 78 (ax_nd 73 (ax_lf 73 (ao_icmp_ne 81)) (ax_nd 76 (ax_lf 76 (ao_il 6 2)) (ax_lf 78 (ao_goto 82)))) (ax_nd 82 (ax_nd 81 (ax_lf 81 (ao_ic (1) 1)) (ax_lf 82 ao_i2l)) (ax_nd 83 (ax_lf 83 ao_lmul) (ax_lf 84 (ao_lret 0 0)))))))
theorem oX10_worthAt (g : ax_G) : ∀ pc, ax_ok g cX10_worthAt 7 (some .long) RX10 "worthAt" 2 0 0 pc (tX10_worthAt g pc) := ax_nd_ok (ax_nd_ok (ax_nd_ok (ax_nd_ok (ax_nd_ok (ax_lf_ok (ak_aload_n rfl dX10_worthAt_0)) (ax_nd_ok (ax_lf_ok (ak_bipush (by decide) dX10_worthAt_1)) (ax_lf_ok (ak_aload_n rfl dX10_worthAt_3)))) (ax_nd_ok (ax_lf_ok (ak_iload_n rfl dX10_worthAt_4)) (ax_nd_ok (ax_lf_ok (ak_iconst (by decide) dX10_worthAt_5)) (ax_lf_ok (ak_invV (by decide) (by decide) (by decide) rfl wd_1528 wd_1530 wd_68 wd_106 wd_1531 ⟨by decide, by decide, by decide +kernel⟩ dX10_worthAt_6))))) (ax_nd_ok (ax_nd_ok (ax_lf_ok (ak_iadd dX10_worthAt_9)) (ax_nd_ok (ax_lf_ok (ak_invV (by decide) (by decide) (by decide) rfl wd_1360 wd_1362 wd_45 wd_106 wd_1363 ⟨by decide, by decide, by decide +kernel⟩ dX10_worthAt_10)) (ax_lf_ok (ak_i2l dX10_worthAt_13)))) (ax_nd_ok (ax_nd_ok (ax_lf_ok (ak_lstore (by decide) dX10_worthAt_14)) (ax_lf_ok (ak_aload_n rfl dX10_worthAt_16))) (ax_nd_ok (ax_lf_ok (ak_bipush (by decide) dX10_worthAt_17)) (ax_lf_ok (ak_aload_n rfl dX10_worthAt_19)))))) (ax_nd_ok (ax_nd_ok (ax_nd_ok (ax_lf_ok (ak_iload_n rfl dX10_worthAt_20)) (ax_nd_ok (ax_lf_ok (ak_iconst (by decide) dX10_worthAt_21)) (ax_lf_ok (ak_invV (by decide) (by decide) (by decide) rfl wd_1528 wd_1530 wd_68 wd_106 wd_1531 ⟨by decide, by decide, by decide +kernel⟩ dX10_worthAt_22)))) (ax_nd_ok (ax_nd_ok (ax_lf_ok (ak_iadd dX10_worthAt_25)) (ax_lf_ok (ak_invV (by decide) (by decide) (by decide) rfl wd_1360 wd_1362 wd_45 wd_106 wd_1363 ⟨by decide, by decide, by decide +kernel⟩ dX10_worthAt_26))) (ax_nd_ok (ax_lf_ok (ak_iconst (by decide) dX10_worthAt_29)) (ax_lf_ok (ak_invS (by decide) (by decide) wd_1380 wd_1381 wd_106 wd_1382 ⟨by decide, by decide, by decide +kernel⟩ dX10_worthAt_30))))) (ax_nd_ok (ax_nd_ok (ax_lf_ok (ak_istore (by decide) dX10_worthAt_33)) (ax_nd_ok (ax_lf_ok (ak_iload_n rfl dX10_worthAt_35)) (ax_lf_ok (ak_iconst (by decide) dX10_worthAt_36)))) (ax_nd_ok (ax_nd_ok (ax_lf_ok (ak_icmp_ne (by decide) dX10_worthAt_37)) (ax_lf_ok (ak_lload dX10_worthAt_40))) (ax_nd_ok (ax_lf_ok (ak_aload_n rfl dX10_worthAt_42)) (ax_lf_ok (ak_gi fF_X10_279 dX10_worthAt_43))))))) (ax_nd_ok (ax_nd_ok (ax_nd_ok (ax_nd_ok (ax_lf_ok (ak_i2l dX10_worthAt_46)) (ax_nd_ok (ax_lf_ok (ak_aload_n rfl dX10_worthAt_47)) (ax_lf_ok (ak_gr fF_X10_56 dX10_worthAt_48)))) (ax_nd_ok (ax_nd_ok (ax_lf_ok (ak_iload_n rfl dX10_worthAt_51)) (ax_lf_ok (ak_iald dX10_worthAt_52))) (ax_nd_ok (ax_lf_ok (ak_i2l dX10_worthAt_53)) (ax_lf_ok (ak_iload dX10_worthAt_54))))) (ax_nd_ok (ax_nd_ok (ax_lf_ok (ak_iconst (by decide) dX10_worthAt_56)) (ax_nd_ok (ax_lf_ok (ak_isub dX10_worthAt_57)) (ax_lf_ok (ak_i2l dX10_worthAt_58)))) (ax_nd_ok (ax_nd_ok (ax_lf_ok (ak_lmul dX10_worthAt_59)) (ax_lf_ok (ak_ladd dX10_worthAt_60))) (ax_nd_ok (ax_lf_ok (ak_lmul dX10_worthAt_61)) (ax_lf_ok (ak_lret rfl dX10_worthAt_62)))))) (ax_nd_ok (ax_nd_ok (ax_nd_ok (ax_lf_ok (ak_lload dX10_worthAt_63)) (ax_nd_ok (ax_lf_ok (ak_aload_n rfl dX10_worthAt_65)) (ax_lf_ok (ak_gi fF_X10_279 dX10_worthAt_66)))) (ax_nd_ok (ax_nd_ok (ax_lf_ok (ak_i2l dX10_worthAt_69)) (ax_lf_ok (ak_lmul dX10_worthAt_70))) (ax_nd_ok (ax_lf_ok (ak_iload_n rfl dX10_worthAt_71)) (ax_lf_ok (ak_iload_n rfl dX10_worthAt_72))))) (ax_nd_ok (ax_nd_ok (ax_lf_ok (ak_icmp_ne (by decide) dX10_worthAt_73)) (ax_nd_ok (ax_lf_ok (ak_iload dX10_worthAt_76)) (ax_lf_ok (ak_goto (by decide) dX10_worthAt_78)))) (ax_nd_ok (ax_nd_ok (ax_lf_ok (ak_iconst (by decide) dX10_worthAt_81)) (ax_lf_ok (ak_i2l dX10_worthAt_82))) (ax_nd_ok (ax_lf_ok (ak_lmul dX10_worthAt_83)) (ax_lf_ok (ak_lret rfl dX10_worthAt_84)))))))
abbrev mX10_worthAt (g : ax_G) (as : List Value) (h : ax_H) (Ret : Option Value → ax_H → Prop) : Prop := ax_M g 2 0 0 yX10_worthAt cX10_worthAt 7 (some .long) as h Ret
end
