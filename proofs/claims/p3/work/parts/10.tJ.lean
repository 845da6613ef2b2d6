section
theorem dJ0_coder_7d493_0 : decode cJ0_coder_7d493 0 = .ok (.getstatic 38, 3) := by decide +kernel
theorem dJ0_coder_7d493_3 : decode cJ0_coder_7d493 3 = .ok (.ifCond .eq 10, 3) := by decide +kernel
theorem dJ0_coder_7d493_6 : decode cJ0_coder_7d493 6 = .ok (.aload_n 0, 1) := by decide +kernel
theorem dJ0_coder_7d493_7 : decode cJ0_coder_7d493 7 = .ok (.getfield 15, 3) := by decide +kernel
theorem dJ0_coder_7d493_10 : decode cJ0_coder_7d493 10 = .ok (.goto 4, 3) := by decide +kernel
theorem dJ0_coder_7d493_13 : decode cJ0_coder_7d493 13 = .ok (.iconst 1, 1) := by decide +kernel
theorem dJ0_coder_7d493_14 : decode cJ0_coder_7d493 14 = .ok (.ireturn, 1) := by decide +kernel
def tJ0_coder_7d493 (g : ax_G) : Nat → ax_O := ax_nd 6 (ax_nd 0 (ax_lf 0 (ao_ic 1 3)) (ax_nd 3 (ax_lf 3 (ao_if_eq 13)) (ax_lf 6 (ao_al 0 1)))) (ax_nd 10 (ax_nd 7 (ax_lf 7 ao_sgc) (ax_lf 10 (ao_goto 14))) (ax_nd 13 (ax_lf 13 (ao_ic (1) 1)) (ax_lf 14 (ao_nret .byte))))
theorem oJ0_coder_7d493 (g : ax_G) : ∀ pc, ax_ok g cJ0_coder_7d493 1 (some .byte) RJ0 "coder" 1 0 0 pc (tJ0_coder_7d493 g pc) := ax_nd_ok (ax_nd_ok (ax_lf_ok (ak_gcs wd_532 dJ0_coder_7d493_0)) (ax_nd_ok (ax_lf_ok (ak_if_eq (by decide) dJ0_coder_7d493_3)) (ax_lf_ok (ak_aload_n rfl dJ0_coder_7d493_6)))) (ax_nd_ok (ax_nd_ok (ax_lf_ok (ak_sgc wd_1715 dJ0_coder_7d493_7)) (ax_lf_ok (ak_goto (by decide) dJ0_coder_7d493_10))) (ax_nd_ok (ax_lf_ok (ak_iconst (by decide) dJ0_coder_7d493_13)) (ax_lf_ok (ak_nret rfl dJ0_coder_7d493_14))))
abbrev mJ0_coder_7d493 (g : ax_G) (as : List Value) (h : ax_H) (Ret : Option Value → ax_H → Prop) : Prop := ax_M g 1 0 0 yJ0_coder_7d493 cJ0_coder_7d493 1 (some .byte) as h Ret
theorem dJ0_isLatin1_aae02_0 : decode cJ0_isLatin1_aae02 0 = .ok (.getstatic 38, 3) := by decide +kernel
theorem dJ0_isLatin1_aae02_3 : decode cJ0_isLatin1_aae02 3 = .ok (.ifCond .eq 14, 3) := by decide +kernel
theorem dJ0_isLatin1_aae02_6 : decode cJ0_isLatin1_aae02 6 = .ok (.aload_n 0, 1) := by decide +kernel
theorem dJ0_isLatin1_aae02_7 : decode cJ0_isLatin1_aae02 7 = .ok (.getfield 15, 3) := by decide +kernel
theorem dJ0_isLatin1_aae02_10 : decode cJ0_isLatin1_aae02 10 = .ok (.ifCond .ne 7, 3) := by decide +kernel
theorem dJ0_isLatin1_aae02_13 : decode cJ0_isLatin1_aae02 13 = .ok (.iconst 1, 1) := by decide +kernel
theorem dJ0_isLatin1_aae02_14 : decode cJ0_isLatin1_aae02 14 = .ok (.goto 4, 3) := by decide +kernel
theorem dJ0_isLatin1_aae02_17 : decode cJ0_isLatin1_aae02 17 = .ok (.iconst 0, 1) := by decide +kernel
theorem dJ0_isLatin1_aae02_18 : decode cJ0_isLatin1_aae02 18 = .ok (.ireturn, 1) := by decide +kernel
def tJ0_isLatin1_aae02 (g : ax_G) : Nat → ax_O := ax_nd 7 (ax_nd 3 (ax_nd 0 (ax_lf 0 (ao_ic 1 3)) (ax_lf 3 (ao_if_eq 17))) (ax_nd 6 (ax_lf 6 (ao_al 0 1)) (ax_lf 7 ao_sgc))) (ax_nd 13 (ax_nd 10 (ax_lf 10 (ao_if_ne 17)) (ax_lf 13 (ao_ic (1) 1))) (ax_nd 14 (ax_lf 14 (ao_goto 18)) (ax_nd 17 (ax_lf 17 (ao_ic (0) 1)) (ax_lf 18 (ao_zret 0 0)))))
theorem oJ0_isLatin1_aae02 (g : ax_G) : ∀ pc, ax_ok g cJ0_isLatin1_aae02 1 (some .boolean) RJ0 "isLatin1" 1 0 0 pc (tJ0_isLatin1_aae02 g pc) := ax_nd_ok (ax_nd_ok (ax_nd_ok (ax_lf_ok (ak_gcs wd_532 dJ0_isLatin1_aae02_0)) (ax_lf_ok (ak_if_eq (by decide) dJ0_isLatin1_aae02_3))) (ax_nd_ok (ax_lf_ok (ak_aload_n rfl dJ0_isLatin1_aae02_6)) (ax_lf_ok (ak_sgc wd_1715 dJ0_isLatin1_aae02_7)))) (ax_nd_ok (ax_nd_ok (ax_lf_ok (ak_if_ne (by decide) dJ0_isLatin1_aae02_10)) (ax_lf_ok (ak_iconst (by decide) dJ0_isLatin1_aae02_13))) (ax_nd_ok (ax_lf_ok (ak_goto (by decide) dJ0_isLatin1_aae02_14)) (ax_nd_ok (ax_lf_ok (ak_iconst (by decide) dJ0_isLatin1_aae02_17)) (ax_lf_ok (ak_zret rfl dJ0_isLatin1_aae02_18)))))
abbrev mJ0_isLatin1_aae02 (g : ax_G) (as : List Value) (h : ax_H) (Ret : Option Value → ax_H → Prop) : Prop := ax_M g 1 0 0 yJ0_isLatin1_aae02 cJ0_isLatin1_aae02 1 (some .boolean) as h Ret
theorem dJ0_length_8abf5_0 : decode cJ0_length_8abf5 0 = .ok (.aload_n 0, 1) := by decide +kernel
theorem dJ0_length_8abf5_1 : decode cJ0_length_8abf5 1 = .ok (.getfield 9, 3) := by decide +kernel
theorem dJ0_length_8abf5_4 : decode cJ0_length_8abf5 4 = .ok (.arraylength, 1) := by decide +kernel
theorem dJ0_length_8abf5_5 : decode cJ0_length_8abf5 5 = .ok (.aload_n 0, 1) := by decide +kernel
theorem dJ0_length_8abf5_6 : decode cJ0_length_8abf5 6 = .ok (.invokevirtual 335, 3) := by decide +kernel
theorem dJ0_length_8abf5_9 : decode cJ0_length_8abf5 9 = .ok (.ishr, 1) := by decide +kernel
theorem dJ0_length_8abf5_10 : decode cJ0_length_8abf5 10 = .ok (.ireturn, 1) := by decide +kernel
def tJ0_length_8abf5 (g : ax_G) : Nat → ax_O := ax_nd 4 (ax_nd 0 (ax_lf 0 (ao_al 0 1)) (ax_nd 1 (ax_lf 1 ao_sgv) (ax_lf 4 ao_slen))) (ax_nd 6 (ax_nd 5 (ax_lf 5 (ao_al 0 1)) (ax_lf 6 (ao_invs g 1 yJ0_coder_7d493 cJ0_coder_7d493 1 (some .byte) 1))) (ax_nd 9 (ax_lf 9 ao_ishr) (ax_lf 10 (ao_iret 0 0))))
theorem oJ0_length_8abf5 (g : ax_G) : ∀ pc, ax_ok g cJ0_length_8abf5 1 (some .int) RJ0 "length" 2 0 0 pc (tJ0_length_8abf5 g pc) := ax_nd_ok (ax_nd_ok (ax_lf_ok (ak_aload_n rfl dJ0_length_8abf5_0)) (ax_nd_ok (ax_lf_ok (ak_sgv wd_1714 dJ0_length_8abf5_1)) (ax_lf_ok (ak_slen dJ0_length_8abf5_4)))) (ax_nd_ok (ax_nd_ok (ax_lf_ok (ak_aload_n rfl dJ0_length_8abf5_5)) (ax_lf_ok (ak_invs (by decide) rfl (by decide) wd_528 wd_529 wd_530 wd_108 wd_531 ⟨by decide, by decide, by decide +kernel⟩ dJ0_length_8abf5_6))) (ax_nd_ok (ax_lf_ok (ak_ishr dJ0_length_8abf5_9)) (ax_lf_ok (ak_iret rfl dJ0_length_8abf5_10))))
abbrev mJ0_length_8abf5 (g : ax_G) (as : List Value) (h : ax_H) (Ret : Option Value → ax_H → Prop) : Prop := ax_M g 2 0 0 yJ0_length_8abf5 cJ0_length_8abf5 1 (some .int) as h Ret
theorem dJ1_charAt_3b067_0 : decode cJ1_charAt_3b067 0 = .ok (.iload_n 1, 1) := by decide +kernel
theorem dJ1_charAt_3b067_1 : decode cJ1_charAt_3b067 1 = .ok (.aload_n 0, 1) := by decide +kernel
theorem dJ1_charAt_3b067_2 : decode cJ1_charAt_3b067 2 = .ok (.arraylength, 1) := by decide +kernel
theorem dJ1_charAt_3b067_3 : decode cJ1_charAt_3b067 3 = .ok (.invokestatic 9, 3) := by decide +kernel
theorem dJ1_charAt_3b067_6 : decode cJ1_charAt_3b067 6 = .ok (.aload_n 0, 1) := by decide +kernel
theorem dJ1_charAt_3b067_7 : decode cJ1_charAt_3b067 7 = .ok (.iload_n 1, 1) := by decide +kernel
theorem dJ1_charAt_3b067_8 : decode cJ1_charAt_3b067 8 = .ok (.baload, 1) := by decide +kernel
theorem dJ1_charAt_3b067_9 : decode cJ1_charAt_3b067 9 = .ok (.sipush 255, 3) := by decide +kernel
theorem dJ1_charAt_3b067_12 : decode cJ1_charAt_3b067 12 = .ok (.iand, 1) := by decide +kernel
theorem dJ1_charAt_3b067_13 : decode cJ1_charAt_3b067 13 = .ok (.i2c, 1) := by decide +kernel
theorem dJ1_charAt_3b067_14 : decode cJ1_charAt_3b067 14 = .ok (.ireturn, 1) := by decide +kernel
def tJ1_charAt_3b067 (g : ax_G) : Nat → ax_O := ax_nd 6 (ax_nd 1 (ax_nd 0 (ax_lf 0 (ao_il 1 1)) (ax_lf 1 (ao_al 0 1))) (ax_nd 2 (ax_lf 2 ao_slen) (ax_nd 3 (ax_lf 3 (ao_inv g 2 99 0 yJ0_checkIndex_df160 cJ0_checkIndex_df160 2 none 2 0 0 0 0)) (ax_lf 6 (ao_al 0 1))))) (ax_nd 9 (ax_nd 7 (ax_lf 7 (ao_il 1 1)) (ax_nd 8 (ax_lf 8 ao_sbld) (ax_lf 9 (ao_ic (255) 3)))) (ax_nd 12 (ax_lf 12 ao_iand) (ax_nd 13 (ax_lf 13 ao_i2c) (ax_lf 14 (ao_nret .char)))))
theorem oJ1_charAt_3b067 (g : ax_G) : ∀ pc, ax_ok g cJ1_charAt_3b067 2 (some .char) RJ1 "charAt" 3 0 0 pc (tJ1_charAt_3b067 g pc) := ax_nd_ok (ax_nd_ok (ax_nd_ok (ax_lf_ok (ak_iload_n rfl dJ1_charAt_3b067_0)) (ax_lf_ok (ak_aload_n rfl dJ1_charAt_3b067_1))) (ax_nd_ok (ax_lf_ok (ak_slen dJ1_charAt_3b067_2)) (ax_nd_ok (ax_lf_ok (ak_invS (by decide) (by decide) wd_545 wd_546 wd_108 wd_547 ⟨by decide, by decide, by decide +kernel⟩ dJ1_charAt_3b067_3)) (ax_lf_ok (ak_aload_n rfl dJ1_charAt_3b067_6))))) (ax_nd_ok (ax_nd_ok (ax_lf_ok (ak_iload_n rfl dJ1_charAt_3b067_7)) (ax_nd_ok (ax_lf_ok (ak_sbld dJ1_charAt_3b067_8)) (ax_lf_ok (ak_sipush (by decide) dJ1_charAt_3b067_9)))) (ax_nd_ok (ax_lf_ok (ak_iand dJ1_charAt_3b067_12)) (ax_nd_ok (ax_lf_ok (ak_i2c dJ1_charAt_3b067_13)) (ax_lf_ok (ak_nret rfl dJ1_charAt_3b067_14)))))
abbrev mJ1_charAt_3b067 (g : ax_G) (as : List Value) (h : ax_H) (Ret : Option Value → ax_H → Prop) : Prop := ax_M g 3 0 0 yJ1_charAt_3b067 cJ1_charAt_3b067 2 (some .char) as h Ret
theorem dJ0_charAt_5068e_0 : decode cJ0_charAt_5068e 0 = .ok (.aload_n 0, 1) := by decide +kernel
theorem dJ0_charAt_5068e_1 : decode cJ0_charAt_5068e 1 = .ok (.invokevirtual 492, 3) := by decide +kernel
theorem dJ0_charAt_5068e_4 : decode cJ0_charAt_5068e 4 = .ok (.ifCond .eq 12, 3) := by decide +kernel
theorem dJ0_charAt_5068e_7 : decode cJ0_charAt_5068e 7 = .ok (.aload_n 0, 1) := by decide +kernel
theorem dJ0_charAt_5068e_8 : decode cJ0_charAt_5068e 8 = .ok (.getfield 9, 3) := by decide +kernel
theorem dJ0_charAt_5068e_11 : decode cJ0_charAt_5068e 11 = .ok (.iload_n 1, 1) := by decide +kernel
theorem dJ0_charAt_5068e_12 : decode cJ0_charAt_5068e 12 = .ok (.invokestatic 495, 3) := by decide +kernel
theorem dJ0_charAt_5068e_15 : decode cJ0_charAt_5068e 15 = .ok (.ireturn, 1) := by decide +kernel
theorem dJ0_charAt_5068e_16 : decode cJ0_charAt_5068e 16 = .ok (.aload_n 0, 1) := by decide +kernel
theorem dJ0_charAt_5068e_17 : decode cJ0_charAt_5068e 17 = .ok (.getfield 9, 3) := by decide +kernel
theorem dJ0_charAt_5068e_20 : decode cJ0_charAt_5068e 20 = .ok (.iload_n 1, 1) := by decide +kernel
theorem dJ0_charAt_5068e_21 : decode cJ0_charAt_5068e 21 = .ok (.invokestatic 498, 3) := by decide +kernel
theorem dJ0_charAt_5068e_24 : decode cJ0_charAt_5068e 24 = .ok (.ireturn, 1) := by decide +kernel
def tJ0_charAt_5068e (g : ax_G) : Nat → ax_O := ax_nd 11 (ax_nd 4 (ax_nd 0 (ax_lf 0 (ao_al 0 1)) (ax_nd 1 (ax_lf 1 (ao_invs g 1 yJ0_isLatin1_aae02 cJ0_isLatin1_aae02 1 (some .boolean) 1)) (ax_lf 4 (ao_if_eq 16)))) (ax_nd 7 (ax_lf 7 (ao_al 0 1)) (ax_nd 8 (ax_lf 8 ao_sgv) (ax_lf 11 (ao_il 1 1))))) (ax_nd 16 (ax_nd 12 (ax_lf 12 (ao_inv g 3 99 1 yJ1_charAt_3b067 cJ1_charAt_3b067 2 (some .char) 2 0 0 0 0)) (ax_nd 15 (ax_lf 15 (ao_nret .char)) (ax_lf 16 (ao_al 0 1)))) (ax_nd 20 (ax_nd 17 (ax_lf 17 ao_sgv) (ax_lf 20 (ao_il 1 1))) (ax_nd 21 (ax_lf 21 (ao_inv g 4 99 1 yJ2_charAt_3b067 cJ2_charAt_3b067 2 (some .char) 2 0 0 0 0)) (ax_lf 24 (ao_nret .char)))))
theorem oJ0_charAt_5068e (g : ax_G) : ∀ pc, ax_ok g cJ0_charAt_5068e 2 (some .char) RJ0 "charAt" 5 0 0 pc (tJ0_charAt_5068e g pc) := ax_nd_ok (ax_nd_ok (ax_nd_ok (ax_lf_ok (ak_aload_n rfl dJ0_charAt_5068e_0)) (ax_nd_ok (ax_lf_ok (ak_invs (by decide) rfl (by decide) wd_538 wd_539 wd_540 wd_108 wd_541 ⟨by decide, by decide, by decide +kernel⟩ dJ0_charAt_5068e_1)) (ax_lf_ok (ak_if_eq (by decide) dJ0_charAt_5068e_4)))) (ax_nd_ok (ax_lf_ok (ak_aload_n rfl dJ0_charAt_5068e_7)) (ax_nd_ok (ax_lf_ok (ak_sgv wd_1714 dJ0_charAt_5068e_8)) (ax_lf_ok (ak_iload_n rfl dJ0_charAt_5068e_11))))) (ax_nd_ok (ax_nd_ok (ax_lf_ok (ak_invS (by decide) (by decide) wd_542 wd_543 wd_109 wd_544 ⟨by decide, by decide, by decide +kernel⟩ dJ0_charAt_5068e_12)) (ax_nd_ok (ax_lf_ok (ak_nret rfl dJ0_charAt_5068e_15)) (ax_lf_ok (ak_aload_n rfl dJ0_charAt_5068e_16)))) (ax_nd_ok (ax_nd_ok (ax_lf_ok (ak_sgv wd_1714 dJ0_charAt_5068e_17)) (ax_lf_ok (ak_iload_n rfl dJ0_charAt_5068e_20))) (ax_nd_ok (ax_lf_ok (ak_invS (by decide) (by decide) wd_553 wd_554 wd_111 wd_555 ⟨by decide, by decide, by decide +kernel⟩ dJ0_charAt_5068e_21)) (ax_lf_ok (ak_nret rfl dJ0_charAt_5068e_24)))))
abbrev mJ0_charAt_5068e (g : ax_G) (as : List Value) (h : ax_H) (Ret : Option Value → ax_H → Prop) : Prop := ax_M g 5 0 0 yJ0_charAt_5068e cJ0_charAt_5068e 2 (some .char) as h Ret
end
