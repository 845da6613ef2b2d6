section
theorem wd_98 : (Jvm.Cond.initialized "GluedHour$Republic") ∈ lw_gd := lw_gd_in (i := 98) (by decide +kernel) rfl
theorem wd_105 : (Jvm.Cond.initialized "GluedHour$Fraction") ∈ lw_gd := lw_gd_in (i := 105) (by decide +kernel) rfl
theorem wd_107 : (Jvm.Cond.initialized "java/lang/Math") ∈ lw_gd := lw_gd_in (i := 107) (by decide +kernel) rfl
theorem wd_140 : (Jvm.Cond.fieldLink "GluedHour$Republic" (9 : Nat) "GluedHour$Republic" "worths" "[I") ∈ lw_gd := lw_gd_in (i := 140) (by decide +kernel) rfl
theorem wd_142 : (Jvm.Cond.fieldLink "GluedHour$Republic" (15 : Nat) "GluedHour$Republic" "modes" "[I") ∈ lw_gd := lw_gd_in (i := 142) (by decide +kernel) rfl
theorem wd_148 : (Jvm.Cond.fieldLink "GluedHour$Republic" (21 : Nat) "GluedHour$Republic" "deeds" "[I") ∈ lw_gd := lw_gd_in (i := 148) (by decide +kernel) rfl
theorem wd_150 : (Jvm.Cond.fieldLink "GluedHour$Republic" (24 : Nat) "GluedHour$Republic" "lots" "[I") ∈ lw_gd := lw_gd_in (i := 150) (by decide +kernel) rfl
theorem wd_153 : (Jvm.Cond.fieldLink "GluedHour$Republic" (30 : Nat) "GluedHour$Republic" "hours" "I") ∈ lw_gd := lw_gd_in (i := 153) (by decide +kernel) rfl
theorem wd_160 : (Jvm.Cond.fieldLink "GluedHour$Republic" (34 : Nat) "GluedHour$Republic" "people" "I") ∈ lw_gd := lw_gd_in (i := 160) (by decide +kernel) rfl
theorem wd_412 : (Jvm.Cond.fieldLink "GluedHour$Fraction" (7 : Nat) "GluedHour$Fraction" "above" "J") ∈ lw_gd := lw_gd_in (i := 412) (by decide +kernel) rfl
theorem wd_413 : (Jvm.Cond.fieldLink "GluedHour$Fraction" (13 : Nat) "GluedHour$Fraction" "below" "J") ∈ lw_gd := lw_gd_in (i := 413) (by decide +kernel) rfl
theorem wd_661 : (Jvm.Cond.methodLink "GluedHour$Republic" (61 : Nat) ({ cls := "GluedHour$Republic", name := "deedAt", desc := "(II)I" } : Jvm.MethodName)) ∈ lw_gd := lw_gd_in (i := 661) (by decide +kernel) rfl
theorem wd_662 : (Jvm.Cond.instanceMethod ({ cls := "GluedHour$Republic", name := "deedAt", desc := "(II)I" } : Jvm.MethodName)) ∈ lw_gd := lw_gd_in (i := 662) (by decide +kernel) rfl
theorem wd_663 : (Jvm.Cond.selects "GluedHour$Republic" ({ cls := "GluedHour$Republic", name := "deedAt", desc := "(II)I" } : Jvm.MethodName) ({ cls := "GluedHour$Republic", name := "deedAt", desc := "(II)I" } : Jvm.MethodName)) ∈ lw_gd := lw_gd_in (i := 663) (by decide +kernel) rfl
theorem wd_664 : (Jvm.Cond.code ({ cls := "GluedHour$Republic", name := "deedAt", desc := "(II)I" } : Jvm.MethodName) prog_8_method_7_code (3 : Nat) (Option.some Jvm.ClassFile.FieldType.int)) ∈ lw_gd := lw_gd_in (i := 664) (by decide +kernel) rfl
theorem wd_665 : (Jvm.Cond.methodLink "GluedHour$Republic" (43 : Nat) ({ cls := "GluedHour$Republic", name := "hasPerson", desc := "(I)Z" } : Jvm.MethodName)) ∈ lw_gd := lw_gd_in (i := 665) (by decide +kernel) rfl
theorem wd_666 : (Jvm.Cond.instanceMethod ({ cls := "GluedHour$Republic", name := "hasPerson", desc := "(I)Z" } : Jvm.MethodName)) ∈ lw_gd := lw_gd_in (i := 666) (by decide +kernel) rfl
theorem wd_667 : (Jvm.Cond.selects "GluedHour$Republic" ({ cls := "GluedHour$Republic", name := "hasPerson", desc := "(I)Z" } : Jvm.MethodName) ({ cls := "GluedHour$Republic", name := "hasPerson", desc := "(I)Z" } : Jvm.MethodName)) ∈ lw_gd := lw_gd_in (i := 667) (by decide +kernel) rfl
theorem wd_668 : (Jvm.Cond.code ({ cls := "GluedHour$Republic", name := "hasPerson", desc := "(I)Z" } : Jvm.MethodName) prog_8_method_5_code (2 : Nat) (Option.some Jvm.ClassFile.FieldType.boolean)) ∈ lw_gd := lw_gd_in (i := 668) (by decide +kernel) rfl
theorem wd_669 : (Jvm.Cond.methodLink "GluedHour$Republic" (47 : Nat) ({ cls := "GluedHour$Republic", name := "hasHour", desc := "(I)Z" } : Jvm.MethodName)) ∈ lw_gd := lw_gd_in (i := 669) (by decide +kernel) rfl
theorem wd_670 : (Jvm.Cond.instanceMethod ({ cls := "GluedHour$Republic", name := "hasHour", desc := "(I)Z" } : Jvm.MethodName)) ∈ lw_gd := lw_gd_in (i := 670) (by decide +kernel) rfl
theorem wd_671 : (Jvm.Cond.selects "GluedHour$Republic" ({ cls := "GluedHour$Republic", name := "hasHour", desc := "(I)Z" } : Jvm.MethodName) ({ cls := "GluedHour$Republic", name := "hasHour", desc := "(I)Z" } : Jvm.MethodName)) ∈ lw_gd := lw_gd_in (i := 671) (by decide +kernel) rfl
theorem wd_672 : (Jvm.Cond.code ({ cls := "GluedHour$Republic", name := "hasHour", desc := "(I)Z" } : Jvm.MethodName) prog_8_method_4_code (2 : Nat) (Option.some Jvm.ClassFile.FieldType.boolean)) ∈ lw_gd := lw_gd_in (i := 672) (by decide +kernel) rfl
theorem wd_673 : (Jvm.Cond.methodLink "GluedHour$Republic" (58 : Nat) ({ cls := "GluedHour$Republic", name := "worthOf", desc := "(I)I" } : Jvm.MethodName)) ∈ lw_gd := lw_gd_in (i := 673) (by decide +kernel) rfl
theorem wd_674 : (Jvm.Cond.instanceMethod ({ cls := "GluedHour$Republic", name := "worthOf", desc := "(I)I" } : Jvm.MethodName)) ∈ lw_gd := lw_gd_in (i := 674) (by decide +kernel) rfl
theorem wd_675 : (Jvm.Cond.selects "GluedHour$Republic" ({ cls := "GluedHour$Republic", name := "worthOf", desc := "(I)I" } : Jvm.MethodName) ({ cls := "GluedHour$Republic", name := "worthOf", desc := "(I)I" } : Jvm.MethodName)) ∈ lw_gd := lw_gd_in (i := 675) (by decide +kernel) rfl
theorem wd_676 : (Jvm.Cond.code ({ cls := "GluedHour$Republic", name := "worthOf", desc := "(I)I" } : Jvm.MethodName) prog_8_method_9_code (2 : Nat) (Option.some Jvm.ClassFile.FieldType.int)) ∈ lw_gd := lw_gd_in (i := 676) (by decide +kernel) rfl
theorem wd_682 : (Jvm.Cond.methodLink "GluedHour$Republic" (50 : Nat) ({ cls := "GluedHour$Republic", name := "modeOf", desc := "(I)I" } : Jvm.MethodName)) ∈ lw_gd := lw_gd_in (i := 682) (by decide +kernel) rfl
theorem wd_683 : (Jvm.Cond.instanceMethod ({ cls := "GluedHour$Republic", name := "modeOf", desc := "(I)I" } : Jvm.MethodName)) ∈ lw_gd := lw_gd_in (i := 683) (by decide +kernel) rfl
theorem wd_684 : (Jvm.Cond.selects "GluedHour$Republic" ({ cls := "GluedHour$Republic", name := "modeOf", desc := "(I)I" } : Jvm.MethodName) ({ cls := "GluedHour$Republic", name := "modeOf", desc := "(I)I" } : Jvm.MethodName)) ∈ lw_gd := lw_gd_in (i := 684) (by decide +kernel) rfl
theorem wd_685 : (Jvm.Cond.code ({ cls := "GluedHour$Republic", name := "modeOf", desc := "(I)I" } : Jvm.MethodName) prog_8_method_10_code (2 : Nat) (Option.some Jvm.ClassFile.FieldType.int)) ∈ lw_gd := lw_gd_in (i := 685) (by decide +kernel) rfl
theorem wd_686 : (Jvm.Cond.methodLink "GluedHour$Republic" (54 : Nat) ({ cls := "GluedHour$Republic", name := "extraBy", desc := "(II)I" } : Jvm.MethodName)) ∈ lw_gd := lw_gd_in (i := 686) (by decide +kernel) rfl
theorem wd_687 : (Jvm.Cond.instanceMethod ({ cls := "GluedHour$Republic", name := "extraBy", desc := "(II)I" } : Jvm.MethodName)) ∈ lw_gd := lw_gd_in (i := 687) (by decide +kernel) rfl
theorem wd_688 : (Jvm.Cond.selects "GluedHour$Republic" ({ cls := "GluedHour$Republic", name := "extraBy", desc := "(II)I" } : Jvm.MethodName) ({ cls := "GluedHour$Republic", name := "extraBy", desc := "(II)I" } : Jvm.MethodName)) ∈ lw_gd := lw_gd_in (i := 688) (by decide +kernel) rfl
theorem wd_689 : (Jvm.Cond.code ({ cls := "GluedHour$Republic", name := "extraBy", desc := "(II)I" } : Jvm.MethodName) prog_8_method_12_code (3 : Nat) (Option.some Jvm.ClassFile.FieldType.int)) ∈ lw_gd := lw_gd_in (i := 689) (by decide +kernel) rfl
theorem wd_730 : (Jvm.Cond.static ({ cls := "GluedHour$Fraction", name := "side", desc := "(JJZ)J" } : Jvm.MethodName)) ∈ lw_gd := lw_gd_in (i := 730) (by decide +kernel) rfl
theorem wd_731 : (Jvm.Cond.code ({ cls := "GluedHour$Fraction", name := "side", desc := "(JJZ)J" } : Jvm.MethodName) prog_3_method_5_code (7 : Nat) (Option.some Jvm.ClassFile.FieldType.long)) ∈ lw_gd := lw_gd_in (i := 731) (by decide +kernel) rfl
theorem wd_732 : (Jvm.Cond.methodLink "GluedHour$Fraction" (20 : Nat) ({ cls := "GluedHour$Fraction", name := "divisor", desc := "(JJ)J" } : Jvm.MethodName)) ∈ lw_gd := lw_gd_in (i := 732) (by decide +kernel) rfl
theorem wd_733 : (Jvm.Cond.static ({ cls := "GluedHour$Fraction", name := "divisor", desc := "(JJ)J" } : Jvm.MethodName)) ∈ lw_gd := lw_gd_in (i := 733) (by decide +kernel) rfl
theorem wd_734 : (Jvm.Cond.code ({ cls := "GluedHour$Fraction", name := "divisor", desc := "(JJ)J" } : Jvm.MethodName) prog_3_method_6_code (11 : Nat) (Option.some Jvm.ClassFile.FieldType.long)) ∈ lw_gd := lw_gd_in (i := 734) (by decide +kernel) rfl
theorem wd_735 : (Jvm.Cond.methodLink "GluedHour$Fraction" (28 : Nat) ({ cls := "java/lang/Math", name := "abs", desc := "(J)J" } : Jvm.MethodName)) ∈ lw_gd := lw_gd_in (i := 735) (by decide +kernel) rfl
theorem wd_736 : (Jvm.Cond.static ({ cls := "java/lang/Math", name := "abs", desc := "(J)J" } : Jvm.MethodName)) ∈ lw_gd := lw_gd_in (i := 736) (by decide +kernel) rfl
theorem wd_737 : (Jvm.Cond.code ({ cls := "java/lang/Math", name := "abs", desc := "(J)J" } : Jvm.MethodName) prog_13_method_61_code (2 : Nat) (Option.some Jvm.ClassFile.FieldType.long)) ∈ lw_gd := lw_gd_in (i := 737) (by decide +kernel) rfl
theorem wd_738 : (Jvm.Cond.methodLink "GluedHour$Fraction" (34 : Nat) ({ cls := "java/lang/Math", name := "max", desc := "(JJ)J" } : Jvm.MethodName)) ∈ lw_gd := lw_gd_in (i := 738) (by decide +kernel) rfl
theorem wd_739 : (Jvm.Cond.static ({ cls := "java/lang/Math", name := "max", desc := "(JJ)J" } : Jvm.MethodName)) ∈ lw_gd := lw_gd_in (i := 739) (by decide +kernel) rfl
theorem wd_740 : (Jvm.Cond.code ({ cls := "java/lang/Math", name := "max", desc := "(JJ)J" } : Jvm.MethodName) prog_13_method_66_code (4 : Nat) (Option.some Jvm.ClassFile.FieldType.long)) ∈ lw_gd := lw_gd_in (i := 740) (by decide +kernel) rfl
theorem wd_980 : (Jvm.Cond.instanceMethod ({ cls := "GluedHour$Fraction", name := "put", desc := "(JJ)V" } : Jvm.MethodName)) ∈ lw_gd := lw_gd_in (i := 980) (by decide +kernel) rfl
theorem wd_981 : (Jvm.Cond.selects "GluedHour$Fraction" ({ cls := "GluedHour$Fraction", name := "put", desc := "(JJ)V" } : Jvm.MethodName) ({ cls := "GluedHour$Fraction", name := "put", desc := "(JJ)V" } : Jvm.MethodName)) ∈ lw_gd := lw_gd_in (i := 981) (by decide +kernel) rfl
theorem wd_982 : (Jvm.Cond.code ({ cls := "GluedHour$Fraction", name := "put", desc := "(JJ)V" } : Jvm.MethodName) prog_3_method_2_code (5 : Nat) (Option.none : Option Jvm.ClassFile.FieldType)) ∈ lw_gd := lw_gd_in (i := 982) (by decide +kernel) rfl
theorem wd_983 : (Jvm.Cond.methodLink "GluedHour$Fraction" (16 : Nat) ({ cls := "GluedHour$Fraction", name := "side", desc := "(JJZ)J" } : Jvm.MethodName)) ∈ lw_gd := lw_gd_in (i := 983) (by decide +kernel) rfl
theorem wd_998 : (Jvm.Cond.methodLink "GluedHour$Fraction" (24 : Nat) ({ cls := "GluedHour$Fraction", name := "put", desc := "(JJ)V" } : Jvm.MethodName)) ∈ lw_gd := lw_gd_in (i := 998) (by decide +kernel) rfl
theorem ig_X0 : ∀ w ∈ wsX00, w ∈ lw_gd := by decide +kernel
theorem ig_X1 : ∀ w ∈ wsX10, w ∈ lw_gd := by decide +kernel
theorem ig_X10 : ∀ w ∈ wsX100, w ∈ lw_gd := by decide +kernel
theorem ig_X2 : ∀ w ∈ wsX20, w ∈ lw_gd := by decide +kernel
theorem ig_X3 : ∀ w ∈ wsX30, w ∈ lw_gd := by decide +kernel
theorem ig_X4 : ∀ w ∈ wsX40, w ∈ lw_gd := by decide +kernel
theorem ig_X5 : ∀ w ∈ wsX50, w ∈ lw_gd := by decide +kernel
theorem ig_X6 : ∀ w ∈ wsX60, w ∈ lw_gd := by decide +kernel
theorem ig_X7 : ∀ w ∈ wsX70, w ∈ lw_gd := by decide +kernel
theorem ig_X8 : ∀ w ∈ wsX80, w ∈ lw_gd := by decide +kernel
theorem ig_X9 : ∀ w ∈ wsX90, w ∈ lw_gd := by decide +kernel
theorem fF_X1_7 : ax_F RX1 7 1 0 1 := ⟨by decide, by decide, _, _, _, tyX1, rfl, ig_X1, tyX1_ok, nmX1, by decide, wd_412⟩
theorem fF_X1_13 : ax_F RX1 13 1 1 1 := ⟨by decide, by decide, _, _, _, tyX1, rfl, ig_X1, tyX1_ok, nmX1, by decide, wd_413⟩
theorem fF_X6_9 : ax_F RX6 9 6 0 2 := ⟨by decide, by decide, _, _, _, tyX6, rfl, ig_X6, tyX6_ok, nmX6, by decide, wd_140⟩
theorem fF_X6_15 : ax_F RX6 15 6 1 2 := ⟨by decide, by decide, _, _, _, tyX6, rfl, ig_X6, tyX6_ok, nmX6, by decide, wd_142⟩
theorem fF_X6_21 : ax_F RX6 21 6 3 2 := ⟨by decide, by decide, _, _, _, tyX6, rfl, ig_X6, tyX6_ok, nmX6, by decide, wd_148⟩
theorem fF_X6_24 : ax_F RX6 24 6 4 2 := ⟨by decide, by decide, _, _, _, tyX6, rfl, ig_X6, tyX6_ok, nmX6, by decide, wd_150⟩
theorem fF_X6_30 : ax_F RX6 30 6 5 0 := ⟨by decide, by decide, _, _, _, tyX6, rfl, ig_X6, tyX6_ok, nmX6, by decide, wd_153⟩
theorem fF_X6_34 : ax_F RX6 34 6 6 0 := ⟨by decide, by decide, _, _, _, tyX6, rfl, ig_X6, tyX6_ok, nmX6, by decide, wd_160⟩
theorem fW_X1_13_a {nm : String} : ax_Fw RX1 nm 1 1 .long := fun _ _ _ h => by cases h; exact ⟨Or.inl rfl, tyX1_ok _ (by decide)⟩
theorem fW_X1_7_a {nm : String} : ax_Fw RX1 nm 1 0 .long := fun _ _ _ h => by cases h; exact ⟨Or.inl rfl, tyX1_ok _ (by decide)⟩
theorem fW_X6_30_a {nm : String} : ax_Fw RX6 nm 6 5 .int := fun _ _ _ h => by cases h; exact ⟨Or.inl rfl, tyX6_ok _ (by decide)⟩
theorem fW_X6_34_a {nm : String} : ax_Fw RX6 nm 6 6 .int := fun _ _ _ h => by cases h; exact ⟨Or.inl rfl, tyX6_ok _ (by decide)⟩
end
