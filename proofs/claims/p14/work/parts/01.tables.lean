-- ===== PART A: goes FIRST, ahead of the names: the tables' words, and 'selects' of the private methods out of them =====
/-- a private method of a class that the tables say can be made, by its rows of tables_1 -/
def lw_okq (q : MethodName × Nat) : Prop := (q.1.cls ≠ "java/lang/invoke/MethodHandle" ∧ q.1.cls ≠ "java/lang/invoke/VarHandle") ∧ Cond.instantiable q.1.cls q.2 ∈ tables_1 ∧ Cond.privateMethod q.1 ∈ tables_1 ∧ Cond.instanceMethod q.1 ∈ tables_1
theorem ta_1 {i : Nat} {w : Cond} (h : (tables_1_1)[i]? = some w) : w ∈ tables_1 := List.mem_append_left _ (List.mem_of_getElem? h)
theorem ta_2 {i : Nat} {w : Cond} (h : (tables_1_2)[i]? = some w) : w ∈ tables_1 := List.mem_append_right _ (List.mem_append_left _ (List.mem_of_getElem? h))
theorem ta_3 {i : Nat} {w : Cond} (h : (tables_1_3)[i]? = some w) : w ∈ tables_1 := List.mem_append_right _ (List.mem_append_right _ (List.mem_append_left _ (List.mem_of_getElem? h)))
theorem ta_4 {i : Nat} {w : Cond} (h : (tables_1_4)[i]? = some w) : w ∈ tables_1 := List.mem_append_right _ (List.mem_append_right _ (List.mem_append_right _ (List.mem_append_left _ (List.mem_of_getElem? h))))
theorem ta_5 {i : Nat} {w : Cond} (h : (tables_1_5)[i]? = some w) : w ∈ tables_1 := List.mem_append_right _ (List.mem_append_right _ (List.mem_append_right _ (List.mem_append_right _ (List.mem_append_left _ (List.mem_of_getElem? h)))))
theorem ta_6 {i : Nat} {w : Cond} (h : (tables_1_6)[i]? = some w) : w ∈ tables_1 := List.mem_append_right _ (List.mem_append_right _ (List.mem_append_right _ (List.mem_append_right _ (List.mem_append_right _ (List.mem_append_left _ (List.mem_of_getElem? h))))))
theorem ta_7 {i : Nat} {w : Cond} (h : (tables_1_7)[i]? = some w) : w ∈ tables_1 := List.mem_append_right _ (List.mem_append_right _ (List.mem_append_right _ (List.mem_append_right _ (List.mem_append_right _ (List.mem_append_right _ (List.mem_of_getElem? h))))))
theorem lw_c0 : ("GluedHour$Reader" ≠ "java/lang/invoke/MethodHandle" ∧ "GluedHour$Reader" ≠ "java/lang/invoke/VarHandle") ∧ Cond.instantiable "GluedHour$Reader" 14 ∈ tables_1 := ⟨⟨by decide +kernel, by decide +kernel⟩, ta_1 (i := 142) rfl⟩
theorem lw_p0 : lw_okq (⟨"GluedHour$Reader", "begin", "(II)V"⟩, 14) := ⟨lw_c0.1, lw_c0.2, ta_2 (i := 133) rfl, ta_2 (i := 134) rfl⟩
theorem lw_p1 : lw_okq (⟨"GluedHour$Reader", "draftOf", "(I)LGluedHour$Lines;"⟩, 14) := ⟨lw_c0.1, lw_c0.2, ta_2 (i := 144) rfl, ta_2 (i := 145) rfl⟩
theorem lw_p2 : lw_okq (⟨"GluedHour$Reader", "step", "()V"⟩, 14) := ⟨lw_c0.1, lw_c0.2, ta_2 (i := 148) rfl, ta_2 (i := 149) rfl⟩
theorem lw_p3 : lw_okq (⟨"GluedHour$Reader", "stepNumber", "()V"⟩, 14) := ⟨lw_c0.1, lw_c0.2, ta_2 (i := 158) rfl, ta_2 (i := 159) rfl⟩
theorem lw_p4 : lw_okq (⟨"GluedHour$Reader", "readLine", "(I)Z"⟩, 14) := ⟨lw_c0.1, lw_c0.2, ta_2 (i := 162) rfl, ta_2 (i := 163) rfl⟩
theorem lw_p5 : lw_okq (⟨"GluedHour$Reader", "verbOf", "(I)I"⟩, 14) := ⟨lw_c0.1, lw_c0.2, ta_2 (i := 166) rfl, ta_2 (i := 167) rfl⟩
theorem lw_p6 : lw_okq (⟨"GluedHour$Reader", "isWord", "(Ljava/lang/String;)Z"⟩, 14) := ⟨lw_c0.1, lw_c0.2, ta_2 (i := 186) rfl, ta_2 (i := 187) rfl⟩
theorem lw_p7 : lw_okq (⟨"GluedHour$Reader", "isOneTooMany", "(I)Z"⟩, 14) := ⟨lw_c0.1, lw_c0.2, ta_2 (i := 238) rfl, ta_2 (i := 239) rfl⟩
theorem lw_p8 : lw_okq (⟨"GluedHour$Reader", "note", "(II)V"⟩, 14) := ⟨lw_c0.1, lw_c0.2, ta_3 (i := 6) rfl, ta_3 (i := 7) rfl⟩
theorem lw_p9 : lw_okq (⟨"GluedHour$Reader", "checkNumber", "(II)V"⟩, 14) := ⟨lw_c0.1, lw_c0.2, ta_3 (i := 12) rfl, ta_3 (i := 13) rfl⟩
theorem lw_p10 : lw_okq (⟨"GluedHour$Reader", "readMode", "()Z"⟩, 14) := ⟨lw_c0.1, lw_c0.2, ta_3 (i := 20) rfl, ta_3 (i := 21) rfl⟩
theorem lw_p11 : lw_okq (⟨"GluedHour$Reader", "tell", "(I)V"⟩, 14) := ⟨lw_c0.1, lw_c0.2, ta_3 (i := 27) rfl, ta_3 (i := 28) rfl⟩
theorem lw_p12 : lw_okq (⟨"GluedHour$Reader", "tellLine", "(I)V"⟩, 14) := ⟨lw_c0.1, lw_c0.2, ta_3 (i := 31) rfl, ta_3 (i := 32) rfl⟩
theorem lw_c1 : ("GluedHour" ≠ "java/lang/invoke/MethodHandle" ∧ "GluedHour" ≠ "java/lang/invoke/VarHandle") ∧ Cond.instantiable "GluedHour" 9 ∈ tables_1 := ⟨⟨by decide +kernel, by decide +kernel⟩, ta_1 (i := 19) rfl⟩
theorem lw_p13 : lw_okq (⟨"GluedHour", "begun", "(I)LGluedHour$Republic;"⟩, 9) := ⟨lw_c1.1, lw_c1.2, ta_3 (i := 71) rfl, ta_3 (i := 72) rfl⟩
theorem lw_p14 : lw_okq (⟨"GluedHour", "gainBy", "(II)J"⟩, 9) := ⟨lw_c1.1, lw_c1.2, ta_3 (i := 222) rfl, ta_3 (i := 223) rfl⟩
theorem lw_c2 : ("GluedHour$Planner" ≠ "java/lang/invoke/MethodHandle" ∧ "GluedHour$Planner" ≠ "java/lang/invoke/VarHandle") ∧ Cond.instantiable "GluedHour$Planner" 9 ∈ tables_1 := ⟨⟨by decide +kernel, by decide +kernel⟩, ta_2 (i := 2) rfl⟩
theorem lw_p15 : lw_okq (⟨"GluedHour$Planner", "bestOf", "(II)J"⟩, 9) := ⟨lw_c2.1, lw_c2.2, ta_4 (i := 58) rfl, ta_4 (i := 59) rfl⟩
def lw_privs_1 : List (MethodName × Nat) := [(⟨"GluedHour$Reader", "begin", "(II)V"⟩, 14), (⟨"GluedHour$Reader", "draftOf", "(I)LGluedHour$Lines;"⟩, 14), (⟨"GluedHour$Reader", "step", "()V"⟩, 14), (⟨"GluedHour$Reader", "stepNumber", "()V"⟩, 14), (⟨"GluedHour$Reader", "readLine", "(I)Z"⟩, 14), (⟨"GluedHour$Reader", "verbOf", "(I)I"⟩, 14), (⟨"GluedHour$Reader", "isWord", "(Ljava/lang/String;)Z"⟩, 14), (⟨"GluedHour$Reader", "isOneTooMany", "(I)Z"⟩, 14), (⟨"GluedHour$Reader", "note", "(II)V"⟩, 14), (⟨"GluedHour$Reader", "checkNumber", "(II)V"⟩, 14), (⟨"GluedHour$Reader", "readMode", "()Z"⟩, 14), (⟨"GluedHour$Reader", "tell", "(I)V"⟩, 14), (⟨"GluedHour$Reader", "tellLine", "(I)V"⟩, 14), (⟨"GluedHour", "begun", "(I)LGluedHour$Republic;"⟩, 9), (⟨"GluedHour", "gainBy", "(II)J"⟩, 9), (⟨"GluedHour$Planner", "bestOf", "(II)J"⟩, 9)]
theorem lw_r1 : ∀ q ∈ lw_privs_1, lw_okq q := List.forall_mem_cons.mpr ⟨lw_p0, List.forall_mem_cons.mpr ⟨lw_p1, List.forall_mem_cons.mpr ⟨lw_p2, List.forall_mem_cons.mpr ⟨lw_p3, List.forall_mem_cons.mpr ⟨lw_p4, List.forall_mem_cons.mpr ⟨lw_p5, List.forall_mem_cons.mpr ⟨lw_p6, List.forall_mem_cons.mpr ⟨lw_p7, List.forall_mem_cons.mpr ⟨lw_p8, List.forall_mem_cons.mpr ⟨lw_p9, List.forall_mem_cons.mpr ⟨lw_p10, List.forall_mem_cons.mpr ⟨lw_p11, List.forall_mem_cons.mpr ⟨lw_p12, List.forall_mem_cons.mpr ⟨lw_p13, List.forall_mem_cons.mpr ⟨lw_p14, List.forall_mem_cons.mpr ⟨lw_p15, fun _ h => absurd h List.not_mem_nil⟩⟩⟩⟩⟩⟩⟩⟩⟩⟩⟩⟩⟩⟩⟩⟩
theorem lw_p16 : lw_okq (⟨"GluedHour$Planner", "keep", "(J)V"⟩, 9) := ⟨lw_c2.1, lw_c2.2, ta_4 (i := 63) rfl, ta_4 (i := 64) rfl⟩
theorem lw_p17 : lw_okq (⟨"GluedHour$Planner", "blindBy", "(LGluedHour$Republic;LGluedHour$Lines;I)J"⟩, 9) := ⟨lw_c2.1, lw_c2.2, ta_4 (i := 77) rfl, ta_4 (i := 78) rfl⟩
theorem lw_c3 : ("GluedHour$Search" ≠ "java/lang/invoke/MethodHandle" ∧ "GluedHour$Search" ≠ "java/lang/invoke/VarHandle") ∧ Cond.instantiable "GluedHour$Search" 5 ∈ tables_1 := ⟨⟨by decide +kernel, by decide +kernel⟩, ta_2 (i := 44) rfl⟩
theorem lw_p18 : lw_okq (⟨"GluedHour$Search", "follow", "(LGluedHour$Republic;LGluedHour$Course;LGluedHour$Lines;I)V"⟩, 5) := ⟨lw_c3.1, lw_c3.2, ta_4 (i := 130) rfl, ta_4 (i := 131) rfl⟩
theorem lw_p19 : lw_okq (⟨"GluedHour$Search", "keepRow", "()V"⟩, 5) := ⟨lw_c3.1, lw_c3.2, ta_4 (i := 134) rfl, ta_4 (i := 135) rfl⟩
theorem lw_p20 : lw_okq (⟨"GluedHour", "expected", "(IIIZ)Z"⟩, 9) := ⟨lw_c1.1, lw_c1.2, ta_4 (i := 161) rfl, ta_4 (i := 162) rfl⟩
theorem lw_p21 : lw_okq (⟨"GluedHour", "nextDay", "(LGluedHour$Republic;LGluedHour$Odds;IZ)J"⟩, 9) := ⟨lw_c1.1, lw_c1.2, ta_4 (i := 175) rfl, ta_4 (i := 176) rfl⟩
theorem lw_p22 : lw_okq (⟨"GluedHour", "changeBy", "(LGluedHour$Republic;II)J"⟩, 9) := ⟨lw_c1.1, lw_c1.2, ta_4 (i := 198) rfl, ta_4 (i := 199) rfl⟩
theorem lw_c4 : ("GluedHourModel" ≠ "java/lang/invoke/MethodHandle" ∧ "GluedHourModel" ≠ "java/lang/invoke/VarHandle") ∧ Cond.instantiable "GluedHourModel" 59 ∈ tables_1 := ⟨⟨by decide +kernel, by decide +kernel⟩, ta_4 (i := 233) rfl⟩
theorem lw_p23 : lw_okq (⟨"GluedHourModel", "four", "(I)V"⟩, 59) := ⟨lw_c4.1, lw_c4.2, ta_5 (i := 182) rfl, ta_5 (i := 183) rfl⟩
theorem lw_p24 : lw_okq (⟨"GluedHourModel", "is", "(II)Z"⟩, 59) := ⟨lw_c4.1, lw_c4.2, ta_5 (i := 197) rfl, ta_5 (i := 198) rfl⟩
theorem lw_p25 : lw_okq (⟨"GluedHourModel", "readText", "(I)Z"⟩, 59) := ⟨lw_c4.1, lw_c4.2, ta_5 (i := 201) rfl, ta_5 (i := 202) rfl⟩
theorem lw_p26 : lw_okq (⟨"GluedHourModel", "token", "()V"⟩, 59) := ⟨lw_c4.1, lw_c4.2, ta_5 (i := 205) rfl, ta_5 (i := 206) rfl⟩
theorem lw_p27 : lw_okq (⟨"GluedHourModel", "see", "()I"⟩, 59) := ⟨lw_c4.1, lw_c4.2, ta_5 (i := 209) rfl, ta_5 (i := 210) rfl⟩
theorem lw_p28 : lw_okq (⟨"GluedHourModel", "lines", "(I)Z"⟩, 59) := ⟨lw_c4.1, lw_c4.2, ta_5 (i := 213) rfl, ta_5 (i := 214) rfl⟩
theorem lw_p29 : lw_okq (⟨"GluedHourModel", "lineOf", "(IJI)Z"⟩, 59) := ⟨lw_c4.1, lw_c4.2, ta_5 (i := 217) rfl, ta_5 (i := 218) rfl⟩
theorem lw_p30 : lw_okq (⟨"GluedHourModel", "republicLine", "(JI)Z"⟩, 59) := ⟨lw_c4.1, lw_c4.2, ta_5 (i := 221) rfl, ta_5 (i := 222) rfl⟩
theorem lw_p31 : lw_okq (⟨"GluedHourModel", "fails", "()Z"⟩, 59) := ⟨lw_c4.1, lw_c4.2, ta_5 (i := 231) rfl, ta_5 (i := 232) rfl⟩
def lw_privs_2 : List (MethodName × Nat) := [(⟨"GluedHour$Planner", "keep", "(J)V"⟩, 9), (⟨"GluedHour$Planner", "blindBy", "(LGluedHour$Republic;LGluedHour$Lines;I)J"⟩, 9), (⟨"GluedHour$Search", "follow", "(LGluedHour$Republic;LGluedHour$Course;LGluedHour$Lines;I)V"⟩, 5), (⟨"GluedHour$Search", "keepRow", "()V"⟩, 5), (⟨"GluedHour", "expected", "(IIIZ)Z"⟩, 9), (⟨"GluedHour", "nextDay", "(LGluedHour$Republic;LGluedHour$Odds;IZ)J"⟩, 9), (⟨"GluedHour", "changeBy", "(LGluedHour$Republic;II)J"⟩, 9), (⟨"GluedHourModel", "four", "(I)V"⟩, 59), (⟨"GluedHourModel", "is", "(II)Z"⟩, 59), (⟨"GluedHourModel", "readText", "(I)Z"⟩, 59), (⟨"GluedHourModel", "token", "()V"⟩, 59), (⟨"GluedHourModel", "see", "()I"⟩, 59), (⟨"GluedHourModel", "lines", "(I)Z"⟩, 59), (⟨"GluedHourModel", "lineOf", "(IJI)Z"⟩, 59), (⟨"GluedHourModel", "republicLine", "(JI)Z"⟩, 59), (⟨"GluedHourModel", "fails", "()Z"⟩, 59)]
theorem lw_r2 : ∀ q ∈ lw_privs_2, lw_okq q := List.forall_mem_cons.mpr ⟨lw_p16, List.forall_mem_cons.mpr ⟨lw_p17, List.forall_mem_cons.mpr ⟨lw_p18, List.forall_mem_cons.mpr ⟨lw_p19, List.forall_mem_cons.mpr ⟨lw_p20, List.forall_mem_cons.mpr ⟨lw_p21, List.forall_mem_cons.mpr ⟨lw_p22, List.forall_mem_cons.mpr ⟨lw_p23, List.forall_mem_cons.mpr ⟨lw_p24, List.forall_mem_cons.mpr ⟨lw_p25, List.forall_mem_cons.mpr ⟨lw_p26, List.forall_mem_cons.mpr ⟨lw_p27, List.forall_mem_cons.mpr ⟨lw_p28, List.forall_mem_cons.mpr ⟨lw_p29, List.forall_mem_cons.mpr ⟨lw_p30, List.forall_mem_cons.mpr ⟨lw_p31, fun _ h => absurd h List.not_mem_nil⟩⟩⟩⟩⟩⟩⟩⟩⟩⟩⟩⟩⟩⟩⟩⟩
theorem lw_p32 : lw_okq (⟨"GluedHourModel", "full", "(III)V"⟩, 59) := ⟨lw_c4.1, lw_c4.2, ta_5 (i := 235) rfl, ta_5 (i := 236) rfl⟩
theorem lw_p33 : lw_okq (⟨"GluedHourModel", "later", "(II)V"⟩, 59) := ⟨lw_c4.1, lw_c4.2, ta_5 (i := 239) rfl, ta_6 (i := 0) rfl⟩
theorem lw_p34 : lw_okq (⟨"GluedHourModel", "kindLine", "(Z)Z"⟩, 59) := ⟨lw_c4.1, lw_c4.2, ta_6 (i := 3) rfl, ta_6 (i := 4) rfl⟩
theorem lw_p35 : lw_okq (⟨"GluedHourModel", "take", "(III)Z"⟩, 59) := ⟨lw_c4.1, lw_c4.2, ta_6 (i := 7) rfl, ta_6 (i := 8) rfl⟩
theorem lw_p36 : lw_okq (⟨"GluedHourModel", "ofOne", "(Z)Z"⟩, 59) := ⟨lw_c4.1, lw_c4.2, ta_6 (i := 14) rfl, ta_6 (i := 15) rfl⟩
theorem lw_p37 : lw_okq (⟨"GluedHourModel", "weekLine", "(JI)Z"⟩, 59) := ⟨lw_c4.1, lw_c4.2, ta_6 (i := 21) rfl, ta_6 (i := 22) rfl⟩
theorem lw_p38 : lw_okq (⟨"GluedHourModel", "keep", "(III)V"⟩, 59) := ⟨lw_c4.1, lw_c4.2, ta_6 (i := 26) rfl, ta_6 (i := 27) rfl⟩
theorem lw_p39 : lw_okq (⟨"GluedHourModel", "errandLine", "(JI)Z"⟩, 59) := ⟨lw_c4.1, lw_c4.2, ta_6 (i := 30) rfl, ta_6 (i := 31) rfl⟩
theorem lw_p40 : lw_okq (⟨"GluedHourModel", "trainLine", "(JI)Z"⟩, 59) := ⟨lw_c4.1, lw_c4.2, ta_6 (i := 35) rfl, ta_6 (i := 36) rfl⟩
theorem lw_p41 : lw_okq (⟨"GluedHourModel", "sightLine", "(JI)Z"⟩, 59) := ⟨lw_c4.1, lw_c4.2, ta_6 (i := 40) rfl, ta_6 (i := 41) rfl⟩
theorem lw_p42 : lw_okq (⟨"GluedHourModel", "storeAll", "(II)V"⟩, 59) := ⟨lw_c4.1, lw_c4.2, ta_6 (i := 46) rfl, ta_6 (i := 47) rfl⟩
theorem lw_p43 : lw_okq (⟨"GluedHourModel", "store", "([III)V"⟩, 59) := ⟨lw_c4.1, lw_c4.2, ta_6 (i := 50) rfl, ta_6 (i := 51) rfl⟩
theorem lw_p44 : lw_okq (⟨"GluedHourModel", "hand", "(I)Z"⟩, 59) := ⟨lw_c4.1, lw_c4.2, ta_6 (i := 62) rfl, ta_6 (i := 63) rfl⟩
theorem lw_p45 : lw_okq (⟨"GluedHourModel", "of", "(I)I"⟩, 59) := ⟨lw_c4.1, lw_c4.2, ta_6 (i := 66) rfl, ta_6 (i := 67) rfl⟩
theorem lw_p46 : lw_okq (⟨"GluedHourModel", "layValues", "(I)V"⟩, 59) := ⟨lw_c4.1, lw_c4.2, ta_6 (i := 70) rfl, ta_6 (i := 71) rfl⟩
theorem lw_p47 : lw_okq (⟨"GluedHourModel", "valueBy", "(III)I"⟩, 59) := ⟨lw_c4.1, lw_c4.2, ta_6 (i := 74) rfl, ta_6 (i := 75) rfl⟩
def lw_privs_3 : List (MethodName × Nat) := [(⟨"GluedHourModel", "full", "(III)V"⟩, 59), (⟨"GluedHourModel", "later", "(II)V"⟩, 59), (⟨"GluedHourModel", "kindLine", "(Z)Z"⟩, 59), (⟨"GluedHourModel", "take", "(III)Z"⟩, 59), (⟨"GluedHourModel", "ofOne", "(Z)Z"⟩, 59), (⟨"GluedHourModel", "weekLine", "(JI)Z"⟩, 59), (⟨"GluedHourModel", "keep", "(III)V"⟩, 59), (⟨"GluedHourModel", "errandLine", "(JI)Z"⟩, 59), (⟨"GluedHourModel", "trainLine", "(JI)Z"⟩, 59), (⟨"GluedHourModel", "sightLine", "(JI)Z"⟩, 59), (⟨"GluedHourModel", "storeAll", "(II)V"⟩, 59), (⟨"GluedHourModel", "store", "([III)V"⟩, 59), (⟨"GluedHourModel", "hand", "(I)Z"⟩, 59), (⟨"GluedHourModel", "of", "(I)I"⟩, 59), (⟨"GluedHourModel", "layValues", "(I)V"⟩, 59), (⟨"GluedHourModel", "valueBy", "(III)I"⟩, 59)]
theorem lw_r3 : ∀ q ∈ lw_privs_3, lw_okq q := List.forall_mem_cons.mpr ⟨lw_p32, List.forall_mem_cons.mpr ⟨lw_p33, List.forall_mem_cons.mpr ⟨lw_p34, List.forall_mem_cons.mpr ⟨lw_p35, List.forall_mem_cons.mpr ⟨lw_p36, List.forall_mem_cons.mpr ⟨lw_p37, List.forall_mem_cons.mpr ⟨lw_p38, List.forall_mem_cons.mpr ⟨lw_p39, List.forall_mem_cons.mpr ⟨lw_p40, List.forall_mem_cons.mpr ⟨lw_p41, List.forall_mem_cons.mpr ⟨lw_p42, List.forall_mem_cons.mpr ⟨lw_p43, List.forall_mem_cons.mpr ⟨lw_p44, List.forall_mem_cons.mpr ⟨lw_p45, List.forall_mem_cons.mpr ⟨lw_p46, List.forall_mem_cons.mpr ⟨lw_p47, fun _ h => absurd h List.not_mem_nil⟩⟩⟩⟩⟩⟩⟩⟩⟩⟩⟩⟩⟩⟩⟩⟩
theorem lw_p48 : lw_okq (⟨"GluedHourModel", "worthOf", "(III)I"⟩, 59) := ⟨lw_c4.1, lw_c4.2, ta_6 (i := 78) rfl, ta_6 (i := 79) rfl⟩
theorem lw_p49 : lw_okq (⟨"GluedHourModel", "modeOf", "(I)I"⟩, 59) := ⟨lw_c4.1, lw_c4.2, ta_6 (i := 82) rfl, ta_6 (i := 83) rfl⟩
theorem lw_p50 : lw_okq (⟨"GluedHourModel", "layOdds", "()V"⟩, 59) := ⟨lw_c4.1, lw_c4.2, ta_6 (i := 89) rfl, ta_6 (i := 90) rfl⟩
theorem lw_p51 : lw_okq (⟨"GluedHourModel", "handOne", "(II)Z"⟩, 59) := ⟨lw_c4.1, lw_c4.2, ta_6 (i := 97) rfl, ta_6 (i := 98) rfl⟩
theorem lw_p52 : lw_okq (⟨"GluedHourModel", "isOne", "(I)Z"⟩, 59) := ⟨lw_c4.1, lw_c4.2, ta_6 (i := 101) rfl, ta_6 (i := 102) rfl⟩
theorem lw_p53 : lw_okq (⟨"GluedHourModel", "isHour", "(I)Z"⟩, 59) := ⟨lw_c4.1, lw_c4.2, ta_6 (i := 109) rfl, ta_6 (i := 110) rfl⟩
theorem lw_p54 : lw_okq (⟨"GluedHourModel", "allBy", "(I)I"⟩, 59) := ⟨lw_c4.1, lw_c4.2, ta_6 (i := 114) rfl, ta_6 (i := 115) rfl⟩
theorem lw_p55 : lw_okq (⟨"GluedHourModel", "hasWeek", "(I)Z"⟩, 59) := ⟨lw_c4.1, lw_c4.2, ta_6 (i := 132) rfl, ta_6 (i := 133) rfl⟩
theorem lw_p56 : lw_okq (⟨"GluedHourModel", "hourOf", "(I)I"⟩, 59) := ⟨lw_c4.1, lw_c4.2, ta_6 (i := 136) rfl, ta_6 (i := 137) rfl⟩
theorem lw_p57 : lw_okq (⟨"GluedHourModel", "liveDays", "(I)Z"⟩, 59) := ⟨lw_c4.1, lw_c4.2, ta_6 (i := 144) rfl, ta_6 (i := 145) rfl⟩
theorem lw_p58 : lw_okq (⟨"GluedHourModel", "live", "(I)V"⟩, 59) := ⟨lw_c4.1, lw_c4.2, ta_6 (i := 148) rfl, ta_6 (i := 149) rfl⟩
theorem lw_p59 : lw_okq (⟨"GluedHourModel", "drawHour", "()I"⟩, 59) := ⟨lw_c4.1, lw_c4.2, ta_6 (i := 161) rfl, ta_6 (i := 162) rfl⟩
theorem lw_p60 : lw_okq (⟨"GluedHourModel", "draw", "(I)I"⟩, 59) := ⟨lw_c4.1, lw_c4.2, ta_6 (i := 165) rfl, ta_6 (i := 166) rfl⟩
theorem lw_p61 : lw_okq (⟨"GluedHourModel", "meanOf", "(I)J"⟩, 59) := ⟨lw_c4.1, lw_c4.2, ta_6 (i := 174) rfl, ta_6 (i := 175) rfl⟩
theorem lw_p62 : lw_okq (⟨"GluedHourModel", "gainOf", "(II)J"⟩, 59) := ⟨lw_c4.1, lw_c4.2, ta_6 (i := 182) rfl, ta_6 (i := 183) rfl⟩
theorem lw_p63 : lw_okq (⟨"GluedHourModel", "choice", "()I"⟩, 59) := ⟨lw_c4.1, lw_c4.2, ta_6 (i := 190) rfl, ta_6 (i := 191) rfl⟩
def lw_privs_4 : List (MethodName × Nat) := [(⟨"GluedHourModel", "worthOf", "(III)I"⟩, 59), (⟨"GluedHourModel", "modeOf", "(I)I"⟩, 59), (⟨"GluedHourModel", "layOdds", "()V"⟩, 59), (⟨"GluedHourModel", "handOne", "(II)Z"⟩, 59), (⟨"GluedHourModel", "isOne", "(I)Z"⟩, 59), (⟨"GluedHourModel", "isHour", "(I)Z"⟩, 59), (⟨"GluedHourModel", "allBy", "(I)I"⟩, 59), (⟨"GluedHourModel", "hasWeek", "(I)Z"⟩, 59), (⟨"GluedHourModel", "hourOf", "(I)I"⟩, 59), (⟨"GluedHourModel", "liveDays", "(I)Z"⟩, 59), (⟨"GluedHourModel", "live", "(I)V"⟩, 59), (⟨"GluedHourModel", "drawHour", "()I"⟩, 59), (⟨"GluedHourModel", "draw", "(I)I"⟩, 59), (⟨"GluedHourModel", "meanOf", "(I)J"⟩, 59), (⟨"GluedHourModel", "gainOf", "(II)J"⟩, 59), (⟨"GluedHourModel", "choice", "()I"⟩, 59)]
theorem lw_r4 : ∀ q ∈ lw_privs_4, lw_okq q := List.forall_mem_cons.mpr ⟨lw_p48, List.forall_mem_cons.mpr ⟨lw_p49, List.forall_mem_cons.mpr ⟨lw_p50, List.forall_mem_cons.mpr ⟨lw_p51, List.forall_mem_cons.mpr ⟨lw_p52, List.forall_mem_cons.mpr ⟨lw_p53, List.forall_mem_cons.mpr ⟨lw_p54, List.forall_mem_cons.mpr ⟨lw_p55, List.forall_mem_cons.mpr ⟨lw_p56, List.forall_mem_cons.mpr ⟨lw_p57, List.forall_mem_cons.mpr ⟨lw_p58, List.forall_mem_cons.mpr ⟨lw_p59, List.forall_mem_cons.mpr ⟨lw_p60, List.forall_mem_cons.mpr ⟨lw_p61, List.forall_mem_cons.mpr ⟨lw_p62, List.forall_mem_cons.mpr ⟨lw_p63, fun _ h => absurd h List.not_mem_nil⟩⟩⟩⟩⟩⟩⟩⟩⟩⟩⟩⟩⟩⟩⟩⟩
theorem lw_p64 : lw_okq (⟨"GluedHourModel", "wishOf", "(I)I"⟩, 59) := ⟨lw_c4.1, lw_c4.2, ta_6 (i := 194) rfl, ta_6 (i := 195) rfl⟩
theorem lw_p65 : lw_okq (⟨"GluedHourModel", "swapDeed", "(III)V"⟩, 59) := ⟨lw_c4.1, lw_c4.2, ta_6 (i := 214) rfl, ta_6 (i := 215) rfl⟩
theorem lw_p66 : lw_okq (⟨"GluedHourModel", "apart", "(II)I"⟩, 59) := ⟨lw_c4.1, lw_c4.2, ta_6 (i := 222) rfl, ta_6 (i := 223) rfl⟩
theorem lw_p67 : lw_okq (⟨"GluedHourModel", "hasErrands", "(I)Z"⟩, 59) := ⟨lw_c4.1, lw_c4.2, ta_6 (i := 230) rfl, ta_6 (i := 231) rfl⟩
theorem lw_p68 : lw_okq (⟨"GluedHourModel", "errandOf", "(II)I"⟩, 59) := ⟨lw_c4.1, lw_c4.2, ta_6 (i := 234) rfl, ta_6 (i := 235) rfl⟩
theorem lw_p69 : lw_okq (⟨"GluedHourModel", "findBest", "(I)J"⟩, 59) := ⟨lw_c4.1, lw_c4.2, ta_7 (i := 2) rfl, ta_7 (i := 3) rfl⟩
theorem lw_p70 : lw_okq (⟨"GluedHourModel", "bestFrom", "(III)J"⟩, 59) := ⟨lw_c4.1, lw_c4.2, ta_7 (i := 6) rfl, ta_7 (i := 7) rfl⟩
theorem lw_p71 : lw_okq (⟨"GluedHourModel", "fromOf", "(I)I"⟩, 59) := ⟨lw_c4.1, lw_c4.2, ta_7 (i := 11) rfl, ta_7 (i := 12) rfl⟩
theorem lw_p72 : lw_okq (⟨"GluedHourModel", "toOf", "(I)I"⟩, 59) := ⟨lw_c4.1, lw_c4.2, ta_7 (i := 15) rfl, ta_7 (i := 16) rfl⟩
theorem lw_p73 : lw_okq (⟨"GluedHourModel", "worthAt", "(III)J"⟩, 59) := ⟨lw_c4.1, lw_c4.2, ta_7 (i := 22) rfl, ta_7 (i := 23) rfl⟩
theorem lw_p74 : lw_okq (⟨"GluedHourModel", "choose", "(I)V"⟩, 59) := ⟨lw_c4.1, lw_c4.2, ta_7 (i := 26) rfl, ta_7 (i := 27) rfl⟩
theorem lw_p75 : lw_okq (⟨"GluedHourModel", "rued", "()I"⟩, 59) := ⟨lw_c4.1, lw_c4.2, ta_7 (i := 30) rfl, ta_7 (i := 31) rfl⟩
theorem lw_p76 : lw_okq (⟨"GluedHourModel", "chosenBy", "(I)J"⟩, 59) := ⟨lw_c4.1, lw_c4.2, ta_7 (i := 34) rfl, ta_7 (i := 35) rfl⟩
theorem lw_p77 : lw_okq (⟨"GluedHourModel", "hasTable", "(I)Z"⟩, 59) := ⟨lw_c4.1, lw_c4.2, ta_7 (i := 42) rfl, ta_7 (i := 43) rfl⟩
theorem lw_p78 : lw_okq (⟨"GluedHourModel", "trains", "()I"⟩, 59) := ⟨lw_c4.1, lw_c4.2, ta_7 (i := 46) rfl, ta_7 (i := 47) rfl⟩
theorem lw_p79 : lw_okq (⟨"GluedHourModel", "trainOf", "(II)I"⟩, 59) := ⟨lw_c4.1, lw_c4.2, ta_7 (i := 50) rfl, ta_7 (i := 51) rfl⟩
def lw_privs_5 : List (MethodName × Nat) := [(⟨"GluedHourModel", "wishOf", "(I)I"⟩, 59), (⟨"GluedHourModel", "swapDeed", "(III)V"⟩, 59), (⟨"GluedHourModel", "apart", "(II)I"⟩, 59), (⟨"GluedHourModel", "hasErrands", "(I)Z"⟩, 59), (⟨"GluedHourModel", "errandOf", "(II)I"⟩, 59), (⟨"GluedHourModel", "findBest", "(I)J"⟩, 59), (⟨"GluedHourModel", "bestFrom", "(III)J"⟩, 59), (⟨"GluedHourModel", "fromOf", "(I)I"⟩, 59), (⟨"GluedHourModel", "toOf", "(I)I"⟩, 59), (⟨"GluedHourModel", "worthAt", "(III)J"⟩, 59), (⟨"GluedHourModel", "choose", "(I)V"⟩, 59), (⟨"GluedHourModel", "rued", "()I"⟩, 59), (⟨"GluedHourModel", "chosenBy", "(I)J"⟩, 59), (⟨"GluedHourModel", "hasTable", "(I)Z"⟩, 59), (⟨"GluedHourModel", "trains", "()I"⟩, 59), (⟨"GluedHourModel", "trainOf", "(II)I"⟩, 59)]
theorem lw_r5 : ∀ q ∈ lw_privs_5, lw_okq q := List.forall_mem_cons.mpr ⟨lw_p64, List.forall_mem_cons.mpr ⟨lw_p65, List.forall_mem_cons.mpr ⟨lw_p66, List.forall_mem_cons.mpr ⟨lw_p67, List.forall_mem_cons.mpr ⟨lw_p68, List.forall_mem_cons.mpr ⟨lw_p69, List.forall_mem_cons.mpr ⟨lw_p70, List.forall_mem_cons.mpr ⟨lw_p71, List.forall_mem_cons.mpr ⟨lw_p72, List.forall_mem_cons.mpr ⟨lw_p73, List.forall_mem_cons.mpr ⟨lw_p74, List.forall_mem_cons.mpr ⟨lw_p75, List.forall_mem_cons.mpr ⟨lw_p76, List.forall_mem_cons.mpr ⟨lw_p77, List.forall_mem_cons.mpr ⟨lw_p78, List.forall_mem_cons.mpr ⟨lw_p79, fun _ h => absurd h List.not_mem_nil⟩⟩⟩⟩⟩⟩⟩⟩⟩⟩⟩⟩⟩⟩⟩⟩
theorem lw_p80 : lw_okq (⟨"GluedHourModel", "slackBy", "(I)I"⟩, 59) := ⟨lw_c4.1, lw_c4.2, ta_7 (i := 58) rfl, ta_7 (i := 59) rfl⟩
theorem lw_p81 : lw_okq (⟨"GluedHourModel", "findEarliest", "()V"⟩, 59) := ⟨lw_c4.1, lw_c4.2, ta_7 (i := 72) rfl, ta_7 (i := 73) rfl⟩
theorem lw_p82 : lw_okq (⟨"GluedHourModel", "canLeave", "(III)Z"⟩, 59) := ⟨lw_c4.1, lw_c4.2, ta_7 (i := 76) rfl, ta_7 (i := 77) rfl⟩
theorem lw_p83 : lw_okq (⟨"GluedHourModel", "hasSights", "(I)Z"⟩, 59) := ⟨lw_c4.1, lw_c4.2, ta_7 (i := 84) rfl, ta_7 (i := 85) rfl⟩
theorem lw_p84 : lw_okq (⟨"GluedHourModel", "sightOf", "(II)I"⟩, 59) := ⟨lw_c4.1, lw_c4.2, ta_7 (i := 88) rfl, ta_7 (i := 89) rfl⟩
theorem lw_p85 : lw_okq (⟨"GluedHourModel", "findFits", "()V"⟩, 59) := ⟨lw_c4.1, lw_c4.2, ta_7 (i := 96) rfl, ta_7 (i := 97) rfl⟩
theorem lw_p86 : lw_okq (⟨"GluedHourModel", "isRow", "(I)Z"⟩, 59) := ⟨lw_c4.1, lw_c4.2, ta_7 (i := 100) rfl, ta_7 (i := 101) rfl⟩
theorem lw_p87 : lw_okq (⟨"GluedHourModel", "isAsSeen", "(I)Z"⟩, 59) := ⟨lw_c4.1, lw_c4.2, ta_7 (i := 104) rfl, ta_7 (i := 105) rfl⟩
theorem lw_p88 : lw_okq (⟨"GluedHourModel", "onlyOne", "(I)I"⟩, 59) := ⟨lw_c4.1, lw_c4.2, ta_7 (i := 108) rfl, ta_7 (i := 109) rfl⟩
theorem lw_p89 : lw_okq (⟨"GluedHourModel", "reignDays", "(I)I"⟩, 59) := ⟨lw_c4.1, lw_c4.2, ta_7 (i := 116) rfl, ta_7 (i := 117) rfl⟩
theorem lw_p90 : lw_okq (⟨"GluedHourModel", "expect", "(IIZ)V"⟩, 59) := ⟨lw_c4.1, lw_c4.2, ta_7 (i := 125) rfl, ta_7 (i := 126) rfl⟩
theorem lw_p91 : lw_okq (⟨"GluedHourModel", "begin", "()V"⟩, 59) := ⟨lw_c4.1, lw_c4.2, ta_7 (i := 129) rfl, ta_7 (i := 130) rfl⟩
theorem lw_p92 : lw_okq (⟨"GluedHourModel", "plus", "(JJ)V"⟩, 59) := ⟨lw_c4.1, lw_c4.2, ta_7 (i := 133) rfl, ta_7 (i := 134) rfl⟩
theorem lw_p93 : lw_okq (⟨"GluedHourModel", "allMeans", "()J"⟩, 59) := ⟨lw_c4.1, lw_c4.2, ta_7 (i := 145) rfl, ta_7 (i := 146) rfl⟩
theorem lw_p94 : lw_okq (⟨"GluedHourModel", "copyAll", "(II)V"⟩, 59) := ⟨lw_c4.1, lw_c4.2, ta_7 (i := 169) rfl, ta_7 (i := 170) rfl⟩
def lw_privs_6 : List (MethodName × Nat) := [(⟨"GluedHourModel", "slackBy", "(I)I"⟩, 59), (⟨"GluedHourModel", "findEarliest", "()V"⟩, 59), (⟨"GluedHourModel", "canLeave", "(III)Z"⟩, 59), (⟨"GluedHourModel", "hasSights", "(I)Z"⟩, 59), (⟨"GluedHourModel", "sightOf", "(II)I"⟩, 59), (⟨"GluedHourModel", "findFits", "()V"⟩, 59), (⟨"GluedHourModel", "isRow", "(I)Z"⟩, 59), (⟨"GluedHourModel", "isAsSeen", "(I)Z"⟩, 59), (⟨"GluedHourModel", "onlyOne", "(I)I"⟩, 59), (⟨"GluedHourModel", "reignDays", "(I)I"⟩, 59), (⟨"GluedHourModel", "expect", "(IIZ)V"⟩, 59), (⟨"GluedHourModel", "begin", "()V"⟩, 59), (⟨"GluedHourModel", "plus", "(JJ)V"⟩, 59), (⟨"GluedHourModel", "allMeans", "()J"⟩, 59), (⟨"GluedHourModel", "copyAll", "(II)V"⟩, 59)]
theorem lw_r6 : ∀ q ∈ lw_privs_6, lw_okq q := List.forall_mem_cons.mpr ⟨lw_p80, List.forall_mem_cons.mpr ⟨lw_p81, List.forall_mem_cons.mpr ⟨lw_p82, List.forall_mem_cons.mpr ⟨lw_p83, List.forall_mem_cons.mpr ⟨lw_p84, List.forall_mem_cons.mpr ⟨lw_p85, List.forall_mem_cons.mpr ⟨lw_p86, List.forall_mem_cons.mpr ⟨lw_p87, List.forall_mem_cons.mpr ⟨lw_p88, List.forall_mem_cons.mpr ⟨lw_p89, List.forall_mem_cons.mpr ⟨lw_p90, List.forall_mem_cons.mpr ⟨lw_p91, List.forall_mem_cons.mpr ⟨lw_p92, List.forall_mem_cons.mpr ⟨lw_p93, List.forall_mem_cons.mpr ⟨lw_p94, fun _ h => absurd h List.not_mem_nil⟩⟩⟩⟩⟩⟩⟩⟩⟩⟩⟩⟩⟩⟩⟩
def lw_privs : List (MethodName × Nat) := lw_privs_1 ++ (lw_privs_2 ++ (lw_privs_3 ++ (lw_privs_4 ++ (lw_privs_5 ++ (lw_privs_6)))))
def lw_tbl : List Cond := k2_sels lw_privs ++ tables_1
theorem lw_privs_ok : ∀ q ∈ lw_privs, lw_okq q := by
  show ∀ q ∈ lw_privs_1 ++ (lw_privs_2 ++ (lw_privs_3 ++ (lw_privs_4 ++ (lw_privs_5 ++ (lw_privs_6))))), lw_okq q
  exact List.forall_mem_append.mpr ⟨lw_r1, List.forall_mem_append.mpr ⟨lw_r2, List.forall_mem_append.mpr ⟨lw_r3, List.forall_mem_append.mpr ⟨lw_r4, List.forall_mem_append.mpr ⟨lw_r5, lw_r6⟩⟩⟩⟩⟩
-- ===== end of PART A; then your names; then what follows =====
