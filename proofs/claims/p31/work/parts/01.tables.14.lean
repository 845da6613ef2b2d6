section
-- ===== PART A: goes FIRST, ahead of the names: the tables' words, and 'selects' of the private methods out of them =====
/-- a private method of a class that the tables say can be made, by its rows of tables_1 -/
def lw_okq (q : MethodName × Nat) : Prop := (q.1.cls ≠ "java/lang/invoke/MethodHandle" ∧ q.1.cls ≠ "java/lang/invoke/VarHandle") ∧ Cond.instantiable q.1.cls q.2 ∈ tables_1 ∧ Cond.privateMethod q.1 ∈ tables_1 ∧ Cond.instanceMethod q.1 ∈ tables_1
theorem ta_1 {i : Nat} {w : Cond} (h : (tables_1_1)[i]? = some w) : w ∈ tables_1 := List.mem_append_left _ (List.mem_of_getElem? h)
theorem ta_2 {i : Nat} {w : Cond} (h : (tables_1_2)[i]? = some w) : w ∈ tables_1 := List.mem_append_right _ (List.mem_append_left _ (List.mem_of_getElem? h))
theorem ta_3 {i : Nat} {w : Cond} (h : (tables_1_3)[i]? = some w) : w ∈ tables_1 := List.mem_append_right _ (List.mem_append_right _ (List.mem_append_left _ (List.mem_of_getElem? h)))
theorem ta_4 {i : Nat} {w : Cond} (h : (tables_1_4)[i]? = some w) : w ∈ tables_1 := List.mem_append_right _ (List.mem_append_right _ (List.mem_append_right _ (List.mem_append_left _ (List.mem_of_getElem? h))))
theorem ta_5 {i : Nat} {w : Cond} (h : (tables_1_5)[i]? = some w) : w ∈ tables_1 := List.mem_append_right _ (List.mem_append_right _ (List.mem_append_right _ (List.mem_append_right _ (List.mem_append_left _ (List.mem_of_getElem? h)))))
theorem ta_6 {i : Nat} {w : Cond} (h : (tables_1_6)[i]? = some w) : w ∈ tables_1 := List.mem_append_right _ (List.mem_append_right _ (List.mem_append_right _ (List.mem_append_right _ (List.mem_append_right _ (List.mem_append_left _ (List.mem_of_getElem? h))))))
theorem ta_7 {i : Nat} {w : Cond} (h : (tables_1_7)[i]? = some w) : w ∈ tables_1 := List.mem_append_right _ (List.mem_append_right _ (List.mem_append_right _ (List.mem_append_right _ (List.mem_append_right _ (List.mem_append_right _ (List.mem_of_getElem? h))))))
theorem lw_c0 : ("GluedHour$Reader" ≠ "java/lang/invoke/MethodHandle" ∧ "GluedHour$Reader" ≠ "java/lang/invoke/VarHandle") ∧ Cond.instantiable "GluedHour$Reader" 14 ∈ tables_1 := ⟨⟨by decide +kernel, by decide +kernel⟩, ta_1 (i := 142) rfl⟩
theorem lw_p0 : lw_okq (⟨"GluedHour$Reader", "begin", "(II)V"⟩, 14) := ⟨lw_c0.1, lw_c0.2, ta_2 (i := 133) rfl, ta_2 (i := 134) rfl⟩
theorem lw_p1 : lw_okq (⟨"GluedHour$Reader", "draftOf", "(I)LGluedHour$Lines;"⟩, 14) := ⟨lw_c0.1, lw_c0.2, ta_2 (i := 144) rfl, ta_2 (i := 145) rfl⟩
theorem lw_p2 : lw_okq (⟨"GluedHour$Reader", "step", "()V"⟩, 14) := ⟨lw_c0.1, lw_c0.2, ta_2 (i := 148) rfl, ta_2 (i := 149) rfl⟩
theorem lw_p3 : lw_okq (⟨"GluedHour$Reader", "stepNumber", "()V"⟩, 14) := ⟨lw_c0.1, lw_c0.2, ta_2 (i := 158) rfl, ta_2 (i := 159) rfl⟩
theorem lw_p4 : lw_okq (⟨"GluedHour$Reader", "readLine", "(I)Z"⟩, 14) := ⟨lw_c0.1, lw_c0.2, ta_2 (i := 162) rfl, ta_2 (i := 163) rfl⟩
theorem lw_p5 : lw_okq (⟨"GluedHour$Reader", "verbOf", "(I)I"⟩, 14) := ⟨lw_c0.1, lw_c0.2, ta_2 (i := 166) rfl, ta_2 (i := 167) rfl⟩
theorem lw_p6 : lw_okq (⟨"GluedHour$Reader", "isWord", "(Ljava/lang/String;)Z"⟩, 14) := ⟨lw_c0.1, lw_c0.2, ta_2 (i := 186) rfl, ta_2 (i := 187) rfl⟩
theorem lw_p7 : lw_okq (⟨"GluedHour$Reader", "isOneTooMany", "(I)Z"⟩, 14) := ⟨lw_c0.1, lw_c0.2, ta_2 (i := 238) rfl, ta_2 (i := 239) rfl⟩
theorem lw_p8 : lw_okq (⟨"GluedHour$Reader", "note", "(II)V"⟩, 14) := ⟨lw_c0.1, lw_c0.2, ta_3 (i := 6) rfl, ta_3 (i := 7) rfl⟩
theorem lw_p9 : lw_okq (⟨"GluedHour$Reader", "checkNumber", "(II)V"⟩, 14) := ⟨lw_c0.1, lw_c0.2, ta_3 (i := 12) rfl, ta_3 (i := 13) rfl⟩
theorem lw_p10 : lw_okq (⟨"GluedHour$Reader", "readMode", "()Z"⟩, 14) := ⟨lw_c0.1, lw_c0.2, ta_3 (i := 20) rfl, ta_3 (i := 21) rfl⟩
theorem lw_p11 : lw_okq (⟨"GluedHour$Reader", "tell", "(I)V"⟩, 14) := ⟨lw_c0.1, lw_c0.2, ta_3 (i := 27) rfl, ta_3 (i := 28) rfl⟩
theorem lw_p12 : lw_okq (⟨"GluedHour$Reader", "tellLine", "(I)V"⟩, 14) := ⟨lw_c0.1, lw_c0.2, ta_3 (i := 31) rfl, ta_3 (i := 32) rfl⟩
theorem lw_c1 : ("GluedHour" ≠ "java/lang/invoke/MethodHandle" ∧ "GluedHour" ≠ "java/lang/invoke/VarHandle") ∧ Cond.instantiable "GluedHour" 9 ∈ tables_1 := ⟨⟨by decide +kernel, by decide +kernel⟩, ta_1 (i := 19) rfl⟩
theorem lw_p13 : lw_okq (⟨"GluedHour", "begun", "(I)LGluedHour$Republic;"⟩, 9) := ⟨lw_c1.1, lw_c1.2, ta_3 (i := 71) rfl, ta_3 (i := 72) rfl⟩
theorem lw_p14 : lw_okq (⟨"GluedHour", "gainBy", "(II)J"⟩, 9) := ⟨lw_c1.1, lw_c1.2, ta_3 (i := 222) rfl, ta_3 (i := 223) rfl⟩
theorem lw_c2 : ("GluedHour$Planner" ≠ "java/lang/invoke/MethodHandle" ∧ "GluedHour$Planner" ≠ "java/lang/invoke/VarHandle") ∧ Cond.instantiable "GluedHour$Planner" 9 ∈ tables_1 := ⟨⟨by decide +kernel, by decide +kernel⟩, ta_2 (i := 2) rfl⟩
theorem lw_p15 : lw_okq (⟨"GluedHour$Planner", "bestOf", "(II)J"⟩, 9) := ⟨lw_c2.1, lw_c2.2, ta_4 (i := 58) rfl, ta_4 (i := 59) rfl⟩
def lw_privs_1 : List (MethodName × Nat) := [(⟨"GluedHour$Reader", "begin", "(II)V"⟩, 14), (⟨"GluedHour$Reader", "draftOf", "(I)LGluedHour$Lines;"⟩, 14), (⟨"GluedHour$Reader", "step", "()V"⟩, 14), (⟨"GluedHour$Reader", "stepNumber", "()V"⟩, 14), (⟨"GluedHour$Reader", "readLine", "(I)Z"⟩, 14), (⟨"GluedHour$Reader", "verbOf", "(I)I"⟩, 14), (⟨"GluedHour$Reader", "isWord", "(Ljava/lang/String;)Z"⟩, 14), (⟨"GluedHour$Reader", "isOneTooMany", "(I)Z"⟩, 14), (⟨"GluedHour$Reader", "note", "(II)V"⟩, 14), (⟨"GluedHour$Reader", "checkNumber", "(II)V"⟩, 14), (⟨"GluedHour$Reader", "readMode", "()Z"⟩, 14), (⟨"GluedHour$Reader", "tell", "(I)V"⟩, 14), (⟨"GluedHour$Reader", "tellLine", "(I)V"⟩, 14), (⟨"GluedHour", "begun", "(I)LGluedHour$Republic;"⟩, 9), (⟨"GluedHour", "gainBy", "(II)J"⟩, 9), (⟨"GluedHour$Planner", "bestOf", "(II)J"⟩, 9)]
theorem lw_r1 : ∀ q ∈ lw_privs_1, lw_okq q := List.forall_mem_cons.mpr ⟨lw_p0, List.forall_mem_cons.mpr ⟨lw_p1, List.forall_mem_cons.mpr ⟨lw_p2, List.forall_mem_cons.mpr ⟨lw_p3, List.forall_mem_cons.mpr ⟨lw_p4, List.forall_mem_cons.mpr ⟨lw_p5, List.forall_mem_cons.mpr ⟨lw_p6, List.forall_mem_cons.mpr ⟨lw_p7, List.forall_mem_cons.mpr ⟨lw_p8, List.forall_mem_cons.mpr ⟨lw_p9, List.forall_mem_cons.mpr ⟨lw_p10, List.forall_mem_cons.mpr ⟨lw_p11, List.forall_mem_cons.mpr ⟨lw_p12, List.forall_mem_cons.mpr ⟨lw_p13, List.forall_mem_cons.mpr ⟨lw_p14, List.forall_mem_cons.mpr ⟨lw_p15, fun _ h => absurd h List.not_mem_nil⟩⟩⟩⟩⟩⟩⟩⟩⟩⟩⟩⟩⟩⟩⟩⟩
theorem lw_p16 : lw_okq (⟨"GluedHour$Planner", "keep", "(J)V"⟩, 9) := ⟨lw_c2.1, lw_c2.2, ta_4 (i := 63) rfl, ta_4 (i := 64) rfl⟩
theorem lw_p17 : lw_okq (⟨"GluedHour$Planner", "blindBy", "(LGluedHour$Republic;LGluedHour$Lines;I)J"⟩, 9) := ⟨lw_c2.1, lw_c2.2, ta_4 (i := 77) rfl, ta_4 (i := 78) rfl⟩
theorem lw_c3 : ("GluedHour$Search" ≠ "java/lang/invoke/MethodHandle" ∧ "GluedHour$Search" ≠ "java/lang/invoke/VarHandle") ∧ Cond.instantiable "GluedHour$Search" 5 ∈ tables_1 := ⟨⟨by decide +kernel, by decide +kernel⟩, ta_2 (i := 44) rfl⟩
theorem lw_p18 : lw_okq (⟨"GluedHour$Search", "follow", "(LGluedHour$Republic;LGluedHour$Course;LGluedHour$Lines;I)V"⟩, 5) := ⟨lw_c3.1, lw_c3.2, ta_4 (i := 130) rfl, ta_4 (i := 131) rfl⟩
theorem lw_p19 : lw_okq (⟨"GluedHour$Search", "keepRow", "()V"⟩, 5) := ⟨lw_c3.1, lw_c3.2, ta_4 (i := 134) rfl, ta_4 (i := 135) rfl⟩
theorem lw_p20 : lw_okq (⟨"GluedHour", "expected", "(IIIZ)Z"⟩, 9) := ⟨lw_c1.1, lw_c1.2, ta_4 (i := 161) rfl, ta_4 (i := 162) rfl⟩
theorem lw_p21 : lw_okq (⟨"GluedHour", "nextDay", "(LGluedHour$Republic;LGluedHour$Odds;IZ)J"⟩, 9) := ⟨lw_c1.1, lw_c1.2, ta_4 (i := 175) rfl, ta_4 (i := 176) rfl⟩
theorem lw_p22 : lw_okq (⟨"GluedHour", "changeBy", "(LGluedHour$Republic;II)J"⟩, 9) := ⟨lw_c1.1, lw_c1.2, ta_4 (i := 198) rfl, ta_4 (i := 199) rfl⟩
theorem lw_c4 : ("GluedHourModel" ≠ "java/lang/invoke/MethodHandle" ∧ "GluedHourModel" ≠ "java/lang/invoke/VarHandle") ∧ Cond.instantiable "GluedHourModel" 59 ∈ tables_1 := ⟨⟨by decide +kernel, by decide +kernel⟩, ta_4 (i := 233) rfl⟩
theorem lw_p23 : lw_okq (⟨"GluedHourModel", "four", "(I)V"⟩, 59) := ⟨lw_c4.1, lw_c4.2, ta_5 (i := 182) rfl, ta_5 (i := 183) rfl⟩
theorem lw_p24 : lw_okq (⟨"GluedHourModel", "is", "(II)Z"⟩, 59) := ⟨lw_c4.1, lw_c4.2, ta_5 (i := 197) rfl, ta_5 (i := 198) rfl⟩
theorem lw_p25 : lw_okq (⟨"GluedHourModel", "readText", "(I)Z"⟩, 59) := ⟨lw_c4.1, lw_c4.2, ta_5 (i := 201) rfl, ta_5 (i := 202) rfl⟩
theorem lw_p26 : lw_okq (⟨"GluedHourModel", "token", "()V"⟩, 59) := ⟨lw_c4.1, lw_c4.2, ta_5 (i := 205) rfl, ta_5 (i := 206) rfl⟩
theorem lw_p27 : lw_okq (⟨"GluedHourModel", "see", "()I"⟩, 59) := ⟨lw_c4.1, lw_c4.2, ta_5 (i := 209) rfl, ta_5 (i := 210) rfl⟩
theorem lw_p28 : lw_okq (⟨"GluedHourModel", "lines", "(I)Z"⟩, 59) := ⟨lw_c4.1, lw_c4.2, ta_5 (i := 213) rfl, ta_5 (i := 214) rfl⟩
theorem lw_p29 : lw_okq (⟨"GluedHourModel", "lineOf", "(IJI)Z"⟩, 59) := ⟨lw_c4.1, lw_c4.2, ta_5 (i := 217) rfl, ta_5 (i := 218) rfl⟩
theorem lw_p30 : lw_okq (⟨"GluedHourModel", "republicLine", "(JI)Z"⟩, 59) := ⟨lw_c4.1, lw_c4.2, ta_5 (i := 221) rfl, ta_5 (i := 222) rfl⟩
theorem lw_p31 : lw_okq (⟨"GluedHourModel", "fails", "()Z"⟩, 59) := ⟨lw_c4.1, lw_c4.2, ta_5 (i := 231) rfl, ta_5 (i := 232) rfl⟩
def lw_privs_2 : List (MethodName × Nat) := [(⟨"GluedHour$Planner", "keep", "(J)V"⟩, 9), (⟨"GluedHour$Planner", "blindBy", "(LGluedHour$Republic;LGluedHour$Lines;I)J"⟩, 9), (⟨"GluedHour$Search", "follow", "(LGluedHour$Republic;LGluedHour$Course;LGluedHour$Lines;I)V"⟩, 5), (⟨"GluedHour$Search", "keepRow", "()V"⟩, 5), (⟨"GluedHour", "expected", "(IIIZ)Z"⟩, 9), (⟨"GluedHour", "nextDay", "(LGluedHour$Republic;LGluedHour$Odds;IZ)J"⟩, 9), (⟨"GluedHour", "changeBy", "(LGluedHour$Republic;II)J"⟩, 9), (⟨"GluedHourModel", "four", "(I)V"⟩, 59), (⟨"GluedHourModel", "is", "(II)Z"⟩, 59), (⟨"GluedHourModel", "readText", "(I)Z"⟩, 59), (⟨"GluedHourModel", "token", "()V"⟩, 59), (⟨"GluedHourModel", "see", "()I"⟩, 59), (⟨"GluedHourModel", "lines", "(I)Z"⟩, 59), (⟨"GluedHourModel", "lineOf", "(IJI)Z"⟩, 59), (⟨"GluedHourModel", "republicLine", "(JI)Z"⟩, 59), (⟨"GluedHourModel", "fails", "()Z"⟩, 59)]
theorem lw_r2 : ∀ q ∈ lw_privs_2, lw_okq q := List.forall_mem_cons.mpr ⟨lw_p16, List.forall_mem_cons.mpr ⟨lw_p17, List.forall_mem_cons.mpr ⟨lw_p18, List.forall_mem_cons.mpr ⟨lw_p19, List.forall_mem_cons.mpr ⟨lw_p20, List.forall_mem_cons.mpr ⟨lw_p21, List.forall_mem_cons.mpr ⟨lw_p22, List.forall_mem_cons.mpr ⟨lw_p23, List.forall_mem_cons.mpr ⟨lw_p24, List.forall_mem_cons.mpr ⟨lw_p25, List.forall_mem_cons.mpr ⟨lw_p26, List.forall_mem_cons.mpr ⟨lw_p27, List.forall_mem_cons.mpr ⟨lw_p28, List.forall_mem_cons.mpr ⟨lw_p29, List.forall_mem_cons.mpr ⟨lw_p30, List.forall_mem_cons.mpr ⟨lw_p31, fun _ h => absurd h List.not_mem_nil⟩⟩⟩⟩⟩⟩⟩⟩⟩⟩⟩⟩⟩⟩⟩⟩
theorem lw_p32 : lw_okq (⟨"GluedHourModel", "full", "(III)V"⟩, 59) := ⟨lw_c4.1, lw_c4.2, ta_5 (i := 235) rfl, ta_5 (i := 236) rfl⟩
theorem lw_p33 : lw_okq (⟨"GluedHourModel", "later", "(II)V"⟩, 59) := ⟨lw_c4.1, lw_c4.2, ta_5 (i := 239) rfl, ta_6 (i := 0) rfl⟩
theorem lw_p34 : lw_okq (⟨"GluedHourModel", "kindLine", "(Z)Z"⟩, 59) := ⟨lw_c4.1, lw_c4.2, ta_6 (i := 3) rfl, ta_6 (i := 4) rfl⟩
theorem lw_p35 : lw_okq (⟨"GluedHourModel", "take", "(III)Z"⟩, 59) := ⟨lw_c4.1, lw_c4.2, ta_6 (i := 7) rfl, ta_6 (i := 8) rfl⟩
theorem lw_p36 : lw_okq (⟨"GluedHourModel", "ofOne", "(Z)Z"⟩, 59) := ⟨lw_c4.1, lw_c4.2, ta_6 (i := 14) rfl, ta_6 (i := 15) rfl⟩
theorem lw_p37 : lw_okq (⟨"GluedHourModel", "weekLine", "(JI)Z"⟩, 59) := ⟨lw_c4.1, lw_c4.2, ta_6 (i := 21) rfl, ta_6 (i := 22) rfl⟩
theorem lw_p38 : lw_okq (⟨"GluedHourModel", "keep", "(III)V"⟩, 59) := ⟨lw_c4.1, lw_c4.2, ta_6 (i := 26) rfl, ta_6 (i := 27) rfl⟩
theorem lw_p39 : lw_okq (⟨"GluedHourModel", "errandLine", "(JI)Z"⟩, 59) := ⟨lw_c4.1, lw_c4.2, ta_6 (i := 30) rfl, ta_6 (i := 31) rfl⟩
theorem lw_p40 : lw_okq (⟨"GluedHourModel", "trainLine", "(JI)Z"⟩, 59) := ⟨lw_c4.1, lw_c4.2, ta_6 (i := 35) rfl, ta_6 (i := 36) rfl⟩
theorem lw_p41 : lw_okq (⟨"GluedHourModel", "sightLine", "(JI)Z"⟩, 59) := ⟨lw_c4.1, lw_c4.2, ta_6 (i := 40) rfl, ta_6 (i := 41) rfl⟩
theorem lw_p42 : lw_okq (⟨"GluedHourModel", "storeAll", "(II)V"⟩, 59) := ⟨lw_c4.1, lw_c4.2, ta_6 (i := 46) rfl, ta_6 (i := 47) rfl⟩
theorem lw_p43 : lw_okq (⟨"GluedHourModel", "store", "([III)V"⟩, 59) := ⟨lw_c4.1, lw_c4.2, ta_6 (i := 50) rfl, ta_6 (i := 51) rfl⟩
theorem lw_p44 : lw_okq (⟨"GluedHourModel", "hand", "(I)Z"⟩, 59) := ⟨lw_c4.1, lw_c4.2, ta_6 (i := 62) rfl, ta_6 (i := 63) rfl⟩
theorem lw_p45 : lw_okq (⟨"GluedHourModel", "of", "(I)I"⟩, 59) := ⟨lw_c4.1, lw_c4.2, ta_6 (i := 66) rfl, ta_6 (i := 67) rfl⟩
theorem lw_p46 : lw_okq (⟨"GluedHourModel", "layValues", "(I)V"⟩, 59) := ⟨lw_c4.1, lw_c4.2, ta_6 (i := 70) rfl, ta_6 (i := 71) rfl⟩
theorem lw_p47 : lw_okq (⟨"GluedHourModel", "valueBy", "(III)I"⟩, 59) := ⟨lw_c4.1, lw_c4.2, ta_6 (i := 74) rfl, ta_6 (i := 75) rfl⟩
def lw_privs_3 : List (MethodName × Nat) := [(⟨"GluedHourModel", "full", "(III)V"⟩, 59), (⟨"GluedHourModel", "later", "(II)V"⟩, 59), (⟨"GluedHourModel", "kindLine", "(Z)Z"⟩, 59), (⟨"GluedHourModel", "take", "(III)Z"⟩, 59), (⟨"GluedHourModel", "ofOne", "(Z)Z"⟩, 59), (⟨"GluedHourModel", "weekLine", "(JI)Z"⟩, 59), (⟨"GluedHourModel", "keep", "(III)V"⟩, 59), (⟨"GluedHourModel", "errandLine", "(JI)Z"⟩, 59), (⟨"GluedHourModel", "trainLine", "(JI)Z"⟩, 59), (⟨"GluedHourModel", "sightLine", "(JI)Z"⟩, 59), (⟨"GluedHourModel", "storeAll", "(II)V"⟩, 59), (⟨"GluedHourModel", "store", "([III)V"⟩, 59), (⟨"GluedHourModel", "hand", "(I)Z"⟩, 59), (⟨"GluedHourModel", "of", "(I)I"⟩, 59), (⟨"GluedHourModel", "layValues", "(I)V"⟩, 59), (⟨"GluedHourModel", "valueBy", "(III)I"⟩, 59)]
theorem lw_r3 : ∀ q ∈ lw_privs_3, lw_okq q := List.forall_mem_cons.mpr ⟨lw_p32, List.forall_mem_cons.mpr ⟨lw_p33, List.forall_mem_cons.mpr ⟨lw_p34, List.forall_mem_cons.mpr ⟨lw_p35, List.forall_mem_cons.mpr ⟨lw_p36, List.forall_mem_cons.mpr ⟨lw_p37, List.forall_mem_cons.mpr ⟨lw_p38, List.forall_mem_cons.mpr ⟨lw_p39, List.forall_mem_cons.mpr ⟨lw_p40, List.forall_mem_cons.mpr ⟨lw_p41, List.forall_mem_cons.mpr ⟨lw_p42, List.forall_mem_cons.mpr ⟨lw_p43, List.forall_mem_cons.mpr ⟨lw_p44, List.forall_mem_cons.mpr ⟨lw_p45, List.forall_mem_cons.mpr ⟨lw_p46, List.forall_mem_cons.mpr ⟨lw_p47, fun _ h => absurd h List.not_mem_nil⟩⟩⟩⟩⟩⟩⟩⟩⟩⟩⟩⟩⟩⟩⟩⟩
theorem lw_p48 : lw_okq (⟨"GluedHourModel", "worthOf", "(III)I"⟩, 59) := ⟨lw_c4.1, lw_c4.2, ta_6 (i := 78) rfl, ta_6 (i := 79) rfl⟩
theorem lw_p49 : lw_okq (⟨"GluedHourModel", "modeOf", "(I)I"⟩, 59) := ⟨lw_c4.1, lw_c4.2, ta_6 (i := 82) rfl, ta_6 (i := 83) rfl⟩
theorem lw_p50 : lw_okq (⟨"GluedHourModel", "layOdds", "()V"⟩, 59) := ⟨lw_c4.1, lw_c4.2, ta_6 (i := 89) rfl, ta_6 (i := 90) rfl⟩
theorem lw_p51 : lw_okq (⟨"GluedHourModel", "handOne", "(II)Z"⟩, 59) := ⟨lw_c4.1, lw_c4.2, ta_6 (i := 97) rfl, ta_6 (i := 98) rfl⟩
theorem lw_p52 : lw_okq (⟨"GluedHourModel", "isOne", "(I)Z"⟩, 59) := ⟨lw_c4.1, lw_c4.2, ta_6 (i := 101) rfl, ta_6 (i := 102) rfl⟩
theorem lw_p53 : lw_okq (⟨"GluedHourModel", "isHour", "(I)Z"⟩, 59) := ⟨lw_c4.1, lw_c4.2, ta_6 (i := 109) rfl, ta_6 (i := 110) rfl⟩
theorem lw_p54 : lw_okq (⟨"GluedHourModel", "allBy", "(I)I"⟩, 59) := ⟨lw_c4.1, lw_c4.2, ta_6 (i := 114) rfl, ta_6 (i := 115) rfl⟩
theorem lw_p55 : lw_okq (⟨"GluedHourModel", "hasWeek", "(I)Z"⟩, 59) := ⟨lw_c4.1, lw_c4.2, ta_6 (i := 132) rfl, ta_6 (i := 133) rfl⟩
theorem lw_p56 : lw_okq (⟨"GluedHourModel", "hourOf", "(I)I"⟩, 59) := ⟨lw_c4.1, lw_c4.2, ta_6 (i := 136) rfl, ta_6 (i := 137) rfl⟩
theorem lw_p57 : lw_okq (⟨"GluedHourModel", "liveDays", "(I)Z"⟩, 59) := ⟨lw_c4.1, lw_c4.2, ta_6 (i := 144) rfl, ta_6 (i := 145) rfl⟩
theorem lw_p58 : lw_okq (⟨"GluedHourModel", "live", "(I)V"⟩, 59) := ⟨lw_c4.1, lw_c4.2, ta_6 (i := 148) rfl, ta_6 (i := 149) rfl⟩
theorem lw_p59 : lw_okq (⟨"GluedHourModel", "drawHour", "()I"⟩, 59) := ⟨lw_c4.1, lw_c4.2, ta_6 (i := 161) rfl, ta_6 (i := 162) rfl⟩
theorem lw_p60 : lw_okq (⟨"GluedHourModel", "draw", "(I)I"⟩, 59) := ⟨lw_c4.1, lw_c4.2, ta_6 (i := 165) rfl, ta_6 (i := 166) rfl⟩
theorem lw_p61 : lw_okq (⟨"GluedHourModel", "meanOf", "(I)J"⟩, 59) := ⟨lw_c4.1, lw_c4.2, ta_6 (i := 174) rfl, ta_6 (i := 175) rfl⟩
theorem lw_p62 : lw_okq (⟨"GluedHourModel", "gainOf", "(II)J"⟩, 59) := ⟨lw_c4.1, lw_c4.2, ta_6 (i := 182) rfl, ta_6 (i := 183) rfl⟩
theorem lw_p63 : lw_okq (⟨"GluedHourModel", "choice", "()I"⟩, 59) := ⟨lw_c4.1, lw_c4.2, ta_6 (i := 190) rfl, ta_6 (i := 191) rfl⟩
def lw_privs_4 : List (MethodName × Nat) := [(⟨"GluedHourModel", "worthOf", "(III)I"⟩, 59), (⟨"GluedHourModel", "modeOf", "(I)I"⟩, 59), (⟨"GluedHourModel", "layOdds", "()V"⟩, 59), (⟨"GluedHourModel", "handOne", "(II)Z"⟩, 59), (⟨"GluedHourModel", "isOne", "(I)Z"⟩, 59), (⟨"GluedHourModel", "isHour", "(I)Z"⟩, 59), (⟨"GluedHourModel", "allBy", "(I)I"⟩, 59), (⟨"GluedHourModel", "hasWeek", "(I)Z"⟩, 59), (⟨"GluedHourModel", "hourOf", "(I)I"⟩, 59), (⟨"GluedHourModel", "liveDays", "(I)Z"⟩, 59), (⟨"GluedHourModel", "live", "(I)V"⟩, 59), (⟨"GluedHourModel", "drawHour", "()I"⟩, 59), (⟨"GluedHourModel", "draw", "(I)I"⟩, 59), (⟨"GluedHourModel", "meanOf", "(I)J"⟩, 59), (⟨"GluedHourModel", "gainOf", "(II)J"⟩, 59), (⟨"GluedHourModel", "choice", "()I"⟩, 59)]
theorem lw_r4 : ∀ q ∈ lw_privs_4, lw_okq q := List.forall_mem_cons.mpr ⟨lw_p48, List.forall_mem_cons.mpr ⟨lw_p49, List.forall_mem_cons.mpr ⟨lw_p50, List.forall_mem_cons.mpr ⟨lw_p51, List.forall_mem_cons.mpr ⟨lw_p52, List.forall_mem_cons.mpr ⟨lw_p53, List.forall_mem_cons.mpr ⟨lw_p54, List.forall_mem_cons.mpr ⟨lw_p55, List.forall_mem_cons.mpr ⟨lw_p56, List.forall_mem_cons.mpr ⟨lw_p57, List.forall_mem_cons.mpr ⟨lw_p58, List.forall_mem_cons.mpr ⟨lw_p59, List.forall_mem_cons.mpr ⟨lw_p60, List.forall_mem_cons.mpr ⟨lw_p61, List.forall_mem_cons.mpr ⟨lw_p62, List.forall_mem_cons.mpr ⟨lw_p63, fun _ h => absurd h List.not_mem_nil⟩⟩⟩⟩⟩⟩⟩⟩⟩⟩⟩⟩⟩⟩⟩⟩
theorem lw_p64 : lw_okq (⟨"GluedHourModel", "wishOf", "(I)I"⟩, 59) := ⟨lw_c4.1, lw_c4.2, ta_6 (i := 194) rfl, ta_6 (i := 195) rfl⟩
theorem lw_p65 : lw_okq (⟨"GluedHourModel", "swapDeed", "(III)V"⟩, 59) := ⟨lw_c4.1, lw_c4.2, ta_6 (i := 214) rfl, ta_6 (i := 215) rfl⟩
theorem lw_p66 : lw_okq (⟨"GluedHourModel", "apart", "(II)I"⟩, 59) := ⟨lw_c4.1, lw_c4.2, ta_6 (i := 222) rfl, ta_6 (i := 223) rfl⟩
theorem lw_p67 : lw_okq (⟨"GluedHourModel", "hasErrands", "(I)Z"⟩, 59) := ⟨lw_c4.1, lw_c4.2, ta_6 (i := 230) rfl, ta_6 (i := 231) rfl⟩
theorem lw_p68 : lw_okq (⟨"GluedHourModel", "errandOf", "(II)I"⟩, 59) := ⟨lw_c4.1, lw_c4.2, ta_6 (i := 234) rfl, ta_6 (i := 235) rfl⟩
theorem lw_p69 : lw_okq (⟨"GluedHourModel", "findBest", "(I)J"⟩, 59) := ⟨lw_c4.1, lw_c4.2, ta_7 (i := 2) rfl, ta_7 (i := 3) rfl⟩
theorem lw_p70 : lw_okq (⟨"GluedHourModel", "bestFrom", "(III)J"⟩, 59) := ⟨lw_c4.1, lw_c4.2, ta_7 (i := 6) rfl, ta_7 (i := 7) rfl⟩
theorem lw_p71 : lw_okq (⟨"GluedHourModel", "fromOf", "(I)I"⟩, 59) := ⟨lw_c4.1, lw_c4.2, ta_7 (i := 11) rfl, ta_7 (i := 12) rfl⟩
theorem lw_p72 : lw_okq (⟨"GluedHourModel", "toOf", "(I)I"⟩, 59) := ⟨lw_c4.1, lw_c4.2, ta_7 (i := 15) rfl, ta_7 (i := 16) rfl⟩
theorem lw_p73 : lw_okq (⟨"GluedHourModel", "worthAt", "(III)J"⟩, 59) := ⟨lw_c4.1, lw_c4.2, ta_7 (i := 22) rfl, ta_7 (i := 23) rfl⟩
theorem lw_p74 : lw_okq (⟨"GluedHourModel", "choose", "(I)V"⟩, 59) := ⟨lw_c4.1, lw_c4.2, ta_7 (i := 26) rfl, ta_7 (i := 27) rfl⟩
theorem lw_p75 : lw_okq (⟨"GluedHourModel", "rued", "()I"⟩, 59) := ⟨lw_c4.1, lw_c4.2, ta_7 (i := 30) rfl, ta_7 (i := 31) rfl⟩
theorem lw_p76 : lw_okq (⟨"GluedHourModel", "chosenBy", "(I)J"⟩, 59) := ⟨lw_c4.1, lw_c4.2, ta_7 (i := 34) rfl, ta_7 (i := 35) rfl⟩
theorem lw_p77 : lw_okq (⟨"GluedHourModel", "hasTable", "(I)Z"⟩, 59) := ⟨lw_c4.1, lw_c4.2, ta_7 (i := 42) rfl, ta_7 (i := 43) rfl⟩
theorem lw_p78 : lw_okq (⟨"GluedHourModel", "trains", "()I"⟩, 59) := ⟨lw_c4.1, lw_c4.2, ta_7 (i := 46) rfl, ta_7 (i := 47) rfl⟩
theorem lw_p79 : lw_okq (⟨"GluedHourModel", "trainOf", "(II)I"⟩, 59) := ⟨lw_c4.1, lw_c4.2, ta_7 (i := 50) rfl, ta_7 (i := 51) rfl⟩
def lw_privs_5 : List (MethodName × Nat) := [(⟨"GluedHourModel", "wishOf", "(I)I"⟩, 59), (⟨"GluedHourModel", "swapDeed", "(III)V"⟩, 59), (⟨"GluedHourModel", "apart", "(II)I"⟩, 59), (⟨"GluedHourModel", "hasErrands", "(I)Z"⟩, 59), (⟨"GluedHourModel", "errandOf", "(II)I"⟩, 59), (⟨"GluedHourModel", "findBest", "(I)J"⟩, 59), (⟨"GluedHourModel", "bestFrom", "(III)J"⟩, 59), (⟨"GluedHourModel", "fromOf", "(I)I"⟩, 59), (⟨"GluedHourModel", "toOf", "(I)I"⟩, 59), (⟨"GluedHourModel", "worthAt", "(III)J"⟩, 59), (⟨"GluedHourModel", "choose", "(I)V"⟩, 59), (⟨"GluedHourModel", "rued", "()I"⟩, 59), (⟨"GluedHourModel", "chosenBy", "(I)J"⟩, 59), (⟨"GluedHourModel", "hasTable", "(I)Z"⟩, 59), (⟨"GluedHourModel", "trains", "()I"⟩, 59), (⟨"GluedHourModel", "trainOf", "(II)I"⟩, 59)]
theorem lw_r5 : ∀ q ∈ lw_privs_5, lw_okq q := List.forall_mem_cons.mpr ⟨lw_p64, List.forall_mem_cons.mpr ⟨lw_p65, List.forall_mem_cons.mpr ⟨lw_p66, List.forall_mem_cons.mpr ⟨lw_p67, List.forall_mem_cons.mpr ⟨lw_p68, List.forall_mem_cons.mpr ⟨lw_p69, List.forall_mem_cons.mpr ⟨lw_p70, List.forall_mem_cons.mpr ⟨lw_p71, List.forall_mem_cons.mpr ⟨lw_p72, List.forall_mem_cons.mpr ⟨lw_p73, List.forall_mem_cons.mpr ⟨lw_p74, List.forall_mem_cons.mpr ⟨lw_p75, List.forall_mem_cons.mpr ⟨lw_p76, List.forall_mem_cons.mpr ⟨lw_p77, List.forall_mem_cons.mpr ⟨lw_p78, List.forall_mem_cons.mpr ⟨lw_p79, fun _ h => absurd h List.not_mem_nil⟩⟩⟩⟩⟩⟩⟩⟩⟩⟩⟩⟩⟩⟩⟩⟩
theorem lw_p80 : lw_okq (⟨"GluedHourModel", "slackBy", "(I)I"⟩, 59) := ⟨lw_c4.1, lw_c4.2, ta_7 (i := 58) rfl, ta_7 (i := 59) rfl⟩
theorem lw_p81 : lw_okq (⟨"GluedHourModel", "findEarliest", "()V"⟩, 59) := ⟨lw_c4.1, lw_c4.2, ta_7 (i := 72) rfl, ta_7 (i := 73) rfl⟩
theorem lw_p82 : lw_okq (⟨"GluedHourModel", "canLeave", "(III)Z"⟩, 59) := ⟨lw_c4.1, lw_c4.2, ta_7 (i := 76) rfl, ta_7 (i := 77) rfl⟩
theorem lw_p83 : lw_okq (⟨"GluedHourModel", "hasSights", "(I)Z"⟩, 59) := ⟨lw_c4.1, lw_c4.2, ta_7 (i := 84) rfl, ta_7 (i := 85) rfl⟩
theorem lw_p84 : lw_okq (⟨"GluedHourModel", "sightOf", "(II)I"⟩, 59) := ⟨lw_c4.1, lw_c4.2, ta_7 (i := 88) rfl, ta_7 (i := 89) rfl⟩
theorem lw_p85 : lw_okq (⟨"GluedHourModel", "findFits", "()V"⟩, 59) := ⟨lw_c4.1, lw_c4.2, ta_7 (i := 96) rfl, ta_7 (i := 97) rfl⟩
theorem lw_p86 : lw_okq (⟨"GluedHourModel", "isRow", "(I)Z"⟩, 59) := ⟨lw_c4.1, lw_c4.2, ta_7 (i := 100) rfl, ta_7 (i := 101) rfl⟩
theorem lw_p87 : lw_okq (⟨"GluedHourModel", "isAsSeen", "(I)Z"⟩, 59) := ⟨lw_c4.1, lw_c4.2, ta_7 (i := 104) rfl, ta_7 (i := 105) rfl⟩
theorem lw_p88 : lw_okq (⟨"GluedHourModel", "onlyOne", "(I)I"⟩, 59) := ⟨lw_c4.1, lw_c4.2, ta_7 (i := 108) rfl, ta_7 (i := 109) rfl⟩
theorem lw_p89 : lw_okq (⟨"GluedHourModel", "reignDays", "(I)I"⟩, 59) := ⟨lw_c4.1, lw_c4.2, ta_7 (i := 116) rfl, ta_7 (i := 117) rfl⟩
theorem lw_p90 : lw_okq (⟨"GluedHourModel", "expect", "(IIZ)V"⟩, 59) := ⟨lw_c4.1, lw_c4.2, ta_7 (i := 125) rfl, ta_7 (i := 126) rfl⟩
theorem lw_p91 : lw_okq (⟨"GluedHourModel", "begin", "()V"⟩, 59) := ⟨lw_c4.1, lw_c4.2, ta_7 (i := 129) rfl, ta_7 (i := 130) rfl⟩
theorem lw_p92 : lw_okq (⟨"GluedHourModel", "plus", "(JJ)V"⟩, 59) := ⟨lw_c4.1, lw_c4.2, ta_7 (i := 133) rfl, ta_7 (i := 134) rfl⟩
theorem lw_p93 : lw_okq (⟨"GluedHourModel", "allMeans", "()J"⟩, 59) := ⟨lw_c4.1, lw_c4.2, ta_7 (i := 145) rfl, ta_7 (i := 146) rfl⟩
theorem lw_p94 : lw_okq (⟨"GluedHourModel", "copyAll", "(II)V"⟩, 59) := ⟨lw_c4.1, lw_c4.2, ta_7 (i := 169) rfl, ta_7 (i := 170) rfl⟩
def lw_privs_6 : List (MethodName × Nat) := [(⟨"GluedHourModel", "slackBy", "(I)I"⟩, 59), (⟨"GluedHourModel", "findEarliest", "()V"⟩, 59), (⟨"GluedHourModel", "canLeave", "(III)Z"⟩, 59), (⟨"GluedHourModel", "hasSights", "(I)Z"⟩, 59), (⟨"GluedHourModel", "sightOf", "(II)I"⟩, 59), (⟨"GluedHourModel", "findFits", "()V"⟩, 59), (⟨"GluedHourModel", "isRow", "(I)Z"⟩, 59), (⟨"GluedHourModel", "isAsSeen", "(I)Z"⟩, 59), (⟨"GluedHourModel", "onlyOne", "(I)I"⟩, 59), (⟨"GluedHourModel", "reignDays", "(I)I"⟩, 59), (⟨"GluedHourModel", "expect", "(IIZ)V"⟩, 59), (⟨"GluedHourModel", "begin", "()V"⟩, 59), (⟨"GluedHourModel", "plus", "(JJ)V"⟩, 59), (⟨"GluedHourModel", "allMeans", "()J"⟩, 59), (⟨"GluedHourModel", "copyAll", "(II)V"⟩, 59)]
theorem lw_r6 : ∀ q ∈ lw_privs_6, lw_okq q := List.forall_mem_cons.mpr ⟨lw_p80, List.forall_mem_cons.mpr ⟨lw_p81, List.forall_mem_cons.mpr ⟨lw_p82, List.forall_mem_cons.mpr ⟨lw_p83, List.forall_mem_cons.mpr ⟨lw_p84, List.forall_mem_cons.mpr ⟨lw_p85, List.forall_mem_cons.mpr ⟨lw_p86, List.forall_mem_cons.mpr ⟨lw_p87, List.forall_mem_cons.mpr ⟨lw_p88, List.forall_mem_cons.mpr ⟨lw_p89, List.forall_mem_cons.mpr ⟨lw_p90, List.forall_mem_cons.mpr ⟨lw_p91, List.forall_mem_cons.mpr ⟨lw_p92, List.forall_mem_cons.mpr ⟨lw_p93, List.forall_mem_cons.mpr ⟨lw_p94, fun _ h => absurd h List.not_mem_nil⟩⟩⟩⟩⟩⟩⟩⟩⟩⟩⟩⟩⟩⟩⟩
def lw_privs : List (MethodName × Nat) := lw_privs_1 ++ (lw_privs_2 ++ (lw_privs_3 ++ (lw_privs_4 ++ (lw_privs_5 ++ (lw_privs_6)))))
def lw_tbl : List Cond := k2_sels lw_privs ++ tables_1
theorem lw_privs_ok : ∀ q ∈ lw_privs, lw_okq q := by
  show ∀ q ∈ lw_privs_1 ++ (lw_privs_2 ++ (lw_privs_3 ++ (lw_privs_4 ++ (lw_privs_5 ++ (lw_privs_6))))), lw_okq q
  exact List.forall_mem_append.mpr ⟨lw_r1, List.forall_mem_append.mpr ⟨lw_r2, List.forall_mem_append.mpr ⟨lw_r3, List.forall_mem_append.mpr ⟨lw_r4, List.forall_mem_append.mpr ⟨lw_r5, lw_r6⟩⟩⟩⟩⟩
-- ===== end of PART A; then your names; then what follows =====
end

section
section
def RX0 : String := "GluedHour$Course"
def TX0 : u_T := fun k => match k with
  | 0 => ("GluedHour$Course", "have", "[I", true)
  | 1 => ("GluedHour$Course", "values", "[I", true)
  | 2 => ("GluedHour$Course", "people", "I", false)
  | _ => ("GluedHour$Course", "hours", "I", false)
def tyX0 : Nat → FieldType := fun k => match k with
  | 0 => .array .int
  | 1 => .array .int
  | 2 => .int
  | _ => .int
abbrev wsX00 : List Cond := u_ws RX0 TX0 4
theorem nmX0 : ∀ a, a < 4 → ∀ b, b < 4 → a ≠ b → (TX0 a).2.1 ≠ (TX0 b).2.1 := by decide +kernel
theorem tyX0_ok : ∀ k, k < 4 → parseFieldDescriptor (TX0 k).2.2.1 = some (tyX0 k) := by decide +kernel
abbrev cX0_init : ByteArray := prog_2_method_1_code
def yX0_init : MethodName := ⟨RX0, "<init>", "()V"⟩
abbrev cX0_begin : ByteArray := prog_2_method_2_code
def yX0_begin : MethodName := ⟨RX0, "begin", "(LGluedHour$Republic;)V"⟩
abbrev cX0_poorest : ByteArray := prog_2_method_3_code
def yX0_poorest : MethodName := ⟨RX0, "poorest", "()I"⟩
abbrev cX0_live : ByteArray := prog_2_method_4_code
def yX0_live : MethodName := ⟨RX0, "live", "(I)V"⟩
abbrev cX0_unlive : ByteArray := prog_2_method_5_code
def yX0_unlive : MethodName := ⟨RX0, "unlive", "(I)V"⟩
abbrev cX0_brings : ByteArray := prog_2_method_6_code
def yX0_brings : MethodName := ⟨RX0, "brings", "(II)I"⟩
abbrev cX0_bestHour : ByteArray := prog_2_method_7_code
def yX0_bestHour : MethodName := ⟨RX0, "bestHour", "(I)I"⟩
abbrev cX0_weighed : ByteArray := prog_2_method_8_code
def yX0_weighed : MethodName := ⟨RX0, "weighed", "(ILGluedHour$Odds;)J"⟩
abbrev cX0_apart : ByteArray := prog_2_method_9_code
def yX0_apart : MethodName := ⟨RX0, "apart", "(II)I"⟩
abbrev cX0_measure : ByteArray := prog_2_method_10_code
def yX0_measure : MethodName := ⟨RX0, "measure", "(IZ)I"⟩
def RX1 : String := "GluedHour$Fraction"
def TX1 : u_T := fun k => match k with
  | 0 => ("GluedHour$Fraction", "above", "J", false)
  | _ => ("GluedHour$Fraction", "below", "J", false)
def tyX1 : Nat → FieldType := fun k => match k with
  | 0 => .long
  | _ => .long
abbrev wsX10 : List Cond := u_ws RX1 TX1 2
theorem nmX1 : ∀ a, a < 2 → ∀ b, b < 2 → a ≠ b → (TX1 a).2.1 ≠ (TX1 b).2.1 := by decide +kernel
theorem tyX1_ok : ∀ k, k < 2 → parseFieldDescriptor (TX1 k).2.2.1 = some (tyX1 k) := by decide +kernel
abbrev cX1_init : ByteArray := prog_3_method_1_code
def yX1_init : MethodName := ⟨RX1, "<init>", "()V"⟩
abbrev cX1_put : ByteArray := prog_3_method_2_code
def yX1_put : MethodName := ⟨RX1, "put", "(JJ)V"⟩
abbrev cX1_add : ByteArray := prog_3_method_3_code
def yX1_add : MethodName := ⟨RX1, "add", "(JJ)V"⟩
abbrev cX1_sideOf : ByteArray := prog_3_method_4_code
def yX1_sideOf : MethodName := ⟨RX1, "sideOf", "(Z)J"⟩
abbrev cX1_side : ByteArray := prog_3_method_5_code
def yX1_side : MethodName := ⟨RX1, "side", "(JJZ)J"⟩
abbrev cX1_divisor : ByteArray := prog_3_method_6_code
def yX1_divisor : MethodName := ⟨RX1, "divisor", "(JJ)J"⟩
def RX2 : String := "GluedHour$Lines"
def TX2 : u_T := fun k => match k with
  | 0 => ("GluedHour$Lines", "most", "I", true)
  | 1 => ("GluedHour$Lines", "width", "I", true)
  | 2 => ("GluedHour$Lines", "cells", "[I", true)
  | _ => ("GluedHour$Lines", "size", "I", false)
def tyX2 : Nat → FieldType := fun k => match k with
  | 0 => .int
  | 1 => .int
  | 2 => .array .int
  | _ => .int
abbrev wsX20 : List Cond := u_ws RX2 TX2 4
theorem nmX2 : ∀ a, a < 4 → ∀ b, b < 4 → a ≠ b → (TX2 a).2.1 ≠ (TX2 b).2.1 := by decide +kernel
theorem tyX2_ok : ∀ k, k < 4 → parseFieldDescriptor (TX2 k).2.2.1 = some (tyX2 k) := by decide +kernel
abbrev cX2_init : ByteArray := prog_4_method_1_code
def yX2_init : MethodName := ⟨RX2, "<init>", "(I)V"⟩
abbrev cX2_has : ByteArray := prog_4_method_2_code
def yX2_has : MethodName := ⟨RX2, "has", "(I)Z"⟩
abbrev cX2_cell : ByteArray := prog_4_method_3_code
def yX2_cell : MethodName := ⟨RX2, "cell", "(II)I"⟩
abbrev cX2_isFull : ByteArray := prog_4_method_4_code
def yX2_isFull : MethodName := ⟨RX2, "isFull", "()Z"⟩
abbrev cX2_add : ByteArray := prog_4_method_5_code
def yX2_add : MethodName := ⟨RX2, "add", "([I)V"⟩
abbrev cX2_copy : ByteArray := prog_4_method_6_code
def yX2_copy : MethodName := ⟨RX2, "copy", "(LGluedHour$Lines;)V"⟩
def RX3 : String := "GluedHour$Odds"
def TX3 : u_T := fun k => match k with
  | 0 => ("GluedHour$Odds", "weights", "[I", true)
  | 1 => ("GluedHour$Odds", "hours", "I", false)
  | _ => ("GluedHour$Odds", "total", "I", false)
def tyX3 : Nat → FieldType := fun k => match k with
  | 0 => .array .int
  | 1 => .int
  | _ => .int
abbrev wsX30 : List Cond := u_ws RX3 TX3 3
theorem nmX3 : ∀ a, a < 3 → ∀ b, b < 3 → a ≠ b → (TX3 a).2.1 ≠ (TX3 b).2.1 := by decide +kernel
theorem tyX3_ok : ∀ k, k < 3 → parseFieldDescriptor (TX3 k).2.2.1 = some (tyX3 k) := by decide +kernel
abbrev cX3_init : ByteArray := prog_5_method_1_code
def yX3_init : MethodName := ⟨RX3, "<init>", "()V"⟩
abbrev cX3_weigh : ByteArray := prog_5_method_2_code
def yX3_weigh : MethodName := ⟨RX3, "weigh", "(LGluedHour$Republic;I)V"⟩
abbrev cX3_know : ByteArray := prog_5_method_3_code
def yX3_know : MethodName := ⟨RX3, "know", "(II)V"⟩
abbrev cX3_hourOf : ByteArray := prog_5_method_4_code
def yX3_hourOf : MethodName := ⟨RX3, "hourOf", "(I)I"⟩
def RX4 : String := "GluedHour$Planner"
def TX4 : u_T := fun k => match k with
  | 0 => ("GluedHour$Planner", "blind", "[I", true)
  | 1 => ("GluedHour$Planner", "blindWorth", "J", false)
  | 2 => ("GluedHour$Planner", "knowingWorth", "J", false)
  | 3 => ("GluedHour$Planner", "regret", "I", false)
  | 4 => ("GluedHour$Planner", "worth", "J", false)
  | 5 => ("GluedHour$Planner", "chosen", "[I", true)
  | 6 => ("GluedHour$Planner", "best", "[J", true)
  | 7 => ("GluedHour$Planner", "scores", "[J", true)
  | _ => ("GluedHour$Planner", "known", "LGluedHour$Odds;", true)
def tyX4 : Nat → FieldType := fun k => match k with
  | 0 => .array .int
  | 1 => .long
  | 2 => .long
  | 3 => .int
  | 4 => .long
  | 5 => .array .int
  | 6 => .array .long
  | 7 => .array .long
  | _ => .object "GluedHour$Odds"
abbrev wsX40 : List Cond := u_ws RX4 TX4 9
theorem nmX4 : ∀ a, a < 9 → ∀ b, b < 9 → a ≠ b → (TX4 a).2.1 ≠ (TX4 b).2.1 := by decide +kernel
theorem tyX4_ok : ∀ k, k < 9 → parseFieldDescriptor (TX4 k).2.2.1 = some (tyX4 k) := by decide +kernel
abbrev cX4_init : ByteArray := prog_6_method_1_code
def yX4_init : MethodName := ⟨RX4, "<init>", "()V"⟩
abbrev cX4_planBlind : ByteArray := prog_6_method_2_code
def yX4_planBlind : MethodName := ⟨RX4, "planBlind", "(LGluedHour$Republic;LGluedHour$Odds;LGluedHour$Lines;)Z"⟩
abbrev cX4_planKnowing : ByteArray := prog_6_method_3_code
def yX4_planKnowing : MethodName := ⟨RX4, "planKnowing", "(LGluedHour$Republic;LGluedHour$Odds;LGluedHour$Lines;)V"⟩
abbrev cX4_blindBy : ByteArray := prog_6_method_4_code
def yX4_blindBy : MethodName := ⟨RX4, "blindBy", "(LGluedHour$Republic;LGluedHour$Lines;I)J"⟩
abbrev cX4_choose : ByteArray := prog_6_method_5_code
def yX4_choose : MethodName := ⟨RX4, "choose", "(LGluedHour$Republic;LGluedHour$Odds;LGluedHour$Lines;Z)Z"⟩
abbrev cX4_scoreOf : ByteArray := prog_6_method_6_code
def yX4_scoreOf : MethodName := ⟨RX4, "scoreOf", "(LGluedHour$Republic;LGluedHour$Odds;III)J"⟩
abbrev cX4_rowShift : ByteArray := prog_6_method_7_code
def yX4_rowShift : MethodName := ⟨RX4, "rowShift", "(I)I"⟩
abbrev cX4_bestOf : ByteArray := prog_6_method_8_code
def yX4_bestOf : MethodName := ⟨RX4, "bestOf", "(II)J"⟩
abbrev cX4_keep : ByteArray := prog_6_method_9_code
def yX4_keep : MethodName := ⟨RX4, "keep", "(J)V"⟩
def RX5 : String := "GluedHour$Reader"
def TX5 : u_T := fun k => match k with
  | 0 => ("GluedHour$Reader", "tape", "[B", true)
  | 1 => ("GluedHour$Reader", "republic", "LGluedHour$Republic;", true)
  | 2 => ("GluedHour$Reader", "drafts", "[LGluedHour$Lines;", true)
  | 3 => ("GluedHour$Reader", "numbers", "[I", true)
  | 4 => ("GluedHour$Reader", "fault", "I", false)
  | 5 => ("GluedHour$Reader", "place", "I", false)
  | 6 => ("GluedHour$Reader", "token", "I", false)
  | 7 => ("GluedHour$Reader", "start", "I", false)
  | 8 => ("GluedHour$Reader", "at", "I", false)
  | 9 => ("GluedHour$Reader", "number", "I", false)
  | 10 => ("GluedHour$Reader", "mode", "I", false)
  | 11 => ("GluedHour$Reader", "length", "I", false)
  | 12 => ("GluedHour$Reader", "lastHourTold", "I", false)
  | _ => ("GluedHour$Reader", "lastPersonTold", "I", false)
def tyX5 : Nat → FieldType := fun k => match k with
  | 0 => .array .byte
  | 1 => .object "GluedHour$Republic"
  | 2 => .array (.object "GluedHour$Lines")
  | 3 => .array .int
  | 4 => .int
  | 5 => .int
  | 6 => .int
  | 7 => .int
  | 8 => .int
  | 9 => .int
  | 10 => .int
  | 11 => .int
  | 12 => .int
  | _ => .int
abbrev wsX50 : List Cond := u_ws RX5 TX5 14
theorem nmX5 : ∀ a, a < 14 → ∀ b, b < 14 → a ≠ b → (TX5 a).2.1 ≠ (TX5 b).2.1 := by decide +kernel
theorem tyX5_ok : ∀ k, k < 14 → parseFieldDescriptor (TX5 k).2.2.1 = some (tyX5 k) := by decide +kernel
abbrev cX5_init : ByteArray := prog_7_method_1_code
def yX5_init : MethodName := ⟨RX5, "<init>", "([B)V"⟩
abbrev cX5_read : ByteArray := prog_7_method_2_code
def yX5_read : MethodName := ⟨RX5, "read", "(II)V"⟩
abbrev cX5_begin : ByteArray := prog_7_method_3_code
def yX5_begin : MethodName := ⟨RX5, "begin", "(II)V"⟩
abbrev cX5_draftOf : ByteArray := prog_7_method_4_code
def yX5_draftOf : MethodName := ⟨RX5, "draftOf", "(I)LGluedHour$Lines;"⟩
abbrev cX5_note : ByteArray := prog_7_method_5_code
def yX5_note : MethodName := ⟨RX5, "note", "(II)V"⟩
abbrev cX5_readLine : ByteArray := prog_7_method_6_code
def yX5_readLine : MethodName := ⟨RX5, "readLine", "(I)Z"⟩
abbrev cX5_readMode : ByteArray := prog_7_method_7_code
def yX5_readMode : MethodName := ⟨RX5, "readMode", "()Z"⟩
abbrev cX5_isOneTooMany : ByteArray := prog_7_method_8_code
def yX5_isOneTooMany : MethodName := ⟨RX5, "isOneTooMany", "(I)Z"⟩
abbrev cX5_checkNumber : ByteArray := prog_7_method_9_code
def yX5_checkNumber : MethodName := ⟨RX5, "checkNumber", "(II)V"⟩
abbrev cX5_tell : ByteArray := prog_7_method_10_code
def yX5_tell : MethodName := ⟨RX5, "tell", "(I)V"⟩
abbrev cX5_tellLine : ByteArray := prog_7_method_11_code
def yX5_tellLine : MethodName := ⟨RX5, "tellLine", "(I)V"⟩
abbrev cX5_verbOf : ByteArray := prog_7_method_12_code
def yX5_verbOf : MethodName := ⟨RX5, "verbOf", "(I)I"⟩
abbrev cX5_wordOf : ByteArray := prog_7_method_13_code
def yX5_wordOf : MethodName := ⟨RX5, "wordOf", "(I)Ljava/lang/String;"⟩
abbrev cX5_isWord : ByteArray := prog_7_method_14_code
def yX5_isWord : MethodName := ⟨RX5, "isWord", "(Ljava/lang/String;)Z"⟩
abbrev cX5_step : ByteArray := prog_7_method_15_code
def yX5_step : MethodName := ⟨RX5, "step", "()V"⟩
abbrev cX5_stepNumber : ByteArray := prog_7_method_16_code
def yX5_stepNumber : MethodName := ⟨RX5, "stepNumber", "()V"⟩
abbrev cX5_isLetter : ByteArray := prog_7_method_17_code
def yX5_isLetter : MethodName := ⟨RX5, "isLetter", "(I)Z"⟩
abbrev cX5_isDigit : ByteArray := prog_7_method_18_code
def yX5_isDigit : MethodName := ⟨RX5, "isDigit", "(I)Z"⟩
def RX6 : String := "GluedHour$Republic"
def TX6 : u_T := fun k => match k with
  | 0 => ("GluedHour$Republic", "worths", "[I", true)
  | 1 => ("GluedHour$Republic", "modes", "[I", true)
  | 2 => ("GluedHour$Republic", "purses", "[I", true)
  | 3 => ("GluedHour$Republic", "deeds", "[I", true)
  | 4 => ("GluedHour$Republic", "lots", "[I", true)
  | 5 => ("GluedHour$Republic", "hours", "I", false)
  | _ => ("GluedHour$Republic", "people", "I", false)
def tyX6 : Nat → FieldType := fun k => match k with
  | 0 => .array .int
  | 1 => .array .int
  | 2 => .array .int
  | 3 => .array .int
  | 4 => .array .int
  | 5 => .int
  | _ => .int
abbrev wsX60 : List Cond := u_ws RX6 TX6 7
theorem nmX6 : ∀ a, a < 7 → ∀ b, b < 7 → a ≠ b → (TX6 a).2.1 ≠ (TX6 b).2.1 := by decide +kernel
theorem tyX6_ok : ∀ k, k < 7 → parseFieldDescriptor (TX6 k).2.2.1 = some (tyX6 k) := by decide +kernel
abbrev cX6_init : ByteArray := prog_8_method_1_code
def yX6_init : MethodName := ⟨RX6, "<init>", "()V"⟩
abbrev cX6_clear : ByteArray := prog_8_method_2_code
def yX6_clear : MethodName := ⟨RX6, "clear", "()V"⟩
abbrev cX6_copy : ByteArray := prog_8_method_3_code
def yX6_copy : MethodName := ⟨RX6, "copy", "(LGluedHour$Republic;)V"⟩
abbrev cX6_hasHour : ByteArray := prog_8_method_4_code
def yX6_hasHour : MethodName := ⟨RX6, "hasHour", "(I)Z"⟩
abbrev cX6_hasPerson : ByteArray := prog_8_method_5_code
def yX6_hasPerson : MethodName := ⟨RX6, "hasPerson", "(I)Z"⟩
abbrev cX6_hasPersonOrAll : ByteArray := prog_8_method_6_code
def yX6_hasPersonOrAll : MethodName := ⟨RX6, "hasPersonOrAll", "(I)Z"⟩
abbrev cX6_deedAt : ByteArray := prog_8_method_7_code
def yX6_deedAt : MethodName := ⟨RX6, "deedAt", "(II)I"⟩
abbrev cX6_lotAt : ByteArray := prog_8_method_8_code
def yX6_lotAt : MethodName := ⟨RX6, "lotAt", "(II)I"⟩
abbrev cX6_worthOf : ByteArray := prog_8_method_9_code
def yX6_worthOf : MethodName := ⟨RX6, "worthOf", "(I)I"⟩
abbrev cX6_modeOf : ByteArray := prog_8_method_10_code
def yX6_modeOf : MethodName := ⟨RX6, "modeOf", "(I)I"⟩
abbrev cX6_extraOf : ByteArray := prog_8_method_11_code
def yX6_extraOf : MethodName := ⟨RX6, "extraOf", "(I)I"⟩
abbrev cX6_extraBy : ByteArray := prog_8_method_12_code
def yX6_extraBy : MethodName := ⟨RX6, "extraBy", "(II)I"⟩
abbrev cX6_worthOfDeeds : ByteArray := prog_8_method_13_code
def yX6_worthOfDeeds : MethodName := ⟨RX6, "worthOfDeeds", "(I)I"⟩
def RX7 : String := "GluedHour$Search"
def TX7 : u_T := fun k => match k with
  | 0 => ("GluedHour$Search", "maybe", "[I", true)
  | 1 => ("GluedHour$Search", "days", "I", false)
  | 2 => ("GluedHour$Search", "rows", "I", false)
  | 3 => ("GluedHour$Search", "row", "[I", true)
  | _ => ("GluedHour$Search", "odds", "[LGluedHour$Odds;", true)
def tyX7 : Nat → FieldType := fun k => match k with
  | 0 => .array .int
  | 1 => .int
  | 2 => .int
  | 3 => .array .int
  | _ => .array (.object "GluedHour$Odds")
abbrev wsX70 : List Cond := u_ws RX7 TX7 5
theorem nmX7 : ∀ a, a < 5 → ∀ b, b < 5 → a ≠ b → (TX7 a).2.1 ≠ (TX7 b).2.1 := by decide +kernel
theorem tyX7_ok : ∀ k, k < 5 → parseFieldDescriptor (TX7 k).2.2.1 = some (tyX7 k) := by decide +kernel
abbrev cX7_init : ByteArray := prog_9_method_1_code
def yX7_init : MethodName := ⟨RX7, "<init>", "()V"⟩
abbrev cX7_run : ByteArray := prog_9_method_2_code
def yX7_run : MethodName := ⟨RX7, "run", "(LGluedHour$Republic;LGluedHour$Course;LGluedHour$Lines;)V"⟩
abbrev cX7_follow : ByteArray := prog_9_method_3_code
def yX7_follow : MethodName := ⟨RX7, "follow", "(LGluedHour$Republic;LGluedHour$Course;LGluedHour$Lines;I)V"⟩
abbrev cX7_isAsSeen : ByteArray := prog_9_method_4_code
def yX7_isAsSeen : MethodName := ⟨RX7, "isAsSeen", "(LGluedHour$Republic;LGluedHour$Course;LGluedHour$Lines;I)Z"⟩
abbrev cX7_keepRow : ByteArray := prog_9_method_5_code
def yX7_keepRow : MethodName := ⟨RX7, "keepRow", "()V"⟩
abbrev cX7_sureHour : ByteArray := prog_9_method_6_code
def yX7_sureHour : MethodName := ⟨RX7, "sureHour", "(I)I"⟩
def RX8 : String := "GluedHour$Told"
def TX8 : u_T := fun k => match k with
  | 0 => ("GluedHour$Told", "tape", "[B", true)
  | 1 => ("GluedHour$Told", "sizes", "[I", true)
  | 2 => ("GluedHour$Told", "republics", "[LGluedHour$Republic;", true)
  | 3 => ("GluedHour$Told", "lines", "[LGluedHour$Lines;", true)
  | 4 => ("GluedHour$Told", "length", "I", false)
  | 5 => ("GluedHour$Told", "fault", "I", false)
  | _ => ("GluedHour$Told", "place", "I", false)
def tyX8 : Nat → FieldType := fun k => match k with
  | 0 => .array .byte
  | 1 => .array .int
  | 2 => .array (.object "GluedHour$Republic")
  | 3 => .array (.object "GluedHour$Lines")
  | 4 => .int
  | 5 => .int
  | _ => .int
abbrev wsX80 : List Cond := u_ws RX8 TX8 7
theorem nmX8 : ∀ a, a < 7 → ∀ b, b < 7 → a ≠ b → (TX8 a).2.1 ≠ (TX8 b).2.1 := by decide +kernel
theorem tyX8_ok : ∀ k, k < 7 → parseFieldDescriptor (TX8 k).2.2.1 = some (tyX8 k) := by decide +kernel
abbrev cX8_init : ByteArray := prog_10_method_1_code
def yX8_init : MethodName := ⟨RX8, "<init>", "()V"⟩
abbrev cX8_append : ByteArray := prog_10_method_2_code
def yX8_append : MethodName := ⟨RX8, "append", "(I)V"⟩
abbrev cX8_republicAt : ByteArray := prog_10_method_3_code
def yX8_republicAt : MethodName := ⟨RX8, "republicAt", "(I)LGluedHour$Republic;"⟩
abbrev cX8_linesAt : ByteArray := prog_10_method_4_code
def yX8_linesAt : MethodName := ⟨RX8, "linesAt", "(II)LGluedHour$Lines;"⟩
abbrev cX8_lineCell : ByteArray := prog_10_method_5_code
def yX8_lineCell : MethodName := ⟨RX8, "lineCell", "(IIIII)I"⟩
abbrev cX8_take : ByteArray := prog_10_method_6_code
def yX8_take : MethodName := ⟨RX8, "take", "(LGluedHour$Reader;II)V"⟩
abbrev cX8_copy : ByteArray := prog_10_method_7_code
def yX8_copy : MethodName := ⟨RX8, "copy", "(LGluedHour$Told;)V"⟩
abbrev cX8_copyRepublic : ByteArray := prog_10_method_8_code
def yX8_copyRepublic : MethodName := ⟨RX8, "copyRepublic", "(LGluedHour$Republic;LGluedHour$Republic;)V"⟩
abbrev cX8_copyLines : ByteArray := prog_10_method_9_code
def yX8_copyLines : MethodName := ⟨RX8, "copyLines", "(LGluedHour$Lines;LGluedHour$Lines;)V"⟩
def RX9 : String := "GluedHour"
def TX9 : u_T := fun k => match k with
  | 0 => ("GluedHour", "told", "LGluedHour$Told;", true)
  | 1 => ("GluedHour", "images", "[LGluedHour$Told;", true)
  | 2 => ("GluedHour", "reader", "LGluedHour$Reader;", true)
  | 3 => ("GluedHour", "course", "LGluedHour$Course;", true)
  | 4 => ("GluedHour", "today", "LGluedHour$Odds;", true)
  | 5 => ("GluedHour", "tomorrow", "LGluedHour$Odds;", true)
  | 6 => ("GluedHour", "planner", "LGluedHour$Planner;", true)
  | 7 => ("GluedHour", "search", "LGluedHour$Search;", true)
  | _ => ("GluedHour", "sum", "LGluedHour$Fraction;", true)
def tyX9 : Nat → FieldType := fun k => match k with
  | 0 => .object "GluedHour$Told"
  | 1 => .array (.object "GluedHour$Told")
  | 2 => .object "GluedHour$Reader"
  | 3 => .object "GluedHour$Course"
  | 4 => .object "GluedHour$Odds"
  | 5 => .object "GluedHour$Odds"
  | 6 => .object "GluedHour$Planner"
  | 7 => .object "GluedHour$Search"
  | _ => .object "GluedHour$Fraction"
abbrev wsX90 : List Cond := u_ws RX9 TX9 9
theorem nmX9 : ∀ a, a < 9 → ∀ b, b < 9 → a ≠ b → (TX9 a).2.1 ≠ (TX9 b).2.1 := by decide +kernel
theorem tyX9_ok : ∀ k, k < 9 → parseFieldDescriptor (TX9 k).2.2.1 = some (tyX9 k) := by decide +kernel
abbrev cX9_init : ByteArray := prog_1_method_1_code
def yX9_init : MethodName := ⟨RX9, "<init>", "()V"⟩
abbrev cX9_feed : ByteArray := prog_1_method_2_code
def yX9_feed : MethodName := ⟨RX9, "feed", "(IIIII)I"⟩
abbrev cX9_end : ByteArray := prog_1_method_3_code
def yX9_end : MethodName := ⟨RX9, "end", "(I)I"⟩
abbrev cX9_text : ByteArray := prog_1_method_4_code
def yX9_text : MethodName := ⟨RX9, "text", "(II)I"⟩
abbrev cX9_fault : ByteArray := prog_1_method_5_code
def yX9_fault : MethodName := ⟨RX9, "fault", "(I)I"⟩
abbrev cX9_republic : ByteArray := prog_1_method_6_code
def yX9_republic : MethodName := ⟨RX9, "republic", "(II)I"⟩
abbrev cX9_person : ByteArray := prog_1_method_7_code
def yX9_person : MethodName := ⟨RX9, "person", "(III)I"⟩
abbrev cX9_value : ByteArray := prog_1_method_8_code
def yX9_value : MethodName := ⟨RX9, "value", "(III)I"⟩
abbrev cX9_odds : ByteArray := prog_1_method_9_code
def yX9_odds : MethodName := ⟨RX9, "odds", "(IIZ)I"⟩
abbrev cX9_day : ByteArray := prog_1_method_10_code
def yX9_day : MethodName := ⟨RX9, "day", "(II)I"⟩
abbrev cX9_purse : ByteArray := prog_1_method_11_code
def yX9_purse : MethodName := ⟨RX9, "purse", "(IIII)I"⟩
abbrev cX9_likely : ByteArray := prog_1_method_12_code
def yX9_likely : MethodName := ⟨RX9, "likely", "(IIIZ)J"⟩
abbrev cX9_drawn : ByteArray := prog_1_method_13_code
def yX9_drawn : MethodName := ⟨RX9, "drawn", "(IIII)I"⟩
abbrev cX9_mean : ByteArray := prog_1_method_14_code
def yX9_mean : MethodName := ⟨RX9, "mean", "(IIZ)I"⟩
abbrev cX9_gain : ByteArray := prog_1_method_15_code
def yX9_gain : MethodName := ⟨RX9, "gain", "(IIIZ)I"⟩
abbrev cX9_wish : ByteArray := prog_1_method_16_code
def yX9_wish : MethodName := ⟨RX9, "wish", "(II)I"⟩
abbrev cX9_buyer : ByteArray := prog_1_method_17_code
def yX9_buyer : MethodName := ⟨RX9, "buyer", "(II)I"⟩
abbrev cX9_promise : ByteArray := prog_1_method_18_code
def yX9_promise : MethodName := ⟨RX9, "promise", "(IIIZ)I"⟩
abbrev cX9_two : ByteArray := prog_1_method_19_code
def yX9_two : MethodName := ⟨RX9, "two", "(IIII)I"⟩
abbrev cX9_shift : ByteArray := prog_1_method_20_code
def yX9_shift : MethodName := ⟨RX9, "shift", "(III)I"⟩
abbrev cX9_feud : ByteArray := prog_1_method_21_code
def yX9_feud : MethodName := ⟨RX9, "feud", "(II)I"⟩
abbrev cX9_errand : ByteArray := prog_1_method_22_code
def yX9_errand : MethodName := ⟨RX9, "errand", "(III)I"⟩
abbrev cX9_plan : ByteArray := prog_1_method_23_code
def yX9_plan : MethodName := ⟨RX9, "plan", "(III)I"⟩
abbrev cX9_train : ByteArray := prog_1_method_24_code
def yX9_train : MethodName := ⟨RX9, "train", "(III)I"⟩
abbrev cX9_holds : ByteArray := prog_1_method_25_code
def yX9_holds : MethodName := ⟨RX9, "holds", "(III)I"⟩
abbrev cX9_clock : ByteArray := prog_1_method_26_code
def yX9_clock : MethodName := ⟨RX9, "clock", "(IIII)I"⟩
abbrev cX9_sight : ByteArray := prog_1_method_27_code
def yX9_sight : MethodName := ⟨RX9, "sight", "(III)I"⟩
abbrev cX9_fits : ByteArray := prog_1_method_28_code
def yX9_fits : MethodName := ⟨RX9, "fits", "(III)I"⟩
abbrev cX9_reign : ByteArray := prog_1_method_29_code
def yX9_reign : MethodName := ⟨RX9, "reign", "(III)I"⟩
abbrev cX9_hope : ByteArray := prog_1_method_30_code
def yX9_hope : MethodName := ⟨RX9, "hope", "(IIIZ)J"⟩
abbrev cX9_doom : ByteArray := prog_1_method_31_code
def yX9_doom : MethodName := ⟨RX9, "doom", "(IIIZ)J"⟩
abbrev cX9_ruling : ByteArray := prog_1_method_32_code
def yX9_ruling : MethodName := ⟨RX9, "ruling", "(II)I"⟩
abbrev cX9_trust : ByteArray := prog_1_method_33_code
def yX9_trust : MethodName := ⟨RX9, "trust", "(IIZ)I"⟩
abbrev cX9_tight : ByteArray := prog_1_method_34_code
def yX9_tight : MethodName := ⟨RX9, "tight", "(II)I"⟩
abbrev cX9_free : ByteArray := prog_1_method_35_code
def yX9_free : MethodName := ⟨RX9, "free", "(IIZ)I"⟩
abbrev cX9_count : ByteArray := prog_1_method_36_code
def yX9_count : MethodName := ⟨RX9, "count", "(I)I"⟩
abbrev cX9_image : ByteArray := prog_1_method_37_code
def yX9_image : MethodName := ⟨RX9, "image", "(I)Z"⟩
abbrev cX9_again : ByteArray := prog_1_method_38_code
def yX9_again : MethodName := ⟨RX9, "again", "(I)Z"⟩
abbrev cX9_begun : ByteArray := prog_1_method_39_code
def yX9_begun : MethodName := ⟨RX9, "begun", "(I)LGluedHour$Republic;"⟩
abbrev cX9_stops : ByteArray := prog_1_method_40_code
def yX9_stops : MethodName := ⟨RX9, "stops", "(LGluedHour$Republic;LGluedHour$Lines;I)Z"⟩
abbrev cX9_gainBy : ByteArray := prog_1_method_41_code
def yX9_gainBy : MethodName := ⟨RX9, "gainBy", "(II)J"⟩
abbrev cX9_changeBy : ByteArray := prog_1_method_42_code
def yX9_changeBy : MethodName := ⟨RX9, "changeBy", "(LGluedHour$Republic;II)J"⟩
abbrev cX9_expected : ByteArray := prog_1_method_43_code
def yX9_expected : MethodName := ⟨RX9, "expected", "(IIIZ)Z"⟩
abbrev cX9_nextDay : ByteArray := prog_1_method_44_code
def yX9_nextDay : MethodName := ⟨RX9, "nextDay", "(LGluedHour$Republic;LGluedHour$Odds;IZ)J"⟩
abbrev cX9_trueTime : ByteArray := prog_1_method_45_code
def yX9_trueTime : MethodName := ⟨RX9, "trueTime", "(II)I"⟩
abbrev cX9_lead : ByteArray := prog_1_method_46_code
def yX9_lead : MethodName := ⟨RX9, "lead", "(IIII)I"⟩
abbrev cX9_leadOf : ByteArray := prog_1_method_47_code
def yX9_leadOf : MethodName := ⟨RX9, "leadOf", "(LGluedHour$Lines;II)I"⟩
abbrev cX9_keepsBy : ByteArray := prog_1_method_48_code
def yX9_keepsBy : MethodName := ⟨RX9, "keepsBy", "(LGluedHour$Lines;I)Z"⟩
abbrev cX9_slackOf : ByteArray := prog_1_method_49_code
def yX9_slackOf : MethodName := ⟨RX9, "slackOf", "(LGluedHour$Republic;LGluedHour$Lines;I)I"⟩
abbrev cX9_leastHour : ByteArray := prog_1_method_50_code
def yX9_leastHour : MethodName := ⟨RX9, "leastHour", "(LGluedHour$Republic;LGluedHour$Lines;I)I"⟩
abbrev cX9_leastNext : ByteArray := prog_1_method_51_code
def yX9_leastNext : MethodName := ⟨RX9, "leastNext", "(LGluedHour$Republic;II)I"⟩
def RX10 : String := "GluedHourModel"
def TX10 : u_T := fun k => match k with
  | 0 => ("GluedHourModel", "code", "I", false)
  | 1 => ("GluedHourModel", "tape", "[B", true)
  | 2 => ("GluedHourModel", "size", "[I", true)
  | 3 => ("GluedHourModel", "fault", "[I", true)
  | 4 => ("GluedHourModel", "faultPlace", "[I", true)
  | 5 => ("GluedHourModel", "many", "[I", true)
  | 6 => ("GluedHourModel", "republics", "[I", true)
  | 7 => ("GluedHourModel", "weeks", "[I", true)
  | 8 => ("GluedHourModel", "errands", "[I", true)
  | 9 => ("GluedHourModel", "tables", "[I", true)
  | 10 => ("GluedHourModel", "sights", "[I", true)
  | 11 => ("GluedHourModel", "reached", "I", false)
  | 12 => ("GluedHourModel", "length", "I", false)
  | 13 => ("GluedHourModel", "begins", "I", false)
  | 14 => ("GluedHourModel", "sort", "I", false)
  | 15 => ("GluedHourModel", "value", "I", false)
  | 16 => ("GluedHourModel", "word", "J", false)
  | 17 => ("GluedHourModel", "wrongAt", "I", false)
  | 18 => ("GluedHourModel", "laterFault", "I", false)
  | 19 => ("GluedHourModel", "laterPlace", "I", false)
  | 20 => ("GluedHourModel", "told", "[I", true)
  | 21 => ("GluedHourModel", "read", "[I", true)
  | 22 => ("GluedHourModel", "farHour", "I", false)
  | 23 => ("GluedHourModel", "farOne", "I", false)
  | 24 => ("GluedHourModel", "good", "Z", false)
  | 25 => ("GluedHourModel", "republic", "I", false)
  | 26 => ("GluedHourModel", "hours", "I", false)
  | 27 => ("GluedHourModel", "people", "I", false)
  | 28 => ("GluedHourModel", "purse", "[I", true)
  | 29 => ("GluedHourModel", "deed", "[I", true)
  | 30 => ("GluedHourModel", "values", "[I", true)
  | 31 => ("GluedHourModel", "weight", "[I", true)
  | 32 => ("GluedHourModel", "allWeights", "I", false)
  | 33 => ("GluedHourModel", "poorest", "I", false)
  | 34 => ("GluedHourModel", "ruledKind", "I", false)
  | 35 => ("GluedHourModel", "ruledMode", "I", false)
  | 36 => ("GluedHourModel", "week", "I", false)
  | 37 => ("GluedHourModel", "likelyUp", "J", false)
  | 38 => ("GluedHourModel", "likelyDown", "J", false)
  | 39 => ("GluedHourModel", "seed", "I", false)
  | 40 => ("GluedHourModel", "often", "[I", true)
  | 41 => ("GluedHourModel", "row", "I", false)
  | 42 => ("GluedHourModel", "tasks", "I", false)
  | 43 => ("GluedHourModel", "best", "[J", true)
  | 44 => ("GluedHourModel", "chosen", "[I", true)
  | 45 => ("GluedHourModel", "anyHour", "Z", false)
  | 46 => ("GluedHourModel", "knowing", "J", false)
  | 47 => ("GluedHourModel", "table", "I", false)
  | 48 => ("GluedHourModel", "earliest", "[I", true)
  | 49 => ("GluedHourModel", "seen", "I", false)
  | 50 => ("GluedHourModel", "fits", "I", false)
  | 51 => ("GluedHourModel", "seenDays", "I", false)
  | 52 => ("GluedHourModel", "may", "[I", true)
  | 53 => ("GluedHourModel", "rowHour", "[I", true)
  | 54 => ("GluedHourModel", "reigned", "[I", true)
  | 55 => ("GluedHourModel", "chose", "[I", true)
  | 56 => ("GluedHourModel", "up", "J", false)
  | 57 => ("GluedHourModel", "down", "J", false)
  | _ => ("GluedHourModel", "kept", "[Z", true)
def tyX10 : Nat → FieldType := fun k => match k with
  | 0 => .int
  | 1 => .array .byte
  | 2 => .array .int
  | 3 => .array .int
  | 4 => .array .int
  | 5 => .array .int
  | 6 => .array .int
  | 7 => .array .int
  | 8 => .array .int
  | 9 => .array .int
  | 10 => .array .int
  | 11 => .int
  | 12 => .int
  | 13 => .int
  | 14 => .int
  | 15 => .int
  | 16 => .long
  | 17 => .int
  | 18 => .int
  | 19 => .int
  | 20 => .array .int
  | 21 => .array .int
  | 22 => .int
  | 23 => .int
  | 24 => .boolean
  | 25 => .int
  | 26 => .int
  | 27 => .int
  | 28 => .array .int
  | 29 => .array .int
  | 30 => .array .int
  | 31 => .array .int
  | 32 => .int
  | 33 => .int
  | 34 => .int
  | 35 => .int
  | 36 => .int
  | 37 => .long
  | 38 => .long
  | 39 => .int
  | 40 => .array .int
  | 41 => .int
  | 42 => .int
  | 43 => .array .long
  | 44 => .array .int
  | 45 => .boolean
  | 46 => .long
  | 47 => .int
  | 48 => .array .int
  | 49 => .int
  | 50 => .int
  | 51 => .int
  | 52 => .array .int
  | 53 => .array .int
  | 54 => .array .int
  | 55 => .array .int
  | 56 => .long
  | 57 => .long
  | _ => .array .boolean
abbrev wsX100 : List Cond := u_ws RX10 TX10 59
theorem nmX10 : ∀ a, a < 59 → ∀ b, b < 59 → a ≠ b → (TX10 a).2.1 ≠ (TX10 b).2.1 := by decide +kernel
theorem tyX10_ok : ∀ k, k < 59 → parseFieldDescriptor (TX10 k).2.2.1 = some (tyX10 k) := by decide +kernel
abbrev cX10_init : ByteArray := prog_12_method_1_code
def yX10_init : MethodName := ⟨RX10, "<init>", "()V"⟩
abbrev cX10_in : ByteArray := prog_12_method_3_code
def yX10_in : MethodName := ⟨RX10, "in", "(III)Z"⟩
abbrev cX10_has : ByteArray := prog_12_method_4_code
def yX10_has : MethodName := ⟨RX10, "has", "(II)Z"⟩
abbrev cX10_greater : ByteArray := prog_12_method_5_code
def yX10_greater : MethodName := ⟨RX10, "greater", "(II)I"⟩
abbrev cX10_lesser : ByteArray := prog_12_method_6_code
def yX10_lesser : MethodName := ⟨RX10, "lesser", "(II)I"⟩
abbrev cX10_copyRow : ByteArray := prog_12_method_7_code
def yX10_copyRow : MethodName := ⟨RX10, "copyRow", "([IIII)V"⟩
abbrev cX10_copyAll : ByteArray := prog_12_method_8_code
def yX10_copyAll : MethodName := ⟨RX10, "copyAll", "(II)V"⟩
abbrev cX10_is : ByteArray := prog_12_method_9_code
def yX10_is : MethodName := ⟨RX10, "is", "(II)Z"⟩
abbrev cX10_feed : ByteArray := prog_12_method_10_code
def yX10_feed : MethodName := ⟨RX10, "feed", "(IIIII)I"⟩
abbrev cX10_four : ByteArray := prog_12_method_11_code
def yX10_four : MethodName := ⟨RX10, "four", "(I)V"⟩
abbrev cX10_end : ByteArray := prog_12_method_12_code
def yX10_end : MethodName := ⟨RX10, "end", "(I)I"⟩
abbrev cX10_see : ByteArray := prog_12_method_13_code
def yX10_see : MethodName := ⟨RX10, "see", "()I"⟩
abbrev cX10_token : ByteArray := prog_12_method_14_code
def yX10_token : MethodName := ⟨RX10, "token", "()V"⟩
abbrev cX10_fails : ByteArray := prog_12_method_15_code
def yX10_fails : MethodName := ⟨RX10, "fails", "()Z"⟩
abbrev cX10_later : ByteArray := prog_12_method_16_code
def yX10_later : MethodName := ⟨RX10, "later", "(II)V"⟩
abbrev cX10_take : ByteArray := prog_12_method_17_code
def yX10_take : MethodName := ⟨RX10, "take", "(III)Z"⟩
abbrev cX10_full : ByteArray := prog_12_method_18_code
def yX10_full : MethodName := ⟨RX10, "full", "(III)V"⟩
abbrev cX10_keep : ByteArray := prog_12_method_19_code
def yX10_keep : MethodName := ⟨RX10, "keep", "(III)V"⟩
abbrev cX10_kindLine : ByteArray := prog_12_method_20_code
def yX10_kindLine : MethodName := ⟨RX10, "kindLine", "(Z)Z"⟩
abbrev cX10_ofOne : ByteArray := prog_12_method_21_code
def yX10_ofOne : MethodName := ⟨RX10, "ofOne", "(Z)Z"⟩
abbrev cX10_republicLine : ByteArray := prog_12_method_22_code
def yX10_republicLine : MethodName := ⟨RX10, "republicLine", "(JI)Z"⟩
abbrev cX10_weekLine : ByteArray := prog_12_method_23_code
def yX10_weekLine : MethodName := ⟨RX10, "weekLine", "(JI)Z"⟩
abbrev cX10_errandLine : ByteArray := prog_12_method_24_code
def yX10_errandLine : MethodName := ⟨RX10, "errandLine", "(JI)Z"⟩
abbrev cX10_trainLine : ByteArray := prog_12_method_25_code
def yX10_trainLine : MethodName := ⟨RX10, "trainLine", "(JI)Z"⟩
abbrev cX10_sightLine : ByteArray := prog_12_method_26_code
def yX10_sightLine : MethodName := ⟨RX10, "sightLine", "(JI)Z"⟩
abbrev cX10_lineOf : ByteArray := prog_12_method_27_code
def yX10_lineOf : MethodName := ⟨RX10, "lineOf", "(IJI)Z"⟩
abbrev cX10_lines : ByteArray := prog_12_method_28_code
def yX10_lines : MethodName := ⟨RX10, "lines", "(I)Z"⟩
abbrev cX10_readText : ByteArray := prog_12_method_29_code
def yX10_readText : MethodName := ⟨RX10, "readText", "(I)Z"⟩
abbrev cX10_store : ByteArray := prog_12_method_30_code
def yX10_store : MethodName := ⟨RX10, "store", "([III)V"⟩
abbrev cX10_storeAll : ByteArray := prog_12_method_31_code
def yX10_storeAll : MethodName := ⟨RX10, "storeAll", "(II)V"⟩
abbrev cX10_text : ByteArray := prog_12_method_32_code
def yX10_text : MethodName := ⟨RX10, "text", "(II)I"⟩
abbrev cX10_fault : ByteArray := prog_12_method_33_code
def yX10_fault : MethodName := ⟨RX10, "fault", "(I)I"⟩
abbrev cX10_of : ByteArray := prog_12_method_34_code
def yX10_of : MethodName := ⟨RX10, "of", "(I)I"⟩
abbrev cX10_modeOf : ByteArray := prog_12_method_35_code
def yX10_modeOf : MethodName := ⟨RX10, "modeOf", "(I)I"⟩
abbrev cX10_times : ByteArray := prog_12_method_36_code
def yX10_times : MethodName := ⟨RX10, "times", "(II)I"⟩
abbrev cX10_worthOf : ByteArray := prog_12_method_37_code
def yX10_worthOf : MethodName := ⟨RX10, "worthOf", "(III)I"⟩
abbrev cX10_valueBy : ByteArray := prog_12_method_38_code
def yX10_valueBy : MethodName := ⟨RX10, "valueBy", "(III)I"⟩
abbrev cX10_layValues : ByteArray := prog_12_method_39_code
def yX10_layValues : MethodName := ⟨RX10, "layValues", "(I)V"⟩
abbrev cX10_layOdds : ByteArray := prog_12_method_40_code
def yX10_layOdds : MethodName := ⟨RX10, "layOdds", "()V"⟩
abbrev cX10_hand : ByteArray := prog_12_method_41_code
def yX10_hand : MethodName := ⟨RX10, "hand", "(I)Z"⟩
abbrev cX10_isOne : ByteArray := prog_12_method_42_code
def yX10_isOne : MethodName := ⟨RX10, "isOne", "(I)Z"⟩
abbrev cX10_isHour : ByteArray := prog_12_method_43_code
def yX10_isHour : MethodName := ⟨RX10, "isHour", "(I)Z"⟩
abbrev cX10_handOne : ByteArray := prog_12_method_44_code
def yX10_handOne : MethodName := ⟨RX10, "handOne", "(II)Z"⟩
abbrev cX10_republic : ByteArray := prog_12_method_45_code
def yX10_republic : MethodName := ⟨RX10, "republic", "(II)I"⟩
abbrev cX10_person : ByteArray := prog_12_method_46_code
def yX10_person : MethodName := ⟨RX10, "person", "(III)I"⟩
abbrev cX10_allBy : ByteArray := prog_12_method_47_code
def yX10_allBy : MethodName := ⟨RX10, "allBy", "(I)I"⟩
abbrev cX10_value : ByteArray := prog_12_method_48_code
def yX10_value : MethodName := ⟨RX10, "value", "(III)I"⟩
abbrev cX10_common : ByteArray := prog_12_method_49_code
def yX10_common : MethodName := ⟨RX10, "common", "(JJ)J"⟩
abbrev cX10_part : ByteArray := prog_12_method_50_code
def yX10_part : MethodName := ⟨RX10, "part", "(JJZ)J"⟩
abbrev cX10_odds : ByteArray := prog_12_method_51_code
def yX10_odds : MethodName := ⟨RX10, "odds", "(IIZ)I"⟩
abbrev cX10_hasWeek : ByteArray := prog_12_method_52_code
def yX10_hasWeek : MethodName := ⟨RX10, "hasWeek", "(I)Z"⟩
abbrev cX10_hourOf : ByteArray := prog_12_method_53_code
def yX10_hourOf : MethodName := ⟨RX10, "hourOf", "(I)I"⟩
abbrev cX10_day : ByteArray := prog_12_method_54_code
def yX10_day : MethodName := ⟨RX10, "day", "(II)I"⟩
abbrev cX10_live : ByteArray := prog_12_method_55_code
def yX10_live : MethodName := ⟨RX10, "live", "(I)V"⟩
abbrev cX10_liveDays : ByteArray := prog_12_method_56_code
def yX10_liveDays : MethodName := ⟨RX10, "liveDays", "(I)Z"⟩
abbrev cX10_purse : ByteArray := prog_12_method_57_code
def yX10_purse : MethodName := ⟨RX10, "purse", "(IIII)I"⟩
abbrev cX10_likely : ByteArray := prog_12_method_58_code
def yX10_likely : MethodName := ⟨RX10, "likely", "(IIIZ)J"⟩
abbrev cX10_draw : ByteArray := prog_12_method_59_code
def yX10_draw : MethodName := ⟨RX10, "draw", "(I)I"⟩
abbrev cX10_drawHour : ByteArray := prog_12_method_60_code
def yX10_drawHour : MethodName := ⟨RX10, "drawHour", "()I"⟩
abbrev cX10_drawn : ByteArray := prog_12_method_61_code
def yX10_drawn : MethodName := ⟨RX10, "drawn", "(IIII)I"⟩
abbrev cX10_meanOf : ByteArray := prog_12_method_62_code
def yX10_meanOf : MethodName := ⟨RX10, "meanOf", "(I)J"⟩
abbrev cX10_mean : ByteArray := prog_12_method_63_code
def yX10_mean : MethodName := ⟨RX10, "mean", "(IIZ)I"⟩
abbrev cX10_gainOf : ByteArray := prog_12_method_64_code
def yX10_gainOf : MethodName := ⟨RX10, "gainOf", "(II)J"⟩
abbrev cX10_gain : ByteArray := prog_12_method_65_code
def yX10_gain : MethodName := ⟨RX10, "gain", "(IIIZ)I"⟩
abbrev cX10_wishOf : ByteArray := prog_12_method_66_code
def yX10_wishOf : MethodName := ⟨RX10, "wishOf", "(I)I"⟩
abbrev cX10_choice : ByteArray := prog_12_method_67_code
def yX10_choice : MethodName := ⟨RX10, "choice", "()I"⟩
abbrev cX10_wish : ByteArray := prog_12_method_68_code
def yX10_wish : MethodName := ⟨RX10, "wish", "(II)I"⟩
abbrev cX10_buyer : ByteArray := prog_12_method_69_code
def yX10_buyer : MethodName := ⟨RX10, "buyer", "(II)I"⟩
abbrev cX10_promise : ByteArray := prog_12_method_70_code
def yX10_promise : MethodName := ⟨RX10, "promise", "(IIIZ)I"⟩
abbrev cX10_two : ByteArray := prog_12_method_71_code
def yX10_two : MethodName := ⟨RX10, "two", "(IIII)I"⟩
abbrev cX10_swapDeed : ByteArray := prog_12_method_72_code
def yX10_swapDeed : MethodName := ⟨RX10, "swapDeed", "(III)V"⟩
abbrev cX10_shift : ByteArray := prog_12_method_73_code
def yX10_shift : MethodName := ⟨RX10, "shift", "(III)I"⟩
abbrev cX10_apart : ByteArray := prog_12_method_74_code
def yX10_apart : MethodName := ⟨RX10, "apart", "(II)I"⟩
abbrev cX10_feud : ByteArray := prog_12_method_75_code
def yX10_feud : MethodName := ⟨RX10, "feud", "(II)I"⟩
abbrev cX10_errandOf : ByteArray := prog_12_method_76_code
def yX10_errandOf : MethodName := ⟨RX10, "errandOf", "(II)I"⟩
abbrev cX10_fromOf : ByteArray := prog_12_method_77_code
def yX10_fromOf : MethodName := ⟨RX10, "fromOf", "(I)I"⟩
abbrev cX10_toOf : ByteArray := prog_12_method_78_code
def yX10_toOf : MethodName := ⟨RX10, "toOf", "(I)I"⟩
abbrev cX10_hasErrands : ByteArray := prog_12_method_79_code
def yX10_hasErrands : MethodName := ⟨RX10, "hasErrands", "(I)Z"⟩
abbrev cX10_errand : ByteArray := prog_12_method_80_code
def yX10_errand : MethodName := ⟨RX10, "errand", "(III)I"⟩
abbrev cX10_worthAt : ByteArray := prog_12_method_81_code
def yX10_worthAt : MethodName := ⟨RX10, "worthAt", "(III)J"⟩
abbrev cX10_bestFrom : ByteArray := prog_12_method_82_code
def yX10_bestFrom : MethodName := ⟨RX10, "bestFrom", "(III)J"⟩
abbrev cX10_findBest : ByteArray := prog_12_method_83_code
def yX10_findBest : MethodName := ⟨RX10, "findBest", "(I)J"⟩
abbrev cX10_choose : ByteArray := prog_12_method_84_code
def yX10_choose : MethodName := ⟨RX10, "choose", "(I)V"⟩
abbrev cX10_chosenBy : ByteArray := prog_12_method_85_code
def yX10_chosenBy : MethodName := ⟨RX10, "chosenBy", "(I)J"⟩
abbrev cX10_rued : ByteArray := prog_12_method_86_code
def yX10_rued : MethodName := ⟨RX10, "rued", "()I"⟩
abbrev cX10_plan : ByteArray := prog_12_method_87_code
def yX10_plan : MethodName := ⟨RX10, "plan", "(III)I"⟩
abbrev cX10_trainOf : ByteArray := prog_12_method_88_code
def yX10_trainOf : MethodName := ⟨RX10, "trainOf", "(II)I"⟩
abbrev cX10_hasTable : ByteArray := prog_12_method_89_code
def yX10_hasTable : MethodName := ⟨RX10, "hasTable", "(I)Z"⟩
abbrev cX10_trains : ByteArray := prog_12_method_90_code
def yX10_trains : MethodName := ⟨RX10, "trains", "()I"⟩
abbrev cX10_train : ByteArray := prog_12_method_91_code
def yX10_train : MethodName := ⟨RX10, "train", "(III)I"⟩
abbrev cX10_trueAt : ByteArray := prog_12_method_92_code
def yX10_trueAt : MethodName := ⟨RX10, "trueAt", "(II)I"⟩
abbrev cX10_slackBy : ByteArray := prog_12_method_93_code
def yX10_slackBy : MethodName := ⟨RX10, "slackBy", "(I)I"⟩
abbrev cX10_holds : ByteArray := prog_12_method_94_code
def yX10_holds : MethodName := ⟨RX10, "holds", "(III)I"⟩
abbrev cX10_canLeave : ByteArray := prog_12_method_95_code
def yX10_canLeave : MethodName := ⟨RX10, "canLeave", "(III)Z"⟩
abbrev cX10_findEarliest : ByteArray := prog_12_method_96_code
def yX10_findEarliest : MethodName := ⟨RX10, "findEarliest", "()V"⟩
abbrev cX10_clock : ByteArray := prog_12_method_97_code
def yX10_clock : MethodName := ⟨RX10, "clock", "(IIII)I"⟩
abbrev cX10_sightOf : ByteArray := prog_12_method_98_code
def yX10_sightOf : MethodName := ⟨RX10, "sightOf", "(II)I"⟩
abbrev cX10_hasSights : ByteArray := prog_12_method_99_code
def yX10_hasSights : MethodName := ⟨RX10, "hasSights", "(I)Z"⟩
abbrev cX10_sight : ByteArray := prog_12_method_100_code
def yX10_sight : MethodName := ⟨RX10, "sight", "(III)I"⟩
abbrev cX10_isAsSeen : ByteArray := prog_12_method_101_code
def yX10_isAsSeen : MethodName := ⟨RX10, "isAsSeen", "(I)Z"⟩
abbrev cX10_isRow : ByteArray := prog_12_method_102_code
def yX10_isRow : MethodName := ⟨RX10, "isRow", "(I)Z"⟩
abbrev cX10_findFits : ByteArray := prog_12_method_103_code
def yX10_findFits : MethodName := ⟨RX10, "findFits", "()V"⟩
abbrev cX10_onlyOne : ByteArray := prog_12_method_104_code
def yX10_onlyOne : MethodName := ⟨RX10, "onlyOne", "(I)I"⟩
abbrev cX10_fits : ByteArray := prog_12_method_105_code
def yX10_fits : MethodName := ⟨RX10, "fits", "(III)I"⟩
abbrev cX10_reignDays : ByteArray := prog_12_method_106_code
def yX10_reignDays : MethodName := ⟨RX10, "reignDays", "(I)I"⟩
abbrev cX10_reign : ByteArray := prog_12_method_107_code
def yX10_reign : MethodName := ⟨RX10, "reign", "(III)I"⟩
abbrev cX10_begin : ByteArray := prog_12_method_108_code
def yX10_begin : MethodName := ⟨RX10, "begin", "()V"⟩
abbrev cX10_plus : ByteArray := prog_12_method_109_code
def yX10_plus : MethodName := ⟨RX10, "plus", "(JJ)V"⟩
abbrev cX10_expect : ByteArray := prog_12_method_110_code
def yX10_expect : MethodName := ⟨RX10, "expect", "(IIZ)V"⟩
abbrev cX10_hope : ByteArray := prog_12_method_111_code
def yX10_hope : MethodName := ⟨RX10, "hope", "(IIIZ)J"⟩
abbrev cX10_doom : ByteArray := prog_12_method_112_code
def yX10_doom : MethodName := ⟨RX10, "doom", "(IIIZ)J"⟩
abbrev cX10_allMeans : ByteArray := prog_12_method_113_code
def yX10_allMeans : MethodName := ⟨RX10, "allMeans", "()J"⟩
abbrev cX10_ruling : ByteArray := prog_12_method_114_code
def yX10_ruling : MethodName := ⟨RX10, "ruling", "(II)I"⟩
abbrev cX10_trust : ByteArray := prog_12_method_115_code
def yX10_trust : MethodName := ⟨RX10, "trust", "(IIZ)I"⟩
abbrev cX10_tight : ByteArray := prog_12_method_116_code
def yX10_tight : MethodName := ⟨RX10, "tight", "(II)I"⟩
abbrev cX10_free : ByteArray := prog_12_method_117_code
def yX10_free : MethodName := ⟨RX10, "free", "(IIZ)I"⟩
abbrev cX10_count : ByteArray := prog_12_method_118_code
def yX10_count : MethodName := ⟨RX10, "count", "(I)I"⟩
abbrev cX10_image : ByteArray := prog_12_method_119_code
def yX10_image : MethodName := ⟨RX10, "image", "(I)Z"⟩
abbrev cX10_again : ByteArray := prog_12_method_120_code
def yX10_again : MethodName := ⟨RX10, "again", "(I)Z"⟩
def RJ9 : String := "java/lang/Math"
abbrev cJ9_abs_0f7a4 : ByteArray := prog_13_method_59_code
def yJ9_abs_0f7a4 : MethodName := ⟨RJ9, "abs", "(I)I"⟩
abbrev cJ9_abs_067f4 : ByteArray := prog_13_method_61_code
def yJ9_abs_067f4 : MethodName := ⟨RJ9, "abs", "(J)J"⟩
abbrev cJ9_max_7cf53 : ByteArray := prog_13_method_65_code
def yJ9_max_7cf53 : MethodName := ⟨RJ9, "max", "(II)I"⟩
abbrev cJ9_max_f86c9 : ByteArray := prog_13_method_66_code
def yJ9_max_f86c9 : MethodName := ⟨RJ9, "max", "(JJ)J"⟩
abbrev cJ9_min_7cf53 : ByteArray := prog_13_method_69_code
def yJ9_min_7cf53 : MethodName := ⟨RJ9, "min", "(II)I"⟩
def RJ0 : String := "java/lang/String"
abbrev cJ0_length_8abf5 : ByteArray := prog_14_method_54_code
def yJ0_length_8abf5 : MethodName := ⟨RJ0, "length", "()I"⟩
abbrev cJ0_charAt_5068e : ByteArray := prog_14_method_56_code
def yJ0_charAt_5068e : MethodName := ⟨RJ0, "charAt", "(I)C"⟩
abbrev cJ0_coder_7d493 : ByteArray := prog_14_method_152_code
def yJ0_coder_7d493 : MethodName := ⟨RJ0, "coder", "()B"⟩
abbrev cJ0_isLatin1_aae02 : ByteArray := prog_14_method_154_code
def yJ0_isLatin1_aae02 : MethodName := ⟨RJ0, "isLatin1", "()Z"⟩
abbrev cJ0_checkIndex_df160 : ByteArray := prog_14_method_155_code
def yJ0_checkIndex_df160 : MethodName := ⟨RJ0, "checkIndex", "(II)V"⟩
def RJ1 : String := "java/lang/StringLatin1"
abbrev cJ1_charAt_3b067 : ByteArray := prog_15_method_2_code
def yJ1_charAt_3b067 : MethodName := ⟨RJ1, "charAt", "([BI)C"⟩
def RJ2 : String := "java/lang/StringUTF16"
abbrev cJ2_getChar_3b067 : ByteArray := prog_16_method_5_code
def yJ2_getChar_3b067 : MethodName := ⟨RJ2, "getChar", "([BI)C"⟩
abbrev cJ2_length_9d52b : ByteArray := prog_16_method_6_code
def yJ2_length_9d52b : MethodName := ⟨RJ2, "length", "([B)I"⟩
abbrev cJ2_charAt_3b067 : ByteArray := prog_16_method_83_code
def yJ2_charAt_3b067 : MethodName := ⟨RJ2, "charAt", "([BI)C"⟩
abbrev cJ2_checkIndex_2214a : ByteArray := prog_16_method_91_code
def yJ2_checkIndex_2214a : MethodName := ⟨RJ2, "checkIndex", "(I[B)V"⟩
def RJ10 : String := "java/lang/System"
def RJ3 : String := "jdk/internal/util/Preconditions"
abbrev cJ3_checkIndex_8e157 : ByteArray := prog_18_method_11_code
def yJ3_checkIndex_8e157 : MethodName := ⟨RJ3, "checkIndex", "(IILjava/util/function/BiFunction;)I"⟩
def RL : String := "GluedHourLaw"
abbrev cL_law : ByteArray := code
def yL_law : MethodName := ⟨RL, "law", "([I)Z"⟩
abbrev vwCl : List vw_C := [(RX0, TX0, 4), (RX1, TX1, 2), (RX2, TX2, 4), (RX3, TX3, 3), (RX4, TX4, 9), (RX5, TX5, 14), (RX6, TX6, 7), (RX7, TX7, 5), (RX8, TX8, 7), (RX9, TX9, 9), (RX10, TX10, 59)]
end
end

section
section
/-- the words of the tables that hold in every callee -/
def lw_gd : List Cond := lw_tbl.filter goodWord
theorem lw_gd_in {i : Nat} {w : Cond} (h : lw_tbl[i]? = some w) (hg : goodWord w = true) : w ∈ lw_gd := List.mem_filter.mpr ⟨List.mem_of_getElem? h, hg⟩
theorem tb_0 {i : Nat} {w : Cond} (h : (k2_sels lw_privs)[i]? = some w) (hg : goodWord w = true) : w ∈ lw_gd := List.mem_filter.mpr ⟨List.mem_append_left _ (List.mem_of_getElem? h), hg⟩
theorem tb_1 {i : Nat} {w : Cond} (h : (tables_1_1)[i]? = some w) (hg : goodWord w = true) : w ∈ lw_gd := List.mem_filter.mpr ⟨List.mem_append_right _ (List.mem_append_left _ (List.mem_of_getElem? h)), hg⟩
theorem tb_2 {i : Nat} {w : Cond} (h : (tables_1_2)[i]? = some w) (hg : goodWord w = true) : w ∈ lw_gd := List.mem_filter.mpr ⟨List.mem_append_right _ (List.mem_append_right _ (List.mem_append_left _ (List.mem_of_getElem? h))), hg⟩
theorem tb_3 {i : Nat} {w : Cond} (h : (tables_1_3)[i]? = some w) (hg : goodWord w = true) : w ∈ lw_gd := List.mem_filter.mpr ⟨List.mem_append_right _ (List.mem_append_right _ (List.mem_append_right _ (List.mem_append_left _ (List.mem_of_getElem? h)))), hg⟩
theorem tb_4 {i : Nat} {w : Cond} (h : (tables_1_4)[i]? = some w) (hg : goodWord w = true) : w ∈ lw_gd := List.mem_filter.mpr ⟨List.mem_append_right _ (List.mem_append_right _ (List.mem_append_right _ (List.mem_append_right _ (List.mem_append_left _ (List.mem_of_getElem? h))))), hg⟩
theorem tb_5 {i : Nat} {w : Cond} (h : (tables_1_5)[i]? = some w) (hg : goodWord w = true) : w ∈ lw_gd := List.mem_filter.mpr ⟨List.mem_append_right _ (List.mem_append_right _ (List.mem_append_right _ (List.mem_append_right _ (List.mem_append_right _ (List.mem_append_left _ (List.mem_of_getElem? h)))))), hg⟩
theorem tb_6 {i : Nat} {w : Cond} (h : (tables_1_6)[i]? = some w) (hg : goodWord w = true) : w ∈ lw_gd := List.mem_filter.mpr ⟨List.mem_append_right _ (List.mem_append_right _ (List.mem_append_right _ (List.mem_append_right _ (List.mem_append_right _ (List.mem_append_right _ (List.mem_append_left _ (List.mem_of_getElem? h))))))), hg⟩
theorem tb_7 {i : Nat} {w : Cond} (h : (tables_1_7)[i]? = some w) (hg : goodWord w = true) : w ∈ lw_gd := List.mem_filter.mpr ⟨List.mem_append_right _ (List.mem_append_right _ (List.mem_append_right _ (List.mem_append_right _ (List.mem_append_right _ (List.mem_append_right _ (List.mem_append_right _ (List.mem_of_getElem? h))))))), hg⟩
theorem wd_0 : (Jvm.Cond.selects "GluedHour$Reader" ({ cls := "GluedHour$Reader", name := "begin", desc := "(II)V" } : Jvm.MethodName) ({ cls := "GluedHour$Reader", name := "begin", desc := "(II)V" } : Jvm.MethodName)) ∈ lw_gd := tb_0 (i := 0) rfl rfl
theorem wd_1 : (Jvm.Cond.selects "GluedHour$Reader" ({ cls := "GluedHour$Reader", name := "draftOf", desc := "(I)LGluedHour$Lines;" } : Jvm.MethodName) ({ cls := "GluedHour$Reader", name := "draftOf", desc := "(I)LGluedHour$Lines;" } : Jvm.MethodName)) ∈ lw_gd := tb_0 (i := 1) rfl rfl
theorem wd_2 : (Jvm.Cond.selects "GluedHour$Reader" ({ cls := "GluedHour$Reader", name := "step", desc := "()V" } : Jvm.MethodName) ({ cls := "GluedHour$Reader", name := "step", desc := "()V" } : Jvm.MethodName)) ∈ lw_gd := tb_0 (i := 2) rfl rfl
theorem wd_3 : (Jvm.Cond.selects "GluedHour$Reader" ({ cls := "GluedHour$Reader", name := "stepNumber", desc := "()V" } : Jvm.MethodName) ({ cls := "GluedHour$Reader", name := "stepNumber", desc := "()V" } : Jvm.MethodName)) ∈ lw_gd := tb_0 (i := 3) rfl rfl
theorem wd_4 : (Jvm.Cond.selects "GluedHour$Reader" ({ cls := "GluedHour$Reader", name := "readLine", desc := "(I)Z" } : Jvm.MethodName) ({ cls := "GluedHour$Reader", name := "readLine", desc := "(I)Z" } : Jvm.MethodName)) ∈ lw_gd := tb_0 (i := 4) rfl rfl
theorem wd_5 : (Jvm.Cond.selects "GluedHour$Reader" ({ cls := "GluedHour$Reader", name := "verbOf", desc := "(I)I" } : Jvm.MethodName) ({ cls := "GluedHour$Reader", name := "verbOf", desc := "(I)I" } : Jvm.MethodName)) ∈ lw_gd := tb_0 (i := 5) rfl rfl
theorem wd_6 : (Jvm.Cond.selects "GluedHour$Reader" ({ cls := "GluedHour$Reader", name := "isWord", desc := "(Ljava/lang/String;)Z" } : Jvm.MethodName) ({ cls := "GluedHour$Reader", name := "isWord", desc := "(Ljava/lang/String;)Z" } : Jvm.MethodName)) ∈ lw_gd := tb_0 (i := 6) rfl rfl
theorem wd_7 : (Jvm.Cond.selects "GluedHour$Reader" ({ cls := "GluedHour$Reader", name := "isOneTooMany", desc := "(I)Z" } : Jvm.MethodName) ({ cls := "GluedHour$Reader", name := "isOneTooMany", desc := "(I)Z" } : Jvm.MethodName)) ∈ lw_gd := tb_0 (i := 7) rfl rfl
theorem wd_8 : (Jvm.Cond.selects "GluedHour$Reader" ({ cls := "GluedHour$Reader", name := "note", desc := "(II)V" } : Jvm.MethodName) ({ cls := "GluedHour$Reader", name := "note", desc := "(II)V" } : Jvm.MethodName)) ∈ lw_gd := tb_0 (i := 8) rfl rfl
theorem wd_9 : (Jvm.Cond.selects "GluedHour$Reader" ({ cls := "GluedHour$Reader", name := "checkNumber", desc := "(II)V" } : Jvm.MethodName) ({ cls := "GluedHour$Reader", name := "checkNumber", desc := "(II)V" } : Jvm.MethodName)) ∈ lw_gd := tb_0 (i := 9) rfl rfl
theorem wd_10 : (Jvm.Cond.selects "GluedHour$Reader" ({ cls := "GluedHour$Reader", name := "readMode", desc := "()Z" } : Jvm.MethodName) ({ cls := "GluedHour$Reader", name := "readMode", desc := "()Z" } : Jvm.MethodName)) ∈ lw_gd := tb_0 (i := 10) rfl rfl
theorem wd_11 : (Jvm.Cond.selects "GluedHour$Reader" ({ cls := "GluedHour$Reader", name := "tell", desc := "(I)V" } : Jvm.MethodName) ({ cls := "GluedHour$Reader", name := "tell", desc := "(I)V" } : Jvm.MethodName)) ∈ lw_gd := tb_0 (i := 11) rfl rfl
theorem wd_12 : (Jvm.Cond.selects "GluedHour$Reader" ({ cls := "GluedHour$Reader", name := "tellLine", desc := "(I)V" } : Jvm.MethodName) ({ cls := "GluedHour$Reader", name := "tellLine", desc := "(I)V" } : Jvm.MethodName)) ∈ lw_gd := tb_0 (i := 12) rfl rfl
theorem wd_13 : (Jvm.Cond.selects "GluedHour" ({ cls := "GluedHour", name := "begun", desc := "(I)LGluedHour$Republic;" } : Jvm.MethodName) ({ cls := "GluedHour", name := "begun", desc := "(I)LGluedHour$Republic;" } : Jvm.MethodName)) ∈ lw_gd := tb_0 (i := 13) rfl rfl
theorem wd_14 : (Jvm.Cond.selects "GluedHour" ({ cls := "GluedHour", name := "gainBy", desc := "(II)J" } : Jvm.MethodName) ({ cls := "GluedHour", name := "gainBy", desc := "(II)J" } : Jvm.MethodName)) ∈ lw_gd := tb_0 (i := 14) rfl rfl
theorem wd_15 : (Jvm.Cond.selects "GluedHour$Planner" ({ cls := "GluedHour$Planner", name := "bestOf", desc := "(II)J" } : Jvm.MethodName) ({ cls := "GluedHour$Planner", name := "bestOf", desc := "(II)J" } : Jvm.MethodName)) ∈ lw_gd := tb_0 (i := 15) rfl rfl
theorem wd_16 : (Jvm.Cond.selects "GluedHour$Planner" ({ cls := "GluedHour$Planner", name := "keep", desc := "(J)V" } : Jvm.MethodName) ({ cls := "GluedHour$Planner", name := "keep", desc := "(J)V" } : Jvm.MethodName)) ∈ lw_gd := tb_0 (i := 16) rfl rfl
theorem wd_17 : (Jvm.Cond.selects "GluedHour$Planner" ({ cls := "GluedHour$Planner", name := "blindBy", desc := "(LGluedHour$Republic;LGluedHour$Lines;I)J" } : Jvm.MethodName) ({ cls := "GluedHour$Planner", name := "blindBy", desc := "(LGluedHour$Republic;LGluedHour$Lines;I)J" } : Jvm.MethodName)) ∈ lw_gd := tb_0 (i := 17) rfl rfl
theorem wd_18 : (Jvm.Cond.selects "GluedHour$Search" ({ cls := "GluedHour$Search", name := "follow", desc := "(LGluedHour$Republic;LGluedHour$Course;LGluedHour$Lines;I)V" } : Jvm.MethodName) ({ cls := "GluedHour$Search", name := "follow", desc := "(LGluedHour$Republic;LGluedHour$Course;LGluedHour$Lines;I)V" } : Jvm.MethodName)) ∈ lw_gd := tb_0 (i := 18) rfl rfl
theorem wd_19 : (Jvm.Cond.selects "GluedHour$Search" ({ cls := "GluedHour$Search", name := "keepRow", desc := "()V" } : Jvm.MethodName) ({ cls := "GluedHour$Search", name := "keepRow", desc := "()V" } : Jvm.MethodName)) ∈ lw_gd := tb_0 (i := 19) rfl rfl
theorem wd_20 : (Jvm.Cond.selects "GluedHour" ({ cls := "GluedHour", name := "expected", desc := "(IIIZ)Z" } : Jvm.MethodName) ({ cls := "GluedHour", name := "expected", desc := "(IIIZ)Z" } : Jvm.MethodName)) ∈ lw_gd := tb_0 (i := 20) rfl rfl
theorem wd_21 : (Jvm.Cond.selects "GluedHour" ({ cls := "GluedHour", name := "nextDay", desc := "(LGluedHour$Republic;LGluedHour$Odds;IZ)J" } : Jvm.MethodName) ({ cls := "GluedHour", name := "nextDay", desc := "(LGluedHour$Republic;LGluedHour$Odds;IZ)J" } : Jvm.MethodName)) ∈ lw_gd := tb_0 (i := 21) rfl rfl
theorem wd_22 : (Jvm.Cond.selects "GluedHour" ({ cls := "GluedHour", name := "changeBy", desc := "(LGluedHour$Republic;II)J" } : Jvm.MethodName) ({ cls := "GluedHour", name := "changeBy", desc := "(LGluedHour$Republic;II)J" } : Jvm.MethodName)) ∈ lw_gd := tb_0 (i := 22) rfl rfl
theorem wd_23 : (Jvm.Cond.selects "GluedHourModel" ({ cls := "GluedHourModel", name := "four", desc := "(I)V" } : Jvm.MethodName) ({ cls := "GluedHourModel", name := "four", desc := "(I)V" } : Jvm.MethodName)) ∈ lw_gd := tb_0 (i := 23) rfl rfl
theorem wd_24 : (Jvm.Cond.selects "GluedHourModel" ({ cls := "GluedHourModel", name := "is", desc := "(II)Z" } : Jvm.MethodName) ({ cls := "GluedHourModel", name := "is", desc := "(II)Z" } : Jvm.MethodName)) ∈ lw_gd := tb_0 (i := 24) rfl rfl
theorem wd_25 : (Jvm.Cond.selects "GluedHourModel" ({ cls := "GluedHourModel", name := "readText", desc := "(I)Z" } : Jvm.MethodName) ({ cls := "GluedHourModel", name := "readText", desc := "(I)Z" } : Jvm.MethodName)) ∈ lw_gd := tb_0 (i := 25) rfl rfl
theorem wd_26 : (Jvm.Cond.selects "GluedHourModel" ({ cls := "GluedHourModel", name := "token", desc := "()V" } : Jvm.MethodName) ({ cls := "GluedHourModel", name := "token", desc := "()V" } : Jvm.MethodName)) ∈ lw_gd := tb_0 (i := 26) rfl rfl
theorem wd_27 : (Jvm.Cond.selects "GluedHourModel" ({ cls := "GluedHourModel", name := "see", desc := "()I" } : Jvm.MethodName) ({ cls := "GluedHourModel", name := "see", desc := "()I" } : Jvm.MethodName)) ∈ lw_gd := tb_0 (i := 27) rfl rfl
theorem wd_28 : (Jvm.Cond.selects "GluedHourModel" ({ cls := "GluedHourModel", name := "lines", desc := "(I)Z" } : Jvm.MethodName) ({ cls := "GluedHourModel", name := "lines", desc := "(I)Z" } : Jvm.MethodName)) ∈ lw_gd := tb_0 (i := 28) rfl rfl
theorem wd_29 : (Jvm.Cond.selects "GluedHourModel" ({ cls := "GluedHourModel", name := "lineOf", desc := "(IJI)Z" } : Jvm.MethodName) ({ cls := "GluedHourModel", name := "lineOf", desc := "(IJI)Z" } : Jvm.MethodName)) ∈ lw_gd := tb_0 (i := 29) rfl rfl
theorem wd_30 : (Jvm.Cond.selects "GluedHourModel" ({ cls := "GluedHourModel", name := "republicLine", desc := "(JI)Z" } : Jvm.MethodName) ({ cls := "GluedHourModel", name := "republicLine", desc := "(JI)Z" } : Jvm.MethodName)) ∈ lw_gd := tb_0 (i := 30) rfl rfl
theorem wd_31 : (Jvm.Cond.selects "GluedHourModel" ({ cls := "GluedHourModel", name := "fails", desc := "()Z" } : Jvm.MethodName) ({ cls := "GluedHourModel", name := "fails", desc := "()Z" } : Jvm.MethodName)) ∈ lw_gd := tb_0 (i := 31) rfl rfl
theorem wd_32 : (Jvm.Cond.selects "GluedHourModel" ({ cls := "GluedHourModel", name := "full", desc := "(III)V" } : Jvm.MethodName) ({ cls := "GluedHourModel", name := "full", desc := "(III)V" } : Jvm.MethodName)) ∈ lw_gd := tb_0 (i := 32) rfl rfl
theorem wd_33 : (Jvm.Cond.selects "GluedHourModel" ({ cls := "GluedHourModel", name := "later", desc := "(II)V" } : Jvm.MethodName) ({ cls := "GluedHourModel", name := "later", desc := "(II)V" } : Jvm.MethodName)) ∈ lw_gd := tb_0 (i := 33) rfl rfl
theorem wd_34 : (Jvm.Cond.selects "GluedHourModel" ({ cls := "GluedHourModel", name := "kindLine", desc := "(Z)Z" } : Jvm.MethodName) ({ cls := "GluedHourModel", name := "kindLine", desc := "(Z)Z" } : Jvm.MethodName)) ∈ lw_gd := tb_0 (i := 34) rfl rfl
theorem wd_35 : (Jvm.Cond.selects "GluedHourModel" ({ cls := "GluedHourModel", name := "take", desc := "(III)Z" } : Jvm.MethodName) ({ cls := "GluedHourModel", name := "take", desc := "(III)Z" } : Jvm.MethodName)) ∈ lw_gd := tb_0 (i := 35) rfl rfl
theorem wd_36 : (Jvm.Cond.selects "GluedHourModel" ({ cls := "GluedHourModel", name := "ofOne", desc := "(Z)Z" } : Jvm.MethodName) ({ cls := "GluedHourModel", name := "ofOne", desc := "(Z)Z" } : Jvm.MethodName)) ∈ lw_gd := tb_0 (i := 36) rfl rfl
theorem wd_37 : (Jvm.Cond.selects "GluedHourModel" ({ cls := "GluedHourModel", name := "weekLine", desc := "(JI)Z" } : Jvm.MethodName) ({ cls := "GluedHourModel", name := "weekLine", desc := "(JI)Z" } : Jvm.MethodName)) ∈ lw_gd := tb_0 (i := 37) rfl rfl
theorem wd_38 : (Jvm.Cond.selects "GluedHourModel" ({ cls := "GluedHourModel", name := "keep", desc := "(III)V" } : Jvm.MethodName) ({ cls := "GluedHourModel", name := "keep", desc := "(III)V" } : Jvm.MethodName)) ∈ lw_gd := tb_0 (i := 38) rfl rfl
theorem wd_39 : (Jvm.Cond.selects "GluedHourModel" ({ cls := "GluedHourModel", name := "errandLine", desc := "(JI)Z" } : Jvm.MethodName) ({ cls := "GluedHourModel", name := "errandLine", desc := "(JI)Z" } : Jvm.MethodName)) ∈ lw_gd := tb_0 (i := 39) rfl rfl
theorem wd_40 : (Jvm.Cond.selects "GluedHourModel" ({ cls := "GluedHourModel", name := "trainLine", desc := "(JI)Z" } : Jvm.MethodName) ({ cls := "GluedHourModel", name := "trainLine", desc := "(JI)Z" } : Jvm.MethodName)) ∈ lw_gd := tb_0 (i := 40) rfl rfl
theorem wd_41 : (Jvm.Cond.selects "GluedHourModel" ({ cls := "GluedHourModel", name := "sightLine", desc := "(JI)Z" } : Jvm.MethodName) ({ cls := "GluedHourModel", name := "sightLine", desc := "(JI)Z" } : Jvm.MethodName)) ∈ lw_gd := tb_0 (i := 41) rfl rfl
theorem wd_42 : (Jvm.Cond.selects "GluedHourModel" ({ cls := "GluedHourModel", name := "storeAll", desc := "(II)V" } : Jvm.MethodName) ({ cls := "GluedHourModel", name := "storeAll", desc := "(II)V" } : Jvm.MethodName)) ∈ lw_gd := tb_0 (i := 42) rfl rfl
theorem wd_43 : (Jvm.Cond.selects "GluedHourModel" ({ cls := "GluedHourModel", name := "store", desc := "([III)V" } : Jvm.MethodName) ({ cls := "GluedHourModel", name := "store", desc := "([III)V" } : Jvm.MethodName)) ∈ lw_gd := tb_0 (i := 43) rfl rfl
theorem wd_44 : (Jvm.Cond.selects "GluedHourModel" ({ cls := "GluedHourModel", name := "hand", desc := "(I)Z" } : Jvm.MethodName) ({ cls := "GluedHourModel", name := "hand", desc := "(I)Z" } : Jvm.MethodName)) ∈ lw_gd := tb_0 (i := 44) rfl rfl
theorem wd_45 : (Jvm.Cond.selects "GluedHourModel" ({ cls := "GluedHourModel", name := "of", desc := "(I)I" } : Jvm.MethodName) ({ cls := "GluedHourModel", name := "of", desc := "(I)I" } : Jvm.MethodName)) ∈ lw_gd := tb_0 (i := 45) rfl rfl
theorem wd_46 : (Jvm.Cond.selects "GluedHourModel" ({ cls := "GluedHourModel", name := "layValues", desc := "(I)V" } : Jvm.MethodName) ({ cls := "GluedHourModel", name := "layValues", desc := "(I)V" } : Jvm.MethodName)) ∈ lw_gd := tb_0 (i := 46) rfl rfl
theorem wd_47 : (Jvm.Cond.selects "GluedHourModel" ({ cls := "GluedHourModel", name := "valueBy", desc := "(III)I" } : Jvm.MethodName) ({ cls := "GluedHourModel", name := "valueBy", desc := "(III)I" } : Jvm.MethodName)) ∈ lw_gd := tb_0 (i := 47) rfl rfl
theorem wd_48 : (Jvm.Cond.selects "GluedHourModel" ({ cls := "GluedHourModel", name := "worthOf", desc := "(III)I" } : Jvm.MethodName) ({ cls := "GluedHourModel", name := "worthOf", desc := "(III)I" } : Jvm.MethodName)) ∈ lw_gd := tb_0 (i := 48) rfl rfl
theorem wd_49 : (Jvm.Cond.selects "GluedHourModel" ({ cls := "GluedHourModel", name := "modeOf", desc := "(I)I" } : Jvm.MethodName) ({ cls := "GluedHourModel", name := "modeOf", desc := "(I)I" } : Jvm.MethodName)) ∈ lw_gd := tb_0 (i := 49) rfl rfl
theorem wd_50 : (Jvm.Cond.selects "GluedHourModel" ({ cls := "GluedHourModel", name := "layOdds", desc := "()V" } : Jvm.MethodName) ({ cls := "GluedHourModel", name := "layOdds", desc := "()V" } : Jvm.MethodName)) ∈ lw_gd := tb_0 (i := 50) rfl rfl
theorem wd_51 : (Jvm.Cond.selects "GluedHourModel" ({ cls := "GluedHourModel", name := "handOne", desc := "(II)Z" } : Jvm.MethodName) ({ cls := "GluedHourModel", name := "handOne", desc := "(II)Z" } : Jvm.MethodName)) ∈ lw_gd := tb_0 (i := 51) rfl rfl
theorem wd_52 : (Jvm.Cond.selects "GluedHourModel" ({ cls := "GluedHourModel", name := "isOne", desc := "(I)Z" } : Jvm.MethodName) ({ cls := "GluedHourModel", name := "isOne", desc := "(I)Z" } : Jvm.MethodName)) ∈ lw_gd := tb_0 (i := 52) rfl rfl
theorem wd_53 : (Jvm.Cond.selects "GluedHourModel" ({ cls := "GluedHourModel", name := "isHour", desc := "(I)Z" } : Jvm.MethodName) ({ cls := "GluedHourModel", name := "isHour", desc := "(I)Z" } : Jvm.MethodName)) ∈ lw_gd := tb_0 (i := 53) rfl rfl
theorem wd_54 : (Jvm.Cond.selects "GluedHourModel" ({ cls := "GluedHourModel", name := "allBy", desc := "(I)I" } : Jvm.MethodName) ({ cls := "GluedHourModel", name := "allBy", desc := "(I)I" } : Jvm.MethodName)) ∈ lw_gd := tb_0 (i := 54) rfl rfl
theorem wd_55 : (Jvm.Cond.selects "GluedHourModel" ({ cls := "GluedHourModel", name := "hasWeek", desc := "(I)Z" } : Jvm.MethodName) ({ cls := "GluedHourModel", name := "hasWeek", desc := "(I)Z" } : Jvm.MethodName)) ∈ lw_gd := tb_0 (i := 55) rfl rfl
theorem wd_56 : (Jvm.Cond.selects "GluedHourModel" ({ cls := "GluedHourModel", name := "hourOf", desc := "(I)I" } : Jvm.MethodName) ({ cls := "GluedHourModel", name := "hourOf", desc := "(I)I" } : Jvm.MethodName)) ∈ lw_gd := tb_0 (i := 56) rfl rfl
theorem wd_57 : (Jvm.Cond.selects "GluedHourModel" ({ cls := "GluedHourModel", name := "liveDays", desc := "(I)Z" } : Jvm.MethodName) ({ cls := "GluedHourModel", name := "liveDays", desc := "(I)Z" } : Jvm.MethodName)) ∈ lw_gd := tb_0 (i := 57) rfl rfl
theorem wd_58 : (Jvm.Cond.selects "GluedHourModel" ({ cls := "GluedHourModel", name := "live", desc := "(I)V" } : Jvm.MethodName) ({ cls := "GluedHourModel", name := "live", desc := "(I)V" } : Jvm.MethodName)) ∈ lw_gd := tb_0 (i := 58) rfl rfl
theorem wd_59 : (Jvm.Cond.selects "GluedHourModel" ({ cls := "GluedHourModel", name := "drawHour", desc := "()I" } : Jvm.MethodName) ({ cls := "GluedHourModel", name := "drawHour", desc := "()I" } : Jvm.MethodName)) ∈ lw_gd := tb_0 (i := 59) rfl rfl
theorem wd_60 : (Jvm.Cond.selects "GluedHourModel" ({ cls := "GluedHourModel", name := "draw", desc := "(I)I" } : Jvm.MethodName) ({ cls := "GluedHourModel", name := "draw", desc := "(I)I" } : Jvm.MethodName)) ∈ lw_gd := tb_0 (i := 60) rfl rfl
theorem wd_61 : (Jvm.Cond.selects "GluedHourModel" ({ cls := "GluedHourModel", name := "meanOf", desc := "(I)J" } : Jvm.MethodName) ({ cls := "GluedHourModel", name := "meanOf", desc := "(I)J" } : Jvm.MethodName)) ∈ lw_gd := tb_0 (i := 61) rfl rfl
theorem wd_62 : (Jvm.Cond.selects "GluedHourModel" ({ cls := "GluedHourModel", name := "gainOf", desc := "(II)J" } : Jvm.MethodName) ({ cls := "GluedHourModel", name := "gainOf", desc := "(II)J" } : Jvm.MethodName)) ∈ lw_gd := tb_0 (i := 62) rfl rfl
theorem wd_63 : (Jvm.Cond.selects "GluedHourModel" ({ cls := "GluedHourModel", name := "choice", desc := "()I" } : Jvm.MethodName) ({ cls := "GluedHourModel", name := "choice", desc := "()I" } : Jvm.MethodName)) ∈ lw_gd := tb_0 (i := 63) rfl rfl
theorem wd_64 : (Jvm.Cond.selects "GluedHourModel" ({ cls := "GluedHourModel", name := "wishOf", desc := "(I)I" } : Jvm.MethodName) ({ cls := "GluedHourModel", name := "wishOf", desc := "(I)I" } : Jvm.MethodName)) ∈ lw_gd := tb_0 (i := 64) rfl rfl
theorem wd_65 : (Jvm.Cond.selects "GluedHourModel" ({ cls := "GluedHourModel", name := "swapDeed", desc := "(III)V" } : Jvm.MethodName) ({ cls := "GluedHourModel", name := "swapDeed", desc := "(III)V" } : Jvm.MethodName)) ∈ lw_gd := tb_0 (i := 65) rfl rfl
theorem wd_66 : (Jvm.Cond.selects "GluedHourModel" ({ cls := "GluedHourModel", name := "apart", desc := "(II)I" } : Jvm.MethodName) ({ cls := "GluedHourModel", name := "apart", desc := "(II)I" } : Jvm.MethodName)) ∈ lw_gd := tb_0 (i := 66) rfl rfl
theorem wd_67 : (Jvm.Cond.selects "GluedHourModel" ({ cls := "GluedHourModel", name := "hasErrands", desc := "(I)Z" } : Jvm.MethodName) ({ cls := "GluedHourModel", name := "hasErrands", desc := "(I)Z" } : Jvm.MethodName)) ∈ lw_gd := tb_0 (i := 67) rfl rfl
theorem wd_68 : (Jvm.Cond.selects "GluedHourModel" ({ cls := "GluedHourModel", name := "errandOf", desc := "(II)I" } : Jvm.MethodName) ({ cls := "GluedHourModel", name := "errandOf", desc := "(II)I" } : Jvm.MethodName)) ∈ lw_gd := tb_0 (i := 68) rfl rfl
theorem wd_69 : (Jvm.Cond.selects "GluedHourModel" ({ cls := "GluedHourModel", name := "findBest", desc := "(I)J" } : Jvm.MethodName) ({ cls := "GluedHourModel", name := "findBest", desc := "(I)J" } : Jvm.MethodName)) ∈ lw_gd := tb_0 (i := 69) rfl rfl
theorem wd_70 : (Jvm.Cond.selects "GluedHourModel" ({ cls := "GluedHourModel", name := "bestFrom", desc := "(III)J" } : Jvm.MethodName) ({ cls := "GluedHourModel", name := "bestFrom", desc := "(III)J" } : Jvm.MethodName)) ∈ lw_gd := tb_0 (i := 70) rfl rfl
theorem wd_71 : (Jvm.Cond.selects "GluedHourModel" ({ cls := "GluedHourModel", name := "fromOf", desc := "(I)I" } : Jvm.MethodName) ({ cls := "GluedHourModel", name := "fromOf", desc := "(I)I" } : Jvm.MethodName)) ∈ lw_gd := tb_0 (i := 71) rfl rfl
theorem wd_72 : (Jvm.Cond.selects "GluedHourModel" ({ cls := "GluedHourModel", name := "toOf", desc := "(I)I" } : Jvm.MethodName) ({ cls := "GluedHourModel", name := "toOf", desc := "(I)I" } : Jvm.MethodName)) ∈ lw_gd := tb_0 (i := 72) rfl rfl
theorem wd_73 : (Jvm.Cond.selects "GluedHourModel" ({ cls := "GluedHourModel", name := "worthAt", desc := "(III)J" } : Jvm.MethodName) ({ cls := "GluedHourModel", name := "worthAt", desc := "(III)J" } : Jvm.MethodName)) ∈ lw_gd := tb_0 (i := 73) rfl rfl
theorem wd_74 : (Jvm.Cond.selects "GluedHourModel" ({ cls := "GluedHourModel", name := "choose", desc := "(I)V" } : Jvm.MethodName) ({ cls := "GluedHourModel", name := "choose", desc := "(I)V" } : Jvm.MethodName)) ∈ lw_gd := tb_0 (i := 74) rfl rfl
theorem wd_75 : (Jvm.Cond.selects "GluedHourModel" ({ cls := "GluedHourModel", name := "rued", desc := "()I" } : Jvm.MethodName) ({ cls := "GluedHourModel", name := "rued", desc := "()I" } : Jvm.MethodName)) ∈ lw_gd := tb_0 (i := 75) rfl rfl
theorem wd_76 : (Jvm.Cond.selects "GluedHourModel" ({ cls := "GluedHourModel", name := "chosenBy", desc := "(I)J" } : Jvm.MethodName) ({ cls := "GluedHourModel", name := "chosenBy", desc := "(I)J" } : Jvm.MethodName)) ∈ lw_gd := tb_0 (i := 76) rfl rfl
theorem wd_77 : (Jvm.Cond.selects "GluedHourModel" ({ cls := "GluedHourModel", name := "hasTable", desc := "(I)Z" } : Jvm.MethodName) ({ cls := "GluedHourModel", name := "hasTable", desc := "(I)Z" } : Jvm.MethodName)) ∈ lw_gd := tb_0 (i := 77) rfl rfl
theorem wd_78 : (Jvm.Cond.selects "GluedHourModel" ({ cls := "GluedHourModel", name := "trains", desc := "()I" } : Jvm.MethodName) ({ cls := "GluedHourModel", name := "trains", desc := "()I" } : Jvm.MethodName)) ∈ lw_gd := tb_0 (i := 78) rfl rfl
theorem wd_79 : (Jvm.Cond.selects "GluedHourModel" ({ cls := "GluedHourModel", name := "trainOf", desc := "(II)I" } : Jvm.MethodName) ({ cls := "GluedHourModel", name := "trainOf", desc := "(II)I" } : Jvm.MethodName)) ∈ lw_gd := tb_0 (i := 79) rfl rfl
theorem wd_80 : (Jvm.Cond.selects "GluedHourModel" ({ cls := "GluedHourModel", name := "slackBy", desc := "(I)I" } : Jvm.MethodName) ({ cls := "GluedHourModel", name := "slackBy", desc := "(I)I" } : Jvm.MethodName)) ∈ lw_gd := tb_0 (i := 80) rfl rfl
theorem wd_81 : (Jvm.Cond.selects "GluedHourModel" ({ cls := "GluedHourModel", name := "findEarliest", desc := "()V" } : Jvm.MethodName) ({ cls := "GluedHourModel", name := "findEarliest", desc := "()V" } : Jvm.MethodName)) ∈ lw_gd := tb_0 (i := 81) rfl rfl
theorem wd_82 : (Jvm.Cond.selects "GluedHourModel" ({ cls := "GluedHourModel", name := "canLeave", desc := "(III)Z" } : Jvm.MethodName) ({ cls := "GluedHourModel", name := "canLeave", desc := "(III)Z" } : Jvm.MethodName)) ∈ lw_gd := tb_0 (i := 82) rfl rfl
theorem wd_83 : (Jvm.Cond.selects "GluedHourModel" ({ cls := "GluedHourModel", name := "hasSights", desc := "(I)Z" } : Jvm.MethodName) ({ cls := "GluedHourModel", name := "hasSights", desc := "(I)Z" } : Jvm.MethodName)) ∈ lw_gd := tb_0 (i := 83) rfl rfl
theorem wd_84 : (Jvm.Cond.selects "GluedHourModel" ({ cls := "GluedHourModel", name := "sightOf", desc := "(II)I" } : Jvm.MethodName) ({ cls := "GluedHourModel", name := "sightOf", desc := "(II)I" } : Jvm.MethodName)) ∈ lw_gd := tb_0 (i := 84) rfl rfl
theorem wd_85 : (Jvm.Cond.selects "GluedHourModel" ({ cls := "GluedHourModel", name := "findFits", desc := "()V" } : Jvm.MethodName) ({ cls := "GluedHourModel", name := "findFits", desc := "()V" } : Jvm.MethodName)) ∈ lw_gd := tb_0 (i := 85) rfl rfl
theorem wd_86 : (Jvm.Cond.selects "GluedHourModel" ({ cls := "GluedHourModel", name := "isRow", desc := "(I)Z" } : Jvm.MethodName) ({ cls := "GluedHourModel", name := "isRow", desc := "(I)Z" } : Jvm.MethodName)) ∈ lw_gd := tb_0 (i := 86) rfl rfl
theorem wd_87 : (Jvm.Cond.selects "GluedHourModel" ({ cls := "GluedHourModel", name := "isAsSeen", desc := "(I)Z" } : Jvm.MethodName) ({ cls := "GluedHourModel", name := "isAsSeen", desc := "(I)Z" } : Jvm.MethodName)) ∈ lw_gd := tb_0 (i := 87) rfl rfl
theorem wd_88 : (Jvm.Cond.selects "GluedHourModel" ({ cls := "GluedHourModel", name := "onlyOne", desc := "(I)I" } : Jvm.MethodName) ({ cls := "GluedHourModel", name := "onlyOne", desc := "(I)I" } : Jvm.MethodName)) ∈ lw_gd := tb_0 (i := 88) rfl rfl
theorem wd_89 : (Jvm.Cond.selects "GluedHourModel" ({ cls := "GluedHourModel", name := "reignDays", desc := "(I)I" } : Jvm.MethodName) ({ cls := "GluedHourModel", name := "reignDays", desc := "(I)I" } : Jvm.MethodName)) ∈ lw_gd := tb_0 (i := 89) rfl rfl
theorem wd_90 : (Jvm.Cond.selects "GluedHourModel" ({ cls := "GluedHourModel", name := "expect", desc := "(IIZ)V" } : Jvm.MethodName) ({ cls := "GluedHourModel", name := "expect", desc := "(IIZ)V" } : Jvm.MethodName)) ∈ lw_gd := tb_0 (i := 90) rfl rfl
theorem wd_91 : (Jvm.Cond.selects "GluedHourModel" ({ cls := "GluedHourModel", name := "begin", desc := "()V" } : Jvm.MethodName) ({ cls := "GluedHourModel", name := "begin", desc := "()V" } : Jvm.MethodName)) ∈ lw_gd := tb_0 (i := 91) rfl rfl
theorem wd_92 : (Jvm.Cond.selects "GluedHourModel" ({ cls := "GluedHourModel", name := "plus", desc := "(JJ)V" } : Jvm.MethodName) ({ cls := "GluedHourModel", name := "plus", desc := "(JJ)V" } : Jvm.MethodName)) ∈ lw_gd := tb_0 (i := 92) rfl rfl
theorem wd_93 : (Jvm.Cond.selects "GluedHourModel" ({ cls := "GluedHourModel", name := "allMeans", desc := "()J" } : Jvm.MethodName) ({ cls := "GluedHourModel", name := "allMeans", desc := "()J" } : Jvm.MethodName)) ∈ lw_gd := tb_0 (i := 93) rfl rfl
theorem wd_94 : (Jvm.Cond.selects "GluedHourModel" ({ cls := "GluedHourModel", name := "copyAll", desc := "(II)V" } : Jvm.MethodName) ({ cls := "GluedHourModel", name := "copyAll", desc := "(II)V" } : Jvm.MethodName)) ∈ lw_gd := tb_0 (i := 94) rfl rfl
theorem wd_96 : (Jvm.Cond.initialized "GluedHour") ∈ lw_gd := tb_1 (i := 1) rfl rfl
theorem wd_97 : (Jvm.Cond.initialized "GluedHour$Told") ∈ lw_gd := tb_1 (i := 2) rfl rfl
theorem wd_98 : (Jvm.Cond.initialized "GluedHour$Republic") ∈ lw_gd := tb_1 (i := 3) rfl rfl
theorem wd_99 : (Jvm.Cond.initialized "GluedHour$Lines") ∈ lw_gd := tb_1 (i := 4) rfl rfl
theorem wd_100 : (Jvm.Cond.initialized "GluedHour$Reader") ∈ lw_gd := tb_1 (i := 5) rfl rfl
theorem wd_101 : (Jvm.Cond.initialized "GluedHour$Course") ∈ lw_gd := tb_1 (i := 6) rfl rfl
theorem wd_102 : (Jvm.Cond.initialized "GluedHour$Odds") ∈ lw_gd := tb_1 (i := 7) rfl rfl
theorem wd_103 : (Jvm.Cond.initialized "GluedHour$Planner") ∈ lw_gd := tb_1 (i := 8) rfl rfl
theorem wd_104 : (Jvm.Cond.initialized "GluedHour$Search") ∈ lw_gd := tb_1 (i := 9) rfl rfl
theorem wd_105 : (Jvm.Cond.initialized "GluedHour$Fraction") ∈ lw_gd := tb_1 (i := 10) rfl rfl
theorem wd_106 : (Jvm.Cond.initialized "GluedHourModel") ∈ lw_gd := tb_1 (i := 11) rfl rfl
theorem wd_107 : (Jvm.Cond.initialized "java/lang/Math") ∈ lw_gd := tb_1 (i := 12) rfl rfl
theorem wd_108 : (Jvm.Cond.initialized "java/lang/String") ∈ lw_gd := tb_1 (i := 13) rfl rfl
theorem wd_109 : (Jvm.Cond.initialized "java/lang/StringLatin1") ∈ lw_gd := tb_1 (i := 14) rfl rfl
theorem wd_111 : (Jvm.Cond.initialized "java/lang/StringUTF16") ∈ lw_gd := tb_1 (i := 16) rfl rfl
theorem wd_112 : (Jvm.Cond.initialized "java/lang/System") ∈ lw_gd := tb_1 (i := 17) rfl rfl
theorem wd_113 : (Jvm.Cond.classLink "GluedHourLaw" (7 : Nat) "GluedHour") ∈ lw_gd := tb_1 (i := 18) rfl rfl
theorem wd_114 : (Jvm.Cond.instantiable "GluedHour" (9 : Nat)) ∈ lw_gd := tb_1 (i := 19) rfl rfl
theorem wd_115 : (Jvm.Cond.methodLink "GluedHourLaw" (9 : Nat) ({ cls := "GluedHour", name := "<init>", desc := "()V" } : Jvm.MethodName)) ∈ lw_gd := tb_1 (i := 20) rfl rfl
theorem wd_116 : (Jvm.Cond.instanceMethod ({ cls := "GluedHour", name := "<init>", desc := "()V" } : Jvm.MethodName)) ∈ lw_gd := tb_1 (i := 21) rfl rfl
theorem wd_117 : (Jvm.Cond.code ({ cls := "GluedHour", name := "<init>", desc := "()V" } : Jvm.MethodName) prog_1_method_1_code (1 : Nat) (Option.none : Option Jvm.ClassFile.FieldType)) ∈ lw_gd := tb_1 (i := 22) rfl rfl
theorem wd_118 : (Jvm.Cond.methodLink "GluedHour" (1 : Nat) ({ cls := "java/lang/Object", name := "<init>", desc := "()V" } : Jvm.MethodName)) ∈ lw_gd := tb_1 (i := 23) rfl rfl
theorem wd_119 : (Jvm.Cond.instanceMethod ({ cls := "java/lang/Object", name := "<init>", desc := "()V" } : Jvm.MethodName)) ∈ lw_gd := tb_1 (i := 24) rfl rfl
theorem wd_120 : (Jvm.Cond.code ({ cls := "java/lang/Object", name := "<init>", desc := "()V" } : Jvm.MethodName) object_method_1_code (1 : Nat) (Option.none : Option Jvm.ClassFile.FieldType)) ∈ lw_gd := tb_1 (i := 25) rfl rfl
theorem wd_121 : (Jvm.Cond.classLink "GluedHour" (7 : Nat) "GluedHour$Told") ∈ lw_gd := tb_1 (i := 26) rfl rfl
theorem wd_122 : (Jvm.Cond.instantiable "GluedHour$Told" (7 : Nat)) ∈ lw_gd := tb_1 (i := 27) rfl rfl
theorem wd_123 : (Jvm.Cond.methodLink "GluedHour" (9 : Nat) ({ cls := "GluedHour$Told", name := "<init>", desc := "()V" } : Jvm.MethodName)) ∈ lw_gd := tb_1 (i := 28) rfl rfl
theorem wd_124 : (Jvm.Cond.instanceMethod ({ cls := "GluedHour$Told", name := "<init>", desc := "()V" } : Jvm.MethodName)) ∈ lw_gd := tb_1 (i := 29) rfl rfl
theorem wd_125 : (Jvm.Cond.code ({ cls := "GluedHour$Told", name := "<init>", desc := "()V" } : Jvm.MethodName) prog_10_method_1_code (3 : Nat) (Option.none : Option Jvm.ClassFile.FieldType)) ∈ lw_gd := tb_1 (i := 30) rfl rfl
theorem wd_126 : (Jvm.Cond.methodLink "GluedHour$Told" (3 : Nat) ({ cls := "java/lang/Object", name := "<init>", desc := "()V" } : Jvm.MethodName)) ∈ lw_gd := tb_1 (i := 31) rfl rfl
theorem wd_127 : (Jvm.Cond.classLink "GluedHour$Told" (19 : Nat) "GluedHour$Republic") ∈ lw_gd := tb_1 (i := 32) rfl rfl
theorem wd_129 : (Jvm.Cond.classLink "GluedHour$Told" (25 : Nat) "GluedHour$Lines") ∈ lw_gd := tb_1 (i := 34) rfl rfl
theorem wd_131 : (Jvm.Cond.instantiable "GluedHour$Republic" (7 : Nat)) ∈ lw_gd := tb_1 (i := 36) rfl rfl
theorem wd_132 : (Jvm.Cond.methodLink "GluedHour$Told" (41 : Nat) ({ cls := "GluedHour$Republic", name := "<init>", desc := "()V" } : Jvm.MethodName)) ∈ lw_gd := tb_1 (i := 37) rfl rfl
theorem wd_133 : (Jvm.Cond.instanceMethod ({ cls := "GluedHour$Republic", name := "<init>", desc := "()V" } : Jvm.MethodName)) ∈ lw_gd := tb_1 (i := 38) rfl rfl
theorem wd_134 : (Jvm.Cond.code ({ cls := "GluedHour$Republic", name := "<init>", desc := "()V" } : Jvm.MethodName) prog_8_method_1_code (1 : Nat) (Option.none : Option Jvm.ClassFile.FieldType)) ∈ lw_gd := tb_1 (i := 39) rfl rfl
theorem wd_135 : (Jvm.Cond.methodLink "GluedHour$Republic" (3 : Nat) ({ cls := "java/lang/Object", name := "<init>", desc := "()V" } : Jvm.MethodName)) ∈ lw_gd := tb_1 (i := 40) rfl rfl
theorem wd_136 : (Jvm.Cond.methodLink "GluedHour$Republic" (27 : Nat) ({ cls := "GluedHour$Republic", name := "clear", desc := "()V" } : Jvm.MethodName)) ∈ lw_gd := tb_1 (i := 41) rfl rfl
theorem wd_137 : (Jvm.Cond.instanceMethod ({ cls := "GluedHour$Republic", name := "clear", desc := "()V" } : Jvm.MethodName)) ∈ lw_gd := tb_1 (i := 42) rfl rfl
theorem wd_138 : (Jvm.Cond.selects "GluedHour$Republic" ({ cls := "GluedHour$Republic", name := "clear", desc := "()V" } : Jvm.MethodName) ({ cls := "GluedHour$Republic", name := "clear", desc := "()V" } : Jvm.MethodName)) ∈ lw_gd := tb_1 (i := 43) rfl rfl
theorem wd_139 : (Jvm.Cond.code ({ cls := "GluedHour$Republic", name := "clear", desc := "()V" } : Jvm.MethodName) prog_8_method_2_code (2 : Nat) (Option.none : Option Jvm.ClassFile.FieldType)) ∈ lw_gd := tb_1 (i := 44) rfl rfl
theorem wd_140 : (Jvm.Cond.fieldLink "GluedHour$Republic" (9 : Nat) "GluedHour$Republic" "worths" "[I") ∈ lw_gd := tb_1 (i := 45) rfl rfl
theorem wd_141 : (Jvm.Cond.fieldLink "GluedHour$Reader" (147 : Nat) "GluedHour$Republic" "worths" "[I") ∈ lw_gd := tb_1 (i := 46) rfl rfl
theorem wd_142 : (Jvm.Cond.fieldLink "GluedHour$Republic" (15 : Nat) "GluedHour$Republic" "modes" "[I") ∈ lw_gd := tb_1 (i := 47) rfl rfl
theorem wd_143 : (Jvm.Cond.fieldLink "GluedHour$Reader" (150 : Nat) "GluedHour$Republic" "modes" "[I") ∈ lw_gd := tb_1 (i := 48) rfl rfl
theorem wd_144 : (Jvm.Cond.fieldLink "GluedHour$Republic" (18 : Nat) "GluedHour$Republic" "purses" "[I") ∈ lw_gd := tb_1 (i := 49) rfl rfl
theorem wd_145 : (Jvm.Cond.fieldLink "GluedHour$Course" (29 : Nat) "GluedHour$Republic" "purses" "[I") ∈ lw_gd := tb_1 (i := 50) rfl rfl
theorem wd_146 : (Jvm.Cond.fieldLink "GluedHour" (129 : Nat) "GluedHour$Republic" "purses" "[I") ∈ lw_gd := tb_1 (i := 51) rfl rfl
theorem wd_147 : (Jvm.Cond.fieldLink "GluedHour$Reader" (153 : Nat) "GluedHour$Republic" "purses" "[I") ∈ lw_gd := tb_1 (i := 52) rfl rfl
theorem wd_148 : (Jvm.Cond.fieldLink "GluedHour$Republic" (21 : Nat) "GluedHour$Republic" "deeds" "[I") ∈ lw_gd := tb_1 (i := 53) rfl rfl
theorem wd_149 : (Jvm.Cond.fieldLink "GluedHour$Reader" (156 : Nat) "GluedHour$Republic" "deeds" "[I") ∈ lw_gd := tb_1 (i := 54) rfl rfl
theorem wd_150 : (Jvm.Cond.fieldLink "GluedHour$Republic" (24 : Nat) "GluedHour$Republic" "lots" "[I") ∈ lw_gd := tb_1 (i := 55) rfl rfl
theorem wd_151 : (Jvm.Cond.fieldLink "GluedHour$Reader" (159 : Nat) "GluedHour$Republic" "lots" "[I") ∈ lw_gd := tb_1 (i := 56) rfl rfl
theorem wd_152 : (Jvm.Cond.fieldLink "GluedHour$Odds" (22 : Nat) "GluedHour$Republic" "hours" "I") ∈ lw_gd := tb_1 (i := 57) rfl rfl
theorem wd_153 : (Jvm.Cond.fieldLink "GluedHour$Republic" (30 : Nat) "GluedHour$Republic" "hours" "I") ∈ lw_gd := tb_1 (i := 58) rfl rfl
theorem wd_154 : (Jvm.Cond.fieldLink "GluedHour$Course" (28 : Nat) "GluedHour$Republic" "hours" "I") ∈ lw_gd := tb_1 (i := 59) rfl rfl
theorem wd_155 : (Jvm.Cond.fieldLink "GluedHour$Reader" (77 : Nat) "GluedHour$Republic" "hours" "I") ∈ lw_gd := tb_1 (i := 60) rfl rfl
theorem wd_156 : (Jvm.Cond.fieldLink "GluedHour$Planner" (56 : Nat) "GluedHour$Republic" "hours" "I") ∈ lw_gd := tb_1 (i := 61) rfl rfl
theorem wd_157 : (Jvm.Cond.fieldLink "GluedHour$Search" (66 : Nat) "GluedHour$Republic" "hours" "I") ∈ lw_gd := tb_1 (i := 62) rfl rfl
theorem wd_158 : (Jvm.Cond.fieldLink "GluedHour" (112 : Nat) "GluedHour$Republic" "hours" "I") ∈ lw_gd := tb_1 (i := 63) rfl rfl
theorem wd_159 : (Jvm.Cond.fieldLink "GluedHour$Course" (25 : Nat) "GluedHour$Republic" "people" "I") ∈ lw_gd := tb_1 (i := 64) rfl rfl
theorem wd_160 : (Jvm.Cond.fieldLink "GluedHour$Republic" (34 : Nat) "GluedHour$Republic" "people" "I") ∈ lw_gd := tb_1 (i := 65) rfl rfl
theorem wd_161 : (Jvm.Cond.fieldLink "GluedHour$Reader" (80 : Nat) "GluedHour$Republic" "people" "I") ∈ lw_gd := tb_1 (i := 66) rfl rfl
theorem wd_162 : (Jvm.Cond.fieldLink "GluedHour" (115 : Nat) "GluedHour$Republic" "people" "I") ∈ lw_gd := tb_1 (i := 67) rfl rfl
theorem wd_178 : (Jvm.Cond.arrayClass Jvm.ClassFile.FieldType.byte) ∈ lw_gd := tb_1 (i := 83) rfl rfl
theorem wd_179 : (Jvm.Cond.arrayClass Jvm.ClassFile.FieldType.int) ∈ lw_gd := tb_1 (i := 84) rfl rfl
theorem wd_180 : (Jvm.Cond.instantiable "GluedHour$Lines" (4 : Nat)) ∈ lw_gd := tb_1 (i := 85) rfl rfl
theorem wd_181 : (Jvm.Cond.methodLink "GluedHour$Told" (42 : Nat) ({ cls := "GluedHour$Lines", name := "<init>", desc := "(I)V" } : Jvm.MethodName)) ∈ lw_gd := tb_1 (i := 86) rfl rfl
theorem wd_182 : (Jvm.Cond.instanceMethod ({ cls := "GluedHour$Lines", name := "<init>", desc := "(I)V" } : Jvm.MethodName)) ∈ lw_gd := tb_1 (i := 87) rfl rfl
theorem wd_183 : (Jvm.Cond.code ({ cls := "GluedHour$Lines", name := "<init>", desc := "(I)V" } : Jvm.MethodName) prog_4_method_1_code (3 : Nat) (Option.none : Option Jvm.ClassFile.FieldType)) ∈ lw_gd := tb_1 (i := 88) rfl rfl
theorem wd_184 : (Jvm.Cond.methodLink "GluedHour$Lines" (3 : Nat) ({ cls := "java/lang/Object", name := "<init>", desc := "()V" } : Jvm.MethodName)) ∈ lw_gd := tb_1 (i := 89) rfl rfl
theorem wd_189 : (Jvm.Cond.fieldLink "GluedHour$Lines" (19 : Nat) "GluedHour$Lines" "most" "I") ∈ lw_gd := tb_1 (i := 94) rfl rfl
theorem wd_190 : (Jvm.Cond.fieldLink "GluedHour$Lines" (25 : Nat) "GluedHour$Lines" "width" "I") ∈ lw_gd := tb_1 (i := 95) rfl rfl
theorem wd_191 : (Jvm.Cond.fieldLink "GluedHour$Told" (56 : Nat) "GluedHour$Lines" "width" "I") ∈ lw_gd := tb_1 (i := 96) rfl rfl
theorem wd_192 : (Jvm.Cond.fieldLink "GluedHour$Lines" (28 : Nat) "GluedHour$Lines" "cells" "[I") ∈ lw_gd := tb_1 (i := 97) rfl rfl
theorem wd_193 : (Jvm.Cond.fieldLink "GluedHour$Lines" (9 : Nat) "GluedHour$Lines" "size" "I") ∈ lw_gd := tb_1 (i := 98) rfl rfl
theorem wd_194 : (Jvm.Cond.fieldLink "GluedHour$Search" (32 : Nat) "GluedHour$Lines" "size" "I") ∈ lw_gd := tb_1 (i := 99) rfl rfl
theorem wd_195 : (Jvm.Cond.fieldLink "GluedHour$Reader" (102 : Nat) "GluedHour$Lines" "size" "I") ∈ lw_gd := tb_1 (i := 100) rfl rfl
theorem wd_196 : (Jvm.Cond.fieldLink "GluedHour$Planner" (72 : Nat) "GluedHour$Lines" "size" "I") ∈ lw_gd := tb_1 (i := 101) rfl rfl
theorem wd_197 : (Jvm.Cond.fieldLink "GluedHour$Told" (49 : Nat) "GluedHour$Lines" "size" "I") ∈ lw_gd := tb_1 (i := 102) rfl rfl
theorem wd_198 : (Jvm.Cond.fieldLink "GluedHour" (163 : Nat) "GluedHour$Lines" "size" "I") ∈ lw_gd := tb_1 (i := 103) rfl rfl
theorem wd_208 : (Jvm.Cond.fieldLink "GluedHour$Told" (9 : Nat) "GluedHour$Told" "tape" "[B") ∈ lw_gd := tb_1 (i := 113) rfl rfl
theorem wd_209 : (Jvm.Cond.fieldLink "GluedHour" (22 : Nat) "GluedHour$Told" "tape" "[B") ∈ lw_gd := tb_1 (i := 114) rfl rfl
theorem wd_210 : (Jvm.Cond.fieldLink "GluedHour$Told" (15 : Nat) "GluedHour$Told" "sizes" "[I") ∈ lw_gd := tb_1 (i := 115) rfl rfl
theorem wd_211 : (Jvm.Cond.fieldLink "GluedHour" (85 : Nat) "GluedHour$Told" "sizes" "[I") ∈ lw_gd := tb_1 (i := 116) rfl rfl
theorem wd_212 : (Jvm.Cond.fieldLink "GluedHour$Told" (21 : Nat) "GluedHour$Told" "republics" "[LGluedHour$Republic;") ∈ lw_gd := tb_1 (i := 117) rfl rfl
theorem wd_213 : (Jvm.Cond.fieldLink "GluedHour$Told" (27 : Nat) "GluedHour$Told" "lines" "[LGluedHour$Lines;") ∈ lw_gd := tb_1 (i := 118) rfl rfl
theorem wd_214 : (Jvm.Cond.fieldLink "GluedHour$Told" (31 : Nat) "GluedHour$Told" "length" "I") ∈ lw_gd := tb_1 (i := 119) rfl rfl
theorem wd_215 : (Jvm.Cond.fieldLink "GluedHour" (71 : Nat) "GluedHour$Told" "length" "I") ∈ lw_gd := tb_1 (i := 120) rfl rfl
theorem wd_216 : (Jvm.Cond.fieldLink "GluedHour$Told" (35 : Nat) "GluedHour$Told" "fault" "I") ∈ lw_gd := tb_1 (i := 121) rfl rfl
theorem wd_217 : (Jvm.Cond.fieldLink "GluedHour" (79 : Nat) "GluedHour$Told" "fault" "I") ∈ lw_gd := tb_1 (i := 122) rfl rfl
theorem wd_218 : (Jvm.Cond.fieldLink "GluedHour$Told" (38 : Nat) "GluedHour$Told" "place" "I") ∈ lw_gd := tb_1 (i := 123) rfl rfl
theorem wd_219 : (Jvm.Cond.fieldLink "GluedHour" (82 : Nat) "GluedHour$Told" "place" "I") ∈ lw_gd := tb_1 (i := 124) rfl rfl
theorem wd_236 : (Jvm.Cond.classLink "GluedHour" (20 : Nat) "GluedHour$Reader") ∈ lw_gd := tb_1 (i := 141) rfl rfl
theorem wd_237 : (Jvm.Cond.instantiable "GluedHour$Reader" (14 : Nat)) ∈ lw_gd := tb_1 (i := 142) rfl rfl
theorem wd_238 : (Jvm.Cond.methodLink "GluedHour" (26 : Nat) ({ cls := "GluedHour$Reader", name := "<init>", desc := "([B)V" } : Jvm.MethodName)) ∈ lw_gd := tb_1 (i := 143) rfl rfl
theorem wd_239 : (Jvm.Cond.instanceMethod ({ cls := "GluedHour$Reader", name := "<init>", desc := "([B)V" } : Jvm.MethodName)) ∈ lw_gd := tb_1 (i := 144) rfl rfl
theorem wd_240 : (Jvm.Cond.code ({ cls := "GluedHour$Reader", name := "<init>", desc := "([B)V" } : Jvm.MethodName) prog_7_method_1_code (3 : Nat) (Option.none : Option Jvm.ClassFile.FieldType)) ∈ lw_gd := tb_1 (i := 145) rfl rfl
theorem wd_241 : (Jvm.Cond.methodLink "GluedHour$Reader" (3 : Nat) ({ cls := "java/lang/Object", name := "<init>", desc := "()V" } : Jvm.MethodName)) ∈ lw_gd := tb_1 (i := 146) rfl rfl
theorem wd_242 : (Jvm.Cond.classLink "GluedHour$Reader" (9 : Nat) "GluedHour$Republic") ∈ lw_gd := tb_1 (i := 147) rfl rfl
theorem wd_243 : (Jvm.Cond.methodLink "GluedHour$Reader" (11 : Nat) ({ cls := "GluedHour$Republic", name := "<init>", desc := "()V" } : Jvm.MethodName)) ∈ lw_gd := tb_1 (i := 148) rfl rfl
theorem wd_244 : (Jvm.Cond.classLink "GluedHour$Reader" (18 : Nat) "GluedHour$Lines") ∈ lw_gd := tb_1 (i := 149) rfl rfl
theorem wd_245 : (Jvm.Cond.methodLink "GluedHour$Reader" (63 : Nat) ({ cls := "GluedHour$Lines", name := "<init>", desc := "(I)V" } : Jvm.MethodName)) ∈ lw_gd := tb_1 (i := 150) rfl rfl
theorem wd_246 : (Jvm.Cond.fieldLink "GluedHour$Reader" (59 : Nat) "GluedHour$Reader" "tape" "[B") ∈ lw_gd := tb_1 (i := 151) rfl rfl
theorem wd_247 : (Jvm.Cond.fieldLink "GluedHour$Reader" (12 : Nat) "GluedHour$Reader" "republic" "LGluedHour$Republic;") ∈ lw_gd := tb_1 (i := 152) rfl rfl
theorem wd_248 : (Jvm.Cond.fieldLink "GluedHour$Told" (68 : Nat) "GluedHour$Reader" "republic" "LGluedHour$Republic;") ∈ lw_gd := tb_1 (i := 153) rfl rfl
theorem wd_249 : (Jvm.Cond.fieldLink "GluedHour$Reader" (20 : Nat) "GluedHour$Reader" "drafts" "[LGluedHour$Lines;") ∈ lw_gd := tb_1 (i := 154) rfl rfl
theorem wd_250 : (Jvm.Cond.fieldLink "GluedHour$Told" (78 : Nat) "GluedHour$Reader" "drafts" "[LGluedHour$Lines;") ∈ lw_gd := tb_1 (i := 155) rfl rfl
theorem wd_251 : (Jvm.Cond.fieldLink "GluedHour$Reader" (24 : Nat) "GluedHour$Reader" "numbers" "[I") ∈ lw_gd := tb_1 (i := 156) rfl rfl
theorem wd_252 : (Jvm.Cond.fieldLink "GluedHour$Reader" (28 : Nat) "GluedHour$Reader" "fault" "I") ∈ lw_gd := tb_1 (i := 157) rfl rfl
theorem wd_253 : (Jvm.Cond.fieldLink "GluedHour" (93 : Nat) "GluedHour$Reader" "fault" "I") ∈ lw_gd := tb_1 (i := 158) rfl rfl
theorem wd_254 : (Jvm.Cond.fieldLink "GluedHour$Reader" (32 : Nat) "GluedHour$Reader" "place" "I") ∈ lw_gd := tb_1 (i := 159) rfl rfl
theorem wd_255 : (Jvm.Cond.fieldLink "GluedHour" (94 : Nat) "GluedHour$Reader" "place" "I") ∈ lw_gd := tb_1 (i := 160) rfl rfl
theorem wd_256 : (Jvm.Cond.fieldLink "GluedHour$Reader" (35 : Nat) "GluedHour$Reader" "token" "I") ∈ lw_gd := tb_1 (i := 161) rfl rfl
theorem wd_257 : (Jvm.Cond.fieldLink "GluedHour$Reader" (38 : Nat) "GluedHour$Reader" "start" "I") ∈ lw_gd := tb_1 (i := 162) rfl rfl
theorem wd_258 : (Jvm.Cond.fieldLink "GluedHour$Reader" (41 : Nat) "GluedHour$Reader" "at" "I") ∈ lw_gd := tb_1 (i := 163) rfl rfl
theorem wd_259 : (Jvm.Cond.fieldLink "GluedHour$Reader" (44 : Nat) "GluedHour$Reader" "number" "I") ∈ lw_gd := tb_1 (i := 164) rfl rfl
theorem wd_260 : (Jvm.Cond.fieldLink "GluedHour$Reader" (47 : Nat) "GluedHour$Reader" "mode" "I") ∈ lw_gd := tb_1 (i := 165) rfl rfl
theorem wd_261 : (Jvm.Cond.fieldLink "GluedHour$Reader" (50 : Nat) "GluedHour$Reader" "length" "I") ∈ lw_gd := tb_1 (i := 166) rfl rfl
theorem wd_262 : (Jvm.Cond.fieldLink "GluedHour$Reader" (53 : Nat) "GluedHour$Reader" "lastHourTold" "I") ∈ lw_gd := tb_1 (i := 167) rfl rfl
theorem wd_263 : (Jvm.Cond.fieldLink "GluedHour$Reader" (56 : Nat) "GluedHour$Reader" "lastPersonTold" "I") ∈ lw_gd := tb_1 (i := 168) rfl rfl
theorem wd_293 : (Jvm.Cond.classLink "GluedHour" (33 : Nat) "GluedHour$Course") ∈ lw_gd := tb_1 (i := 198) rfl rfl
theorem wd_294 : (Jvm.Cond.instantiable "GluedHour$Course" (4 : Nat)) ∈ lw_gd := tb_1 (i := 199) rfl rfl
theorem wd_296 : (Jvm.Cond.instanceMethod ({ cls := "GluedHour$Course", name := "<init>", desc := "()V" } : Jvm.MethodName)) ∈ lw_gd := tb_1 (i := 201) rfl rfl
theorem wd_297 : (Jvm.Cond.code ({ cls := "GluedHour$Course", name := "<init>", desc := "()V" } : Jvm.MethodName) prog_2_method_1_code (1 : Nat) (Option.none : Option Jvm.ClassFile.FieldType)) ∈ lw_gd := tb_1 (i := 202) rfl rfl
theorem wd_298 : (Jvm.Cond.methodLink "GluedHour$Course" (3 : Nat) ({ cls := "java/lang/Object", name := "<init>", desc := "()V" } : Jvm.MethodName)) ∈ lw_gd := tb_1 (i := 203) rfl rfl
theorem wd_299 : (Jvm.Cond.fieldLink "GluedHour$Course" (9 : Nat) "GluedHour$Course" "have" "[I") ∈ lw_gd := tb_1 (i := 204) rfl rfl
theorem wd_300 : (Jvm.Cond.fieldLink "GluedHour$Search" (89 : Nat) "GluedHour$Course" "have" "[I") ∈ lw_gd := tb_1 (i := 205) rfl rfl
theorem wd_301 : (Jvm.Cond.fieldLink "GluedHour" (181 : Nat) "GluedHour$Course" "have" "[I") ∈ lw_gd := tb_1 (i := 206) rfl rfl
theorem wd_302 : (Jvm.Cond.fieldLink "GluedHour$Course" (15 : Nat) "GluedHour$Course" "values" "[I") ∈ lw_gd := tb_1 (i := 207) rfl rfl
theorem wd_303 : (Jvm.Cond.fieldLink "GluedHour$Course" (18 : Nat) "GluedHour$Course" "people" "I") ∈ lw_gd := tb_1 (i := 208) rfl rfl
theorem wd_304 : (Jvm.Cond.fieldLink "GluedHour$Course" (22 : Nat) "GluedHour$Course" "hours" "I") ∈ lw_gd := tb_1 (i := 209) rfl rfl
theorem wd_314 : (Jvm.Cond.classLink "GluedHour" (40 : Nat) "GluedHour$Odds") ∈ lw_gd := tb_1 (i := 219) rfl rfl
theorem wd_315 : (Jvm.Cond.instantiable "GluedHour$Odds" (3 : Nat)) ∈ lw_gd := tb_1 (i := 220) rfl rfl
theorem wd_317 : (Jvm.Cond.instanceMethod ({ cls := "GluedHour$Odds", name := "<init>", desc := "()V" } : Jvm.MethodName)) ∈ lw_gd := tb_1 (i := 222) rfl rfl
theorem wd_318 : (Jvm.Cond.code ({ cls := "GluedHour$Odds", name := "<init>", desc := "()V" } : Jvm.MethodName) prog_5_method_1_code (1 : Nat) (Option.none : Option Jvm.ClassFile.FieldType)) ∈ lw_gd := tb_1 (i := 223) rfl rfl
theorem wd_319 : (Jvm.Cond.methodLink "GluedHour$Odds" (3 : Nat) ({ cls := "java/lang/Object", name := "<init>", desc := "()V" } : Jvm.MethodName)) ∈ lw_gd := tb_1 (i := 224) rfl rfl
theorem wd_320 : (Jvm.Cond.fieldLink "GluedHour$Odds" (9 : Nat) "GluedHour$Odds" "weights" "[I") ∈ lw_gd := tb_1 (i := 225) rfl rfl
theorem wd_321 : (Jvm.Cond.fieldLink "GluedHour$Planner" (65 : Nat) "GluedHour$Odds" "weights" "[I") ∈ lw_gd := tb_1 (i := 226) rfl rfl
theorem wd_322 : (Jvm.Cond.fieldLink "GluedHour$Search" (71 : Nat) "GluedHour$Odds" "weights" "[I") ∈ lw_gd := tb_1 (i := 227) rfl rfl
theorem wd_323 : (Jvm.Cond.fieldLink "GluedHour$Course" (46 : Nat) "GluedHour$Odds" "weights" "[I") ∈ lw_gd := tb_1 (i := 228) rfl rfl
theorem wd_324 : (Jvm.Cond.fieldLink "GluedHour" (149 : Nat) "GluedHour$Odds" "weights" "[I") ∈ lw_gd := tb_1 (i := 229) rfl rfl
theorem wd_325 : (Jvm.Cond.fieldLink "GluedHour$Odds" (15 : Nat) "GluedHour$Odds" "hours" "I") ∈ lw_gd := tb_1 (i := 230) rfl rfl
theorem wd_326 : (Jvm.Cond.fieldLink "GluedHour$Odds" (19 : Nat) "GluedHour$Odds" "total" "I") ∈ lw_gd := tb_1 (i := 231) rfl rfl
theorem wd_327 : (Jvm.Cond.fieldLink "GluedHour$Planner" (107 : Nat) "GluedHour$Odds" "total" "I") ∈ lw_gd := tb_1 (i := 232) rfl rfl
theorem wd_328 : (Jvm.Cond.fieldLink "GluedHour" (152 : Nat) "GluedHour$Odds" "total" "I") ∈ lw_gd := tb_1 (i := 233) rfl rfl
theorem wd_336 : (Jvm.Cond.classLink "GluedHour" (50 : Nat) "GluedHour$Planner") ∈ lw_gd := tb_2 (i := 1) rfl rfl
theorem wd_337 : (Jvm.Cond.instantiable "GluedHour$Planner" (9 : Nat)) ∈ lw_gd := tb_2 (i := 2) rfl rfl
theorem wd_339 : (Jvm.Cond.instanceMethod ({ cls := "GluedHour$Planner", name := "<init>", desc := "()V" } : Jvm.MethodName)) ∈ lw_gd := tb_2 (i := 4) rfl rfl
theorem wd_340 : (Jvm.Cond.code ({ cls := "GluedHour$Planner", name := "<init>", desc := "()V" } : Jvm.MethodName) prog_6_method_1_code (1 : Nat) (Option.none : Option Jvm.ClassFile.FieldType)) ∈ lw_gd := tb_2 (i := 5) rfl rfl
theorem wd_341 : (Jvm.Cond.methodLink "GluedHour$Planner" (3 : Nat) ({ cls := "java/lang/Object", name := "<init>", desc := "()V" } : Jvm.MethodName)) ∈ lw_gd := tb_2 (i := 6) rfl rfl
theorem wd_342 : (Jvm.Cond.classLink "GluedHour$Planner" (39 : Nat) "GluedHour$Odds") ∈ lw_gd := tb_2 (i := 7) rfl rfl
theorem wd_344 : (Jvm.Cond.fieldLink "GluedHour$Planner" (9 : Nat) "GluedHour$Planner" "blind" "[I") ∈ lw_gd := tb_2 (i := 9) rfl rfl
theorem wd_345 : (Jvm.Cond.fieldLink "GluedHour" (228 : Nat) "GluedHour$Planner" "blind" "[I") ∈ lw_gd := tb_2 (i := 10) rfl rfl
theorem wd_346 : (Jvm.Cond.fieldLink "GluedHour$Planner" (15 : Nat) "GluedHour$Planner" "blindWorth" "J") ∈ lw_gd := tb_2 (i := 11) rfl rfl
theorem wd_347 : (Jvm.Cond.fieldLink "GluedHour" (231 : Nat) "GluedHour$Planner" "blindWorth" "J") ∈ lw_gd := tb_2 (i := 12) rfl rfl
theorem wd_348 : (Jvm.Cond.fieldLink "GluedHour$Planner" (19 : Nat) "GluedHour$Planner" "knowingWorth" "J") ∈ lw_gd := tb_2 (i := 13) rfl rfl
theorem wd_349 : (Jvm.Cond.fieldLink "GluedHour" (239 : Nat) "GluedHour$Planner" "knowingWorth" "J") ∈ lw_gd := tb_2 (i := 14) rfl rfl
theorem wd_350 : (Jvm.Cond.fieldLink "GluedHour$Planner" (22 : Nat) "GluedHour$Planner" "regret" "I") ∈ lw_gd := tb_2 (i := 15) rfl rfl
theorem wd_351 : (Jvm.Cond.fieldLink "GluedHour" (242 : Nat) "GluedHour$Planner" "regret" "I") ∈ lw_gd := tb_2 (i := 16) rfl rfl
theorem wd_352 : (Jvm.Cond.fieldLink "GluedHour$Planner" (26 : Nat) "GluedHour$Planner" "worth" "J") ∈ lw_gd := tb_2 (i := 17) rfl rfl
theorem wd_353 : (Jvm.Cond.fieldLink "GluedHour" (296 : Nat) "GluedHour$Planner" "worth" "J") ∈ lw_gd := tb_2 (i := 18) rfl rfl
theorem wd_354 : (Jvm.Cond.fieldLink "GluedHour$Planner" (29 : Nat) "GluedHour$Planner" "chosen" "[I") ∈ lw_gd := tb_2 (i := 19) rfl rfl
theorem wd_355 : (Jvm.Cond.fieldLink "GluedHour$Planner" (32 : Nat) "GluedHour$Planner" "best" "[J") ∈ lw_gd := tb_2 (i := 20) rfl rfl
theorem wd_356 : (Jvm.Cond.fieldLink "GluedHour$Planner" (36 : Nat) "GluedHour$Planner" "scores" "[J") ∈ lw_gd := tb_2 (i := 21) rfl rfl
theorem wd_357 : (Jvm.Cond.fieldLink "GluedHour$Planner" (42 : Nat) "GluedHour$Planner" "known" "LGluedHour$Odds;") ∈ lw_gd := tb_2 (i := 22) rfl rfl
theorem wd_377 : (Jvm.Cond.arrayClass Jvm.ClassFile.FieldType.long) ∈ lw_gd := tb_2 (i := 42) rfl rfl
theorem wd_378 : (Jvm.Cond.classLink "GluedHour" (57 : Nat) "GluedHour$Search") ∈ lw_gd := tb_2 (i := 43) rfl rfl
theorem wd_379 : (Jvm.Cond.instantiable "GluedHour$Search" (5 : Nat)) ∈ lw_gd := tb_2 (i := 44) rfl rfl
theorem wd_380 : (Jvm.Cond.methodLink "GluedHour" (59 : Nat) ({ cls := "GluedHour$Search", name := "<init>", desc := "()V" } : Jvm.MethodName)) ∈ lw_gd := tb_2 (i := 45) rfl rfl
theorem wd_381 : (Jvm.Cond.instanceMethod ({ cls := "GluedHour$Search", name := "<init>", desc := "()V" } : Jvm.MethodName)) ∈ lw_gd := tb_2 (i := 46) rfl rfl
theorem wd_382 : (Jvm.Cond.code ({ cls := "GluedHour$Search", name := "<init>", desc := "()V" } : Jvm.MethodName) prog_9_method_1_code (2 : Nat) (Option.none : Option Jvm.ClassFile.FieldType)) ∈ lw_gd := tb_2 (i := 47) rfl rfl
theorem wd_383 : (Jvm.Cond.methodLink "GluedHour$Search" (3 : Nat) ({ cls := "java/lang/Object", name := "<init>", desc := "()V" } : Jvm.MethodName)) ∈ lw_gd := tb_2 (i := 48) rfl rfl
theorem wd_384 : (Jvm.Cond.classLink "GluedHour$Search" (25 : Nat) "GluedHour$Odds") ∈ lw_gd := tb_2 (i := 49) rfl rfl
theorem wd_387 : (Jvm.Cond.fieldLink "GluedHour$Search" (9 : Nat) "GluedHour$Search" "maybe" "[I") ∈ lw_gd := tb_2 (i := 52) rfl rfl
theorem wd_388 : (Jvm.Cond.fieldLink "GluedHour" (275 : Nat) "GluedHour$Search" "maybe" "[I") ∈ lw_gd := tb_2 (i := 53) rfl rfl
theorem wd_389 : (Jvm.Cond.fieldLink "GluedHour$Search" (15 : Nat) "GluedHour$Search" "days" "I") ∈ lw_gd := tb_2 (i := 54) rfl rfl
theorem wd_390 : (Jvm.Cond.fieldLink "GluedHour" (269 : Nat) "GluedHour$Search" "days" "I") ∈ lw_gd := tb_2 (i := 55) rfl rfl
theorem wd_391 : (Jvm.Cond.fieldLink "GluedHour$Search" (19 : Nat) "GluedHour$Search" "rows" "I") ∈ lw_gd := tb_2 (i := 56) rfl rfl
theorem wd_392 : (Jvm.Cond.fieldLink "GluedHour" (266 : Nat) "GluedHour$Search" "rows" "I") ∈ lw_gd := tb_2 (i := 57) rfl rfl
theorem wd_393 : (Jvm.Cond.fieldLink "GluedHour$Search" (22 : Nat) "GluedHour$Search" "row" "[I") ∈ lw_gd := tb_2 (i := 58) rfl rfl
theorem wd_394 : (Jvm.Cond.fieldLink "GluedHour$Search" (27 : Nat) "GluedHour$Search" "odds" "[LGluedHour$Odds;") ∈ lw_gd := tb_2 (i := 59) rfl rfl
theorem wd_406 : (Jvm.Cond.classLink "GluedHour" (64 : Nat) "GluedHour$Fraction") ∈ lw_gd := tb_2 (i := 71) rfl rfl
theorem wd_407 : (Jvm.Cond.instantiable "GluedHour$Fraction" (2 : Nat)) ∈ lw_gd := tb_2 (i := 72) rfl rfl
theorem wd_409 : (Jvm.Cond.instanceMethod ({ cls := "GluedHour$Fraction", name := "<init>", desc := "()V" } : Jvm.MethodName)) ∈ lw_gd := tb_2 (i := 74) rfl rfl
theorem wd_410 : (Jvm.Cond.code ({ cls := "GluedHour$Fraction", name := "<init>", desc := "()V" } : Jvm.MethodName) prog_3_method_1_code (1 : Nat) (Option.none : Option Jvm.ClassFile.FieldType)) ∈ lw_gd := tb_2 (i := 75) rfl rfl
theorem wd_411 : (Jvm.Cond.methodLink "GluedHour$Fraction" (1 : Nat) ({ cls := "java/lang/Object", name := "<init>", desc := "()V" } : Jvm.MethodName)) ∈ lw_gd := tb_2 (i := 76) rfl rfl
theorem wd_412 : (Jvm.Cond.fieldLink "GluedHour$Fraction" (7 : Nat) "GluedHour$Fraction" "above" "J") ∈ lw_gd := tb_2 (i := 77) rfl rfl
theorem wd_413 : (Jvm.Cond.fieldLink "GluedHour$Fraction" (13 : Nat) "GluedHour$Fraction" "below" "J") ∈ lw_gd := tb_2 (i := 78) rfl rfl
theorem wd_419 : (Jvm.Cond.fieldLink "GluedHour" (10 : Nat) "GluedHour" "told" "LGluedHour$Told;") ∈ lw_gd := tb_2 (i := 84) rfl rfl
theorem wd_420 : (Jvm.Cond.fieldLink "GluedHour" (16 : Nat) "GluedHour" "images" "[LGluedHour$Told;") ∈ lw_gd := tb_2 (i := 85) rfl rfl
theorem wd_421 : (Jvm.Cond.fieldLink "GluedHour" (29 : Nat) "GluedHour" "reader" "LGluedHour$Reader;") ∈ lw_gd := tb_2 (i := 86) rfl rfl
theorem wd_422 : (Jvm.Cond.fieldLink "GluedHour" (36 : Nat) "GluedHour" "course" "LGluedHour$Course;") ∈ lw_gd := tb_2 (i := 87) rfl rfl
theorem wd_423 : (Jvm.Cond.fieldLink "GluedHour" (43 : Nat) "GluedHour" "today" "LGluedHour$Odds;") ∈ lw_gd := tb_2 (i := 88) rfl rfl
theorem wd_424 : (Jvm.Cond.fieldLink "GluedHour" (47 : Nat) "GluedHour" "tomorrow" "LGluedHour$Odds;") ∈ lw_gd := tb_2 (i := 89) rfl rfl
theorem wd_425 : (Jvm.Cond.fieldLink "GluedHour" (53 : Nat) "GluedHour" "planner" "LGluedHour$Planner;") ∈ lw_gd := tb_2 (i := 90) rfl rfl
theorem wd_426 : (Jvm.Cond.fieldLink "GluedHour" (60 : Nat) "GluedHour" "search" "LGluedHour$Search;") ∈ lw_gd := tb_2 (i := 91) rfl rfl
theorem wd_427 : (Jvm.Cond.fieldLink "GluedHour" (67 : Nat) "GluedHour" "sum" "LGluedHour$Fraction;") ∈ lw_gd := tb_2 (i := 92) rfl rfl
theorem wd_447 : (Jvm.Cond.methodLink "GluedHourLaw" (13 : Nat) ({ cls := "GluedHour", name := "feed", desc := "(IIIII)I" } : Jvm.MethodName)) ∈ lw_gd := tb_2 (i := 112) rfl rfl
theorem wd_448 : (Jvm.Cond.instanceMethod ({ cls := "GluedHour", name := "feed", desc := "(IIIII)I" } : Jvm.MethodName)) ∈ lw_gd := tb_2 (i := 113) rfl rfl
theorem wd_449 : (Jvm.Cond.selects "GluedHour" ({ cls := "GluedHour", name := "feed", desc := "(IIIII)I" } : Jvm.MethodName) ({ cls := "GluedHour", name := "feed", desc := "(IIIII)I" } : Jvm.MethodName)) ∈ lw_gd := tb_2 (i := 114) rfl rfl
theorem wd_450 : (Jvm.Cond.code ({ cls := "GluedHour", name := "feed", desc := "(IIIII)I" } : Jvm.MethodName) prog_1_method_2_code (6 : Nat) (Option.some Jvm.ClassFile.FieldType.int)) ∈ lw_gd := tb_2 (i := 115) rfl rfl
theorem wd_451 : (Jvm.Cond.methodLink "GluedHour" (75 : Nat) ({ cls := "GluedHour$Told", name := "append", desc := "(I)V" } : Jvm.MethodName)) ∈ lw_gd := tb_2 (i := 116) rfl rfl
theorem wd_452 : (Jvm.Cond.instanceMethod ({ cls := "GluedHour$Told", name := "append", desc := "(I)V" } : Jvm.MethodName)) ∈ lw_gd := tb_2 (i := 117) rfl rfl
theorem wd_453 : (Jvm.Cond.selects "GluedHour$Told" ({ cls := "GluedHour$Told", name := "append", desc := "(I)V" } : Jvm.MethodName) ({ cls := "GluedHour$Told", name := "append", desc := "(I)V" } : Jvm.MethodName)) ∈ lw_gd := tb_2 (i := 118) rfl rfl
theorem wd_454 : (Jvm.Cond.code ({ cls := "GluedHour$Told", name := "append", desc := "(I)V" } : Jvm.MethodName) prog_10_method_2_code (3 : Nat) (Option.none : Option Jvm.ClassFile.FieldType)) ∈ lw_gd := tb_2 (i := 119) rfl rfl
theorem wd_455 : (Jvm.Cond.methodLink "GluedHourLaw" (18 : Nat) ({ cls := "GluedHour", name := "end", desc := "(I)I" } : Jvm.MethodName)) ∈ lw_gd := tb_2 (i := 120) rfl rfl
theorem wd_456 : (Jvm.Cond.instanceMethod ({ cls := "GluedHour", name := "end", desc := "(I)I" } : Jvm.MethodName)) ∈ lw_gd := tb_2 (i := 121) rfl rfl
theorem wd_457 : (Jvm.Cond.selects "GluedHour" ({ cls := "GluedHour", name := "end", desc := "(I)I" } : Jvm.MethodName) ({ cls := "GluedHour", name := "end", desc := "(I)I" } : Jvm.MethodName)) ∈ lw_gd := tb_2 (i := 122) rfl rfl
theorem wd_458 : (Jvm.Cond.code ({ cls := "GluedHour", name := "end", desc := "(I)I" } : Jvm.MethodName) prog_1_method_3_code (2 : Nat) (Option.some Jvm.ClassFile.FieldType.int)) ∈ lw_gd := tb_2 (i := 123) rfl rfl
theorem wd_459 : (Jvm.Cond.methodLink "GluedHourLaw" (23 : Nat) ({ cls := "GluedHour", name := "text", desc := "(II)I" } : Jvm.MethodName)) ∈ lw_gd := tb_2 (i := 124) rfl rfl
theorem wd_460 : (Jvm.Cond.instanceMethod ({ cls := "GluedHour", name := "text", desc := "(II)I" } : Jvm.MethodName)) ∈ lw_gd := tb_2 (i := 125) rfl rfl
theorem wd_461 : (Jvm.Cond.selects "GluedHour" ({ cls := "GluedHour", name := "text", desc := "(II)I" } : Jvm.MethodName) ({ cls := "GluedHour", name := "text", desc := "(II)I" } : Jvm.MethodName)) ∈ lw_gd := tb_2 (i := 126) rfl rfl
theorem wd_462 : (Jvm.Cond.code ({ cls := "GluedHour", name := "text", desc := "(II)I" } : Jvm.MethodName) prog_1_method_4_code (7 : Nat) (Option.some Jvm.ClassFile.FieldType.int)) ∈ lw_gd := tb_2 (i := 127) rfl rfl
theorem wd_463 : (Jvm.Cond.methodLink "GluedHour" (89 : Nat) ({ cls := "GluedHour$Reader", name := "read", desc := "(II)V" } : Jvm.MethodName)) ∈ lw_gd := tb_2 (i := 128) rfl rfl
theorem wd_464 : (Jvm.Cond.instanceMethod ({ cls := "GluedHour$Reader", name := "read", desc := "(II)V" } : Jvm.MethodName)) ∈ lw_gd := tb_2 (i := 129) rfl rfl
theorem wd_465 : (Jvm.Cond.selects "GluedHour$Reader" ({ cls := "GluedHour$Reader", name := "read", desc := "(II)V" } : Jvm.MethodName) ({ cls := "GluedHour$Reader", name := "read", desc := "(II)V" } : Jvm.MethodName)) ∈ lw_gd := tb_2 (i := 130) rfl rfl
theorem wd_466 : (Jvm.Cond.code ({ cls := "GluedHour$Reader", name := "read", desc := "(II)V" } : Jvm.MethodName) prog_7_method_2_code (4 : Nat) (Option.none : Option Jvm.ClassFile.FieldType)) ∈ lw_gd := tb_2 (i := 131) rfl rfl
theorem wd_467 : (Jvm.Cond.methodLink "GluedHour$Reader" (66 : Nat) ({ cls := "GluedHour$Reader", name := "begin", desc := "(II)V" } : Jvm.MethodName)) ∈ lw_gd := tb_2 (i := 132) rfl rfl
theorem wd_469 : (Jvm.Cond.instanceMethod ({ cls := "GluedHour$Reader", name := "begin", desc := "(II)V" } : Jvm.MethodName)) ∈ lw_gd := tb_2 (i := 134) rfl rfl
theorem wd_470 : (Jvm.Cond.code ({ cls := "GluedHour$Reader", name := "begin", desc := "(II)V" } : Jvm.MethodName) prog_7_method_3_code (4 : Nat) (Option.none : Option Jvm.ClassFile.FieldType)) ∈ lw_gd := tb_2 (i := 135) rfl rfl
theorem wd_471 : (Jvm.Cond.methodLink "GluedHour$Reader" (86 : Nat) ({ cls := "java/lang/Math", name := "min", desc := "(II)I" } : Jvm.MethodName)) ∈ lw_gd := tb_2 (i := 136) rfl rfl
theorem wd_472 : (Jvm.Cond.static ({ cls := "java/lang/Math", name := "min", desc := "(II)I" } : Jvm.MethodName)) ∈ lw_gd := tb_2 (i := 137) rfl rfl
theorem wd_473 : (Jvm.Cond.code ({ cls := "java/lang/Math", name := "min", desc := "(II)I" } : Jvm.MethodName) prog_13_method_69_code (2 : Nat) (Option.some Jvm.ClassFile.FieldType.int)) ∈ lw_gd := tb_2 (i := 138) rfl rfl
theorem wd_474 : (Jvm.Cond.methodLink "GluedHour$Reader" (92 : Nat) ({ cls := "java/lang/Math", name := "max", desc := "(II)I" } : Jvm.MethodName)) ∈ lw_gd := tb_2 (i := 139) rfl rfl
theorem wd_475 : (Jvm.Cond.static ({ cls := "java/lang/Math", name := "max", desc := "(II)I" } : Jvm.MethodName)) ∈ lw_gd := tb_2 (i := 140) rfl rfl
theorem wd_476 : (Jvm.Cond.code ({ cls := "java/lang/Math", name := "max", desc := "(II)I" } : Jvm.MethodName) prog_13_method_65_code (2 : Nat) (Option.some Jvm.ClassFile.FieldType.int)) ∈ lw_gd := tb_2 (i := 141) rfl rfl
theorem wd_477 : (Jvm.Cond.methodLink "GluedHour$Reader" (95 : Nat) ({ cls := "GluedHour$Republic", name := "clear", desc := "()V" } : Jvm.MethodName)) ∈ lw_gd := tb_2 (i := 142) rfl rfl
theorem wd_478 : (Jvm.Cond.methodLink "GluedHour$Reader" (98 : Nat) ({ cls := "GluedHour$Reader", name := "draftOf", desc := "(I)LGluedHour$Lines;" } : Jvm.MethodName)) ∈ lw_gd := tb_2 (i := 143) rfl rfl
theorem wd_480 : (Jvm.Cond.instanceMethod ({ cls := "GluedHour$Reader", name := "draftOf", desc := "(I)LGluedHour$Lines;" } : Jvm.MethodName)) ∈ lw_gd := tb_2 (i := 145) rfl rfl
theorem wd_481 : (Jvm.Cond.code ({ cls := "GluedHour$Reader", name := "draftOf", desc := "(I)LGluedHour$Lines;" } : Jvm.MethodName) prog_7_method_4_code (2 : Nat) (Option.some (Jvm.ClassFile.FieldType.object "GluedHour$Lines"))) ∈ lw_gd := tb_2 (i := 146) rfl rfl
theorem wd_482 : (Jvm.Cond.methodLink "GluedHour$Reader" (70 : Nat) ({ cls := "GluedHour$Reader", name := "step", desc := "()V" } : Jvm.MethodName)) ∈ lw_gd := tb_2 (i := 147) rfl rfl
theorem wd_484 : (Jvm.Cond.instanceMethod ({ cls := "GluedHour$Reader", name := "step", desc := "()V" } : Jvm.MethodName)) ∈ lw_gd := tb_2 (i := 149) rfl rfl
theorem wd_485 : (Jvm.Cond.code ({ cls := "GluedHour$Reader", name := "step", desc := "()V" } : Jvm.MethodName) prog_7_method_15_code (1 : Nat) (Option.none : Option Jvm.ClassFile.FieldType)) ∈ lw_gd := tb_2 (i := 150) rfl rfl
theorem wd_486 : (Jvm.Cond.methodLink "GluedHour$Reader" (203 : Nat) ({ cls := "GluedHour$Reader", name := "isLetter", desc := "(I)Z" } : Jvm.MethodName)) ∈ lw_gd := tb_2 (i := 151) rfl rfl
theorem wd_487 : (Jvm.Cond.static ({ cls := "GluedHour$Reader", name := "isLetter", desc := "(I)Z" } : Jvm.MethodName)) ∈ lw_gd := tb_2 (i := 152) rfl rfl
theorem wd_488 : (Jvm.Cond.code ({ cls := "GluedHour$Reader", name := "isLetter", desc := "(I)Z" } : Jvm.MethodName) prog_7_method_17_code (1 : Nat) (Option.some Jvm.ClassFile.FieldType.boolean)) ∈ lw_gd := tb_2 (i := 153) rfl rfl
theorem wd_489 : (Jvm.Cond.methodLink "GluedHour$Reader" (206 : Nat) ({ cls := "GluedHour$Reader", name := "isDigit", desc := "(I)Z" } : Jvm.MethodName)) ∈ lw_gd := tb_2 (i := 154) rfl rfl
theorem wd_490 : (Jvm.Cond.static ({ cls := "GluedHour$Reader", name := "isDigit", desc := "(I)Z" } : Jvm.MethodName)) ∈ lw_gd := tb_2 (i := 155) rfl rfl
theorem wd_491 : (Jvm.Cond.code ({ cls := "GluedHour$Reader", name := "isDigit", desc := "(I)Z" } : Jvm.MethodName) prog_7_method_18_code (1 : Nat) (Option.some Jvm.ClassFile.FieldType.boolean)) ∈ lw_gd := tb_2 (i := 156) rfl rfl
theorem wd_492 : (Jvm.Cond.methodLink "GluedHour$Reader" (209 : Nat) ({ cls := "GluedHour$Reader", name := "stepNumber", desc := "()V" } : Jvm.MethodName)) ∈ lw_gd := tb_2 (i := 157) rfl rfl
theorem wd_494 : (Jvm.Cond.instanceMethod ({ cls := "GluedHour$Reader", name := "stepNumber", desc := "()V" } : Jvm.MethodName)) ∈ lw_gd := tb_2 (i := 159) rfl rfl
theorem wd_495 : (Jvm.Cond.code ({ cls := "GluedHour$Reader", name := "stepNumber", desc := "()V" } : Jvm.MethodName) prog_7_method_16_code (1 : Nat) (Option.none : Option Jvm.ClassFile.FieldType)) ∈ lw_gd := tb_2 (i := 160) rfl rfl
theorem wd_496 : (Jvm.Cond.methodLink "GluedHour$Reader" (73 : Nat) ({ cls := "GluedHour$Reader", name := "readLine", desc := "(I)Z" } : Jvm.MethodName)) ∈ lw_gd := tb_2 (i := 161) rfl rfl
theorem wd_498 : (Jvm.Cond.instanceMethod ({ cls := "GluedHour$Reader", name := "readLine", desc := "(I)Z" } : Jvm.MethodName)) ∈ lw_gd := tb_2 (i := 163) rfl rfl
theorem wd_499 : (Jvm.Cond.code ({ cls := "GluedHour$Reader", name := "readLine", desc := "(I)Z" } : Jvm.MethodName) prog_7_method_6_code (4 : Nat) (Option.some Jvm.ClassFile.FieldType.boolean)) ∈ lw_gd := tb_2 (i := 164) rfl rfl
theorem wd_500 : (Jvm.Cond.methodLink "GluedHour$Reader" (105 : Nat) ({ cls := "GluedHour$Reader", name := "verbOf", desc := "(I)I" } : Jvm.MethodName)) ∈ lw_gd := tb_2 (i := 165) rfl rfl
theorem wd_502 : (Jvm.Cond.instanceMethod ({ cls := "GluedHour$Reader", name := "verbOf", desc := "(I)I" } : Jvm.MethodName)) ∈ lw_gd := tb_2 (i := 167) rfl rfl
theorem wd_503 : (Jvm.Cond.code ({ cls := "GluedHour$Reader", name := "verbOf", desc := "(I)I" } : Jvm.MethodName) prog_7_method_12_code (3 : Nat) (Option.some Jvm.ClassFile.FieldType.int)) ∈ lw_gd := tb_2 (i := 168) rfl rfl
theorem wd_504 : (Jvm.Cond.fieldLink "GluedHour$Reader" (135 : Nat) "GluedHour$Reader" "VERB_SORT" "[I") ∈ lw_gd := tb_2 (i := 169) rfl rfl
theorem wd_506 : (Jvm.Cond.methodLink "GluedHour$Reader" (169 : Nat) ({ cls := "GluedHour$Reader", name := "wordOf", desc := "(I)Ljava/lang/String;" } : Jvm.MethodName)) ∈ lw_gd := tb_2 (i := 171) rfl rfl
theorem wd_507 : (Jvm.Cond.static ({ cls := "GluedHour$Reader", name := "wordOf", desc := "(I)Ljava/lang/String;" } : Jvm.MethodName)) ∈ lw_gd := tb_2 (i := 172) rfl rfl
theorem wd_508 : (Jvm.Cond.code ({ cls := "GluedHour$Reader", name := "wordOf", desc := "(I)Ljava/lang/String;" } : Jvm.MethodName) prog_7_method_13_code (1 : Nat) (Option.some (Jvm.ClassFile.FieldType.object "java/lang/String"))) ∈ lw_gd := tb_2 (i := 173) rfl rfl
theorem wd_520 : (Jvm.Cond.methodLink "GluedHour$Reader" (127 : Nat) ({ cls := "GluedHour$Reader", name := "isWord", desc := "(Ljava/lang/String;)Z" } : Jvm.MethodName)) ∈ lw_gd := tb_2 (i := 185) rfl rfl
theorem wd_522 : (Jvm.Cond.instanceMethod ({ cls := "GluedHour$Reader", name := "isWord", desc := "(Ljava/lang/String;)Z" } : Jvm.MethodName)) ∈ lw_gd := tb_2 (i := 187) rfl rfl
theorem wd_523 : (Jvm.Cond.code ({ cls := "GluedHour$Reader", name := "isWord", desc := "(Ljava/lang/String;)Z" } : Jvm.MethodName) prog_7_method_14_code (3 : Nat) (Option.some Jvm.ClassFile.FieldType.boolean)) ∈ lw_gd := tb_2 (i := 188) rfl rfl
theorem wd_524 : (Jvm.Cond.methodLink "GluedHour$Reader" (194 : Nat) ({ cls := "java/lang/String", name := "length", desc := "()I" } : Jvm.MethodName)) ∈ lw_gd := tb_2 (i := 189) rfl rfl
theorem wd_525 : (Jvm.Cond.instanceMethod ({ cls := "java/lang/String", name := "length", desc := "()I" } : Jvm.MethodName)) ∈ lw_gd := tb_2 (i := 190) rfl rfl
theorem wd_526 : (Jvm.Cond.selects "java/lang/String" ({ cls := "java/lang/String", name := "length", desc := "()I" } : Jvm.MethodName) ({ cls := "java/lang/String", name := "length", desc := "()I" } : Jvm.MethodName)) ∈ lw_gd := tb_2 (i := 191) rfl rfl
theorem wd_527 : (Jvm.Cond.code ({ cls := "java/lang/String", name := "length", desc := "()I" } : Jvm.MethodName) prog_14_method_54_code (1 : Nat) (Option.some Jvm.ClassFile.FieldType.int)) ∈ lw_gd := tb_2 (i := 192) rfl rfl
theorem wd_528 : (Jvm.Cond.methodLink "java/lang/String" (335 : Nat) ({ cls := "java/lang/String", name := "coder", desc := "()B" } : Jvm.MethodName)) ∈ lw_gd := tb_2 (i := 193) rfl rfl
theorem wd_529 : (Jvm.Cond.instanceMethod ({ cls := "java/lang/String", name := "coder", desc := "()B" } : Jvm.MethodName)) ∈ lw_gd := tb_2 (i := 194) rfl rfl
theorem wd_530 : (Jvm.Cond.selects "java/lang/String" ({ cls := "java/lang/String", name := "coder", desc := "()B" } : Jvm.MethodName) ({ cls := "java/lang/String", name := "coder", desc := "()B" } : Jvm.MethodName)) ∈ lw_gd := tb_2 (i := 195) rfl rfl
theorem wd_531 : (Jvm.Cond.code ({ cls := "java/lang/String", name := "coder", desc := "()B" } : Jvm.MethodName) prog_14_method_152_code (1 : Nat) (Option.some Jvm.ClassFile.FieldType.byte)) ∈ lw_gd := tb_2 (i := 196) rfl rfl
theorem wd_532 : (Jvm.Cond.fieldLink "java/lang/String" (38 : Nat) "java/lang/String" "COMPACT_STRINGS" "Z") ∈ lw_gd := tb_2 (i := 197) rfl rfl
theorem wd_534 : (Jvm.Cond.methodLink "GluedHour$Reader" (199 : Nat) ({ cls := "java/lang/String", name := "charAt", desc := "(I)C" } : Jvm.MethodName)) ∈ lw_gd := tb_2 (i := 199) rfl rfl
theorem wd_535 : (Jvm.Cond.instanceMethod ({ cls := "java/lang/String", name := "charAt", desc := "(I)C" } : Jvm.MethodName)) ∈ lw_gd := tb_2 (i := 200) rfl rfl
theorem wd_536 : (Jvm.Cond.selects "java/lang/String" ({ cls := "java/lang/String", name := "charAt", desc := "(I)C" } : Jvm.MethodName) ({ cls := "java/lang/String", name := "charAt", desc := "(I)C" } : Jvm.MethodName)) ∈ lw_gd := tb_2 (i := 201) rfl rfl
theorem wd_537 : (Jvm.Cond.code ({ cls := "java/lang/String", name := "charAt", desc := "(I)C" } : Jvm.MethodName) prog_14_method_56_code (2 : Nat) (Option.some Jvm.ClassFile.FieldType.char)) ∈ lw_gd := tb_2 (i := 202) rfl rfl
theorem wd_538 : (Jvm.Cond.methodLink "java/lang/String" (492 : Nat) ({ cls := "java/lang/String", name := "isLatin1", desc := "()Z" } : Jvm.MethodName)) ∈ lw_gd := tb_2 (i := 203) rfl rfl
theorem wd_539 : (Jvm.Cond.instanceMethod ({ cls := "java/lang/String", name := "isLatin1", desc := "()Z" } : Jvm.MethodName)) ∈ lw_gd := tb_2 (i := 204) rfl rfl
theorem wd_540 : (Jvm.Cond.selects "java/lang/String" ({ cls := "java/lang/String", name := "isLatin1", desc := "()Z" } : Jvm.MethodName) ({ cls := "java/lang/String", name := "isLatin1", desc := "()Z" } : Jvm.MethodName)) ∈ lw_gd := tb_2 (i := 205) rfl rfl
theorem wd_541 : (Jvm.Cond.code ({ cls := "java/lang/String", name := "isLatin1", desc := "()Z" } : Jvm.MethodName) prog_14_method_154_code (1 : Nat) (Option.some Jvm.ClassFile.FieldType.boolean)) ∈ lw_gd := tb_2 (i := 206) rfl rfl
theorem wd_542 : (Jvm.Cond.methodLink "java/lang/String" (495 : Nat) ({ cls := "java/lang/StringLatin1", name := "charAt", desc := "([BI)C" } : Jvm.MethodName)) ∈ lw_gd := tb_2 (i := 207) rfl rfl
theorem wd_543 : (Jvm.Cond.static ({ cls := "java/lang/StringLatin1", name := "charAt", desc := "([BI)C" } : Jvm.MethodName)) ∈ lw_gd := tb_2 (i := 208) rfl rfl
theorem wd_544 : (Jvm.Cond.code ({ cls := "java/lang/StringLatin1", name := "charAt", desc := "([BI)C" } : Jvm.MethodName) prog_15_method_2_code (2 : Nat) (Option.some Jvm.ClassFile.FieldType.char)) ∈ lw_gd := tb_2 (i := 209) rfl rfl
theorem wd_545 : (Jvm.Cond.methodLink "java/lang/StringLatin1" (9 : Nat) ({ cls := "java/lang/String", name := "checkIndex", desc := "(II)V" } : Jvm.MethodName)) ∈ lw_gd := tb_2 (i := 210) rfl rfl
theorem wd_546 : (Jvm.Cond.static ({ cls := "java/lang/String", name := "checkIndex", desc := "(II)V" } : Jvm.MethodName)) ∈ lw_gd := tb_2 (i := 211) rfl rfl
theorem wd_547 : (Jvm.Cond.code ({ cls := "java/lang/String", name := "checkIndex", desc := "(II)V" } : Jvm.MethodName) prog_14_method_155_code (2 : Nat) (Option.none : Option Jvm.ClassFile.FieldType)) ∈ lw_gd := tb_2 (i := 212) rfl rfl
theorem wd_553 : (Jvm.Cond.methodLink "java/lang/String" (498 : Nat) ({ cls := "java/lang/StringUTF16", name := "charAt", desc := "([BI)C" } : Jvm.MethodName)) ∈ lw_gd := tb_2 (i := 218) rfl rfl
theorem wd_554 : (Jvm.Cond.static ({ cls := "java/lang/StringUTF16", name := "charAt", desc := "([BI)C" } : Jvm.MethodName)) ∈ lw_gd := tb_2 (i := 219) rfl rfl
theorem wd_555 : (Jvm.Cond.code ({ cls := "java/lang/StringUTF16", name := "charAt", desc := "([BI)C" } : Jvm.MethodName) prog_16_method_83_code (2 : Nat) (Option.some Jvm.ClassFile.FieldType.char)) ∈ lw_gd := tb_2 (i := 220) rfl rfl
theorem wd_572 : (Jvm.Cond.methodLink "GluedHour$Reader" (109 : Nat) ({ cls := "GluedHour$Reader", name := "isOneTooMany", desc := "(I)Z" } : Jvm.MethodName)) ∈ lw_gd := tb_2 (i := 237) rfl rfl
theorem wd_574 : (Jvm.Cond.instanceMethod ({ cls := "GluedHour$Reader", name := "isOneTooMany", desc := "(I)Z" } : Jvm.MethodName)) ∈ lw_gd := tb_2 (i := 239) rfl rfl
theorem wd_575 : (Jvm.Cond.code ({ cls := "GluedHour$Reader", name := "isOneTooMany", desc := "(I)Z" } : Jvm.MethodName) prog_7_method_8_code (3 : Nat) (Option.some Jvm.ClassFile.FieldType.boolean)) ∈ lw_gd := tb_3 (i := 0) rfl rfl
theorem wd_576 : (Jvm.Cond.methodLink "GluedHour$Reader" (138 : Nat) ({ cls := "GluedHour$Lines", name := "isFull", desc := "()Z" } : Jvm.MethodName)) ∈ lw_gd := tb_3 (i := 1) rfl rfl
theorem wd_577 : (Jvm.Cond.instanceMethod ({ cls := "GluedHour$Lines", name := "isFull", desc := "()Z" } : Jvm.MethodName)) ∈ lw_gd := tb_3 (i := 2) rfl rfl
theorem wd_578 : (Jvm.Cond.selects "GluedHour$Lines" ({ cls := "GluedHour$Lines", name := "isFull", desc := "()Z" } : Jvm.MethodName) ({ cls := "GluedHour$Lines", name := "isFull", desc := "()Z" } : Jvm.MethodName)) ∈ lw_gd := tb_3 (i := 3) rfl rfl
theorem wd_579 : (Jvm.Cond.code ({ cls := "GluedHour$Lines", name := "isFull", desc := "()Z" } : Jvm.MethodName) prog_4_method_4_code (1 : Nat) (Option.some Jvm.ClassFile.FieldType.boolean)) ∈ lw_gd := tb_3 (i := 4) rfl rfl
theorem wd_580 : (Jvm.Cond.methodLink "GluedHour$Reader" (83 : Nat) ({ cls := "GluedHour$Reader", name := "note", desc := "(II)V" } : Jvm.MethodName)) ∈ lw_gd := tb_3 (i := 5) rfl rfl
theorem wd_582 : (Jvm.Cond.instanceMethod ({ cls := "GluedHour$Reader", name := "note", desc := "(II)V" } : Jvm.MethodName)) ∈ lw_gd := tb_3 (i := 7) rfl rfl
theorem wd_583 : (Jvm.Cond.code ({ cls := "GluedHour$Reader", name := "note", desc := "(II)V" } : Jvm.MethodName) prog_7_method_5_code (3 : Nat) (Option.none : Option Jvm.ClassFile.FieldType)) ∈ lw_gd := tb_3 (i := 8) rfl rfl
theorem wd_584 : (Jvm.Cond.fieldLink "GluedHour$Reader" (112 : Nat) "GluedHour$Reader" "NUMBERS" "[I") ∈ lw_gd := tb_3 (i := 9) rfl rfl
theorem wd_586 : (Jvm.Cond.methodLink "GluedHour$Reader" (115 : Nat) ({ cls := "GluedHour$Reader", name := "checkNumber", desc := "(II)V" } : Jvm.MethodName)) ∈ lw_gd := tb_3 (i := 11) rfl rfl
theorem wd_588 : (Jvm.Cond.instanceMethod ({ cls := "GluedHour$Reader", name := "checkNumber", desc := "(II)V" } : Jvm.MethodName)) ∈ lw_gd := tb_3 (i := 13) rfl rfl
theorem wd_589 : (Jvm.Cond.code ({ cls := "GluedHour$Reader", name := "checkNumber", desc := "(II)V" } : Jvm.MethodName) prog_7_method_9_code (4 : Nat) (Option.none : Option Jvm.ClassFile.FieldType)) ∈ lw_gd := tb_3 (i := 14) rfl rfl
theorem wd_590 : (Jvm.Cond.fieldLink "GluedHour$Reader" (141 : Nat) "GluedHour$Reader" "LOWEST" "[I") ∈ lw_gd := tb_3 (i := 15) rfl rfl
theorem wd_592 : (Jvm.Cond.fieldLink "GluedHour$Reader" (144 : Nat) "GluedHour$Reader" "HIGHEST" "[I") ∈ lw_gd := tb_3 (i := 17) rfl rfl
theorem wd_594 : (Jvm.Cond.methodLink "GluedHour$Reader" (118 : Nat) ({ cls := "GluedHour$Reader", name := "readMode", desc := "()Z" } : Jvm.MethodName)) ∈ lw_gd := tb_3 (i := 19) rfl rfl
theorem wd_596 : (Jvm.Cond.instanceMethod ({ cls := "GluedHour$Reader", name := "readMode", desc := "()Z" } : Jvm.MethodName)) ∈ lw_gd := tb_3 (i := 21) rfl rfl
theorem wd_597 : (Jvm.Cond.code ({ cls := "GluedHour$Reader", name := "readMode", desc := "()Z" } : Jvm.MethodName) prog_7_method_7_code (1 : Nat) (Option.some Jvm.ClassFile.FieldType.boolean)) ∈ lw_gd := tb_3 (i := 22) rfl rfl
theorem wd_601 : (Jvm.Cond.methodLink "GluedHour$Reader" (122 : Nat) ({ cls := "GluedHour$Reader", name := "tell", desc := "(I)V" } : Jvm.MethodName)) ∈ lw_gd := tb_3 (i := 26) rfl rfl
theorem wd_603 : (Jvm.Cond.instanceMethod ({ cls := "GluedHour$Reader", name := "tell", desc := "(I)V" } : Jvm.MethodName)) ∈ lw_gd := tb_3 (i := 28) rfl rfl
theorem wd_604 : (Jvm.Cond.code ({ cls := "GluedHour$Reader", name := "tell", desc := "(I)V" } : Jvm.MethodName) prog_7_method_10_code (3 : Nat) (Option.none : Option Jvm.ClassFile.FieldType)) ∈ lw_gd := tb_3 (i := 29) rfl rfl
theorem wd_605 : (Jvm.Cond.methodLink "GluedHour$Reader" (162 : Nat) ({ cls := "GluedHour$Reader", name := "tellLine", desc := "(I)V" } : Jvm.MethodName)) ∈ lw_gd := tb_3 (i := 30) rfl rfl
theorem wd_607 : (Jvm.Cond.instanceMethod ({ cls := "GluedHour$Reader", name := "tellLine", desc := "(I)V" } : Jvm.MethodName)) ∈ lw_gd := tb_3 (i := 32) rfl rfl
theorem wd_608 : (Jvm.Cond.code ({ cls := "GluedHour$Reader", name := "tellLine", desc := "(I)V" } : Jvm.MethodName) prog_7_method_11_code (3 : Nat) (Option.none : Option Jvm.ClassFile.FieldType)) ∈ lw_gd := tb_3 (i := 33) rfl rfl
theorem wd_609 : (Jvm.Cond.methodLink "GluedHour$Reader" (165 : Nat) ({ cls := "GluedHour$Lines", name := "add", desc := "([I)V" } : Jvm.MethodName)) ∈ lw_gd := tb_3 (i := 34) rfl rfl
theorem wd_610 : (Jvm.Cond.instanceMethod ({ cls := "GluedHour$Lines", name := "add", desc := "([I)V" } : Jvm.MethodName)) ∈ lw_gd := tb_3 (i := 35) rfl rfl
theorem wd_611 : (Jvm.Cond.selects "GluedHour$Lines" ({ cls := "GluedHour$Lines", name := "add", desc := "([I)V" } : Jvm.MethodName) ({ cls := "GluedHour$Lines", name := "add", desc := "([I)V" } : Jvm.MethodName)) ∈ lw_gd := tb_3 (i := 36) rfl rfl
theorem wd_612 : (Jvm.Cond.code ({ cls := "GluedHour$Lines", name := "add", desc := "([I)V" } : Jvm.MethodName) prog_4_method_5_code (2 : Nat) (Option.none : Option Jvm.ClassFile.FieldType)) ∈ lw_gd := tb_3 (i := 37) rfl rfl
theorem wd_613 : (Jvm.Cond.methodLink "GluedHour$Lines" (35 : Nat) ({ cls := "GluedHour$Lines", name := "isFull", desc := "()Z" } : Jvm.MethodName)) ∈ lw_gd := tb_3 (i := 38) rfl rfl
theorem wd_614 : (Jvm.Cond.methodLink "GluedHour$Lines" (39 : Nat) ({ cls := "java/lang/System", name := "arraycopy", desc := "(Ljava/lang/Object;ILjava/lang/Object;II)V" } : Jvm.MethodName)) ∈ lw_gd := tb_3 (i := 39) rfl rfl
theorem wd_615 : (Jvm.Cond.static ({ cls := "java/lang/System", name := "arraycopy", desc := "(Ljava/lang/Object;ILjava/lang/Object;II)V" } : Jvm.MethodName)) ∈ lw_gd := tb_3 (i := 40) rfl rfl
theorem wd_616 : (Jvm.Cond.native ({ cls := "java/lang/System", name := "arraycopy", desc := "(Ljava/lang/Object;ILjava/lang/Object;II)V" } : Jvm.MethodName)) ∈ lw_gd := tb_3 (i := 41) rfl rfl
theorem wd_617 : (Jvm.Cond.methodLink "GluedHour" (95 : Nat) ({ cls := "GluedHour$Told", name := "take", desc := "(LGluedHour$Reader;II)V" } : Jvm.MethodName)) ∈ lw_gd := tb_3 (i := 42) rfl rfl
theorem wd_618 : (Jvm.Cond.instanceMethod ({ cls := "GluedHour$Told", name := "take", desc := "(LGluedHour$Reader;II)V" } : Jvm.MethodName)) ∈ lw_gd := tb_3 (i := 43) rfl rfl
theorem wd_619 : (Jvm.Cond.selects "GluedHour$Told" ({ cls := "GluedHour$Told", name := "take", desc := "(LGluedHour$Reader;II)V" } : Jvm.MethodName) ({ cls := "GluedHour$Told", name := "take", desc := "(LGluedHour$Reader;II)V" } : Jvm.MethodName)) ∈ lw_gd := tb_3 (i := 44) rfl rfl
theorem wd_620 : (Jvm.Cond.code ({ cls := "GluedHour$Told", name := "take", desc := "(LGluedHour$Reader;II)V" } : Jvm.MethodName) prog_10_method_6_code (4 : Nat) (Option.none : Option Jvm.ClassFile.FieldType)) ∈ lw_gd := tb_3 (i := 45) rfl rfl
theorem wd_621 : (Jvm.Cond.methodLink "GluedHour$Told" (63 : Nat) ({ cls := "java/lang/Math", name := "max", desc := "(II)I" } : Jvm.MethodName)) ∈ lw_gd := tb_3 (i := 46) rfl rfl
theorem wd_622 : (Jvm.Cond.methodLink "GluedHour$Told" (74 : Nat) ({ cls := "GluedHour$Told", name := "copyRepublic", desc := "(LGluedHour$Republic;LGluedHour$Republic;)V" } : Jvm.MethodName)) ∈ lw_gd := tb_3 (i := 47) rfl rfl
theorem wd_623 : (Jvm.Cond.static ({ cls := "GluedHour$Told", name := "copyRepublic", desc := "(LGluedHour$Republic;LGluedHour$Republic;)V" } : Jvm.MethodName)) ∈ lw_gd := tb_3 (i := 48) rfl rfl
theorem wd_624 : (Jvm.Cond.code ({ cls := "GluedHour$Told", name := "copyRepublic", desc := "(LGluedHour$Republic;LGluedHour$Republic;)V" } : Jvm.MethodName) prog_10_method_8_code (2 : Nat) (Option.none : Option Jvm.ClassFile.FieldType)) ∈ lw_gd := tb_3 (i := 49) rfl rfl
theorem wd_625 : (Jvm.Cond.methodLink "GluedHour$Told" (91 : Nat) ({ cls := "GluedHour$Republic", name := "copy", desc := "(LGluedHour$Republic;)V" } : Jvm.MethodName)) ∈ lw_gd := tb_3 (i := 50) rfl rfl
theorem wd_626 : (Jvm.Cond.instanceMethod ({ cls := "GluedHour$Republic", name := "copy", desc := "(LGluedHour$Republic;)V" } : Jvm.MethodName)) ∈ lw_gd := tb_3 (i := 51) rfl rfl
theorem wd_627 : (Jvm.Cond.selects "GluedHour$Republic" ({ cls := "GluedHour$Republic", name := "copy", desc := "(LGluedHour$Republic;)V" } : Jvm.MethodName) ({ cls := "GluedHour$Republic", name := "copy", desc := "(LGluedHour$Republic;)V" } : Jvm.MethodName)) ∈ lw_gd := tb_3 (i := 52) rfl rfl
theorem wd_628 : (Jvm.Cond.code ({ cls := "GluedHour$Republic", name := "copy", desc := "(LGluedHour$Republic;)V" } : Jvm.MethodName) prog_8_method_3_code (2 : Nat) (Option.none : Option Jvm.ClassFile.FieldType)) ∈ lw_gd := tb_3 (i := 53) rfl rfl
theorem wd_629 : (Jvm.Cond.methodLink "GluedHour$Republic" (37 : Nat) ({ cls := "java/lang/System", name := "arraycopy", desc := "(Ljava/lang/Object;ILjava/lang/Object;II)V" } : Jvm.MethodName)) ∈ lw_gd := tb_3 (i := 54) rfl rfl
theorem wd_630 : (Jvm.Cond.methodLink "GluedHour$Told" (81 : Nat) ({ cls := "GluedHour$Told", name := "copyLines", desc := "(LGluedHour$Lines;LGluedHour$Lines;)V" } : Jvm.MethodName)) ∈ lw_gd := tb_3 (i := 55) rfl rfl
theorem wd_631 : (Jvm.Cond.static ({ cls := "GluedHour$Told", name := "copyLines", desc := "(LGluedHour$Lines;LGluedHour$Lines;)V" } : Jvm.MethodName)) ∈ lw_gd := tb_3 (i := 56) rfl rfl
theorem wd_632 : (Jvm.Cond.code ({ cls := "GluedHour$Told", name := "copyLines", desc := "(LGluedHour$Lines;LGluedHour$Lines;)V" } : Jvm.MethodName) prog_10_method_9_code (2 : Nat) (Option.none : Option Jvm.ClassFile.FieldType)) ∈ lw_gd := tb_3 (i := 57) rfl rfl
theorem wd_633 : (Jvm.Cond.methodLink "GluedHour$Told" (95 : Nat) ({ cls := "GluedHour$Lines", name := "copy", desc := "(LGluedHour$Lines;)V" } : Jvm.MethodName)) ∈ lw_gd := tb_3 (i := 58) rfl rfl
theorem wd_634 : (Jvm.Cond.instanceMethod ({ cls := "GluedHour$Lines", name := "copy", desc := "(LGluedHour$Lines;)V" } : Jvm.MethodName)) ∈ lw_gd := tb_3 (i := 59) rfl rfl
theorem wd_635 : (Jvm.Cond.selects "GluedHour$Lines" ({ cls := "GluedHour$Lines", name := "copy", desc := "(LGluedHour$Lines;)V" } : Jvm.MethodName) ({ cls := "GluedHour$Lines", name := "copy", desc := "(LGluedHour$Lines;)V" } : Jvm.MethodName)) ∈ lw_gd := tb_3 (i := 60) rfl rfl
theorem wd_636 : (Jvm.Cond.code ({ cls := "GluedHour$Lines", name := "copy", desc := "(LGluedHour$Lines;)V" } : Jvm.MethodName) prog_4_method_6_code (2 : Nat) (Option.none : Option Jvm.ClassFile.FieldType)) ∈ lw_gd := tb_3 (i := 61) rfl rfl
theorem wd_637 : (Jvm.Cond.methodLink "GluedHourLaw" (28 : Nat) ({ cls := "GluedHour", name := "fault", desc := "(I)I" } : Jvm.MethodName)) ∈ lw_gd := tb_3 (i := 62) rfl rfl
theorem wd_638 : (Jvm.Cond.instanceMethod ({ cls := "GluedHour", name := "fault", desc := "(I)I" } : Jvm.MethodName)) ∈ lw_gd := tb_3 (i := 63) rfl rfl
theorem wd_639 : (Jvm.Cond.selects "GluedHour" ({ cls := "GluedHour", name := "fault", desc := "(I)I" } : Jvm.MethodName) ({ cls := "GluedHour", name := "fault", desc := "(I)I" } : Jvm.MethodName)) ∈ lw_gd := tb_3 (i := 64) rfl rfl
theorem wd_640 : (Jvm.Cond.code ({ cls := "GluedHour", name := "fault", desc := "(I)I" } : Jvm.MethodName) prog_1_method_5_code (2 : Nat) (Option.some Jvm.ClassFile.FieldType.int)) ∈ lw_gd := tb_3 (i := 65) rfl rfl
theorem wd_641 : (Jvm.Cond.methodLink "GluedHourLaw" (32 : Nat) ({ cls := "GluedHour", name := "republic", desc := "(II)I" } : Jvm.MethodName)) ∈ lw_gd := tb_3 (i := 66) rfl rfl
theorem wd_642 : (Jvm.Cond.instanceMethod ({ cls := "GluedHour", name := "republic", desc := "(II)I" } : Jvm.MethodName)) ∈ lw_gd := tb_3 (i := 67) rfl rfl
theorem wd_643 : (Jvm.Cond.selects "GluedHour" ({ cls := "GluedHour", name := "republic", desc := "(II)I" } : Jvm.MethodName) ({ cls := "GluedHour", name := "republic", desc := "(II)I" } : Jvm.MethodName)) ∈ lw_gd := tb_3 (i := 68) rfl rfl
theorem wd_644 : (Jvm.Cond.code ({ cls := "GluedHour", name := "republic", desc := "(II)I" } : Jvm.MethodName) prog_1_method_6_code (4 : Nat) (Option.some Jvm.ClassFile.FieldType.int)) ∈ lw_gd := tb_3 (i := 69) rfl rfl
theorem wd_645 : (Jvm.Cond.methodLink "GluedHour" (99 : Nat) ({ cls := "GluedHour", name := "begun", desc := "(I)LGluedHour$Republic;" } : Jvm.MethodName)) ∈ lw_gd := tb_3 (i := 70) rfl rfl
theorem wd_647 : (Jvm.Cond.instanceMethod ({ cls := "GluedHour", name := "begun", desc := "(I)LGluedHour$Republic;" } : Jvm.MethodName)) ∈ lw_gd := tb_3 (i := 72) rfl rfl
theorem wd_648 : (Jvm.Cond.code ({ cls := "GluedHour", name := "begun", desc := "(I)LGluedHour$Republic;" } : Jvm.MethodName) prog_1_method_39_code (3 : Nat) (Option.some (Jvm.ClassFile.FieldType.object "GluedHour$Republic"))) ∈ lw_gd := tb_3 (i := 73) rfl rfl
theorem wd_649 : (Jvm.Cond.methodLink "GluedHour" (122 : Nat) ({ cls := "GluedHour$Told", name := "republicAt", desc := "(I)LGluedHour$Republic;" } : Jvm.MethodName)) ∈ lw_gd := tb_3 (i := 74) rfl rfl
theorem wd_650 : (Jvm.Cond.instanceMethod ({ cls := "GluedHour$Told", name := "republicAt", desc := "(I)LGluedHour$Republic;" } : Jvm.MethodName)) ∈ lw_gd := tb_3 (i := 75) rfl rfl
theorem wd_651 : (Jvm.Cond.selects "GluedHour$Told" ({ cls := "GluedHour$Told", name := "republicAt", desc := "(I)LGluedHour$Republic;" } : Jvm.MethodName) ({ cls := "GluedHour$Told", name := "republicAt", desc := "(I)LGluedHour$Republic;" } : Jvm.MethodName)) ∈ lw_gd := tb_3 (i := 76) rfl rfl
theorem wd_652 : (Jvm.Cond.code ({ cls := "GluedHour$Told", name := "republicAt", desc := "(I)LGluedHour$Republic;" } : Jvm.MethodName) prog_10_method_3_code (2 : Nat) (Option.some (Jvm.ClassFile.FieldType.object "GluedHour$Republic"))) ∈ lw_gd := tb_3 (i := 77) rfl rfl
theorem wd_653 : (Jvm.Cond.methodLink "GluedHour" (303 : Nat) ({ cls := "GluedHour$Course", name := "begin", desc := "(LGluedHour$Republic;)V" } : Jvm.MethodName)) ∈ lw_gd := tb_3 (i := 78) rfl rfl
theorem wd_654 : (Jvm.Cond.instanceMethod ({ cls := "GluedHour$Course", name := "begin", desc := "(LGluedHour$Republic;)V" } : Jvm.MethodName)) ∈ lw_gd := tb_3 (i := 79) rfl rfl
theorem wd_655 : (Jvm.Cond.selects "GluedHour$Course" ({ cls := "GluedHour$Course", name := "begin", desc := "(LGluedHour$Republic;)V" } : Jvm.MethodName) ({ cls := "GluedHour$Course", name := "begin", desc := "(LGluedHour$Republic;)V" } : Jvm.MethodName)) ∈ lw_gd := tb_3 (i := 80) rfl rfl
theorem wd_656 : (Jvm.Cond.code ({ cls := "GluedHour$Course", name := "begin", desc := "(LGluedHour$Republic;)V" } : Jvm.MethodName) prog_2_method_2_code (5 : Nat) (Option.none : Option Jvm.ClassFile.FieldType)) ∈ lw_gd := tb_3 (i := 81) rfl rfl
theorem wd_657 : (Jvm.Cond.methodLink "GluedHour$Course" (32 : Nat) ({ cls := "GluedHour$Republic", name := "worthOfDeeds", desc := "(I)I" } : Jvm.MethodName)) ∈ lw_gd := tb_3 (i := 82) rfl rfl
theorem wd_658 : (Jvm.Cond.instanceMethod ({ cls := "GluedHour$Republic", name := "worthOfDeeds", desc := "(I)I" } : Jvm.MethodName)) ∈ lw_gd := tb_3 (i := 83) rfl rfl
theorem wd_659 : (Jvm.Cond.selects "GluedHour$Republic" ({ cls := "GluedHour$Republic", name := "worthOfDeeds", desc := "(I)I" } : Jvm.MethodName) ({ cls := "GluedHour$Republic", name := "worthOfDeeds", desc := "(I)I" } : Jvm.MethodName)) ∈ lw_gd := tb_3 (i := 84) rfl rfl
theorem wd_660 : (Jvm.Cond.code ({ cls := "GluedHour$Republic", name := "worthOfDeeds", desc := "(I)I" } : Jvm.MethodName) prog_8_method_13_code (4 : Nat) (Option.some Jvm.ClassFile.FieldType.int)) ∈ lw_gd := tb_3 (i := 85) rfl rfl
theorem wd_661 : (Jvm.Cond.methodLink "GluedHour$Republic" (61 : Nat) ({ cls := "GluedHour$Republic", name := "deedAt", desc := "(II)I" } : Jvm.MethodName)) ∈ lw_gd := tb_3 (i := 86) rfl rfl
theorem wd_662 : (Jvm.Cond.instanceMethod ({ cls := "GluedHour$Republic", name := "deedAt", desc := "(II)I" } : Jvm.MethodName)) ∈ lw_gd := tb_3 (i := 87) rfl rfl
theorem wd_663 : (Jvm.Cond.selects "GluedHour$Republic" ({ cls := "GluedHour$Republic", name := "deedAt", desc := "(II)I" } : Jvm.MethodName) ({ cls := "GluedHour$Republic", name := "deedAt", desc := "(II)I" } : Jvm.MethodName)) ∈ lw_gd := tb_3 (i := 88) rfl rfl
theorem wd_664 : (Jvm.Cond.code ({ cls := "GluedHour$Republic", name := "deedAt", desc := "(II)I" } : Jvm.MethodName) prog_8_method_7_code (3 : Nat) (Option.some Jvm.ClassFile.FieldType.int)) ∈ lw_gd := tb_3 (i := 89) rfl rfl
theorem wd_665 : (Jvm.Cond.methodLink "GluedHour$Republic" (43 : Nat) ({ cls := "GluedHour$Republic", name := "hasPerson", desc := "(I)Z" } : Jvm.MethodName)) ∈ lw_gd := tb_3 (i := 90) rfl rfl
theorem wd_666 : (Jvm.Cond.instanceMethod ({ cls := "GluedHour$Republic", name := "hasPerson", desc := "(I)Z" } : Jvm.MethodName)) ∈ lw_gd := tb_3 (i := 91) rfl rfl
theorem wd_667 : (Jvm.Cond.selects "GluedHour$Republic" ({ cls := "GluedHour$Republic", name := "hasPerson", desc := "(I)Z" } : Jvm.MethodName) ({ cls := "GluedHour$Republic", name := "hasPerson", desc := "(I)Z" } : Jvm.MethodName)) ∈ lw_gd := tb_3 (i := 92) rfl rfl
theorem wd_668 : (Jvm.Cond.code ({ cls := "GluedHour$Republic", name := "hasPerson", desc := "(I)Z" } : Jvm.MethodName) prog_8_method_5_code (2 : Nat) (Option.some Jvm.ClassFile.FieldType.boolean)) ∈ lw_gd := tb_3 (i := 93) rfl rfl
theorem wd_669 : (Jvm.Cond.methodLink "GluedHour$Republic" (47 : Nat) ({ cls := "GluedHour$Republic", name := "hasHour", desc := "(I)Z" } : Jvm.MethodName)) ∈ lw_gd := tb_3 (i := 94) rfl rfl
theorem wd_670 : (Jvm.Cond.instanceMethod ({ cls := "GluedHour$Republic", name := "hasHour", desc := "(I)Z" } : Jvm.MethodName)) ∈ lw_gd := tb_3 (i := 95) rfl rfl
theorem wd_671 : (Jvm.Cond.selects "GluedHour$Republic" ({ cls := "GluedHour$Republic", name := "hasHour", desc := "(I)Z" } : Jvm.MethodName) ({ cls := "GluedHour$Republic", name := "hasHour", desc := "(I)Z" } : Jvm.MethodName)) ∈ lw_gd := tb_3 (i := 96) rfl rfl
theorem wd_672 : (Jvm.Cond.code ({ cls := "GluedHour$Republic", name := "hasHour", desc := "(I)Z" } : Jvm.MethodName) prog_8_method_4_code (2 : Nat) (Option.some Jvm.ClassFile.FieldType.boolean)) ∈ lw_gd := tb_3 (i := 97) rfl rfl
theorem wd_673 : (Jvm.Cond.methodLink "GluedHour$Republic" (58 : Nat) ({ cls := "GluedHour$Republic", name := "worthOf", desc := "(I)I" } : Jvm.MethodName)) ∈ lw_gd := tb_3 (i := 98) rfl rfl
theorem wd_674 : (Jvm.Cond.instanceMethod ({ cls := "GluedHour$Republic", name := "worthOf", desc := "(I)I" } : Jvm.MethodName)) ∈ lw_gd := tb_3 (i := 99) rfl rfl
theorem wd_675 : (Jvm.Cond.selects "GluedHour$Republic" ({ cls := "GluedHour$Republic", name := "worthOf", desc := "(I)I" } : Jvm.MethodName) ({ cls := "GluedHour$Republic", name := "worthOf", desc := "(I)I" } : Jvm.MethodName)) ∈ lw_gd := tb_3 (i := 100) rfl rfl
theorem wd_676 : (Jvm.Cond.code ({ cls := "GluedHour$Republic", name := "worthOf", desc := "(I)I" } : Jvm.MethodName) prog_8_method_9_code (2 : Nat) (Option.some Jvm.ClassFile.FieldType.int)) ∈ lw_gd := tb_3 (i := 101) rfl rfl
theorem wd_677 : (Jvm.Cond.methodLink "GluedHour$Course" (36 : Nat) ({ cls := "GluedHour$Republic", name := "deedAt", desc := "(II)I" } : Jvm.MethodName)) ∈ lw_gd := tb_3 (i := 102) rfl rfl
theorem wd_678 : (Jvm.Cond.methodLink "GluedHour$Course" (40 : Nat) ({ cls := "GluedHour$Republic", name := "extraOf", desc := "(I)I" } : Jvm.MethodName)) ∈ lw_gd := tb_3 (i := 103) rfl rfl
theorem wd_679 : (Jvm.Cond.instanceMethod ({ cls := "GluedHour$Republic", name := "extraOf", desc := "(I)I" } : Jvm.MethodName)) ∈ lw_gd := tb_3 (i := 104) rfl rfl
theorem wd_680 : (Jvm.Cond.selects "GluedHour$Republic" ({ cls := "GluedHour$Republic", name := "extraOf", desc := "(I)I" } : Jvm.MethodName) ({ cls := "GluedHour$Republic", name := "extraOf", desc := "(I)I" } : Jvm.MethodName)) ∈ lw_gd := tb_3 (i := 105) rfl rfl
theorem wd_681 : (Jvm.Cond.code ({ cls := "GluedHour$Republic", name := "extraOf", desc := "(I)I" } : Jvm.MethodName) prog_8_method_11_code (2 : Nat) (Option.some Jvm.ClassFile.FieldType.int)) ∈ lw_gd := tb_3 (i := 106) rfl rfl
theorem wd_682 : (Jvm.Cond.methodLink "GluedHour$Republic" (50 : Nat) ({ cls := "GluedHour$Republic", name := "modeOf", desc := "(I)I" } : Jvm.MethodName)) ∈ lw_gd := tb_3 (i := 107) rfl rfl
theorem wd_683 : (Jvm.Cond.instanceMethod ({ cls := "GluedHour$Republic", name := "modeOf", desc := "(I)I" } : Jvm.MethodName)) ∈ lw_gd := tb_3 (i := 108) rfl rfl
theorem wd_684 : (Jvm.Cond.selects "GluedHour$Republic" ({ cls := "GluedHour$Republic", name := "modeOf", desc := "(I)I" } : Jvm.MethodName) ({ cls := "GluedHour$Republic", name := "modeOf", desc := "(I)I" } : Jvm.MethodName)) ∈ lw_gd := tb_3 (i := 109) rfl rfl
theorem wd_685 : (Jvm.Cond.code ({ cls := "GluedHour$Republic", name := "modeOf", desc := "(I)I" } : Jvm.MethodName) prog_8_method_10_code (2 : Nat) (Option.some Jvm.ClassFile.FieldType.int)) ∈ lw_gd := tb_3 (i := 110) rfl rfl
theorem wd_686 : (Jvm.Cond.methodLink "GluedHour$Republic" (54 : Nat) ({ cls := "GluedHour$Republic", name := "extraBy", desc := "(II)I" } : Jvm.MethodName)) ∈ lw_gd := tb_3 (i := 111) rfl rfl
theorem wd_687 : (Jvm.Cond.instanceMethod ({ cls := "GluedHour$Republic", name := "extraBy", desc := "(II)I" } : Jvm.MethodName)) ∈ lw_gd := tb_3 (i := 112) rfl rfl
theorem wd_688 : (Jvm.Cond.selects "GluedHour$Republic" ({ cls := "GluedHour$Republic", name := "extraBy", desc := "(II)I" } : Jvm.MethodName) ({ cls := "GluedHour$Republic", name := "extraBy", desc := "(II)I" } : Jvm.MethodName)) ∈ lw_gd := tb_3 (i := 113) rfl rfl
theorem wd_689 : (Jvm.Cond.code ({ cls := "GluedHour$Republic", name := "extraBy", desc := "(II)I" } : Jvm.MethodName) prog_8_method_12_code (3 : Nat) (Option.some Jvm.ClassFile.FieldType.int)) ∈ lw_gd := tb_3 (i := 114) rfl rfl
theorem wd_690 : (Jvm.Cond.methodLink "GluedHour" (118 : Nat) ({ cls := "GluedHour$Course", name := "poorest", desc := "()I" } : Jvm.MethodName)) ∈ lw_gd := tb_3 (i := 115) rfl rfl
theorem wd_691 : (Jvm.Cond.instanceMethod ({ cls := "GluedHour$Course", name := "poorest", desc := "()I" } : Jvm.MethodName)) ∈ lw_gd := tb_3 (i := 116) rfl rfl
theorem wd_692 : (Jvm.Cond.selects "GluedHour$Course" ({ cls := "GluedHour$Course", name := "poorest", desc := "()I" } : Jvm.MethodName) ({ cls := "GluedHour$Course", name := "poorest", desc := "()I" } : Jvm.MethodName)) ∈ lw_gd := tb_3 (i := 117) rfl rfl
theorem wd_693 : (Jvm.Cond.code ({ cls := "GluedHour$Course", name := "poorest", desc := "()I" } : Jvm.MethodName) prog_2_method_3_code (3 : Nat) (Option.some Jvm.ClassFile.FieldType.int)) ∈ lw_gd := tb_3 (i := 118) rfl rfl
theorem wd_694 : (Jvm.Cond.methodLink "GluedHour" (186 : Nat) ({ cls := "GluedHour$Odds", name := "weigh", desc := "(LGluedHour$Republic;I)V" } : Jvm.MethodName)) ∈ lw_gd := tb_3 (i := 119) rfl rfl
theorem wd_695 : (Jvm.Cond.instanceMethod ({ cls := "GluedHour$Odds", name := "weigh", desc := "(LGluedHour$Republic;I)V" } : Jvm.MethodName)) ∈ lw_gd := tb_3 (i := 120) rfl rfl
theorem wd_696 : (Jvm.Cond.selects "GluedHour$Odds" ({ cls := "GluedHour$Odds", name := "weigh", desc := "(LGluedHour$Republic;I)V" } : Jvm.MethodName) ({ cls := "GluedHour$Odds", name := "weigh", desc := "(LGluedHour$Republic;I)V" } : Jvm.MethodName)) ∈ lw_gd := tb_3 (i := 121) rfl rfl
theorem wd_697 : (Jvm.Cond.code ({ cls := "GluedHour$Odds", name := "weigh", desc := "(LGluedHour$Republic;I)V" } : Jvm.MethodName) prog_5_method_2_code (4 : Nat) (Option.none : Option Jvm.ClassFile.FieldType)) ∈ lw_gd := tb_3 (i := 122) rfl rfl
theorem wd_698 : (Jvm.Cond.methodLink "GluedHour$Odds" (25 : Nat) ({ cls := "GluedHour$Republic", name := "lotAt", desc := "(II)I" } : Jvm.MethodName)) ∈ lw_gd := tb_3 (i := 123) rfl rfl
theorem wd_699 : (Jvm.Cond.instanceMethod ({ cls := "GluedHour$Republic", name := "lotAt", desc := "(II)I" } : Jvm.MethodName)) ∈ lw_gd := tb_3 (i := 124) rfl rfl
theorem wd_700 : (Jvm.Cond.selects "GluedHour$Republic" ({ cls := "GluedHour$Republic", name := "lotAt", desc := "(II)I" } : Jvm.MethodName) ({ cls := "GluedHour$Republic", name := "lotAt", desc := "(II)I" } : Jvm.MethodName)) ∈ lw_gd := tb_3 (i := 125) rfl rfl
theorem wd_701 : (Jvm.Cond.code ({ cls := "GluedHour$Republic", name := "lotAt", desc := "(II)I" } : Jvm.MethodName) prog_8_method_8_code (3 : Nat) (Option.some Jvm.ClassFile.FieldType.int)) ∈ lw_gd := tb_3 (i := 126) rfl rfl
theorem wd_702 : (Jvm.Cond.methodLink "GluedHour" (103 : Nat) ({ cls := "GluedHour$Republic", name := "worthOf", desc := "(I)I" } : Jvm.MethodName)) ∈ lw_gd := tb_3 (i := 127) rfl rfl
theorem wd_703 : (Jvm.Cond.methodLink "GluedHour" (109 : Nat) ({ cls := "GluedHour$Republic", name := "modeOf", desc := "(I)I" } : Jvm.MethodName)) ∈ lw_gd := tb_3 (i := 128) rfl rfl
theorem wd_704 : (Jvm.Cond.methodLink "GluedHourLaw" (36 : Nat) ({ cls := "GluedHour", name := "person", desc := "(III)I" } : Jvm.MethodName)) ∈ lw_gd := tb_3 (i := 129) rfl rfl
theorem wd_705 : (Jvm.Cond.instanceMethod ({ cls := "GluedHour", name := "person", desc := "(III)I" } : Jvm.MethodName)) ∈ lw_gd := tb_3 (i := 130) rfl rfl
theorem wd_706 : (Jvm.Cond.selects "GluedHour" ({ cls := "GluedHour", name := "person", desc := "(III)I" } : Jvm.MethodName) ({ cls := "GluedHour", name := "person", desc := "(III)I" } : Jvm.MethodName)) ∈ lw_gd := tb_3 (i := 131) rfl rfl
theorem wd_707 : (Jvm.Cond.code ({ cls := "GluedHour", name := "person", desc := "(III)I" } : Jvm.MethodName) prog_1_method_7_code (5 : Nat) (Option.some Jvm.ClassFile.FieldType.int)) ∈ lw_gd := tb_3 (i := 132) rfl rfl
theorem wd_708 : (Jvm.Cond.methodLink "GluedHour" (125 : Nat) ({ cls := "GluedHour$Republic", name := "hasPerson", desc := "(I)Z" } : Jvm.MethodName)) ∈ lw_gd := tb_3 (i := 133) rfl rfl
theorem wd_709 : (Jvm.Cond.methodLink "GluedHour" (132 : Nat) ({ cls := "GluedHour$Republic", name := "deedAt", desc := "(II)I" } : Jvm.MethodName)) ∈ lw_gd := tb_3 (i := 134) rfl rfl
theorem wd_710 : (Jvm.Cond.methodLink "GluedHour" (136 : Nat) ({ cls := "GluedHour$Republic", name := "lotAt", desc := "(II)I" } : Jvm.MethodName)) ∈ lw_gd := tb_3 (i := 135) rfl rfl
theorem wd_711 : (Jvm.Cond.methodLink "GluedHourLaw" (41 : Nat) ({ cls := "GluedHour", name := "value", desc := "(III)I" } : Jvm.MethodName)) ∈ lw_gd := tb_3 (i := 136) rfl rfl
theorem wd_712 : (Jvm.Cond.instanceMethod ({ cls := "GluedHour", name := "value", desc := "(III)I" } : Jvm.MethodName)) ∈ lw_gd := tb_3 (i := 137) rfl rfl
theorem wd_713 : (Jvm.Cond.selects "GluedHour" ({ cls := "GluedHour", name := "value", desc := "(III)I" } : Jvm.MethodName) ({ cls := "GluedHour", name := "value", desc := "(III)I" } : Jvm.MethodName)) ∈ lw_gd := tb_3 (i := 138) rfl rfl
theorem wd_714 : (Jvm.Cond.code ({ cls := "GluedHour", name := "value", desc := "(III)I" } : Jvm.MethodName) prog_1_method_8_code (5 : Nat) (Option.some Jvm.ClassFile.FieldType.int)) ∈ lw_gd := tb_3 (i := 139) rfl rfl
theorem wd_715 : (Jvm.Cond.methodLink "GluedHour" (139 : Nat) ({ cls := "GluedHour$Republic", name := "hasPersonOrAll", desc := "(I)Z" } : Jvm.MethodName)) ∈ lw_gd := tb_3 (i := 140) rfl rfl
theorem wd_716 : (Jvm.Cond.instanceMethod ({ cls := "GluedHour$Republic", name := "hasPersonOrAll", desc := "(I)Z" } : Jvm.MethodName)) ∈ lw_gd := tb_3 (i := 141) rfl rfl
theorem wd_717 : (Jvm.Cond.selects "GluedHour$Republic" ({ cls := "GluedHour$Republic", name := "hasPersonOrAll", desc := "(I)Z" } : Jvm.MethodName) ({ cls := "GluedHour$Republic", name := "hasPersonOrAll", desc := "(I)Z" } : Jvm.MethodName)) ∈ lw_gd := tb_3 (i := 142) rfl rfl
theorem wd_718 : (Jvm.Cond.code ({ cls := "GluedHour$Republic", name := "hasPersonOrAll", desc := "(I)Z" } : Jvm.MethodName) prog_8_method_6_code (2 : Nat) (Option.some Jvm.ClassFile.FieldType.boolean)) ∈ lw_gd := tb_3 (i := 143) rfl rfl
theorem wd_719 : (Jvm.Cond.methodLink "GluedHour" (142 : Nat) ({ cls := "GluedHour$Republic", name := "hasHour", desc := "(I)Z" } : Jvm.MethodName)) ∈ lw_gd := tb_3 (i := 144) rfl rfl
theorem wd_720 : (Jvm.Cond.constant "GluedHour" (145 : Nat) (-1000000 : Int32)) ∈ lw_gd := tb_3 (i := 145) rfl rfl
theorem wd_721 : (Jvm.Cond.methodLink "GluedHour" (146 : Nat) ({ cls := "GluedHour$Course", name := "brings", desc := "(II)I" } : Jvm.MethodName)) ∈ lw_gd := tb_3 (i := 146) rfl rfl
theorem wd_722 : (Jvm.Cond.instanceMethod ({ cls := "GluedHour$Course", name := "brings", desc := "(II)I" } : Jvm.MethodName)) ∈ lw_gd := tb_3 (i := 147) rfl rfl
theorem wd_723 : (Jvm.Cond.selects "GluedHour$Course" ({ cls := "GluedHour$Course", name := "brings", desc := "(II)I" } : Jvm.MethodName) ({ cls := "GluedHour$Course", name := "brings", desc := "(II)I" } : Jvm.MethodName)) ∈ lw_gd := tb_3 (i := 148) rfl rfl
theorem wd_724 : (Jvm.Cond.code ({ cls := "GluedHour$Course", name := "brings", desc := "(II)I" } : Jvm.MethodName) prog_2_method_6_code (5 : Nat) (Option.some Jvm.ClassFile.FieldType.int)) ∈ lw_gd := tb_3 (i := 149) rfl rfl
theorem wd_725 : (Jvm.Cond.methodLink "GluedHourLaw" (45 : Nat) ({ cls := "GluedHour", name := "odds", desc := "(IIZ)I" } : Jvm.MethodName)) ∈ lw_gd := tb_3 (i := 150) rfl rfl
theorem wd_726 : (Jvm.Cond.instanceMethod ({ cls := "GluedHour", name := "odds", desc := "(IIZ)I" } : Jvm.MethodName)) ∈ lw_gd := tb_3 (i := 151) rfl rfl
theorem wd_727 : (Jvm.Cond.selects "GluedHour" ({ cls := "GluedHour", name := "odds", desc := "(IIZ)I" } : Jvm.MethodName) ({ cls := "GluedHour", name := "odds", desc := "(IIZ)I" } : Jvm.MethodName)) ∈ lw_gd := tb_3 (i := 152) rfl rfl
theorem wd_728 : (Jvm.Cond.code ({ cls := "GluedHour", name := "odds", desc := "(IIZ)I" } : Jvm.MethodName) prog_1_method_9_code (5 : Nat) (Option.some Jvm.ClassFile.FieldType.int)) ∈ lw_gd := tb_3 (i := 153) rfl rfl
theorem wd_729 : (Jvm.Cond.methodLink "GluedHour" (155 : Nat) ({ cls := "GluedHour$Fraction", name := "side", desc := "(JJZ)J" } : Jvm.MethodName)) ∈ lw_gd := tb_3 (i := 154) rfl rfl
theorem wd_730 : (Jvm.Cond.static ({ cls := "GluedHour$Fraction", name := "side", desc := "(JJZ)J" } : Jvm.MethodName)) ∈ lw_gd := tb_3 (i := 155) rfl rfl
theorem wd_731 : (Jvm.Cond.code ({ cls := "GluedHour$Fraction", name := "side", desc := "(JJZ)J" } : Jvm.MethodName) prog_3_method_5_code (7 : Nat) (Option.some Jvm.ClassFile.FieldType.long)) ∈ lw_gd := tb_3 (i := 156) rfl rfl
theorem wd_732 : (Jvm.Cond.methodLink "GluedHour$Fraction" (20 : Nat) ({ cls := "GluedHour$Fraction", name := "divisor", desc := "(JJ)J" } : Jvm.MethodName)) ∈ lw_gd := tb_3 (i := 157) rfl rfl
theorem wd_733 : (Jvm.Cond.static ({ cls := "GluedHour$Fraction", name := "divisor", desc := "(JJ)J" } : Jvm.MethodName)) ∈ lw_gd := tb_3 (i := 158) rfl rfl
theorem wd_734 : (Jvm.Cond.code ({ cls := "GluedHour$Fraction", name := "divisor", desc := "(JJ)J" } : Jvm.MethodName) prog_3_method_6_code (11 : Nat) (Option.some Jvm.ClassFile.FieldType.long)) ∈ lw_gd := tb_3 (i := 159) rfl rfl
theorem wd_735 : (Jvm.Cond.methodLink "GluedHour$Fraction" (28 : Nat) ({ cls := "java/lang/Math", name := "abs", desc := "(J)J" } : Jvm.MethodName)) ∈ lw_gd := tb_3 (i := 160) rfl rfl
theorem wd_736 : (Jvm.Cond.static ({ cls := "java/lang/Math", name := "abs", desc := "(J)J" } : Jvm.MethodName)) ∈ lw_gd := tb_3 (i := 161) rfl rfl
theorem wd_737 : (Jvm.Cond.code ({ cls := "java/lang/Math", name := "abs", desc := "(J)J" } : Jvm.MethodName) prog_13_method_61_code (2 : Nat) (Option.some Jvm.ClassFile.FieldType.long)) ∈ lw_gd := tb_3 (i := 162) rfl rfl
theorem wd_738 : (Jvm.Cond.methodLink "GluedHour$Fraction" (34 : Nat) ({ cls := "java/lang/Math", name := "max", desc := "(JJ)J" } : Jvm.MethodName)) ∈ lw_gd := tb_3 (i := 163) rfl rfl
theorem wd_739 : (Jvm.Cond.static ({ cls := "java/lang/Math", name := "max", desc := "(JJ)J" } : Jvm.MethodName)) ∈ lw_gd := tb_3 (i := 164) rfl rfl
theorem wd_740 : (Jvm.Cond.code ({ cls := "java/lang/Math", name := "max", desc := "(JJ)J" } : Jvm.MethodName) prog_13_method_66_code (4 : Nat) (Option.some Jvm.ClassFile.FieldType.long)) ∈ lw_gd := tb_3 (i := 165) rfl rfl
theorem wd_741 : (Jvm.Cond.methodLink "GluedHourLaw" (50 : Nat) ({ cls := "GluedHour", name := "day", desc := "(II)I" } : Jvm.MethodName)) ∈ lw_gd := tb_3 (i := 166) rfl rfl
theorem wd_742 : (Jvm.Cond.instanceMethod ({ cls := "GluedHour", name := "day", desc := "(II)I" } : Jvm.MethodName)) ∈ lw_gd := tb_3 (i := 167) rfl rfl
theorem wd_743 : (Jvm.Cond.selects "GluedHour" ({ cls := "GluedHour", name := "day", desc := "(II)I" } : Jvm.MethodName) ({ cls := "GluedHour", name := "day", desc := "(II)I" } : Jvm.MethodName)) ∈ lw_gd := tb_3 (i := 168) rfl rfl
theorem wd_744 : (Jvm.Cond.code ({ cls := "GluedHour", name := "day", desc := "(II)I" } : Jvm.MethodName) prog_1_method_10_code (4 : Nat) (Option.some Jvm.ClassFile.FieldType.int)) ∈ lw_gd := tb_3 (i := 169) rfl rfl
theorem wd_745 : (Jvm.Cond.methodLink "GluedHour" (159 : Nat) ({ cls := "GluedHour$Told", name := "linesAt", desc := "(II)LGluedHour$Lines;" } : Jvm.MethodName)) ∈ lw_gd := tb_3 (i := 170) rfl rfl
theorem wd_746 : (Jvm.Cond.instanceMethod ({ cls := "GluedHour$Told", name := "linesAt", desc := "(II)LGluedHour$Lines;" } : Jvm.MethodName)) ∈ lw_gd := tb_3 (i := 171) rfl rfl
theorem wd_747 : (Jvm.Cond.selects "GluedHour$Told" ({ cls := "GluedHour$Told", name := "linesAt", desc := "(II)LGluedHour$Lines;" } : Jvm.MethodName) ({ cls := "GluedHour$Told", name := "linesAt", desc := "(II)LGluedHour$Lines;" } : Jvm.MethodName)) ∈ lw_gd := tb_3 (i := 172) rfl rfl
theorem wd_748 : (Jvm.Cond.code ({ cls := "GluedHour$Told", name := "linesAt", desc := "(II)LGluedHour$Lines;" } : Jvm.MethodName) prog_10_method_4_code (3 : Nat) (Option.some (Jvm.ClassFile.FieldType.object "GluedHour$Lines"))) ∈ lw_gd := tb_3 (i := 173) rfl rfl
theorem wd_749 : (Jvm.Cond.methodLink "GluedHour" (168 : Nat) ({ cls := "GluedHour$Lines", name := "has", desc := "(I)Z" } : Jvm.MethodName)) ∈ lw_gd := tb_3 (i := 174) rfl rfl
theorem wd_750 : (Jvm.Cond.instanceMethod ({ cls := "GluedHour$Lines", name := "has", desc := "(I)Z" } : Jvm.MethodName)) ∈ lw_gd := tb_3 (i := 175) rfl rfl
theorem wd_751 : (Jvm.Cond.selects "GluedHour$Lines" ({ cls := "GluedHour$Lines", name := "has", desc := "(I)Z" } : Jvm.MethodName) ({ cls := "GluedHour$Lines", name := "has", desc := "(I)Z" } : Jvm.MethodName)) ∈ lw_gd := tb_3 (i := 176) rfl rfl
theorem wd_752 : (Jvm.Cond.code ({ cls := "GluedHour$Lines", name := "has", desc := "(I)Z" } : Jvm.MethodName) prog_4_method_2_code (2 : Nat) (Option.some Jvm.ClassFile.FieldType.boolean)) ∈ lw_gd := tb_3 (i := 177) rfl rfl
theorem wd_753 : (Jvm.Cond.methodLink "GluedHour" (171 : Nat) ({ cls := "GluedHour$Lines", name := "cell", desc := "(II)I" } : Jvm.MethodName)) ∈ lw_gd := tb_3 (i := 178) rfl rfl
theorem wd_754 : (Jvm.Cond.instanceMethod ({ cls := "GluedHour$Lines", name := "cell", desc := "(II)I" } : Jvm.MethodName)) ∈ lw_gd := tb_3 (i := 179) rfl rfl
theorem wd_755 : (Jvm.Cond.selects "GluedHour$Lines" ({ cls := "GluedHour$Lines", name := "cell", desc := "(II)I" } : Jvm.MethodName) ({ cls := "GluedHour$Lines", name := "cell", desc := "(II)I" } : Jvm.MethodName)) ∈ lw_gd := tb_3 (i := 180) rfl rfl
theorem wd_756 : (Jvm.Cond.code ({ cls := "GluedHour$Lines", name := "cell", desc := "(II)I" } : Jvm.MethodName) prog_4_method_3_code (3 : Nat) (Option.some Jvm.ClassFile.FieldType.int)) ∈ lw_gd := tb_3 (i := 181) rfl rfl
theorem wd_757 : (Jvm.Cond.methodLink "GluedHour$Lines" (31 : Nat) ({ cls := "GluedHour$Lines", name := "has", desc := "(I)Z" } : Jvm.MethodName)) ∈ lw_gd := tb_3 (i := 182) rfl rfl
theorem wd_758 : (Jvm.Cond.methodLink "GluedHourLaw" (54 : Nat) ({ cls := "GluedHour", name := "purse", desc := "(IIII)I" } : Jvm.MethodName)) ∈ lw_gd := tb_3 (i := 183) rfl rfl
theorem wd_759 : (Jvm.Cond.instanceMethod ({ cls := "GluedHour", name := "purse", desc := "(IIII)I" } : Jvm.MethodName)) ∈ lw_gd := tb_3 (i := 184) rfl rfl
theorem wd_760 : (Jvm.Cond.selects "GluedHour" ({ cls := "GluedHour", name := "purse", desc := "(IIII)I" } : Jvm.MethodName) ({ cls := "GluedHour", name := "purse", desc := "(IIII)I" } : Jvm.MethodName)) ∈ lw_gd := tb_3 (i := 185) rfl rfl
theorem wd_761 : (Jvm.Cond.code ({ cls := "GluedHour", name := "purse", desc := "(IIII)I" } : Jvm.MethodName) prog_1_method_11_code (8 : Nat) (Option.some Jvm.ClassFile.FieldType.int)) ∈ lw_gd := tb_3 (i := 186) rfl rfl
theorem wd_762 : (Jvm.Cond.methodLink "GluedHour" (174 : Nat) ({ cls := "GluedHour", name := "stops", desc := "(LGluedHour$Republic;LGluedHour$Lines;I)Z" } : Jvm.MethodName)) ∈ lw_gd := tb_3 (i := 187) rfl rfl
theorem wd_763 : (Jvm.Cond.static ({ cls := "GluedHour", name := "stops", desc := "(LGluedHour$Republic;LGluedHour$Lines;I)Z" } : Jvm.MethodName)) ∈ lw_gd := tb_3 (i := 188) rfl rfl
theorem wd_764 : (Jvm.Cond.code ({ cls := "GluedHour", name := "stops", desc := "(LGluedHour$Republic;LGluedHour$Lines;I)Z" } : Jvm.MethodName) prog_1_method_40_code (4 : Nat) (Option.some Jvm.ClassFile.FieldType.boolean)) ∈ lw_gd := tb_3 (i := 189) rfl rfl
theorem wd_765 : (Jvm.Cond.methodLink "GluedHour" (178 : Nat) ({ cls := "GluedHour$Course", name := "live", desc := "(I)V" } : Jvm.MethodName)) ∈ lw_gd := tb_3 (i := 190) rfl rfl
theorem wd_766 : (Jvm.Cond.instanceMethod ({ cls := "GluedHour$Course", name := "live", desc := "(I)V" } : Jvm.MethodName)) ∈ lw_gd := tb_3 (i := 191) rfl rfl
theorem wd_767 : (Jvm.Cond.selects "GluedHour$Course" ({ cls := "GluedHour$Course", name := "live", desc := "(I)V" } : Jvm.MethodName) ({ cls := "GluedHour$Course", name := "live", desc := "(I)V" } : Jvm.MethodName)) ∈ lw_gd := tb_3 (i := 192) rfl rfl
theorem wd_768 : (Jvm.Cond.code ({ cls := "GluedHour$Course", name := "live", desc := "(I)V" } : Jvm.MethodName) prog_2_method_4_code (3 : Nat) (Option.none : Option Jvm.ClassFile.FieldType)) ∈ lw_gd := tb_3 (i := 193) rfl rfl
theorem wd_769 : (Jvm.Cond.methodLink "GluedHour$Course" (43 : Nat) ({ cls := "GluedHour$Course", name := "brings", desc := "(II)I" } : Jvm.MethodName)) ∈ lw_gd := tb_3 (i := 194) rfl rfl
theorem wd_770 : (Jvm.Cond.methodLink "GluedHourLaw" (59 : Nat) ({ cls := "GluedHour", name := "likely", desc := "(IIIZ)J" } : Jvm.MethodName)) ∈ lw_gd := tb_3 (i := 195) rfl rfl
theorem wd_771 : (Jvm.Cond.instanceMethod ({ cls := "GluedHour", name := "likely", desc := "(IIIZ)J" } : Jvm.MethodName)) ∈ lw_gd := tb_3 (i := 196) rfl rfl
theorem wd_772 : (Jvm.Cond.selects "GluedHour" ({ cls := "GluedHour", name := "likely", desc := "(IIIZ)J" } : Jvm.MethodName) ({ cls := "GluedHour", name := "likely", desc := "(IIIZ)J" } : Jvm.MethodName)) ∈ lw_gd := tb_3 (i := 197) rfl rfl
theorem wd_773 : (Jvm.Cond.code ({ cls := "GluedHour", name := "likely", desc := "(IIIZ)J" } : Jvm.MethodName) prog_1_method_12_code (13 : Nat) (Option.some Jvm.ClassFile.FieldType.long)) ∈ lw_gd := tb_3 (i := 198) rfl rfl
theorem wd_774 : (Jvm.Cond.constantLong "GluedHour" (184 : Nat) (-1 : Int64)) ∈ lw_gd := tb_3 (i := 199) rfl rfl
theorem wd_775 : (Jvm.Cond.methodLink "GluedHourLaw" (64 : Nat) ({ cls := "GluedHour", name := "drawn", desc := "(IIII)I" } : Jvm.MethodName)) ∈ lw_gd := tb_3 (i := 200) rfl rfl
theorem wd_776 : (Jvm.Cond.instanceMethod ({ cls := "GluedHour", name := "drawn", desc := "(IIII)I" } : Jvm.MethodName)) ∈ lw_gd := tb_3 (i := 201) rfl rfl
theorem wd_777 : (Jvm.Cond.selects "GluedHour" ({ cls := "GluedHour", name := "drawn", desc := "(IIII)I" } : Jvm.MethodName) ({ cls := "GluedHour", name := "drawn", desc := "(IIII)I" } : Jvm.MethodName)) ∈ lw_gd := tb_3 (i := 202) rfl rfl
theorem wd_778 : (Jvm.Cond.code ({ cls := "GluedHour", name := "drawn", desc := "(IIII)I" } : Jvm.MethodName) prog_1_method_13_code (11 : Nat) (Option.some Jvm.ClassFile.FieldType.int)) ∈ lw_gd := tb_3 (i := 203) rfl rfl
theorem wd_779 : (Jvm.Cond.constant "GluedHour" (190 : Nat) (1103515245 : Int32)) ∈ lw_gd := tb_3 (i := 204) rfl rfl
theorem wd_780 : (Jvm.Cond.methodLink "GluedHour" (191 : Nat) ({ cls := "GluedHour$Odds", name := "hourOf", desc := "(I)I" } : Jvm.MethodName)) ∈ lw_gd := tb_3 (i := 205) rfl rfl
theorem wd_781 : (Jvm.Cond.instanceMethod ({ cls := "GluedHour$Odds", name := "hourOf", desc := "(I)I" } : Jvm.MethodName)) ∈ lw_gd := tb_3 (i := 206) rfl rfl
theorem wd_782 : (Jvm.Cond.selects "GluedHour$Odds" ({ cls := "GluedHour$Odds", name := "hourOf", desc := "(I)I" } : Jvm.MethodName) ({ cls := "GluedHour$Odds", name := "hourOf", desc := "(I)I" } : Jvm.MethodName)) ∈ lw_gd := tb_3 (i := 207) rfl rfl
theorem wd_783 : (Jvm.Cond.code ({ cls := "GluedHour$Odds", name := "hourOf", desc := "(I)I" } : Jvm.MethodName) prog_5_method_4_code (4 : Nat) (Option.some Jvm.ClassFile.FieldType.int)) ∈ lw_gd := tb_3 (i := 208) rfl rfl
theorem wd_784 : (Jvm.Cond.methodLink "GluedHourLaw" (68 : Nat) ({ cls := "GluedHour", name := "mean", desc := "(IIZ)I" } : Jvm.MethodName)) ∈ lw_gd := tb_3 (i := 209) rfl rfl
theorem wd_785 : (Jvm.Cond.instanceMethod ({ cls := "GluedHour", name := "mean", desc := "(IIZ)I" } : Jvm.MethodName)) ∈ lw_gd := tb_3 (i := 210) rfl rfl
theorem wd_786 : (Jvm.Cond.selects "GluedHour" ({ cls := "GluedHour", name := "mean", desc := "(IIZ)I" } : Jvm.MethodName) ({ cls := "GluedHour", name := "mean", desc := "(IIZ)I" } : Jvm.MethodName)) ∈ lw_gd := tb_3 (i := 211) rfl rfl
theorem wd_787 : (Jvm.Cond.code ({ cls := "GluedHour", name := "mean", desc := "(IIZ)I" } : Jvm.MethodName) prog_1_method_14_code (5 : Nat) (Option.some Jvm.ClassFile.FieldType.int)) ∈ lw_gd := tb_3 (i := 212) rfl rfl
theorem wd_788 : (Jvm.Cond.methodLink "GluedHour" (194 : Nat) ({ cls := "GluedHour$Course", name := "weighed", desc := "(ILGluedHour$Odds;)J" } : Jvm.MethodName)) ∈ lw_gd := tb_3 (i := 213) rfl rfl
theorem wd_789 : (Jvm.Cond.instanceMethod ({ cls := "GluedHour$Course", name := "weighed", desc := "(ILGluedHour$Odds;)J" } : Jvm.MethodName)) ∈ lw_gd := tb_3 (i := 214) rfl rfl
theorem wd_790 : (Jvm.Cond.selects "GluedHour$Course" ({ cls := "GluedHour$Course", name := "weighed", desc := "(ILGluedHour$Odds;)J" } : Jvm.MethodName) ({ cls := "GluedHour$Course", name := "weighed", desc := "(ILGluedHour$Odds;)J" } : Jvm.MethodName)) ∈ lw_gd := tb_3 (i := 215) rfl rfl
theorem wd_791 : (Jvm.Cond.code ({ cls := "GluedHour$Course", name := "weighed", desc := "(ILGluedHour$Odds;)J" } : Jvm.MethodName) prog_2_method_8_code (6 : Nat) (Option.some Jvm.ClassFile.FieldType.long)) ∈ lw_gd := tb_3 (i := 216) rfl rfl
theorem wd_792 : (Jvm.Cond.methodLink "GluedHourLaw" (72 : Nat) ({ cls := "GluedHour", name := "gain", desc := "(IIIZ)I" } : Jvm.MethodName)) ∈ lw_gd := tb_3 (i := 217) rfl rfl
theorem wd_793 : (Jvm.Cond.instanceMethod ({ cls := "GluedHour", name := "gain", desc := "(IIIZ)I" } : Jvm.MethodName)) ∈ lw_gd := tb_3 (i := 218) rfl rfl
theorem wd_794 : (Jvm.Cond.selects "GluedHour" ({ cls := "GluedHour", name := "gain", desc := "(IIIZ)I" } : Jvm.MethodName) ({ cls := "GluedHour", name := "gain", desc := "(IIIZ)I" } : Jvm.MethodName)) ∈ lw_gd := tb_3 (i := 219) rfl rfl
theorem wd_795 : (Jvm.Cond.code ({ cls := "GluedHour", name := "gain", desc := "(IIIZ)I" } : Jvm.MethodName) prog_1_method_15_code (6 : Nat) (Option.some Jvm.ClassFile.FieldType.int)) ∈ lw_gd := tb_3 (i := 220) rfl rfl
theorem wd_796 : (Jvm.Cond.methodLink "GluedHour" (198 : Nat) ({ cls := "GluedHour", name := "gainBy", desc := "(II)J" } : Jvm.MethodName)) ∈ lw_gd := tb_3 (i := 221) rfl rfl
theorem wd_798 : (Jvm.Cond.instanceMethod ({ cls := "GluedHour", name := "gainBy", desc := "(II)J" } : Jvm.MethodName)) ∈ lw_gd := tb_3 (i := 223) rfl rfl
theorem wd_799 : (Jvm.Cond.code ({ cls := "GluedHour", name := "gainBy", desc := "(II)J" } : Jvm.MethodName) prog_1_method_41_code (3 : Nat) (Option.some Jvm.ClassFile.FieldType.long)) ∈ lw_gd := tb_3 (i := 224) rfl rfl
theorem wd_800 : (Jvm.Cond.methodLink "GluedHourLaw" (77 : Nat) ({ cls := "GluedHour", name := "wish", desc := "(II)I" } : Jvm.MethodName)) ∈ lw_gd := tb_3 (i := 225) rfl rfl
theorem wd_801 : (Jvm.Cond.instanceMethod ({ cls := "GluedHour", name := "wish", desc := "(II)I" } : Jvm.MethodName)) ∈ lw_gd := tb_3 (i := 226) rfl rfl
theorem wd_802 : (Jvm.Cond.selects "GluedHour" ({ cls := "GluedHour", name := "wish", desc := "(II)I" } : Jvm.MethodName) ({ cls := "GluedHour", name := "wish", desc := "(II)I" } : Jvm.MethodName)) ∈ lw_gd := tb_3 (i := 227) rfl rfl
theorem wd_803 : (Jvm.Cond.code ({ cls := "GluedHour", name := "wish", desc := "(II)I" } : Jvm.MethodName) prog_1_method_16_code (4 : Nat) (Option.some Jvm.ClassFile.FieldType.int)) ∈ lw_gd := tb_3 (i := 228) rfl rfl
theorem wd_804 : (Jvm.Cond.methodLink "GluedHour" (202 : Nat) ({ cls := "GluedHour$Course", name := "bestHour", desc := "(I)I" } : Jvm.MethodName)) ∈ lw_gd := tb_3 (i := 229) rfl rfl
theorem wd_805 : (Jvm.Cond.instanceMethod ({ cls := "GluedHour$Course", name := "bestHour", desc := "(I)I" } : Jvm.MethodName)) ∈ lw_gd := tb_3 (i := 230) rfl rfl
theorem wd_806 : (Jvm.Cond.selects "GluedHour$Course" ({ cls := "GluedHour$Course", name := "bestHour", desc := "(I)I" } : Jvm.MethodName) ({ cls := "GluedHour$Course", name := "bestHour", desc := "(I)I" } : Jvm.MethodName)) ∈ lw_gd := tb_3 (i := 231) rfl rfl
theorem wd_807 : (Jvm.Cond.code ({ cls := "GluedHour$Course", name := "bestHour", desc := "(I)I" } : Jvm.MethodName) prog_2_method_7_code (6 : Nat) (Option.some Jvm.ClassFile.FieldType.int)) ∈ lw_gd := tb_3 (i := 232) rfl rfl
theorem wd_808 : (Jvm.Cond.methodLink "GluedHourLaw" (81 : Nat) ({ cls := "GluedHour", name := "buyer", desc := "(II)I" } : Jvm.MethodName)) ∈ lw_gd := tb_3 (i := 233) rfl rfl
theorem wd_809 : (Jvm.Cond.instanceMethod ({ cls := "GluedHour", name := "buyer", desc := "(II)I" } : Jvm.MethodName)) ∈ lw_gd := tb_3 (i := 234) rfl rfl
theorem wd_810 : (Jvm.Cond.selects "GluedHour" ({ cls := "GluedHour", name := "buyer", desc := "(II)I" } : Jvm.MethodName) ({ cls := "GluedHour", name := "buyer", desc := "(II)I" } : Jvm.MethodName)) ∈ lw_gd := tb_3 (i := 235) rfl rfl
theorem wd_811 : (Jvm.Cond.code ({ cls := "GluedHour", name := "buyer", desc := "(II)I" } : Jvm.MethodName) prog_1_method_17_code (12 : Nat) (Option.some Jvm.ClassFile.FieldType.int)) ∈ lw_gd := tb_3 (i := 236) rfl rfl
theorem wd_812 : (Jvm.Cond.methodLink "GluedHour" (205 : Nat) ({ cls := "java/lang/Math", name := "max", desc := "(JJ)J" } : Jvm.MethodName)) ∈ lw_gd := tb_3 (i := 237) rfl rfl
theorem wd_813 : (Jvm.Cond.methodLink "GluedHourLaw" (85 : Nat) ({ cls := "GluedHour", name := "promise", desc := "(IIIZ)I" } : Jvm.MethodName)) ∈ lw_gd := tb_3 (i := 238) rfl rfl
theorem wd_814 : (Jvm.Cond.instanceMethod ({ cls := "GluedHour", name := "promise", desc := "(IIIZ)I" } : Jvm.MethodName)) ∈ lw_gd := tb_3 (i := 239) rfl rfl
theorem wd_815 : (Jvm.Cond.selects "GluedHour" ({ cls := "GluedHour", name := "promise", desc := "(IIIZ)I" } : Jvm.MethodName) ({ cls := "GluedHour", name := "promise", desc := "(IIIZ)I" } : Jvm.MethodName)) ∈ lw_gd := tb_4 (i := 0) rfl rfl
theorem wd_816 : (Jvm.Cond.code ({ cls := "GluedHour", name := "promise", desc := "(IIIZ)I" } : Jvm.MethodName) prog_1_method_18_code (10 : Nat) (Option.some Jvm.ClassFile.FieldType.int)) ∈ lw_gd := tb_4 (i := 1) rfl rfl
theorem wd_817 : (Jvm.Cond.methodLink "GluedHour" (211 : Nat) ({ cls := "GluedHour$Republic", name := "extraOf", desc := "(I)I" } : Jvm.MethodName)) ∈ lw_gd := tb_4 (i := 2) rfl rfl
theorem wd_818 : (Jvm.Cond.methodLink "GluedHourLaw" (89 : Nat) ({ cls := "GluedHour", name := "two", desc := "(IIII)I" } : Jvm.MethodName)) ∈ lw_gd := tb_4 (i := 3) rfl rfl
theorem wd_819 : (Jvm.Cond.instanceMethod ({ cls := "GluedHour", name := "two", desc := "(IIII)I" } : Jvm.MethodName)) ∈ lw_gd := tb_4 (i := 4) rfl rfl
theorem wd_820 : (Jvm.Cond.selects "GluedHour" ({ cls := "GluedHour", name := "two", desc := "(IIII)I" } : Jvm.MethodName) ({ cls := "GluedHour", name := "two", desc := "(IIII)I" } : Jvm.MethodName)) ∈ lw_gd := tb_4 (i := 5) rfl rfl
theorem wd_821 : (Jvm.Cond.code ({ cls := "GluedHour", name := "two", desc := "(IIII)I" } : Jvm.MethodName) prog_1_method_19_code (8 : Nat) (Option.some Jvm.ClassFile.FieldType.int)) ∈ lw_gd := tb_4 (i := 6) rfl rfl
theorem wd_822 : (Jvm.Cond.methodLink "GluedHour" (214 : Nat) ({ cls := "GluedHour$Republic", name := "worthOfDeeds", desc := "(I)I" } : Jvm.MethodName)) ∈ lw_gd := tb_4 (i := 7) rfl rfl
theorem wd_823 : (Jvm.Cond.methodLink "GluedHourLaw" (93 : Nat) ({ cls := "GluedHour", name := "shift", desc := "(III)I" } : Jvm.MethodName)) ∈ lw_gd := tb_4 (i := 8) rfl rfl
theorem wd_824 : (Jvm.Cond.instanceMethod ({ cls := "GluedHour", name := "shift", desc := "(III)I" } : Jvm.MethodName)) ∈ lw_gd := tb_4 (i := 9) rfl rfl
theorem wd_825 : (Jvm.Cond.selects "GluedHour" ({ cls := "GluedHour", name := "shift", desc := "(III)I" } : Jvm.MethodName) ({ cls := "GluedHour", name := "shift", desc := "(III)I" } : Jvm.MethodName)) ∈ lw_gd := tb_4 (i := 10) rfl rfl
theorem wd_826 : (Jvm.Cond.code ({ cls := "GluedHour", name := "shift", desc := "(III)I" } : Jvm.MethodName) prog_1_method_20_code (14 : Nat) (Option.some Jvm.ClassFile.FieldType.int)) ∈ lw_gd := tb_4 (i := 11) rfl rfl
theorem wd_827 : (Jvm.Cond.methodLink "GluedHourLaw" (97 : Nat) ({ cls := "GluedHour", name := "feud", desc := "(II)I" } : Jvm.MethodName)) ∈ lw_gd := tb_4 (i := 12) rfl rfl
theorem wd_828 : (Jvm.Cond.instanceMethod ({ cls := "GluedHour", name := "feud", desc := "(II)I" } : Jvm.MethodName)) ∈ lw_gd := tb_4 (i := 13) rfl rfl
theorem wd_829 : (Jvm.Cond.selects "GluedHour" ({ cls := "GluedHour", name := "feud", desc := "(II)I" } : Jvm.MethodName) ({ cls := "GluedHour", name := "feud", desc := "(II)I" } : Jvm.MethodName)) ∈ lw_gd := tb_4 (i := 14) rfl rfl
theorem wd_830 : (Jvm.Cond.code ({ cls := "GluedHour", name := "feud", desc := "(II)I" } : Jvm.MethodName) prog_1_method_21_code (10 : Nat) (Option.some Jvm.ClassFile.FieldType.int)) ∈ lw_gd := tb_4 (i := 15) rfl rfl
theorem wd_831 : (Jvm.Cond.methodLink "GluedHour" (217 : Nat) ({ cls := "GluedHour$Course", name := "apart", desc := "(II)I" } : Jvm.MethodName)) ∈ lw_gd := tb_4 (i := 16) rfl rfl
theorem wd_832 : (Jvm.Cond.instanceMethod ({ cls := "GluedHour$Course", name := "apart", desc := "(II)I" } : Jvm.MethodName)) ∈ lw_gd := tb_4 (i := 17) rfl rfl
theorem wd_833 : (Jvm.Cond.selects "GluedHour$Course" ({ cls := "GluedHour$Course", name := "apart", desc := "(II)I" } : Jvm.MethodName) ({ cls := "GluedHour$Course", name := "apart", desc := "(II)I" } : Jvm.MethodName)) ∈ lw_gd := tb_4 (i := 18) rfl rfl
theorem wd_834 : (Jvm.Cond.code ({ cls := "GluedHour$Course", name := "apart", desc := "(II)I" } : Jvm.MethodName) prog_2_method_9_code (5 : Nat) (Option.some Jvm.ClassFile.FieldType.int)) ∈ lw_gd := tb_4 (i := 19) rfl rfl
theorem wd_835 : (Jvm.Cond.methodLink "GluedHour$Course" (51 : Nat) ({ cls := "java/lang/Math", name := "abs", desc := "(I)I" } : Jvm.MethodName)) ∈ lw_gd := tb_4 (i := 20) rfl rfl
theorem wd_836 : (Jvm.Cond.static ({ cls := "java/lang/Math", name := "abs", desc := "(I)I" } : Jvm.MethodName)) ∈ lw_gd := tb_4 (i := 21) rfl rfl
theorem wd_837 : (Jvm.Cond.code ({ cls := "java/lang/Math", name := "abs", desc := "(I)I" } : Jvm.MethodName) prog_13_method_59_code (1 : Nat) (Option.some Jvm.ClassFile.FieldType.int)) ∈ lw_gd := tb_4 (i := 22) rfl rfl
theorem wd_838 : (Jvm.Cond.methodLink "GluedHourLaw" (101 : Nat) ({ cls := "GluedHour", name := "errand", desc := "(III)I" } : Jvm.MethodName)) ∈ lw_gd := tb_4 (i := 23) rfl rfl
theorem wd_839 : (Jvm.Cond.instanceMethod ({ cls := "GluedHour", name := "errand", desc := "(III)I" } : Jvm.MethodName)) ∈ lw_gd := tb_4 (i := 24) rfl rfl
theorem wd_840 : (Jvm.Cond.selects "GluedHour" ({ cls := "GluedHour", name := "errand", desc := "(III)I" } : Jvm.MethodName) ({ cls := "GluedHour", name := "errand", desc := "(III)I" } : Jvm.MethodName)) ∈ lw_gd := tb_4 (i := 25) rfl rfl
theorem wd_841 : (Jvm.Cond.code ({ cls := "GluedHour", name := "errand", desc := "(III)I" } : Jvm.MethodName) prog_1_method_22_code (4 : Nat) (Option.some Jvm.ClassFile.FieldType.int)) ∈ lw_gd := tb_4 (i := 26) rfl rfl
theorem wd_842 : (Jvm.Cond.methodLink "GluedHour" (220 : Nat) ({ cls := "GluedHour$Told", name := "lineCell", desc := "(IIIII)I" } : Jvm.MethodName)) ∈ lw_gd := tb_4 (i := 27) rfl rfl
theorem wd_843 : (Jvm.Cond.instanceMethod ({ cls := "GluedHour$Told", name := "lineCell", desc := "(IIIII)I" } : Jvm.MethodName)) ∈ lw_gd := tb_4 (i := 28) rfl rfl
theorem wd_844 : (Jvm.Cond.selects "GluedHour$Told" ({ cls := "GluedHour$Told", name := "lineCell", desc := "(IIIII)I" } : Jvm.MethodName) ({ cls := "GluedHour$Told", name := "lineCell", desc := "(IIIII)I" } : Jvm.MethodName)) ∈ lw_gd := tb_4 (i := 29) rfl rfl
theorem wd_845 : (Jvm.Cond.code ({ cls := "GluedHour$Told", name := "lineCell", desc := "(IIIII)I" } : Jvm.MethodName) prog_10_method_5_code (7 : Nat) (Option.some Jvm.ClassFile.FieldType.int)) ∈ lw_gd := tb_4 (i := 30) rfl rfl
theorem wd_846 : (Jvm.Cond.methodLink "GluedHour$Told" (45 : Nat) ({ cls := "GluedHour$Told", name := "linesAt", desc := "(II)LGluedHour$Lines;" } : Jvm.MethodName)) ∈ lw_gd := tb_4 (i := 31) rfl rfl
theorem wd_847 : (Jvm.Cond.methodLink "GluedHour$Told" (52 : Nat) ({ cls := "GluedHour$Lines", name := "has", desc := "(I)Z" } : Jvm.MethodName)) ∈ lw_gd := tb_4 (i := 32) rfl rfl
theorem wd_848 : (Jvm.Cond.methodLink "GluedHour$Told" (59 : Nat) ({ cls := "GluedHour$Lines", name := "cell", desc := "(II)I" } : Jvm.MethodName)) ∈ lw_gd := tb_4 (i := 33) rfl rfl
theorem wd_849 : (Jvm.Cond.methodLink "GluedHourLaw" (105 : Nat) ({ cls := "GluedHour", name := "plan", desc := "(III)I" } : Jvm.MethodName)) ∈ lw_gd := tb_4 (i := 34) rfl rfl
theorem wd_850 : (Jvm.Cond.instanceMethod ({ cls := "GluedHour", name := "plan", desc := "(III)I" } : Jvm.MethodName)) ∈ lw_gd := tb_4 (i := 35) rfl rfl
theorem wd_851 : (Jvm.Cond.selects "GluedHour" ({ cls := "GluedHour", name := "plan", desc := "(III)I" } : Jvm.MethodName) ({ cls := "GluedHour", name := "plan", desc := "(III)I" } : Jvm.MethodName)) ∈ lw_gd := tb_4 (i := 36) rfl rfl
theorem wd_852 : (Jvm.Cond.code ({ cls := "GluedHour", name := "plan", desc := "(III)I" } : Jvm.MethodName) prog_1_method_23_code (6 : Nat) (Option.some Jvm.ClassFile.FieldType.int)) ∈ lw_gd := tb_4 (i := 37) rfl rfl
theorem wd_853 : (Jvm.Cond.methodLink "GluedHour" (224 : Nat) ({ cls := "GluedHour$Planner", name := "planBlind", desc := "(LGluedHour$Republic;LGluedHour$Odds;LGluedHour$Lines;)Z" } : Jvm.MethodName)) ∈ lw_gd := tb_4 (i := 38) rfl rfl
theorem wd_854 : (Jvm.Cond.instanceMethod ({ cls := "GluedHour$Planner", name := "planBlind", desc := "(LGluedHour$Republic;LGluedHour$Odds;LGluedHour$Lines;)Z" } : Jvm.MethodName)) ∈ lw_gd := tb_4 (i := 39) rfl rfl
theorem wd_855 : (Jvm.Cond.selects "GluedHour$Planner" ({ cls := "GluedHour$Planner", name := "planBlind", desc := "(LGluedHour$Republic;LGluedHour$Odds;LGluedHour$Lines;)Z" } : Jvm.MethodName) ({ cls := "GluedHour$Planner", name := "planBlind", desc := "(LGluedHour$Republic;LGluedHour$Odds;LGluedHour$Lines;)Z" } : Jvm.MethodName)) ∈ lw_gd := tb_4 (i := 40) rfl rfl
theorem wd_856 : (Jvm.Cond.code ({ cls := "GluedHour$Planner", name := "planBlind", desc := "(LGluedHour$Republic;LGluedHour$Odds;LGluedHour$Lines;)Z" } : Jvm.MethodName) prog_6_method_2_code (4 : Nat) (Option.some Jvm.ClassFile.FieldType.boolean)) ∈ lw_gd := tb_4 (i := 41) rfl rfl
theorem wd_857 : (Jvm.Cond.methodLink "GluedHour$Planner" (46 : Nat) ({ cls := "GluedHour$Planner", name := "choose", desc := "(LGluedHour$Republic;LGluedHour$Odds;LGluedHour$Lines;Z)Z" } : Jvm.MethodName)) ∈ lw_gd := tb_4 (i := 42) rfl rfl
theorem wd_858 : (Jvm.Cond.instanceMethod ({ cls := "GluedHour$Planner", name := "choose", desc := "(LGluedHour$Republic;LGluedHour$Odds;LGluedHour$Lines;Z)Z" } : Jvm.MethodName)) ∈ lw_gd := tb_4 (i := 43) rfl rfl
theorem wd_859 : (Jvm.Cond.selects "GluedHour$Planner" ({ cls := "GluedHour$Planner", name := "choose", desc := "(LGluedHour$Republic;LGluedHour$Odds;LGluedHour$Lines;Z)Z" } : Jvm.MethodName) ({ cls := "GluedHour$Planner", name := "choose", desc := "(LGluedHour$Republic;LGluedHour$Odds;LGluedHour$Lines;Z)Z" } : Jvm.MethodName)) ∈ lw_gd := tb_4 (i := 44) rfl rfl
theorem wd_860 : (Jvm.Cond.code ({ cls := "GluedHour$Planner", name := "choose", desc := "(LGluedHour$Republic;LGluedHour$Odds;LGluedHour$Lines;Z)Z" } : Jvm.MethodName) prog_6_method_5_code (10 : Nat) (Option.some Jvm.ClassFile.FieldType.boolean)) ∈ lw_gd := tb_4 (i := 45) rfl rfl
theorem wd_861 : (Jvm.Cond.methodLink "GluedHour$Planner" (88 : Nat) ({ cls := "java/lang/Math", name := "min", desc := "(II)I" } : Jvm.MethodName)) ∈ lw_gd := tb_4 (i := 46) rfl rfl
theorem wd_862 : (Jvm.Cond.constantLong "GluedHour$Planner" (93 : Nat) (-1152921504606846976 : Int64)) ∈ lw_gd := tb_4 (i := 47) rfl rfl
theorem wd_863 : (Jvm.Cond.methodLink "GluedHour$Planner" (77 : Nat) ({ cls := "GluedHour$Lines", name := "cell", desc := "(II)I" } : Jvm.MethodName)) ∈ lw_gd := tb_4 (i := 48) rfl rfl
theorem wd_864 : (Jvm.Cond.methodLink "GluedHour$Planner" (95 : Nat) ({ cls := "GluedHour$Planner", name := "scoreOf", desc := "(LGluedHour$Republic;LGluedHour$Odds;III)J" } : Jvm.MethodName)) ∈ lw_gd := tb_4 (i := 49) rfl rfl
theorem wd_865 : (Jvm.Cond.static ({ cls := "GluedHour$Planner", name := "scoreOf", desc := "(LGluedHour$Republic;LGluedHour$Odds;III)J" } : Jvm.MethodName)) ∈ lw_gd := tb_4 (i := 50) rfl rfl
theorem wd_866 : (Jvm.Cond.code ({ cls := "GluedHour$Planner", name := "scoreOf", desc := "(LGluedHour$Republic;LGluedHour$Odds;III)J" } : Jvm.MethodName) prog_6_method_6_code (7 : Nat) (Option.some Jvm.ClassFile.FieldType.long)) ∈ lw_gd := tb_4 (i := 51) rfl rfl
theorem wd_867 : (Jvm.Cond.methodLink "GluedHour$Planner" (81 : Nat) ({ cls := "GluedHour$Republic", name := "worthOf", desc := "(I)I" } : Jvm.MethodName)) ∈ lw_gd := tb_4 (i := 52) rfl rfl
theorem wd_868 : (Jvm.Cond.methodLink "GluedHour$Planner" (85 : Nat) ({ cls := "GluedHour$Republic", name := "extraOf", desc := "(I)I" } : Jvm.MethodName)) ∈ lw_gd := tb_4 (i := 53) rfl rfl
theorem wd_869 : (Jvm.Cond.methodLink "GluedHour$Planner" (110 : Nat) ({ cls := "GluedHour$Planner", name := "rowShift", desc := "(I)I" } : Jvm.MethodName)) ∈ lw_gd := tb_4 (i := 54) rfl rfl
theorem wd_870 : (Jvm.Cond.static ({ cls := "GluedHour$Planner", name := "rowShift", desc := "(I)I" } : Jvm.MethodName)) ∈ lw_gd := tb_4 (i := 55) rfl rfl
theorem wd_871 : (Jvm.Cond.code ({ cls := "GluedHour$Planner", name := "rowShift", desc := "(I)I" } : Jvm.MethodName) prog_6_method_7_code (1 : Nat) (Option.some Jvm.ClassFile.FieldType.int)) ∈ lw_gd := tb_4 (i := 56) rfl rfl
theorem wd_872 : (Jvm.Cond.methodLink "GluedHour$Planner" (99 : Nat) ({ cls := "GluedHour$Planner", name := "bestOf", desc := "(II)J" } : Jvm.MethodName)) ∈ lw_gd := tb_4 (i := 57) rfl rfl
theorem wd_874 : (Jvm.Cond.instanceMethod ({ cls := "GluedHour$Planner", name := "bestOf", desc := "(II)J" } : Jvm.MethodName)) ∈ lw_gd := tb_4 (i := 59) rfl rfl
theorem wd_875 : (Jvm.Cond.code ({ cls := "GluedHour$Planner", name := "bestOf", desc := "(II)J" } : Jvm.MethodName) prog_6_method_8_code (7 : Nat) (Option.some Jvm.ClassFile.FieldType.long)) ∈ lw_gd := tb_4 (i := 60) rfl rfl
theorem wd_876 : (Jvm.Cond.methodLink "GluedHour$Planner" (113 : Nat) ({ cls := "java/lang/Math", name := "max", desc := "(JJ)J" } : Jvm.MethodName)) ∈ lw_gd := tb_4 (i := 61) rfl rfl
theorem wd_877 : (Jvm.Cond.methodLink "GluedHour$Planner" (103 : Nat) ({ cls := "GluedHour$Planner", name := "keep", desc := "(J)V" } : Jvm.MethodName)) ∈ lw_gd := tb_4 (i := 62) rfl rfl
theorem wd_879 : (Jvm.Cond.instanceMethod ({ cls := "GluedHour$Planner", name := "keep", desc := "(J)V" } : Jvm.MethodName)) ∈ lw_gd := tb_4 (i := 64) rfl rfl
theorem wd_880 : (Jvm.Cond.code ({ cls := "GluedHour$Planner", name := "keep", desc := "(J)V" } : Jvm.MethodName) prog_6_method_9_code (6 : Nat) (Option.none : Option Jvm.ClassFile.FieldType)) ∈ lw_gd := tb_4 (i := 65) rfl rfl
theorem wd_881 : (Jvm.Cond.constantLong "GluedHour$Planner" (117 : Nat) (16777216 : Int64)) ∈ lw_gd := tb_4 (i := 66) rfl rfl
theorem wd_882 : (Jvm.Cond.methodLink "GluedHour$Planner" (50 : Nat) ({ cls := "java/lang/System", name := "arraycopy", desc := "(Ljava/lang/Object;ILjava/lang/Object;II)V" } : Jvm.MethodName)) ∈ lw_gd := tb_4 (i := 67) rfl rfl
theorem wd_883 : (Jvm.Cond.methodLink "GluedHour" (235 : Nat) ({ cls := "GluedHour$Planner", name := "planKnowing", desc := "(LGluedHour$Republic;LGluedHour$Odds;LGluedHour$Lines;)V" } : Jvm.MethodName)) ∈ lw_gd := tb_4 (i := 68) rfl rfl
theorem wd_884 : (Jvm.Cond.instanceMethod ({ cls := "GluedHour$Planner", name := "planKnowing", desc := "(LGluedHour$Republic;LGluedHour$Odds;LGluedHour$Lines;)V" } : Jvm.MethodName)) ∈ lw_gd := tb_4 (i := 69) rfl rfl
theorem wd_885 : (Jvm.Cond.selects "GluedHour$Planner" ({ cls := "GluedHour$Planner", name := "planKnowing", desc := "(LGluedHour$Republic;LGluedHour$Odds;LGluedHour$Lines;)V" } : Jvm.MethodName) ({ cls := "GluedHour$Planner", name := "planKnowing", desc := "(LGluedHour$Republic;LGluedHour$Odds;LGluedHour$Lines;)V" } : Jvm.MethodName)) ∈ lw_gd := tb_4 (i := 70) rfl rfl
theorem wd_886 : (Jvm.Cond.code ({ cls := "GluedHour$Planner", name := "planKnowing", desc := "(LGluedHour$Republic;LGluedHour$Odds;LGluedHour$Lines;)V" } : Jvm.MethodName) prog_6_method_3_code (9 : Nat) (Option.none : Option Jvm.ClassFile.FieldType)) ∈ lw_gd := tb_4 (i := 71) rfl rfl
theorem wd_887 : (Jvm.Cond.methodLink "GluedHour$Planner" (61 : Nat) ({ cls := "GluedHour$Odds", name := "know", desc := "(II)V" } : Jvm.MethodName)) ∈ lw_gd := tb_4 (i := 72) rfl rfl
theorem wd_888 : (Jvm.Cond.instanceMethod ({ cls := "GluedHour$Odds", name := "know", desc := "(II)V" } : Jvm.MethodName)) ∈ lw_gd := tb_4 (i := 73) rfl rfl
theorem wd_889 : (Jvm.Cond.selects "GluedHour$Odds" ({ cls := "GluedHour$Odds", name := "know", desc := "(II)V" } : Jvm.MethodName) ({ cls := "GluedHour$Odds", name := "know", desc := "(II)V" } : Jvm.MethodName)) ∈ lw_gd := tb_4 (i := 74) rfl rfl
theorem wd_890 : (Jvm.Cond.code ({ cls := "GluedHour$Odds", name := "know", desc := "(II)V" } : Jvm.MethodName) prog_5_method_3_code (4 : Nat) (Option.none : Option Jvm.ClassFile.FieldType)) ∈ lw_gd := tb_4 (i := 75) rfl rfl
theorem wd_891 : (Jvm.Cond.methodLink "GluedHour$Planner" (68 : Nat) ({ cls := "GluedHour$Planner", name := "blindBy", desc := "(LGluedHour$Republic;LGluedHour$Lines;I)J" } : Jvm.MethodName)) ∈ lw_gd := tb_4 (i := 76) rfl rfl
theorem wd_893 : (Jvm.Cond.instanceMethod ({ cls := "GluedHour$Planner", name := "blindBy", desc := "(LGluedHour$Republic;LGluedHour$Lines;I)J" } : Jvm.MethodName)) ∈ lw_gd := tb_4 (i := 78) rfl rfl
theorem wd_894 : (Jvm.Cond.code ({ cls := "GluedHour$Planner", name := "blindBy", desc := "(LGluedHour$Republic;LGluedHour$Lines;I)J" } : Jvm.MethodName) prog_6_method_4_code (8 : Nat) (Option.some Jvm.ClassFile.FieldType.long)) ∈ lw_gd := tb_4 (i := 79) rfl rfl
theorem wd_895 : (Jvm.Cond.methodLink "GluedHourLaw" (109 : Nat) ({ cls := "GluedHour", name := "train", desc := "(III)I" } : Jvm.MethodName)) ∈ lw_gd := tb_4 (i := 80) rfl rfl
theorem wd_896 : (Jvm.Cond.instanceMethod ({ cls := "GluedHour", name := "train", desc := "(III)I" } : Jvm.MethodName)) ∈ lw_gd := tb_4 (i := 81) rfl rfl
theorem wd_897 : (Jvm.Cond.selects "GluedHour" ({ cls := "GluedHour", name := "train", desc := "(III)I" } : Jvm.MethodName) ({ cls := "GluedHour", name := "train", desc := "(III)I" } : Jvm.MethodName)) ∈ lw_gd := tb_4 (i := 82) rfl rfl
theorem wd_898 : (Jvm.Cond.code ({ cls := "GluedHour", name := "train", desc := "(III)I" } : Jvm.MethodName) prog_1_method_24_code (4 : Nat) (Option.some Jvm.ClassFile.FieldType.int)) ∈ lw_gd := tb_4 (i := 83) rfl rfl
theorem wd_899 : (Jvm.Cond.methodLink "GluedHourLaw" (113 : Nat) ({ cls := "GluedHour", name := "holds", desc := "(III)I" } : Jvm.MethodName)) ∈ lw_gd := tb_4 (i := 84) rfl rfl
theorem wd_900 : (Jvm.Cond.instanceMethod ({ cls := "GluedHour", name := "holds", desc := "(III)I" } : Jvm.MethodName)) ∈ lw_gd := tb_4 (i := 85) rfl rfl
theorem wd_901 : (Jvm.Cond.selects "GluedHour" ({ cls := "GluedHour", name := "holds", desc := "(III)I" } : Jvm.MethodName) ({ cls := "GluedHour", name := "holds", desc := "(III)I" } : Jvm.MethodName)) ∈ lw_gd := tb_4 (i := 86) rfl rfl
theorem wd_902 : (Jvm.Cond.code ({ cls := "GluedHour", name := "holds", desc := "(III)I" } : Jvm.MethodName) prog_1_method_25_code (8 : Nat) (Option.some Jvm.ClassFile.FieldType.int)) ∈ lw_gd := tb_4 (i := 87) rfl rfl
theorem wd_903 : (Jvm.Cond.methodLink "GluedHour" (245 : Nat) ({ cls := "GluedHour", name := "keepsBy", desc := "(LGluedHour$Lines;I)Z" } : Jvm.MethodName)) ∈ lw_gd := tb_4 (i := 88) rfl rfl
theorem wd_904 : (Jvm.Cond.static ({ cls := "GluedHour", name := "keepsBy", desc := "(LGluedHour$Lines;I)Z" } : Jvm.MethodName)) ∈ lw_gd := tb_4 (i := 89) rfl rfl
theorem wd_905 : (Jvm.Cond.code ({ cls := "GluedHour", name := "keepsBy", desc := "(LGluedHour$Lines;I)Z" } : Jvm.MethodName) prog_1_method_48_code (3 : Nat) (Option.some Jvm.ClassFile.FieldType.boolean)) ∈ lw_gd := tb_4 (i := 90) rfl rfl
theorem wd_906 : (Jvm.Cond.methodLink "GluedHour" (332 : Nat) ({ cls := "GluedHour", name := "leadOf", desc := "(LGluedHour$Lines;II)I" } : Jvm.MethodName)) ∈ lw_gd := tb_4 (i := 91) rfl rfl
theorem wd_907 : (Jvm.Cond.static ({ cls := "GluedHour", name := "leadOf", desc := "(LGluedHour$Lines;II)I" } : Jvm.MethodName)) ∈ lw_gd := tb_4 (i := 92) rfl rfl
theorem wd_908 : (Jvm.Cond.code ({ cls := "GluedHour", name := "leadOf", desc := "(LGluedHour$Lines;II)I" } : Jvm.MethodName) prog_1_method_47_code (3 : Nat) (Option.some Jvm.ClassFile.FieldType.int)) ∈ lw_gd := tb_4 (i := 93) rfl rfl
theorem wd_909 : (Jvm.Cond.methodLink "GluedHour" (328 : Nat) ({ cls := "GluedHour", name := "lead", desc := "(IIII)I" } : Jvm.MethodName)) ∈ lw_gd := tb_4 (i := 94) rfl rfl
theorem wd_910 : (Jvm.Cond.static ({ cls := "GluedHour", name := "lead", desc := "(IIII)I" } : Jvm.MethodName)) ∈ lw_gd := tb_4 (i := 95) rfl rfl
theorem wd_911 : (Jvm.Cond.code ({ cls := "GluedHour", name := "lead", desc := "(IIII)I" } : Jvm.MethodName) prog_1_method_46_code (4 : Nat) (Option.some Jvm.ClassFile.FieldType.int)) ∈ lw_gd := tb_4 (i := 96) rfl rfl
theorem wd_912 : (Jvm.Cond.methodLink "GluedHour" (259 : Nat) ({ cls := "GluedHour", name := "trueTime", desc := "(II)I" } : Jvm.MethodName)) ∈ lw_gd := tb_4 (i := 97) rfl rfl
theorem wd_913 : (Jvm.Cond.static ({ cls := "GluedHour", name := "trueTime", desc := "(II)I" } : Jvm.MethodName)) ∈ lw_gd := tb_4 (i := 98) rfl rfl
theorem wd_914 : (Jvm.Cond.code ({ cls := "GluedHour", name := "trueTime", desc := "(II)I" } : Jvm.MethodName) prog_1_method_45_code (2 : Nat) (Option.some Jvm.ClassFile.FieldType.int)) ∈ lw_gd := tb_4 (i := 99) rfl rfl
theorem wd_915 : (Jvm.Cond.methodLink "GluedHour" (249 : Nat) ({ cls := "GluedHour", name := "slackOf", desc := "(LGluedHour$Republic;LGluedHour$Lines;I)I" } : Jvm.MethodName)) ∈ lw_gd := tb_4 (i := 100) rfl rfl
theorem wd_916 : (Jvm.Cond.static ({ cls := "GluedHour", name := "slackOf", desc := "(LGluedHour$Republic;LGluedHour$Lines;I)I" } : Jvm.MethodName)) ∈ lw_gd := tb_4 (i := 101) rfl rfl
theorem wd_917 : (Jvm.Cond.code ({ cls := "GluedHour", name := "slackOf", desc := "(LGluedHour$Republic;LGluedHour$Lines;I)I" } : Jvm.MethodName) prog_1_method_49_code (5 : Nat) (Option.some Jvm.ClassFile.FieldType.int)) ∈ lw_gd := tb_4 (i := 102) rfl rfl
theorem wd_918 : (Jvm.Cond.methodLink "GluedHour" (253 : Nat) ({ cls := "java/lang/Math", name := "min", desc := "(II)I" } : Jvm.MethodName)) ∈ lw_gd := tb_4 (i := 103) rfl rfl
theorem wd_919 : (Jvm.Cond.methodLink "GluedHourLaw" (117 : Nat) ({ cls := "GluedHour", name := "clock", desc := "(IIII)I" } : Jvm.MethodName)) ∈ lw_gd := tb_4 (i := 104) rfl rfl
theorem wd_920 : (Jvm.Cond.instanceMethod ({ cls := "GluedHour", name := "clock", desc := "(IIII)I" } : Jvm.MethodName)) ∈ lw_gd := tb_4 (i := 105) rfl rfl
theorem wd_921 : (Jvm.Cond.selects "GluedHour" ({ cls := "GluedHour", name := "clock", desc := "(IIII)I" } : Jvm.MethodName) ({ cls := "GluedHour", name := "clock", desc := "(IIII)I" } : Jvm.MethodName)) ∈ lw_gd := tb_4 (i := 106) rfl rfl
theorem wd_922 : (Jvm.Cond.code ({ cls := "GluedHour", name := "clock", desc := "(IIII)I" } : Jvm.MethodName) prog_1_method_26_code (8 : Nat) (Option.some Jvm.ClassFile.FieldType.int)) ∈ lw_gd := tb_4 (i := 107) rfl rfl
theorem wd_923 : (Jvm.Cond.methodLink "GluedHour" (256 : Nat) ({ cls := "GluedHour", name := "leastHour", desc := "(LGluedHour$Republic;LGluedHour$Lines;I)I" } : Jvm.MethodName)) ∈ lw_gd := tb_4 (i := 108) rfl rfl
theorem wd_924 : (Jvm.Cond.static ({ cls := "GluedHour", name := "leastHour", desc := "(LGluedHour$Republic;LGluedHour$Lines;I)I" } : Jvm.MethodName)) ∈ lw_gd := tb_4 (i := 109) rfl rfl
theorem wd_925 : (Jvm.Cond.code ({ cls := "GluedHour", name := "leastHour", desc := "(LGluedHour$Republic;LGluedHour$Lines;I)I" } : Jvm.MethodName) prog_1_method_50_code (5 : Nat) (Option.some Jvm.ClassFile.FieldType.int)) ∈ lw_gd := tb_4 (i := 110) rfl rfl
theorem wd_926 : (Jvm.Cond.methodLink "GluedHour" (336 : Nat) ({ cls := "GluedHour", name := "leastNext", desc := "(LGluedHour$Republic;II)I" } : Jvm.MethodName)) ∈ lw_gd := tb_4 (i := 111) rfl rfl
theorem wd_927 : (Jvm.Cond.static ({ cls := "GluedHour", name := "leastNext", desc := "(LGluedHour$Republic;II)I" } : Jvm.MethodName)) ∈ lw_gd := tb_4 (i := 112) rfl rfl
theorem wd_928 : (Jvm.Cond.code ({ cls := "GluedHour", name := "leastNext", desc := "(LGluedHour$Republic;II)I" } : Jvm.MethodName) prog_1_method_51_code (6 : Nat) (Option.some Jvm.ClassFile.FieldType.int)) ∈ lw_gd := tb_4 (i := 113) rfl rfl
theorem wd_929 : (Jvm.Cond.methodLink "GluedHourLaw" (121 : Nat) ({ cls := "GluedHour", name := "sight", desc := "(III)I" } : Jvm.MethodName)) ∈ lw_gd := tb_4 (i := 114) rfl rfl
theorem wd_930 : (Jvm.Cond.instanceMethod ({ cls := "GluedHour", name := "sight", desc := "(III)I" } : Jvm.MethodName)) ∈ lw_gd := tb_4 (i := 115) rfl rfl
theorem wd_931 : (Jvm.Cond.selects "GluedHour" ({ cls := "GluedHour", name := "sight", desc := "(III)I" } : Jvm.MethodName) ({ cls := "GluedHour", name := "sight", desc := "(III)I" } : Jvm.MethodName)) ∈ lw_gd := tb_4 (i := 116) rfl rfl
theorem wd_932 : (Jvm.Cond.code ({ cls := "GluedHour", name := "sight", desc := "(III)I" } : Jvm.MethodName) prog_1_method_27_code (4 : Nat) (Option.some Jvm.ClassFile.FieldType.int)) ∈ lw_gd := tb_4 (i := 117) rfl rfl
theorem wd_933 : (Jvm.Cond.methodLink "GluedHourLaw" (125 : Nat) ({ cls := "GluedHour", name := "fits", desc := "(III)I" } : Jvm.MethodName)) ∈ lw_gd := tb_4 (i := 118) rfl rfl
theorem wd_934 : (Jvm.Cond.instanceMethod ({ cls := "GluedHour", name := "fits", desc := "(III)I" } : Jvm.MethodName)) ∈ lw_gd := tb_4 (i := 119) rfl rfl
theorem wd_935 : (Jvm.Cond.selects "GluedHour" ({ cls := "GluedHour", name := "fits", desc := "(III)I" } : Jvm.MethodName) ({ cls := "GluedHour", name := "fits", desc := "(III)I" } : Jvm.MethodName)) ∈ lw_gd := tb_4 (i := 120) rfl rfl
theorem wd_936 : (Jvm.Cond.code ({ cls := "GluedHour", name := "fits", desc := "(III)I" } : Jvm.MethodName) prog_1_method_28_code (6 : Nat) (Option.some Jvm.ClassFile.FieldType.int)) ∈ lw_gd := tb_4 (i := 121) rfl rfl
theorem wd_937 : (Jvm.Cond.methodLink "GluedHour" (262 : Nat) ({ cls := "GluedHour$Search", name := "run", desc := "(LGluedHour$Republic;LGluedHour$Course;LGluedHour$Lines;)V" } : Jvm.MethodName)) ∈ lw_gd := tb_4 (i := 122) rfl rfl
theorem wd_938 : (Jvm.Cond.instanceMethod ({ cls := "GluedHour$Search", name := "run", desc := "(LGluedHour$Republic;LGluedHour$Course;LGluedHour$Lines;)V" } : Jvm.MethodName)) ∈ lw_gd := tb_4 (i := 123) rfl rfl
theorem wd_939 : (Jvm.Cond.selects "GluedHour$Search" ({ cls := "GluedHour$Search", name := "run", desc := "(LGluedHour$Republic;LGluedHour$Course;LGluedHour$Lines;)V" } : Jvm.MethodName) ({ cls := "GluedHour$Search", name := "run", desc := "(LGluedHour$Republic;LGluedHour$Course;LGluedHour$Lines;)V" } : Jvm.MethodName)) ∈ lw_gd := tb_4 (i := 124) rfl rfl
theorem wd_940 : (Jvm.Cond.code ({ cls := "GluedHour$Search", name := "run", desc := "(LGluedHour$Republic;LGluedHour$Course;LGluedHour$Lines;)V" } : Jvm.MethodName) prog_9_method_2_code (5 : Nat) (Option.none : Option Jvm.ClassFile.FieldType)) ∈ lw_gd := tb_4 (i := 125) rfl rfl
theorem wd_941 : (Jvm.Cond.methodLink "GluedHour$Search" (37 : Nat) ({ cls := "GluedHour$Lines", name := "cell", desc := "(II)I" } : Jvm.MethodName)) ∈ lw_gd := tb_4 (i := 126) rfl rfl
theorem wd_942 : (Jvm.Cond.methodLink "GluedHour$Search" (41 : Nat) ({ cls := "java/lang/Math", name := "min", desc := "(II)I" } : Jvm.MethodName)) ∈ lw_gd := tb_4 (i := 127) rfl rfl
theorem wd_943 : (Jvm.Cond.methodLink "GluedHour$Search" (46 : Nat) ({ cls := "java/lang/Math", name := "max", desc := "(II)I" } : Jvm.MethodName)) ∈ lw_gd := tb_4 (i := 128) rfl rfl
theorem wd_944 : (Jvm.Cond.methodLink "GluedHour$Search" (49 : Nat) ({ cls := "GluedHour$Search", name := "follow", desc := "(LGluedHour$Republic;LGluedHour$Course;LGluedHour$Lines;I)V" } : Jvm.MethodName)) ∈ lw_gd := tb_4 (i := 129) rfl rfl
theorem wd_946 : (Jvm.Cond.instanceMethod ({ cls := "GluedHour$Search", name := "follow", desc := "(LGluedHour$Republic;LGluedHour$Course;LGluedHour$Lines;I)V" } : Jvm.MethodName)) ∈ lw_gd := tb_4 (i := 131) rfl rfl
theorem wd_947 : (Jvm.Cond.code ({ cls := "GluedHour$Search", name := "follow", desc := "(LGluedHour$Republic;LGluedHour$Course;LGluedHour$Lines;I)V" } : Jvm.MethodName) prog_9_method_3_code (7 : Nat) (Option.none : Option Jvm.ClassFile.FieldType)) ∈ lw_gd := tb_4 (i := 132) rfl rfl
theorem wd_948 : (Jvm.Cond.methodLink "GluedHour$Search" (53 : Nat) ({ cls := "GluedHour$Search", name := "keepRow", desc := "()V" } : Jvm.MethodName)) ∈ lw_gd := tb_4 (i := 133) rfl rfl
theorem wd_950 : (Jvm.Cond.instanceMethod ({ cls := "GluedHour$Search", name := "keepRow", desc := "()V" } : Jvm.MethodName)) ∈ lw_gd := tb_4 (i := 135) rfl rfl
theorem wd_951 : (Jvm.Cond.code ({ cls := "GluedHour$Search", name := "keepRow", desc := "()V" } : Jvm.MethodName) prog_9_method_5_code (2 : Nat) (Option.none : Option Jvm.ClassFile.FieldType)) ∈ lw_gd := tb_4 (i := 136) rfl rfl
theorem wd_952 : (Jvm.Cond.methodLink "GluedHour$Search" (56 : Nat) ({ cls := "GluedHour$Course", name := "poorest", desc := "()I" } : Jvm.MethodName)) ∈ lw_gd := tb_4 (i := 137) rfl rfl
theorem wd_953 : (Jvm.Cond.methodLink "GluedHour$Search" (62 : Nat) ({ cls := "GluedHour$Odds", name := "weigh", desc := "(LGluedHour$Republic;I)V" } : Jvm.MethodName)) ∈ lw_gd := tb_4 (i := 138) rfl rfl
theorem wd_954 : (Jvm.Cond.methodLink "GluedHour$Search" (74 : Nat) ({ cls := "GluedHour$Course", name := "live", desc := "(I)V" } : Jvm.MethodName)) ∈ lw_gd := tb_4 (i := 139) rfl rfl
theorem wd_955 : (Jvm.Cond.methodLink "GluedHour$Search" (78 : Nat) ({ cls := "GluedHour$Search", name := "isAsSeen", desc := "(LGluedHour$Republic;LGluedHour$Course;LGluedHour$Lines;I)Z" } : Jvm.MethodName)) ∈ lw_gd := tb_4 (i := 140) rfl rfl
theorem wd_956 : (Jvm.Cond.static ({ cls := "GluedHour$Search", name := "isAsSeen", desc := "(LGluedHour$Republic;LGluedHour$Course;LGluedHour$Lines;I)Z" } : Jvm.MethodName)) ∈ lw_gd := tb_4 (i := 141) rfl rfl
theorem wd_957 : (Jvm.Cond.code ({ cls := "GluedHour$Search", name := "isAsSeen", desc := "(LGluedHour$Republic;LGluedHour$Course;LGluedHour$Lines;I)Z" } : Jvm.MethodName) prog_9_method_4_code (6 : Nat) (Option.some Jvm.ClassFile.FieldType.boolean)) ∈ lw_gd := tb_4 (i := 142) rfl rfl
theorem wd_958 : (Jvm.Cond.methodLink "GluedHour$Search" (85 : Nat) ({ cls := "GluedHour$Republic", name := "hasPerson", desc := "(I)Z" } : Jvm.MethodName)) ∈ lw_gd := tb_4 (i := 143) rfl rfl
theorem wd_959 : (Jvm.Cond.methodLink "GluedHour$Search" (82 : Nat) ({ cls := "GluedHour$Course", name := "unlive", desc := "(I)V" } : Jvm.MethodName)) ∈ lw_gd := tb_4 (i := 144) rfl rfl
theorem wd_960 : (Jvm.Cond.instanceMethod ({ cls := "GluedHour$Course", name := "unlive", desc := "(I)V" } : Jvm.MethodName)) ∈ lw_gd := tb_4 (i := 145) rfl rfl
theorem wd_961 : (Jvm.Cond.selects "GluedHour$Course" ({ cls := "GluedHour$Course", name := "unlive", desc := "(I)V" } : Jvm.MethodName) ({ cls := "GluedHour$Course", name := "unlive", desc := "(I)V" } : Jvm.MethodName)) ∈ lw_gd := tb_4 (i := 146) rfl rfl
theorem wd_962 : (Jvm.Cond.code ({ cls := "GluedHour$Course", name := "unlive", desc := "(I)V" } : Jvm.MethodName) prog_2_method_5_code (3 : Nat) (Option.none : Option Jvm.ClassFile.FieldType)) ∈ lw_gd := tb_4 (i := 147) rfl rfl
theorem wd_963 : (Jvm.Cond.methodLink "GluedHour" (272 : Nat) ({ cls := "GluedHour$Search", name := "sureHour", desc := "(I)I" } : Jvm.MethodName)) ∈ lw_gd := tb_4 (i := 148) rfl rfl
theorem wd_964 : (Jvm.Cond.instanceMethod ({ cls := "GluedHour$Search", name := "sureHour", desc := "(I)I" } : Jvm.MethodName)) ∈ lw_gd := tb_4 (i := 149) rfl rfl
theorem wd_965 : (Jvm.Cond.selects "GluedHour$Search" ({ cls := "GluedHour$Search", name := "sureHour", desc := "(I)I" } : Jvm.MethodName) ({ cls := "GluedHour$Search", name := "sureHour", desc := "(I)I" } : Jvm.MethodName)) ∈ lw_gd := tb_4 (i := 150) rfl rfl
theorem wd_966 : (Jvm.Cond.code ({ cls := "GluedHour$Search", name := "sureHour", desc := "(I)I" } : Jvm.MethodName) prog_9_method_6_code (3 : Nat) (Option.some Jvm.ClassFile.FieldType.int)) ∈ lw_gd := tb_4 (i := 151) rfl rfl
theorem wd_967 : (Jvm.Cond.methodLink "GluedHourLaw" (129 : Nat) ({ cls := "GluedHour", name := "reign", desc := "(III)I" } : Jvm.MethodName)) ∈ lw_gd := tb_4 (i := 152) rfl rfl
theorem wd_968 : (Jvm.Cond.instanceMethod ({ cls := "GluedHour", name := "reign", desc := "(III)I" } : Jvm.MethodName)) ∈ lw_gd := tb_4 (i := 153) rfl rfl
theorem wd_969 : (Jvm.Cond.selects "GluedHour" ({ cls := "GluedHour", name := "reign", desc := "(III)I" } : Jvm.MethodName) ({ cls := "GluedHour", name := "reign", desc := "(III)I" } : Jvm.MethodName)) ∈ lw_gd := tb_4 (i := 154) rfl rfl
theorem wd_970 : (Jvm.Cond.code ({ cls := "GluedHour", name := "reign", desc := "(III)I" } : Jvm.MethodName) prog_1_method_29_code (11 : Nat) (Option.some Jvm.ClassFile.FieldType.int)) ∈ lw_gd := tb_4 (i := 155) rfl rfl
theorem wd_971 : (Jvm.Cond.methodLink "GluedHourLaw" (133 : Nat) ({ cls := "GluedHour", name := "hope", desc := "(IIIZ)J" } : Jvm.MethodName)) ∈ lw_gd := tb_4 (i := 156) rfl rfl
theorem wd_972 : (Jvm.Cond.instanceMethod ({ cls := "GluedHour", name := "hope", desc := "(IIIZ)J" } : Jvm.MethodName)) ∈ lw_gd := tb_4 (i := 157) rfl rfl
theorem wd_973 : (Jvm.Cond.selects "GluedHour" ({ cls := "GluedHour", name := "hope", desc := "(IIIZ)J" } : Jvm.MethodName) ({ cls := "GluedHour", name := "hope", desc := "(IIIZ)J" } : Jvm.MethodName)) ∈ lw_gd := tb_4 (i := 158) rfl rfl
theorem wd_974 : (Jvm.Cond.code ({ cls := "GluedHour", name := "hope", desc := "(IIIZ)J" } : Jvm.MethodName) prog_1_method_30_code (5 : Nat) (Option.some Jvm.ClassFile.FieldType.long)) ∈ lw_gd := tb_4 (i := 159) rfl rfl
theorem wd_975 : (Jvm.Cond.methodLink "GluedHour" (278 : Nat) ({ cls := "GluedHour", name := "expected", desc := "(IIIZ)Z" } : Jvm.MethodName)) ∈ lw_gd := tb_4 (i := 160) rfl rfl
theorem wd_977 : (Jvm.Cond.instanceMethod ({ cls := "GluedHour", name := "expected", desc := "(IIIZ)Z" } : Jvm.MethodName)) ∈ lw_gd := tb_4 (i := 162) rfl rfl
theorem wd_978 : (Jvm.Cond.code ({ cls := "GluedHour", name := "expected", desc := "(IIIZ)Z" } : Jvm.MethodName) prog_1_method_43_code (9 : Nat) (Option.some Jvm.ClassFile.FieldType.boolean)) ∈ lw_gd := tb_4 (i := 163) rfl rfl
theorem wd_979 : (Jvm.Cond.methodLink "GluedHour" (310 : Nat) ({ cls := "GluedHour$Fraction", name := "put", desc := "(JJ)V" } : Jvm.MethodName)) ∈ lw_gd := tb_4 (i := 164) rfl rfl
theorem wd_980 : (Jvm.Cond.instanceMethod ({ cls := "GluedHour$Fraction", name := "put", desc := "(JJ)V" } : Jvm.MethodName)) ∈ lw_gd := tb_4 (i := 165) rfl rfl
theorem wd_981 : (Jvm.Cond.selects "GluedHour$Fraction" ({ cls := "GluedHour$Fraction", name := "put", desc := "(JJ)V" } : Jvm.MethodName) ({ cls := "GluedHour$Fraction", name := "put", desc := "(JJ)V" } : Jvm.MethodName)) ∈ lw_gd := tb_4 (i := 166) rfl rfl
theorem wd_982 : (Jvm.Cond.code ({ cls := "GluedHour$Fraction", name := "put", desc := "(JJ)V" } : Jvm.MethodName) prog_3_method_2_code (5 : Nat) (Option.none : Option Jvm.ClassFile.FieldType)) ∈ lw_gd := tb_4 (i := 167) rfl rfl
theorem wd_983 : (Jvm.Cond.methodLink "GluedHour$Fraction" (16 : Nat) ({ cls := "GluedHour$Fraction", name := "side", desc := "(JJZ)J" } : Jvm.MethodName)) ∈ lw_gd := tb_4 (i := 168) rfl rfl
theorem wd_984 : (Jvm.Cond.methodLink "GluedHour" (314 : Nat) ({ cls := "GluedHour$Course", name := "measure", desc := "(IZ)I" } : Jvm.MethodName)) ∈ lw_gd := tb_4 (i := 169) rfl rfl
theorem wd_985 : (Jvm.Cond.instanceMethod ({ cls := "GluedHour$Course", name := "measure", desc := "(IZ)I" } : Jvm.MethodName)) ∈ lw_gd := tb_4 (i := 170) rfl rfl
theorem wd_986 : (Jvm.Cond.selects "GluedHour$Course" ({ cls := "GluedHour$Course", name := "measure", desc := "(IZ)I" } : Jvm.MethodName) ({ cls := "GluedHour$Course", name := "measure", desc := "(IZ)I" } : Jvm.MethodName)) ∈ lw_gd := tb_4 (i := 171) rfl rfl
theorem wd_987 : (Jvm.Cond.code ({ cls := "GluedHour$Course", name := "measure", desc := "(IZ)I" } : Jvm.MethodName) prog_2_method_10_code (3 : Nat) (Option.some Jvm.ClassFile.FieldType.int)) ∈ lw_gd := tb_4 (i := 172) rfl rfl
theorem wd_988 : (Jvm.Cond.methodLink "GluedHour$Course" (56 : Nat) ({ cls := "GluedHour$Course", name := "poorest", desc := "()I" } : Jvm.MethodName)) ∈ lw_gd := tb_4 (i := 173) rfl rfl
theorem wd_989 : (Jvm.Cond.methodLink "GluedHour" (318 : Nat) ({ cls := "GluedHour", name := "nextDay", desc := "(LGluedHour$Republic;LGluedHour$Odds;IZ)J" } : Jvm.MethodName)) ∈ lw_gd := tb_4 (i := 174) rfl rfl
theorem wd_991 : (Jvm.Cond.instanceMethod ({ cls := "GluedHour", name := "nextDay", desc := "(LGluedHour$Republic;LGluedHour$Odds;IZ)J" } : Jvm.MethodName)) ∈ lw_gd := tb_4 (i := 176) rfl rfl
theorem wd_992 : (Jvm.Cond.code ({ cls := "GluedHour", name := "nextDay", desc := "(LGluedHour$Republic;LGluedHour$Odds;IZ)J" } : Jvm.MethodName) prog_1_method_44_code (8 : Nat) (Option.some Jvm.ClassFile.FieldType.long)) ∈ lw_gd := tb_4 (i := 177) rfl rfl
theorem wd_993 : (Jvm.Cond.methodLink "GluedHour" (322 : Nat) ({ cls := "GluedHour$Course", name := "unlive", desc := "(I)V" } : Jvm.MethodName)) ∈ lw_gd := tb_4 (i := 178) rfl rfl
theorem wd_994 : (Jvm.Cond.methodLink "GluedHour" (325 : Nat) ({ cls := "GluedHour$Fraction", name := "add", desc := "(JJ)V" } : Jvm.MethodName)) ∈ lw_gd := tb_4 (i := 179) rfl rfl
theorem wd_995 : (Jvm.Cond.instanceMethod ({ cls := "GluedHour$Fraction", name := "add", desc := "(JJ)V" } : Jvm.MethodName)) ∈ lw_gd := tb_4 (i := 180) rfl rfl
theorem wd_996 : (Jvm.Cond.selects "GluedHour$Fraction" ({ cls := "GluedHour$Fraction", name := "add", desc := "(JJ)V" } : Jvm.MethodName) ({ cls := "GluedHour$Fraction", name := "add", desc := "(JJ)V" } : Jvm.MethodName)) ∈ lw_gd := tb_4 (i := 181) rfl rfl
theorem wd_997 : (Jvm.Cond.code ({ cls := "GluedHour$Fraction", name := "add", desc := "(JJ)V" } : Jvm.MethodName) prog_3_method_3_code (9 : Nat) (Option.none : Option Jvm.ClassFile.FieldType)) ∈ lw_gd := tb_4 (i := 182) rfl rfl
theorem wd_998 : (Jvm.Cond.methodLink "GluedHour$Fraction" (24 : Nat) ({ cls := "GluedHour$Fraction", name := "put", desc := "(JJ)V" } : Jvm.MethodName)) ∈ lw_gd := tb_4 (i := 183) rfl rfl
theorem wd_999 : (Jvm.Cond.methodLink "GluedHour" (282 : Nat) ({ cls := "GluedHour$Fraction", name := "sideOf", desc := "(Z)J" } : Jvm.MethodName)) ∈ lw_gd := tb_4 (i := 184) rfl rfl
theorem wd_1000 : (Jvm.Cond.instanceMethod ({ cls := "GluedHour$Fraction", name := "sideOf", desc := "(Z)J" } : Jvm.MethodName)) ∈ lw_gd := tb_4 (i := 185) rfl rfl
theorem wd_1001 : (Jvm.Cond.selects "GluedHour$Fraction" ({ cls := "GluedHour$Fraction", name := "sideOf", desc := "(Z)J" } : Jvm.MethodName) ({ cls := "GluedHour$Fraction", name := "sideOf", desc := "(Z)J" } : Jvm.MethodName)) ∈ lw_gd := tb_4 (i := 186) rfl rfl
theorem wd_1002 : (Jvm.Cond.code ({ cls := "GluedHour$Fraction", name := "sideOf", desc := "(Z)J" } : Jvm.MethodName) prog_3_method_4_code (2 : Nat) (Option.some Jvm.ClassFile.FieldType.long)) ∈ lw_gd := tb_4 (i := 187) rfl rfl
theorem wd_1003 : (Jvm.Cond.constantLong "GluedHour" (286 : Nat) (-1000000 : Int64)) ∈ lw_gd := tb_4 (i := 188) rfl rfl
theorem wd_1004 : (Jvm.Cond.methodLink "GluedHourLaw" (137 : Nat) ({ cls := "GluedHour", name := "doom", desc := "(IIIZ)J" } : Jvm.MethodName)) ∈ lw_gd := tb_4 (i := 189) rfl rfl
theorem wd_1005 : (Jvm.Cond.instanceMethod ({ cls := "GluedHour", name := "doom", desc := "(IIIZ)J" } : Jvm.MethodName)) ∈ lw_gd := tb_4 (i := 190) rfl rfl
theorem wd_1006 : (Jvm.Cond.selects "GluedHour" ({ cls := "GluedHour", name := "doom", desc := "(IIIZ)J" } : Jvm.MethodName) ({ cls := "GluedHour", name := "doom", desc := "(IIIZ)J" } : Jvm.MethodName)) ∈ lw_gd := tb_4 (i := 191) rfl rfl
theorem wd_1007 : (Jvm.Cond.code ({ cls := "GluedHour", name := "doom", desc := "(IIIZ)J" } : Jvm.MethodName) prog_1_method_31_code (5 : Nat) (Option.some Jvm.ClassFile.FieldType.long)) ∈ lw_gd := tb_4 (i := 192) rfl rfl
theorem wd_1008 : (Jvm.Cond.methodLink "GluedHourLaw" (141 : Nat) ({ cls := "GluedHour", name := "ruling", desc := "(II)I" } : Jvm.MethodName)) ∈ lw_gd := tb_4 (i := 193) rfl rfl
theorem wd_1009 : (Jvm.Cond.instanceMethod ({ cls := "GluedHour", name := "ruling", desc := "(II)I" } : Jvm.MethodName)) ∈ lw_gd := tb_4 (i := 194) rfl rfl
theorem wd_1010 : (Jvm.Cond.selects "GluedHour" ({ cls := "GluedHour", name := "ruling", desc := "(II)I" } : Jvm.MethodName) ({ cls := "GluedHour", name := "ruling", desc := "(II)I" } : Jvm.MethodName)) ∈ lw_gd := tb_4 (i := 195) rfl rfl
theorem wd_1011 : (Jvm.Cond.code ({ cls := "GluedHour", name := "ruling", desc := "(II)I" } : Jvm.MethodName) prog_1_method_32_code (14 : Nat) (Option.some Jvm.ClassFile.FieldType.int)) ∈ lw_gd := tb_4 (i := 196) rfl rfl
theorem wd_1012 : (Jvm.Cond.methodLink "GluedHour" (288 : Nat) ({ cls := "GluedHour", name := "changeBy", desc := "(LGluedHour$Republic;II)J" } : Jvm.MethodName)) ∈ lw_gd := tb_4 (i := 197) rfl rfl
theorem wd_1014 : (Jvm.Cond.instanceMethod ({ cls := "GluedHour", name := "changeBy", desc := "(LGluedHour$Republic;II)J" } : Jvm.MethodName)) ∈ lw_gd := tb_4 (i := 199) rfl rfl
theorem wd_1015 : (Jvm.Cond.code ({ cls := "GluedHour", name := "changeBy", desc := "(LGluedHour$Republic;II)J" } : Jvm.MethodName) prog_1_method_42_code (8 : Nat) (Option.some Jvm.ClassFile.FieldType.long)) ∈ lw_gd := tb_4 (i := 200) rfl rfl
theorem wd_1016 : (Jvm.Cond.methodLink "GluedHour" (307 : Nat) ({ cls := "GluedHour$Republic", name := "extraBy", desc := "(II)I" } : Jvm.MethodName)) ∈ lw_gd := tb_4 (i := 201) rfl rfl
theorem wd_1017 : (Jvm.Cond.methodLink "GluedHourLaw" (145 : Nat) ({ cls := "GluedHour", name := "trust", desc := "(IIZ)I" } : Jvm.MethodName)) ∈ lw_gd := tb_4 (i := 202) rfl rfl
theorem wd_1018 : (Jvm.Cond.instanceMethod ({ cls := "GluedHour", name := "trust", desc := "(IIZ)I" } : Jvm.MethodName)) ∈ lw_gd := tb_4 (i := 203) rfl rfl
theorem wd_1019 : (Jvm.Cond.selects "GluedHour" ({ cls := "GluedHour", name := "trust", desc := "(IIZ)I" } : Jvm.MethodName) ({ cls := "GluedHour", name := "trust", desc := "(IIZ)I" } : Jvm.MethodName)) ∈ lw_gd := tb_4 (i := 204) rfl rfl
theorem wd_1020 : (Jvm.Cond.code ({ cls := "GluedHour", name := "trust", desc := "(IIZ)I" } : Jvm.MethodName) prog_1_method_33_code (9 : Nat) (Option.some Jvm.ClassFile.FieldType.int)) ∈ lw_gd := tb_4 (i := 205) rfl rfl
theorem wd_1021 : (Jvm.Cond.methodLink "GluedHourLaw" (149 : Nat) ({ cls := "GluedHour", name := "tight", desc := "(II)I" } : Jvm.MethodName)) ∈ lw_gd := tb_4 (i := 206) rfl rfl
theorem wd_1022 : (Jvm.Cond.instanceMethod ({ cls := "GluedHour", name := "tight", desc := "(II)I" } : Jvm.MethodName)) ∈ lw_gd := tb_4 (i := 207) rfl rfl
theorem wd_1023 : (Jvm.Cond.selects "GluedHour" ({ cls := "GluedHour", name := "tight", desc := "(II)I" } : Jvm.MethodName) ({ cls := "GluedHour", name := "tight", desc := "(II)I" } : Jvm.MethodName)) ∈ lw_gd := tb_4 (i := 208) rfl rfl
theorem wd_1024 : (Jvm.Cond.code ({ cls := "GluedHour", name := "tight", desc := "(II)I" } : Jvm.MethodName) prog_1_method_34_code (7 : Nat) (Option.some Jvm.ClassFile.FieldType.int)) ∈ lw_gd := tb_4 (i := 209) rfl rfl
theorem wd_1025 : (Jvm.Cond.methodLink "GluedHourLaw" (153 : Nat) ({ cls := "GluedHour", name := "free", desc := "(IIZ)I" } : Jvm.MethodName)) ∈ lw_gd := tb_4 (i := 210) rfl rfl
theorem wd_1026 : (Jvm.Cond.instanceMethod ({ cls := "GluedHour", name := "free", desc := "(IIZ)I" } : Jvm.MethodName)) ∈ lw_gd := tb_4 (i := 211) rfl rfl
theorem wd_1027 : (Jvm.Cond.selects "GluedHour" ({ cls := "GluedHour", name := "free", desc := "(IIZ)I" } : Jvm.MethodName) ({ cls := "GluedHour", name := "free", desc := "(IIZ)I" } : Jvm.MethodName)) ∈ lw_gd := tb_4 (i := 212) rfl rfl
theorem wd_1028 : (Jvm.Cond.code ({ cls := "GluedHour", name := "free", desc := "(IIZ)I" } : Jvm.MethodName) prog_1_method_35_code (6 : Nat) (Option.some Jvm.ClassFile.FieldType.int)) ∈ lw_gd := tb_4 (i := 213) rfl rfl
theorem wd_1029 : (Jvm.Cond.methodLink "GluedHour" (292 : Nat) ({ cls := "GluedHour$Planner", name := "choose", desc := "(LGluedHour$Republic;LGluedHour$Odds;LGluedHour$Lines;Z)Z" } : Jvm.MethodName)) ∈ lw_gd := tb_4 (i := 214) rfl rfl
theorem wd_1030 : (Jvm.Cond.methodLink "GluedHourLaw" (157 : Nat) ({ cls := "GluedHour", name := "count", desc := "(I)I" } : Jvm.MethodName)) ∈ lw_gd := tb_4 (i := 215) rfl rfl
theorem wd_1031 : (Jvm.Cond.instanceMethod ({ cls := "GluedHour", name := "count", desc := "(I)I" } : Jvm.MethodName)) ∈ lw_gd := tb_4 (i := 216) rfl rfl
theorem wd_1032 : (Jvm.Cond.selects "GluedHour" ({ cls := "GluedHour", name := "count", desc := "(I)I" } : Jvm.MethodName) ({ cls := "GluedHour", name := "count", desc := "(I)I" } : Jvm.MethodName)) ∈ lw_gd := tb_4 (i := 217) rfl rfl
theorem wd_1033 : (Jvm.Cond.code ({ cls := "GluedHour", name := "count", desc := "(I)I" } : Jvm.MethodName) prog_1_method_36_code (2 : Nat) (Option.some Jvm.ClassFile.FieldType.int)) ∈ lw_gd := tb_4 (i := 218) rfl rfl
theorem wd_1034 : (Jvm.Cond.methodLink "GluedHourLaw" (161 : Nat) ({ cls := "GluedHour", name := "image", desc := "(I)Z" } : Jvm.MethodName)) ∈ lw_gd := tb_4 (i := 219) rfl rfl
theorem wd_1035 : (Jvm.Cond.instanceMethod ({ cls := "GluedHour", name := "image", desc := "(I)Z" } : Jvm.MethodName)) ∈ lw_gd := tb_4 (i := 220) rfl rfl
theorem wd_1036 : (Jvm.Cond.selects "GluedHour" ({ cls := "GluedHour", name := "image", desc := "(I)Z" } : Jvm.MethodName) ({ cls := "GluedHour", name := "image", desc := "(I)Z" } : Jvm.MethodName)) ∈ lw_gd := tb_4 (i := 221) rfl rfl
theorem wd_1037 : (Jvm.Cond.code ({ cls := "GluedHour", name := "image", desc := "(I)Z" } : Jvm.MethodName) prog_1_method_37_code (3 : Nat) (Option.some Jvm.ClassFile.FieldType.boolean)) ∈ lw_gd := tb_4 (i := 222) rfl rfl
theorem wd_1038 : (Jvm.Cond.methodLink "GluedHour" (299 : Nat) ({ cls := "GluedHour$Told", name := "copy", desc := "(LGluedHour$Told;)V" } : Jvm.MethodName)) ∈ lw_gd := tb_4 (i := 223) rfl rfl
theorem wd_1039 : (Jvm.Cond.instanceMethod ({ cls := "GluedHour$Told", name := "copy", desc := "(LGluedHour$Told;)V" } : Jvm.MethodName)) ∈ lw_gd := tb_4 (i := 224) rfl rfl
theorem wd_1040 : (Jvm.Cond.selects "GluedHour$Told" ({ cls := "GluedHour$Told", name := "copy", desc := "(LGluedHour$Told;)V" } : Jvm.MethodName) ({ cls := "GluedHour$Told", name := "copy", desc := "(LGluedHour$Told;)V" } : Jvm.MethodName)) ∈ lw_gd := tb_4 (i := 225) rfl rfl
theorem wd_1041 : (Jvm.Cond.code ({ cls := "GluedHour$Told", name := "copy", desc := "(LGluedHour$Told;)V" } : Jvm.MethodName) prog_10_method_7_code (3 : Nat) (Option.none : Option Jvm.ClassFile.FieldType)) ∈ lw_gd := tb_4 (i := 226) rfl rfl
theorem wd_1042 : (Jvm.Cond.methodLink "GluedHour$Told" (85 : Nat) ({ cls := "java/lang/System", name := "arraycopy", desc := "(Ljava/lang/Object;ILjava/lang/Object;II)V" } : Jvm.MethodName)) ∈ lw_gd := tb_4 (i := 227) rfl rfl
theorem wd_1043 : (Jvm.Cond.methodLink "GluedHourLaw" (166 : Nat) ({ cls := "GluedHour", name := "again", desc := "(I)Z" } : Jvm.MethodName)) ∈ lw_gd := tb_4 (i := 228) rfl rfl
theorem wd_1044 : (Jvm.Cond.instanceMethod ({ cls := "GluedHour", name := "again", desc := "(I)Z" } : Jvm.MethodName)) ∈ lw_gd := tb_4 (i := 229) rfl rfl
theorem wd_1045 : (Jvm.Cond.selects "GluedHour" ({ cls := "GluedHour", name := "again", desc := "(I)Z" } : Jvm.MethodName) ({ cls := "GluedHour", name := "again", desc := "(I)Z" } : Jvm.MethodName)) ∈ lw_gd := tb_4 (i := 230) rfl rfl
theorem wd_1046 : (Jvm.Cond.code ({ cls := "GluedHour", name := "again", desc := "(I)Z" } : Jvm.MethodName) prog_1_method_38_code (3 : Nat) (Option.some Jvm.ClassFile.FieldType.boolean)) ∈ lw_gd := tb_4 (i := 231) rfl rfl
theorem wd_1047 : (Jvm.Cond.classLink "GluedHourLaw" (10 : Nat) "GluedHourModel") ∈ lw_gd := tb_4 (i := 232) rfl rfl
theorem wd_1048 : (Jvm.Cond.instantiable "GluedHourModel" (59 : Nat)) ∈ lw_gd := tb_4 (i := 233) rfl rfl
theorem wd_1049 : (Jvm.Cond.methodLink "GluedHourLaw" (12 : Nat) ({ cls := "GluedHourModel", name := "<init>", desc := "()V" } : Jvm.MethodName)) ∈ lw_gd := tb_4 (i := 234) rfl rfl
theorem wd_1050 : (Jvm.Cond.instanceMethod ({ cls := "GluedHourModel", name := "<init>", desc := "()V" } : Jvm.MethodName)) ∈ lw_gd := tb_4 (i := 235) rfl rfl
theorem wd_1051 : (Jvm.Cond.code ({ cls := "GluedHourModel", name := "<init>", desc := "()V" } : Jvm.MethodName) prog_12_method_1_code (1 : Nat) (Option.none : Option Jvm.ClassFile.FieldType)) ∈ lw_gd := tb_4 (i := 236) rfl rfl
theorem wd_1052 : (Jvm.Cond.methodLink "GluedHourModel" (1 : Nat) ({ cls := "java/lang/Object", name := "<init>", desc := "()V" } : Jvm.MethodName)) ∈ lw_gd := tb_4 (i := 237) rfl rfl
theorem wd_1053 : (Jvm.Cond.fieldLink "GluedHourModel" (88 : Nat) "GluedHourModel" "code" "I") ∈ lw_gd := tb_4 (i := 238) rfl rfl
theorem wd_1054 : (Jvm.Cond.fieldLink "GluedHourModel" (7 : Nat) "GluedHourModel" "tape" "[B") ∈ lw_gd := tb_4 (i := 239) rfl rfl
theorem wd_1055 : (Jvm.Cond.fieldLink "GluedHourModel" (13 : Nat) "GluedHourModel" "size" "[I") ∈ lw_gd := tb_5 (i := 0) rfl rfl
theorem wd_1056 : (Jvm.Cond.fieldLink "GluedHourModel" (17 : Nat) "GluedHourModel" "fault" "[I") ∈ lw_gd := tb_5 (i := 1) rfl rfl
theorem wd_1057 : (Jvm.Cond.fieldLink "GluedHourModel" (20 : Nat) "GluedHourModel" "faultPlace" "[I") ∈ lw_gd := tb_5 (i := 2) rfl rfl
theorem wd_1058 : (Jvm.Cond.fieldLink "GluedHourModel" (23 : Nat) "GluedHourModel" "many" "[I") ∈ lw_gd := tb_5 (i := 3) rfl rfl
theorem wd_1059 : (Jvm.Cond.fieldLink "GluedHourModel" (26 : Nat) "GluedHourModel" "republics" "[I") ∈ lw_gd := tb_5 (i := 4) rfl rfl
theorem wd_1060 : (Jvm.Cond.fieldLink "GluedHourModel" (29 : Nat) "GluedHourModel" "weeks" "[I") ∈ lw_gd := tb_5 (i := 5) rfl rfl
theorem wd_1061 : (Jvm.Cond.fieldLink "GluedHourModel" (32 : Nat) "GluedHourModel" "errands" "[I") ∈ lw_gd := tb_5 (i := 6) rfl rfl
theorem wd_1062 : (Jvm.Cond.fieldLink "GluedHourModel" (35 : Nat) "GluedHourModel" "tables" "[I") ∈ lw_gd := tb_5 (i := 7) rfl rfl
theorem wd_1063 : (Jvm.Cond.fieldLink "GluedHourModel" (38 : Nat) "GluedHourModel" "sights" "[I") ∈ lw_gd := tb_5 (i := 8) rfl rfl
theorem wd_1064 : (Jvm.Cond.fieldLink "GluedHourModel" (104 : Nat) "GluedHourModel" "reached" "I") ∈ lw_gd := tb_5 (i := 9) rfl rfl
theorem wd_1065 : (Jvm.Cond.fieldLink "GluedHourModel" (107 : Nat) "GluedHourModel" "length" "I") ∈ lw_gd := tb_5 (i := 10) rfl rfl
theorem wd_1066 : (Jvm.Cond.fieldLink "GluedHourModel" (114 : Nat) "GluedHourModel" "begins" "I") ∈ lw_gd := tb_5 (i := 11) rfl rfl
theorem wd_1067 : (Jvm.Cond.fieldLink "GluedHourModel" (121 : Nat) "GluedHourModel" "sort" "I") ∈ lw_gd := tb_5 (i := 12) rfl rfl
theorem wd_1068 : (Jvm.Cond.fieldLink "GluedHourModel" (124 : Nat) "GluedHourModel" "value" "I") ∈ lw_gd := tb_5 (i := 13) rfl rfl
theorem wd_1069 : (Jvm.Cond.fieldLink "GluedHourModel" (117 : Nat) "GluedHourModel" "word" "J") ∈ lw_gd := tb_5 (i := 14) rfl rfl
theorem wd_1070 : (Jvm.Cond.fieldLink "GluedHourModel" (127 : Nat) "GluedHourModel" "wrongAt" "I") ∈ lw_gd := tb_5 (i := 15) rfl rfl
theorem wd_1071 : (Jvm.Cond.fieldLink "GluedHourModel" (130 : Nat) "GluedHourModel" "laterFault" "I") ∈ lw_gd := tb_5 (i := 16) rfl rfl
theorem wd_1072 : (Jvm.Cond.fieldLink "GluedHourModel" (133 : Nat) "GluedHourModel" "laterPlace" "I") ∈ lw_gd := tb_5 (i := 17) rfl rfl
theorem wd_1073 : (Jvm.Cond.fieldLink "GluedHourModel" (41 : Nat) "GluedHourModel" "told" "[I") ∈ lw_gd := tb_5 (i := 18) rfl rfl
theorem wd_1074 : (Jvm.Cond.fieldLink "GluedHourModel" (44 : Nat) "GluedHourModel" "read" "[I") ∈ lw_gd := tb_5 (i := 19) rfl rfl
theorem wd_1075 : (Jvm.Cond.fieldLink "GluedHourModel" (167 : Nat) "GluedHourModel" "farHour" "I") ∈ lw_gd := tb_5 (i := 20) rfl rfl
theorem wd_1076 : (Jvm.Cond.fieldLink "GluedHourModel" (160 : Nat) "GluedHourModel" "farOne" "I") ∈ lw_gd := tb_5 (i := 21) rfl rfl
theorem wd_1077 : (Jvm.Cond.fieldLink "GluedHourModel" (144 : Nat) "GluedHourModel" "good" "Z") ∈ lw_gd := tb_5 (i := 22) rfl rfl
theorem wd_1078 : (Jvm.Cond.fieldLink "GluedHourModel" (244 : Nat) "GluedHourModel" "republic" "I") ∈ lw_gd := tb_5 (i := 23) rfl rfl
theorem wd_1079 : (Jvm.Cond.fieldLink "GluedHourModel" (263 : Nat) "GluedHourModel" "hours" "I") ∈ lw_gd := tb_5 (i := 24) rfl rfl
theorem wd_1080 : (Jvm.Cond.fieldLink "GluedHourModel" (276 : Nat) "GluedHourModel" "people" "I") ∈ lw_gd := tb_5 (i := 25) rfl rfl
theorem wd_1081 : (Jvm.Cond.fieldLink "GluedHourModel" (47 : Nat) "GluedHourModel" "purse" "[I") ∈ lw_gd := tb_5 (i := 26) rfl rfl
theorem wd_1082 : (Jvm.Cond.fieldLink "GluedHourModel" (50 : Nat) "GluedHourModel" "deed" "[I") ∈ lw_gd := tb_5 (i := 27) rfl rfl
theorem wd_1083 : (Jvm.Cond.fieldLink "GluedHourModel" (53 : Nat) "GluedHourModel" "values" "[I") ∈ lw_gd := tb_5 (i := 28) rfl rfl
theorem wd_1084 : (Jvm.Cond.fieldLink "GluedHourModel" (56 : Nat) "GluedHourModel" "weight" "[I") ∈ lw_gd := tb_5 (i := 29) rfl rfl
theorem wd_1085 : (Jvm.Cond.fieldLink "GluedHourModel" (279 : Nat) "GluedHourModel" "allWeights" "I") ∈ lw_gd := tb_5 (i := 30) rfl rfl
theorem wd_1086 : (Jvm.Cond.fieldLink "GluedHourModel" (273 : Nat) "GluedHourModel" "poorest" "I") ∈ lw_gd := tb_5 (i := 31) rfl rfl
theorem wd_1087 : (Jvm.Cond.fieldLink "GluedHourModel" (247 : Nat) "GluedHourModel" "ruledKind" "I") ∈ lw_gd := tb_5 (i := 32) rfl rfl
theorem wd_1088 : (Jvm.Cond.fieldLink "GluedHourModel" (250 : Nat) "GluedHourModel" "ruledMode" "I") ∈ lw_gd := tb_5 (i := 33) rfl rfl
theorem wd_1089 : (Jvm.Cond.fieldLink "GluedHourModel" (312 : Nat) "GluedHourModel" "week" "I") ∈ lw_gd := tb_5 (i := 34) rfl rfl
theorem wd_1090 : (Jvm.Cond.fieldLink "GluedHourModel" (321 : Nat) "GluedHourModel" "likelyUp" "J") ∈ lw_gd := tb_5 (i := 35) rfl rfl
theorem wd_1091 : (Jvm.Cond.fieldLink "GluedHourModel" (324 : Nat) "GluedHourModel" "likelyDown" "J") ∈ lw_gd := tb_5 (i := 36) rfl rfl
theorem wd_1092 : (Jvm.Cond.fieldLink "GluedHourModel" (335 : Nat) "GluedHourModel" "seed" "I") ∈ lw_gd := tb_5 (i := 37) rfl rfl
theorem wd_1093 : (Jvm.Cond.fieldLink "GluedHourModel" (59 : Nat) "GluedHourModel" "often" "[I") ∈ lw_gd := tb_5 (i := 38) rfl rfl
theorem wd_1094 : (Jvm.Cond.fieldLink "GluedHourModel" (365 : Nat) "GluedHourModel" "row" "I") ∈ lw_gd := tb_5 (i := 39) rfl rfl
theorem wd_1095 : (Jvm.Cond.fieldLink "GluedHourModel" (374 : Nat) "GluedHourModel" "tasks" "I") ∈ lw_gd := tb_5 (i := 40) rfl rfl
theorem wd_1096 : (Jvm.Cond.fieldLink "GluedHourModel" (62 : Nat) "GluedHourModel" "best" "[J") ∈ lw_gd := tb_5 (i := 41) rfl rfl
theorem wd_1097 : (Jvm.Cond.fieldLink "GluedHourModel" (66 : Nat) "GluedHourModel" "chosen" "[I") ∈ lw_gd := tb_5 (i := 42) rfl rfl
theorem wd_1098 : (Jvm.Cond.fieldLink "GluedHourModel" (368 : Nat) "GluedHourModel" "anyHour" "Z") ∈ lw_gd := tb_5 (i := 43) rfl rfl
theorem wd_1099 : (Jvm.Cond.fieldLink "GluedHourModel" (398 : Nat) "GluedHourModel" "knowing" "J") ∈ lw_gd := tb_5 (i := 44) rfl rfl
theorem wd_1100 : (Jvm.Cond.fieldLink "GluedHourModel" (413 : Nat) "GluedHourModel" "table" "I") ∈ lw_gd := tb_5 (i := 45) rfl rfl
theorem wd_1101 : (Jvm.Cond.fieldLink "GluedHourModel" (69 : Nat) "GluedHourModel" "earliest" "[I") ∈ lw_gd := tb_5 (i := 46) rfl rfl
theorem wd_1102 : (Jvm.Cond.fieldLink "GluedHourModel" (440 : Nat) "GluedHourModel" "seen" "I") ∈ lw_gd := tb_5 (i := 47) rfl rfl
theorem wd_1103 : (Jvm.Cond.fieldLink "GluedHourModel" (455 : Nat) "GluedHourModel" "fits" "I") ∈ lw_gd := tb_5 (i := 48) rfl rfl
theorem wd_1104 : (Jvm.Cond.fieldLink "GluedHourModel" (449 : Nat) "GluedHourModel" "seenDays" "I") ∈ lw_gd := tb_5 (i := 49) rfl rfl
theorem wd_1105 : (Jvm.Cond.fieldLink "GluedHourModel" (72 : Nat) "GluedHourModel" "may" "[I") ∈ lw_gd := tb_5 (i := 50) rfl rfl
theorem wd_1106 : (Jvm.Cond.fieldLink "GluedHourModel" (75 : Nat) "GluedHourModel" "rowHour" "[I") ∈ lw_gd := tb_5 (i := 51) rfl rfl
theorem wd_1107 : (Jvm.Cond.fieldLink "GluedHourModel" (78 : Nat) "GluedHourModel" "reigned" "[I") ∈ lw_gd := tb_5 (i := 52) rfl rfl
theorem wd_1108 : (Jvm.Cond.fieldLink "GluedHourModel" (81 : Nat) "GluedHourModel" "chose" "[I") ∈ lw_gd := tb_5 (i := 53) rfl rfl
theorem wd_1109 : (Jvm.Cond.fieldLink "GluedHourModel" (473 : Nat) "GluedHourModel" "up" "J") ∈ lw_gd := tb_5 (i := 54) rfl rfl
theorem wd_1110 : (Jvm.Cond.fieldLink "GluedHourModel" (470 : Nat) "GluedHourModel" "down" "J") ∈ lw_gd := tb_5 (i := 55) rfl rfl
theorem wd_1111 : (Jvm.Cond.fieldLink "GluedHourModel" (84 : Nat) "GluedHourModel" "kept" "[Z") ∈ lw_gd := tb_5 (i := 56) rfl rfl
theorem wd_1231 : (Jvm.Cond.arrayClass Jvm.ClassFile.FieldType.boolean) ∈ lw_gd := tb_5 (i := 176) rfl rfl
theorem wd_1232 : (Jvm.Cond.methodLink "GluedHourLaw" (17 : Nat) ({ cls := "GluedHourModel", name := "feed", desc := "(IIIII)I" } : Jvm.MethodName)) ∈ lw_gd := tb_5 (i := 177) rfl rfl
theorem wd_1233 : (Jvm.Cond.instanceMethod ({ cls := "GluedHourModel", name := "feed", desc := "(IIIII)I" } : Jvm.MethodName)) ∈ lw_gd := tb_5 (i := 178) rfl rfl
theorem wd_1234 : (Jvm.Cond.selects "GluedHourModel" ({ cls := "GluedHourModel", name := "feed", desc := "(IIIII)I" } : Jvm.MethodName) ({ cls := "GluedHourModel", name := "feed", desc := "(IIIII)I" } : Jvm.MethodName)) ∈ lw_gd := tb_5 (i := 179) rfl rfl
theorem wd_1235 : (Jvm.Cond.code ({ cls := "GluedHourModel", name := "feed", desc := "(IIIII)I" } : Jvm.MethodName) prog_12_method_10_code (6 : Nat) (Option.some Jvm.ClassFile.FieldType.int)) ∈ lw_gd := tb_5 (i := 180) rfl rfl
theorem wd_1236 : (Jvm.Cond.methodLink "GluedHourModel" (100 : Nat) ({ cls := "GluedHourModel", name := "four", desc := "(I)V" } : Jvm.MethodName)) ∈ lw_gd := tb_5 (i := 181) rfl rfl
theorem wd_1238 : (Jvm.Cond.instanceMethod ({ cls := "GluedHourModel", name := "four", desc := "(I)V" } : Jvm.MethodName)) ∈ lw_gd := tb_5 (i := 183) rfl rfl
theorem wd_1239 : (Jvm.Cond.code ({ cls := "GluedHourModel", name := "four", desc := "(I)V" } : Jvm.MethodName) prog_12_method_11_code (3 : Nat) (Option.none : Option Jvm.ClassFile.FieldType)) ∈ lw_gd := tb_5 (i := 184) rfl rfl
theorem wd_1240 : (Jvm.Cond.methodLink "GluedHourLaw" (22 : Nat) ({ cls := "GluedHourModel", name := "end", desc := "(I)I" } : Jvm.MethodName)) ∈ lw_gd := tb_5 (i := 185) rfl rfl
theorem wd_1241 : (Jvm.Cond.instanceMethod ({ cls := "GluedHourModel", name := "end", desc := "(I)I" } : Jvm.MethodName)) ∈ lw_gd := tb_5 (i := 186) rfl rfl
theorem wd_1242 : (Jvm.Cond.selects "GluedHourModel" ({ cls := "GluedHourModel", name := "end", desc := "(I)I" } : Jvm.MethodName) ({ cls := "GluedHourModel", name := "end", desc := "(I)I" } : Jvm.MethodName)) ∈ lw_gd := tb_5 (i := 187) rfl rfl
theorem wd_1243 : (Jvm.Cond.code ({ cls := "GluedHourModel", name := "end", desc := "(I)I" } : Jvm.MethodName) prog_12_method_12_code (2 : Nat) (Option.some Jvm.ClassFile.FieldType.int)) ∈ lw_gd := tb_5 (i := 188) rfl rfl
theorem wd_1244 : (Jvm.Cond.methodLink "GluedHourModel" (96 : Nat) ({ cls := "GluedHourModel", name := "in", desc := "(III)Z" } : Jvm.MethodName)) ∈ lw_gd := tb_5 (i := 189) rfl rfl
theorem wd_1245 : (Jvm.Cond.static ({ cls := "GluedHourModel", name := "in", desc := "(III)Z" } : Jvm.MethodName)) ∈ lw_gd := tb_5 (i := 190) rfl rfl
theorem wd_1246 : (Jvm.Cond.code ({ cls := "GluedHourModel", name := "in", desc := "(III)Z" } : Jvm.MethodName) prog_12_method_3_code (3 : Nat) (Option.some Jvm.ClassFile.FieldType.boolean)) ∈ lw_gd := tb_5 (i := 191) rfl rfl
theorem wd_1247 : (Jvm.Cond.methodLink "GluedHourLaw" (27 : Nat) ({ cls := "GluedHourModel", name := "text", desc := "(II)I" } : Jvm.MethodName)) ∈ lw_gd := tb_5 (i := 192) rfl rfl
theorem wd_1248 : (Jvm.Cond.instanceMethod ({ cls := "GluedHourModel", name := "text", desc := "(II)I" } : Jvm.MethodName)) ∈ lw_gd := tb_5 (i := 193) rfl rfl
theorem wd_1249 : (Jvm.Cond.selects "GluedHourModel" ({ cls := "GluedHourModel", name := "text", desc := "(II)I" } : Jvm.MethodName) ({ cls := "GluedHourModel", name := "text", desc := "(II)I" } : Jvm.MethodName)) ∈ lw_gd := tb_5 (i := 194) rfl rfl
theorem wd_1250 : (Jvm.Cond.code ({ cls := "GluedHourModel", name := "text", desc := "(II)I" } : Jvm.MethodName) prog_12_method_32_code (4 : Nat) (Option.some Jvm.ClassFile.FieldType.int)) ∈ lw_gd := tb_5 (i := 195) rfl rfl
theorem wd_1251 : (Jvm.Cond.methodLink "GluedHourModel" (234 : Nat) ({ cls := "GluedHourModel", name := "is", desc := "(II)Z" } : Jvm.MethodName)) ∈ lw_gd := tb_5 (i := 196) rfl rfl
theorem wd_1253 : (Jvm.Cond.instanceMethod ({ cls := "GluedHourModel", name := "is", desc := "(II)Z" } : Jvm.MethodName)) ∈ lw_gd := tb_5 (i := 198) rfl rfl
theorem wd_1254 : (Jvm.Cond.code ({ cls := "GluedHourModel", name := "is", desc := "(II)Z" } : Jvm.MethodName) prog_12_method_9_code (3 : Nat) (Option.some Jvm.ClassFile.FieldType.boolean)) ∈ lw_gd := tb_5 (i := 199) rfl rfl
theorem wd_1255 : (Jvm.Cond.methodLink "GluedHourModel" (238 : Nat) ({ cls := "GluedHourModel", name := "readText", desc := "(I)Z" } : Jvm.MethodName)) ∈ lw_gd := tb_5 (i := 200) rfl rfl
theorem wd_1257 : (Jvm.Cond.instanceMethod ({ cls := "GluedHourModel", name := "readText", desc := "(I)Z" } : Jvm.MethodName)) ∈ lw_gd := tb_5 (i := 202) rfl rfl
theorem wd_1258 : (Jvm.Cond.code ({ cls := "GluedHourModel", name := "readText", desc := "(I)Z" } : Jvm.MethodName) prog_12_method_29_code (3 : Nat) (Option.some Jvm.ClassFile.FieldType.boolean)) ∈ lw_gd := tb_5 (i := 203) rfl rfl
theorem wd_1259 : (Jvm.Cond.methodLink "GluedHourModel" (148 : Nat) ({ cls := "GluedHourModel", name := "token", desc := "()V" } : Jvm.MethodName)) ∈ lw_gd := tb_5 (i := 204) rfl rfl
theorem wd_1261 : (Jvm.Cond.instanceMethod ({ cls := "GluedHourModel", name := "token", desc := "()V" } : Jvm.MethodName)) ∈ lw_gd := tb_5 (i := 206) rfl rfl
theorem wd_1262 : (Jvm.Cond.code ({ cls := "GluedHourModel", name := "token", desc := "()V" } : Jvm.MethodName) prog_12_method_14_code (3 : Nat) (Option.none : Option Jvm.ClassFile.FieldType)) ∈ lw_gd := tb_5 (i := 207) rfl rfl
theorem wd_1263 : (Jvm.Cond.methodLink "GluedHourModel" (110 : Nat) ({ cls := "GluedHourModel", name := "see", desc := "()I" } : Jvm.MethodName)) ∈ lw_gd := tb_5 (i := 208) rfl rfl
theorem wd_1265 : (Jvm.Cond.instanceMethod ({ cls := "GluedHourModel", name := "see", desc := "()I" } : Jvm.MethodName)) ∈ lw_gd := tb_5 (i := 210) rfl rfl
theorem wd_1266 : (Jvm.Cond.code ({ cls := "GluedHourModel", name := "see", desc := "()I" } : Jvm.MethodName) prog_12_method_13_code (1 : Nat) (Option.some Jvm.ClassFile.FieldType.int)) ∈ lw_gd := tb_5 (i := 211) rfl rfl
theorem wd_1267 : (Jvm.Cond.methodLink "GluedHourModel" (226 : Nat) ({ cls := "GluedHourModel", name := "lines", desc := "(I)Z" } : Jvm.MethodName)) ∈ lw_gd := tb_5 (i := 212) rfl rfl
theorem wd_1269 : (Jvm.Cond.instanceMethod ({ cls := "GluedHourModel", name := "lines", desc := "(I)Z" } : Jvm.MethodName)) ∈ lw_gd := tb_5 (i := 214) rfl rfl
theorem wd_1270 : (Jvm.Cond.code ({ cls := "GluedHourModel", name := "lines", desc := "(I)Z" } : Jvm.MethodName) prog_12_method_28_code (4 : Nat) (Option.some Jvm.ClassFile.FieldType.boolean)) ∈ lw_gd := tb_5 (i := 215) rfl rfl
theorem wd_1271 : (Jvm.Cond.methodLink "GluedHourModel" (222 : Nat) ({ cls := "GluedHourModel", name := "lineOf", desc := "(IJI)Z" } : Jvm.MethodName)) ∈ lw_gd := tb_5 (i := 216) rfl rfl
theorem wd_1273 : (Jvm.Cond.instanceMethod ({ cls := "GluedHourModel", name := "lineOf", desc := "(IJI)Z" } : Jvm.MethodName)) ∈ lw_gd := tb_5 (i := 218) rfl rfl
theorem wd_1274 : (Jvm.Cond.code ({ cls := "GluedHourModel", name := "lineOf", desc := "(IJI)Z" } : Jvm.MethodName) prog_12_method_27_code (5 : Nat) (Option.some Jvm.ClassFile.FieldType.boolean)) ∈ lw_gd := tb_5 (i := 219) rfl rfl
theorem wd_1275 : (Jvm.Cond.methodLink "GluedHourModel" (206 : Nat) ({ cls := "GluedHourModel", name := "republicLine", desc := "(JI)Z" } : Jvm.MethodName)) ∈ lw_gd := tb_5 (i := 220) rfl rfl
theorem wd_1277 : (Jvm.Cond.instanceMethod ({ cls := "GluedHourModel", name := "republicLine", desc := "(JI)Z" } : Jvm.MethodName)) ∈ lw_gd := tb_5 (i := 222) rfl rfl
theorem wd_1278 : (Jvm.Cond.code ({ cls := "GluedHourModel", name := "republicLine", desc := "(JI)Z" } : Jvm.MethodName) prog_12_method_22_code (4 : Nat) (Option.some Jvm.ClassFile.FieldType.boolean)) ∈ lw_gd := tb_5 (i := 223) rfl rfl
theorem wd_1279 : (Jvm.Cond.constantLong "GluedHourModel" (170 : Nat) (448546566771 : Int64)) ∈ lw_gd := tb_5 (i := 224) rfl rfl
theorem wd_1280 : (Jvm.Cond.constantLong "GluedHourModel" (172 : Nat) (1734437230 : Int64)) ∈ lw_gd := tb_5 (i := 225) rfl rfl
theorem wd_1281 : (Jvm.Cond.constantLong "GluedHourModel" (174 : Nat) (1819243379 : Int64)) ∈ lw_gd := tb_5 (i := 226) rfl rfl
theorem wd_1282 : (Jvm.Cond.constantLong "GluedHourModel" (176 : Nat) (123581014175598 : Int64)) ∈ lw_gd := tb_5 (i := 227) rfl rfl
theorem wd_1283 : (Jvm.Cond.constantLong "GluedHourModel" (178 : Nat) (1685022067 : Int64)) ∈ lw_gd := tb_5 (i := 228) rfl rfl
theorem wd_1284 : (Jvm.Cond.constantLong "GluedHourModel" (180 : Nat) (7106420 : Int64)) ∈ lw_gd := tb_5 (i := 229) rfl rfl
theorem wd_1285 : (Jvm.Cond.methodLink "GluedHourModel" (136 : Nat) ({ cls := "GluedHourModel", name := "fails", desc := "()Z" } : Jvm.MethodName)) ∈ lw_gd := tb_5 (i := 230) rfl rfl
theorem wd_1287 : (Jvm.Cond.instanceMethod ({ cls := "GluedHourModel", name := "fails", desc := "()Z" } : Jvm.MethodName)) ∈ lw_gd := tb_5 (i := 232) rfl rfl
theorem wd_1288 : (Jvm.Cond.code ({ cls := "GluedHourModel", name := "fails", desc := "()Z" } : Jvm.MethodName) prog_12_method_15_code (1 : Nat) (Option.some Jvm.ClassFile.FieldType.boolean)) ∈ lw_gd := tb_5 (i := 233) rfl rfl
theorem wd_1289 : (Jvm.Cond.methodLink "GluedHourModel" (182 : Nat) ({ cls := "GluedHourModel", name := "full", desc := "(III)V" } : Jvm.MethodName)) ∈ lw_gd := tb_5 (i := 234) rfl rfl
theorem wd_1291 : (Jvm.Cond.instanceMethod ({ cls := "GluedHourModel", name := "full", desc := "(III)V" } : Jvm.MethodName)) ∈ lw_gd := tb_5 (i := 236) rfl rfl
theorem wd_1292 : (Jvm.Cond.code ({ cls := "GluedHourModel", name := "full", desc := "(III)V" } : Jvm.MethodName) prog_12_method_18_code (4 : Nat) (Option.none : Option Jvm.ClassFile.FieldType)) ∈ lw_gd := tb_5 (i := 237) rfl rfl
theorem wd_1293 : (Jvm.Cond.methodLink "GluedHourModel" (140 : Nat) ({ cls := "GluedHourModel", name := "later", desc := "(II)V" } : Jvm.MethodName)) ∈ lw_gd := tb_5 (i := 238) rfl rfl
theorem wd_1295 : (Jvm.Cond.instanceMethod ({ cls := "GluedHourModel", name := "later", desc := "(II)V" } : Jvm.MethodName)) ∈ lw_gd := tb_6 (i := 0) rfl rfl
theorem wd_1296 : (Jvm.Cond.code ({ cls := "GluedHourModel", name := "later", desc := "(II)V" } : Jvm.MethodName) prog_12_method_16_code (3 : Nat) (Option.none : Option Jvm.ClassFile.FieldType)) ∈ lw_gd := tb_6 (i := 1) rfl rfl
theorem wd_1297 : (Jvm.Cond.methodLink "GluedHourModel" (186 : Nat) ({ cls := "GluedHourModel", name := "kindLine", desc := "(Z)Z" } : Jvm.MethodName)) ∈ lw_gd := tb_6 (i := 2) rfl rfl
theorem wd_1299 : (Jvm.Cond.instanceMethod ({ cls := "GluedHourModel", name := "kindLine", desc := "(Z)Z" } : Jvm.MethodName)) ∈ lw_gd := tb_6 (i := 4) rfl rfl
theorem wd_1300 : (Jvm.Cond.code ({ cls := "GluedHourModel", name := "kindLine", desc := "(Z)Z" } : Jvm.MethodName) prog_12_method_20_code (3 : Nat) (Option.some Jvm.ClassFile.FieldType.boolean)) ∈ lw_gd := tb_6 (i := 5) rfl rfl
theorem wd_1301 : (Jvm.Cond.methodLink "GluedHourModel" (151 : Nat) ({ cls := "GluedHourModel", name := "take", desc := "(III)Z" } : Jvm.MethodName)) ∈ lw_gd := tb_6 (i := 6) rfl rfl
theorem wd_1303 : (Jvm.Cond.instanceMethod ({ cls := "GluedHourModel", name := "take", desc := "(III)Z" } : Jvm.MethodName)) ∈ lw_gd := tb_6 (i := 8) rfl rfl
theorem wd_1304 : (Jvm.Cond.code ({ cls := "GluedHourModel", name := "take", desc := "(III)Z" } : Jvm.MethodName) prog_12_method_17_code (4 : Nat) (Option.some Jvm.ClassFile.FieldType.boolean)) ∈ lw_gd := tb_6 (i := 9) rfl rfl
theorem wd_1305 : (Jvm.Cond.constantLong "GluedHourModel" (154 : Nat) (500219601765 : Int64)) ∈ lw_gd := tb_6 (i := 10) rfl rfl
theorem wd_1306 : (Jvm.Cond.constantLong "GluedHourModel" (156 : Nat) (1869505381 : Int64)) ∈ lw_gd := tb_6 (i := 11) rfl rfl
theorem wd_1307 : (Jvm.Cond.constantLong "GluedHourModel" (158 : Nat) (129116991876709 : Int64)) ∈ lw_gd := tb_6 (i := 12) rfl rfl
theorem wd_1308 : (Jvm.Cond.methodLink "GluedHourModel" (190 : Nat) ({ cls := "GluedHourModel", name := "ofOne", desc := "(Z)Z" } : Jvm.MethodName)) ∈ lw_gd := tb_6 (i := 13) rfl rfl
theorem wd_1310 : (Jvm.Cond.instanceMethod ({ cls := "GluedHourModel", name := "ofOne", desc := "(Z)Z" } : Jvm.MethodName)) ∈ lw_gd := tb_6 (i := 15) rfl rfl
theorem wd_1311 : (Jvm.Cond.code ({ cls := "GluedHourModel", name := "ofOne", desc := "(Z)Z" } : Jvm.MethodName) prog_12_method_21_code (2 : Nat) (Option.some Jvm.ClassFile.FieldType.boolean)) ∈ lw_gd := tb_6 (i := 16) rfl rfl
theorem wd_1312 : (Jvm.Cond.methodLink "GluedHourModel" (163 : Nat) ({ cls := "GluedHourModel", name := "greater", desc := "(II)I" } : Jvm.MethodName)) ∈ lw_gd := tb_6 (i := 17) rfl rfl
theorem wd_1313 : (Jvm.Cond.static ({ cls := "GluedHourModel", name := "greater", desc := "(II)I" } : Jvm.MethodName)) ∈ lw_gd := tb_6 (i := 18) rfl rfl
theorem wd_1314 : (Jvm.Cond.code ({ cls := "GluedHourModel", name := "greater", desc := "(II)I" } : Jvm.MethodName) prog_12_method_5_code (2 : Nat) (Option.some Jvm.ClassFile.FieldType.int)) ∈ lw_gd := tb_6 (i := 19) rfl rfl
theorem wd_1315 : (Jvm.Cond.methodLink "GluedHourModel" (210 : Nat) ({ cls := "GluedHourModel", name := "weekLine", desc := "(JI)Z" } : Jvm.MethodName)) ∈ lw_gd := tb_6 (i := 20) rfl rfl
theorem wd_1317 : (Jvm.Cond.instanceMethod ({ cls := "GluedHourModel", name := "weekLine", desc := "(JI)Z" } : Jvm.MethodName)) ∈ lw_gd := tb_6 (i := 22) rfl rfl
theorem wd_1318 : (Jvm.Cond.code ({ cls := "GluedHourModel", name := "weekLine", desc := "(JI)Z" } : Jvm.MethodName) prog_12_method_23_code (4 : Nat) (Option.some Jvm.ClassFile.FieldType.boolean)) ∈ lw_gd := tb_6 (i := 23) rfl rfl
theorem wd_1319 : (Jvm.Cond.constantLong "GluedHourModel" (193 : Nat) (495875089259 : Int64)) ∈ lw_gd := tb_6 (i := 24) rfl rfl
theorem wd_1320 : (Jvm.Cond.methodLink "GluedHourModel" (195 : Nat) ({ cls := "GluedHourModel", name := "keep", desc := "(III)V" } : Jvm.MethodName)) ∈ lw_gd := tb_6 (i := 25) rfl rfl
theorem wd_1322 : (Jvm.Cond.instanceMethod ({ cls := "GluedHourModel", name := "keep", desc := "(III)V" } : Jvm.MethodName)) ∈ lw_gd := tb_6 (i := 27) rfl rfl
theorem wd_1323 : (Jvm.Cond.code ({ cls := "GluedHourModel", name := "keep", desc := "(III)V" } : Jvm.MethodName) prog_12_method_19_code (6 : Nat) (Option.none : Option Jvm.ClassFile.FieldType)) ∈ lw_gd := tb_6 (i := 28) rfl rfl
theorem wd_1324 : (Jvm.Cond.methodLink "GluedHourModel" (213 : Nat) ({ cls := "GluedHourModel", name := "errandLine", desc := "(JI)Z" } : Jvm.MethodName)) ∈ lw_gd := tb_6 (i := 29) rfl rfl
theorem wd_1326 : (Jvm.Cond.instanceMethod ({ cls := "GluedHourModel", name := "errandLine", desc := "(JI)Z" } : Jvm.MethodName)) ∈ lw_gd := tb_6 (i := 31) rfl rfl
theorem wd_1327 : (Jvm.Cond.code ({ cls := "GluedHourModel", name := "errandLine", desc := "(JI)Z" } : Jvm.MethodName) prog_12_method_24_code (4 : Nat) (Option.some Jvm.ClassFile.FieldType.boolean)) ∈ lw_gd := tb_6 (i := 32) rfl rfl
theorem wd_1328 : (Jvm.Cond.constantLong "GluedHourModel" (198 : Nat) (111542219664996 : Int64)) ∈ lw_gd := tb_6 (i := 33) rfl rfl
theorem wd_1329 : (Jvm.Cond.methodLink "GluedHourModel" (216 : Nat) ({ cls := "GluedHourModel", name := "trainLine", desc := "(JI)Z" } : Jvm.MethodName)) ∈ lw_gd := tb_6 (i := 34) rfl rfl
theorem wd_1331 : (Jvm.Cond.instanceMethod ({ cls := "GluedHourModel", name := "trainLine", desc := "(JI)Z" } : Jvm.MethodName)) ∈ lw_gd := tb_6 (i := 36) rfl rfl
theorem wd_1332 : (Jvm.Cond.code ({ cls := "GluedHourModel", name := "trainLine", desc := "(JI)Z" } : Jvm.MethodName) prog_12_method_25_code (4 : Nat) (Option.some Jvm.ClassFile.FieldType.boolean)) ∈ lw_gd := tb_6 (i := 37) rfl rfl
theorem wd_1333 : (Jvm.Cond.constantLong "GluedHourModel" (200 : Nat) (500135192942 : Int64)) ∈ lw_gd := tb_6 (i := 38) rfl rfl
theorem wd_1334 : (Jvm.Cond.methodLink "GluedHourModel" (219 : Nat) ({ cls := "GluedHourModel", name := "sightLine", desc := "(JI)Z" } : Jvm.MethodName)) ∈ lw_gd := tb_6 (i := 39) rfl rfl
theorem wd_1336 : (Jvm.Cond.instanceMethod ({ cls := "GluedHourModel", name := "sightLine", desc := "(JI)Z" } : Jvm.MethodName)) ∈ lw_gd := tb_6 (i := 41) rfl rfl
theorem wd_1337 : (Jvm.Cond.code ({ cls := "GluedHourModel", name := "sightLine", desc := "(JI)Z" } : Jvm.MethodName) prog_12_method_26_code (4 : Nat) (Option.some Jvm.ClassFile.FieldType.boolean)) ∈ lw_gd := tb_6 (i := 42) rfl rfl
theorem wd_1338 : (Jvm.Cond.constantLong "GluedHourModel" (202 : Nat) (6840691 : Int64)) ∈ lw_gd := tb_6 (i := 43) rfl rfl
theorem wd_1339 : (Jvm.Cond.constantLong "GluedHourModel" (204 : Nat) (1870095731 : Int64)) ∈ lw_gd := tb_6 (i := 44) rfl rfl
theorem wd_1340 : (Jvm.Cond.methodLink "GluedHourModel" (241 : Nat) ({ cls := "GluedHourModel", name := "storeAll", desc := "(II)V" } : Jvm.MethodName)) ∈ lw_gd := tb_6 (i := 45) rfl rfl
theorem wd_1342 : (Jvm.Cond.instanceMethod ({ cls := "GluedHourModel", name := "storeAll", desc := "(II)V" } : Jvm.MethodName)) ∈ lw_gd := tb_6 (i := 47) rfl rfl
theorem wd_1343 : (Jvm.Cond.code ({ cls := "GluedHourModel", name := "storeAll", desc := "(II)V" } : Jvm.MethodName) prog_12_method_31_code (3 : Nat) (Option.none : Option Jvm.ClassFile.FieldType)) ∈ lw_gd := tb_6 (i := 48) rfl rfl
theorem wd_1344 : (Jvm.Cond.methodLink "GluedHourModel" (230 : Nat) ({ cls := "GluedHourModel", name := "store", desc := "([III)V" } : Jvm.MethodName)) ∈ lw_gd := tb_6 (i := 49) rfl rfl
theorem wd_1346 : (Jvm.Cond.instanceMethod ({ cls := "GluedHourModel", name := "store", desc := "([III)V" } : Jvm.MethodName)) ∈ lw_gd := tb_6 (i := 51) rfl rfl
theorem wd_1347 : (Jvm.Cond.code ({ cls := "GluedHourModel", name := "store", desc := "([III)V" } : Jvm.MethodName) prog_12_method_30_code (5 : Nat) (Option.none : Option Jvm.ClassFile.FieldType)) ∈ lw_gd := tb_6 (i := 52) rfl rfl
theorem wd_1348 : (Jvm.Cond.methodLink "GluedHourLaw" (31 : Nat) ({ cls := "GluedHourModel", name := "fault", desc := "(I)I" } : Jvm.MethodName)) ∈ lw_gd := tb_6 (i := 53) rfl rfl
theorem wd_1349 : (Jvm.Cond.instanceMethod ({ cls := "GluedHourModel", name := "fault", desc := "(I)I" } : Jvm.MethodName)) ∈ lw_gd := tb_6 (i := 54) rfl rfl
theorem wd_1350 : (Jvm.Cond.selects "GluedHourModel" ({ cls := "GluedHourModel", name := "fault", desc := "(I)I" } : Jvm.MethodName) ({ cls := "GluedHourModel", name := "fault", desc := "(I)I" } : Jvm.MethodName)) ∈ lw_gd := tb_6 (i := 55) rfl rfl
theorem wd_1351 : (Jvm.Cond.code ({ cls := "GluedHourModel", name := "fault", desc := "(I)I" } : Jvm.MethodName) prog_12_method_33_code (2 : Nat) (Option.some Jvm.ClassFile.FieldType.int)) ∈ lw_gd := tb_6 (i := 56) rfl rfl
theorem wd_1352 : (Jvm.Cond.methodLink "GluedHourLaw" (35 : Nat) ({ cls := "GluedHourModel", name := "republic", desc := "(II)I" } : Jvm.MethodName)) ∈ lw_gd := tb_6 (i := 57) rfl rfl
theorem wd_1353 : (Jvm.Cond.instanceMethod ({ cls := "GluedHourModel", name := "republic", desc := "(II)I" } : Jvm.MethodName)) ∈ lw_gd := tb_6 (i := 58) rfl rfl
theorem wd_1354 : (Jvm.Cond.selects "GluedHourModel" ({ cls := "GluedHourModel", name := "republic", desc := "(II)I" } : Jvm.MethodName) ({ cls := "GluedHourModel", name := "republic", desc := "(II)I" } : Jvm.MethodName)) ∈ lw_gd := tb_6 (i := 59) rfl rfl
theorem wd_1355 : (Jvm.Cond.code ({ cls := "GluedHourModel", name := "republic", desc := "(II)I" } : Jvm.MethodName) prog_12_method_45_code (3 : Nat) (Option.some Jvm.ClassFile.FieldType.int)) ∈ lw_gd := tb_6 (i := 60) rfl rfl
theorem wd_1356 : (Jvm.Cond.methodLink "GluedHourModel" (288 : Nat) ({ cls := "GluedHourModel", name := "hand", desc := "(I)Z" } : Jvm.MethodName)) ∈ lw_gd := tb_6 (i := 61) rfl rfl
theorem wd_1358 : (Jvm.Cond.instanceMethod ({ cls := "GluedHourModel", name := "hand", desc := "(I)Z" } : Jvm.MethodName)) ∈ lw_gd := tb_6 (i := 63) rfl rfl
theorem wd_1359 : (Jvm.Cond.code ({ cls := "GluedHourModel", name := "hand", desc := "(I)Z" } : Jvm.MethodName) prog_12_method_41_code (4 : Nat) (Option.some Jvm.ClassFile.FieldType.boolean)) ∈ lw_gd := tb_6 (i := 64) rfl rfl
theorem wd_1360 : (Jvm.Cond.methodLink "GluedHourModel" (253 : Nat) ({ cls := "GluedHourModel", name := "of", desc := "(I)I" } : Jvm.MethodName)) ∈ lw_gd := tb_6 (i := 65) rfl rfl
theorem wd_1362 : (Jvm.Cond.instanceMethod ({ cls := "GluedHourModel", name := "of", desc := "(I)I" } : Jvm.MethodName)) ∈ lw_gd := tb_6 (i := 67) rfl rfl
theorem wd_1363 : (Jvm.Cond.code ({ cls := "GluedHourModel", name := "of", desc := "(I)I" } : Jvm.MethodName) prog_12_method_34_code (2 : Nat) (Option.some Jvm.ClassFile.FieldType.int)) ∈ lw_gd := tb_6 (i := 68) rfl rfl
theorem wd_1364 : (Jvm.Cond.methodLink "GluedHourModel" (282 : Nat) ({ cls := "GluedHourModel", name := "layValues", desc := "(I)V" } : Jvm.MethodName)) ∈ lw_gd := tb_6 (i := 69) rfl rfl
theorem wd_1366 : (Jvm.Cond.instanceMethod ({ cls := "GluedHourModel", name := "layValues", desc := "(I)V" } : Jvm.MethodName)) ∈ lw_gd := tb_6 (i := 71) rfl rfl
theorem wd_1367 : (Jvm.Cond.code ({ cls := "GluedHourModel", name := "layValues", desc := "(I)V" } : Jvm.MethodName) prog_12_method_39_code (3 : Nat) (Option.none : Option Jvm.ClassFile.FieldType)) ∈ lw_gd := tb_6 (i := 72) rfl rfl
theorem wd_1368 : (Jvm.Cond.methodLink "GluedHourModel" (270 : Nat) ({ cls := "GluedHourModel", name := "valueBy", desc := "(III)I" } : Jvm.MethodName)) ∈ lw_gd := tb_6 (i := 73) rfl rfl
theorem wd_1370 : (Jvm.Cond.instanceMethod ({ cls := "GluedHourModel", name := "valueBy", desc := "(III)I" } : Jvm.MethodName)) ∈ lw_gd := tb_6 (i := 75) rfl rfl
theorem wd_1371 : (Jvm.Cond.code ({ cls := "GluedHourModel", name := "valueBy", desc := "(III)I" } : Jvm.MethodName) prog_12_method_38_code (7 : Nat) (Option.some Jvm.ClassFile.FieldType.int)) ∈ lw_gd := tb_6 (i := 76) rfl rfl
theorem wd_1372 : (Jvm.Cond.methodLink "GluedHourModel" (266 : Nat) ({ cls := "GluedHourModel", name := "worthOf", desc := "(III)I" } : Jvm.MethodName)) ∈ lw_gd := tb_6 (i := 77) rfl rfl
theorem wd_1374 : (Jvm.Cond.instanceMethod ({ cls := "GluedHourModel", name := "worthOf", desc := "(III)I" } : Jvm.MethodName)) ∈ lw_gd := tb_6 (i := 79) rfl rfl
theorem wd_1375 : (Jvm.Cond.code ({ cls := "GluedHourModel", name := "worthOf", desc := "(III)I" } : Jvm.MethodName) prog_12_method_37_code (5 : Nat) (Option.some Jvm.ClassFile.FieldType.int)) ∈ lw_gd := tb_6 (i := 80) rfl rfl
theorem wd_1376 : (Jvm.Cond.methodLink "GluedHourModel" (257 : Nat) ({ cls := "GluedHourModel", name := "modeOf", desc := "(I)I" } : Jvm.MethodName)) ∈ lw_gd := tb_6 (i := 81) rfl rfl
theorem wd_1378 : (Jvm.Cond.instanceMethod ({ cls := "GluedHourModel", name := "modeOf", desc := "(I)I" } : Jvm.MethodName)) ∈ lw_gd := tb_6 (i := 83) rfl rfl
theorem wd_1379 : (Jvm.Cond.code ({ cls := "GluedHourModel", name := "modeOf", desc := "(I)I" } : Jvm.MethodName) prog_12_method_35_code (2 : Nat) (Option.some Jvm.ClassFile.FieldType.int)) ∈ lw_gd := tb_6 (i := 84) rfl rfl
theorem wd_1380 : (Jvm.Cond.methodLink "GluedHourModel" (260 : Nat) ({ cls := "GluedHourModel", name := "times", desc := "(II)I" } : Jvm.MethodName)) ∈ lw_gd := tb_6 (i := 85) rfl rfl
theorem wd_1381 : (Jvm.Cond.static ({ cls := "GluedHourModel", name := "times", desc := "(II)I" } : Jvm.MethodName)) ∈ lw_gd := tb_6 (i := 86) rfl rfl
theorem wd_1382 : (Jvm.Cond.code ({ cls := "GluedHourModel", name := "times", desc := "(II)I" } : Jvm.MethodName) prog_12_method_36_code (2 : Nat) (Option.some Jvm.ClassFile.FieldType.int)) ∈ lw_gd := tb_6 (i := 87) rfl rfl
theorem wd_1383 : (Jvm.Cond.methodLink "GluedHourModel" (285 : Nat) ({ cls := "GluedHourModel", name := "layOdds", desc := "()V" } : Jvm.MethodName)) ∈ lw_gd := tb_6 (i := 88) rfl rfl
theorem wd_1385 : (Jvm.Cond.instanceMethod ({ cls := "GluedHourModel", name := "layOdds", desc := "()V" } : Jvm.MethodName)) ∈ lw_gd := tb_6 (i := 90) rfl rfl
theorem wd_1386 : (Jvm.Cond.code ({ cls := "GluedHourModel", name := "layOdds", desc := "()V" } : Jvm.MethodName) prog_12_method_40_code (2 : Nat) (Option.none : Option Jvm.ClassFile.FieldType)) ∈ lw_gd := tb_6 (i := 91) rfl rfl
theorem wd_1387 : (Jvm.Cond.methodLink "GluedHourLaw" (40 : Nat) ({ cls := "GluedHourModel", name := "person", desc := "(III)I" } : Jvm.MethodName)) ∈ lw_gd := tb_6 (i := 92) rfl rfl
theorem wd_1388 : (Jvm.Cond.instanceMethod ({ cls := "GluedHourModel", name := "person", desc := "(III)I" } : Jvm.MethodName)) ∈ lw_gd := tb_6 (i := 93) rfl rfl
theorem wd_1389 : (Jvm.Cond.selects "GluedHourModel" ({ cls := "GluedHourModel", name := "person", desc := "(III)I" } : Jvm.MethodName) ({ cls := "GluedHourModel", name := "person", desc := "(III)I" } : Jvm.MethodName)) ∈ lw_gd := tb_6 (i := 94) rfl rfl
theorem wd_1390 : (Jvm.Cond.code ({ cls := "GluedHourModel", name := "person", desc := "(III)I" } : Jvm.MethodName) prog_12_method_46_code (4 : Nat) (Option.some Jvm.ClassFile.FieldType.int)) ∈ lw_gd := tb_6 (i := 95) rfl rfl
theorem wd_1391 : (Jvm.Cond.methodLink "GluedHourModel" (294 : Nat) ({ cls := "GluedHourModel", name := "handOne", desc := "(II)Z" } : Jvm.MethodName)) ∈ lw_gd := tb_6 (i := 96) rfl rfl
theorem wd_1393 : (Jvm.Cond.instanceMethod ({ cls := "GluedHourModel", name := "handOne", desc := "(II)Z" } : Jvm.MethodName)) ∈ lw_gd := tb_6 (i := 98) rfl rfl
theorem wd_1394 : (Jvm.Cond.code ({ cls := "GluedHourModel", name := "handOne", desc := "(II)Z" } : Jvm.MethodName) prog_12_method_44_code (3 : Nat) (Option.some Jvm.ClassFile.FieldType.boolean)) ∈ lw_gd := tb_6 (i := 99) rfl rfl
theorem wd_1395 : (Jvm.Cond.methodLink "GluedHourModel" (291 : Nat) ({ cls := "GluedHourModel", name := "isOne", desc := "(I)Z" } : Jvm.MethodName)) ∈ lw_gd := tb_6 (i := 100) rfl rfl
theorem wd_1397 : (Jvm.Cond.instanceMethod ({ cls := "GluedHourModel", name := "isOne", desc := "(I)Z" } : Jvm.MethodName)) ∈ lw_gd := tb_6 (i := 102) rfl rfl
theorem wd_1398 : (Jvm.Cond.code ({ cls := "GluedHourModel", name := "isOne", desc := "(I)Z" } : Jvm.MethodName) prog_12_method_42_code (2 : Nat) (Option.some Jvm.ClassFile.FieldType.boolean)) ∈ lw_gd := tb_6 (i := 103) rfl rfl
theorem wd_1399 : (Jvm.Cond.methodLink "GluedHourLaw" (44 : Nat) ({ cls := "GluedHourModel", name := "value", desc := "(III)I" } : Jvm.MethodName)) ∈ lw_gd := tb_6 (i := 104) rfl rfl
theorem wd_1400 : (Jvm.Cond.instanceMethod ({ cls := "GluedHourModel", name := "value", desc := "(III)I" } : Jvm.MethodName)) ∈ lw_gd := tb_6 (i := 105) rfl rfl
theorem wd_1401 : (Jvm.Cond.selects "GluedHourModel" ({ cls := "GluedHourModel", name := "value", desc := "(III)I" } : Jvm.MethodName) ({ cls := "GluedHourModel", name := "value", desc := "(III)I" } : Jvm.MethodName)) ∈ lw_gd := tb_6 (i := 106) rfl rfl
theorem wd_1402 : (Jvm.Cond.code ({ cls := "GluedHourModel", name := "value", desc := "(III)I" } : Jvm.MethodName) prog_12_method_48_code (4 : Nat) (Option.some Jvm.ClassFile.FieldType.int)) ∈ lw_gd := tb_6 (i := 107) rfl rfl
theorem wd_1403 : (Jvm.Cond.methodLink "GluedHourModel" (297 : Nat) ({ cls := "GluedHourModel", name := "isHour", desc := "(I)Z" } : Jvm.MethodName)) ∈ lw_gd := tb_6 (i := 108) rfl rfl
theorem wd_1405 : (Jvm.Cond.instanceMethod ({ cls := "GluedHourModel", name := "isHour", desc := "(I)Z" } : Jvm.MethodName)) ∈ lw_gd := tb_6 (i := 110) rfl rfl
theorem wd_1406 : (Jvm.Cond.code ({ cls := "GluedHourModel", name := "isHour", desc := "(I)Z" } : Jvm.MethodName) prog_12_method_43_code (2 : Nat) (Option.some Jvm.ClassFile.FieldType.boolean)) ∈ lw_gd := tb_6 (i := 111) rfl rfl
theorem wd_1407 : (Jvm.Cond.constant "GluedHourModel" (300 : Nat) (-1000000 : Int32)) ∈ lw_gd := tb_6 (i := 112) rfl rfl
theorem wd_1408 : (Jvm.Cond.methodLink "GluedHourModel" (301 : Nat) ({ cls := "GluedHourModel", name := "allBy", desc := "(I)I" } : Jvm.MethodName)) ∈ lw_gd := tb_6 (i := 113) rfl rfl
theorem wd_1410 : (Jvm.Cond.instanceMethod ({ cls := "GluedHourModel", name := "allBy", desc := "(I)I" } : Jvm.MethodName)) ∈ lw_gd := tb_6 (i := 115) rfl rfl
theorem wd_1411 : (Jvm.Cond.code ({ cls := "GluedHourModel", name := "allBy", desc := "(I)I" } : Jvm.MethodName) prog_12_method_47_code (4 : Nat) (Option.some Jvm.ClassFile.FieldType.int)) ∈ lw_gd := tb_6 (i := 116) rfl rfl
theorem wd_1412 : (Jvm.Cond.methodLink "GluedHourLaw" (49 : Nat) ({ cls := "GluedHourModel", name := "odds", desc := "(IIZ)I" } : Jvm.MethodName)) ∈ lw_gd := tb_6 (i := 117) rfl rfl
theorem wd_1413 : (Jvm.Cond.instanceMethod ({ cls := "GluedHourModel", name := "odds", desc := "(IIZ)I" } : Jvm.MethodName)) ∈ lw_gd := tb_6 (i := 118) rfl rfl
theorem wd_1414 : (Jvm.Cond.selects "GluedHourModel" ({ cls := "GluedHourModel", name := "odds", desc := "(IIZ)I" } : Jvm.MethodName) ({ cls := "GluedHourModel", name := "odds", desc := "(IIZ)I" } : Jvm.MethodName)) ∈ lw_gd := tb_6 (i := 119) rfl rfl
theorem wd_1415 : (Jvm.Cond.code ({ cls := "GluedHourModel", name := "odds", desc := "(IIZ)I" } : Jvm.MethodName) prog_12_method_51_code (4 : Nat) (Option.some Jvm.ClassFile.FieldType.int)) ∈ lw_gd := tb_6 (i := 120) rfl rfl
theorem wd_1416 : (Jvm.Cond.methodLink "GluedHourModel" (308 : Nat) ({ cls := "GluedHourModel", name := "part", desc := "(JJZ)J" } : Jvm.MethodName)) ∈ lw_gd := tb_6 (i := 121) rfl rfl
theorem wd_1417 : (Jvm.Cond.static ({ cls := "GluedHourModel", name := "part", desc := "(JJZ)J" } : Jvm.MethodName)) ∈ lw_gd := tb_6 (i := 122) rfl rfl
theorem wd_1418 : (Jvm.Cond.code ({ cls := "GluedHourModel", name := "part", desc := "(JJZ)J" } : Jvm.MethodName) prog_12_method_50_code (7 : Nat) (Option.some Jvm.ClassFile.FieldType.long)) ∈ lw_gd := tb_6 (i := 123) rfl rfl
theorem wd_1419 : (Jvm.Cond.methodLink "GluedHourModel" (304 : Nat) ({ cls := "GluedHourModel", name := "common", desc := "(JJ)J" } : Jvm.MethodName)) ∈ lw_gd := tb_6 (i := 124) rfl rfl
theorem wd_1420 : (Jvm.Cond.static ({ cls := "GluedHourModel", name := "common", desc := "(JJ)J" } : Jvm.MethodName)) ∈ lw_gd := tb_6 (i := 125) rfl rfl
theorem wd_1421 : (Jvm.Cond.code ({ cls := "GluedHourModel", name := "common", desc := "(JJ)J" } : Jvm.MethodName) prog_12_method_49_code (10 : Nat) (Option.some Jvm.ClassFile.FieldType.long)) ∈ lw_gd := tb_6 (i := 126) rfl rfl
theorem wd_1422 : (Jvm.Cond.methodLink "GluedHourLaw" (53 : Nat) ({ cls := "GluedHourModel", name := "day", desc := "(II)I" } : Jvm.MethodName)) ∈ lw_gd := tb_6 (i := 127) rfl rfl
theorem wd_1423 : (Jvm.Cond.instanceMethod ({ cls := "GluedHourModel", name := "day", desc := "(II)I" } : Jvm.MethodName)) ∈ lw_gd := tb_6 (i := 128) rfl rfl
theorem wd_1424 : (Jvm.Cond.selects "GluedHourModel" ({ cls := "GluedHourModel", name := "day", desc := "(II)I" } : Jvm.MethodName) ({ cls := "GluedHourModel", name := "day", desc := "(II)I" } : Jvm.MethodName)) ∈ lw_gd := tb_6 (i := 129) rfl rfl
theorem wd_1425 : (Jvm.Cond.code ({ cls := "GluedHourModel", name := "day", desc := "(II)I" } : Jvm.MethodName) prog_12_method_54_code (4 : Nat) (Option.some Jvm.ClassFile.FieldType.int)) ∈ lw_gd := tb_6 (i := 130) rfl rfl
theorem wd_1426 : (Jvm.Cond.methodLink "GluedHourModel" (315 : Nat) ({ cls := "GluedHourModel", name := "hasWeek", desc := "(I)Z" } : Jvm.MethodName)) ∈ lw_gd := tb_6 (i := 131) rfl rfl
theorem wd_1428 : (Jvm.Cond.instanceMethod ({ cls := "GluedHourModel", name := "hasWeek", desc := "(I)Z" } : Jvm.MethodName)) ∈ lw_gd := tb_6 (i := 133) rfl rfl
theorem wd_1429 : (Jvm.Cond.code ({ cls := "GluedHourModel", name := "hasWeek", desc := "(I)Z" } : Jvm.MethodName) prog_12_method_52_code (2 : Nat) (Option.some Jvm.ClassFile.FieldType.boolean)) ∈ lw_gd := tb_6 (i := 134) rfl rfl
theorem wd_1430 : (Jvm.Cond.methodLink "GluedHourModel" (318 : Nat) ({ cls := "GluedHourModel", name := "hourOf", desc := "(I)I" } : Jvm.MethodName)) ∈ lw_gd := tb_6 (i := 135) rfl rfl
theorem wd_1432 : (Jvm.Cond.instanceMethod ({ cls := "GluedHourModel", name := "hourOf", desc := "(I)I" } : Jvm.MethodName)) ∈ lw_gd := tb_6 (i := 137) rfl rfl
theorem wd_1433 : (Jvm.Cond.code ({ cls := "GluedHourModel", name := "hourOf", desc := "(I)I" } : Jvm.MethodName) prog_12_method_53_code (2 : Nat) (Option.some Jvm.ClassFile.FieldType.int)) ∈ lw_gd := tb_6 (i := 138) rfl rfl
theorem wd_1434 : (Jvm.Cond.methodLink "GluedHourLaw" (58 : Nat) ({ cls := "GluedHourModel", name := "purse", desc := "(IIII)I" } : Jvm.MethodName)) ∈ lw_gd := tb_6 (i := 139) rfl rfl
theorem wd_1435 : (Jvm.Cond.instanceMethod ({ cls := "GluedHourModel", name := "purse", desc := "(IIII)I" } : Jvm.MethodName)) ∈ lw_gd := tb_6 (i := 140) rfl rfl
theorem wd_1436 : (Jvm.Cond.selects "GluedHourModel" ({ cls := "GluedHourModel", name := "purse", desc := "(IIII)I" } : Jvm.MethodName) ({ cls := "GluedHourModel", name := "purse", desc := "(IIII)I" } : Jvm.MethodName)) ∈ lw_gd := tb_6 (i := 141) rfl rfl
theorem wd_1437 : (Jvm.Cond.code ({ cls := "GluedHourModel", name := "purse", desc := "(IIII)I" } : Jvm.MethodName) prog_12_method_57_code (5 : Nat) (Option.some Jvm.ClassFile.FieldType.int)) ∈ lw_gd := tb_6 (i := 142) rfl rfl
theorem wd_1438 : (Jvm.Cond.methodLink "GluedHourModel" (330 : Nat) ({ cls := "GluedHourModel", name := "liveDays", desc := "(I)Z" } : Jvm.MethodName)) ∈ lw_gd := tb_6 (i := 143) rfl rfl
theorem wd_1440 : (Jvm.Cond.instanceMethod ({ cls := "GluedHourModel", name := "liveDays", desc := "(I)Z" } : Jvm.MethodName)) ∈ lw_gd := tb_6 (i := 145) rfl rfl
theorem wd_1441 : (Jvm.Cond.code ({ cls := "GluedHourModel", name := "liveDays", desc := "(I)Z" } : Jvm.MethodName) prog_12_method_56_code (4 : Nat) (Option.some Jvm.ClassFile.FieldType.boolean)) ∈ lw_gd := tb_6 (i := 146) rfl rfl
theorem wd_1442 : (Jvm.Cond.methodLink "GluedHourModel" (327 : Nat) ({ cls := "GluedHourModel", name := "live", desc := "(I)V" } : Jvm.MethodName)) ∈ lw_gd := tb_6 (i := 147) rfl rfl
theorem wd_1444 : (Jvm.Cond.instanceMethod ({ cls := "GluedHourModel", name := "live", desc := "(I)V" } : Jvm.MethodName)) ∈ lw_gd := tb_6 (i := 149) rfl rfl
theorem wd_1445 : (Jvm.Cond.code ({ cls := "GluedHourModel", name := "live", desc := "(I)V" } : Jvm.MethodName) prog_12_method_55_code (3 : Nat) (Option.none : Option Jvm.ClassFile.FieldType)) ∈ lw_gd := tb_6 (i := 150) rfl rfl
theorem wd_1446 : (Jvm.Cond.methodLink "GluedHourLaw" (63 : Nat) ({ cls := "GluedHourModel", name := "likely", desc := "(IIIZ)J" } : Jvm.MethodName)) ∈ lw_gd := tb_6 (i := 151) rfl rfl
theorem wd_1447 : (Jvm.Cond.instanceMethod ({ cls := "GluedHourModel", name := "likely", desc := "(IIIZ)J" } : Jvm.MethodName)) ∈ lw_gd := tb_6 (i := 152) rfl rfl
theorem wd_1448 : (Jvm.Cond.selects "GluedHourModel" ({ cls := "GluedHourModel", name := "likely", desc := "(IIIZ)J" } : Jvm.MethodName) ({ cls := "GluedHourModel", name := "likely", desc := "(IIIZ)J" } : Jvm.MethodName)) ∈ lw_gd := tb_6 (i := 153) rfl rfl
theorem wd_1449 : (Jvm.Cond.code ({ cls := "GluedHourModel", name := "likely", desc := "(IIIZ)J" } : Jvm.MethodName) prog_12_method_58_code (5 : Nat) (Option.some Jvm.ClassFile.FieldType.long)) ∈ lw_gd := tb_6 (i := 154) rfl rfl
theorem wd_1450 : (Jvm.Cond.constantLong "GluedHourModel" (333 : Nat) (-1 : Int64)) ∈ lw_gd := tb_6 (i := 155) rfl rfl
theorem wd_1451 : (Jvm.Cond.methodLink "GluedHourLaw" (67 : Nat) ({ cls := "GluedHourModel", name := "drawn", desc := "(IIII)I" } : Jvm.MethodName)) ∈ lw_gd := tb_6 (i := 156) rfl rfl
theorem wd_1452 : (Jvm.Cond.instanceMethod ({ cls := "GluedHourModel", name := "drawn", desc := "(IIII)I" } : Jvm.MethodName)) ∈ lw_gd := tb_6 (i := 157) rfl rfl
theorem wd_1453 : (Jvm.Cond.selects "GluedHourModel" ({ cls := "GluedHourModel", name := "drawn", desc := "(IIII)I" } : Jvm.MethodName) ({ cls := "GluedHourModel", name := "drawn", desc := "(IIII)I" } : Jvm.MethodName)) ∈ lw_gd := tb_6 (i := 158) rfl rfl
theorem wd_1454 : (Jvm.Cond.code ({ cls := "GluedHourModel", name := "drawn", desc := "(IIII)I" } : Jvm.MethodName) prog_12_method_61_code (7 : Nat) (Option.some Jvm.ClassFile.FieldType.int)) ∈ lw_gd := tb_6 (i := 159) rfl rfl
theorem wd_1455 : (Jvm.Cond.methodLink "GluedHourModel" (342 : Nat) ({ cls := "GluedHourModel", name := "drawHour", desc := "()I" } : Jvm.MethodName)) ∈ lw_gd := tb_6 (i := 160) rfl rfl
theorem wd_1457 : (Jvm.Cond.instanceMethod ({ cls := "GluedHourModel", name := "drawHour", desc := "()I" } : Jvm.MethodName)) ∈ lw_gd := tb_6 (i := 162) rfl rfl
theorem wd_1458 : (Jvm.Cond.code ({ cls := "GluedHourModel", name := "drawHour", desc := "()I" } : Jvm.MethodName) prog_12_method_60_code (3 : Nat) (Option.some Jvm.ClassFile.FieldType.int)) ∈ lw_gd := tb_6 (i := 163) rfl rfl
theorem wd_1459 : (Jvm.Cond.methodLink "GluedHourModel" (339 : Nat) ({ cls := "GluedHourModel", name := "draw", desc := "(I)I" } : Jvm.MethodName)) ∈ lw_gd := tb_6 (i := 164) rfl rfl
theorem wd_1461 : (Jvm.Cond.instanceMethod ({ cls := "GluedHourModel", name := "draw", desc := "(I)I" } : Jvm.MethodName)) ∈ lw_gd := tb_6 (i := 166) rfl rfl
theorem wd_1462 : (Jvm.Cond.code ({ cls := "GluedHourModel", name := "draw", desc := "(I)I" } : Jvm.MethodName) prog_12_method_59_code (2 : Nat) (Option.some Jvm.ClassFile.FieldType.int)) ∈ lw_gd := tb_6 (i := 167) rfl rfl
theorem wd_1463 : (Jvm.Cond.constant "GluedHourModel" (338 : Nat) (1103515245 : Int32)) ∈ lw_gd := tb_6 (i := 168) rfl rfl
theorem wd_1464 : (Jvm.Cond.methodLink "GluedHourLaw" (71 : Nat) ({ cls := "GluedHourModel", name := "mean", desc := "(IIZ)I" } : Jvm.MethodName)) ∈ lw_gd := tb_6 (i := 169) rfl rfl
theorem wd_1465 : (Jvm.Cond.instanceMethod ({ cls := "GluedHourModel", name := "mean", desc := "(IIZ)I" } : Jvm.MethodName)) ∈ lw_gd := tb_6 (i := 170) rfl rfl
theorem wd_1466 : (Jvm.Cond.selects "GluedHourModel" ({ cls := "GluedHourModel", name := "mean", desc := "(IIZ)I" } : Jvm.MethodName) ({ cls := "GluedHourModel", name := "mean", desc := "(IIZ)I" } : Jvm.MethodName)) ∈ lw_gd := tb_6 (i := 171) rfl rfl
theorem wd_1467 : (Jvm.Cond.code ({ cls := "GluedHourModel", name := "mean", desc := "(IIZ)I" } : Jvm.MethodName) prog_12_method_63_code (4 : Nat) (Option.some Jvm.ClassFile.FieldType.int)) ∈ lw_gd := tb_6 (i := 172) rfl rfl
theorem wd_1468 : (Jvm.Cond.methodLink "GluedHourModel" (345 : Nat) ({ cls := "GluedHourModel", name := "meanOf", desc := "(I)J" } : Jvm.MethodName)) ∈ lw_gd := tb_6 (i := 173) rfl rfl
theorem wd_1470 : (Jvm.Cond.instanceMethod ({ cls := "GluedHourModel", name := "meanOf", desc := "(I)J" } : Jvm.MethodName)) ∈ lw_gd := tb_6 (i := 175) rfl rfl
theorem wd_1471 : (Jvm.Cond.code ({ cls := "GluedHourModel", name := "meanOf", desc := "(I)J" } : Jvm.MethodName) prog_12_method_62_code (5 : Nat) (Option.some Jvm.ClassFile.FieldType.long)) ∈ lw_gd := tb_6 (i := 176) rfl rfl
theorem wd_1472 : (Jvm.Cond.methodLink "GluedHourLaw" (76 : Nat) ({ cls := "GluedHourModel", name := "gain", desc := "(IIIZ)I" } : Jvm.MethodName)) ∈ lw_gd := tb_6 (i := 177) rfl rfl
theorem wd_1473 : (Jvm.Cond.instanceMethod ({ cls := "GluedHourModel", name := "gain", desc := "(IIIZ)I" } : Jvm.MethodName)) ∈ lw_gd := tb_6 (i := 178) rfl rfl
theorem wd_1474 : (Jvm.Cond.selects "GluedHourModel" ({ cls := "GluedHourModel", name := "gain", desc := "(IIIZ)I" } : Jvm.MethodName) ({ cls := "GluedHourModel", name := "gain", desc := "(IIIZ)I" } : Jvm.MethodName)) ∈ lw_gd := tb_6 (i := 179) rfl rfl
theorem wd_1475 : (Jvm.Cond.code ({ cls := "GluedHourModel", name := "gain", desc := "(IIIZ)I" } : Jvm.MethodName) prog_12_method_65_code (5 : Nat) (Option.some Jvm.ClassFile.FieldType.int)) ∈ lw_gd := tb_6 (i := 180) rfl rfl
theorem wd_1476 : (Jvm.Cond.methodLink "GluedHourModel" (349 : Nat) ({ cls := "GluedHourModel", name := "gainOf", desc := "(II)J" } : Jvm.MethodName)) ∈ lw_gd := tb_6 (i := 181) rfl rfl
theorem wd_1478 : (Jvm.Cond.instanceMethod ({ cls := "GluedHourModel", name := "gainOf", desc := "(II)J" } : Jvm.MethodName)) ∈ lw_gd := tb_6 (i := 183) rfl rfl
theorem wd_1479 : (Jvm.Cond.code ({ cls := "GluedHourModel", name := "gainOf", desc := "(II)J" } : Jvm.MethodName) prog_12_method_64_code (3 : Nat) (Option.some Jvm.ClassFile.FieldType.long)) ∈ lw_gd := tb_6 (i := 184) rfl rfl
theorem wd_1480 : (Jvm.Cond.methodLink "GluedHourLaw" (80 : Nat) ({ cls := "GluedHourModel", name := "wish", desc := "(II)I" } : Jvm.MethodName)) ∈ lw_gd := tb_6 (i := 185) rfl rfl
theorem wd_1481 : (Jvm.Cond.instanceMethod ({ cls := "GluedHourModel", name := "wish", desc := "(II)I" } : Jvm.MethodName)) ∈ lw_gd := tb_6 (i := 186) rfl rfl
theorem wd_1482 : (Jvm.Cond.selects "GluedHourModel" ({ cls := "GluedHourModel", name := "wish", desc := "(II)I" } : Jvm.MethodName) ({ cls := "GluedHourModel", name := "wish", desc := "(II)I" } : Jvm.MethodName)) ∈ lw_gd := tb_6 (i := 187) rfl rfl
theorem wd_1483 : (Jvm.Cond.code ({ cls := "GluedHourModel", name := "wish", desc := "(II)I" } : Jvm.MethodName) prog_12_method_68_code (3 : Nat) (Option.some Jvm.ClassFile.FieldType.int)) ∈ lw_gd := tb_6 (i := 188) rfl rfl
theorem wd_1484 : (Jvm.Cond.methodLink "GluedHourModel" (353 : Nat) ({ cls := "GluedHourModel", name := "choice", desc := "()I" } : Jvm.MethodName)) ∈ lw_gd := tb_6 (i := 189) rfl rfl
theorem wd_1486 : (Jvm.Cond.instanceMethod ({ cls := "GluedHourModel", name := "choice", desc := "()I" } : Jvm.MethodName)) ∈ lw_gd := tb_6 (i := 191) rfl rfl
theorem wd_1487 : (Jvm.Cond.code ({ cls := "GluedHourModel", name := "choice", desc := "()I" } : Jvm.MethodName) prog_12_method_67_code (3 : Nat) (Option.some Jvm.ClassFile.FieldType.int)) ∈ lw_gd := tb_6 (i := 192) rfl rfl
theorem wd_1488 : (Jvm.Cond.methodLink "GluedHourModel" (356 : Nat) ({ cls := "GluedHourModel", name := "wishOf", desc := "(I)I" } : Jvm.MethodName)) ∈ lw_gd := tb_6 (i := 193) rfl rfl
theorem wd_1490 : (Jvm.Cond.instanceMethod ({ cls := "GluedHourModel", name := "wishOf", desc := "(I)I" } : Jvm.MethodName)) ∈ lw_gd := tb_6 (i := 195) rfl rfl
theorem wd_1491 : (Jvm.Cond.code ({ cls := "GluedHourModel", name := "wishOf", desc := "(I)I" } : Jvm.MethodName) prog_12_method_66_code (4 : Nat) (Option.some Jvm.ClassFile.FieldType.int)) ∈ lw_gd := tb_6 (i := 196) rfl rfl
theorem wd_1492 : (Jvm.Cond.methodLink "GluedHourLaw" (84 : Nat) ({ cls := "GluedHourModel", name := "buyer", desc := "(II)I" } : Jvm.MethodName)) ∈ lw_gd := tb_6 (i := 197) rfl rfl
theorem wd_1493 : (Jvm.Cond.instanceMethod ({ cls := "GluedHourModel", name := "buyer", desc := "(II)I" } : Jvm.MethodName)) ∈ lw_gd := tb_6 (i := 198) rfl rfl
theorem wd_1494 : (Jvm.Cond.selects "GluedHourModel" ({ cls := "GluedHourModel", name := "buyer", desc := "(II)I" } : Jvm.MethodName) ({ cls := "GluedHourModel", name := "buyer", desc := "(II)I" } : Jvm.MethodName)) ∈ lw_gd := tb_6 (i := 199) rfl rfl
theorem wd_1495 : (Jvm.Cond.code ({ cls := "GluedHourModel", name := "buyer", desc := "(II)I" } : Jvm.MethodName) prog_12_method_69_code (10 : Nat) (Option.some Jvm.ClassFile.FieldType.int)) ∈ lw_gd := tb_6 (i := 200) rfl rfl
theorem wd_1496 : (Jvm.Cond.methodLink "GluedHourLaw" (88 : Nat) ({ cls := "GluedHourModel", name := "promise", desc := "(IIIZ)I" } : Jvm.MethodName)) ∈ lw_gd := tb_6 (i := 201) rfl rfl
theorem wd_1497 : (Jvm.Cond.instanceMethod ({ cls := "GluedHourModel", name := "promise", desc := "(IIIZ)I" } : Jvm.MethodName)) ∈ lw_gd := tb_6 (i := 202) rfl rfl
theorem wd_1498 : (Jvm.Cond.selects "GluedHourModel" ({ cls := "GluedHourModel", name := "promise", desc := "(IIIZ)I" } : Jvm.MethodName) ({ cls := "GluedHourModel", name := "promise", desc := "(IIIZ)I" } : Jvm.MethodName)) ∈ lw_gd := tb_6 (i := 203) rfl rfl
theorem wd_1499 : (Jvm.Cond.code ({ cls := "GluedHourModel", name := "promise", desc := "(IIIZ)I" } : Jvm.MethodName) prog_12_method_70_code (8 : Nat) (Option.some Jvm.ClassFile.FieldType.int)) ∈ lw_gd := tb_6 (i := 204) rfl rfl
theorem wd_1500 : (Jvm.Cond.methodLink "GluedHourLaw" (92 : Nat) ({ cls := "GluedHourModel", name := "two", desc := "(IIII)I" } : Jvm.MethodName)) ∈ lw_gd := tb_6 (i := 205) rfl rfl
theorem wd_1501 : (Jvm.Cond.instanceMethod ({ cls := "GluedHourModel", name := "two", desc := "(IIII)I" } : Jvm.MethodName)) ∈ lw_gd := tb_6 (i := 206) rfl rfl
theorem wd_1502 : (Jvm.Cond.selects "GluedHourModel" ({ cls := "GluedHourModel", name := "two", desc := "(IIII)I" } : Jvm.MethodName) ({ cls := "GluedHourModel", name := "two", desc := "(IIII)I" } : Jvm.MethodName)) ∈ lw_gd := tb_6 (i := 207) rfl rfl
theorem wd_1503 : (Jvm.Cond.code ({ cls := "GluedHourModel", name := "two", desc := "(IIII)I" } : Jvm.MethodName) prog_12_method_71_code (5 : Nat) (Option.some Jvm.ClassFile.FieldType.int)) ∈ lw_gd := tb_6 (i := 208) rfl rfl
theorem wd_1504 : (Jvm.Cond.methodLink "GluedHourLaw" (96 : Nat) ({ cls := "GluedHourModel", name := "shift", desc := "(III)I" } : Jvm.MethodName)) ∈ lw_gd := tb_6 (i := 209) rfl rfl
theorem wd_1505 : (Jvm.Cond.instanceMethod ({ cls := "GluedHourModel", name := "shift", desc := "(III)I" } : Jvm.MethodName)) ∈ lw_gd := tb_6 (i := 210) rfl rfl
theorem wd_1506 : (Jvm.Cond.selects "GluedHourModel" ({ cls := "GluedHourModel", name := "shift", desc := "(III)I" } : Jvm.MethodName) ({ cls := "GluedHourModel", name := "shift", desc := "(III)I" } : Jvm.MethodName)) ∈ lw_gd := tb_6 (i := 211) rfl rfl
theorem wd_1507 : (Jvm.Cond.code ({ cls := "GluedHourModel", name := "shift", desc := "(III)I" } : Jvm.MethodName) prog_12_method_73_code (12 : Nat) (Option.some Jvm.ClassFile.FieldType.int)) ∈ lw_gd := tb_6 (i := 212) rfl rfl
theorem wd_1508 : (Jvm.Cond.methodLink "GluedHourModel" (359 : Nat) ({ cls := "GluedHourModel", name := "swapDeed", desc := "(III)V" } : Jvm.MethodName)) ∈ lw_gd := tb_6 (i := 213) rfl rfl
theorem wd_1510 : (Jvm.Cond.instanceMethod ({ cls := "GluedHourModel", name := "swapDeed", desc := "(III)V" } : Jvm.MethodName)) ∈ lw_gd := tb_6 (i := 215) rfl rfl
theorem wd_1511 : (Jvm.Cond.code ({ cls := "GluedHourModel", name := "swapDeed", desc := "(III)V" } : Jvm.MethodName) prog_12_method_72_code (5 : Nat) (Option.none : Option Jvm.ClassFile.FieldType)) ∈ lw_gd := tb_6 (i := 216) rfl rfl
theorem wd_1512 : (Jvm.Cond.methodLink "GluedHourLaw" (100 : Nat) ({ cls := "GluedHourModel", name := "feud", desc := "(II)I" } : Jvm.MethodName)) ∈ lw_gd := tb_6 (i := 217) rfl rfl
theorem wd_1513 : (Jvm.Cond.instanceMethod ({ cls := "GluedHourModel", name := "feud", desc := "(II)I" } : Jvm.MethodName)) ∈ lw_gd := tb_6 (i := 218) rfl rfl
theorem wd_1514 : (Jvm.Cond.selects "GluedHourModel" ({ cls := "GluedHourModel", name := "feud", desc := "(II)I" } : Jvm.MethodName) ({ cls := "GluedHourModel", name := "feud", desc := "(II)I" } : Jvm.MethodName)) ∈ lw_gd := tb_6 (i := 219) rfl rfl
theorem wd_1515 : (Jvm.Cond.code ({ cls := "GluedHourModel", name := "feud", desc := "(II)I" } : Jvm.MethodName) prog_12_method_75_code (7 : Nat) (Option.some Jvm.ClassFile.FieldType.int)) ∈ lw_gd := tb_6 (i := 220) rfl rfl
theorem wd_1516 : (Jvm.Cond.methodLink "GluedHourModel" (362 : Nat) ({ cls := "GluedHourModel", name := "apart", desc := "(II)I" } : Jvm.MethodName)) ∈ lw_gd := tb_6 (i := 221) rfl rfl
theorem wd_1518 : (Jvm.Cond.instanceMethod ({ cls := "GluedHourModel", name := "apart", desc := "(II)I" } : Jvm.MethodName)) ∈ lw_gd := tb_6 (i := 223) rfl rfl
theorem wd_1519 : (Jvm.Cond.code ({ cls := "GluedHourModel", name := "apart", desc := "(II)I" } : Jvm.MethodName) prog_12_method_74_code (6 : Nat) (Option.some Jvm.ClassFile.FieldType.int)) ∈ lw_gd := tb_6 (i := 224) rfl rfl
theorem wd_1520 : (Jvm.Cond.methodLink "GluedHourLaw" (104 : Nat) ({ cls := "GluedHourModel", name := "errand", desc := "(III)I" } : Jvm.MethodName)) ∈ lw_gd := tb_6 (i := 225) rfl rfl
theorem wd_1521 : (Jvm.Cond.instanceMethod ({ cls := "GluedHourModel", name := "errand", desc := "(III)I" } : Jvm.MethodName)) ∈ lw_gd := tb_6 (i := 226) rfl rfl
theorem wd_1522 : (Jvm.Cond.selects "GluedHourModel" ({ cls := "GluedHourModel", name := "errand", desc := "(III)I" } : Jvm.MethodName) ({ cls := "GluedHourModel", name := "errand", desc := "(III)I" } : Jvm.MethodName)) ∈ lw_gd := tb_6 (i := 227) rfl rfl
theorem wd_1523 : (Jvm.Cond.code ({ cls := "GluedHourModel", name := "errand", desc := "(III)I" } : Jvm.MethodName) prog_12_method_80_code (4 : Nat) (Option.some Jvm.ClassFile.FieldType.int)) ∈ lw_gd := tb_6 (i := 228) rfl rfl
theorem wd_1524 : (Jvm.Cond.methodLink "GluedHourModel" (377 : Nat) ({ cls := "GluedHourModel", name := "hasErrands", desc := "(I)Z" } : Jvm.MethodName)) ∈ lw_gd := tb_6 (i := 229) rfl rfl
theorem wd_1526 : (Jvm.Cond.instanceMethod ({ cls := "GluedHourModel", name := "hasErrands", desc := "(I)Z" } : Jvm.MethodName)) ∈ lw_gd := tb_6 (i := 231) rfl rfl
theorem wd_1527 : (Jvm.Cond.code ({ cls := "GluedHourModel", name := "hasErrands", desc := "(I)Z" } : Jvm.MethodName) prog_12_method_79_code (2 : Nat) (Option.some Jvm.ClassFile.FieldType.boolean)) ∈ lw_gd := tb_6 (i := 232) rfl rfl
theorem wd_1528 : (Jvm.Cond.methodLink "GluedHourModel" (371 : Nat) ({ cls := "GluedHourModel", name := "errandOf", desc := "(II)I" } : Jvm.MethodName)) ∈ lw_gd := tb_6 (i := 233) rfl rfl
theorem wd_1530 : (Jvm.Cond.instanceMethod ({ cls := "GluedHourModel", name := "errandOf", desc := "(II)I" } : Jvm.MethodName)) ∈ lw_gd := tb_6 (i := 235) rfl rfl
theorem wd_1531 : (Jvm.Cond.code ({ cls := "GluedHourModel", name := "errandOf", desc := "(II)I" } : Jvm.MethodName) prog_12_method_76_code (3 : Nat) (Option.some Jvm.ClassFile.FieldType.int)) ∈ lw_gd := tb_6 (i := 236) rfl rfl
theorem wd_1532 : (Jvm.Cond.methodLink "GluedHourLaw" (108 : Nat) ({ cls := "GluedHourModel", name := "plan", desc := "(III)I" } : Jvm.MethodName)) ∈ lw_gd := tb_6 (i := 237) rfl rfl
theorem wd_1533 : (Jvm.Cond.instanceMethod ({ cls := "GluedHourModel", name := "plan", desc := "(III)I" } : Jvm.MethodName)) ∈ lw_gd := tb_6 (i := 238) rfl rfl
theorem wd_1534 : (Jvm.Cond.selects "GluedHourModel" ({ cls := "GluedHourModel", name := "plan", desc := "(III)I" } : Jvm.MethodName) ({ cls := "GluedHourModel", name := "plan", desc := "(III)I" } : Jvm.MethodName)) ∈ lw_gd := tb_6 (i := 239) rfl rfl
theorem wd_1535 : (Jvm.Cond.code ({ cls := "GluedHourModel", name := "plan", desc := "(III)I" } : Jvm.MethodName) prog_12_method_87_code (9 : Nat) (Option.some Jvm.ClassFile.FieldType.int)) ∈ lw_gd := tb_7 (i := 0) rfl rfl
theorem wd_1536 : (Jvm.Cond.methodLink "GluedHourModel" (401 : Nat) ({ cls := "GluedHourModel", name := "findBest", desc := "(I)J" } : Jvm.MethodName)) ∈ lw_gd := tb_7 (i := 1) rfl rfl
theorem wd_1538 : (Jvm.Cond.instanceMethod ({ cls := "GluedHourModel", name := "findBest", desc := "(I)J" } : Jvm.MethodName)) ∈ lw_gd := tb_7 (i := 3) rfl rfl
theorem wd_1539 : (Jvm.Cond.code ({ cls := "GluedHourModel", name := "findBest", desc := "(I)J" } : Jvm.MethodName) prog_12_method_83_code (4 : Nat) (Option.some Jvm.ClassFile.FieldType.long)) ∈ lw_gd := tb_7 (i := 4) rfl rfl
theorem wd_1540 : (Jvm.Cond.methodLink "GluedHourModel" (395 : Nat) ({ cls := "GluedHourModel", name := "bestFrom", desc := "(III)J" } : Jvm.MethodName)) ∈ lw_gd := tb_7 (i := 5) rfl rfl
theorem wd_1542 : (Jvm.Cond.instanceMethod ({ cls := "GluedHourModel", name := "bestFrom", desc := "(III)J" } : Jvm.MethodName)) ∈ lw_gd := tb_7 (i := 7) rfl rfl
theorem wd_1543 : (Jvm.Cond.code ({ cls := "GluedHourModel", name := "bestFrom", desc := "(III)J" } : Jvm.MethodName) prog_12_method_82_code (11 : Nat) (Option.some Jvm.ClassFile.FieldType.long)) ∈ lw_gd := tb_7 (i := 8) rfl rfl
theorem wd_1544 : (Jvm.Cond.constantLong "GluedHourModel" (380 : Nat) (-1000000000000 : Int64)) ∈ lw_gd := tb_7 (i := 9) rfl rfl
theorem wd_1545 : (Jvm.Cond.methodLink "GluedHourModel" (382 : Nat) ({ cls := "GluedHourModel", name := "fromOf", desc := "(I)I" } : Jvm.MethodName)) ∈ lw_gd := tb_7 (i := 10) rfl rfl
theorem wd_1547 : (Jvm.Cond.instanceMethod ({ cls := "GluedHourModel", name := "fromOf", desc := "(I)I" } : Jvm.MethodName)) ∈ lw_gd := tb_7 (i := 12) rfl rfl
theorem wd_1548 : (Jvm.Cond.code ({ cls := "GluedHourModel", name := "fromOf", desc := "(I)I" } : Jvm.MethodName) prog_12_method_77_code (2 : Nat) (Option.some Jvm.ClassFile.FieldType.int)) ∈ lw_gd := tb_7 (i := 13) rfl rfl
theorem wd_1549 : (Jvm.Cond.methodLink "GluedHourModel" (385 : Nat) ({ cls := "GluedHourModel", name := "toOf", desc := "(I)I" } : Jvm.MethodName)) ∈ lw_gd := tb_7 (i := 14) rfl rfl
theorem wd_1551 : (Jvm.Cond.instanceMethod ({ cls := "GluedHourModel", name := "toOf", desc := "(I)I" } : Jvm.MethodName)) ∈ lw_gd := tb_7 (i := 16) rfl rfl
theorem wd_1552 : (Jvm.Cond.code ({ cls := "GluedHourModel", name := "toOf", desc := "(I)I" } : Jvm.MethodName) prog_12_method_78_code (2 : Nat) (Option.some Jvm.ClassFile.FieldType.int)) ∈ lw_gd := tb_7 (i := 17) rfl rfl
theorem wd_1553 : (Jvm.Cond.methodLink "GluedHourModel" (388 : Nat) ({ cls := "GluedHourModel", name := "has", desc := "(II)Z" } : Jvm.MethodName)) ∈ lw_gd := tb_7 (i := 18) rfl rfl
theorem wd_1554 : (Jvm.Cond.static ({ cls := "GluedHourModel", name := "has", desc := "(II)Z" } : Jvm.MethodName)) ∈ lw_gd := tb_7 (i := 19) rfl rfl
theorem wd_1555 : (Jvm.Cond.code ({ cls := "GluedHourModel", name := "has", desc := "(II)Z" } : Jvm.MethodName) prog_12_method_4_code (2 : Nat) (Option.some Jvm.ClassFile.FieldType.boolean)) ∈ lw_gd := tb_7 (i := 20) rfl rfl
theorem wd_1556 : (Jvm.Cond.methodLink "GluedHourModel" (391 : Nat) ({ cls := "GluedHourModel", name := "worthAt", desc := "(III)J" } : Jvm.MethodName)) ∈ lw_gd := tb_7 (i := 21) rfl rfl
theorem wd_1558 : (Jvm.Cond.instanceMethod ({ cls := "GluedHourModel", name := "worthAt", desc := "(III)J" } : Jvm.MethodName)) ∈ lw_gd := tb_7 (i := 23) rfl rfl
theorem wd_1559 : (Jvm.Cond.code ({ cls := "GluedHourModel", name := "worthAt", desc := "(III)J" } : Jvm.MethodName) prog_12_method_81_code (7 : Nat) (Option.some Jvm.ClassFile.FieldType.long)) ∈ lw_gd := tb_7 (i := 24) rfl rfl
theorem wd_1560 : (Jvm.Cond.methodLink "GluedHourModel" (407 : Nat) ({ cls := "GluedHourModel", name := "choose", desc := "(I)V" } : Jvm.MethodName)) ∈ lw_gd := tb_7 (i := 25) rfl rfl
theorem wd_1562 : (Jvm.Cond.instanceMethod ({ cls := "GluedHourModel", name := "choose", desc := "(I)V" } : Jvm.MethodName)) ∈ lw_gd := tb_7 (i := 27) rfl rfl
theorem wd_1563 : (Jvm.Cond.code ({ cls := "GluedHourModel", name := "choose", desc := "(I)V" } : Jvm.MethodName) prog_12_method_84_code (5 : Nat) (Option.none : Option Jvm.ClassFile.FieldType)) ∈ lw_gd := tb_7 (i := 28) rfl rfl
theorem wd_1564 : (Jvm.Cond.methodLink "GluedHourModel" (410 : Nat) ({ cls := "GluedHourModel", name := "rued", desc := "()I" } : Jvm.MethodName)) ∈ lw_gd := tb_7 (i := 29) rfl rfl
theorem wd_1566 : (Jvm.Cond.instanceMethod ({ cls := "GluedHourModel", name := "rued", desc := "()I" } : Jvm.MethodName)) ∈ lw_gd := tb_7 (i := 31) rfl rfl
theorem wd_1567 : (Jvm.Cond.code ({ cls := "GluedHourModel", name := "rued", desc := "()I" } : Jvm.MethodName) prog_12_method_86_code (9 : Nat) (Option.some Jvm.ClassFile.FieldType.int)) ∈ lw_gd := tb_7 (i := 32) rfl rfl
theorem wd_1568 : (Jvm.Cond.methodLink "GluedHourModel" (404 : Nat) ({ cls := "GluedHourModel", name := "chosenBy", desc := "(I)J" } : Jvm.MethodName)) ∈ lw_gd := tb_7 (i := 33) rfl rfl
theorem wd_1570 : (Jvm.Cond.instanceMethod ({ cls := "GluedHourModel", name := "chosenBy", desc := "(I)J" } : Jvm.MethodName)) ∈ lw_gd := tb_7 (i := 35) rfl rfl
theorem wd_1571 : (Jvm.Cond.code ({ cls := "GluedHourModel", name := "chosenBy", desc := "(I)J" } : Jvm.MethodName) prog_12_method_85_code (5 : Nat) (Option.some Jvm.ClassFile.FieldType.long)) ∈ lw_gd := tb_7 (i := 36) rfl rfl
theorem wd_1572 : (Jvm.Cond.methodLink "GluedHourLaw" (112 : Nat) ({ cls := "GluedHourModel", name := "train", desc := "(III)I" } : Jvm.MethodName)) ∈ lw_gd := tb_7 (i := 37) rfl rfl
theorem wd_1573 : (Jvm.Cond.instanceMethod ({ cls := "GluedHourModel", name := "train", desc := "(III)I" } : Jvm.MethodName)) ∈ lw_gd := tb_7 (i := 38) rfl rfl
theorem wd_1574 : (Jvm.Cond.selects "GluedHourModel" ({ cls := "GluedHourModel", name := "train", desc := "(III)I" } : Jvm.MethodName) ({ cls := "GluedHourModel", name := "train", desc := "(III)I" } : Jvm.MethodName)) ∈ lw_gd := tb_7 (i := 39) rfl rfl
theorem wd_1575 : (Jvm.Cond.code ({ cls := "GluedHourModel", name := "train", desc := "(III)I" } : Jvm.MethodName) prog_12_method_91_code (4 : Nat) (Option.some Jvm.ClassFile.FieldType.int)) ∈ lw_gd := tb_7 (i := 40) rfl rfl
theorem wd_1576 : (Jvm.Cond.methodLink "GluedHourModel" (416 : Nat) ({ cls := "GluedHourModel", name := "hasTable", desc := "(I)Z" } : Jvm.MethodName)) ∈ lw_gd := tb_7 (i := 41) rfl rfl
theorem wd_1578 : (Jvm.Cond.instanceMethod ({ cls := "GluedHourModel", name := "hasTable", desc := "(I)Z" } : Jvm.MethodName)) ∈ lw_gd := tb_7 (i := 43) rfl rfl
theorem wd_1579 : (Jvm.Cond.code ({ cls := "GluedHourModel", name := "hasTable", desc := "(I)Z" } : Jvm.MethodName) prog_12_method_89_code (2 : Nat) (Option.some Jvm.ClassFile.FieldType.boolean)) ∈ lw_gd := tb_7 (i := 44) rfl rfl
theorem wd_1580 : (Jvm.Cond.methodLink "GluedHourModel" (419 : Nat) ({ cls := "GluedHourModel", name := "trains", desc := "()I" } : Jvm.MethodName)) ∈ lw_gd := tb_7 (i := 45) rfl rfl
theorem wd_1582 : (Jvm.Cond.instanceMethod ({ cls := "GluedHourModel", name := "trains", desc := "()I" } : Jvm.MethodName)) ∈ lw_gd := tb_7 (i := 47) rfl rfl
theorem wd_1583 : (Jvm.Cond.code ({ cls := "GluedHourModel", name := "trains", desc := "()I" } : Jvm.MethodName) prog_12_method_90_code (1 : Nat) (Option.some Jvm.ClassFile.FieldType.int)) ∈ lw_gd := tb_7 (i := 48) rfl rfl
theorem wd_1584 : (Jvm.Cond.methodLink "GluedHourModel" (422 : Nat) ({ cls := "GluedHourModel", name := "trainOf", desc := "(II)I" } : Jvm.MethodName)) ∈ lw_gd := tb_7 (i := 49) rfl rfl
theorem wd_1586 : (Jvm.Cond.instanceMethod ({ cls := "GluedHourModel", name := "trainOf", desc := "(II)I" } : Jvm.MethodName)) ∈ lw_gd := tb_7 (i := 51) rfl rfl
theorem wd_1587 : (Jvm.Cond.code ({ cls := "GluedHourModel", name := "trainOf", desc := "(II)I" } : Jvm.MethodName) prog_12_method_88_code (3 : Nat) (Option.some Jvm.ClassFile.FieldType.int)) ∈ lw_gd := tb_7 (i := 52) rfl rfl
theorem wd_1588 : (Jvm.Cond.methodLink "GluedHourLaw" (116 : Nat) ({ cls := "GluedHourModel", name := "holds", desc := "(III)I" } : Jvm.MethodName)) ∈ lw_gd := tb_7 (i := 53) rfl rfl
theorem wd_1589 : (Jvm.Cond.instanceMethod ({ cls := "GluedHourModel", name := "holds", desc := "(III)I" } : Jvm.MethodName)) ∈ lw_gd := tb_7 (i := 54) rfl rfl
theorem wd_1590 : (Jvm.Cond.selects "GluedHourModel" ({ cls := "GluedHourModel", name := "holds", desc := "(III)I" } : Jvm.MethodName) ({ cls := "GluedHourModel", name := "holds", desc := "(III)I" } : Jvm.MethodName)) ∈ lw_gd := tb_7 (i := 55) rfl rfl
theorem wd_1591 : (Jvm.Cond.code ({ cls := "GluedHourModel", name := "holds", desc := "(III)I" } : Jvm.MethodName) prog_12_method_94_code (6 : Nat) (Option.some Jvm.ClassFile.FieldType.int)) ∈ lw_gd := tb_7 (i := 56) rfl rfl
theorem wd_1592 : (Jvm.Cond.methodLink "GluedHourModel" (431 : Nat) ({ cls := "GluedHourModel", name := "slackBy", desc := "(I)I" } : Jvm.MethodName)) ∈ lw_gd := tb_7 (i := 57) rfl rfl
theorem wd_1594 : (Jvm.Cond.instanceMethod ({ cls := "GluedHourModel", name := "slackBy", desc := "(I)I" } : Jvm.MethodName)) ∈ lw_gd := tb_7 (i := 59) rfl rfl
theorem wd_1595 : (Jvm.Cond.code ({ cls := "GluedHourModel", name := "slackBy", desc := "(I)I" } : Jvm.MethodName) prog_12_method_93_code (4 : Nat) (Option.some Jvm.ClassFile.FieldType.int)) ∈ lw_gd := tb_7 (i := 60) rfl rfl
theorem wd_1596 : (Jvm.Cond.methodLink "GluedHourModel" (425 : Nat) ({ cls := "GluedHourModel", name := "trueAt", desc := "(II)I" } : Jvm.MethodName)) ∈ lw_gd := tb_7 (i := 61) rfl rfl
theorem wd_1597 : (Jvm.Cond.static ({ cls := "GluedHourModel", name := "trueAt", desc := "(II)I" } : Jvm.MethodName)) ∈ lw_gd := tb_7 (i := 62) rfl rfl
theorem wd_1598 : (Jvm.Cond.code ({ cls := "GluedHourModel", name := "trueAt", desc := "(II)I" } : Jvm.MethodName) prog_12_method_92_code (2 : Nat) (Option.some Jvm.ClassFile.FieldType.int)) ∈ lw_gd := tb_7 (i := 63) rfl rfl
theorem wd_1599 : (Jvm.Cond.methodLink "GluedHourModel" (428 : Nat) ({ cls := "GluedHourModel", name := "lesser", desc := "(II)I" } : Jvm.MethodName)) ∈ lw_gd := tb_7 (i := 64) rfl rfl
theorem wd_1600 : (Jvm.Cond.static ({ cls := "GluedHourModel", name := "lesser", desc := "(II)I" } : Jvm.MethodName)) ∈ lw_gd := tb_7 (i := 65) rfl rfl
theorem wd_1601 : (Jvm.Cond.code ({ cls := "GluedHourModel", name := "lesser", desc := "(II)I" } : Jvm.MethodName) prog_12_method_6_code (2 : Nat) (Option.some Jvm.ClassFile.FieldType.int)) ∈ lw_gd := tb_7 (i := 66) rfl rfl
theorem wd_1602 : (Jvm.Cond.methodLink "GluedHourLaw" (120 : Nat) ({ cls := "GluedHourModel", name := "clock", desc := "(IIII)I" } : Jvm.MethodName)) ∈ lw_gd := tb_7 (i := 67) rfl rfl
theorem wd_1603 : (Jvm.Cond.instanceMethod ({ cls := "GluedHourModel", name := "clock", desc := "(IIII)I" } : Jvm.MethodName)) ∈ lw_gd := tb_7 (i := 68) rfl rfl
theorem wd_1604 : (Jvm.Cond.selects "GluedHourModel" ({ cls := "GluedHourModel", name := "clock", desc := "(IIII)I" } : Jvm.MethodName) ({ cls := "GluedHourModel", name := "clock", desc := "(IIII)I" } : Jvm.MethodName)) ∈ lw_gd := tb_7 (i := 69) rfl rfl
theorem wd_1605 : (Jvm.Cond.code ({ cls := "GluedHourModel", name := "clock", desc := "(IIII)I" } : Jvm.MethodName) prog_12_method_97_code (6 : Nat) (Option.some Jvm.ClassFile.FieldType.int)) ∈ lw_gd := tb_7 (i := 70) rfl rfl
theorem wd_1606 : (Jvm.Cond.methodLink "GluedHourModel" (437 : Nat) ({ cls := "GluedHourModel", name := "findEarliest", desc := "()V" } : Jvm.MethodName)) ∈ lw_gd := tb_7 (i := 71) rfl rfl
theorem wd_1608 : (Jvm.Cond.instanceMethod ({ cls := "GluedHourModel", name := "findEarliest", desc := "()V" } : Jvm.MethodName)) ∈ lw_gd := tb_7 (i := 73) rfl rfl
theorem wd_1609 : (Jvm.Cond.code ({ cls := "GluedHourModel", name := "findEarliest", desc := "()V" } : Jvm.MethodName) prog_12_method_96_code (3 : Nat) (Option.none : Option Jvm.ClassFile.FieldType)) ∈ lw_gd := tb_7 (i := 74) rfl rfl
theorem wd_1610 : (Jvm.Cond.methodLink "GluedHourModel" (434 : Nat) ({ cls := "GluedHourModel", name := "canLeave", desc := "(III)Z" } : Jvm.MethodName)) ∈ lw_gd := tb_7 (i := 75) rfl rfl
theorem wd_1612 : (Jvm.Cond.instanceMethod ({ cls := "GluedHourModel", name := "canLeave", desc := "(III)Z" } : Jvm.MethodName)) ∈ lw_gd := tb_7 (i := 77) rfl rfl
theorem wd_1613 : (Jvm.Cond.code ({ cls := "GluedHourModel", name := "canLeave", desc := "(III)Z" } : Jvm.MethodName) prog_12_method_95_code (5 : Nat) (Option.some Jvm.ClassFile.FieldType.boolean)) ∈ lw_gd := tb_7 (i := 78) rfl rfl
theorem wd_1614 : (Jvm.Cond.methodLink "GluedHourLaw" (124 : Nat) ({ cls := "GluedHourModel", name := "sight", desc := "(III)I" } : Jvm.MethodName)) ∈ lw_gd := tb_7 (i := 79) rfl rfl
theorem wd_1615 : (Jvm.Cond.instanceMethod ({ cls := "GluedHourModel", name := "sight", desc := "(III)I" } : Jvm.MethodName)) ∈ lw_gd := tb_7 (i := 80) rfl rfl
theorem wd_1616 : (Jvm.Cond.selects "GluedHourModel" ({ cls := "GluedHourModel", name := "sight", desc := "(III)I" } : Jvm.MethodName) ({ cls := "GluedHourModel", name := "sight", desc := "(III)I" } : Jvm.MethodName)) ∈ lw_gd := tb_7 (i := 81) rfl rfl
theorem wd_1617 : (Jvm.Cond.code ({ cls := "GluedHourModel", name := "sight", desc := "(III)I" } : Jvm.MethodName) prog_12_method_100_code (5 : Nat) (Option.some Jvm.ClassFile.FieldType.int)) ∈ lw_gd := tb_7 (i := 82) rfl rfl
theorem wd_1618 : (Jvm.Cond.methodLink "GluedHourModel" (443 : Nat) ({ cls := "GluedHourModel", name := "hasSights", desc := "(I)Z" } : Jvm.MethodName)) ∈ lw_gd := tb_7 (i := 83) rfl rfl
theorem wd_1620 : (Jvm.Cond.instanceMethod ({ cls := "GluedHourModel", name := "hasSights", desc := "(I)Z" } : Jvm.MethodName)) ∈ lw_gd := tb_7 (i := 85) rfl rfl
theorem wd_1621 : (Jvm.Cond.code ({ cls := "GluedHourModel", name := "hasSights", desc := "(I)Z" } : Jvm.MethodName) prog_12_method_99_code (2 : Nat) (Option.some Jvm.ClassFile.FieldType.boolean)) ∈ lw_gd := tb_7 (i := 86) rfl rfl
theorem wd_1622 : (Jvm.Cond.methodLink "GluedHourModel" (446 : Nat) ({ cls := "GluedHourModel", name := "sightOf", desc := "(II)I" } : Jvm.MethodName)) ∈ lw_gd := tb_7 (i := 87) rfl rfl
theorem wd_1624 : (Jvm.Cond.instanceMethod ({ cls := "GluedHourModel", name := "sightOf", desc := "(II)I" } : Jvm.MethodName)) ∈ lw_gd := tb_7 (i := 89) rfl rfl
theorem wd_1625 : (Jvm.Cond.code ({ cls := "GluedHourModel", name := "sightOf", desc := "(II)I" } : Jvm.MethodName) prog_12_method_98_code (3 : Nat) (Option.some Jvm.ClassFile.FieldType.int)) ∈ lw_gd := tb_7 (i := 90) rfl rfl
theorem wd_1626 : (Jvm.Cond.methodLink "GluedHourLaw" (128 : Nat) ({ cls := "GluedHourModel", name := "fits", desc := "(III)I" } : Jvm.MethodName)) ∈ lw_gd := tb_7 (i := 91) rfl rfl
theorem wd_1627 : (Jvm.Cond.instanceMethod ({ cls := "GluedHourModel", name := "fits", desc := "(III)I" } : Jvm.MethodName)) ∈ lw_gd := tb_7 (i := 92) rfl rfl
theorem wd_1628 : (Jvm.Cond.selects "GluedHourModel" ({ cls := "GluedHourModel", name := "fits", desc := "(III)I" } : Jvm.MethodName) ({ cls := "GluedHourModel", name := "fits", desc := "(III)I" } : Jvm.MethodName)) ∈ lw_gd := tb_7 (i := 93) rfl rfl
theorem wd_1629 : (Jvm.Cond.code ({ cls := "GluedHourModel", name := "fits", desc := "(III)I" } : Jvm.MethodName) prog_12_method_105_code (4 : Nat) (Option.some Jvm.ClassFile.FieldType.int)) ∈ lw_gd := tb_7 (i := 94) rfl rfl
theorem wd_1630 : (Jvm.Cond.methodLink "GluedHourModel" (461 : Nat) ({ cls := "GluedHourModel", name := "findFits", desc := "()V" } : Jvm.MethodName)) ∈ lw_gd := tb_7 (i := 95) rfl rfl
theorem wd_1632 : (Jvm.Cond.instanceMethod ({ cls := "GluedHourModel", name := "findFits", desc := "()V" } : Jvm.MethodName)) ∈ lw_gd := tb_7 (i := 97) rfl rfl
theorem wd_1633 : (Jvm.Cond.code ({ cls := "GluedHourModel", name := "findFits", desc := "()V" } : Jvm.MethodName) prog_12_method_103_code (4 : Nat) (Option.none : Option Jvm.ClassFile.FieldType)) ∈ lw_gd := tb_7 (i := 98) rfl rfl
theorem wd_1634 : (Jvm.Cond.methodLink "GluedHourModel" (458 : Nat) ({ cls := "GluedHourModel", name := "isRow", desc := "(I)Z" } : Jvm.MethodName)) ∈ lw_gd := tb_7 (i := 99) rfl rfl
theorem wd_1636 : (Jvm.Cond.instanceMethod ({ cls := "GluedHourModel", name := "isRow", desc := "(I)Z" } : Jvm.MethodName)) ∈ lw_gd := tb_7 (i := 101) rfl rfl
theorem wd_1637 : (Jvm.Cond.code ({ cls := "GluedHourModel", name := "isRow", desc := "(I)Z" } : Jvm.MethodName) prog_12_method_102_code (4 : Nat) (Option.some Jvm.ClassFile.FieldType.boolean)) ∈ lw_gd := tb_7 (i := 102) rfl rfl
theorem wd_1638 : (Jvm.Cond.methodLink "GluedHourModel" (452 : Nat) ({ cls := "GluedHourModel", name := "isAsSeen", desc := "(I)Z" } : Jvm.MethodName)) ∈ lw_gd := tb_7 (i := 103) rfl rfl
theorem wd_1640 : (Jvm.Cond.instanceMethod ({ cls := "GluedHourModel", name := "isAsSeen", desc := "(I)Z" } : Jvm.MethodName)) ∈ lw_gd := tb_7 (i := 105) rfl rfl
theorem wd_1641 : (Jvm.Cond.code ({ cls := "GluedHourModel", name := "isAsSeen", desc := "(I)Z" } : Jvm.MethodName) prog_12_method_101_code (3 : Nat) (Option.some Jvm.ClassFile.FieldType.boolean)) ∈ lw_gd := tb_7 (i := 106) rfl rfl
theorem wd_1642 : (Jvm.Cond.methodLink "GluedHourModel" (464 : Nat) ({ cls := "GluedHourModel", name := "onlyOne", desc := "(I)I" } : Jvm.MethodName)) ∈ lw_gd := tb_7 (i := 107) rfl rfl
theorem wd_1644 : (Jvm.Cond.instanceMethod ({ cls := "GluedHourModel", name := "onlyOne", desc := "(I)I" } : Jvm.MethodName)) ∈ lw_gd := tb_7 (i := 109) rfl rfl
theorem wd_1645 : (Jvm.Cond.code ({ cls := "GluedHourModel", name := "onlyOne", desc := "(I)I" } : Jvm.MethodName) prog_12_method_104_code (3 : Nat) (Option.some Jvm.ClassFile.FieldType.int)) ∈ lw_gd := tb_7 (i := 110) rfl rfl
theorem wd_1646 : (Jvm.Cond.methodLink "GluedHourLaw" (132 : Nat) ({ cls := "GluedHourModel", name := "reign", desc := "(III)I" } : Jvm.MethodName)) ∈ lw_gd := tb_7 (i := 111) rfl rfl
theorem wd_1647 : (Jvm.Cond.instanceMethod ({ cls := "GluedHourModel", name := "reign", desc := "(III)I" } : Jvm.MethodName)) ∈ lw_gd := tb_7 (i := 112) rfl rfl
theorem wd_1648 : (Jvm.Cond.selects "GluedHourModel" ({ cls := "GluedHourModel", name := "reign", desc := "(III)I" } : Jvm.MethodName) ({ cls := "GluedHourModel", name := "reign", desc := "(III)I" } : Jvm.MethodName)) ∈ lw_gd := tb_7 (i := 113) rfl rfl
theorem wd_1649 : (Jvm.Cond.code ({ cls := "GluedHourModel", name := "reign", desc := "(III)I" } : Jvm.MethodName) prog_12_method_107_code (5 : Nat) (Option.some Jvm.ClassFile.FieldType.int)) ∈ lw_gd := tb_7 (i := 114) rfl rfl
theorem wd_1650 : (Jvm.Cond.methodLink "GluedHourModel" (467 : Nat) ({ cls := "GluedHourModel", name := "reignDays", desc := "(I)I" } : Jvm.MethodName)) ∈ lw_gd := tb_7 (i := 115) rfl rfl
theorem wd_1652 : (Jvm.Cond.instanceMethod ({ cls := "GluedHourModel", name := "reignDays", desc := "(I)I" } : Jvm.MethodName)) ∈ lw_gd := tb_7 (i := 117) rfl rfl
theorem wd_1653 : (Jvm.Cond.code ({ cls := "GluedHourModel", name := "reignDays", desc := "(I)I" } : Jvm.MethodName) prog_12_method_106_code (5 : Nat) (Option.some Jvm.ClassFile.FieldType.int)) ∈ lw_gd := tb_7 (i := 118) rfl rfl
theorem wd_1654 : (Jvm.Cond.methodLink "GluedHourLaw" (136 : Nat) ({ cls := "GluedHourModel", name := "hope", desc := "(IIIZ)J" } : Jvm.MethodName)) ∈ lw_gd := tb_7 (i := 119) rfl rfl
theorem wd_1655 : (Jvm.Cond.instanceMethod ({ cls := "GluedHourModel", name := "hope", desc := "(IIIZ)J" } : Jvm.MethodName)) ∈ lw_gd := tb_7 (i := 120) rfl rfl
theorem wd_1656 : (Jvm.Cond.selects "GluedHourModel" ({ cls := "GluedHourModel", name := "hope", desc := "(IIIZ)J" } : Jvm.MethodName) ({ cls := "GluedHourModel", name := "hope", desc := "(IIIZ)J" } : Jvm.MethodName)) ∈ lw_gd := tb_7 (i := 121) rfl rfl
theorem wd_1657 : (Jvm.Cond.code ({ cls := "GluedHourModel", name := "hope", desc := "(IIIZ)J" } : Jvm.MethodName) prog_12_method_111_code (5 : Nat) (Option.some Jvm.ClassFile.FieldType.long)) ∈ lw_gd := tb_7 (i := 122) rfl rfl
theorem wd_1658 : (Jvm.Cond.constantLong "GluedHourModel" (483 : Nat) (-1000000 : Int64)) ∈ lw_gd := tb_7 (i := 123) rfl rfl
theorem wd_1659 : (Jvm.Cond.methodLink "GluedHourModel" (485 : Nat) ({ cls := "GluedHourModel", name := "expect", desc := "(IIZ)V" } : Jvm.MethodName)) ∈ lw_gd := tb_7 (i := 124) rfl rfl
theorem wd_1661 : (Jvm.Cond.instanceMethod ({ cls := "GluedHourModel", name := "expect", desc := "(IIZ)V" } : Jvm.MethodName)) ∈ lw_gd := tb_7 (i := 126) rfl rfl
theorem wd_1662 : (Jvm.Cond.code ({ cls := "GluedHourModel", name := "expect", desc := "(IIZ)V" } : Jvm.MethodName) prog_12_method_110_code (13 : Nat) (Option.none : Option Jvm.ClassFile.FieldType)) ∈ lw_gd := tb_7 (i := 127) rfl rfl
theorem wd_1663 : (Jvm.Cond.methodLink "GluedHourModel" (476 : Nat) ({ cls := "GluedHourModel", name := "begin", desc := "()V" } : Jvm.MethodName)) ∈ lw_gd := tb_7 (i := 128) rfl rfl
theorem wd_1665 : (Jvm.Cond.instanceMethod ({ cls := "GluedHourModel", name := "begin", desc := "()V" } : Jvm.MethodName)) ∈ lw_gd := tb_7 (i := 130) rfl rfl
theorem wd_1666 : (Jvm.Cond.code ({ cls := "GluedHourModel", name := "begin", desc := "()V" } : Jvm.MethodName) prog_12_method_108_code (2 : Nat) (Option.none : Option Jvm.ClassFile.FieldType)) ∈ lw_gd := tb_7 (i := 131) rfl rfl
theorem wd_1667 : (Jvm.Cond.methodLink "GluedHourModel" (479 : Nat) ({ cls := "GluedHourModel", name := "plus", desc := "(JJ)V" } : Jvm.MethodName)) ∈ lw_gd := tb_7 (i := 132) rfl rfl
theorem wd_1669 : (Jvm.Cond.instanceMethod ({ cls := "GluedHourModel", name := "plus", desc := "(JJ)V" } : Jvm.MethodName)) ∈ lw_gd := tb_7 (i := 134) rfl rfl
theorem wd_1670 : (Jvm.Cond.code ({ cls := "GluedHourModel", name := "plus", desc := "(JJ)V" } : Jvm.MethodName) prog_12_method_109_code (9 : Nat) (Option.none : Option Jvm.ClassFile.FieldType)) ∈ lw_gd := tb_7 (i := 135) rfl rfl
theorem wd_1671 : (Jvm.Cond.methodLink "GluedHourLaw" (140 : Nat) ({ cls := "GluedHourModel", name := "doom", desc := "(IIIZ)J" } : Jvm.MethodName)) ∈ lw_gd := tb_7 (i := 136) rfl rfl
theorem wd_1672 : (Jvm.Cond.instanceMethod ({ cls := "GluedHourModel", name := "doom", desc := "(IIIZ)J" } : Jvm.MethodName)) ∈ lw_gd := tb_7 (i := 137) rfl rfl
theorem wd_1673 : (Jvm.Cond.selects "GluedHourModel" ({ cls := "GluedHourModel", name := "doom", desc := "(IIIZ)J" } : Jvm.MethodName) ({ cls := "GluedHourModel", name := "doom", desc := "(IIIZ)J" } : Jvm.MethodName)) ∈ lw_gd := tb_7 (i := 138) rfl rfl
theorem wd_1674 : (Jvm.Cond.code ({ cls := "GluedHourModel", name := "doom", desc := "(IIIZ)J" } : Jvm.MethodName) prog_12_method_112_code (5 : Nat) (Option.some Jvm.ClassFile.FieldType.long)) ∈ lw_gd := tb_7 (i := 139) rfl rfl
theorem wd_1675 : (Jvm.Cond.methodLink "GluedHourLaw" (144 : Nat) ({ cls := "GluedHourModel", name := "ruling", desc := "(II)I" } : Jvm.MethodName)) ∈ lw_gd := tb_7 (i := 140) rfl rfl
theorem wd_1676 : (Jvm.Cond.instanceMethod ({ cls := "GluedHourModel", name := "ruling", desc := "(II)I" } : Jvm.MethodName)) ∈ lw_gd := tb_7 (i := 141) rfl rfl
theorem wd_1677 : (Jvm.Cond.selects "GluedHourModel" ({ cls := "GluedHourModel", name := "ruling", desc := "(II)I" } : Jvm.MethodName) ({ cls := "GluedHourModel", name := "ruling", desc := "(II)I" } : Jvm.MethodName)) ∈ lw_gd := tb_7 (i := 142) rfl rfl
theorem wd_1678 : (Jvm.Cond.code ({ cls := "GluedHourModel", name := "ruling", desc := "(II)I" } : Jvm.MethodName) prog_12_method_114_code (9 : Nat) (Option.some Jvm.ClassFile.FieldType.int)) ∈ lw_gd := tb_7 (i := 143) rfl rfl
theorem wd_1679 : (Jvm.Cond.methodLink "GluedHourModel" (489 : Nat) ({ cls := "GluedHourModel", name := "allMeans", desc := "()J" } : Jvm.MethodName)) ∈ lw_gd := tb_7 (i := 144) rfl rfl
theorem wd_1681 : (Jvm.Cond.instanceMethod ({ cls := "GluedHourModel", name := "allMeans", desc := "()J" } : Jvm.MethodName)) ∈ lw_gd := tb_7 (i := 146) rfl rfl
theorem wd_1682 : (Jvm.Cond.code ({ cls := "GluedHourModel", name := "allMeans", desc := "()J" } : Jvm.MethodName) prog_12_method_113_code (4 : Nat) (Option.some Jvm.ClassFile.FieldType.long)) ∈ lw_gd := tb_7 (i := 147) rfl rfl
theorem wd_1683 : (Jvm.Cond.methodLink "GluedHourLaw" (148 : Nat) ({ cls := "GluedHourModel", name := "trust", desc := "(IIZ)I" } : Jvm.MethodName)) ∈ lw_gd := tb_7 (i := 148) rfl rfl
theorem wd_1684 : (Jvm.Cond.instanceMethod ({ cls := "GluedHourModel", name := "trust", desc := "(IIZ)I" } : Jvm.MethodName)) ∈ lw_gd := tb_7 (i := 149) rfl rfl
theorem wd_1685 : (Jvm.Cond.selects "GluedHourModel" ({ cls := "GluedHourModel", name := "trust", desc := "(IIZ)I" } : Jvm.MethodName) ({ cls := "GluedHourModel", name := "trust", desc := "(IIZ)I" } : Jvm.MethodName)) ∈ lw_gd := tb_7 (i := 150) rfl rfl
theorem wd_1686 : (Jvm.Cond.code ({ cls := "GluedHourModel", name := "trust", desc := "(IIZ)I" } : Jvm.MethodName) prog_12_method_115_code (7 : Nat) (Option.some Jvm.ClassFile.FieldType.int)) ∈ lw_gd := tb_7 (i := 151) rfl rfl
theorem wd_1687 : (Jvm.Cond.methodLink "GluedHourLaw" (152 : Nat) ({ cls := "GluedHourModel", name := "tight", desc := "(II)I" } : Jvm.MethodName)) ∈ lw_gd := tb_7 (i := 152) rfl rfl
theorem wd_1688 : (Jvm.Cond.instanceMethod ({ cls := "GluedHourModel", name := "tight", desc := "(II)I" } : Jvm.MethodName)) ∈ lw_gd := tb_7 (i := 153) rfl rfl
theorem wd_1689 : (Jvm.Cond.selects "GluedHourModel" ({ cls := "GluedHourModel", name := "tight", desc := "(II)I" } : Jvm.MethodName) ({ cls := "GluedHourModel", name := "tight", desc := "(II)I" } : Jvm.MethodName)) ∈ lw_gd := tb_7 (i := 154) rfl rfl
theorem wd_1690 : (Jvm.Cond.code ({ cls := "GluedHourModel", name := "tight", desc := "(II)I" } : Jvm.MethodName) prog_12_method_116_code (8 : Nat) (Option.some Jvm.ClassFile.FieldType.int)) ∈ lw_gd := tb_7 (i := 155) rfl rfl
theorem wd_1691 : (Jvm.Cond.methodLink "GluedHourLaw" (156 : Nat) ({ cls := "GluedHourModel", name := "free", desc := "(IIZ)I" } : Jvm.MethodName)) ∈ lw_gd := tb_7 (i := 156) rfl rfl
theorem wd_1692 : (Jvm.Cond.instanceMethod ({ cls := "GluedHourModel", name := "free", desc := "(IIZ)I" } : Jvm.MethodName)) ∈ lw_gd := tb_7 (i := 157) rfl rfl
theorem wd_1693 : (Jvm.Cond.selects "GluedHourModel" ({ cls := "GluedHourModel", name := "free", desc := "(IIZ)I" } : Jvm.MethodName) ({ cls := "GluedHourModel", name := "free", desc := "(IIZ)I" } : Jvm.MethodName)) ∈ lw_gd := tb_7 (i := 158) rfl rfl
theorem wd_1694 : (Jvm.Cond.code ({ cls := "GluedHourModel", name := "free", desc := "(IIZ)I" } : Jvm.MethodName) prog_12_method_117_code (8 : Nat) (Option.some Jvm.ClassFile.FieldType.int)) ∈ lw_gd := tb_7 (i := 159) rfl rfl
theorem wd_1695 : (Jvm.Cond.methodLink "GluedHourLaw" (160 : Nat) ({ cls := "GluedHourModel", name := "count", desc := "(I)I" } : Jvm.MethodName)) ∈ lw_gd := tb_7 (i := 160) rfl rfl
theorem wd_1696 : (Jvm.Cond.instanceMethod ({ cls := "GluedHourModel", name := "count", desc := "(I)I" } : Jvm.MethodName)) ∈ lw_gd := tb_7 (i := 161) rfl rfl
theorem wd_1697 : (Jvm.Cond.selects "GluedHourModel" ({ cls := "GluedHourModel", name := "count", desc := "(I)I" } : Jvm.MethodName) ({ cls := "GluedHourModel", name := "count", desc := "(I)I" } : Jvm.MethodName)) ∈ lw_gd := tb_7 (i := 162) rfl rfl
theorem wd_1698 : (Jvm.Cond.code ({ cls := "GluedHourModel", name := "count", desc := "(I)I" } : Jvm.MethodName) prog_12_method_118_code (2 : Nat) (Option.some Jvm.ClassFile.FieldType.int)) ∈ lw_gd := tb_7 (i := 163) rfl rfl
theorem wd_1699 : (Jvm.Cond.methodLink "GluedHourLaw" (165 : Nat) ({ cls := "GluedHourModel", name := "image", desc := "(I)Z" } : Jvm.MethodName)) ∈ lw_gd := tb_7 (i := 164) rfl rfl
theorem wd_1700 : (Jvm.Cond.instanceMethod ({ cls := "GluedHourModel", name := "image", desc := "(I)Z" } : Jvm.MethodName)) ∈ lw_gd := tb_7 (i := 165) rfl rfl
theorem wd_1701 : (Jvm.Cond.selects "GluedHourModel" ({ cls := "GluedHourModel", name := "image", desc := "(I)Z" } : Jvm.MethodName) ({ cls := "GluedHourModel", name := "image", desc := "(I)Z" } : Jvm.MethodName)) ∈ lw_gd := tb_7 (i := 166) rfl rfl
theorem wd_1702 : (Jvm.Cond.code ({ cls := "GluedHourModel", name := "image", desc := "(I)Z" } : Jvm.MethodName) prog_12_method_119_code (2 : Nat) (Option.some Jvm.ClassFile.FieldType.boolean)) ∈ lw_gd := tb_7 (i := 167) rfl rfl
theorem wd_1703 : (Jvm.Cond.methodLink "GluedHourModel" (493 : Nat) ({ cls := "GluedHourModel", name := "copyAll", desc := "(II)V" } : Jvm.MethodName)) ∈ lw_gd := tb_7 (i := 168) rfl rfl
theorem wd_1705 : (Jvm.Cond.instanceMethod ({ cls := "GluedHourModel", name := "copyAll", desc := "(II)V" } : Jvm.MethodName)) ∈ lw_gd := tb_7 (i := 170) rfl rfl
theorem wd_1706 : (Jvm.Cond.code ({ cls := "GluedHourModel", name := "copyAll", desc := "(II)V" } : Jvm.MethodName) prog_12_method_8_code (4 : Nat) (Option.none : Option Jvm.ClassFile.FieldType)) ∈ lw_gd := tb_7 (i := 171) rfl rfl
theorem wd_1707 : (Jvm.Cond.methodLink "GluedHourModel" (92 : Nat) ({ cls := "GluedHourModel", name := "copyRow", desc := "([IIII)V" } : Jvm.MethodName)) ∈ lw_gd := tb_7 (i := 172) rfl rfl
theorem wd_1708 : (Jvm.Cond.static ({ cls := "GluedHourModel", name := "copyRow", desc := "([IIII)V" } : Jvm.MethodName)) ∈ lw_gd := tb_7 (i := 173) rfl rfl
theorem wd_1709 : (Jvm.Cond.code ({ cls := "GluedHourModel", name := "copyRow", desc := "([IIII)V" } : Jvm.MethodName) prog_12_method_7_code (5 : Nat) (Option.none : Option Jvm.ClassFile.FieldType)) ∈ lw_gd := tb_7 (i := 174) rfl rfl
theorem wd_1710 : (Jvm.Cond.methodLink "GluedHourLaw" (169 : Nat) ({ cls := "GluedHourModel", name := "again", desc := "(I)Z" } : Jvm.MethodName)) ∈ lw_gd := tb_7 (i := 175) rfl rfl
theorem wd_1711 : (Jvm.Cond.instanceMethod ({ cls := "GluedHourModel", name := "again", desc := "(I)Z" } : Jvm.MethodName)) ∈ lw_gd := tb_7 (i := 176) rfl rfl
theorem wd_1712 : (Jvm.Cond.selects "GluedHourModel" ({ cls := "GluedHourModel", name := "again", desc := "(I)Z" } : Jvm.MethodName) ({ cls := "GluedHourModel", name := "again", desc := "(I)Z" } : Jvm.MethodName)) ∈ lw_gd := tb_7 (i := 177) rfl rfl
theorem wd_1713 : (Jvm.Cond.code ({ cls := "GluedHourModel", name := "again", desc := "(I)Z" } : Jvm.MethodName) prog_12_method_120_code (2 : Nat) (Option.some Jvm.ClassFile.FieldType.boolean)) ∈ lw_gd := tb_7 (i := 178) rfl rfl
theorem wd_1714 : (Jvm.Cond.fieldLink "java/lang/String" (9 : Nat) "java/lang/String" "value" "[B") ∈ lw_gd := tb_7 (i := 179) rfl rfl
theorem wd_1715 : (Jvm.Cond.fieldLink "java/lang/String" (15 : Nat) "java/lang/String" "coder" "B") ∈ lw_gd := tb_7 (i := 180) rfl rfl
theorem lk_X0 : ∀ k, k < 4 → u_lay RX0 TX0 k ∈ lw_gd
  | 0, _ => tb_1 (i := 210) rfl rfl
  | 1, _ => tb_1 (i := 212) rfl rfl
  | 2, _ => tb_1 (i := 214) rfl rfl
  | 3, _ => tb_1 (i := 216) rfl rfl
  | k + 4, h => absurd h (by omega)
theorem ig_X0 : ∀ w ∈ wsX00, w ∈ lw_gd := fun w hw => by
  obtain ⟨k, hk, rfl⟩ := List.mem_map.mp hw
  exact lk_X0 k (List.mem_range.mp hk)
theorem lk_X1 : ∀ k, k < 2 → u_lay RX1 TX1 k ∈ lw_gd
  | 0, _ => tb_2 (i := 79) rfl rfl
  | 1, _ => tb_2 (i := 81) rfl rfl
  | k + 2, h => absurd h (by omega)
theorem ig_X1 : ∀ w ∈ wsX10, w ∈ lw_gd := fun w hw => by
  obtain ⟨k, hk, rfl⟩ := List.mem_map.mp hw
  exact lk_X1 k (List.mem_range.mp hk)
theorem lk_X10 : ∀ k, k < 59 → u_lay RX10 TX10 k ∈ lw_gd
  | 0, _ => tb_5 (i := 57) rfl rfl
  | 1, _ => tb_5 (i := 59) rfl rfl
  | 2, _ => tb_5 (i := 61) rfl rfl
  | 3, _ => tb_5 (i := 63) rfl rfl
  | 4, _ => tb_5 (i := 65) rfl rfl
  | 5, _ => tb_5 (i := 67) rfl rfl
  | 6, _ => tb_5 (i := 69) rfl rfl
  | 7, _ => tb_5 (i := 71) rfl rfl
  | 8, _ => tb_5 (i := 73) rfl rfl
  | 9, _ => tb_5 (i := 75) rfl rfl
  | 10, _ => tb_5 (i := 77) rfl rfl
  | 11, _ => tb_5 (i := 79) rfl rfl
  | 12, _ => tb_5 (i := 81) rfl rfl
  | 13, _ => tb_5 (i := 83) rfl rfl
  | 14, _ => tb_5 (i := 85) rfl rfl
  | 15, _ => tb_5 (i := 87) rfl rfl
  | 16, _ => tb_5 (i := 89) rfl rfl
  | 17, _ => tb_5 (i := 91) rfl rfl
  | 18, _ => tb_5 (i := 93) rfl rfl
  | 19, _ => tb_5 (i := 95) rfl rfl
  | 20, _ => tb_5 (i := 97) rfl rfl
  | 21, _ => tb_5 (i := 99) rfl rfl
  | 22, _ => tb_5 (i := 101) rfl rfl
  | 23, _ => tb_5 (i := 103) rfl rfl
  | 24, _ => tb_5 (i := 105) rfl rfl
  | 25, _ => tb_5 (i := 107) rfl rfl
  | 26, _ => tb_5 (i := 109) rfl rfl
  | 27, _ => tb_5 (i := 111) rfl rfl
  | 28, _ => tb_5 (i := 113) rfl rfl
  | 29, _ => tb_5 (i := 115) rfl rfl
  | 30, _ => tb_5 (i := 117) rfl rfl
  | 31, _ => tb_5 (i := 119) rfl rfl
  | 32, _ => tb_5 (i := 121) rfl rfl
  | 33, _ => tb_5 (i := 123) rfl rfl
  | 34, _ => tb_5 (i := 125) rfl rfl
  | 35, _ => tb_5 (i := 127) rfl rfl
  | 36, _ => tb_5 (i := 129) rfl rfl
  | 37, _ => tb_5 (i := 131) rfl rfl
  | 38, _ => tb_5 (i := 133) rfl rfl
  | 39, _ => tb_5 (i := 135) rfl rfl
  | 40, _ => tb_5 (i := 137) rfl rfl
  | 41, _ => tb_5 (i := 139) rfl rfl
  | 42, _ => tb_5 (i := 141) rfl rfl
  | 43, _ => tb_5 (i := 143) rfl rfl
  | 44, _ => tb_5 (i := 145) rfl rfl
  | 45, _ => tb_5 (i := 147) rfl rfl
  | 46, _ => tb_5 (i := 149) rfl rfl
  | 47, _ => tb_5 (i := 151) rfl rfl
  | 48, _ => tb_5 (i := 153) rfl rfl
  | 49, _ => tb_5 (i := 155) rfl rfl
  | 50, _ => tb_5 (i := 157) rfl rfl
  | 51, _ => tb_5 (i := 159) rfl rfl
  | 52, _ => tb_5 (i := 161) rfl rfl
  | 53, _ => tb_5 (i := 163) rfl rfl
  | 54, _ => tb_5 (i := 165) rfl rfl
  | 55, _ => tb_5 (i := 167) rfl rfl
  | 56, _ => tb_5 (i := 169) rfl rfl
  | 57, _ => tb_5 (i := 171) rfl rfl
  | 58, _ => tb_5 (i := 173) rfl rfl
  | k + 59, h => absurd h (by omega)
theorem ig_X10 : ∀ w ∈ wsX100, w ∈ lw_gd := fun w hw => by
  obtain ⟨k, hk, rfl⟩ := List.mem_map.mp hw
  exact lk_X10 k (List.mem_range.mp hk)
theorem lk_X2 : ∀ k, k < 4 → u_lay RX2 TX2 k ∈ lw_gd
  | 0, _ => tb_1 (i := 104) rfl rfl
  | 1, _ => tb_1 (i := 106) rfl rfl
  | 2, _ => tb_1 (i := 108) rfl rfl
  | 3, _ => tb_1 (i := 110) rfl rfl
  | k + 4, h => absurd h (by omega)
theorem ig_X2 : ∀ w ∈ wsX20, w ∈ lw_gd := fun w hw => by
  obtain ⟨k, hk, rfl⟩ := List.mem_map.mp hw
  exact lk_X2 k (List.mem_range.mp hk)
theorem lk_X3 : ∀ k, k < 3 → u_lay RX3 TX3 k ∈ lw_gd
  | 0, _ => tb_1 (i := 234) rfl rfl
  | 1, _ => tb_1 (i := 236) rfl rfl
  | 2, _ => tb_1 (i := 238) rfl rfl
  | k + 3, h => absurd h (by omega)
theorem ig_X3 : ∀ w ∈ wsX30, w ∈ lw_gd := fun w hw => by
  obtain ⟨k, hk, rfl⟩ := List.mem_map.mp hw
  exact lk_X3 k (List.mem_range.mp hk)
theorem lk_X4 : ∀ k, k < 9 → u_lay RX4 TX4 k ∈ lw_gd
  | 0, _ => tb_2 (i := 23) rfl rfl
  | 1, _ => tb_2 (i := 25) rfl rfl
  | 2, _ => tb_2 (i := 27) rfl rfl
  | 3, _ => tb_2 (i := 29) rfl rfl
  | 4, _ => tb_2 (i := 31) rfl rfl
  | 5, _ => tb_2 (i := 33) rfl rfl
  | 6, _ => tb_2 (i := 35) rfl rfl
  | 7, _ => tb_2 (i := 37) rfl rfl
  | 8, _ => tb_2 (i := 39) rfl rfl
  | k + 9, h => absurd h (by omega)
theorem ig_X4 : ∀ w ∈ wsX40, w ∈ lw_gd := fun w hw => by
  obtain ⟨k, hk, rfl⟩ := List.mem_map.mp hw
  exact lk_X4 k (List.mem_range.mp hk)
theorem lk_X5 : ∀ k, k < 14 → u_lay RX5 TX5 k ∈ lw_gd
  | 0, _ => tb_1 (i := 169) rfl rfl
  | 1, _ => tb_1 (i := 171) rfl rfl
  | 2, _ => tb_1 (i := 173) rfl rfl
  | 3, _ => tb_1 (i := 175) rfl rfl
  | 4, _ => tb_1 (i := 177) rfl rfl
  | 5, _ => tb_1 (i := 179) rfl rfl
  | 6, _ => tb_1 (i := 181) rfl rfl
  | 7, _ => tb_1 (i := 183) rfl rfl
  | 8, _ => tb_1 (i := 185) rfl rfl
  | 9, _ => tb_1 (i := 187) rfl rfl
  | 10, _ => tb_1 (i := 189) rfl rfl
  | 11, _ => tb_1 (i := 191) rfl rfl
  | 12, _ => tb_1 (i := 193) rfl rfl
  | 13, _ => tb_1 (i := 195) rfl rfl
  | k + 14, h => absurd h (by omega)
theorem ig_X5 : ∀ w ∈ wsX50, w ∈ lw_gd := fun w hw => by
  obtain ⟨k, hk, rfl⟩ := List.mem_map.mp hw
  exact lk_X5 k (List.mem_range.mp hk)
theorem lk_X6 : ∀ k, k < 7 → u_lay RX6 TX6 k ∈ lw_gd
  | 0, _ => tb_1 (i := 68) rfl rfl
  | 1, _ => tb_1 (i := 70) rfl rfl
  | 2, _ => tb_1 (i := 72) rfl rfl
  | 3, _ => tb_1 (i := 74) rfl rfl
  | 4, _ => tb_1 (i := 76) rfl rfl
  | 5, _ => tb_1 (i := 78) rfl rfl
  | 6, _ => tb_1 (i := 80) rfl rfl
  | k + 7, h => absurd h (by omega)
theorem ig_X6 : ∀ w ∈ wsX60, w ∈ lw_gd := fun w hw => by
  obtain ⟨k, hk, rfl⟩ := List.mem_map.mp hw
  exact lk_X6 k (List.mem_range.mp hk)
theorem lk_X7 : ∀ k, k < 5 → u_lay RX7 TX7 k ∈ lw_gd
  | 0, _ => tb_2 (i := 60) rfl rfl
  | 1, _ => tb_2 (i := 62) rfl rfl
  | 2, _ => tb_2 (i := 64) rfl rfl
  | 3, _ => tb_2 (i := 66) rfl rfl
  | 4, _ => tb_2 (i := 68) rfl rfl
  | k + 5, h => absurd h (by omega)
theorem ig_X7 : ∀ w ∈ wsX70, w ∈ lw_gd := fun w hw => by
  obtain ⟨k, hk, rfl⟩ := List.mem_map.mp hw
  exact lk_X7 k (List.mem_range.mp hk)
theorem lk_X8 : ∀ k, k < 7 → u_lay RX8 TX8 k ∈ lw_gd
  | 0, _ => tb_1 (i := 125) rfl rfl
  | 1, _ => tb_1 (i := 127) rfl rfl
  | 2, _ => tb_1 (i := 129) rfl rfl
  | 3, _ => tb_1 (i := 131) rfl rfl
  | 4, _ => tb_1 (i := 133) rfl rfl
  | 5, _ => tb_1 (i := 135) rfl rfl
  | 6, _ => tb_1 (i := 137) rfl rfl
  | k + 7, h => absurd h (by omega)
theorem ig_X8 : ∀ w ∈ wsX80, w ∈ lw_gd := fun w hw => by
  obtain ⟨k, hk, rfl⟩ := List.mem_map.mp hw
  exact lk_X8 k (List.mem_range.mp hk)
theorem lk_X9 : ∀ k, k < 9 → u_lay RX9 TX9 k ∈ lw_gd
  | 0, _ => tb_2 (i := 93) rfl rfl
  | 1, _ => tb_2 (i := 95) rfl rfl
  | 2, _ => tb_2 (i := 97) rfl rfl
  | 3, _ => tb_2 (i := 99) rfl rfl
  | 4, _ => tb_2 (i := 101) rfl rfl
  | 5, _ => tb_2 (i := 103) rfl rfl
  | 6, _ => tb_2 (i := 105) rfl rfl
  | 7, _ => tb_2 (i := 107) rfl rfl
  | 8, _ => tb_2 (i := 109) rfl rfl
  | k + 9, h => absurd h (by omega)
theorem ig_X9 : ∀ w ∈ wsX90, w ∈ lw_gd := fun w hw => by
  obtain ⟨k, hk, rfl⟩ := List.mem_map.mp hw
  exact lk_X9 k (List.mem_range.mp hk)
end
end

section
section
/-! THE ABSTRACT MACHINE. Heap: how many cells, shapes (kind, length), ints, longs, references, by place; kinds 0..10 objects of class 0..10, 11 int[], 12 byte[], 13 boolean[], 14 long[], 15.. arrays of references. -/
abbrev ax_H : Type := Nat × (Nat → Nat × Nat) × (Nat → Nat → Int32) × (Nat → Nat → Int64) × (Nat → Nat → Option Nat)
def ax_s (h : ax_H) (a : Nat) : Nat × Nat := if a < h.1 then h.2.1 a else (99, 0)
def ax_i (h : ax_H) (a k : Nat) : Int32 := h.2.2.1 a k
def ax_l (h : ax_H) (a k : Nat) : Int64 := h.2.2.2.1 a k
def ax_r (h : ax_H) (a k : Nat) : Option Nat := h.2.2.2.2 a k
def ax_u {α : Type} (f : Nat → Nat → α) (a k : Nat) (v : α) : Nat → Nat → α := fun b => if b = a then (fun j => if j = k then v else f a j) else f b
def ax_pi (h : ax_H) (a k : Nat) (v : Int32) : ax_H := (h.1, h.2.1, ax_u h.2.2.1 a k v, h.2.2.2.1, h.2.2.2.2)
def ax_pl (h : ax_H) (a k : Nat) (v : Int64) : ax_H := (h.1, h.2.1, h.2.2.1, ax_u h.2.2.2.1 a k v, h.2.2.2.2)
def ax_pr (h : ax_H) (a k : Nat) (v : Option Nat) : ax_H := (h.1, h.2.1, h.2.2.1, h.2.2.2.1, ax_u h.2.2.2.2 a k v)
def ax_nw (h : ax_H) (kd ln : Nat) : ax_H := (h.1 + 1, (fun b => if b = h.1 then (kd, ln) else h.2.1 b), (fun b => if b = h.1 then (fun _ => 0) else h.2.2.1 b), (fun b => if b = h.1 then (fun _ => 0) else h.2.2.2.1 b), (fun b => if b = h.1 then (fun _ => none) else h.2.2.2.2 b))
/-- the launch, the first new cell's address, addresses of what lies outside, the classes' numbers and slots, the array classes -/
abbrev ax_G : Type := Launch × Nat × (Nat → Nat) × va_G × (Nat → ClassId)
def ax_ad (g : ax_G) (a : Nat) : Nat := if a < 1000000 then g.2.1 + a else g.2.2.1 (a - 1000000)
def ax_v (g : ax_G) (v : Value) : Value := match v with
  | .ref a => .ref (ax_ad g a)
  | v => v
def ax_fl (g : ax_G) (h : ax_H) (ts : List Nat) (a : Nat) : List Value := ts.mapIdx fun k t => if t = 0 then .int (ax_i h a k) else if t = 1 then .long (ax_l h a k) else va_rf ((ax_r h a k).map (ax_ad g))
def ax_c (g : ax_G) (h : ax_H) (a kd : Nat) : (Nat → Int32) ⊕ (Nat → Int64) ⊕ (Nat → UInt32) ⊕ (Nat → UInt64) ⊕ (Nat → Option Nat) := if kd < 14 then .inl (ax_i h a) else if kd = 14 then .inr (.inl (ax_l h a)) else .inr (.inr (.inr (.inr (fun j => (ax_r h a j).map (ax_ad g)))))
/-- the types of a class's fields: 0 int, 1 long, 2 reference -/
def ax_ft : Nat → List Nat := fun ci => [[2, 2, 0, 0], [1, 1], [0, 0, 2, 0], [2, 0, 0], [2, 1, 1, 0, 1, 2, 2, 2, 2], [2, 2, 2, 2, 0, 0, 0, 0, 0, 0, 0, 0, 0, 0], [2, 2, 2, 2, 2, 0, 0], [2, 0, 0, 2, 2], [2, 2, 2, 2, 0, 0, 0], [2, 2, 2, 2, 2, 2, 2, 2, 2], [0, 2, 2, 2, 2, 2, 2, 2, 2, 2, 2, 0, 0, 0, 0, 0, 1, 0, 0, 0, 2, 2, 0, 0, 0, 0, 0, 0, 2, 2, 2, 2, 0, 0, 0, 0, 0, 1, 1, 0, 2, 0, 0, 2, 2, 0, 1, 0, 2, 0, 0, 0, 2, 2, 2, 2, 1, 1, 2]].getD ci []
def ax_e (g : ax_G) (h : ax_H) (a : Nat) : va_E := if (h.2.1 a).1 < 11 then .inr ((h.2.1 a).1, ax_fl g h (ax_ft (h.2.1 a).1) a) else .inl (g.2.2.2.2 (h.2.1 a).1, (h.2.1 a).2, ax_c g h a (h.2.1 a).1)
def ax_w (g : ax_G) (h : ax_H) : va_W := (List.range h.1).map fun a => (g.2.1 + a, ax_e g h a)
def ax_t (g : ax_G) : List (ClassId × FieldType) := [(g.2.2.2.2 11, .int), (g.2.2.2.2 12, .byte), (g.2.2.2.2 13, .boolean), (g.2.2.2.2 14, .long), (g.2.2.2.2 15, .object "GluedHour$Lines"), (g.2.2.2.2 16, .object "GluedHour$Odds"), (g.2.2.2.2 17, .object "GluedHour$Republic"), (g.2.2.2.2 18, .object "GluedHour$Told")]
abbrev ax_K (g : ax_G) (U : State) : Prop := va_K g.2.2.2.1 vwCl (ax_t g) U
abbrev ax_P (g : ax_G) (h : ax_H) (H : Heap) : Prop := va_P g.2.2.2.1 vwCl (ax_w g h) H ∧ H.size = g.2.1 + h.1 ∧ h.1 < 1000000
abbrev ax_A (g : ax_G) : Nat → Prop := fun q => g.2.1 ≤ q
theorem ax_w_get {g : ax_G} {h : ax_H} {a : Nat} (ha : a < h.1) : (ax_w g h)[a]? = some (g.2.1 + a, ax_e g h a) := by
  unfold ax_w
  rw [List.getElem?_map, List.getElem?_range ha]
  rfl
theorem ax_w_D {g : ax_G} {h : ax_H} : va_D (ax_A g) (ax_w g h) := by
  have key : ∀ (k : Nat) (q : Nat × va_E), (ax_w g h)[k]? = some q → q.1 = g.2.1 + k := by
    intro k q hq
    unfold ax_w at hq
    rw [List.getElem?_map] at hq
    by_cases hk : k < h.1
    · rw [List.getElem?_range hk] at hq
      cases hq
      rfl
    · rw [List.getElem?_eq_none (by simpa using Nat.not_lt.mp hk)] at hq
      cases hq
  refine ⟨fun i j p q hp hq he => ?_, fun k q hq => ?_⟩
  · rw [key i p hp, key j q hq] at he
    exact Nat.add_left_cancel he
  · show g.2.1 ≤ q.1
    rw [key k q hq]
    exact Nat.le_add_right _ _
theorem ax_s_lt {h : ax_H} {a kd : Nat} (hs : (ax_s h a).1 = kd) (hk : kd < 99) : a < h.1 ∧ (h.2.1 a).1 = kd ∧ (ax_s h a).2 = (h.2.1 a).2 := by
  unfold ax_s at hs ⊢
  by_cases ha : a < h.1
  · rw [if_pos ha] at hs ⊢
    exact ⟨ha, hs, rfl⟩
  · rw [if_neg ha] at hs
    subst hs
    exact absurd hk (by decide)
theorem ax_e_obj {g : ax_G} {h : ax_H} {a ci : Nat} (hs : (h.2.1 a).1 = ci) (hc : ci < 11) : ax_e g h a = .inr (ci, ax_fl g h (ax_ft ci) a) := by
  unfold ax_e
  rw [hs, if_pos hc]
theorem ax_e_arr {g : ax_G} {h : ax_H} {a kd : Nat} (hs : (h.2.1 a).1 = kd) (hc : ¬ kd < 11) : ax_e g h a = .inl (g.2.2.2.2 kd, (h.2.1 a).2, ax_c g h a kd) := by
  unfold ax_e
  rw [hs, if_neg hc]
theorem ax_ad_lt {g : ax_G} {a : Nat} (h : a < 1000000) : ax_ad g a = g.2.1 + a := if_pos h
theorem ax_fl_get {g : ax_G} {h : ax_H} {ts : List Nat} {a k t : Nat} (ht : ts[k]? = some t) : (ax_fl g h ts a)[k]? = some (if t = 0 then .int (ax_i h a k) else if t = 1 then .long (ax_l h a k) else va_rf ((ax_r h a k).map (ax_ad g))) := by
  unfold ax_fl
  rw [List.getElem?_mapIdx, ht]
  rfl
theorem ax_fl_len {g : ax_G} {h : ax_H} {ts : List Nat} {a : Nat} : (ax_fl g h ts a).length = ts.length := by
  unfold ax_fl
  exact List.length_mapIdx
/-- the world behind a write into one cell -/
theorem ax_w_set {g : ax_G} {h h' : ax_H} {a : Nat} {x : va_E} (hn : h'.1 = h.1) (hx : ax_e g h' a = x) (ho : ∀ b, b ≠ a → ax_e g h' b = ax_e g h b) : (ax_w g h).set a (g.2.1 + a, x) = ax_w g h' := by
  apply List.ext_getElem?
  intro i
  rw [List.getElem?_set]
  unfold ax_w
  rw [List.getElem?_map, List.getElem?_map, List.length_map, List.length_range, hn]
  by_cases hi : a = i
  · subst hi
    rw [if_pos rfl]
    by_cases hb : a < h.1
    · rw [if_pos hb, List.getElem?_range hb]
      show some (g.2.1 + a, x) = some (g.2.1 + a, ax_e g h' a)
      rw [hx]
    · rw [if_neg hb, List.getElem?_eq_none (by simpa using Nat.not_lt.mp hb)]
      rfl
  · rw [if_neg hi]
    by_cases hb : i < h.1
    · rw [List.getElem?_range hb]
      show some (g.2.1 + i, ax_e g h i) = some (g.2.1 + i, ax_e g h' i)
      rw [ho i (fun e => hi e.symm)]
    · rw [List.getElem?_eq_none (by simpa using Nat.not_lt.mp hb)]
      rfl
theorem ax_u_ne {α : Type} {f : Nat → Nat → α} {a k : Nat} {v : α} {b : Nat} (h : b ≠ a) : ax_u f a k v b = f b := if_neg h
theorem ax_u_eq {α : Type} {f : Nat → Nat → α} {a k : Nat} {v : α} : ax_u f a k v a = (fun j => if j = k then v else f a j) := if_pos rfl
theorem ax_fl_cong {g : ax_G} {h h' : ax_H} {ts : List Nat} {b : Nat} (hi : h'.2.2.1 b = h.2.2.1 b) (hl : h'.2.2.2.1 b = h.2.2.2.1 b) (hr : h'.2.2.2.2 b = h.2.2.2.2 b) : ax_fl g h' ts b = ax_fl g h ts b := by
  unfold ax_fl ax_i ax_l ax_r
  rw [hi, hl, hr]
theorem ax_e_cong {g : ax_G} {h h' : ax_H} {b : Nat} (hs : h'.2.1 b = h.2.1 b) (hi : h'.2.2.1 b = h.2.2.1 b) (hl : h'.2.2.2.1 b = h.2.2.2.1 b) (hr : h'.2.2.2.2 b = h.2.2.2.2 b) : ax_e g h' b = ax_e g h b := by
  unfold ax_e ax_c
  rw [hs, ax_fl_cong hi hl hr]
  unfold ax_i ax_l ax_r
  rw [hi, hl, hr]
theorem ax_fl_set {g : ax_G} {h h' : ax_H} {ts : List Nat} {a k t : Nat} {v : Value} (ht : ts[k]? = some t) (hv : (if t = 0 then Value.int (ax_i h' a k) else if t = 1 then .long (ax_l h' a k) else va_rf ((ax_r h' a k).map (ax_ad g))) = v) (ho : ∀ j u, j ≠ k → ts[j]? = some u → (if u = 0 then Value.int (ax_i h' a j) else if u = 1 then .long (ax_l h' a j) else va_rf ((ax_r h' a j).map (ax_ad g))) = (if u = 0 then Value.int (ax_i h a j) else if u = 1 then .long (ax_l h a j) else va_rf ((ax_r h a j).map (ax_ad g)))) : ax_fl g h' ts a = (ax_fl g h ts a).set k v := by
  apply List.ext_getElem?
  intro i
  rw [List.getElem?_set]
  by_cases hi : k = i
  · subst hi
    rw [if_pos rfl, if_pos (by rw [ax_fl_len]; exact (List.getElem?_eq_some_iff.mp ht).1), ax_fl_get ht, hv]
  · rw [if_neg hi]
    cases hu : ts[i]? with
    | none =>
      have e : ∀ h0 : ax_H, (ax_fl g h0 ts a)[i]? = none := fun h0 => by
        rw [List.getElem?_eq_none_iff, ax_fl_len]
        exact List.getElem?_eq_none_iff.mp hu
      rw [e, e]
    | some u => rw [ax_fl_get hu, ax_fl_get hu, ho i u (fun e => hi e.symm) hu]
end
end

section
section
/-! locals by place -/
def ax_as : Nat → List (Option Value) → List (Nat × Value)
  | _, [] => []
  | i, none :: r => ax_as (i + 1) r
  | i, some v :: r => (i, v) :: ax_as (i + 1) r
def ax_g : List (Option Value) → Nat → Option Value
  | [], _ => none
  | x :: _, 0 => x
  | _ :: r, n + 1 => ax_g r n
def ax_k2 (x : Option Value) : Option Value := match x with
  | some (.long _) => none
  | some (.double _) => none
  | x => x
def ax_st : List (Option Value) → Nat → Value → List (Option Value)
  | [], _, _ => []
  | _ :: r, 0, v => some v :: r
  | x :: r, 1, v => ax_k2 x :: ax_st r 0 v
  | x :: r, n + 2, v => x :: ax_st r (n + 1) v
def ax_st2 : List (Option Value) → Nat → Value → List (Option Value)
  | [], _, _ => []
  | [_], 0, _ => [none]
  | _ :: _ :: r, 0, v => some v :: none :: r
  | x :: r, 1, v => ax_k2 x :: ax_st2 r 0 v
  | x :: r, n + 2, v => x :: ax_st2 r (n + 1) v
theorem ax_as_mem : ∀ (L : List (Option Value)) (i j : Nat) (v : Value), (j, v) ∈ ax_as i L ↔ i ≤ j ∧ L[j - i]? = some (some v) := by
  intro L
  induction L with
  | nil => intro i j v; simp [ax_as]
  | cons x r ih =>
    intro i j v
    have key : ∀ y : Option Value, (i + 1 ≤ j ∧ r[j - (i + 1)]? = some (some v)) ↔ (i + 1 ≤ j ∧ (y :: r)[j - i]? = some (some v)) := by
      intro y
      constructor
      · rintro ⟨h1, h2⟩
        refine ⟨h1, ?_⟩
        have : j - i = (j - (i + 1)) + 1 := by omega
        rw [this, List.getElem?_cons_succ]
        exact h2
      · rintro ⟨h1, h2⟩
        refine ⟨h1, ?_⟩
        have : j - i = (j - (i + 1)) + 1 := by omega
        rw [this, List.getElem?_cons_succ] at h2
        exact h2
    cases x with
    | none =>
      rw [ax_as, ih, key none]
      constructor
      · rintro ⟨h1, h2⟩
        exact ⟨by omega, h2⟩
      · rintro ⟨h1, h2⟩
        rcases Nat.eq_or_lt_of_le h1 with e | e
        · subst e
          simp at h2
        · exact ⟨e, h2⟩
    | some w =>
      rw [ax_as, List.mem_cons, ih, key (some w)]
      constructor
      · rintro (h | ⟨h1, h2⟩)
        · cases h
          simp
        · exact ⟨by omega, h2⟩
      · rintro ⟨h1, h2⟩
        rcases Nat.eq_or_lt_of_le h1 with e | e
        · subst e
          simp at h2
          exact Or.inl (by rw [h2])
        · exact Or.inr ⟨e, h2⟩
theorem ax_g_get : ∀ (L : List (Option Value)) (i : Nat) (v : Value), ax_g L i = some v → L[i]? = some (some v) := by
  intro L
  induction L with
  | nil => intro i v h; simp [ax_g] at h
  | cons x r ih =>
    intro i v h
    cases i with
    | zero => simp [ax_g] at h; simp [h]
    | succ n => simp [ax_g] at h; simpa using ih n v h
theorem ax_k2_cat {x : Option Value} {w : Value} (h : ax_k2 x = some w) : x = some w ∧ ¬ w.category = 2 := by
  unfold ax_k2 at h
  split at h
  · cases h
  · cases h
  · rename_i h1 h2
    subst h
    refine ⟨rfl, ?_⟩
    cases w <;> simp [Value.category] <;> first | exact absurd rfl (h1 _) | exact absurd rfl (h2 _)
theorem ax_st_get : ∀ (L : List (Option Value)) (i : Nat) (v : Value) (j : Nat) (w : Value), (ax_st L i v)[j]? = some (some w) → (j = i ∧ w = v) ∨ (j ≠ i ∧ ¬ (j + 1 = i ∧ w.category = 2) ∧ L[j]? = some (some w)) := by
  intro L
  induction L with
  | nil => intro i v j w h; simp [ax_st] at h
  | cons x r ih =>
    intro i v j w h
    match i with
    | 0 =>
      cases j with
      | zero => simp [ax_st] at h; exact Or.inl ⟨rfl, h.symm⟩
      | succ j => simp [ax_st] at h; exact Or.inr ⟨by omega, by omega, by simpa using h⟩
    | 1 =>
      cases j with
      | zero =>
        simp [ax_st] at h
        obtain ⟨h1, h2⟩ := ax_k2_cat h
        exact Or.inr ⟨by omega, fun q => h2 q.2, by simp [h1]⟩
      | succ j =>
        simp [ax_st] at h
        rcases ih 0 v j w h with ⟨h1, h2⟩ | ⟨h1, h2, h3⟩
        · exact Or.inl ⟨by omega, h2⟩
        · exact Or.inr ⟨by omega, by omega, by simpa using h3⟩
    | n + 2 =>
      cases j with
      | zero => simp [ax_st] at h; exact Or.inr ⟨by omega, by omega, by simp [h]⟩
      | succ j =>
        simp [ax_st] at h
        rcases ih (n + 1) v j w h with ⟨h1, h2⟩ | ⟨h1, h2, h3⟩
        · exact Or.inl ⟨by omega, h2⟩
        · exact Or.inr ⟨by omega, fun q => h2 ⟨by omega, q.2⟩, by simpa using h3⟩
theorem ax_st2_get : ∀ (L : List (Option Value)) (i : Nat) (v : Value) (j : Nat) (w : Value), (ax_st2 L i v)[j]? = some (some w) → (j = i ∧ w = v) ∨ (j ≠ i ∧ j ≠ i + 1 ∧ ¬ (j + 1 = i ∧ w.category = 2) ∧ L[j]? = some (some w)) := by
  intro L
  induction L with
  | nil => intro i v j w h; simp [ax_st2] at h
  | cons x r ih =>
    intro i v j w h
    match i with
    | 0 =>
      cases r with
      | nil =>
        cases j with
        | zero => simp [ax_st2] at h
        | succ j => simp [ax_st2] at h
      | cons y r =>
        match j with
        | 0 => simp [ax_st2] at h; exact Or.inl ⟨rfl, h.symm⟩
        | 1 => simp [ax_st2] at h
        | j + 2 => simp [ax_st2] at h; exact Or.inr ⟨by omega, by omega, by omega, by simpa using h⟩
    | 1 =>
      cases j with
      | zero =>
        simp [ax_st2] at h
        obtain ⟨h1, h2⟩ := ax_k2_cat h
        exact Or.inr ⟨by omega, by omega, fun q => h2 q.2, by simp [h1]⟩
      | succ j =>
        simp [ax_st2] at h
        rcases ih 0 v j w h with ⟨h1, h2⟩ | ⟨h1, h2, h3, h4⟩
        · exact Or.inl ⟨by omega, h2⟩
        · exact Or.inr ⟨by omega, by omega, by omega, by simpa using h4⟩
    | n + 2 =>
      cases j with
      | zero => simp [ax_st2] at h; exact Or.inr ⟨by omega, by omega, by omega, by simp [h]⟩
      | succ j =>
        simp [ax_st2] at h
        rcases ih (n + 1) v j w h with ⟨h1, h2⟩ | ⟨h1, h2, h3, h4⟩
        · exact Or.inl ⟨by omega, h2⟩
        · exact Or.inr ⟨by omega, by omega, fun q => h3 ⟨by omega, q.2⟩, by simpa using h4⟩
/-- the machine's locals hold L's -/
def ax_lr (g : ax_G) (ls : Array Slot) (nL : Nat) (L : List (Option Value)) : Prop := lv_has ls nL (ax_as 0 (L.map (Option.map (ax_v g))))
theorem ax_v_cat (g : ax_G) (v : Value) : (ax_v g v).category = v.category := by cases v <;> rfl
theorem ax_lr_get {g : ax_G} {ls : Array Slot} {nL : Nat} {L : List (Option Value)} {i : Nat} {v : Value} (h : ax_lr g ls nL L) (hv : ax_g L i = some v) : ls[i]? = some (.val (ax_v g v)) := by
  refine h.2.2 (i, ax_v g v) ((ax_as_mem _ _ _ _).mpr ⟨Nat.zero_le _, ?_⟩)
  rw [Nat.sub_zero, List.getElem?_map, ax_g_get _ _ _ hv]
  rfl
theorem ax_map_get {g : ax_G} {L : List (Option Value)} {j : Nat} {w : Value} (h : (L.map (Option.map (ax_v g)))[j]? = some (some w)) : ∃ u, L[j]? = some (some u) ∧ w = ax_v g u := by
  rw [List.getElem?_map] at h
  cases hL : L[j]? with
  | none => rw [hL] at h; cases h
  | some x =>
    rw [hL] at h
    cases x with
    | none => cases h
    | some u => cases h; exact ⟨u, rfl, rfl⟩
theorem ax_lr_st {g : ax_G} {ls' : Array Slot} {nL : Nat} {L : List (Option Value)} {i : Nat} {v : Value} (h : lv_has ls' nL ((i, ax_v g v) :: (ax_as 0 (L.map (Option.map (ax_v g)))).filter (fun q => !(q.1 == i) && !(q.1 + 1 == i && q.2.category == 2)))) : ax_lr g ls' nL (ax_st L i v) := by
  refine ⟨h.1, h.2.1, fun q hq => h.2.2 q ?_⟩
  obtain ⟨j, w⟩ := q
  obtain ⟨-, h1⟩ := (ax_as_mem _ _ _ _).mp hq
  rw [Nat.sub_zero] at h1
  obtain ⟨u, h2, rfl⟩ := ax_map_get h1
  rcases ax_st_get _ _ _ _ _ h2 with ⟨rfl, rfl⟩ | ⟨h3, h4, h5⟩
  · exact List.mem_cons_self
  · refine List.mem_cons_of_mem _ (List.mem_filter.mpr ⟨(ax_as_mem _ _ _ _).mpr ⟨Nat.zero_le _, ?_⟩, ?_⟩)
    · rw [Nat.sub_zero, List.getElem?_map, h5]; rfl
    · have e1 : (j == i) = false := by simpa using h3
      show (!(j == i) && !(j + 1 == i && (ax_v g u).category == 2)) = true
      rw [e1, ax_v_cat]
      by_cases e2 : j + 1 = i
      · have : ¬ u.category = 2 := fun q => h4 ⟨e2, q⟩
        simp [this]
      · simp [e2]
theorem ax_lr_st2 {g : ax_G} {ls' : Array Slot} {nL : Nat} {L : List (Option Value)} {i : Nat} {v : Value} (h : lv_has ls' nL ((i, ax_v g v) :: (ax_as 0 (L.map (Option.map (ax_v g)))).filter (fun q => !(q.1 == i) && (!(q.1 == i + 1) && !(q.1 + 1 == i && q.2.category == 2))))) : ax_lr g ls' nL (ax_st2 L i v) := by
  refine ⟨h.1, h.2.1, fun q hq => h.2.2 q ?_⟩
  obtain ⟨j, w⟩ := q
  obtain ⟨-, h1⟩ := (ax_as_mem _ _ _ _).mp hq
  rw [Nat.sub_zero] at h1
  obtain ⟨u, h2, rfl⟩ := ax_map_get h1
  rcases ax_st2_get _ _ _ _ _ h2 with ⟨rfl, rfl⟩ | ⟨h3, h3', h4, h5⟩
  · exact List.mem_cons_self
  · refine List.mem_cons_of_mem _ (List.mem_filter.mpr ⟨(ax_as_mem _ _ _ _).mpr ⟨Nat.zero_le _, ?_⟩, ?_⟩)
    · rw [Nat.sub_zero, List.getElem?_map, h5]; rfl
    · have e1 : (j == i) = false := by simpa using h3
      have e3 : (j == i + 1) = false := by simpa using h3'
      show (!(j == i) && (!(j == i + 1) && !(j + 1 == i && (ax_v g u).category == 2))) = true
      rw [e1, e3, ax_v_cat]
      by_cases e2 : j + 1 = i
      · have : ¬ u.category = 2 := fun q => h4 ⟨e2, q⟩
        simp [this]
      · simp [e2]
/-- the locals at a method's entry -/
def ax_en : List Value → Nat → List (Option Value)
  | [], n => List.replicate n none
  | v :: r, n => if v.category = 2 then some v :: none :: ax_en r (n - 2) else some v :: ax_en r (n - 1)
theorem ax_en_mem : ∀ (vs : List Value) (n i j : Nat) (w : Value), (j, w) ∈ ax_as i (ax_en vs n) → (j, w) ∈ lv_args i vs := by
  intro vs
  induction vs with
  | nil =>
    intro n i j w h
    exfalso
    obtain ⟨-, h1⟩ := (ax_as_mem _ _ _ _).mp h
    simp only [ax_en, List.getElem?_replicate] at h1
    split at h1 <;> cases h1
  | cons v r ih =>
    intro n i j w h
    unfold ax_en at h
    unfold lv_args
    by_cases hc : v.category = 2
    · rw [if_pos hc] at h
      simp only [ax_as] at h
      rcases List.mem_cons.mp h with h | h
      · cases h; first | exact List.mem_cons_self | (simp)
      · have := ih (n - 2) (i + 1 + 1) j w h
        first | (rw [if_pos hc]; exact List.mem_cons_of_mem _ this) | (simp [hc]; exact Or.inr this) | (refine List.mem_cons_of_mem _ ?_; simpa [hc] using this)
    · rw [if_neg hc] at h
      simp only [ax_as] at h
      rcases List.mem_cons.mp h with h | h
      · cases h; first | exact List.mem_cons_self | (simp)
      · have := ih (n - 1) (i + 1) j w h
        have hc1 : v.category = 1 := by cases v <;> first | rfl | exact absurd rfl hc
        first | (rw [if_neg hc]; exact List.mem_cons_of_mem _ this) | (refine List.mem_cons_of_mem _ ?_; simpa [hc1] using this)
end
end

section
section
/-! a state: place in the code, locals, stack, heap, new cells and slots so far; an operation: what must hold at a state so that K holds at what comes -/
abbrev ax_S : Type := Nat × List (Option Value) × List Value × ax_H × Nat × Nat
abbrev ax_O : Type := (Option Value → ax_H → Prop) → ax_S → (ax_S → Prop) → Prop
def ax_rm (d mc ms : Nat) : Room := { frames := d, cells := mc, slots := ms, locals := 41 * d + 32 }
def ax_sa : List (String × String × List Int32) := [("GluedHour", "LINES_MOST", [0, 14, 6, 8, 6]), ("GluedHour", "LINE_WIDTH", [0, 1, 3, 2, 3]), ("GluedHour$Reader", "VERB_SORT", [0, 0, 0, 0, 0, 0, 1, 2, 3, 4, 4]), ("GluedHour$Reader", "NUMBERS", [1, 2, 2, 1, 3, 3, 1, 3, 2, 3, 3]), ("GluedHour$Reader", "LOWEST", [2, 0, 0, 0, 0, 0, 0, 0, 0, 0, 0, 0, 0, 0, 0, 0, 0, 0, 0, 0, 0, 0, 0, 0, 0, 1, 0, 1, 0, 0, 1, 0, 0]), ("GluedHour$Reader", "HIGHEST", [12, 0, 0, 5, 99, 0, 5, 99, 0, 999, 0, 0, 5, 11, 5, 5, 11, 9, 11, 0, 0, 5, 11, 11, 11, 9, 0, 3, 5, 999, 3, 5, 999])]
/-- the String constants of the reader: entry of its pool, text -/
def ax_ss : List (Nat × String) := [(125, "twice"), (131, "once"), (133, "undone"), (173, "hours"), (174, "gain"), (176, "loss"), (178, "person"), (180, "does"), (182, "lot"), (184, "stuck"), (186, "errand"), (188, "train"), (190, "has"), (192, "owes")]
def ax_sl : List Nat := [5, 4, 6, 5, 4, 4, 6, 4, 3, 5, 6, 5, 3, 4]
def ax_sb : List (List Int32) := [[116, 119, 105, 99, 101], [111, 110, 99, 101], [117, 110, 100, 111, 110, 101], [104, 111, 117, 114, 115], [103, 97, 105, 110], [108, 111, 115, 115], [112, 101, 114, 115, 111, 110], [100, 111, 101, 115], [108, 111, 116], [115, 116, 117, 99, 107], [101, 114, 114, 97, 110, 100], [116, 114, 97, 105, 110], [104, 97, 115], [111, 119, 101, 115]]
def ax_nf : List (String × Nat × String × String × String × String) := [("GluedHour$Lines", 15, "GluedHour", "LINES_MOST", "[I", "GluedHour"), ("GluedHour$Lines", 22, "GluedHour", "LINE_WIDTH", "[I", "GluedHour")]
def ax_nm : List (String × Nat × MethodName × String) := [("GluedHour", 35, ⟨"GluedHour$Course", "<init>", "()V"⟩, "GluedHour"), ("GluedHour", 42, ⟨"GluedHour$Odds", "<init>", "()V"⟩, "GluedHour"), ("GluedHour", 52, ⟨"GluedHour$Planner", "<init>", "()V"⟩, "GluedHour"), ("GluedHour", 66, ⟨"GluedHour$Fraction", "<init>", "()V"⟩, "GluedHour"), ("GluedHour$Planner", 41, ⟨"GluedHour$Odds", "<init>", "()V"⟩, "GluedHour"), ("GluedHour$Search", 31, ⟨"GluedHour$Odds", "<init>", "()V"⟩, "GluedHour")]
def ax_ao : List String := ["GluedHour$Lines", "GluedHour$Odds", "GluedHour$Republic", "GluedHour$Told"]
/-- the static arrays and String constants, as they stand below the new cells -/
def ax_Z (g : ax_G) (s : State) (H : Heap) : Prop := (∀ (j : Nat) (q : String × String × List Int32), ax_sa[j]? = some q → va_Z q.1 q.2.1 "[I" (.ref (ax_ad g (1000000 + j))) (ax_A g) s H ∧ va_T .int (ax_ad g (1000000 + j)) q.2.2.length (fun k => .int (q.2.2.getD k 0)) (ax_A g) s H) ∧ vk_S 14 ax_sl ax_sb (fun i => ax_ad g (1000100 + i)) (fun i => ax_ad g (1000200 + i)) (ax_A g) s H ∧ (∀ (i : Nat) (q : Nat × String), ax_ss[i]? = some q → vk_R "GluedHour$Reader" q.1 q.2 (ax_ad g (1000100 + i)) s) ∧ va_Z "java/lang/String" "COMPACT_STRINGS" "Z" (.int 1) (ax_A g) s H ∧ va_X (ax_ad g 1000300) (g.2.2.1 400) (fun j => Int32.ofNat (g.2.2.1 (1000 + j))) s H ∧ (¬ ax_A g (ax_ad g 1000300)) ∧ (∀ q ∈ ax_nf, va_Nw (.fieldLinkNest q.1 q.2.1 q.2.2.1 q.2.2.2.1 q.2.2.2.2.1 q.2.2.2.2.2) s) ∧ (∀ q ∈ ax_nm, va_Nw (.methodLinkNest q.1 q.2.1 q.2.2.1 q.2.2.2) s) ∧ (∀ C ∈ ax_ao, va_AO C s) ∧ (va_Z "jdk/internal/util/Preconditions" "SIOOBE_FORMATTER" "Ljava/util/function/BiFunction;" .null (ax_A g) s H ∨ va_Z "jdk/internal/util/Preconditions" "SIOOBE_FORMATTER" "Ljava/util/function/BiFunction;" (.ref (ax_ad g 1000301)) (ax_A g) s H)
theorem ax_Z_moved {g : ax_G} {s U : State} {H H1 : Heap} (h : ax_Z g s H) (hvm : s.vm.Alike U.vm) (hR : U.vm = s.vm ∨ s.WarmedH U.vm) (hq : ∀ a : Nat, a < H.size → ¬ ax_A g a → H1[a]? = H[a]?) : ax_Z g U H1 := ⟨fun j q hj => ⟨((h.1 j q hj).1.kept hq).moved hvm, ((h.1 j q hj).2.kept hq).moved hvm⟩, (h.2.1.kept hq).moved hvm, fun i q hi => hR.elim (fun z => vk_R.same z (h.2.2.1 i q hi)) (fun z => vk_R.warm z (h.2.2.1 i q hi)), (h.2.2.2.1.kept hq).moved hvm, (h.2.2.2.2.1.kept (hq _ (by obtain ⟨_, h1, _⟩ := h.2.2.2.2.1; exact (Array.getElem?_eq_some_iff.mp h1).1) h.2.2.2.2.2.1)).moved hvm, h.2.2.2.2.2.1, fun q hq => hR.elim (fun z => va_Nw.same rfl z.symm (h.2.2.2.2.2.2.1 q hq)) (fun z => va_Nw.warmF z (h.2.2.2.2.2.2.1 q hq)), fun q hq => hR.elim (fun z => va_Nw.same rfl z.symm (h.2.2.2.2.2.2.2.1 q hq)) (fun z => va_Nw.warmM z (h.2.2.2.2.2.2.2.1 q hq)), fun C hC => (h.2.2.2.2.2.2.2.2.1 C hC).moved hvm, h.2.2.2.2.2.2.2.2.2.imp (fun z => (z.kept hq).moved hvm) (fun z => (z.kept hq).moved hvm)⟩
def ax_V (g : ax_G) (cc : ByteArray) (nL : Nat) (ret : Option FieldType) (own nm : String) (p : Program) (s : State) (m : MethodId) (args : Array Value) (meth : Method) (c : Code) : Prop := p.tables.exec = Jvm.exec ∧ c.code = cc ∧ meth.sig.returnType = ret ∧ meth.locks = false ∧ c.maxLocals = nL ∧ s.vm.findClass own = some m.cls ∧ meth.name = nm ∧ (∀ w ∈ lw_gd, w.before args s = true) ∧ ax_K g s ∧ g.2.1 ≤ s.heap.size ∧ ax_Z g s s.heap
def ax_Q (g : ax_G) (Ret : Option Value → ax_H → Prop) : Array Value → State → Outcome → State → Prop := fun _ st oc t => (∃ (v : Option Value) (h' : ax_H), oc = .returned (v.map (ax_v g)) ∧ Ret v h' ∧ ax_P g h' t.heap) ∧ va_F (ax_A g) st t
def ax_W (g : ax_G) (nL d mc ms : Nat) (p : Program) (e : Env) (s : State) (m : MethodId) (args : Array Value) (below : List Frame) (meth : Method) (c : Code) (Ret : Option Value → ax_H → Prop) : ax_S → Prop := fun σ => ∀ (H : Heap) (locs : List Loc) (ls : Array Slot), ax_P g σ.2.2.2.1 H → va_S (ax_A g) s.heap H locs → ax_lr g ls nL σ.2.1 → W p g.1 e (ax_rm d mc ms) s m args below meth c H locs σ.2.2.2.2.1 σ.2.2.2.2.2 (MQ below (ax_Q g Ret) args s mc ms (ax_A g)) (F0 m σ.1 ls (σ.2.2.1.map (ax_v g)))
/-- an operation is sound at a place of a code -/
def ax_ok (g : ax_G) (cc : ByteArray) (nL : Nat) (ret : Option FieldType) (own nm : String) (d mc ms pc : Nat) (o : ax_O) : Prop := ∀ (p : Program) (e : Env) (s : State) (m : MethodId) (args : Array Value) (below : List Frame) (meth : Method) (c : Code), ax_V g cc nL ret own nm p s m args meth c → ∀ (Ret : Option Value → ax_H → Prop) (L : List (Option Value)) (st : List Value) (h : ax_H) (u1 u2 : Nat) (K : ax_S → Prop), o Ret (pc, L, st, h, u1, u2) K → (∀ σ, K σ → ax_W g nL d mc ms p e s m args below meth c Ret σ) → ax_W g nL d mc ms p e s m args below meth c Ret (pc, L, st, h, u1, u2)
def ao_no : ax_O := fun _ _ _ => False
variable {g : ax_G} {cc : ByteArray} {nL : Nat} {ret : Option FieldType} {own nm : String} {d mc ms pc : Nat}
theorem ak_no : ax_ok g cc nL ret own nm d mc ms pc ao_no := fun _ _ _ _ _ _ _ _ _ _ _ _ _ _ _ _ ho => ho.elim

def ao_iadd : ax_O := fun _ σ K => match σ with
  | (pc, L, st, h, u1, u2) => match st with
    | .int y :: .int x :: r => K (pc + 1, L, .int (x + y) :: r, h, u1, u2)
    | _ => False
theorem ak_iadd (hd : decode cc pc = .ok (.iadd, 1)) : ax_ok g cc nL ret own nm d mc ms pc (ao_iadd) := by
  intro p e s m args below meth c V Ret L st h u1 u2 K ho hK H locs ls hP hS hl
  dsimp only [ao_iadd] at ho
  split at ho
  · exact lv_iadd V.1 V.2.1 hd (hK _ ho H locs ls hP hS hl)
  · exact ho.elim
def ao_isub : ax_O := fun _ σ K => match σ with
  | (pc, L, st, h, u1, u2) => match st with
    | .int y :: .int x :: r => K (pc + 1, L, .int (x - y) :: r, h, u1, u2)
    | _ => False
theorem ak_isub (hd : decode cc pc = .ok (.isub, 1)) : ax_ok g cc nL ret own nm d mc ms pc (ao_isub) := by
  intro p e s m args below meth c V Ret L st h u1 u2 K ho hK H locs ls hP hS hl
  dsimp only [ao_isub] at ho
  split at ho
  · exact lv_isub V.1 V.2.1 hd (hK _ ho H locs ls hP hS hl)
  · exact ho.elim
def ao_imul : ax_O := fun _ σ K => match σ with
  | (pc, L, st, h, u1, u2) => match st with
    | .int y :: .int x :: r => K (pc + 1, L, .int (x * y) :: r, h, u1, u2)
    | _ => False
theorem ak_imul (hd : decode cc pc = .ok (.imul, 1)) : ax_ok g cc nL ret own nm d mc ms pc (ao_imul) := by
  intro p e s m args below meth c V Ret L st h u1 u2 K ho hK H locs ls hP hS hl
  dsimp only [ao_imul] at ho
  split at ho
  · exact lv_imul V.1 V.2.1 hd (hK _ ho H locs ls hP hS hl)
  · exact ho.elim
def ao_iand : ax_O := fun _ σ K => match σ with
  | (pc, L, st, h, u1, u2) => match st with
    | .int y :: .int x :: r => K (pc + 1, L, .int (x &&& y) :: r, h, u1, u2)
    | _ => False
theorem ak_iand (hd : decode cc pc = .ok (.iand, 1)) : ax_ok g cc nL ret own nm d mc ms pc (ao_iand) := by
  intro p e s m args below meth c V Ret L st h u1 u2 K ho hK H locs ls hP hS hl
  dsimp only [ao_iand] at ho
  split at ho
  · exact lv_iand V.1 V.2.1 hd (hK _ ho H locs ls hP hS hl)
  · exact ho.elim
def ao_ior : ax_O := fun _ σ K => match σ with
  | (pc, L, st, h, u1, u2) => match st with
    | .int y :: .int x :: r => K (pc + 1, L, .int (x ||| y) :: r, h, u1, u2)
    | _ => False
theorem ak_ior (hd : decode cc pc = .ok (.ior, 1)) : ax_ok g cc nL ret own nm d mc ms pc (ao_ior) := by
  intro p e s m args below meth c V Ret L st h u1 u2 K ho hK H locs ls hP hS hl
  dsimp only [ao_ior] at ho
  split at ho
  · exact lv_ior V.1 V.2.1 hd (hK _ ho H locs ls hP hS hl)
  · exact ho.elim
def ao_ixor : ax_O := fun _ σ K => match σ with
  | (pc, L, st, h, u1, u2) => match st with
    | .int y :: .int x :: r => K (pc + 1, L, .int (x ^^^ y) :: r, h, u1, u2)
    | _ => False
theorem ak_ixor (hd : decode cc pc = .ok (.ixor, 1)) : ax_ok g cc nL ret own nm d mc ms pc (ao_ixor) := by
  intro p e s m args below meth c V Ret L st h u1 u2 K ho hK H locs ls hP hS hl
  dsimp only [ao_ixor] at ho
  split at ho
  · exact lv_ixor V.1 V.2.1 hd (hK _ ho H locs ls hP hS hl)
  · exact ho.elim
def ao_ishl : ax_O := fun _ σ K => match σ with
  | (pc, L, st, h, u1, u2) => match st with
    | .int y :: .int x :: r => K (pc + 1, L, .int (x <<< (y &&& 31)) :: r, h, u1, u2)
    | _ => False
theorem ak_ishl (hd : decode cc pc = .ok (.ishl, 1)) : ax_ok g cc nL ret own nm d mc ms pc (ao_ishl) := by
  intro p e s m args below meth c V Ret L st h u1 u2 K ho hK H locs ls hP hS hl
  dsimp only [ao_ishl] at ho
  split at ho
  · exact lv_ishl V.1 V.2.1 hd (hK _ ho H locs ls hP hS hl)
  · exact ho.elim
def ao_ishr : ax_O := fun _ σ K => match σ with
  | (pc, L, st, h, u1, u2) => match st with
    | .int y :: .int x :: r => K (pc + 1, L, .int (x >>> (y &&& 31)) :: r, h, u1, u2)
    | _ => False
theorem ak_ishr (hd : decode cc pc = .ok (.ishr, 1)) : ax_ok g cc nL ret own nm d mc ms pc (ao_ishr) := by
  intro p e s m args below meth c V Ret L st h u1 u2 K ho hK H locs ls hP hS hl
  dsimp only [ao_ishr] at ho
  split at ho
  · exact lv_ishr V.1 V.2.1 hd (hK _ ho H locs ls hP hS hl)
  · exact ho.elim
def ao_iushr : ax_O := fun _ σ K => match σ with
  | (pc, L, st, h, u1, u2) => match st with
    | .int y :: .int x :: r => K (pc + 1, L, .int ((x.toUInt32 >>> (y.toUInt32 &&& Int32.toUInt32 31)).toInt32) :: r, h, u1, u2)
    | _ => False
theorem ak_iushr (hd : decode cc pc = .ok (.iushr, 1)) : ax_ok g cc nL ret own nm d mc ms pc (ao_iushr) := by
  intro p e s m args below meth c V Ret L st h u1 u2 K ho hK H locs ls hP hS hl
  dsimp only [ao_iushr] at ho
  split at ho
  · exact lv_iushr V.1 V.2.1 hd rfl (hK _ ho H locs ls hP hS hl)
  · exact ho.elim
def ao_idiv : ax_O := fun _ σ K => match σ with
  | (pc, L, st, h, u1, u2) => match st with
    | .int y :: .int x :: r => (¬ y = 0) ∧ K (pc + 1, L, .int (x / y) :: r, h, u1, u2)
    | _ => False
theorem ak_idiv (hd : decode cc pc = .ok (.idiv, 1)) : ax_ok g cc nL ret own nm d mc ms pc (ao_idiv) := by
  intro p e s m args below meth c V Ret L st h u1 u2 K ho hK H locs ls hP hS hl
  dsimp only [ao_idiv] at ho
  split at ho
  · exact lv_idiv V.1 V.2.1 hd ho.1 (hK _ ho.2 H locs ls hP hS hl)
  · exact ho.elim
def ao_irem : ax_O := fun _ σ K => match σ with
  | (pc, L, st, h, u1, u2) => match st with
    | .int y :: .int x :: r => (¬ y = 0) ∧ K (pc + 1, L, .int (x - x / y * y) :: r, h, u1, u2)
    | _ => False
theorem ak_irem (hd : decode cc pc = .ok (.irem, 1)) : ax_ok g cc nL ret own nm d mc ms pc (ao_irem) := by
  intro p e s m args below meth c V Ret L st h u1 u2 K ho hK H locs ls hP hS hl
  dsimp only [ao_irem] at ho
  split at ho
  · exact lv_irem V.1 V.2.1 hd ho.1 (hK _ ho.2 H locs ls hP hS hl)
  · exact ho.elim
def ao_ladd : ax_O := fun _ σ K => match σ with
  | (pc, L, st, h, u1, u2) => match st with
    | .long y :: .long x :: r => K (pc + 1, L, .long (x + y) :: r, h, u1, u2)
    | _ => False
theorem ak_ladd (hd : decode cc pc = .ok (.ladd, 1)) : ax_ok g cc nL ret own nm d mc ms pc (ao_ladd) := by
  intro p e s m args below meth c V Ret L st h u1 u2 K ho hK H locs ls hP hS hl
  dsimp only [ao_ladd] at ho
  split at ho
  · exact lv_ladd V.1 V.2.1 hd (hK _ ho H locs ls hP hS hl)
  · exact ho.elim
def ao_lsub : ax_O := fun _ σ K => match σ with
  | (pc, L, st, h, u1, u2) => match st with
    | .long y :: .long x :: r => K (pc + 1, L, .long (x - y) :: r, h, u1, u2)
    | _ => False
theorem ak_lsub (hd : decode cc pc = .ok (.lsub, 1)) : ax_ok g cc nL ret own nm d mc ms pc (ao_lsub) := by
  intro p e s m args below meth c V Ret L st h u1 u2 K ho hK H locs ls hP hS hl
  dsimp only [ao_lsub] at ho
  split at ho
  · exact lv_lsub V.1 V.2.1 hd (hK _ ho H locs ls hP hS hl)
  · exact ho.elim
def ao_lmul : ax_O := fun _ σ K => match σ with
  | (pc, L, st, h, u1, u2) => match st with
    | .long y :: .long x :: r => K (pc + 1, L, .long (x * y) :: r, h, u1, u2)
    | _ => False
theorem ak_lmul (hd : decode cc pc = .ok (.lmul, 1)) : ax_ok g cc nL ret own nm d mc ms pc (ao_lmul) := by
  intro p e s m args below meth c V Ret L st h u1 u2 K ho hK H locs ls hP hS hl
  dsimp only [ao_lmul] at ho
  split at ho
  · exact lv_lmul V.1 V.2.1 hd (hK _ ho H locs ls hP hS hl)
  · exact ho.elim
def ao_lor : ax_O := fun _ σ K => match σ with
  | (pc, L, st, h, u1, u2) => match st with
    | .long y :: .long x :: r => K (pc + 1, L, .long (x ||| y) :: r, h, u1, u2)
    | _ => False
theorem ak_lor (hd : decode cc pc = .ok (.lor, 1)) : ax_ok g cc nL ret own nm d mc ms pc (ao_lor) := by
  intro p e s m args below meth c V Ret L st h u1 u2 K ho hK H locs ls hP hS hl
  dsimp only [ao_lor] at ho
  split at ho
  · exact lv_lor V.1 V.2.1 hd (hK _ ho H locs ls hP hS hl)
  · exact ho.elim
def ao_ldiv : ax_O := fun _ σ K => match σ with
  | (pc, L, st, h, u1, u2) => match st with
    | .long y :: .long x :: r => (¬ y = 0) ∧ K (pc + 1, L, .long (x / y) :: r, h, u1, u2)
    | _ => False
theorem ak_ldiv (hd : decode cc pc = .ok (.ldiv, 1)) : ax_ok g cc nL ret own nm d mc ms pc (ao_ldiv) := by
  intro p e s m args below meth c V Ret L st h u1 u2 K ho hK H locs ls hP hS hl
  dsimp only [ao_ldiv] at ho
  split at ho
  · exact lv_ldiv V.1 V.2.1 hd ho.1 (hK _ ho.2 H locs ls hP hS hl)
  · exact ho.elim
def ao_lrem : ax_O := fun _ σ K => match σ with
  | (pc, L, st, h, u1, u2) => match st with
    | .long y :: .long x :: r => (¬ y = 0) ∧ K (pc + 1, L, .long (x - x / y * y) :: r, h, u1, u2)
    | _ => False
theorem ak_lrem (hd : decode cc pc = .ok (.lrem, 1)) : ax_ok g cc nL ret own nm d mc ms pc (ao_lrem) := by
  intro p e s m args below meth c V Ret L st h u1 u2 K ho hK H locs ls hP hS hl
  dsimp only [ao_lrem] at ho
  split at ho
  · exact lv_lrem V.1 V.2.1 hd ho.1 (hK _ ho.2 H locs ls hP hS hl)
  · exact ho.elim
def ao_lcmp : ax_O := fun _ σ K => match σ with
  | (pc, L, st, h, u1, u2) => match st with
    | .long y :: .long x :: r => K (pc + 1, L, .int (lg_cmp x y) :: r, h, u1, u2)
    | _ => False
theorem ak_lcmp (hd : decode cc pc = .ok (.lcmp, 1)) : ax_ok g cc nL ret own nm d mc ms pc (ao_lcmp) := by
  intro p e s m args below meth c V Ret L st h u1 u2 K ho hK H locs ls hP hS hl
  dsimp only [ao_lcmp] at ho
  split at ho
  · exact W.lcmp V.1 V.2.1 hd (hK _ ho H locs ls hP hS hl)
  · exact ho.elim
def ao_lshl : ax_O := fun _ σ K => match σ with
  | (pc, L, st, h, u1, u2) => match st with
    | .int y :: .long x :: r => K (pc + 1, L, .long (x <<< (y.toInt64 &&& 63)) :: r, h, u1, u2)
    | _ => False
theorem ak_lshl (hd : decode cc pc = .ok (.lshl, 1)) : ax_ok g cc nL ret own nm d mc ms pc (ao_lshl) := by
  intro p e s m args below meth c V Ret L st h u1 u2 K ho hK H locs ls hP hS hl
  dsimp only [ao_lshl] at ho
  split at ho
  · exact lv_lshl V.1 V.2.1 hd rfl (hK _ ho H locs ls hP hS hl)
  · exact ho.elim
def ao_lshr : ax_O := fun _ σ K => match σ with
  | (pc, L, st, h, u1, u2) => match st with
    | .int y :: .long x :: r => K (pc + 1, L, .long (x >>> (y.toInt64 &&& 63)) :: r, h, u1, u2)
    | _ => False
theorem ak_lshr (hd : decode cc pc = .ok (.lshr, 1)) : ax_ok g cc nL ret own nm d mc ms pc (ao_lshr) := by
  intro p e s m args below meth c V Ret L st h u1 u2 K ho hK H locs ls hP hS hl
  dsimp only [ao_lshr] at ho
  split at ho
  · exact lv_lshr V.1 V.2.1 hd rfl (hK _ ho H locs ls hP hS hl)
  · exact ho.elim
def ao_ineg : ax_O := fun _ σ K => match σ with
  | (pc, L, st, h, u1, u2) => match st with
    | .int x :: r => K (pc + 1, L, .int (-x) :: r, h, u1, u2)
    | _ => False
theorem ak_ineg (hd : decode cc pc = .ok (.ineg, 1)) : ax_ok g cc nL ret own nm d mc ms pc (ao_ineg) := by
  intro p e s m args below meth c V Ret L st h u1 u2 K ho hK H locs ls hP hS hl
  dsimp only [ao_ineg] at ho
  split at ho
  · exact lv_ineg V.1 V.2.1 hd (hK _ ho H locs ls hP hS hl)
  · exact ho.elim
def ao_lneg : ax_O := fun _ σ K => match σ with
  | (pc, L, st, h, u1, u2) => match st with
    | .long x :: r => K (pc + 1, L, .long (-x) :: r, h, u1, u2)
    | _ => False
theorem ak_lneg (hd : decode cc pc = .ok (.lneg, 1)) : ax_ok g cc nL ret own nm d mc ms pc (ao_lneg) := by
  intro p e s m args below meth c V Ret L st h u1 u2 K ho hK H locs ls hP hS hl
  dsimp only [ao_lneg] at ho
  split at ho
  · exact lv_lneg V.1 V.2.1 hd (hK _ ho H locs ls hP hS hl)
  · exact ho.elim
def ao_i2l : ax_O := fun _ σ K => match σ with
  | (pc, L, st, h, u1, u2) => match st with
    | .int x :: r => K (pc + 1, L, .long x.toInt64 :: r, h, u1, u2)
    | _ => False
theorem ak_i2l (hd : decode cc pc = .ok (.i2l, 1)) : ax_ok g cc nL ret own nm d mc ms pc (ao_i2l) := by
  intro p e s m args below meth c V Ret L st h u1 u2 K ho hK H locs ls hP hS hl
  dsimp only [ao_i2l] at ho
  split at ho
  · exact lv_i2l V.1 V.2.1 hd rfl (hK _ ho H locs ls hP hS hl)
  · exact ho.elim
def ao_l2i : ax_O := fun _ σ K => match σ with
  | (pc, L, st, h, u1, u2) => match st with
    | .long x :: r => K (pc + 1, L, .int x.toInt32 :: r, h, u1, u2)
    | _ => False
theorem ak_l2i (hd : decode cc pc = .ok (.l2i, 1)) : ax_ok g cc nL ret own nm d mc ms pc (ao_l2i) := by
  intro p e s m args below meth c V Ret L st h u1 u2 K ho hK H locs ls hP hS hl
  dsimp only [ao_l2i] at ho
  split at ho
  · exact lv_l2i V.1 V.2.1 hd rfl (hK _ ho H locs ls hP hS hl)
  · exact ho.elim
def ao_i2b : ax_O := fun _ σ K => match σ with
  | (pc, L, st, h, u1, u2) => match st with
    | .int x :: r => K (pc + 1, L, .int x.toInt8.toInt32 :: r, h, u1, u2)
    | _ => False
theorem ak_i2b (hd : decode cc pc = .ok (.i2b, 1)) : ax_ok g cc nL ret own nm d mc ms pc (ao_i2b) := by
  intro p e s m args below meth c V Ret L st h u1 u2 K ho hK H locs ls hP hS hl
  dsimp only [ao_i2b] at ho
  split at ho
  · exact lv_i2b V.1 V.2.1 hd rfl (hK _ ho H locs ls hP hS hl)
  · exact ho.elim
def ao_i2c : ax_O := fun _ σ K => match σ with
  | (pc, L, st, h, u1, u2) => match st with
    | .int x :: r => K (pc + 1, L, .int (x.toUInt32 % 65536).toInt32 :: r, h, u1, u2)
    | _ => False
theorem ak_i2c (hd : decode cc pc = .ok (.i2c, 1)) : ax_ok g cc nL ret own nm d mc ms pc (ao_i2c) := by
  intro p e s m args below meth c V Ret L st h u1 u2 K ho hK H locs ls hP hS hl
  dsimp only [ao_i2c] at ho
  split at ho
  · exact lv_i2c V.1 V.2.1 hd rfl (hK _ ho H locs ls hP hS hl)
  · exact ho.elim
def ao_dup : ax_O := fun _ σ K => match σ with
  | (pc, L, st, h, u1, u2) => match st with
    | v :: r => v.category = 1 ∧ K (pc + 1, L, v :: v :: r, h, u1, u2)
    | _ => False
theorem ak_dup (hd : decode cc pc = .ok (.dup, 1)) : ax_ok g cc nL ret own nm d mc ms pc (ao_dup) := by
  intro p e s m args below meth c V Ret L st h u1 u2 K ho hK H locs ls hP hS hl
  dsimp only [ao_dup] at ho
  split at ho
  · exact lv_dup V.1 V.2.1 hd ((ax_v_cat g _).trans ho.1) (hK _ ho.2 H locs ls hP hS hl)
  · exact ho.elim
def ao_pop : ax_O := fun _ σ K => match σ with
  | (pc, L, st, h, u1, u2) => match st with
    | v :: r => v.category = 1 ∧ K (pc + 1, L, r, h, u1, u2)
    | _ => False
theorem ak_pop (hd : decode cc pc = .ok (.pop, 1)) : ax_ok g cc nL ret own nm d mc ms pc (ao_pop) := by
  intro p e s m args below meth c V Ret L st h u1 u2 K ho hK H locs ls hP hS hl
  dsimp only [ao_pop] at ho
  split at ho
  · exact lv_pop V.1 V.2.1 hd ((ax_v_cat g _).trans ho.1) (hK _ ho.2 H locs ls hP hS hl)
  · exact ho.elim
def ao_pop2 : ax_O := fun _ σ K => match σ with
  | (pc, L, st, h, u1, u2) => match st with
    | v :: r => v.category = 2 ∧ K (pc + 1, L, r, h, u1, u2)
    | _ => False
theorem ak_pop2 (hd : decode cc pc = .ok (.pop2, 1)) : ax_ok g cc nL ret own nm d mc ms pc (ao_pop2) := by
  intro p e s m args below meth c V Ret L st h u1 u2 K ho hK H locs ls hP hS hl
  dsimp only [ao_pop2] at ho
  split at ho
  · exact lv_pop2_2 V.1 V.2.1 hd ((ax_v_cat g _).trans ho.1) (hK _ ho.2 H locs ls hP hS hl)
  · exact ho.elim
def ao_dup2 : ax_O := fun _ σ K => match σ with
  | (pc, L, st, h, u1, u2) => match st with
    | v :: w :: r => (v.category = 1 ∧ w.category = 1) ∧ K (pc + 1, L, v :: w :: v :: w :: r, h, u1, u2)
    | _ => False
theorem ak_dup2 (hd : decode cc pc = .ok (.dup2, 1)) : ax_ok g cc nL ret own nm d mc ms pc (ao_dup2) := by
  intro p e s m args below meth c V Ret L st h u1 u2 K ho hK H locs ls hP hS hl
  dsimp only [ao_dup2] at ho
  split at ho
  · exact lv_dup2_11 V.1 V.2.1 hd ((ax_v_cat g _).trans ho.1.1) ((ax_v_cat g _).trans ho.1.2) (hK _ ho.2 H locs ls hP hS hl)
  · exact ho.elim
def ao_ic (v : Int32) (len : Nat) : ax_O := fun _ σ K => match σ with
  | (pc, L, st, h, u1, u2) => K (pc + len, L, .int v :: st, h, u1, u2)
def ao_lc (v : Int64) (len : Nat) : ax_O := fun _ σ K => match σ with
  | (pc, L, st, h, u1, u2) => K (pc + len, L, .long v :: st, h, u1, u2)
def ao_null : ax_O := fun _ σ K => match σ with
  | (pc, L, st, h, u1, u2) => K (pc + 1, L, .null :: st, h, u1, u2)
theorem ak_iconst {n : Int} {v : Int32} (hv : Int32.ofInt n = v) (hd : decode cc pc = .ok (.iconst n, 1)) : ax_ok g cc nL ret own nm d mc ms pc (ao_ic v 1) := by
  intro p e s m args below meth c V Ret L st h u1 u2 K ho hK H locs ls hP hS hl
  dsimp only [ao_ic] at ho
  exact lv_iconst V.1 V.2.1 hd hv (hK _ ho H locs ls hP hS hl)
theorem ak_bipush {n : Int} {v : Int32} (hv : (Int8.ofInt n).toInt32 = v) (hd : decode cc pc = .ok (.bipush n, 2)) : ax_ok g cc nL ret own nm d mc ms pc (ao_ic v 2) := by
  intro p e s m args below meth c V Ret L st h u1 u2 K ho hK H locs ls hP hS hl
  dsimp only [ao_ic] at ho
  exact lv_bipush V.1 V.2.1 hd hv (hK _ ho H locs ls hP hS hl)
theorem ak_sipush {n : Int} {v : Int32} (hv : (Int16.ofInt n).toInt32 = v) (hd : decode cc pc = .ok (.sipush n, 3)) : ax_ok g cc nL ret own nm d mc ms pc (ao_ic v 3) := by
  intro p e s m args below meth c V Ret L st h u1 u2 K ho hK H locs ls hP hS hl
  dsimp only [ao_ic] at ho
  exact lv_sipush V.1 V.2.1 hd hv (hK _ ho H locs ls hP hS hl)
theorem ak_lconst {n : Fin 2} {v : Int64} (hv : Int64.ofNat (n : Nat) = v) (hd : decode cc pc = .ok (.lconst n, 1)) : ax_ok g cc nL ret own nm d mc ms pc (ao_lc v 1) := by
  intro p e s m args below meth c V Ret L st h u1 u2 K ho hK H locs ls hP hS hl
  dsimp only [ao_lc] at ho
  exact lv_lconst V.1 V.2.1 hd hv (hK _ ho H locs ls hP hS hl)
theorem ak_null (hd : decode cc pc = .ok (.aconst_null, 1)) : ax_ok g cc nL ret own nm d mc ms pc (ao_null) := by
  intro p e s m args below meth c V Ret L st h u1 u2 K ho hK H locs ls hP hS hl
  dsimp only [ao_null] at ho
  exact lv_null V.1 V.2.1 hd (hK _ ho H locs ls hP hS hl)
theorem ak_ldc {i : Nat} {v : Int32} (hw : Cond.constant own i v ∈ lw_gd) (hd : decode cc pc = .ok (.ldc i, 2)) : ax_ok g cc nL ret own nm d mc ms pc (ao_ic v 2) := by
  intro p e s m args below meth c V Ret L st h u1 u2 K ho hK H locs ls hP hS hl
  dsimp only [ao_ic] at ho
  exact lv_ldc V.1 V.2.1 V.2.2.2.2.2.1 (V.2.2.2.2.2.2.2.1 _ hw) hd (hK _ ho H locs ls hP hS hl)
theorem ak_ldcw {i : Nat} {v : Int32} (hw : Cond.constant own i v ∈ lw_gd) (hd : decode cc pc = .ok (.ldc_w i, 3)) : ax_ok g cc nL ret own nm d mc ms pc (ao_ic v 3) := by
  intro p e s m args below meth c V Ret L st h u1 u2 K ho hK H locs ls hP hS hl
  dsimp only [ao_ic] at ho
  exact lv_ldcw V.1 V.2.1 V.2.2.2.2.2.1 (V.2.2.2.2.2.2.2.1 _ hw) hd (hK _ ho H locs ls hP hS hl)
theorem ak_ldc2 {i : Nat} {v : Int64} (hw : Cond.constantLong own i v ∈ lw_gd) (hd : decode cc pc = .ok (.ldc2_w i, 3)) : ax_ok g cc nL ret own nm d mc ms pc (ao_lc v 3) := by
  intro p e s m args below meth c V Ret L st h u1 u2 K ho hK H locs ls hP hS hl
  dsimp only [ao_lc] at ho
  exact lv_ldc2 V.1 V.2.1 V.2.2.2.2.2.1 (V.2.2.2.2.2.2.2.1 _ hw) hd (hK _ ho H locs ls hP hS hl)
def ao_il (i len : Nat) : ax_O := fun _ σ K => match σ with
  | (pc, L, st, h, u1, u2) => match ax_g L i with
    | some (.int x) => K (pc + len, L, .int x :: st, h, u1, u2)
    | _ => False
theorem ak_iload_n {k : Fin 4} {i : Nat} (hi : (k : Nat) = i) (hd : decode cc pc = .ok (.iload_n k, 1)) : ax_ok g cc nL ret own nm d mc ms pc (ao_il i 1) := by
  intro p e s m args below meth c V Ret L st h u1 u2 K ho hK H locs ls hP hS hl
  dsimp only [ao_il] at ho
  split at ho
  · rename_i hg
    exact lv_iload_n V.1 V.2.1 hd hi (ax_lr_get hl hg) (hK _ ho H locs ls hP hS hl)
  · exact ho.elim
theorem ak_iload {i : Nat} (hd : decode cc pc = .ok (.iload i, 2)) : ax_ok g cc nL ret own nm d mc ms pc (ao_il i 2) := by
  intro p e s m args below meth c V Ret L st h u1 u2 K ho hK H locs ls hP hS hl
  dsimp only [ao_il] at ho
  split at ho
  · rename_i hg
    exact lv_iload V.1 V.2.1 hd (ax_lr_get hl hg) (hK _ ho H locs ls hP hS hl)
  · exact ho.elim
def ao_ll (i len : Nat) : ax_O := fun _ σ K => match σ with
  | (pc, L, st, h, u1, u2) => match ax_g L i with
    | some (.long x) => K (pc + len, L, .long x :: st, h, u1, u2)
    | _ => False
theorem ak_lload_n {k : Fin 4} {i : Nat} (hi : (k : Nat) = i) (hd : decode cc pc = .ok (.lload_n k, 1)) : ax_ok g cc nL ret own nm d mc ms pc (ao_ll i 1) := by
  intro p e s m args below meth c V Ret L st h u1 u2 K ho hK H locs ls hP hS hl
  dsimp only [ao_ll] at ho
  split at ho
  · rename_i hg
    exact lv_lload_n V.1 V.2.1 hd hi (ax_lr_get hl hg) (hK _ ho H locs ls hP hS hl)
  · exact ho.elim
theorem ak_lload {i : Nat} (hd : decode cc pc = .ok (.lload i, 2)) : ax_ok g cc nL ret own nm d mc ms pc (ao_ll i 2) := by
  intro p e s m args below meth c V Ret L st h u1 u2 K ho hK H locs ls hP hS hl
  dsimp only [ao_ll] at ho
  split at ho
  · rename_i hg
    exact lv_lload V.1 V.2.1 hd (ax_lr_get hl hg) (hK _ ho H locs ls hP hS hl)
  · exact ho.elim
def ao_al (i len : Nat) : ax_O := fun _ σ K => match σ with
  | (pc, L, st, h, u1, u2) => match ax_g L i with
    | some (.ref x) => K (pc + len, L, .ref x :: st, h, u1, u2)
    | some .null => K (pc + len, L, .null :: st, h, u1, u2)
    | _ => False
theorem ak_aload_n {k : Fin 4} {i : Nat} (hi : (k : Nat) = i) (hd : decode cc pc = .ok (.aload_n k, 1)) : ax_ok g cc nL ret own nm d mc ms pc (ao_al i 1) := by
  intro p e s m args below meth c V Ret L st h u1 u2 K ho hK H locs ls hP hS hl
  dsimp only [ao_al] at ho
  split at ho
  · rename_i hg
    exact lv_aload_n V.1 V.2.1 hd hi (ax_lr_get hl hg) (hK _ ho H locs ls hP hS hl)
  · rename_i hg
    exact lv_aload_nN V.1 V.2.1 hd hi (ax_lr_get hl hg) (hK _ ho H locs ls hP hS hl)
  · exact ho.elim
theorem ak_aload {i : Nat} (hd : decode cc pc = .ok (.aload i, 2)) : ax_ok g cc nL ret own nm d mc ms pc (ao_al i 2) := by
  intro p e s m args below meth c V Ret L st h u1 u2 K ho hK H locs ls hP hS hl
  dsimp only [ao_al] at ho
  split at ho
  · rename_i hg
    exact lv_aload V.1 V.2.1 hd (ax_lr_get hl hg) (hK _ ho H locs ls hP hS hl)
  · rename_i hg
    exact lv_aloadN V.1 V.2.1 hd (ax_lr_get hl hg) (hK _ ho H locs ls hP hS hl)
  · exact ho.elim
def ao_is (i len : Nat) : ax_O := fun _ σ K => match σ with
  | (pc, L, st, h, u1, u2) => match st with
    | .int x :: r => K (pc + len, ax_st L i (.int x), r, h, u1, u2)
    | _ => False
theorem ak_istore_n {k : Fin 4} {i : Nat} (hi : (k : Nat) = i) (hn : i < nL) (hd : decode cc pc = .ok (.istore_n k, 1)) : ax_ok g cc nL ret own nm d mc ms pc (ao_is i 1) := by
  intro p e s m args below meth c V Ret L st h u1 u2 K ho hK H locs ls hP hS hl
  dsimp only [ao_is] at ho
  split at ho
  · exact lv_istore_n V.1 V.2.1 hd hi hl hn rfl (fun ls' hl' => hK _ ho H locs ls' hP hS (ax_lr_st hl'))
  · exact ho.elim
theorem ak_istore {i : Nat} (hn : i < nL) (hd : decode cc pc = .ok (.istore i, 2)) : ax_ok g cc nL ret own nm d mc ms pc (ao_is i 2) := by
  intro p e s m args below meth c V Ret L st h u1 u2 K ho hK H locs ls hP hS hl
  dsimp only [ao_is] at ho
  split at ho
  · exact lv_istore V.1 V.2.1 hd hl hn rfl (fun ls' hl' => hK _ ho H locs ls' hP hS (ax_lr_st hl'))
  · exact ho.elim
def ao_ls (i len : Nat) : ax_O := fun _ σ K => match σ with
  | (pc, L, st, h, u1, u2) => match st with
    | .long x :: r => K (pc + len, ax_st2 L i (.long x), r, h, u1, u2)
    | _ => False
theorem ak_lstore_n {k : Fin 4} {i : Nat} (hi : (k : Nat) = i) (hn : i + 1 < nL) (hd : decode cc pc = .ok (.lstore_n k, 1)) : ax_ok g cc nL ret own nm d mc ms pc (ao_ls i 1) := by
  intro p e s m args below meth c V Ret L st h u1 u2 K ho hK H locs ls hP hS hl
  dsimp only [ao_ls] at ho
  split at ho
  · exact lv_lstore_n V.1 V.2.1 hd hi hl hn rfl (fun ls' hl' => hK _ ho H locs ls' hP hS (ax_lr_st2 hl'))
  · exact ho.elim
theorem ak_lstore {i : Nat} (hn : i + 1 < nL) (hd : decode cc pc = .ok (.lstore i, 2)) : ax_ok g cc nL ret own nm d mc ms pc (ao_ls i 2) := by
  intro p e s m args below meth c V Ret L st h u1 u2 K ho hK H locs ls hP hS hl
  dsimp only [ao_ls] at ho
  split at ho
  · exact lv_lstore V.1 V.2.1 hd hl hn rfl (fun ls' hl' => hK _ ho H locs ls' hP hS (ax_lr_st2 hl'))
  · exact ho.elim
def ao_as (i len : Nat) : ax_O := fun _ σ K => match σ with
  | (pc, L, st, h, u1, u2) => match st with
    | .ref x :: r => K (pc + len, ax_st L i (.ref x), r, h, u1, u2)
    | .null :: r => K (pc + len, ax_st L i .null, r, h, u1, u2)
    | _ => False
theorem ak_astore_n {k : Fin 4} {i : Nat} (hi : (k : Nat) = i) (hn : i < nL) (hd : decode cc pc = .ok (.astore_n k, 1)) : ax_ok g cc nL ret own nm d mc ms pc (ao_as i 1) := by
  intro p e s m args below meth c V Ret L st h u1 u2 K ho hK H locs ls hP hS hl
  dsimp only [ao_as] at ho
  split at ho
  · exact lv_astore_n V.1 V.2.1 hd hi hl hn rfl (fun ls' hl' => hK _ ho H locs ls' hP hS (ax_lr_st hl'))
  · exact lv_astore_nN V.1 V.2.1 hd hi hl hn rfl (fun ls' hl' => hK _ ho H locs ls' hP hS (ax_lr_st hl'))
  · exact ho.elim
theorem ak_astore {i : Nat} (hn : i < nL) (hd : decode cc pc = .ok (.astore i, 2)) : ax_ok g cc nL ret own nm d mc ms pc (ao_as i 2) := by
  intro p e s m args below meth c V Ret L st h u1 u2 K ho hK H locs ls hP hS hl
  dsimp only [ao_as] at ho
  split at ho
  · exact lv_astore V.1 V.2.1 hd hl hn rfl (fun ls' hl' => hK _ ho H locs ls' hP hS (ax_lr_st hl'))
  · exact lv_astoreN V.1 V.2.1 hd hl hn rfl (fun ls' hl' => hK _ ho H locs ls' hP hS (ax_lr_st hl'))
  · exact ho.elim
def ao_iinc (i : Nat) (v : Int32) : ax_O := fun _ σ K => match σ with
  | (pc, L, st, h, u1, u2) => match ax_g L i with
    | some (.int x) => K (pc + 3, ax_st L i (.int (x + v)), st, h, u1, u2)
    | _ => False
theorem ak_iinc {i : Nat} {n : Int} {v : Int32} (hv : Int32.ofInt n = v) (hn : i < nL) (hd : decode cc pc = .ok (.iinc i n, 3)) : ax_ok g cc nL ret own nm d mc ms pc (ao_iinc i v) := by
  intro p e s m args below meth c V Ret L st h u1 u2 K ho hK H locs ls hP hS hl
  dsimp only [ao_iinc] at ho
  subst hv
  split at ho
  · rename_i x hg
    have hm : (i, Value.int x) ∈ ax_as 0 (L.map (Option.map (ax_v g))) := (ax_as_mem _ _ _ _).mpr ⟨Nat.zero_le _, by rw [Nat.sub_zero, List.getElem?_map, ax_g_get _ _ _ hg]; rfl⟩
    obtain ⟨k, hk⟩ := List.getElem?_of_mem hm
    exact lv_iinc V.1 V.2.1 hd hl hk rfl hn rfl (fun ls' hl' => hK _ ho H locs ls' hP hS (ax_lr_st (v := .int (x + Int32.ofInt n)) hl'))
  · exact ho.elim
def ao_if_eq (tgt : Nat) : ax_O := fun _ σ K => match σ with
  | (pc, L, st, h, u1, u2) => match st with
    | .int x :: r => ((x = 0) → K (tgt, L, r, h, u1, u2)) ∧ ((¬ (x = 0)) → K (pc + 3, L, r, h, u1, u2))
    | _ => False
theorem ak_if_eq {off : Int} {tgt : Nat} (ht : (pc : Int) + off = (tgt : Int)) (hd : decode cc pc = .ok (.ifCond .eq off, 3)) : ax_ok g cc nL ret own nm d mc ms pc (ao_if_eq tgt) := by
  intro p e s m args below meth c V Ret L st h u1 u2 K ho hK H locs ls hP hS hl
  dsimp only [ao_if_eq] at ho
  split at ho
  · exact lv_if_eq V.1 V.2.1 hd ht (fun q => hK _ (ho.1 q) H locs ls hP hS hl) (fun q => hK _ (ho.2 q) H locs ls hP hS hl)
  · exact ho.elim
def ao_icmp_eq (tgt : Nat) : ax_O := fun _ σ K => match σ with
  | (pc, L, st, h, u1, u2) => match st with
    | .int y :: .int x :: r => ((x = y) → K (tgt, L, r, h, u1, u2)) ∧ ((¬ (x = y)) → K (pc + 3, L, r, h, u1, u2))
    | _ => False
theorem ak_icmp_eq {off : Int} {tgt : Nat} (ht : (pc : Int) + off = (tgt : Int)) (hd : decode cc pc = .ok (.if_icmp .eq off, 3)) : ax_ok g cc nL ret own nm d mc ms pc (ao_icmp_eq tgt) := by
  intro p e s m args below meth c V Ret L st h u1 u2 K ho hK H locs ls hP hS hl
  dsimp only [ao_icmp_eq] at ho
  split at ho
  · exact lv_icmp_eq V.1 V.2.1 hd ht (fun q => hK _ (ho.1 q) H locs ls hP hS hl) (fun q => hK _ (ho.2 q) H locs ls hP hS hl)
  · exact ho.elim
def ao_if_ne (tgt : Nat) : ax_O := fun _ σ K => match σ with
  | (pc, L, st, h, u1, u2) => match st with
    | .int x :: r => ((¬ x = 0) → K (tgt, L, r, h, u1, u2)) ∧ ((x = 0) → K (pc + 3, L, r, h, u1, u2))
    | _ => False
theorem ak_if_ne {off : Int} {tgt : Nat} (ht : (pc : Int) + off = (tgt : Int)) (hd : decode cc pc = .ok (.ifCond .ne off, 3)) : ax_ok g cc nL ret own nm d mc ms pc (ao_if_ne tgt) := by
  intro p e s m args below meth c V Ret L st h u1 u2 K ho hK H locs ls hP hS hl
  dsimp only [ao_if_ne] at ho
  split at ho
  · exact lv_if_ne V.1 V.2.1 hd ht (fun q => hK _ (ho.1 q) H locs ls hP hS hl) (fun q => hK _ (ho.2 q) H locs ls hP hS hl)
  · exact ho.elim
def ao_icmp_ne (tgt : Nat) : ax_O := fun _ σ K => match σ with
  | (pc, L, st, h, u1, u2) => match st with
    | .int y :: .int x :: r => ((¬ x = y) → K (tgt, L, r, h, u1, u2)) ∧ ((x = y) → K (pc + 3, L, r, h, u1, u2))
    | _ => False
theorem ak_icmp_ne {off : Int} {tgt : Nat} (ht : (pc : Int) + off = (tgt : Int)) (hd : decode cc pc = .ok (.if_icmp .ne off, 3)) : ax_ok g cc nL ret own nm d mc ms pc (ao_icmp_ne tgt) := by
  intro p e s m args below meth c V Ret L st h u1 u2 K ho hK H locs ls hP hS hl
  dsimp only [ao_icmp_ne] at ho
  split at ho
  · exact lv_icmp_ne V.1 V.2.1 hd ht (fun q => hK _ (ho.1 q) H locs ls hP hS hl) (fun q => hK _ (ho.2 q) H locs ls hP hS hl)
  · exact ho.elim
def ao_if_lt (tgt : Nat) : ax_O := fun _ σ K => match σ with
  | (pc, L, st, h, u1, u2) => match st with
    | .int x :: r => ((x < 0) → K (tgt, L, r, h, u1, u2)) ∧ ((¬ (x < 0)) → K (pc + 3, L, r, h, u1, u2))
    | _ => False
theorem ak_if_lt {off : Int} {tgt : Nat} (ht : (pc : Int) + off = (tgt : Int)) (hd : decode cc pc = .ok (.ifCond .lt off, 3)) : ax_ok g cc nL ret own nm d mc ms pc (ao_if_lt tgt) := by
  intro p e s m args below meth c V Ret L st h u1 u2 K ho hK H locs ls hP hS hl
  dsimp only [ao_if_lt] at ho
  split at ho
  · exact lv_if_lt V.1 V.2.1 hd ht (fun q => hK _ (ho.1 q) H locs ls hP hS hl) (fun q => hK _ (ho.2 q) H locs ls hP hS hl)
  · exact ho.elim
def ao_icmp_lt (tgt : Nat) : ax_O := fun _ σ K => match σ with
  | (pc, L, st, h, u1, u2) => match st with
    | .int y :: .int x :: r => ((x < y) → K (tgt, L, r, h, u1, u2)) ∧ ((¬ (x < y)) → K (pc + 3, L, r, h, u1, u2))
    | _ => False
theorem ak_icmp_lt {off : Int} {tgt : Nat} (ht : (pc : Int) + off = (tgt : Int)) (hd : decode cc pc = .ok (.if_icmp .lt off, 3)) : ax_ok g cc nL ret own nm d mc ms pc (ao_icmp_lt tgt) := by
  intro p e s m args below meth c V Ret L st h u1 u2 K ho hK H locs ls hP hS hl
  dsimp only [ao_icmp_lt] at ho
  split at ho
  · exact lv_icmp_lt V.1 V.2.1 hd ht (fun q => hK _ (ho.1 q) H locs ls hP hS hl) (fun q => hK _ (ho.2 q) H locs ls hP hS hl)
  · exact ho.elim
def ao_if_ge (tgt : Nat) : ax_O := fun _ σ K => match σ with
  | (pc, L, st, h, u1, u2) => match st with
    | .int x :: r => ((0 ≤ x) → K (tgt, L, r, h, u1, u2)) ∧ ((¬ (0 ≤ x)) → K (pc + 3, L, r, h, u1, u2))
    | _ => False
theorem ak_if_ge {off : Int} {tgt : Nat} (ht : (pc : Int) + off = (tgt : Int)) (hd : decode cc pc = .ok (.ifCond .ge off, 3)) : ax_ok g cc nL ret own nm d mc ms pc (ao_if_ge tgt) := by
  intro p e s m args below meth c V Ret L st h u1 u2 K ho hK H locs ls hP hS hl
  dsimp only [ao_if_ge] at ho
  split at ho
  · exact lv_if_ge V.1 V.2.1 hd ht (fun q => hK _ (ho.1 q) H locs ls hP hS hl) (fun q => hK _ (ho.2 q) H locs ls hP hS hl)
  · exact ho.elim
def ao_icmp_ge (tgt : Nat) : ax_O := fun _ σ K => match σ with
  | (pc, L, st, h, u1, u2) => match st with
    | .int y :: .int x :: r => ((y ≤ x) → K (tgt, L, r, h, u1, u2)) ∧ ((¬ (y ≤ x)) → K (pc + 3, L, r, h, u1, u2))
    | _ => False
theorem ak_icmp_ge {off : Int} {tgt : Nat} (ht : (pc : Int) + off = (tgt : Int)) (hd : decode cc pc = .ok (.if_icmp .ge off, 3)) : ax_ok g cc nL ret own nm d mc ms pc (ao_icmp_ge tgt) := by
  intro p e s m args below meth c V Ret L st h u1 u2 K ho hK H locs ls hP hS hl
  dsimp only [ao_icmp_ge] at ho
  split at ho
  · exact lv_icmp_ge V.1 V.2.1 hd ht (fun q => hK _ (ho.1 q) H locs ls hP hS hl) (fun q => hK _ (ho.2 q) H locs ls hP hS hl)
  · exact ho.elim
def ao_if_gt (tgt : Nat) : ax_O := fun _ σ K => match σ with
  | (pc, L, st, h, u1, u2) => match st with
    | .int x :: r => ((0 < x) → K (tgt, L, r, h, u1, u2)) ∧ ((¬ (0 < x)) → K (pc + 3, L, r, h, u1, u2))
    | _ => False
theorem ak_if_gt {off : Int} {tgt : Nat} (ht : (pc : Int) + off = (tgt : Int)) (hd : decode cc pc = .ok (.ifCond .gt off, 3)) : ax_ok g cc nL ret own nm d mc ms pc (ao_if_gt tgt) := by
  intro p e s m args below meth c V Ret L st h u1 u2 K ho hK H locs ls hP hS hl
  dsimp only [ao_if_gt] at ho
  split at ho
  · exact lv_if_gt V.1 V.2.1 hd ht (fun q => hK _ (ho.1 q) H locs ls hP hS hl) (fun q => hK _ (ho.2 q) H locs ls hP hS hl)
  · exact ho.elim
def ao_icmp_gt (tgt : Nat) : ax_O := fun _ σ K => match σ with
  | (pc, L, st, h, u1, u2) => match st with
    | .int y :: .int x :: r => ((y < x) → K (tgt, L, r, h, u1, u2)) ∧ ((¬ (y < x)) → K (pc + 3, L, r, h, u1, u2))
    | _ => False
theorem ak_icmp_gt {off : Int} {tgt : Nat} (ht : (pc : Int) + off = (tgt : Int)) (hd : decode cc pc = .ok (.if_icmp .gt off, 3)) : ax_ok g cc nL ret own nm d mc ms pc (ao_icmp_gt tgt) := by
  intro p e s m args below meth c V Ret L st h u1 u2 K ho hK H locs ls hP hS hl
  dsimp only [ao_icmp_gt] at ho
  split at ho
  · exact lv_icmp_gt V.1 V.2.1 hd ht (fun q => hK _ (ho.1 q) H locs ls hP hS hl) (fun q => hK _ (ho.2 q) H locs ls hP hS hl)
  · exact ho.elim
def ao_if_le (tgt : Nat) : ax_O := fun _ σ K => match σ with
  | (pc, L, st, h, u1, u2) => match st with
    | .int x :: r => ((x ≤ 0) → K (tgt, L, r, h, u1, u2)) ∧ ((¬ (x ≤ 0)) → K (pc + 3, L, r, h, u1, u2))
    | _ => False
theorem ak_if_le {off : Int} {tgt : Nat} (ht : (pc : Int) + off = (tgt : Int)) (hd : decode cc pc = .ok (.ifCond .le off, 3)) : ax_ok g cc nL ret own nm d mc ms pc (ao_if_le tgt) := by
  intro p e s m args below meth c V Ret L st h u1 u2 K ho hK H locs ls hP hS hl
  dsimp only [ao_if_le] at ho
  split at ho
  · exact lv_if_le V.1 V.2.1 hd ht (fun q => hK _ (ho.1 q) H locs ls hP hS hl) (fun q => hK _ (ho.2 q) H locs ls hP hS hl)
  · exact ho.elim
def ao_icmp_le (tgt : Nat) : ax_O := fun _ σ K => match σ with
  | (pc, L, st, h, u1, u2) => match st with
    | .int y :: .int x :: r => ((x ≤ y) → K (tgt, L, r, h, u1, u2)) ∧ ((¬ (x ≤ y)) → K (pc + 3, L, r, h, u1, u2))
    | _ => False
theorem ak_icmp_le {off : Int} {tgt : Nat} (ht : (pc : Int) + off = (tgt : Int)) (hd : decode cc pc = .ok (.if_icmp .le off, 3)) : ax_ok g cc nL ret own nm d mc ms pc (ao_icmp_le tgt) := by
  intro p e s m args below meth c V Ret L st h u1 u2 K ho hK H locs ls hP hS hl
  dsimp only [ao_icmp_le] at ho
  split at ho
  · exact lv_icmp_le V.1 V.2.1 hd ht (fun q => hK _ (ho.1 q) H locs ls hP hS hl) (fun q => hK _ (ho.2 q) H locs ls hP hS hl)
  · exact ho.elim
def ao_goto (tgt : Nat) : ax_O := fun _ σ K => match σ with
  | (pc, L, st, h, u1, u2) => K (tgt, L, st, h, u1, u2)
theorem ak_goto {off : Int} {tgt : Nat} (ht : (pc : Int) + off = (tgt : Int)) (hd : decode cc pc = .ok (.goto off, 3)) : ax_ok g cc nL ret own nm d mc ms pc (ao_goto tgt) := by
  intro p e s m args below meth c V Ret L st h u1 u2 K ho hK H locs ls hP hS hl
  dsimp only [ao_goto] at ho
  exact lv_goto V.1 V.2.1 hd ht (hK _ ho H locs ls hP hS hl)
def ao_ifnull (tgt : Nat) : ax_O := fun _ σ K => match σ with
  | (pc, L, st, h, u1, u2) => match st with
    | .ref _ :: r => K (pc + 3, L, r, h, u1, u2)
    | .null :: r => K (tgt, L, r, h, u1, u2)
    | _ => False
theorem ak_ifnull {off : Int} {tgt : Nat} (ht : (pc : Int) + off = (tgt : Int)) (hd : decode cc pc = .ok (.ifnull off, 3)) : ax_ok g cc nL ret own nm d mc ms pc (ao_ifnull tgt) := by
  intro p e s m args below meth c V Ret L st h u1 u2 K ho hK H locs ls hP hS hl
  dsimp only [ao_ifnull] at ho
  split at ho
  · exact lv_ifnull V.1 V.2.1 hd (hK _ ho H locs ls hP hS hl)
  · exact lv_ifnullN V.1 V.2.1 hd ht (hK _ ho H locs ls hP hS hl)
  · exact ho.elim
def ao_ifnonnull (tgt : Nat) : ax_O := fun _ σ K => match σ with
  | (pc, L, st, h, u1, u2) => match st with
    | .ref _ :: r => K (tgt, L, r, h, u1, u2)
    | .null :: r => K (pc + 3, L, r, h, u1, u2)
    | _ => False
theorem ak_ifnonnull {off : Int} {tgt : Nat} (ht : (pc : Int) + off = (tgt : Int)) (hd : decode cc pc = .ok (.ifnonnull off, 3)) : ax_ok g cc nL ret own nm d mc ms pc (ao_ifnonnull tgt) := by
  intro p e s m args below meth c V Ret L st h u1 u2 K ho hK H locs ls hP hS hl
  dsimp only [ao_ifnonnull] at ho
  split at ho
  · exact lv_ifnonnull V.1 V.2.1 hd ht (hK _ ho H locs ls hP hS hl)
  · exact lv_ifnonnullN V.1 V.2.1 hd (hK _ ho H locs ls hP hS hl)
  · exact ho.elim
end
end

section
section
variable {g : ax_G} {cc : ByteArray} {nL : Nat} {ret : Option FieldType} {own nm : String} {d mc ms pc : Nat}
theorem ax_P_set {h h' : ax_H} {H H1 : Heap} {a : Nat} (hP : ax_P g h H) (hn : h'.1 = h.1) (ho : ∀ b, b ≠ a → ax_e g h' b = ax_e g h b) (ha : a < h.1) (hx : va_at g.2.2.2.1 vwCl (g.2.1 + a, ax_e g h' a) H1) (z : H1.size = H.size) (oq : ∀ q : Nat, q ≠ g.2.1 + a → H1[q]? = H[q]?) : ax_P g h' H1 := by
  have e := hP.1.set ax_w_D (ax_w_get ha) hx oq
  rw [ax_w_set hn rfl ho] at e
  exact ⟨e, by rw [z, hP.2.1, hn], by rw [hn]; exact hP.2.2⟩
theorem ax_at {h : ax_H} {H : Heap} {a : Nat} (hP : ax_P g h H) (ha : a < h.1) : va_at g.2.2.2.1 vwCl (g.2.1 + a, ax_e g h a) H := hP.1 a _ (ax_w_get ha)
theorem ax_vr {h : ax_H} {H : Heap} {a : Nat} (hP : ax_P g h H) (ha : a < h.1) : ax_v g (.ref a) = .ref (g.2.1 + a) := by
  show Value.ref (ax_ad g a) = _
  rw [ax_ad_lt (Nat.lt_trans ha hP.2.2)]
section
variable {p : Program} {e : Env} {s : State} {m : MethodId} {args : Array Value} {below : List Frame} {meth : Method} {c : Code} {R : Room} {cells slots : Nat} {Q : State → Prop} {ls : Array Slot} {rest : List Value}
theorem ax_putW {h h' : ax_H} {H : Heap} {locs : List Loc} {a ci index k N : Nat} {C : String} {T : u_T} {ty0 : Nat → FieldType} {ty : FieldType} {v : Value} (V : ax_V g cc nL ret own nm p s m args meth c) (hP : ax_P g h H) (hS0 : va_S (ax_A g) s.heap H locs) (ha : a < h.1) (hs : (h.2.1 a).1 = ci) (hci : ci < 11) (hc : vwCl[ci]? = some (C, T, N)) (hin : ∀ w ∈ u_ws C T N, w ∈ lw_gd) (hty : ∀ k, k < N → parseFieldDescriptor (T k).2.2.1 = some (ty0 k)) (hnm : ∀ a, a < N → ∀ b, b < N → a ≠ b → (T a).2.1 ≠ (T b).2.1) (hk : k < N) (hw : Cond.fieldLink own index (T k).1 (T k).2.1 (T k).2.2.1 ∈ lw_gd) (hfin : (T k).2.2.2 = false ∨ ((T k).2.2.2 = true ∧ nm = "<init>" ∧ (T k).1 = own)) (hd0 : parseFieldDescriptor (T k).2.2.1 = some ty) (hn : narrow ty v = v) (hfit : fits ty v = true) (hlen : k < (ax_ft ci).length) (hd : decode cc pc = .ok (.putfield index, 3)) (hn' : h'.1 = h.1) (hs' : h'.2.1 a = h.2.1 a) (hfl : ax_fl g h' (ax_ft ci) a = (ax_fl g h (ax_ft ci) a).set k v) (ho : ∀ b, b ≠ a → ax_e g h' b = ax_e g h b)
    (kk : ∀ (H1 : Heap) (locs1 : List Loc), ax_P g h' H1 → va_S (ax_A g) s.heap H1 locs1 → W p g.1 e R s m args below meth c H1 locs1 cells slots Q (F0 m (pc + 3) ls rest)) : W p g.1 e R s m args below meth c H locs cells slots Q (F0 m pc ls (v :: .ref (g.2.1 + a) :: rest)) := by
  obtain ⟨hx, hb, -, -, -, hown, hname, hts, hK, -, -⟩ := V
  have hap := va_apart (own := own) hts hin ty0 hty hnm hK hc
  have hat := ax_at hP ha
  rw [ax_e_obj hs hci] at hat
  obtain ⟨r, h1, cell, q1, q2, q3, q4⟩ := hat
  have hr : r = (C, T, N) := Option.some.inj (h1.symm.trans hc)
  subst hr
  obtain ⟨hSl, hfc, kC, hkC, hkind⟩ := hK.1 ci _ hc
  obtain ⟨cf, kf, fi, f, hi, hsl⟩ := hSl k hk
  have hst := (u_facts hfc hkC (u_lays hts hin hk) hi).1
  have hlay := hts _ (hin _ (u_in_lay hk))
  unfold u_lay at hlay
  have fin : ∀ H' : Heap, H'[g.2.1 + a]? = some (cell.setSlot f.slot v) → H'.size = H.size → (∀ q, q ≠ g.2.1 + a → H'[q]? = H[q]?) → W p g.1 e R s m args below meth c H' (locs ++ [⟨g.2.1 + a, f.slot⟩]) cells slots Q (F0 m (pc + 3) ls rest) := by
    intro H' e1 e2 e3
    rw [hsl] at e1
    refine kk H' _ (ax_P_set hP hn' ho ha ?_ e2 e3) (hS0.put e2 e3 (Nat.le_add_right _ _))
    rw [ax_e_obj (by rw [hs']; exact hs) hci, hfl]
    exact ⟨_, hc, t_OB.to (V := updV (vp_V (ax_fl g h (ax_ft ci) a)) k v) ⟨_, e1, q2, q3, t_set q4 hap hk v⟩ (fun j _ => vp_updV_set (by rw [ax_fl_len]; exact hlen) v j)⟩
  rcases hfin with hfin | ⟨hfin, hini, hdecl⟩
  · rw [if_neg (by rw [hfin]; decide)] at hlay
    have h6 := u_store hfc hkC hkind hlay hi hd0 hn hfit
    exact W.putK hx hb (f := f) ⟨hown, hts _ hw, ⟨_, _, _, hi⟩, hst⟩ (by rw [q2]; exact h6) q1 q3 (by rw [hsl]; exact k2_hasslot (q4 k hk)) rfl rfl hd fin
  · rw [if_pos hfin] at hlay
    have hcf : m.cls = cf := by
      obtain ⟨_, _, c', _, _, _, -, -, hf', -, -, -, hown2, -⟩ := Cond.laysFinal_spec hlay
      have e1 : c' = cf := by have := hi.symm.trans hf'; simp at this; exact this.1.symm
      rw [hdecl] at hown2
      rw [← e1]; exact Option.some.inj (hown.symm.trans hown2)
    have h6 := u_fits hfc hkC hkind (Or.inr hlay) hi hd0 hn hfit
    exact W.putFinK hx hb hown (hts _ hw) hi hst hcf (hname.trans hini) (by rw [q2]; exact h6) q1 q3 (by rw [hsl]; exact k2_hasslot (q4 k hk)) rfl rfl hd fin
end
/-! fields -/
/-- what the tables say of field k of class ci -/
def ax_F (own : String) (index ci k t : Nat) : Prop := ci < 11 ∧ (ax_ft ci)[k]? = some t ∧ ∃ (C : String) (T : u_T) (N : Nat) (ty0 : Nat → FieldType), vwCl[ci]? = some (C, T, N) ∧ (∀ w ∈ u_ws C T N, w ∈ lw_gd) ∧ (∀ k, k < N → parseFieldDescriptor (T k).2.2.1 = some (ty0 k)) ∧ (∀ a, a < N → ∀ b, b < N → a ≠ b → (T a).2.1 ≠ (T b).2.1) ∧ k < N ∧ Cond.fieldLink own index (T k).1 (T k).2.1 (T k).2.2.1 ∈ lw_gd
def ao_gi (ci k : Nat) : ax_O := fun _ σ K => match σ with
  | (pc, L, st, h, u1, u2) => match st with
    | .ref a :: r => (ax_s h a).1 = ci ∧ K (pc + 3, L, .int (ax_i h a k) :: r, h, u1, u2)
    | _ => False
def ao_gl (ci k : Nat) : ax_O := fun _ σ K => match σ with
  | (pc, L, st, h, u1, u2) => match st with
    | .ref a :: r => (ax_s h a).1 = ci ∧ K (pc + 3, L, .long (ax_l h a k) :: r, h, u1, u2)
    | _ => False
def ao_gr (ci k : Nat) : ax_O := fun _ σ K => match σ with
  | (pc, L, st, h, u1, u2) => match st with
    | .ref a :: r => (ax_s h a).1 = ci ∧ ∃ b, ax_r h a k = some b ∧ K (pc + 3, L, .ref b :: r, h, u1, u2)
    | _ => False
theorem ax_getW {p : Program} {e : Env} {s : State} {m : MethodId} {args : Array Value} {below : List Frame} {meth : Method} {c : Code} {R : Room} {cells slots : Nat} {Q : State → Prop} {ls : Array Slot} {rest : List Value} {h : ax_H} {H : Heap} {locs : List Loc} {a ci index k t : Nat} {v : Value} (V : ax_V g cc nL ret own nm p s m args meth c) (hP : ax_P g h H) (hF : ax_F own index ci k t) (hs : (ax_s h a).1 = ci) (hd : decode cc pc = .ok (.getfield index, 3)) (hv : (ax_fl g h (ax_ft ci) a)[k]? = some v)
    (kk : W p g.1 e R s m args below meth c H locs cells slots Q (F0 m (pc + 3) ls (v :: rest))) : W p g.1 e R s m args below meth c H locs cells slots Q (F0 m pc ls (ax_v g (.ref a) :: rest)) := by
  obtain ⟨hci, ht, C, T, N, ty0, hc, hin, hty, hnm, hk, hw⟩ := hF
  obtain ⟨ha, hs, -⟩ := ax_s_lt hs (by omega)
  rw [ax_vr hP ha]
  exact va_get V.1 V.2.1 V.2.2.2.2.2.2.2.1 hin V.2.2.2.2.2.1 V.2.2.2.2.2.2.2.2.1 hP.1 a ((ax_w_get ha).trans (by rw [ax_e_obj hs hci])) hc k hk (V.2.2.2.2.2.2.2.1 _ hw) (fun _ h => h) hv hd kk
theorem ak_gi {ci k index : Nat} (hF : ax_F own index ci k 0) (hd : decode cc pc = .ok (.getfield index, 3)) : ax_ok g cc nL ret own nm d mc ms pc (ao_gi ci k) := by
  intro p e s m args below meth c V Ret L st h u1 u2 K ho hK H locs ls hP hS hl
  dsimp only [ao_gi] at ho
  split at ho
  · exact ax_getW V hP hF ho.1 hd (ax_fl_get hF.2.1) (hK _ ho.2 H locs ls hP hS hl)
  · exact ho.elim
theorem ak_gl {ci k index : Nat} (hF : ax_F own index ci k 1) (hd : decode cc pc = .ok (.getfield index, 3)) : ax_ok g cc nL ret own nm d mc ms pc (ao_gl ci k) := by
  intro p e s m args below meth c V Ret L st h u1 u2 K ho hK H locs ls hP hS hl
  dsimp only [ao_gl] at ho
  split at ho
  · exact ax_getW V hP hF ho.1 hd (ax_fl_get hF.2.1) (hK _ ho.2 H locs ls hP hS hl)
  · exact ho.elim
theorem ak_gr {ci k index : Nat} (hF : ax_F own index ci k 2) (hd : decode cc pc = .ok (.getfield index, 3)) : ax_ok g cc nL ret own nm d mc ms pc (ao_gr ci k) := by
  intro p e s m args below meth c V Ret L st h u1 u2 K ho hK H locs ls hP hS hl
  dsimp only [ao_gr] at ho
  split at ho
  · rename_i a r
    obtain ⟨ho1, b, hr, ho⟩ := ho
    exact ax_getW V hP hF ho1 hd ((ax_fl_get hF.2.1).trans (by rw [hr]; rfl)) (hK _ ho H locs ls hP hS hl)
  · exact ho.elim
def ao_pi (ci k : Nat) : ax_O := fun _ σ K => match σ with
  | (pc, L, st, h, u1, u2) => match st with
    | .int x :: .ref a :: r => (ax_s h a).1 = ci ∧ K (pc + 3, L, r, ax_pi h a k x, u1, u2)
    | _ => False
/-- a boolean field -/
def ao_pz (ci k : Nat) : ax_O := fun _ σ K => match σ with
  | (pc, L, st, h, u1, u2) => match st with
    | .int x :: .ref a :: r => (x = 0 ∨ x = 1) ∧ (ax_s h a).1 = ci ∧ K (pc + 3, L, r, ax_pi h a k x, u1, u2)
    | _ => False
def ao_pl (ci k : Nat) : ax_O := fun _ σ K => match σ with
  | (pc, L, st, h, u1, u2) => match st with
    | .long x :: .ref a :: r => (ax_s h a).1 = ci ∧ K (pc + 3, L, r, ax_pl h a k x, u1, u2)
    | _ => False
def ao_pr (ci k : Nat) : ax_O := fun _ σ K => match σ with
  | (pc, L, st, h, u1, u2) => match st with
    | .ref b :: .ref a :: r => (ax_s h a).1 = ci ∧ K (pc + 3, L, r, ax_pr h a k (some b), u1, u2)
    | .null :: .ref a :: r => (ax_s h a).1 = ci ∧ K (pc + 3, L, r, ax_pr h a k none, u1, u2)
    | _ => False
/-- the field may be written here -/
def ax_Fw (own nm : String) (ci k : Nat) (ty : FieldType) : Prop := ∀ (C : String) (T : u_T) (N : Nat), vwCl[ci]? = some (C, T, N) → ((T k).2.2.2 = false ∨ ((T k).2.2.2 = true ∧ nm = "<init>" ∧ (T k).1 = own)) ∧ parseFieldDescriptor (T k).2.2.1 = some ty
theorem ax_u_ee {α : Type} {f : Nat → Nat → α} {a k : Nat} {v : α} : ax_u f a k v a k = v := by rw [ax_u_eq]; exact if_pos rfl
theorem ax_u_en {α : Type} {f : Nat → Nat → α} {a k j : Nat} {v : α} (h : j ≠ k) : ax_u f a k v a j = f a j := by rw [ax_u_eq]; exact if_neg h
theorem ax_get_lt {ts : List Nat} {k t : Nat} (h : ts[k]? = some t) : k < ts.length := (List.getElem?_eq_some_iff.mp h).1
theorem ak_pi {ci k index : Nat} (hF : ax_F own index ci k 0) (hw : ax_Fw own nm ci k .int) (hd : decode cc pc = .ok (.putfield index, 3)) : ax_ok g cc nL ret own nm d mc ms pc (ao_pi ci k) := by
  intro p e s m args below meth c V Ret L st h u1 u2 K ho hK H locs ls hP hS hl
  dsimp only [ao_pi] at ho
  split at ho
  · rename_i x a r
    obtain ⟨hci, ht, C, T, N, ty0, hc, hin, hty, hnm, hk, hwl⟩ := hF
    obtain ⟨ha, hs, -⟩ := ax_s_lt ho.1 (by omega)
    show W _ _ _ _ _ _ _ _ _ _ _ _ _ _ _ (F0 m pc ls (Value.int x :: ax_v g (.ref a) :: r.map (ax_v g)))
    rw [ax_vr hP ha]
    refine ax_putW (h' := ax_pi h a k x) V hP hS ha hs hci hc hin hty hnm hk hwl (hw _ _ _ hc).1 (hw _ _ _ hc).2 rfl rfl (ax_get_lt ht) hd rfl rfl ?_ (fun b hb => ax_e_cong rfl (ax_u_ne hb) rfl rfl) (fun H1 locs1 hP1 hS1 => hK _ ho.2 H1 locs1 ls hP1 hS1 hl)
    refine ax_fl_set ht ?_ (fun j u hj _ => ?_)
    · show Value.int (ax_u h.2.2.1 a k x a k) = _
      rw [ax_u_ee]
    · show (if u = 0 then Value.int (ax_u h.2.2.1 a k x a j) else _) = _
      rw [ax_u_en hj]; rfl
  · exact ho.elim
theorem ak_pz {ci k index : Nat} (hF : ax_F own index ci k 0) (hw : ax_Fw own nm ci k .boolean) (hd : decode cc pc = .ok (.putfield index, 3)) : ax_ok g cc nL ret own nm d mc ms pc (ao_pz ci k) := by
  intro p e s m args below meth c V Ret L st h u1 u2 K ho hK H locs ls hP hS hl
  dsimp only [ao_pz] at ho
  split at ho
  · rename_i x a r
    obtain ⟨hb01, ho⟩ := ho
    obtain ⟨hci, ht, C, T, N, ty0, hc, hin, hty, hnm, hk, hwl⟩ := hF
    obtain ⟨ha, hs, -⟩ := ax_s_lt ho.1 (by omega)
    show W _ _ _ _ _ _ _ _ _ _ _ _ _ _ _ (F0 m pc ls (Value.int x :: ax_v g (.ref a) :: r.map (ax_v g)))
    rw [ax_vr hP ha]
    have hnr : narrow .boolean (.int x) = .int x := by rcases hb01 with rfl | rfl <;> rfl
    have hft : fits .boolean (.int x) = true := by rcases hb01 with rfl | rfl <;> rfl
    refine ax_putW (h' := ax_pi h a k x) V hP hS ha hs hci hc hin hty hnm hk hwl (hw _ _ _ hc).1 (hw _ _ _ hc).2 hnr hft (ax_get_lt ht) hd rfl rfl ?_ (fun b hb => ax_e_cong rfl (ax_u_ne hb) rfl rfl) (fun H1 locs1 hP1 hS1 => hK _ ho.2 H1 locs1 ls hP1 hS1 hl)
    refine ax_fl_set ht ?_ (fun j u hj _ => ?_)
    · show Value.int (ax_u h.2.2.1 a k x a k) = _
      rw [ax_u_ee]
    · show (if u = 0 then Value.int (ax_u h.2.2.1 a k x a j) else _) = _
      rw [ax_u_en hj]; rfl
  · exact ho.elim
theorem ak_pl {ci k index : Nat} (hF : ax_F own index ci k 1) (hw : ax_Fw own nm ci k .long) (hd : decode cc pc = .ok (.putfield index, 3)) : ax_ok g cc nL ret own nm d mc ms pc (ao_pl ci k) := by
  intro p e s m args below meth c V Ret L st h u1 u2 K ho hK H locs ls hP hS hl
  dsimp only [ao_pl] at ho
  split at ho
  · rename_i x a r
    obtain ⟨hci, ht, C, T, N, ty0, hc, hin, hty, hnm, hk, hwl⟩ := hF
    obtain ⟨ha, hs, -⟩ := ax_s_lt ho.1 (by omega)
    show W _ _ _ _ _ _ _ _ _ _ _ _ _ _ _ (F0 m pc ls (Value.long x :: ax_v g (.ref a) :: r.map (ax_v g)))
    rw [ax_vr hP ha]
    refine ax_putW (h' := ax_pl h a k x) V hP hS ha hs hci hc hin hty hnm hk hwl (hw _ _ _ hc).1 (hw _ _ _ hc).2 rfl rfl (ax_get_lt ht) hd rfl rfl ?_ (fun b hb => ax_e_cong rfl rfl (ax_u_ne hb) rfl) (fun H1 locs1 hP1 hS1 => hK _ ho.2 H1 locs1 ls hP1 hS1 hl)
    refine ax_fl_set ht ?_ (fun j u hj _ => ?_)
    · show Value.long (ax_u h.2.2.2.1 a k x a k) = _
      rw [ax_u_ee]
    · show (if u = 0 then _ else if u = 1 then Value.long (ax_u h.2.2.2.1 a k x a j) else _) = _
      rw [ax_u_en hj]; rfl
  · exact ho.elim
theorem ak_pr {ci k index : Nat} {ty : FieldType} (hF : ax_F own index ci k 2) (hty2 : ty.isReference = true) (hw : ax_Fw own nm ci k ty) (hd : decode cc pc = .ok (.putfield index, 3)) : ax_ok g cc nL ret own nm d mc ms pc (ao_pr ci k) := by
  intro p e s m args below meth c V Ret L st h u1 u2 K ho hK H locs ls hP hS hl
  dsimp only [ao_pr] at ho
  have nr : ∀ b : Nat, narrow ty (.ref b) = .ref b := fun b => by cases ty <;> first | rfl | cases hty2
  have fr : ∀ b : Nat, fits ty (.ref b) = true := fun b => by cases ty <;> first | rfl | cases hty2
  have nn : narrow ty .null = .null := by cases ty <;> first | rfl | cases hty2
  have fn : fits ty .null = true := by cases ty <;> first | rfl | cases hty2
  split at ho
  · rename_i b a r
    obtain ⟨hci, ht, C, T, N, ty0, hc, hin, hty, hnm, hk, hwl⟩ := hF
    obtain ⟨ha, hs, -⟩ := ax_s_lt ho.1 (by omega)
    show W _ _ _ _ _ _ _ _ _ _ _ _ _ _ _ (F0 m pc ls (Value.ref (ax_ad g b) :: ax_v g (.ref a) :: r.map (ax_v g)))
    rw [ax_vr hP ha]
    refine ax_putW (h' := ax_pr h a k (some b)) V hP hS ha hs hci hc hin hty hnm hk hwl (hw _ _ _ hc).1 (hw _ _ _ hc).2 (nr _) (fr _) (ax_get_lt ht) hd rfl rfl ?_ (fun b hb => ax_e_cong rfl rfl rfl (ax_u_ne hb)) (fun H1 locs1 hP1 hS1 => hK _ ho.2 H1 locs1 ls hP1 hS1 hl)
    refine ax_fl_set ht ?_ (fun j u hj _ => ?_)
    · show va_rf ((ax_u h.2.2.2.2 a k (some b) a k).map (ax_ad g)) = _
      rw [ax_u_ee]; rfl
    · show (if u = 0 then _ else if u = 1 then _ else va_rf ((ax_u h.2.2.2.2 a k (some b) a j).map (ax_ad g))) = _
      rw [ax_u_en hj]; rfl
  · rename_i a r
    obtain ⟨hci, ht, C, T, N, ty0, hc, hin, hty, hnm, hk, hwl⟩ := hF
    obtain ⟨ha, hs, -⟩ := ax_s_lt ho.1 (by omega)
    show W _ _ _ _ _ _ _ _ _ _ _ _ _ _ _ (F0 m pc ls (Value.null :: ax_v g (.ref a) :: r.map (ax_v g)))
    rw [ax_vr hP ha]
    refine ax_putW (h' := ax_pr h a k none) V hP hS ha hs hci hc hin hty hnm hk hwl (hw _ _ _ hc).1 (hw _ _ _ hc).2 nn fn (ax_get_lt ht) hd rfl rfl ?_ (fun b hb => ax_e_cong rfl rfl rfl (ax_u_ne hb)) (fun H1 locs1 hP1 hS1 => hK _ ho.2 H1 locs1 ls hP1 hS1 hl)
    refine ax_fl_set ht ?_ (fun j u hj _ => ?_)
    · show va_rf ((ax_u h.2.2.2.2 a k none a k).map (ax_ad g)) = _
      rw [ax_u_ee]; rfl
    · show (if u = 0 then _ else if u = 1 then _ else va_rf ((ax_u h.2.2.2.2 a k none a j).map (ax_ad g))) = _
      rw [ax_u_en hj]; rfl
  · exact ho.elim
end
end

section
section
variable {g : ax_G} {cc : ByteArray} {nL : Nat} {ret : Option FieldType} {own nm : String} {d mc ms pc : Nat}
theorem ax_good : ∀ w ∈ lw_gd, goodWord w = true := fun _ h => (List.mem_filter.mp h).2
theorem ax_gi {ws : List Cond} (h : ∀ w ∈ ws, w ∈ lw_gd) : GoodIn lw_gd ws := fun w hw => ⟨h w hw, good_of_word (ax_good w (h w hw))⟩
/-- how a contract begins -/
def ax_C (g : ax_G) (as : List Value) (h : ax_H) : Array Value → State → Prop := va_Pc (as.map (ax_v g)) (fun U => ax_K g U ∧ g.2.1 ≤ U.heap.size ∧ ax_Z g U U.heap ∧ ax_P g h U.heap)
/-- THE CONTRACT: from heap h with the arguments as, y returns, and Ret holds of answer and heap -/
def ax_M (g : ax_G) (d mc ms : Nat) (y : MethodName) (cc : ByteArray) (nL : Nat) (ret : Option FieldType) (as : List Value) (h : ax_H) (Ret : Option Value → ax_H → Prop) : Prop := Met g.1 y (.code y cc nL ret :: lw_gd) (ax_rm d mc ms) (ax_C g as h) (ax_Q g Ret) mc ms (ax_A g)
/-- a contract out of a walk of the abstract machine -/
theorem ax_meth {y : MethodName} {as : List Value} {h : ax_H} {Ret : Option Value → ax_H → Prop} {tbl : Nat → ax_O} (hy : plainName y.cls = true) (hlen : (lg_sl as).length ≤ nL) (hok : ∀ pc, ax_ok g cc nL ret y.cls y.name d mc ms pc (tbl pc)) (hw : ∀ A : ax_S → Prop, (∀ (σ : ax_S) (K : ax_S → Prop), tbl σ.1 Ret σ K → (∀ σ', K σ' → A σ') → A σ) → A (0, ax_en as nL, [], h, 0, 0)) : ax_M g d mc ms y cc nL ret as h Ret := by
  refine Met.ofW (cc := cc) (maxL := nL) (ret := ret) hy rfl ?_
  intro p e s m args below meth c s₁ B hml hv
  obtain ⟨rfl, hK, hbs, hZ, hP⟩ := hv
  have hts := atoms_spec (ws := .code y cc nL ret :: lw_gd) B.pre
  have hnm : meth.name = y.name := (name_of_methodNamed B.named B.method).1
  have V : ax_V g cc nL ret y.cls y.name p s m (as.map (ax_v g)).toArray meth c := ⟨B.exec, B.bytes, B.returns, B.notSynchronized, hml, findClass_of_methodNamed B.named, hnm, fun w hw => hts w (List.mem_cons_of_mem _ hw), hK, hbs, hZ⟩
  have key := hw (ax_W g nL d mc ms p e s m (as.map (ax_v g)).toArray below meth c Ret) (fun σ K ho hK => by
    obtain ⟨pc, L, st, h, u1, u2⟩ := σ
    exact hok pc p e s m _ below meth c V Ret L st h u1 u2 _ ho hK)
  have hsl : ∀ vs : List Value, (lg_sl (vs.map (ax_v g))).length = (lg_sl vs).length := by
    intro vs
    induction vs with
    | nil => rfl
    | cons v r ih =>
      unfold lg_sl at ih ⊢
      rw [List.map_cons, List.flatMap_cons, List.flatMap_cons, List.length_append, List.length_append, ih, ax_v_cat]
      split <;> rfl
  have hl := lv_entry (as.map (ax_v g)) (n := nL) (by rw [hsl]; exact hlen)
  rw [lg_entry_eq]
  refine key s.heap [] _ hP va_S.rf ⟨hl.1, hl.2.1, fun q hq => hl.2.2 q ?_⟩
  obtain ⟨j, w⟩ := q
  have hmap : ∀ (vs : List Value) (n : Nat), (ax_en vs n).map (Option.map (ax_v g)) = ax_en (vs.map (ax_v g)) n := by
    intro vs
    induction vs with
    | nil => intro n; simp [ax_en]
    | cons v r ih =>
      intro n
      rw [List.map_cons]
      unfold ax_en
      rw [ax_v_cat]
      split
      · simp [ih]
      · simp [ih]
  rw [show ((0, ax_en as nL, [], h, 0, 0) : ax_S).2.1 = ax_en as nL from rfl, hmap] at hq
  exact ax_en_mem _ _ _ _ _ hq
/-! returns -/
def ax_rb (mc ms u1 u2 : Nat) (X : Prop) : Prop := bif Nat.beq u1 0 && Nat.beq u2 0 then X else (u1 ≤ mc ∧ u2 ≤ ms) ∧ X
theorem ax_rb_use {mc ms u1 u2 : Nat} {X : Prop} (h : ax_rb mc ms u1 u2 X) : (u1 ≤ mc ∧ u2 ≤ ms) ∧ X := by
  unfold ax_rb at h
  cases h1 : Nat.beq u1 0 <;> cases h2 : Nat.beq u2 0 <;> rw [h1, h2] at h
  · exact h
  · exact h
  · exact h
  · rw [Nat.eq_of_beq_eq_true h1, Nat.eq_of_beq_eq_true h2]
    exact ⟨⟨Nat.zero_le _, Nat.zero_le _⟩, h⟩
def ao_iret (mc ms : Nat) : ax_O := fun Ret σ _ => match σ with
  | (pc, L, st, h, u1, u2) => match st with
    | [.int x] => ax_rb mc ms u1 u2 <| Ret (some (.int x)) h
    | _ => False
def ao_zret (mc ms : Nat) : ax_O := fun Ret σ _ => match σ with
  | (pc, L, st, h, u1, u2) => match st with
    | [.int x] => ax_rb mc ms u1 u2 <| (x = 0 ∨ x = 1) ∧ Ret (some (.int x)) h
    | _ => False
def ao_lret (mc ms : Nat) : ax_O := fun Ret σ _ => match σ with
  | (pc, L, st, h, u1, u2) => match st with
    | [.long x] => ax_rb mc ms u1 u2 <| Ret (some (.long x)) h
    | _ => False
def ao_aret (mc ms : Nat) : ax_O := fun Ret σ _ => match σ with
  | (pc, L, st, h, u1, u2) => match st with
    | [.ref x] => ax_rb mc ms u1 u2 <| Ret (some (.ref x)) h
    | [.null] => ax_rb mc ms u1 u2 <| Ret (some .null) h
    | _ => False
def ao_vret (mc ms : Nat) : ax_O := fun Ret σ _ => match σ with
  | (pc, L, st, h, u1, u2) => match st with
    | [] => ax_rb mc ms u1 u2 <| Ret none h
    | _ => False
theorem ax_qr {Ret : Option Value → ax_H → Prop} {s : State} {args : Array Value} {H : Heap} {locs : List Loc} {h : ax_H} {v : Option Value} (hP : ax_P g h H) (hS : va_S (ax_A g) s.heap H locs) (hR : Ret v h) : ∀ t : State, t.heap = H → s.WarmedH t.vm → ax_Q g Ret args s (.returned (v.map (ax_v g))) t := fun t ht _ => ⟨⟨v, h, rfl, hR, by rw [ht]; exact hP⟩, hS.F ht⟩
theorem ak_iret (hr : ret = some .int) (hd : decode cc pc = .ok (.ireturn, 1)) : ax_ok g cc nL ret own nm d mc ms pc (ao_iret mc ms) := by
  intro p e s m args below meth c V Ret L st h u1 u2 K ho hK H locs ls hP hS hl
  dsimp only [ao_iret] at ho
  split at ho
  · rename_i x
    have ho := ax_rb_use ho
    refine W.widen ho.1.1 ho.1.2 ?_
    exact W.iret V.1 V.2.1 (V.2.2.1.trans hr) (ax_qr (v := some (.int x)) hP hS ho.2) hS.2.2 hd V.2.2.2.1
  · exact ho.elim
theorem ak_zret (hr : ret = some .boolean) (hd : decode cc pc = .ok (.ireturn, 1)) : ax_ok g cc nL ret own nm d mc ms pc (ao_zret mc ms) := by
  intro p e s m args below meth c V Ret L st h u1 u2 K ho hK H locs ls hP hS hl
  dsimp only [ao_zret] at ho
  split at ho
  · rename_i x
    have ho := ax_rb_use ho
    refine W.widen ho.1.1 ho.1.2 ?_
    exact W.zret V.1 V.2.1 (V.2.2.1.trans hr) (by rcases ho.2.1 with rfl | rfl <;> rfl) (ax_qr (v := some (.int x)) hP hS ho.2.2) hS.2.2 hd V.2.2.2.1
  · exact ho.elim
theorem ak_lret (hr : ret = some .long) (hd : decode cc pc = .ok (.lreturn, 1)) : ax_ok g cc nL ret own nm d mc ms pc (ao_lret mc ms) := by
  intro p e s m args below meth c V Ret L st h u1 u2 K ho hK H locs ls hP hS hl
  dsimp only [ao_lret] at ho
  split at ho
  · rename_i x
    have ho := ax_rb_use ho
    refine W.widen ho.1.1 ho.1.2 ?_
    exact W.lret V.1 V.2.1 (V.2.2.1.trans hr) (ax_qr (v := some (.long x)) hP hS ho.2) hS.2.2 hd V.2.2.2.1
  · exact ho.elim
theorem ak_aret {rt : FieldType} (hr : ret = some rt) (hrt : (∃ n, rt = .object n) ∨ ∃ t, rt = .array t) (hd : decode cc pc = .ok (.areturn, 1)) : ax_ok g cc nL ret own nm d mc ms pc (ao_aret mc ms) := by
  intro p e s m args below meth c V Ret L st h u1 u2 K ho hK H locs ls hP hS hl
  dsimp only [ao_aret] at ho
  split at ho
  · rename_i x
    have ho := ax_rb_use ho
    refine W.widen ho.1.1 ho.1.2 ?_
    exact W.aret V.1 V.2.1 (V.2.2.1.trans hr) hrt (Or.inr ⟨_, rfl⟩) (ax_qr (v := some (.ref x)) hP hS ho.2) hS.2.2 hd V.2.2.2.1
  · have ho := ax_rb_use ho
    refine W.widen ho.1.1 ho.1.2 ?_
    exact W.aret V.1 V.2.1 (V.2.2.1.trans hr) hrt (Or.inl rfl) (ax_qr (v := some .null) hP hS ho.2) hS.2.2 hd V.2.2.2.1
  · exact ho.elim
theorem ak_vret (hr : ret = none) (hd : decode cc pc = .ok (.return_, 1)) : ax_ok g cc nL ret own nm d mc ms pc (ao_vret mc ms) := by
  intro p e s m args below meth c V Ret L st h u1 u2 K ho hK H locs ls hP hS hl
  dsimp only [ao_vret] at ho
  split at ho
  · have ho := ax_rb_use ho
    refine W.widen ho.1.1 ho.1.2 ?_
    exact W.vret V.1 V.2.1 (V.2.2.1.trans hr) (ax_qr (v := none) hP hS ho.2) hS.2.2 hd V.2.2.2.1
  · exact ho.elim
/-! calls -/
def ax_sp : Nat → List Value → List Value → Option (List Value × List Value)
  | 0, acc, st => some (acc, st)
  | n + 1, acc, v :: st => ax_sp n (v :: acc) st
  | _ + 1, _, [] => none
theorem ax_sp_eq : ∀ (n : Nat) (acc st as rest : List Value), ax_sp n acc st = some (as, rest) → ∃ bs, as = bs ++ acc ∧ bs.length = n ∧ st = bs.reverse ++ rest := by
  intro n
  induction n with
  | zero => intro acc st as rest h; cases h; exact ⟨[], rfl, rfl, rfl⟩
  | succ n ih =>
    intro acc st as rest h
    cases st with
    | nil => cases h
    | cons v st =>
      obtain ⟨bs, h1, h2, h3⟩ := ih (v :: acc) st as rest h
      refine ⟨bs ++ [v], by rw [h1]; simp, by simp [h2], by rw [h3]; simp⟩
/-- the answer of a call, by its kind: 0 none, 1 int, 2 long, 3 a reference -/
def ax_rk (rk : Nat) (v : Option Value) (k : List Value → Prop) : Prop := match rk with
  | 0 => v = none ∧ k []
  | 1 => ∃ r : Int32, v = some (.int r) ∧ k [.int r]
  | 2 => ∃ r : Int64, v = some (.long r) ∧ k [.long r]
  | _ => (∃ b : Nat, v = some (.ref b) ∧ k [.ref b]) ∨ (v = some .null ∧ k [.null])
theorem ax_rk_use {rk : Nat} {v : Option Value} {k : List Value → Prop} (h : ax_rk rk v k) : k v.toList := by
  unfold ax_rk at h
  split at h
  · obtain ⟨rfl, h⟩ := h; exact h
  · obtain ⟨r, rfl, h⟩ := h; exact h
  · obtain ⟨r, rfl, h⟩ := h; exact h
  · rcases h with ⟨b, rfl, h⟩ | ⟨rfl, h⟩ <;> exact h
/-- a call: y, its code, locals and type; n values are taken; ci: the receiver's class (99: a static method) -/
def ax_rc (ci : Nat) (as : List Value) (h : ax_H) (X : Prop) : Prop := bif Nat.beq ci 99 then X else match as with
  | .ref a :: _ => (ax_s h a).1 = ci ∧ X
  | _ => False
theorem ax_rc_use {ci : Nat} {as : List Value} {h : ax_H} {X : Prop} (hx : ax_rc ci as h X) : (ci = 99 ∨ ∃ a bs, as = .ref a :: bs ∧ (ax_s h a).1 = ci) ∧ X := by
  unfold ax_rc at hx
  cases hb : Nat.beq ci 99 with
  | true => rw [hb] at hx; exact ⟨Or.inl (Nat.eq_of_beq_eq_true hb), hx⟩
  | false =>
    rw [hb] at hx
    dsimp only [cond] at hx
    split at hx
    · rename_i a bs; exact ⟨Or.inr ⟨a, bs, rfl, hx.1⟩, hx.2⟩
    · exact hx.elim
def ao_inv (g : ax_G) (d' ci rk : Nat) (y : MethodName) (cc : ByteArray) (nL : Nat) (ret : Option FieldType) (n mc mx ms my : Nat) : ax_O := fun _ σ K => match σ with
  | (pc, L, st, h, u1, u2) => match ax_sp n [] st with
    | some (as, rest) => bif Nat.ble (rest.map Value.category).sum 8 && (Nat.ble (u1 + mc) mx && Nat.ble (u2 + ms) my) then ax_rc ci as h (ax_M g d' mc ms y cc nL ret as h (fun v h' => ax_rk rk v (fun vs => K (pc + 3, L, vs ++ rest, h', u1 + mc, u2 + ms)))) else False
    | none => False
theorem ax_bif3 {a b c : Nat} {d e f : Nat} {X : Prop} (h : bif Nat.ble a b && (Nat.ble c d && Nat.ble e f) then X else False) : (a ≤ b ∧ c ≤ d ∧ e ≤ f) ∧ X := by
  cases h1 : Nat.ble a b <;> cases h2 : Nat.ble c d <;> cases h3 : Nat.ble e f <;> rw [h1, h2, h3] at h <;> first | exact h.elim | exact ⟨⟨Nat.le_of_ble_eq_true h1, Nat.le_of_ble_eq_true h2, Nat.le_of_ble_eq_true h3⟩, h⟩
theorem ax_call {p : Program} {e : Env} {s : State} {m : MethodId} {args : Array Value} {below : List Frame} {meth : Method} {c : Code} {R : Room} {cells slots mc' ms' : Nat} {Q : State → Prop} {ls : Array Slot} {rest st0 : List Value} {H : Heap} {locs : List Loc} {Ret' : Option Value → ax_H → Prop} {a : Array Value} (hr : va_Run p g.1 e R s m args below meth c H locs cells slots mc' ms' (F0 m pc ls st0) rest (ax_Q g Ret' a) (ax_A g)) (hS : va_S (ax_A g) s.heap H locs)
    (kk : ∀ (v : Option Value) (h' : ax_H) (H1 : Heap) (locs1 : List Loc), Ret' v h' → ax_P g h' H1 → va_S (ax_A g) s.heap H1 locs1 → W p g.1 e R s m args below meth c H1 locs1 (cells + mc') (slots + ms') Q (F0 m (pc + 3) ls ((v.map (ax_v g)).toList ++ rest))) : W p g.1 e R s m args below meth c H locs cells slots Q (F0 m pc ls st0) := by
  intro T hT X
  obtain ⟨v, st₀, t, T', L, h0, X', hL, e1, e2, ⟨⟨v', h', hv, hp, hb⟩, hz, hk⟩, st⟩ := hr T hT X
  cases hv
  rw [h0] at hz hk
  obtain ⟨t2, a1, b1⟩ := kk v' h' T'.heap (locs ++ L) hp (by rw [e1]; exact hb)
    ⟨Nat.le_trans hS.1 (by rw [e1]; exact hz), fun q h1 h2 => by rw [e1, hk q (Nat.lt_of_lt_of_le h1 hS.1) h2]; exact hS.2.1 q h1 h2, fun q hq => by
      rcases List.mem_append.mp hq with h | h
      · exact hS.2.2 q h
      · exact hL q h⟩ T' rfl X'
  exact ⟨t2, st t2 a1, b1⟩
theorem ax_pre {y : MethodName} {cc' : ByteArray} {nL' : Nat} {ret' : Option FieldType} (hcode : Cond.code y cc' nL' ret' ∈ lw_gd) : ∀ w ∈ (Cond.code y cc' nL' ret' :: lw_gd), w ∈ lw_gd := fun w h => (List.mem_cons.mp h).elim (fun e => e ▸ hcode) id
theorem ax_PreS {p : Program} {s : State} {m : MethodId} {args : Array Value} {meth : Method} {c : Code} {h : ax_H} {H : Heap} {locs : List Loc} {as : List Value} (V : ax_V g cc nL ret own nm p s m args meth c) (hP : ax_P g h H) (hS : va_S (ax_A g) s.heap H locs) : FrameBlind (ax_C g as h) ∧ ∀ U : State, U.heap = H → s.WarmedH U.vm → ax_C g as h (as.map (ax_v g)).toArray U := by
  refine ⟨fun a U f mk q => ?_, fun U hU hW => ?_⟩
  · obtain ⟨q0, q1, q2, q3, q4⟩ := q
    exact ⟨q0, va_K.moved (u := U) (U := U.calling f mk a) (Vm.Alike.refl U.vm) q1, q2, ax_Z_moved (s := U) (U := U.calling f mk a) q3 (Vm.Alike.refl U.vm) (Or.inl rfl) (fun _ _ _ => rfl), q4⟩
  · obtain ⟨-, -, -, -, -, -, -, -, hK, hb, hZ⟩ := V
    exact ⟨rfl, va_K.moved hW.alike hK, by rw [hU]; exact Nat.le_trans hb hS.1, by rw [hU]; exact ax_Z_moved hZ hW.alike (Or.inr hW) (fun a ha hn => hS.2.1 a ha hn), by rw [hU]; exact hP⟩
theorem ax_rmL {d' d nL' : Nat} (h : d' < d) (hn : nL' ≤ 22) (mc' ms' mc ms : Nat) : (ax_rm d' mc' ms').frames + 1 ≤ (ax_rm d mc ms).frames ∧ 8 + (nL' + 11) + (ax_rm d' mc' ms').locals ≤ (ax_rm d mc ms).locals := by
  constructor
  · exact h
  · show 8 + (nL' + 11) + (41 * d' + 32) ≤ 41 * d + 32
    omega
theorem ax_sum (rest : List Value) : ((rest.map (ax_v g)).map fun v => v.category).sum = (rest.map Value.category).sum := by
  rw [List.map_map]
  congr 1
  exact List.map_congr_left (fun v _ => ax_v_cat g v)
/-- a static method -/
theorem ak_invS {d' rk : Nat} (hdl : d' < d) {y : MethodName} {cc' : ByteArray} {nL' n mc' ms' index : Nat} {ret' : Option FieldType} (hn' : nL' ≤ 22) (hl : Cond.methodLink own index y ∈ lw_gd) (hst : Cond.static y ∈ lw_gd) (hi : Cond.initialized y.cls ∈ lw_gd) (hcode : Cond.code y cc' nL' ret' ∈ lw_gd) (hdd : y.cls ≠ "java/lang/invoke/MethodHandle" ∧ y.cls ≠ "java/lang/invoke/VarHandle" ∧ (parseMethodDescriptor y.desc).map (fun d => d.parameters.length) = some n) (hd : decode cc pc = .ok (.invokestatic index, 3)) : ax_ok g cc nL ret own nm d mc ms pc (ao_inv g d' 99 rk y cc' nL' ret' n mc' mc ms' ms) := by
  intro p e s m args below meth c V Ret L st h u1 u2 K ho hK H locs ls hP hS hlr
  dsimp only [ao_inv] at ho
  split at ho
  · rename_i as rest hsp
    obtain ⟨⟨hrest, hc1, hc2⟩, ho⟩ := ax_bif3 ho
    obtain ⟨-, hM⟩ := ax_rc_use ho
    obtain ⟨bs, h1, h2, h3⟩ := ax_sp_eq _ _ _ _ _ hsp
    rw [List.append_nil] at h1
    subst h1
    refine ax_call (mc' := mc') (ms' := ms') (rest := rest.map (ax_v g)) (va_runS (As := as.map (ax_v g)) (n := n) ⟨V.1, V.2.1, V.2.2.2.2.1, V.2.2.2.2.2.1, V.2.2.2.2.2.2.2.1⟩ hM (va_cwS n V.2.2.2.2.2.2.2.1 (ax_gi ?_) rfl rfl rfl hdd (ax_rmL hdl hn' mc' ms' mc ms)) (ax_PreS V hP hS) rfl (by rw [List.length_map]; exact h2) hlr.1 (by show List.map (ax_v g) st = _; rw [h3, List.map_append, List.map_reverse]) (by show 0 + _ ≤ 8; rw [Nat.zero_add, ax_sum]; exact hrest) hd ⟨hc1, hc2⟩) hS ?_
    · intro w hw
      rcases List.mem_append.mp hw with hw | hw
      · simp only [List.mem_cons, List.not_mem_nil, or_false] at hw
        rcases hw with rfl | rfl | rfl
        · exact hl
        · exact hst
        · exact hi
      · exact ax_pre hcode w hw
    · intro v h' H1 locs1 hR hP1 hS1
      have := hK _ (ax_rk_use hR) H1 locs1 ls hP1 hS1 hlr
      cases v <;> exact this
  · exact ho.elim
end
end

section
section
variable {g : ax_G} {cc : ByteArray} {nL : Nat} {ret : Option FieldType} {own nm : String} {d mc ms pc : Nat}
/-- a method of an object -/
theorem ak_invV {d' rk : Nat} (hdl : d' < d) {y : MethodName} {cc' : ByteArray} {nL' n mc' ms' index ci N : Nat} {T : u_T} {ret' : Option FieldType} (hn' : nL' ≤ 22) (hci : ci < 11) (hcl : vwCl[ci]? = some (y.cls, T, N)) (hl : Cond.methodLink own index y ∈ lw_gd) (him : Cond.instanceMethod y ∈ lw_gd) (hsel : Cond.selects y.cls y y ∈ lw_gd) (hi : Cond.initialized y.cls ∈ lw_gd) (hcode : Cond.code y cc' nL' ret' ∈ lw_gd) (hdd : y.cls ≠ "java/lang/invoke/MethodHandle" ∧ y.cls ≠ "java/lang/invoke/VarHandle" ∧ (parseMethodDescriptor y.desc).map (fun d => d.parameters.length) = some n) (hd : decode cc pc = .ok (.invokevirtual index, 3)) : ax_ok g cc nL ret own nm d mc ms pc (ao_inv g d' ci rk y cc' nL' ret' (n + 1) mc' mc ms' ms) := by
  intro p e s m args below meth c V Ret L st h u1 u2 K ho hK H locs ls hP hS hlr
  dsimp only [ao_inv] at ho
  split at ho
  · rename_i as rest hsp
    obtain ⟨⟨hrest, hc1, hc2⟩, ho⟩ := ax_bif3 ho
    obtain ⟨hrc, hM⟩ := ax_rc_use ho
    obtain ⟨bs, h1, h2, h3⟩ := ax_sp_eq _ _ _ _ _ hsp
    rw [List.append_nil] at h1
    subst h1
    obtain ⟨a, As, rfl, hsa⟩ := hrc.resolve_left (by omega)
    obtain ⟨ha, hs, -⟩ := ax_s_lt hsa (by omega)
    have hpre := ax_PreS (as := .ref a :: As) V hP hS
    have hrecv := va_recv V.2.2.2.2.2.2.2.2.1 hP.1 hcl (q0 := a) (a := g.2.1 + a) (fs := ax_fl g h (ax_ft ci) a) ((ax_w_get ha).trans (by rw [ax_e_obj hs hci]))
    have hvr := ax_vr hP ha
    have hmap : (Value.ref a :: As).map (ax_v g) = .ref (g.2.1 + a) :: As.map (ax_v g) := by rw [List.map_cons, hvr]
    rw [hmap] at hpre
    refine ax_call (mc' := mc') (ms' := ms') (rest := rest.map (ax_v g)) (va_runV (C := y.cls) (b := g.2.1 + a) (As := As.map (ax_v g)) (n := n) ⟨V.1, V.2.1, V.2.2.2.2.1, V.2.2.2.2.2.1, V.2.2.2.2.2.2.2.1⟩ hM (cwV n V.2.2.2.2.2.2.2.1 (ax_gi ?_) rfl rfl rfl ⟨rfl, hdd⟩ (ax_rmL hdl hn' mc' ms' mc ms)) ⟨hpre.1, hrecv, hpre.2⟩ rfl (by rw [List.length_map]; simpa using h2) hlr.1 (by show List.map (ax_v g) st = _; rw [h3, List.map_append, List.map_reverse, hmap, List.reverse_cons, List.append_assoc]; rfl) (by show 0 + _ ≤ 8; rw [Nat.zero_add, ax_sum]; exact hrest) hd ⟨hc1, hc2⟩) hS ?_
    · intro w hw
      rcases List.mem_append.mp hw with hw | hw
      · simp only [List.mem_cons, List.not_mem_nil, or_false] at hw
        rcases hw with rfl | rfl | rfl | rfl
        · exact hl
        · exact him
        · exact hsel
        · exact hi
      · exact ax_pre hcode w hw
    · intro v h' H1 locs1 hR hP1 hS1
      have := hK _ (ax_rk_use hR) H1 locs1 ls hP1 hS1 hlr
      cases v <;> exact this
  · exact ho.elim
/-- a constructor of an object -/
theorem ak_invI {d' rk : Nat} (hdl : d' < d) {y : MethodName} {cc' : ByteArray} {nL' n mc' ms' index ci : Nat} (hn' : nL' ≤ 22) (hci : ci < 11) (hl : Cond.methodLink own index y ∈ lw_gd) (him : Cond.instanceMethod y ∈ lw_gd) (hi : Cond.initialized y.cls ∈ lw_gd) (hcode : Cond.code y cc' nL' none ∈ lw_gd) (hnm : y.name = "<init>") (hdd : y.cls ≠ "java/lang/invoke/MethodHandle" ∧ y.cls ≠ "java/lang/invoke/VarHandle" ∧ (parseMethodDescriptor y.desc).map (fun d => d.parameters.length) = some n) (hd : decode cc pc = .ok (.invokespecial index, 3)) : ax_ok g cc nL ret own nm d mc ms pc (ao_inv g d' ci rk y cc' nL' none (n + 1) mc' mc ms' ms) := by
  intro p e s m args below meth c V Ret L st h u1 u2 K ho hK H locs ls hP hS hlr
  dsimp only [ao_inv] at ho
  split at ho
  · rename_i as rest hsp
    obtain ⟨⟨hrest, hc1, hc2⟩, ho⟩ := ax_bif3 ho
    obtain ⟨hrc, hM⟩ := ax_rc_use ho
    obtain ⟨bs, h1, h2, h3⟩ := ax_sp_eq _ _ _ _ _ hsp
    rw [List.append_nil] at h1
    subst h1
    obtain ⟨a, As, rfl, hsa⟩ := hrc.resolve_left (by omega)
    obtain ⟨ha, hs, -⟩ := ax_s_lt hsa (by omega)
    have hpre := ax_PreS (as := .ref a :: As) V hP hS
    have hvr := ax_vr hP ha
    have hmap : (Value.ref a :: As).map (ax_v g) = .ref (g.2.1 + a) :: As.map (ax_v g) := by rw [List.map_cons, hvr]
    rw [hmap] at hpre
    have ht := V.2.2.2.2.2.2.2.1
    refine ax_call (mc' := mc') (ms' := ms') (rest := rest.map (ax_v g)) (va_runI (b := g.2.1 + a) (As := As.map (ax_v g)) (n := n) ⟨V.1, V.2.1, V.2.2.2.2.1, V.2.2.2.2.2.1, ht⟩ hM (cwI n ht (ax_gi (ax_pre hcode)) rfl rfl rfl (ht _ hi) (ht _ hl) (ht _ him) hnm hdd (ax_rmL hdl hn' mc' ms' mc ms)) hpre rfl (by rw [List.length_map]; simpa using h2) hlr.1 (by show List.map (ax_v g) st = _; rw [h3, List.map_append, List.map_reverse, hmap, List.reverse_cons, List.append_assoc]; rfl) (by show 0 + _ ≤ 8; rw [Nat.zero_add, ax_sum]; exact hrest) hd ⟨hc1, hc2⟩) hS ?_
    intro v h' H1 locs1 hR hP1 hS1
    have := hK _ (ax_rk_use hR) H1 locs1 ls hP1 hS1 hlr
    cases v <;> exact this
  · exact ho.elim
/-- a nest mate's private constructor -/
theorem ak_invIN {d' rk : Nat} (hdl : d' < d) {y : MethodName} {host : String} {cc' : ByteArray} {nL' n mc' ms' index ci : Nat} (hn' : nL' ≤ 22) (hci : ci < 11) (hl : (own, index, y, host) ∈ ax_nm) (him : Cond.instanceMethod y ∈ lw_gd) (hi : Cond.initialized y.cls ∈ lw_gd) (hcode : Cond.code y cc' nL' none ∈ lw_gd) (hnm : y.name = "<init>") (hdd : y.cls ≠ "java/lang/invoke/MethodHandle" ∧ y.cls ≠ "java/lang/invoke/VarHandle" ∧ (parseMethodDescriptor y.desc).map (fun d => d.parameters.length) = some n) (hd : decode cc pc = .ok (.invokespecial index, 3)) : ax_ok g cc nL ret own nm d mc ms pc (ao_inv g d' ci rk y cc' nL' none (n + 1) mc' mc ms' ms) := by
  intro p e s m args below meth c V Ret L st h u1 u2 K ho hK H locs ls hP hS hlr
  dsimp only [ao_inv] at ho
  split at ho
  · rename_i as rest hsp
    obtain ⟨⟨hrest, hc1, hc2⟩, ho⟩ := ax_bif3 ho
    obtain ⟨hrc, hM⟩ := ax_rc_use ho
    obtain ⟨bs, h1, h2, h3⟩ := ax_sp_eq _ _ _ _ _ hsp
    rw [List.append_nil] at h1
    subst h1
    obtain ⟨a, As, rfl, hsa⟩ := hrc.resolve_left (by omega)
    obtain ⟨ha, hs, -⟩ := ax_s_lt hsa (by omega)
    have hpre := ax_PreS (as := .ref a :: As) V hP hS
    have hvr := ax_vr hP ha
    have hmap : (Value.ref a :: As).map (ax_v g) = .ref (g.2.1 + a) :: As.map (ax_v g) := by rw [List.map_cons, hvr]
    rw [hmap] at hpre
    have ht := V.2.2.2.2.2.2.2.1
    have hnw : va_Nw (.methodLinkNest own index y host) s := V.2.2.2.2.2.2.2.2.2.2.2.2.2.2.2.2.2.1 _ hl
    refine ax_call (mc' := mc') (ms' := ms') (rest := rest.map (ax_v g)) (va_runIN (b := g.2.1 + a) (As := As.map (ax_v g)) (n := n) ⟨V.1, V.2.1, V.2.2.2.2.1, V.2.2.2.2.2.1, ht⟩ hM ⟨va_cnB n ht (ax_gi (ax_pre hcode)) rfl rfl rfl hnw (ht _ hi) hdd (ax_rmL hdl hn' mc' ms' mc ms), hnm, ht _ him⟩ hpre rfl (by rw [List.length_map]; simpa using h2) hlr.1 (by show List.map (ax_v g) st = _; rw [h3, List.map_append, List.map_reverse, hmap, List.reverse_cons, List.append_assoc]; rfl) (by show 0 + _ ≤ 8; rw [Nat.zero_add, ax_sum]; exact hrest) hd ⟨hc1, hc2⟩) hS ?_
    intro v h' H1 locs1 hR hP1 hS1
    have := hK _ (ax_rk_use hR) H1 locs1 ls hP1 hS1 hlr
    cases v <;> exact this
  · exact ho.elim
/-! arrays -/
def ao_iald : ax_O := fun _ σ K => match σ with
  | (pc, L, st, h, u1, u2) => match st with
    | .int i :: .ref a :: r => (ax_s h a).1 = 11 ∧ vp_in i (ax_s h a).2 ∧ K (pc + 1, L, .int (ax_i h a i.toNatClampNeg) :: r, h, u1, u2)
    | _ => False
def ao_bald (kd : Nat) : ax_O := fun _ σ K => match σ with
  | (pc, L, st, h, u1, u2) => match st with
    | .int i :: .ref a :: r => (ax_s h a).1 = kd ∧ vp_in i (ax_s h a).2 ∧ K (pc + 1, L, .int (ax_i h a i.toNatClampNeg) :: r, h, u1, u2)
    | _ => False
def ao_lald : ax_O := fun _ σ K => match σ with
  | (pc, L, st, h, u1, u2) => match st with
    | .int i :: .ref a :: r => (ax_s h a).1 = 14 ∧ vp_in i (ax_s h a).2 ∧ K (pc + 1, L, .long (ax_l h a i.toNatClampNeg) :: r, h, u1, u2)
    | _ => False
def ao_aald (kd : Nat) : ax_O := fun _ σ K => match σ with
  | (pc, L, st, h, u1, u2) => match st with
    | .int i :: .ref a :: r => (ax_s h a).1 = kd ∧ vp_in i (ax_s h a).2 ∧ (∀ b, ax_r h a i.toNatClampNeg = some b → K (pc + 1, L, .ref b :: r, h, u1, u2)) ∧ (ax_r h a i.toNatClampNeg = none → K (pc + 1, L, .null :: r, h, u1, u2))
    | _ => False
def ao_aaln (kd : Nat) : ax_O := fun _ σ K => match σ with
  | (pc, L, st, h, u1, u2) => match st with
    | .int i :: .ref a :: r => (ax_s h a).1 = kd ∧ vp_in i (ax_s h a).2 ∧ ∃ b, ax_r h a i.toNatClampNeg = some b ∧ K (pc + 1, L, .ref b :: r, h, u1, u2)
    | _ => False
def ao_alen (kd : Nat) : ax_O := fun _ σ K => match σ with
  | (pc, L, st, h, u1, u2) => match st with
    | .ref a :: r => (ax_s h a).1 = kd ∧ K (pc + 1, L, .int (Int32.ofNat (ax_s h a).2) :: r, h, u1, u2)
    | _ => False
theorem ax_arr {h : ax_H} {H : Heap} {a kd : Nat} (hP : ax_P g h H) (hs : (ax_s h a).1 = kd) (h1 : ¬ kd < 11) (h2 : kd < 99) : a < h.1 ∧ (ax_w g h)[a]? = some (g.2.1 + a, .inl (g.2.2.2.2 kd, (ax_s h a).2, ax_c g h a kd)) ∧ ax_v g (.ref a) = .ref (g.2.1 + a) ∧ (h.2.1 a).1 = kd ∧ (h.2.1 a).2 = (ax_s h a).2 := by
  obtain ⟨ha, hs', hl⟩ := ax_s_lt hs h2
  exact ⟨ha, (ax_w_get ha).trans (by rw [ax_e_arr hs' h1, hl]), ax_vr hP ha, hs', hl.symm⟩
theorem ak_iald (hd : decode cc pc = .ok (.iaload, 1)) : ax_ok g cc nL ret own nm d mc ms pc ao_iald := by
  intro p e s m args below meth c V Ret L st h u1 u2 K ho hK H locs ls hP hS hl
  dsimp only [ao_iald] at ho
  split at ho
  · rename_i i a r
    obtain ⟨ha, hw, hv, -, -⟩ := ax_arr hP ho.1 (by decide) (by decide)
    show W _ _ _ _ _ _ _ _ _ _ _ _ _ _ _ (F0 m pc ls (Value.int i :: ax_v g (.ref a) :: r.map (ax_v g)))
    rw [hv]
    exact va_iald V.1 V.2.1 V.2.2.2.2.2.2.2.2.1 hP.1 a 0 hw rfl ho.2.1 hd (hK _ ho.2.2 H locs ls hP hS hl)
  · exact ho.elim
theorem ak_bald (hd : decode cc pc = .ok (.baload, 1)) : ax_ok g cc nL ret own nm d mc ms pc (ao_bald 12) := by
  intro p e s m args below meth c V Ret L st h u1 u2 K ho hK H locs ls hP hS hl
  dsimp only [ao_bald] at ho
  split at ho
  · rename_i i a r
    obtain ⟨ha, hw, hv, -, -⟩ := ax_arr hP ho.1 (by decide) (by decide)
    show W _ _ _ _ _ _ _ _ _ _ _ _ _ _ _ (F0 m pc ls (Value.int i :: ax_v g (.ref a) :: r.map (ax_v g)))
    rw [hv]
    exact va_bald V.1 V.2.1 V.2.2.2.2.2.2.2.2.1 hP.1 a 1 hw rfl ho.2.1 hd (hK _ ho.2.2 H locs ls hP hS hl)
  · exact ho.elim
theorem ak_zald (hd : decode cc pc = .ok (.baload, 1)) : ax_ok g cc nL ret own nm d mc ms pc (ao_bald 13) := by
  intro p e s m args below meth c V Ret L st h u1 u2 K ho hK H locs ls hP hS hl
  dsimp only [ao_bald] at ho
  split at ho
  · rename_i i a r
    obtain ⟨ha, hw, hv, -, -⟩ := ax_arr hP ho.1 (by decide) (by decide)
    show W _ _ _ _ _ _ _ _ _ _ _ _ _ _ _ (F0 m pc ls (Value.int i :: ax_v g (.ref a) :: r.map (ax_v g)))
    rw [hv]
    exact va_zald V.1 V.2.1 V.2.2.2.2.2.2.2.2.1 hP.1 a 2 hw rfl ho.2.1 hd (hK _ ho.2.2 H locs ls hP hS hl)
  · exact ho.elim
theorem ak_lald (hd : decode cc pc = .ok (.laload, 1)) : ax_ok g cc nL ret own nm d mc ms pc ao_lald := by
  intro p e s m args below meth c V Ret L st h u1 u2 K ho hK H locs ls hP hS hl
  dsimp only [ao_lald] at ho
  split at ho
  · rename_i i a r
    obtain ⟨ha, hw, hv, -, -⟩ := ax_arr hP ho.1 (by decide) (by decide)
    show W _ _ _ _ _ _ _ _ _ _ _ _ _ _ _ (F0 m pc ls (Value.int i :: ax_v g (.ref a) :: r.map (ax_v g)))
    rw [hv]
    exact va_lald V.1 V.2.1 V.2.2.2.2.2.2.2.2.1 hP.1 a 3 hw rfl ho.2.1 hd (hK _ ho.2.2 H locs ls hP hS hl)
  · exact ho.elim
theorem ak_aald {kd t0 : Nat} {C : String} (h1 : ¬ kd < 15) (h2 : kd < 99) (ht : (ax_t g)[t0]? = some (g.2.2.2.2 kd, .object C)) (hd : decode cc pc = .ok (.aaload, 1)) : ax_ok g cc nL ret own nm d mc ms pc (ao_aald kd) := by
  intro p e s m args below meth c V Ret L st h u1 u2 K ho hK H locs ls hP hS hl
  dsimp only [ao_aald] at ho
  split at ho
  · rename_i i a r
    obtain ⟨ha, hw, hv, -, -⟩ := ax_arr hP ho.1 (by omega) h2
    show W _ _ _ _ _ _ _ _ _ _ _ _ _ _ _ (F0 m pc ls (Value.int i :: ax_v g (.ref a) :: r.map (ax_v g)))
    rw [hv]
    have hc : ax_c g h a kd = .inr (.inr (.inr (.inr (fun j => (ax_r h a j).map (ax_ad g))))) := by unfold ax_c; rw [if_neg (by omega), if_neg (by omega)]
    rw [hc] at hw
    refine va_aldq V.1 V.2.1 V.2.2.2.2.2.2.2.2.1 hP.1 a t0 hw ht ho.2.1 hd ?_
    cases hr : ax_r h a i.toNatClampNeg with
    | none => exact hK _ (ho.2.2.2 hr) H locs ls hP hS hl
    | some b => exact hK _ (ho.2.2.1 b hr) H locs ls hP hS hl
  · exact ho.elim
theorem ak_aaln {kd t0 : Nat} {C : String} (h1 : ¬ kd < 15) (h2 : kd < 99) (ht : (ax_t g)[t0]? = some (g.2.2.2.2 kd, .object C)) (hd : decode cc pc = .ok (.aaload, 1)) : ax_ok g cc nL ret own nm d mc ms pc (ao_aaln kd) := by
  intro p e s m args below meth c V Ret L st h u1 u2 K ho hK H locs ls hP hS hl
  dsimp only [ao_aaln] at ho
  split at ho
  · rename_i i a r
    obtain ⟨ho1, hin, b, hr, ho⟩ := ho
    refine ak_aald h1 h2 ht hd p e s m args below meth c V Ret L _ h u1 u2 K ?_ hK H locs ls hP hS hl
    exact ⟨ho1, hin, fun b' hb' => by rw [hr] at hb'; cases hb'; exact ho, fun hn => by rw [hr] at hn; cases hn⟩
  · exact ho.elim
theorem ak_alen {kd t0 : Nat} {ty : FieldType} (h1 : ¬ kd < 11) (h2 : kd < 99) (ht : (ax_t g)[t0]? = some (g.2.2.2.2 kd, ty)) (hd : decode cc pc = .ok (.arraylength, 1)) : ax_ok g cc nL ret own nm d mc ms pc (ao_alen kd) := by
  intro p e s m args below meth c V Ret L st h u1 u2 K ho hK H locs ls hP hS hl
  dsimp only [ao_alen] at ho
  split at ho
  · rename_i a r
    obtain ⟨ha, hw, hv, -, -⟩ := ax_arr hP ho.1 h1 h2
    show W _ _ _ _ _ _ _ _ _ _ _ _ _ _ _ (F0 m pc ls (ax_v g (.ref a) :: r.map (ax_v g)))
    rw [hv]
    exact va_alen V.1 V.2.1 V.2.2.2.2.2.2.2.2.1 hP.1 a t0 hw ht rfl hd (hK _ ho.2 H locs ls hP hS hl)
  · exact ho.elim
def ao_iast : ax_O := fun _ σ K => match σ with
  | (pc, L, st, h, u1, u2) => match st with
    | .int x :: .int i :: .ref a :: r => (ax_s h a).1 = 11 ∧ vp_in i (ax_s h a).2 ∧ K (pc + 1, L, r, ax_pi h a i.toNatClampNeg x, u1, u2)
    | _ => False
def ao_bast : ax_O := fun _ σ K => match σ with
  | (pc, L, st, h, u1, u2) => match st with
    | .int x :: .int i :: .ref a :: r => (ax_s h a).1 = 12 ∧ vp_in i (ax_s h a).2 ∧ K (pc + 1, L, r, ax_pi h a i.toNatClampNeg x.toInt8.toInt32, u1, u2)
    | _ => False
def ao_last : ax_O := fun _ σ K => match σ with
  | (pc, L, st, h, u1, u2) => match st with
    | .long x :: .int i :: .ref a :: r => (ax_s h a).1 = 14 ∧ vp_in i (ax_s h a).2 ∧ K (pc + 1, L, r, ax_pl h a i.toNatClampNeg x, u1, u2)
    | _ => False
theorem ax_in_size {i : Int32} {n : Nat} {cA : ClassId} {f : Nat → Value} (h : vp_in i n) : ¬ (i < 0 ∨ (arrV cA n f).slots.size ≤ i.toNatClampNeg) := by rw [arrV_size]; exact h
theorem ak_iast (hd : decode cc pc = .ok (.iastore, 1)) : ax_ok g cc nL ret own nm d mc ms pc ao_iast := by
  intro p e s m args below meth c V Ret L st h u1 u2 K ho hK H locs ls hP hS hl
  dsimp only [ao_iast] at ho
  split at ho
  · rename_i x i a r
    obtain ⟨ha, hw, hv, hk, hln⟩ := ax_arr hP ho.1 (by decide) (by decide)
    show W _ _ _ _ _ _ _ _ _ _ _ _ _ _ _ (F0 m pc ls (Value.int x :: .int i :: ax_v g (.ref a) :: r.map (ax_v g)))
    rw [hv]
    have hat : H[g.2.1 + a]? = some (arrV (g.2.2.2.2 11) (ax_s h a).2 (fun j => .int (ax_i h a j))) := hP.1 a _ hw
    refine W.iast V.1 V.2.1 hat ((V.2.2.2.2.2.2.2.2.1.2 0 _ rfl).1 _ _) (fun q => by cases q) (ax_in_size ho.2.1) rfl rfl hd fun H1 e1 z oq => ?_
    refine hK _ ho.2.2 H1 _ ls (ax_P_set hP rfl (fun b hb => ax_e_cong rfl (ax_u_ne hb) rfl rfl) ha ?_ z oq) (hS.put z oq (Nat.le_add_right _ _)) hl
    rw [ax_e_arr (h := ax_pi h a i.toNatClampNeg x) (kd := 11) hk (by decide)]
    show H1[g.2.1 + a]? = some (arrV (g.2.2.2.2 11) (h.2.1 a).2 (fun j => .int (ax_u h.2.2.1 a i.toNatClampNeg x a j)))
    rw [e1, arrV_store, hln, ax_u_eq]
    congr 2
    funext q
    by_cases hq : q = i.toNatClampNeg
    · subst hq
      simp [updV]
    · simp [updV, hq, ax_i]
  · exact ho.elim
theorem ak_bast (hd : decode cc pc = .ok (.bastore, 1)) : ax_ok g cc nL ret own nm d mc ms pc ao_bast := by
  intro p e s m args below meth c V Ret L st h u1 u2 K ho hK H locs ls hP hS hl
  dsimp only [ao_bast] at ho
  split at ho
  · rename_i x i a r
    obtain ⟨ha, hw, hv, hk, hln⟩ := ax_arr hP ho.1 (by decide) (by decide)
    show W _ _ _ _ _ _ _ _ _ _ _ _ _ _ _ (F0 m pc ls (Value.int x :: .int i :: ax_v g (.ref a) :: r.map (ax_v g)))
    rw [hv]
    have hat : H[g.2.1 + a]? = some (arrV (g.2.2.2.2 12) (ax_s h a).2 (fun j => .int (ax_i h a j))) := hP.1 a _ hw
    refine W.bast V.1 V.2.1 hat ((V.2.2.2.2.2.2.2.2.1.2 1 _ rfl).1 _ _) (fun q => by cases q) (ax_in_size ho.2.1) rfl rfl hd fun H1 e1 z oq => ?_
    refine hK _ ho.2.2 H1 _ ls (ax_P_set hP rfl (fun b hb => ax_e_cong rfl (ax_u_ne hb) rfl rfl) ha ?_ z oq) (hS.put z oq (Nat.le_add_right _ _)) hl
    rw [ax_e_arr (h := ax_pi h a i.toNatClampNeg x.toInt8.toInt32) (kd := 12) hk (by decide)]
    show H1[g.2.1 + a]? = some (arrV (g.2.2.2.2 12) (h.2.1 a).2 (fun j => .int (ax_u h.2.2.1 a i.toNatClampNeg x.toInt8.toInt32 a j)))
    rw [e1, arrV_store, hln, ax_u_eq]
    congr 2
    funext q
    by_cases hq : q = i.toNatClampNeg
    · subst hq
      simp [updV]
      rfl
    · simp [updV, hq, ax_i]
  · exact ho.elim
theorem ak_last (hd : decode cc pc = .ok (.lastore, 1)) : ax_ok g cc nL ret own nm d mc ms pc ao_last := by
  intro p e s m args below meth c V Ret L st h u1 u2 K ho hK H locs ls hP hS hl
  dsimp only [ao_last] at ho
  split at ho
  · rename_i x i a r
    obtain ⟨ha, hw, hv, hk, hln⟩ := ax_arr hP ho.1 (by decide) (by decide)
    show W _ _ _ _ _ _ _ _ _ _ _ _ _ _ _ (F0 m pc ls (Value.long x :: .int i :: ax_v g (.ref a) :: r.map (ax_v g)))
    rw [hv]
    have hat : H[g.2.1 + a]? = some (arrV (g.2.2.2.2 14) (ax_s h a).2 (fun j => .long (ax_l h a j))) := hP.1 a _ hw
    refine W.last V.1 V.2.1 hat ((V.2.2.2.2.2.2.2.2.1.2 3 _ rfl).1 _ _) (fun q => by cases q) (ax_in_size ho.2.1) rfl rfl hd fun H1 e1 z oq => ?_
    refine hK _ ho.2.2 H1 _ ls (ax_P_set hP rfl (fun b hb => ax_e_cong rfl rfl (ax_u_ne hb) rfl) ha ?_ z oq) (hS.put z oq (Nat.le_add_right _ _)) hl
    rw [ax_e_arr (h := ax_pl h a i.toNatClampNeg x) (kd := 14) hk (by decide)]
    show H1[g.2.1 + a]? = some (arrV (g.2.2.2.2 14) (h.2.1 a).2 (fun j => .long (ax_u h.2.2.2.1 a i.toNatClampNeg x a j)))
    rw [e1, arrV_store, hln, ax_u_eq]
    congr 2
    funext q
    by_cases hq : q = i.toNatClampNeg
    · subst hq
      simp [updV]
    · simp [updV, hq, ax_l]
  · exact ho.elim
/-! the tree of a code -/
def ax_nd (k : Nat) (a b : Nat → ax_O) : Nat → ax_O := fun pc => bif Nat.ble pc k then a pc else b pc
def ax_lf (k : Nat) (o : ax_O) : Nat → ax_O := fun pc => bif Nat.beq pc k then o else ao_no
theorem ax_nd_ok {k : Nat} {a b : Nat → ax_O} (ha : ∀ pc, ax_ok g cc nL ret own nm d mc ms pc (a pc)) (hb : ∀ pc, ax_ok g cc nL ret own nm d mc ms pc (b pc)) : ∀ pc, ax_ok g cc nL ret own nm d mc ms pc (ax_nd k a b pc) := by
  intro pc
  unfold ax_nd
  cases Nat.ble pc k
  · exact hb pc
  · exact ha pc
theorem ax_lf_ok {k : Nat} {o : ax_O} (ho : ax_ok g cc nL ret own nm d mc ms k o) : ∀ pc, ax_ok g cc nL ret own nm d mc ms pc (ax_lf k o pc) := by
  intro pc
  unfold ax_lf
  cases h : Nat.beq pc k
  · exact ak_no
  · rw [Nat.eq_of_beq_eq_true h]
    exact ho
/-- switches -/
def ax_sw (x : Int32) (K : Nat → Prop) (dflt : Nat) : List (Int32 × Nat) → Prop
  | [] => K dflt
  | (v, t) :: r => (x = v → K t) ∧ (¬ x = v → ax_sw x K dflt r)
def ao_sw (ts : List (Int32 × Nat)) (dflt : Nat) : ax_O := fun _ σ K => match σ with
  | (pc, L, st, h, u1, u2) => match st with
    | .int x :: r => ax_sw x (fun t => K (t, L, r, h, u1, u2)) dflt ts
    | _ => False
end
section
variable {g : ax_G} {cc : ByteArray} {nL : Nat} {ret : Option FieldType} {own nm : String} {d mc ms pc : Nat}
/-- the table of a switch out of the listing: each value with its target -/
def ax_swt (pc : Nat) (ps : List (Int × Int)) : List (Int32 × Nat) := ps.map fun q => (Int32.ofInt q.1, ((pc : Int) + q.2).toNat)
theorem ax_i32 {x : Int32} {z : Int} (h1 : -2147483648 ≤ z) (h2 : z < 2147483648) : x = Int32.ofInt z ↔ x.toInt = z := by
  constructor
  · intro h
    rw [h]
    exact Int32.toInt_ofInt_of_le h1 (by omega)
  · intro h
    rw [← h]
    exact (Int32.ofInt_toInt x).symm
theorem ak_table {dflt lo hi : Int} {offs : Array Int} {len dt : Nat} {ts : List (Int32 × Nat)} (hd : decode cc pc = .ok (.tableswitch dflt lo hi offs, len)) (h1 : -2147483648 ≤ lo) (h2 : hi < 2147483648) (hlen : (offs.size : Int) = hi - lo + 1) (hdt : (pc : Int) + dflt = (dt : Int)) (ht : ∀ k, k < offs.size → ∃ (off : Int) (tgt : Nat), offs[k]? = some off ∧ (pc : Int) + off = (tgt : Int) ∧ ts[k]? = some (Int32.ofInt (lo + k), tgt)) (htl : ts.length = offs.size) : ax_ok g cc nL ret own nm d mc ms pc (ao_sw ts dt) := by
  intro p e s m args below meth c V Ret L st h u1 u2 K ho hK H locs ls hP hS hl
  dsimp only [ao_sw] at ho
  split at ho
  · rename_i x r
    have key : ∀ (us : List (Int32 × Nat)) (Kt : Nat → Prop), ax_sw x Kt dt us → (∃ (j t : Nat), us[j]? = some (x, t) ∧ Kt t) ∨ ((∀ (j : Nat) (q : Int32 × Nat), us[j]? = some q → ¬ x = q.1) ∧ Kt dt) := by
      intro us Kt
      induction us with
      | nil => intro h; exact Or.inr ⟨fun j q hj => by simp at hj, h⟩
      | cons q us ih =>
        intro h
        obtain ⟨v, t⟩ := q
        by_cases hx : x = v
        · subst hx
          exact Or.inl ⟨0, t, rfl, h.1 rfl⟩
        · rcases ih (h.2 hx) with ⟨j, t', hj, hk⟩ | ⟨hn, hk⟩
          · exact Or.inl ⟨j + 1, t', by simpa using hj, hk⟩
          · refine Or.inr ⟨fun j q hj => ?_, hk⟩
            cases j with
            | zero => simp at hj; rw [← hj]; exact hx
            | succ j => exact hn j q (by simpa using hj)
    have hb : ∀ k, k < offs.size → -2147483648 ≤ lo + (k : Int) ∧ lo + (k : Int) < 2147483648 := fun k hk => by omega
    rcases key ts _ ho with ⟨j, t, hj, hk⟩ | ⟨hn, hk⟩
    · have hjl : j < offs.size := by rw [← htl]; exact (List.getElem?_eq_some_iff.mp hj).1
      obtain ⟨off, tgt, ho1, ho2, ho3⟩ := ht j hjl
      rw [hj] at ho3
      have he : x = Int32.ofInt (lo + j) ∧ t = tgt := by
        have := Option.some.inj ho3
        exact ⟨congrArg Prod.fst this, congrArg Prod.snd this⟩
      have hx := (ax_i32 (hb j hjl).1 (hb j hjl).2).mp he.1
      refine lv_tableIn (off := off) (tgt := t) V.1 V.2.1 hd (by omega) (by omega) ?_ (by rw [he.2]; exact ho2) (hK _ hk H locs ls hP hS hl)
      rw [hx, show (lo + (j : Int) - lo).toNat = j by omega]
      exact ho1
    · refine lv_tableOut V.1 V.2.1 hd ?_ hdt (hK _ hk H locs ls hP hS hl)
      by_cases h3 : x.toInt < lo
      · exact Or.inl h3
      · by_cases h4 : hi < x.toInt
        · exact Or.inr h4
        · exfalso
          have hkl : (x.toInt - lo).toNat < offs.size := by omega
          obtain ⟨off, tgt, -, -, ho3⟩ := ht _ hkl
          refine hn _ _ ho3 ((ax_i32 (hb _ hkl).1 (hb _ hkl).2).mpr ?_)
          omega
  · exact ho.elim
end
section
variable {g : ax_G} {cc : ByteArray} {nL : Nat} {ret : Option FieldType} {own nm : String} {d mc ms pc : Nat}
def ax_swc (pc : Nat) (lo : Int) (offs : Array Int) (ts : List (Int32 × Nat)) : Bool := (List.range offs.size).all fun k => match offs[k]?, ts[k]? with
  | some off, some q => decide (q.1 = Int32.ofInt (lo + (k : Int))) && decide ((pc : Int) + off = (q.2 : Int))
  | _, _ => false
theorem ak_tsw {dflt lo hi : Int} {offs : Array Int} {len dt : Nat} {ts : List (Int32 × Nat)} (hd : decode cc pc = .ok (.tableswitch dflt lo hi offs, len)) (h1 : -2147483648 ≤ lo) (h2 : hi < 2147483648) (hlen : (offs.size : Int) = hi - lo + 1) (hdt : (pc : Int) + dflt = (dt : Int)) (ht : ax_swc pc lo offs ts = true) (htl : ts.length = offs.size) : ax_ok g cc nL ret own nm d mc ms pc (ao_sw ts dt) := by
  refine ak_table hd h1 h2 hlen hdt (fun k hk => ?_) htl
  have := List.all_eq_true.mp ht k (List.mem_range.mpr hk)
  split at this
  · rename_i off q h3 h4
    simp only [Bool.and_eq_true, decide_eq_true_eq] at this
    refine ⟨off, q.2, h3, this.2, ?_⟩
    rw [h4, ← this.1]
  · cases this
theorem ax_sw_off {x : Int32} {Kt : Nat → Prop} {dt : Nat} {dflt : Int} (hdt : (pc : Int) + dflt = (dt : Int)) : ∀ (ps : List (Int × Int)) (ts : List (Int32 × Nat)), ts.length = ps.length → ((ps.zip ts).all fun q => decide (q.2.1.toInt = q.1.1) && decide ((pc : Int) + q.1.2 = (q.2.2 : Int))) = true → ax_sw x Kt dt ts → ∃ (off : Int) (tgt : Nat), Op.lookupswitch.offset ps dflt x.toInt = off ∧ (pc : Int) + off = (tgt : Int) ∧ Kt tgt := by
  intro ps
  induction ps with
  | nil =>
    intro ts hl _ h
    cases ts with
    | nil => exact ⟨dflt, dt, rfl, hdt, h⟩
    | cons _ _ => cases hl
  | cons q ps ih =>
    intro ts hl hz h
    cases ts with
    | nil => cases hl
    | cons t ts =>
      obtain ⟨a, o⟩ := q
      obtain ⟨v, tg⟩ := t
      simp only [List.zip_cons_cons, List.all_cons, Bool.and_eq_true, decide_eq_true_eq] at hz
      by_cases hx : x = v
      · subst hx
        refine ⟨o, tg, ?_, hz.1.2, h.1 rfl⟩
        rw [Op.lookupswitch.offset_cons, if_pos hz.1.1.symm]
      · rw [lv_osw hx hz.1.1]
        exact ih ts (by simpa using hl) hz.2 (h.2 hx)
theorem ak_look {dflt : Int} {ps : Array (Int × Int)} {len dt : Nat} {ts : List (Int32 × Nat)} (hd : decode cc pc = .ok (.lookupswitch dflt ps, len)) (hp : (ps.toList.zip (ps.toList.drop 1)).all (fun (a, next) => a.1 < next.1) = true) (hdt : (pc : Int) + dflt = (dt : Int)) (htl : ts.length = ps.toList.length) (ht : ((ps.toList.zip ts).all fun q => decide (q.2.1.toInt = q.1.1) && decide ((pc : Int) + q.1.2 = (q.2.2 : Int))) = true) : ax_ok g cc nL ret own nm d mc ms pc (ao_sw ts dt) := by
  intro p e s m args below meth c V Ret L st h u1 u2 K ho hK H locs ls hP hS hl
  dsimp only [ao_sw] at ho
  split at ho
  · rename_i x r
    obtain ⟨off, tgt, h1, h2, h3⟩ := ax_sw_off hdt _ _ htl ht ho
    exact lv_lookup V.1 V.2.1 hd hp h1 h2 (hK _ h3 H locs ls hP hS hl)
  · exact ho.elim
/-- many steps at once: from σ to the next places that 'cut' names -/
def ax_run (tbl : Nat → ax_O) (Ret : Option Value → ax_H → Prop) (A : ax_S → Prop) (cut : Nat → Bool) : Nat → ax_S → Prop
  | 0, σ => A σ
  | n + 1, σ => bif cut σ.1 then A σ else tbl σ.1 Ret σ (ax_run tbl Ret A cut n)
def ax_HA (tbl : Nat → ax_O) (Ret : Option Value → ax_H → Prop) (A : ax_S → Prop) : Prop := ∀ (σ : ax_S) (K : ax_S → Prop), tbl σ.1 Ret σ K → (∀ σ', K σ' → A σ') → A σ
theorem ax_go {tbl : Nat → ax_O} {Ret : Option Value → ax_H → Prop} {A : ax_S → Prop} (hA : ax_HA tbl Ret A) (cut : Nat → Bool) : ∀ (n : Nat) (σ : ax_S), ax_run tbl Ret A cut n σ → A σ := by
  intro n
  induction n with
  | zero => intro σ h; exact h
  | succ n ih =>
    intro σ h
    unfold ax_run at h
    cases hc : cut σ.1 with
    | true => rw [hc] at h; exact h
    | false => rw [hc] at h; exact hA σ _ h ih
theorem ax_go1 {tbl : Nat → ax_O} {Ret : Option Value → ax_H → Prop} {A : ax_S → Prop} (hA : ax_HA tbl Ret A) (cut : Nat → Bool) (n : Nat) (σ : ax_S) (h : tbl σ.1 Ret σ (ax_run tbl Ret A cut n)) : A σ := hA σ _ h (ax_go hA cut n)
end
end

section
section
variable {g : ax_G} {cc : ByteArray} {nL : Nat} {ret : Option FieldType} {own nm : String} {d mc ms pc : Nat}
def ao_obj : ax_O := fun _ σ K => match σ with
  | (pc, L, st, h, u1, u2) => match st with
    | .ref _ :: r => (r.map Value.category).sum ≤ 8 ∧ K (pc + 3, L, r, h, u1, u2)
    | _ => False
theorem ak_obj {index : Nat} (hd1 : 0 < d) (hl : Cond.methodLink own index Lib.objectInit ∈ lw_gd) (hi : Cond.instanceMethod Lib.objectInit ∈ lw_gd) (hc : Cond.code Lib.objectInit ⟨#[0xb1]⟩ 1 none ∈ lw_gd) (hd : decode cc pc = .ok (.invokespecial index, 3)) : ax_ok g cc nL ret own nm d mc ms pc ao_obj := by
  intro p e s m args below meth c V Ret L st h u1 u2 K ho hK H locs ls hP hS hlr
  dsimp only [ao_obj] at ho
  split at ho
  · have ht := V.2.2.2.2.2.2.2.1
    refine W.objInit V.1 V.2.1 V.2.2.2.2.2.1 (ht _ hl) (ht _ hi) (ht _ hc) rfl (hlr.1.trans V.2.2.2.2.1.symm) rfl hd hd1 ?_ (hK _ ho.2 H locs ls hP hS hlr)
    show 0 + _ + 12 ≤ 41 * d + 32
    rw [Nat.zero_add, ax_sum]
    have := ho.1
    omega
  · exact ho.elim
/-- the world with one cell more -/
theorem ax_P_new {h : ax_H} {H H1 : Heap} {kd ln : Nat} (hP : ax_P g h H) (hx : va_at g.2.2.2.1 vwCl (g.2.1 + h.1, ax_e g (ax_nw h kd ln) h.1) H1) (z : H1.size = H.size + 1) (oq : ∀ q : Nat, q < H.size → H1[q]? = H[q]?) (hn : h.1 + 1 < 1000000) : ax_P g (ax_nw h kd ln) H1 := by
  have hold : ∀ b, b < h.1 → ax_e g (ax_nw h kd ln) b = ax_e g h b := fun b hb => ax_e_cong (if_neg (Nat.ne_of_lt hb)) (if_neg (Nat.ne_of_lt hb)) (if_neg (Nat.ne_of_lt hb)) (if_neg (Nat.ne_of_lt hb))
  refine ⟨fun k q hk => ?_, by rw [z, hP.2.1]; rfl, hn⟩
  by_cases hk1 : k < h.1
  · rw [ax_w_get (Nat.lt_succ_of_lt hk1)] at hk
    cases hk
    rw [hold k hk1]
    exact (ax_at hP hk1).kept (oq _ (by rw [hP.2.1]; omega))
  · have hlt : k < h.1 + 1 := by
      have := (List.getElem?_eq_some_iff.mp hk).1
      unfold ax_w at this
      rw [List.length_map, List.length_range] at this
      exact this
    have : k = h.1 := by omega
    subst this
    rw [ax_w_get (h := ax_nw h kd ln) hlt] at hk
    cases hk
    exact hx
theorem ax_S_new {s : State} {H H1 : Heap} {locs : List Loc} (hS : va_S (ax_A g) s.heap H locs) (z : H1.size = H.size + 1) (oq : ∀ q : Nat, q < H.size → H1[q]? = H[q]?) : va_S (ax_A g) s.heap H1 locs := ⟨Nat.le_trans hS.1 (by omega), fun x h1 h2 => (oq x (Nat.lt_of_lt_of_le h1 hS.1)).trans (hS.2.1 x h1 h2), hS.2.2⟩
theorem ax_vn {h : ax_H} (hn : h.1 + 1 < 1000000) : ax_v g (.ref h.1) = .ref (g.2.1 + h.1) := by
  show Value.ref (ax_ad g h.1) = _
  rw [ax_ad_lt (by omega)]
/-- a new object; N: its slots -/
def ao_new (ci N mc ms : Nat) : ax_O := fun _ σ K => match σ with
  | (pc, L, st, h, u1, u2) => (h.1 + 1 < 1000000 ∧ u1 + 1 ≤ mc ∧ u2 + N ≤ ms) ∧ K (pc + 3, L, .ref h.1 :: st, ax_nw h ci 0, u1 + 1, u2 + N)
theorem ak_new {ci N index : Nat} {C : String} {T : u_T} {ty : Nat → FieldType} (hci : ci < 11) (hc : vwCl[ci]? = some (C, T, N)) (hin : ∀ w ∈ u_ws C T N, w ∈ lw_gd) (hty : ∀ k, k < N → parseFieldDescriptor (T k).2.2.1 = some (ty k)) (hdv : ∀ j, j < N → defaultValue (ty j) = vp_V ((ax_ft ci).map fun t => if t = 0 then .int 0 else if t = 1 then .long 0 else .null) j) (hcl : Cond.classLink own index C ∈ lw_gd) (hinst : Cond.instantiable C N ∈ lw_gd) (hini : Cond.initialized C ∈ lw_gd) (hd : decode cc pc = .ok (.new index, 3)) : ax_ok g cc nL ret own nm d mc ms pc (ao_new ci N mc ms) := by
  intro p e s m args below meth c V Ret L st h u1 u2 K ho hK H locs ls hP hS hlr
  dsimp only [ao_new] at ho
  obtain ⟨⟨h0, h1, h2⟩, ho⟩ := ho
  have ht := V.2.2.2.2.2.2.2.1
  have hKn := V.2.2.2.2.2.2.2.2.1.1 ci _ hc
  refine W.newcK V.1 V.2.1 V.2.2.2.2.2.1 (ht _ hcl) (ht _ hinst) (ht _ hini) rfl hd h1 h2 hKn.2.1 rfl fun H1 kC hkC e1 z1 o1 => ?_
  have hfl : ax_fl g (ax_nw h ci 0) (ax_ft ci) h.1 = (ax_ft ci).map fun t => if t = 0 then .int 0 else if t = 1 then .long 0 else .null := by
    apply List.ext_getElem?
    intro k
    cases hk : (ax_ft ci)[k]? with
    | none =>
      rw [List.getElem?_map, hk, List.getElem?_eq_none_iff.mpr (by rw [ax_fl_len]; exact List.getElem?_eq_none_iff.mp hk)]
      rfl
    | some t =>
      rw [ax_fl_get hk, List.getElem?_map, hk]
      show some _ = some _
      have e1 : ax_i (ax_nw h ci 0) h.1 k = 0 := by show (if h.1 = h.1 then (fun _ => (0 : Int32)) else _) k = 0; rw [if_pos rfl]
      have e2 : ax_l (ax_nw h ci 0) h.1 k = 0 := by show (if h.1 = h.1 then (fun _ => (0 : Int64)) else _) k = 0; rw [if_pos rfl]
      have e3 : ax_r (ax_nw h ci 0) h.1 k = none := by show (if h.1 = h.1 then (fun _ => (none : Option Nat)) else _) k = none; rw [if_pos rfl]
      rw [e1, e2, e3]
      rfl
  have hx : va_at g.2.2.2.1 vwCl (g.2.1 + h.1, ax_e g (ax_nw h ci 0) h.1) H1 := by
    rw [ax_e_obj (h := ax_nw h ci 0) (ci := ci) (by show (if h.1 = h.1 then (ci, 0) else _).1 = ci; rw [if_pos rfl]) hci, hfl]
    rw [hP.2.1] at e1
    exact ⟨_, hc, (u_born ty ht hin hKn hkC e1 hty).to hdv⟩
  have := hK _ ho H1 locs ls (ax_P_new hP hx z1 o1 h0) (ax_S_new hS z1 o1) hlr
  have e : ((Value.ref h.1) :: st).map (ax_v g) = .ref H.size :: st.map (ax_v g) := by rw [List.map_cons, ax_vn h0, hP.2.1]
  rw [show ((pc + 3, L, Value.ref h.1 :: st, ax_nw h ci 0, u1 + 1, u2 + N) : ax_S).2.2.1.map (ax_v g) = .ref H.size :: st.map (ax_v g) from e] at this
  exact this
/-- a new array of numbers -/
def ao_newa (kd bt mc ms : Nat) : ax_O := fun _ σ K => match σ with
  | (pc, L, st, h, u1, u2) => match st with
    | .int n :: r => (¬ n < 0) ∧ (h.1 + 1 < 1000000 ∧ u1 + 1 ≤ mc ∧ u2 + n.toNatClampNeg ≤ ms ∧ n.toNatClampNeg * bt ≤ 536870912) ∧ K (pc + 2, L, .ref h.1 :: r, ax_nw h kd n.toNatClampNeg, u1 + 1, u2 + n.toNatClampNeg)
    | _ => False
theorem ax_e_new {h : ax_H} {kd ln : Nat} (hk : ¬ kd < 11) : ax_e g (ax_nw h kd ln) h.1 = .inl (g.2.2.2.2 kd, ln, if kd < 14 then .inl (fun _ => 0) else if kd = 14 then .inr (.inl (fun _ => 0)) else .inr (.inr (.inr (.inr (fun _ => none))))) := by
  have e0 : (ax_nw h kd ln).2.1 h.1 = (kd, ln) := if_pos rfl
  rw [ax_e_arr (kd := kd) (by rw [e0]) hk, e0]
  unfold ax_c
  have e1 : ax_i (ax_nw h kd ln) h.1 = fun _ => 0 := by show (if h.1 = h.1 then (fun _ => (0 : Int32)) else _) = _; rw [if_pos rfl]
  have e2 : ax_l (ax_nw h kd ln) h.1 = fun _ => 0 := by show (if h.1 = h.1 then (fun _ => (0 : Int64)) else _) = _; rw [if_pos rfl]
  have e3 : ax_r (ax_nw h kd ln) h.1 = fun _ => none := by show (if h.1 = h.1 then (fun _ => (none : Option Nat)) else _) = _; rw [if_pos rfl]
  rw [e1, e2, e3]
  rfl
theorem ak_newa {kd t0 bt : Nat} {atype : ArrayType} {ty : FieldType} (hk : ¬ kd < 11) (hk2 : kd < 15) (hty : newarray.typeOf atype = ty) (hbt : componentBytes ty = bt) (hno : ∀ C, ty ≠ .object C) (ht0 : (ax_t g)[t0]? = some (g.2.2.2.2 kd, ty)) (hdf : ∀ cA n, vp_cell cA (n, if kd < 14 then .inl (fun _ => 0) else if kd = 14 then .inr (.inl (fun _ => 0)) else .inr (.inr (.inr (.inr (fun _ => none))))) = arrV cA n (fun _ => defaultValue ty)) (hw : Cond.arrayClass ty ∈ lw_gd) (hd : decode cc pc = .ok (.newarray atype, 2)) : ax_ok g cc nL ret own nm d mc ms pc (ao_newa kd bt mc ms) := by
  intro p e s m args below meth c V Ret L st h u1 u2 K ho hK H locs ls hP hS hlr
  dsimp only [ao_newa] at ho
  split at ho
  · rename_i n r
    obtain ⟨hn, ⟨h0, h1, h2, h3⟩, ho⟩ := ho
    have ht := V.2.2.2.2.2.2.2.1
    subst hty
    subst hbt
    refine va_newaK V.1 V.2.1 (ht _ hw) rfl hd rfl hn rfl h3 h1 h2 rfl fun H1 cA e1 z1 o1 _ hNm => ?_
    have hcA : g.2.2.2.2 kd = cA := by
      have hra := (V.2.2.2.2.2.2.2.2.1.2 t0 _ ht0).2
      have hra' : s.vm.findClass ("[" ++ (newarray.typeOf atype).toString) = some (g.2.2.2.2 kd) := by
        revert hra
        cases atype <;> exact fun q => q
      exact Option.some.inj (hra'.symm.trans hNm)
    have hx : va_at g.2.2.2.1 vwCl (g.2.1 + h.1, ax_e g (ax_nw h kd n.toNatClampNeg) h.1) H1 := by
      rw [ax_e_new hk, hcA]
      show H1[g.2.1 + h.1]? = some (vp_cell cA _)
      rw [hdf, ← hP.2.1]
      exact e1
    have := hK _ ho H1 locs ls (ax_P_new hP hx z1 o1 h0) (ax_S_new hS z1 o1) hlr
    have e : ((Value.ref h.1) :: r).map (ax_v g) = .ref H.size :: r.map (ax_v g) := by rw [List.map_cons, ax_vn h0, hP.2.1]
    rw [show ((pc + 2, L, Value.ref h.1 :: r, ax_nw h kd n.toNatClampNeg, u1 + 1, u2 + n.toNatClampNeg) : ax_S).2.2.1.map (ax_v g) = .ref H.size :: r.map (ax_v g) from e] at this
    exact this
  · exact ho.elim
/-- a new array of references -/
def ao_newr (kd mc ms : Nat) : ax_O := fun _ σ K => match σ with
  | (pc, L, st, h, u1, u2) => match st with
    | .int n :: r => (¬ n < 0) ∧ (h.1 + 1 < 1000000 ∧ u1 + 1 ≤ mc ∧ u2 + n.toNatClampNeg ≤ ms ∧ n.toNatClampNeg * 4 ≤ 536870912) ∧ K (pc + 3, L, .ref h.1 :: r, ax_nw h kd n.toNatClampNeg, u1 + 1, u2 + n.toNatClampNeg)
    | _ => False
theorem ak_newr {kd t0 index : Nat} {C : String} (hk : ¬ kd < 15) (ht0 : (ax_t g)[t0]? = some (g.2.2.2.2 kd, .object C)) (hcl : Cond.classLink own index C ∈ lw_gd) (hw : C ∈ ax_ao) (hd : decode cc pc = .ok (.anewarray index, 3)) : ax_ok g cc nL ret own nm d mc ms pc (ao_newr kd mc ms) := by
  intro p e s m args below meth c V Ret L st h u1 u2 K ho hK H locs ls hP hS hlr
  dsimp only [ao_newr] at ho
  split at ho
  · rename_i n r
    obtain ⟨hn, ⟨h0, h1, h2, h3⟩, ho⟩ := ho
    have ht := V.2.2.2.2.2.2.2.1
    refine W.anew V.1 V.2.1 V.2.2.2.2.2.1 (ht _ hcl) (va_AO.use (V.2.2.2.2.2.2.2.2.2.2.2.2.2.2.2.2.2.2.1 _ hw)) rfl hd rfl hn h3 h1 h2 fun cA kA comp f1 f2 f3 f4 => ?_
    generalize hH1 : H.push ({ cls := cA, slots := Array.replicate n.toNatClampNeg .null, vm := .none } : Cell) = H1
    have z1 : H1.size = H.size + 1 := by rw [← hH1, Array.size_push]
    have e1 : H1[H.size]? = some (arrV cA n.toNatClampNeg (fun _ => .null)) := by rw [← hH1, Array.getElem?_push_size, ← arrV_new]
    have o1 : ∀ q : Nat, q < H.size → H1[q]? = H[q]? := fun q hq => by rw [← hH1, Array.getElem?_push, if_neg (Nat.ne_of_lt hq)]
    have hcA : g.2.2.2.2 kd = cA := by
      obtain ⟨_, _, _, _, _, hra⟩ := (V.2.2.2.2.2.2.2.2.1.2 t0 _ ht0).2
      exact Option.some.inj (hra.symm.trans f1)
    have hx : va_at g.2.2.2.1 vwCl (g.2.1 + h.1, ax_e g (ax_nw h kd n.toNatClampNeg) h.1) H1 := by
      rw [ax_e_new (by omega), hcA, if_neg (by omega), if_neg (by omega)]
      show H1[g.2.1 + h.1]? = some (arrV cA _ (fun _ => .null))
      rw [← hP.2.1]
      exact e1
    have := hK _ ho H1 locs ls (ax_P_new hP hx z1 o1 h0) (ax_S_new hS z1 o1) hlr
    have e : ((Value.ref h.1) :: r).map (ax_v g) = .ref H.size :: r.map (ax_v g) := by rw [List.map_cons, ax_vn h0, hP.2.1]
    rw [show ((pc + 3, L, Value.ref h.1 :: r, ax_nw h kd n.toNatClampNeg, u1 + 1, u2 + n.toNatClampNeg) : ax_S).2.2.1.map (ax_v g) = .ref H.size :: r.map (ax_v g) from e] at this
    exact this
  · exact ho.elim
/-- a store of an object of class ci into an array of references -/
def ao_aast (kd ci : Nat) : ax_O := fun _ σ K => match σ with
  | (pc, L, st, h, u1, u2) => match st with
    | .ref b :: .int i :: .ref a :: r => (ax_s h a).1 = kd ∧ (ax_s h b).1 = ci ∧ vp_in i (ax_s h a).2 ∧ K (pc + 1, L, r, ax_pr h a i.toNatClampNeg (some b), u1, u2)
    | _ => False
theorem ak_aast {kd t0 ci N : Nat} {C : String} {T : u_T} (hk : ¬ kd < 15) (hk9 : kd < 99) (hci : ci < 11) (hcl : vwCl[ci]? = some (C, T, N)) (ht0 : (ax_t g)[t0]? = some (g.2.2.2.2 kd, .object C)) (hd : decode cc pc = .ok (.aastore, 1)) : ax_ok g cc nL ret own nm d mc ms pc (ao_aast kd ci) := by
  intro p e s m args below meth c V Ret L st h u1 u2 K ho hK H locs ls hP hS hl
  dsimp only [ao_aast] at ho
  split at ho
  · rename_i b i a r
    obtain ⟨ho1, ho2, ho3, ho⟩ := ho
    obtain ⟨ha, hw, hv, hk', hln⟩ := ax_arr hP ho1 (by omega) hk9
    obtain ⟨hb, hsb, -⟩ := ax_s_lt ho2 (by omega)
    have hvb := ax_vr hP hb
    have hc : ax_c g h a kd = .inr (.inr (.inr (.inr (fun j => (ax_r h a j).map (ax_ad g))))) := by unfold ax_c; rw [if_neg (by omega), if_neg (by omega)]
    rw [hc] at hw
    show W _ _ _ _ _ _ _ _ _ _ _ _ _ _ _ (F0 m pc ls (ax_v g (.ref b) :: .int i :: ax_v g (.ref a) :: r.map (ax_v g)))
    rw [hv, hvb]
    have hat : H[g.2.1 + a]? = some (arrV (g.2.2.2.2 kd) (ax_s h a).2 (fun j => va_rf ((ax_r h a j).map (ax_ad g)))) := hP.1 a _ hw
    have hatb := ax_at hP hb
    rw [ax_e_obj hsb hci] at hatb
    obtain ⟨r', hr', cellV, g1, g2, g3, -⟩ := hatb
    have hcls := (V.2.2.2.2.2.2.2.2.1.1 ci _ hcl).2
    obtain ⟨kA, comp, k1, k2, k3, -⟩ := (V.2.2.2.2.2.2.2.2.1.2 t0 _ ht0).2
    have hcomp : comp = g.2.2.2.1.1 ci := Option.some.inj (k3.symm.trans hcls.1)
    subst hcomp
    obtain ⟨kC, hkC, hkk⟩ := id hcls.2
    have hlt : i.toNatClampNeg < (ax_s h a).2 := Nat.not_le.mp fun q => ho3 (Or.inr q)
    refine W.aast V.1 V.2.1 hat (fun q h => by cases h) (fun h => by cases h) k1 k2 rfl hkC ⟨fun q => ho3 (Or.inl q), by rw [arrV_size]; exact hlt⟩ g1 (fun q h => by rw [g3] at h; cases h) (by rw [g2]; exact hkC) (by rw [g2]; exact va_assign hcls) rfl rfl hd fun H1 e1 z oq => ?_
    refine hK _ ho H1 _ ls (ax_P_set hP rfl (fun b hb => ax_e_cong rfl rfl rfl (ax_u_ne hb)) ha ?_ z oq) (hS.put z oq (Nat.le_add_right _ _)) hl
    rw [ax_e_arr (h := ax_pr h a i.toNatClampNeg (some b)) (kd := kd) hk' (by omega)]
    unfold ax_c
    rw [if_neg (by omega), if_neg (by omega)]
    show H1[g.2.1 + a]? = some (arrV (g.2.2.2.2 kd) (h.2.1 a).2 (fun j => va_rf ((ax_u h.2.2.2.2 a i.toNatClampNeg (some b) a j).map (ax_ad g))))
    rw [e1, arrV_store, hln, ax_u_eq]
    congr 2
    funext q
    by_cases hq : q = i.toNatClampNeg
    · subst hq
      have : ax_ad g b = g.2.1 + b := by
        have := hvb
        exact Value.ref.inj this
      simp [updV, va_rf, this]
    · simp [updV, hq, ax_r]
  · exact ho.elim
/-! static arrays -/
def ao_gs (j : Nat) : ax_O := fun _ σ K => match σ with
  | (pc, L, st, h, u1, u2) => K (pc + 3, L, .ref (1000000 + j) :: st, h, u1, u2)
theorem ak_gs {j index : Nat} {q : String × String × List Int32} (hq : ax_sa[j]? = some q) (hl : Cond.fieldLink own index q.1 q.2.1 "[I" ∈ lw_gd) (hd : decode cc pc = .ok (.getstatic index, 3)) : ax_ok g cc nL ret own nm d mc ms pc (ao_gs j) := by
  intro p e s m args below meth c V Ret L st h u1 u2 K ho hK H locs ls hP hS hlr
  dsimp only [ao_gs] at ho
  exact va_gets V.1 V.2.1 (V.2.2.2.2.2.2.2.2.2.2.1 j q hq).1 hS V.2.2.2.2.2.1 (V.2.2.2.2.2.2.2.1 _ hl) (fun _ h => h) hd (hK _ ho H locs ls hP hS hlr)
theorem ak_gsN {j index : Nat} {host : String} {q : String × String × List Int32} (hq : ax_sa[j]? = some q) (hl : (own, index, q.1, q.2.1, "[I", host) ∈ ax_nf) (hd : decode cc pc = .ok (.getstatic index, 3)) : ax_ok g cc nL ret own nm d mc ms pc (ao_gs j) := by
  intro p e s m args below meth c V Ret L st h u1 u2 K ho hK H locs ls hP hS hlr
  dsimp only [ao_gs] at ho
  exact va_getsN V.1 V.2.1 (V.2.2.2.2.2.2.2.2.2.2.1 j q hq).1 hS V.2.2.2.2.2.1 (va_Nw.use rfl (V.2.2.2.2.2.2.2.2.2.2.2.2.2.2.2.2.1 _ hl)) (fun _ h => h) hd (hK _ ho H locs ls hP hS hlr)
def ao_sald (j : Nat) (q : List Int32) : ax_O := fun _ σ K => match σ with
  | (pc, L, st, h, u1, u2) => match st with
    | .int i :: .ref a :: r => a = 1000000 + j ∧ vp_in i q.length ∧ K (pc + 1, L, .int (q.getD i.toNatClampNeg 0) :: r, h, u1, u2)
    | _ => False
theorem ak_sald {j : Nat} {q : String × String × List Int32} (hq : ax_sa[j]? = some q) (hd : decode cc pc = .ok (.iaload, 1)) : ax_ok g cc nL ret own nm d mc ms pc (ao_sald j q.2.2) := by
  intro p e s m args below meth c V Ret L st h u1 u2 K ho hK H locs ls hP hS hlr
  dsimp only [ao_sald] at ho
  split at ho
  · obtain ⟨rfl, hin, ho⟩ := ho
    exact va_ti V.1 V.2.1 (V.2.2.2.2.2.2.2.2.2.2.1 j q hq).2 hS hin rfl hd (hK _ ho H locs ls hP hS hlr)
  · exact ho.elim
end
section
variable {g : ax_G} {cc : ByteArray} {nL : Nat} {ret : Option FieldType} {own nm : String} {d mc ms pc : Nat}
/-- a row of ints in the place of another -/
def ax_row (h : ax_H) (a : Nat) (f : Nat → Int32) : ax_H := (h.1, h.2.1, (fun b => if b = a then f else h.2.2.1 b), h.2.2.2.1, h.2.2.2.2)
/-- System.arraycopy between arrays of kind kd (11 ints, 12 bytes) -/
def ao_copy (kd : Nat) : ax_O := fun _ σ K => match σ with
  | (pc, L, st, h, u1, u2) => match st with
    | .int n :: .int dp :: .ref a :: .int sp :: .ref b :: r => (ax_s h a).1 = kd ∧ (ax_s h b).1 = kd ∧ ((¬ sp < 0) ∧ (¬ dp < 0) ∧ (¬ n < 0) ∧ sp.toNatClampNeg + n.toNatClampNeg ≤ (ax_s h b).2 ∧ dp.toNatClampNeg + n.toNatClampNeg ≤ (ax_s h a).2) ∧ (kd = 11 ∨ ∀ i, i < n.toNatClampNeg → fits .byte (.int (ax_i h b (sp.toNatClampNeg + i))) = true) ∧ (r.map Value.category).sum ≤ 8 ∧ K (pc + 3, L, r, ax_row h a (va_cpy (ax_i h b) (ax_i h a) sp.toNatClampNeg dp.toNatClampNeg n.toNatClampNeg), u1, u2)
    | _ => False
theorem ak_copy {kd t0 index : Nat} {ty : FieldType} (hd2 : 1 < d) (hkd : kd = 11 ∧ ty = .int ∨ kd = 12 ∧ ty = .byte) (ht0 : (ax_t g)[t0]? = some (g.2.2.2.2 kd, ty)) (hl : Cond.methodLink own index arraycopyName ∈ lw_gd) (hnat : Cond.native arraycopyName ∈ lw_gd) (hstat : Cond.static arraycopyName ∈ lw_gd) (hini : Cond.initialized "java/lang/System" ∈ lw_gd) (hd : decode cc pc = .ok (.invokestatic index, 3)) : ax_ok g cc nL ret own nm d mc ms pc (ao_copy kd) := by
  intro p e s m args below meth c V Ret L st h u1 u2 K ho hK H locs ls hP hS hlr
  dsimp only [ao_copy] at ho
  split at ho
  · rename_i n dp a sp b r
    obtain ⟨hsa, hsb, ⟨h1, h2, h3, h4, h5⟩, hfit, hr8, ho⟩ := ho
    have hk1 : ¬ kd < 11 := by omega
    have hk2 : kd < 14 := by omega
    obtain ⟨ha, hwa, hva, hka, hla⟩ := ax_arr hP hsa hk1 (by omega)
    obtain ⟨hb, hwb, hvb, hkb, hlb⟩ := ax_arr hP hsb hk1 (by omega)
    have hc : ∀ x, ax_c g h x kd = .inl (ax_i h x) := fun x => by unfold ax_c; rw [if_pos hk2]
    rw [hc] at hwa hwb
    show W _ _ _ _ _ _ _ _ _ _ _ _ _ _ _ (F0 m pc ls (.int n :: .int dp :: ax_v g (.ref a) :: .int sp :: ax_v g (.ref b) :: r.map (ax_v g)))
    rw [hva, hvb]
    have ht := V.2.2.2.2.2.2.2.1
    have nn : ∀ z : Int32, ¬ z < 0 → z.toInt = (z.toNatClampNeg : Int) := by
      intro z hz
      have hz0 : (0 : Int) ≤ z.toInt := by
        have := Int32.not_lt.mp hz
        simpa using Int32.le_iff_toInt_le.mp this
      show z.toInt = ((z.toInt.toNat : Nat) : Int)
      omega
    intro T hT X
    have hc0 : H[g.2.1 + b]? = some (arrV (g.2.2.2.2 kd) (ax_s h b).2 (fun j => .int (ax_i h b j))) := hP.1 b _ hwb
    have hc1 : H[g.2.1 + a]? = some (arrV (g.2.2.2.2 kd) (ax_s h a).2 (fun j => .int (ax_i h a j))) := hP.1 a _ hwa
    obtain ⟨-, k0, hk0, cm0, hkk0⟩ := (V.2.2.2.2.2.2.2.2.1.2 t0 _ ht0).1 (ax_s h b).2 (fun j => .int (ax_i h b j))
    obtain ⟨-, k1, hk1, cm1, hkk1⟩ := (V.2.2.2.2.2.2.2.2.1.2 t0 _ ht0).1 (ax_s h a).2 (fun j => .int (ax_i h a j))
    have hprim : refKind ty = false := by rcases hkd with ⟨-, rfl⟩ | ⟨-, rfl⟩ <;> rfl
    obtain ⟨vm', X', step⟩ := X.arraycopy V.1 V.2.2.2.2.2.1 (ht _ hl) (ht _ hnat) (ht _ hstat) (ht _ hini) (src := g.2.1 + b) (dst := g.2.1 + a) (srcPos := sp) (destPos := dp) (n := n) (by rw [hT]; exact hc0) (by rw [hT]; exact hc1)
      (fun _ h => by cases h) (fun _ h => by cases h) (fun h => by cases h) (fun h => by cases h) hk0 hk1 hkk0 hkk1 (by simp [hprim]) h1 h2 h3
      (by rw [nn sp h1, nn n h3, arrV_size]; omega)
      (by rw [nn dp h2, nn n h3, arrV_size]; omega)
      (fun vm₁ _ i hi => by
        have e : (arrV (g.2.2.2.2 kd) (ax_s h b).2 (fun j => .int (ax_i h b j))).slots.getD (sp.toNatClampNeg + i) .null = .int (ax_i h b (sp.toNatClampNeg + i)) := by
          rw [Array.getD_eq_getD_getElem?, arrV_read _ _ (by omega)]
          rfl
        refine ⟨?_, ?_⟩
        · rw [e]
          rcases hkd with ⟨-, rfl⟩ | ⟨hq, rfl⟩
          · rfl
          · exact (hfit.resolve_left (by omega)) i hi
        · rw [e]
          exact trivial)
      (g := F0 m pc ls (.int n :: .int dp :: .ref (g.2.1 + a) :: .int sp :: .ref (g.2.1 + b) :: r.map (ax_v g))) rfl (by rw [V.2.2.2.2.1]; exact hlr.1) (rest := r.map (ax_v g)) rfl (by rw [V.2.1]; exact hd) (by show 1 ≤ d; omega) (by
        show 2 * 0 + _ + (_ + 11) ≤ 41 * d + 32
        rw [ax_sum]
        have : nativeFrameWords "java/lang/System" "arraycopy" 5 ≤ 60 := by decide +kernel
        omega)
    have e1 : copied (arrV (g.2.2.2.2 kd) (ax_s h b).2 (fun j => .int (ax_i h b j))) (arrV (g.2.2.2.2 kd) (ax_s h a).2 (fun j => .int (ax_i h a j))) sp dp n = arrV (g.2.2.2.2 kd) (ax_s h a).2 (fun j => .int (va_cpy (ax_i h b) (ax_i h a) sp.toNatClampNeg dp.toNatClampNeg n.toNatClampNeg j)) := va_copied (fun z => .int z) _ _ (ax_i h b) (ax_i h a) h4
    rw [e1] at X' step
    generalize va_cpy (ax_i h b) (ax_i h a) sp.toNatClampNeg dp.toNatClampNeg n.toNatClampNeg = F at X' step ho
    have hl2 : g.2.1 + a < H.size := (Array.getElem?_eq_some_iff.mp hc1).1
    generalize hcell : arrV (g.2.2.2.2 kd) (ax_s h a).2 (fun j => Value.int (F j)) = cell at X' step
    have hheap : ((T.setVm vm').setCell (g.2.1 + a) cell).heap = H.setIfInBounds (g.2.1 + a) cell := by rw [← hT]; rfl
    have oq : ∀ q : Nat, q ≠ g.2.1 + a → (H.setIfInBounds (g.2.1 + a) cell)[q]? = H[q]? := fun q hq => by simp [Array.getElem?_setIfInBounds, Ne.symm hq]
    have hnew : (H.setIfInBounds (g.2.1 + a) cell)[g.2.1 + a]? = some cell := by simp [Array.getElem?_setIfInBounds, hl2]
    obtain ⟨t, a1, b1⟩ := hK _ ho (H.setIfInBounds (g.2.1 + a) cell) _ ls (ax_P_set (a := a) (h' := ax_row h a F) hP rfl (fun x hx => ax_e_cong rfl (if_neg hx) rfl rfl) ha (by
        rw [ax_e_arr (h := ax_row h a F) (kd := kd) hka (by omega)]
        unfold ax_c
        rw [if_pos hk2]
        show (H.setIfInBounds (g.2.1 + a) cell)[g.2.1 + a]? = some (arrV (g.2.2.2.2 kd) (h.2.1 a).2 (fun j => .int ((if a = a then F else h.2.2.1 a) j)))
        rw [hnew, if_pos rfl, hla, hcell]) (by simp) oq) ⟨by simp; exact hS.1, fun q g1 g2 => by
        rw [oq q (fun e => g2 (by rw [e]; exact Nat.le_add_right _ _))]
        exact hS.2.1 q g1 g2, fun q hq => by
        rcases List.mem_append.mp hq with h | h
        · exact hS.2.2 q h
        · obtain ⟨z, -, hz⟩ := List.mem_map.mp h
          rw [← hz]
          exact Nat.le_add_right _ _⟩ hlr _ hheap X'
    exact ⟨t, step t a1, b1⟩
  · exact ho.elim
end
end

section
section
variable {g : ax_G} {cc : ByteArray} {nL : Nat} {ret : Option FieldType} {own nm : String} {d mc ms pc : Nat}
theorem ax_off {a lo n : Nat} (h1 : lo ≤ a) (h2 : a < lo + n) : ∃ i, i < n ∧ a = lo + i := ⟨a - lo, by omega, by omega⟩
/-! String constants: places 1000100 .. 1000113, their bytes 1000200 .. 1000213 -/
def ao_ldcs (i : Nat) : ax_O := fun _ σ K => match σ with
  | (pc, L, st, h, u1, u2) => K (pc + 2, L, .ref (1000100 + i) :: st, h, u1, u2)
theorem ak_ldcs {i index : Nat} {tx : String} (hi : ax_ss[i]? = some (index, tx)) (hd : decode cc pc = .ok (.ldc index, 2)) : ax_ok g cc nL ret "GluedHour$Reader" nm d mc ms pc (ao_ldcs i) := by
  intro p e s m args below meth c V Ret L st h u1 u2 K ho hK H locs ls hP hS hlr
  dsimp only [ao_ldcs] at ho
  exact va_ldcS V.1 V.2.1 V.2.2.2.2.2.1 (V.2.2.2.2.2.2.2.2.2.2.2.2.1 i _ hi) hd (hK _ ho H locs ls hP hS hlr)
def ao_sgv : ax_O := fun _ σ K => match σ with
  | (pc, L, st, h, u1, u2) => match st with
    | .ref a :: r => (1000100 ≤ a ∧ a < 1000114) ∧ K (pc + 3, L, .ref (a + 100) :: r, h, u1, u2)
    | _ => False
theorem ak_sgv {index : Nat} (hl : Cond.fieldLink own index "java/lang/String" "value" "[B" ∈ lw_gd) (hd : decode cc pc = .ok (.getfield index, 3)) : ax_ok g cc nL ret own nm d mc ms pc ao_sgv := by
  intro p e s m args below meth c V Ret L st h u1 u2 K ho hK H locs ls hP hS hlr
  dsimp only [ao_sgv] at ho
  split at ho
  · rename_i a r
    obtain ⟨i, hi14, rfl⟩ := ax_off (n := 14) ho.1.1 ho.1.2
    have hv := (V.2.2.2.2.2.2.2.2.2.2.2.1.1 i hi14).2.2.1
    refine vk_getf V.1 V.2.1 hv hS V.2.2.2.2.2.1 (V.2.2.2.2.2.2.2.1 _ hl) (fun _ h => h) hd ?_
    have := hK _ ho.2 H locs ls hP hS hlr
    rw [show (1000100 + i + 100 : Nat) = 1000200 + i from by rw [Nat.add_right_comm]] at this
    exact this
  · exact ho.elim
def ao_sgc : ax_O := fun _ σ K => match σ with
  | (pc, L, st, h, u1, u2) => match st with
    | .ref a :: r => (1000100 ≤ a ∧ a < 1000114) ∧ K (pc + 3, L, .int 0 :: r, h, u1, u2)
    | _ => False
theorem ak_sgc {index : Nat} (hl : Cond.fieldLink own index "java/lang/String" "coder" "B" ∈ lw_gd) (hd : decode cc pc = .ok (.getfield index, 3)) : ax_ok g cc nL ret own nm d mc ms pc ao_sgc := by
  intro p e s m args below meth c V Ret L st h u1 u2 K ho hK H locs ls hP hS hlr
  dsimp only [ao_sgc] at ho
  split at ho
  · rename_i a r
    obtain ⟨i, hi14, rfl⟩ := ax_off (n := 14) ho.1.1 ho.1.2
    have hv := (V.2.2.2.2.2.2.2.2.2.2.2.1.1 i hi14).2.1
    exact vk_getf V.1 V.2.1 hv hS V.2.2.2.2.2.1 (V.2.2.2.2.2.2.2.1 _ hl) (fun _ h => h) hd (hK _ ho.2 H locs ls hP hS hlr)
  · exact ho.elim
theorem ak_gcs {index : Nat} (hl : Cond.fieldLink own index "java/lang/String" "COMPACT_STRINGS" "Z" ∈ lw_gd) (hd : decode cc pc = .ok (.getstatic index, 3)) : ax_ok g cc nL ret own nm d mc ms pc (ao_ic 1 3) := by
  intro p e s m args below meth c V Ret L st h u1 u2 K ho hK H locs ls hP hS hlr
  dsimp only [ao_ic] at ho
  exact va_gets V.1 V.2.1 V.2.2.2.2.2.2.2.2.2.2.2.2.2.1 hS V.2.2.2.2.2.1 (V.2.2.2.2.2.2.2.1 _ hl) (fun _ h => h) hd (hK _ ho H locs ls hP hS hlr)
def ao_slen : ax_O := fun _ σ K => match σ with
  | (pc, L, st, h, u1, u2) => match st with
    | .ref a :: r => (1000200 ≤ a ∧ a < 1000214) ∧ K (pc + 1, L, .int (Int32.ofNat (ax_sl.getD (a - 1000200) 0)) :: r, h, u1, u2)
    | _ => False
theorem ak_slen (hd : decode cc pc = .ok (.arraylength, 1)) : ax_ok g cc nL ret own nm d mc ms pc ao_slen := by
  intro p e s m args below meth c V Ret L st h u1 u2 K ho hK H locs ls hP hS hlr
  dsimp only [ao_slen] at ho
  split at ho
  · rename_i a r
    obtain ⟨i, hi14, rfl⟩ := ax_off (n := 14) ho.1.1 ho.1.2
    have hv := (V.2.2.2.2.2.2.2.2.2.2.2.1.1 i hi14).2.2.2
    have := ho.2
    rw [show (1000200 + i - 1000200 : Nat) = i from Nat.add_sub_cancel_left _ _] at this
    exact va_tlen V.1 V.2.1 hv hS rfl hd (hK _ this H locs ls hP hS hlr)
  · exact ho.elim
def ao_sbld : ax_O := fun _ σ K => match σ with
  | (pc, L, st, h, u1, u2) => match st with
    | .int j :: .ref a :: r => (1000200 ≤ a ∧ a < 1000214) ∧ vp_in j (ax_sl.getD (a - 1000200) 0) ∧ K (pc + 1, L, .int ((ax_sb.getD (a - 1000200) []).getD j.toNatClampNeg 0) :: r, h, u1, u2)
    | _ => False
theorem ak_sbld (hd : decode cc pc = .ok (.baload, 1)) : ax_ok g cc nL ret own nm d mc ms pc ao_sbld := by
  intro p e s m args below meth c V Ret L st h u1 u2 K ho hK H locs ls hP hS hlr
  dsimp only [ao_sbld] at ho
  split at ho
  · rename_i j a r
    obtain ⟨i, hi14, rfl⟩ := ax_off (n := 14) ho.1.1 ho.1.2
    have hv := (V.2.2.2.2.2.2.2.2.2.2.2.1.1 i hi14).2.2.2
    have := ho.2
    rw [show (1000200 + i - 1000200 : Nat) = i from Nat.add_sub_cancel_left _ _] at this
    exact va_tb V.1 V.2.1 hv hS this.1 rfl hd (hK _ this.2 H locs ls hP hS hlr)
  · exact ho.elim
def ao_nret (ty : FieldType) : ax_O := fun Ret σ _ => match σ with
  | (pc, L, st, h, u1, u2) => match st with
    | [.int x] => (u1 ≤ 0 ∧ u2 ≤ 0) ∧ narrow ty (.int x) = .int x ∧ Ret (some (.int x)) h
    | _ => False
theorem ak_nret {ty : FieldType} (hr : ret = some ty) (hd : decode cc pc = .ok (.ireturn, 1)) : ax_ok g cc nL ret own nm d 0 0 pc (ao_nret ty) := by
  intro p e s m args below meth c V Ret L st h u1 u2 K ho hK H locs ls hP hS hl
  dsimp only [ao_nret] at ho
  split at ho
  · rename_i x
    refine W.widen ho.1.1 ho.1.2 ?_
    exact W.zret V.1 V.2.1 (V.2.2.1.trans hr) ho.2.1 (ax_qr (v := some (.int x)) hP hS ho.2.2) hS.2.2 hd V.2.2.2.1
  · exact ho.elim
/-- a method of a String constant -/
def ao_invs (g : ax_G) (d' : Nat) (y : MethodName) (cc : ByteArray) (nL : Nat) (ret : Option FieldType) (n : Nat) : ax_O := fun _ σ K => match σ with
  | (pc, L, st, h, u1, u2) => match ax_sp n [] st with
    | some (as, rest) => (∃ i bs, i < 14 ∧ as = .ref (1000100 + i) :: bs) ∧ ((rest.map Value.category).sum ≤ 8 ∧ u1 = 0 ∧ u2 = 0) ∧ ax_M g d' 0 0 y cc nL ret as h (fun v h' => ax_rk 1 v (fun vs => K (pc + 3, L, vs ++ rest, h', u1, u2)))
    | none => False
theorem ak_invs {d' : Nat} (hdl : d' < d) {y : MethodName} {cc' : ByteArray} {nL' n index : Nat} {ret' : Option FieldType} (hcls : y.cls = "java/lang/String") (hn' : nL' ≤ 22) (hl : Cond.methodLink own index y ∈ lw_gd) (him : Cond.instanceMethod y ∈ lw_gd) (hsel : Cond.selects y.cls y y ∈ lw_gd) (hi : Cond.initialized y.cls ∈ lw_gd) (hcode : Cond.code y cc' nL' ret' ∈ lw_gd) (hdd : y.cls ≠ "java/lang/invoke/MethodHandle" ∧ y.cls ≠ "java/lang/invoke/VarHandle" ∧ (parseMethodDescriptor y.desc).map (fun d => d.parameters.length) = some n) (hd : decode cc pc = .ok (.invokevirtual index, 3)) : ax_ok g cc nL ret own nm d mc ms pc (ao_invs g d' y cc' nL' ret' (n + 1)) := by
  intro p e s m args below meth c V Ret L st h u1 u2 K ho hK H locs ls hP hS hlr
  dsimp only [ao_invs] at ho
  split at ho
  · rename_i as rest hsp
    obtain ⟨⟨i, As, hi14, rfl⟩, ⟨hrest, rfl, rfl⟩, hM⟩ := ho
    obtain ⟨bs, h1, h2, h3⟩ := ax_sp_eq _ _ _ _ _ hsp
    rw [List.append_nil] at h1
    subst h1
    have hpre := ax_PreS (as := .ref (1000100 + i) :: As) V hP hS
    have hrecv := vk_recv V.2.2.2.2.2.2.2.2.2.2.2.1 hi14 hS
    rw [← hcls] at hrecv
    have hmap : (Value.ref (1000100 + i) :: As).map (ax_v g) = .ref (ax_ad g (1000100 + i)) :: As.map (ax_v g) := rfl
    rw [hmap] at hpre
    refine ax_call (mc' := 0) (ms' := 0) (rest := rest.map (ax_v g)) (va_runV (C := y.cls) (b := ax_ad g (1000100 + i)) (As := As.map (ax_v g)) (n := n) ⟨V.1, V.2.1, V.2.2.2.2.1, V.2.2.2.2.2.1, V.2.2.2.2.2.2.2.1⟩ hM (cwV n V.2.2.2.2.2.2.2.1 (ax_gi ?_) rfl rfl rfl ⟨rfl, hdd⟩ (ax_rmL hdl hn' 0 0 mc ms)) ⟨hpre.1, hrecv, hpre.2⟩ rfl (by rw [List.length_map]; simpa using h2) hlr.1 (by show List.map (ax_v g) st = _; rw [h3, List.map_append, List.map_reverse, hmap, List.reverse_cons, List.append_assoc]; rfl) (by show 0 + _ ≤ 8; rw [Nat.zero_add, ax_sum]; exact hrest) hd ⟨Nat.zero_le _, Nat.zero_le _⟩) hS ?_
    · intro w hw
      rcases List.mem_append.mp hw with hw | hw
      · simp only [List.mem_cons, List.not_mem_nil, or_false] at hw
        rcases hw with rfl | rfl | rfl | rfl
        · exact hl
        · exact him
        · exact hsel
        · exact hi
      · exact ax_pre hcode w hw
    · intro v h' H1 locs1 hR hP1 hS1
      have := hK _ (ax_rk_use hR) H1 locs1 ls hP1 hS1 hlr
      cases v <;> exact this
  · exact ho.elim
end
section
variable {g : ax_G} {cc : ByteArray} {nL : Nat} {ret : Option FieldType} {own nm : String} {d mc ms pc : Nat}
/-! the script: place 1000300 -/
def ao_xlen (g : ax_G) : ax_O := fun _ σ K => match σ with
  | (pc, L, st, h, u1, u2) => match st with
    | .ref a :: r => a = 1000300 ∧ K (pc + 1, L, .int (Int32.ofNat (g.2.2.1 400)) :: r, h, u1, u2)
    | _ => False
theorem ak_xlen (hd : decode cc pc = .ok (.arraylength, 1)) : ax_ok g cc nL ret own nm d mc ms pc (ao_xlen g) := by
  intro p e s m args below meth c V Ret L st h u1 u2 K ho hK H locs ls hP hS hlr
  dsimp only [ao_xlen] at ho
  split at ho
  · obtain ⟨rfl, ho⟩ := ho
    obtain ⟨hX, hA, -⟩ := V.2.2.2.2.2.2.2.2.2.2.2.2.2.2
    exact va_slen V.1 V.2.1 hX (by obtain ⟨_, h1, _⟩ := hX; exact (Array.getElem?_eq_some_iff.mp h1).1) hA hS hd (hK _ ho H locs ls hP hS hlr)
  · exact ho.elim
def ao_xld (g : ax_G) : ax_O := fun _ σ K => match σ with
  | (pc, L, st, h, u1, u2) => match st with
    | .int i :: .ref a :: r => a = 1000300 ∧ vp_in i (g.2.2.1 400) ∧ K (pc + 1, L, .int (Int32.ofNat (g.2.2.1 (1000 + i.toNatClampNeg))) :: r, h, u1, u2)
    | _ => False
theorem ak_xld (hd : decode cc pc = .ok (.iaload, 1)) : ax_ok g cc nL ret own nm d mc ms pc (ao_xld g) := by
  intro p e s m args below meth c V Ret L st h u1 u2 K ho hK H locs ls hP hS hlr
  dsimp only [ao_xld] at ho
  split at ho
  · obtain ⟨rfl, hin, ho⟩ := ho
    obtain ⟨hX, hA, -⟩ := V.2.2.2.2.2.2.2.2.2.2.2.2.2.2
    exact va_sld V.1 V.2.1 hX (by obtain ⟨_, h1, _⟩ := hX; exact (Array.getElem?_eq_some_iff.mp h1).1) hA hS hin hd (hK _ ho H locs ls hP hS hlr)
  · exact ho.elim
end
section
variable {g : ax_G} {cc : ByteArray} {nL : Nat} {ret : Option FieldType} {own nm : String} {d mc ms pc : Nat}
def ao_zast : ax_O := fun _ σ K => match σ with
  | (pc, L, st, h, u1, u2) => match st with
    | .int x :: .int i :: .ref a :: r => (x = 0 ∨ x = 1) ∧ (ax_s h a).1 = 13 ∧ vp_in i (ax_s h a).2 ∧ K (pc + 1, L, r, ax_pi h a i.toNatClampNeg x, u1, u2)
    | _ => False
theorem ak_zast (hd : decode cc pc = .ok (.bastore, 1)) : ax_ok g cc nL ret own nm d mc ms pc ao_zast := by
  intro p e s m args below meth c V Ret L st h u1 u2 K ho hK H locs ls hP hS hl
  dsimp only [ao_zast] at ho
  split at ho
  · rename_i x i a r
    obtain ⟨h01, ho⟩ := ho
    obtain ⟨ha, hw, hv, hk, hln⟩ := ax_arr hP ho.1 (by decide) (by decide)
    show W _ _ _ _ _ _ _ _ _ _ _ _ _ _ _ (F0 m pc ls (Value.int x :: .int i :: ax_v g (.ref a) :: r.map (ax_v g)))
    rw [hv]
    have hat : H[g.2.1 + a]? = some (arrV (g.2.2.2.2 13) (ax_s h a).2 (fun j => .int (ax_i h a j))) := hP.1 a _ hw
    refine W.zast V.1 V.2.1 hat ((V.2.2.2.2.2.2.2.2.1.2 2 _ rfl).1 _ _) (fun q => by cases q) (ax_in_size ho.2.1) rfl rfl hd fun H1 e1 z oq => ?_
    refine hK _ ho.2.2 H1 _ ls (ax_P_set hP rfl (fun b hb => ax_e_cong rfl (ax_u_ne hb) rfl rfl) ha ?_ z oq) (hS.put z oq (Nat.le_add_right _ _)) hl
    rw [ax_e_arr (h := ax_pi h a i.toNatClampNeg x) (kd := 13) hk (by decide)]
    show H1[g.2.1 + a]? = some (arrV (g.2.2.2.2 13) (h.2.1 a).2 (fun j => .int (ax_u h.2.2.1 a i.toNatClampNeg x a j)))
    rw [e1, arrV_store, hln, ax_u_eq]
    have hnr : narrow .boolean (.int x) = .int x := by rcases h01 with rfl | rfl <;> rfl
    congr 2
    funext q
    by_cases hq : q = i.toNatClampNeg
    · subst hq
      simp [updV, hnr]
    · simp [updV, hq, ax_i]
  · exact ho.elim
end
end

section
section
variable {g : ax_G} {cc : ByteArray} {nL : Nat} {ret : Option FieldType} {own nm : String} {d mc ms pc : Nat}
def ao_imax : ax_O := fun _ σ K => match σ with
  | (pc, L, st, h, u1, u2) => match st with
    | .int y :: .int x :: r => bif Nat.ble (r.map Value.category).sum 8 && (Nat.beq u1 0 && Nat.beq u2 0) then K (pc + 3, L, .int (if x < y then y else x) :: r, h, u1, u2) else False
    | _ => False
def ao_imin : ax_O := fun _ σ K => match σ with
  | (pc, L, st, h, u1, u2) => match st with
    | .int y :: .int x :: r => bif Nat.ble (r.map Value.category).sum 8 && (Nat.beq u1 0 && Nat.beq u2 0) then K (pc + 3, L, .int (if y < x then y else x) :: r, h, u1, u2) else False
    | _ => False
def ao_iabs : ax_O := fun _ σ K => match σ with
  | (pc, L, st, h, u1, u2) => match st with
    | .int x :: r => bif Nat.ble (r.map Value.category).sum 8 && (Nat.beq u1 0 && Nat.beq u2 0) then K (pc + 3, L, .int (if 0 ≤ x then x else 0 - x) :: r, h, u1, u2) else False
    | _ => False
def ao_lmax : ax_O := fun _ σ K => match σ with
  | (pc, L, st, h, u1, u2) => match st with
    | .long y :: .long x :: r => bif Nat.ble (r.map Value.category).sum 8 && (Nat.beq u1 0 && Nat.beq u2 0) then K (pc + 3, L, .long (if y < x then x else y) :: r, h, u1, u2) else False
    | _ => False
theorem ax_bifm {a b c d : Nat} {X : Prop} (h : bif Nat.ble a b && (Nat.beq c 0 && Nat.beq d 0) then X else False) : (a ≤ b ∧ c = 0 ∧ d = 0) ∧ X := by
  cases h1 : Nat.ble a b <;> cases h2 : Nat.beq c 0 <;> cases h3 : Nat.beq d 0 <;> rw [h1, h2, h3] at h <;> first | exact h.elim | exact ⟨⟨Nat.le_of_ble_eq_true h1, Nat.eq_of_beq_eq_true h2, Nat.eq_of_beq_eq_true h3⟩, h⟩
theorem ax_mr {r : List Value} (hr : (r.map Value.category).sum ≤ 8) : ((r.map (ax_v g)).map fun v => v.category).sum + 13 ≤ (ax_rm d mc ms).locals := by
  rw [ax_sum]
  show _ ≤ 41 * d + 32
  omega
theorem ak_imax {index : Nat} (hdl : 0 < d) (hl : Cond.methodLink own index Lib.Math.max.name ∈ lw_gd) (hst : Cond.static Lib.Math.max.name ∈ lw_gd) (hi : Cond.initialized "java/lang/Math" ∈ lw_gd) (hc : Cond.code Lib.Math.max.name Lib.Math.max.code 2 (some .int) ∈ lw_gd) (hd : decode cc pc = .ok (.invokestatic index, 3)) : ax_ok g cc nL ret own nm d mc ms pc ao_imax := by
  intro p e s m args below meth c V Ret L st h u1 u2 K ho hK H locs ls hP hS hlr
  dsimp only [ao_imax] at ho
  split at ho
  · obtain ⟨⟨hr, rfl, rfl⟩, ho⟩ := ax_bifm ho
    have ht := V.2.2.2.2.2.2.2.1
    exact va_mmax V.1 V.2.1 (V.2.2.2.2.1.trans hlr.1.symm) V.2.2.2.2.2.1 (ht _ hl) (ht _ hst) (ht _ hi) (ht _ hc) (show 1 ≤ (ax_rm d mc ms).frames from hdl) (ax_mr hr) (Nat.zero_le _) (Nat.zero_le _) hd (hK _ ho H locs ls hP hS hlr)
  · exact ho.elim
theorem ak_imin {index : Nat} (hdl : 0 < d) (hl : Cond.methodLink own index Lib.Math.min.name ∈ lw_gd) (hst : Cond.static Lib.Math.min.name ∈ lw_gd) (hi : Cond.initialized "java/lang/Math" ∈ lw_gd) (hc : Cond.code Lib.Math.min.name Lib.Math.min.code 2 (some .int) ∈ lw_gd) (hd : decode cc pc = .ok (.invokestatic index, 3)) : ax_ok g cc nL ret own nm d mc ms pc ao_imin := by
  intro p e s m args below meth c V Ret L st h u1 u2 K ho hK H locs ls hP hS hlr
  dsimp only [ao_imin] at ho
  split at ho
  · obtain ⟨⟨hr, rfl, rfl⟩, ho⟩ := ax_bifm ho
    have ht := V.2.2.2.2.2.2.2.1
    exact va_mmin V.1 V.2.1 (V.2.2.2.2.1.trans hlr.1.symm) V.2.2.2.2.2.1 (ht _ hl) (ht _ hst) (ht _ hi) (ht _ hc) (show 1 ≤ (ax_rm d mc ms).frames from hdl) (ax_mr hr) (Nat.zero_le _) (Nat.zero_le _) hd (hK _ ho H locs ls hP hS hlr)
  · exact ho.elim
theorem ak_iabs {index : Nat} (hdl : 0 < d) (hl : Cond.methodLink own index Lib.Math.abs.name ∈ lw_gd) (hst : Cond.static Lib.Math.abs.name ∈ lw_gd) (hi : Cond.initialized "java/lang/Math" ∈ lw_gd) (hc : Cond.code Lib.Math.abs.name Lib.Math.abs.code 1 (some .int) ∈ lw_gd) (hd : decode cc pc = .ok (.invokestatic index, 3)) : ax_ok g cc nL ret own nm d mc ms pc ao_iabs := by
  intro p e s m args below meth c V Ret L st h u1 u2 K ho hK H locs ls hP hS hlr
  dsimp only [ao_iabs] at ho
  split at ho
  · obtain ⟨⟨hr, rfl, rfl⟩, ho⟩ := ax_bifm ho
    have ht := V.2.2.2.2.2.2.2.1
    exact va_mabs V.1 V.2.1 (V.2.2.2.2.1.trans hlr.1.symm) V.2.2.2.2.2.1 (ht _ hl) (ht _ hst) (ht _ hi) (ht _ hc) (show 1 ≤ (ax_rm d mc ms).frames from hdl) (ax_mr hr) (Nat.zero_le _) (Nat.zero_le _) hd (hK _ ho H locs ls hP hS hlr)
  · exact ho.elim
theorem ak_lmax {index : Nat} (hdl : 0 < d) (hl : Cond.methodLink own index Lib.MathLoose.max_long.x ∈ lw_gd) (hst : Cond.static Lib.MathLoose.max_long.x ∈ lw_gd) (hi : Cond.initialized "java/lang/Math" ∈ lw_gd) (hc : Cond.code Lib.MathLoose.max_long.x Lib.MathLoose.max_long.code 4 (some .long) ∈ lw_gd) (hd : decode cc pc = .ok (.invokestatic index, 3)) : ax_ok g cc nL ret own nm d mc ms pc ao_lmax := by
  intro p e s m args below meth c V Ret L st h u1 u2 K ho hK H locs ls hP hS hlr
  dsimp only [ao_lmax] at ho
  split at ho
  · rename_i y x r
    obtain ⟨⟨hr, rfl, rfl⟩, ho⟩ := ax_bifm ho
    have ht := V.2.2.2.2.2.2.2.1
    intro T hT X
    obtain ⟨vm', X', st⟩ := X.mathMaxLH V.1 V.2.2.2.2.2.1 (ht _ hl) (ht _ hst) (ht _ hi) (ht _ hc) (g := F0 m pc ls (.long y :: .long x :: r.map (ax_v g))) rfl (hlr.1.trans V.2.2.2.2.1.symm) (a := x) (b := y) (rest := r.map (ax_v g)) rfl (by rw [V.2.1]; exact hd) hdl (by
      show 2 * 0 + _ + 15 ≤ 41 * d + 32
      rw [ax_sum]; omega) (Nat.zero_le _) (Nat.zero_le _)
    obtain ⟨t, a1, b1⟩ := hK _ ho H locs ls hP hS hlr (T.setVm vm') hT X'
    exact ⟨t, st t a1, b1⟩
  · exact ho.elim
def ao_labs : ax_O := fun _ σ K => match σ with
  | (pc, L, st, h, u1, u2) => match st with
    | .long x :: r => bif Nat.ble (r.map Value.category).sum 8 && (Nat.beq u1 0 && Nat.beq u2 0) then K (pc + 3, L, .long (if 0 < x then x else if x = 0 then x else -x) :: r, h, u1, u2) else False
    | _ => False
theorem ax_labsH {p : Program} {l : Launch} {e : Env} {R : Room} {s T : State} {m : MethodId} {args : Array Value} {below : List Frame} {meth : Method} {c : Code} {locs : List Loc} {cells slots : Nat} (X : Stand p l e R s m args below meth c T locs cells slots) (hexec : p.tables.exec = Jvm.exec) {index : Nat} (hown : s.vm.findClass own = some m.cls)
    (hlink : (Cond.methodLink own index Lib.MathLoose.abs_long.x).before args s = true) (hstat : (Cond.static Lib.MathLoose.abs_long.x).before args s = true) (hinit : (Cond.initialized "java/lang/Math").before args s = true)
    (hcode : (Cond.code Lib.MathLoose.abs_long.x Lib.MathLoose.abs_long.code 2 (some .long)).before args s = true)
    {f : JFrame} (hg : f.method = m) (hsize : f.locals.size = c.maxLocals) {a : Int64} {rest : List Value} (hstack : f.stack = .long a :: rest) (hdg : decode c.code f.pc = .ok (.invokestatic index, 3))
    (hframes : 1 ≤ R.frames) (hlocals : 2 * f.monitorRoom + (rest.map fun v => v.category).sum + 13 ≤ R.locals) (hcells : cells ≤ R.cells) (hslots : slots ≤ R.slots) :
    ∃ vm', Stand p l e R s m args below meth c (T.setVm vm') locs cells slots ∧
      ∀ target, Steps p.tables e below ((T.setVm vm').setTop { f with pc := f.pc + 3, stack := .long (if 0 < a then a else if a = 0 then a else -a) :: rest }) target → Steps p.tables e below (T.setTop f) target := by
  obtain ⟨v, vm', X', ⟨first, t, hpost⟩, hstep⟩ := X.staticByContractHK hexec hown hlink hstat hinit hcode (by decide) (Lib.MathLoose.abs_long.meetsLoose l) rfl rfl rfl rfl
    (fun args' first o s₂ h => by
      cases o with
      | returned r => exact ⟨r, rfl⟩
      | threw y =>
        exfalso
        simp only [Lib.MathLoose.abs_long.spec, Cond.after, Cond.holds, Cond.value] at h
        generalize Term.eval args' first (some (Outcome.threw y)) [] s₂ (Term.arg 0) = e0 at h
        rcases e0 with _ | v0
        all_goals first | (cases v0 <;> simp at h) | simp at h
        all_goals (revert h; repeat' split) <;> simp_all)
    hg hsize (argsL := [.long a]) (rest := rest)
    (fun sig hs => by
      have h : parseMethodDescriptor "(J)J" = some { parameters := [.long], returnType := some .long } := by decide +kernel
      rw [show Lib.MathLoose.abs_long.x.desc = "(J)J" from rfl, h] at hs
      rw [← Option.some.inj hs]; rfl)
    hstack hdg
    (fun vm' hW => by
      simp only [Lib.MathLoose.abs_long.spec, Cond.before_and, Bool.and_eq_true]
      refine ⟨?_, rfl, rfl⟩
      have q := hcode
      rw [← Cond.code_setVm hW.alike] at q
      simp only [Cond.before, Cond.holds, Cond.value, State.methodNamed?, State.vm_setVm] at q ⊢
      exact q)
    (by show 0 + 1 ≤ R.frames; omega) (by show 2 * f.monitorRoom + (rest.map fun v => v.category).sum + (2 + 11) + 0 ≤ R.locals; omega) (by show cells + 0 ≤ R.cells; omega) (by show slots + 0 ≤ R.slots; omega)
  refine ⟨vm', X', fun target h => hstep target ?_⟩
  have key : v = some (.long (if 0 < a then a else if a = 0 then a else -a)) := by
    revert hpost
    by_cases h1 : 0 < a
    · rcases v with _ | w
      · simp [Lib.MathLoose.abs_long.spec, Cond.after, Cond.holds, Cond.value, Term.eval, Unary.apply, h1] <;> (try (intro hq; split at hq <;> simp_all))
      · cases w <;> simp [Lib.MathLoose.abs_long.spec, Cond.after, Cond.holds, Cond.value, Term.eval, Unary.apply, h1] <;> (try (intro hq; split at hq <;> simp_all))
    · by_cases h2 : a = 0
      · rcases v with _ | w
        · simp [Lib.MathLoose.abs_long.spec, Cond.after, Cond.holds, Cond.value, Term.eval, Unary.apply, h1, h2] <;> (try (intro hq; split at hq <;> simp_all))
        · cases w <;> simp [Lib.MathLoose.abs_long.spec, Cond.after, Cond.holds, Cond.value, Term.eval, Unary.apply, h1, h2] <;> (try (intro hq; split at hq <;> simp_all))
      · rcases v with _ | w
        · simp [Lib.MathLoose.abs_long.spec, Cond.after, Cond.holds, Cond.value, Term.eval, Unary.apply, h1, h2] <;> (try (intro hq; split at hq <;> simp_all))
        · cases w <;> simp [Lib.MathLoose.abs_long.spec, Cond.after, Cond.holds, Cond.value, Term.eval, Unary.apply, h1, h2] <;> (try (intro hq; split at hq <;> simp_all))
  subst key
  exact h
theorem ak_labs {index : Nat} (hdl : 0 < d) (hl : Cond.methodLink own index Lib.MathLoose.abs_long.x ∈ lw_gd) (hst : Cond.static Lib.MathLoose.abs_long.x ∈ lw_gd) (hi : Cond.initialized "java/lang/Math" ∈ lw_gd) (hc : Cond.code Lib.MathLoose.abs_long.x Lib.MathLoose.abs_long.code 2 (some .long) ∈ lw_gd) (hd : decode cc pc = .ok (.invokestatic index, 3)) : ax_ok g cc nL ret own nm d mc ms pc ao_labs := by
  intro p e s m args below meth c V Ret L st h u1 u2 K ho hK H locs ls hP hS hlr
  dsimp only [ao_labs] at ho
  split at ho
  · rename_i x r
    obtain ⟨⟨hr, rfl, rfl⟩, ho⟩ := ax_bifm ho
    have ht := V.2.2.2.2.2.2.2.1
    intro T hT X
    obtain ⟨vm', X', st⟩ := ax_labsH X V.1 V.2.2.2.2.2.1 (ht _ hl) (ht _ hst) (ht _ hi) (ht _ hc) (f := F0 m pc ls (.long x :: r.map (ax_v g))) rfl (hlr.1.trans V.2.2.2.2.1.symm) (a := x) (rest := r.map (ax_v g)) rfl (by rw [V.2.1]; exact hd) hdl (by
      show 2 * 0 + _ + 13 ≤ 41 * d + 32
      rw [ax_sum]; omega) (Nat.zero_le _) (Nat.zero_le _)
    obtain ⟨t, a1, b1⟩ := hK _ ho H locs ls hP hS hlr (T.setVm vm') hT X'
    exact ⟨t, st t a1, b1⟩
  · exact ho.elim
end
section
variable {g : ax_G} {cc : ByteArray} {nL : Nat} {ret : Option FieldType} {own nm : String} {d mc ms pc : Nat}
/-! where cells are made: the counts as propositions -/
theorem ak_imp {o o' : ax_O} (h : ax_ok g cc nL ret own nm d mc ms pc o) (hi : ∀ Ret L st hp u1 u2 K, o' Ret (pc, L, st, hp, u1, u2) K → o Ret (pc, L, st, hp, u1, u2) K) : ax_ok g cc nL ret own nm d mc ms pc o' := fun p e s m args below meth c V Ret L st hp u1 u2 K ho hK => h p e s m args below meth c V Ret L st hp u1 u2 K (hi Ret L st hp u1 u2 K ho) hK
def ao_inva (g : ax_G) (d' ci rk : Nat) (y : MethodName) (cc : ByteArray) (nL : Nat) (ret : Option FieldType) (n mc mx ms my : Nat) : ax_O := fun _ σ K => match σ with
  | (pc, L, st, h, u1, u2) => match ax_sp n [] st with
    | some (as, rest) => ((rest.map Value.category).sum ≤ 8 ∧ u1 + mc ≤ mx ∧ u2 + ms ≤ my) ∧ ax_rc ci as h (ax_M g d' mc ms y cc nL ret as h (fun v h' => ax_rk rk v (fun vs => K (pc + 3, L, vs ++ rest, h', u1 + mc, u2 + ms))))
    | none => False
theorem ax_ble {a b : Nat} (h : a ≤ b) : Nat.ble a b = true := Nat.ble_eq.mpr h
theorem ak_inva {d' ci rk : Nat} {y : MethodName} {cc' : ByteArray} {nL' : Nat} {ret' : Option FieldType} {n mc' mx ms' my : Nat} (h : ax_ok g cc nL ret own nm d mc ms pc (ao_inv g d' ci rk y cc' nL' ret' n mc' mx ms' my)) : ax_ok g cc nL ret own nm d mc ms pc (ao_inva g d' ci rk y cc' nL' ret' n mc' mx ms' my) := by
  refine ak_imp h ?_
  intro Ret L st hp u1 u2 K ho
  dsimp only [ao_inva] at ho
  dsimp only [ao_inv]
  split at ho
  · rename_i as rest heq
    try rw [heq]
    try dsimp only
    rw [ax_ble ho.1.1, ax_ble ho.1.2.1, ax_ble ho.1.2.2]
    exact ho.2
  · exact ho.elim
def ao_vreta (mc ms : Nat) : ax_O := fun Ret σ _ => match σ with
  | (pc, L, st, h, u1, u2) => match st with
    | [] => (u1 ≤ mc ∧ u2 ≤ ms) ∧ Ret none h
    | _ => False
def ao_zreta (mc ms : Nat) : ax_O := fun Ret σ _ => match σ with
  | (pc, L, st, h, u1, u2) => match st with
    | [.int x] => (u1 ≤ mc ∧ u2 ≤ ms) ∧ (x = 0 ∨ x = 1) ∧ Ret (some (.int x)) h
    | _ => False
theorem ax_rb_of {a b u1 u2 : Nat} {X : Prop} (h : (u1 ≤ a ∧ u2 ≤ b) ∧ X) : ax_rb a b u1 u2 X := by
  unfold ax_rb
  cases Nat.beq u1 0 && Nat.beq u2 0
  · exact h
  · exact h.2
theorem ak_vreta (h : ax_ok g cc nL ret own nm d mc ms pc (ao_vret mc ms)) : ax_ok g cc nL ret own nm d mc ms pc (ao_vreta mc ms) := by
  refine ak_imp h ?_
  intro Ret L st hp u1 u2 K ho
  dsimp only [ao_vreta] at ho
  dsimp only [ao_vret]
  split at ho
  · exact ax_rb_of ho
  · exact ho.elim
theorem ak_zreta (h : ax_ok g cc nL ret own nm d mc ms pc (ao_zret mc ms)) : ax_ok g cc nL ret own nm d mc ms pc (ao_zreta mc ms) := by
  refine ak_imp h ?_
  intro Ret L st hp u1 u2 K ho
  dsimp only [ao_zreta] at ho
  dsimp only [ao_zret]
  split at ho
  · exact ax_rb_of ho
  · exact ho.elim
end
end

section
section
theorem dv_X0 : ∀ j, j < 4 → defaultValue (tyX0 j) = vp_V ((ax_ft 0).map fun t => if t = 0 then .int 0 else if t = 1 then .long 0 else .null) j := by decide +kernel
theorem dv_X1 : ∀ j, j < 2 → defaultValue (tyX1 j) = vp_V ((ax_ft 1).map fun t => if t = 0 then .int 0 else if t = 1 then .long 0 else .null) j := by decide +kernel
theorem dv_X10 : ∀ j, j < 59 → defaultValue (tyX10 j) = vp_V ((ax_ft 10).map fun t => if t = 0 then .int 0 else if t = 1 then .long 0 else .null) j := by decide +kernel
theorem dv_X2 : ∀ j, j < 4 → defaultValue (tyX2 j) = vp_V ((ax_ft 2).map fun t => if t = 0 then .int 0 else if t = 1 then .long 0 else .null) j := by decide +kernel
theorem dv_X3 : ∀ j, j < 3 → defaultValue (tyX3 j) = vp_V ((ax_ft 3).map fun t => if t = 0 then .int 0 else if t = 1 then .long 0 else .null) j := by decide +kernel
theorem dv_X4 : ∀ j, j < 9 → defaultValue (tyX4 j) = vp_V ((ax_ft 4).map fun t => if t = 0 then .int 0 else if t = 1 then .long 0 else .null) j := by decide +kernel
theorem dv_X5 : ∀ j, j < 14 → defaultValue (tyX5 j) = vp_V ((ax_ft 5).map fun t => if t = 0 then .int 0 else if t = 1 then .long 0 else .null) j := by decide +kernel
theorem dv_X6 : ∀ j, j < 7 → defaultValue (tyX6 j) = vp_V ((ax_ft 6).map fun t => if t = 0 then .int 0 else if t = 1 then .long 0 else .null) j := by decide +kernel
theorem dv_X7 : ∀ j, j < 5 → defaultValue (tyX7 j) = vp_V ((ax_ft 7).map fun t => if t = 0 then .int 0 else if t = 1 then .long 0 else .null) j := by decide +kernel
theorem dv_X8 : ∀ j, j < 7 → defaultValue (tyX8 j) = vp_V ((ax_ft 8).map fun t => if t = 0 then .int 0 else if t = 1 then .long 0 else .null) j := by decide +kernel
theorem dv_X9 : ∀ j, j < 9 → defaultValue (tyX9 j) = vp_V ((ax_ft 9).map fun t => if t = 0 then .int 0 else if t = 1 then .long 0 else .null) j := by decide +kernel
theorem fF_X9_10 : ax_F RX9 10 9 0 2 := ⟨by decide, by decide, _, _, _, tyX9, rfl, ig_X9, tyX9_ok, nmX9, by decide, wd_419⟩
theorem fF_X9_16 : ax_F RX9 16 9 1 2 := ⟨by decide, by decide, _, _, _, tyX9, rfl, ig_X9, tyX9_ok, nmX9, by decide, wd_420⟩
theorem fF_X9_22 : ax_F RX9 22 8 0 2 := ⟨by decide, by decide, _, _, _, tyX8, rfl, ig_X8, tyX8_ok, nmX8, by decide, wd_209⟩
theorem fF_X9_29 : ax_F RX9 29 9 2 2 := ⟨by decide, by decide, _, _, _, tyX9, rfl, ig_X9, tyX9_ok, nmX9, by decide, wd_421⟩
theorem fF_X9_36 : ax_F RX9 36 9 3 2 := ⟨by decide, by decide, _, _, _, tyX9, rfl, ig_X9, tyX9_ok, nmX9, by decide, wd_422⟩
theorem fF_X9_43 : ax_F RX9 43 9 4 2 := ⟨by decide, by decide, _, _, _, tyX9, rfl, ig_X9, tyX9_ok, nmX9, by decide, wd_423⟩
theorem fF_X9_47 : ax_F RX9 47 9 5 2 := ⟨by decide, by decide, _, _, _, tyX9, rfl, ig_X9, tyX9_ok, nmX9, by decide, wd_424⟩
theorem fF_X9_53 : ax_F RX9 53 9 6 2 := ⟨by decide, by decide, _, _, _, tyX9, rfl, ig_X9, tyX9_ok, nmX9, by decide, wd_425⟩
theorem fF_X9_60 : ax_F RX9 60 9 7 2 := ⟨by decide, by decide, _, _, _, tyX9, rfl, ig_X9, tyX9_ok, nmX9, by decide, wd_426⟩
theorem fF_X9_67 : ax_F RX9 67 9 8 2 := ⟨by decide, by decide, _, _, _, tyX9, rfl, ig_X9, tyX9_ok, nmX9, by decide, wd_427⟩
theorem fF_X9_71 : ax_F RX9 71 8 4 0 := ⟨by decide, by decide, _, _, _, tyX8, rfl, ig_X8, tyX8_ok, nmX8, by decide, wd_215⟩
theorem fF_X9_79 : ax_F RX9 79 8 5 0 := ⟨by decide, by decide, _, _, _, tyX8, rfl, ig_X8, tyX8_ok, nmX8, by decide, wd_217⟩
theorem fF_X9_82 : ax_F RX9 82 8 6 0 := ⟨by decide, by decide, _, _, _, tyX8, rfl, ig_X8, tyX8_ok, nmX8, by decide, wd_219⟩
theorem fF_X9_85 : ax_F RX9 85 8 1 2 := ⟨by decide, by decide, _, _, _, tyX8, rfl, ig_X8, tyX8_ok, nmX8, by decide, wd_211⟩
theorem fF_X9_93 : ax_F RX9 93 5 4 0 := ⟨by decide, by decide, _, _, _, tyX5, rfl, ig_X5, tyX5_ok, nmX5, by decide, wd_253⟩
theorem fF_X9_94 : ax_F RX9 94 5 5 0 := ⟨by decide, by decide, _, _, _, tyX5, rfl, ig_X5, tyX5_ok, nmX5, by decide, wd_255⟩
theorem fF_X9_112 : ax_F RX9 112 6 5 0 := ⟨by decide, by decide, _, _, _, tyX6, rfl, ig_X6, tyX6_ok, nmX6, by decide, wd_158⟩
theorem fF_X9_115 : ax_F RX9 115 6 6 0 := ⟨by decide, by decide, _, _, _, tyX6, rfl, ig_X6, tyX6_ok, nmX6, by decide, wd_162⟩
theorem fF_X9_129 : ax_F RX9 129 6 2 2 := ⟨by decide, by decide, _, _, _, tyX6, rfl, ig_X6, tyX6_ok, nmX6, by decide, wd_146⟩
theorem fF_X9_149 : ax_F RX9 149 3 0 2 := ⟨by decide, by decide, _, _, _, tyX3, rfl, ig_X3, tyX3_ok, nmX3, by decide, wd_324⟩
theorem fF_X9_152 : ax_F RX9 152 3 2 0 := ⟨by decide, by decide, _, _, _, tyX3, rfl, ig_X3, tyX3_ok, nmX3, by decide, wd_328⟩
theorem fF_X9_163 : ax_F RX9 163 2 3 0 := ⟨by decide, by decide, _, _, _, tyX2, rfl, ig_X2, tyX2_ok, nmX2, by decide, wd_198⟩
theorem fF_X9_181 : ax_F RX9 181 0 0 2 := ⟨by decide, by decide, _, _, _, tyX0, rfl, ig_X0, tyX0_ok, nmX0, by decide, wd_301⟩
theorem fF_X9_228 : ax_F RX9 228 4 0 2 := ⟨by decide, by decide, _, _, _, tyX4, rfl, ig_X4, tyX4_ok, nmX4, by decide, wd_345⟩
theorem fF_X9_231 : ax_F RX9 231 4 1 1 := ⟨by decide, by decide, _, _, _, tyX4, rfl, ig_X4, tyX4_ok, nmX4, by decide, wd_347⟩
theorem fF_X9_239 : ax_F RX9 239 4 2 1 := ⟨by decide, by decide, _, _, _, tyX4, rfl, ig_X4, tyX4_ok, nmX4, by decide, wd_349⟩
theorem fF_X9_242 : ax_F RX9 242 4 3 0 := ⟨by decide, by decide, _, _, _, tyX4, rfl, ig_X4, tyX4_ok, nmX4, by decide, wd_351⟩
theorem fF_X9_266 : ax_F RX9 266 7 2 0 := ⟨by decide, by decide, _, _, _, tyX7, rfl, ig_X7, tyX7_ok, nmX7, by decide, wd_392⟩
theorem fF_X9_269 : ax_F RX9 269 7 1 0 := ⟨by decide, by decide, _, _, _, tyX7, rfl, ig_X7, tyX7_ok, nmX7, by decide, wd_390⟩
theorem fF_X9_275 : ax_F RX9 275 7 0 2 := ⟨by decide, by decide, _, _, _, tyX7, rfl, ig_X7, tyX7_ok, nmX7, by decide, wd_388⟩
theorem fF_X9_296 : ax_F RX9 296 4 4 1 := ⟨by decide, by decide, _, _, _, tyX4, rfl, ig_X4, tyX4_ok, nmX4, by decide, wd_353⟩
theorem fF_X0_9 : ax_F RX0 9 0 0 2 := ⟨by decide, by decide, _, _, _, tyX0, rfl, ig_X0, tyX0_ok, nmX0, by decide, wd_299⟩
theorem fF_X0_15 : ax_F RX0 15 0 1 2 := ⟨by decide, by decide, _, _, _, tyX0, rfl, ig_X0, tyX0_ok, nmX0, by decide, wd_302⟩
theorem fF_X0_18 : ax_F RX0 18 0 2 0 := ⟨by decide, by decide, _, _, _, tyX0, rfl, ig_X0, tyX0_ok, nmX0, by decide, wd_303⟩
theorem fF_X0_22 : ax_F RX0 22 0 3 0 := ⟨by decide, by decide, _, _, _, tyX0, rfl, ig_X0, tyX0_ok, nmX0, by decide, wd_304⟩
theorem fF_X0_25 : ax_F RX0 25 6 6 0 := ⟨by decide, by decide, _, _, _, tyX6, rfl, ig_X6, tyX6_ok, nmX6, by decide, wd_159⟩
theorem fF_X0_28 : ax_F RX0 28 6 5 0 := ⟨by decide, by decide, _, _, _, tyX6, rfl, ig_X6, tyX6_ok, nmX6, by decide, wd_154⟩
theorem fF_X0_29 : ax_F RX0 29 6 2 2 := ⟨by decide, by decide, _, _, _, tyX6, rfl, ig_X6, tyX6_ok, nmX6, by decide, wd_145⟩
theorem fF_X0_46 : ax_F RX0 46 3 0 2 := ⟨by decide, by decide, _, _, _, tyX3, rfl, ig_X3, tyX3_ok, nmX3, by decide, wd_323⟩
theorem fF_X1_7 : ax_F RX1 7 1 0 1 := ⟨by decide, by decide, _, _, _, tyX1, rfl, ig_X1, tyX1_ok, nmX1, by decide, wd_412⟩
theorem fF_X1_13 : ax_F RX1 13 1 1 1 := ⟨by decide, by decide, _, _, _, tyX1, rfl, ig_X1, tyX1_ok, nmX1, by decide, wd_413⟩
theorem fF_X2_9 : ax_F RX2 9 2 3 0 := ⟨by decide, by decide, _, _, _, tyX2, rfl, ig_X2, tyX2_ok, nmX2, by decide, wd_193⟩
theorem fF_X2_19 : ax_F RX2 19 2 0 0 := ⟨by decide, by decide, _, _, _, tyX2, rfl, ig_X2, tyX2_ok, nmX2, by decide, wd_189⟩
theorem fF_X2_25 : ax_F RX2 25 2 1 0 := ⟨by decide, by decide, _, _, _, tyX2, rfl, ig_X2, tyX2_ok, nmX2, by decide, wd_190⟩
theorem fF_X2_28 : ax_F RX2 28 2 2 2 := ⟨by decide, by decide, _, _, _, tyX2, rfl, ig_X2, tyX2_ok, nmX2, by decide, wd_192⟩
theorem fF_X3_9 : ax_F RX3 9 3 0 2 := ⟨by decide, by decide, _, _, _, tyX3, rfl, ig_X3, tyX3_ok, nmX3, by decide, wd_320⟩
theorem fF_X3_15 : ax_F RX3 15 3 1 0 := ⟨by decide, by decide, _, _, _, tyX3, rfl, ig_X3, tyX3_ok, nmX3, by decide, wd_325⟩
theorem fF_X3_19 : ax_F RX3 19 3 2 0 := ⟨by decide, by decide, _, _, _, tyX3, rfl, ig_X3, tyX3_ok, nmX3, by decide, wd_326⟩
theorem fF_X3_22 : ax_F RX3 22 6 5 0 := ⟨by decide, by decide, _, _, _, tyX6, rfl, ig_X6, tyX6_ok, nmX6, by decide, wd_152⟩
theorem fF_X4_9 : ax_F RX4 9 4 0 2 := ⟨by decide, by decide, _, _, _, tyX4, rfl, ig_X4, tyX4_ok, nmX4, by decide, wd_344⟩
theorem fF_X4_15 : ax_F RX4 15 4 1 1 := ⟨by decide, by decide, _, _, _, tyX4, rfl, ig_X4, tyX4_ok, nmX4, by decide, wd_346⟩
theorem fF_X4_19 : ax_F RX4 19 4 2 1 := ⟨by decide, by decide, _, _, _, tyX4, rfl, ig_X4, tyX4_ok, nmX4, by decide, wd_348⟩
theorem fF_X4_22 : ax_F RX4 22 4 3 0 := ⟨by decide, by decide, _, _, _, tyX4, rfl, ig_X4, tyX4_ok, nmX4, by decide, wd_350⟩
theorem fF_X4_26 : ax_F RX4 26 4 4 1 := ⟨by decide, by decide, _, _, _, tyX4, rfl, ig_X4, tyX4_ok, nmX4, by decide, wd_352⟩
theorem fF_X4_29 : ax_F RX4 29 4 5 2 := ⟨by decide, by decide, _, _, _, tyX4, rfl, ig_X4, tyX4_ok, nmX4, by decide, wd_354⟩
theorem fF_X4_32 : ax_F RX4 32 4 6 2 := ⟨by decide, by decide, _, _, _, tyX4, rfl, ig_X4, tyX4_ok, nmX4, by decide, wd_355⟩
theorem fF_X4_36 : ax_F RX4 36 4 7 2 := ⟨by decide, by decide, _, _, _, tyX4, rfl, ig_X4, tyX4_ok, nmX4, by decide, wd_356⟩
theorem fF_X4_42 : ax_F RX4 42 4 8 2 := ⟨by decide, by decide, _, _, _, tyX4, rfl, ig_X4, tyX4_ok, nmX4, by decide, wd_357⟩
theorem fF_X4_56 : ax_F RX4 56 6 5 0 := ⟨by decide, by decide, _, _, _, tyX6, rfl, ig_X6, tyX6_ok, nmX6, by decide, wd_156⟩
theorem fF_X4_65 : ax_F RX4 65 3 0 2 := ⟨by decide, by decide, _, _, _, tyX3, rfl, ig_X3, tyX3_ok, nmX3, by decide, wd_321⟩
theorem fF_X4_72 : ax_F RX4 72 2 3 0 := ⟨by decide, by decide, _, _, _, tyX2, rfl, ig_X2, tyX2_ok, nmX2, by decide, wd_196⟩
theorem fF_X4_107 : ax_F RX4 107 3 2 0 := ⟨by decide, by decide, _, _, _, tyX3, rfl, ig_X3, tyX3_ok, nmX3, by decide, wd_327⟩
theorem fF_X5_12 : ax_F RX5 12 5 1 2 := ⟨by decide, by decide, _, _, _, tyX5, rfl, ig_X5, tyX5_ok, nmX5, by decide, wd_247⟩
theorem fF_X5_20 : ax_F RX5 20 5 2 2 := ⟨by decide, by decide, _, _, _, tyX5, rfl, ig_X5, tyX5_ok, nmX5, by decide, wd_249⟩
theorem fF_X5_24 : ax_F RX5 24 5 3 2 := ⟨by decide, by decide, _, _, _, tyX5, rfl, ig_X5, tyX5_ok, nmX5, by decide, wd_251⟩
theorem fF_X5_28 : ax_F RX5 28 5 4 0 := ⟨by decide, by decide, _, _, _, tyX5, rfl, ig_X5, tyX5_ok, nmX5, by decide, wd_252⟩
theorem fF_X5_32 : ax_F RX5 32 5 5 0 := ⟨by decide, by decide, _, _, _, tyX5, rfl, ig_X5, tyX5_ok, nmX5, by decide, wd_254⟩
theorem fF_X5_35 : ax_F RX5 35 5 6 0 := ⟨by decide, by decide, _, _, _, tyX5, rfl, ig_X5, tyX5_ok, nmX5, by decide, wd_256⟩
theorem fF_X5_38 : ax_F RX5 38 5 7 0 := ⟨by decide, by decide, _, _, _, tyX5, rfl, ig_X5, tyX5_ok, nmX5, by decide, wd_257⟩
theorem fF_X5_41 : ax_F RX5 41 5 8 0 := ⟨by decide, by decide, _, _, _, tyX5, rfl, ig_X5, tyX5_ok, nmX5, by decide, wd_258⟩
theorem fF_X5_44 : ax_F RX5 44 5 9 0 := ⟨by decide, by decide, _, _, _, tyX5, rfl, ig_X5, tyX5_ok, nmX5, by decide, wd_259⟩
theorem fF_X5_47 : ax_F RX5 47 5 10 0 := ⟨by decide, by decide, _, _, _, tyX5, rfl, ig_X5, tyX5_ok, nmX5, by decide, wd_260⟩
theorem fF_X5_50 : ax_F RX5 50 5 11 0 := ⟨by decide, by decide, _, _, _, tyX5, rfl, ig_X5, tyX5_ok, nmX5, by decide, wd_261⟩
theorem fF_X5_53 : ax_F RX5 53 5 12 0 := ⟨by decide, by decide, _, _, _, tyX5, rfl, ig_X5, tyX5_ok, nmX5, by decide, wd_262⟩
theorem fF_X5_56 : ax_F RX5 56 5 13 0 := ⟨by decide, by decide, _, _, _, tyX5, rfl, ig_X5, tyX5_ok, nmX5, by decide, wd_263⟩
theorem fF_X5_59 : ax_F RX5 59 5 0 2 := ⟨by decide, by decide, _, _, _, tyX5, rfl, ig_X5, tyX5_ok, nmX5, by decide, wd_246⟩
theorem fF_X5_77 : ax_F RX5 77 6 5 0 := ⟨by decide, by decide, _, _, _, tyX6, rfl, ig_X6, tyX6_ok, nmX6, by decide, wd_155⟩
theorem fF_X5_80 : ax_F RX5 80 6 6 0 := ⟨by decide, by decide, _, _, _, tyX6, rfl, ig_X6, tyX6_ok, nmX6, by decide, wd_161⟩
theorem fF_X5_102 : ax_F RX5 102 2 3 0 := ⟨by decide, by decide, _, _, _, tyX2, rfl, ig_X2, tyX2_ok, nmX2, by decide, wd_195⟩
theorem fF_X5_147 : ax_F RX5 147 6 0 2 := ⟨by decide, by decide, _, _, _, tyX6, rfl, ig_X6, tyX6_ok, nmX6, by decide, wd_141⟩
theorem fF_X5_150 : ax_F RX5 150 6 1 2 := ⟨by decide, by decide, _, _, _, tyX6, rfl, ig_X6, tyX6_ok, nmX6, by decide, wd_143⟩
theorem fF_X5_153 : ax_F RX5 153 6 2 2 := ⟨by decide, by decide, _, _, _, tyX6, rfl, ig_X6, tyX6_ok, nmX6, by decide, wd_147⟩
theorem fF_X5_156 : ax_F RX5 156 6 3 2 := ⟨by decide, by decide, _, _, _, tyX6, rfl, ig_X6, tyX6_ok, nmX6, by decide, wd_149⟩
theorem fF_X5_159 : ax_F RX5 159 6 4 2 := ⟨by decide, by decide, _, _, _, tyX6, rfl, ig_X6, tyX6_ok, nmX6, by decide, wd_151⟩
theorem fF_X6_9 : ax_F RX6 9 6 0 2 := ⟨by decide, by decide, _, _, _, tyX6, rfl, ig_X6, tyX6_ok, nmX6, by decide, wd_140⟩
theorem fF_X6_15 : ax_F RX6 15 6 1 2 := ⟨by decide, by decide, _, _, _, tyX6, rfl, ig_X6, tyX6_ok, nmX6, by decide, wd_142⟩
theorem fF_X6_18 : ax_F RX6 18 6 2 2 := ⟨by decide, by decide, _, _, _, tyX6, rfl, ig_X6, tyX6_ok, nmX6, by decide, wd_144⟩
theorem fF_X6_21 : ax_F RX6 21 6 3 2 := ⟨by decide, by decide, _, _, _, tyX6, rfl, ig_X6, tyX6_ok, nmX6, by decide, wd_148⟩
theorem fF_X6_24 : ax_F RX6 24 6 4 2 := ⟨by decide, by decide, _, _, _, tyX6, rfl, ig_X6, tyX6_ok, nmX6, by decide, wd_150⟩
theorem fF_X6_30 : ax_F RX6 30 6 5 0 := ⟨by decide, by decide, _, _, _, tyX6, rfl, ig_X6, tyX6_ok, nmX6, by decide, wd_153⟩
theorem fF_X6_34 : ax_F RX6 34 6 6 0 := ⟨by decide, by decide, _, _, _, tyX6, rfl, ig_X6, tyX6_ok, nmX6, by decide, wd_160⟩
theorem fF_X7_9 : ax_F RX7 9 7 0 2 := ⟨by decide, by decide, _, _, _, tyX7, rfl, ig_X7, tyX7_ok, nmX7, by decide, wd_387⟩
theorem fF_X7_15 : ax_F RX7 15 7 1 0 := ⟨by decide, by decide, _, _, _, tyX7, rfl, ig_X7, tyX7_ok, nmX7, by decide, wd_389⟩
theorem fF_X7_19 : ax_F RX7 19 7 2 0 := ⟨by decide, by decide, _, _, _, tyX7, rfl, ig_X7, tyX7_ok, nmX7, by decide, wd_391⟩
theorem fF_X7_22 : ax_F RX7 22 7 3 2 := ⟨by decide, by decide, _, _, _, tyX7, rfl, ig_X7, tyX7_ok, nmX7, by decide, wd_393⟩
theorem fF_X7_27 : ax_F RX7 27 7 4 2 := ⟨by decide, by decide, _, _, _, tyX7, rfl, ig_X7, tyX7_ok, nmX7, by decide, wd_394⟩
theorem fF_X7_32 : ax_F RX7 32 2 3 0 := ⟨by decide, by decide, _, _, _, tyX2, rfl, ig_X2, tyX2_ok, nmX2, by decide, wd_194⟩
theorem fF_X7_66 : ax_F RX7 66 6 5 0 := ⟨by decide, by decide, _, _, _, tyX6, rfl, ig_X6, tyX6_ok, nmX6, by decide, wd_157⟩
theorem fF_X7_71 : ax_F RX7 71 3 0 2 := ⟨by decide, by decide, _, _, _, tyX3, rfl, ig_X3, tyX3_ok, nmX3, by decide, wd_322⟩
theorem fF_X7_89 : ax_F RX7 89 0 0 2 := ⟨by decide, by decide, _, _, _, tyX0, rfl, ig_X0, tyX0_ok, nmX0, by decide, wd_300⟩
theorem fF_X8_9 : ax_F RX8 9 8 0 2 := ⟨by decide, by decide, _, _, _, tyX8, rfl, ig_X8, tyX8_ok, nmX8, by decide, wd_208⟩
theorem fF_X8_15 : ax_F RX8 15 8 1 2 := ⟨by decide, by decide, _, _, _, tyX8, rfl, ig_X8, tyX8_ok, nmX8, by decide, wd_210⟩
theorem fF_X8_21 : ax_F RX8 21 8 2 2 := ⟨by decide, by decide, _, _, _, tyX8, rfl, ig_X8, tyX8_ok, nmX8, by decide, wd_212⟩
theorem fF_X8_27 : ax_F RX8 27 8 3 2 := ⟨by decide, by decide, _, _, _, tyX8, rfl, ig_X8, tyX8_ok, nmX8, by decide, wd_213⟩
theorem fF_X8_31 : ax_F RX8 31 8 4 0 := ⟨by decide, by decide, _, _, _, tyX8, rfl, ig_X8, tyX8_ok, nmX8, by decide, wd_214⟩
theorem fF_X8_35 : ax_F RX8 35 8 5 0 := ⟨by decide, by decide, _, _, _, tyX8, rfl, ig_X8, tyX8_ok, nmX8, by decide, wd_216⟩
theorem fF_X8_38 : ax_F RX8 38 8 6 0 := ⟨by decide, by decide, _, _, _, tyX8, rfl, ig_X8, tyX8_ok, nmX8, by decide, wd_218⟩
theorem fF_X8_49 : ax_F RX8 49 2 3 0 := ⟨by decide, by decide, _, _, _, tyX2, rfl, ig_X2, tyX2_ok, nmX2, by decide, wd_197⟩
theorem fF_X8_56 : ax_F RX8 56 2 1 0 := ⟨by decide, by decide, _, _, _, tyX2, rfl, ig_X2, tyX2_ok, nmX2, by decide, wd_191⟩
theorem fF_X8_68 : ax_F RX8 68 5 1 2 := ⟨by decide, by decide, _, _, _, tyX5, rfl, ig_X5, tyX5_ok, nmX5, by decide, wd_248⟩
theorem fF_X8_78 : ax_F RX8 78 5 2 2 := ⟨by decide, by decide, _, _, _, tyX5, rfl, ig_X5, tyX5_ok, nmX5, by decide, wd_250⟩
theorem fF_X10_7 : ax_F RX10 7 10 1 2 := ⟨by decide, by decide, _, _, _, tyX10, rfl, ig_X10, tyX10_ok, nmX10, by decide, wd_1054⟩
theorem fF_X10_13 : ax_F RX10 13 10 2 2 := ⟨by decide, by decide, _, _, _, tyX10, rfl, ig_X10, tyX10_ok, nmX10, by decide, wd_1055⟩
theorem fF_X10_17 : ax_F RX10 17 10 3 2 := ⟨by decide, by decide, _, _, _, tyX10, rfl, ig_X10, tyX10_ok, nmX10, by decide, wd_1056⟩
theorem fF_X10_20 : ax_F RX10 20 10 4 2 := ⟨by decide, by decide, _, _, _, tyX10, rfl, ig_X10, tyX10_ok, nmX10, by decide, wd_1057⟩
theorem fF_X10_23 : ax_F RX10 23 10 5 2 := ⟨by decide, by decide, _, _, _, tyX10, rfl, ig_X10, tyX10_ok, nmX10, by decide, wd_1058⟩
theorem fF_X10_26 : ax_F RX10 26 10 6 2 := ⟨by decide, by decide, _, _, _, tyX10, rfl, ig_X10, tyX10_ok, nmX10, by decide, wd_1059⟩
theorem fF_X10_29 : ax_F RX10 29 10 7 2 := ⟨by decide, by decide, _, _, _, tyX10, rfl, ig_X10, tyX10_ok, nmX10, by decide, wd_1060⟩
theorem fF_X10_32 : ax_F RX10 32 10 8 2 := ⟨by decide, by decide, _, _, _, tyX10, rfl, ig_X10, tyX10_ok, nmX10, by decide, wd_1061⟩
theorem fF_X10_35 : ax_F RX10 35 10 9 2 := ⟨by decide, by decide, _, _, _, tyX10, rfl, ig_X10, tyX10_ok, nmX10, by decide, wd_1062⟩
theorem fF_X10_38 : ax_F RX10 38 10 10 2 := ⟨by decide, by decide, _, _, _, tyX10, rfl, ig_X10, tyX10_ok, nmX10, by decide, wd_1063⟩
theorem fF_X10_41 : ax_F RX10 41 10 20 2 := ⟨by decide, by decide, _, _, _, tyX10, rfl, ig_X10, tyX10_ok, nmX10, by decide, wd_1073⟩
theorem fF_X10_44 : ax_F RX10 44 10 21 2 := ⟨by decide, by decide, _, _, _, tyX10, rfl, ig_X10, tyX10_ok, nmX10, by decide, wd_1074⟩
theorem fF_X10_47 : ax_F RX10 47 10 28 2 := ⟨by decide, by decide, _, _, _, tyX10, rfl, ig_X10, tyX10_ok, nmX10, by decide, wd_1081⟩
theorem fF_X10_50 : ax_F RX10 50 10 29 2 := ⟨by decide, by decide, _, _, _, tyX10, rfl, ig_X10, tyX10_ok, nmX10, by decide, wd_1082⟩
theorem fF_X10_53 : ax_F RX10 53 10 30 2 := ⟨by decide, by decide, _, _, _, tyX10, rfl, ig_X10, tyX10_ok, nmX10, by decide, wd_1083⟩
theorem fF_X10_56 : ax_F RX10 56 10 31 2 := ⟨by decide, by decide, _, _, _, tyX10, rfl, ig_X10, tyX10_ok, nmX10, by decide, wd_1084⟩
theorem fF_X10_59 : ax_F RX10 59 10 40 2 := ⟨by decide, by decide, _, _, _, tyX10, rfl, ig_X10, tyX10_ok, nmX10, by decide, wd_1093⟩
theorem fF_X10_62 : ax_F RX10 62 10 43 2 := ⟨by decide, by decide, _, _, _, tyX10, rfl, ig_X10, tyX10_ok, nmX10, by decide, wd_1096⟩
theorem fF_X10_66 : ax_F RX10 66 10 44 2 := ⟨by decide, by decide, _, _, _, tyX10, rfl, ig_X10, tyX10_ok, nmX10, by decide, wd_1097⟩
theorem fF_X10_69 : ax_F RX10 69 10 48 2 := ⟨by decide, by decide, _, _, _, tyX10, rfl, ig_X10, tyX10_ok, nmX10, by decide, wd_1101⟩
theorem fF_X10_72 : ax_F RX10 72 10 52 2 := ⟨by decide, by decide, _, _, _, tyX10, rfl, ig_X10, tyX10_ok, nmX10, by decide, wd_1105⟩
theorem fF_X10_75 : ax_F RX10 75 10 53 2 := ⟨by decide, by decide, _, _, _, tyX10, rfl, ig_X10, tyX10_ok, nmX10, by decide, wd_1106⟩
theorem fF_X10_78 : ax_F RX10 78 10 54 2 := ⟨by decide, by decide, _, _, _, tyX10, rfl, ig_X10, tyX10_ok, nmX10, by decide, wd_1107⟩
theorem fF_X10_81 : ax_F RX10 81 10 55 2 := ⟨by decide, by decide, _, _, _, tyX10, rfl, ig_X10, tyX10_ok, nmX10, by decide, wd_1108⟩
theorem fF_X10_84 : ax_F RX10 84 10 58 2 := ⟨by decide, by decide, _, _, _, tyX10, rfl, ig_X10, tyX10_ok, nmX10, by decide, wd_1111⟩
theorem fF_X10_88 : ax_F RX10 88 10 0 0 := ⟨by decide, by decide, _, _, _, tyX10, rfl, ig_X10, tyX10_ok, nmX10, by decide, wd_1053⟩
theorem fF_X10_104 : ax_F RX10 104 10 11 0 := ⟨by decide, by decide, _, _, _, tyX10, rfl, ig_X10, tyX10_ok, nmX10, by decide, wd_1064⟩
theorem fF_X10_107 : ax_F RX10 107 10 12 0 := ⟨by decide, by decide, _, _, _, tyX10, rfl, ig_X10, tyX10_ok, nmX10, by decide, wd_1065⟩
theorem fF_X10_114 : ax_F RX10 114 10 13 0 := ⟨by decide, by decide, _, _, _, tyX10, rfl, ig_X10, tyX10_ok, nmX10, by decide, wd_1066⟩
theorem fF_X10_117 : ax_F RX10 117 10 16 1 := ⟨by decide, by decide, _, _, _, tyX10, rfl, ig_X10, tyX10_ok, nmX10, by decide, wd_1069⟩
theorem fF_X10_121 : ax_F RX10 121 10 14 0 := ⟨by decide, by decide, _, _, _, tyX10, rfl, ig_X10, tyX10_ok, nmX10, by decide, wd_1067⟩
theorem fF_X10_124 : ax_F RX10 124 10 15 0 := ⟨by decide, by decide, _, _, _, tyX10, rfl, ig_X10, tyX10_ok, nmX10, by decide, wd_1068⟩
theorem fF_X10_127 : ax_F RX10 127 10 17 0 := ⟨by decide, by decide, _, _, _, tyX10, rfl, ig_X10, tyX10_ok, nmX10, by decide, wd_1070⟩
theorem fF_X10_130 : ax_F RX10 130 10 18 0 := ⟨by decide, by decide, _, _, _, tyX10, rfl, ig_X10, tyX10_ok, nmX10, by decide, wd_1071⟩
theorem fF_X10_133 : ax_F RX10 133 10 19 0 := ⟨by decide, by decide, _, _, _, tyX10, rfl, ig_X10, tyX10_ok, nmX10, by decide, wd_1072⟩
theorem fF_X10_144 : ax_F RX10 144 10 24 0 := ⟨by decide, by decide, _, _, _, tyX10, rfl, ig_X10, tyX10_ok, nmX10, by decide, wd_1077⟩
theorem fF_X10_160 : ax_F RX10 160 10 23 0 := ⟨by decide, by decide, _, _, _, tyX10, rfl, ig_X10, tyX10_ok, nmX10, by decide, wd_1076⟩
theorem fF_X10_167 : ax_F RX10 167 10 22 0 := ⟨by decide, by decide, _, _, _, tyX10, rfl, ig_X10, tyX10_ok, nmX10, by decide, wd_1075⟩
theorem fF_X10_244 : ax_F RX10 244 10 25 0 := ⟨by decide, by decide, _, _, _, tyX10, rfl, ig_X10, tyX10_ok, nmX10, by decide, wd_1078⟩
theorem fF_X10_247 : ax_F RX10 247 10 34 0 := ⟨by decide, by decide, _, _, _, tyX10, rfl, ig_X10, tyX10_ok, nmX10, by decide, wd_1087⟩
theorem fF_X10_250 : ax_F RX10 250 10 35 0 := ⟨by decide, by decide, _, _, _, tyX10, rfl, ig_X10, tyX10_ok, nmX10, by decide, wd_1088⟩
theorem fF_X10_263 : ax_F RX10 263 10 26 0 := ⟨by decide, by decide, _, _, _, tyX10, rfl, ig_X10, tyX10_ok, nmX10, by decide, wd_1079⟩
theorem fF_X10_273 : ax_F RX10 273 10 33 0 := ⟨by decide, by decide, _, _, _, tyX10, rfl, ig_X10, tyX10_ok, nmX10, by decide, wd_1086⟩
theorem fF_X10_276 : ax_F RX10 276 10 27 0 := ⟨by decide, by decide, _, _, _, tyX10, rfl, ig_X10, tyX10_ok, nmX10, by decide, wd_1080⟩
theorem fF_X10_279 : ax_F RX10 279 10 32 0 := ⟨by decide, by decide, _, _, _, tyX10, rfl, ig_X10, tyX10_ok, nmX10, by decide, wd_1085⟩
theorem fF_X10_312 : ax_F RX10 312 10 36 0 := ⟨by decide, by decide, _, _, _, tyX10, rfl, ig_X10, tyX10_ok, nmX10, by decide, wd_1089⟩
theorem fF_X10_321 : ax_F RX10 321 10 37 1 := ⟨by decide, by decide, _, _, _, tyX10, rfl, ig_X10, tyX10_ok, nmX10, by decide, wd_1090⟩
theorem fF_X10_324 : ax_F RX10 324 10 38 1 := ⟨by decide, by decide, _, _, _, tyX10, rfl, ig_X10, tyX10_ok, nmX10, by decide, wd_1091⟩
theorem fF_X10_335 : ax_F RX10 335 10 39 0 := ⟨by decide, by decide, _, _, _, tyX10, rfl, ig_X10, tyX10_ok, nmX10, by decide, wd_1092⟩
theorem fF_X10_365 : ax_F RX10 365 10 41 0 := ⟨by decide, by decide, _, _, _, tyX10, rfl, ig_X10, tyX10_ok, nmX10, by decide, wd_1094⟩
theorem fF_X10_368 : ax_F RX10 368 10 45 0 := ⟨by decide, by decide, _, _, _, tyX10, rfl, ig_X10, tyX10_ok, nmX10, by decide, wd_1098⟩
theorem fF_X10_374 : ax_F RX10 374 10 42 0 := ⟨by decide, by decide, _, _, _, tyX10, rfl, ig_X10, tyX10_ok, nmX10, by decide, wd_1095⟩
theorem fF_X10_398 : ax_F RX10 398 10 46 1 := ⟨by decide, by decide, _, _, _, tyX10, rfl, ig_X10, tyX10_ok, nmX10, by decide, wd_1099⟩
theorem fF_X10_413 : ax_F RX10 413 10 47 0 := ⟨by decide, by decide, _, _, _, tyX10, rfl, ig_X10, tyX10_ok, nmX10, by decide, wd_1100⟩
theorem fF_X10_440 : ax_F RX10 440 10 49 0 := ⟨by decide, by decide, _, _, _, tyX10, rfl, ig_X10, tyX10_ok, nmX10, by decide, wd_1102⟩
theorem fF_X10_449 : ax_F RX10 449 10 51 0 := ⟨by decide, by decide, _, _, _, tyX10, rfl, ig_X10, tyX10_ok, nmX10, by decide, wd_1104⟩
theorem fF_X10_455 : ax_F RX10 455 10 50 0 := ⟨by decide, by decide, _, _, _, tyX10, rfl, ig_X10, tyX10_ok, nmX10, by decide, wd_1103⟩
theorem fF_X10_470 : ax_F RX10 470 10 57 1 := ⟨by decide, by decide, _, _, _, tyX10, rfl, ig_X10, tyX10_ok, nmX10, by decide, wd_1110⟩
theorem fF_X10_473 : ax_F RX10 473 10 56 1 := ⟨by decide, by decide, _, _, _, tyX10, rfl, ig_X10, tyX10_ok, nmX10, by decide, wd_1109⟩
theorem fW_X0_15_i : ax_Fw RX0 "<init>" 0 1 (.array .int) := fun _ _ _ h => by cases h; exact ⟨Or.inr ⟨rfl, rfl, rfl⟩, tyX0_ok _ (by decide)⟩
theorem fW_X0_18_a {nm : String} : ax_Fw RX0 nm 0 2 .int := fun _ _ _ h => by cases h; exact ⟨Or.inl rfl, tyX0_ok _ (by decide)⟩
theorem fW_X0_22_a {nm : String} : ax_Fw RX0 nm 0 3 .int := fun _ _ _ h => by cases h; exact ⟨Or.inl rfl, tyX0_ok _ (by decide)⟩
theorem fW_X0_9_i : ax_Fw RX0 "<init>" 0 0 (.array .int) := fun _ _ _ h => by cases h; exact ⟨Or.inr ⟨rfl, rfl, rfl⟩, tyX0_ok _ (by decide)⟩
theorem fW_X10_104_a {nm : String} : ax_Fw RX10 nm 10 11 .int := fun _ _ _ h => by cases h; exact ⟨Or.inl rfl, tyX10_ok _ (by decide)⟩
theorem fW_X10_107_a {nm : String} : ax_Fw RX10 nm 10 12 .int := fun _ _ _ h => by cases h; exact ⟨Or.inl rfl, tyX10_ok _ (by decide)⟩
theorem fW_X10_114_a {nm : String} : ax_Fw RX10 nm 10 13 .int := fun _ _ _ h => by cases h; exact ⟨Or.inl rfl, tyX10_ok _ (by decide)⟩
theorem fW_X10_117_a {nm : String} : ax_Fw RX10 nm 10 16 .long := fun _ _ _ h => by cases h; exact ⟨Or.inl rfl, tyX10_ok _ (by decide)⟩
theorem fW_X10_121_a {nm : String} : ax_Fw RX10 nm 10 14 .int := fun _ _ _ h => by cases h; exact ⟨Or.inl rfl, tyX10_ok _ (by decide)⟩
theorem fW_X10_124_a {nm : String} : ax_Fw RX10 nm 10 15 .int := fun _ _ _ h => by cases h; exact ⟨Or.inl rfl, tyX10_ok _ (by decide)⟩
theorem fW_X10_127_a {nm : String} : ax_Fw RX10 nm 10 17 .int := fun _ _ _ h => by cases h; exact ⟨Or.inl rfl, tyX10_ok _ (by decide)⟩
theorem fW_X10_130_a {nm : String} : ax_Fw RX10 nm 10 18 .int := fun _ _ _ h => by cases h; exact ⟨Or.inl rfl, tyX10_ok _ (by decide)⟩
theorem fW_X10_133_a {nm : String} : ax_Fw RX10 nm 10 19 .int := fun _ _ _ h => by cases h; exact ⟨Or.inl rfl, tyX10_ok _ (by decide)⟩
theorem fW_X10_13_i : ax_Fw RX10 "<init>" 10 2 (.array .int) := fun _ _ _ h => by cases h; exact ⟨Or.inr ⟨rfl, rfl, rfl⟩, tyX10_ok _ (by decide)⟩
theorem fW_X10_144_a {nm : String} : ax_Fw RX10 nm 10 24 .boolean := fun _ _ _ h => by cases h; exact ⟨Or.inl rfl, tyX10_ok _ (by decide)⟩
theorem fW_X10_160_a {nm : String} : ax_Fw RX10 nm 10 23 .int := fun _ _ _ h => by cases h; exact ⟨Or.inl rfl, tyX10_ok _ (by decide)⟩
theorem fW_X10_167_a {nm : String} : ax_Fw RX10 nm 10 22 .int := fun _ _ _ h => by cases h; exact ⟨Or.inl rfl, tyX10_ok _ (by decide)⟩
theorem fW_X10_17_i : ax_Fw RX10 "<init>" 10 3 (.array .int) := fun _ _ _ h => by cases h; exact ⟨Or.inr ⟨rfl, rfl, rfl⟩, tyX10_ok _ (by decide)⟩
theorem fW_X10_20_i : ax_Fw RX10 "<init>" 10 4 (.array .int) := fun _ _ _ h => by cases h; exact ⟨Or.inr ⟨rfl, rfl, rfl⟩, tyX10_ok _ (by decide)⟩
theorem fW_X10_23_i : ax_Fw RX10 "<init>" 10 5 (.array .int) := fun _ _ _ h => by cases h; exact ⟨Or.inr ⟨rfl, rfl, rfl⟩, tyX10_ok _ (by decide)⟩
theorem fW_X10_244_a {nm : String} : ax_Fw RX10 nm 10 25 .int := fun _ _ _ h => by cases h; exact ⟨Or.inl rfl, tyX10_ok _ (by decide)⟩
theorem fW_X10_247_a {nm : String} : ax_Fw RX10 nm 10 34 .int := fun _ _ _ h => by cases h; exact ⟨Or.inl rfl, tyX10_ok _ (by decide)⟩
theorem fW_X10_250_a {nm : String} : ax_Fw RX10 nm 10 35 .int := fun _ _ _ h => by cases h; exact ⟨Or.inl rfl, tyX10_ok _ (by decide)⟩
theorem fW_X10_263_a {nm : String} : ax_Fw RX10 nm 10 26 .int := fun _ _ _ h => by cases h; exact ⟨Or.inl rfl, tyX10_ok _ (by decide)⟩
theorem fW_X10_26_i : ax_Fw RX10 "<init>" 10 6 (.array .int) := fun _ _ _ h => by cases h; exact ⟨Or.inr ⟨rfl, rfl, rfl⟩, tyX10_ok _ (by decide)⟩
theorem fW_X10_273_a {nm : String} : ax_Fw RX10 nm 10 33 .int := fun _ _ _ h => by cases h; exact ⟨Or.inl rfl, tyX10_ok _ (by decide)⟩
theorem fW_X10_276_a {nm : String} : ax_Fw RX10 nm 10 27 .int := fun _ _ _ h => by cases h; exact ⟨Or.inl rfl, tyX10_ok _ (by decide)⟩
theorem fW_X10_279_a {nm : String} : ax_Fw RX10 nm 10 32 .int := fun _ _ _ h => by cases h; exact ⟨Or.inl rfl, tyX10_ok _ (by decide)⟩
theorem fW_X10_29_i : ax_Fw RX10 "<init>" 10 7 (.array .int) := fun _ _ _ h => by cases h; exact ⟨Or.inr ⟨rfl, rfl, rfl⟩, tyX10_ok _ (by decide)⟩
theorem fW_X10_312_a {nm : String} : ax_Fw RX10 nm 10 36 .int := fun _ _ _ h => by cases h; exact ⟨Or.inl rfl, tyX10_ok _ (by decide)⟩
theorem fW_X10_321_a {nm : String} : ax_Fw RX10 nm 10 37 .long := fun _ _ _ h => by cases h; exact ⟨Or.inl rfl, tyX10_ok _ (by decide)⟩
theorem fW_X10_324_a {nm : String} : ax_Fw RX10 nm 10 38 .long := fun _ _ _ h => by cases h; exact ⟨Or.inl rfl, tyX10_ok _ (by decide)⟩
theorem fW_X10_32_i : ax_Fw RX10 "<init>" 10 8 (.array .int) := fun _ _ _ h => by cases h; exact ⟨Or.inr ⟨rfl, rfl, rfl⟩, tyX10_ok _ (by decide)⟩
theorem fW_X10_335_a {nm : String} : ax_Fw RX10 nm 10 39 .int := fun _ _ _ h => by cases h; exact ⟨Or.inl rfl, tyX10_ok _ (by decide)⟩
theorem fW_X10_35_i : ax_Fw RX10 "<init>" 10 9 (.array .int) := fun _ _ _ h => by cases h; exact ⟨Or.inr ⟨rfl, rfl, rfl⟩, tyX10_ok _ (by decide)⟩
theorem fW_X10_365_a {nm : String} : ax_Fw RX10 nm 10 41 .int := fun _ _ _ h => by cases h; exact ⟨Or.inl rfl, tyX10_ok _ (by decide)⟩
theorem fW_X10_368_a {nm : String} : ax_Fw RX10 nm 10 45 .boolean := fun _ _ _ h => by cases h; exact ⟨Or.inl rfl, tyX10_ok _ (by decide)⟩
theorem fW_X10_374_a {nm : String} : ax_Fw RX10 nm 10 42 .int := fun _ _ _ h => by cases h; exact ⟨Or.inl rfl, tyX10_ok _ (by decide)⟩
theorem fW_X10_38_i : ax_Fw RX10 "<init>" 10 10 (.array .int) := fun _ _ _ h => by cases h; exact ⟨Or.inr ⟨rfl, rfl, rfl⟩, tyX10_ok _ (by decide)⟩
theorem fW_X10_398_a {nm : String} : ax_Fw RX10 nm 10 46 .long := fun _ _ _ h => by cases h; exact ⟨Or.inl rfl, tyX10_ok _ (by decide)⟩
theorem fW_X10_413_a {nm : String} : ax_Fw RX10 nm 10 47 .int := fun _ _ _ h => by cases h; exact ⟨Or.inl rfl, tyX10_ok _ (by decide)⟩
theorem fW_X10_41_i : ax_Fw RX10 "<init>" 10 20 (.array .int) := fun _ _ _ h => by cases h; exact ⟨Or.inr ⟨rfl, rfl, rfl⟩, tyX10_ok _ (by decide)⟩
theorem fW_X10_440_a {nm : String} : ax_Fw RX10 nm 10 49 .int := fun _ _ _ h => by cases h; exact ⟨Or.inl rfl, tyX10_ok _ (by decide)⟩
theorem fW_X10_449_a {nm : String} : ax_Fw RX10 nm 10 51 .int := fun _ _ _ h => by cases h; exact ⟨Or.inl rfl, tyX10_ok _ (by decide)⟩
theorem fW_X10_44_i : ax_Fw RX10 "<init>" 10 21 (.array .int) := fun _ _ _ h => by cases h; exact ⟨Or.inr ⟨rfl, rfl, rfl⟩, tyX10_ok _ (by decide)⟩
theorem fW_X10_455_a {nm : String} : ax_Fw RX10 nm 10 50 .int := fun _ _ _ h => by cases h; exact ⟨Or.inl rfl, tyX10_ok _ (by decide)⟩
theorem fW_X10_470_a {nm : String} : ax_Fw RX10 nm 10 57 .long := fun _ _ _ h => by cases h; exact ⟨Or.inl rfl, tyX10_ok _ (by decide)⟩
theorem fW_X10_473_a {nm : String} : ax_Fw RX10 nm 10 56 .long := fun _ _ _ h => by cases h; exact ⟨Or.inl rfl, tyX10_ok _ (by decide)⟩
theorem fW_X10_47_i : ax_Fw RX10 "<init>" 10 28 (.array .int) := fun _ _ _ h => by cases h; exact ⟨Or.inr ⟨rfl, rfl, rfl⟩, tyX10_ok _ (by decide)⟩
theorem fW_X10_50_i : ax_Fw RX10 "<init>" 10 29 (.array .int) := fun _ _ _ h => by cases h; exact ⟨Or.inr ⟨rfl, rfl, rfl⟩, tyX10_ok _ (by decide)⟩
theorem fW_X10_53_i : ax_Fw RX10 "<init>" 10 30 (.array .int) := fun _ _ _ h => by cases h; exact ⟨Or.inr ⟨rfl, rfl, rfl⟩, tyX10_ok _ (by decide)⟩
theorem fW_X10_56_i : ax_Fw RX10 "<init>" 10 31 (.array .int) := fun _ _ _ h => by cases h; exact ⟨Or.inr ⟨rfl, rfl, rfl⟩, tyX10_ok _ (by decide)⟩
theorem fW_X10_59_i : ax_Fw RX10 "<init>" 10 40 (.array .int) := fun _ _ _ h => by cases h; exact ⟨Or.inr ⟨rfl, rfl, rfl⟩, tyX10_ok _ (by decide)⟩
theorem fW_X10_62_i : ax_Fw RX10 "<init>" 10 43 (.array .long) := fun _ _ _ h => by cases h; exact ⟨Or.inr ⟨rfl, rfl, rfl⟩, tyX10_ok _ (by decide)⟩
theorem fW_X10_66_i : ax_Fw RX10 "<init>" 10 44 (.array .int) := fun _ _ _ h => by cases h; exact ⟨Or.inr ⟨rfl, rfl, rfl⟩, tyX10_ok _ (by decide)⟩
theorem fW_X10_69_i : ax_Fw RX10 "<init>" 10 48 (.array .int) := fun _ _ _ h => by cases h; exact ⟨Or.inr ⟨rfl, rfl, rfl⟩, tyX10_ok _ (by decide)⟩
theorem fW_X10_72_i : ax_Fw RX10 "<init>" 10 52 (.array .int) := fun _ _ _ h => by cases h; exact ⟨Or.inr ⟨rfl, rfl, rfl⟩, tyX10_ok _ (by decide)⟩
theorem fW_X10_75_i : ax_Fw RX10 "<init>" 10 53 (.array .int) := fun _ _ _ h => by cases h; exact ⟨Or.inr ⟨rfl, rfl, rfl⟩, tyX10_ok _ (by decide)⟩
theorem fW_X10_78_i : ax_Fw RX10 "<init>" 10 54 (.array .int) := fun _ _ _ h => by cases h; exact ⟨Or.inr ⟨rfl, rfl, rfl⟩, tyX10_ok _ (by decide)⟩
theorem fW_X10_7_i : ax_Fw RX10 "<init>" 10 1 (.array .byte) := fun _ _ _ h => by cases h; exact ⟨Or.inr ⟨rfl, rfl, rfl⟩, tyX10_ok _ (by decide)⟩
theorem fW_X10_81_i : ax_Fw RX10 "<init>" 10 55 (.array .int) := fun _ _ _ h => by cases h; exact ⟨Or.inr ⟨rfl, rfl, rfl⟩, tyX10_ok _ (by decide)⟩
theorem fW_X10_84_i : ax_Fw RX10 "<init>" 10 58 (.array .boolean) := fun _ _ _ h => by cases h; exact ⟨Or.inr ⟨rfl, rfl, rfl⟩, tyX10_ok _ (by decide)⟩
theorem fW_X10_88_a {nm : String} : ax_Fw RX10 nm 10 0 .int := fun _ _ _ h => by cases h; exact ⟨Or.inl rfl, tyX10_ok _ (by decide)⟩
theorem fW_X1_13_a {nm : String} : ax_Fw RX1 nm 1 1 .long := fun _ _ _ h => by cases h; exact ⟨Or.inl rfl, tyX1_ok _ (by decide)⟩
theorem fW_X1_7_a {nm : String} : ax_Fw RX1 nm 1 0 .long := fun _ _ _ h => by cases h; exact ⟨Or.inl rfl, tyX1_ok _ (by decide)⟩
theorem fW_X2_19_i : ax_Fw RX2 "<init>" 2 0 .int := fun _ _ _ h => by cases h; exact ⟨Or.inr ⟨rfl, rfl, rfl⟩, tyX2_ok _ (by decide)⟩
theorem fW_X2_25_i : ax_Fw RX2 "<init>" 2 1 .int := fun _ _ _ h => by cases h; exact ⟨Or.inr ⟨rfl, rfl, rfl⟩, tyX2_ok _ (by decide)⟩
theorem fW_X2_28_i : ax_Fw RX2 "<init>" 2 2 (.array .int) := fun _ _ _ h => by cases h; exact ⟨Or.inr ⟨rfl, rfl, rfl⟩, tyX2_ok _ (by decide)⟩
theorem fW_X2_9_a {nm : String} : ax_Fw RX2 nm 2 3 .int := fun _ _ _ h => by cases h; exact ⟨Or.inl rfl, tyX2_ok _ (by decide)⟩
theorem fW_X3_15_a {nm : String} : ax_Fw RX3 nm 3 1 .int := fun _ _ _ h => by cases h; exact ⟨Or.inl rfl, tyX3_ok _ (by decide)⟩
theorem fW_X3_19_a {nm : String} : ax_Fw RX3 nm 3 2 .int := fun _ _ _ h => by cases h; exact ⟨Or.inl rfl, tyX3_ok _ (by decide)⟩
theorem fW_X3_9_i : ax_Fw RX3 "<init>" 3 0 (.array .int) := fun _ _ _ h => by cases h; exact ⟨Or.inr ⟨rfl, rfl, rfl⟩, tyX3_ok _ (by decide)⟩
theorem fW_X4_15_a {nm : String} : ax_Fw RX4 nm 4 1 .long := fun _ _ _ h => by cases h; exact ⟨Or.inl rfl, tyX4_ok _ (by decide)⟩
theorem fW_X4_19_a {nm : String} : ax_Fw RX4 nm 4 2 .long := fun _ _ _ h => by cases h; exact ⟨Or.inl rfl, tyX4_ok _ (by decide)⟩
theorem fW_X4_22_a {nm : String} : ax_Fw RX4 nm 4 3 .int := fun _ _ _ h => by cases h; exact ⟨Or.inl rfl, tyX4_ok _ (by decide)⟩
theorem fW_X4_26_a {nm : String} : ax_Fw RX4 nm 4 4 .long := fun _ _ _ h => by cases h; exact ⟨Or.inl rfl, tyX4_ok _ (by decide)⟩
theorem fW_X4_29_i : ax_Fw RX4 "<init>" 4 5 (.array .int) := fun _ _ _ h => by cases h; exact ⟨Or.inr ⟨rfl, rfl, rfl⟩, tyX4_ok _ (by decide)⟩
theorem fW_X4_32_i : ax_Fw RX4 "<init>" 4 6 (.array .long) := fun _ _ _ h => by cases h; exact ⟨Or.inr ⟨rfl, rfl, rfl⟩, tyX4_ok _ (by decide)⟩
theorem fW_X4_36_i : ax_Fw RX4 "<init>" 4 7 (.array .long) := fun _ _ _ h => by cases h; exact ⟨Or.inr ⟨rfl, rfl, rfl⟩, tyX4_ok _ (by decide)⟩
theorem fW_X4_42_i : ax_Fw RX4 "<init>" 4 8 (.object "GluedHour$Odds") := fun _ _ _ h => by cases h; exact ⟨Or.inr ⟨rfl, rfl, rfl⟩, tyX4_ok _ (by decide)⟩
theorem fW_X4_9_i : ax_Fw RX4 "<init>" 4 0 (.array .int) := fun _ _ _ h => by cases h; exact ⟨Or.inr ⟨rfl, rfl, rfl⟩, tyX4_ok _ (by decide)⟩
theorem fW_X5_102_a {nm : String} : ax_Fw RX5 nm 2 3 .int := fun _ _ _ h => by cases h; exact ⟨Or.inl rfl, tyX2_ok _ (by decide)⟩
theorem fW_X5_12_i : ax_Fw RX5 "<init>" 5 1 (.object "GluedHour$Republic") := fun _ _ _ h => by cases h; exact ⟨Or.inr ⟨rfl, rfl, rfl⟩, tyX5_ok _ (by decide)⟩
theorem fW_X5_20_i : ax_Fw RX5 "<init>" 5 2 (.array (.object "GluedHour$Lines")) := fun _ _ _ h => by cases h; exact ⟨Or.inr ⟨rfl, rfl, rfl⟩, tyX5_ok _ (by decide)⟩
theorem fW_X5_24_i : ax_Fw RX5 "<init>" 5 3 (.array .int) := fun _ _ _ h => by cases h; exact ⟨Or.inr ⟨rfl, rfl, rfl⟩, tyX5_ok _ (by decide)⟩
theorem fW_X5_28_a {nm : String} : ax_Fw RX5 nm 5 4 .int := fun _ _ _ h => by cases h; exact ⟨Or.inl rfl, tyX5_ok _ (by decide)⟩
theorem fW_X5_32_a {nm : String} : ax_Fw RX5 nm 5 5 .int := fun _ _ _ h => by cases h; exact ⟨Or.inl rfl, tyX5_ok _ (by decide)⟩
theorem fW_X5_35_a {nm : String} : ax_Fw RX5 nm 5 6 .int := fun _ _ _ h => by cases h; exact ⟨Or.inl rfl, tyX5_ok _ (by decide)⟩
theorem fW_X5_38_a {nm : String} : ax_Fw RX5 nm 5 7 .int := fun _ _ _ h => by cases h; exact ⟨Or.inl rfl, tyX5_ok _ (by decide)⟩
theorem fW_X5_41_a {nm : String} : ax_Fw RX5 nm 5 8 .int := fun _ _ _ h => by cases h; exact ⟨Or.inl rfl, tyX5_ok _ (by decide)⟩
theorem fW_X5_44_a {nm : String} : ax_Fw RX5 nm 5 9 .int := fun _ _ _ h => by cases h; exact ⟨Or.inl rfl, tyX5_ok _ (by decide)⟩
theorem fW_X5_47_a {nm : String} : ax_Fw RX5 nm 5 10 .int := fun _ _ _ h => by cases h; exact ⟨Or.inl rfl, tyX5_ok _ (by decide)⟩
theorem fW_X5_50_a {nm : String} : ax_Fw RX5 nm 5 11 .int := fun _ _ _ h => by cases h; exact ⟨Or.inl rfl, tyX5_ok _ (by decide)⟩
theorem fW_X5_53_a {nm : String} : ax_Fw RX5 nm 5 12 .int := fun _ _ _ h => by cases h; exact ⟨Or.inl rfl, tyX5_ok _ (by decide)⟩
theorem fW_X5_56_a {nm : String} : ax_Fw RX5 nm 5 13 .int := fun _ _ _ h => by cases h; exact ⟨Or.inl rfl, tyX5_ok _ (by decide)⟩
theorem fW_X5_59_i : ax_Fw RX5 "<init>" 5 0 (.array .byte) := fun _ _ _ h => by cases h; exact ⟨Or.inr ⟨rfl, rfl, rfl⟩, tyX5_ok _ (by decide)⟩
theorem fW_X5_77_a {nm : String} : ax_Fw RX5 nm 6 5 .int := fun _ _ _ h => by cases h; exact ⟨Or.inl rfl, tyX6_ok _ (by decide)⟩
theorem fW_X5_80_a {nm : String} : ax_Fw RX5 nm 6 6 .int := fun _ _ _ h => by cases h; exact ⟨Or.inl rfl, tyX6_ok _ (by decide)⟩
theorem fW_X6_15_i : ax_Fw RX6 "<init>" 6 1 (.array .int) := fun _ _ _ h => by cases h; exact ⟨Or.inr ⟨rfl, rfl, rfl⟩, tyX6_ok _ (by decide)⟩
theorem fW_X6_18_i : ax_Fw RX6 "<init>" 6 2 (.array .int) := fun _ _ _ h => by cases h; exact ⟨Or.inr ⟨rfl, rfl, rfl⟩, tyX6_ok _ (by decide)⟩
theorem fW_X6_21_i : ax_Fw RX6 "<init>" 6 3 (.array .int) := fun _ _ _ h => by cases h; exact ⟨Or.inr ⟨rfl, rfl, rfl⟩, tyX6_ok _ (by decide)⟩
theorem fW_X6_24_i : ax_Fw RX6 "<init>" 6 4 (.array .int) := fun _ _ _ h => by cases h; exact ⟨Or.inr ⟨rfl, rfl, rfl⟩, tyX6_ok _ (by decide)⟩
theorem fW_X6_30_a {nm : String} : ax_Fw RX6 nm 6 5 .int := fun _ _ _ h => by cases h; exact ⟨Or.inl rfl, tyX6_ok _ (by decide)⟩
theorem fW_X6_34_a {nm : String} : ax_Fw RX6 nm 6 6 .int := fun _ _ _ h => by cases h; exact ⟨Or.inl rfl, tyX6_ok _ (by decide)⟩
theorem fW_X6_9_i : ax_Fw RX6 "<init>" 6 0 (.array .int) := fun _ _ _ h => by cases h; exact ⟨Or.inr ⟨rfl, rfl, rfl⟩, tyX6_ok _ (by decide)⟩
theorem fW_X7_15_a {nm : String} : ax_Fw RX7 nm 7 1 .int := fun _ _ _ h => by cases h; exact ⟨Or.inl rfl, tyX7_ok _ (by decide)⟩
theorem fW_X7_19_a {nm : String} : ax_Fw RX7 nm 7 2 .int := fun _ _ _ h => by cases h; exact ⟨Or.inl rfl, tyX7_ok _ (by decide)⟩
theorem fW_X7_22_i : ax_Fw RX7 "<init>" 7 3 (.array .int) := fun _ _ _ h => by cases h; exact ⟨Or.inr ⟨rfl, rfl, rfl⟩, tyX7_ok _ (by decide)⟩
theorem fW_X7_27_i : ax_Fw RX7 "<init>" 7 4 (.array (.object "GluedHour$Odds")) := fun _ _ _ h => by cases h; exact ⟨Or.inr ⟨rfl, rfl, rfl⟩, tyX7_ok _ (by decide)⟩
theorem fW_X7_9_i : ax_Fw RX7 "<init>" 7 0 (.array .int) := fun _ _ _ h => by cases h; exact ⟨Or.inr ⟨rfl, rfl, rfl⟩, tyX7_ok _ (by decide)⟩
theorem fW_X8_15_i : ax_Fw RX8 "<init>" 8 1 (.array .int) := fun _ _ _ h => by cases h; exact ⟨Or.inr ⟨rfl, rfl, rfl⟩, tyX8_ok _ (by decide)⟩
theorem fW_X8_21_i : ax_Fw RX8 "<init>" 8 2 (.array (.object "GluedHour$Republic")) := fun _ _ _ h => by cases h; exact ⟨Or.inr ⟨rfl, rfl, rfl⟩, tyX8_ok _ (by decide)⟩
theorem fW_X8_27_i : ax_Fw RX8 "<init>" 8 3 (.array (.object "GluedHour$Lines")) := fun _ _ _ h => by cases h; exact ⟨Or.inr ⟨rfl, rfl, rfl⟩, tyX8_ok _ (by decide)⟩
theorem fW_X8_31_a {nm : String} : ax_Fw RX8 nm 8 4 .int := fun _ _ _ h => by cases h; exact ⟨Or.inl rfl, tyX8_ok _ (by decide)⟩
theorem fW_X8_35_a {nm : String} : ax_Fw RX8 nm 8 5 .int := fun _ _ _ h => by cases h; exact ⟨Or.inl rfl, tyX8_ok _ (by decide)⟩
theorem fW_X8_38_a {nm : String} : ax_Fw RX8 nm 8 6 .int := fun _ _ _ h => by cases h; exact ⟨Or.inl rfl, tyX8_ok _ (by decide)⟩
theorem fW_X8_9_i : ax_Fw RX8 "<init>" 8 0 (.array .byte) := fun _ _ _ h => by cases h; exact ⟨Or.inr ⟨rfl, rfl, rfl⟩, tyX8_ok _ (by decide)⟩
theorem fW_X9_10_i : ax_Fw RX9 "<init>" 9 0 (.object "GluedHour$Told") := fun _ _ _ h => by cases h; exact ⟨Or.inr ⟨rfl, rfl, rfl⟩, tyX9_ok _ (by decide)⟩
theorem fW_X9_16_i : ax_Fw RX9 "<init>" 9 1 (.array (.object "GluedHour$Told")) := fun _ _ _ h => by cases h; exact ⟨Or.inr ⟨rfl, rfl, rfl⟩, tyX9_ok _ (by decide)⟩
theorem fW_X9_29_i : ax_Fw RX9 "<init>" 9 2 (.object "GluedHour$Reader") := fun _ _ _ h => by cases h; exact ⟨Or.inr ⟨rfl, rfl, rfl⟩, tyX9_ok _ (by decide)⟩
theorem fW_X9_36_i : ax_Fw RX9 "<init>" 9 3 (.object "GluedHour$Course") := fun _ _ _ h => by cases h; exact ⟨Or.inr ⟨rfl, rfl, rfl⟩, tyX9_ok _ (by decide)⟩
theorem fW_X9_43_i : ax_Fw RX9 "<init>" 9 4 (.object "GluedHour$Odds") := fun _ _ _ h => by cases h; exact ⟨Or.inr ⟨rfl, rfl, rfl⟩, tyX9_ok _ (by decide)⟩
theorem fW_X9_47_i : ax_Fw RX9 "<init>" 9 5 (.object "GluedHour$Odds") := fun _ _ _ h => by cases h; exact ⟨Or.inr ⟨rfl, rfl, rfl⟩, tyX9_ok _ (by decide)⟩
theorem fW_X9_53_i : ax_Fw RX9 "<init>" 9 6 (.object "GluedHour$Planner") := fun _ _ _ h => by cases h; exact ⟨Or.inr ⟨rfl, rfl, rfl⟩, tyX9_ok _ (by decide)⟩
theorem fW_X9_60_i : ax_Fw RX9 "<init>" 9 7 (.object "GluedHour$Search") := fun _ _ _ h => by cases h; exact ⟨Or.inr ⟨rfl, rfl, rfl⟩, tyX9_ok _ (by decide)⟩
theorem fW_X9_67_i : ax_Fw RX9 "<init>" 9 8 (.object "GluedHour$Fraction") := fun _ _ _ h => by cases h; exact ⟨Or.inr ⟨rfl, rfl, rfl⟩, tyX9_ok _ (by decide)⟩
theorem fW_X9_71_a {nm : String} : ax_Fw RX9 nm 8 4 .int := fun _ _ _ h => by cases h; exact ⟨Or.inl rfl, tyX8_ok _ (by decide)⟩
theorem fW_X9_79_a {nm : String} : ax_Fw RX9 nm 8 5 .int := fun _ _ _ h => by cases h; exact ⟨Or.inl rfl, tyX8_ok _ (by decide)⟩
theorem fW_X9_82_a {nm : String} : ax_Fw RX9 nm 8 6 .int := fun _ _ _ h => by cases h; exact ⟨Or.inl rfl, tyX8_ok _ (by decide)⟩
end
end

section
section
/-! an instruction, read off its bytes -/
def byt (c : ByteArray) (p b : Nat) : Prop := ∃ h : p < c.size, c[p].toNat = b
theorem u1_at {c : ByteArray} {p b : Nat} (h : byt c p b) : (Jvm.ClassFile.Reader.u1 : Jvm.ClassFile.Decoder Nat) c p = .ok (b, p + 1) := by
  obtain ⟨h1, h2⟩ := h
  have e : (Jvm.ClassFile.Reader.u1 : Jvm.ClassFile.Decoder Nat) c p = (if h : p < c.size then .ok (c[p].toNat, p + 1) else .error (Jvm.ClassFile.DecodeError.truncated p)) := by
    unfold Jvm.ClassFile.Reader.u1
    show (if h : p < c.size then (_ : Jvm.ClassFile.Decoder Nat) else _) c p = _
    split <;> rfl
  rw [e, dif_pos h1, h2]
def bq1 (c : ByteArray) (p a : Nat) : Bool := match c.data.toList.drop p with
  | x :: _ => x.toNat == a
  | _ => false
def bq2 (c : ByteArray) (p a b : Nat) : Bool := match c.data.toList.drop p with
  | x :: y :: _ => x.toNat == a && y.toNat == b
  | _ => false
def bq3 (c : ByteArray) (p a b d : Nat) : Bool := match c.data.toList.drop p with
  | x :: y :: z :: _ => x.toNat == a && (y.toNat == b && z.toNat == d)
  | _ => false
theorem byt_i {c : ByteArray} {p i : Nat} {x : UInt8} (h : (c.data.toList.drop p)[i]? = some x) : byt c (p + i) x.toNat := by
  rw [List.getElem?_drop] at h
  obtain ⟨h1, h2⟩ := List.getElem?_eq_some_iff.mp h
  exact ⟨h1, by rw [← h2]; rfl⟩
theorem bq1_at {c : ByteArray} {p a : Nat} (h : bq1 c p a = true) : byt c p a := by
  unfold bq1 at h
  split at h
  · rename_i x t e
    have := byt_i (c := c) (p := p) (i := 0) (x := x) (by rw [e]; rfl)
    rw [← eq_of_beq h]; exact this
  · cases h
theorem bq2_at {c : ByteArray} {p a b : Nat} (h : bq2 c p a b = true) : byt c p a ∧ byt c (p + 1) b := by
  unfold bq2 at h
  split at h
  · rename_i x y t e
    rw [Bool.and_eq_true] at h
    rw [← eq_of_beq h.1, ← eq_of_beq h.2]
    exact ⟨byt_i (c := c) (p := p) (i := 0) (x := x) (by rw [e]; rfl), byt_i (c := c) (p := p) (i := 1) (x := y) (by rw [e]; rfl)⟩
  · cases h
theorem bq3_at {c : ByteArray} {p a b d : Nat} (h : bq3 c p a b d = true) : byt c p a ∧ byt c (p + 1) b ∧ byt c (p + 1 + 1) d := by
  unfold bq3 at h
  split at h
  · rename_i x y z t e
    rw [Bool.and_eq_true, Bool.and_eq_true] at h
    rw [← eq_of_beq h.1, ← eq_of_beq h.2.1, ← eq_of_beq h.2.2]
    exact ⟨byt_i (c := c) (p := p) (i := 0) (x := x) (by rw [e]; rfl), byt_i (c := c) (p := p) (i := 1) (x := y) (by rw [e]; rfl), byt_i (c := c) (p := p) (i := 2) (x := z) (by rw [e]; rfl)⟩
  · cases h
theorem bind_at {α β : Type} {x : Jvm.ClassFile.Decoder α} {f : α → Jvm.ClassFile.Decoder β} {c : ByteArray} {p q : Nat} {a : α} {r : Except Jvm.ClassFile.DecodeError (β × Nat)} (h : x c p = .ok (a, q)) (e : f a c q = r) : (x >>= f) c p = r := by
  show (x c p >>= fun t => f t.1 c t.2) = _
  rw [h]
  exact e
theorem u2_at {c : ByteArray} {p b d : Nat} (h : byt c p b ∧ byt c (p + 1) d) : (Jvm.ClassFile.Reader.u2 : Jvm.ClassFile.Decoder Nat) c p = .ok (b * 256 + d, p + 1 + 1) := bind_at (u1_at h.1) (bind_at (u1_at h.2) rfl)
theorem s1_at {c : ByteArray} {p b : Nat} {z : Int} (h : byt c p b) (e : Jvm.ClassFile.Reader.signed 8 b = z) : (Jvm.ClassFile.Reader.s1 : Jvm.ClassFile.Decoder Int) c p = .ok (z, p + 1) := by
  show (Jvm.ClassFile.Reader.u1 (ε := Jvm.ClassFile.DecodeError) c p >>= fun t => pure (Jvm.ClassFile.Reader.signed 8 t.1, t.2)) = _
  rw [u1_at h, ← e]
  rfl
theorem s2_at {c : ByteArray} {p b d : Nat} {z : Int} (h : byt c p b ∧ byt c (p + 1) d) (e : Jvm.ClassFile.Reader.signed 16 (b * 256 + d) = z) : (Jvm.ClassFile.Reader.s2 : Jvm.ClassFile.Decoder Int) c p = .ok (z, p + 1 + 1) := by
  show (Jvm.ClassFile.Reader.u2 (ε := Jvm.ClassFile.DecodeError) c p >>= fun t => pure (Jvm.ClassFile.Reader.signed 16 t.1, t.2)) = _
  rw [u2_at h, ← e]
  rfl
theorem dec_at {c : ByteArray} {p q n : Nat} {i : Jvm.ClassFile.Instr} (e : (Jvm.ClassFile.Decoder.instr p) c p = .ok (i, q)) (hn : q - p = n) : decode c p = .ok (i, n) := by
  unfold decode
  show ((Jvm.ClassFile.Decoder.instr p) c p >>= fun t => pure (t.1, t.2 - p)) = _
  rw [e, ← hn]
  rfl

theorem q_1 {c : ByteArray} {p n : Nat} (hn : p + 1 - p = n) (h : bq1 c p 1 = true) : decode c p = .ok (.aconst_null, n) := dec_at (bind_at (u1_at (bq1_at h)) rfl) hn
theorem q_2 {c : ByteArray} {p n : Nat} (hn : p + 1 - p = n) (h : bq1 c p 2 = true) : decode c p = .ok (.iconst (-1), n) := dec_at (bind_at (u1_at (bq1_at h)) rfl) hn
theorem q_3 {c : ByteArray} {p n : Nat} (hn : p + 1 - p = n) (h : bq1 c p 3 = true) : decode c p = .ok (.iconst 0, n) := dec_at (bind_at (u1_at (bq1_at h)) rfl) hn
theorem q_4 {c : ByteArray} {p n : Nat} (hn : p + 1 - p = n) (h : bq1 c p 4 = true) : decode c p = .ok (.iconst 1, n) := dec_at (bind_at (u1_at (bq1_at h)) rfl) hn
theorem q_5 {c : ByteArray} {p n : Nat} (hn : p + 1 - p = n) (h : bq1 c p 5 = true) : decode c p = .ok (.iconst 2, n) := dec_at (bind_at (u1_at (bq1_at h)) rfl) hn
theorem q_6 {c : ByteArray} {p n : Nat} (hn : p + 1 - p = n) (h : bq1 c p 6 = true) : decode c p = .ok (.iconst 3, n) := dec_at (bind_at (u1_at (bq1_at h)) rfl) hn
theorem q_7 {c : ByteArray} {p n : Nat} (hn : p + 1 - p = n) (h : bq1 c p 7 = true) : decode c p = .ok (.iconst 4, n) := dec_at (bind_at (u1_at (bq1_at h)) rfl) hn
theorem q_8 {c : ByteArray} {p n : Nat} (hn : p + 1 - p = n) (h : bq1 c p 8 = true) : decode c p = .ok (.iconst 5, n) := dec_at (bind_at (u1_at (bq1_at h)) rfl) hn
theorem q_9 {c : ByteArray} {p n : Nat} (hn : p + 1 - p = n) (h : bq1 c p 9 = true) : decode c p = .ok (.lconst 0, n) := dec_at (bind_at (u1_at (bq1_at h)) rfl) hn
theorem q_10 {c : ByteArray} {p n : Nat} (hn : p + 1 - p = n) (h : bq1 c p 10 = true) : decode c p = .ok (.lconst 1, n) := dec_at (bind_at (u1_at (bq1_at h)) rfl) hn
theorem q_16 {c : ByteArray} {p n b : Nat} {z : Int} (hn : p + 1 + 1 - p = n) (e : Jvm.ClassFile.Reader.signed 8 b = z) (h : bq2 c p 16 b = true) : decode c p = .ok (.bipush z, n) := dec_at (bind_at (u1_at (bq2_at h).1) (bind_at (s1_at (bq2_at h).2 e) rfl)) hn
theorem q_17 {c : ByteArray} {p n b d : Nat} {z : Int} (hn : p + 1 + 1 + 1 - p = n) (e : Jvm.ClassFile.Reader.signed 16 (b * 256 + d) = z) (h : bq3 c p 17 b d = true) : decode c p = .ok (.sipush z, n) := dec_at (bind_at (u1_at (bq3_at h).1) (bind_at (s2_at (bq3_at h).2 e) rfl)) hn
theorem q_18 {c : ByteArray} {p n b : Nat} (hn : p + 1 + 1 - p = n) (h : bq2 c p 18 b = true) : decode c p = .ok (.ldc b, n) := dec_at (bind_at (u1_at (bq2_at h).1) (bind_at (u1_at (bq2_at h).2) rfl)) hn
theorem q_19 {c : ByteArray} {p n b d : Nat} (hn : p + 1 + 1 + 1 - p = n) (h : bq3 c p 19 b d = true) : decode c p = .ok (.ldc_w (b * 256 + d), n) := dec_at (bind_at (u1_at (bq3_at h).1) (bind_at (u2_at (bq3_at h).2) rfl)) hn
theorem q_20 {c : ByteArray} {p n b d : Nat} (hn : p + 1 + 1 + 1 - p = n) (h : bq3 c p 20 b d = true) : decode c p = .ok (.ldc2_w (b * 256 + d), n) := dec_at (bind_at (u1_at (bq3_at h).1) (bind_at (u2_at (bq3_at h).2) rfl)) hn
theorem q_21 {c : ByteArray} {p n b : Nat} (hn : p + 1 + 1 - p = n) (h : bq2 c p 21 b = true) : decode c p = .ok (.iload b, n) := dec_at (bind_at (u1_at (bq2_at h).1) (bind_at (u1_at (bq2_at h).2) rfl)) hn
theorem q_22 {c : ByteArray} {p n b : Nat} (hn : p + 1 + 1 - p = n) (h : bq2 c p 22 b = true) : decode c p = .ok (.lload b, n) := dec_at (bind_at (u1_at (bq2_at h).1) (bind_at (u1_at (bq2_at h).2) rfl)) hn
theorem q_25 {c : ByteArray} {p n b : Nat} (hn : p + 1 + 1 - p = n) (h : bq2 c p 25 b = true) : decode c p = .ok (.aload b, n) := dec_at (bind_at (u1_at (bq2_at h).1) (bind_at (u1_at (bq2_at h).2) rfl)) hn
theorem q_26 {c : ByteArray} {p n : Nat} (hn : p + 1 - p = n) (h : bq1 c p 26 = true) : decode c p = .ok (.iload_n 0, n) := dec_at (bind_at (u1_at (bq1_at h)) rfl) hn
theorem q_27 {c : ByteArray} {p n : Nat} (hn : p + 1 - p = n) (h : bq1 c p 27 = true) : decode c p = .ok (.iload_n 1, n) := dec_at (bind_at (u1_at (bq1_at h)) rfl) hn
theorem q_28 {c : ByteArray} {p n : Nat} (hn : p + 1 - p = n) (h : bq1 c p 28 = true) : decode c p = .ok (.iload_n 2, n) := dec_at (bind_at (u1_at (bq1_at h)) rfl) hn
theorem q_29 {c : ByteArray} {p n : Nat} (hn : p + 1 - p = n) (h : bq1 c p 29 = true) : decode c p = .ok (.iload_n 3, n) := dec_at (bind_at (u1_at (bq1_at h)) rfl) hn
theorem q_30 {c : ByteArray} {p n : Nat} (hn : p + 1 - p = n) (h : bq1 c p 30 = true) : decode c p = .ok (.lload_n 0, n) := dec_at (bind_at (u1_at (bq1_at h)) rfl) hn
theorem q_31 {c : ByteArray} {p n : Nat} (hn : p + 1 - p = n) (h : bq1 c p 31 = true) : decode c p = .ok (.lload_n 1, n) := dec_at (bind_at (u1_at (bq1_at h)) rfl) hn
theorem q_32 {c : ByteArray} {p n : Nat} (hn : p + 1 - p = n) (h : bq1 c p 32 = true) : decode c p = .ok (.lload_n 2, n) := dec_at (bind_at (u1_at (bq1_at h)) rfl) hn
theorem q_33 {c : ByteArray} {p n : Nat} (hn : p + 1 - p = n) (h : bq1 c p 33 = true) : decode c p = .ok (.lload_n 3, n) := dec_at (bind_at (u1_at (bq1_at h)) rfl) hn
theorem q_42 {c : ByteArray} {p n : Nat} (hn : p + 1 - p = n) (h : bq1 c p 42 = true) : decode c p = .ok (.aload_n 0, n) := dec_at (bind_at (u1_at (bq1_at h)) rfl) hn
theorem q_43 {c : ByteArray} {p n : Nat} (hn : p + 1 - p = n) (h : bq1 c p 43 = true) : decode c p = .ok (.aload_n 1, n) := dec_at (bind_at (u1_at (bq1_at h)) rfl) hn
theorem q_44 {c : ByteArray} {p n : Nat} (hn : p + 1 - p = n) (h : bq1 c p 44 = true) : decode c p = .ok (.aload_n 2, n) := dec_at (bind_at (u1_at (bq1_at h)) rfl) hn
theorem q_45 {c : ByteArray} {p n : Nat} (hn : p + 1 - p = n) (h : bq1 c p 45 = true) : decode c p = .ok (.aload_n 3, n) := dec_at (bind_at (u1_at (bq1_at h)) rfl) hn
theorem q_46 {c : ByteArray} {p n : Nat} (hn : p + 1 - p = n) (h : bq1 c p 46 = true) : decode c p = .ok (.iaload, n) := dec_at (bind_at (u1_at (bq1_at h)) rfl) hn
theorem q_47 {c : ByteArray} {p n : Nat} (hn : p + 1 - p = n) (h : bq1 c p 47 = true) : decode c p = .ok (.laload, n) := dec_at (bind_at (u1_at (bq1_at h)) rfl) hn
theorem q_50 {c : ByteArray} {p n : Nat} (hn : p + 1 - p = n) (h : bq1 c p 50 = true) : decode c p = .ok (.aaload, n) := dec_at (bind_at (u1_at (bq1_at h)) rfl) hn
theorem q_51 {c : ByteArray} {p n : Nat} (hn : p + 1 - p = n) (h : bq1 c p 51 = true) : decode c p = .ok (.baload, n) := dec_at (bind_at (u1_at (bq1_at h)) rfl) hn
theorem q_54 {c : ByteArray} {p n b : Nat} (hn : p + 1 + 1 - p = n) (h : bq2 c p 54 b = true) : decode c p = .ok (.istore b, n) := dec_at (bind_at (u1_at (bq2_at h).1) (bind_at (u1_at (bq2_at h).2) rfl)) hn
theorem q_55 {c : ByteArray} {p n b : Nat} (hn : p + 1 + 1 - p = n) (h : bq2 c p 55 b = true) : decode c p = .ok (.lstore b, n) := dec_at (bind_at (u1_at (bq2_at h).1) (bind_at (u1_at (bq2_at h).2) rfl)) hn
theorem q_58 {c : ByteArray} {p n b : Nat} (hn : p + 1 + 1 - p = n) (h : bq2 c p 58 b = true) : decode c p = .ok (.astore b, n) := dec_at (bind_at (u1_at (bq2_at h).1) (bind_at (u1_at (bq2_at h).2) rfl)) hn
theorem q_60 {c : ByteArray} {p n : Nat} (hn : p + 1 - p = n) (h : bq1 c p 60 = true) : decode c p = .ok (.istore_n 1, n) := dec_at (bind_at (u1_at (bq1_at h)) rfl) hn
theorem q_61 {c : ByteArray} {p n : Nat} (hn : p + 1 - p = n) (h : bq1 c p 61 = true) : decode c p = .ok (.istore_n 2, n) := dec_at (bind_at (u1_at (bq1_at h)) rfl) hn
theorem q_62 {c : ByteArray} {p n : Nat} (hn : p + 1 - p = n) (h : bq1 c p 62 = true) : decode c p = .ok (.istore_n 3, n) := dec_at (bind_at (u1_at (bq1_at h)) rfl) hn
theorem q_64 {c : ByteArray} {p n : Nat} (hn : p + 1 - p = n) (h : bq1 c p 64 = true) : decode c p = .ok (.lstore_n 1, n) := dec_at (bind_at (u1_at (bq1_at h)) rfl) hn
theorem q_65 {c : ByteArray} {p n : Nat} (hn : p + 1 - p = n) (h : bq1 c p 65 = true) : decode c p = .ok (.lstore_n 2, n) := dec_at (bind_at (u1_at (bq1_at h)) rfl) hn
theorem q_66 {c : ByteArray} {p n : Nat} (hn : p + 1 - p = n) (h : bq1 c p 66 = true) : decode c p = .ok (.lstore_n 3, n) := dec_at (bind_at (u1_at (bq1_at h)) rfl) hn
theorem q_76 {c : ByteArray} {p n : Nat} (hn : p + 1 - p = n) (h : bq1 c p 76 = true) : decode c p = .ok (.astore_n 1, n) := dec_at (bind_at (u1_at (bq1_at h)) rfl) hn
theorem q_77 {c : ByteArray} {p n : Nat} (hn : p + 1 - p = n) (h : bq1 c p 77 = true) : decode c p = .ok (.astore_n 2, n) := dec_at (bind_at (u1_at (bq1_at h)) rfl) hn
theorem q_78 {c : ByteArray} {p n : Nat} (hn : p + 1 - p = n) (h : bq1 c p 78 = true) : decode c p = .ok (.astore_n 3, n) := dec_at (bind_at (u1_at (bq1_at h)) rfl) hn
theorem q_79 {c : ByteArray} {p n : Nat} (hn : p + 1 - p = n) (h : bq1 c p 79 = true) : decode c p = .ok (.iastore, n) := dec_at (bind_at (u1_at (bq1_at h)) rfl) hn
theorem q_80 {c : ByteArray} {p n : Nat} (hn : p + 1 - p = n) (h : bq1 c p 80 = true) : decode c p = .ok (.lastore, n) := dec_at (bind_at (u1_at (bq1_at h)) rfl) hn
theorem q_83 {c : ByteArray} {p n : Nat} (hn : p + 1 - p = n) (h : bq1 c p 83 = true) : decode c p = .ok (.aastore, n) := dec_at (bind_at (u1_at (bq1_at h)) rfl) hn
theorem q_84 {c : ByteArray} {p n : Nat} (hn : p + 1 - p = n) (h : bq1 c p 84 = true) : decode c p = .ok (.bastore, n) := dec_at (bind_at (u1_at (bq1_at h)) rfl) hn
theorem q_87 {c : ByteArray} {p n : Nat} (hn : p + 1 - p = n) (h : bq1 c p 87 = true) : decode c p = .ok (.pop, n) := dec_at (bind_at (u1_at (bq1_at h)) rfl) hn
theorem q_88 {c : ByteArray} {p n : Nat} (hn : p + 1 - p = n) (h : bq1 c p 88 = true) : decode c p = .ok (.pop2, n) := dec_at (bind_at (u1_at (bq1_at h)) rfl) hn
theorem q_89 {c : ByteArray} {p n : Nat} (hn : p + 1 - p = n) (h : bq1 c p 89 = true) : decode c p = .ok (.dup, n) := dec_at (bind_at (u1_at (bq1_at h)) rfl) hn
theorem q_92 {c : ByteArray} {p n : Nat} (hn : p + 1 - p = n) (h : bq1 c p 92 = true) : decode c p = .ok (.dup2, n) := dec_at (bind_at (u1_at (bq1_at h)) rfl) hn
theorem q_96 {c : ByteArray} {p n : Nat} (hn : p + 1 - p = n) (h : bq1 c p 96 = true) : decode c p = .ok (.iadd, n) := dec_at (bind_at (u1_at (bq1_at h)) rfl) hn
theorem q_97 {c : ByteArray} {p n : Nat} (hn : p + 1 - p = n) (h : bq1 c p 97 = true) : decode c p = .ok (.ladd, n) := dec_at (bind_at (u1_at (bq1_at h)) rfl) hn
theorem q_100 {c : ByteArray} {p n : Nat} (hn : p + 1 - p = n) (h : bq1 c p 100 = true) : decode c p = .ok (.isub, n) := dec_at (bind_at (u1_at (bq1_at h)) rfl) hn
theorem q_101 {c : ByteArray} {p n : Nat} (hn : p + 1 - p = n) (h : bq1 c p 101 = true) : decode c p = .ok (.lsub, n) := dec_at (bind_at (u1_at (bq1_at h)) rfl) hn
theorem q_104 {c : ByteArray} {p n : Nat} (hn : p + 1 - p = n) (h : bq1 c p 104 = true) : decode c p = .ok (.imul, n) := dec_at (bind_at (u1_at (bq1_at h)) rfl) hn
theorem q_105 {c : ByteArray} {p n : Nat} (hn : p + 1 - p = n) (h : bq1 c p 105 = true) : decode c p = .ok (.lmul, n) := dec_at (bind_at (u1_at (bq1_at h)) rfl) hn
theorem q_108 {c : ByteArray} {p n : Nat} (hn : p + 1 - p = n) (h : bq1 c p 108 = true) : decode c p = .ok (.idiv, n) := dec_at (bind_at (u1_at (bq1_at h)) rfl) hn
theorem q_109 {c : ByteArray} {p n : Nat} (hn : p + 1 - p = n) (h : bq1 c p 109 = true) : decode c p = .ok (.ldiv, n) := dec_at (bind_at (u1_at (bq1_at h)) rfl) hn
theorem q_112 {c : ByteArray} {p n : Nat} (hn : p + 1 - p = n) (h : bq1 c p 112 = true) : decode c p = .ok (.irem, n) := dec_at (bind_at (u1_at (bq1_at h)) rfl) hn
theorem q_113 {c : ByteArray} {p n : Nat} (hn : p + 1 - p = n) (h : bq1 c p 113 = true) : decode c p = .ok (.lrem, n) := dec_at (bind_at (u1_at (bq1_at h)) rfl) hn
theorem q_116 {c : ByteArray} {p n : Nat} (hn : p + 1 - p = n) (h : bq1 c p 116 = true) : decode c p = .ok (.ineg, n) := dec_at (bind_at (u1_at (bq1_at h)) rfl) hn
theorem q_117 {c : ByteArray} {p n : Nat} (hn : p + 1 - p = n) (h : bq1 c p 117 = true) : decode c p = .ok (.lneg, n) := dec_at (bind_at (u1_at (bq1_at h)) rfl) hn
theorem q_120 {c : ByteArray} {p n : Nat} (hn : p + 1 - p = n) (h : bq1 c p 120 = true) : decode c p = .ok (.ishl, n) := dec_at (bind_at (u1_at (bq1_at h)) rfl) hn
theorem q_121 {c : ByteArray} {p n : Nat} (hn : p + 1 - p = n) (h : bq1 c p 121 = true) : decode c p = .ok (.lshl, n) := dec_at (bind_at (u1_at (bq1_at h)) rfl) hn
theorem q_122 {c : ByteArray} {p n : Nat} (hn : p + 1 - p = n) (h : bq1 c p 122 = true) : decode c p = .ok (.ishr, n) := dec_at (bind_at (u1_at (bq1_at h)) rfl) hn
theorem q_123 {c : ByteArray} {p n : Nat} (hn : p + 1 - p = n) (h : bq1 c p 123 = true) : decode c p = .ok (.lshr, n) := dec_at (bind_at (u1_at (bq1_at h)) rfl) hn
theorem q_124 {c : ByteArray} {p n : Nat} (hn : p + 1 - p = n) (h : bq1 c p 124 = true) : decode c p = .ok (.iushr, n) := dec_at (bind_at (u1_at (bq1_at h)) rfl) hn
theorem q_126 {c : ByteArray} {p n : Nat} (hn : p + 1 - p = n) (h : bq1 c p 126 = true) : decode c p = .ok (.iand, n) := dec_at (bind_at (u1_at (bq1_at h)) rfl) hn
theorem q_128 {c : ByteArray} {p n : Nat} (hn : p + 1 - p = n) (h : bq1 c p 128 = true) : decode c p = .ok (.ior, n) := dec_at (bind_at (u1_at (bq1_at h)) rfl) hn
theorem q_129 {c : ByteArray} {p n : Nat} (hn : p + 1 - p = n) (h : bq1 c p 129 = true) : decode c p = .ok (.lor, n) := dec_at (bind_at (u1_at (bq1_at h)) rfl) hn
theorem q_130 {c : ByteArray} {p n : Nat} (hn : p + 1 - p = n) (h : bq1 c p 130 = true) : decode c p = .ok (.ixor, n) := dec_at (bind_at (u1_at (bq1_at h)) rfl) hn
theorem q_132 {c : ByteArray} {p n b d : Nat} {z : Int} (hn : p + 1 + 1 + 1 - p = n) (e : Jvm.ClassFile.Reader.signed 8 d = z) (h : bq3 c p 132 b d = true) : decode c p = .ok (.iinc b z, n) := dec_at (bind_at (u1_at (bq3_at h).1) (bind_at (u1_at (bq3_at h).2.1) (bind_at (s1_at (bq3_at h).2.2 e) rfl))) hn
theorem q_133 {c : ByteArray} {p n : Nat} (hn : p + 1 - p = n) (h : bq1 c p 133 = true) : decode c p = .ok (.i2l, n) := dec_at (bind_at (u1_at (bq1_at h)) rfl) hn
theorem q_136 {c : ByteArray} {p n : Nat} (hn : p + 1 - p = n) (h : bq1 c p 136 = true) : decode c p = .ok (.l2i, n) := dec_at (bind_at (u1_at (bq1_at h)) rfl) hn
theorem q_145 {c : ByteArray} {p n : Nat} (hn : p + 1 - p = n) (h : bq1 c p 145 = true) : decode c p = .ok (.i2b, n) := dec_at (bind_at (u1_at (bq1_at h)) rfl) hn
theorem q_146 {c : ByteArray} {p n : Nat} (hn : p + 1 - p = n) (h : bq1 c p 146 = true) : decode c p = .ok (.i2c, n) := dec_at (bind_at (u1_at (bq1_at h)) rfl) hn
theorem q_148 {c : ByteArray} {p n : Nat} (hn : p + 1 - p = n) (h : bq1 c p 148 = true) : decode c p = .ok (.lcmp, n) := dec_at (bind_at (u1_at (bq1_at h)) rfl) hn
theorem q_153 {c : ByteArray} {p n b d : Nat} {z : Int} (hn : p + 1 + 1 + 1 - p = n) (e : Jvm.ClassFile.Reader.signed 16 (b * 256 + d) = z) (h : bq3 c p 153 b d = true) : decode c p = .ok (.ifCond .eq z, n) := dec_at (bind_at (u1_at (bq3_at h).1) (bind_at (s2_at (bq3_at h).2 e) rfl)) hn
theorem q_154 {c : ByteArray} {p n b d : Nat} {z : Int} (hn : p + 1 + 1 + 1 - p = n) (e : Jvm.ClassFile.Reader.signed 16 (b * 256 + d) = z) (h : bq3 c p 154 b d = true) : decode c p = .ok (.ifCond .ne z, n) := dec_at (bind_at (u1_at (bq3_at h).1) (bind_at (s2_at (bq3_at h).2 e) rfl)) hn
theorem q_155 {c : ByteArray} {p n b d : Nat} {z : Int} (hn : p + 1 + 1 + 1 - p = n) (e : Jvm.ClassFile.Reader.signed 16 (b * 256 + d) = z) (h : bq3 c p 155 b d = true) : decode c p = .ok (.ifCond .lt z, n) := dec_at (bind_at (u1_at (bq3_at h).1) (bind_at (s2_at (bq3_at h).2 e) rfl)) hn
theorem q_156 {c : ByteArray} {p n b d : Nat} {z : Int} (hn : p + 1 + 1 + 1 - p = n) (e : Jvm.ClassFile.Reader.signed 16 (b * 256 + d) = z) (h : bq3 c p 156 b d = true) : decode c p = .ok (.ifCond .ge z, n) := dec_at (bind_at (u1_at (bq3_at h).1) (bind_at (s2_at (bq3_at h).2 e) rfl)) hn
theorem q_158 {c : ByteArray} {p n b d : Nat} {z : Int} (hn : p + 1 + 1 + 1 - p = n) (e : Jvm.ClassFile.Reader.signed 16 (b * 256 + d) = z) (h : bq3 c p 158 b d = true) : decode c p = .ok (.ifCond .le z, n) := dec_at (bind_at (u1_at (bq3_at h).1) (bind_at (s2_at (bq3_at h).2 e) rfl)) hn
theorem q_159 {c : ByteArray} {p n b d : Nat} {z : Int} (hn : p + 1 + 1 + 1 - p = n) (e : Jvm.ClassFile.Reader.signed 16 (b * 256 + d) = z) (h : bq3 c p 159 b d = true) : decode c p = .ok (.if_icmp .eq z, n) := dec_at (bind_at (u1_at (bq3_at h).1) (bind_at (s2_at (bq3_at h).2 e) rfl)) hn
theorem q_160 {c : ByteArray} {p n b d : Nat} {z : Int} (hn : p + 1 + 1 + 1 - p = n) (e : Jvm.ClassFile.Reader.signed 16 (b * 256 + d) = z) (h : bq3 c p 160 b d = true) : decode c p = .ok (.if_icmp .ne z, n) := dec_at (bind_at (u1_at (bq3_at h).1) (bind_at (s2_at (bq3_at h).2 e) rfl)) hn
theorem q_161 {c : ByteArray} {p n b d : Nat} {z : Int} (hn : p + 1 + 1 + 1 - p = n) (e : Jvm.ClassFile.Reader.signed 16 (b * 256 + d) = z) (h : bq3 c p 161 b d = true) : decode c p = .ok (.if_icmp .lt z, n) := dec_at (bind_at (u1_at (bq3_at h).1) (bind_at (s2_at (bq3_at h).2 e) rfl)) hn
theorem q_162 {c : ByteArray} {p n b d : Nat} {z : Int} (hn : p + 1 + 1 + 1 - p = n) (e : Jvm.ClassFile.Reader.signed 16 (b * 256 + d) = z) (h : bq3 c p 162 b d = true) : decode c p = .ok (.if_icmp .ge z, n) := dec_at (bind_at (u1_at (bq3_at h).1) (bind_at (s2_at (bq3_at h).2 e) rfl)) hn
theorem q_163 {c : ByteArray} {p n b d : Nat} {z : Int} (hn : p + 1 + 1 + 1 - p = n) (e : Jvm.ClassFile.Reader.signed 16 (b * 256 + d) = z) (h : bq3 c p 163 b d = true) : decode c p = .ok (.if_icmp .gt z, n) := dec_at (bind_at (u1_at (bq3_at h).1) (bind_at (s2_at (bq3_at h).2 e) rfl)) hn
theorem q_164 {c : ByteArray} {p n b d : Nat} {z : Int} (hn : p + 1 + 1 + 1 - p = n) (e : Jvm.ClassFile.Reader.signed 16 (b * 256 + d) = z) (h : bq3 c p 164 b d = true) : decode c p = .ok (.if_icmp .le z, n) := dec_at (bind_at (u1_at (bq3_at h).1) (bind_at (s2_at (bq3_at h).2 e) rfl)) hn
theorem q_167 {c : ByteArray} {p n b d : Nat} {z : Int} (hn : p + 1 + 1 + 1 - p = n) (e : Jvm.ClassFile.Reader.signed 16 (b * 256 + d) = z) (h : bq3 c p 167 b d = true) : decode c p = .ok (.goto z, n) := dec_at (bind_at (u1_at (bq3_at h).1) (bind_at (s2_at (bq3_at h).2 e) rfl)) hn
theorem q_172 {c : ByteArray} {p n : Nat} (hn : p + 1 - p = n) (h : bq1 c p 172 = true) : decode c p = .ok (.ireturn, n) := dec_at (bind_at (u1_at (bq1_at h)) rfl) hn
theorem q_173 {c : ByteArray} {p n : Nat} (hn : p + 1 - p = n) (h : bq1 c p 173 = true) : decode c p = .ok (.lreturn, n) := dec_at (bind_at (u1_at (bq1_at h)) rfl) hn
theorem q_176 {c : ByteArray} {p n : Nat} (hn : p + 1 - p = n) (h : bq1 c p 176 = true) : decode c p = .ok (.areturn, n) := dec_at (bind_at (u1_at (bq1_at h)) rfl) hn
theorem q_177 {c : ByteArray} {p n : Nat} (hn : p + 1 - p = n) (h : bq1 c p 177 = true) : decode c p = .ok (.return_, n) := dec_at (bind_at (u1_at (bq1_at h)) rfl) hn
theorem q_178 {c : ByteArray} {p n b d : Nat} (hn : p + 1 + 1 + 1 - p = n) (h : bq3 c p 178 b d = true) : decode c p = .ok (.getstatic (b * 256 + d), n) := dec_at (bind_at (u1_at (bq3_at h).1) (bind_at (u2_at (bq3_at h).2) rfl)) hn
theorem q_180 {c : ByteArray} {p n b d : Nat} (hn : p + 1 + 1 + 1 - p = n) (h : bq3 c p 180 b d = true) : decode c p = .ok (.getfield (b * 256 + d), n) := dec_at (bind_at (u1_at (bq3_at h).1) (bind_at (u2_at (bq3_at h).2) rfl)) hn
theorem q_181 {c : ByteArray} {p n b d : Nat} (hn : p + 1 + 1 + 1 - p = n) (h : bq3 c p 181 b d = true) : decode c p = .ok (.putfield (b * 256 + d), n) := dec_at (bind_at (u1_at (bq3_at h).1) (bind_at (u2_at (bq3_at h).2) rfl)) hn
theorem q_182 {c : ByteArray} {p n b d : Nat} (hn : p + 1 + 1 + 1 - p = n) (h : bq3 c p 182 b d = true) : decode c p = .ok (.invokevirtual (b * 256 + d), n) := dec_at (bind_at (u1_at (bq3_at h).1) (bind_at (u2_at (bq3_at h).2) rfl)) hn
theorem q_183 {c : ByteArray} {p n b d : Nat} (hn : p + 1 + 1 + 1 - p = n) (h : bq3 c p 183 b d = true) : decode c p = .ok (.invokespecial (b * 256 + d), n) := dec_at (bind_at (u1_at (bq3_at h).1) (bind_at (u2_at (bq3_at h).2) rfl)) hn
theorem q_184 {c : ByteArray} {p n b d : Nat} (hn : p + 1 + 1 + 1 - p = n) (h : bq3 c p 184 b d = true) : decode c p = .ok (.invokestatic (b * 256 + d), n) := dec_at (bind_at (u1_at (bq3_at h).1) (bind_at (u2_at (bq3_at h).2) rfl)) hn
theorem q_187 {c : ByteArray} {p n b d : Nat} (hn : p + 1 + 1 + 1 - p = n) (h : bq3 c p 187 b d = true) : decode c p = .ok (.new (b * 256 + d), n) := dec_at (bind_at (u1_at (bq3_at h).1) (bind_at (u2_at (bq3_at h).2) rfl)) hn
theorem q_188_4 {c : ByteArray} {p n : Nat} (hn : p + 1 + 1 - p = n) (h : bq2 c p 188 4 = true) : decode c p = .ok (.newarray .boolean, n) := dec_at (bind_at (u1_at (bq2_at h).1) (bind_at (u1_at (bq2_at h).2) rfl)) hn
theorem q_188_8 {c : ByteArray} {p n : Nat} (hn : p + 1 + 1 - p = n) (h : bq2 c p 188 8 = true) : decode c p = .ok (.newarray .byte, n) := dec_at (bind_at (u1_at (bq2_at h).1) (bind_at (u1_at (bq2_at h).2) rfl)) hn
theorem q_188_10 {c : ByteArray} {p n : Nat} (hn : p + 1 + 1 - p = n) (h : bq2 c p 188 10 = true) : decode c p = .ok (.newarray .int, n) := dec_at (bind_at (u1_at (bq2_at h).1) (bind_at (u1_at (bq2_at h).2) rfl)) hn
theorem q_188_11 {c : ByteArray} {p n : Nat} (hn : p + 1 + 1 - p = n) (h : bq2 c p 188 11 = true) : decode c p = .ok (.newarray .long, n) := dec_at (bind_at (u1_at (bq2_at h).1) (bind_at (u1_at (bq2_at h).2) rfl)) hn
theorem q_189 {c : ByteArray} {p n b d : Nat} (hn : p + 1 + 1 + 1 - p = n) (h : bq3 c p 189 b d = true) : decode c p = .ok (.anewarray (b * 256 + d), n) := dec_at (bind_at (u1_at (bq3_at h).1) (bind_at (u2_at (bq3_at h).2) rfl)) hn
theorem q_190 {c : ByteArray} {p n : Nat} (hn : p + 1 - p = n) (h : bq1 c p 190 = true) : decode c p = .ok (.arraylength, n) := dec_at (bind_at (u1_at (bq1_at h)) rfl) hn
theorem q_198 {c : ByteArray} {p n b d : Nat} {z : Int} (hn : p + 1 + 1 + 1 - p = n) (e : Jvm.ClassFile.Reader.signed 16 (b * 256 + d) = z) (h : bq3 c p 198 b d = true) : decode c p = .ok (.ifnull z, n) := dec_at (bind_at (u1_at (bq3_at h).1) (bind_at (s2_at (bq3_at h).2 e) rfl)) hn
theorem q_199 {c : ByteArray} {p n b d : Nat} {z : Int} (hn : p + 1 + 1 + 1 - p = n) (e : Jvm.ClassFile.Reader.signed 16 (b * 256 + d) = z) (h : bq3 c p 199 b d = true) : decode c p = .ok (.ifnonnull z, n) := dec_at (bind_at (u1_at (bq3_at h).1) (bind_at (s2_at (bq3_at h).2 e) rfl)) hn
def nen : List UInt8 → Nat
  | [] => 0
  | x :: l => x.toNat + 256 * nen l
theorem nen_sh : ∀ (l : List UInt8) (p : Nat), Nat.shiftRight (nen l) (8 * p) = nen (l.drop p)
  | l, 0 => rfl
  | [], p + 1 => by
    show (0 : Nat) >>> (8 * (p + 1)) = 0
    exact Nat.zero_shiftRight _
  | x :: l, p + 1 => by
    have ih := nen_sh l p
    have e : (nen (x :: l)) >>> (8 * (p + 1)) = nen l >>> (8 * p) := by
      rw [Nat.shiftRight_eq_div_pow, Nat.shiftRight_eq_div_pow, show 8 * (p + 1) = 8 + 8 * p by omega, Nat.pow_add, ← Nat.div_div_eq_div_mul]
      have q : nen (x :: l) / 2 ^ 8 = nen l := by
        show (x.toNat + 256 * nen l) / 2 ^ 8 = nen l
        have := x.toNat_lt
        omega
      rw [q]
    exact e.trans ih
theorem nen_hd {l t : List UInt8} {x : UInt8} (e : l = x :: t) : nen l % 256 = x.toNat := by
  rw [e]
  show (x.toNat + 256 * nen t) % 256 = _
  have := x.toNat_lt
  omega
theorem dr_tl : ∀ (l : List UInt8) (p : Nat) {x : UInt8} {t : List UInt8}, l.drop p = x :: t → l.drop (p + 1) = t
  | [], p, x, t, e => by rw [List.drop_nil] at e; cases e
  | y :: l, 0, x, t, e => by
    have e' : y :: l = x :: t := e
    cases e'
    rfl
  | y :: l, p + 1, x, t, e => dr_tl l p e
theorem nb_at {c : ByteArray} {N n p a : Nat} (z : nen c.data.toList = N ∧ c.data.toList.length = n) (hp : p + 1 ≤ n) (h : Nat.beq (Nat.mod (Nat.shiftRight N (Nat.mul 8 p)) 256) a = true) : ∃ x t, c.data.toList.drop p = x :: t ∧ x.toNat = a := by
  have ha := Nat.eq_of_beq_eq_true h
  cases e : c.data.toList.drop p with
  | nil =>
    have h1 := congrArg List.length e
    rw [List.length_drop, z.2] at h1
    have h0 : n - p = 0 := h1
    omega
  | cons x t =>
    refine ⟨x, t, rfl, ?_⟩
    have s := nen_sh c.data.toList p
    rw [z.1] at s
    exact (nen_hd e).symm.trans ((congrArg (fun t => t % 256) s.symm).trans ha)
theorem nq1_at {c : ByteArray} {N n p a : Nat} (z : nen c.data.toList = N ∧ c.data.toList.length = n) (h : (Nat.ble (Nat.add p 1) n && Nat.beq (Nat.mod (Nat.shiftRight N (Nat.mul 8 p)) 256) a) = true) : bq1 c p a = true := by
  rw [Bool.and_eq_true] at h
  obtain ⟨x, t, e, ex⟩ := nb_at z (Nat.le_of_ble_eq_true h.1) h.2
  unfold bq1
  rw [e]
  show (x.toNat == a) = true
  exact beq_iff_eq.mpr ex
theorem nq2_at {c : ByteArray} {N n p a b : Nat} (z : nen c.data.toList = N ∧ c.data.toList.length = n) (h : (Nat.ble (Nat.add p 2) n && (Nat.beq (Nat.mod (Nat.shiftRight N (Nat.mul 8 p)) 256) a && Nat.beq (Nat.mod (Nat.shiftRight N (Nat.mul 8 (Nat.add p 1))) 256) b)) = true) : bq2 c p a b = true := by
  rw [Bool.and_eq_true, Bool.and_eq_true] at h
  have hn : p + 2 ≤ n := Nat.le_of_ble_eq_true h.1
  obtain ⟨x, t, e, ex⟩ := nb_at z (by omega) h.2.1
  obtain ⟨y, t2, e2, ey⟩ := nb_at (p := p + 1) z (by omega) h.2.2
  rw [dr_tl _ _ e] at e2
  unfold bq2
  rw [e, e2]
  show (x.toNat == a && y.toNat == b) = true
  rw [Bool.and_eq_true]
  exact ⟨beq_iff_eq.mpr ex, beq_iff_eq.mpr ey⟩
theorem nq3_at {c : ByteArray} {N n p a b d : Nat} (z : nen c.data.toList = N ∧ c.data.toList.length = n) (h : (Nat.ble (Nat.add p 3) n && (Nat.beq (Nat.mod (Nat.shiftRight N (Nat.mul 8 p)) 256) a && (Nat.beq (Nat.mod (Nat.shiftRight N (Nat.mul 8 (Nat.add p 1))) 256) b && Nat.beq (Nat.mod (Nat.shiftRight N (Nat.mul 8 (Nat.add p 2))) 256) d))) = true) : bq3 c p a b d = true := by
  rw [Bool.and_eq_true, Bool.and_eq_true, Bool.and_eq_true] at h
  have hn : p + 3 ≤ n := Nat.le_of_ble_eq_true h.1
  obtain ⟨x, t, e, ex⟩ := nb_at z (by omega) h.2.1
  obtain ⟨y, t2, e2, ey⟩ := nb_at (p := p + 1) z (by omega) h.2.2.1
  obtain ⟨w, t3, e3, ew⟩ := nb_at (p := p + 2) z (by omega) h.2.2.2
  have f2 : c.data.toList.drop (p + 2) = t2 := dr_tl _ _ e2
  rw [f2] at e3
  rw [dr_tl _ _ e] at e2
  unfold bq3
  rw [e, e2, e3]
  show (x.toNat == a && (y.toNat == b && w.toNat == d)) = true
  rw [Bool.and_eq_true, Bool.and_eq_true]
  exact ⟨beq_iff_eq.mpr ex, beq_iff_eq.mpr ey, beq_iff_eq.mpr ew⟩
end
end

