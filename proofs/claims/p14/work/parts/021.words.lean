section
/-- the words of the tables that hold in every callee -/
def lw_gd : List Cond := lw_tbl.filter goodWord
theorem lw_gd_in {i : Nat} {w : Cond} (h : lw_tbl[i]? = some w) (hg : goodWord w = true) : w ∈ lw_gd := List.mem_filter.mpr ⟨List.mem_of_getElem? h, hg⟩
theorem tb_0 {i : Nat} {w : Cond} (h : (k2_sels lw_privs)[i]? = some w) (hg : goodWord w = true) : w ∈ lw_gd := List.mem_filter.mpr ⟨List.mem_append_left _ (List.mem_of_getElem? h), hg⟩
theorem tb_1 {i : Nat} {w : Cond} (h : (tables_1_1)[i]? = some w) (hg : goodWord w = true) : w ∈ lw_gd := List.mem_filter.mpr ⟨List.mem_append_right _ (List.mem_append_left _ (List.mem_of_getElem? h)), hg⟩
theorem tb_2 {i : Nat} {w : Cond} (h : (tables_1_2)[i]? = some w) (hg : goodWord w = true) : w ∈ lw_gd := List.mem_filter.mpr ⟨List.mem_append_right _ (List.mem_append_right _ (List.mem_append_left _ (List.mem_of_getElem? h))), hg⟩
theorem tb_3 {i : Nat} {w : Cond} (h : (tables_1_3)[i]? = some w) (hg : goodWord w = true) : w ∈ lw_gd := List.mem_filter.mpr ⟨List.mem_append_right _ (List.mem_append_right _ (List.mem_append_right _ (List.mem_append_left _ (List.mem_of_getElem? h)))), hg⟩
theorem tb_4 {i : Nat} {w : Cond} (h : (tables_1_4)[i]? = some w) (hg : goodWord w = true) : w ∈ lw_gd := List.mem_filter.mpr ⟨List.mem_append_right _ (List.mem_append_right _ (List.mem_append_right _ (List.mem_append_right _ (List.mem_append_left _ (List.mem_of_getElem? h))))), hg⟩
theorem tb_5 {i : Nat} {w : Cond} (h : (tables_1_5)[i]? = some w) (hg : goodWord w = true) : w ∈ lw_gd := List.mem_filter.mpr ⟨List.mem_append_right _ (List.mem_append_right _ (List.mem_append_right _ (List.mem_append_right _ (List.mem_append_right _ (List.mem_append_left _ (List.mem_of_getElem? h)))))), hg⟩
theorem tb_6 {i : Nat} {w : Cond} (h : (tables_1_6)[i]? = some w) (hg : goodWord w = true) : w ∈ lw_gd := List.mem_filter.mpr ⟨List.mem_append_right _ (List.mem_append_right _ (List.mem_append_right _ (List.mem_append_right _ (List.mem_append_right _ (List.mem_append_right _ (List.mem_append_left _ (List.mem_of_getElem? h))))))), hg⟩
theorem tb_7 {i : Nat} {w : Cond} (h : (tables_1_7)[i]? = some w) (hg : goodWord w = true) : w ∈ lw_gd := List.mem_filter.mpr ⟨List.mem_append_right _ (List.mem_append_right _ (List.mem_append_right _ (List.mem_append_right _ (List.mem_append_right _ (List.mem_append_right _ (List.mem_append_right _ (List.mem_of_getElem? h))))))), hg⟩
theorem wd_0 : (Jvm.Cond.selects "GluedHour$Reader" ({ cls := "GluedHour$Reader", name := "begin", desc := "(II)V" } : Jvm.MethodName) ({ cls := "GluedHour$Reader", name := "begin", desc := "(II)V" } : Jvm.MethodName)) ∈ lw_gd := tb_0 (i := 0) rfl rfl
theorem wd_1 : (Jvm.Cond.selects "GluedHour$Reader" ({ cls := "GluedHour$Reader", name := "draftOf", desc := "(I)LGluedHour$Lines;" } : Jvm.MethodName) ({ cls := "GluedHour$Reader", name := "draftOf", desc := "(I)LGluedHour$Lines;" } : Jvm.MethodName)) ∈ lw_gd := tb_0 (i := 1) rfl rfl
theorem wd_2 : (Jvm.Cond.selects "GluedHour$Reader" ({ cls := "GluedHour$Reader", name := "step", desc := "()V" } : Jvm.MethodName) ({ cls := "GluedHour$Reader", name := "step", desc := "()V" } : Jvm.MethodName)) ∈ lw_gd := tb_0 (i := 2) rfl rfl
theorem wd_3 : (Jvm.Cond.selects "GluedHour$Reader" ({ cls := "GluedHour$Reader", name := "stepNumber", desc := "()V" } : Jvm.MethodName) ({ cls := "GluedHour$Reader", name := "stepNumber", desc := "()V" } : Jvm.MethodName)) ∈ lw_gd := tb_0 (i := 3) rfl rfl
theorem wd_4 : (Jvm.Cond.selects "GluedHour$Reader" ({ cls := "GluedHour$Reader", name := "readLine", desc := "(I)Z" } : Jvm.MethodName) ({ cls := "GluedHour$Reader", name := "readLine", desc := "(I)Z" } : Jvm.MethodName)) ∈ lw_gd := tb_0 (i := 4) rfl rfl
theorem wd_5 : (Jvm.Cond.selects "GluedHour$Reader" ({ cls := "GluedHour$Reader", name := "verbOf", desc := "(I)I" } : Jvm.MethodName) ({ cls := "GluedHour$Reader", name := "verbOf", desc := "(I)I" } : Jvm.MethodName)) ∈ lw_gd := tb_0 (i := 5) rfl rfl
theorem wd_6 : (Jvm.Cond.selects "GluedHour$Reader" ({ cls := "GluedHour$Reader", name := "isWord", desc := "(Ljava/lang/String;)Z" } : Jvm.MethodName) ({ cls := "GluedHour$Reader", name := "isWord", desc := "(Ljava/lang/String;)Z" } : Jvm.MethodName)) ∈ lw_gd := tb_0 (i := 6) rfl rfl
theorem wd_7 : (Jvm.Cond.selects "GluedHour$Reader" ({ cls := "GluedHour$Reader", name := "isOneTooMany", desc := "(I)Z" } : Jvm.MethodName) ({ cls := "GluedHour$Reader", name := "isOneTooMany", desc := "(I)Z" } : Jvm.MethodName)) ∈ lw_gd := tb_0 (i := 7) rfl rfl
theorem wd_8 : (Jvm.Cond.selects "GluedHour$Reader" ({ cls := "GluedHour$Reader", name := "note", desc := "(II)V" } : Jvm.MethodName) ({ cls := "GluedHour$Reader", name := "note", desc := "(II)V" } : Jvm.MethodName)) ∈ lw_gd := tb_0 (i := 8) rfl rfl
theorem wd_9 : (Jvm.Cond.selects "GluedHour$Reader" ({ cls := "GluedHour$Reader", name := "checkNumber", desc := "(II)V" } : Jvm.MethodName) ({ cls := "GluedHour$Reader", name := "checkNumber", desc := "(II)V" } : Jvm.MethodName)) ∈ lw_gd := tb_0 (i := 9) rfl rfl
theorem wd_10 : (Jvm.Cond.selects "GluedHour$Reader" ({ cls := "GluedHour$Reader", name := "readMode", desc := "()Z" } : Jvm.MethodName) ({ cls := "GluedHour$Reader", name := "readMode", desc := "()Z" } : Jvm.MethodName)) ∈ lw_gd := tb_0 (i := 10) rfl rfl
theorem wd_11 : (Jvm.Cond.selects "GluedHour$Reader" ({ cls := "GluedHour$Reader", name := "tell", desc := "(I)V" } : Jvm.MethodName) ({ cls := "GluedHour$Reader", name := "tell", desc := "(I)V" } : Jvm.MethodName)) ∈ lw_gd := tb_0 (i := 11) rfl rfl
theorem wd_12 : (Jvm.Cond.selects "GluedHour$Reader" ({ cls := "GluedHour$Reader", name := "tellLine", desc := "(I)V" } : Jvm.MethodName) ({ cls := "GluedHour$Reader", name := "tellLine", desc := "(I)V" } : Jvm.MethodName)) ∈ lw_gd := tb_0 (i := 12) rfl rfl
theorem wd_13 : (Jvm.Cond.selects "GluedHour" ({ cls := "GluedHour", name := "begun", desc := "(I)LGluedHour$Republic;" } : Jvm.MethodName) ({ cls := "GluedHour", name := "begun", desc := "(I)LGluedHour$Republic;" } : Jvm.MethodName)) ∈ lw_gd := tb_0 (i := 13) rfl rfl
theorem wd_14 : (Jvm.Cond.selects "GluedHour" ({ cls := "GluedHour", name := "gainBy", desc := "(II)J" } : Jvm.MethodName) ({ cls := "GluedHour", name := "gainBy", desc := "(II)J" } : Jvm.MethodName)) ∈ lw_gd := tb_0 (i := 14) rfl rfl
theorem wd_15 : (Jvm.Cond.selects "GluedHour$Planner" ({ cls := "GluedHour$Planner", name := "bestOf", desc := "(II)J" } : Jvm.MethodName) ({ cls := "GluedHour$Planner", name := "bestOf", desc := "(II)J" } : Jvm.MethodName)) ∈ lw_gd := tb_0 (i := 15) rfl rfl
theorem wd_16 : (Jvm.Cond.selects "GluedHour$Planner" ({ cls := "GluedHour$Planner", name := "keep", desc := "(J)V" } : Jvm.MethodName) ({ cls := "GluedHour$Planner", name := "keep", desc := "(J)V" } : Jvm.MethodName)) ∈ lw_gd := tb_0 (i := 16) rfl rfl
theorem wd_17 : (Jvm.Cond.selects "GluedHour$Planner" ({ cls := "GluedHour$Planner", name := "blindBy", desc := "(LGluedHour$Republic;LGluedHour$Lines;I)J" } : Jvm.MethodName) ({ cls := "GluedHour$Planner", name := "blindBy", desc := "(LGluedHour$Republic;LGluedHour$Lines;I)J" } : Jvm.MethodName)) ∈ lw_gd := tb_0 (i := 17) rfl rfl
theorem wd_18 : (Jvm.Cond.selects "GluedHour$Search" ({ cls := "GluedHour$Search", name := "follow", desc := "(LGluedHour$Republic;LGluedHour$Course;LGluedHour$Lines;I)V" } : Jvm.MethodName) ({ cls := "GluedHour$Search", name := "follow", desc := "(LGluedHour$Republic;LGluedHour$Course;LGluedHour$Lines;I)V" } : Jvm.MethodName)) ∈ lw_gd := tb_0 (i := 18) rfl rfl
theorem wd_19 : (Jvm.Cond.selects "GluedHour$Search" ({ cls := "GluedHour$Search", name := "keepRow", desc := "()V" } : Jvm.MethodName) ({ cls := "GluedHour$Search", name := "keepRow", desc := "()V" } : Jvm.MethodName)) ∈ lw_gd := tb_0 (i := 19) rfl rfl
theorem wd_20 : (Jvm.Cond.selects "GluedHour" ({ cls := "GluedHour", name := "expected", desc := "(IIIZ)Z" } : Jvm.MethodName) ({ cls := "GluedHour", name := "expected", desc := "(IIIZ)Z" } : Jvm.MethodName)) ∈ lw_gd := tb_0 (i := 20) rfl rfl
theorem wd_21 : (Jvm.Cond.selects "GluedHour" ({ cls := "GluedHour", name := "nextDay", desc := "(LGluedHour$Republic;LGluedHour$Odds;IZ)J" } : Jvm.MethodName) ({ cls := "GluedHour", name := "nextDay", desc := "(LGluedHour$Republic;LGluedHour$Odds;IZ)J" } : Jvm.MethodName)) ∈ lw_gd := tb_0 (i := 21) rfl rfl
theorem wd_22 : (Jvm.Cond.selects "GluedHour" ({ cls := "GluedHour", name := "changeBy", desc := "(LGluedHour$Republic;II)J" } : Jvm.MethodName) ({ cls := "GluedHour", name := "changeBy", desc := "(LGluedHour$Republic;II)J" } : Jvm.MethodName)) ∈ lw_gd := tb_0 (i := 22) rfl rfl
theorem wd_23 : (Jvm.Cond.selects "GluedHourModel" ({ cls := "GluedHourModel", name := "four", desc := "(I)V" } : Jvm.MethodName) ({ cls := "GluedHourModel", name := "four", desc := "(I)V" } : Jvm.MethodName)) ∈ lw_gd := tb_0 (i := 23) rfl rfl
theorem wd_24 : (Jvm.Cond.selects "GluedHourModel" ({ cls := "GluedHourModel", name := "is", desc := "(II)Z" } : Jvm.MethodName) ({ cls := "GluedHourModel", name := "is", desc := "(II)Z" } : Jvm.MethodName)) ∈ lw_gd := tb_0 (i := 24) rfl rfl
theorem wd_25 : (Jvm.Cond.selects "GluedHourModel" ({ cls := "GluedHourModel", name := "readText", desc := "(I)Z" } : Jvm.MethodName) ({ cls := "GluedHourModel", name := "readText", desc := "(I)Z" } : Jvm.MethodName)) ∈ lw_gd := tb_0 (i := 25) rfl rfl
theorem wd_26 : (Jvm.Cond.selects "GluedHourModel" ({ cls := "GluedHourModel", name := "token", desc := "()V" } : Jvm.MethodName) ({ cls := "GluedHourModel", name := "token", desc := "()V" } : Jvm.MethodName)) ∈ lw_gd := tb_0 (i := 26) rfl rfl
theorem wd_27 : (Jvm.Cond.selects "GluedHourModel" ({ cls := "GluedHourModel", name := "see", desc := "()I" } : Jvm.MethodName) ({ cls := "GluedHourModel", name := "see", desc := "()I" } : Jvm.MethodName)) ∈ lw_gd := tb_0 (i := 27) rfl rfl
theorem wd_28 : (Jvm.Cond.selects "GluedHourModel" ({ cls := "GluedHourModel", name := "lines", desc := "(I)Z" } : Jvm.MethodName) ({ cls := "GluedHourModel", name := "lines", desc := "(I)Z" } : Jvm.MethodName)) ∈ lw_gd := tb_0 (i := 28) rfl rfl
theorem wd_29 : (Jvm.Cond.selects "GluedHourModel" ({ cls := "GluedHourModel", name := "lineOf", desc := "(IJI)Z" } : Jvm.MethodName) ({ cls := "GluedHourModel", name := "lineOf", desc := "(IJI)Z" } : Jvm.MethodName)) ∈ lw_gd := tb_0 (i := 29) rfl rfl
theorem wd_30 : (Jvm.Cond.selects "GluedHourModel" ({ cls := "GluedHourModel", name := "republicLine", desc := "(JI)Z" } : Jvm.MethodName) ({ cls := "GluedHourModel", name := "republicLine", desc := "(JI)Z" } : Jvm.MethodName)) ∈ lw_gd := tb_0 (i := 30) rfl rfl
theorem wd_31 : (Jvm.Cond.selects "GluedHourModel" ({ cls := "GluedHourModel", name := "fails", desc := "()Z" } : Jvm.MethodName) ({ cls := "GluedHourModel", name := "fails", desc := "()Z" } : Jvm.MethodName)) ∈ lw_gd := tb_0 (i := 31) rfl rfl
theorem wd_32 : (Jvm.Cond.selects "GluedHourModel" ({ cls := "GluedHourModel", name := "full", desc := "(III)V" } : Jvm.MethodName) ({ cls := "GluedHourModel", name := "full", desc := "(III)V" } : Jvm.MethodName)) ∈ lw_gd := tb_0 (i := 32) rfl rfl
theorem wd_33 : (Jvm.Cond.selects "GluedHourModel" ({ cls := "GluedHourModel", name := "later", desc := "(II)V" } : Jvm.MethodName) ({ cls := "GluedHourModel", name := "later", desc := "(II)V" } : Jvm.MethodName)) ∈ lw_gd := tb_0 (i := 33) rfl rfl
theorem wd_34 : (Jvm.Cond.selects "GluedHourModel" ({ cls := "GluedHourModel", name := "kindLine", desc := "(Z)Z" } : Jvm.MethodName) ({ cls := "GluedHourModel", name := "kindLine", desc := "(Z)Z" } : Jvm.MethodName)) ∈ lw_gd := tb_0 (i := 34) rfl rfl
theorem wd_35 : (Jvm.Cond.selects "GluedHourModel" ({ cls := "GluedHourModel", name := "take", desc := "(III)Z" } : Jvm.MethodName) ({ cls := "GluedHourModel", name := "take", desc := "(III)Z" } : Jvm.MethodName)) ∈ lw_gd := tb_0 (i := 35) rfl rfl
theorem wd_36 : (Jvm.Cond.selects "GluedHourModel" ({ cls := "GluedHourModel", name := "ofOne", desc := "(Z)Z" } : Jvm.MethodName) ({ cls := "GluedHourModel", name := "ofOne", desc := "(Z)Z" } : Jvm.MethodName)) ∈ lw_gd := tb_0 (i := 36) rfl rfl
theorem wd_37 : (Jvm.Cond.selects "GluedHourModel" ({ cls := "GluedHourModel", name := "weekLine", desc := "(JI)Z" } : Jvm.MethodName) ({ cls := "GluedHourModel", name := "weekLine", desc := "(JI)Z" } : Jvm.MethodName)) ∈ lw_gd := tb_0 (i := 37) rfl rfl
theorem wd_38 : (Jvm.Cond.selects "GluedHourModel" ({ cls := "GluedHourModel", name := "keep", desc := "(III)V" } : Jvm.MethodName) ({ cls := "GluedHourModel", name := "keep", desc := "(III)V" } : Jvm.MethodName)) ∈ lw_gd := tb_0 (i := 38) rfl rfl
theorem wd_39 : (Jvm.Cond.selects "GluedHourModel" ({ cls := "GluedHourModel", name := "errandLine", desc := "(JI)Z" } : Jvm.MethodName) ({ cls := "GluedHourModel", name := "errandLine", desc := "(JI)Z" } : Jvm.MethodName)) ∈ lw_gd := tb_0 (i := 39) rfl rfl
theorem wd_40 : (Jvm.Cond.selects "GluedHourModel" ({ cls := "GluedHourModel", name := "trainLine", desc := "(JI)Z" } : Jvm.MethodName) ({ cls := "GluedHourModel", name := "trainLine", desc := "(JI)Z" } : Jvm.MethodName)) ∈ lw_gd := tb_0 (i := 40) rfl rfl
theorem wd_41 : (Jvm.Cond.selects "GluedHourModel" ({ cls := "GluedHourModel", name := "sightLine", desc := "(JI)Z" } : Jvm.MethodName) ({ cls := "GluedHourModel", name := "sightLine", desc := "(JI)Z" } : Jvm.MethodName)) ∈ lw_gd := tb_0 (i := 41) rfl rfl
theorem wd_42 : (Jvm.Cond.selects "GluedHourModel" ({ cls := "GluedHourModel", name := "storeAll", desc := "(II)V" } : Jvm.MethodName) ({ cls := "GluedHourModel", name := "storeAll", desc := "(II)V" } : Jvm.MethodName)) ∈ lw_gd := tb_0 (i := 42) rfl rfl
theorem wd_43 : (Jvm.Cond.selects "GluedHourModel" ({ cls := "GluedHourModel", name := "store", desc := "([III)V" } : Jvm.MethodName) ({ cls := "GluedHourModel", name := "store", desc := "([III)V" } : Jvm.MethodName)) ∈ lw_gd := tb_0 (i := 43) rfl rfl
theorem wd_44 : (Jvm.Cond.selects "GluedHourModel" ({ cls := "GluedHourModel", name := "hand", desc := "(I)Z" } : Jvm.MethodName) ({ cls := "GluedHourModel", name := "hand", desc := "(I)Z" } : Jvm.MethodName)) ∈ lw_gd := tb_0 (i := 44) rfl rfl
theorem wd_45 : (Jvm.Cond.selects "GluedHourModel" ({ cls := "GluedHourModel", name := "of", desc := "(I)I" } : Jvm.MethodName) ({ cls := "GluedHourModel", name := "of", desc := "(I)I" } : Jvm.MethodName)) ∈ lw_gd := tb_0 (i := 45) rfl rfl
theorem wd_46 : (Jvm.Cond.selects "GluedHourModel" ({ cls := "GluedHourModel", name := "layValues", desc := "(I)V" } : Jvm.MethodName) ({ cls := "GluedHourModel", name := "layValues", desc := "(I)V" } : Jvm.MethodName)) ∈ lw_gd := tb_0 (i := 46) rfl rfl
theorem wd_47 : (Jvm.Cond.selects "GluedHourModel" ({ cls := "GluedHourModel", name := "valueBy", desc := "(III)I" } : Jvm.MethodName) ({ cls := "GluedHourModel", name := "valueBy", desc := "(III)I" } : Jvm.MethodName)) ∈ lw_gd := tb_0 (i := 47) rfl rfl
theorem wd_48 : (Jvm.Cond.selects "GluedHourModel" ({ cls := "GluedHourModel", name := "worthOf", desc := "(III)I" } : Jvm.MethodName) ({ cls := "GluedHourModel", name := "worthOf", desc := "(III)I" } : Jvm.MethodName)) ∈ lw_gd := tb_0 (i := 48) rfl rfl
theorem wd_49 : (Jvm.Cond.selects "GluedHourModel" ({ cls := "GluedHourModel", name := "modeOf", desc := "(I)I" } : Jvm.MethodName) ({ cls := "GluedHourModel", name := "modeOf", desc := "(I)I" } : Jvm.MethodName)) ∈ lw_gd := tb_0 (i := 49) rfl rfl
theorem wd_50 : (Jvm.Cond.selects "GluedHourModel" ({ cls := "GluedHourModel", name := "layOdds", desc := "()V" } : Jvm.MethodName) ({ cls := "GluedHourModel", name := "layOdds", desc := "()V" } : Jvm.MethodName)) ∈ lw_gd := tb_0 (i := 50) rfl rfl
theorem wd_51 : (Jvm.Cond.selects "GluedHourModel" ({ cls := "GluedHourModel", name := "handOne", desc := "(II)Z" } : Jvm.MethodName) ({ cls := "GluedHourModel", name := "handOne", desc := "(II)Z" } : Jvm.MethodName)) ∈ lw_gd := tb_0 (i := 51) rfl rfl
theorem wd_52 : (Jvm.Cond.selects "GluedHourModel" ({ cls := "GluedHourModel", name := "isOne", desc := "(I)Z" } : Jvm.MethodName) ({ cls := "GluedHourModel", name := "isOne", desc := "(I)Z" } : Jvm.MethodName)) ∈ lw_gd := tb_0 (i := 52) rfl rfl
theorem wd_53 : (Jvm.Cond.selects "GluedHourModel" ({ cls := "GluedHourModel", name := "isHour", desc := "(I)Z" } : Jvm.MethodName) ({ cls := "GluedHourModel", name := "isHour", desc := "(I)Z" } : Jvm.MethodName)) ∈ lw_gd := tb_0 (i := 53) rfl rfl
theorem wd_54 : (Jvm.Cond.selects "GluedHourModel" ({ cls := "GluedHourModel", name := "allBy", desc := "(I)I" } : Jvm.MethodName) ({ cls := "GluedHourModel", name := "allBy", desc := "(I)I" } : Jvm.MethodName)) ∈ lw_gd := tb_0 (i := 54) rfl rfl
theorem wd_55 : (Jvm.Cond.selects "GluedHourModel" ({ cls := "GluedHourModel", name := "hasWeek", desc := "(I)Z" } : Jvm.MethodName) ({ cls := "GluedHourModel", name := "hasWeek", desc := "(I)Z" } : Jvm.MethodName)) ∈ lw_gd := tb_0 (i := 55) rfl rfl
theorem wd_56 : (Jvm.Cond.selects "GluedHourModel" ({ cls := "GluedHourModel", name := "hourOf", desc := "(I)I" } : Jvm.MethodName) ({ cls := "GluedHourModel", name := "hourOf", desc := "(I)I" } : Jvm.MethodName)) ∈ lw_gd := tb_0 (i := 56) rfl rfl
theorem wd_57 : (Jvm.Cond.selects "GluedHourModel" ({ cls := "GluedHourModel", name := "liveDays", desc := "(I)Z" } : Jvm.MethodName) ({ cls := "GluedHourModel", name := "liveDays", desc := "(I)Z" } : Jvm.MethodName)) ∈ lw_gd := tb_0 (i := 57) rfl rfl
theorem wd_58 : (Jvm.Cond.selects "GluedHourModel" ({ cls := "GluedHourModel", name := "live", desc := "(I)V" } : Jvm.MethodName) ({ cls := "GluedHourModel", name := "live", desc := "(I)V" } : Jvm.MethodName)) ∈ lw_gd := tb_0 (i := 58) rfl rfl
theorem wd_59 : (Jvm.Cond.selects "GluedHourModel" ({ cls := "GluedHourModel", name := "drawHour", desc := "()I" } : Jvm.MethodName) ({ cls := "GluedHourModel", name := "drawHour", desc := "()I" } : Jvm.MethodName)) ∈ lw_gd := tb_0 (i := 59) rfl rfl
theorem wd_60 : (Jvm.Cond.selects "GluedHourModel" ({ cls := "GluedHourModel", name := "draw", desc := "(I)I" } : Jvm.MethodName) ({ cls := "GluedHourModel", name := "draw", desc := "(I)I" } : Jvm.MethodName)) ∈ lw_gd := tb_0 (i := 60) rfl rfl
theorem wd_61 : (Jvm.Cond.selects "GluedHourModel" ({ cls := "GluedHourModel", name := "meanOf", desc := "(I)J" } : Jvm.MethodName) ({ cls := "GluedHourModel", name := "meanOf", desc := "(I)J" } : Jvm.MethodName)) ∈ lw_gd := tb_0 (i := 61) rfl rfl
theorem wd_62 : (Jvm.Cond.selects "GluedHourModel" ({ cls := "GluedHourModel", name := "gainOf", desc := "(II)J" } : Jvm.MethodName) ({ cls := "GluedHourModel", name := "gainOf", desc := "(II)J" } : Jvm.MethodName)) ∈ lw_gd := tb_0 (i := 62) rfl rfl
theorem wd_63 : (Jvm.Cond.selects "GluedHourModel" ({ cls := "GluedHourModel", name := "choice", desc := "()I" } : Jvm.MethodName) ({ cls := "GluedHourModel", name := "choice", desc := "()I" } : Jvm.MethodName)) ∈ lw_gd := tb_0 (i := 63) rfl rfl
theorem wd_64 : (Jvm.Cond.selects "GluedHourModel" ({ cls := "GluedHourModel", name := "wishOf", desc := "(I)I" } : Jvm.MethodName) ({ cls := "GluedHourModel", name := "wishOf", desc := "(I)I" } : Jvm.MethodName)) ∈ lw_gd := tb_0 (i := 64) rfl rfl
theorem wd_65 : (Jvm.Cond.selects "GluedHourModel" ({ cls := "GluedHourModel", name := "swapDeed", desc := "(III)V" } : Jvm.MethodName) ({ cls := "GluedHourModel", name := "swapDeed", desc := "(III)V" } : Jvm.MethodName)) ∈ lw_gd := tb_0 (i := 65) rfl rfl
theorem wd_66 : (Jvm.Cond.selects "GluedHourModel" ({ cls := "GluedHourModel", name := "apart", desc := "(II)I" } : Jvm.MethodName) ({ cls := "GluedHourModel", name := "apart", desc := "(II)I" } : Jvm.MethodName)) ∈ lw_gd := tb_0 (i := 66) rfl rfl
theorem wd_67 : (Jvm.Cond.selects "GluedHourModel" ({ cls := "GluedHourModel", name := "hasErrands", desc := "(I)Z" } : Jvm.MethodName) ({ cls := "GluedHourModel", name := "hasErrands", desc := "(I)Z" } : Jvm.MethodName)) ∈ lw_gd := tb_0 (i := 67) rfl rfl
theorem wd_68 : (Jvm.Cond.selects "GluedHourModel" ({ cls := "GluedHourModel", name := "errandOf", desc := "(II)I" } : Jvm.MethodName) ({ cls := "GluedHourModel", name := "errandOf", desc := "(II)I" } : Jvm.MethodName)) ∈ lw_gd := tb_0 (i := 68) rfl rfl
theorem wd_69 : (Jvm.Cond.selects "GluedHourModel" ({ cls := "GluedHourModel", name := "findBest", desc := "(I)J" } : Jvm.MethodName) ({ cls := "GluedHourModel", name := "findBest", desc := "(I)J" } : Jvm.MethodName)) ∈ lw_gd := tb_0 (i := 69) rfl rfl
theorem wd_70 : (Jvm.Cond.selects "GluedHourModel" ({ cls := "GluedHourModel", name := "bestFrom", desc := "(III)J" } : Jvm.MethodName) ({ cls := "GluedHourModel", name := "bestFrom", desc := "(III)J" } : Jvm.MethodName)) ∈ lw_gd := tb_0 (i := 70) rfl rfl
theorem wd_71 : (Jvm.Cond.selects "GluedHourModel" ({ cls := "GluedHourModel", name := "fromOf", desc := "(I)I" } : Jvm.MethodName) ({ cls := "GluedHourModel", name := "fromOf", desc := "(I)I" } : Jvm.MethodName)) ∈ lw_gd := tb_0 (i := 71) rfl rfl
theorem wd_72 : (Jvm.Cond.selects "GluedHourModel" ({ cls := "GluedHourModel", name := "toOf", desc := "(I)I" } : Jvm.MethodName) ({ cls := "GluedHourModel", name := "toOf", desc := "(I)I" } : Jvm.MethodName)) ∈ lw_gd := tb_0 (i := 72) rfl rfl
theorem wd_73 : (Jvm.Cond.selects "GluedHourModel" ({ cls := "GluedHourModel", name := "worthAt", desc := "(III)J" } : Jvm.MethodName) ({ cls := "GluedHourModel", name := "worthAt", desc := "(III)J" } : Jvm.MethodName)) ∈ lw_gd := tb_0 (i := 73) rfl rfl
theorem wd_74 : (Jvm.Cond.selects "GluedHourModel" ({ cls := "GluedHourModel", name := "choose", desc := "(I)V" } : Jvm.MethodName) ({ cls := "GluedHourModel", name := "choose", desc := "(I)V" } : Jvm.MethodName)) ∈ lw_gd := tb_0 (i := 74) rfl rfl
theorem wd_75 : (Jvm.Cond.selects "GluedHourModel" ({ cls := "GluedHourModel", name := "rued", desc := "()I" } : Jvm.MethodName) ({ cls := "GluedHourModel", name := "rued", desc := "()I" } : Jvm.MethodName)) ∈ lw_gd := tb_0 (i := 75) rfl rfl
theorem wd_76 : (Jvm.Cond.selects "GluedHourModel" ({ cls := "GluedHourModel", name := "chosenBy", desc := "(I)J" } : Jvm.MethodName) ({ cls := "GluedHourModel", name := "chosenBy", desc := "(I)J" } : Jvm.MethodName)) ∈ lw_gd := tb_0 (i := 76) rfl rfl
theorem wd_77 : (Jvm.Cond.selects "GluedHourModel" ({ cls := "GluedHourModel", name := "hasTable", desc := "(I)Z" } : Jvm.MethodName) ({ cls := "GluedHourModel", name := "hasTable", desc := "(I)Z" } : Jvm.MethodName)) ∈ lw_gd := tb_0 (i := 77) rfl rfl
theorem wd_78 : (Jvm.Cond.selects "GluedHourModel" ({ cls := "GluedHourModel", name := "trains", desc := "()I" } : Jvm.MethodName) ({ cls := "GluedHourModel", name := "trains", desc := "()I" } : Jvm.MethodName)) ∈ lw_gd := tb_0 (i := 78) rfl rfl
theorem wd_79 : (Jvm.Cond.selects "GluedHourModel" ({ cls := "GluedHourModel", name := "trainOf", desc := "(II)I" } : Jvm.MethodName) ({ cls := "GluedHourModel", name := "trainOf", desc := "(II)I" } : Jvm.MethodName)) ∈ lw_gd := tb_0 (i := 79) rfl rfl
theorem wd_80 : (Jvm.Cond.selects "GluedHourModel" ({ cls := "GluedHourModel", name := "slackBy", desc := "(I)I" } : Jvm.MethodName) ({ cls := "GluedHourModel", name := "slackBy", desc := "(I)I" } : Jvm.MethodName)) ∈ lw_gd := tb_0 (i := 80) rfl rfl
theorem wd_81 : (Jvm.Cond.selects "GluedHourModel" ({ cls := "GluedHourModel", name := "findEarliest", desc := "()V" } : Jvm.MethodName) ({ cls := "GluedHourModel", name := "findEarliest", desc := "()V" } : Jvm.MethodName)) ∈ lw_gd := tb_0 (i := 81) rfl rfl
theorem wd_82 : (Jvm.Cond.selects "GluedHourModel" ({ cls := "GluedHourModel", name := "canLeave", desc := "(III)Z" } : Jvm.MethodName) ({ cls := "GluedHourModel", name := "canLeave", desc := "(III)Z" } : Jvm.MethodName)) ∈ lw_gd := tb_0 (i := 82) rfl rfl
theorem wd_83 : (Jvm.Cond.selects "GluedHourModel" ({ cls := "GluedHourModel", name := "hasSights", desc := "(I)Z" } : Jvm.MethodName) ({ cls := "GluedHourModel", name := "hasSights", desc := "(I)Z" } : Jvm.MethodName)) ∈ lw_gd := tb_0 (i := 83) rfl rfl
theorem wd_84 : (Jvm.Cond.selects "GluedHourModel" ({ cls := "GluedHourModel", name := "sightOf", desc := "(II)I" } : Jvm.MethodName) ({ cls := "GluedHourModel", name := "sightOf", desc := "(II)I" } : Jvm.MethodName)) ∈ lw_gd := tb_0 (i := 84) rfl rfl
theorem wd_85 : (Jvm.Cond.selects "GluedHourModel" ({ cls := "GluedHourModel", name := "findFits", desc := "()V" } : Jvm.MethodName) ({ cls := "GluedHourModel", name := "findFits", desc := "()V" } : Jvm.MethodName)) ∈ lw_gd := tb_0 (i := 85) rfl rfl
theorem wd_86 : (Jvm.Cond.selects "GluedHourModel" ({ cls := "GluedHourModel", name := "isRow", desc := "(I)Z" } : Jvm.MethodName) ({ cls := "GluedHourModel", name := "isRow", desc := "(I)Z" } : Jvm.MethodName)) ∈ lw_gd := tb_0 (i := 86) rfl rfl
theorem wd_87 : (Jvm.Cond.selects "GluedHourModel" ({ cls := "GluedHourModel", name := "isAsSeen", desc := "(I)Z" } : Jvm.MethodName) ({ cls := "GluedHourModel", name := "isAsSeen", desc := "(I)Z" } : Jvm.MethodName)) ∈ lw_gd := tb_0 (i := 87) rfl rfl
theorem wd_88 : (Jvm.Cond.selects "GluedHourModel" ({ cls := "GluedHourModel", name := "onlyOne", desc := "(I)I" } : Jvm.MethodName) ({ cls := "GluedHourModel", name := "onlyOne", desc := "(I)I" } : Jvm.MethodName)) ∈ lw_gd := tb_0 (i := 88) rfl rfl
theorem wd_89 : (Jvm.Cond.selects "GluedHourModel" ({ cls := "GluedHourModel", name := "reignDays", desc := "(I)I" } : Jvm.MethodName) ({ cls := "GluedHourModel", name := "reignDays", desc := "(I)I" } : Jvm.MethodName)) ∈ lw_gd := tb_0 (i := 89) rfl rfl
theorem wd_90 : (Jvm.Cond.selects "GluedHourModel" ({ cls := "GluedHourModel", name := "expect", desc := "(IIZ)V" } : Jvm.MethodName) ({ cls := "GluedHourModel", name := "expect", desc := "(IIZ)V" } : Jvm.MethodName)) ∈ lw_gd := tb_0 (i := 90) rfl rfl
theorem wd_91 : (Jvm.Cond.selects "GluedHourModel" ({ cls := "GluedHourModel", name := "begin", desc := "()V" } : Jvm.MethodName) ({ cls := "GluedHourModel", name := "begin", desc := "()V" } : Jvm.MethodName)) ∈ lw_gd := tb_0 (i := 91) rfl rfl
theorem wd_92 : (Jvm.Cond.selects "GluedHourModel" ({ cls := "GluedHourModel", name := "plus", desc := "(JJ)V" } : Jvm.MethodName) ({ cls := "GluedHourModel", name := "plus", desc := "(JJ)V" } : Jvm.MethodName)) ∈ lw_gd := tb_0 (i := 92) rfl rfl
theorem wd_93 : (Jvm.Cond.selects "GluedHourModel" ({ cls := "GluedHourModel", name := "allMeans", desc := "()J" } : Jvm.MethodName) ({ cls := "GluedHourModel", name := "allMeans", desc := "()J" } : Jvm.MethodName)) ∈ lw_gd := tb_0 (i := 93) rfl rfl
theorem wd_94 : (Jvm.Cond.selects "GluedHourModel" ({ cls := "GluedHourModel", name := "copyAll", desc := "(II)V" } : Jvm.MethodName) ({ cls := "GluedHourModel", name := "copyAll", desc := "(II)V" } : Jvm.MethodName)) ∈ lw_gd := tb_0 (i := 94) rfl rfl
theorem wd_96 : (Jvm.Cond.initialized "GluedHour") ∈ lw_gd := tb_1 (i := 1) rfl rfl
theorem wd_97 : (Jvm.Cond.initialized "GluedHour$Told") ∈ lw_gd := tb_1 (i := 2) rfl rfl
theorem wd_98 : (Jvm.Cond.initialized "GluedHour$Republic") ∈ lw_gd := tb_1 (i := 3) rfl rfl
theorem wd_99 : (Jvm.Cond.initialized "GluedHour$Lines") ∈ lw_gd := tb_1 (i := 4) rfl rfl
theorem wd_100 : (Jvm.Cond.initialized "GluedHour$Reader") ∈ lw_gd := tb_1 (i := 5) rfl rfl
theorem wd_101 : (Jvm.Cond.initialized "GluedHour$Course") ∈ lw_gd := tb_1 (i := 6) rfl rfl
theorem wd_102 : (Jvm.Cond.initialized "GluedHour$Odds") ∈ lw_gd := tb_1 (i := 7) rfl rfl
theorem wd_103 : (Jvm.Cond.initialized "GluedHour$Planner") ∈ lw_gd := tb_1 (i := 8) rfl rfl
theorem wd_104 : (Jvm.Cond.initialized "GluedHour$Search") ∈ lw_gd := tb_1 (i := 9) rfl rfl
theorem wd_105 : (Jvm.Cond.initialized "GluedHour$Fraction") ∈ lw_gd := tb_1 (i := 10) rfl rfl
theorem wd_106 : (Jvm.Cond.initialized "GluedHourModel") ∈ lw_gd := tb_1 (i := 11) rfl rfl
theorem wd_107 : (Jvm.Cond.initialized "java/lang/Math") ∈ lw_gd := tb_1 (i := 12) rfl rfl
theorem wd_108 : (Jvm.Cond.initialized "java/lang/String") ∈ lw_gd := tb_1 (i := 13) rfl rfl
theorem wd_109 : (Jvm.Cond.initialized "java/lang/StringLatin1") ∈ lw_gd := tb_1 (i := 14) rfl rfl
theorem wd_111 : (Jvm.Cond.initialized "java/lang/StringUTF16") ∈ lw_gd := tb_1 (i := 16) rfl rfl
theorem wd_112 : (Jvm.Cond.initialized "java/lang/System") ∈ lw_gd := tb_1 (i := 17) rfl rfl
theorem wd_113 : (Jvm.Cond.classLink "GluedHourLaw" (7 : Nat) "GluedHour") ∈ lw_gd := tb_1 (i := 18) rfl rfl
theorem wd_114 : (Jvm.Cond.instantiable "GluedHour" (9 : Nat)) ∈ lw_gd := tb_1 (i := 19) rfl rfl
theorem wd_115 : (Jvm.Cond.methodLink "GluedHourLaw" (9 : Nat) ({ cls := "GluedHour", name := "<init>", desc := "()V" } : Jvm.MethodName)) ∈ lw_gd := tb_1 (i := 20) rfl rfl
theorem wd_116 : (Jvm.Cond.instanceMethod ({ cls := "GluedHour", name := "<init>", desc := "()V" } : Jvm.MethodName)) ∈ lw_gd := tb_1 (i := 21) rfl rfl
theorem wd_117 : (Jvm.Cond.code ({ cls := "GluedHour", name := "<init>", desc := "()V" } : Jvm.MethodName) prog_1_method_1_code (1 : Nat) (Option.none : Option Jvm.ClassFile.FieldType)) ∈ lw_gd := tb_1 (i := 22) rfl rfl
theorem wd_118 : (Jvm.Cond.methodLink "GluedHour" (1 : Nat) ({ cls := "java/lang/Object", name := "<init>", desc := "()V" } : Jvm.MethodName)) ∈ lw_gd := tb_1 (i := 23) rfl rfl
theorem wd_119 : (Jvm.Cond.instanceMethod ({ cls := "java/lang/Object", name := "<init>", desc := "()V" } : Jvm.MethodName)) ∈ lw_gd := tb_1 (i := 24) rfl rfl
theorem wd_120 : (Jvm.Cond.code ({ cls := "java/lang/Object", name := "<init>", desc := "()V" } : Jvm.MethodName) object_method_1_code (1 : Nat) (Option.none : Option Jvm.ClassFile.FieldType)) ∈ lw_gd := tb_1 (i := 25) rfl rfl
theorem wd_121 : (Jvm.Cond.classLink "GluedHour" (7 : Nat) "GluedHour$Told") ∈ lw_gd := tb_1 (i := 26) rfl rfl
theorem wd_122 : (Jvm.Cond.instantiable "GluedHour$Told" (7 : Nat)) ∈ lw_gd := tb_1 (i := 27) rfl rfl
theorem wd_123 : (Jvm.Cond.methodLink "GluedHour" (9 : Nat) ({ cls := "GluedHour$Told", name := "<init>", desc := "()V" } : Jvm.MethodName)) ∈ lw_gd := tb_1 (i := 28) rfl rfl
theorem wd_124 : (Jvm.Cond.instanceMethod ({ cls := "GluedHour$Told", name := "<init>", desc := "()V" } : Jvm.MethodName)) ∈ lw_gd := tb_1 (i := 29) rfl rfl
theorem wd_125 : (Jvm.Cond.code ({ cls := "GluedHour$Told", name := "<init>", desc := "()V" } : Jvm.MethodName) prog_10_method_1_code (3 : Nat) (Option.none : Option Jvm.ClassFile.FieldType)) ∈ lw_gd := tb_1 (i := 30) rfl rfl
theorem wd_126 : (Jvm.Cond.methodLink "GluedHour$Told" (3 : Nat) ({ cls := "java/lang/Object", name := "<init>", desc := "()V" } : Jvm.MethodName)) ∈ lw_gd := tb_1 (i := 31) rfl rfl
theorem wd_127 : (Jvm.Cond.classLink "GluedHour$Told" (19 : Nat) "GluedHour$Republic") ∈ lw_gd := tb_1 (i := 32) rfl rfl
theorem wd_129 : (Jvm.Cond.classLink "GluedHour$Told" (25 : Nat) "GluedHour$Lines") ∈ lw_gd := tb_1 (i := 34) rfl rfl
theorem wd_131 : (Jvm.Cond.instantiable "GluedHour$Republic" (7 : Nat)) ∈ lw_gd := tb_1 (i := 36) rfl rfl
theorem wd_132 : (Jvm.Cond.methodLink "GluedHour$Told" (41 : Nat) ({ cls := "GluedHour$Republic", name := "<init>", desc := "()V" } : Jvm.MethodName)) ∈ lw_gd := tb_1 (i := 37) rfl rfl
theorem wd_133 : (Jvm.Cond.instanceMethod ({ cls := "GluedHour$Republic", name := "<init>", desc := "()V" } : Jvm.MethodName)) ∈ lw_gd := tb_1 (i := 38) rfl rfl
theorem wd_134 : (Jvm.Cond.code ({ cls := "GluedHour$Republic", name := "<init>", desc := "()V" } : Jvm.MethodName) prog_8_method_1_code (1 : Nat) (Option.none : Option Jvm.ClassFile.FieldType)) ∈ lw_gd := tb_1 (i := 39) rfl rfl
theorem wd_135 : (Jvm.Cond.methodLink "GluedHour$Republic" (3 : Nat) ({ cls := "java/lang/Object", name := "<init>", desc := "()V" } : Jvm.MethodName)) ∈ lw_gd := tb_1 (i := 40) rfl rfl
theorem wd_136 : (Jvm.Cond.methodLink "GluedHour$Republic" (27 : Nat) ({ cls := "GluedHour$Republic", name := "clear", desc := "()V" } : Jvm.MethodName)) ∈ lw_gd := tb_1 (i := 41) rfl rfl
theorem wd_137 : (Jvm.Cond.instanceMethod ({ cls := "GluedHour$Republic", name := "clear", desc := "()V" } : Jvm.MethodName)) ∈ lw_gd := tb_1 (i := 42) rfl rfl
theorem wd_138 : (Jvm.Cond.selects "GluedHour$Republic" ({ cls := "GluedHour$Republic", name := "clear", desc := "()V" } : Jvm.MethodName) ({ cls := "GluedHour$Republic", name := "clear", desc := "()V" } : Jvm.MethodName)) ∈ lw_gd := tb_1 (i := 43) rfl rfl
theorem wd_139 : (Jvm.Cond.code ({ cls := "GluedHour$Republic", name := "clear", desc := "()V" } : Jvm.MethodName) prog_8_method_2_code (2 : Nat) (Option.none : Option Jvm.ClassFile.FieldType)) ∈ lw_gd := tb_1 (i := 44) rfl rfl
theorem wd_140 : (Jvm.Cond.fieldLink "GluedHour$Republic" (9 : Nat) "GluedHour$Republic" "worths" "[I") ∈ lw_gd := tb_1 (i := 45) rfl rfl
theorem wd_141 : (Jvm.Cond.fieldLink "GluedHour$Reader" (147 : Nat) "GluedHour$Republic" "worths" "[I") ∈ lw_gd := tb_1 (i := 46) rfl rfl
theorem wd_142 : (Jvm.Cond.fieldLink "GluedHour$Republic" (15 : Nat) "GluedHour$Republic" "modes" "[I") ∈ lw_gd := tb_1 (i := 47) rfl rfl
theorem wd_143 : (Jvm.Cond.fieldLink "GluedHour$Reader" (150 : Nat) "GluedHour$Republic" "modes" "[I") ∈ lw_gd := tb_1 (i := 48) rfl rfl
theorem wd_144 : (Jvm.Cond.fieldLink "GluedHour$Republic" (18 : Nat) "GluedHour$Republic" "purses" "[I") ∈ lw_gd := tb_1 (i := 49) rfl rfl
theorem wd_145 : (Jvm.Cond.fieldLink "GluedHour$Course" (29 : Nat) "GluedHour$Republic" "purses" "[I") ∈ lw_gd := tb_1 (i := 50) rfl rfl
theorem wd_146 : (Jvm.Cond.fieldLink "GluedHour" (129 : Nat) "GluedHour$Republic" "purses" "[I") ∈ lw_gd := tb_1 (i := 51) rfl rfl
theorem wd_147 : (Jvm.Cond.fieldLink "GluedHour$Reader" (153 : Nat) "GluedHour$Republic" "purses" "[I") ∈ lw_gd := tb_1 (i := 52) rfl rfl
theorem wd_148 : (Jvm.Cond.fieldLink "GluedHour$Republic" (21 : Nat) "GluedHour$Republic" "deeds" "[I") ∈ lw_gd := tb_1 (i := 53) rfl rfl
theorem wd_149 : (Jvm.Cond.fieldLink "GluedHour$Reader" (156 : Nat) "GluedHour$Republic" "deeds" "[I") ∈ lw_gd := tb_1 (i := 54) rfl rfl
theorem wd_150 : (Jvm.Cond.fieldLink "GluedHour$Republic" (24 : Nat) "GluedHour$Republic" "lots" "[I") ∈ lw_gd := tb_1 (i := 55) rfl rfl
theorem wd_151 : (Jvm.Cond.fieldLink "GluedHour$Reader" (159 : Nat) "GluedHour$Republic" "lots" "[I") ∈ lw_gd := tb_1 (i := 56) rfl rfl
theorem wd_152 : (Jvm.Cond.fieldLink "GluedHour$Odds" (22 : Nat) "GluedHour$Republic" "hours" "I") ∈ lw_gd := tb_1 (i := 57) rfl rfl
theorem wd_153 : (Jvm.Cond.fieldLink "GluedHour$Republic" (30 : Nat) "GluedHour$Republic" "hours" "I") ∈ lw_gd := tb_1 (i := 58) rfl rfl
theorem wd_154 : (Jvm.Cond.fieldLink "GluedHour$Course" (28 : Nat) "GluedHour$Republic" "hours" "I") ∈ lw_gd := tb_1 (i := 59) rfl rfl
theorem wd_155 : (Jvm.Cond.fieldLink "GluedHour$Reader" (77 : Nat) "GluedHour$Republic" "hours" "I") ∈ lw_gd := tb_1 (i := 60) rfl rfl
theorem wd_156 : (Jvm.Cond.fieldLink "GluedHour$Planner" (56 : Nat) "GluedHour$Republic" "hours" "I") ∈ lw_gd := tb_1 (i := 61) rfl rfl
theorem wd_157 : (Jvm.Cond.fieldLink "GluedHour$Search" (66 : Nat) "GluedHour$Republic" "hours" "I") ∈ lw_gd := tb_1 (i := 62) rfl rfl
theorem wd_158 : (Jvm.Cond.fieldLink "GluedHour" (112 : Nat) "GluedHour$Republic" "hours" "I") ∈ lw_gd := tb_1 (i := 63) rfl rfl
theorem wd_159 : (Jvm.Cond.fieldLink "GluedHour$Course" (25 : Nat) "GluedHour$Republic" "people" "I") ∈ lw_gd := tb_1 (i := 64) rfl rfl
theorem wd_160 : (Jvm.Cond.fieldLink "GluedHour$Republic" (34 : Nat) "GluedHour$Republic" "people" "I") ∈ lw_gd := tb_1 (i := 65) rfl rfl
theorem wd_161 : (Jvm.Cond.fieldLink "GluedHour$Reader" (80 : Nat) "GluedHour$Republic" "people" "I") ∈ lw_gd := tb_1 (i := 66) rfl rfl
theorem wd_162 : (Jvm.Cond.fieldLink "GluedHour" (115 : Nat) "GluedHour$Republic" "people" "I") ∈ lw_gd := tb_1 (i := 67) rfl rfl
theorem wd_178 : (Jvm.Cond.arrayClass Jvm.ClassFile.FieldType.byte) ∈ lw_gd := tb_1 (i := 83) rfl rfl
theorem wd_179 : (Jvm.Cond.arrayClass Jvm.ClassFile.FieldType.int) ∈ lw_gd := tb_1 (i := 84) rfl rfl
theorem wd_180 : (Jvm.Cond.instantiable "GluedHour$Lines" (4 : Nat)) ∈ lw_gd := tb_1 (i := 85) rfl rfl
theorem wd_181 : (Jvm.Cond.methodLink "GluedHour$Told" (42 : Nat) ({ cls := "GluedHour$Lines", name := "<init>", desc := "(I)V" } : Jvm.MethodName)) ∈ lw_gd := tb_1 (i := 86) rfl rfl
theorem wd_182 : (Jvm.Cond.instanceMethod ({ cls := "GluedHour$Lines", name := "<init>", desc := "(I)V" } : Jvm.MethodName)) ∈ lw_gd := tb_1 (i := 87) rfl rfl
theorem wd_183 : (Jvm.Cond.code ({ cls := "GluedHour$Lines", name := "<init>", desc := "(I)V" } : Jvm.MethodName) prog_4_method_1_code (3 : Nat) (Option.none : Option Jvm.ClassFile.FieldType)) ∈ lw_gd := tb_1 (i := 88) rfl rfl
theorem wd_184 : (Jvm.Cond.methodLink "GluedHour$Lines" (3 : Nat) ({ cls := "java/lang/Object", name := "<init>", desc := "()V" } : Jvm.MethodName)) ∈ lw_gd := tb_1 (i := 89) rfl rfl
theorem wd_189 : (Jvm.Cond.fieldLink "GluedHour$Lines" (19 : Nat) "GluedHour$Lines" "most" "I") ∈ lw_gd := tb_1 (i := 94) rfl rfl
theorem wd_190 : (Jvm.Cond.fieldLink "GluedHour$Lines" (25 : Nat) "GluedHour$Lines" "width" "I") ∈ lw_gd := tb_1 (i := 95) rfl rfl
theorem wd_191 : (Jvm.Cond.fieldLink "GluedHour$Told" (56 : Nat) "GluedHour$Lines" "width" "I") ∈ lw_gd := tb_1 (i := 96) rfl rfl
theorem wd_192 : (Jvm.Cond.fieldLink "GluedHour$Lines" (28 : Nat) "GluedHour$Lines" "cells" "[I") ∈ lw_gd := tb_1 (i := 97) rfl rfl
theorem wd_193 : (Jvm.Cond.fieldLink "GluedHour$Lines" (9 : Nat) "GluedHour$Lines" "size" "I") ∈ lw_gd := tb_1 (i := 98) rfl rfl
theorem wd_194 : (Jvm.Cond.fieldLink "GluedHour$Search" (32 : Nat) "GluedHour$Lines" "size" "I") ∈ lw_gd := tb_1 (i := 99) rfl rfl
theorem wd_195 : (Jvm.Cond.fieldLink "GluedHour$Reader" (102 : Nat) "GluedHour$Lines" "size" "I") ∈ lw_gd := tb_1 (i := 100) rfl rfl
theorem wd_196 : (Jvm.Cond.fieldLink "GluedHour$Planner" (72 : Nat) "GluedHour$Lines" "size" "I") ∈ lw_gd := tb_1 (i := 101) rfl rfl
theorem wd_197 : (Jvm.Cond.fieldLink "GluedHour$Told" (49 : Nat) "GluedHour$Lines" "size" "I") ∈ lw_gd := tb_1 (i := 102) rfl rfl
theorem wd_198 : (Jvm.Cond.fieldLink "GluedHour" (163 : Nat) "GluedHour$Lines" "size" "I") ∈ lw_gd := tb_1 (i := 103) rfl rfl
theorem wd_208 : (Jvm.Cond.fieldLink "GluedHour$Told" (9 : Nat) "GluedHour$Told" "tape" "[B") ∈ lw_gd := tb_1 (i := 113) rfl rfl
theorem wd_209 : (Jvm.Cond.fieldLink "GluedHour" (22 : Nat) "GluedHour$Told" "tape" "[B") ∈ lw_gd := tb_1 (i := 114) rfl rfl
theorem wd_210 : (Jvm.Cond.fieldLink "GluedHour$Told" (15 : Nat) "GluedHour$Told" "sizes" "[I") ∈ lw_gd := tb_1 (i := 115) rfl rfl
theorem wd_211 : (Jvm.Cond.fieldLink "GluedHour" (85 : Nat) "GluedHour$Told" "sizes" "[I") ∈ lw_gd := tb_1 (i := 116) rfl rfl
theorem wd_212 : (Jvm.Cond.fieldLink "GluedHour$Told" (21 : Nat) "GluedHour$Told" "republics" "[LGluedHour$Republic;") ∈ lw_gd := tb_1 (i := 117) rfl rfl
theorem wd_213 : (Jvm.Cond.fieldLink "GluedHour$Told" (27 : Nat) "GluedHour$Told" "lines" "[LGluedHour$Lines;") ∈ lw_gd := tb_1 (i := 118) rfl rfl
theorem wd_214 : (Jvm.Cond.fieldLink "GluedHour$Told" (31 : Nat) "GluedHour$Told" "length" "I") ∈ lw_gd := tb_1 (i := 119) rfl rfl
theorem wd_215 : (Jvm.Cond.fieldLink "GluedHour" (71 : Nat) "GluedHour$Told" "length" "I") ∈ lw_gd := tb_1 (i := 120) rfl rfl
theorem wd_216 : (Jvm.Cond.fieldLink "GluedHour$Told" (35 : Nat) "GluedHour$Told" "fault" "I") ∈ lw_gd := tb_1 (i := 121) rfl rfl
theorem wd_217 : (Jvm.Cond.fieldLink "GluedHour" (79 : Nat) "GluedHour$Told" "fault" "I") ∈ lw_gd := tb_1 (i := 122) rfl rfl
theorem wd_218 : (Jvm.Cond.fieldLink "GluedHour$Told" (38 : Nat) "GluedHour$Told" "place" "I") ∈ lw_gd := tb_1 (i := 123) rfl rfl
theorem wd_219 : (Jvm.Cond.fieldLink "GluedHour" (82 : Nat) "GluedHour$Told" "place" "I") ∈ lw_gd := tb_1 (i := 124) rfl rfl
theorem wd_236 : (Jvm.Cond.classLink "GluedHour" (20 : Nat) "GluedHour$Reader") ∈ lw_gd := tb_1 (i := 141) rfl rfl
theorem wd_237 : (Jvm.Cond.instantiable "GluedHour$Reader" (14 : Nat)) ∈ lw_gd := tb_1 (i := 142) rfl rfl
theorem wd_238 : (Jvm.Cond.methodLink "GluedHour" (26 : Nat) ({ cls := "GluedHour$Reader", name := "<init>", desc := "([B)V" } : Jvm.MethodName)) ∈ lw_gd := tb_1 (i := 143) rfl rfl
theorem wd_239 : (Jvm.Cond.instanceMethod ({ cls := "GluedHour$Reader", name := "<init>", desc := "([B)V" } : Jvm.MethodName)) ∈ lw_gd := tb_1 (i := 144) rfl rfl
theorem wd_240 : (Jvm.Cond.code ({ cls := "GluedHour$Reader", name := "<init>", desc := "([B)V" } : Jvm.MethodName) prog_7_method_1_code (3 : Nat) (Option.none : Option Jvm.ClassFile.FieldType)) ∈ lw_gd := tb_1 (i := 145) rfl rfl
theorem wd_241 : (Jvm.Cond.methodLink "GluedHour$Reader" (3 : Nat) ({ cls := "java/lang/Object", name := "<init>", desc := "()V" } : Jvm.MethodName)) ∈ lw_gd := tb_1 (i := 146) rfl rfl
theorem wd_242 : (Jvm.Cond.classLink "GluedHour$Reader" (9 : Nat) "GluedHour$Republic") ∈ lw_gd := tb_1 (i := 147) rfl rfl
theorem wd_243 : (Jvm.Cond.methodLink "GluedHour$Reader" (11 : Nat) ({ cls := "GluedHour$Republic", name := "<init>", desc := "()V" } : Jvm.MethodName)) ∈ lw_gd := tb_1 (i := 148) rfl rfl
theorem wd_244 : (Jvm.Cond.classLink "GluedHour$Reader" (18 : Nat) "GluedHour$Lines") ∈ lw_gd := tb_1 (i := 149) rfl rfl
theorem wd_245 : (Jvm.Cond.methodLink "GluedHour$Reader" (63 : Nat) ({ cls := "GluedHour$Lines", name := "<init>", desc := "(I)V" } : Jvm.MethodName)) ∈ lw_gd := tb_1 (i := 150) rfl rfl
theorem wd_246 : (Jvm.Cond.fieldLink "GluedHour$Reader" (59 : Nat) "GluedHour$Reader" "tape" "[B") ∈ lw_gd := tb_1 (i := 151) rfl rfl
theorem wd_247 : (Jvm.Cond.fieldLink "GluedHour$Reader" (12 : Nat) "GluedHour$Reader" "republic" "LGluedHour$Republic;") ∈ lw_gd := tb_1 (i := 152) rfl rfl
theorem wd_248 : (Jvm.Cond.fieldLink "GluedHour$Told" (68 : Nat) "GluedHour$Reader" "republic" "LGluedHour$Republic;") ∈ lw_gd := tb_1 (i := 153) rfl rfl
theorem wd_249 : (Jvm.Cond.fieldLink "GluedHour$Reader" (20 : Nat) "GluedHour$Reader" "drafts" "[LGluedHour$Lines;") ∈ lw_gd := tb_1 (i := 154) rfl rfl
theorem wd_250 : (Jvm.Cond.fieldLink "GluedHour$Told" (78 : Nat) "GluedHour$Reader" "drafts" "[LGluedHour$Lines;") ∈ lw_gd := tb_1 (i := 155) rfl rfl
theorem wd_251 : (Jvm.Cond.fieldLink "GluedHour$Reader" (24 : Nat) "GluedHour$Reader" "numbers" "[I") ∈ lw_gd := tb_1 (i := 156) rfl rfl
theorem wd_252 : (Jvm.Cond.fieldLink "GluedHour$Reader" (28 : Nat) "GluedHour$Reader" "fault" "I") ∈ lw_gd := tb_1 (i := 157) rfl rfl
theorem wd_253 : (Jvm.Cond.fieldLink "GluedHour" (93 : Nat) "GluedHour$Reader" "fault" "I") ∈ lw_gd := tb_1 (i := 158) rfl rfl
theorem wd_254 : (Jvm.Cond.fieldLink "GluedHour$Reader" (32 : Nat) "GluedHour$Reader" "place" "I") ∈ lw_gd := tb_1 (i := 159) rfl rfl
theorem wd_255 : (Jvm.Cond.fieldLink "GluedHour" (94 : Nat) "GluedHour$Reader" "place" "I") ∈ lw_gd := tb_1 (i := 160) rfl rfl
theorem wd_256 : (Jvm.Cond.fieldLink "GluedHour$Reader" (35 : Nat) "GluedHour$Reader" "token" "I") ∈ lw_gd := tb_1 (i := 161) rfl rfl
theorem wd_257 : (Jvm.Cond.fieldLink "GluedHour$Reader" (38 : Nat) "GluedHour$Reader" "start" "I") ∈ lw_gd := tb_1 (i := 162) rfl rfl
theorem wd_258 : (Jvm.Cond.fieldLink "GluedHour$Reader" (41 : Nat) "GluedHour$Reader" "at" "I") ∈ lw_gd := tb_1 (i := 163) rfl rfl
theorem wd_259 : (Jvm.Cond.fieldLink "GluedHour$Reader" (44 : Nat) "GluedHour$Reader" "number" "I") ∈ lw_gd := tb_1 (i := 164) rfl rfl
theorem wd_260 : (Jvm.Cond.fieldLink "GluedHour$Reader" (47 : Nat) "GluedHour$Reader" "mode" "I") ∈ lw_gd := tb_1 (i := 165) rfl rfl
theorem wd_261 : (Jvm.Cond.fieldLink "GluedHour$Reader" (50 : Nat) "GluedHour$Reader" "length" "I") ∈ lw_gd := tb_1 (i := 166) rfl rfl
theorem wd_262 : (Jvm.Cond.fieldLink "GluedHour$Reader" (53 : Nat) "GluedHour$Reader" "lastHourTold" "I") ∈ lw_gd := tb_1 (i := 167) rfl rfl
theorem wd_263 : (Jvm.Cond.fieldLink "GluedHour$Reader" (56 : Nat) "GluedHour$Reader" "lastPersonTold" "I") ∈ lw_gd := tb_1 (i := 168) rfl rfl
theorem wd_293 : (Jvm.Cond.classLink "GluedHour" (33 : Nat) "GluedHour$Course") ∈ lw_gd := tb_1 (i := 198) rfl rfl
theorem wd_294 : (Jvm.Cond.instantiable "GluedHour$Course" (4 : Nat)) ∈ lw_gd := tb_1 (i := 199) rfl rfl
theorem wd_296 : (Jvm.Cond.instanceMethod ({ cls := "GluedHour$Course", name := "<init>", desc := "()V" } : Jvm.MethodName)) ∈ lw_gd := tb_1 (i := 201) rfl rfl
theorem wd_297 : (Jvm.Cond.code ({ cls := "GluedHour$Course", name := "<init>", desc := "()V" } : Jvm.MethodName) prog_2_method_1_code (1 : Nat) (Option.none : Option Jvm.ClassFile.FieldType)) ∈ lw_gd := tb_1 (i := 202) rfl rfl
theorem wd_298 : (Jvm.Cond.methodLink "GluedHour$Course" (3 : Nat) ({ cls := "java/lang/Object", name := "<init>", desc := "()V" } : Jvm.MethodName)) ∈ lw_gd := tb_1 (i := 203) rfl rfl
theorem wd_299 : (Jvm.Cond.fieldLink "GluedHour$Course" (9 : Nat) "GluedHour$Course" "have" "[I") ∈ lw_gd := tb_1 (i := 204) rfl rfl
theorem wd_300 : (Jvm.Cond.fieldLink "GluedHour$Search" (89 : Nat) "GluedHour$Course" "have" "[I") ∈ lw_gd := tb_1 (i := 205) rfl rfl
theorem wd_301 : (Jvm.Cond.fieldLink "GluedHour" (181 : Nat) "GluedHour$Course" "have" "[I") ∈ lw_gd := tb_1 (i := 206) rfl rfl
theorem wd_302 : (Jvm.Cond.fieldLink "GluedHour$Course" (15 : Nat) "GluedHour$Course" "values" "[I") ∈ lw_gd := tb_1 (i := 207) rfl rfl
theorem wd_303 : (Jvm.Cond.fieldLink "GluedHour$Course" (18 : Nat) "GluedHour$Course" "people" "I") ∈ lw_gd := tb_1 (i := 208) rfl rfl
theorem wd_304 : (Jvm.Cond.fieldLink "GluedHour$Course" (22 : Nat) "GluedHour$Course" "hours" "I") ∈ lw_gd := tb_1 (i := 209) rfl rfl
theorem wd_314 : (Jvm.Cond.classLink "GluedHour" (40 : Nat) "GluedHour$Odds") ∈ lw_gd := tb_1 (i := 219) rfl rfl
theorem wd_315 : (Jvm.Cond.instantiable "GluedHour$Odds" (3 : Nat)) ∈ lw_gd := tb_1 (i := 220) rfl rfl
theorem wd_317 : (Jvm.Cond.instanceMethod ({ cls := "GluedHour$Odds", name := "<init>", desc := "()V" } : Jvm.MethodName)) ∈ lw_gd := tb_1 (i := 222) rfl rfl
theorem wd_318 : (Jvm.Cond.code ({ cls := "GluedHour$Odds", name := "<init>", desc := "()V" } : Jvm.MethodName) prog_5_method_1_code (1 : Nat) (Option.none : Option Jvm.ClassFile.FieldType)) ∈ lw_gd := tb_1 (i := 223) rfl rfl
theorem wd_319 : (Jvm.Cond.methodLink "GluedHour$Odds" (3 : Nat) ({ cls := "java/lang/Object", name := "<init>", desc := "()V" } : Jvm.MethodName)) ∈ lw_gd := tb_1 (i := 224) rfl rfl
theorem wd_320 : (Jvm.Cond.fieldLink "GluedHour$Odds" (9 : Nat) "GluedHour$Odds" "weights" "[I") ∈ lw_gd := tb_1 (i := 225) rfl rfl
theorem wd_321 : (Jvm.Cond.fieldLink "GluedHour$Planner" (65 : Nat) "GluedHour$Odds" "weights" "[I") ∈ lw_gd := tb_1 (i := 226) rfl rfl
theorem wd_322 : (Jvm.Cond.fieldLink "GluedHour$Search" (71 : Nat) "GluedHour$Odds" "weights" "[I") ∈ lw_gd := tb_1 (i := 227) rfl rfl
theorem wd_323 : (Jvm.Cond.fieldLink "GluedHour$Course" (46 : Nat) "GluedHour$Odds" "weights" "[I") ∈ lw_gd := tb_1 (i := 228) rfl rfl
theorem wd_324 : (Jvm.Cond.fieldLink "GluedHour" (149 : Nat) "GluedHour$Odds" "weights" "[I") ∈ lw_gd := tb_1 (i := 229) rfl rfl
theorem wd_325 : (Jvm.Cond.fieldLink "GluedHour$Odds" (15 : Nat) "GluedHour$Odds" "hours" "I") ∈ lw_gd := tb_1 (i := 230) rfl rfl
theorem wd_326 : (Jvm.Cond.fieldLink "GluedHour$Odds" (19 : Nat) "GluedHour$Odds" "total" "I") ∈ lw_gd := tb_1 (i := 231) rfl rfl
theorem wd_327 : (Jvm.Cond.fieldLink "GluedHour$Planner" (107 : Nat) "GluedHour$Odds" "total" "I") ∈ lw_gd := tb_1 (i := 232) rfl rfl
theorem wd_328 : (Jvm.Cond.fieldLink "GluedHour" (152 : Nat) "GluedHour$Odds" "total" "I") ∈ lw_gd := tb_1 (i := 233) rfl rfl
theorem wd_336 : (Jvm.Cond.classLink "GluedHour" (50 : Nat) "GluedHour$Planner") ∈ lw_gd := tb_2 (i := 1) rfl rfl
theorem wd_337 : (Jvm.Cond.instantiable "GluedHour$Planner" (9 : Nat)) ∈ lw_gd := tb_2 (i := 2) rfl rfl
theorem wd_339 : (Jvm.Cond.instanceMethod ({ cls := "GluedHour$Planner", name := "<init>", desc := "()V" } : Jvm.MethodName)) ∈ lw_gd := tb_2 (i := 4) rfl rfl
theorem wd_340 : (Jvm.Cond.code ({ cls := "GluedHour$Planner", name := "<init>", desc := "()V" } : Jvm.MethodName) prog_6_method_1_code (1 : Nat) (Option.none : Option Jvm.ClassFile.FieldType)) ∈ lw_gd := tb_2 (i := 5) rfl rfl
theorem wd_341 : (Jvm.Cond.methodLink "GluedHour$Planner" (3 : Nat) ({ cls := "java/lang/Object", name := "<init>", desc := "()V" } : Jvm.MethodName)) ∈ lw_gd := tb_2 (i := 6) rfl rfl
theorem wd_342 : (Jvm.Cond.classLink "GluedHour$Planner" (39 : Nat) "GluedHour$Odds") ∈ lw_gd := tb_2 (i := 7) rfl rfl
theorem wd_344 : (Jvm.Cond.fieldLink "GluedHour$Planner" (9 : Nat) "GluedHour$Planner" "blind" "[I") ∈ lw_gd := tb_2 (i := 9) rfl rfl
theorem wd_345 : (Jvm.Cond.fieldLink "GluedHour" (228 : Nat) "GluedHour$Planner" "blind" "[I") ∈ lw_gd := tb_2 (i := 10) rfl rfl
theorem wd_346 : (Jvm.Cond.fieldLink "GluedHour$Planner" (15 : Nat) "GluedHour$Planner" "blindWorth" "J") ∈ lw_gd := tb_2 (i := 11) rfl rfl
theorem wd_347 : (Jvm.Cond.fieldLink "GluedHour" (231 : Nat) "GluedHour$Planner" "blindWorth" "J") ∈ lw_gd := tb_2 (i := 12) rfl rfl
theorem wd_348 : (Jvm.Cond.fieldLink "GluedHour$Planner" (19 : Nat) "GluedHour$Planner" "knowingWorth" "J") ∈ lw_gd := tb_2 (i := 13) rfl rfl
theorem wd_349 : (Jvm.Cond.fieldLink "GluedHour" (239 : Nat) "GluedHour$Planner" "knowingWorth" "J") ∈ lw_gd := tb_2 (i := 14) rfl rfl
theorem wd_350 : (Jvm.Cond.fieldLink "GluedHour$Planner" (22 : Nat) "GluedHour$Planner" "regret" "I") ∈ lw_gd := tb_2 (i := 15) rfl rfl
theorem wd_351 : (Jvm.Cond.fieldLink "GluedHour" (242 : Nat) "GluedHour$Planner" "regret" "I") ∈ lw_gd := tb_2 (i := 16) rfl rfl
theorem wd_352 : (Jvm.Cond.fieldLink "GluedHour$Planner" (26 : Nat) "GluedHour$Planner" "worth" "J") ∈ lw_gd := tb_2 (i := 17) rfl rfl
theorem wd_353 : (Jvm.Cond.fieldLink "GluedHour" (296 : Nat) "GluedHour$Planner" "worth" "J") ∈ lw_gd := tb_2 (i := 18) rfl rfl
theorem wd_354 : (Jvm.Cond.fieldLink "GluedHour$Planner" (29 : Nat) "GluedHour$Planner" "chosen" "[I") ∈ lw_gd := tb_2 (i := 19) rfl rfl
theorem wd_355 : (Jvm.Cond.fieldLink "GluedHour$Planner" (32 : Nat) "GluedHour$Planner" "best" "[J") ∈ lw_gd := tb_2 (i := 20) rfl rfl
theorem wd_356 : (Jvm.Cond.fieldLink "GluedHour$Planner" (36 : Nat) "GluedHour$Planner" "scores" "[J") ∈ lw_gd := tb_2 (i := 21) rfl rfl
theorem wd_357 : (Jvm.Cond.fieldLink "GluedHour$Planner" (42 : Nat) "GluedHour$Planner" "known" "LGluedHour$Odds;") ∈ lw_gd := tb_2 (i := 22) rfl rfl
theorem wd_377 : (Jvm.Cond.arrayClass Jvm.ClassFile.FieldType.long) ∈ lw_gd := tb_2 (i := 42) rfl rfl
theorem wd_378 : (Jvm.Cond.classLink "GluedHour" (57 : Nat) "GluedHour$Search") ∈ lw_gd := tb_2 (i := 43) rfl rfl
theorem wd_379 : (Jvm.Cond.instantiable "GluedHour$Search" (5 : Nat)) ∈ lw_gd := tb_2 (i := 44) rfl rfl
theorem wd_380 : (Jvm.Cond.methodLink "GluedHour" (59 : Nat) ({ cls := "GluedHour$Search", name := "<init>", desc := "()V" } : Jvm.MethodName)) ∈ lw_gd := tb_2 (i := 45) rfl rfl
theorem wd_381 : (Jvm.Cond.instanceMethod ({ cls := "GluedHour$Search", name := "<init>", desc := "()V" } : Jvm.MethodName)) ∈ lw_gd := tb_2 (i := 46) rfl rfl
theorem wd_382 : (Jvm.Cond.code ({ cls := "GluedHour$Search", name := "<init>", desc := "()V" } : Jvm.MethodName) prog_9_method_1_code (2 : Nat) (Option.none : Option Jvm.ClassFile.FieldType)) ∈ lw_gd := tb_2 (i := 47) rfl rfl
theorem wd_383 : (Jvm.Cond.methodLink "GluedHour$Search" (3 : Nat) ({ cls := "java/lang/Object", name := "<init>", desc := "()V" } : Jvm.MethodName)) ∈ lw_gd := tb_2 (i := 48) rfl rfl
theorem wd_384 : (Jvm.Cond.classLink "GluedHour$Search" (25 : Nat) "GluedHour$Odds") ∈ lw_gd := tb_2 (i := 49) rfl rfl
theorem wd_387 : (Jvm.Cond.fieldLink "GluedHour$Search" (9 : Nat) "GluedHour$Search" "maybe" "[I") ∈ lw_gd := tb_2 (i := 52) rfl rfl
theorem wd_388 : (Jvm.Cond.fieldLink "GluedHour" (275 : Nat) "GluedHour$Search" "maybe" "[I") ∈ lw_gd := tb_2 (i := 53) rfl rfl
theorem wd_389 : (Jvm.Cond.fieldLink "GluedHour$Search" (15 : Nat) "GluedHour$Search" "days" "I") ∈ lw_gd := tb_2 (i := 54) rfl rfl
theorem wd_390 : (Jvm.Cond.fieldLink "GluedHour" (269 : Nat) "GluedHour$Search" "days" "I") ∈ lw_gd := tb_2 (i := 55) rfl rfl
theorem wd_391 : (Jvm.Cond.fieldLink "GluedHour$Search" (19 : Nat) "GluedHour$Search" "rows" "I") ∈ lw_gd := tb_2 (i := 56) rfl rfl
theorem wd_392 : (Jvm.Cond.fieldLink "GluedHour" (266 : Nat) "GluedHour$Search" "rows" "I") ∈ lw_gd := tb_2 (i := 57) rfl rfl
theorem wd_393 : (Jvm.Cond.fieldLink "GluedHour$Search" (22 : Nat) "GluedHour$Search" "row" "[I") ∈ lw_gd := tb_2 (i := 58) rfl rfl
theorem wd_394 : (Jvm.Cond.fieldLink "GluedHour$Search" (27 : Nat) "GluedHour$Search" "odds" "[LGluedHour$Odds;") ∈ lw_gd := tb_2 (i := 59) rfl rfl
theorem wd_406 : (Jvm.Cond.classLink "GluedHour" (64 : Nat) "GluedHour$Fraction") ∈ lw_gd := tb_2 (i := 71) rfl rfl
theorem wd_407 : (Jvm.Cond.instantiable "GluedHour$Fraction" (2 : Nat)) ∈ lw_gd := tb_2 (i := 72) rfl rfl
theorem wd_409 : (Jvm.Cond.instanceMethod ({ cls := "GluedHour$Fraction", name := "<init>", desc := "()V" } : Jvm.MethodName)) ∈ lw_gd := tb_2 (i := 74) rfl rfl
theorem wd_410 : (Jvm.Cond.code ({ cls := "GluedHour$Fraction", name := "<init>", desc := "()V" } : Jvm.MethodName) prog_3_method_1_code (1 : Nat) (Option.none : Option Jvm.ClassFile.FieldType)) ∈ lw_gd := tb_2 (i := 75) rfl rfl
theorem wd_411 : (Jvm.Cond.methodLink "GluedHour$Fraction" (1 : Nat) ({ cls := "java/lang/Object", name := "<init>", desc := "()V" } : Jvm.MethodName)) ∈ lw_gd := tb_2 (i := 76) rfl rfl
theorem wd_412 : (Jvm.Cond.fieldLink "GluedHour$Fraction" (7 : Nat) "GluedHour$Fraction" "above" "J") ∈ lw_gd := tb_2 (i := 77) rfl rfl
theorem wd_413 : (Jvm.Cond.fieldLink "GluedHour$Fraction" (13 : Nat) "GluedHour$Fraction" "below" "J") ∈ lw_gd := tb_2 (i := 78) rfl rfl
theorem wd_419 : (Jvm.Cond.fieldLink "GluedHour" (10 : Nat) "GluedHour" "told" "LGluedHour$Told;") ∈ lw_gd := tb_2 (i := 84) rfl rfl
theorem wd_420 : (Jvm.Cond.fieldLink "GluedHour" (16 : Nat) "GluedHour" "images" "[LGluedHour$Told;") ∈ lw_gd := tb_2 (i := 85) rfl rfl
theorem wd_421 : (Jvm.Cond.fieldLink "GluedHour" (29 : Nat) "GluedHour" "reader" "LGluedHour$Reader;") ∈ lw_gd := tb_2 (i := 86) rfl rfl
theorem wd_422 : (Jvm.Cond.fieldLink "GluedHour" (36 : Nat) "GluedHour" "course" "LGluedHour$Course;") ∈ lw_gd := tb_2 (i := 87) rfl rfl
theorem wd_423 : (Jvm.Cond.fieldLink "GluedHour" (43 : Nat) "GluedHour" "today" "LGluedHour$Odds;") ∈ lw_gd := tb_2 (i := 88) rfl rfl
theorem wd_424 : (Jvm.Cond.fieldLink "GluedHour" (47 : Nat) "GluedHour" "tomorrow" "LGluedHour$Odds;") ∈ lw_gd := tb_2 (i := 89) rfl rfl
theorem wd_425 : (Jvm.Cond.fieldLink "GluedHour" (53 : Nat) "GluedHour" "planner" "LGluedHour$Planner;") ∈ lw_gd := tb_2 (i := 90) rfl rfl
theorem wd_426 : (Jvm.Cond.fieldLink "GluedHour" (60 : Nat) "GluedHour" "search" "LGluedHour$Search;") ∈ lw_gd := tb_2 (i := 91) rfl rfl
theorem wd_427 : (Jvm.Cond.fieldLink "GluedHour" (67 : Nat) "GluedHour" "sum" "LGluedHour$Fraction;") ∈ lw_gd := tb_2 (i := 92) rfl rfl
theorem wd_447 : (Jvm.Cond.methodLink "GluedHourLaw" (13 : Nat) ({ cls := "GluedHour", name := "feed", desc := "(IIIII)I" } : Jvm.MethodName)) ∈ lw_gd := tb_2 (i := 112) rfl rfl
theorem wd_448 : (Jvm.Cond.instanceMethod ({ cls := "GluedHour", name := "feed", desc := "(IIIII)I" } : Jvm.MethodName)) ∈ lw_gd := tb_2 (i := 113) rfl rfl
theorem wd_449 : (Jvm.Cond.selects "GluedHour" ({ cls := "GluedHour", name := "feed", desc := "(IIIII)I" } : Jvm.MethodName) ({ cls := "GluedHour", name := "feed", desc := "(IIIII)I" } : Jvm.MethodName)) ∈ lw_gd := tb_2 (i := 114) rfl rfl
theorem wd_450 : (Jvm.Cond.code ({ cls := "GluedHour", name := "feed", desc := "(IIIII)I" } : Jvm.MethodName) prog_1_method_2_code (6 : Nat) (Option.some Jvm.ClassFile.FieldType.int)) ∈ lw_gd := tb_2 (i := 115) rfl rfl
theorem wd_451 : (Jvm.Cond.methodLink "GluedHour" (75 : Nat) ({ cls := "GluedHour$Told", name := "append", desc := "(I)V" } : Jvm.MethodName)) ∈ lw_gd := tb_2 (i := 116) rfl rfl
theorem wd_452 : (Jvm.Cond.instanceMethod ({ cls := "GluedHour$Told", name := "append", desc := "(I)V" } : Jvm.MethodName)) ∈ lw_gd := tb_2 (i := 117) rfl rfl
theorem wd_453 : (Jvm.Cond.selects "GluedHour$Told" ({ cls := "GluedHour$Told", name := "append", desc := "(I)V" } : Jvm.MethodName) ({ cls := "GluedHour$Told", name := "append", desc := "(I)V" } : Jvm.MethodName)) ∈ lw_gd := tb_2 (i := 118) rfl rfl
theorem wd_454 : (Jvm.Cond.code ({ cls := "GluedHour$Told", name := "append", desc := "(I)V" } : Jvm.MethodName) prog_10_method_2_code (3 : Nat) (Option.none : Option Jvm.ClassFile.FieldType)) ∈ lw_gd := tb_2 (i := 119) rfl rfl
theorem wd_455 : (Jvm.Cond.methodLink "GluedHourLaw" (18 : Nat) ({ cls := "GluedHour", name := "end", desc := "(I)I" } : Jvm.MethodName)) ∈ lw_gd := tb_2 (i := 120) rfl rfl
theorem wd_456 : (Jvm.Cond.instanceMethod ({ cls := "GluedHour", name := "end", desc := "(I)I" } : Jvm.MethodName)) ∈ lw_gd := tb_2 (i := 121) rfl rfl
theorem wd_457 : (Jvm.Cond.selects "GluedHour" ({ cls := "GluedHour", name := "end", desc := "(I)I" } : Jvm.MethodName) ({ cls := "GluedHour", name := "end", desc := "(I)I" } : Jvm.MethodName)) ∈ lw_gd := tb_2 (i := 122) rfl rfl
theorem wd_458 : (Jvm.Cond.code ({ cls := "GluedHour", name := "end", desc := "(I)I" } : Jvm.MethodName) prog_1_method_3_code (2 : Nat) (Option.some Jvm.ClassFile.FieldType.int)) ∈ lw_gd := tb_2 (i := 123) rfl rfl
theorem wd_459 : (Jvm.Cond.methodLink "GluedHourLaw" (23 : Nat) ({ cls := "GluedHour", name := "text", desc := "(II)I" } : Jvm.MethodName)) ∈ lw_gd := tb_2 (i := 124) rfl rfl
theorem wd_460 : (Jvm.Cond.instanceMethod ({ cls := "GluedHour", name := "text", desc := "(II)I" } : Jvm.MethodName)) ∈ lw_gd := tb_2 (i := 125) rfl rfl
theorem wd_461 : (Jvm.Cond.selects "GluedHour" ({ cls := "GluedHour", name := "text", desc := "(II)I" } : Jvm.MethodName) ({ cls := "GluedHour", name := "text", desc := "(II)I" } : Jvm.MethodName)) ∈ lw_gd := tb_2 (i := 126) rfl rfl
theorem wd_462 : (Jvm.Cond.code ({ cls := "GluedHour", name := "text", desc := "(II)I" } : Jvm.MethodName) prog_1_method_4_code (7 : Nat) (Option.some Jvm.ClassFile.FieldType.int)) ∈ lw_gd := tb_2 (i := 127) rfl rfl
theorem wd_463 : (Jvm.Cond.methodLink "GluedHour" (89 : Nat) ({ cls := "GluedHour$Reader", name := "read", desc := "(II)V" } : Jvm.MethodName)) ∈ lw_gd := tb_2 (i := 128) rfl rfl
theorem wd_464 : (Jvm.Cond.instanceMethod ({ cls := "GluedHour$Reader", name := "read", desc := "(II)V" } : Jvm.MethodName)) ∈ lw_gd := tb_2 (i := 129) rfl rfl
theorem wd_465 : (Jvm.Cond.selects "GluedHour$Reader" ({ cls := "GluedHour$Reader", name := "read", desc := "(II)V" } : Jvm.MethodName) ({ cls := "GluedHour$Reader", name := "read", desc := "(II)V" } : Jvm.MethodName)) ∈ lw_gd := tb_2 (i := 130) rfl rfl
theorem wd_466 : (Jvm.Cond.code ({ cls := "GluedHour$Reader", name := "read", desc := "(II)V" } : Jvm.MethodName) prog_7_method_2_code (4 : Nat) (Option.none : Option Jvm.ClassFile.FieldType)) ∈ lw_gd := tb_2 (i := 131) rfl rfl
theorem wd_467 : (Jvm.Cond.methodLink "GluedHour$Reader" (66 : Nat) ({ cls := "GluedHour$Reader", name := "begin", desc := "(II)V" } : Jvm.MethodName)) ∈ lw_gd := tb_2 (i := 132) rfl rfl
theorem wd_469 : (Jvm.Cond.instanceMethod ({ cls := "GluedHour$Reader", name := "begin", desc := "(II)V" } : Jvm.MethodName)) ∈ lw_gd := tb_2 (i := 134) rfl rfl
theorem wd_470 : (Jvm.Cond.code ({ cls := "GluedHour$Reader", name := "begin", desc := "(II)V" } : Jvm.MethodName) prog_7_method_3_code (4 : Nat) (Option.none : Option Jvm.ClassFile.FieldType)) ∈ lw_gd := tb_2 (i := 135) rfl rfl
theorem wd_471 : (Jvm.Cond.methodLink "GluedHour$Reader" (86 : Nat) ({ cls := "java/lang/Math", name := "min", desc := "(II)I" } : Jvm.MethodName)) ∈ lw_gd := tb_2 (i := 136) rfl rfl
theorem wd_472 : (Jvm.Cond.static ({ cls := "java/lang/Math", name := "min", desc := "(II)I" } : Jvm.MethodName)) ∈ lw_gd := tb_2 (i := 137) rfl rfl
theorem wd_473 : (Jvm.Cond.code ({ cls := "java/lang/Math", name := "min", desc := "(II)I" } : Jvm.MethodName) prog_13_method_69_code (2 : Nat) (Option.some Jvm.ClassFile.FieldType.int)) ∈ lw_gd := tb_2 (i := 138) rfl rfl
theorem wd_474 : (Jvm.Cond.methodLink "GluedHour$Reader" (92 : Nat) ({ cls := "java/lang/Math", name := "max", desc := "(II)I" } : Jvm.MethodName)) ∈ lw_gd := tb_2 (i := 139) rfl rfl
theorem wd_475 : (Jvm.Cond.static ({ cls := "java/lang/Math", name := "max", desc := "(II)I" } : Jvm.MethodName)) ∈ lw_gd := tb_2 (i := 140) rfl rfl
theorem wd_476 : (Jvm.Cond.code ({ cls := "java/lang/Math", name := "max", desc := "(II)I" } : Jvm.MethodName) prog_13_method_65_code (2 : Nat) (Option.some Jvm.ClassFile.FieldType.int)) ∈ lw_gd := tb_2 (i := 141) rfl rfl
theorem wd_477 : (Jvm.Cond.methodLink "GluedHour$Reader" (95 : Nat) ({ cls := "GluedHour$Republic", name := "clear", desc := "()V" } : Jvm.MethodName)) ∈ lw_gd := tb_2 (i := 142) rfl rfl
theorem wd_478 : (Jvm.Cond.methodLink "GluedHour$Reader" (98 : Nat) ({ cls := "GluedHour$Reader", name := "draftOf", desc := "(I)LGluedHour$Lines;" } : Jvm.MethodName)) ∈ lw_gd := tb_2 (i := 143) rfl rfl
theorem wd_480 : (Jvm.Cond.instanceMethod ({ cls := "GluedHour$Reader", name := "draftOf", desc := "(I)LGluedHour$Lines;" } : Jvm.MethodName)) ∈ lw_gd := tb_2 (i := 145) rfl rfl
theorem wd_481 : (Jvm.Cond.code ({ cls := "GluedHour$Reader", name := "draftOf", desc := "(I)LGluedHour$Lines;" } : Jvm.MethodName) prog_7_method_4_code (2 : Nat) (Option.some (Jvm.ClassFile.FieldType.object "GluedHour$Lines"))) ∈ lw_gd := tb_2 (i := 146) rfl rfl
theorem wd_482 : (Jvm.Cond.methodLink "GluedHour$Reader" (70 : Nat) ({ cls := "GluedHour$Reader", name := "step", desc := "()V" } : Jvm.MethodName)) ∈ lw_gd := tb_2 (i := 147) rfl rfl
theorem wd_484 : (Jvm.Cond.instanceMethod ({ cls := "GluedHour$Reader", name := "step", desc := "()V" } : Jvm.MethodName)) ∈ lw_gd := tb_2 (i := 149) rfl rfl
theorem wd_485 : (Jvm.Cond.code ({ cls := "GluedHour$Reader", name := "step", desc := "()V" } : Jvm.MethodName) prog_7_method_15_code (1 : Nat) (Option.none : Option Jvm.ClassFile.FieldType)) ∈ lw_gd := tb_2 (i := 150) rfl rfl
theorem wd_486 : (Jvm.Cond.methodLink "GluedHour$Reader" (203 : Nat) ({ cls := "GluedHour$Reader", name := "isLetter", desc := "(I)Z" } : Jvm.MethodName)) ∈ lw_gd := tb_2 (i := 151) rfl rfl
theorem wd_487 : (Jvm.Cond.static ({ cls := "GluedHour$Reader", name := "isLetter", desc := "(I)Z" } : Jvm.MethodName)) ∈ lw_gd := tb_2 (i := 152) rfl rfl
theorem wd_488 : (Jvm.Cond.code ({ cls := "GluedHour$Reader", name := "isLetter", desc := "(I)Z" } : Jvm.MethodName) prog_7_method_17_code (1 : Nat) (Option.some Jvm.ClassFile.FieldType.boolean)) ∈ lw_gd := tb_2 (i := 153) rfl rfl
theorem wd_489 : (Jvm.Cond.methodLink "GluedHour$Reader" (206 : Nat) ({ cls := "GluedHour$Reader", name := "isDigit", desc := "(I)Z" } : Jvm.MethodName)) ∈ lw_gd := tb_2 (i := 154) rfl rfl
theorem wd_490 : (Jvm.Cond.static ({ cls := "GluedHour$Reader", name := "isDigit", desc := "(I)Z" } : Jvm.MethodName)) ∈ lw_gd := tb_2 (i := 155) rfl rfl
theorem wd_491 : (Jvm.Cond.code ({ cls := "GluedHour$Reader", name := "isDigit", desc := "(I)Z" } : Jvm.MethodName) prog_7_method_18_code (1 : Nat) (Option.some Jvm.ClassFile.FieldType.boolean)) ∈ lw_gd := tb_2 (i := 156) rfl rfl
theorem wd_492 : (Jvm.Cond.methodLink "GluedHour$Reader" (209 : Nat) ({ cls := "GluedHour$Reader", name := "stepNumber", desc := "()V" } : Jvm.MethodName)) ∈ lw_gd := tb_2 (i := 157) rfl rfl
theorem wd_494 : (Jvm.Cond.instanceMethod ({ cls := "GluedHour$Reader", name := "stepNumber", desc := "()V" } : Jvm.MethodName)) ∈ lw_gd := tb_2 (i := 159) rfl rfl
theorem wd_495 : (Jvm.Cond.code ({ cls := "GluedHour$Reader", name := "stepNumber", desc := "()V" } : Jvm.MethodName) prog_7_method_16_code (1 : Nat) (Option.none : Option Jvm.ClassFile.FieldType)) ∈ lw_gd := tb_2 (i := 160) rfl rfl
theorem wd_496 : (Jvm.Cond.methodLink "GluedHour$Reader" (73 : Nat) ({ cls := "GluedHour$Reader", name := "readLine", desc := "(I)Z" } : Jvm.MethodName)) ∈ lw_gd := tb_2 (i := 161) rfl rfl
theorem wd_498 : (Jvm.Cond.instanceMethod ({ cls := "GluedHour$Reader", name := "readLine", desc := "(I)Z" } : Jvm.MethodName)) ∈ lw_gd := tb_2 (i := 163) rfl rfl
theorem wd_499 : (Jvm.Cond.code ({ cls := "GluedHour$Reader", name := "readLine", desc := "(I)Z" } : Jvm.MethodName) prog_7_method_6_code (4 : Nat) (Option.some Jvm.ClassFile.FieldType.boolean)) ∈ lw_gd := tb_2 (i := 164) rfl rfl
theorem wd_500 : (Jvm.Cond.methodLink "GluedHour$Reader" (105 : Nat) ({ cls := "GluedHour$Reader", name := "verbOf", desc := "(I)I" } : Jvm.MethodName)) ∈ lw_gd := tb_2 (i := 165) rfl rfl
theorem wd_502 : (Jvm.Cond.instanceMethod ({ cls := "GluedHour$Reader", name := "verbOf", desc := "(I)I" } : Jvm.MethodName)) ∈ lw_gd := tb_2 (i := 167) rfl rfl
theorem wd_503 : (Jvm.Cond.code ({ cls := "GluedHour$Reader", name := "verbOf", desc := "(I)I" } : Jvm.MethodName) prog_7_method_12_code (3 : Nat) (Option.some Jvm.ClassFile.FieldType.int)) ∈ lw_gd := tb_2 (i := 168) rfl rfl
theorem wd_504 : (Jvm.Cond.fieldLink "GluedHour$Reader" (135 : Nat) "GluedHour$Reader" "VERB_SORT" "[I") ∈ lw_gd := tb_2 (i := 169) rfl rfl
theorem wd_506 : (Jvm.Cond.methodLink "GluedHour$Reader" (169 : Nat) ({ cls := "GluedHour$Reader", name := "wordOf", desc := "(I)Ljava/lang/String;" } : Jvm.MethodName)) ∈ lw_gd := tb_2 (i := 171) rfl rfl
theorem wd_507 : (Jvm.Cond.static ({ cls := "GluedHour$Reader", name := "wordOf", desc := "(I)Ljava/lang/String;" } : Jvm.MethodName)) ∈ lw_gd := tb_2 (i := 172) rfl rfl
theorem wd_508 : (Jvm.Cond.code ({ cls := "GluedHour$Reader", name := "wordOf", desc := "(I)Ljava/lang/String;" } : Jvm.MethodName) prog_7_method_13_code (1 : Nat) (Option.some (Jvm.ClassFile.FieldType.object "java/lang/String"))) ∈ lw_gd := tb_2 (i := 173) rfl rfl
theorem wd_520 : (Jvm.Cond.methodLink "GluedHour$Reader" (127 : Nat) ({ cls := "GluedHour$Reader", name := "isWord", desc := "(Ljava/lang/String;)Z" } : Jvm.MethodName)) ∈ lw_gd := tb_2 (i := 185) rfl rfl
theorem wd_522 : (Jvm.Cond.instanceMethod ({ cls := "GluedHour$Reader", name := "isWord", desc := "(Ljava/lang/String;)Z" } : Jvm.MethodName)) ∈ lw_gd := tb_2 (i := 187) rfl rfl
theorem wd_523 : (Jvm.Cond.code ({ cls := "GluedHour$Reader", name := "isWord", desc := "(Ljava/lang/String;)Z" } : Jvm.MethodName) prog_7_method_14_code (3 : Nat) (Option.some Jvm.ClassFile.FieldType.boolean)) ∈ lw_gd := tb_2 (i := 188) rfl rfl
theorem wd_524 : (Jvm.Cond.methodLink "GluedHour$Reader" (194 : Nat) ({ cls := "java/lang/String", name := "length", desc := "()I" } : Jvm.MethodName)) ∈ lw_gd := tb_2 (i := 189) rfl rfl
theorem wd_525 : (Jvm.Cond.instanceMethod ({ cls := "java/lang/String", name := "length", desc := "()I" } : Jvm.MethodName)) ∈ lw_gd := tb_2 (i := 190) rfl rfl
theorem wd_526 : (Jvm.Cond.selects "java/lang/String" ({ cls := "java/lang/String", name := "length", desc := "()I" } : Jvm.MethodName) ({ cls := "java/lang/String", name := "length", desc := "()I" } : Jvm.MethodName)) ∈ lw_gd := tb_2 (i := 191) rfl rfl
theorem wd_527 : (Jvm.Cond.code ({ cls := "java/lang/String", name := "length", desc := "()I" } : Jvm.MethodName) prog_14_method_54_code (1 : Nat) (Option.some Jvm.ClassFile.FieldType.int)) ∈ lw_gd := tb_2 (i := 192) rfl rfl
theorem wd_528 : (Jvm.Cond.methodLink "java/lang/String" (335 : Nat) ({ cls := "java/lang/String", name := "coder", desc := "()B" } : Jvm.MethodName)) ∈ lw_gd := tb_2 (i := 193) rfl rfl
theorem wd_529 : (Jvm.Cond.instanceMethod ({ cls := "java/lang/String", name := "coder", desc := "()B" } : Jvm.MethodName)) ∈ lw_gd := tb_2 (i := 194) rfl rfl
theorem wd_530 : (Jvm.Cond.selects "java/lang/String" ({ cls := "java/lang/String", name := "coder", desc := "()B" } : Jvm.MethodName) ({ cls := "java/lang/String", name := "coder", desc := "()B" } : Jvm.MethodName)) ∈ lw_gd := tb_2 (i := 195) rfl rfl
theorem wd_531 : (Jvm.Cond.code ({ cls := "java/lang/String", name := "coder", desc := "()B" } : Jvm.MethodName) prog_14_method_152_code (1 : Nat) (Option.some Jvm.ClassFile.FieldType.byte)) ∈ lw_gd := tb_2 (i := 196) rfl rfl
theorem wd_532 : (Jvm.Cond.fieldLink "java/lang/String" (38 : Nat) "java/lang/String" "COMPACT_STRINGS" "Z") ∈ lw_gd := tb_2 (i := 197) rfl rfl
theorem wd_534 : (Jvm.Cond.methodLink "GluedHour$Reader" (199 : Nat) ({ cls := "java/lang/String", name := "charAt", desc := "(I)C" } : Jvm.MethodName)) ∈ lw_gd := tb_2 (i := 199) rfl rfl
theorem wd_535 : (Jvm.Cond.instanceMethod ({ cls := "java/lang/String", name := "charAt", desc := "(I)C" } : Jvm.MethodName)) ∈ lw_gd := tb_2 (i := 200) rfl rfl
theorem wd_536 : (Jvm.Cond.selects "java/lang/String" ({ cls := "java/lang/String", name := "charAt", desc := "(I)C" } : Jvm.MethodName) ({ cls := "java/lang/String", name := "charAt", desc := "(I)C" } : Jvm.MethodName)) ∈ lw_gd := tb_2 (i := 201) rfl rfl
theorem wd_537 : (Jvm.Cond.code ({ cls := "java/lang/String", name := "charAt", desc := "(I)C" } : Jvm.MethodName) prog_14_method_56_code (2 : Nat) (Option.some Jvm.ClassFile.FieldType.char)) ∈ lw_gd := tb_2 (i := 202) rfl rfl
theorem wd_538 : (Jvm.Cond.methodLink "java/lang/String" (492 : Nat) ({ cls := "java/lang/String", name := "isLatin1", desc := "()Z" } : Jvm.MethodName)) ∈ lw_gd := tb_2 (i := 203) rfl rfl
theorem wd_539 : (Jvm.Cond.instanceMethod ({ cls := "java/lang/String", name := "isLatin1", desc := "()Z" } : Jvm.MethodName)) ∈ lw_gd := tb_2 (i := 204) rfl rfl
theorem wd_540 : (Jvm.Cond.selects "java/lang/String" ({ cls := "java/lang/String", name := "isLatin1", desc := "()Z" } : Jvm.MethodName) ({ cls := "java/lang/String", name := "isLatin1", desc := "()Z" } : Jvm.MethodName)) ∈ lw_gd := tb_2 (i := 205) rfl rfl
theorem wd_541 : (Jvm.Cond.code ({ cls := "java/lang/String", name := "isLatin1", desc := "()Z" } : Jvm.MethodName) prog_14_method_154_code (1 : Nat) (Option.some Jvm.ClassFile.FieldType.boolean)) ∈ lw_gd := tb_2 (i := 206) rfl rfl
theorem wd_542 : (Jvm.Cond.methodLink "java/lang/String" (495 : Nat) ({ cls := "java/lang/StringLatin1", name := "charAt", desc := "([BI)C" } : Jvm.MethodName)) ∈ lw_gd := tb_2 (i := 207) rfl rfl
theorem wd_543 : (Jvm.Cond.static ({ cls := "java/lang/StringLatin1", name := "charAt", desc := "([BI)C" } : Jvm.MethodName)) ∈ lw_gd := tb_2 (i := 208) rfl rfl
theorem wd_544 : (Jvm.Cond.code ({ cls := "java/lang/StringLatin1", name := "charAt", desc := "([BI)C" } : Jvm.MethodName) prog_15_method_2_code (2 : Nat) (Option.some Jvm.ClassFile.FieldType.char)) ∈ lw_gd := tb_2 (i := 209) rfl rfl
theorem wd_545 : (Jvm.Cond.methodLink "java/lang/StringLatin1" (9 : Nat) ({ cls := "java/lang/String", name := "checkIndex", desc := "(II)V" } : Jvm.MethodName)) ∈ lw_gd := tb_2 (i := 210) rfl rfl
theorem wd_546 : (Jvm.Cond.static ({ cls := "java/lang/String", name := "checkIndex", desc := "(II)V" } : Jvm.MethodName)) ∈ lw_gd := tb_2 (i := 211) rfl rfl
theorem wd_547 : (Jvm.Cond.code ({ cls := "java/lang/String", name := "checkIndex", desc := "(II)V" } : Jvm.MethodName) prog_14_method_155_code (2 : Nat) (Option.none : Option Jvm.ClassFile.FieldType)) ∈ lw_gd := tb_2 (i := 212) rfl rfl
theorem wd_553 : (Jvm.Cond.methodLink "java/lang/String" (498 : Nat) ({ cls := "java/lang/StringUTF16", name := "charAt", desc := "([BI)C" } : Jvm.MethodName)) ∈ lw_gd := tb_2 (i := 218) rfl rfl
theorem wd_554 : (Jvm.Cond.static ({ cls := "java/lang/StringUTF16", name := "charAt", desc := "([BI)C" } : Jvm.MethodName)) ∈ lw_gd := tb_2 (i := 219) rfl rfl
theorem wd_555 : (Jvm.Cond.code ({ cls := "java/lang/StringUTF16", name := "charAt", desc := "([BI)C" } : Jvm.MethodName) prog_16_method_83_code (2 : Nat) (Option.some Jvm.ClassFile.FieldType.char)) ∈ lw_gd := tb_2 (i := 220) rfl rfl
theorem wd_572 : (Jvm.Cond.methodLink "GluedHour$Reader" (109 : Nat) ({ cls := "GluedHour$Reader", name := "isOneTooMany", desc := "(I)Z" } : Jvm.MethodName)) ∈ lw_gd := tb_2 (i := 237) rfl rfl
theorem wd_574 : (Jvm.Cond.instanceMethod ({ cls := "GluedHour$Reader", name := "isOneTooMany", desc := "(I)Z" } : Jvm.MethodName)) ∈ lw_gd := tb_2 (i := 239) rfl rfl
theorem wd_575 : (Jvm.Cond.code ({ cls := "GluedHour$Reader", name := "isOneTooMany", desc := "(I)Z" } : Jvm.MethodName) prog_7_method_8_code (3 : Nat) (Option.some Jvm.ClassFile.FieldType.boolean)) ∈ lw_gd := tb_3 (i := 0) rfl rfl
theorem wd_576 : (Jvm.Cond.methodLink "GluedHour$Reader" (138 : Nat) ({ cls := "GluedHour$Lines", name := "isFull", desc := "()Z" } : Jvm.MethodName)) ∈ lw_gd := tb_3 (i := 1) rfl rfl
theorem wd_577 : (Jvm.Cond.instanceMethod ({ cls := "GluedHour$Lines", name := "isFull", desc := "()Z" } : Jvm.MethodName)) ∈ lw_gd := tb_3 (i := 2) rfl rfl
theorem wd_578 : (Jvm.Cond.selects "GluedHour$Lines" ({ cls := "GluedHour$Lines", name := "isFull", desc := "()Z" } : Jvm.MethodName) ({ cls := "GluedHour$Lines", name := "isFull", desc := "()Z" } : Jvm.MethodName)) ∈ lw_gd := tb_3 (i := 3) rfl rfl
theorem wd_579 : (Jvm.Cond.code ({ cls := "GluedHour$Lines", name := "isFull", desc := "()Z" } : Jvm.MethodName) prog_4_method_4_code (1 : Nat) (Option.some Jvm.ClassFile.FieldType.boolean)) ∈ lw_gd := tb_3 (i := 4) rfl rfl
theorem wd_580 : (Jvm.Cond.methodLink "GluedHour$Reader" (83 : Nat) ({ cls := "GluedHour$Reader", name := "note", desc := "(II)V" } : Jvm.MethodName)) ∈ lw_gd := tb_3 (i := 5) rfl rfl
theorem wd_582 : (Jvm.Cond.instanceMethod ({ cls := "GluedHour$Reader", name := "note", desc := "(II)V" } : Jvm.MethodName)) ∈ lw_gd := tb_3 (i := 7) rfl rfl
theorem wd_583 : (Jvm.Cond.code ({ cls := "GluedHour$Reader", name := "note", desc := "(II)V" } : Jvm.MethodName) prog_7_method_5_code (3 : Nat) (Option.none : Option Jvm.ClassFile.FieldType)) ∈ lw_gd := tb_3 (i := 8) rfl rfl
theorem wd_584 : (Jvm.Cond.fieldLink "GluedHour$Reader" (112 : Nat) "GluedHour$Reader" "NUMBERS" "[I") ∈ lw_gd := tb_3 (i := 9) rfl rfl
theorem wd_586 : (Jvm.Cond.methodLink "GluedHour$Reader" (115 : Nat) ({ cls := "GluedHour$Reader", name := "checkNumber", desc := "(II)V" } : Jvm.MethodName)) ∈ lw_gd := tb_3 (i := 11) rfl rfl
theorem wd_588 : (Jvm.Cond.instanceMethod ({ cls := "GluedHour$Reader", name := "checkNumber", desc := "(II)V" } : Jvm.MethodName)) ∈ lw_gd := tb_3 (i := 13) rfl rfl
theorem wd_589 : (Jvm.Cond.code ({ cls := "GluedHour$Reader", name := "checkNumber", desc := "(II)V" } : Jvm.MethodName) prog_7_method_9_code (4 : Nat) (Option.none : Option Jvm.ClassFile.FieldType)) ∈ lw_gd := tb_3 (i := 14) rfl rfl
theorem wd_590 : (Jvm.Cond.fieldLink "GluedHour$Reader" (141 : Nat) "GluedHour$Reader" "LOWEST" "[I") ∈ lw_gd := tb_3 (i := 15) rfl rfl
theorem wd_592 : (Jvm.Cond.fieldLink "GluedHour$Reader" (144 : Nat) "GluedHour$Reader" "HIGHEST" "[I") ∈ lw_gd := tb_3 (i := 17) rfl rfl
theorem wd_594 : (Jvm.Cond.methodLink "GluedHour$Reader" (118 : Nat) ({ cls := "GluedHour$Reader", name := "readMode", desc := "()Z" } : Jvm.MethodName)) ∈ lw_gd := tb_3 (i := 19) rfl rfl
theorem wd_596 : (Jvm.Cond.instanceMethod ({ cls := "GluedHour$Reader", name := "readMode", desc := "()Z" } : Jvm.MethodName)) ∈ lw_gd := tb_3 (i := 21) rfl rfl
theorem wd_597 : (Jvm.Cond.code ({ cls := "GluedHour$Reader", name := "readMode", desc := "()Z" } : Jvm.MethodName) prog_7_method_7_code (1 : Nat) (Option.some Jvm.ClassFile.FieldType.boolean)) ∈ lw_gd := tb_3 (i := 22) rfl rfl
theorem wd_601 : (Jvm.Cond.methodLink "GluedHour$Reader" (122 : Nat) ({ cls := "GluedHour$Reader", name := "tell", desc := "(I)V" } : Jvm.MethodName)) ∈ lw_gd := tb_3 (i := 26) rfl rfl
theorem wd_603 : (Jvm.Cond.instanceMethod ({ cls := "GluedHour$Reader", name := "tell", desc := "(I)V" } : Jvm.MethodName)) ∈ lw_gd := tb_3 (i := 28) rfl rfl
theorem wd_604 : (Jvm.Cond.code ({ cls := "GluedHour$Reader", name := "tell", desc := "(I)V" } : Jvm.MethodName) prog_7_method_10_code (3 : Nat) (Option.none : Option Jvm.ClassFile.FieldType)) ∈ lw_gd := tb_3 (i := 29) rfl rfl
theorem wd_605 : (Jvm.Cond.methodLink "GluedHour$Reader" (162 : Nat) ({ cls := "GluedHour$Reader", name := "tellLine", desc := "(I)V" } : Jvm.MethodName)) ∈ lw_gd := tb_3 (i := 30) rfl rfl
theorem wd_607 : (Jvm.Cond.instanceMethod ({ cls := "GluedHour$Reader", name := "tellLine", desc := "(I)V" } : Jvm.MethodName)) ∈ lw_gd := tb_3 (i := 32) rfl rfl
theorem wd_608 : (Jvm.Cond.code ({ cls := "GluedHour$Reader", name := "tellLine", desc := "(I)V" } : Jvm.MethodName) prog_7_method_11_code (3 : Nat) (Option.none : Option Jvm.ClassFile.FieldType)) ∈ lw_gd := tb_3 (i := 33) rfl rfl
theorem wd_609 : (Jvm.Cond.methodLink "GluedHour$Reader" (165 : Nat) ({ cls := "GluedHour$Lines", name := "add", desc := "([I)V" } : Jvm.MethodName)) ∈ lw_gd := tb_3 (i := 34) rfl rfl
theorem wd_610 : (Jvm.Cond.instanceMethod ({ cls := "GluedHour$Lines", name := "add", desc := "([I)V" } : Jvm.MethodName)) ∈ lw_gd := tb_3 (i := 35) rfl rfl
theorem wd_611 : (Jvm.Cond.selects "GluedHour$Lines" ({ cls := "GluedHour$Lines", name := "add", desc := "([I)V" } : Jvm.MethodName) ({ cls := "GluedHour$Lines", name := "add", desc := "([I)V" } : Jvm.MethodName)) ∈ lw_gd := tb_3 (i := 36) rfl rfl
theorem wd_612 : (Jvm.Cond.code ({ cls := "GluedHour$Lines", name := "add", desc := "([I)V" } : Jvm.MethodName) prog_4_method_5_code (2 : Nat) (Option.none : Option Jvm.ClassFile.FieldType)) ∈ lw_gd := tb_3 (i := 37) rfl rfl
theorem wd_613 : (Jvm.Cond.methodLink "GluedHour$Lines" (35 : Nat) ({ cls := "GluedHour$Lines", name := "isFull", desc := "()Z" } : Jvm.MethodName)) ∈ lw_gd := tb_3 (i := 38) rfl rfl
theorem wd_614 : (Jvm.Cond.methodLink "GluedHour$Lines" (39 : Nat) ({ cls := "java/lang/System", name := "arraycopy", desc := "(Ljava/lang/Object;ILjava/lang/Object;II)V" } : Jvm.MethodName)) ∈ lw_gd := tb_3 (i := 39) rfl rfl
theorem wd_615 : (Jvm.Cond.static ({ cls := "java/lang/System", name := "arraycopy", desc := "(Ljava/lang/Object;ILjava/lang/Object;II)V" } : Jvm.MethodName)) ∈ lw_gd := tb_3 (i := 40) rfl rfl
theorem wd_616 : (Jvm.Cond.native ({ cls := "java/lang/System", name := "arraycopy", desc := "(Ljava/lang/Object;ILjava/lang/Object;II)V" } : Jvm.MethodName)) ∈ lw_gd := tb_3 (i := 41) rfl rfl
theorem wd_617 : (Jvm.Cond.methodLink "GluedHour" (95 : Nat) ({ cls := "GluedHour$Told", name := "take", desc := "(LGluedHour$Reader;II)V" } : Jvm.MethodName)) ∈ lw_gd := tb_3 (i := 42) rfl rfl
theorem wd_618 : (Jvm.Cond.instanceMethod ({ cls := "GluedHour$Told", name := "take", desc := "(LGluedHour$Reader;II)V" } : Jvm.MethodName)) ∈ lw_gd := tb_3 (i := 43) rfl rfl
theorem wd_619 : (Jvm.Cond.selects "GluedHour$Told" ({ cls := "GluedHour$Told", name := "take", desc := "(LGluedHour$Reader;II)V" } : Jvm.MethodName) ({ cls := "GluedHour$Told", name := "take", desc := "(LGluedHour$Reader;II)V" } : Jvm.MethodName)) ∈ lw_gd := tb_3 (i := 44) rfl rfl
theorem wd_620 : (Jvm.Cond.code ({ cls := "GluedHour$Told", name := "take", desc := "(LGluedHour$Reader;II)V" } : Jvm.MethodName) prog_10_method_6_code (4 : Nat) (Option.none : Option Jvm.ClassFile.FieldType)) ∈ lw_gd := tb_3 (i := 45) rfl rfl
theorem wd_621 : (Jvm.Cond.methodLink "GluedHour$Told" (63 : Nat) ({ cls := "java/lang/Math", name := "max", desc := "(II)I" } : Jvm.MethodName)) ∈ lw_gd := tb_3 (i := 46) rfl rfl
theorem wd_622 : (Jvm.Cond.methodLink "GluedHour$Told" (74 : Nat) ({ cls := "GluedHour$Told", name := "copyRepublic", desc := "(LGluedHour$Republic;LGluedHour$Republic;)V" } : Jvm.MethodName)) ∈ lw_gd := tb_3 (i := 47) rfl rfl
theorem wd_623 : (Jvm.Cond.static ({ cls := "GluedHour$Told", name := "copyRepublic", desc := "(LGluedHour$Republic;LGluedHour$Republic;)V" } : Jvm.MethodName)) ∈ lw_gd := tb_3 (i := 48) rfl rfl
theorem wd_624 : (Jvm.Cond.code ({ cls := "GluedHour$Told", name := "copyRepublic", desc := "(LGluedHour$Republic;LGluedHour$Republic;)V" } : Jvm.MethodName) prog_10_method_8_code (2 : Nat) (Option.none : Option Jvm.ClassFile.FieldType)) ∈ lw_gd := tb_3 (i := 49) rfl rfl
theorem wd_625 : (Jvm.Cond.methodLink "GluedHour$Told" (91 : Nat) ({ cls := "GluedHour$Republic", name := "copy", desc := "(LGluedHour$Republic;)V" } : Jvm.MethodName)) ∈ lw_gd := tb_3 (i := 50) rfl rfl
theorem wd_626 : (Jvm.Cond.instanceMethod ({ cls := "GluedHour$Republic", name := "copy", desc := "(LGluedHour$Republic;)V" } : Jvm.MethodName)) ∈ lw_gd := tb_3 (i := 51) rfl rfl
theorem wd_627 : (Jvm.Cond.selects "GluedHour$Republic" ({ cls := "GluedHour$Republic", name := "copy", desc := "(LGluedHour$Republic;)V" } : Jvm.MethodName) ({ cls := "GluedHour$Republic", name := "copy", desc := "(LGluedHour$Republic;)V" } : Jvm.MethodName)) ∈ lw_gd := tb_3 (i := 52) rfl rfl
theorem wd_628 : (Jvm.Cond.code ({ cls := "GluedHour$Republic", name := "copy", desc := "(LGluedHour$Republic;)V" } : Jvm.MethodName) prog_8_method_3_code (2 : Nat) (Option.none : Option Jvm.ClassFile.FieldType)) ∈ lw_gd := tb_3 (i := 53) rfl rfl
theorem wd_629 : (Jvm.Cond.methodLink "GluedHour$Republic" (37 : Nat) ({ cls := "java/lang/System", name := "arraycopy", desc := "(Ljava/lang/Object;ILjava/lang/Object;II)V" } : Jvm.MethodName)) ∈ lw_gd := tb_3 (i := 54) rfl rfl
theorem wd_630 : (Jvm.Cond.methodLink "GluedHour$Told" (81 : Nat) ({ cls := "GluedHour$Told", name := "copyLines", desc := "(LGluedHour$Lines;LGluedHour$Lines;)V" } : Jvm.MethodName)) ∈ lw_gd := tb_3 (i := 55) rfl rfl
theorem wd_631 : (Jvm.Cond.static ({ cls := "GluedHour$Told", name := "copyLines", desc := "(LGluedHour$Lines;LGluedHour$Lines;)V" } : Jvm.MethodName)) ∈ lw_gd := tb_3 (i := 56) rfl rfl
theorem wd_632 : (Jvm.Cond.code ({ cls := "GluedHour$Told", name := "copyLines", desc := "(LGluedHour$Lines;LGluedHour$Lines;)V" } : Jvm.MethodName) prog_10_method_9_code (2 : Nat) (Option.none : Option Jvm.ClassFile.FieldType)) ∈ lw_gd := tb_3 (i := 57) rfl rfl
theorem wd_633 : (Jvm.Cond.methodLink "GluedHour$Told" (95 : Nat) ({ cls := "GluedHour$Lines", name := "copy", desc := "(LGluedHour$Lines;)V" } : Jvm.MethodName)) ∈ lw_gd := tb_3 (i := 58) rfl rfl
theorem wd_634 : (Jvm.Cond.instanceMethod ({ cls := "GluedHour$Lines", name := "copy", desc := "(LGluedHour$Lines;)V" } : Jvm.MethodName)) ∈ lw_gd := tb_3 (i := 59) rfl rfl
theorem wd_635 : (Jvm.Cond.selects "GluedHour$Lines" ({ cls := "GluedHour$Lines", name := "copy", desc := "(LGluedHour$Lines;)V" } : Jvm.MethodName) ({ cls := "GluedHour$Lines", name := "copy", desc := "(LGluedHour$Lines;)V" } : Jvm.MethodName)) ∈ lw_gd := tb_3 (i := 60) rfl rfl
theorem wd_636 : (Jvm.Cond.code ({ cls := "GluedHour$Lines", name := "copy", desc := "(LGluedHour$Lines;)V" } : Jvm.MethodName) prog_4_method_6_code (2 : Nat) (Option.none : Option Jvm.ClassFile.FieldType)) ∈ lw_gd := tb_3 (i := 61) rfl rfl
theorem wd_637 : (Jvm.Cond.methodLink "GluedHourLaw" (28 : Nat) ({ cls := "GluedHour", name := "fault", desc := "(I)I" } : Jvm.MethodName)) ∈ lw_gd := tb_3 (i := 62) rfl rfl
theorem wd_638 : (Jvm.Cond.instanceMethod ({ cls := "GluedHour", name := "fault", desc := "(I)I" } : Jvm.MethodName)) ∈ lw_gd := tb_3 (i := 63) rfl rfl
theorem wd_639 : (Jvm.Cond.selects "GluedHour" ({ cls := "GluedHour", name := "fault", desc := "(I)I" } : Jvm.MethodName) ({ cls := "GluedHour", name := "fault", desc := "(I)I" } : Jvm.MethodName)) ∈ lw_gd := tb_3 (i := 64) rfl rfl
theorem wd_640 : (Jvm.Cond.code ({ cls := "GluedHour", name := "fault", desc := "(I)I" } : Jvm.MethodName) prog_1_method_5_code (2 : Nat) (Option.some Jvm.ClassFile.FieldType.int)) ∈ lw_gd := tb_3 (i := 65) rfl rfl
theorem wd_641 : (Jvm.Cond.methodLink "GluedHourLaw" (32 : Nat) ({ cls := "GluedHour", name := "republic", desc := "(II)I" } : Jvm.MethodName)) ∈ lw_gd := tb_3 (i := 66) rfl rfl
theorem wd_642 : (Jvm.Cond.instanceMethod ({ cls := "GluedHour", name := "republic", desc := "(II)I" } : Jvm.MethodName)) ∈ lw_gd := tb_3 (i := 67) rfl rfl
theorem wd_643 : (Jvm.Cond.selects "GluedHour" ({ cls := "GluedHour", name := "republic", desc := "(II)I" } : Jvm.MethodName) ({ cls := "GluedHour", name := "republic", desc := "(II)I" } : Jvm.MethodName)) ∈ lw_gd := tb_3 (i := 68) rfl rfl
theorem wd_644 : (Jvm.Cond.code ({ cls := "GluedHour", name := "republic", desc := "(II)I" } : Jvm.MethodName) prog_1_method_6_code (4 : Nat) (Option.some Jvm.ClassFile.FieldType.int)) ∈ lw_gd := tb_3 (i := 69) rfl rfl
theorem wd_645 : (Jvm.Cond.methodLink "GluedHour" (99 : Nat) ({ cls := "GluedHour", name := "begun", desc := "(I)LGluedHour$Republic;" } : Jvm.MethodName)) ∈ lw_gd := tb_3 (i := 70) rfl rfl
theorem wd_647 : (Jvm.Cond.instanceMethod ({ cls := "GluedHour", name := "begun", desc := "(I)LGluedHour$Republic;" } : Jvm.MethodName)) ∈ lw_gd := tb_3 (i := 72) rfl rfl
theorem wd_648 : (Jvm.Cond.code ({ cls := "GluedHour", name := "begun", desc := "(I)LGluedHour$Republic;" } : Jvm.MethodName) prog_1_method_39_code (3 : Nat) (Option.some (Jvm.ClassFile.FieldType.object "GluedHour$Republic"))) ∈ lw_gd := tb_3 (i := 73) rfl rfl
theorem wd_649 : (Jvm.Cond.methodLink "GluedHour" (122 : Nat) ({ cls := "GluedHour$Told", name := "republicAt", desc := "(I)LGluedHour$Republic;" } : Jvm.MethodName)) ∈ lw_gd := tb_3 (i := 74) rfl rfl
theorem wd_650 : (Jvm.Cond.instanceMethod ({ cls := "GluedHour$Told", name := "republicAt", desc := "(I)LGluedHour$Republic;" } : Jvm.MethodName)) ∈ lw_gd := tb_3 (i := 75) rfl rfl
theorem wd_651 : (Jvm.Cond.selects "GluedHour$Told" ({ cls := "GluedHour$Told", name := "republicAt", desc := "(I)LGluedHour$Republic;" } : Jvm.MethodName) ({ cls := "GluedHour$Told", name := "republicAt", desc := "(I)LGluedHour$Republic;" } : Jvm.MethodName)) ∈ lw_gd := tb_3 (i := 76) rfl rfl
theorem wd_652 : (Jvm.Cond.code ({ cls := "GluedHour$Told", name := "republicAt", desc := "(I)LGluedHour$Republic;" } : Jvm.MethodName) prog_10_method_3_code (2 : Nat) (Option.some (Jvm.ClassFile.FieldType.object "GluedHour$Republic"))) ∈ lw_gd := tb_3 (i := 77) rfl rfl
theorem wd_653 : (Jvm.Cond.methodLink "GluedHour" (303 : Nat) ({ cls := "GluedHour$Course", name := "begin", desc := "(LGluedHour$Republic;)V" } : Jvm.MethodName)) ∈ lw_gd := tb_3 (i := 78) rfl rfl
theorem wd_654 : (Jvm.Cond.instanceMethod ({ cls := "GluedHour$Course", name := "begin", desc := "(LGluedHour$Republic;)V" } : Jvm.MethodName)) ∈ lw_gd := tb_3 (i := 79) rfl rfl
theorem wd_655 : (Jvm.Cond.selects "GluedHour$Course" ({ cls := "GluedHour$Course", name := "begin", desc := "(LGluedHour$Republic;)V" } : Jvm.MethodName) ({ cls := "GluedHour$Course", name := "begin", desc := "(LGluedHour$Republic;)V" } : Jvm.MethodName)) ∈ lw_gd := tb_3 (i := 80) rfl rfl
theorem wd_656 : (Jvm.Cond.code ({ cls := "GluedHour$Course", name := "begin", desc := "(LGluedHour$Republic;)V" } : Jvm.MethodName) prog_2_method_2_code (5 : Nat) (Option.none : Option Jvm.ClassFile.FieldType)) ∈ lw_gd := tb_3 (i := 81) rfl rfl
theorem wd_657 : (Jvm.Cond.methodLink "GluedHour$Course" (32 : Nat) ({ cls := "GluedHour$Republic", name := "worthOfDeeds", desc := "(I)I" } : Jvm.MethodName)) ∈ lw_gd := tb_3 (i := 82) rfl rfl
theorem wd_658 : (Jvm.Cond.instanceMethod ({ cls := "GluedHour$Republic", name := "worthOfDeeds", desc := "(I)I" } : Jvm.MethodName)) ∈ lw_gd := tb_3 (i := 83) rfl rfl
theorem wd_659 : (Jvm.Cond.selects "GluedHour$Republic" ({ cls := "GluedHour$Republic", name := "worthOfDeeds", desc := "(I)I" } : Jvm.MethodName) ({ cls := "GluedHour$Republic", name := "worthOfDeeds", desc := "(I)I" } : Jvm.MethodName)) ∈ lw_gd := tb_3 (i := 84) rfl rfl
theorem wd_660 : (Jvm.Cond.code ({ cls := "GluedHour$Republic", name := "worthOfDeeds", desc := "(I)I" } : Jvm.MethodName) prog_8_method_13_code (4 : Nat) (Option.some Jvm.ClassFile.FieldType.int)) ∈ lw_gd := tb_3 (i := 85) rfl rfl
theorem wd_661 : (Jvm.Cond.methodLink "GluedHour$Republic" (61 : Nat) ({ cls := "GluedHour$Republic", name := "deedAt", desc := "(II)I" } : Jvm.MethodName)) ∈ lw_gd := tb_3 (i := 86) rfl rfl
theorem wd_662 : (Jvm.Cond.instanceMethod ({ cls := "GluedHour$Republic", name := "deedAt", desc := "(II)I" } : Jvm.MethodName)) ∈ lw_gd := tb_3 (i := 87) rfl rfl
theorem wd_663 : (Jvm.Cond.selects "GluedHour$Republic" ({ cls := "GluedHour$Republic", name := "deedAt", desc := "(II)I" } : Jvm.MethodName) ({ cls := "GluedHour$Republic", name := "deedAt", desc := "(II)I" } : Jvm.MethodName)) ∈ lw_gd := tb_3 (i := 88) rfl rfl
theorem wd_664 : (Jvm.Cond.code ({ cls := "GluedHour$Republic", name := "deedAt", desc := "(II)I" } : Jvm.MethodName) prog_8_method_7_code (3 : Nat) (Option.some Jvm.ClassFile.FieldType.int)) ∈ lw_gd := tb_3 (i := 89) rfl rfl
theorem wd_665 : (Jvm.Cond.methodLink "GluedHour$Republic" (43 : Nat) ({ cls := "GluedHour$Republic", name := "hasPerson", desc := "(I)Z" } : Jvm.MethodName)) ∈ lw_gd := tb_3 (i := 90) rfl rfl
theorem wd_666 : (Jvm.Cond.instanceMethod ({ cls := "GluedHour$Republic", name := "hasPerson", desc := "(I)Z" } : Jvm.MethodName)) ∈ lw_gd := tb_3 (i := 91) rfl rfl
theorem wd_667 : (Jvm.Cond.selects "GluedHour$Republic" ({ cls := "GluedHour$Republic", name := "hasPerson", desc := "(I)Z" } : Jvm.MethodName) ({ cls := "GluedHour$Republic", name := "hasPerson", desc := "(I)Z" } : Jvm.MethodName)) ∈ lw_gd := tb_3 (i := 92) rfl rfl
theorem wd_668 : (Jvm.Cond.code ({ cls := "GluedHour$Republic", name := "hasPerson", desc := "(I)Z" } : Jvm.MethodName) prog_8_method_5_code (2 : Nat) (Option.some Jvm.ClassFile.FieldType.boolean)) ∈ lw_gd := tb_3 (i := 93) rfl rfl
theorem wd_669 : (Jvm.Cond.methodLink "GluedHour$Republic" (47 : Nat) ({ cls := "GluedHour$Republic", name := "hasHour", desc := "(I)Z" } : Jvm.MethodName)) ∈ lw_gd := tb_3 (i := 94) rfl rfl
theorem wd_670 : (Jvm.Cond.instanceMethod ({ cls := "GluedHour$Republic", name := "hasHour", desc := "(I)Z" } : Jvm.MethodName)) ∈ lw_gd := tb_3 (i := 95) rfl rfl
theorem wd_671 : (Jvm.Cond.selects "GluedHour$Republic" ({ cls := "GluedHour$Republic", name := "hasHour", desc := "(I)Z" } : Jvm.MethodName) ({ cls := "GluedHour$Republic", name := "hasHour", desc := "(I)Z" } : Jvm.MethodName)) ∈ lw_gd := tb_3 (i := 96) rfl rfl
theorem wd_672 : (Jvm.Cond.code ({ cls := "GluedHour$Republic", name := "hasHour", desc := "(I)Z" } : Jvm.MethodName) prog_8_method_4_code (2 : Nat) (Option.some Jvm.ClassFile.FieldType.boolean)) ∈ lw_gd := tb_3 (i := 97) rfl rfl
theorem wd_673 : (Jvm.Cond.methodLink "GluedHour$Republic" (58 : Nat) ({ cls := "GluedHour$Republic", name := "worthOf", desc := "(I)I" } : Jvm.MethodName)) ∈ lw_gd := tb_3 (i := 98) rfl rfl
theorem wd_674 : (Jvm.Cond.instanceMethod ({ cls := "GluedHour$Republic", name := "worthOf", desc := "(I)I" } : Jvm.MethodName)) ∈ lw_gd := tb_3 (i := 99) rfl rfl
theorem wd_675 : (Jvm.Cond.selects "GluedHour$Republic" ({ cls := "GluedHour$Republic", name := "worthOf", desc := "(I)I" } : Jvm.MethodName) ({ cls := "GluedHour$Republic", name := "worthOf", desc := "(I)I" } : Jvm.MethodName)) ∈ lw_gd := tb_3 (i := 100) rfl rfl
theorem wd_676 : (Jvm.Cond.code ({ cls := "GluedHour$Republic", name := "worthOf", desc := "(I)I" } : Jvm.MethodName) prog_8_method_9_code (2 : Nat) (Option.some Jvm.ClassFile.FieldType.int)) ∈ lw_gd := tb_3 (i := 101) rfl rfl
theorem wd_677 : (Jvm.Cond.methodLink "GluedHour$Course" (36 : Nat) ({ cls := "GluedHour$Republic", name := "deedAt", desc := "(II)I" } : Jvm.MethodName)) ∈ lw_gd := tb_3 (i := 102) rfl rfl
theorem wd_678 : (Jvm.Cond.methodLink "GluedHour$Course" (40 : Nat) ({ cls := "GluedHour$Republic", name := "extraOf", desc := "(I)I" } : Jvm.MethodName)) ∈ lw_gd := tb_3 (i := 103) rfl rfl
theorem wd_679 : (Jvm.Cond.instanceMethod ({ cls := "GluedHour$Republic", name := "extraOf", desc := "(I)I" } : Jvm.MethodName)) ∈ lw_gd := tb_3 (i := 104) rfl rfl
theorem wd_680 : (Jvm.Cond.selects "GluedHour$Republic" ({ cls := "GluedHour$Republic", name := "extraOf", desc := "(I)I" } : Jvm.MethodName) ({ cls := "GluedHour$Republic", name := "extraOf", desc := "(I)I" } : Jvm.MethodName)) ∈ lw_gd := tb_3 (i := 105) rfl rfl
theorem wd_681 : (Jvm.Cond.code ({ cls := "GluedHour$Republic", name := "extraOf", desc := "(I)I" } : Jvm.MethodName) prog_8_method_11_code (2 : Nat) (Option.some Jvm.ClassFile.FieldType.int)) ∈ lw_gd := tb_3 (i := 106) rfl rfl
theorem wd_682 : (Jvm.Cond.methodLink "GluedHour$Republic" (50 : Nat) ({ cls := "GluedHour$Republic", name := "modeOf", desc := "(I)I" } : Jvm.MethodName)) ∈ lw_gd := tb_3 (i := 107) rfl rfl
theorem wd_683 : (Jvm.Cond.instanceMethod ({ cls := "GluedHour$Republic", name := "modeOf", desc := "(I)I" } : Jvm.MethodName)) ∈ lw_gd := tb_3 (i := 108) rfl rfl
theorem wd_684 : (Jvm.Cond.selects "GluedHour$Republic" ({ cls := "GluedHour$Republic", name := "modeOf", desc := "(I)I" } : Jvm.MethodName) ({ cls := "GluedHour$Republic", name := "modeOf", desc := "(I)I" } : Jvm.MethodName)) ∈ lw_gd := tb_3 (i := 109) rfl rfl
theorem wd_685 : (Jvm.Cond.code ({ cls := "GluedHour$Republic", name := "modeOf", desc := "(I)I" } : Jvm.MethodName) prog_8_method_10_code (2 : Nat) (Option.some Jvm.ClassFile.FieldType.int)) ∈ lw_gd := tb_3 (i := 110) rfl rfl
theorem wd_686 : (Jvm.Cond.methodLink "GluedHour$Republic" (54 : Nat) ({ cls := "GluedHour$Republic", name := "extraBy", desc := "(II)I" } : Jvm.MethodName)) ∈ lw_gd := tb_3 (i := 111) rfl rfl
theorem wd_687 : (Jvm.Cond.instanceMethod ({ cls := "GluedHour$Republic", name := "extraBy", desc := "(II)I" } : Jvm.MethodName)) ∈ lw_gd := tb_3 (i := 112) rfl rfl
theorem wd_688 : (Jvm.Cond.selects "GluedHour$Republic" ({ cls := "GluedHour$Republic", name := "extraBy", desc := "(II)I" } : Jvm.MethodName) ({ cls := "GluedHour$Republic", name := "extraBy", desc := "(II)I" } : Jvm.MethodName)) ∈ lw_gd := tb_3 (i := 113) rfl rfl
theorem wd_689 : (Jvm.Cond.code ({ cls := "GluedHour$Republic", name := "extraBy", desc := "(II)I" } : Jvm.MethodName) prog_8_method_12_code (3 : Nat) (Option.some Jvm.ClassFile.FieldType.int)) ∈ lw_gd := tb_3 (i := 114) rfl rfl
theorem wd_690 : (Jvm.Cond.methodLink "GluedHour" (118 : Nat) ({ cls := "GluedHour$Course", name := "poorest", desc := "()I" } : Jvm.MethodName)) ∈ lw_gd := tb_3 (i := 115) rfl rfl
theorem wd_691 : (Jvm.Cond.instanceMethod ({ cls := "GluedHour$Course", name := "poorest", desc := "()I" } : Jvm.MethodName)) ∈ lw_gd := tb_3 (i := 116) rfl rfl
theorem wd_692 : (Jvm.Cond.selects "GluedHour$Course" ({ cls := "GluedHour$Course", name := "poorest", desc := "()I" } : Jvm.MethodName) ({ cls := "GluedHour$Course", name := "poorest", desc := "()I" } : Jvm.MethodName)) ∈ lw_gd := tb_3 (i := 117) rfl rfl
theorem wd_693 : (Jvm.Cond.code ({ cls := "GluedHour$Course", name := "poorest", desc := "()I" } : Jvm.MethodName) prog_2_method_3_code (3 : Nat) (Option.some Jvm.ClassFile.FieldType.int)) ∈ lw_gd := tb_3 (i := 118) rfl rfl
theorem wd_694 : (Jvm.Cond.methodLink "GluedHour" (186 : Nat) ({ cls := "GluedHour$Odds", name := "weigh", desc := "(LGluedHour$Republic;I)V" } : Jvm.MethodName)) ∈ lw_gd := tb_3 (i := 119) rfl rfl
theorem wd_695 : (Jvm.Cond.instanceMethod ({ cls := "GluedHour$Odds", name := "weigh", desc := "(LGluedHour$Republic;I)V" } : Jvm.MethodName)) ∈ lw_gd := tb_3 (i := 120) rfl rfl
theorem wd_696 : (Jvm.Cond.selects "GluedHour$Odds" ({ cls := "GluedHour$Odds", name := "weigh", desc := "(LGluedHour$Republic;I)V" } : Jvm.MethodName) ({ cls := "GluedHour$Odds", name := "weigh", desc := "(LGluedHour$Republic;I)V" } : Jvm.MethodName)) ∈ lw_gd := tb_3 (i := 121) rfl rfl
theorem wd_697 : (Jvm.Cond.code ({ cls := "GluedHour$Odds", name := "weigh", desc := "(LGluedHour$Republic;I)V" } : Jvm.MethodName) prog_5_method_2_code (4 : Nat) (Option.none : Option Jvm.ClassFile.FieldType)) ∈ lw_gd := tb_3 (i := 122) rfl rfl
theorem wd_698 : (Jvm.Cond.methodLink "GluedHour$Odds" (25 : Nat) ({ cls := "GluedHour$Republic", name := "lotAt", desc := "(II)I" } : Jvm.MethodName)) ∈ lw_gd := tb_3 (i := 123) rfl rfl
theorem wd_699 : (Jvm.Cond.instanceMethod ({ cls := "GluedHour$Republic", name := "lotAt", desc := "(II)I" } : Jvm.MethodName)) ∈ lw_gd := tb_3 (i := 124) rfl rfl
theorem wd_700 : (Jvm.Cond.selects "GluedHour$Republic" ({ cls := "GluedHour$Republic", name := "lotAt", desc := "(II)I" } : Jvm.MethodName) ({ cls := "GluedHour$Republic", name := "lotAt", desc := "(II)I" } : Jvm.MethodName)) ∈ lw_gd := tb_3 (i := 125) rfl rfl
theorem wd_701 : (Jvm.Cond.code ({ cls := "GluedHour$Republic", name := "lotAt", desc := "(II)I" } : Jvm.MethodName) prog_8_method_8_code (3 : Nat) (Option.some Jvm.ClassFile.FieldType.int)) ∈ lw_gd := tb_3 (i := 126) rfl rfl
theorem wd_702 : (Jvm.Cond.methodLink "GluedHour" (103 : Nat) ({ cls := "GluedHour$Republic", name := "worthOf", desc := "(I)I" } : Jvm.MethodName)) ∈ lw_gd := tb_3 (i := 127) rfl rfl
theorem wd_703 : (Jvm.Cond.methodLink "GluedHour" (109 : Nat) ({ cls := "GluedHour$Republic", name := "modeOf", desc := "(I)I" } : Jvm.MethodName)) ∈ lw_gd := tb_3 (i := 128) rfl rfl
theorem wd_704 : (Jvm.Cond.methodLink "GluedHourLaw" (36 : Nat) ({ cls := "GluedHour", name := "person", desc := "(III)I" } : Jvm.MethodName)) ∈ lw_gd := tb_3 (i := 129) rfl rfl
theorem wd_705 : (Jvm.Cond.instanceMethod ({ cls := "GluedHour", name := "person", desc := "(III)I" } : Jvm.MethodName)) ∈ lw_gd := tb_3 (i := 130) rfl rfl
theorem wd_706 : (Jvm.Cond.selects "GluedHour" ({ cls := "GluedHour", name := "person", desc := "(III)I" } : Jvm.MethodName) ({ cls := "GluedHour", name := "person", desc := "(III)I" } : Jvm.MethodName)) ∈ lw_gd := tb_3 (i := 131) rfl rfl
theorem wd_707 : (Jvm.Cond.code ({ cls := "GluedHour", name := "person", desc := "(III)I" } : Jvm.MethodName) prog_1_method_7_code (5 : Nat) (Option.some Jvm.ClassFile.FieldType.int)) ∈ lw_gd := tb_3 (i := 132) rfl rfl
theorem wd_708 : (Jvm.Cond.methodLink "GluedHour" (125 : Nat) ({ cls := "GluedHour$Republic", name := "hasPerson", desc := "(I)Z" } : Jvm.MethodName)) ∈ lw_gd := tb_3 (i := 133) rfl rfl
theorem wd_709 : (Jvm.Cond.methodLink "GluedHour" (132 : Nat) ({ cls := "GluedHour$Republic", name := "deedAt", desc := "(II)I" } : Jvm.MethodName)) ∈ lw_gd := tb_3 (i := 134) rfl rfl
theorem wd_710 : (Jvm.Cond.methodLink "GluedHour" (136 : Nat) ({ cls := "GluedHour$Republic", name := "lotAt", desc := "(II)I" } : Jvm.MethodName)) ∈ lw_gd := tb_3 (i := 135) rfl rfl
theorem wd_711 : (Jvm.Cond.methodLink "GluedHourLaw" (41 : Nat) ({ cls := "GluedHour", name := "value", desc := "(III)I" } : Jvm.MethodName)) ∈ lw_gd := tb_3 (i := 136) rfl rfl
theorem wd_712 : (Jvm.Cond.instanceMethod ({ cls := "GluedHour", name := "value", desc := "(III)I" } : Jvm.MethodName)) ∈ lw_gd := tb_3 (i := 137) rfl rfl
theorem wd_713 : (Jvm.Cond.selects "GluedHour" ({ cls := "GluedHour", name := "value", desc := "(III)I" } : Jvm.MethodName) ({ cls := "GluedHour", name := "value", desc := "(III)I" } : Jvm.MethodName)) ∈ lw_gd := tb_3 (i := 138) rfl rfl
theorem wd_714 : (Jvm.Cond.code ({ cls := "GluedHour", name := "value", desc := "(III)I" } : Jvm.MethodName) prog_1_method_8_code (5 : Nat) (Option.some Jvm.ClassFile.FieldType.int)) ∈ lw_gd := tb_3 (i := 139) rfl rfl
theorem wd_715 : (Jvm.Cond.methodLink "GluedHour" (139 : Nat) ({ cls := "GluedHour$Republic", name := "hasPersonOrAll", desc := "(I)Z" } : Jvm.MethodName)) ∈ lw_gd := tb_3 (i := 140) rfl rfl
theorem wd_716 : (Jvm.Cond.instanceMethod ({ cls := "GluedHour$Republic", name := "hasPersonOrAll", desc := "(I)Z" } : Jvm.MethodName)) ∈ lw_gd := tb_3 (i := 141) rfl rfl
theorem wd_717 : (Jvm.Cond.selects "GluedHour$Republic" ({ cls := "GluedHour$Republic", name := "hasPersonOrAll", desc := "(I)Z" } : Jvm.MethodName) ({ cls := "GluedHour$Republic", name := "hasPersonOrAll", desc := "(I)Z" } : Jvm.MethodName)) ∈ lw_gd := tb_3 (i := 142) rfl rfl
theorem wd_718 : (Jvm.Cond.code ({ cls := "GluedHour$Republic", name := "hasPersonOrAll", desc := "(I)Z" } : Jvm.MethodName) prog_8_method_6_code (2 : Nat) (Option.some Jvm.ClassFile.FieldType.boolean)) ∈ lw_gd := tb_3 (i := 143) rfl rfl
theorem wd_719 : (Jvm.Cond.methodLink "GluedHour" (142 : Nat) ({ cls := "GluedHour$Republic", name := "hasHour", desc := "(I)Z" } : Jvm.MethodName)) ∈ lw_gd := tb_3 (i := 144) rfl rfl
theorem wd_720 : (Jvm.Cond.constant "GluedHour" (145 : Nat) (-1000000 : Int32)) ∈ lw_gd := tb_3 (i := 145) rfl rfl
theorem wd_721 : (Jvm.Cond.methodLink "GluedHour" (146 : Nat) ({ cls := "GluedHour$Course", name := "brings", desc := "(II)I" } : Jvm.MethodName)) ∈ lw_gd := tb_3 (i := 146) rfl rfl
theorem wd_722 : (Jvm.Cond.instanceMethod ({ cls := "GluedHour$Course", name := "brings", desc := "(II)I" } : Jvm.MethodName)) ∈ lw_gd := tb_3 (i := 147) rfl rfl
theorem wd_723 : (Jvm.Cond.selects "GluedHour$Course" ({ cls := "GluedHour$Course", name := "brings", desc := "(II)I" } : Jvm.MethodName) ({ cls := "GluedHour$Course", name := "brings", desc := "(II)I" } : Jvm.MethodName)) ∈ lw_gd := tb_3 (i := 148) rfl rfl
theorem wd_724 : (Jvm.Cond.code ({ cls := "GluedHour$Course", name := "brings", desc := "(II)I" } : Jvm.MethodName) prog_2_method_6_code (5 : Nat) (Option.some Jvm.ClassFile.FieldType.int)) ∈ lw_gd := tb_3 (i := 149) rfl rfl
theorem wd_725 : (Jvm.Cond.methodLink "GluedHourLaw" (45 : Nat) ({ cls := "GluedHour", name := "odds", desc := "(IIZ)I" } : Jvm.MethodName)) ∈ lw_gd := tb_3 (i := 150) rfl rfl
theorem wd_726 : (Jvm.Cond.instanceMethod ({ cls := "GluedHour", name := "odds", desc := "(IIZ)I" } : Jvm.MethodName)) ∈ lw_gd := tb_3 (i := 151) rfl rfl
theorem wd_727 : (Jvm.Cond.selects "GluedHour" ({ cls := "GluedHour", name := "odds", desc := "(IIZ)I" } : Jvm.MethodName) ({ cls := "GluedHour", name := "odds", desc := "(IIZ)I" } : Jvm.MethodName)) ∈ lw_gd := tb_3 (i := 152) rfl rfl
theorem wd_728 : (Jvm.Cond.code ({ cls := "GluedHour", name := "odds", desc := "(IIZ)I" } : Jvm.MethodName) prog_1_method_9_code (5 : Nat) (Option.some Jvm.ClassFile.FieldType.int)) ∈ lw_gd := tb_3 (i := 153) rfl rfl
theorem wd_729 : (Jvm.Cond.methodLink "GluedHour" (155 : Nat) ({ cls := "GluedHour$Fraction", name := "side", desc := "(JJZ)J" } : Jvm.MethodName)) ∈ lw_gd := tb_3 (i := 154) rfl rfl
theorem wd_730 : (Jvm.Cond.static ({ cls := "GluedHour$Fraction", name := "side", desc := "(JJZ)J" } : Jvm.MethodName)) ∈ lw_gd := tb_3 (i := 155) rfl rfl
theorem wd_731 : (Jvm.Cond.code ({ cls := "GluedHour$Fraction", name := "side", desc := "(JJZ)J" } : Jvm.MethodName) prog_3_method_5_code (7 : Nat) (Option.some Jvm.ClassFile.FieldType.long)) ∈ lw_gd := tb_3 (i := 156) rfl rfl
theorem wd_732 : (Jvm.Cond.methodLink "GluedHour$Fraction" (20 : Nat) ({ cls := "GluedHour$Fraction", name := "divisor", desc := "(JJ)J" } : Jvm.MethodName)) ∈ lw_gd := tb_3 (i := 157) rfl rfl
theorem wd_733 : (Jvm.Cond.static ({ cls := "GluedHour$Fraction", name := "divisor", desc := "(JJ)J" } : Jvm.MethodName)) ∈ lw_gd := tb_3 (i := 158) rfl rfl
theorem wd_734 : (Jvm.Cond.code ({ cls := "GluedHour$Fraction", name := "divisor", desc := "(JJ)J" } : Jvm.MethodName) prog_3_method_6_code (11 : Nat) (Option.some Jvm.ClassFile.FieldType.long)) ∈ lw_gd := tb_3 (i := 159) rfl rfl
theorem wd_735 : (Jvm.Cond.methodLink "GluedHour$Fraction" (28 : Nat) ({ cls := "java/lang/Math", name := "abs", desc := "(J)J" } : Jvm.MethodName)) ∈ lw_gd := tb_3 (i := 160) rfl rfl
theorem wd_736 : (Jvm.Cond.static ({ cls := "java/lang/Math", name := "abs", desc := "(J)J" } : Jvm.MethodName)) ∈ lw_gd := tb_3 (i := 161) rfl rfl
theorem wd_737 : (Jvm.Cond.code ({ cls := "java/lang/Math", name := "abs", desc := "(J)J" } : Jvm.MethodName) prog_13_method_61_code (2 : Nat) (Option.some Jvm.ClassFile.FieldType.long)) ∈ lw_gd := tb_3 (i := 162) rfl rfl
theorem wd_738 : (Jvm.Cond.methodLink "GluedHour$Fraction" (34 : Nat) ({ cls := "java/lang/Math", name := "max", desc := "(JJ)J" } : Jvm.MethodName)) ∈ lw_gd := tb_3 (i := 163) rfl rfl
theorem wd_739 : (Jvm.Cond.static ({ cls := "java/lang/Math", name := "max", desc := "(JJ)J" } : Jvm.MethodName)) ∈ lw_gd := tb_3 (i := 164) rfl rfl
theorem wd_740 : (Jvm.Cond.code ({ cls := "java/lang/Math", name := "max", desc := "(JJ)J" } : Jvm.MethodName) prog_13_method_66_code (4 : Nat) (Option.some Jvm.ClassFile.FieldType.long)) ∈ lw_gd := tb_3 (i := 165) rfl rfl
theorem wd_741 : (Jvm.Cond.methodLink "GluedHourLaw" (50 : Nat) ({ cls := "GluedHour", name := "day", desc := "(II)I" } : Jvm.MethodName)) ∈ lw_gd := tb_3 (i := 166) rfl rfl
theorem wd_742 : (Jvm.Cond.instanceMethod ({ cls := "GluedHour", name := "day", desc := "(II)I" } : Jvm.MethodName)) ∈ lw_gd := tb_3 (i := 167) rfl rfl
theorem wd_743 : (Jvm.Cond.selects "GluedHour" ({ cls := "GluedHour", name := "day", desc := "(II)I" } : Jvm.MethodName) ({ cls := "GluedHour", name := "day", desc := "(II)I" } : Jvm.MethodName)) ∈ lw_gd := tb_3 (i := 168) rfl rfl
theorem wd_744 : (Jvm.Cond.code ({ cls := "GluedHour", name := "day", desc := "(II)I" } : Jvm.MethodName) prog_1_method_10_code (4 : Nat) (Option.some Jvm.ClassFile.FieldType.int)) ∈ lw_gd := tb_3 (i := 169) rfl rfl
theorem wd_745 : (Jvm.Cond.methodLink "GluedHour" (159 : Nat) ({ cls := "GluedHour$Told", name := "linesAt", desc := "(II)LGluedHour$Lines;" } : Jvm.MethodName)) ∈ lw_gd := tb_3 (i := 170) rfl rfl
theorem wd_746 : (Jvm.Cond.instanceMethod ({ cls := "GluedHour$Told", name := "linesAt", desc := "(II)LGluedHour$Lines;" } : Jvm.MethodName)) ∈ lw_gd := tb_3 (i := 171) rfl rfl
theorem wd_747 : (Jvm.Cond.selects "GluedHour$Told" ({ cls := "GluedHour$Told", name := "linesAt", desc := "(II)LGluedHour$Lines;" } : Jvm.MethodName) ({ cls := "GluedHour$Told", name := "linesAt", desc := "(II)LGluedHour$Lines;" } : Jvm.MethodName)) ∈ lw_gd := tb_3 (i := 172) rfl rfl
theorem wd_748 : (Jvm.Cond.code ({ cls := "GluedHour$Told", name := "linesAt", desc := "(II)LGluedHour$Lines;" } : Jvm.MethodName) prog_10_method_4_code (3 : Nat) (Option.some (Jvm.ClassFile.FieldType.object "GluedHour$Lines"))) ∈ lw_gd := tb_3 (i := 173) rfl rfl
theorem wd_749 : (Jvm.Cond.methodLink "GluedHour" (168 : Nat) ({ cls := "GluedHour$Lines", name := "has", desc := "(I)Z" } : Jvm.MethodName)) ∈ lw_gd := tb_3 (i := 174) rfl rfl
theorem wd_750 : (Jvm.Cond.instanceMethod ({ cls := "GluedHour$Lines", name := "has", desc := "(I)Z" } : Jvm.MethodName)) ∈ lw_gd := tb_3 (i := 175) rfl rfl
theorem wd_751 : (Jvm.Cond.selects "GluedHour$Lines" ({ cls := "GluedHour$Lines", name := "has", desc := "(I)Z" } : Jvm.MethodName) ({ cls := "GluedHour$Lines", name := "has", desc := "(I)Z" } : Jvm.MethodName)) ∈ lw_gd := tb_3 (i := 176) rfl rfl
theorem wd_752 : (Jvm.Cond.code ({ cls := "GluedHour$Lines", name := "has", desc := "(I)Z" } : Jvm.MethodName) prog_4_method_2_code (2 : Nat) (Option.some Jvm.ClassFile.FieldType.boolean)) ∈ lw_gd := tb_3 (i := 177) rfl rfl
theorem wd_753 : (Jvm.Cond.methodLink "GluedHour" (171 : Nat) ({ cls := "GluedHour$Lines", name := "cell", desc := "(II)I" } : Jvm.MethodName)) ∈ lw_gd := tb_3 (i := 178) rfl rfl
theorem wd_754 : (Jvm.Cond.instanceMethod ({ cls := "GluedHour$Lines", name := "cell", desc := "(II)I" } : Jvm.MethodName)) ∈ lw_gd := tb_3 (i := 179) rfl rfl
theorem wd_755 : (Jvm.Cond.selects "GluedHour$Lines" ({ cls := "GluedHour$Lines", name := "cell", desc := "(II)I" } : Jvm.MethodName) ({ cls := "GluedHour$Lines", name := "cell", desc := "(II)I" } : Jvm.MethodName)) ∈ lw_gd := tb_3 (i := 180) rfl rfl
theorem wd_756 : (Jvm.Cond.code ({ cls := "GluedHour$Lines", name := "cell", desc := "(II)I" } : Jvm.MethodName) prog_4_method_3_code (3 : Nat) (Option.some Jvm.ClassFile.FieldType.int)) ∈ lw_gd := tb_3 (i := 181) rfl rfl
theorem wd_757 : (Jvm.Cond.methodLink "GluedHour$Lines" (31 : Nat) ({ cls := "GluedHour$Lines", name := "has", desc := "(I)Z" } : Jvm.MethodName)) ∈ lw_gd := tb_3 (i := 182) rfl rfl
theorem wd_758 : (Jvm.Cond.methodLink "GluedHourLaw" (54 : Nat) ({ cls := "GluedHour", name := "purse", desc := "(IIII)I" } : Jvm.MethodName)) ∈ lw_gd := tb_3 (i := 183) rfl rfl
theorem wd_759 : (Jvm.Cond.instanceMethod ({ cls := "GluedHour", name := "purse", desc := "(IIII)I" } : Jvm.MethodName)) ∈ lw_gd := tb_3 (i := 184) rfl rfl
theorem wd_760 : (Jvm.Cond.selects "GluedHour" ({ cls := "GluedHour", name := "purse", desc := "(IIII)I" } : Jvm.MethodName) ({ cls := "GluedHour", name := "purse", desc := "(IIII)I" } : Jvm.MethodName)) ∈ lw_gd := tb_3 (i := 185) rfl rfl
theorem wd_761 : (Jvm.Cond.code ({ cls := "GluedHour", name := "purse", desc := "(IIII)I" } : Jvm.MethodName) prog_1_method_11_code (8 : Nat) (Option.some Jvm.ClassFile.FieldType.int)) ∈ lw_gd := tb_3 (i := 186) rfl rfl
theorem wd_762 : (Jvm.Cond.methodLink "GluedHour" (174 : Nat) ({ cls := "GluedHour", name := "stops", desc := "(LGluedHour$Republic;LGluedHour$Lines;I)Z" } : Jvm.MethodName)) ∈ lw_gd := tb_3 (i := 187) rfl rfl
theorem wd_763 : (Jvm.Cond.static ({ cls := "GluedHour", name := "stops", desc := "(LGluedHour$Republic;LGluedHour$Lines;I)Z" } : Jvm.MethodName)) ∈ lw_gd := tb_3 (i := 188) rfl rfl
theorem wd_764 : (Jvm.Cond.code ({ cls := "GluedHour", name := "stops", desc := "(LGluedHour$Republic;LGluedHour$Lines;I)Z" } : Jvm.MethodName) prog_1_method_40_code (4 : Nat) (Option.some Jvm.ClassFile.FieldType.boolean)) ∈ lw_gd := tb_3 (i := 189) rfl rfl
theorem wd_765 : (Jvm.Cond.methodLink "GluedHour" (178 : Nat) ({ cls := "GluedHour$Course", name := "live", desc := "(I)V" } : Jvm.MethodName)) ∈ lw_gd := tb_3 (i := 190) rfl rfl
theorem wd_766 : (Jvm.Cond.instanceMethod ({ cls := "GluedHour$Course", name := "live", desc := "(I)V" } : Jvm.MethodName)) ∈ lw_gd := tb_3 (i := 191) rfl rfl
theorem wd_767 : (Jvm.Cond.selects "GluedHour$Course" ({ cls := "GluedHour$Course", name := "live", desc := "(I)V" } : Jvm.MethodName) ({ cls := "GluedHour$Course", name := "live", desc := "(I)V" } : Jvm.MethodName)) ∈ lw_gd := tb_3 (i := 192) rfl rfl
theorem wd_768 : (Jvm.Cond.code ({ cls := "GluedHour$Course", name := "live", desc := "(I)V" } : Jvm.MethodName) prog_2_method_4_code (3 : Nat) (Option.none : Option Jvm.ClassFile.FieldType)) ∈ lw_gd := tb_3 (i := 193) rfl rfl
theorem wd_769 : (Jvm.Cond.methodLink "GluedHour$Course" (43 : Nat) ({ cls := "GluedHour$Course", name := "brings", desc := "(II)I" } : Jvm.MethodName)) ∈ lw_gd := tb_3 (i := 194) rfl rfl
theorem wd_770 : (Jvm.Cond.methodLink "GluedHourLaw" (59 : Nat) ({ cls := "GluedHour", name := "likely", desc := "(IIIZ)J" } : Jvm.MethodName)) ∈ lw_gd := tb_3 (i := 195) rfl rfl
theorem wd_771 : (Jvm.Cond.instanceMethod ({ cls := "GluedHour", name := "likely", desc := "(IIIZ)J" } : Jvm.MethodName)) ∈ lw_gd := tb_3 (i := 196) rfl rfl
theorem wd_772 : (Jvm.Cond.selects "GluedHour" ({ cls := "GluedHour", name := "likely", desc := "(IIIZ)J" } : Jvm.MethodName) ({ cls := "GluedHour", name := "likely", desc := "(IIIZ)J" } : Jvm.MethodName)) ∈ lw_gd := tb_3 (i := 197) rfl rfl
theorem wd_773 : (Jvm.Cond.code ({ cls := "GluedHour", name := "likely", desc := "(IIIZ)J" } : Jvm.MethodName) prog_1_method_12_code (13 : Nat) (Option.some Jvm.ClassFile.FieldType.long)) ∈ lw_gd := tb_3 (i := 198) rfl rfl
theorem wd_774 : (Jvm.Cond.constantLong "GluedHour" (184 : Nat) (-1 : Int64)) ∈ lw_gd := tb_3 (i := 199) rfl rfl
theorem wd_775 : (Jvm.Cond.methodLink "GluedHourLaw" (64 : Nat) ({ cls := "GluedHour", name := "drawn", desc := "(IIII)I" } : Jvm.MethodName)) ∈ lw_gd := tb_3 (i := 200) rfl rfl
theorem wd_776 : (Jvm.Cond.instanceMethod ({ cls := "GluedHour", name := "drawn", desc := "(IIII)I" } : Jvm.MethodName)) ∈ lw_gd := tb_3 (i := 201) rfl rfl
theorem wd_777 : (Jvm.Cond.selects "GluedHour" ({ cls := "GluedHour", name := "drawn", desc := "(IIII)I" } : Jvm.MethodName) ({ cls := "GluedHour", name := "drawn", desc := "(IIII)I" } : Jvm.MethodName)) ∈ lw_gd := tb_3 (i := 202) rfl rfl
theorem wd_778 : (Jvm.Cond.code ({ cls := "GluedHour", name := "drawn", desc := "(IIII)I" } : Jvm.MethodName) prog_1_method_13_code (11 : Nat) (Option.some Jvm.ClassFile.FieldType.int)) ∈ lw_gd := tb_3 (i := 203) rfl rfl
theorem wd_779 : (Jvm.Cond.constant "GluedHour" (190 : Nat) (1103515245 : Int32)) ∈ lw_gd := tb_3 (i := 204) rfl rfl
theorem wd_780 : (Jvm.Cond.methodLink "GluedHour" (191 : Nat) ({ cls := "GluedHour$Odds", name := "hourOf", desc := "(I)I" } : Jvm.MethodName)) ∈ lw_gd := tb_3 (i := 205) rfl rfl
theorem wd_781 : (Jvm.Cond.instanceMethod ({ cls := "GluedHour$Odds", name := "hourOf", desc := "(I)I" } : Jvm.MethodName)) ∈ lw_gd := tb_3 (i := 206) rfl rfl
theorem wd_782 : (Jvm.Cond.selects "GluedHour$Odds" ({ cls := "GluedHour$Odds", name := "hourOf", desc := "(I)I" } : Jvm.MethodName) ({ cls := "GluedHour$Odds", name := "hourOf", desc := "(I)I" } : Jvm.MethodName)) ∈ lw_gd := tb_3 (i := 207) rfl rfl
theorem wd_783 : (Jvm.Cond.code ({ cls := "GluedHour$Odds", name := "hourOf", desc := "(I)I" } : Jvm.MethodName) prog_5_method_4_code (4 : Nat) (Option.some Jvm.ClassFile.FieldType.int)) ∈ lw_gd := tb_3 (i := 208) rfl rfl
theorem wd_784 : (Jvm.Cond.methodLink "GluedHourLaw" (68 : Nat) ({ cls := "GluedHour", name := "mean", desc := "(IIZ)I" } : Jvm.MethodName)) ∈ lw_gd := tb_3 (i := 209) rfl rfl
theorem wd_785 : (Jvm.Cond.instanceMethod ({ cls := "GluedHour", name := "mean", desc := "(IIZ)I" } : Jvm.MethodName)) ∈ lw_gd := tb_3 (i := 210) rfl rfl
theorem wd_786 : (Jvm.Cond.selects "GluedHour" ({ cls := "GluedHour", name := "mean", desc := "(IIZ)I" } : Jvm.MethodName) ({ cls := "GluedHour", name := "mean", desc := "(IIZ)I" } : Jvm.MethodName)) ∈ lw_gd := tb_3 (i := 211) rfl rfl
theorem wd_787 : (Jvm.Cond.code ({ cls := "GluedHour", name := "mean", desc := "(IIZ)I" } : Jvm.MethodName) prog_1_method_14_code (5 : Nat) (Option.some Jvm.ClassFile.FieldType.int)) ∈ lw_gd := tb_3 (i := 212) rfl rfl
theorem wd_788 : (Jvm.Cond.methodLink "GluedHour" (194 : Nat) ({ cls := "GluedHour$Course", name := "weighed", desc := "(ILGluedHour$Odds;)J" } : Jvm.MethodName)) ∈ lw_gd := tb_3 (i := 213) rfl rfl
theorem wd_789 : (Jvm.Cond.instanceMethod ({ cls := "GluedHour$Course", name := "weighed", desc := "(ILGluedHour$Odds;)J" } : Jvm.MethodName)) ∈ lw_gd := tb_3 (i := 214) rfl rfl
theorem wd_790 : (Jvm.Cond.selects "GluedHour$Course" ({ cls := "GluedHour$Course", name := "weighed", desc := "(ILGluedHour$Odds;)J" } : Jvm.MethodName) ({ cls := "GluedHour$Course", name := "weighed", desc := "(ILGluedHour$Odds;)J" } : Jvm.MethodName)) ∈ lw_gd := tb_3 (i := 215) rfl rfl
theorem wd_791 : (Jvm.Cond.code ({ cls := "GluedHour$Course", name := "weighed", desc := "(ILGluedHour$Odds;)J" } : Jvm.MethodName) prog_2_method_8_code (6 : Nat) (Option.some Jvm.ClassFile.FieldType.long)) ∈ lw_gd := tb_3 (i := 216) rfl rfl
theorem wd_792 : (Jvm.Cond.methodLink "GluedHourLaw" (72 : Nat) ({ cls := "GluedHour", name := "gain", desc := "(IIIZ)I" } : Jvm.MethodName)) ∈ lw_gd := tb_3 (i := 217) rfl rfl
theorem wd_793 : (Jvm.Cond.instanceMethod ({ cls := "GluedHour", name := "gain", desc := "(IIIZ)I" } : Jvm.MethodName)) ∈ lw_gd := tb_3 (i := 218) rfl rfl
theorem wd_794 : (Jvm.Cond.selects "GluedHour" ({ cls := "GluedHour", name := "gain", desc := "(IIIZ)I" } : Jvm.MethodName) ({ cls := "GluedHour", name := "gain", desc := "(IIIZ)I" } : Jvm.MethodName)) ∈ lw_gd := tb_3 (i := 219) rfl rfl
theorem wd_795 : (Jvm.Cond.code ({ cls := "GluedHour", name := "gain", desc := "(IIIZ)I" } : Jvm.MethodName) prog_1_method_15_code (6 : Nat) (Option.some Jvm.ClassFile.FieldType.int)) ∈ lw_gd := tb_3 (i := 220) rfl rfl
theorem wd_796 : (Jvm.Cond.methodLink "GluedHour" (198 : Nat) ({ cls := "GluedHour", name := "gainBy", desc := "(II)J" } : Jvm.MethodName)) ∈ lw_gd := tb_3 (i := 221) rfl rfl
theorem wd_798 : (Jvm.Cond.instanceMethod ({ cls := "GluedHour", name := "gainBy", desc := "(II)J" } : Jvm.MethodName)) ∈ lw_gd := tb_3 (i := 223) rfl rfl
theorem wd_799 : (Jvm.Cond.code ({ cls := "GluedHour", name := "gainBy", desc := "(II)J" } : Jvm.MethodName) prog_1_method_41_code (3 : Nat) (Option.some Jvm.ClassFile.FieldType.long)) ∈ lw_gd := tb_3 (i := 224) rfl rfl
theorem wd_800 : (Jvm.Cond.methodLink "GluedHourLaw" (77 : Nat) ({ cls := "GluedHour", name := "wish", desc := "(II)I" } : Jvm.MethodName)) ∈ lw_gd := tb_3 (i := 225) rfl rfl
theorem wd_801 : (Jvm.Cond.instanceMethod ({ cls := "GluedHour", name := "wish", desc := "(II)I" } : Jvm.MethodName)) ∈ lw_gd := tb_3 (i := 226) rfl rfl
theorem wd_802 : (Jvm.Cond.selects "GluedHour" ({ cls := "GluedHour", name := "wish", desc := "(II)I" } : Jvm.MethodName) ({ cls := "GluedHour", name := "wish", desc := "(II)I" } : Jvm.MethodName)) ∈ lw_gd := tb_3 (i := 227) rfl rfl
theorem wd_803 : (Jvm.Cond.code ({ cls := "GluedHour", name := "wish", desc := "(II)I" } : Jvm.MethodName) prog_1_method_16_code (4 : Nat) (Option.some Jvm.ClassFile.FieldType.int)) ∈ lw_gd := tb_3 (i := 228) rfl rfl
theorem wd_804 : (Jvm.Cond.methodLink "GluedHour" (202 : Nat) ({ cls := "GluedHour$Course", name := "bestHour", desc := "(I)I" } : Jvm.MethodName)) ∈ lw_gd := tb_3 (i := 229) rfl rfl
theorem wd_805 : (Jvm.Cond.instanceMethod ({ cls := "GluedHour$Course", name := "bestHour", desc := "(I)I" } : Jvm.MethodName)) ∈ lw_gd := tb_3 (i := 230) rfl rfl
theorem wd_806 : (Jvm.Cond.selects "GluedHour$Course" ({ cls := "GluedHour$Course", name := "bestHour", desc := "(I)I" } : Jvm.MethodName) ({ cls := "GluedHour$Course", name := "bestHour", desc := "(I)I" } : Jvm.MethodName)) ∈ lw_gd := tb_3 (i := 231) rfl rfl
theorem wd_807 : (Jvm.Cond.code ({ cls := "GluedHour$Course", name := "bestHour", desc := "(I)I" } : Jvm.MethodName) prog_2_method_7_code (6 : Nat) (Option.some Jvm.ClassFile.FieldType.int)) ∈ lw_gd := tb_3 (i := 232) rfl rfl
theorem wd_808 : (Jvm.Cond.methodLink "GluedHourLaw" (81 : Nat) ({ cls := "GluedHour", name := "buyer", desc := "(II)I" } : Jvm.MethodName)) ∈ lw_gd := tb_3 (i := 233) rfl rfl
theorem wd_809 : (Jvm.Cond.instanceMethod ({ cls := "GluedHour", name := "buyer", desc := "(II)I" } : Jvm.MethodName)) ∈ lw_gd := tb_3 (i := 234) rfl rfl
theorem wd_810 : (Jvm.Cond.selects "GluedHour" ({ cls := "GluedHour", name := "buyer", desc := "(II)I" } : Jvm.MethodName) ({ cls := "GluedHour", name := "buyer", desc := "(II)I" } : Jvm.MethodName)) ∈ lw_gd := tb_3 (i := 235) rfl rfl
theorem wd_811 : (Jvm.Cond.code ({ cls := "GluedHour", name := "buyer", desc := "(II)I" } : Jvm.MethodName) prog_1_method_17_code (12 : Nat) (Option.some Jvm.ClassFile.FieldType.int)) ∈ lw_gd := tb_3 (i := 236) rfl rfl
theorem wd_812 : (Jvm.Cond.methodLink "GluedHour" (205 : Nat) ({ cls := "java/lang/Math", name := "max", desc := "(JJ)J" } : Jvm.MethodName)) ∈ lw_gd := tb_3 (i := 237) rfl rfl
theorem wd_813 : (Jvm.Cond.methodLink "GluedHourLaw" (85 : Nat) ({ cls := "GluedHour", name := "promise", desc := "(IIIZ)I" } : Jvm.MethodName)) ∈ lw_gd := tb_3 (i := 238) rfl rfl
theorem wd_814 : (Jvm.Cond.instanceMethod ({ cls := "GluedHour", name := "promise", desc := "(IIIZ)I" } : Jvm.MethodName)) ∈ lw_gd := tb_3 (i := 239) rfl rfl
theorem wd_815 : (Jvm.Cond.selects "GluedHour" ({ cls := "GluedHour", name := "promise", desc := "(IIIZ)I" } : Jvm.MethodName) ({ cls := "GluedHour", name := "promise", desc := "(IIIZ)I" } : Jvm.MethodName)) ∈ lw_gd := tb_4 (i := 0) rfl rfl
theorem wd_816 : (Jvm.Cond.code ({ cls := "GluedHour", name := "promise", desc := "(IIIZ)I" } : Jvm.MethodName) prog_1_method_18_code (10 : Nat) (Option.some Jvm.ClassFile.FieldType.int)) ∈ lw_gd := tb_4 (i := 1) rfl rfl
theorem wd_817 : (Jvm.Cond.methodLink "GluedHour" (211 : Nat) ({ cls := "GluedHour$Republic", name := "extraOf", desc := "(I)I" } : Jvm.MethodName)) ∈ lw_gd := tb_4 (i := 2) rfl rfl
theorem wd_818 : (Jvm.Cond.methodLink "GluedHourLaw" (89 : Nat) ({ cls := "GluedHour", name := "two", desc := "(IIII)I" } : Jvm.MethodName)) ∈ lw_gd := tb_4 (i := 3) rfl rfl
theorem wd_819 : (Jvm.Cond.instanceMethod ({ cls := "GluedHour", name := "two", desc := "(IIII)I" } : Jvm.MethodName)) ∈ lw_gd := tb_4 (i := 4) rfl rfl
theorem wd_820 : (Jvm.Cond.selects "GluedHour" ({ cls := "GluedHour", name := "two", desc := "(IIII)I" } : Jvm.MethodName) ({ cls := "GluedHour", name := "two", desc := "(IIII)I" } : Jvm.MethodName)) ∈ lw_gd := tb_4 (i := 5) rfl rfl
theorem wd_821 : (Jvm.Cond.code ({ cls := "GluedHour", name := "two", desc := "(IIII)I" } : Jvm.MethodName) prog_1_method_19_code (8 : Nat) (Option.some Jvm.ClassFile.FieldType.int)) ∈ lw_gd := tb_4 (i := 6) rfl rfl
theorem wd_822 : (Jvm.Cond.methodLink "GluedHour" (214 : Nat) ({ cls := "GluedHour$Republic", name := "worthOfDeeds", desc := "(I)I" } : Jvm.MethodName)) ∈ lw_gd := tb_4 (i := 7) rfl rfl
theorem wd_823 : (Jvm.Cond.methodLink "GluedHourLaw" (93 : Nat) ({ cls := "GluedHour", name := "shift", desc := "(III)I" } : Jvm.MethodName)) ∈ lw_gd := tb_4 (i := 8) rfl rfl
theorem wd_824 : (Jvm.Cond.instanceMethod ({ cls := "GluedHour", name := "shift", desc := "(III)I" } : Jvm.MethodName)) ∈ lw_gd := tb_4 (i := 9) rfl rfl
theorem wd_825 : (Jvm.Cond.selects "GluedHour" ({ cls := "GluedHour", name := "shift", desc := "(III)I" } : Jvm.MethodName) ({ cls := "GluedHour", name := "shift", desc := "(III)I" } : Jvm.MethodName)) ∈ lw_gd := tb_4 (i := 10) rfl rfl
theorem wd_826 : (Jvm.Cond.code ({ cls := "GluedHour", name := "shift", desc := "(III)I" } : Jvm.MethodName) prog_1_method_20_code (14 : Nat) (Option.some Jvm.ClassFile.FieldType.int)) ∈ lw_gd := tb_4 (i := 11) rfl rfl
theorem wd_827 : (Jvm.Cond.methodLink "GluedHourLaw" (97 : Nat) ({ cls := "GluedHour", name := "feud", desc := "(II)I" } : Jvm.MethodName)) ∈ lw_gd := tb_4 (i := 12) rfl rfl
theorem wd_828 : (Jvm.Cond.instanceMethod ({ cls := "GluedHour", name := "feud", desc := "(II)I" } : Jvm.MethodName)) ∈ lw_gd := tb_4 (i := 13) rfl rfl
theorem wd_829 : (Jvm.Cond.selects "GluedHour" ({ cls := "GluedHour", name := "feud", desc := "(II)I" } : Jvm.MethodName) ({ cls := "GluedHour", name := "feud", desc := "(II)I" } : Jvm.MethodName)) ∈ lw_gd := tb_4 (i := 14) rfl rfl
theorem wd_830 : (Jvm.Cond.code ({ cls := "GluedHour", name := "feud", desc := "(II)I" } : Jvm.MethodName) prog_1_method_21_code (10 : Nat) (Option.some Jvm.ClassFile.FieldType.int)) ∈ lw_gd := tb_4 (i := 15) rfl rfl
theorem wd_831 : (Jvm.Cond.methodLink "GluedHour" (217 : Nat) ({ cls := "GluedHour$Course", name := "apart", desc := "(II)I" } : Jvm.MethodName)) ∈ lw_gd := tb_4 (i := 16) rfl rfl
theorem wd_832 : (Jvm.Cond.instanceMethod ({ cls := "GluedHour$Course", name := "apart", desc := "(II)I" } : Jvm.MethodName)) ∈ lw_gd := tb_4 (i := 17) rfl rfl
theorem wd_833 : (Jvm.Cond.selects "GluedHour$Course" ({ cls := "GluedHour$Course", name := "apart", desc := "(II)I" } : Jvm.MethodName) ({ cls := "GluedHour$Course", name := "apart", desc := "(II)I" } : Jvm.MethodName)) ∈ lw_gd := tb_4 (i := 18) rfl rfl
theorem wd_834 : (Jvm.Cond.code ({ cls := "GluedHour$Course", name := "apart", desc := "(II)I" } : Jvm.MethodName) prog_2_method_9_code (5 : Nat) (Option.some Jvm.ClassFile.FieldType.int)) ∈ lw_gd := tb_4 (i := 19) rfl rfl
theorem wd_835 : (Jvm.Cond.methodLink "GluedHour$Course" (51 : Nat) ({ cls := "java/lang/Math", name := "abs", desc := "(I)I" } : Jvm.MethodName)) ∈ lw_gd := tb_4 (i := 20) rfl rfl
theorem wd_836 : (Jvm.Cond.static ({ cls := "java/lang/Math", name := "abs", desc := "(I)I" } : Jvm.MethodName)) ∈ lw_gd := tb_4 (i := 21) rfl rfl
theorem wd_837 : (Jvm.Cond.code ({ cls := "java/lang/Math", name := "abs", desc := "(I)I" } : Jvm.MethodName) prog_13_method_59_code (1 : Nat) (Option.some Jvm.ClassFile.FieldType.int)) ∈ lw_gd := tb_4 (i := 22) rfl rfl
theorem wd_838 : (Jvm.Cond.methodLink "GluedHourLaw" (101 : Nat) ({ cls := "GluedHour", name := "errand", desc := "(III)I" } : Jvm.MethodName)) ∈ lw_gd := tb_4 (i := 23) rfl rfl
theorem wd_839 : (Jvm.Cond.instanceMethod ({ cls := "GluedHour", name := "errand", desc := "(III)I" } : Jvm.MethodName)) ∈ lw_gd := tb_4 (i := 24) rfl rfl
theorem wd_840 : (Jvm.Cond.selects "GluedHour" ({ cls := "GluedHour", name := "errand", desc := "(III)I" } : Jvm.MethodName) ({ cls := "GluedHour", name := "errand", desc := "(III)I" } : Jvm.MethodName)) ∈ lw_gd := tb_4 (i := 25) rfl rfl
theorem wd_841 : (Jvm.Cond.code ({ cls := "GluedHour", name := "errand", desc := "(III)I" } : Jvm.MethodName) prog_1_method_22_code (4 : Nat) (Option.some Jvm.ClassFile.FieldType.int)) ∈ lw_gd := tb_4 (i := 26) rfl rfl
theorem wd_842 : (Jvm.Cond.methodLink "GluedHour" (220 : Nat) ({ cls := "GluedHour$Told", name := "lineCell", desc := "(IIIII)I" } : Jvm.MethodName)) ∈ lw_gd := tb_4 (i := 27) rfl rfl
theorem wd_843 : (Jvm.Cond.instanceMethod ({ cls := "GluedHour$Told", name := "lineCell", desc := "(IIIII)I" } : Jvm.MethodName)) ∈ lw_gd := tb_4 (i := 28) rfl rfl
theorem wd_844 : (Jvm.Cond.selects "GluedHour$Told" ({ cls := "GluedHour$Told", name := "lineCell", desc := "(IIIII)I" } : Jvm.MethodName) ({ cls := "GluedHour$Told", name := "lineCell", desc := "(IIIII)I" } : Jvm.MethodName)) ∈ lw_gd := tb_4 (i := 29) rfl rfl
theorem wd_845 : (Jvm.Cond.code ({ cls := "GluedHour$Told", name := "lineCell", desc := "(IIIII)I" } : Jvm.MethodName) prog_10_method_5_code (7 : Nat) (Option.some Jvm.ClassFile.FieldType.int)) ∈ lw_gd := tb_4 (i := 30) rfl rfl
theorem wd_846 : (Jvm.Cond.methodLink "GluedHour$Told" (45 : Nat) ({ cls := "GluedHour$Told", name := "linesAt", desc := "(II)LGluedHour$Lines;" } : Jvm.MethodName)) ∈ lw_gd := tb_4 (i := 31) rfl rfl
theorem wd_847 : (Jvm.Cond.methodLink "GluedHour$Told" (52 : Nat) ({ cls := "GluedHour$Lines", name := "has", desc := "(I)Z" } : Jvm.MethodName)) ∈ lw_gd := tb_4 (i := 32) rfl rfl
theorem wd_848 : (Jvm.Cond.methodLink "GluedHour$Told" (59 : Nat) ({ cls := "GluedHour$Lines", name := "cell", desc := "(II)I" } : Jvm.MethodName)) ∈ lw_gd := tb_4 (i := 33) rfl rfl
theorem wd_849 : (Jvm.Cond.methodLink "GluedHourLaw" (105 : Nat) ({ cls := "GluedHour", name := "plan", desc := "(III)I" } : Jvm.MethodName)) ∈ lw_gd := tb_4 (i := 34) rfl rfl
theorem wd_850 : (Jvm.Cond.instanceMethod ({ cls := "GluedHour", name := "plan", desc := "(III)I" } : Jvm.MethodName)) ∈ lw_gd := tb_4 (i := 35) rfl rfl
theorem wd_851 : (Jvm.Cond.selects "GluedHour" ({ cls := "GluedHour", name := "plan", desc := "(III)I" } : Jvm.MethodName) ({ cls := "GluedHour", name := "plan", desc := "(III)I" } : Jvm.MethodName)) ∈ lw_gd := tb_4 (i := 36) rfl rfl
theorem wd_852 : (Jvm.Cond.code ({ cls := "GluedHour", name := "plan", desc := "(III)I" } : Jvm.MethodName) prog_1_method_23_code (6 : Nat) (Option.some Jvm.ClassFile.FieldType.int)) ∈ lw_gd := tb_4 (i := 37) rfl rfl
theorem wd_853 : (Jvm.Cond.methodLink "GluedHour" (224 : Nat) ({ cls := "GluedHour$Planner", name := "planBlind", desc := "(LGluedHour$Republic;LGluedHour$Odds;LGluedHour$Lines;)Z" } : Jvm.MethodName)) ∈ lw_gd := tb_4 (i := 38) rfl rfl
theorem wd_854 : (Jvm.Cond.instanceMethod ({ cls := "GluedHour$Planner", name := "planBlind", desc := "(LGluedHour$Republic;LGluedHour$Odds;LGluedHour$Lines;)Z" } : Jvm.MethodName)) ∈ lw_gd := tb_4 (i := 39) rfl rfl
theorem wd_855 : (Jvm.Cond.selects "GluedHour$Planner" ({ cls := "GluedHour$Planner", name := "planBlind", desc := "(LGluedHour$Republic;LGluedHour$Odds;LGluedHour$Lines;)Z" } : Jvm.MethodName) ({ cls := "GluedHour$Planner", name := "planBlind", desc := "(LGluedHour$Republic;LGluedHour$Odds;LGluedHour$Lines;)Z" } : Jvm.MethodName)) ∈ lw_gd := tb_4 (i := 40) rfl rfl
theorem wd_856 : (Jvm.Cond.code ({ cls := "GluedHour$Planner", name := "planBlind", desc := "(LGluedHour$Republic;LGluedHour$Odds;LGluedHour$Lines;)Z" } : Jvm.MethodName) prog_6_method_2_code (4 : Nat) (Option.some Jvm.ClassFile.FieldType.boolean)) ∈ lw_gd := tb_4 (i := 41) rfl rfl
theorem wd_857 : (Jvm.Cond.methodLink "GluedHour$Planner" (46 : Nat) ({ cls := "GluedHour$Planner", name := "choose", desc := "(LGluedHour$Republic;LGluedHour$Odds;LGluedHour$Lines;Z)Z" } : Jvm.MethodName)) ∈ lw_gd := tb_4 (i := 42) rfl rfl
theorem wd_858 : (Jvm.Cond.instanceMethod ({ cls := "GluedHour$Planner", name := "choose", desc := "(LGluedHour$Republic;LGluedHour$Odds;LGluedHour$Lines;Z)Z" } : Jvm.MethodName)) ∈ lw_gd := tb_4 (i := 43) rfl rfl
theorem wd_859 : (Jvm.Cond.selects "GluedHour$Planner" ({ cls := "GluedHour$Planner", name := "choose", desc := "(LGluedHour$Republic;LGluedHour$Odds;LGluedHour$Lines;Z)Z" } : Jvm.MethodName) ({ cls := "GluedHour$Planner", name := "choose", desc := "(LGluedHour$Republic;LGluedHour$Odds;LGluedHour$Lines;Z)Z" } : Jvm.MethodName)) ∈ lw_gd := tb_4 (i := 44) rfl rfl
theorem wd_860 : (Jvm.Cond.code ({ cls := "GluedHour$Planner", name := "choose", desc := "(LGluedHour$Republic;LGluedHour$Odds;LGluedHour$Lines;Z)Z" } : Jvm.MethodName) prog_6_method_5_code (10 : Nat) (Option.some Jvm.ClassFile.FieldType.boolean)) ∈ lw_gd := tb_4 (i := 45) rfl rfl
theorem wd_861 : (Jvm.Cond.methodLink "GluedHour$Planner" (88 : Nat) ({ cls := "java/lang/Math", name := "min", desc := "(II)I" } : Jvm.MethodName)) ∈ lw_gd := tb_4 (i := 46) rfl rfl
theorem wd_862 : (Jvm.Cond.constantLong "GluedHour$Planner" (93 : Nat) (-1152921504606846976 : Int64)) ∈ lw_gd := tb_4 (i := 47) rfl rfl
theorem wd_863 : (Jvm.Cond.methodLink "GluedHour$Planner" (77 : Nat) ({ cls := "GluedHour$Lines", name := "cell", desc := "(II)I" } : Jvm.MethodName)) ∈ lw_gd := tb_4 (i := 48) rfl rfl
theorem wd_864 : (Jvm.Cond.methodLink "GluedHour$Planner" (95 : Nat) ({ cls := "GluedHour$Planner", name := "scoreOf", desc := "(LGluedHour$Republic;LGluedHour$Odds;III)J" } : Jvm.MethodName)) ∈ lw_gd := tb_4 (i := 49) rfl rfl
theorem wd_865 : (Jvm.Cond.static ({ cls := "GluedHour$Planner", name := "scoreOf", desc := "(LGluedHour$Republic;LGluedHour$Odds;III)J" } : Jvm.MethodName)) ∈ lw_gd := tb_4 (i := 50) rfl rfl
theorem wd_866 : (Jvm.Cond.code ({ cls := "GluedHour$Planner", name := "scoreOf", desc := "(LGluedHour$Republic;LGluedHour$Odds;III)J" } : Jvm.MethodName) prog_6_method_6_code (7 : Nat) (Option.some Jvm.ClassFile.FieldType.long)) ∈ lw_gd := tb_4 (i := 51) rfl rfl
theorem wd_867 : (Jvm.Cond.methodLink "GluedHour$Planner" (81 : Nat) ({ cls := "GluedHour$Republic", name := "worthOf", desc := "(I)I" } : Jvm.MethodName)) ∈ lw_gd := tb_4 (i := 52) rfl rfl
theorem wd_868 : (Jvm.Cond.methodLink "GluedHour$Planner" (85 : Nat) ({ cls := "GluedHour$Republic", name := "extraOf", desc := "(I)I" } : Jvm.MethodName)) ∈ lw_gd := tb_4 (i := 53) rfl rfl
theorem wd_869 : (Jvm.Cond.methodLink "GluedHour$Planner" (110 : Nat) ({ cls := "GluedHour$Planner", name := "rowShift", desc := "(I)I" } : Jvm.MethodName)) ∈ lw_gd := tb_4 (i := 54) rfl rfl
theorem wd_870 : (Jvm.Cond.static ({ cls := "GluedHour$Planner", name := "rowShift", desc := "(I)I" } : Jvm.MethodName)) ∈ lw_gd := tb_4 (i := 55) rfl rfl
theorem wd_871 : (Jvm.Cond.code ({ cls := "GluedHour$Planner", name := "rowShift", desc := "(I)I" } : Jvm.MethodName) prog_6_method_7_code (1 : Nat) (Option.some Jvm.ClassFile.FieldType.int)) ∈ lw_gd := tb_4 (i := 56) rfl rfl
theorem wd_872 : (Jvm.Cond.methodLink "GluedHour$Planner" (99 : Nat) ({ cls := "GluedHour$Planner", name := "bestOf", desc := "(II)J" } : Jvm.MethodName)) ∈ lw_gd := tb_4 (i := 57) rfl rfl
theorem wd_874 : (Jvm.Cond.instanceMethod ({ cls := "GluedHour$Planner", name := "bestOf", desc := "(II)J" } : Jvm.MethodName)) ∈ lw_gd := tb_4 (i := 59) rfl rfl
theorem wd_875 : (Jvm.Cond.code ({ cls := "GluedHour$Planner", name := "bestOf", desc := "(II)J" } : Jvm.MethodName) prog_6_method_8_code (7 : Nat) (Option.some Jvm.ClassFile.FieldType.long)) ∈ lw_gd := tb_4 (i := 60) rfl rfl
theorem wd_876 : (Jvm.Cond.methodLink "GluedHour$Planner" (113 : Nat) ({ cls := "java/lang/Math", name := "max", desc := "(JJ)J" } : Jvm.MethodName)) ∈ lw_gd := tb_4 (i := 61) rfl rfl
theorem wd_877 : (Jvm.Cond.methodLink "GluedHour$Planner" (103 : Nat) ({ cls := "GluedHour$Planner", name := "keep", desc := "(J)V" } : Jvm.MethodName)) ∈ lw_gd := tb_4 (i := 62) rfl rfl
theorem wd_879 : (Jvm.Cond.instanceMethod ({ cls := "GluedHour$Planner", name := "keep", desc := "(J)V" } : Jvm.MethodName)) ∈ lw_gd := tb_4 (i := 64) rfl rfl
theorem wd_880 : (Jvm.Cond.code ({ cls := "GluedHour$Planner", name := "keep", desc := "(J)V" } : Jvm.MethodName) prog_6_method_9_code (6 : Nat) (Option.none : Option Jvm.ClassFile.FieldType)) ∈ lw_gd := tb_4 (i := 65) rfl rfl
theorem wd_881 : (Jvm.Cond.constantLong "GluedHour$Planner" (117 : Nat) (16777216 : Int64)) ∈ lw_gd := tb_4 (i := 66) rfl rfl
theorem wd_882 : (Jvm.Cond.methodLink "GluedHour$Planner" (50 : Nat) ({ cls := "java/lang/System", name := "arraycopy", desc := "(Ljava/lang/Object;ILjava/lang/Object;II)V" } : Jvm.MethodName)) ∈ lw_gd := tb_4 (i := 67) rfl rfl
theorem wd_883 : (Jvm.Cond.methodLink "GluedHour" (235 : Nat) ({ cls := "GluedHour$Planner", name := "planKnowing", desc := "(LGluedHour$Republic;LGluedHour$Odds;LGluedHour$Lines;)V" } : Jvm.MethodName)) ∈ lw_gd := tb_4 (i := 68) rfl rfl
theorem wd_884 : (Jvm.Cond.instanceMethod ({ cls := "GluedHour$Planner", name := "planKnowing", desc := "(LGluedHour$Republic;LGluedHour$Odds;LGluedHour$Lines;)V" } : Jvm.MethodName)) ∈ lw_gd := tb_4 (i := 69) rfl rfl
theorem wd_885 : (Jvm.Cond.selects "GluedHour$Planner" ({ cls := "GluedHour$Planner", name := "planKnowing", desc := "(LGluedHour$Republic;LGluedHour$Odds;LGluedHour$Lines;)V" } : Jvm.MethodName) ({ cls := "GluedHour$Planner", name := "planKnowing", desc := "(LGluedHour$Republic;LGluedHour$Odds;LGluedHour$Lines;)V" } : Jvm.MethodName)) ∈ lw_gd := tb_4 (i := 70) rfl rfl
theorem wd_886 : (Jvm.Cond.code ({ cls := "GluedHour$Planner", name := "planKnowing", desc := "(LGluedHour$Republic;LGluedHour$Odds;LGluedHour$Lines;)V" } : Jvm.MethodName) prog_6_method_3_code (9 : Nat) (Option.none : Option Jvm.ClassFile.FieldType)) ∈ lw_gd := tb_4 (i := 71) rfl rfl
theorem wd_887 : (Jvm.Cond.methodLink "GluedHour$Planner" (61 : Nat) ({ cls := "GluedHour$Odds", name := "know", desc := "(II)V" } : Jvm.MethodName)) ∈ lw_gd := tb_4 (i := 72) rfl rfl
theorem wd_888 : (Jvm.Cond.instanceMethod ({ cls := "GluedHour$Odds", name := "know", desc := "(II)V" } : Jvm.MethodName)) ∈ lw_gd := tb_4 (i := 73) rfl rfl
theorem wd_889 : (Jvm.Cond.selects "GluedHour$Odds" ({ cls := "GluedHour$Odds", name := "know", desc := "(II)V" } : Jvm.MethodName) ({ cls := "GluedHour$Odds", name := "know", desc := "(II)V" } : Jvm.MethodName)) ∈ lw_gd := tb_4 (i := 74) rfl rfl
theorem wd_890 : (Jvm.Cond.code ({ cls := "GluedHour$Odds", name := "know", desc := "(II)V" } : Jvm.MethodName) prog_5_method_3_code (4 : Nat) (Option.none : Option Jvm.ClassFile.FieldType)) ∈ lw_gd := tb_4 (i := 75) rfl rfl
theorem wd_891 : (Jvm.Cond.methodLink "GluedHour$Planner" (68 : Nat) ({ cls := "GluedHour$Planner", name := "blindBy", desc := "(LGluedHour$Republic;LGluedHour$Lines;I)J" } : Jvm.MethodName)) ∈ lw_gd := tb_4 (i := 76) rfl rfl
theorem wd_893 : (Jvm.Cond.instanceMethod ({ cls := "GluedHour$Planner", name := "blindBy", desc := "(LGluedHour$Republic;LGluedHour$Lines;I)J" } : Jvm.MethodName)) ∈ lw_gd := tb_4 (i := 78) rfl rfl
theorem wd_894 : (Jvm.Cond.code ({ cls := "GluedHour$Planner", name := "blindBy", desc := "(LGluedHour$Republic;LGluedHour$Lines;I)J" } : Jvm.MethodName) prog_6_method_4_code (8 : Nat) (Option.some Jvm.ClassFile.FieldType.long)) ∈ lw_gd := tb_4 (i := 79) rfl rfl
theorem wd_895 : (Jvm.Cond.methodLink "GluedHourLaw" (109 : Nat) ({ cls := "GluedHour", name := "train", desc := "(III)I" } : Jvm.MethodName)) ∈ lw_gd := tb_4 (i := 80) rfl rfl
theorem wd_896 : (Jvm.Cond.instanceMethod ({ cls := "GluedHour", name := "train", desc := "(III)I" } : Jvm.MethodName)) ∈ lw_gd := tb_4 (i := 81) rfl rfl
theorem wd_897 : (Jvm.Cond.selects "GluedHour" ({ cls := "GluedHour", name := "train", desc := "(III)I" } : Jvm.MethodName) ({ cls := "GluedHour", name := "train", desc := "(III)I" } : Jvm.MethodName)) ∈ lw_gd := tb_4 (i := 82) rfl rfl
theorem wd_898 : (Jvm.Cond.code ({ cls := "GluedHour", name := "train", desc := "(III)I" } : Jvm.MethodName) prog_1_method_24_code (4 : Nat) (Option.some Jvm.ClassFile.FieldType.int)) ∈ lw_gd := tb_4 (i := 83) rfl rfl
theorem wd_899 : (Jvm.Cond.methodLink "GluedHourLaw" (113 : Nat) ({ cls := "GluedHour", name := "holds", desc := "(III)I" } : Jvm.MethodName)) ∈ lw_gd := tb_4 (i := 84) rfl rfl
theorem wd_900 : (Jvm.Cond.instanceMethod ({ cls := "GluedHour", name := "holds", desc := "(III)I" } : Jvm.MethodName)) ∈ lw_gd := tb_4 (i := 85) rfl rfl
theorem wd_901 : (Jvm.Cond.selects "GluedHour" ({ cls := "GluedHour", name := "holds", desc := "(III)I" } : Jvm.MethodName) ({ cls := "GluedHour", name := "holds", desc := "(III)I" } : Jvm.MethodName)) ∈ lw_gd := tb_4 (i := 86) rfl rfl
theorem wd_902 : (Jvm.Cond.code ({ cls := "GluedHour", name := "holds", desc := "(III)I" } : Jvm.MethodName) prog_1_method_25_code (8 : Nat) (Option.some Jvm.ClassFile.FieldType.int)) ∈ lw_gd := tb_4 (i := 87) rfl rfl
theorem wd_903 : (Jvm.Cond.methodLink "GluedHour" (245 : Nat) ({ cls := "GluedHour", name := "keepsBy", desc := "(LGluedHour$Lines;I)Z" } : Jvm.MethodName)) ∈ lw_gd := tb_4 (i := 88) rfl rfl
theorem wd_904 : (Jvm.Cond.static ({ cls := "GluedHour", name := "keepsBy", desc := "(LGluedHour$Lines;I)Z" } : Jvm.MethodName)) ∈ lw_gd := tb_4 (i := 89) rfl rfl
theorem wd_905 : (Jvm.Cond.code ({ cls := "GluedHour", name := "keepsBy", desc := "(LGluedHour$Lines;I)Z" } : Jvm.MethodName) prog_1_method_48_code (3 : Nat) (Option.some Jvm.ClassFile.FieldType.boolean)) ∈ lw_gd := tb_4 (i := 90) rfl rfl
theorem wd_906 : (Jvm.Cond.methodLink "GluedHour" (332 : Nat) ({ cls := "GluedHour", name := "leadOf", desc := "(LGluedHour$Lines;II)I" } : Jvm.MethodName)) ∈ lw_gd := tb_4 (i := 91) rfl rfl
theorem wd_907 : (Jvm.Cond.static ({ cls := "GluedHour", name := "leadOf", desc := "(LGluedHour$Lines;II)I" } : Jvm.MethodName)) ∈ lw_gd := tb_4 (i := 92) rfl rfl
theorem wd_908 : (Jvm.Cond.code ({ cls := "GluedHour", name := "leadOf", desc := "(LGluedHour$Lines;II)I" } : Jvm.MethodName) prog_1_method_47_code (3 : Nat) (Option.some Jvm.ClassFile.FieldType.int)) ∈ lw_gd := tb_4 (i := 93) rfl rfl
theorem wd_909 : (Jvm.Cond.methodLink "GluedHour" (328 : Nat) ({ cls := "GluedHour", name := "lead", desc := "(IIII)I" } : Jvm.MethodName)) ∈ lw_gd := tb_4 (i := 94) rfl rfl
theorem wd_910 : (Jvm.Cond.static ({ cls := "GluedHour", name := "lead", desc := "(IIII)I" } : Jvm.MethodName)) ∈ lw_gd := tb_4 (i := 95) rfl rfl
theorem wd_911 : (Jvm.Cond.code ({ cls := "GluedHour", name := "lead", desc := "(IIII)I" } : Jvm.MethodName) prog_1_method_46_code (4 : Nat) (Option.some Jvm.ClassFile.FieldType.int)) ∈ lw_gd := tb_4 (i := 96) rfl rfl
theorem wd_912 : (Jvm.Cond.methodLink "GluedHour" (259 : Nat) ({ cls := "GluedHour", name := "trueTime", desc := "(II)I" } : Jvm.MethodName)) ∈ lw_gd := tb_4 (i := 97) rfl rfl
theorem wd_913 : (Jvm.Cond.static ({ cls := "GluedHour", name := "trueTime", desc := "(II)I" } : Jvm.MethodName)) ∈ lw_gd := tb_4 (i := 98) rfl rfl
theorem wd_914 : (Jvm.Cond.code ({ cls := "GluedHour", name := "trueTime", desc := "(II)I" } : Jvm.MethodName) prog_1_method_45_code (2 : Nat) (Option.some Jvm.ClassFile.FieldType.int)) ∈ lw_gd := tb_4 (i := 99) rfl rfl
theorem wd_915 : (Jvm.Cond.methodLink "GluedHour" (249 : Nat) ({ cls := "GluedHour", name := "slackOf", desc := "(LGluedHour$Republic;LGluedHour$Lines;I)I" } : Jvm.MethodName)) ∈ lw_gd := tb_4 (i := 100) rfl rfl
theorem wd_916 : (Jvm.Cond.static ({ cls := "GluedHour", name := "slackOf", desc := "(LGluedHour$Republic;LGluedHour$Lines;I)I" } : Jvm.MethodName)) ∈ lw_gd := tb_4 (i := 101) rfl rfl
theorem wd_917 : (Jvm.Cond.code ({ cls := "GluedHour", name := "slackOf", desc := "(LGluedHour$Republic;LGluedHour$Lines;I)I" } : Jvm.MethodName) prog_1_method_49_code (5 : Nat) (Option.some Jvm.ClassFile.FieldType.int)) ∈ lw_gd := tb_4 (i := 102) rfl rfl
theorem wd_918 : (Jvm.Cond.methodLink "GluedHour" (253 : Nat) ({ cls := "java/lang/Math", name := "min", desc := "(II)I" } : Jvm.MethodName)) ∈ lw_gd := tb_4 (i := 103) rfl rfl
theorem wd_919 : (Jvm.Cond.methodLink "GluedHourLaw" (117 : Nat) ({ cls := "GluedHour", name := "clock", desc := "(IIII)I" } : Jvm.MethodName)) ∈ lw_gd := tb_4 (i := 104) rfl rfl
theorem wd_920 : (Jvm.Cond.instanceMethod ({ cls := "GluedHour", name := "clock", desc := "(IIII)I" } : Jvm.MethodName)) ∈ lw_gd := tb_4 (i := 105) rfl rfl
theorem wd_921 : (Jvm.Cond.selects "GluedHour" ({ cls := "GluedHour", name := "clock", desc := "(IIII)I" } : Jvm.MethodName) ({ cls := "GluedHour", name := "clock", desc := "(IIII)I" } : Jvm.MethodName)) ∈ lw_gd := tb_4 (i := 106) rfl rfl
theorem wd_922 : (Jvm.Cond.code ({ cls := "GluedHour", name := "clock", desc := "(IIII)I" } : Jvm.MethodName) prog_1_method_26_code (8 : Nat) (Option.some Jvm.ClassFile.FieldType.int)) ∈ lw_gd := tb_4 (i := 107) rfl rfl
theorem wd_923 : (Jvm.Cond.methodLink "GluedHour" (256 : Nat) ({ cls := "GluedHour", name := "leastHour", desc := "(LGluedHour$Republic;LGluedHour$Lines;I)I" } : Jvm.MethodName)) ∈ lw_gd := tb_4 (i := 108) rfl rfl
theorem wd_924 : (Jvm.Cond.static ({ cls := "GluedHour", name := "leastHour", desc := "(LGluedHour$Republic;LGluedHour$Lines;I)I" } : Jvm.MethodName)) ∈ lw_gd := tb_4 (i := 109) rfl rfl
theorem wd_925 : (Jvm.Cond.code ({ cls := "GluedHour", name := "leastHour", desc := "(LGluedHour$Republic;LGluedHour$Lines;I)I" } : Jvm.MethodName) prog_1_method_50_code (5 : Nat) (Option.some Jvm.ClassFile.FieldType.int)) ∈ lw_gd := tb_4 (i := 110) rfl rfl
theorem wd_926 : (Jvm.Cond.methodLink "GluedHour" (336 : Nat) ({ cls := "GluedHour", name := "leastNext", desc := "(LGluedHour$Republic;II)I" } : Jvm.MethodName)) ∈ lw_gd := tb_4 (i := 111) rfl rfl
theorem wd_927 : (Jvm.Cond.static ({ cls := "GluedHour", name := "leastNext", desc := "(LGluedHour$Republic;II)I" } : Jvm.MethodName)) ∈ lw_gd := tb_4 (i := 112) rfl rfl
theorem wd_928 : (Jvm.Cond.code ({ cls := "GluedHour", name := "leastNext", desc := "(LGluedHour$Republic;II)I" } : Jvm.MethodName) prog_1_method_51_code (6 : Nat) (Option.some Jvm.ClassFile.FieldType.int)) ∈ lw_gd := tb_4 (i := 113) rfl rfl
theorem wd_929 : (Jvm.Cond.methodLink "GluedHourLaw" (121 : Nat) ({ cls := "GluedHour", name := "sight", desc := "(III)I" } : Jvm.MethodName)) ∈ lw_gd := tb_4 (i := 114) rfl rfl
theorem wd_930 : (Jvm.Cond.instanceMethod ({ cls := "GluedHour", name := "sight", desc := "(III)I" } : Jvm.MethodName)) ∈ lw_gd := tb_4 (i := 115) rfl rfl
theorem wd_931 : (Jvm.Cond.selects "GluedHour" ({ cls := "GluedHour", name := "sight", desc := "(III)I" } : Jvm.MethodName) ({ cls := "GluedHour", name := "sight", desc := "(III)I" } : Jvm.MethodName)) ∈ lw_gd := tb_4 (i := 116) rfl rfl
theorem wd_932 : (Jvm.Cond.code ({ cls := "GluedHour", name := "sight", desc := "(III)I" } : Jvm.MethodName) prog_1_method_27_code (4 : Nat) (Option.some Jvm.ClassFile.FieldType.int)) ∈ lw_gd := tb_4 (i := 117) rfl rfl
theorem wd_933 : (Jvm.Cond.methodLink "GluedHourLaw" (125 : Nat) ({ cls := "GluedHour", name := "fits", desc := "(III)I" } : Jvm.MethodName)) ∈ lw_gd := tb_4 (i := 118) rfl rfl
theorem wd_934 : (Jvm.Cond.instanceMethod ({ cls := "GluedHour", name := "fits", desc := "(III)I" } : Jvm.MethodName)) ∈ lw_gd := tb_4 (i := 119) rfl rfl
theorem wd_935 : (Jvm.Cond.selects "GluedHour" ({ cls := "GluedHour", name := "fits", desc := "(III)I" } : Jvm.MethodName) ({ cls := "GluedHour", name := "fits", desc := "(III)I" } : Jvm.MethodName)) ∈ lw_gd := tb_4 (i := 120) rfl rfl
theorem wd_936 : (Jvm.Cond.code ({ cls := "GluedHour", name := "fits", desc := "(III)I" } : Jvm.MethodName) prog_1_method_28_code (6 : Nat) (Option.some Jvm.ClassFile.FieldType.int)) ∈ lw_gd := tb_4 (i := 121) rfl rfl
theorem wd_937 : (Jvm.Cond.methodLink "GluedHour" (262 : Nat) ({ cls := "GluedHour$Search", name := "run", desc := "(LGluedHour$Republic;LGluedHour$Course;LGluedHour$Lines;)V" } : Jvm.MethodName)) ∈ lw_gd := tb_4 (i := 122) rfl rfl
theorem wd_938 : (Jvm.Cond.instanceMethod ({ cls := "GluedHour$Search", name := "run", desc := "(LGluedHour$Republic;LGluedHour$Course;LGluedHour$Lines;)V" } : Jvm.MethodName)) ∈ lw_gd := tb_4 (i := 123) rfl rfl
theorem wd_939 : (Jvm.Cond.selects "GluedHour$Search" ({ cls := "GluedHour$Search", name := "run", desc := "(LGluedHour$Republic;LGluedHour$Course;LGluedHour$Lines;)V" } : Jvm.MethodName) ({ cls := "GluedHour$Search", name := "run", desc := "(LGluedHour$Republic;LGluedHour$Course;LGluedHour$Lines;)V" } : Jvm.MethodName)) ∈ lw_gd := tb_4 (i := 124) rfl rfl
theorem wd_940 : (Jvm.Cond.code ({ cls := "GluedHour$Search", name := "run", desc := "(LGluedHour$Republic;LGluedHour$Course;LGluedHour$Lines;)V" } : Jvm.MethodName) prog_9_method_2_code (5 : Nat) (Option.none : Option Jvm.ClassFile.FieldType)) ∈ lw_gd := tb_4 (i := 125) rfl rfl
theorem wd_941 : (Jvm.Cond.methodLink "GluedHour$Search" (37 : Nat) ({ cls := "GluedHour$Lines", name := "cell", desc := "(II)I" } : Jvm.MethodName)) ∈ lw_gd := tb_4 (i := 126) rfl rfl
theorem wd_942 : (Jvm.Cond.methodLink "GluedHour$Search" (41 : Nat) ({ cls := "java/lang/Math", name := "min", desc := "(II)I" } : Jvm.MethodName)) ∈ lw_gd := tb_4 (i := 127) rfl rfl
theorem wd_943 : (Jvm.Cond.methodLink "GluedHour$Search" (46 : Nat) ({ cls := "java/lang/Math", name := "max", desc := "(II)I" } : Jvm.MethodName)) ∈ lw_gd := tb_4 (i := 128) rfl rfl
theorem wd_944 : (Jvm.Cond.methodLink "GluedHour$Search" (49 : Nat) ({ cls := "GluedHour$Search", name := "follow", desc := "(LGluedHour$Republic;LGluedHour$Course;LGluedHour$Lines;I)V" } : Jvm.MethodName)) ∈ lw_gd := tb_4 (i := 129) rfl rfl
theorem wd_946 : (Jvm.Cond.instanceMethod ({ cls := "GluedHour$Search", name := "follow", desc := "(LGluedHour$Republic;LGluedHour$Course;LGluedHour$Lines;I)V" } : Jvm.MethodName)) ∈ lw_gd := tb_4 (i := 131) rfl rfl
theorem wd_947 : (Jvm.Cond.code ({ cls := "GluedHour$Search", name := "follow", desc := "(LGluedHour$Republic;LGluedHour$Course;LGluedHour$Lines;I)V" } : Jvm.MethodName) prog_9_method_3_code (7 : Nat) (Option.none : Option Jvm.ClassFile.FieldType)) ∈ lw_gd := tb_4 (i := 132) rfl rfl
theorem wd_948 : (Jvm.Cond.methodLink "GluedHour$Search" (53 : Nat) ({ cls := "GluedHour$Search", name := "keepRow", desc := "()V" } : Jvm.MethodName)) ∈ lw_gd := tb_4 (i := 133) rfl rfl
theorem wd_950 : (Jvm.Cond.instanceMethod ({ cls := "GluedHour$Search", name := "keepRow", desc := "()V" } : Jvm.MethodName)) ∈ lw_gd := tb_4 (i := 135) rfl rfl
theorem wd_951 : (Jvm.Cond.code ({ cls := "GluedHour$Search", name := "keepRow", desc := "()V" } : Jvm.MethodName) prog_9_method_5_code (2 : Nat) (Option.none : Option Jvm.ClassFile.FieldType)) ∈ lw_gd := tb_4 (i := 136) rfl rfl
theorem wd_952 : (Jvm.Cond.methodLink "GluedHour$Search" (56 : Nat) ({ cls := "GluedHour$Course", name := "poorest", desc := "()I" } : Jvm.MethodName)) ∈ lw_gd := tb_4 (i := 137) rfl rfl
theorem wd_953 : (Jvm.Cond.methodLink "GluedHour$Search" (62 : Nat) ({ cls := "GluedHour$Odds", name := "weigh", desc := "(LGluedHour$Republic;I)V" } : Jvm.MethodName)) ∈ lw_gd := tb_4 (i := 138) rfl rfl
theorem wd_954 : (Jvm.Cond.methodLink "GluedHour$Search" (74 : Nat) ({ cls := "GluedHour$Course", name := "live", desc := "(I)V" } : Jvm.MethodName)) ∈ lw_gd := tb_4 (i := 139) rfl rfl
theorem wd_955 : (Jvm.Cond.methodLink "GluedHour$Search" (78 : Nat) ({ cls := "GluedHour$Search", name := "isAsSeen", desc := "(LGluedHour$Republic;LGluedHour$Course;LGluedHour$Lines;I)Z" } : Jvm.MethodName)) ∈ lw_gd := tb_4 (i := 140) rfl rfl
theorem wd_956 : (Jvm.Cond.static ({ cls := "GluedHour$Search", name := "isAsSeen", desc := "(LGluedHour$Republic;LGluedHour$Course;LGluedHour$Lines;I)Z" } : Jvm.MethodName)) ∈ lw_gd := tb_4 (i := 141) rfl rfl
theorem wd_957 : (Jvm.Cond.code ({ cls := "GluedHour$Search", name := "isAsSeen", desc := "(LGluedHour$Republic;LGluedHour$Course;LGluedHour$Lines;I)Z" } : Jvm.MethodName) prog_9_method_4_code (6 : Nat) (Option.some Jvm.ClassFile.FieldType.boolean)) ∈ lw_gd := tb_4 (i := 142) rfl rfl
theorem wd_958 : (Jvm.Cond.methodLink "GluedHour$Search" (85 : Nat) ({ cls := "GluedHour$Republic", name := "hasPerson", desc := "(I)Z" } : Jvm.MethodName)) ∈ lw_gd := tb_4 (i := 143) rfl rfl
theorem wd_959 : (Jvm.Cond.methodLink "GluedHour$Search" (82 : Nat) ({ cls := "GluedHour$Course", name := "unlive", desc := "(I)V" } : Jvm.MethodName)) ∈ lw_gd := tb_4 (i := 144) rfl rfl
theorem wd_960 : (Jvm.Cond.instanceMethod ({ cls := "GluedHour$Course", name := "unlive", desc := "(I)V" } : Jvm.MethodName)) ∈ lw_gd := tb_4 (i := 145) rfl rfl
theorem wd_961 : (Jvm.Cond.selects "GluedHour$Course" ({ cls := "GluedHour$Course", name := "unlive", desc := "(I)V" } : Jvm.MethodName) ({ cls := "GluedHour$Course", name := "unlive", desc := "(I)V" } : Jvm.MethodName)) ∈ lw_gd := tb_4 (i := 146) rfl rfl
theorem wd_962 : (Jvm.Cond.code ({ cls := "GluedHour$Course", name := "unlive", desc := "(I)V" } : Jvm.MethodName) prog_2_method_5_code (3 : Nat) (Option.none : Option Jvm.ClassFile.FieldType)) ∈ lw_gd := tb_4 (i := 147) rfl rfl
theorem wd_963 : (Jvm.Cond.methodLink "GluedHour" (272 : Nat) ({ cls := "GluedHour$Search", name := "sureHour", desc := "(I)I" } : Jvm.MethodName)) ∈ lw_gd := tb_4 (i := 148) rfl rfl
theorem wd_964 : (Jvm.Cond.instanceMethod ({ cls := "GluedHour$Search", name := "sureHour", desc := "(I)I" } : Jvm.MethodName)) ∈ lw_gd := tb_4 (i := 149) rfl rfl
theorem wd_965 : (Jvm.Cond.selects "GluedHour$Search" ({ cls := "GluedHour$Search", name := "sureHour", desc := "(I)I" } : Jvm.MethodName) ({ cls := "GluedHour$Search", name := "sureHour", desc := "(I)I" } : Jvm.MethodName)) ∈ lw_gd := tb_4 (i := 150) rfl rfl
theorem wd_966 : (Jvm.Cond.code ({ cls := "GluedHour$Search", name := "sureHour", desc := "(I)I" } : Jvm.MethodName) prog_9_method_6_code (3 : Nat) (Option.some Jvm.ClassFile.FieldType.int)) ∈ lw_gd := tb_4 (i := 151) rfl rfl
theorem wd_967 : (Jvm.Cond.methodLink "GluedHourLaw" (129 : Nat) ({ cls := "GluedHour", name := "reign", desc := "(III)I" } : Jvm.MethodName)) ∈ lw_gd := tb_4 (i := 152) rfl rfl
theorem wd_968 : (Jvm.Cond.instanceMethod ({ cls := "GluedHour", name := "reign", desc := "(III)I" } : Jvm.MethodName)) ∈ lw_gd := tb_4 (i := 153) rfl rfl
theorem wd_969 : (Jvm.Cond.selects "GluedHour" ({ cls := "GluedHour", name := "reign", desc := "(III)I" } : Jvm.MethodName) ({ cls := "GluedHour", name := "reign", desc := "(III)I" } : Jvm.MethodName)) ∈ lw_gd := tb_4 (i := 154) rfl rfl
theorem wd_970 : (Jvm.Cond.code ({ cls := "GluedHour", name := "reign", desc := "(III)I" } : Jvm.MethodName) prog_1_method_29_code (11 : Nat) (Option.some Jvm.ClassFile.FieldType.int)) ∈ lw_gd := tb_4 (i := 155) rfl rfl
theorem wd_971 : (Jvm.Cond.methodLink "GluedHourLaw" (133 : Nat) ({ cls := "GluedHour", name := "hope", desc := "(IIIZ)J" } : Jvm.MethodName)) ∈ lw_gd := tb_4 (i := 156) rfl rfl
theorem wd_972 : (Jvm.Cond.instanceMethod ({ cls := "GluedHour", name := "hope", desc := "(IIIZ)J" } : Jvm.MethodName)) ∈ lw_gd := tb_4 (i := 157) rfl rfl
theorem wd_973 : (Jvm.Cond.selects "GluedHour" ({ cls := "GluedHour", name := "hope", desc := "(IIIZ)J" } : Jvm.MethodName) ({ cls := "GluedHour", name := "hope", desc := "(IIIZ)J" } : Jvm.MethodName)) ∈ lw_gd := tb_4 (i := 158) rfl rfl
theorem wd_974 : (Jvm.Cond.code ({ cls := "GluedHour", name := "hope", desc := "(IIIZ)J" } : Jvm.MethodName) prog_1_method_30_code (5 : Nat) (Option.some Jvm.ClassFile.FieldType.long)) ∈ lw_gd := tb_4 (i := 159) rfl rfl
theorem wd_975 : (Jvm.Cond.methodLink "GluedHour" (278 : Nat) ({ cls := "GluedHour", name := "expected", desc := "(IIIZ)Z" } : Jvm.MethodName)) ∈ lw_gd := tb_4 (i := 160) rfl rfl
theorem wd_977 : (Jvm.Cond.instanceMethod ({ cls := "GluedHour", name := "expected", desc := "(IIIZ)Z" } : Jvm.MethodName)) ∈ lw_gd := tb_4 (i := 162) rfl rfl
theorem wd_978 : (Jvm.Cond.code ({ cls := "GluedHour", name := "expected", desc := "(IIIZ)Z" } : Jvm.MethodName) prog_1_method_43_code (9 : Nat) (Option.some Jvm.ClassFile.FieldType.boolean)) ∈ lw_gd := tb_4 (i := 163) rfl rfl
theorem wd_979 : (Jvm.Cond.methodLink "GluedHour" (310 : Nat) ({ cls := "GluedHour$Fraction", name := "put", desc := "(JJ)V" } : Jvm.MethodName)) ∈ lw_gd := tb_4 (i := 164) rfl rfl
theorem wd_980 : (Jvm.Cond.instanceMethod ({ cls := "GluedHour$Fraction", name := "put", desc := "(JJ)V" } : Jvm.MethodName)) ∈ lw_gd := tb_4 (i := 165) rfl rfl
theorem wd_981 : (Jvm.Cond.selects "GluedHour$Fraction" ({ cls := "GluedHour$Fraction", name := "put", desc := "(JJ)V" } : Jvm.MethodName) ({ cls := "GluedHour$Fraction", name := "put", desc := "(JJ)V" } : Jvm.MethodName)) ∈ lw_gd := tb_4 (i := 166) rfl rfl
theorem wd_982 : (Jvm.Cond.code ({ cls := "GluedHour$Fraction", name := "put", desc := "(JJ)V" } : Jvm.MethodName) prog_3_method_2_code (5 : Nat) (Option.none : Option Jvm.ClassFile.FieldType)) ∈ lw_gd := tb_4 (i := 167) rfl rfl
theorem wd_983 : (Jvm.Cond.methodLink "GluedHour$Fraction" (16 : Nat) ({ cls := "GluedHour$Fraction", name := "side", desc := "(JJZ)J" } : Jvm.MethodName)) ∈ lw_gd := tb_4 (i := 168) rfl rfl
theorem wd_984 : (Jvm.Cond.methodLink "GluedHour" (314 : Nat) ({ cls := "GluedHour$Course", name := "measure", desc := "(IZ)I" } : Jvm.MethodName)) ∈ lw_gd := tb_4 (i := 169) rfl rfl
theorem wd_985 : (Jvm.Cond.instanceMethod ({ cls := "GluedHour$Course", name := "measure", desc := "(IZ)I" } : Jvm.MethodName)) ∈ lw_gd := tb_4 (i := 170) rfl rfl
theorem wd_986 : (Jvm.Cond.selects "GluedHour$Course" ({ cls := "GluedHour$Course", name := "measure", desc := "(IZ)I" } : Jvm.MethodName) ({ cls := "GluedHour$Course", name := "measure", desc := "(IZ)I" } : Jvm.MethodName)) ∈ lw_gd := tb_4 (i := 171) rfl rfl
theorem wd_987 : (Jvm.Cond.code ({ cls := "GluedHour$Course", name := "measure", desc := "(IZ)I" } : Jvm.MethodName) prog_2_method_10_code (3 : Nat) (Option.some Jvm.ClassFile.FieldType.int)) ∈ lw_gd := tb_4 (i := 172) rfl rfl
theorem wd_988 : (Jvm.Cond.methodLink "GluedHour$Course" (56 : Nat) ({ cls := "GluedHour$Course", name := "poorest", desc := "()I" } : Jvm.MethodName)) ∈ lw_gd := tb_4 (i := 173) rfl rfl
theorem wd_989 : (Jvm.Cond.methodLink "GluedHour" (318 : Nat) ({ cls := "GluedHour", name := "nextDay", desc := "(LGluedHour$Republic;LGluedHour$Odds;IZ)J" } : Jvm.MethodName)) ∈ lw_gd := tb_4 (i := 174) rfl rfl
theorem wd_991 : (Jvm.Cond.instanceMethod ({ cls := "GluedHour", name := "nextDay", desc := "(LGluedHour$Republic;LGluedHour$Odds;IZ)J" } : Jvm.MethodName)) ∈ lw_gd := tb_4 (i := 176) rfl rfl
theorem wd_992 : (Jvm.Cond.code ({ cls := "GluedHour", name := "nextDay", desc := "(LGluedHour$Republic;LGluedHour$Odds;IZ)J" } : Jvm.MethodName) prog_1_method_44_code (8 : Nat) (Option.some Jvm.ClassFile.FieldType.long)) ∈ lw_gd := tb_4 (i := 177) rfl rfl
theorem wd_993 : (Jvm.Cond.methodLink "GluedHour" (322 : Nat) ({ cls := "GluedHour$Course", name := "unlive", desc := "(I)V" } : Jvm.MethodName)) ∈ lw_gd := tb_4 (i := 178) rfl rfl
theorem wd_994 : (Jvm.Cond.methodLink "GluedHour" (325 : Nat) ({ cls := "GluedHour$Fraction", name := "add", desc := "(JJ)V" } : Jvm.MethodName)) ∈ lw_gd := tb_4 (i := 179) rfl rfl
theorem wd_995 : (Jvm.Cond.instanceMethod ({ cls := "GluedHour$Fraction", name := "add", desc := "(JJ)V" } : Jvm.MethodName)) ∈ lw_gd := tb_4 (i := 180) rfl rfl
theorem wd_996 : (Jvm.Cond.selects "GluedHour$Fraction" ({ cls := "GluedHour$Fraction", name := "add", desc := "(JJ)V" } : Jvm.MethodName) ({ cls := "GluedHour$Fraction", name := "add", desc := "(JJ)V" } : Jvm.MethodName)) ∈ lw_gd := tb_4 (i := 181) rfl rfl
theorem wd_997 : (Jvm.Cond.code ({ cls := "GluedHour$Fraction", name := "add", desc := "(JJ)V" } : Jvm.MethodName) prog_3_method_3_code (9 : Nat) (Option.none : Option Jvm.ClassFile.FieldType)) ∈ lw_gd := tb_4 (i := 182) rfl rfl
theorem wd_998 : (Jvm.Cond.methodLink "GluedHour$Fraction" (24 : Nat) ({ cls := "GluedHour$Fraction", name := "put", desc := "(JJ)V" } : Jvm.MethodName)) ∈ lw_gd := tb_4 (i := 183) rfl rfl
theorem wd_999 : (Jvm.Cond.methodLink "GluedHour" (282 : Nat) ({ cls := "GluedHour$Fraction", name := "sideOf", desc := "(Z)J" } : Jvm.MethodName)) ∈ lw_gd := tb_4 (i := 184) rfl rfl
theorem wd_1000 : (Jvm.Cond.instanceMethod ({ cls := "GluedHour$Fraction", name := "sideOf", desc := "(Z)J" } : Jvm.MethodName)) ∈ lw_gd := tb_4 (i := 185) rfl rfl
theorem wd_1001 : (Jvm.Cond.selects "GluedHour$Fraction" ({ cls := "GluedHour$Fraction", name := "sideOf", desc := "(Z)J" } : Jvm.MethodName) ({ cls := "GluedHour$Fraction", name := "sideOf", desc := "(Z)J" } : Jvm.MethodName)) ∈ lw_gd := tb_4 (i := 186) rfl rfl
theorem wd_1002 : (Jvm.Cond.code ({ cls := "GluedHour$Fraction", name := "sideOf", desc := "(Z)J" } : Jvm.MethodName) prog_3_method_4_code (2 : Nat) (Option.some Jvm.ClassFile.FieldType.long)) ∈ lw_gd := tb_4 (i := 187) rfl rfl
theorem wd_1003 : (Jvm.Cond.constantLong "GluedHour" (286 : Nat) (-1000000 : Int64)) ∈ lw_gd := tb_4 (i := 188) rfl rfl
theorem wd_1004 : (Jvm.Cond.methodLink "GluedHourLaw" (137 : Nat) ({ cls := "GluedHour", name := "doom", desc := "(IIIZ)J" } : Jvm.MethodName)) ∈ lw_gd := tb_4 (i := 189) rfl rfl
theorem wd_1005 : (Jvm.Cond.instanceMethod ({ cls := "GluedHour", name := "doom", desc := "(IIIZ)J" } : Jvm.MethodName)) ∈ lw_gd := tb_4 (i := 190) rfl rfl
theorem wd_1006 : (Jvm.Cond.selects "GluedHour" ({ cls := "GluedHour", name := "doom", desc := "(IIIZ)J" } : Jvm.MethodName) ({ cls := "GluedHour", name := "doom", desc := "(IIIZ)J" } : Jvm.MethodName)) ∈ lw_gd := tb_4 (i := 191) rfl rfl
theorem wd_1007 : (Jvm.Cond.code ({ cls := "GluedHour", name := "doom", desc := "(IIIZ)J" } : Jvm.MethodName) prog_1_method_31_code (5 : Nat) (Option.some Jvm.ClassFile.FieldType.long)) ∈ lw_gd := tb_4 (i := 192) rfl rfl
theorem wd_1008 : (Jvm.Cond.methodLink "GluedHourLaw" (141 : Nat) ({ cls := "GluedHour", name := "ruling", desc := "(II)I" } : Jvm.MethodName)) ∈ lw_gd := tb_4 (i := 193) rfl rfl
theorem wd_1009 : (Jvm.Cond.instanceMethod ({ cls := "GluedHour", name := "ruling", desc := "(II)I" } : Jvm.MethodName)) ∈ lw_gd := tb_4 (i := 194) rfl rfl
theorem wd_1010 : (Jvm.Cond.selects "GluedHour" ({ cls := "GluedHour", name := "ruling", desc := "(II)I" } : Jvm.MethodName) ({ cls := "GluedHour", name := "ruling", desc := "(II)I" } : Jvm.MethodName)) ∈ lw_gd := tb_4 (i := 195) rfl rfl
theorem wd_1011 : (Jvm.Cond.code ({ cls := "GluedHour", name := "ruling", desc := "(II)I" } : Jvm.MethodName) prog_1_method_32_code (14 : Nat) (Option.some Jvm.ClassFile.FieldType.int)) ∈ lw_gd := tb_4 (i := 196) rfl rfl
theorem wd_1012 : (Jvm.Cond.methodLink "GluedHour" (288 : Nat) ({ cls := "GluedHour", name := "changeBy", desc := "(LGluedHour$Republic;II)J" } : Jvm.MethodName)) ∈ lw_gd := tb_4 (i := 197) rfl rfl
theorem wd_1014 : (Jvm.Cond.instanceMethod ({ cls := "GluedHour", name := "changeBy", desc := "(LGluedHour$Republic;II)J" } : Jvm.MethodName)) ∈ lw_gd := tb_4 (i := 199) rfl rfl
theorem wd_1015 : (Jvm.Cond.code ({ cls := "GluedHour", name := "changeBy", desc := "(LGluedHour$Republic;II)J" } : Jvm.MethodName) prog_1_method_42_code (8 : Nat) (Option.some Jvm.ClassFile.FieldType.long)) ∈ lw_gd := tb_4 (i := 200) rfl rfl
theorem wd_1016 : (Jvm.Cond.methodLink "GluedHour" (307 : Nat) ({ cls := "GluedHour$Republic", name := "extraBy", desc := "(II)I" } : Jvm.MethodName)) ∈ lw_gd := tb_4 (i := 201) rfl rfl
theorem wd_1017 : (Jvm.Cond.methodLink "GluedHourLaw" (145 : Nat) ({ cls := "GluedHour", name := "trust", desc := "(IIZ)I" } : Jvm.MethodName)) ∈ lw_gd := tb_4 (i := 202) rfl rfl
theorem wd_1018 : (Jvm.Cond.instanceMethod ({ cls := "GluedHour", name := "trust", desc := "(IIZ)I" } : Jvm.MethodName)) ∈ lw_gd := tb_4 (i := 203) rfl rfl
theorem wd_1019 : (Jvm.Cond.selects "GluedHour" ({ cls := "GluedHour", name := "trust", desc := "(IIZ)I" } : Jvm.MethodName) ({ cls := "GluedHour", name := "trust", desc := "(IIZ)I" } : Jvm.MethodName)) ∈ lw_gd := tb_4 (i := 204) rfl rfl
theorem wd_1020 : (Jvm.Cond.code ({ cls := "GluedHour", name := "trust", desc := "(IIZ)I" } : Jvm.MethodName) prog_1_method_33_code (9 : Nat) (Option.some Jvm.ClassFile.FieldType.int)) ∈ lw_gd := tb_4 (i := 205) rfl rfl
theorem wd_1021 : (Jvm.Cond.methodLink "GluedHourLaw" (149 : Nat) ({ cls := "GluedHour", name := "tight", desc := "(II)I" } : Jvm.MethodName)) ∈ lw_gd := tb_4 (i := 206) rfl rfl
theorem wd_1022 : (Jvm.Cond.instanceMethod ({ cls := "GluedHour", name := "tight", desc := "(II)I" } : Jvm.MethodName)) ∈ lw_gd := tb_4 (i := 207) rfl rfl
theorem wd_1023 : (Jvm.Cond.selects "GluedHour" ({ cls := "GluedHour", name := "tight", desc := "(II)I" } : Jvm.MethodName) ({ cls := "GluedHour", name := "tight", desc := "(II)I" } : Jvm.MethodName)) ∈ lw_gd := tb_4 (i := 208) rfl rfl
theorem wd_1024 : (Jvm.Cond.code ({ cls := "GluedHour", name := "tight", desc := "(II)I" } : Jvm.MethodName) prog_1_method_34_code (7 : Nat) (Option.some Jvm.ClassFile.FieldType.int)) ∈ lw_gd := tb_4 (i := 209) rfl rfl
theorem wd_1025 : (Jvm.Cond.methodLink "GluedHourLaw" (153 : Nat) ({ cls := "GluedHour", name := "free", desc := "(IIZ)I" } : Jvm.MethodName)) ∈ lw_gd := tb_4 (i := 210) rfl rfl
theorem wd_1026 : (Jvm.Cond.instanceMethod ({ cls := "GluedHour", name := "free", desc := "(IIZ)I" } : Jvm.MethodName)) ∈ lw_gd := tb_4 (i := 211) rfl rfl
theorem wd_1027 : (Jvm.Cond.selects "GluedHour" ({ cls := "GluedHour", name := "free", desc := "(IIZ)I" } : Jvm.MethodName) ({ cls := "GluedHour", name := "free", desc := "(IIZ)I" } : Jvm.MethodName)) ∈ lw_gd := tb_4 (i := 212) rfl rfl
theorem wd_1028 : (Jvm.Cond.code ({ cls := "GluedHour", name := "free", desc := "(IIZ)I" } : Jvm.MethodName) prog_1_method_35_code (6 : Nat) (Option.some Jvm.ClassFile.FieldType.int)) ∈ lw_gd := tb_4 (i := 213) rfl rfl
theorem wd_1029 : (Jvm.Cond.methodLink "GluedHour" (292 : Nat) ({ cls := "GluedHour$Planner", name := "choose", desc := "(LGluedHour$Republic;LGluedHour$Odds;LGluedHour$Lines;Z)Z" } : Jvm.MethodName)) ∈ lw_gd := tb_4 (i := 214) rfl rfl
theorem wd_1030 : (Jvm.Cond.methodLink "GluedHourLaw" (157 : Nat) ({ cls := "GluedHour", name := "count", desc := "(I)I" } : Jvm.MethodName)) ∈ lw_gd := tb_4 (i := 215) rfl rfl
theorem wd_1031 : (Jvm.Cond.instanceMethod ({ cls := "GluedHour", name := "count", desc := "(I)I" } : Jvm.MethodName)) ∈ lw_gd := tb_4 (i := 216) rfl rfl
theorem wd_1032 : (Jvm.Cond.selects "GluedHour" ({ cls := "GluedHour", name := "count", desc := "(I)I" } : Jvm.MethodName) ({ cls := "GluedHour", name := "count", desc := "(I)I" } : Jvm.MethodName)) ∈ lw_gd := tb_4 (i := 217) rfl rfl
theorem wd_1033 : (Jvm.Cond.code ({ cls := "GluedHour", name := "count", desc := "(I)I" } : Jvm.MethodName) prog_1_method_36_code (2 : Nat) (Option.some Jvm.ClassFile.FieldType.int)) ∈ lw_gd := tb_4 (i := 218) rfl rfl
theorem wd_1034 : (Jvm.Cond.methodLink "GluedHourLaw" (161 : Nat) ({ cls := "GluedHour", name := "image", desc := "(I)Z" } : Jvm.MethodName)) ∈ lw_gd := tb_4 (i := 219) rfl rfl
theorem wd_1035 : (Jvm.Cond.instanceMethod ({ cls := "GluedHour", name := "image", desc := "(I)Z" } : Jvm.MethodName)) ∈ lw_gd := tb_4 (i := 220) rfl rfl
theorem wd_1036 : (Jvm.Cond.selects "GluedHour" ({ cls := "GluedHour", name := "image", desc := "(I)Z" } : Jvm.MethodName) ({ cls := "GluedHour", name := "image", desc := "(I)Z" } : Jvm.MethodName)) ∈ lw_gd := tb_4 (i := 221) rfl rfl
theorem wd_1037 : (Jvm.Cond.code ({ cls := "GluedHour", name := "image", desc := "(I)Z" } : Jvm.MethodName) prog_1_method_37_code (3 : Nat) (Option.some Jvm.ClassFile.FieldType.boolean)) ∈ lw_gd := tb_4 (i := 222) rfl rfl
theorem wd_1038 : (Jvm.Cond.methodLink "GluedHour" (299 : Nat) ({ cls := "GluedHour$Told", name := "copy", desc := "(LGluedHour$Told;)V" } : Jvm.MethodName)) ∈ lw_gd := tb_4 (i := 223) rfl rfl
theorem wd_1039 : (Jvm.Cond.instanceMethod ({ cls := "GluedHour$Told", name := "copy", desc := "(LGluedHour$Told;)V" } : Jvm.MethodName)) ∈ lw_gd := tb_4 (i := 224) rfl rfl
theorem wd_1040 : (Jvm.Cond.selects "GluedHour$Told" ({ cls := "GluedHour$Told", name := "copy", desc := "(LGluedHour$Told;)V" } : Jvm.MethodName) ({ cls := "GluedHour$Told", name := "copy", desc := "(LGluedHour$Told;)V" } : Jvm.MethodName)) ∈ lw_gd := tb_4 (i := 225) rfl rfl
theorem wd_1041 : (Jvm.Cond.code ({ cls := "GluedHour$Told", name := "copy", desc := "(LGluedHour$Told;)V" } : Jvm.MethodName) prog_10_method_7_code (3 : Nat) (Option.none : Option Jvm.ClassFile.FieldType)) ∈ lw_gd := tb_4 (i := 226) rfl rfl
theorem wd_1042 : (Jvm.Cond.methodLink "GluedHour$Told" (85 : Nat) ({ cls := "java/lang/System", name := "arraycopy", desc := "(Ljava/lang/Object;ILjava/lang/Object;II)V" } : Jvm.MethodName)) ∈ lw_gd := tb_4 (i := 227) rfl rfl
theorem wd_1043 : (Jvm.Cond.methodLink "GluedHourLaw" (166 : Nat) ({ cls := "GluedHour", name := "again", desc := "(I)Z" } : Jvm.MethodName)) ∈ lw_gd := tb_4 (i := 228) rfl rfl
theorem wd_1044 : (Jvm.Cond.instanceMethod ({ cls := "GluedHour", name := "again", desc := "(I)Z" } : Jvm.MethodName)) ∈ lw_gd := tb_4 (i := 229) rfl rfl
theorem wd_1045 : (Jvm.Cond.selects "GluedHour" ({ cls := "GluedHour", name := "again", desc := "(I)Z" } : Jvm.MethodName) ({ cls := "GluedHour", name := "again", desc := "(I)Z" } : Jvm.MethodName)) ∈ lw_gd := tb_4 (i := 230) rfl rfl
theorem wd_1046 : (Jvm.Cond.code ({ cls := "GluedHour", name := "again", desc := "(I)Z" } : Jvm.MethodName) prog_1_method_38_code (3 : Nat) (Option.some Jvm.ClassFile.FieldType.boolean)) ∈ lw_gd := tb_4 (i := 231) rfl rfl
theorem wd_1047 : (Jvm.Cond.classLink "GluedHourLaw" (10 : Nat) "GluedHourModel") ∈ lw_gd := tb_4 (i := 232) rfl rfl
theorem wd_1048 : (Jvm.Cond.instantiable "GluedHourModel" (59 : Nat)) ∈ lw_gd := tb_4 (i := 233) rfl rfl
theorem wd_1049 : (Jvm.Cond.methodLink "GluedHourLaw" (12 : Nat) ({ cls := "GluedHourModel", name := "<init>", desc := "()V" } : Jvm.MethodName)) ∈ lw_gd := tb_4 (i := 234) rfl rfl
theorem wd_1050 : (Jvm.Cond.instanceMethod ({ cls := "GluedHourModel", name := "<init>", desc := "()V" } : Jvm.MethodName)) ∈ lw_gd := tb_4 (i := 235) rfl rfl
theorem wd_1051 : (Jvm.Cond.code ({ cls := "GluedHourModel", name := "<init>", desc := "()V" } : Jvm.MethodName) prog_12_method_1_code (1 : Nat) (Option.none : Option Jvm.ClassFile.FieldType)) ∈ lw_gd := tb_4 (i := 236) rfl rfl
theorem wd_1052 : (Jvm.Cond.methodLink "GluedHourModel" (1 : Nat) ({ cls := "java/lang/Object", name := "<init>", desc := "()V" } : Jvm.MethodName)) ∈ lw_gd := tb_4 (i := 237) rfl rfl
theorem wd_1053 : (Jvm.Cond.fieldLink "GluedHourModel" (88 : Nat) "GluedHourModel" "code" "I") ∈ lw_gd := tb_4 (i := 238) rfl rfl
theorem wd_1054 : (Jvm.Cond.fieldLink "GluedHourModel" (7 : Nat) "GluedHourModel" "tape" "[B") ∈ lw_gd := tb_4 (i := 239) rfl rfl
theorem wd_1055 : (Jvm.Cond.fieldLink "GluedHourModel" (13 : Nat) "GluedHourModel" "size" "[I") ∈ lw_gd := tb_5 (i := 0) rfl rfl
theorem wd_1056 : (Jvm.Cond.fieldLink "GluedHourModel" (17 : Nat) "GluedHourModel" "fault" "[I") ∈ lw_gd := tb_5 (i := 1) rfl rfl
theorem wd_1057 : (Jvm.Cond.fieldLink "GluedHourModel" (20 : Nat) "GluedHourModel" "faultPlace" "[I") ∈ lw_gd := tb_5 (i := 2) rfl rfl
theorem wd_1058 : (Jvm.Cond.fieldLink "GluedHourModel" (23 : Nat) "GluedHourModel" "many" "[I") ∈ lw_gd := tb_5 (i := 3) rfl rfl
theorem wd_1059 : (Jvm.Cond.fieldLink "GluedHourModel" (26 : Nat) "GluedHourModel" "republics" "[I") ∈ lw_gd := tb_5 (i := 4) rfl rfl
theorem wd_1060 : (Jvm.Cond.fieldLink "GluedHourModel" (29 : Nat) "GluedHourModel" "weeks" "[I") ∈ lw_gd := tb_5 (i := 5) rfl rfl
theorem wd_1061 : (Jvm.Cond.fieldLink "GluedHourModel" (32 : Nat) "GluedHourModel" "errands" "[I") ∈ lw_gd := tb_5 (i := 6) rfl rfl
theorem wd_1062 : (Jvm.Cond.fieldLink "GluedHourModel" (35 : Nat) "GluedHourModel" "tables" "[I") ∈ lw_gd := tb_5 (i := 7) rfl rfl
theorem wd_1063 : (Jvm.Cond.fieldLink "GluedHourModel" (38 : Nat) "GluedHourModel" "sights" "[I") ∈ lw_gd := tb_5 (i := 8) rfl rfl
theorem wd_1064 : (Jvm.Cond.fieldLink "GluedHourModel" (104 : Nat) "GluedHourModel" "reached" "I") ∈ lw_gd := tb_5 (i := 9) rfl rfl
theorem wd_1065 : (Jvm.Cond.fieldLink "GluedHourModel" (107 : Nat) "GluedHourModel" "length" "I") ∈ lw_gd := tb_5 (i := 10) rfl rfl
theorem wd_1066 : (Jvm.Cond.fieldLink "GluedHourModel" (114 : Nat) "GluedHourModel" "begins" "I") ∈ lw_gd := tb_5 (i := 11) rfl rfl
theorem wd_1067 : (Jvm.Cond.fieldLink "GluedHourModel" (121 : Nat) "GluedHourModel" "sort" "I") ∈ lw_gd := tb_5 (i := 12) rfl rfl
theorem wd_1068 : (Jvm.Cond.fieldLink "GluedHourModel" (124 : Nat) "GluedHourModel" "value" "I") ∈ lw_gd := tb_5 (i := 13) rfl rfl
theorem wd_1069 : (Jvm.Cond.fieldLink "GluedHourModel" (117 : Nat) "GluedHourModel" "word" "J") ∈ lw_gd := tb_5 (i := 14) rfl rfl
theorem wd_1070 : (Jvm.Cond.fieldLink "GluedHourModel" (127 : Nat) "GluedHourModel" "wrongAt" "I") ∈ lw_gd := tb_5 (i := 15) rfl rfl
theorem wd_1071 : (Jvm.Cond.fieldLink "GluedHourModel" (130 : Nat) "GluedHourModel" "laterFault" "I") ∈ lw_gd := tb_5 (i := 16) rfl rfl
theorem wd_1072 : (Jvm.Cond.fieldLink "GluedHourModel" (133 : Nat) "GluedHourModel" "laterPlace" "I") ∈ lw_gd := tb_5 (i := 17) rfl rfl
theorem wd_1073 : (Jvm.Cond.fieldLink "GluedHourModel" (41 : Nat) "GluedHourModel" "told" "[I") ∈ lw_gd := tb_5 (i := 18) rfl rfl
theorem wd_1074 : (Jvm.Cond.fieldLink "GluedHourModel" (44 : Nat) "GluedHourModel" "read" "[I") ∈ lw_gd := tb_5 (i := 19) rfl rfl
theorem wd_1075 : (Jvm.Cond.fieldLink "GluedHourModel" (167 : Nat) "GluedHourModel" "farHour" "I") ∈ lw_gd := tb_5 (i := 20) rfl rfl
theorem wd_1076 : (Jvm.Cond.fieldLink "GluedHourModel" (160 : Nat) "GluedHourModel" "farOne" "I") ∈ lw_gd := tb_5 (i := 21) rfl rfl
theorem wd_1077 : (Jvm.Cond.fieldLink "GluedHourModel" (144 : Nat) "GluedHourModel" "good" "Z") ∈ lw_gd := tb_5 (i := 22) rfl rfl
theorem wd_1078 : (Jvm.Cond.fieldLink "GluedHourModel" (244 : Nat) "GluedHourModel" "republic" "I") ∈ lw_gd := tb_5 (i := 23) rfl rfl
theorem wd_1079 : (Jvm.Cond.fieldLink "GluedHourModel" (263 : Nat) "GluedHourModel" "hours" "I") ∈ lw_gd := tb_5 (i := 24) rfl rfl
theorem wd_1080 : (Jvm.Cond.fieldLink "GluedHourModel" (276 : Nat) "GluedHourModel" "people" "I") ∈ lw_gd := tb_5 (i := 25) rfl rfl
theorem wd_1081 : (Jvm.Cond.fieldLink "GluedHourModel" (47 : Nat) "GluedHourModel" "purse" "[I") ∈ lw_gd := tb_5 (i := 26) rfl rfl
theorem wd_1082 : (Jvm.Cond.fieldLink "GluedHourModel" (50 : Nat) "GluedHourModel" "deed" "[I") ∈ lw_gd := tb_5 (i := 27) rfl rfl
theorem wd_1083 : (Jvm.Cond.fieldLink "GluedHourModel" (53 : Nat) "GluedHourModel" "values" "[I") ∈ lw_gd := tb_5 (i := 28) rfl rfl
theorem wd_1084 : (Jvm.Cond.fieldLink "GluedHourModel" (56 : Nat) "GluedHourModel" "weight" "[I") ∈ lw_gd := tb_5 (i := 29) rfl rfl
theorem wd_1085 : (Jvm.Cond.fieldLink "GluedHourModel" (279 : Nat) "GluedHourModel" "allWeights" "I") ∈ lw_gd := tb_5 (i := 30) rfl rfl
theorem wd_1086 : (Jvm.Cond.fieldLink "GluedHourModel" (273 : Nat) "GluedHourModel" "poorest" "I") ∈ lw_gd := tb_5 (i := 31) rfl rfl
theorem wd_1087 : (Jvm.Cond.fieldLink "GluedHourModel" (247 : Nat) "GluedHourModel" "ruledKind" "I") ∈ lw_gd := tb_5 (i := 32) rfl rfl
theorem wd_1088 : (Jvm.Cond.fieldLink "GluedHourModel" (250 : Nat) "GluedHourModel" "ruledMode" "I") ∈ lw_gd := tb_5 (i := 33) rfl rfl
theorem wd_1089 : (Jvm.Cond.fieldLink "GluedHourModel" (312 : Nat) "GluedHourModel" "week" "I") ∈ lw_gd := tb_5 (i := 34) rfl rfl
theorem wd_1090 : (Jvm.Cond.fieldLink "GluedHourModel" (321 : Nat) "GluedHourModel" "likelyUp" "J") ∈ lw_gd := tb_5 (i := 35) rfl rfl
theorem wd_1091 : (Jvm.Cond.fieldLink "GluedHourModel" (324 : Nat) "GluedHourModel" "likelyDown" "J") ∈ lw_gd := tb_5 (i := 36) rfl rfl
theorem wd_1092 : (Jvm.Cond.fieldLink "GluedHourModel" (335 : Nat) "GluedHourModel" "seed" "I") ∈ lw_gd := tb_5 (i := 37) rfl rfl
theorem wd_1093 : (Jvm.Cond.fieldLink "GluedHourModel" (59 : Nat) "GluedHourModel" "often" "[I") ∈ lw_gd := tb_5 (i := 38) rfl rfl
theorem wd_1094 : (Jvm.Cond.fieldLink "GluedHourModel" (365 : Nat) "GluedHourModel" "row" "I") ∈ lw_gd := tb_5 (i := 39) rfl rfl
theorem wd_1095 : (Jvm.Cond.fieldLink "GluedHourModel" (374 : Nat) "GluedHourModel" "tasks" "I") ∈ lw_gd := tb_5 (i := 40) rfl rfl
theorem wd_1096 : (Jvm.Cond.fieldLink "GluedHourModel" (62 : Nat) "GluedHourModel" "best" "[J") ∈ lw_gd := tb_5 (i := 41) rfl rfl
theorem wd_1097 : (Jvm.Cond.fieldLink "GluedHourModel" (66 : Nat) "GluedHourModel" "chosen" "[I") ∈ lw_gd := tb_5 (i := 42) rfl rfl
theorem wd_1098 : (Jvm.Cond.fieldLink "GluedHourModel" (368 : Nat) "GluedHourModel" "anyHour" "Z") ∈ lw_gd := tb_5 (i := 43) rfl rfl
theorem wd_1099 : (Jvm.Cond.fieldLink "GluedHourModel" (398 : Nat) "GluedHourModel" "knowing" "J") ∈ lw_gd := tb_5 (i := 44) rfl rfl
theorem wd_1100 : (Jvm.Cond.fieldLink "GluedHourModel" (413 : Nat) "GluedHourModel" "table" "I") ∈ lw_gd := tb_5 (i := 45) rfl rfl
theorem wd_1101 : (Jvm.Cond.fieldLink "GluedHourModel" (69 : Nat) "GluedHourModel" "earliest" "[I") ∈ lw_gd := tb_5 (i := 46) rfl rfl
theorem wd_1102 : (Jvm.Cond.fieldLink "GluedHourModel" (440 : Nat) "GluedHourModel" "seen" "I") ∈ lw_gd := tb_5 (i := 47) rfl rfl
theorem wd_1103 : (Jvm.Cond.fieldLink "GluedHourModel" (455 : Nat) "GluedHourModel" "fits" "I") ∈ lw_gd := tb_5 (i := 48) rfl rfl
theorem wd_1104 : (Jvm.Cond.fieldLink "GluedHourModel" (449 : Nat) "GluedHourModel" "seenDays" "I") ∈ lw_gd := tb_5 (i := 49) rfl rfl
theorem wd_1105 : (Jvm.Cond.fieldLink "GluedHourModel" (72 : Nat) "GluedHourModel" "may" "[I") ∈ lw_gd := tb_5 (i := 50) rfl rfl
theorem wd_1106 : (Jvm.Cond.fieldLink "GluedHourModel" (75 : Nat) "GluedHourModel" "rowHour" "[I") ∈ lw_gd := tb_5 (i := 51) rfl rfl
theorem wd_1107 : (Jvm.Cond.fieldLink "GluedHourModel" (78 : Nat) "GluedHourModel" "reigned" "[I") ∈ lw_gd := tb_5 (i := 52) rfl rfl
theorem wd_1108 : (Jvm.Cond.fieldLink "GluedHourModel" (81 : Nat) "GluedHourModel" "chose" "[I") ∈ lw_gd := tb_5 (i := 53) rfl rfl
theorem wd_1109 : (Jvm.Cond.fieldLink "GluedHourModel" (473 : Nat) "GluedHourModel" "up" "J") ∈ lw_gd := tb_5 (i := 54) rfl rfl
theorem wd_1110 : (Jvm.Cond.fieldLink "GluedHourModel" (470 : Nat) "GluedHourModel" "down" "J") ∈ lw_gd := tb_5 (i := 55) rfl rfl
theorem wd_1111 : (Jvm.Cond.fieldLink "GluedHourModel" (84 : Nat) "GluedHourModel" "kept" "[Z") ∈ lw_gd := tb_5 (i := 56) rfl rfl
theorem wd_1231 : (Jvm.Cond.arrayClass Jvm.ClassFile.FieldType.boolean) ∈ lw_gd := tb_5 (i := 176) rfl rfl
theorem wd_1232 : (Jvm.Cond.methodLink "GluedHourLaw" (17 : Nat) ({ cls := "GluedHourModel", name := "feed", desc := "(IIIII)I" } : Jvm.MethodName)) ∈ lw_gd := tb_5 (i := 177) rfl rfl
theorem wd_1233 : (Jvm.Cond.instanceMethod ({ cls := "GluedHourModel", name := "feed", desc := "(IIIII)I" } : Jvm.MethodName)) ∈ lw_gd := tb_5 (i := 178) rfl rfl
theorem wd_1234 : (Jvm.Cond.selects "GluedHourModel" ({ cls := "GluedHourModel", name := "feed", desc := "(IIIII)I" } : Jvm.MethodName) ({ cls := "GluedHourModel", name := "feed", desc := "(IIIII)I" } : Jvm.MethodName)) ∈ lw_gd := tb_5 (i := 179) rfl rfl
theorem wd_1235 : (Jvm.Cond.code ({ cls := "GluedHourModel", name := "feed", desc := "(IIIII)I" } : Jvm.MethodName) prog_12_method_10_code (6 : Nat) (Option.some Jvm.ClassFile.FieldType.int)) ∈ lw_gd := tb_5 (i := 180) rfl rfl
theorem wd_1236 : (Jvm.Cond.methodLink "GluedHourModel" (100 : Nat) ({ cls := "GluedHourModel", name := "four", desc := "(I)V" } : Jvm.MethodName)) ∈ lw_gd := tb_5 (i := 181) rfl rfl
theorem wd_1238 : (Jvm.Cond.instanceMethod ({ cls := "GluedHourModel", name := "four", desc := "(I)V" } : Jvm.MethodName)) ∈ lw_gd := tb_5 (i := 183) rfl rfl
theorem wd_1239 : (Jvm.Cond.code ({ cls := "GluedHourModel", name := "four", desc := "(I)V" } : Jvm.MethodName) prog_12_method_11_code (3 : Nat) (Option.none : Option Jvm.ClassFile.FieldType)) ∈ lw_gd := tb_5 (i := 184) rfl rfl
theorem wd_1240 : (Jvm.Cond.methodLink "GluedHourLaw" (22 : Nat) ({ cls := "GluedHourModel", name := "end", desc := "(I)I" } : Jvm.MethodName)) ∈ lw_gd := tb_5 (i := 185) rfl rfl
theorem wd_1241 : (Jvm.Cond.instanceMethod ({ cls := "GluedHourModel", name := "end", desc := "(I)I" } : Jvm.MethodName)) ∈ lw_gd := tb_5 (i := 186) rfl rfl
theorem wd_1242 : (Jvm.Cond.selects "GluedHourModel" ({ cls := "GluedHourModel", name := "end", desc := "(I)I" } : Jvm.MethodName) ({ cls := "GluedHourModel", name := "end", desc := "(I)I" } : Jvm.MethodName)) ∈ lw_gd := tb_5 (i := 187) rfl rfl
theorem wd_1243 : (Jvm.Cond.code ({ cls := "GluedHourModel", name := "end", desc := "(I)I" } : Jvm.MethodName) prog_12_method_12_code (2 : Nat) (Option.some Jvm.ClassFile.FieldType.int)) ∈ lw_gd := tb_5 (i := 188) rfl rfl
theorem wd_1244 : (Jvm.Cond.methodLink "GluedHourModel" (96 : Nat) ({ cls := "GluedHourModel", name := "in", desc := "(III)Z" } : Jvm.MethodName)) ∈ lw_gd := tb_5 (i := 189) rfl rfl
theorem wd_1245 : (Jvm.Cond.static ({ cls := "GluedHourModel", name := "in", desc := "(III)Z" } : Jvm.MethodName)) ∈ lw_gd := tb_5 (i := 190) rfl rfl
theorem wd_1246 : (Jvm.Cond.code ({ cls := "GluedHourModel", name := "in", desc := "(III)Z" } : Jvm.MethodName) prog_12_method_3_code (3 : Nat) (Option.some Jvm.ClassFile.FieldType.boolean)) ∈ lw_gd := tb_5 (i := 191) rfl rfl
theorem wd_1247 : (Jvm.Cond.methodLink "GluedHourLaw" (27 : Nat) ({ cls := "GluedHourModel", name := "text", desc := "(II)I" } : Jvm.MethodName)) ∈ lw_gd := tb_5 (i := 192) rfl rfl
theorem wd_1248 : (Jvm.Cond.instanceMethod ({ cls := "GluedHourModel", name := "text", desc := "(II)I" } : Jvm.MethodName)) ∈ lw_gd := tb_5 (i := 193) rfl rfl
theorem wd_1249 : (Jvm.Cond.selects "GluedHourModel" ({ cls := "GluedHourModel", name := "text", desc := "(II)I" } : Jvm.MethodName) ({ cls := "GluedHourModel", name := "text", desc := "(II)I" } : Jvm.MethodName)) ∈ lw_gd := tb_5 (i := 194) rfl rfl
theorem wd_1250 : (Jvm.Cond.code ({ cls := "GluedHourModel", name := "text", desc := "(II)I" } : Jvm.MethodName) prog_12_method_32_code (4 : Nat) (Option.some Jvm.ClassFile.FieldType.int)) ∈ lw_gd := tb_5 (i := 195) rfl rfl
theorem wd_1251 : (Jvm.Cond.methodLink "GluedHourModel" (234 : Nat) ({ cls := "GluedHourModel", name := "is", desc := "(II)Z" } : Jvm.MethodName)) ∈ lw_gd := tb_5 (i := 196) rfl rfl
theorem wd_1253 : (Jvm.Cond.instanceMethod ({ cls := "GluedHourModel", name := "is", desc := "(II)Z" } : Jvm.MethodName)) ∈ lw_gd := tb_5 (i := 198) rfl rfl
theorem wd_1254 : (Jvm.Cond.code ({ cls := "GluedHourModel", name := "is", desc := "(II)Z" } : Jvm.MethodName) prog_12_method_9_code (3 : Nat) (Option.some Jvm.ClassFile.FieldType.boolean)) ∈ lw_gd := tb_5 (i := 199) rfl rfl
theorem wd_1255 : (Jvm.Cond.methodLink "GluedHourModel" (238 : Nat) ({ cls := "GluedHourModel", name := "readText", desc := "(I)Z" } : Jvm.MethodName)) ∈ lw_gd := tb_5 (i := 200) rfl rfl
theorem wd_1257 : (Jvm.Cond.instanceMethod ({ cls := "GluedHourModel", name := "readText", desc := "(I)Z" } : Jvm.MethodName)) ∈ lw_gd := tb_5 (i := 202) rfl rfl
theorem wd_1258 : (Jvm.Cond.code ({ cls := "GluedHourModel", name := "readText", desc := "(I)Z" } : Jvm.MethodName) prog_12_method_29_code (3 : Nat) (Option.some Jvm.ClassFile.FieldType.boolean)) ∈ lw_gd := tb_5 (i := 203) rfl rfl
theorem wd_1259 : (Jvm.Cond.methodLink "GluedHourModel" (148 : Nat) ({ cls := "GluedHourModel", name := "token", desc := "()V" } : Jvm.MethodName)) ∈ lw_gd := tb_5 (i := 204) rfl rfl
theorem wd_1261 : (Jvm.Cond.instanceMethod ({ cls := "GluedHourModel", name := "token", desc := "()V" } : Jvm.MethodName)) ∈ lw_gd := tb_5 (i := 206) rfl rfl
theorem wd_1262 : (Jvm.Cond.code ({ cls := "GluedHourModel", name := "token", desc := "()V" } : Jvm.MethodName) prog_12_method_14_code (3 : Nat) (Option.none : Option Jvm.ClassFile.FieldType)) ∈ lw_gd := tb_5 (i := 207) rfl rfl
theorem wd_1263 : (Jvm.Cond.methodLink "GluedHourModel" (110 : Nat) ({ cls := "GluedHourModel", name := "see", desc := "()I" } : Jvm.MethodName)) ∈ lw_gd := tb_5 (i := 208) rfl rfl
theorem wd_1265 : (Jvm.Cond.instanceMethod ({ cls := "GluedHourModel", name := "see", desc := "()I" } : Jvm.MethodName)) ∈ lw_gd := tb_5 (i := 210) rfl rfl
theorem wd_1266 : (Jvm.Cond.code ({ cls := "GluedHourModel", name := "see", desc := "()I" } : Jvm.MethodName) prog_12_method_13_code (1 : Nat) (Option.some Jvm.ClassFile.FieldType.int)) ∈ lw_gd := tb_5 (i := 211) rfl rfl
theorem wd_1267 : (Jvm.Cond.methodLink "GluedHourModel" (226 : Nat) ({ cls := "GluedHourModel", name := "lines", desc := "(I)Z" } : Jvm.MethodName)) ∈ lw_gd := tb_5 (i := 212) rfl rfl
theorem wd_1269 : (Jvm.Cond.instanceMethod ({ cls := "GluedHourModel", name := "lines", desc := "(I)Z" } : Jvm.MethodName)) ∈ lw_gd := tb_5 (i := 214) rfl rfl
theorem wd_1270 : (Jvm.Cond.code ({ cls := "GluedHourModel", name := "lines", desc := "(I)Z" } : Jvm.MethodName) prog_12_method_28_code (4 : Nat) (Option.some Jvm.ClassFile.FieldType.boolean)) ∈ lw_gd := tb_5 (i := 215) rfl rfl
theorem wd_1271 : (Jvm.Cond.methodLink "GluedHourModel" (222 : Nat) ({ cls := "GluedHourModel", name := "lineOf", desc := "(IJI)Z" } : Jvm.MethodName)) ∈ lw_gd := tb_5 (i := 216) rfl rfl
theorem wd_1273 : (Jvm.Cond.instanceMethod ({ cls := "GluedHourModel", name := "lineOf", desc := "(IJI)Z" } : Jvm.MethodName)) ∈ lw_gd := tb_5 (i := 218) rfl rfl
theorem wd_1274 : (Jvm.Cond.code ({ cls := "GluedHourModel", name := "lineOf", desc := "(IJI)Z" } : Jvm.MethodName) prog_12_method_27_code (5 : Nat) (Option.some Jvm.ClassFile.FieldType.boolean)) ∈ lw_gd := tb_5 (i := 219) rfl rfl
theorem wd_1275 : (Jvm.Cond.methodLink "GluedHourModel" (206 : Nat) ({ cls := "GluedHourModel", name := "republicLine", desc := "(JI)Z" } : Jvm.MethodName)) ∈ lw_gd := tb_5 (i := 220) rfl rfl
theorem wd_1277 : (Jvm.Cond.instanceMethod ({ cls := "GluedHourModel", name := "republicLine", desc := "(JI)Z" } : Jvm.MethodName)) ∈ lw_gd := tb_5 (i := 222) rfl rfl
theorem wd_1278 : (Jvm.Cond.code ({ cls := "GluedHourModel", name := "republicLine", desc := "(JI)Z" } : Jvm.MethodName) prog_12_method_22_code (4 : Nat) (Option.some Jvm.ClassFile.FieldType.boolean)) ∈ lw_gd := tb_5 (i := 223) rfl rfl
theorem wd_1279 : (Jvm.Cond.constantLong "GluedHourModel" (170 : Nat) (448546566771 : Int64)) ∈ lw_gd := tb_5 (i := 224) rfl rfl
theorem wd_1280 : (Jvm.Cond.constantLong "GluedHourModel" (172 : Nat) (1734437230 : Int64)) ∈ lw_gd := tb_5 (i := 225) rfl rfl
theorem wd_1281 : (Jvm.Cond.constantLong "GluedHourModel" (174 : Nat) (1819243379 : Int64)) ∈ lw_gd := tb_5 (i := 226) rfl rfl
theorem wd_1282 : (Jvm.Cond.constantLong "GluedHourModel" (176 : Nat) (123581014175598 : Int64)) ∈ lw_gd := tb_5 (i := 227) rfl rfl
theorem wd_1283 : (Jvm.Cond.constantLong "GluedHourModel" (178 : Nat) (1685022067 : Int64)) ∈ lw_gd := tb_5 (i := 228) rfl rfl
theorem wd_1284 : (Jvm.Cond.constantLong "GluedHourModel" (180 : Nat) (7106420 : Int64)) ∈ lw_gd := tb_5 (i := 229) rfl rfl
theorem wd_1285 : (Jvm.Cond.methodLink "GluedHourModel" (136 : Nat) ({ cls := "GluedHourModel", name := "fails", desc := "()Z" } : Jvm.MethodName)) ∈ lw_gd := tb_5 (i := 230) rfl rfl
theorem wd_1287 : (Jvm.Cond.instanceMethod ({ cls := "GluedHourModel", name := "fails", desc := "()Z" } : Jvm.MethodName)) ∈ lw_gd := tb_5 (i := 232) rfl rfl
theorem wd_1288 : (Jvm.Cond.code ({ cls := "GluedHourModel", name := "fails", desc := "()Z" } : Jvm.MethodName) prog_12_method_15_code (1 : Nat) (Option.some Jvm.ClassFile.FieldType.boolean)) ∈ lw_gd := tb_5 (i := 233) rfl rfl
theorem wd_1289 : (Jvm.Cond.methodLink "GluedHourModel" (182 : Nat) ({ cls := "GluedHourModel", name := "full", desc := "(III)V" } : Jvm.MethodName)) ∈ lw_gd := tb_5 (i := 234) rfl rfl
theorem wd_1291 : (Jvm.Cond.instanceMethod ({ cls := "GluedHourModel", name := "full", desc := "(III)V" } : Jvm.MethodName)) ∈ lw_gd := tb_5 (i := 236) rfl rfl
theorem wd_1292 : (Jvm.Cond.code ({ cls := "GluedHourModel", name := "full", desc := "(III)V" } : Jvm.MethodName) prog_12_method_18_code (4 : Nat) (Option.none : Option Jvm.ClassFile.FieldType)) ∈ lw_gd := tb_5 (i := 237) rfl rfl
theorem wd_1293 : (Jvm.Cond.methodLink "GluedHourModel" (140 : Nat) ({ cls := "GluedHourModel", name := "later", desc := "(II)V" } : Jvm.MethodName)) ∈ lw_gd := tb_5 (i := 238) rfl rfl
theorem wd_1295 : (Jvm.Cond.instanceMethod ({ cls := "GluedHourModel", name := "later", desc := "(II)V" } : Jvm.MethodName)) ∈ lw_gd := tb_6 (i := 0) rfl rfl
theorem wd_1296 : (Jvm.Cond.code ({ cls := "GluedHourModel", name := "later", desc := "(II)V" } : Jvm.MethodName) prog_12_method_16_code (3 : Nat) (Option.none : Option Jvm.ClassFile.FieldType)) ∈ lw_gd := tb_6 (i := 1) rfl rfl
theorem wd_1297 : (Jvm.Cond.methodLink "GluedHourModel" (186 : Nat) ({ cls := "GluedHourModel", name := "kindLine", desc := "(Z)Z" } : Jvm.MethodName)) ∈ lw_gd := tb_6 (i := 2) rfl rfl
theorem wd_1299 : (Jvm.Cond.instanceMethod ({ cls := "GluedHourModel", name := "kindLine", desc := "(Z)Z" } : Jvm.MethodName)) ∈ lw_gd := tb_6 (i := 4) rfl rfl
theorem wd_1300 : (Jvm.Cond.code ({ cls := "GluedHourModel", name := "kindLine", desc := "(Z)Z" } : Jvm.MethodName) prog_12_method_20_code (3 : Nat) (Option.some Jvm.ClassFile.FieldType.boolean)) ∈ lw_gd := tb_6 (i := 5) rfl rfl
theorem wd_1301 : (Jvm.Cond.methodLink "GluedHourModel" (151 : Nat) ({ cls := "GluedHourModel", name := "take", desc := "(III)Z" } : Jvm.MethodName)) ∈ lw_gd := tb_6 (i := 6) rfl rfl
theorem wd_1303 : (Jvm.Cond.instanceMethod ({ cls := "GluedHourModel", name := "take", desc := "(III)Z" } : Jvm.MethodName)) ∈ lw_gd := tb_6 (i := 8) rfl rfl
theorem wd_1304 : (Jvm.Cond.code ({ cls := "GluedHourModel", name := "take", desc := "(III)Z" } : Jvm.MethodName) prog_12_method_17_code (4 : Nat) (Option.some Jvm.ClassFile.FieldType.boolean)) ∈ lw_gd := tb_6 (i := 9) rfl rfl
theorem wd_1305 : (Jvm.Cond.constantLong "GluedHourModel" (154 : Nat) (500219601765 : Int64)) ∈ lw_gd := tb_6 (i := 10) rfl rfl
theorem wd_1306 : (Jvm.Cond.constantLong "GluedHourModel" (156 : Nat) (1869505381 : Int64)) ∈ lw_gd := tb_6 (i := 11) rfl rfl
theorem wd_1307 : (Jvm.Cond.constantLong "GluedHourModel" (158 : Nat) (129116991876709 : Int64)) ∈ lw_gd := tb_6 (i := 12) rfl rfl
theorem wd_1308 : (Jvm.Cond.methodLink "GluedHourModel" (190 : Nat) ({ cls := "GluedHourModel", name := "ofOne", desc := "(Z)Z" } : Jvm.MethodName)) ∈ lw_gd := tb_6 (i := 13) rfl rfl
theorem wd_1310 : (Jvm.Cond.instanceMethod ({ cls := "GluedHourModel", name := "ofOne", desc := "(Z)Z" } : Jvm.MethodName)) ∈ lw_gd := tb_6 (i := 15) rfl rfl
theorem wd_1311 : (Jvm.Cond.code ({ cls := "GluedHourModel", name := "ofOne", desc := "(Z)Z" } : Jvm.MethodName) prog_12_method_21_code (2 : Nat) (Option.some Jvm.ClassFile.FieldType.boolean)) ∈ lw_gd := tb_6 (i := 16) rfl rfl
theorem wd_1312 : (Jvm.Cond.methodLink "GluedHourModel" (163 : Nat) ({ cls := "GluedHourModel", name := "greater", desc := "(II)I" } : Jvm.MethodName)) ∈ lw_gd := tb_6 (i := 17) rfl rfl
theorem wd_1313 : (Jvm.Cond.static ({ cls := "GluedHourModel", name := "greater", desc := "(II)I" } : Jvm.MethodName)) ∈ lw_gd := tb_6 (i := 18) rfl rfl
theorem wd_1314 : (Jvm.Cond.code ({ cls := "GluedHourModel", name := "greater", desc := "(II)I" } : Jvm.MethodName) prog_12_method_5_code (2 : Nat) (Option.some Jvm.ClassFile.FieldType.int)) ∈ lw_gd := tb_6 (i := 19) rfl rfl
theorem wd_1315 : (Jvm.Cond.methodLink "GluedHourModel" (210 : Nat) ({ cls := "GluedHourModel", name := "weekLine", desc := "(JI)Z" } : Jvm.MethodName)) ∈ lw_gd := tb_6 (i := 20) rfl rfl
theorem wd_1317 : (Jvm.Cond.instanceMethod ({ cls := "GluedHourModel", name := "weekLine", desc := "(JI)Z" } : Jvm.MethodName)) ∈ lw_gd := tb_6 (i := 22) rfl rfl
theorem wd_1318 : (Jvm.Cond.code ({ cls := "GluedHourModel", name := "weekLine", desc := "(JI)Z" } : Jvm.MethodName) prog_12_method_23_code (4 : Nat) (Option.some Jvm.ClassFile.FieldType.boolean)) ∈ lw_gd := tb_6 (i := 23) rfl rfl
theorem wd_1319 : (Jvm.Cond.constantLong "GluedHourModel" (193 : Nat) (495875089259 : Int64)) ∈ lw_gd := tb_6 (i := 24) rfl rfl
theorem wd_1320 : (Jvm.Cond.methodLink "GluedHourModel" (195 : Nat) ({ cls := "GluedHourModel", name := "keep", desc := "(III)V" } : Jvm.MethodName)) ∈ lw_gd := tb_6 (i := 25) rfl rfl
theorem wd_1322 : (Jvm.Cond.instanceMethod ({ cls := "GluedHourModel", name := "keep", desc := "(III)V" } : Jvm.MethodName)) ∈ lw_gd := tb_6 (i := 27) rfl rfl
theorem wd_1323 : (Jvm.Cond.code ({ cls := "GluedHourModel", name := "keep", desc := "(III)V" } : Jvm.MethodName) prog_12_method_19_code (6 : Nat) (Option.none : Option Jvm.ClassFile.FieldType)) ∈ lw_gd := tb_6 (i := 28) rfl rfl
theorem wd_1324 : (Jvm.Cond.methodLink "GluedHourModel" (213 : Nat) ({ cls := "GluedHourModel", name := "errandLine", desc := "(JI)Z" } : Jvm.MethodName)) ∈ lw_gd := tb_6 (i := 29) rfl rfl
theorem wd_1326 : (Jvm.Cond.instanceMethod ({ cls := "GluedHourModel", name := "errandLine", desc := "(JI)Z" } : Jvm.MethodName)) ∈ lw_gd := tb_6 (i := 31) rfl rfl
theorem wd_1327 : (Jvm.Cond.code ({ cls := "GluedHourModel", name := "errandLine", desc := "(JI)Z" } : Jvm.MethodName) prog_12_method_24_code (4 : Nat) (Option.some Jvm.ClassFile.FieldType.boolean)) ∈ lw_gd := tb_6 (i := 32) rfl rfl
theorem wd_1328 : (Jvm.Cond.constantLong "GluedHourModel" (198 : Nat) (111542219664996 : Int64)) ∈ lw_gd := tb_6 (i := 33) rfl rfl
theorem wd_1329 : (Jvm.Cond.methodLink "GluedHourModel" (216 : Nat) ({ cls := "GluedHourModel", name := "trainLine", desc := "(JI)Z" } : Jvm.MethodName)) ∈ lw_gd := tb_6 (i := 34) rfl rfl
theorem wd_1331 : (Jvm.Cond.instanceMethod ({ cls := "GluedHourModel", name := "trainLine", desc := "(JI)Z" } : Jvm.MethodName)) ∈ lw_gd := tb_6 (i := 36) rfl rfl
theorem wd_1332 : (Jvm.Cond.code ({ cls := "GluedHourModel", name := "trainLine", desc := "(JI)Z" } : Jvm.MethodName) prog_12_method_25_code (4 : Nat) (Option.some Jvm.ClassFile.FieldType.boolean)) ∈ lw_gd := tb_6 (i := 37) rfl rfl
theorem wd_1333 : (Jvm.Cond.constantLong "GluedHourModel" (200 : Nat) (500135192942 : Int64)) ∈ lw_gd := tb_6 (i := 38) rfl rfl
theorem wd_1334 : (Jvm.Cond.methodLink "GluedHourModel" (219 : Nat) ({ cls := "GluedHourModel", name := "sightLine", desc := "(JI)Z" } : Jvm.MethodName)) ∈ lw_gd := tb_6 (i := 39) rfl rfl
theorem wd_1336 : (Jvm.Cond.instanceMethod ({ cls := "GluedHourModel", name := "sightLine", desc := "(JI)Z" } : Jvm.MethodName)) ∈ lw_gd := tb_6 (i := 41) rfl rfl
theorem wd_1337 : (Jvm.Cond.code ({ cls := "GluedHourModel", name := "sightLine", desc := "(JI)Z" } : Jvm.MethodName) prog_12_method_26_code (4 : Nat) (Option.some Jvm.ClassFile.FieldType.boolean)) ∈ lw_gd := tb_6 (i := 42) rfl rfl
theorem wd_1338 : (Jvm.Cond.constantLong "GluedHourModel" (202 : Nat) (6840691 : Int64)) ∈ lw_gd := tb_6 (i := 43) rfl rfl
theorem wd_1339 : (Jvm.Cond.constantLong "GluedHourModel" (204 : Nat) (1870095731 : Int64)) ∈ lw_gd := tb_6 (i := 44) rfl rfl
theorem wd_1340 : (Jvm.Cond.methodLink "GluedHourModel" (241 : Nat) ({ cls := "GluedHourModel", name := "storeAll", desc := "(II)V" } : Jvm.MethodName)) ∈ lw_gd := tb_6 (i := 45) rfl rfl
theorem wd_1342 : (Jvm.Cond.instanceMethod ({ cls := "GluedHourModel", name := "storeAll", desc := "(II)V" } : Jvm.MethodName)) ∈ lw_gd := tb_6 (i := 47) rfl rfl
theorem wd_1343 : (Jvm.Cond.code ({ cls := "GluedHourModel", name := "storeAll", desc := "(II)V" } : Jvm.MethodName) prog_12_method_31_code (3 : Nat) (Option.none : Option Jvm.ClassFile.FieldType)) ∈ lw_gd := tb_6 (i := 48) rfl rfl
theorem wd_1344 : (Jvm.Cond.methodLink "GluedHourModel" (230 : Nat) ({ cls := "GluedHourModel", name := "store", desc := "([III)V" } : Jvm.MethodName)) ∈ lw_gd := tb_6 (i := 49) rfl rfl
theorem wd_1346 : (Jvm.Cond.instanceMethod ({ cls := "GluedHourModel", name := "store", desc := "([III)V" } : Jvm.MethodName)) ∈ lw_gd := tb_6 (i := 51) rfl rfl
theorem wd_1347 : (Jvm.Cond.code ({ cls := "GluedHourModel", name := "store", desc := "([III)V" } : Jvm.MethodName) prog_12_method_30_code (5 : Nat) (Option.none : Option Jvm.ClassFile.FieldType)) ∈ lw_gd := tb_6 (i := 52) rfl rfl
theorem wd_1348 : (Jvm.Cond.methodLink "GluedHourLaw" (31 : Nat) ({ cls := "GluedHourModel", name := "fault", desc := "(I)I" } : Jvm.MethodName)) ∈ lw_gd := tb_6 (i := 53) rfl rfl
theorem wd_1349 : (Jvm.Cond.instanceMethod ({ cls := "GluedHourModel", name := "fault", desc := "(I)I" } : Jvm.MethodName)) ∈ lw_gd := tb_6 (i := 54) rfl rfl
theorem wd_1350 : (Jvm.Cond.selects "GluedHourModel" ({ cls := "GluedHourModel", name := "fault", desc := "(I)I" } : Jvm.MethodName) ({ cls := "GluedHourModel", name := "fault", desc := "(I)I" } : Jvm.MethodName)) ∈ lw_gd := tb_6 (i := 55) rfl rfl
theorem wd_1351 : (Jvm.Cond.code ({ cls := "GluedHourModel", name := "fault", desc := "(I)I" } : Jvm.MethodName) prog_12_method_33_code (2 : Nat) (Option.some Jvm.ClassFile.FieldType.int)) ∈ lw_gd := tb_6 (i := 56) rfl rfl
theorem wd_1352 : (Jvm.Cond.methodLink "GluedHourLaw" (35 : Nat) ({ cls := "GluedHourModel", name := "republic", desc := "(II)I" } : Jvm.MethodName)) ∈ lw_gd := tb_6 (i := 57) rfl rfl
theorem wd_1353 : (Jvm.Cond.instanceMethod ({ cls := "GluedHourModel", name := "republic", desc := "(II)I" } : Jvm.MethodName)) ∈ lw_gd := tb_6 (i := 58) rfl rfl
theorem wd_1354 : (Jvm.Cond.selects "GluedHourModel" ({ cls := "GluedHourModel", name := "republic", desc := "(II)I" } : Jvm.MethodName) ({ cls := "GluedHourModel", name := "republic", desc := "(II)I" } : Jvm.MethodName)) ∈ lw_gd := tb_6 (i := 59) rfl rfl
theorem wd_1355 : (Jvm.Cond.code ({ cls := "GluedHourModel", name := "republic", desc := "(II)I" } : Jvm.MethodName) prog_12_method_45_code (3 : Nat) (Option.some Jvm.ClassFile.FieldType.int)) ∈ lw_gd := tb_6 (i := 60) rfl rfl
theorem wd_1356 : (Jvm.Cond.methodLink "GluedHourModel" (288 : Nat) ({ cls := "GluedHourModel", name := "hand", desc := "(I)Z" } : Jvm.MethodName)) ∈ lw_gd := tb_6 (i := 61) rfl rfl
theorem wd_1358 : (Jvm.Cond.instanceMethod ({ cls := "GluedHourModel", name := "hand", desc := "(I)Z" } : Jvm.MethodName)) ∈ lw_gd := tb_6 (i := 63) rfl rfl
theorem wd_1359 : (Jvm.Cond.code ({ cls := "GluedHourModel", name := "hand", desc := "(I)Z" } : Jvm.MethodName) prog_12_method_41_code (4 : Nat) (Option.some Jvm.ClassFile.FieldType.boolean)) ∈ lw_gd := tb_6 (i := 64) rfl rfl
theorem wd_1360 : (Jvm.Cond.methodLink "GluedHourModel" (253 : Nat) ({ cls := "GluedHourModel", name := "of", desc := "(I)I" } : Jvm.MethodName)) ∈ lw_gd := tb_6 (i := 65) rfl rfl
theorem wd_1362 : (Jvm.Cond.instanceMethod ({ cls := "GluedHourModel", name := "of", desc := "(I)I" } : Jvm.MethodName)) ∈ lw_gd := tb_6 (i := 67) rfl rfl
theorem wd_1363 : (Jvm.Cond.code ({ cls := "GluedHourModel", name := "of", desc := "(I)I" } : Jvm.MethodName) prog_12_method_34_code (2 : Nat) (Option.some Jvm.ClassFile.FieldType.int)) ∈ lw_gd := tb_6 (i := 68) rfl rfl
theorem wd_1364 : (Jvm.Cond.methodLink "GluedHourModel" (282 : Nat) ({ cls := "GluedHourModel", name := "layValues", desc := "(I)V" } : Jvm.MethodName)) ∈ lw_gd := tb_6 (i := 69) rfl rfl
theorem wd_1366 : (Jvm.Cond.instanceMethod ({ cls := "GluedHourModel", name := "layValues", desc := "(I)V" } : Jvm.MethodName)) ∈ lw_gd := tb_6 (i := 71) rfl rfl
theorem wd_1367 : (Jvm.Cond.code ({ cls := "GluedHourModel", name := "layValues", desc := "(I)V" } : Jvm.MethodName) prog_12_method_39_code (3 : Nat) (Option.none : Option Jvm.ClassFile.FieldType)) ∈ lw_gd := tb_6 (i := 72) rfl rfl
theorem wd_1368 : (Jvm.Cond.methodLink "GluedHourModel" (270 : Nat) ({ cls := "GluedHourModel", name := "valueBy", desc := "(III)I" } : Jvm.MethodName)) ∈ lw_gd := tb_6 (i := 73) rfl rfl
theorem wd_1370 : (Jvm.Cond.instanceMethod ({ cls := "GluedHourModel", name := "valueBy", desc := "(III)I" } : Jvm.MethodName)) ∈ lw_gd := tb_6 (i := 75) rfl rfl
theorem wd_1371 : (Jvm.Cond.code ({ cls := "GluedHourModel", name := "valueBy", desc := "(III)I" } : Jvm.MethodName) prog_12_method_38_code (7 : Nat) (Option.some Jvm.ClassFile.FieldType.int)) ∈ lw_gd := tb_6 (i := 76) rfl rfl
theorem wd_1372 : (Jvm.Cond.methodLink "GluedHourModel" (266 : Nat) ({ cls := "GluedHourModel", name := "worthOf", desc := "(III)I" } : Jvm.MethodName)) ∈ lw_gd := tb_6 (i := 77) rfl rfl
theorem wd_1374 : (Jvm.Cond.instanceMethod ({ cls := "GluedHourModel", name := "worthOf", desc := "(III)I" } : Jvm.MethodName)) ∈ lw_gd := tb_6 (i := 79) rfl rfl
theorem wd_1375 : (Jvm.Cond.code ({ cls := "GluedHourModel", name := "worthOf", desc := "(III)I" } : Jvm.MethodName) prog_12_method_37_code (5 : Nat) (Option.some Jvm.ClassFile.FieldType.int)) ∈ lw_gd := tb_6 (i := 80) rfl rfl
theorem wd_1376 : (Jvm.Cond.methodLink "GluedHourModel" (257 : Nat) ({ cls := "GluedHourModel", name := "modeOf", desc := "(I)I" } : Jvm.MethodName)) ∈ lw_gd := tb_6 (i := 81) rfl rfl
theorem wd_1378 : (Jvm.Cond.instanceMethod ({ cls := "GluedHourModel", name := "modeOf", desc := "(I)I" } : Jvm.MethodName)) ∈ lw_gd := tb_6 (i := 83) rfl rfl
theorem wd_1379 : (Jvm.Cond.code ({ cls := "GluedHourModel", name := "modeOf", desc := "(I)I" } : Jvm.MethodName) prog_12_method_35_code (2 : Nat) (Option.some Jvm.ClassFile.FieldType.int)) ∈ lw_gd := tb_6 (i := 84) rfl rfl
theorem wd_1380 : (Jvm.Cond.methodLink "GluedHourModel" (260 : Nat) ({ cls := "GluedHourModel", name := "times", desc := "(II)I" } : Jvm.MethodName)) ∈ lw_gd := tb_6 (i := 85) rfl rfl
theorem wd_1381 : (Jvm.Cond.static ({ cls := "GluedHourModel", name := "times", desc := "(II)I" } : Jvm.MethodName)) ∈ lw_gd := tb_6 (i := 86) rfl rfl
theorem wd_1382 : (Jvm.Cond.code ({ cls := "GluedHourModel", name := "times", desc := "(II)I" } : Jvm.MethodName) prog_12_method_36_code (2 : Nat) (Option.some Jvm.ClassFile.FieldType.int)) ∈ lw_gd := tb_6 (i := 87) rfl rfl
theorem wd_1383 : (Jvm.Cond.methodLink "GluedHourModel" (285 : Nat) ({ cls := "GluedHourModel", name := "layOdds", desc := "()V" } : Jvm.MethodName)) ∈ lw_gd := tb_6 (i := 88) rfl rfl
theorem wd_1385 : (Jvm.Cond.instanceMethod ({ cls := "GluedHourModel", name := "layOdds", desc := "()V" } : Jvm.MethodName)) ∈ lw_gd := tb_6 (i := 90) rfl rfl
theorem wd_1386 : (Jvm.Cond.code ({ cls := "GluedHourModel", name := "layOdds", desc := "()V" } : Jvm.MethodName) prog_12_method_40_code (2 : Nat) (Option.none : Option Jvm.ClassFile.FieldType)) ∈ lw_gd := tb_6 (i := 91) rfl rfl
theorem wd_1387 : (Jvm.Cond.methodLink "GluedHourLaw" (40 : Nat) ({ cls := "GluedHourModel", name := "person", desc := "(III)I" } : Jvm.MethodName)) ∈ lw_gd := tb_6 (i := 92) rfl rfl
theorem wd_1388 : (Jvm.Cond.instanceMethod ({ cls := "GluedHourModel", name := "person", desc := "(III)I" } : Jvm.MethodName)) ∈ lw_gd := tb_6 (i := 93) rfl rfl
theorem wd_1389 : (Jvm.Cond.selects "GluedHourModel" ({ cls := "GluedHourModel", name := "person", desc := "(III)I" } : Jvm.MethodName) ({ cls := "GluedHourModel", name := "person", desc := "(III)I" } : Jvm.MethodName)) ∈ lw_gd := tb_6 (i := 94) rfl rfl
theorem wd_1390 : (Jvm.Cond.code ({ cls := "GluedHourModel", name := "person", desc := "(III)I" } : Jvm.MethodName) prog_12_method_46_code (4 : Nat) (Option.some Jvm.ClassFile.FieldType.int)) ∈ lw_gd := tb_6 (i := 95) rfl rfl
theorem wd_1391 : (Jvm.Cond.methodLink "GluedHourModel" (294 : Nat) ({ cls := "GluedHourModel", name := "handOne", desc := "(II)Z" } : Jvm.MethodName)) ∈ lw_gd := tb_6 (i := 96) rfl rfl
theorem wd_1393 : (Jvm.Cond.instanceMethod ({ cls := "GluedHourModel", name := "handOne", desc := "(II)Z" } : Jvm.MethodName)) ∈ lw_gd := tb_6 (i := 98) rfl rfl
theorem wd_1394 : (Jvm.Cond.code ({ cls := "GluedHourModel", name := "handOne", desc := "(II)Z" } : Jvm.MethodName) prog_12_method_44_code (3 : Nat) (Option.some Jvm.ClassFile.FieldType.boolean)) ∈ lw_gd := tb_6 (i := 99) rfl rfl
theorem wd_1395 : (Jvm.Cond.methodLink "GluedHourModel" (291 : Nat) ({ cls := "GluedHourModel", name := "isOne", desc := "(I)Z" } : Jvm.MethodName)) ∈ lw_gd := tb_6 (i := 100) rfl rfl
theorem wd_1397 : (Jvm.Cond.instanceMethod ({ cls := "GluedHourModel", name := "isOne", desc := "(I)Z" } : Jvm.MethodName)) ∈ lw_gd := tb_6 (i := 102) rfl rfl
theorem wd_1398 : (Jvm.Cond.code ({ cls := "GluedHourModel", name := "isOne", desc := "(I)Z" } : Jvm.MethodName) prog_12_method_42_code (2 : Nat) (Option.some Jvm.ClassFile.FieldType.boolean)) ∈ lw_gd := tb_6 (i := 103) rfl rfl
theorem wd_1399 : (Jvm.Cond.methodLink "GluedHourLaw" (44 : Nat) ({ cls := "GluedHourModel", name := "value", desc := "(III)I" } : Jvm.MethodName)) ∈ lw_gd := tb_6 (i := 104) rfl rfl
theorem wd_1400 : (Jvm.Cond.instanceMethod ({ cls := "GluedHourModel", name := "value", desc := "(III)I" } : Jvm.MethodName)) ∈ lw_gd := tb_6 (i := 105) rfl rfl
theorem wd_1401 : (Jvm.Cond.selects "GluedHourModel" ({ cls := "GluedHourModel", name := "value", desc := "(III)I" } : Jvm.MethodName) ({ cls := "GluedHourModel", name := "value", desc := "(III)I" } : Jvm.MethodName)) ∈ lw_gd := tb_6 (i := 106) rfl rfl
theorem wd_1402 : (Jvm.Cond.code ({ cls := "GluedHourModel", name := "value", desc := "(III)I" } : Jvm.MethodName) prog_12_method_48_code (4 : Nat) (Option.some Jvm.ClassFile.FieldType.int)) ∈ lw_gd := tb_6 (i := 107) rfl rfl
theorem wd_1403 : (Jvm.Cond.methodLink "GluedHourModel" (297 : Nat) ({ cls := "GluedHourModel", name := "isHour", desc := "(I)Z" } : Jvm.MethodName)) ∈ lw_gd := tb_6 (i := 108) rfl rfl
theorem wd_1405 : (Jvm.Cond.instanceMethod ({ cls := "GluedHourModel", name := "isHour", desc := "(I)Z" } : Jvm.MethodName)) ∈ lw_gd := tb_6 (i := 110) rfl rfl
theorem wd_1406 : (Jvm.Cond.code ({ cls := "GluedHourModel", name := "isHour", desc := "(I)Z" } : Jvm.MethodName) prog_12_method_43_code (2 : Nat) (Option.some Jvm.ClassFile.FieldType.boolean)) ∈ lw_gd := tb_6 (i := 111) rfl rfl
theorem wd_1407 : (Jvm.Cond.constant "GluedHourModel" (300 : Nat) (-1000000 : Int32)) ∈ lw_gd := tb_6 (i := 112) rfl rfl
theorem wd_1408 : (Jvm.Cond.methodLink "GluedHourModel" (301 : Nat) ({ cls := "GluedHourModel", name := "allBy", desc := "(I)I" } : Jvm.MethodName)) ∈ lw_gd := tb_6 (i := 113) rfl rfl
theorem wd_1410 : (Jvm.Cond.instanceMethod ({ cls := "GluedHourModel", name := "allBy", desc := "(I)I" } : Jvm.MethodName)) ∈ lw_gd := tb_6 (i := 115) rfl rfl
theorem wd_1411 : (Jvm.Cond.code ({ cls := "GluedHourModel", name := "allBy", desc := "(I)I" } : Jvm.MethodName) prog_12_method_47_code (4 : Nat) (Option.some Jvm.ClassFile.FieldType.int)) ∈ lw_gd := tb_6 (i := 116) rfl rfl
theorem wd_1412 : (Jvm.Cond.methodLink "GluedHourLaw" (49 : Nat) ({ cls := "GluedHourModel", name := "odds", desc := "(IIZ)I" } : Jvm.MethodName)) ∈ lw_gd := tb_6 (i := 117) rfl rfl
theorem wd_1413 : (Jvm.Cond.instanceMethod ({ cls := "GluedHourModel", name := "odds", desc := "(IIZ)I" } : Jvm.MethodName)) ∈ lw_gd := tb_6 (i := 118) rfl rfl
theorem wd_1414 : (Jvm.Cond.selects "GluedHourModel" ({ cls := "GluedHourModel", name := "odds", desc := "(IIZ)I" } : Jvm.MethodName) ({ cls := "GluedHourModel", name := "odds", desc := "(IIZ)I" } : Jvm.MethodName)) ∈ lw_gd := tb_6 (i := 119) rfl rfl
theorem wd_1415 : (Jvm.Cond.code ({ cls := "GluedHourModel", name := "odds", desc := "(IIZ)I" } : Jvm.MethodName) prog_12_method_51_code (4 : Nat) (Option.some Jvm.ClassFile.FieldType.int)) ∈ lw_gd := tb_6 (i := 120) rfl rfl
theorem wd_1416 : (Jvm.Cond.methodLink "GluedHourModel" (308 : Nat) ({ cls := "GluedHourModel", name := "part", desc := "(JJZ)J" } : Jvm.MethodName)) ∈ lw_gd := tb_6 (i := 121) rfl rfl
theorem wd_1417 : (Jvm.Cond.static ({ cls := "GluedHourModel", name := "part", desc := "(JJZ)J" } : Jvm.MethodName)) ∈ lw_gd := tb_6 (i := 122) rfl rfl
theorem wd_1418 : (Jvm.Cond.code ({ cls := "GluedHourModel", name := "part", desc := "(JJZ)J" } : Jvm.MethodName) prog_12_method_50_code (7 : Nat) (Option.some Jvm.ClassFile.FieldType.long)) ∈ lw_gd := tb_6 (i := 123) rfl rfl
theorem wd_1419 : (Jvm.Cond.methodLink "GluedHourModel" (304 : Nat) ({ cls := "GluedHourModel", name := "common", desc := "(JJ)J" } : Jvm.MethodName)) ∈ lw_gd := tb_6 (i := 124) rfl rfl
theorem wd_1420 : (Jvm.Cond.static ({ cls := "GluedHourModel", name := "common", desc := "(JJ)J" } : Jvm.MethodName)) ∈ lw_gd := tb_6 (i := 125) rfl rfl
theorem wd_1421 : (Jvm.Cond.code ({ cls := "GluedHourModel", name := "common", desc := "(JJ)J" } : Jvm.MethodName) prog_12_method_49_code (10 : Nat) (Option.some Jvm.ClassFile.FieldType.long)) ∈ lw_gd := tb_6 (i := 126) rfl rfl
theorem wd_1422 : (Jvm.Cond.methodLink "GluedHourLaw" (53 : Nat) ({ cls := "GluedHourModel", name := "day", desc := "(II)I" } : Jvm.MethodName)) ∈ lw_gd := tb_6 (i := 127) rfl rfl
theorem wd_1423 : (Jvm.Cond.instanceMethod ({ cls := "GluedHourModel", name := "day", desc := "(II)I" } : Jvm.MethodName)) ∈ lw_gd := tb_6 (i := 128) rfl rfl
theorem wd_1424 : (Jvm.Cond.selects "GluedHourModel" ({ cls := "GluedHourModel", name := "day", desc := "(II)I" } : Jvm.MethodName) ({ cls := "GluedHourModel", name := "day", desc := "(II)I" } : Jvm.MethodName)) ∈ lw_gd := tb_6 (i := 129) rfl rfl
theorem wd_1425 : (Jvm.Cond.code ({ cls := "GluedHourModel", name := "day", desc := "(II)I" } : Jvm.MethodName) prog_12_method_54_code (4 : Nat) (Option.some Jvm.ClassFile.FieldType.int)) ∈ lw_gd := tb_6 (i := 130) rfl rfl
theorem wd_1426 : (Jvm.Cond.methodLink "GluedHourModel" (315 : Nat) ({ cls := "GluedHourModel", name := "hasWeek", desc := "(I)Z" } : Jvm.MethodName)) ∈ lw_gd := tb_6 (i := 131) rfl rfl
theorem wd_1428 : (Jvm.Cond.instanceMethod ({ cls := "GluedHourModel", name := "hasWeek", desc := "(I)Z" } : Jvm.MethodName)) ∈ lw_gd := tb_6 (i := 133) rfl rfl
theorem wd_1429 : (Jvm.Cond.code ({ cls := "GluedHourModel", name := "hasWeek", desc := "(I)Z" } : Jvm.MethodName) prog_12_method_52_code (2 : Nat) (Option.some Jvm.ClassFile.FieldType.boolean)) ∈ lw_gd := tb_6 (i := 134) rfl rfl
theorem wd_1430 : (Jvm.Cond.methodLink "GluedHourModel" (318 : Nat) ({ cls := "GluedHourModel", name := "hourOf", desc := "(I)I" } : Jvm.MethodName)) ∈ lw_gd := tb_6 (i := 135) rfl rfl
theorem wd_1432 : (Jvm.Cond.instanceMethod ({ cls := "GluedHourModel", name := "hourOf", desc := "(I)I" } : Jvm.MethodName)) ∈ lw_gd := tb_6 (i := 137) rfl rfl
theorem wd_1433 : (Jvm.Cond.code ({ cls := "GluedHourModel", name := "hourOf", desc := "(I)I" } : Jvm.MethodName) prog_12_method_53_code (2 : Nat) (Option.some Jvm.ClassFile.FieldType.int)) ∈ lw_gd := tb_6 (i := 138) rfl rfl
theorem wd_1434 : (Jvm.Cond.methodLink "GluedHourLaw" (58 : Nat) ({ cls := "GluedHourModel", name := "purse", desc := "(IIII)I" } : Jvm.MethodName)) ∈ lw_gd := tb_6 (i := 139) rfl rfl
theorem wd_1435 : (Jvm.Cond.instanceMethod ({ cls := "GluedHourModel", name := "purse", desc := "(IIII)I" } : Jvm.MethodName)) ∈ lw_gd := tb_6 (i := 140) rfl rfl
theorem wd_1436 : (Jvm.Cond.selects "GluedHourModel" ({ cls := "GluedHourModel", name := "purse", desc := "(IIII)I" } : Jvm.MethodName) ({ cls := "GluedHourModel", name := "purse", desc := "(IIII)I" } : Jvm.MethodName)) ∈ lw_gd := tb_6 (i := 141) rfl rfl
theorem wd_1437 : (Jvm.Cond.code ({ cls := "GluedHourModel", name := "purse", desc := "(IIII)I" } : Jvm.MethodName) prog_12_method_57_code (5 : Nat) (Option.some Jvm.ClassFile.FieldType.int)) ∈ lw_gd := tb_6 (i := 142) rfl rfl
theorem wd_1438 : (Jvm.Cond.methodLink "GluedHourModel" (330 : Nat) ({ cls := "GluedHourModel", name := "liveDays", desc := "(I)Z" } : Jvm.MethodName)) ∈ lw_gd := tb_6 (i := 143) rfl rfl
theorem wd_1440 : (Jvm.Cond.instanceMethod ({ cls := "GluedHourModel", name := "liveDays", desc := "(I)Z" } : Jvm.MethodName)) ∈ lw_gd := tb_6 (i := 145) rfl rfl
theorem wd_1441 : (Jvm.Cond.code ({ cls := "GluedHourModel", name := "liveDays", desc := "(I)Z" } : Jvm.MethodName) prog_12_method_56_code (4 : Nat) (Option.some Jvm.ClassFile.FieldType.boolean)) ∈ lw_gd := tb_6 (i := 146) rfl rfl
theorem wd_1442 : (Jvm.Cond.methodLink "GluedHourModel" (327 : Nat) ({ cls := "GluedHourModel", name := "live", desc := "(I)V" } : Jvm.MethodName)) ∈ lw_gd := tb_6 (i := 147) rfl rfl
theorem wd_1444 : (Jvm.Cond.instanceMethod ({ cls := "GluedHourModel", name := "live", desc := "(I)V" } : Jvm.MethodName)) ∈ lw_gd := tb_6 (i := 149) rfl rfl
theorem wd_1445 : (Jvm.Cond.code ({ cls := "GluedHourModel", name := "live", desc := "(I)V" } : Jvm.MethodName) prog_12_method_55_code (3 : Nat) (Option.none : Option Jvm.ClassFile.FieldType)) ∈ lw_gd := tb_6 (i := 150) rfl rfl
theorem wd_1446 : (Jvm.Cond.methodLink "GluedHourLaw" (63 : Nat) ({ cls := "GluedHourModel", name := "likely", desc := "(IIIZ)J" } : Jvm.MethodName)) ∈ lw_gd := tb_6 (i := 151) rfl rfl
theorem wd_1447 : (Jvm.Cond.instanceMethod ({ cls := "GluedHourModel", name := "likely", desc := "(IIIZ)J" } : Jvm.MethodName)) ∈ lw_gd := tb_6 (i := 152) rfl rfl
theorem wd_1448 : (Jvm.Cond.selects "GluedHourModel" ({ cls := "GluedHourModel", name := "likely", desc := "(IIIZ)J" } : Jvm.MethodName) ({ cls := "GluedHourModel", name := "likely", desc := "(IIIZ)J" } : Jvm.MethodName)) ∈ lw_gd := tb_6 (i := 153) rfl rfl
theorem wd_1449 : (Jvm.Cond.code ({ cls := "GluedHourModel", name := "likely", desc := "(IIIZ)J" } : Jvm.MethodName) prog_12_method_58_code (5 : Nat) (Option.some Jvm.ClassFile.FieldType.long)) ∈ lw_gd := tb_6 (i := 154) rfl rfl
theorem wd_1450 : (Jvm.Cond.constantLong "GluedHourModel" (333 : Nat) (-1 : Int64)) ∈ lw_gd := tb_6 (i := 155) rfl rfl
theorem wd_1451 : (Jvm.Cond.methodLink "GluedHourLaw" (67 : Nat) ({ cls := "GluedHourModel", name := "drawn", desc := "(IIII)I" } : Jvm.MethodName)) ∈ lw_gd := tb_6 (i := 156) rfl rfl
theorem wd_1452 : (Jvm.Cond.instanceMethod ({ cls := "GluedHourModel", name := "drawn", desc := "(IIII)I" } : Jvm.MethodName)) ∈ lw_gd := tb_6 (i := 157) rfl rfl
theorem wd_1453 : (Jvm.Cond.selects "GluedHourModel" ({ cls := "GluedHourModel", name := "drawn", desc := "(IIII)I" } : Jvm.MethodName) ({ cls := "GluedHourModel", name := "drawn", desc := "(IIII)I" } : Jvm.MethodName)) ∈ lw_gd := tb_6 (i := 158) rfl rfl
theorem wd_1454 : (Jvm.Cond.code ({ cls := "GluedHourModel", name := "drawn", desc := "(IIII)I" } : Jvm.MethodName) prog_12_method_61_code (7 : Nat) (Option.some Jvm.ClassFile.FieldType.int)) ∈ lw_gd := tb_6 (i := 159) rfl rfl
theorem wd_1455 : (Jvm.Cond.methodLink "GluedHourModel" (342 : Nat) ({ cls := "GluedHourModel", name := "drawHour", desc := "()I" } : Jvm.MethodName)) ∈ lw_gd := tb_6 (i := 160) rfl rfl
theorem wd_1457 : (Jvm.Cond.instanceMethod ({ cls := "GluedHourModel", name := "drawHour", desc := "()I" } : Jvm.MethodName)) ∈ lw_gd := tb_6 (i := 162) rfl rfl
theorem wd_1458 : (Jvm.Cond.code ({ cls := "GluedHourModel", name := "drawHour", desc := "()I" } : Jvm.MethodName) prog_12_method_60_code (3 : Nat) (Option.some Jvm.ClassFile.FieldType.int)) ∈ lw_gd := tb_6 (i := 163) rfl rfl
theorem wd_1459 : (Jvm.Cond.methodLink "GluedHourModel" (339 : Nat) ({ cls := "GluedHourModel", name := "draw", desc := "(I)I" } : Jvm.MethodName)) ∈ lw_gd := tb_6 (i := 164) rfl rfl
theorem wd_1461 : (Jvm.Cond.instanceMethod ({ cls := "GluedHourModel", name := "draw", desc := "(I)I" } : Jvm.MethodName)) ∈ lw_gd := tb_6 (i := 166) rfl rfl
theorem wd_1462 : (Jvm.Cond.code ({ cls := "GluedHourModel", name := "draw", desc := "(I)I" } : Jvm.MethodName) prog_12_method_59_code (2 : Nat) (Option.some Jvm.ClassFile.FieldType.int)) ∈ lw_gd := tb_6 (i := 167) rfl rfl
theorem wd_1463 : (Jvm.Cond.constant "GluedHourModel" (338 : Nat) (1103515245 : Int32)) ∈ lw_gd := tb_6 (i := 168) rfl rfl
theorem wd_1464 : (Jvm.Cond.methodLink "GluedHourLaw" (71 : Nat) ({ cls := "GluedHourModel", name := "mean", desc := "(IIZ)I" } : Jvm.MethodName)) ∈ lw_gd := tb_6 (i := 169) rfl rfl
theorem wd_1465 : (Jvm.Cond.instanceMethod ({ cls := "GluedHourModel", name := "mean", desc := "(IIZ)I" } : Jvm.MethodName)) ∈ lw_gd := tb_6 (i := 170) rfl rfl
theorem wd_1466 : (Jvm.Cond.selects "GluedHourModel" ({ cls := "GluedHourModel", name := "mean", desc := "(IIZ)I" } : Jvm.MethodName) ({ cls := "GluedHourModel", name := "mean", desc := "(IIZ)I" } : Jvm.MethodName)) ∈ lw_gd := tb_6 (i := 171) rfl rfl
theorem wd_1467 : (Jvm.Cond.code ({ cls := "GluedHourModel", name := "mean", desc := "(IIZ)I" } : Jvm.MethodName) prog_12_method_63_code (4 : Nat) (Option.some Jvm.ClassFile.FieldType.int)) ∈ lw_gd := tb_6 (i := 172) rfl rfl
theorem wd_1468 : (Jvm.Cond.methodLink "GluedHourModel" (345 : Nat) ({ cls := "GluedHourModel", name := "meanOf", desc := "(I)J" } : Jvm.MethodName)) ∈ lw_gd := tb_6 (i := 173) rfl rfl
theorem wd_1470 : (Jvm.Cond.instanceMethod ({ cls := "GluedHourModel", name := "meanOf", desc := "(I)J" } : Jvm.MethodName)) ∈ lw_gd := tb_6 (i := 175) rfl rfl
theorem wd_1471 : (Jvm.Cond.code ({ cls := "GluedHourModel", name := "meanOf", desc := "(I)J" } : Jvm.MethodName) prog_12_method_62_code (5 : Nat) (Option.some Jvm.ClassFile.FieldType.long)) ∈ lw_gd := tb_6 (i := 176) rfl rfl
theorem wd_1472 : (Jvm.Cond.methodLink "GluedHourLaw" (76 : Nat) ({ cls := "GluedHourModel", name := "gain", desc := "(IIIZ)I" } : Jvm.MethodName)) ∈ lw_gd := tb_6 (i := 177) rfl rfl
theorem wd_1473 : (Jvm.Cond.instanceMethod ({ cls := "GluedHourModel", name := "gain", desc := "(IIIZ)I" } : Jvm.MethodName)) ∈ lw_gd := tb_6 (i := 178) rfl rfl
theorem wd_1474 : (Jvm.Cond.selects "GluedHourModel" ({ cls := "GluedHourModel", name := "gain", desc := "(IIIZ)I" } : Jvm.MethodName) ({ cls := "GluedHourModel", name := "gain", desc := "(IIIZ)I" } : Jvm.MethodName)) ∈ lw_gd := tb_6 (i := 179) rfl rfl
theorem wd_1475 : (Jvm.Cond.code ({ cls := "GluedHourModel", name := "gain", desc := "(IIIZ)I" } : Jvm.MethodName) prog_12_method_65_code (5 : Nat) (Option.some Jvm.ClassFile.FieldType.int)) ∈ lw_gd := tb_6 (i := 180) rfl rfl
theorem wd_1476 : (Jvm.Cond.methodLink "GluedHourModel" (349 : Nat) ({ cls := "GluedHourModel", name := "gainOf", desc := "(II)J" } : Jvm.MethodName)) ∈ lw_gd := tb_6 (i := 181) rfl rfl
theorem wd_1478 : (Jvm.Cond.instanceMethod ({ cls := "GluedHourModel", name := "gainOf", desc := "(II)J" } : Jvm.MethodName)) ∈ lw_gd := tb_6 (i := 183) rfl rfl
theorem wd_1479 : (Jvm.Cond.code ({ cls := "GluedHourModel", name := "gainOf", desc := "(II)J" } : Jvm.MethodName) prog_12_method_64_code (3 : Nat) (Option.some Jvm.ClassFile.FieldType.long)) ∈ lw_gd := tb_6 (i := 184) rfl rfl
theorem wd_1480 : (Jvm.Cond.methodLink "GluedHourLaw" (80 : Nat) ({ cls := "GluedHourModel", name := "wish", desc := "(II)I" } : Jvm.MethodName)) ∈ lw_gd := tb_6 (i := 185) rfl rfl
theorem wd_1481 : (Jvm.Cond.instanceMethod ({ cls := "GluedHourModel", name := "wish", desc := "(II)I" } : Jvm.MethodName)) ∈ lw_gd := tb_6 (i := 186) rfl rfl
theorem wd_1482 : (Jvm.Cond.selects "GluedHourModel" ({ cls := "GluedHourModel", name := "wish", desc := "(II)I" } : Jvm.MethodName) ({ cls := "GluedHourModel", name := "wish", desc := "(II)I" } : Jvm.MethodName)) ∈ lw_gd := tb_6 (i := 187) rfl rfl
theorem wd_1483 : (Jvm.Cond.code ({ cls := "GluedHourModel", name := "wish", desc := "(II)I" } : Jvm.MethodName) prog_12_method_68_code (3 : Nat) (Option.some Jvm.ClassFile.FieldType.int)) ∈ lw_gd := tb_6 (i := 188) rfl rfl
theorem wd_1484 : (Jvm.Cond.methodLink "GluedHourModel" (353 : Nat) ({ cls := "GluedHourModel", name := "choice", desc := "()I" } : Jvm.MethodName)) ∈ lw_gd := tb_6 (i := 189) rfl rfl
theorem wd_1486 : (Jvm.Cond.instanceMethod ({ cls := "GluedHourModel", name := "choice", desc := "()I" } : Jvm.MethodName)) ∈ lw_gd := tb_6 (i := 191) rfl rfl
theorem wd_1487 : (Jvm.Cond.code ({ cls := "GluedHourModel", name := "choice", desc := "()I" } : Jvm.MethodName) prog_12_method_67_code (3 : Nat) (Option.some Jvm.ClassFile.FieldType.int)) ∈ lw_gd := tb_6 (i := 192) rfl rfl
theorem wd_1488 : (Jvm.Cond.methodLink "GluedHourModel" (356 : Nat) ({ cls := "GluedHourModel", name := "wishOf", desc := "(I)I" } : Jvm.MethodName)) ∈ lw_gd := tb_6 (i := 193) rfl rfl
theorem wd_1490 : (Jvm.Cond.instanceMethod ({ cls := "GluedHourModel", name := "wishOf", desc := "(I)I" } : Jvm.MethodName)) ∈ lw_gd := tb_6 (i := 195) rfl rfl
theorem wd_1491 : (Jvm.Cond.code ({ cls := "GluedHourModel", name := "wishOf", desc := "(I)I" } : Jvm.MethodName) prog_12_method_66_code (4 : Nat) (Option.some Jvm.ClassFile.FieldType.int)) ∈ lw_gd := tb_6 (i := 196) rfl rfl
theorem wd_1492 : (Jvm.Cond.methodLink "GluedHourLaw" (84 : Nat) ({ cls := "GluedHourModel", name := "buyer", desc := "(II)I" } : Jvm.MethodName)) ∈ lw_gd := tb_6 (i := 197) rfl rfl
theorem wd_1493 : (Jvm.Cond.instanceMethod ({ cls := "GluedHourModel", name := "buyer", desc := "(II)I" } : Jvm.MethodName)) ∈ lw_gd := tb_6 (i := 198) rfl rfl
theorem wd_1494 : (Jvm.Cond.selects "GluedHourModel" ({ cls := "GluedHourModel", name := "buyer", desc := "(II)I" } : Jvm.MethodName) ({ cls := "GluedHourModel", name := "buyer", desc := "(II)I" } : Jvm.MethodName)) ∈ lw_gd := tb_6 (i := 199) rfl rfl
theorem wd_1495 : (Jvm.Cond.code ({ cls := "GluedHourModel", name := "buyer", desc := "(II)I" } : Jvm.MethodName) prog_12_method_69_code (10 : Nat) (Option.some Jvm.ClassFile.FieldType.int)) ∈ lw_gd := tb_6 (i := 200) rfl rfl
theorem wd_1496 : (Jvm.Cond.methodLink "GluedHourLaw" (88 : Nat) ({ cls := "GluedHourModel", name := "promise", desc := "(IIIZ)I" } : Jvm.MethodName)) ∈ lw_gd := tb_6 (i := 201) rfl rfl
theorem wd_1497 : (Jvm.Cond.instanceMethod ({ cls := "GluedHourModel", name := "promise", desc := "(IIIZ)I" } : Jvm.MethodName)) ∈ lw_gd := tb_6 (i := 202) rfl rfl
theorem wd_1498 : (Jvm.Cond.selects "GluedHourModel" ({ cls := "GluedHourModel", name := "promise", desc := "(IIIZ)I" } : Jvm.MethodName) ({ cls := "GluedHourModel", name := "promise", desc := "(IIIZ)I" } : Jvm.MethodName)) ∈ lw_gd := tb_6 (i := 203) rfl rfl
theorem wd_1499 : (Jvm.Cond.code ({ cls := "GluedHourModel", name := "promise", desc := "(IIIZ)I" } : Jvm.MethodName) prog_12_method_70_code (8 : Nat) (Option.some Jvm.ClassFile.FieldType.int)) ∈ lw_gd := tb_6 (i := 204) rfl rfl
theorem wd_1500 : (Jvm.Cond.methodLink "GluedHourLaw" (92 : Nat) ({ cls := "GluedHourModel", name := "two", desc := "(IIII)I" } : Jvm.MethodName)) ∈ lw_gd := tb_6 (i := 205) rfl rfl
theorem wd_1501 : (Jvm.Cond.instanceMethod ({ cls := "GluedHourModel", name := "two", desc := "(IIII)I" } : Jvm.MethodName)) ∈ lw_gd := tb_6 (i := 206) rfl rfl
theorem wd_1502 : (Jvm.Cond.selects "GluedHourModel" ({ cls := "GluedHourModel", name := "two", desc := "(IIII)I" } : Jvm.MethodName) ({ cls := "GluedHourModel", name := "two", desc := "(IIII)I" } : Jvm.MethodName)) ∈ lw_gd := tb_6 (i := 207) rfl rfl
theorem wd_1503 : (Jvm.Cond.code ({ cls := "GluedHourModel", name := "two", desc := "(IIII)I" } : Jvm.MethodName) prog_12_method_71_code (5 : Nat) (Option.some Jvm.ClassFile.FieldType.int)) ∈ lw_gd := tb_6 (i := 208) rfl rfl
theorem wd_1504 : (Jvm.Cond.methodLink "GluedHourLaw" (96 : Nat) ({ cls := "GluedHourModel", name := "shift", desc := "(III)I" } : Jvm.MethodName)) ∈ lw_gd := tb_6 (i := 209) rfl rfl
theorem wd_1505 : (Jvm.Cond.instanceMethod ({ cls := "GluedHourModel", name := "shift", desc := "(III)I" } : Jvm.MethodName)) ∈ lw_gd := tb_6 (i := 210) rfl rfl
theorem wd_1506 : (Jvm.Cond.selects "GluedHourModel" ({ cls := "GluedHourModel", name := "shift", desc := "(III)I" } : Jvm.MethodName) ({ cls := "GluedHourModel", name := "shift", desc := "(III)I" } : Jvm.MethodName)) ∈ lw_gd := tb_6 (i := 211) rfl rfl
theorem wd_1507 : (Jvm.Cond.code ({ cls := "GluedHourModel", name := "shift", desc := "(III)I" } : Jvm.MethodName) prog_12_method_73_code (12 : Nat) (Option.some Jvm.ClassFile.FieldType.int)) ∈ lw_gd := tb_6 (i := 212) rfl rfl
theorem wd_1508 : (Jvm.Cond.methodLink "GluedHourModel" (359 : Nat) ({ cls := "GluedHourModel", name := "swapDeed", desc := "(III)V" } : Jvm.MethodName)) ∈ lw_gd := tb_6 (i := 213) rfl rfl
theorem wd_1510 : (Jvm.Cond.instanceMethod ({ cls := "GluedHourModel", name := "swapDeed", desc := "(III)V" } : Jvm.MethodName)) ∈ lw_gd := tb_6 (i := 215) rfl rfl
theorem wd_1511 : (Jvm.Cond.code ({ cls := "GluedHourModel", name := "swapDeed", desc := "(III)V" } : Jvm.MethodName) prog_12_method_72_code (5 : Nat) (Option.none : Option Jvm.ClassFile.FieldType)) ∈ lw_gd := tb_6 (i := 216) rfl rfl
theorem wd_1512 : (Jvm.Cond.methodLink "GluedHourLaw" (100 : Nat) ({ cls := "GluedHourModel", name := "feud", desc := "(II)I" } : Jvm.MethodName)) ∈ lw_gd := tb_6 (i := 217) rfl rfl
theorem wd_1513 : (Jvm.Cond.instanceMethod ({ cls := "GluedHourModel", name := "feud", desc := "(II)I" } : Jvm.MethodName)) ∈ lw_gd := tb_6 (i := 218) rfl rfl
theorem wd_1514 : (Jvm.Cond.selects "GluedHourModel" ({ cls := "GluedHourModel", name := "feud", desc := "(II)I" } : Jvm.MethodName) ({ cls := "GluedHourModel", name := "feud", desc := "(II)I" } : Jvm.MethodName)) ∈ lw_gd := tb_6 (i := 219) rfl rfl
theorem wd_1515 : (Jvm.Cond.code ({ cls := "GluedHourModel", name := "feud", desc := "(II)I" } : Jvm.MethodName) prog_12_method_75_code (7 : Nat) (Option.some Jvm.ClassFile.FieldType.int)) ∈ lw_gd := tb_6 (i := 220) rfl rfl
theorem wd_1516 : (Jvm.Cond.methodLink "GluedHourModel" (362 : Nat) ({ cls := "GluedHourModel", name := "apart", desc := "(II)I" } : Jvm.MethodName)) ∈ lw_gd := tb_6 (i := 221) rfl rfl
theorem wd_1518 : (Jvm.Cond.instanceMethod ({ cls := "GluedHourModel", name := "apart", desc := "(II)I" } : Jvm.MethodName)) ∈ lw_gd := tb_6 (i := 223) rfl rfl
theorem wd_1519 : (Jvm.Cond.code ({ cls := "GluedHourModel", name := "apart", desc := "(II)I" } : Jvm.MethodName) prog_12_method_74_code (6 : Nat) (Option.some Jvm.ClassFile.FieldType.int)) ∈ lw_gd := tb_6 (i := 224) rfl rfl
theorem wd_1520 : (Jvm.Cond.methodLink "GluedHourLaw" (104 : Nat) ({ cls := "GluedHourModel", name := "errand", desc := "(III)I" } : Jvm.MethodName)) ∈ lw_gd := tb_6 (i := 225) rfl rfl
theorem wd_1521 : (Jvm.Cond.instanceMethod ({ cls := "GluedHourModel", name := "errand", desc := "(III)I" } : Jvm.MethodName)) ∈ lw_gd := tb_6 (i := 226) rfl rfl
theorem wd_1522 : (Jvm.Cond.selects "GluedHourModel" ({ cls := "GluedHourModel", name := "errand", desc := "(III)I" } : Jvm.MethodName) ({ cls := "GluedHourModel", name := "errand", desc := "(III)I" } : Jvm.MethodName)) ∈ lw_gd := tb_6 (i := 227) rfl rfl
theorem wd_1523 : (Jvm.Cond.code ({ cls := "GluedHourModel", name := "errand", desc := "(III)I" } : Jvm.MethodName) prog_12_method_80_code (4 : Nat) (Option.some Jvm.ClassFile.FieldType.int)) ∈ lw_gd := tb_6 (i := 228) rfl rfl
theorem wd_1524 : (Jvm.Cond.methodLink "GluedHourModel" (377 : Nat) ({ cls := "GluedHourModel", name := "hasErrands", desc := "(I)Z" } : Jvm.MethodName)) ∈ lw_gd := tb_6 (i := 229) rfl rfl
theorem wd_1526 : (Jvm.Cond.instanceMethod ({ cls := "GluedHourModel", name := "hasErrands", desc := "(I)Z" } : Jvm.MethodName)) ∈ lw_gd := tb_6 (i := 231) rfl rfl
theorem wd_1527 : (Jvm.Cond.code ({ cls := "GluedHourModel", name := "hasErrands", desc := "(I)Z" } : Jvm.MethodName) prog_12_method_79_code (2 : Nat) (Option.some Jvm.ClassFile.FieldType.boolean)) ∈ lw_gd := tb_6 (i := 232) rfl rfl
theorem wd_1528 : (Jvm.Cond.methodLink "GluedHourModel" (371 : Nat) ({ cls := "GluedHourModel", name := "errandOf", desc := "(II)I" } : Jvm.MethodName)) ∈ lw_gd := tb_6 (i := 233) rfl rfl
theorem wd_1530 : (Jvm.Cond.instanceMethod ({ cls := "GluedHourModel", name := "errandOf", desc := "(II)I" } : Jvm.MethodName)) ∈ lw_gd := tb_6 (i := 235) rfl rfl
theorem wd_1531 : (Jvm.Cond.code ({ cls := "GluedHourModel", name := "errandOf", desc := "(II)I" } : Jvm.MethodName) prog_12_method_76_code (3 : Nat) (Option.some Jvm.ClassFile.FieldType.int)) ∈ lw_gd := tb_6 (i := 236) rfl rfl
theorem wd_1532 : (Jvm.Cond.methodLink "GluedHourLaw" (108 : Nat) ({ cls := "GluedHourModel", name := "plan", desc := "(III)I" } : Jvm.MethodName)) ∈ lw_gd := tb_6 (i := 237) rfl rfl
theorem wd_1533 : (Jvm.Cond.instanceMethod ({ cls := "GluedHourModel", name := "plan", desc := "(III)I" } : Jvm.MethodName)) ∈ lw_gd := tb_6 (i := 238) rfl rfl
theorem wd_1534 : (Jvm.Cond.selects "GluedHourModel" ({ cls := "GluedHourModel", name := "plan", desc := "(III)I" } : Jvm.MethodName) ({ cls := "GluedHourModel", name := "plan", desc := "(III)I" } : Jvm.MethodName)) ∈ lw_gd := tb_6 (i := 239) rfl rfl
theorem wd_1535 : (Jvm.Cond.code ({ cls := "GluedHourModel", name := "plan", desc := "(III)I" } : Jvm.MethodName) prog_12_method_87_code (9 : Nat) (Option.some Jvm.ClassFile.FieldType.int)) ∈ lw_gd := tb_7 (i := 0) rfl rfl
theorem wd_1536 : (Jvm.Cond.methodLink "GluedHourModel" (401 : Nat) ({ cls := "GluedHourModel", name := "findBest", desc := "(I)J" } : Jvm.MethodName)) ∈ lw_gd := tb_7 (i := 1) rfl rfl
theorem wd_1538 : (Jvm.Cond.instanceMethod ({ cls := "GluedHourModel", name := "findBest", desc := "(I)J" } : Jvm.MethodName)) ∈ lw_gd := tb_7 (i := 3) rfl rfl
theorem wd_1539 : (Jvm.Cond.code ({ cls := "GluedHourModel", name := "findBest", desc := "(I)J" } : Jvm.MethodName) prog_12_method_83_code (4 : Nat) (Option.some Jvm.ClassFile.FieldType.long)) ∈ lw_gd := tb_7 (i := 4) rfl rfl
theorem wd_1540 : (Jvm.Cond.methodLink "GluedHourModel" (395 : Nat) ({ cls := "GluedHourModel", name := "bestFrom", desc := "(III)J" } : Jvm.MethodName)) ∈ lw_gd := tb_7 (i := 5) rfl rfl
theorem wd_1542 : (Jvm.Cond.instanceMethod ({ cls := "GluedHourModel", name := "bestFrom", desc := "(III)J" } : Jvm.MethodName)) ∈ lw_gd := tb_7 (i := 7) rfl rfl
theorem wd_1543 : (Jvm.Cond.code ({ cls := "GluedHourModel", name := "bestFrom", desc := "(III)J" } : Jvm.MethodName) prog_12_method_82_code (11 : Nat) (Option.some Jvm.ClassFile.FieldType.long)) ∈ lw_gd := tb_7 (i := 8) rfl rfl
theorem wd_1544 : (Jvm.Cond.constantLong "GluedHourModel" (380 : Nat) (-1000000000000 : Int64)) ∈ lw_gd := tb_7 (i := 9) rfl rfl
theorem wd_1545 : (Jvm.Cond.methodLink "GluedHourModel" (382 : Nat) ({ cls := "GluedHourModel", name := "fromOf", desc := "(I)I" } : Jvm.MethodName)) ∈ lw_gd := tb_7 (i := 10) rfl rfl
theorem wd_1547 : (Jvm.Cond.instanceMethod ({ cls := "GluedHourModel", name := "fromOf", desc := "(I)I" } : Jvm.MethodName)) ∈ lw_gd := tb_7 (i := 12) rfl rfl
theorem wd_1548 : (Jvm.Cond.code ({ cls := "GluedHourModel", name := "fromOf", desc := "(I)I" } : Jvm.MethodName) prog_12_method_77_code (2 : Nat) (Option.some Jvm.ClassFile.FieldType.int)) ∈ lw_gd := tb_7 (i := 13) rfl rfl
theorem wd_1549 : (Jvm.Cond.methodLink "GluedHourModel" (385 : Nat) ({ cls := "GluedHourModel", name := "toOf", desc := "(I)I" } : Jvm.MethodName)) ∈ lw_gd := tb_7 (i := 14) rfl rfl
theorem wd_1551 : (Jvm.Cond.instanceMethod ({ cls := "GluedHourModel", name := "toOf", desc := "(I)I" } : Jvm.MethodName)) ∈ lw_gd := tb_7 (i := 16) rfl rfl
theorem wd_1552 : (Jvm.Cond.code ({ cls := "GluedHourModel", name := "toOf", desc := "(I)I" } : Jvm.MethodName) prog_12_method_78_code (2 : Nat) (Option.some Jvm.ClassFile.FieldType.int)) ∈ lw_gd := tb_7 (i := 17) rfl rfl
theorem wd_1553 : (Jvm.Cond.methodLink "GluedHourModel" (388 : Nat) ({ cls := "GluedHourModel", name := "has", desc := "(II)Z" } : Jvm.MethodName)) ∈ lw_gd := tb_7 (i := 18) rfl rfl
theorem wd_1554 : (Jvm.Cond.static ({ cls := "GluedHourModel", name := "has", desc := "(II)Z" } : Jvm.MethodName)) ∈ lw_gd := tb_7 (i := 19) rfl rfl
theorem wd_1555 : (Jvm.Cond.code ({ cls := "GluedHourModel", name := "has", desc := "(II)Z" } : Jvm.MethodName) prog_12_method_4_code (2 : Nat) (Option.some Jvm.ClassFile.FieldType.boolean)) ∈ lw_gd := tb_7 (i := 20) rfl rfl
theorem wd_1556 : (Jvm.Cond.methodLink "GluedHourModel" (391 : Nat) ({ cls := "GluedHourModel", name := "worthAt", desc := "(III)J" } : Jvm.MethodName)) ∈ lw_gd := tb_7 (i := 21) rfl rfl
theorem wd_1558 : (Jvm.Cond.instanceMethod ({ cls := "GluedHourModel", name := "worthAt", desc := "(III)J" } : Jvm.MethodName)) ∈ lw_gd := tb_7 (i := 23) rfl rfl
theorem wd_1559 : (Jvm.Cond.code ({ cls := "GluedHourModel", name := "worthAt", desc := "(III)J" } : Jvm.MethodName) prog_12_method_81_code (7 : Nat) (Option.some Jvm.ClassFile.FieldType.long)) ∈ lw_gd := tb_7 (i := 24) rfl rfl
theorem wd_1560 : (Jvm.Cond.methodLink "GluedHourModel" (407 : Nat) ({ cls := "GluedHourModel", name := "choose", desc := "(I)V" } : Jvm.MethodName)) ∈ lw_gd := tb_7 (i := 25) rfl rfl
theorem wd_1562 : (Jvm.Cond.instanceMethod ({ cls := "GluedHourModel", name := "choose", desc := "(I)V" } : Jvm.MethodName)) ∈ lw_gd := tb_7 (i := 27) rfl rfl
theorem wd_1563 : (Jvm.Cond.code ({ cls := "GluedHourModel", name := "choose", desc := "(I)V" } : Jvm.MethodName) prog_12_method_84_code (5 : Nat) (Option.none : Option Jvm.ClassFile.FieldType)) ∈ lw_gd := tb_7 (i := 28) rfl rfl
theorem wd_1564 : (Jvm.Cond.methodLink "GluedHourModel" (410 : Nat) ({ cls := "GluedHourModel", name := "rued", desc := "()I" } : Jvm.MethodName)) ∈ lw_gd := tb_7 (i := 29) rfl rfl
theorem wd_1566 : (Jvm.Cond.instanceMethod ({ cls := "GluedHourModel", name := "rued", desc := "()I" } : Jvm.MethodName)) ∈ lw_gd := tb_7 (i := 31) rfl rfl
theorem wd_1567 : (Jvm.Cond.code ({ cls := "GluedHourModel", name := "rued", desc := "()I" } : Jvm.MethodName) prog_12_method_86_code (9 : Nat) (Option.some Jvm.ClassFile.FieldType.int)) ∈ lw_gd := tb_7 (i := 32) rfl rfl
theorem wd_1568 : (Jvm.Cond.methodLink "GluedHourModel" (404 : Nat) ({ cls := "GluedHourModel", name := "chosenBy", desc := "(I)J" } : Jvm.MethodName)) ∈ lw_gd := tb_7 (i := 33) rfl rfl
theorem wd_1570 : (Jvm.Cond.instanceMethod ({ cls := "GluedHourModel", name := "chosenBy", desc := "(I)J" } : Jvm.MethodName)) ∈ lw_gd := tb_7 (i := 35) rfl rfl
theorem wd_1571 : (Jvm.Cond.code ({ cls := "GluedHourModel", name := "chosenBy", desc := "(I)J" } : Jvm.MethodName) prog_12_method_85_code (5 : Nat) (Option.some Jvm.ClassFile.FieldType.long)) ∈ lw_gd := tb_7 (i := 36) rfl rfl
theorem wd_1572 : (Jvm.Cond.methodLink "GluedHourLaw" (112 : Nat) ({ cls := "GluedHourModel", name := "train", desc := "(III)I" } : Jvm.MethodName)) ∈ lw_gd := tb_7 (i := 37) rfl rfl
theorem wd_1573 : (Jvm.Cond.instanceMethod ({ cls := "GluedHourModel", name := "train", desc := "(III)I" } : Jvm.MethodName)) ∈ lw_gd := tb_7 (i := 38) rfl rfl
theorem wd_1574 : (Jvm.Cond.selects "GluedHourModel" ({ cls := "GluedHourModel", name := "train", desc := "(III)I" } : Jvm.MethodName) ({ cls := "GluedHourModel", name := "train", desc := "(III)I" } : Jvm.MethodName)) ∈ lw_gd := tb_7 (i := 39) rfl rfl
theorem wd_1575 : (Jvm.Cond.code ({ cls := "GluedHourModel", name := "train", desc := "(III)I" } : Jvm.MethodName) prog_12_method_91_code (4 : Nat) (Option.some Jvm.ClassFile.FieldType.int)) ∈ lw_gd := tb_7 (i := 40) rfl rfl
theorem wd_1576 : (Jvm.Cond.methodLink "GluedHourModel" (416 : Nat) ({ cls := "GluedHourModel", name := "hasTable", desc := "(I)Z" } : Jvm.MethodName)) ∈ lw_gd := tb_7 (i := 41) rfl rfl
theorem wd_1578 : (Jvm.Cond.instanceMethod ({ cls := "GluedHourModel", name := "hasTable", desc := "(I)Z" } : Jvm.MethodName)) ∈ lw_gd := tb_7 (i := 43) rfl rfl
theorem wd_1579 : (Jvm.Cond.code ({ cls := "GluedHourModel", name := "hasTable", desc := "(I)Z" } : Jvm.MethodName) prog_12_method_89_code (2 : Nat) (Option.some Jvm.ClassFile.FieldType.boolean)) ∈ lw_gd := tb_7 (i := 44) rfl rfl
theorem wd_1580 : (Jvm.Cond.methodLink "GluedHourModel" (419 : Nat) ({ cls := "GluedHourModel", name := "trains", desc := "()I" } : Jvm.MethodName)) ∈ lw_gd := tb_7 (i := 45) rfl rfl
theorem wd_1582 : (Jvm.Cond.instanceMethod ({ cls := "GluedHourModel", name := "trains", desc := "()I" } : Jvm.MethodName)) ∈ lw_gd := tb_7 (i := 47) rfl rfl
theorem wd_1583 : (Jvm.Cond.code ({ cls := "GluedHourModel", name := "trains", desc := "()I" } : Jvm.MethodName) prog_12_method_90_code (1 : Nat) (Option.some Jvm.ClassFile.FieldType.int)) ∈ lw_gd := tb_7 (i := 48) rfl rfl
theorem wd_1584 : (Jvm.Cond.methodLink "GluedHourModel" (422 : Nat) ({ cls := "GluedHourModel", name := "trainOf", desc := "(II)I" } : Jvm.MethodName)) ∈ lw_gd := tb_7 (i := 49) rfl rfl
theorem wd_1586 : (Jvm.Cond.instanceMethod ({ cls := "GluedHourModel", name := "trainOf", desc := "(II)I" } : Jvm.MethodName)) ∈ lw_gd := tb_7 (i := 51) rfl rfl
theorem wd_1587 : (Jvm.Cond.code ({ cls := "GluedHourModel", name := "trainOf", desc := "(II)I" } : Jvm.MethodName) prog_12_method_88_code (3 : Nat) (Option.some Jvm.ClassFile.FieldType.int)) ∈ lw_gd := tb_7 (i := 52) rfl rfl
theorem wd_1588 : (Jvm.Cond.methodLink "GluedHourLaw" (116 : Nat) ({ cls := "GluedHourModel", name := "holds", desc := "(III)I" } : Jvm.MethodName)) ∈ lw_gd := tb_7 (i := 53) rfl rfl
theorem wd_1589 : (Jvm.Cond.instanceMethod ({ cls := "GluedHourModel", name := "holds", desc := "(III)I" } : Jvm.MethodName)) ∈ lw_gd := tb_7 (i := 54) rfl rfl
theorem wd_1590 : (Jvm.Cond.selects "GluedHourModel" ({ cls := "GluedHourModel", name := "holds", desc := "(III)I" } : Jvm.MethodName) ({ cls := "GluedHourModel", name := "holds", desc := "(III)I" } : Jvm.MethodName)) ∈ lw_gd := tb_7 (i := 55) rfl rfl
theorem wd_1591 : (Jvm.Cond.code ({ cls := "GluedHourModel", name := "holds", desc := "(III)I" } : Jvm.MethodName) prog_12_method_94_code (6 : Nat) (Option.some Jvm.ClassFile.FieldType.int)) ∈ lw_gd := tb_7 (i := 56) rfl rfl
theorem wd_1592 : (Jvm.Cond.methodLink "GluedHourModel" (431 : Nat) ({ cls := "GluedHourModel", name := "slackBy", desc := "(I)I" } : Jvm.MethodName)) ∈ lw_gd := tb_7 (i := 57) rfl rfl
theorem wd_1594 : (Jvm.Cond.instanceMethod ({ cls := "GluedHourModel", name := "slackBy", desc := "(I)I" } : Jvm.MethodName)) ∈ lw_gd := tb_7 (i := 59) rfl rfl
theorem wd_1595 : (Jvm.Cond.code ({ cls := "GluedHourModel", name := "slackBy", desc := "(I)I" } : Jvm.MethodName) prog_12_method_93_code (4 : Nat) (Option.some Jvm.ClassFile.FieldType.int)) ∈ lw_gd := tb_7 (i := 60) rfl rfl
theorem wd_1596 : (Jvm.Cond.methodLink "GluedHourModel" (425 : Nat) ({ cls := "GluedHourModel", name := "trueAt", desc := "(II)I" } : Jvm.MethodName)) ∈ lw_gd := tb_7 (i := 61) rfl rfl
theorem wd_1597 : (Jvm.Cond.static ({ cls := "GluedHourModel", name := "trueAt", desc := "(II)I" } : Jvm.MethodName)) ∈ lw_gd := tb_7 (i := 62) rfl rfl
theorem wd_1598 : (Jvm.Cond.code ({ cls := "GluedHourModel", name := "trueAt", desc := "(II)I" } : Jvm.MethodName) prog_12_method_92_code (2 : Nat) (Option.some Jvm.ClassFile.FieldType.int)) ∈ lw_gd := tb_7 (i := 63) rfl rfl
theorem wd_1599 : (Jvm.Cond.methodLink "GluedHourModel" (428 : Nat) ({ cls := "GluedHourModel", name := "lesser", desc := "(II)I" } : Jvm.MethodName)) ∈ lw_gd := tb_7 (i := 64) rfl rfl
theorem wd_1600 : (Jvm.Cond.static ({ cls := "GluedHourModel", name := "lesser", desc := "(II)I" } : Jvm.MethodName)) ∈ lw_gd := tb_7 (i := 65) rfl rfl
theorem wd_1601 : (Jvm.Cond.code ({ cls := "GluedHourModel", name := "lesser", desc := "(II)I" } : Jvm.MethodName) prog_12_method_6_code (2 : Nat) (Option.some Jvm.ClassFile.FieldType.int)) ∈ lw_gd := tb_7 (i := 66) rfl rfl
theorem wd_1602 : (Jvm.Cond.methodLink "GluedHourLaw" (120 : Nat) ({ cls := "GluedHourModel", name := "clock", desc := "(IIII)I" } : Jvm.MethodName)) ∈ lw_gd := tb_7 (i := 67) rfl rfl
theorem wd_1603 : (Jvm.Cond.instanceMethod ({ cls := "GluedHourModel", name := "clock", desc := "(IIII)I" } : Jvm.MethodName)) ∈ lw_gd := tb_7 (i := 68) rfl rfl
theorem wd_1604 : (Jvm.Cond.selects "GluedHourModel" ({ cls := "GluedHourModel", name := "clock", desc := "(IIII)I" } : Jvm.MethodName) ({ cls := "GluedHourModel", name := "clock", desc := "(IIII)I" } : Jvm.MethodName)) ∈ lw_gd := tb_7 (i := 69) rfl rfl
theorem wd_1605 : (Jvm.Cond.code ({ cls := "GluedHourModel", name := "clock", desc := "(IIII)I" } : Jvm.MethodName) prog_12_method_97_code (6 : Nat) (Option.some Jvm.ClassFile.FieldType.int)) ∈ lw_gd := tb_7 (i := 70) rfl rfl
theorem wd_1606 : (Jvm.Cond.methodLink "GluedHourModel" (437 : Nat) ({ cls := "GluedHourModel", name := "findEarliest", desc := "()V" } : Jvm.MethodName)) ∈ lw_gd := tb_7 (i := 71) rfl rfl
theorem wd_1608 : (Jvm.Cond.instanceMethod ({ cls := "GluedHourModel", name := "findEarliest", desc := "()V" } : Jvm.MethodName)) ∈ lw_gd := tb_7 (i := 73) rfl rfl
theorem wd_1609 : (Jvm.Cond.code ({ cls := "GluedHourModel", name := "findEarliest", desc := "()V" } : Jvm.MethodName) prog_12_method_96_code (3 : Nat) (Option.none : Option Jvm.ClassFile.FieldType)) ∈ lw_gd := tb_7 (i := 74) rfl rfl
theorem wd_1610 : (Jvm.Cond.methodLink "GluedHourModel" (434 : Nat) ({ cls := "GluedHourModel", name := "canLeave", desc := "(III)Z" } : Jvm.MethodName)) ∈ lw_gd := tb_7 (i := 75) rfl rfl
theorem wd_1612 : (Jvm.Cond.instanceMethod ({ cls := "GluedHourModel", name := "canLeave", desc := "(III)Z" } : Jvm.MethodName)) ∈ lw_gd := tb_7 (i := 77) rfl rfl
theorem wd_1613 : (Jvm.Cond.code ({ cls := "GluedHourModel", name := "canLeave", desc := "(III)Z" } : Jvm.MethodName) prog_12_method_95_code (5 : Nat) (Option.some Jvm.ClassFile.FieldType.boolean)) ∈ lw_gd := tb_7 (i := 78) rfl rfl
theorem wd_1614 : (Jvm.Cond.methodLink "GluedHourLaw" (124 : Nat) ({ cls := "GluedHourModel", name := "sight", desc := "(III)I" } : Jvm.MethodName)) ∈ lw_gd := tb_7 (i := 79) rfl rfl
theorem wd_1615 : (Jvm.Cond.instanceMethod ({ cls := "GluedHourModel", name := "sight", desc := "(III)I" } : Jvm.MethodName)) ∈ lw_gd := tb_7 (i := 80) rfl rfl
theorem wd_1616 : (Jvm.Cond.selects "GluedHourModel" ({ cls := "GluedHourModel", name := "sight", desc := "(III)I" } : Jvm.MethodName) ({ cls := "GluedHourModel", name := "sight", desc := "(III)I" } : Jvm.MethodName)) ∈ lw_gd := tb_7 (i := 81) rfl rfl
theorem wd_1617 : (Jvm.Cond.code ({ cls := "GluedHourModel", name := "sight", desc := "(III)I" } : Jvm.MethodName) prog_12_method_100_code (5 : Nat) (Option.some Jvm.ClassFile.FieldType.int)) ∈ lw_gd := tb_7 (i := 82) rfl rfl
theorem wd_1618 : (Jvm.Cond.methodLink "GluedHourModel" (443 : Nat) ({ cls := "GluedHourModel", name := "hasSights", desc := "(I)Z" } : Jvm.MethodName)) ∈ lw_gd := tb_7 (i := 83) rfl rfl
theorem wd_1620 : (Jvm.Cond.instanceMethod ({ cls := "GluedHourModel", name := "hasSights", desc := "(I)Z" } : Jvm.MethodName)) ∈ lw_gd := tb_7 (i := 85) rfl rfl
theorem wd_1621 : (Jvm.Cond.code ({ cls := "GluedHourModel", name := "hasSights", desc := "(I)Z" } : Jvm.MethodName) prog_12_method_99_code (2 : Nat) (Option.some Jvm.ClassFile.FieldType.boolean)) ∈ lw_gd := tb_7 (i := 86) rfl rfl
theorem wd_1622 : (Jvm.Cond.methodLink "GluedHourModel" (446 : Nat) ({ cls := "GluedHourModel", name := "sightOf", desc := "(II)I" } : Jvm.MethodName)) ∈ lw_gd := tb_7 (i := 87) rfl rfl
theorem wd_1624 : (Jvm.Cond.instanceMethod ({ cls := "GluedHourModel", name := "sightOf", desc := "(II)I" } : Jvm.MethodName)) ∈ lw_gd := tb_7 (i := 89) rfl rfl
theorem wd_1625 : (Jvm.Cond.code ({ cls := "GluedHourModel", name := "sightOf", desc := "(II)I" } : Jvm.MethodName) prog_12_method_98_code (3 : Nat) (Option.some Jvm.ClassFile.FieldType.int)) ∈ lw_gd := tb_7 (i := 90) rfl rfl
theorem wd_1626 : (Jvm.Cond.methodLink "GluedHourLaw" (128 : Nat) ({ cls := "GluedHourModel", name := "fits", desc := "(III)I" } : Jvm.MethodName)) ∈ lw_gd := tb_7 (i := 91) rfl rfl
theorem wd_1627 : (Jvm.Cond.instanceMethod ({ cls := "GluedHourModel", name := "fits", desc := "(III)I" } : Jvm.MethodName)) ∈ lw_gd := tb_7 (i := 92) rfl rfl
theorem wd_1628 : (Jvm.Cond.selects "GluedHourModel" ({ cls := "GluedHourModel", name := "fits", desc := "(III)I" } : Jvm.MethodName) ({ cls := "GluedHourModel", name := "fits", desc := "(III)I" } : Jvm.MethodName)) ∈ lw_gd := tb_7 (i := 93) rfl rfl
theorem wd_1629 : (Jvm.Cond.code ({ cls := "GluedHourModel", name := "fits", desc := "(III)I" } : Jvm.MethodName) prog_12_method_105_code (4 : Nat) (Option.some Jvm.ClassFile.FieldType.int)) ∈ lw_gd := tb_7 (i := 94) rfl rfl
theorem wd_1630 : (Jvm.Cond.methodLink "GluedHourModel" (461 : Nat) ({ cls := "GluedHourModel", name := "findFits", desc := "()V" } : Jvm.MethodName)) ∈ lw_gd := tb_7 (i := 95) rfl rfl
theorem wd_1632 : (Jvm.Cond.instanceMethod ({ cls := "GluedHourModel", name := "findFits", desc := "()V" } : Jvm.MethodName)) ∈ lw_gd := tb_7 (i := 97) rfl rfl
theorem wd_1633 : (Jvm.Cond.code ({ cls := "GluedHourModel", name := "findFits", desc := "()V" } : Jvm.MethodName) prog_12_method_103_code (4 : Nat) (Option.none : Option Jvm.ClassFile.FieldType)) ∈ lw_gd := tb_7 (i := 98) rfl rfl
theorem wd_1634 : (Jvm.Cond.methodLink "GluedHourModel" (458 : Nat) ({ cls := "GluedHourModel", name := "isRow", desc := "(I)Z" } : Jvm.MethodName)) ∈ lw_gd := tb_7 (i := 99) rfl rfl
theorem wd_1636 : (Jvm.Cond.instanceMethod ({ cls := "GluedHourModel", name := "isRow", desc := "(I)Z" } : Jvm.MethodName)) ∈ lw_gd := tb_7 (i := 101) rfl rfl
theorem wd_1637 : (Jvm.Cond.code ({ cls := "GluedHourModel", name := "isRow", desc := "(I)Z" } : Jvm.MethodName) prog_12_method_102_code (4 : Nat) (Option.some Jvm.ClassFile.FieldType.boolean)) ∈ lw_gd := tb_7 (i := 102) rfl rfl
theorem wd_1638 : (Jvm.Cond.methodLink "GluedHourModel" (452 : Nat) ({ cls := "GluedHourModel", name := "isAsSeen", desc := "(I)Z" } : Jvm.MethodName)) ∈ lw_gd := tb_7 (i := 103) rfl rfl
theorem wd_1640 : (Jvm.Cond.instanceMethod ({ cls := "GluedHourModel", name := "isAsSeen", desc := "(I)Z" } : Jvm.MethodName)) ∈ lw_gd := tb_7 (i := 105) rfl rfl
theorem wd_1641 : (Jvm.Cond.code ({ cls := "GluedHourModel", name := "isAsSeen", desc := "(I)Z" } : Jvm.MethodName) prog_12_method_101_code (3 : Nat) (Option.some Jvm.ClassFile.FieldType.boolean)) ∈ lw_gd := tb_7 (i := 106) rfl rfl
theorem wd_1642 : (Jvm.Cond.methodLink "GluedHourModel" (464 : Nat) ({ cls := "GluedHourModel", name := "onlyOne", desc := "(I)I" } : Jvm.MethodName)) ∈ lw_gd := tb_7 (i := 107) rfl rfl
theorem wd_1644 : (Jvm.Cond.instanceMethod ({ cls := "GluedHourModel", name := "onlyOne", desc := "(I)I" } : Jvm.MethodName)) ∈ lw_gd := tb_7 (i := 109) rfl rfl
theorem wd_1645 : (Jvm.Cond.code ({ cls := "GluedHourModel", name := "onlyOne", desc := "(I)I" } : Jvm.MethodName) prog_12_method_104_code (3 : Nat) (Option.some Jvm.ClassFile.FieldType.int)) ∈ lw_gd := tb_7 (i := 110) rfl rfl
theorem wd_1646 : (Jvm.Cond.methodLink "GluedHourLaw" (132 : Nat) ({ cls := "GluedHourModel", name := "reign", desc := "(III)I" } : Jvm.MethodName)) ∈ lw_gd := tb_7 (i := 111) rfl rfl
theorem wd_1647 : (Jvm.Cond.instanceMethod ({ cls := "GluedHourModel", name := "reign", desc := "(III)I" } : Jvm.MethodName)) ∈ lw_gd := tb_7 (i := 112) rfl rfl
theorem wd_1648 : (Jvm.Cond.selects "GluedHourModel" ({ cls := "GluedHourModel", name := "reign", desc := "(III)I" } : Jvm.MethodName) ({ cls := "GluedHourModel", name := "reign", desc := "(III)I" } : Jvm.MethodName)) ∈ lw_gd := tb_7 (i := 113) rfl rfl
theorem wd_1649 : (Jvm.Cond.code ({ cls := "GluedHourModel", name := "reign", desc := "(III)I" } : Jvm.MethodName) prog_12_method_107_code (5 : Nat) (Option.some Jvm.ClassFile.FieldType.int)) ∈ lw_gd := tb_7 (i := 114) rfl rfl
theorem wd_1650 : (Jvm.Cond.methodLink "GluedHourModel" (467 : Nat) ({ cls := "GluedHourModel", name := "reignDays", desc := "(I)I" } : Jvm.MethodName)) ∈ lw_gd := tb_7 (i := 115) rfl rfl
theorem wd_1652 : (Jvm.Cond.instanceMethod ({ cls := "GluedHourModel", name := "reignDays", desc := "(I)I" } : Jvm.MethodName)) ∈ lw_gd := tb_7 (i := 117) rfl rfl
theorem wd_1653 : (Jvm.Cond.code ({ cls := "GluedHourModel", name := "reignDays", desc := "(I)I" } : Jvm.MethodName) prog_12_method_106_code (5 : Nat) (Option.some Jvm.ClassFile.FieldType.int)) ∈ lw_gd := tb_7 (i := 118) rfl rfl
theorem wd_1654 : (Jvm.Cond.methodLink "GluedHourLaw" (136 : Nat) ({ cls := "GluedHourModel", name := "hope", desc := "(IIIZ)J" } : Jvm.MethodName)) ∈ lw_gd := tb_7 (i := 119) rfl rfl
theorem wd_1655 : (Jvm.Cond.instanceMethod ({ cls := "GluedHourModel", name := "hope", desc := "(IIIZ)J" } : Jvm.MethodName)) ∈ lw_gd := tb_7 (i := 120) rfl rfl
theorem wd_1656 : (Jvm.Cond.selects "GluedHourModel" ({ cls := "GluedHourModel", name := "hope", desc := "(IIIZ)J" } : Jvm.MethodName) ({ cls := "GluedHourModel", name := "hope", desc := "(IIIZ)J" } : Jvm.MethodName)) ∈ lw_gd := tb_7 (i := 121) rfl rfl
theorem wd_1657 : (Jvm.Cond.code ({ cls := "GluedHourModel", name := "hope", desc := "(IIIZ)J" } : Jvm.MethodName) prog_12_method_111_code (5 : Nat) (Option.some Jvm.ClassFile.FieldType.long)) ∈ lw_gd := tb_7 (i := 122) rfl rfl
theorem wd_1658 : (Jvm.Cond.constantLong "GluedHourModel" (483 : Nat) (-1000000 : Int64)) ∈ lw_gd := tb_7 (i := 123) rfl rfl
theorem wd_1659 : (Jvm.Cond.methodLink "GluedHourModel" (485 : Nat) ({ cls := "GluedHourModel", name := "expect", desc := "(IIZ)V" } : Jvm.MethodName)) ∈ lw_gd := tb_7 (i := 124) rfl rfl
theorem wd_1661 : (Jvm.Cond.instanceMethod ({ cls := "GluedHourModel", name := "expect", desc := "(IIZ)V" } : Jvm.MethodName)) ∈ lw_gd := tb_7 (i := 126) rfl rfl
theorem wd_1662 : (Jvm.Cond.code ({ cls := "GluedHourModel", name := "expect", desc := "(IIZ)V" } : Jvm.MethodName) prog_12_method_110_code (13 : Nat) (Option.none : Option Jvm.ClassFile.FieldType)) ∈ lw_gd := tb_7 (i := 127) rfl rfl
theorem wd_1663 : (Jvm.Cond.methodLink "GluedHourModel" (476 : Nat) ({ cls := "GluedHourModel", name := "begin", desc := "()V" } : Jvm.MethodName)) ∈ lw_gd := tb_7 (i := 128) rfl rfl
theorem wd_1665 : (Jvm.Cond.instanceMethod ({ cls := "GluedHourModel", name := "begin", desc := "()V" } : Jvm.MethodName)) ∈ lw_gd := tb_7 (i := 130) rfl rfl
theorem wd_1666 : (Jvm.Cond.code ({ cls := "GluedHourModel", name := "begin", desc := "()V" } : Jvm.MethodName) prog_12_method_108_code (2 : Nat) (Option.none : Option Jvm.ClassFile.FieldType)) ∈ lw_gd := tb_7 (i := 131) rfl rfl
theorem wd_1667 : (Jvm.Cond.methodLink "GluedHourModel" (479 : Nat) ({ cls := "GluedHourModel", name := "plus", desc := "(JJ)V" } : Jvm.MethodName)) ∈ lw_gd := tb_7 (i := 132) rfl rfl
theorem wd_1669 : (Jvm.Cond.instanceMethod ({ cls := "GluedHourModel", name := "plus", desc := "(JJ)V" } : Jvm.MethodName)) ∈ lw_gd := tb_7 (i := 134) rfl rfl
theorem wd_1670 : (Jvm.Cond.code ({ cls := "GluedHourModel", name := "plus", desc := "(JJ)V" } : Jvm.MethodName) prog_12_method_109_code (9 : Nat) (Option.none : Option Jvm.ClassFile.FieldType)) ∈ lw_gd := tb_7 (i := 135) rfl rfl
theorem wd_1671 : (Jvm.Cond.methodLink "GluedHourLaw" (140 : Nat) ({ cls := "GluedHourModel", name := "doom", desc := "(IIIZ)J" } : Jvm.MethodName)) ∈ lw_gd := tb_7 (i := 136) rfl rfl
theorem wd_1672 : (Jvm.Cond.instanceMethod ({ cls := "GluedHourModel", name := "doom", desc := "(IIIZ)J" } : Jvm.MethodName)) ∈ lw_gd := tb_7 (i := 137) rfl rfl
theorem wd_1673 : (Jvm.Cond.selects "GluedHourModel" ({ cls := "GluedHourModel", name := "doom", desc := "(IIIZ)J" } : Jvm.MethodName) ({ cls := "GluedHourModel", name := "doom", desc := "(IIIZ)J" } : Jvm.MethodName)) ∈ lw_gd := tb_7 (i := 138) rfl rfl
theorem wd_1674 : (Jvm.Cond.code ({ cls := "GluedHourModel", name := "doom", desc := "(IIIZ)J" } : Jvm.MethodName) prog_12_method_112_code (5 : Nat) (Option.some Jvm.ClassFile.FieldType.long)) ∈ lw_gd := tb_7 (i := 139) rfl rfl
theorem wd_1675 : (Jvm.Cond.methodLink "GluedHourLaw" (144 : Nat) ({ cls := "GluedHourModel", name := "ruling", desc := "(II)I" } : Jvm.MethodName)) ∈ lw_gd := tb_7 (i := 140) rfl rfl
theorem wd_1676 : (Jvm.Cond.instanceMethod ({ cls := "GluedHourModel", name := "ruling", desc := "(II)I" } : Jvm.MethodName)) ∈ lw_gd := tb_7 (i := 141) rfl rfl
theorem wd_1677 : (Jvm.Cond.selects "GluedHourModel" ({ cls := "GluedHourModel", name := "ruling", desc := "(II)I" } : Jvm.MethodName) ({ cls := "GluedHourModel", name := "ruling", desc := "(II)I" } : Jvm.MethodName)) ∈ lw_gd := tb_7 (i := 142) rfl rfl
theorem wd_1678 : (Jvm.Cond.code ({ cls := "GluedHourModel", name := "ruling", desc := "(II)I" } : Jvm.MethodName) prog_12_method_114_code (9 : Nat) (Option.some Jvm.ClassFile.FieldType.int)) ∈ lw_gd := tb_7 (i := 143) rfl rfl
theorem wd_1679 : (Jvm.Cond.methodLink "GluedHourModel" (489 : Nat) ({ cls := "GluedHourModel", name := "allMeans", desc := "()J" } : Jvm.MethodName)) ∈ lw_gd := tb_7 (i := 144) rfl rfl
theorem wd_1681 : (Jvm.Cond.instanceMethod ({ cls := "GluedHourModel", name := "allMeans", desc := "()J" } : Jvm.MethodName)) ∈ lw_gd := tb_7 (i := 146) rfl rfl
theorem wd_1682 : (Jvm.Cond.code ({ cls := "GluedHourModel", name := "allMeans", desc := "()J" } : Jvm.MethodName) prog_12_method_113_code (4 : Nat) (Option.some Jvm.ClassFile.FieldType.long)) ∈ lw_gd := tb_7 (i := 147) rfl rfl
theorem wd_1683 : (Jvm.Cond.methodLink "GluedHourLaw" (148 : Nat) ({ cls := "GluedHourModel", name := "trust", desc := "(IIZ)I" } : Jvm.MethodName)) ∈ lw_gd := tb_7 (i := 148) rfl rfl
theorem wd_1684 : (Jvm.Cond.instanceMethod ({ cls := "GluedHourModel", name := "trust", desc := "(IIZ)I" } : Jvm.MethodName)) ∈ lw_gd := tb_7 (i := 149) rfl rfl
theorem wd_1685 : (Jvm.Cond.selects "GluedHourModel" ({ cls := "GluedHourModel", name := "trust", desc := "(IIZ)I" } : Jvm.MethodName) ({ cls := "GluedHourModel", name := "trust", desc := "(IIZ)I" } : Jvm.MethodName)) ∈ lw_gd := tb_7 (i := 150) rfl rfl
theorem wd_1686 : (Jvm.Cond.code ({ cls := "GluedHourModel", name := "trust", desc := "(IIZ)I" } : Jvm.MethodName) prog_12_method_115_code (7 : Nat) (Option.some Jvm.ClassFile.FieldType.int)) ∈ lw_gd := tb_7 (i := 151) rfl rfl
theorem wd_1687 : (Jvm.Cond.methodLink "GluedHourLaw" (152 : Nat) ({ cls := "GluedHourModel", name := "tight", desc := "(II)I" } : Jvm.MethodName)) ∈ lw_gd := tb_7 (i := 152) rfl rfl
theorem wd_1688 : (Jvm.Cond.instanceMethod ({ cls := "GluedHourModel", name := "tight", desc := "(II)I" } : Jvm.MethodName)) ∈ lw_gd := tb_7 (i := 153) rfl rfl
theorem wd_1689 : (Jvm.Cond.selects "GluedHourModel" ({ cls := "GluedHourModel", name := "tight", desc := "(II)I" } : Jvm.MethodName) ({ cls := "GluedHourModel", name := "tight", desc := "(II)I" } : Jvm.MethodName)) ∈ lw_gd := tb_7 (i := 154) rfl rfl
theorem wd_1690 : (Jvm.Cond.code ({ cls := "GluedHourModel", name := "tight", desc := "(II)I" } : Jvm.MethodName) prog_12_method_116_code (8 : Nat) (Option.some Jvm.ClassFile.FieldType.int)) ∈ lw_gd := tb_7 (i := 155) rfl rfl
theorem wd_1691 : (Jvm.Cond.methodLink "GluedHourLaw" (156 : Nat) ({ cls := "GluedHourModel", name := "free", desc := "(IIZ)I" } : Jvm.MethodName)) ∈ lw_gd := tb_7 (i := 156) rfl rfl
theorem wd_1692 : (Jvm.Cond.instanceMethod ({ cls := "GluedHourModel", name := "free", desc := "(IIZ)I" } : Jvm.MethodName)) ∈ lw_gd := tb_7 (i := 157) rfl rfl
theorem wd_1693 : (Jvm.Cond.selects "GluedHourModel" ({ cls := "GluedHourModel", name := "free", desc := "(IIZ)I" } : Jvm.MethodName) ({ cls := "GluedHourModel", name := "free", desc := "(IIZ)I" } : Jvm.MethodName)) ∈ lw_gd := tb_7 (i := 158) rfl rfl
theorem wd_1694 : (Jvm.Cond.code ({ cls := "GluedHourModel", name := "free", desc := "(IIZ)I" } : Jvm.MethodName) prog_12_method_117_code (8 : Nat) (Option.some Jvm.ClassFile.FieldType.int)) ∈ lw_gd := tb_7 (i := 159) rfl rfl
theorem wd_1695 : (Jvm.Cond.methodLink "GluedHourLaw" (160 : Nat) ({ cls := "GluedHourModel", name := "count", desc := "(I)I" } : Jvm.MethodName)) ∈ lw_gd := tb_7 (i := 160) rfl rfl
theorem wd_1696 : (Jvm.Cond.instanceMethod ({ cls := "GluedHourModel", name := "count", desc := "(I)I" } : Jvm.MethodName)) ∈ lw_gd := tb_7 (i := 161) rfl rfl
theorem wd_1697 : (Jvm.Cond.selects "GluedHourModel" ({ cls := "GluedHourModel", name := "count", desc := "(I)I" } : Jvm.MethodName) ({ cls := "GluedHourModel", name := "count", desc := "(I)I" } : Jvm.MethodName)) ∈ lw_gd := tb_7 (i := 162) rfl rfl
theorem wd_1698 : (Jvm.Cond.code ({ cls := "GluedHourModel", name := "count", desc := "(I)I" } : Jvm.MethodName) prog_12_method_118_code (2 : Nat) (Option.some Jvm.ClassFile.FieldType.int)) ∈ lw_gd := tb_7 (i := 163) rfl rfl
theorem wd_1699 : (Jvm.Cond.methodLink "GluedHourLaw" (165 : Nat) ({ cls := "GluedHourModel", name := "image", desc := "(I)Z" } : Jvm.MethodName)) ∈ lw_gd := tb_7 (i := 164) rfl rfl
theorem wd_1700 : (Jvm.Cond.instanceMethod ({ cls := "GluedHourModel", name := "image", desc := "(I)Z" } : Jvm.MethodName)) ∈ lw_gd := tb_7 (i := 165) rfl rfl
theorem wd_1701 : (Jvm.Cond.selects "GluedHourModel" ({ cls := "GluedHourModel", name := "image", desc := "(I)Z" } : Jvm.MethodName) ({ cls := "GluedHourModel", name := "image", desc := "(I)Z" } : Jvm.MethodName)) ∈ lw_gd := tb_7 (i := 166) rfl rfl
theorem wd_1702 : (Jvm.Cond.code ({ cls := "GluedHourModel", name := "image", desc := "(I)Z" } : Jvm.MethodName) prog_12_method_119_code (2 : Nat) (Option.some Jvm.ClassFile.FieldType.boolean)) ∈ lw_gd := tb_7 (i := 167) rfl rfl
theorem wd_1703 : (Jvm.Cond.methodLink "GluedHourModel" (493 : Nat) ({ cls := "GluedHourModel", name := "copyAll", desc := "(II)V" } : Jvm.MethodName)) ∈ lw_gd := tb_7 (i := 168) rfl rfl
theorem wd_1705 : (Jvm.Cond.instanceMethod ({ cls := "GluedHourModel", name := "copyAll", desc := "(II)V" } : Jvm.MethodName)) ∈ lw_gd := tb_7 (i := 170) rfl rfl
theorem wd_1706 : (Jvm.Cond.code ({ cls := "GluedHourModel", name := "copyAll", desc := "(II)V" } : Jvm.MethodName) prog_12_method_8_code (4 : Nat) (Option.none : Option Jvm.ClassFile.FieldType)) ∈ lw_gd := tb_7 (i := 171) rfl rfl
theorem wd_1707 : (Jvm.Cond.methodLink "GluedHourModel" (92 : Nat) ({ cls := "GluedHourModel", name := "copyRow", desc := "([IIII)V" } : Jvm.MethodName)) ∈ lw_gd := tb_7 (i := 172) rfl rfl
theorem wd_1708 : (Jvm.Cond.static ({ cls := "GluedHourModel", name := "copyRow", desc := "([IIII)V" } : Jvm.MethodName)) ∈ lw_gd := tb_7 (i := 173) rfl rfl
theorem wd_1709 : (Jvm.Cond.code ({ cls := "GluedHourModel", name := "copyRow", desc := "([IIII)V" } : Jvm.MethodName) prog_12_method_7_code (5 : Nat) (Option.none : Option Jvm.ClassFile.FieldType)) ∈ lw_gd := tb_7 (i := 174) rfl rfl
theorem wd_1710 : (Jvm.Cond.methodLink "GluedHourLaw" (169 : Nat) ({ cls := "GluedHourModel", name := "again", desc := "(I)Z" } : Jvm.MethodName)) ∈ lw_gd := tb_7 (i := 175) rfl rfl
theorem wd_1711 : (Jvm.Cond.instanceMethod ({ cls := "GluedHourModel", name := "again", desc := "(I)Z" } : Jvm.MethodName)) ∈ lw_gd := tb_7 (i := 176) rfl rfl
theorem wd_1712 : (Jvm.Cond.selects "GluedHourModel" ({ cls := "GluedHourModel", name := "again", desc := "(I)Z" } : Jvm.MethodName) ({ cls := "GluedHourModel", name := "again", desc := "(I)Z" } : Jvm.MethodName)) ∈ lw_gd := tb_7 (i := 177) rfl rfl
theorem wd_1713 : (Jvm.Cond.code ({ cls := "GluedHourModel", name := "again", desc := "(I)Z" } : Jvm.MethodName) prog_12_method_120_code (2 : Nat) (Option.some Jvm.ClassFile.FieldType.boolean)) ∈ lw_gd := tb_7 (i := 178) rfl rfl
theorem wd_1714 : (Jvm.Cond.fieldLink "java/lang/String" (9 : Nat) "java/lang/String" "value" "[B") ∈ lw_gd := tb_7 (i := 179) rfl rfl
theorem wd_1715 : (Jvm.Cond.fieldLink "java/lang/String" (15 : Nat) "java/lang/String" "coder" "B") ∈ lw_gd := tb_7 (i := 180) rfl rfl
theorem lk_X0 : ∀ k, k < 4 → u_lay RX0 TX0 k ∈ lw_gd
  | 0, _ => tb_1 (i := 210) rfl rfl
  | 1, _ => tb_1 (i := 212) rfl rfl
  | 2, _ => tb_1 (i := 214) rfl rfl
  | 3, _ => tb_1 (i := 216) rfl rfl
  | k + 4, h => absurd h (by omega)
theorem ig_X0 : ∀ w ∈ wsX00, w ∈ lw_gd := fun w hw => by
  obtain ⟨k, hk, rfl⟩ := List.mem_map.mp hw
  exact lk_X0 k (List.mem_range.mp hk)
theorem lk_X1 : ∀ k, k < 2 → u_lay RX1 TX1 k ∈ lw_gd
  | 0, _ => tb_2 (i := 79) rfl rfl
  | 1, _ => tb_2 (i := 81) rfl rfl
  | k + 2, h => absurd h (by omega)
theorem ig_X1 : ∀ w ∈ wsX10, w ∈ lw_gd := fun w hw => by
  obtain ⟨k, hk, rfl⟩ := List.mem_map.mp hw
  exact lk_X1 k (List.mem_range.mp hk)
theorem lk_X10 : ∀ k, k < 59 → u_lay RX10 TX10 k ∈ lw_gd
  | 0, _ => tb_5 (i := 57) rfl rfl
  | 1, _ => tb_5 (i := 59) rfl rfl
  | 2, _ => tb_5 (i := 61) rfl rfl
  | 3, _ => tb_5 (i := 63) rfl rfl
  | 4, _ => tb_5 (i := 65) rfl rfl
  | 5, _ => tb_5 (i := 67) rfl rfl
  | 6, _ => tb_5 (i := 69) rfl rfl
  | 7, _ => tb_5 (i := 71) rfl rfl
  | 8, _ => tb_5 (i := 73) rfl rfl
  | 9, _ => tb_5 (i := 75) rfl rfl
  | 10, _ => tb_5 (i := 77) rfl rfl
  | 11, _ => tb_5 (i := 79) rfl rfl
  | 12, _ => tb_5 (i := 81) rfl rfl
  | 13, _ => tb_5 (i := 83) rfl rfl
  | 14, _ => tb_5 (i := 85) rfl rfl
  | 15, _ => tb_5 (i := 87) rfl rfl
  | 16, _ => tb_5 (i := 89) rfl rfl
  | 17, _ => tb_5 (i := 91) rfl rfl
  | 18, _ => tb_5 (i := 93) rfl rfl
  | 19, _ => tb_5 (i := 95) rfl rfl
  | 20, _ => tb_5 (i := 97) rfl rfl
  | 21, _ => tb_5 (i := 99) rfl rfl
  | 22, _ => tb_5 (i := 101) rfl rfl
  | 23, _ => tb_5 (i := 103) rfl rfl
  | 24, _ => tb_5 (i := 105) rfl rfl
  | 25, _ => tb_5 (i := 107) rfl rfl
  | 26, _ => tb_5 (i := 109) rfl rfl
  | 27, _ => tb_5 (i := 111) rfl rfl
  | 28, _ => tb_5 (i := 113) rfl rfl
  | 29, _ => tb_5 (i := 115) rfl rfl
  | 30, _ => tb_5 (i := 117) rfl rfl
  | 31, _ => tb_5 (i := 119) rfl rfl
  | 32, _ => tb_5 (i := 121) rfl rfl
  | 33, _ => tb_5 (i := 123) rfl rfl
  | 34, _ => tb_5 (i := 125) rfl rfl
  | 35, _ => tb_5 (i := 127) rfl rfl
  | 36, _ => tb_5 (i := 129) rfl rfl
  | 37, _ => tb_5 (i := 131) rfl rfl
  | 38, _ => tb_5 (i := 133) rfl rfl
  | 39, _ => tb_5 (i := 135) rfl rfl
  | 40, _ => tb_5 (i := 137) rfl rfl
  | 41, _ => tb_5 (i := 139) rfl rfl
  | 42, _ => tb_5 (i := 141) rfl rfl
  | 43, _ => tb_5 (i := 143) rfl rfl
  | 44, _ => tb_5 (i := 145) rfl rfl
  | 45, _ => tb_5 (i := 147) rfl rfl
  | 46, _ => tb_5 (i := 149) rfl rfl
  | 47, _ => tb_5 (i := 151) rfl rfl
  | 48, _ => tb_5 (i := 153) rfl rfl
  | 49, _ => tb_5 (i := 155) rfl rfl
  | 50, _ => tb_5 (i := 157) rfl rfl
  | 51, _ => tb_5 (i := 159) rfl rfl
  | 52, _ => tb_5 (i := 161) rfl rfl
  | 53, _ => tb_5 (i := 163) rfl rfl
  | 54, _ => tb_5 (i := 165) rfl rfl
  | 55, _ => tb_5 (i := 167) rfl rfl
  | 56, _ => tb_5 (i := 169) rfl rfl
  | 57, _ => tb_5 (i := 171) rfl rfl
  | 58, _ => tb_5 (i := 173) rfl rfl
  | k + 59, h => absurd h (by omega)
theorem ig_X10 : ∀ w ∈ wsX100, w ∈ lw_gd := fun w hw => by
  obtain ⟨k, hk, rfl⟩ := List.mem_map.mp hw
  exact lk_X10 k (List.mem_range.mp hk)
theorem lk_X2 : ∀ k, k < 4 → u_lay RX2 TX2 k ∈ lw_gd
  | 0, _ => tb_1 (i := 104) rfl rfl
  | 1, _ => tb_1 (i := 106) rfl rfl
  | 2, _ => tb_1 (i := 108) rfl rfl
  | 3, _ => tb_1 (i := 110) rfl rfl
  | k + 4, h => absurd h (by omega)
theorem ig_X2 : ∀ w ∈ wsX20, w ∈ lw_gd := fun w hw => by
  obtain ⟨k, hk, rfl⟩ := List.mem_map.mp hw
  exact lk_X2 k (List.mem_range.mp hk)
theorem lk_X3 : ∀ k, k < 3 → u_lay RX3 TX3 k ∈ lw_gd
  | 0, _ => tb_1 (i := 234) rfl rfl
  | 1, _ => tb_1 (i := 236) rfl rfl
  | 2, _ => tb_1 (i := 238) rfl rfl
  | k + 3, h => absurd h (by omega)
theorem ig_X3 : ∀ w ∈ wsX30, w ∈ lw_gd := fun w hw => by
  obtain ⟨k, hk, rfl⟩ := List.mem_map.mp hw
  exact lk_X3 k (List.mem_range.mp hk)
theorem lk_X4 : ∀ k, k < 9 → u_lay RX4 TX4 k ∈ lw_gd
  | 0, _ => tb_2 (i := 23) rfl rfl
  | 1, _ => tb_2 (i := 25) rfl rfl
  | 2, _ => tb_2 (i := 27) rfl rfl
  | 3, _ => tb_2 (i := 29) rfl rfl
  | 4, _ => tb_2 (i := 31) rfl rfl
  | 5, _ => tb_2 (i := 33) rfl rfl
  | 6, _ => tb_2 (i := 35) rfl rfl
  | 7, _ => tb_2 (i := 37) rfl rfl
  | 8, _ => tb_2 (i := 39) rfl rfl
  | k + 9, h => absurd h (by omega)
theorem ig_X4 : ∀ w ∈ wsX40, w ∈ lw_gd := fun w hw => by
  obtain ⟨k, hk, rfl⟩ := List.mem_map.mp hw
  exact lk_X4 k (List.mem_range.mp hk)
theorem lk_X5 : ∀ k, k < 14 → u_lay RX5 TX5 k ∈ lw_gd
  | 0, _ => tb_1 (i := 169) rfl rfl
  | 1, _ => tb_1 (i := 171) rfl rfl
  | 2, _ => tb_1 (i := 173) rfl rfl
  | 3, _ => tb_1 (i := 175) rfl rfl
  | 4, _ => tb_1 (i := 177) rfl rfl
  | 5, _ => tb_1 (i := 179) rfl rfl
  | 6, _ => tb_1 (i := 181) rfl rfl
  | 7, _ => tb_1 (i := 183) rfl rfl
  | 8, _ => tb_1 (i := 185) rfl rfl
  | 9, _ => tb_1 (i := 187) rfl rfl
  | 10, _ => tb_1 (i := 189) rfl rfl
  | 11, _ => tb_1 (i := 191) rfl rfl
  | 12, _ => tb_1 (i := 193) rfl rfl
  | 13, _ => tb_1 (i := 195) rfl rfl
  | k + 14, h => absurd h (by omega)
theorem ig_X5 : ∀ w ∈ wsX50, w ∈ lw_gd := fun w hw => by
  obtain ⟨k, hk, rfl⟩ := List.mem_map.mp hw
  exact lk_X5 k (List.mem_range.mp hk)
theorem lk_X6 : ∀ k, k < 7 → u_lay RX6 TX6 k ∈ lw_gd
  | 0, _ => tb_1 (i := 68) rfl rfl
  | 1, _ => tb_1 (i := 70) rfl rfl
  | 2, _ => tb_1 (i := 72) rfl rfl
  | 3, _ => tb_1 (i := 74) rfl rfl
  | 4, _ => tb_1 (i := 76) rfl rfl
  | 5, _ => tb_1 (i := 78) rfl rfl
  | 6, _ => tb_1 (i := 80) rfl rfl
  | k + 7, h => absurd h (by omega)
theorem ig_X6 : ∀ w ∈ wsX60, w ∈ lw_gd := fun w hw => by
  obtain ⟨k, hk, rfl⟩ := List.mem_map.mp hw
  exact lk_X6 k (List.mem_range.mp hk)
theorem lk_X7 : ∀ k, k < 5 → u_lay RX7 TX7 k ∈ lw_gd
  | 0, _ => tb_2 (i := 60) rfl rfl
  | 1, _ => tb_2 (i := 62) rfl rfl
  | 2, _ => tb_2 (i := 64) rfl rfl
  | 3, _ => tb_2 (i := 66) rfl rfl
  | 4, _ => tb_2 (i := 68) rfl rfl
  | k + 5, h => absurd h (by omega)
theorem ig_X7 : ∀ w ∈ wsX70, w ∈ lw_gd := fun w hw => by
  obtain ⟨k, hk, rfl⟩ := List.mem_map.mp hw
  exact lk_X7 k (List.mem_range.mp hk)
theorem lk_X8 : ∀ k, k < 7 → u_lay RX8 TX8 k ∈ lw_gd
  | 0, _ => tb_1 (i := 125) rfl rfl
  | 1, _ => tb_1 (i := 127) rfl rfl
  | 2, _ => tb_1 (i := 129) rfl rfl
  | 3, _ => tb_1 (i := 131) rfl rfl
  | 4, _ => tb_1 (i := 133) rfl rfl
  | 5, _ => tb_1 (i := 135) rfl rfl
  | 6, _ => tb_1 (i := 137) rfl rfl
  | k + 7, h => absurd h (by omega)
theorem ig_X8 : ∀ w ∈ wsX80, w ∈ lw_gd := fun w hw => by
  obtain ⟨k, hk, rfl⟩ := List.mem_map.mp hw
  exact lk_X8 k (List.mem_range.mp hk)
theorem lk_X9 : ∀ k, k < 9 → u_lay RX9 TX9 k ∈ lw_gd
  | 0, _ => tb_2 (i := 93) rfl rfl
  | 1, _ => tb_2 (i := 95) rfl rfl
  | 2, _ => tb_2 (i := 97) rfl rfl
  | 3, _ => tb_2 (i := 99) rfl rfl
  | 4, _ => tb_2 (i := 101) rfl rfl
  | 5, _ => tb_2 (i := 103) rfl rfl
  | 6, _ => tb_2 (i := 105) rfl rfl
  | 7, _ => tb_2 (i := 107) rfl rfl
  | 8, _ => tb_2 (i := 109) rfl rfl
  | k + 9, h => absurd h (by omega)
theorem ig_X9 : ∀ w ∈ wsX90, w ∈ lw_gd := fun w hw => by
  obtain ⟨k, hk, rfl⟩ := List.mem_map.mp hw
  exact lk_X9 k (List.mem_range.mp hk)
end
