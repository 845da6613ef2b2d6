section
-- ===== PART A: goes FIRST, ahead of the names: the tables' words, and 'selects' of the private methods out of them =====
/-- a private method of a class that the tables say can be made, by its rows of tables_1 -/
def lw_okq (q : MethodName × Nat) : Prop := (q.1.cls ≠ "java/lang/invoke/MethodHandle" ∧ q.1.cls ≠ "java/lang/invoke/VarHandle") ∧ Cond.instantiable q.1.cls q.2 ∈ tables_1 ∧ Cond.privateMethod q.1 ∈ tables_1 ∧ Cond.instanceMethod q.1 ∈ tables_1
theorem lw_p0 : lw_okq (⟨"GluedHour$Reader", "begin", "(II)V"⟩, 14) := ⟨⟨by decide +kernel, by decide +kernel⟩, List.mem_of_getElem? (i := 142) (by decide +kernel), List.mem_of_getElem? (i := 373) (by decide +kernel), List.mem_of_getElem? (i := 374) (by decide +kernel)⟩
theorem lw_p1 : lw_okq (⟨"GluedHour$Reader", "draftOf", "(I)LGluedHour$Lines;"⟩, 14) := ⟨⟨by decide +kernel, by decide +kernel⟩, List.mem_of_getElem? (i := 142) (by decide +kernel), List.mem_of_getElem? (i := 384) (by decide +kernel), List.mem_of_getElem? (i := 385) (by decide +kernel)⟩
theorem lw_p2 : lw_okq (⟨"GluedHour$Reader", "step", "()V"⟩, 14) := ⟨⟨by decide +kernel, by decide +kernel⟩, List.mem_of_getElem? (i := 142) (by decide +kernel), List.mem_of_getElem? (i := 388) (by decide +kernel), List.mem_of_getElem? (i := 389) (by decide +kernel)⟩
theorem lw_p3 : lw_okq (⟨"GluedHour$Reader", "stepNumber", "()V"⟩, 14) := ⟨⟨by decide +kernel, by decide +kernel⟩, List.mem_of_getElem? (i := 142) (by decide +kernel), List.mem_of_getElem? (i := 398) (by decide +kernel), List.mem_of_getElem? (i := 399) (by decide +kernel)⟩
theorem lw_p4 : lw_okq (⟨"GluedHour$Reader", "readLine", "(I)Z"⟩, 14) := ⟨⟨by decide +kernel, by decide +kernel⟩, List.mem_of_getElem? (i := 142) (by decide +kernel), List.mem_of_getElem? (i := 402) (by decide +kernel), List.mem_of_getElem? (i := 403) (by decide +kernel)⟩
theorem lw_p5 : lw_okq (⟨"GluedHour$Reader", "verbOf", "(I)I"⟩, 14) := ⟨⟨by decide +kernel, by decide +kernel⟩, List.mem_of_getElem? (i := 142) (by decide +kernel), List.mem_of_getElem? (i := 406) (by decide +kernel), List.mem_of_getElem? (i := 407) (by decide +kernel)⟩
theorem lw_p6 : lw_okq (⟨"GluedHour$Reader", "isWord", "(Ljava/lang/String;)Z"⟩, 14) := ⟨⟨by decide +kernel, by decide +kernel⟩, List.mem_of_getElem? (i := 142) (by decide +kernel), List.mem_of_getElem? (i := 426) (by decide +kernel), List.mem_of_getElem? (i := 427) (by decide +kernel)⟩
theorem lw_p7 : lw_okq (⟨"GluedHour$Reader", "isOneTooMany", "(I)Z"⟩, 14) := ⟨⟨by decide +kernel, by decide +kernel⟩, List.mem_of_getElem? (i := 142) (by decide +kernel), List.mem_of_getElem? (i := 478) (by decide +kernel), List.mem_of_getElem? (i := 479) (by decide +kernel)⟩
theorem lw_p8 : lw_okq (⟨"GluedHour$Reader", "note", "(II)V"⟩, 14) := ⟨⟨by decide +kernel, by decide +kernel⟩, List.mem_of_getElem? (i := 142) (by decide +kernel), List.mem_of_getElem? (i := 486) (by decide +kernel), List.mem_of_getElem? (i := 487) (by decide +kernel)⟩
theorem lw_p9 : lw_okq (⟨"GluedHour$Reader", "checkNumber", "(II)V"⟩, 14) := ⟨⟨by decide +kernel, by decide +kernel⟩, List.mem_of_getElem? (i := 142) (by decide +kernel), List.mem_of_getElem? (i := 492) (by decide +kernel), List.mem_of_getElem? (i := 493) (by decide +kernel)⟩
theorem lw_p10 : lw_okq (⟨"GluedHour$Reader", "readMode", "()Z"⟩, 14) := ⟨⟨by decide +kernel, by decide +kernel⟩, List.mem_of_getElem? (i := 142) (by decide +kernel), List.mem_of_getElem? (i := 500) (by decide +kernel), List.mem_of_getElem? (i := 501) (by decide +kernel)⟩
theorem lw_p11 : lw_okq (⟨"GluedHour$Reader", "tell", "(I)V"⟩, 14) := ⟨⟨by decide +kernel, by decide +kernel⟩, List.mem_of_getElem? (i := 142) (by decide +kernel), List.mem_of_getElem? (i := 507) (by decide +kernel), List.mem_of_getElem? (i := 508) (by decide +kernel)⟩
theorem lw_p12 : lw_okq (⟨"GluedHour$Reader", "tellLine", "(I)V"⟩, 14) := ⟨⟨by decide +kernel, by decide +kernel⟩, List.mem_of_getElem? (i := 142) (by decide +kernel), List.mem_of_getElem? (i := 511) (by decide +kernel), List.mem_of_getElem? (i := 512) (by decide +kernel)⟩
theorem lw_p13 : lw_okq (⟨"GluedHour", "begun", "(I)LGluedHour$Republic;"⟩, 9) := ⟨⟨by decide +kernel, by decide +kernel⟩, List.mem_of_getElem? (i := 19) (by decide +kernel), List.mem_of_getElem? (i := 551) (by decide +kernel), List.mem_of_getElem? (i := 552) (by decide +kernel)⟩
theorem lw_p14 : lw_okq (⟨"GluedHour", "gainBy", "(II)J"⟩, 9) := ⟨⟨by decide +kernel, by decide +kernel⟩, List.mem_of_getElem? (i := 19) (by decide +kernel), List.mem_of_getElem? (i := 702) (by decide +kernel), List.mem_of_getElem? (i := 703) (by decide +kernel)⟩
theorem lw_p15 : lw_okq (⟨"GluedHour$Planner", "bestOf", "(II)J"⟩, 9) := ⟨⟨by decide +kernel, by decide +kernel⟩, List.mem_of_getElem? (i := 242) (by decide +kernel), List.mem_of_getElem? (i := 778) (by decide +kernel), List.mem_of_getElem? (i := 779) (by decide +kernel)⟩
def lw_privs_1 : List (MethodName × Nat) := [(⟨"GluedHour$Reader", "begin", "(II)V"⟩, 14), (⟨"GluedHour$Reader", "draftOf", "(I)LGluedHour$Lines;"⟩, 14), (⟨"GluedHour$Reader", "step", "()V"⟩, 14), (⟨"GluedHour$Reader", "stepNumber", "()V"⟩, 14), (⟨"GluedHour$Reader", "readLine", "(I)Z"⟩, 14), (⟨"GluedHour$Reader", "verbOf", "(I)I"⟩, 14), (⟨"GluedHour$Reader", "isWord", "(Ljava/lang/String;)Z"⟩, 14), (⟨"GluedHour$Reader", "isOneTooMany", "(I)Z"⟩, 14), (⟨"GluedHour$Reader", "note", "(II)V"⟩, 14), (⟨"GluedHour$Reader", "checkNumber", "(II)V"⟩, 14), (⟨"GluedHour$Reader", "readMode", "()Z"⟩, 14), (⟨"GluedHour$Reader", "tell", "(I)V"⟩, 14), (⟨"GluedHour$Reader", "tellLine", "(I)V"⟩, 14), (⟨"GluedHour", "begun", "(I)LGluedHour$Republic;"⟩, 9), (⟨"GluedHour", "gainBy", "(II)J"⟩, 9), (⟨"GluedHour$Planner", "bestOf", "(II)J"⟩, 9)]
theorem lw_r1 : ∀ q ∈ lw_privs_1, lw_okq q := List.forall_mem_cons.mpr ⟨lw_p0, List.forall_mem_cons.mpr ⟨lw_p1, List.forall_mem_cons.mpr ⟨lw_p2, List.forall_mem_cons.mpr ⟨lw_p3, List.forall_mem_cons.mpr ⟨lw_p4, List.forall_mem_cons.mpr ⟨lw_p5, List.forall_mem_cons.mpr ⟨lw_p6, List.forall_mem_cons.mpr ⟨lw_p7, List.forall_mem_cons.mpr ⟨lw_p8, List.forall_mem_cons.mpr ⟨lw_p9, List.forall_mem_cons.mpr ⟨lw_p10, List.forall_mem_cons.mpr ⟨lw_p11, List.forall_mem_cons.mpr ⟨lw_p12, List.forall_mem_cons.mpr ⟨lw_p13, List.forall_mem_cons.mpr ⟨lw_p14, List.forall_mem_cons.mpr ⟨lw_p15, fun _ h => absurd h List.not_mem_nil⟩⟩⟩⟩⟩⟩⟩⟩⟩⟩⟩⟩⟩⟩⟩⟩
theorem lw_p16 : lw_okq (⟨"GluedHour$Planner", "keep", "(J)V"⟩, 9) := ⟨⟨by decide +kernel, by decide +kernel⟩, List.mem_of_getElem? (i := 242) (by decide +kernel), List.mem_of_getElem? (i := 783) (by decide +kernel), List.mem_of_getElem? (i := 784) (by decide +kernel)⟩
theorem lw_p17 : lw_okq (⟨"GluedHour$Planner", "blindBy", "(LGluedHour$Republic;LGluedHour$Lines;I)J"⟩, 9) := ⟨⟨by decide +kernel, by decide +kernel⟩, List.mem_of_getElem? (i := 242) (by decide +kernel), List.mem_of_getElem? (i := 797) (by decide +kernel), List.mem_of_getElem? (i := 798) (by decide +kernel)⟩
theorem lw_p18 : lw_okq (⟨"GluedHour$Search", "follow", "(LGluedHour$Republic;LGluedHour$Course;LGluedHour$Lines;I)V"⟩, 5) := ⟨⟨by decide +kernel, by decide +kernel⟩, List.mem_of_getElem? (i := 284) (by decide +kernel), List.mem_of_getElem? (i := 850) (by decide +kernel), List.mem_of_getElem? (i := 851) (by decide +kernel)⟩
theorem lw_p19 : lw_okq (⟨"GluedHour$Search", "keepRow", "()V"⟩, 5) := ⟨⟨by decide +kernel, by decide +kernel⟩, List.mem_of_getElem? (i := 284) (by decide +kernel), List.mem_of_getElem? (i := 854) (by decide +kernel), List.mem_of_getElem? (i := 855) (by decide +kernel)⟩
theorem lw_p20 : lw_okq (⟨"GluedHour", "expected", "(IIIZ)Z"⟩, 9) := ⟨⟨by decide +kernel, by decide +kernel⟩, List.mem_of_getElem? (i := 19) (by decide +kernel), List.mem_of_getElem? (i := 881) (by decide +kernel), List.mem_of_getElem? (i := 882) (by decide +kernel)⟩
theorem lw_p21 : lw_okq (⟨"GluedHour", "nextDay", "(LGluedHour$Republic;LGluedHour$Odds;IZ)J"⟩, 9) := ⟨⟨by decide +kernel, by decide +kernel⟩, List.mem_of_getElem? (i := 19) (by decide +kernel), List.mem_of_getElem? (i := 895) (by decide +kernel), List.mem_of_getElem? (i := 896) (by decide +kernel)⟩
theorem lw_p22 : lw_okq (⟨"GluedHour", "changeBy", "(LGluedHour$Republic;II)J"⟩, 9) := ⟨⟨by decide +kernel, by decide +kernel⟩, List.mem_of_getElem? (i := 19) (by decide +kernel), List.mem_of_getElem? (i := 918) (by decide +kernel), List.mem_of_getElem? (i := 919) (by decide +kernel)⟩
theorem lw_p23 : lw_okq (⟨"GluedHourModel", "four", "(I)V"⟩, 59) := ⟨⟨by decide +kernel, by decide +kernel⟩, List.mem_of_getElem? (i := 953) (by decide +kernel), List.mem_of_getElem? (i := 1142) (by decide +kernel), List.mem_of_getElem? (i := 1143) (by decide +kernel)⟩
theorem lw_p24 : lw_okq (⟨"GluedHourModel", "is", "(II)Z"⟩, 59) := ⟨⟨by decide +kernel, by decide +kernel⟩, List.mem_of_getElem? (i := 953) (by decide +kernel), List.mem_of_getElem? (i := 1157) (by decide +kernel), List.mem_of_getElem? (i := 1158) (by decide +kernel)⟩
theorem lw_p25 : lw_okq (⟨"GluedHourModel", "readText", "(I)Z"⟩, 59) := ⟨⟨by decide +kernel, by decide +kernel⟩, List.mem_of_getElem? (i := 953) (by decide +kernel), List.mem_of_getElem? (i := 1161) (by decide +kernel), List.mem_of_getElem? (i := 1162) (by decide +kernel)⟩
theorem lw_p26 : lw_okq (⟨"GluedHourModel", "token", "()V"⟩, 59) := ⟨⟨by decide +kernel, by decide +kernel⟩, List.mem_of_getElem? (i := 953) (by decide +kernel), List.mem_of_getElem? (i := 1165) (by decide +kernel), List.mem_of_getElem? (i := 1166) (by decide +kernel)⟩
theorem lw_p27 : lw_okq (⟨"GluedHourModel", "see", "()I"⟩, 59) := ⟨⟨by decide +kernel, by decide +kernel⟩, List.mem_of_getElem? (i := 953) (by decide +kernel), List.mem_of_getElem? (i := 1169) (by decide +kernel), List.mem_of_getElem? (i := 1170) (by decide +kernel)⟩
theorem lw_p28 : lw_okq (⟨"GluedHourModel", "lines", "(I)Z"⟩, 59) := ⟨⟨by decide +kernel, by decide +kernel⟩, List.mem_of_getElem? (i := 953) (by decide +kernel), List.mem_of_getElem? (i := 1173) (by decide +kernel), List.mem_of_getElem? (i := 1174) (by decide +kernel)⟩
theorem lw_p29 : lw_okq (⟨"GluedHourModel", "lineOf", "(IJI)Z"⟩, 59) := ⟨⟨by decide +kernel, by decide +kernel⟩, List.mem_of_getElem? (i := 953) (by decide +kernel), List.mem_of_getElem? (i := 1177) (by decide +kernel), List.mem_of_getElem? (i := 1178) (by decide +kernel)⟩
theorem lw_p30 : lw_okq (⟨"GluedHourModel", "republicLine", "(JI)Z"⟩, 59) := ⟨⟨by decide +kernel, by decide +kernel⟩, List.mem_of_getElem? (i := 953) (by decide +kernel), List.mem_of_getElem? (i := 1181) (by decide +kernel), List.mem_of_getElem? (i := 1182) (by decide +kernel)⟩
theorem lw_p31 : lw_okq (⟨"GluedHourModel", "fails", "()Z"⟩, 59) := ⟨⟨by decide +kernel, by decide +kernel⟩, List.mem_of_getElem? (i := 953) (by decide +kernel), List.mem_of_getElem? (i := 1191) (by decide +kernel), List.mem_of_getElem? (i := 1192) (by decide +kernel)⟩
def lw_privs_2 : List (MethodName × Nat) := [(⟨"GluedHour$Planner", "keep", "(J)V"⟩, 9), (⟨"GluedHour$Planner", "blindBy", "(LGluedHour$Republic;LGluedHour$Lines;I)J"⟩, 9), (⟨"GluedHour$Search", "follow", "(LGluedHour$Republic;LGluedHour$Course;LGluedHour$Lines;I)V"⟩, 5), (⟨"GluedHour$Search", "keepRow", "()V"⟩, 5), (⟨"GluedHour", "expected", "(IIIZ)Z"⟩, 9), (⟨"GluedHour", "nextDay", "(LGluedHour$Republic;LGluedHour$Odds;IZ)J"⟩, 9), (⟨"GluedHour", "changeBy", "(LGluedHour$Republic;II)J"⟩, 9), (⟨"GluedHourModel", "four", "(I)V"⟩, 59), (⟨"GluedHourModel", "is", "(II)Z"⟩, 59), (⟨"GluedHourModel", "readText", "(I)Z"⟩, 59), (⟨"GluedHourModel", "token", "()V"⟩, 59), (⟨"GluedHourModel", "see", "()I"⟩, 59), (⟨"GluedHourModel", "lines", "(I)Z"⟩, 59), (⟨"GluedHourModel", "lineOf", "(IJI)Z"⟩, 59), (⟨"GluedHourModel", "republicLine", "(JI)Z"⟩, 59), (⟨"GluedHourModel", "fails", "()Z"⟩, 59)]
theorem lw_r2 : ∀ q ∈ lw_privs_2, lw_okq q := List.forall_mem_cons.mpr ⟨lw_p16, List.forall_mem_cons.mpr ⟨lw_p17, List.forall_mem_cons.mpr ⟨lw_p18, List.forall_mem_cons.mpr ⟨lw_p19, List.forall_mem_cons.mpr ⟨lw_p20, List.forall_mem_cons.mpr ⟨lw_p21, List.forall_mem_cons.mpr ⟨lw_p22, List.forall_mem_cons.mpr ⟨lw_p23, List.forall_mem_cons.mpr ⟨lw_p24, List.forall_mem_cons.mpr ⟨lw_p25, List.forall_mem_cons.mpr ⟨lw_p26, List.forall_mem_cons.mpr ⟨lw_p27, List.forall_mem_cons.mpr ⟨lw_p28, List.forall_mem_cons.mpr ⟨lw_p29, List.forall_mem_cons.mpr ⟨lw_p30, List.forall_mem_cons.mpr ⟨lw_p31, fun _ h => absurd h List.not_mem_nil⟩⟩⟩⟩⟩⟩⟩⟩⟩⟩⟩⟩⟩⟩⟩⟩
theorem lw_p32 : lw_okq (⟨"GluedHourModel", "full", "(III)V"⟩, 59) := ⟨⟨by decide +kernel, by decide +kernel⟩, List.mem_of_getElem? (i := 953) (by decide +kernel), List.mem_of_getElem? (i := 1195) (by decide +kernel), List.mem_of_getElem? (i := 1196) (by decide +kernel)⟩
theorem lw_p33 : lw_okq (⟨"GluedHourModel", "later", "(II)V"⟩, 59) := ⟨⟨by decide +kernel, by decide +kernel⟩, List.mem_of_getElem? (i := 953) (by decide +kernel), List.mem_of_getElem? (i := 1199) (by decide +kernel), List.mem_of_getElem? (i := 1200) (by decide +kernel)⟩
theorem lw_p34 : lw_okq (⟨"GluedHourModel", "kindLine", "(Z)Z"⟩, 59) := ⟨⟨by decide +kernel, by decide +kernel⟩, List.mem_of_getElem? (i := 953) (by decide +kernel), List.mem_of_getElem? (i := 1203) (by decide +kernel), List.mem_of_getElem? (i := 1204) (by decide +kernel)⟩
theorem lw_p35 : lw_okq (⟨"GluedHourModel", "take", "(III)Z"⟩, 59) := ⟨⟨by decide +kernel, by decide +kernel⟩, List.mem_of_getElem? (i := 953) (by decide +kernel), List.mem_of_getElem? (i := 1207) (by decide +kernel), List.mem_of_getElem? (i := 1208) (by decide +kernel)⟩
theorem lw_p36 : lw_okq (⟨"GluedHourModel", "ofOne", "(Z)Z"⟩, 59) := ⟨⟨by decide +kernel, by decide +kernel⟩, List.mem_of_getElem? (i := 953) (by decide +kernel), List.mem_of_getElem? (i := 1214) (by decide +kernel), List.mem_of_getElem? (i := 1215) (by decide +kernel)⟩
theorem lw_p37 : lw_okq (⟨"GluedHourModel", "weekLine", "(JI)Z"⟩, 59) := ⟨⟨by decide +kernel, by decide +kernel⟩, List.mem_of_getElem? (i := 953) (by decide +kernel), List.mem_of_getElem? (i := 1221) (by decide +kernel), List.mem_of_getElem? (i := 1222) (by decide +kernel)⟩
theorem lw_p38 : lw_okq (⟨"GluedHourModel", "keep", "(III)V"⟩, 59) := ⟨⟨by decide +kernel, by decide +kernel⟩, List.mem_of_getElem? (i := 953) (by decide +kernel), List.mem_of_getElem? (i := 1226) (by decide +kernel), List.mem_of_getElem? (i := 1227) (by decide +kernel)⟩
theorem lw_p39 : lw_okq (⟨"GluedHourModel", "errandLine", "(JI)Z"⟩, 59) := ⟨⟨by decide +kernel, by decide +kernel⟩, List.mem_of_getElem? (i := 953) (by decide +kernel), List.mem_of_getElem? (i := 1230) (by decide +kernel), List.mem_of_getElem? (i := 1231) (by decide +kernel)⟩
theorem lw_p40 : lw_okq (⟨"GluedHourModel", "trainLine", "(JI)Z"⟩, 59) := ⟨⟨by decide +kernel, by decide +kernel⟩, List.mem_of_getElem? (i := 953) (by decide +kernel), List.mem_of_getElem? (i := 1235) (by decide +kernel), List.mem_of_getElem? (i := 1236) (by decide +kernel)⟩
theorem lw_p41 : lw_okq (⟨"GluedHourModel", "sightLine", "(JI)Z"⟩, 59) := ⟨⟨by decide +kernel, by decide +kernel⟩, List.mem_of_getElem? (i := 953) (by decide +kernel), List.mem_of_getElem? (i := 1240) (by decide +kernel), List.mem_of_getElem? (i := 1241) (by decide +kernel)⟩
theorem lw_p42 : lw_okq (⟨"GluedHourModel", "storeAll", "(II)V"⟩, 59) := ⟨⟨by decide +kernel, by decide +kernel⟩, List.mem_of_getElem? (i := 953) (by decide +kernel), List.mem_of_getElem? (i := 1246) (by decide +kernel), List.mem_of_getElem? (i := 1247) (by decide +kernel)⟩
theorem lw_p43 : lw_okq (⟨"GluedHourModel", "store", "([III)V"⟩, 59) := ⟨⟨by decide +kernel, by decide +kernel⟩, List.mem_of_getElem? (i := 953) (by decide +kernel), List.mem_of_getElem? (i := 1250) (by decide +kernel), List.mem_of_getElem? (i := 1251) (by decide +kernel)⟩
theorem lw_p44 : lw_okq (⟨"GluedHourModel", "hand", "(I)Z"⟩, 59) := ⟨⟨by decide +kernel, by decide +kernel⟩, List.mem_of_getElem? (i := 953) (by decide +kernel), List.mem_of_getElem? (i := 1262) (by decide +kernel), List.mem_of_getElem? (i := 1263) (by decide +kernel)⟩
theorem lw_p45 : lw_okq (⟨"GluedHourModel", "of", "(I)I"⟩, 59) := ⟨⟨by decide +kernel, by decide +kernel⟩, List.mem_of_getElem? (i := 953) (by decide +kernel), List.mem_of_getElem? (i := 1266) (by decide +kernel), List.mem_of_getElem? (i := 1267) (by decide +kernel)⟩
theorem lw_p46 : lw_okq (⟨"GluedHourModel", "layValues", "(I)V"⟩, 59) := ⟨⟨by decide +kernel, by decide +kernel⟩, List.mem_of_getElem? (i := 953) (by decide +kernel), List.mem_of_getElem? (i := 1270) (by decide +kernel), List.mem_of_getElem? (i := 1271) (by decide +kernel)⟩
theorem lw_p47 : lw_okq (⟨"GluedHourModel", "valueBy", "(III)I"⟩, 59) := ⟨⟨by decide +kernel, by decide +kernel⟩, List.mem_of_getElem? (i := 953) (by decide +kernel), List.mem_of_getElem? (i := 1274) (by decide +kernel), List.mem_of_getElem? (i := 1275) (by decide +kernel)⟩
def lw_privs_3 : List (MethodName × Nat) := [(⟨"GluedHourModel", "full", "(III)V"⟩, 59), (⟨"GluedHourModel", "later", "(II)V"⟩, 59), (⟨"GluedHourModel", "kindLine", "(Z)Z"⟩, 59), (⟨"GluedHourModel", "take", "(III)Z"⟩, 59), (⟨"GluedHourModel", "ofOne", "(Z)Z"⟩, 59), (⟨"GluedHourModel", "weekLine", "(JI)Z"⟩, 59), (⟨"GluedHourModel", "keep", "(III)V"⟩, 59), (⟨"GluedHourModel", "errandLine", "(JI)Z"⟩, 59), (⟨"GluedHourModel", "trainLine", "(JI)Z"⟩, 59), (⟨"GluedHourModel", "sightLine", "(JI)Z"⟩, 59), (⟨"GluedHourModel", "storeAll", "(II)V"⟩, 59), (⟨"GluedHourModel", "store", "([III)V"⟩, 59), (⟨"GluedHourModel", "hand", "(I)Z"⟩, 59), (⟨"GluedHourModel", "of", "(I)I"⟩, 59), (⟨"GluedHourModel", "layValues", "(I)V"⟩, 59), (⟨"GluedHourModel", "valueBy", "(III)I"⟩, 59)]
theorem lw_r3 : ∀ q ∈ lw_privs_3, lw_okq q := List.forall_mem_cons.mpr ⟨lw_p32, List.forall_mem_cons.mpr ⟨lw_p33, List.forall_mem_cons.mpr ⟨lw_p34, List.forall_mem_cons.mpr ⟨lw_p35, List.forall_mem_cons.mpr ⟨lw_p36, List.forall_mem_cons.mpr ⟨lw_p37, List.forall_mem_cons.mpr ⟨lw_p38, List.forall_mem_cons.mpr ⟨lw_p39, List.forall_mem_cons.mpr ⟨lw_p40, List.forall_mem_cons.mpr ⟨lw_p41, List.forall_mem_cons.mpr ⟨lw_p42, List.forall_mem_cons.mpr ⟨lw_p43, List.forall_mem_cons.mpr ⟨lw_p44, List.forall_mem_cons.mpr ⟨lw_p45, List.forall_mem_cons.mpr ⟨lw_p46, List.forall_mem_cons.mpr ⟨lw_p47, fun _ h => absurd h List.not_mem_nil⟩⟩⟩⟩⟩⟩⟩⟩⟩⟩⟩⟩⟩⟩⟩⟩
theorem lw_p48 : lw_okq (⟨"GluedHourModel", "worthOf", "(III)I"⟩, 59) := ⟨⟨by decide +kernel, by decide +kernel⟩, List.mem_of_getElem? (i := 953) (by decide +kernel), List.mem_of_getElem? (i := 1278) (by decide +kernel), List.mem_of_getElem? (i := 1279) (by decide +kernel)⟩
theorem lw_p49 : lw_okq (⟨"GluedHourModel", "modeOf", "(I)I"⟩, 59) := ⟨⟨by decide +kernel, by decide +kernel⟩, List.mem_of_getElem? (i := 953) (by decide +kernel), List.mem_of_getElem? (i := 1282) (by decide +kernel), List.mem_of_getElem? (i := 1283) (by decide +kernel)⟩
theorem lw_p50 : lw_okq (⟨"GluedHourModel", "layOdds", "()V"⟩, 59) := ⟨⟨by decide +kernel, by decide +kernel⟩, List.mem_of_getElem? (i := 953) (by decide +kernel), List.mem_of_getElem? (i := 1289) (by decide +kernel), List.mem_of_getElem? (i := 1290) (by decide +kernel)⟩
theorem lw_p51 : lw_okq (⟨"GluedHourModel", "handOne", "(II)Z"⟩, 59) := ⟨⟨by decide +kernel, by decide +kernel⟩, List.mem_of_getElem? (i := 953) (by decide +kernel), List.mem_of_getElem? (i := 1297) (by decide +kernel), List.mem_of_getElem? (i := 1298) (by decide +kernel)⟩
theorem lw_p52 : lw_okq (⟨"GluedHourModel", "isOne", "(I)Z"⟩, 59) := ⟨⟨by decide +kernel, by decide +kernel⟩, List.mem_of_getElem? (i := 953) (by decide +kernel), List.mem_of_getElem? (i := 1301) (by decide +kernel), List.mem_of_getElem? (i := 1302) (by decide +kernel)⟩
theorem lw_p53 : lw_okq (⟨"GluedHourModel", "isHour", "(I)Z"⟩, 59) := ⟨⟨by decide +kernel, by decide +kernel⟩, List.mem_of_getElem? (i := 953) (by decide +kernel), List.mem_of_getElem? (i := 1309) (by decide +kernel), List.mem_of_getElem? (i := 1310) (by decide +kernel)⟩
theorem lw_p54 : lw_okq (⟨"GluedHourModel", "allBy", "(I)I"⟩, 59) := ⟨⟨by decide +kernel, by decide +kernel⟩, List.mem_of_getElem? (i := 953) (by decide +kernel), List.mem_of_getElem? (i := 1314) (by decide +kernel), List.mem_of_getElem? (i := 1315) (by decide +kernel)⟩
theorem lw_p55 : lw_okq (⟨"GluedHourModel", "hasWeek", "(I)Z"⟩, 59) := ⟨⟨by decide +kernel, by decide +kernel⟩, List.mem_of_getElem? (i := 953) (by decide +kernel), List.mem_of_getElem? (i := 1332) (by decide +kernel), List.mem_of_getElem? (i := 1333) (by decide +kernel)⟩
theorem lw_p56 : lw_okq (⟨"GluedHourModel", "hourOf", "(I)I"⟩, 59) := ⟨⟨by decide +kernel, by decide +kernel⟩, List.mem_of_getElem? (i := 953) (by decide +kernel), List.mem_of_getElem? (i := 1336) (by decide +kernel), List.mem_of_getElem? (i := 1337) (by decide +kernel)⟩
theorem lw_p57 : lw_okq (⟨"GluedHourModel", "liveDays", "(I)Z"⟩, 59) := ⟨⟨by decide +kernel, by decide +kernel⟩, List.mem_of_getElem? (i := 953) (by decide +kernel), List.mem_of_getElem? (i := 1344) (by decide +kernel), List.mem_of_getElem? (i := 1345) (by decide +kernel)⟩
theorem lw_p58 : lw_okq (⟨"GluedHourModel", "live", "(I)V"⟩, 59) := ⟨⟨by decide +kernel, by decide +kernel⟩, List.mem_of_getElem? (i := 953) (by decide +kernel), List.mem_of_getElem? (i := 1348) (by decide +kernel), List.mem_of_getElem? (i := 1349) (by decide +kernel)⟩
theorem lw_p59 : lw_okq (⟨"GluedHourModel", "drawHour", "()I"⟩, 59) := ⟨⟨by decide +kernel, by decide +kernel⟩, List.mem_of_getElem? (i := 953) (by decide +kernel), List.mem_of_getElem? (i := 1361) (by decide +kernel), List.mem_of_getElem? (i := 1362) (by decide +kernel)⟩
theorem lw_p60 : lw_okq (⟨"GluedHourModel", "draw", "(I)I"⟩, 59) := ⟨⟨by decide +kernel, by decide +kernel⟩, List.mem_of_getElem? (i := 953) (by decide +kernel), List.mem_of_getElem? (i := 1365) (by decide +kernel), List.mem_of_getElem? (i := 1366) (by decide +kernel)⟩
theorem lw_p61 : lw_okq (⟨"GluedHourModel", "meanOf", "(I)J"⟩, 59) := ⟨⟨by decide +kernel, by decide +kernel⟩, List.mem_of_getElem? (i := 953) (by decide +kernel), List.mem_of_getElem? (i := 1374) (by decide +kernel), List.mem_of_getElem? (i := 1375) (by decide +kernel)⟩
theorem lw_p62 : lw_okq (⟨"GluedHourModel", "gainOf", "(II)J"⟩, 59) := ⟨⟨by decide +kernel, by decide +kernel⟩, List.mem_of_getElem? (i := 953) (by decide +kernel), List.mem_of_getElem? (i := 1382) (by decide +kernel), List.mem_of_getElem? (i := 1383) (by decide +kernel)⟩
theorem lw_p63 : lw_okq (⟨"GluedHourModel", "choice", "()I"⟩, 59) := ⟨⟨by decide +kernel, by decide +kernel⟩, List.mem_of_getElem? (i := 953) (by decide +kernel), List.mem_of_getElem? (i := 1390) (by decide +kernel), List.mem_of_getElem? (i := 1391) (by decide +kernel)⟩
def lw_privs_4 : List (MethodName × Nat) := [(⟨"GluedHourModel", "worthOf", "(III)I"⟩, 59), (⟨"GluedHourModel", "modeOf", "(I)I"⟩, 59), (⟨"GluedHourModel", "layOdds", "()V"⟩, 59), (⟨"GluedHourModel", "handOne", "(II)Z"⟩, 59), (⟨"GluedHourModel", "isOne", "(I)Z"⟩, 59), (⟨"GluedHourModel", "isHour", "(I)Z"⟩, 59), (⟨"GluedHourModel", "allBy", "(I)I"⟩, 59), (⟨"GluedHourModel", "hasWeek", "(I)Z"⟩, 59), (⟨"GluedHourModel", "hourOf", "(I)I"⟩, 59), (⟨"GluedHourModel", "liveDays", "(I)Z"⟩, 59), (⟨"GluedHourModel", "live", "(I)V"⟩, 59), (⟨"GluedHourModel", "drawHour", "()I"⟩, 59), (⟨"GluedHourModel", "draw", "(I)I"⟩, 59), (⟨"GluedHourModel", "meanOf", "(I)J"⟩, 59), (⟨"GluedHourModel", "gainOf", "(II)J"⟩, 59), (⟨"GluedHourModel", "choice", "()I"⟩, 59)]
theorem lw_r4 : ∀ q ∈ lw_privs_4, lw_okq q := List.forall_mem_cons.mpr ⟨lw_p48, List.forall_mem_cons.mpr ⟨lw_p49, List.forall_mem_cons.mpr ⟨lw_p50, List.forall_mem_cons.mpr ⟨lw_p51, List.forall_mem_cons.mpr ⟨lw_p52, List.forall_mem_cons.mpr ⟨lw_p53, List.forall_mem_cons.mpr ⟨lw_p54, List.forall_mem_cons.mpr ⟨lw_p55, List.forall_mem_cons.mpr ⟨lw_p56, List.forall_mem_cons.mpr ⟨lw_p57, List.forall_mem_cons.mpr ⟨lw_p58, List.forall_mem_cons.mpr ⟨lw_p59, List.forall_mem_cons.mpr ⟨lw_p60, List.forall_mem_cons.mpr ⟨lw_p61, List.forall_mem_cons.mpr ⟨lw_p62, List.forall_mem_cons.mpr ⟨lw_p63, fun _ h => absurd h List.not_mem_nil⟩⟩⟩⟩⟩⟩⟩⟩⟩⟩⟩⟩⟩⟩⟩⟩
theorem lw_p64 : lw_okq (⟨"GluedHourModel", "wishOf", "(I)I"⟩, 59) := ⟨⟨by decide +kernel, by decide +kernel⟩, List.mem_of_getElem? (i := 953) (by decide +kernel), List.mem_of_getElem? (i := 1394) (by decide +kernel), List.mem_of_getElem? (i := 1395) (by decide +kernel)⟩
theorem lw_p65 : lw_okq (⟨"GluedHourModel", "swapDeed", "(III)V"⟩, 59) := ⟨⟨by decide +kernel, by decide +kernel⟩, List.mem_of_getElem? (i := 953) (by decide +kernel), List.mem_of_getElem? (i := 1414) (by decide +kernel), List.mem_of_getElem? (i := 1415) (by decide +kernel)⟩
theorem lw_p66 : lw_okq (⟨"GluedHourModel", "apart", "(II)I"⟩, 59) := ⟨⟨by decide +kernel, by decide +kernel⟩, List.mem_of_getElem? (i := 953) (by decide +kernel), List.mem_of_getElem? (i := 1422) (by decide +kernel), List.mem_of_getElem? (i := 1423) (by decide +kernel)⟩
theorem lw_p67 : lw_okq (⟨"GluedHourModel", "hasErrands", "(I)Z"⟩, 59) := ⟨⟨by decide +kernel, by decide +kernel⟩, List.mem_of_getElem? (i := 953) (by decide +kernel), List.mem_of_getElem? (i := 1430) (by decide +kernel), List.mem_of_getElem? (i := 1431) (by decide +kernel)⟩
theorem lw_p68 : lw_okq (⟨"GluedHourModel", "errandOf", "(II)I"⟩, 59) := ⟨⟨by decide +kernel, by decide +kernel⟩, List.mem_of_getElem? (i := 953) (by decide +kernel), List.mem_of_getElem? (i := 1434) (by decide +kernel), List.mem_of_getElem? (i := 1435) (by decide +kernel)⟩
theorem lw_p69 : lw_okq (⟨"GluedHourModel", "findBest", "(I)J"⟩, 59) := ⟨⟨by decide +kernel, by decide +kernel⟩, List.mem_of_getElem? (i := 953) (by decide +kernel), List.mem_of_getElem? (i := 1442) (by decide +kernel), List.mem_of_getElem? (i := 1443) (by decide +kernel)⟩
theorem lw_p70 : lw_okq (⟨"GluedHourModel", "bestFrom", "(III)J"⟩, 59) := ⟨⟨by decide +kernel, by decide +kernel⟩, List.mem_of_getElem? (i := 953) (by decide +kernel), List.mem_of_getElem? (i := 1446) (by decide +kernel), List.mem_of_getElem? (i := 1447) (by decide +kernel)⟩
theorem lw_p71 : lw_okq (⟨"GluedHourModel", "fromOf", "(I)I"⟩, 59) := ⟨⟨by decide +kernel, by decide +kernel⟩, List.mem_of_getElem? (i := 953) (by decide +kernel), List.mem_of_getElem? (i := 1451) (by decide +kernel), List.mem_of_getElem? (i := 1452) (by decide +kernel)⟩
theorem lw_p72 : lw_okq (⟨"GluedHourModel", "toOf", "(I)I"⟩, 59) := ⟨⟨by decide +kernel, by decide +kernel⟩, List.mem_of_getElem? (i := 953) (by decide +kernel), List.mem_of_getElem? (i := 1455) (by decide +kernel), List.mem_of_getElem? (i := 1456) (by decide +kernel)⟩
theorem lw_p73 : lw_okq (⟨"GluedHourModel", "worthAt", "(III)J"⟩, 59) := ⟨⟨by decide +kernel, by decide +kernel⟩, List.mem_of_getElem? (i := 953) (by decide +kernel), List.mem_of_getElem? (i := 1462) (by decide +kernel), List.mem_of_getElem? (i := 1463) (by decide +kernel)⟩
theorem lw_p74 : lw_okq (⟨"GluedHourModel", "choose", "(I)V"⟩, 59) := ⟨⟨by decide +kernel, by decide +kernel⟩, List.mem_of_getElem? (i := 953) (by decide +kernel), List.mem_of_getElem? (i := 1466) (by decide +kernel), List.mem_of_getElem? (i := 1467) (by decide +kernel)⟩
theorem lw_p75 : lw_okq (⟨"GluedHourModel", "rued", "()I"⟩, 59) := ⟨⟨by decide +kernel, by decide +kernel⟩, List.mem_of_getElem? (i := 953) (by decide +kernel), List.mem_of_getElem? (i := 1470) (by decide +kernel), List.mem_of_getElem? (i := 1471) (by decide +kernel)⟩
theorem lw_p76 : lw_okq (⟨"GluedHourModel", "chosenBy", "(I)J"⟩, 59) := ⟨⟨by decide +kernel, by decide +kernel⟩, List.mem_of_getElem? (i := 953) (by decide +kernel), List.mem_of_getElem? (i := 1474) (by decide +kernel), List.mem_of_getElem? (i := 1475) (by decide +kernel)⟩
theorem lw_p77 : lw_okq (⟨"GluedHourModel", "hasTable", "(I)Z"⟩, 59) := ⟨⟨by decide +kernel, by decide +kernel⟩, List.mem_of_getElem? (i := 953) (by decide +kernel), List.mem_of_getElem? (i := 1482) (by decide +kernel), List.mem_of_getElem? (i := 1483) (by decide +kernel)⟩
theorem lw_p78 : lw_okq (⟨"GluedHourModel", "trains", "()I"⟩, 59) := ⟨⟨by decide +kernel, by decide +kernel⟩, List.mem_of_getElem? (i := 953) (by decide +kernel), List.mem_of_getElem? (i := 1486) (by decide +kernel), List.mem_of_getElem? (i := 1487) (by decide +kernel)⟩
theorem lw_p79 : lw_okq (⟨"GluedHourModel", "trainOf", "(II)I"⟩, 59) := ⟨⟨by decide +kernel, by decide +kernel⟩, List.mem_of_getElem? (i := 953) (by decide +kernel), List.mem_of_getElem? (i := 1490) (by decide +kernel), List.mem_of_getElem? (i := 1491) (by decide +kernel)⟩
def lw_privs_5 : List (MethodName × Nat) := [(⟨"GluedHourModel", "wishOf", "(I)I"⟩, 59), (⟨"GluedHourModel", "swapDeed", "(III)V"⟩, 59), (⟨"GluedHourModel", "apart", "(II)I"⟩, 59), (⟨"GluedHourModel", "hasErrands", "(I)Z"⟩, 59), (⟨"GluedHourModel", "errandOf", "(II)I"⟩, 59), (⟨"GluedHourModel", "findBest", "(I)J"⟩, 59), (⟨"GluedHourModel", "bestFrom", "(III)J"⟩, 59), (⟨"GluedHourModel", "fromOf", "(I)I"⟩, 59), (⟨"GluedHourModel", "toOf", "(I)I"⟩, 59), (⟨"GluedHourModel", "worthAt", "(III)J"⟩, 59), (⟨"GluedHourModel", "choose", "(I)V"⟩, 59), (⟨"GluedHourModel", "rued", "()I"⟩, 59), (⟨"GluedHourModel", "chosenBy", "(I)J"⟩, 59), (⟨"GluedHourModel", "hasTable", "(I)Z"⟩, 59), (⟨"GluedHourModel", "trains", "()I"⟩, 59), (⟨"GluedHourModel", "trainOf", "(II)I"⟩, 59)]
theorem lw_r5 : ∀ q ∈ lw_privs_5, lw_okq q := List.forall_mem_cons.mpr ⟨lw_p64, List.forall_mem_cons.mpr ⟨lw_p65, List.forall_mem_cons.mpr ⟨lw_p66, List.forall_mem_cons.mpr ⟨lw_p67, List.forall_mem_cons.mpr ⟨lw_p68, List.forall_mem_cons.mpr ⟨lw_p69, List.forall_mem_cons.mpr ⟨lw_p70, List.forall_mem_cons.mpr ⟨lw_p71, List.forall_mem_cons.mpr ⟨lw_p72, List.forall_mem_cons.mpr ⟨lw_p73, List.forall_mem_cons.mpr ⟨lw_p74, List.forall_mem_cons.mpr ⟨lw_p75, List.forall_mem_cons.mpr ⟨lw_p76, List.forall_mem_cons.mpr ⟨lw_p77, List.forall_mem_cons.mpr ⟨lw_p78, List.forall_mem_cons.mpr ⟨lw_p79, fun _ h => absurd h List.not_mem_nil⟩⟩⟩⟩⟩⟩⟩⟩⟩⟩⟩⟩⟩⟩⟩⟩
theorem lw_p80 : lw_okq (⟨"GluedHourModel", "slackBy", "(I)I"⟩, 59) := ⟨⟨by decide +kernel, by decide +kernel⟩, List.mem_of_getElem? (i := 953) (by decide +kernel), List.mem_of_getElem? (i := 1498) (by decide +kernel), List.mem_of_getElem? (i := 1499) (by decide +kernel)⟩
theorem lw_p81 : lw_okq (⟨"GluedHourModel", "findEarliest", "()V"⟩, 59) := ⟨⟨by decide +kernel, by decide +kernel⟩, List.mem_of_getElem? (i := 953) (by decide +kernel), List.mem_of_getElem? (i := 1512) (by decide +kernel), List.mem_of_getElem? (i := 1513) (by decide +kernel)⟩
theorem lw_p82 : lw_okq (⟨"GluedHourModel", "canLeave", "(III)Z"⟩, 59) := ⟨⟨by decide +kernel, by decide +kernel⟩, List.mem_of_getElem? (i := 953) (by decide +kernel), List.mem_of_getElem? (i := 1516) (by decide +kernel), List.mem_of_getElem? (i := 1517) (by decide +kernel)⟩
theorem lw_p83 : lw_okq (⟨"GluedHourModel", "hasSights", "(I)Z"⟩, 59) := ⟨⟨by decide +kernel, by decide +kernel⟩, List.mem_of_getElem? (i := 953) (by decide +kernel), List.mem_of_getElem? (i := 1524) (by decide +kernel), List.mem_of_getElem? (i := 1525) (by decide +kernel)⟩
theorem lw_p84 : lw_okq (⟨"GluedHourModel", "sightOf", "(II)I"⟩, 59) := ⟨⟨by decide +kernel, by decide +kernel⟩, List.mem_of_getElem? (i := 953) (by decide +kernel), List.mem_of_getElem? (i := 1528) (by decide +kernel), List.mem_of_getElem? (i := 1529) (by decide +kernel)⟩
theorem lw_p85 : lw_okq (⟨"GluedHourModel", "findFits", "()V"⟩, 59) := ⟨⟨by decide +kernel, by decide +kernel⟩, List.mem_of_getElem? (i := 953) (by decide +kernel), List.mem_of_getElem? (i := 1536) (by decide +kernel), List.mem_of_getElem? (i := 1537) (by decide +kernel)⟩
theorem lw_p86 : lw_okq (⟨"GluedHourModel", "isRow", "(I)Z"⟩, 59) := ⟨⟨by decide +kernel, by decide +kernel⟩, List.mem_of_getElem? (i := 953) (by decide +kernel), List.mem_of_getElem? (i := 1540) (by decide +kernel), List.mem_of_getElem? (i := 1541) (by decide +kernel)⟩
theorem lw_p87 : lw_okq (⟨"GluedHourModel", "isAsSeen", "(I)Z"⟩, 59) := ⟨⟨by decide +kernel, by decide +kernel⟩, List.mem_of_getElem? (i := 953) (by decide +kernel), List.mem_of_getElem? (i := 1544) (by decide +kernel), List.mem_of_getElem? (i := 1545) (by decide +kernel)⟩
theorem lw_p88 : lw_okq (⟨"GluedHourModel", "onlyOne", "(I)I"⟩, 59) := ⟨⟨by decide +kernel, by decide +kernel⟩, List.mem_of_getElem? (i := 953) (by decide +kernel), List.mem_of_getElem? (i := 1548) (by decide +kernel), List.mem_of_getElem? (i := 1549) (by decide +kernel)⟩
theorem lw_p89 : lw_okq (⟨"GluedHourModel", "reignDays", "(I)I"⟩, 59) := ⟨⟨by decide +kernel, by decide +kernel⟩, List.mem_of_getElem? (i := 953) (by decide +kernel), List.mem_of_getElem? (i := 1556) (by decide +kernel), List.mem_of_getElem? (i := 1557) (by decide +kernel)⟩
theorem lw_p90 : lw_okq (⟨"GluedHourModel", "expect", "(IIZ)V"⟩, 59) := ⟨⟨by decide +kernel, by decide +kernel⟩, List.mem_of_getElem? (i := 953) (by decide +kernel), List.mem_of_getElem? (i := 1565) (by decide +kernel), List.mem_of_getElem? (i := 1566) (by decide +kernel)⟩
theorem lw_p91 : lw_okq (⟨"GluedHourModel", "begin", "()V"⟩, 59) := ⟨⟨by decide +kernel, by decide +kernel⟩, List.mem_of_getElem? (i := 953) (by decide +kernel), List.mem_of_getElem? (i := 1569) (by decide +kernel), List.mem_of_getElem? (i := 1570) (by decide +kernel)⟩
theorem lw_p92 : lw_okq (⟨"GluedHourModel", "plus", "(JJ)V"⟩, 59) := ⟨⟨by decide +kernel, by decide +kernel⟩, List.mem_of_getElem? (i := 953) (by decide +kernel), List.mem_of_getElem? (i := 1573) (by decide +kernel), List.mem_of_getElem? (i := 1574) (by decide +kernel)⟩
theorem lw_p93 : lw_okq (⟨"GluedHourModel", "allMeans", "()J"⟩, 59) := ⟨⟨by decide +kernel, by decide +kernel⟩, List.mem_of_getElem? (i := 953) (by decide +kernel), List.mem_of_getElem? (i := 1585) (by decide +kernel), List.mem_of_getElem? (i := 1586) (by decide +kernel)⟩
theorem lw_p94 : lw_okq (⟨"GluedHourModel", "copyAll", "(II)V"⟩, 59) := ⟨⟨by decide +kernel, by decide +kernel⟩, List.mem_of_getElem? (i := 953) (by decide +kernel), List.mem_of_getElem? (i := 1609) (by decide +kernel), List.mem_of_getElem? (i := 1610) (by decide +kernel)⟩
def lw_privs_6 : List (MethodName × Nat) := [(⟨"GluedHourModel", "slackBy", "(I)I"⟩, 59), (⟨"GluedHourModel", "findEarliest", "()V"⟩, 59), (⟨"GluedHourModel", "canLeave", "(III)Z"⟩, 59), (⟨"GluedHourModel", "hasSights", "(I)Z"⟩, 59), (⟨"GluedHourModel", "sightOf", "(II)I"⟩, 59), (⟨"GluedHourModel", "findFits", "()V"⟩, 59), (⟨"GluedHourModel", "isRow", "(I)Z"⟩, 59), (⟨"GluedHourModel", "isAsSeen", "(I)Z"⟩, 59), (⟨"GluedHourModel", "onlyOne", "(I)I"⟩, 59), (⟨"GluedHourModel", "reignDays", "(I)I"⟩, 59), (⟨"GluedHourModel", "expect", "(IIZ)V"⟩, 59), (⟨"GluedHourModel", "begin", "()V"⟩, 59), (⟨"GluedHourModel", "plus", "(JJ)V"⟩, 59), (⟨"GluedHourModel", "allMeans", "()J"⟩, 59), (⟨"GluedHourModel", "copyAll", "(II)V"⟩, 59)]
theorem lw_r6 : ∀ q ∈ lw_privs_6, lw_okq q := List.forall_mem_cons.mpr ⟨lw_p80, List.forall_mem_cons.mpr ⟨lw_p81, List.forall_mem_cons.mpr ⟨lw_p82, List.forall_mem_cons.mpr ⟨lw_p83, List.forall_mem_cons.mpr ⟨lw_p84, List.forall_mem_cons.mpr ⟨lw_p85, List.forall_mem_cons.mpr ⟨lw_p86, List.forall_mem_cons.mpr ⟨lw_p87, List.forall_mem_cons.mpr ⟨lw_p88, List.forall_mem_cons.mpr ⟨lw_p89, List.forall_mem_cons.mpr ⟨lw_p90, List.forall_mem_cons.mpr ⟨lw_p91, List.forall_mem_cons.mpr ⟨lw_p92, List.forall_mem_cons.mpr ⟨lw_p93, List.forall_mem_cons.mpr ⟨lw_p94, fun _ h => absurd h List.not_mem_nil⟩⟩⟩⟩⟩⟩⟩⟩⟩⟩⟩⟩⟩⟩⟩
def lw_privs : List (MethodName × Nat) := lw_privs_1 ++ (lw_privs_2 ++ (lw_privs_3 ++ (lw_privs_4 ++ (lw_privs_5 ++ (lw_privs_6)))))
def lw_tbl : List Cond := k2_sels lw_privs ++ tables_1
theorem lw_privs_ok : ∀ q ∈ lw_privs, lw_okq q := by
  show ∀ q ∈ lw_privs_1 ++ (lw_privs_2 ++ (lw_privs_3 ++ (lw_privs_4 ++ (lw_privs_5 ++ (lw_privs_6))))), lw_okq q
  exact List.forall_mem_append.mpr ⟨lw_r1, List.forall_mem_append.mpr ⟨lw_r2, List.forall_mem_append.mpr ⟨lw_r3, List.forall_mem_append.mpr ⟨lw_r4, List.forall_mem_append.mpr ⟨lw_r5, lw_r6⟩⟩⟩⟩⟩
-- ===== end of PART A; then your names; then what follows =====
end
section
section
def RX0 : String := "GluedHour$Course"
def TX0 : u_T := fun k => match k with
  | 0 => ("GluedHour$Course", "have", "[I", true)
  | 1 => ("GluedHour$Course", "values", "[I", true)
  | 2 => ("GluedHour$Course", "people", "I", false)
  | _ => ("GluedHour$Course", "hours", "I", false)
def tyX0 : Nat → FieldType := fun k => match k with
  | 0 => .array .int
  | 1 => .array .int
  | 2 => .int
  | _ => .int
abbrev wsX00 : List Cond := u_ws RX0 TX0 4
theorem nmX0 : ∀ a, a < 4 → ∀ b, b < 4 → a ≠ b → (TX0 a).2.1 ≠ (TX0 b).2.1 := by decide +kernel
theorem tyX0_ok : ∀ k, k < 4 → parseFieldDescriptor (TX0 k).2.2.1 = some (tyX0 k) := by decide +kernel
abbrev cX0_init : ByteArray := prog_2_method_1_code
def yX0_init : MethodName := ⟨RX0, "<init>", "()V"⟩
abbrev cX0_begin : ByteArray := prog_2_method_2_code
def yX0_begin : MethodName := ⟨RX0, "begin", "(LGluedHour$Republic;)V"⟩
abbrev cX0_poorest : ByteArray := prog_2_method_3_code
def yX0_poorest : MethodName := ⟨RX0, "poorest", "()I"⟩
abbrev cX0_live : ByteArray := prog_2_method_4_code
def yX0_live : MethodName := ⟨RX0, "live", "(I)V"⟩
abbrev cX0_unlive : ByteArray := prog_2_method_5_code
def yX0_unlive : MethodName := ⟨RX0, "unlive", "(I)V"⟩
abbrev cX0_brings : ByteArray := prog_2_method_6_code
def yX0_brings : MethodName := ⟨RX0, "brings", "(II)I"⟩
abbrev cX0_bestHour : ByteArray := prog_2_method_7_code
def yX0_bestHour : MethodName := ⟨RX0, "bestHour", "(I)I"⟩
abbrev cX0_weighed : ByteArray := prog_2_method_8_code
def yX0_weighed : MethodName := ⟨RX0, "weighed", "(ILGluedHour$Odds;)J"⟩
abbrev cX0_apart : ByteArray := prog_2_method_9_code
def yX0_apart : MethodName := ⟨RX0, "apart", "(II)I"⟩
abbrev cX0_measure : ByteArray := prog_2_method_10_code
def yX0_measure : MethodName := ⟨RX0, "measure", "(IZ)I"⟩
def RX1 : String := "GluedHour$Fraction"
def TX1 : u_T := fun k => match k with
  | 0 => ("GluedHour$Fraction", "above", "J", false)
  | _ => ("GluedHour$Fraction", "below", "J", false)
def tyX1 : Nat → FieldType := fun k => match k with
  | 0 => .long
  | _ => .long
abbrev wsX10 : List Cond := u_ws RX1 TX1 2
theorem nmX1 : ∀ a, a < 2 → ∀ b, b < 2 → a ≠ b → (TX1 a).2.1 ≠ (TX1 b).2.1 := by decide +kernel
theorem tyX1_ok : ∀ k, k < 2 → parseFieldDescriptor (TX1 k).2.2.1 = some (tyX1 k) := by decide +kernel
abbrev cX1_init : ByteArray := prog_3_method_1_code
def yX1_init : MethodName := ⟨RX1, "<init>", "()V"⟩
abbrev cX1_put : ByteArray := prog_3_method_2_code
def yX1_put : MethodName := ⟨RX1, "put", "(JJ)V"⟩
abbrev cX1_add : ByteArray := prog_3_method_3_code
def yX1_add : MethodName := ⟨RX1, "add", "(JJ)V"⟩
abbrev cX1_sideOf : ByteArray := prog_3_method_4_code
def yX1_sideOf : MethodName := ⟨RX1, "sideOf", "(Z)J"⟩
abbrev cX1_side : ByteArray := prog_3_method_5_code
def yX1_side : MethodName := ⟨RX1, "side", "(JJZ)J"⟩
abbrev cX1_divisor : ByteArray := prog_3_method_6_code
def yX1_divisor : MethodName := ⟨RX1, "divisor", "(JJ)J"⟩
def RX2 : String := "GluedHour$Lines"
def TX2 : u_T := fun k => match k with
  | 0 => ("GluedHour$Lines", "most", "I", true)
  | 1 => ("GluedHour$Lines", "width", "I", true)
  | 2 => ("GluedHour$Lines", "cells", "[I", true)
  | _ => ("GluedHour$Lines", "size", "I", false)
def tyX2 : Nat → FieldType := fun k => match k with
  | 0 => .int
  | 1 => .int
  | 2 => .array .int
  | _ => .int
abbrev wsX20 : List Cond := u_ws RX2 TX2 4
theorem nmX2 : ∀ a, a < 4 → ∀ b, b < 4 → a ≠ b → (TX2 a).2.1 ≠ (TX2 b).2.1 := by decide +kernel
theorem tyX2_ok : ∀ k, k < 4 → parseFieldDescriptor (TX2 k).2.2.1 = some (tyX2 k) := by decide +kernel
abbrev cX2_init : ByteArray := prog_4_method_1_code
def yX2_init : MethodName := ⟨RX2, "<init>", "(I)V"⟩
abbrev cX2_has : ByteArray := prog_4_method_2_code
def yX2_has : MethodName := ⟨RX2, "has", "(I)Z"⟩
abbrev cX2_cell : ByteArray := prog_4_method_3_code
def yX2_cell : MethodName := ⟨RX2, "cell", "(II)I"⟩
abbrev cX2_isFull : ByteArray := prog_4_method_4_code
def yX2_isFull : MethodName := ⟨RX2, "isFull", "()Z"⟩
abbrev cX2_add : ByteArray := prog_4_method_5_code
def yX2_add : MethodName := ⟨RX2, "add", "([I)V"⟩
abbrev cX2_copy : ByteArray := prog_4_method_6_code
def yX2_copy : MethodName := ⟨RX2, "copy", "(LGluedHour$Lines;)V"⟩
def RX3 : String := "GluedHour$Odds"
def TX3 : u_T := fun k => match k with
  | 0 => ("GluedHour$Odds", "weights", "[I", true)
  | 1 => ("GluedHour$Odds", "hours", "I", false)
  | _ => ("GluedHour$Odds", "total", "I", false)
def tyX3 : Nat → FieldType := fun k => match k with
  | 0 => .array .int
  | 1 => .int
  | _ => .int
abbrev wsX30 : List Cond := u_ws RX3 TX3 3
theorem nmX3 : ∀ a, a < 3 → ∀ b, b < 3 → a ≠ b → (TX3 a).2.1 ≠ (TX3 b).2.1 := by decide +kernel
theorem tyX3_ok : ∀ k, k < 3 → parseFieldDescriptor (TX3 k).2.2.1 = some (tyX3 k) := by decide +kernel
abbrev cX3_init : ByteArray := prog_5_method_1_code
def yX3_init : MethodName := ⟨RX3, "<init>", "()V"⟩
abbrev cX3_weigh : ByteArray := prog_5_method_2_code
def yX3_weigh : MethodName := ⟨RX3, "weigh", "(LGluedHour$Republic;I)V"⟩
abbrev cX3_know : ByteArray := prog_5_method_3_code
def yX3_know : MethodName := ⟨RX3, "know", "(II)V"⟩
abbrev cX3_hourOf : ByteArray := prog_5_method_4_code
def yX3_hourOf : MethodName := ⟨RX3, "hourOf", "(I)I"⟩
def RX4 : String := "GluedHour$Planner"
def TX4 : u_T := fun k => match k with
  | 0 => ("GluedHour$Planner", "blind", "[I", true)
  | 1 => ("GluedHour$Planner", "blindWorth", "J", false)
  | 2 => ("GluedHour$Planner", "knowingWorth", "J", false)
  | 3 => ("GluedHour$Planner", "regret", "I", false)
  | 4 => ("GluedHour$Planner", "worth", "J", false)
  | 5 => ("GluedHour$Planner", "chosen", "[I", true)
  | 6 => ("GluedHour$Planner", "best", "[J", true)
  | 7 => ("GluedHour$Planner", "scores", "[J", true)
  | _ => ("GluedHour$Planner", "known", "LGluedHour$Odds;", true)
def tyX4 : Nat → FieldType := fun k => match k with
  | 0 => .array .int
  | 1 => .long
  | 2 => .long
  | 3 => .int
  | 4 => .long
  | 5 => .array .int
  | 6 => .array .long
  | 7 => .array .long
  | _ => .object "GluedHour$Odds"
abbrev wsX40 : List Cond := u_ws RX4 TX4 9
theorem nmX4 : ∀ a, a < 9 → ∀ b, b < 9 → a ≠ b → (TX4 a).2.1 ≠ (TX4 b).2.1 := by decide +kernel
theorem tyX4_ok : ∀ k, k < 9 → parseFieldDescriptor (TX4 k).2.2.1 = some (tyX4 k) := by decide +kernel
abbrev cX4_init : ByteArray := prog_6_method_1_code
def yX4_init : MethodName := ⟨RX4, "<init>", "()V"⟩
abbrev cX4_planBlind : ByteArray := prog_6_method_2_code
def yX4_planBlind : MethodName := ⟨RX4, "planBlind", "(LGluedHour$Republic;LGluedHour$Odds;LGluedHour$Lines;)Z"⟩
abbrev cX4_planKnowing : ByteArray := prog_6_method_3_code
def yX4_planKnowing : MethodName := ⟨RX4, "planKnowing", "(LGluedHour$Republic;LGluedHour$Odds;LGluedHour$Lines;)V"⟩
abbrev cX4_blindBy : ByteArray := prog_6_method_4_code
def yX4_blindBy : MethodName := ⟨RX4, "blindBy", "(LGluedHour$Republic;LGluedHour$Lines;I)J"⟩
abbrev cX4_choose : ByteArray := prog_6_method_5_code
def yX4_choose : MethodName := ⟨RX4, "choose", "(LGluedHour$Republic;LGluedHour$Odds;LGluedHour$Lines;Z)Z"⟩
abbrev cX4_scoreOf : ByteArray := prog_6_method_6_code
def yX4_scoreOf : MethodName := ⟨RX4, "scoreOf", "(LGluedHour$Republic;LGluedHour$Odds;III)J"⟩
abbrev cX4_rowShift : ByteArray := prog_6_method_7_code
def yX4_rowShift : MethodName := ⟨RX4, "rowShift", "(I)I"⟩
abbrev cX4_bestOf : ByteArray := prog_6_method_8_code
def yX4_bestOf : MethodName := ⟨RX4, "bestOf", "(II)J"⟩
abbrev cX4_keep : ByteArray := prog_6_method_9_code
def yX4_keep : MethodName := ⟨RX4, "keep", "(J)V"⟩
def RX5 : String := "GluedHour$Reader"
def TX5 : u_T := fun k => match k with
  | 0 => ("GluedHour$Reader", "tape", "[B", true)
  | 1 => ("GluedHour$Reader", "republic", "LGluedHour$Republic;", true)
  | 2 => ("GluedHour$Reader", "drafts", "[LGluedHour$Lines;", true)
  | 3 => ("GluedHour$Reader", "numbers", "[I", true)
  | 4 => ("GluedHour$Reader", "fault", "I", false)
  | 5 => ("GluedHour$Reader", "place", "I", false)
  | 6 => ("GluedHour$Reader", "token", "I", false)
  | 7 => ("GluedHour$Reader", "start", "I", false)
  | 8 => ("GluedHour$Reader", "at", "I", false)
  | 9 => ("GluedHour$Reader", "number", "I", false)
  | 10 => ("GluedHour$Reader", "mode", "I", false)
  | 11 => ("GluedHour$Reader", "length", "I", false)
  | 12 => ("GluedHour$Reader", "lastHourTold", "I", false)
  | _ => ("GluedHour$Reader", "lastPersonTold", "I", false)
def tyX5 : Nat → FieldType := fun k => match k with
  | 0 => .array .byte
  | 1 => .object "GluedHour$Republic"
  | 2 => .array (.object "GluedHour$Lines")
  | 3 => .array .int
  | 4 => .int
  | 5 => .int
  | 6 => .int
  | 7 => .int
  | 8 => .int
  | 9 => .int
  | 10 => .int
  | 11 => .int
  | 12 => .int
  | _ => .int
abbrev wsX50 : List Cond := u_ws RX5 TX5 14
theorem nmX5 : ∀ a, a < 14 → ∀ b, b < 14 → a ≠ b → (TX5 a).2.1 ≠ (TX5 b).2.1 := by decide +kernel
theorem tyX5_ok : ∀ k, k < 14 → parseFieldDescriptor (TX5 k).2.2.1 = some (tyX5 k) := by decide +kernel
abbrev cX5_init : ByteArray := prog_7_method_1_code
def yX5_init : MethodName := ⟨RX5, "<init>", "([B)V"⟩
abbrev cX5_read : ByteArray := prog_7_method_2_code
def yX5_read : MethodName := ⟨RX5, "read", "(II)V"⟩
abbrev cX5_begin : ByteArray := prog_7_method_3_code
def yX5_begin : MethodName := ⟨RX5, "begin", "(II)V"⟩
abbrev cX5_draftOf : ByteArray := prog_7_method_4_code
def yX5_draftOf : MethodName := ⟨RX5, "draftOf", "(I)LGluedHour$Lines;"⟩
abbrev cX5_note : ByteArray := prog_7_method_5_code
def yX5_note : MethodName := ⟨RX5, "note", "(II)V"⟩
abbrev cX5_readLine : ByteArray := prog_7_method_6_code
def yX5_readLine : MethodName := ⟨RX5, "readLine", "(I)Z"⟩
abbrev cX5_readMode : ByteArray := prog_7_method_7_code
def yX5_readMode : MethodName := ⟨RX5, "readMode", "()Z"⟩
abbrev cX5_isOneTooMany : ByteArray := prog_7_method_8_code
def yX5_isOneTooMany : MethodName := ⟨RX5, "isOneTooMany", "(I)Z"⟩
abbrev cX5_checkNumber : ByteArray := prog_7_method_9_code
def yX5_checkNumber : MethodName := ⟨RX5, "checkNumber", "(II)V"⟩
abbrev cX5_tell : ByteArray := prog_7_method_10_code
def yX5_tell : MethodName := ⟨RX5, "tell", "(I)V"⟩
abbrev cX5_tellLine : ByteArray := prog_7_method_11_code
def yX5_tellLine : MethodName := ⟨RX5, "tellLine", "(I)V"⟩
abbrev cX5_verbOf : ByteArray := prog_7_method_12_code
def yX5_verbOf : MethodName := ⟨RX5, "verbOf", "(I)I"⟩
abbrev cX5_wordOf : ByteArray := prog_7_method_13_code
def yX5_wordOf : MethodName := ⟨RX5, "wordOf", "(I)Ljava/lang/String;"⟩
abbrev cX5_isWord : ByteArray := prog_7_method_14_code
def yX5_isWord : MethodName := ⟨RX5, "isWord", "(Ljava/lang/String;)Z"⟩
abbrev cX5_step : ByteArray := prog_7_method_15_code
def yX5_step : MethodName := ⟨RX5, "step", "()V"⟩
abbrev cX5_stepNumber : ByteArray := prog_7_method_16_code
def yX5_stepNumber : MethodName := ⟨RX5, "stepNumber", "()V"⟩
abbrev cX5_isLetter : ByteArray := prog_7_method_17_code
def yX5_isLetter : MethodName := ⟨RX5, "isLetter", "(I)Z"⟩
abbrev cX5_isDigit : ByteArray := prog_7_method_18_code
def yX5_isDigit : MethodName := ⟨RX5, "isDigit", "(I)Z"⟩
def RX6 : String := "GluedHour$Republic"
def TX6 : u_T := fun k => match k with
  | 0 => ("GluedHour$Republic", "worths", "[I", true)
  | 1 => ("GluedHour$Republic", "modes", "[I", true)
  | 2 => ("GluedHour$Republic", "purses", "[I", true)
  | 3 => ("GluedHour$Republic", "deeds", "[I", true)
  | 4 => ("GluedHour$Republic", "lots", "[I", true)
  | 5 => ("GluedHour$Republic", "hours", "I", false)
  | _ => ("GluedHour$Republic", "people", "I", false)
def tyX6 : Nat → FieldType := fun k => match k with
  | 0 => .array .int
  | 1 => .array .int
  | 2 => .array .int
  | 3 => .array .int
  | 4 => .array .int
  | 5 => .int
  | _ => .int
abbrev wsX60 : List Cond := u_ws RX6 TX6 7
theorem nmX6 : ∀ a, a < 7 → ∀ b, b < 7 → a ≠ b → (TX6 a).2.1 ≠ (TX6 b).2.1 := by decide +kernel
theorem tyX6_ok : ∀ k, k < 7 → parseFieldDescriptor (TX6 k).2.2.1 = some (tyX6 k) := by decide +kernel
abbrev cX6_init : ByteArray := prog_8_method_1_code
def yX6_init : MethodName := ⟨RX6, "<init>", "()V"⟩
abbrev cX6_clear : ByteArray := prog_8_method_2_code
def yX6_clear : MethodName := ⟨RX6, "clear", "()V"⟩
abbrev cX6_copy : ByteArray := prog_8_method_3_code
def yX6_copy : MethodName := ⟨RX6, "copy", "(LGluedHour$Republic;)V"⟩
abbrev cX6_hasHour : ByteArray := prog_8_method_4_code
def yX6_hasHour : MethodName := ⟨RX6, "hasHour", "(I)Z"⟩
abbrev cX6_hasPerson : ByteArray := prog_8_method_5_code
def yX6_hasPerson : MethodName := ⟨RX6, "hasPerson", "(I)Z"⟩
abbrev cX6_hasPersonOrAll : ByteArray := prog_8_method_6_code
def yX6_hasPersonOrAll : MethodName := ⟨RX6, "hasPersonOrAll", "(I)Z"⟩
abbrev cX6_deedAt : ByteArray := prog_8_method_7_code
def yX6_deedAt : MethodName := ⟨RX6, "deedAt", "(II)I"⟩
abbrev cX6_lotAt : ByteArray := prog_8_method_8_code
def yX6_lotAt : MethodName := ⟨RX6, "lotAt", "(II)I"⟩
abbrev cX6_worthOf : ByteArray := prog_8_method_9_code
def yX6_worthOf : MethodName := ⟨RX6, "worthOf", "(I)I"⟩
abbrev cX6_modeOf : ByteArray := prog_8_method_10_code
def yX6_modeOf : MethodName := ⟨RX6, "modeOf", "(I)I"⟩
abbrev cX6_extraOf : ByteArray := prog_8_method_11_code
def yX6_extraOf : MethodName := ⟨RX6, "extraOf", "(I)I"⟩
abbrev cX6_extraBy : ByteArray := prog_8_method_12_code
def yX6_extraBy : MethodName := ⟨RX6, "extraBy", "(II)I"⟩
abbrev cX6_worthOfDeeds : ByteArray := prog_8_method_13_code
def yX6_worthOfDeeds : MethodName := ⟨RX6, "worthOfDeeds", "(I)I"⟩
def RX7 : String := "GluedHour$Search"
def TX7 : u_T := fun k => match k with
  | 0 => ("GluedHour$Search", "maybe", "[I", true)
  | 1 => ("GluedHour$Search", "days", "I", false)
  | 2 => ("GluedHour$Search", "rows", "I", false)
  | 3 => ("GluedHour$Search", "row", "[I", true)
  | _ => ("GluedHour$Search", "odds", "[LGluedHour$Odds;", true)
def tyX7 : Nat → FieldType := fun k => match k with
  | 0 => .array .int
  | 1 => .int
  | 2 => .int
  | 3 => .array .int
  | _ => .array (.object "GluedHour$Odds")
abbrev wsX70 : List Cond := u_ws RX7 TX7 5
theorem nmX7 : ∀ a, a < 5 → ∀ b, b < 5 → a ≠ b → (TX7 a).2.1 ≠ (TX7 b).2.1 := by decide +kernel
theorem tyX7_ok : ∀ k, k < 5 → parseFieldDescriptor (TX7 k).2.2.1 = some (tyX7 k) := by decide +kernel
abbrev cX7_init : ByteArray := prog_9_method_1_code
def yX7_init : MethodName := ⟨RX7, "<init>", "()V"⟩
abbrev cX7_run : ByteArray := prog_9_method_2_code
def yX7_run : MethodName := ⟨RX7, "run", "(LGluedHour$Republic;LGluedHour$Course;LGluedHour$Lines;)V"⟩
abbrev cX7_follow : ByteArray := prog_9_method_3_code
def yX7_follow : MethodName := ⟨RX7, "follow", "(LGluedHour$Republic;LGluedHour$Course;LGluedHour$Lines;I)V"⟩
abbrev cX7_isAsSeen : ByteArray := prog_9_method_4_code
def yX7_isAsSeen : MethodName := ⟨RX7, "isAsSeen", "(LGluedHour$Republic;LGluedHour$Course;LGluedHour$Lines;I)Z"⟩
abbrev cX7_keepRow : ByteArray := prog_9_method_5_code
def yX7_keepRow : MethodName := ⟨RX7, "keepRow", "()V"⟩
abbrev cX7_sureHour : ByteArray := prog_9_method_6_code
def yX7_sureHour : MethodName := ⟨RX7, "sureHour", "(I)I"⟩
def RX8 : String := "GluedHour$Told"
def TX8 : u_T := fun k => match k with
  | 0 => ("GluedHour$Told", "tape", "[B", true)
  | 1 => ("GluedHour$Told", "sizes", "[I", true)
  | 2 => ("GluedHour$Told", "republics", "[LGluedHour$Republic;", true)
  | 3 => ("GluedHour$Told", "lines", "[LGluedHour$Lines;", true)
  | 4 => ("GluedHour$Told", "length", "I", false)
  | 5 => ("GluedHour$Told", "fault", "I", false)
  | _ => ("GluedHour$Told", "place", "I", false)
def tyX8 : Nat → FieldType := fun k => match k with
  | 0 => .array .byte
  | 1 => .array .int
  | 2 => .array (.object "GluedHour$Republic")
  | 3 => .array (.object "GluedHour$Lines")
  | 4 => .int
  | 5 => .int
  | _ => .int
abbrev wsX80 : List Cond := u_ws RX8 TX8 7
theorem nmX8 : ∀ a, a < 7 → ∀ b, b < 7 → a ≠ b → (TX8 a).2.1 ≠ (TX8 b).2.1 := by decide +kernel
theorem tyX8_ok : ∀ k, k < 7 → parseFieldDescriptor (TX8 k).2.2.1 = some (tyX8 k) := by decide +kernel
abbrev cX8_init : ByteArray := prog_10_method_1_code
def yX8_init : MethodName := ⟨RX8, "<init>", "()V"⟩
abbrev cX8_append : ByteArray := prog_10_method_2_code
def yX8_append : MethodName := ⟨RX8, "append", "(I)V"⟩
abbrev cX8_republicAt : ByteArray := prog_10_method_3_code
def yX8_republicAt : MethodName := ⟨RX8, "republicAt", "(I)LGluedHour$Republic;"⟩
abbrev cX8_linesAt : ByteArray := prog_10_method_4_code
def yX8_linesAt : MethodName := ⟨RX8, "linesAt", "(II)LGluedHour$Lines;"⟩
abbrev cX8_lineCell : ByteArray := prog_10_method_5_code
def yX8_lineCell : MethodName := ⟨RX8, "lineCell", "(IIIII)I"⟩
abbrev cX8_take : ByteArray := prog_10_method_6_code
def yX8_take : MethodName := ⟨RX8, "take", "(LGluedHour$Reader;II)V"⟩
abbrev cX8_copy : ByteArray := prog_10_method_7_code
def yX8_copy : MethodName := ⟨RX8, "copy", "(LGluedHour$Told;)V"⟩
abbrev cX8_copyRepublic : ByteArray := prog_10_method_8_code
def yX8_copyRepublic : MethodName := ⟨RX8, "copyRepublic", "(LGluedHour$Republic;LGluedHour$Republic;)V"⟩
abbrev cX8_copyLines : ByteArray := prog_10_method_9_code
def yX8_copyLines : MethodName := ⟨RX8, "copyLines", "(LGluedHour$Lines;LGluedHour$Lines;)V"⟩
def RX9 : String := "GluedHour"
def TX9 : u_T := fun k => match k with
  | 0 => ("GluedHour", "told", "LGluedHour$Told;", true)
  | 1 => ("GluedHour", "images", "[LGluedHour$Told;", true)
  | 2 => ("GluedHour", "reader", "LGluedHour$Reader;", true)
  | 3 => ("GluedHour", "course", "LGluedHour$Course;", true)
  | 4 => ("GluedHour", "today", "LGluedHour$Odds;", true)
  | 5 => ("GluedHour", "tomorrow", "LGluedHour$Odds;", true)
  | 6 => ("GluedHour", "planner", "LGluedHour$Planner;", true)
  | 7 => ("GluedHour", "search", "LGluedHour$Search;", true)
  | _ => ("GluedHour", "sum", "LGluedHour$Fraction;", true)
def tyX9 : Nat → FieldType := fun k => match k with
  | 0 => .object "GluedHour$Told"
  | 1 => .array (.object "GluedHour$Told")
  | 2 => .object "GluedHour$Reader"
  | 3 => .object "GluedHour$Course"
  | 4 => .object "GluedHour$Odds"
  | 5 => .object "GluedHour$Odds"
  | 6 => .object "GluedHour$Planner"
  | 7 => .object "GluedHour$Search"
  | _ => .object "GluedHour$Fraction"
abbrev wsX90 : List Cond := u_ws RX9 TX9 9
theorem nmX9 : ∀ a, a < 9 → ∀ b, b < 9 → a ≠ b → (TX9 a).2.1 ≠ (TX9 b).2.1 := by decide +kernel
theorem tyX9_ok : ∀ k, k < 9 → parseFieldDescriptor (TX9 k).2.2.1 = some (tyX9 k) := by decide +kernel
abbrev cX9_init : ByteArray := prog_1_method_1_code
def yX9_init : MethodName := ⟨RX9, "<init>", "()V"⟩
abbrev cX9_feed : ByteArray := prog_1_method_2_code
def yX9_feed : MethodName := ⟨RX9, "feed", "(IIIII)I"⟩
abbrev cX9_end : ByteArray := prog_1_method_3_code
def yX9_end : MethodName := ⟨RX9, "end", "(I)I"⟩
abbrev cX9_text : ByteArray := prog_1_method_4_code
def yX9_text : MethodName := ⟨RX9, "text", "(II)I"⟩
abbrev cX9_fault : ByteArray := prog_1_method_5_code
def yX9_fault : MethodName := ⟨RX9, "fault", "(I)I"⟩
abbrev cX9_republic : ByteArray := prog_1_method_6_code
def yX9_republic : MethodName := ⟨RX9, "republic", "(II)I"⟩
abbrev cX9_person : ByteArray := prog_1_method_7_code
def yX9_person : MethodName := ⟨RX9, "person", "(III)I"⟩
abbrev cX9_value : ByteArray := prog_1_method_8_code
def yX9_value : MethodName := ⟨RX9, "value", "(III)I"⟩
abbrev cX9_odds : ByteArray := prog_1_method_9_code
def yX9_odds : MethodName := ⟨RX9, "odds", "(IIZ)I"⟩
abbrev cX9_day : ByteArray := prog_1_method_10_code
def yX9_day : MethodName := ⟨RX9, "day", "(II)I"⟩
abbrev cX9_purse : ByteArray := prog_1_method_11_code
def yX9_purse : MethodName := ⟨RX9, "purse", "(IIII)I"⟩
abbrev cX9_likely : ByteArray := prog_1_method_12_code
def yX9_likely : MethodName := ⟨RX9, "likely", "(IIIZ)J"⟩
abbrev cX9_drawn : ByteArray := prog_1_method_13_code
def yX9_drawn : MethodName := ⟨RX9, "drawn", "(IIII)I"⟩
abbrev cX9_mean : ByteArray := prog_1_method_14_code
def yX9_mean : MethodName := ⟨RX9, "mean", "(IIZ)I"⟩
abbrev cX9_gain : ByteArray := prog_1_method_15_code
def yX9_gain : MethodName := ⟨RX9, "gain", "(IIIZ)I"⟩
abbrev cX9_wish : ByteArray := prog_1_method_16_code
def yX9_wish : MethodName := ⟨RX9, "wish", "(II)I"⟩
abbrev cX9_buyer : ByteArray := prog_1_method_17_code
def yX9_buyer : MethodName := ⟨RX9, "buyer", "(II)I"⟩
abbrev cX9_promise : ByteArray := prog_1_method_18_code
def yX9_promise : MethodName := ⟨RX9, "promise", "(IIIZ)I"⟩
abbrev cX9_two : ByteArray := prog_1_method_19_code
def yX9_two : MethodName := ⟨RX9, "two", "(IIII)I"⟩
abbrev cX9_shift : ByteArray := prog_1_method_20_code
def yX9_shift : MethodName := ⟨RX9, "shift", "(III)I"⟩
abbrev cX9_feud : ByteArray := prog_1_method_21_code
def yX9_feud : MethodName := ⟨RX9, "feud", "(II)I"⟩
abbrev cX9_errand : ByteArray := prog_1_method_22_code
def yX9_errand : MethodName := ⟨RX9, "errand", "(III)I"⟩
abbrev cX9_plan : ByteArray := prog_1_method_23_code
def yX9_plan : MethodName := ⟨RX9, "plan", "(III)I"⟩
abbrev cX9_train : ByteArray := prog_1_method_24_code
def yX9_train : MethodName := ⟨RX9, "train", "(III)I"⟩
abbrev cX9_holds : ByteArray := prog_1_method_25_code
def yX9_holds : MethodName := ⟨RX9, "holds", "(III)I"⟩
abbrev cX9_clock : ByteArray := prog_1_method_26_code
def yX9_clock : MethodName := ⟨RX9, "clock", "(IIII)I"⟩
abbrev cX9_sight : ByteArray := prog_1_method_27_code
def yX9_sight : MethodName := ⟨RX9, "sight", "(III)I"⟩
abbrev cX9_fits : ByteArray := prog_1_method_28_code
def yX9_fits : MethodName := ⟨RX9, "fits", "(III)I"⟩
abbrev cX9_reign : ByteArray := prog_1_method_29_code
def yX9_reign : MethodName := ⟨RX9, "reign", "(III)I"⟩
abbrev cX9_hope : ByteArray := prog_1_method_30_code
def yX9_hope : MethodName := ⟨RX9, "hope", "(IIIZ)J"⟩
abbrev cX9_doom : ByteArray := prog_1_method_31_code
def yX9_doom : MethodName := ⟨RX9, "doom", "(IIIZ)J"⟩
abbrev cX9_ruling : ByteArray := prog_1_method_32_code
def yX9_ruling : MethodName := ⟨RX9, "ruling", "(II)I"⟩
abbrev cX9_trust : ByteArray := prog_1_method_33_code
def yX9_trust : MethodName := ⟨RX9, "trust", "(IIZ)I"⟩
abbrev cX9_tight : ByteArray := prog_1_method_34_code
def yX9_tight : MethodName := ⟨RX9, "tight", "(II)I"⟩
abbrev cX9_free : ByteArray := prog_1_method_35_code
def yX9_free : MethodName := ⟨RX9, "free", "(IIZ)I"⟩
abbrev cX9_count : ByteArray := prog_1_method_36_code
def yX9_count : MethodName := ⟨RX9, "count", "(I)I"⟩
abbrev cX9_image : ByteArray := prog_1_method_37_code
def yX9_image : MethodName := ⟨RX9, "image", "(I)Z"⟩
abbrev cX9_again : ByteArray := prog_1_method_38_code
def yX9_again : MethodName := ⟨RX9, "again", "(I)Z"⟩
abbrev cX9_begun : ByteArray := prog_1_method_39_code
def yX9_begun : MethodName := ⟨RX9, "begun", "(I)LGluedHour$Republic;"⟩
abbrev cX9_stops : ByteArray := prog_1_method_40_code
def yX9_stops : MethodName := ⟨RX9, "stops", "(LGluedHour$Republic;LGluedHour$Lines;I)Z"⟩
abbrev cX9_gainBy : ByteArray := prog_1_method_41_code
def yX9_gainBy : MethodName := ⟨RX9, "gainBy", "(II)J"⟩
abbrev cX9_changeBy : ByteArray := prog_1_method_42_code
def yX9_changeBy : MethodName := ⟨RX9, "changeBy", "(LGluedHour$Republic;II)J"⟩
abbrev cX9_expected : ByteArray := prog_1_method_43_code
def yX9_expected : MethodName := ⟨RX9, "expected", "(IIIZ)Z"⟩
abbrev cX9_nextDay : ByteArray := prog_1_method_44_code
def yX9_nextDay : MethodName := ⟨RX9, "nextDay", "(LGluedHour$Republic;LGluedHour$Odds;IZ)J"⟩
abbrev cX9_trueTime : ByteArray := prog_1_method_45_code
def yX9_trueTime : MethodName := ⟨RX9, "trueTime", "(II)I"⟩
abbrev cX9_lead : ByteArray := prog_1_method_46_code
def yX9_lead : MethodName := ⟨RX9, "lead", "(IIII)I"⟩
abbrev cX9_leadOf : ByteArray := prog_1_method_47_code
def yX9_leadOf : MethodName := ⟨RX9, "leadOf", "(LGluedHour$Lines;II)I"⟩
abbrev cX9_keepsBy : ByteArray := prog_1_method_48_code
def yX9_keepsBy : MethodName := ⟨RX9, "keepsBy", "(LGluedHour$Lines;I)Z"⟩
abbrev cX9_slackOf : ByteArray := prog_1_method_49_code
def yX9_slackOf : MethodName := ⟨RX9, "slackOf", "(LGluedHour$Republic;LGluedHour$Lines;I)I"⟩
abbrev cX9_leastHour : ByteArray := prog_1_method_50_code
def yX9_leastHour : MethodName := ⟨RX9, "leastHour", "(LGluedHour$Republic;LGluedHour$Lines;I)I"⟩
abbrev cX9_leastNext : ByteArray := prog_1_method_51_code
def yX9_leastNext : MethodName := ⟨RX9, "leastNext", "(LGluedHour$Republic;II)I"⟩
def RX10 : String := "GluedHourModel"
def TX10 : u_T := fun k => match k with
  | 0 => ("GluedHourModel", "code", "I", false)
  | 1 => ("GluedHourModel", "tape", "[B", true)
  | 2 => ("GluedHourModel", "size", "[I", true)
  | 3 => ("GluedHourModel", "fault", "[I", true)
  | 4 => ("GluedHourModel", "faultPlace", "[I", true)
  | 5 => ("GluedHourModel", "many", "[I", true)
  | 6 => ("GluedHourModel", "republics", "[I", true)
  | 7 => ("GluedHourModel", "weeks", "[I", true)
  | 8 => ("GluedHourModel", "errands", "[I", true)
  | 9 => ("GluedHourModel", "tables", "[I", true)
  | 10 => ("GluedHourModel", "sights", "[I", true)
  | 11 => ("GluedHourModel", "reached", "I", false)
  | 12 => ("GluedHourModel", "length", "I", false)
  | 13 => ("GluedHourModel", "begins", "I", false)
  | 14 => ("GluedHourModel", "sort", "I", false)
  | 15 => ("GluedHourModel", "value", "I", false)
  | 16 => ("GluedHourModel", "word", "J", false)
  | 17 => ("GluedHourModel", "wrongAt", "I", false)
  | 18 => ("GluedHourModel", "laterFault", "I", false)
  | 19 => ("GluedHourModel", "laterPlace", "I", false)
  | 20 => ("GluedHourModel", "told", "[I", true)
  | 21 => ("GluedHourModel", "read", "[I", true)
  | 22 => ("GluedHourModel", "farHour", "I", false)
  | 23 => ("GluedHourModel", "farOne", "I", false)
  | 24 => ("GluedHourModel", "good", "Z", false)
  | 25 => ("GluedHourModel", "republic", "I", false)
  | 26 => ("GluedHourModel", "hours", "I", false)
  | 27 => ("GluedHourModel", "people", "I", false)
  | 28 => ("GluedHourModel", "purse", "[I", true)
  | 29 => ("GluedHourModel", "deed", "[I", true)
  | 30 => ("GluedHourModel", "values", "[I", true)
  | 31 => ("GluedHourModel", "weight", "[I", true)
  | 32 => ("GluedHourModel", "allWeights", "I", false)
  | 33 => ("GluedHourModel", "poorest", "I", false)
  | 34 => ("GluedHourModel", "ruledKind", "I", false)
  | 35 => ("GluedHourModel", "ruledMode", "I", false)
  | 36 => ("GluedHourModel", "week", "I", false)
  | 37 => ("GluedHourModel", "likelyUp", "J", false)
  | 38 => ("GluedHourModel", "likelyDown", "J", false)
  | 39 => ("GluedHourModel", "seed", "I", false)
  | 40 => ("GluedHourModel", "often", "[I", true)
  | 41 => ("GluedHourModel", "row", "I", false)
  | 42 => ("GluedHourModel", "tasks", "I", false)
  | 43 => ("GluedHourModel", "best", "[J", true)
  | 44 => ("GluedHourModel", "chosen", "[I", true)
  | 45 => ("GluedHourModel", "anyHour", "Z", false)
  | 46 => ("GluedHourModel", "knowing", "J", false)
  | 47 => ("GluedHourModel", "table", "I", false)
  | 48 => ("GluedHourModel", "earliest", "[I", true)
  | 49 => ("GluedHourModel", "seen", "I", false)
  | 50 => ("GluedHourModel", "fits", "I", false)
  | 51 => ("GluedHourModel", "seenDays", "I", false)
  | 52 => ("GluedHourModel", "may", "[I", true)
  | 53 => ("GluedHourModel", "rowHour", "[I", true)
  | 54 => ("GluedHourModel", "reigned", "[I", true)
  | 55 => ("GluedHourModel", "chose", "[I", true)
  | 56 => ("GluedHourModel", "up", "J", false)
  | 57 => ("GluedHourModel", "down", "J", false)
  | _ => ("GluedHourModel", "kept", "[Z", true)
def tyX10 : Nat → FieldType := fun k => match k with
  | 0 => .int
  | 1 => .array .byte
  | 2 => .array .int
  | 3 => .array .int
  | 4 => .array .int
  | 5 => .array .int
  | 6 => .array .int
  | 7 => .array .int
  | 8 => .array .int
  | 9 => .array .int
  | 10 => .array .int
  | 11 => .int
  | 12 => .int
  | 13 => .int
  | 14 => .int
  | 15 => .int
  | 16 => .long
  | 17 => .int
  | 18 => .int
  | 19 => .int
  | 20 => .array .int
  | 21 => .array .int
  | 22 => .int
  | 23 => .int
  | 24 => .boolean
  | 25 => .int
  | 26 => .int
  | 27 => .int
  | 28 => .array .int
  | 29 => .array .int
  | 30 => .array .int
  | 31 => .array .int
  | 32 => .int
  | 33 => .int
  | 34 => .int
  | 35 => .int
  | 36 => .int
  | 37 => .long
  | 38 => .long
  | 39 => .int
  | 40 => .array .int
  | 41 => .int
  | 42 => .int
  | 43 => .array .long
  | 44 => .array .int
  | 45 => .boolean
  | 46 => .long
  | 47 => .int
  | 48 => .array .int
  | 49 => .int
  | 50 => .int
  | 51 => .int
  | 52 => .array .int
  | 53 => .array .int
  | 54 => .array .int
  | 55 => .array .int
  | 56 => .long
  | 57 => .long
  | _ => .array .boolean
abbrev wsX100 : List Cond := u_ws RX10 TX10 59
theorem nmX10 : ∀ a, a < 59 → ∀ b, b < 59 → a ≠ b → (TX10 a).2.1 ≠ (TX10 b).2.1 := by decide +kernel
theorem tyX10_ok : ∀ k, k < 59 → parseFieldDescriptor (TX10 k).2.2.1 = some (tyX10 k) := by decide +kernel
abbrev cX10_init : ByteArray := prog_12_method_1_code
def yX10_init : MethodName := ⟨RX10, "<init>", "()V"⟩
abbrev cX10_in : ByteArray := prog_12_method_3_code
def yX10_in : MethodName := ⟨RX10, "in", "(III)Z"⟩
abbrev cX10_has : ByteArray := prog_12_method_4_code
def yX10_has : MethodName := ⟨RX10, "has", "(II)Z"⟩
abbrev cX10_greater : ByteArray := prog_12_method_5_code
def yX10_greater : MethodName := ⟨RX10, "greater", "(II)I"⟩
abbrev cX10_lesser : ByteArray := prog_12_method_6_code
def yX10_lesser : MethodName := ⟨RX10, "lesser", "(II)I"⟩
abbrev cX10_copyRow : ByteArray := prog_12_method_7_code
def yX10_copyRow : MethodName := ⟨RX10, "copyRow", "([IIII)V"⟩
abbrev cX10_copyAll : ByteArray := prog_12_method_8_code
def yX10_copyAll : MethodName := ⟨RX10, "copyAll", "(II)V"⟩
abbrev cX10_is : ByteArray := prog_12_method_9_code
def yX10_is : MethodName := ⟨RX10, "is", "(II)Z"⟩
abbrev cX10_feed : ByteArray := prog_12_method_10_code
def yX10_feed : MethodName := ⟨RX10, "feed", "(IIIII)I"⟩
abbrev cX10_four : ByteArray := prog_12_method_11_code
def yX10_four : MethodName := ⟨RX10, "four", "(I)V"⟩
abbrev cX10_end : ByteArray := prog_12_method_12_code
def yX10_end : MethodName := ⟨RX10, "end", "(I)I"⟩
abbrev cX10_see : ByteArray := prog_12_method_13_code
def yX10_see : MethodName := ⟨RX10, "see", "()I"⟩
abbrev cX10_token : ByteArray := prog_12_method_14_code
def yX10_token : MethodName := ⟨RX10, "token", "()V"⟩
abbrev cX10_fails : ByteArray := prog_12_method_15_code
def yX10_fails : MethodName := ⟨RX10, "fails", "()Z"⟩
abbrev cX10_later : ByteArray := prog_12_method_16_code
def yX10_later : MethodName := ⟨RX10, "later", "(II)V"⟩
abbrev cX10_take : ByteArray := prog_12_method_17_code
def yX10_take : MethodName := ⟨RX10, "take", "(III)Z"⟩
abbrev cX10_full : ByteArray := prog_12_method_18_code
def yX10_full : MethodName := ⟨RX10, "full", "(III)V"⟩
abbrev cX10_keep : ByteArray := prog_12_method_19_code
def yX10_keep : MethodName := ⟨RX10, "keep", "(III)V"⟩
abbrev cX10_kindLine : ByteArray := prog_12_method_20_code
def yX10_kindLine : MethodName := ⟨RX10, "kindLine", "(Z)Z"⟩
abbrev cX10_ofOne : ByteArray := prog_12_method_21_code
def yX10_ofOne : MethodName := ⟨RX10, "ofOne", "(Z)Z"⟩
abbrev cX10_republicLine : ByteArray := prog_12_method_22_code
def yX10_republicLine : MethodName := ⟨RX10, "republicLine", "(JI)Z"⟩
abbrev cX10_weekLine : ByteArray := prog_12_method_23_code
def yX10_weekLine : MethodName := ⟨RX10, "weekLine", "(JI)Z"⟩
abbrev cX10_errandLine : ByteArray := prog_12_method_24_code
def yX10_errandLine : MethodName := ⟨RX10, "errandLine", "(JI)Z"⟩
abbrev cX10_trainLine : ByteArray := prog_12_method_25_code
def yX10_trainLine : MethodName := ⟨RX10, "trainLine", "(JI)Z"⟩
abbrev cX10_sightLine : ByteArray := prog_12_method_26_code
def yX10_sightLine : MethodName := ⟨RX10, "sightLine", "(JI)Z"⟩
abbrev cX10_lineOf : ByteArray := prog_12_method_27_code
def yX10_lineOf : MethodName := ⟨RX10, "lineOf", "(IJI)Z"⟩
abbrev cX10_lines : ByteArray := prog_12_method_28_code
def yX10_lines : MethodName := ⟨RX10, "lines", "(I)Z"⟩
abbrev cX10_readText : ByteArray := prog_12_method_29_code
def yX10_readText : MethodName := ⟨RX10, "readText", "(I)Z"⟩
abbrev cX10_store : ByteArray := prog_12_method_30_code
def yX10_store : MethodName := ⟨RX10, "store", "([III)V"⟩
abbrev cX10_storeAll : ByteArray := prog_12_method_31_code
def yX10_storeAll : MethodName := ⟨RX10, "storeAll", "(II)V"⟩
abbrev cX10_text : ByteArray := prog_12_method_32_code
def yX10_text : MethodName := ⟨RX10, "text", "(II)I"⟩
abbrev cX10_fault : ByteArray := prog_12_method_33_code
def yX10_fault : MethodName := ⟨RX10, "fault", "(I)I"⟩
abbrev cX10_of : ByteArray := prog_12_method_34_code
def yX10_of : MethodName := ⟨RX10, "of", "(I)I"⟩
abbrev cX10_modeOf : ByteArray := prog_12_method_35_code
def yX10_modeOf : MethodName := ⟨RX10, "modeOf", "(I)I"⟩
abbrev cX10_times : ByteArray := prog_12_method_36_code
def yX10_times : MethodName := ⟨RX10, "times", "(II)I"⟩
abbrev cX10_worthOf : ByteArray := prog_12_method_37_code
def yX10_worthOf : MethodName := ⟨RX10, "worthOf", "(III)I"⟩
abbrev cX10_valueBy : ByteArray := prog_12_method_38_code
def yX10_valueBy : MethodName := ⟨RX10, "valueBy", "(III)I"⟩
abbrev cX10_layValues : ByteArray := prog_12_method_39_code
def yX10_layValues : MethodName := ⟨RX10, "layValues", "(I)V"⟩
abbrev cX10_layOdds : ByteArray := prog_12_method_40_code
def yX10_layOdds : MethodName := ⟨RX10, "layOdds", "()V"⟩
abbrev cX10_hand : ByteArray := prog_12_method_41_code
def yX10_hand : MethodName := ⟨RX10, "hand", "(I)Z"⟩
abbrev cX10_isOne : ByteArray := prog_12_method_42_code
def yX10_isOne : MethodName := ⟨RX10, "isOne", "(I)Z"⟩
abbrev cX10_isHour : ByteArray := prog_12_method_43_code
def yX10_isHour : MethodName := ⟨RX10, "isHour", "(I)Z"⟩
abbrev cX10_handOne : ByteArray := prog_12_method_44_code
def yX10_handOne : MethodName := ⟨RX10, "handOne", "(II)Z"⟩
abbrev cX10_republic : ByteArray := prog_12_method_45_code
def yX10_republic : MethodName := ⟨RX10, "republic", "(II)I"⟩
abbrev cX10_person : ByteArray := prog_12_method_46_code
def yX10_person : MethodName := ⟨RX10, "person", "(III)I"⟩
abbrev cX10_allBy : ByteArray := prog_12_method_47_code
def yX10_allBy : MethodName := ⟨RX10, "allBy", "(I)I"⟩
abbrev cX10_value : ByteArray := prog_12_method_48_code
def yX10_value : MethodName := ⟨RX10, "value", "(III)I"⟩
abbrev cX10_common : ByteArray := prog_12_method_49_code
def yX10_common : MethodName := ⟨RX10, "common", "(JJ)J"⟩
abbrev cX10_part : ByteArray := prog_12_method_50_code
def yX10_part : MethodName := ⟨RX10, "part", "(JJZ)J"⟩
abbrev cX10_odds : ByteArray := prog_12_method_51_code
def yX10_odds : MethodName := ⟨RX10, "odds", "(IIZ)I"⟩
abbrev cX10_hasWeek : ByteArray := prog_12_method_52_code
def yX10_hasWeek : MethodName := ⟨RX10, "hasWeek", "(I)Z"⟩
abbrev cX10_hourOf : ByteArray := prog_12_method_53_code
def yX10_hourOf : MethodName := ⟨RX10, "hourOf", "(I)I"⟩
abbrev cX10_day : ByteArray := prog_12_method_54_code
def yX10_day : MethodName := ⟨RX10, "day", "(II)I"⟩
abbrev cX10_live : ByteArray := prog_12_method_55_code
def yX10_live : MethodName := ⟨RX10, "live", "(I)V"⟩
abbrev cX10_liveDays : ByteArray := prog_12_method_56_code
def yX10_liveDays : MethodName := ⟨RX10, "liveDays", "(I)Z"⟩
abbrev cX10_purse : ByteArray := prog_12_method_57_code
def yX10_purse : MethodName := ⟨RX10, "purse", "(IIII)I"⟩
abbrev cX10_likely : ByteArray := prog_12_method_58_code
def yX10_likely : MethodName := ⟨RX10, "likely", "(IIIZ)J"⟩
abbrev cX10_draw : ByteArray := prog_12_method_59_code
def yX10_draw : MethodName := ⟨RX10, "draw", "(I)I"⟩
abbrev cX10_drawHour : ByteArray := prog_12_method_60_code
def yX10_drawHour : MethodName := ⟨RX10, "drawHour", "()I"⟩
abbrev cX10_drawn : ByteArray := prog_12_method_61_code
def yX10_drawn : MethodName := ⟨RX10, "drawn", "(IIII)I"⟩
abbrev cX10_meanOf : ByteArray := prog_12_method_62_code
def yX10_meanOf : MethodName := ⟨RX10, "meanOf", "(I)J"⟩
abbrev cX10_mean : ByteArray := prog_12_method_63_code
def yX10_mean : MethodName := ⟨RX10, "mean", "(IIZ)I"⟩
abbrev cX10_gainOf : ByteArray := prog_12_method_64_code
def yX10_gainOf : MethodName := ⟨RX10, "gainOf", "(II)J"⟩
abbrev cX10_gain : ByteArray := prog_12_method_65_code
def yX10_gain : MethodName := ⟨RX10, "gain", "(IIIZ)I"⟩
abbrev cX10_wishOf : ByteArray := prog_12_method_66_code
def yX10_wishOf : MethodName := ⟨RX10, "wishOf", "(I)I"⟩
abbrev cX10_choice : ByteArray := prog_12_method_67_code
def yX10_choice : MethodName := ⟨RX10, "choice", "()I"⟩
abbrev cX10_wish : ByteArray := prog_12_method_68_code
def yX10_wish : MethodName := ⟨RX10, "wish", "(II)I"⟩
abbrev cX10_buyer : ByteArray := prog_12_method_69_code
def yX10_buyer : MethodName := ⟨RX10, "buyer", "(II)I"⟩
abbrev cX10_promise : ByteArray := prog_12_method_70_code
def yX10_promise : MethodName := ⟨RX10, "promise", "(IIIZ)I"⟩
abbrev cX10_two : ByteArray := prog_12_method_71_code
def yX10_two : MethodName := ⟨RX10, "two", "(IIII)I"⟩
abbrev cX10_swapDeed : ByteArray := prog_12_method_72_code
def yX10_swapDeed : MethodName := ⟨RX10, "swapDeed", "(III)V"⟩
abbrev cX10_shift : ByteArray := prog_12_method_73_code
def yX10_shift : MethodName := ⟨RX10, "shift", "(III)I"⟩
abbrev cX10_apart : ByteArray := prog_12_method_74_code
def yX10_apart : MethodName := ⟨RX10, "apart", "(II)I"⟩
abbrev cX10_feud : ByteArray := prog_12_method_75_code
def yX10_feud : MethodName := ⟨RX10, "feud", "(II)I"⟩
abbrev cX10_errandOf : ByteArray := prog_12_method_76_code
def yX10_errandOf : MethodName := ⟨RX10, "errandOf", "(II)I"⟩
abbrev cX10_fromOf : ByteArray := prog_12_method_77_code
def yX10_fromOf : MethodName := ⟨RX10, "fromOf", "(I)I"⟩
abbrev cX10_toOf : ByteArray := prog_12_method_78_code
def yX10_toOf : MethodName := ⟨RX10, "toOf", "(I)I"⟩
abbrev cX10_hasErrands : ByteArray := prog_12_method_79_code
def yX10_hasErrands : MethodName := ⟨RX10, "hasErrands", "(I)Z"⟩
abbrev cX10_errand : ByteArray := prog_12_method_80_code
def yX10_errand : MethodName := ⟨RX10, "errand", "(III)I"⟩
abbrev cX10_worthAt : ByteArray := prog_12_method_81_code
def yX10_worthAt : MethodName := ⟨RX10, "worthAt", "(III)J"⟩
abbrev cX10_bestFrom : ByteArray := prog_12_method_82_code
def yX10_bestFrom : MethodName := ⟨RX10, "bestFrom", "(III)J"⟩
abbrev cX10_findBest : ByteArray := prog_12_method_83_code
def yX10_findBest : MethodName := ⟨RX10, "findBest", "(I)J"⟩
abbrev cX10_choose : ByteArray := prog_12_method_84_code
def yX10_choose : MethodName := ⟨RX10, "choose", "(I)V"⟩
abbrev cX10_chosenBy : ByteArray := prog_12_method_85_code
def yX10_chosenBy : MethodName := ⟨RX10, "chosenBy", "(I)J"⟩
abbrev cX10_rued : ByteArray := prog_12_method_86_code
def yX10_rued : MethodName := ⟨RX10, "rued", "()I"⟩
abbrev cX10_plan : ByteArray := prog_12_method_87_code
def yX10_plan : MethodName := ⟨RX10, "plan", "(III)I"⟩
abbrev cX10_trainOf : ByteArray := prog_12_method_88_code
def yX10_trainOf : MethodName := ⟨RX10, "trainOf", "(II)I"⟩
abbrev cX10_hasTable : ByteArray := prog_12_method_89_code
def yX10_hasTable : MethodName := ⟨RX10, "hasTable", "(I)Z"⟩
abbrev cX10_trains : ByteArray := prog_12_method_90_code
def yX10_trains : MethodName := ⟨RX10, "trains", "()I"⟩
abbrev cX10_train : ByteArray := prog_12_method_91_code
def yX10_train : MethodName := ⟨RX10, "train", "(III)I"⟩
abbrev cX10_trueAt : ByteArray := prog_12_method_92_code
def yX10_trueAt : MethodName := ⟨RX10, "trueAt", "(II)I"⟩
abbrev cX10_slackBy : ByteArray := prog_12_method_93_code
def yX10_slackBy : MethodName := ⟨RX10, "slackBy", "(I)I"⟩
abbrev cX10_holds : ByteArray := prog_12_method_94_code
def yX10_holds : MethodName := ⟨RX10, "holds", "(III)I"⟩
abbrev cX10_canLeave : ByteArray := prog_12_method_95_code
def yX10_canLeave : MethodName := ⟨RX10, "canLeave", "(III)Z"⟩
abbrev cX10_findEarliest : ByteArray := prog_12_method_96_code
def yX10_findEarliest : MethodName := ⟨RX10, "findEarliest", "()V"⟩
abbrev cX10_clock : ByteArray := prog_12_method_97_code
def yX10_clock : MethodName := ⟨RX10, "clock", "(IIII)I"⟩
abbrev cX10_sightOf : ByteArray := prog_12_method_98_code
def yX10_sightOf : MethodName := ⟨RX10, "sightOf", "(II)I"⟩
abbrev cX10_hasSights : ByteArray := prog_12_method_99_code
def yX10_hasSights : MethodName := ⟨RX10, "hasSights", "(I)Z"⟩
abbrev cX10_sight : ByteArray := prog_12_method_100_code
def yX10_sight : MethodName := ⟨RX10, "sight", "(III)I"⟩
abbrev cX10_isAsSeen : ByteArray := prog_12_method_101_code
def yX10_isAsSeen : MethodName := ⟨RX10, "isAsSeen", "(I)Z"⟩
abbrev cX10_isRow : ByteArray := prog_12_method_102_code
def yX10_isRow : MethodName := ⟨RX10, "isRow", "(I)Z"⟩
abbrev cX10_findFits : ByteArray := prog_12_method_103_code
def yX10_findFits : MethodName := ⟨RX10, "findFits", "()V"⟩
abbrev cX10_onlyOne : ByteArray := prog_12_method_104_code
def yX10_onlyOne : MethodName := ⟨RX10, "onlyOne", "(I)I"⟩
abbrev cX10_fits : ByteArray := prog_12_method_105_code
def yX10_fits : MethodName := ⟨RX10, "fits", "(III)I"⟩
abbrev cX10_reignDays : ByteArray := prog_12_method_106_code
def yX10_reignDays : MethodName := ⟨RX10, "reignDays", "(I)I"⟩
abbrev cX10_reign : ByteArray := prog_12_method_107_code
def yX10_reign : MethodName := ⟨RX10, "reign", "(III)I"⟩
abbrev cX10_begin : ByteArray := prog_12_method_108_code
def yX10_begin : MethodName := ⟨RX10, "begin", "()V"⟩
abbrev cX10_plus : ByteArray := prog_12_method_109_code
def yX10_plus : MethodName := ⟨RX10, "plus", "(JJ)V"⟩
abbrev cX10_expect : ByteArray := prog_12_method_110_code
def yX10_expect : MethodName := ⟨RX10, "expect", "(IIZ)V"⟩
abbrev cX10_hope : ByteArray := prog_12_method_111_code
def yX10_hope : MethodName := ⟨RX10, "hope", "(IIIZ)J"⟩
abbrev cX10_doom : ByteArray := prog_12_method_112_code
def yX10_doom : MethodName := ⟨RX10, "doom", "(IIIZ)J"⟩
abbrev cX10_allMeans : ByteArray := prog_12_method_113_code
def yX10_allMeans : MethodName := ⟨RX10, "allMeans", "()J"⟩
abbrev cX10_ruling : ByteArray := prog_12_method_114_code
def yX10_ruling : MethodName := ⟨RX10, "ruling", "(II)I"⟩
abbrev cX10_trust : ByteArray := prog_12_method_115_code
def yX10_trust : MethodName := ⟨RX10, "trust", "(IIZ)I"⟩
abbrev cX10_tight : ByteArray := prog_12_method_116_code
def yX10_tight : MethodName := ⟨RX10, "tight", "(II)I"⟩
abbrev cX10_free : ByteArray := prog_12_method_117_code
def yX10_free : MethodName := ⟨RX10, "free", "(IIZ)I"⟩
abbrev cX10_count : ByteArray := prog_12_method_118_code
def yX10_count : MethodName := ⟨RX10, "count", "(I)I"⟩
abbrev cX10_image : ByteArray := prog_12_method_119_code
def yX10_image : MethodName := ⟨RX10, "image", "(I)Z"⟩
abbrev cX10_again : ByteArray := prog_12_method_120_code
def yX10_again : MethodName := ⟨RX10, "again", "(I)Z"⟩
def RJ9 : String := "java/lang/Math"
abbrev cJ9_abs_0f7a4 : ByteArray := prog_13_method_59_code
def yJ9_abs_0f7a4 : MethodName := ⟨RJ9, "abs", "(I)I"⟩
abbrev cJ9_abs_067f4 : ByteArray := prog_13_method_61_code
def yJ9_abs_067f4 : MethodName := ⟨RJ9, "abs", "(J)J"⟩
abbrev cJ9_max_7cf53 : ByteArray := prog_13_method_65_code
def yJ9_max_7cf53 : MethodName := ⟨RJ9, "max", "(II)I"⟩
abbrev cJ9_max_f86c9 : ByteArray := prog_13_method_66_code
def yJ9_max_f86c9 : MethodName := ⟨RJ9, "max", "(JJ)J"⟩
abbrev cJ9_min_7cf53 : ByteArray := prog_13_method_69_code
def yJ9_min_7cf53 : MethodName := ⟨RJ9, "min", "(II)I"⟩
def RJ0 : String := "java/lang/String"
abbrev cJ0_length_8abf5 : ByteArray := prog_14_method_54_code
def yJ0_length_8abf5 : MethodName := ⟨RJ0, "length", "()I"⟩
abbrev cJ0_charAt_5068e : ByteArray := prog_14_method_56_code
def yJ0_charAt_5068e : MethodName := ⟨RJ0, "charAt", "(I)C"⟩
abbrev cJ0_coder_7d493 : ByteArray := prog_14_method_152_code
def yJ0_coder_7d493 : MethodName := ⟨RJ0, "coder", "()B"⟩
abbrev cJ0_isLatin1_aae02 : ByteArray := prog_14_method_154_code
def yJ0_isLatin1_aae02 : MethodName := ⟨RJ0, "isLatin1", "()Z"⟩
abbrev cJ0_checkIndex_df160 : ByteArray := prog_14_method_155_code
def yJ0_checkIndex_df160 : MethodName := ⟨RJ0, "checkIndex", "(II)V"⟩
def RJ1 : String := "java/lang/StringLatin1"
abbrev cJ1_charAt_3b067 : ByteArray := prog_15_method_2_code
def yJ1_charAt_3b067 : MethodName := ⟨RJ1, "charAt", "([BI)C"⟩
def RJ2 : String := "java/lang/StringUTF16"
abbrev cJ2_getChar_3b067 : ByteArray := prog_16_method_5_code
def yJ2_getChar_3b067 : MethodName := ⟨RJ2, "getChar", "([BI)C"⟩
abbrev cJ2_length_9d52b : ByteArray := prog_16_method_6_code
def yJ2_length_9d52b : MethodName := ⟨RJ2, "length", "([B)I"⟩
abbrev cJ2_charAt_3b067 : ByteArray := prog_16_method_83_code
def yJ2_charAt_3b067 : MethodName := ⟨RJ2, "charAt", "([BI)C"⟩
abbrev cJ2_checkIndex_2214a : ByteArray := prog_16_method_91_code
def yJ2_checkIndex_2214a : MethodName := ⟨RJ2, "checkIndex", "(I[B)V"⟩
def RJ10 : String := "java/lang/System"
def RJ3 : String := "jdk/internal/util/Preconditions"
abbrev cJ3_checkIndex_8e157 : ByteArray := prog_18_method_11_code
def yJ3_checkIndex_8e157 : MethodName := ⟨RJ3, "checkIndex", "(IILjava/util/function/BiFunction;)I"⟩
def RL : String := "GluedHourLaw"
abbrev cL_law : ByteArray := code
def yL_law : MethodName := ⟨RL, "law", "([I)Z"⟩
abbrev vwCl : List vw_C := [(RX0, TX0, 4), (RX1, TX1, 2), (RX2, TX2, 4), (RX3, TX3, 3), (RX4, TX4, 9), (RX5, TX5, 14), (RX6, TX6, 7), (RX7, TX7, 5), (RX8, TX8, 7), (RX9, TX9, 9), (RX10, TX10, 59)]
end
end
section
section
/-! THE ABSTRACT MACHINE. Heap: how many cells, shapes (kind, length), ints, longs, references, by place; kinds 0..10 objects of class 0..10, 11 int[], 12 byte[], 13 boolean[], 14 long[], 15.. arrays of references. -/
abbrev ax_H : Type := Nat × (Nat → Nat × Nat) × (Nat → Nat → Int32) × (Nat → Nat → Int64) × (Nat → Nat → Option Nat)
def ax_s (h : ax_H) (a : Nat) : Nat × Nat := if a < h.1 then h.2.1 a else (99, 0)
def ax_i (h : ax_H) (a k : Nat) : Int32 := h.2.2.1 a k
def ax_l (h : ax_H) (a k : Nat) : Int64 := h.2.2.2.1 a k
def ax_r (h : ax_H) (a k : Nat) : Option Nat := h.2.2.2.2 a k
def ax_u {α : Type} (f : Nat → Nat → α) (a k : Nat) (v : α) : Nat → Nat → α := fun b => if b = a then (fun j => if j = k then v else f a j) else f b
def ax_pi (h : ax_H) (a k : Nat) (v : Int32) : ax_H := (h.1, h.2.1, ax_u h.2.2.1 a k v, h.2.2.2.1, h.2.2.2.2)
def ax_pl (h : ax_H) (a k : Nat) (v : Int64) : ax_H := (h.1, h.2.1, h.2.2.1, ax_u h.2.2.2.1 a k v, h.2.2.2.2)
def ax_pr (h : ax_H) (a k : Nat) (v : Option Nat) : ax_H := (h.1, h.2.1, h.2.2.1, h.2.2.2.1, ax_u h.2.2.2.2 a k v)
def ax_nw (h : ax_H) (kd ln : Nat) : ax_H := (h.1 + 1, (fun b => if b = h.1 then (kd, ln) else h.2.1 b), (fun b => if b = h.1 then (fun _ => 0) else h.2.2.1 b), (fun b => if b = h.1 then (fun _ => 0) else h.2.2.2.1 b), (fun b => if b = h.1 then (fun _ => none) else h.2.2.2.2 b))
/-- the launch, the first new cell's address, addresses of what lies outside, the classes' numbers and slots, the array classes -/
abbrev ax_G : Type := Launch × Nat × (Nat → Nat) × va_G × (Nat → ClassId)
def ax_ad (g : ax_G) (a : Nat) : Nat := if a < 1000000 then g.2.1 + a else g.2.2.1 (a - 1000000)
def ax_v (g : ax_G) (v : Value) : Value := match v with
  | .ref a => .ref (ax_ad g a)
  | v => v
def ax_fl (g : ax_G) (h : ax_H) (ts : List Nat) (a : Nat) : List Value := ts.mapIdx fun k t => if t = 0 then .int (ax_i h a k) else if t = 1 then .long (ax_l h a k) else va_rf ((ax_r h a k).map (ax_ad g))
def ax_c (g : ax_G) (h : ax_H) (a kd : Nat) : (Nat → Int32) ⊕ (Nat → Int64) ⊕ (Nat → UInt32) ⊕ (Nat → UInt64) ⊕ (Nat → Option Nat) := if kd < 14 then .inl (ax_i h a) else if kd = 14 then .inr (.inl (ax_l h a)) else .inr (.inr (.inr (.inr (fun j => (ax_r h a j).map (ax_ad g)))))
/-- the types of a class's fields: 0 int, 1 long, 2 reference -/
def ax_ft : Nat → List Nat := fun ci => [[2, 2, 0, 0], [1, 1], [0, 0, 2, 0], [2, 0, 0], [2, 1, 1, 0, 1, 2, 2, 2, 2], [2, 2, 2, 2, 0, 0, 0, 0, 0, 0, 0, 0, 0, 0], [2, 2, 2, 2, 2, 0, 0], [2, 0, 0, 2, 2], [2, 2, 2, 2, 0, 0, 0], [2, 2, 2, 2, 2, 2, 2, 2, 2], [0, 2, 2, 2, 2, 2, 2, 2, 2, 2, 2, 0, 0, 0, 0, 0, 1, 0, 0, 0, 2, 2, 0, 0, 0, 0, 0, 0, 2, 2, 2, 2, 0, 0, 0, 0, 0, 1, 1, 0, 2, 0, 0, 2, 2, 0, 1, 0, 2, 0, 0, 0, 2, 2, 2, 2, 1, 1, 2]].getD ci []
def ax_e (g : ax_G) (h : ax_H) (a : Nat) : va_E := if (h.2.1 a).1 < 11 then .inr ((h.2.1 a).1, ax_fl g h (ax_ft (h.2.1 a).1) a) else .inl (g.2.2.2.2 (h.2.1 a).1, (h.2.1 a).2, ax_c g h a (h.2.1 a).1)
def ax_w (g : ax_G) (h : ax_H) : va_W := (List.range h.1).map fun a => (g.2.1 + a, ax_e g h a)
def ax_t (g : ax_G) : List (ClassId × FieldType) := [(g.2.2.2.2 11, .int), (g.2.2.2.2 12, .byte), (g.2.2.2.2 13, .boolean), (g.2.2.2.2 14, .long), (g.2.2.2.2 15, .object "GluedHour$Lines"), (g.2.2.2.2 16, .object "GluedHour$Odds"), (g.2.2.2.2 17, .object "GluedHour$Republic"), (g.2.2.2.2 18, .object "GluedHour$Told")]
abbrev ax_K (g : ax_G) (U : State) : Prop := va_K g.2.2.2.1 vwCl (ax_t g) U
abbrev ax_P (g : ax_G) (h : ax_H) (H : Heap) : Prop := va_P g.2.2.2.1 vwCl (ax_w g h) H ∧ H.size = g.2.1 + h.1 ∧ h.1 < 1000000
abbrev ax_A (g : ax_G) : Nat → Prop := fun q => g.2.1 ≤ q
theorem ax_w_get {g : ax_G} {h : ax_H} {a : Nat} (ha : a < h.1) : (ax_w g h)[a]? = some (g.2.1 + a, ax_e g h a) := by
  unfold ax_w
  rw [List.getElem?_map, List.getElem?_range ha]
  rfl
theorem ax_w_D {g : ax_G} {h : ax_H} : va_D (ax_A g) (ax_w g h) := by
  have key : ∀ (k : Nat) (q : Nat × va_E), (ax_w g h)[k]? = some q → q.1 = g.2.1 + k := by
    intro k q hq
    unfold ax_w at hq
    rw [List.getElem?_map] at hq
    by_cases hk : k < h.1
    · rw [List.getElem?_range hk] at hq
      cases hq
      rfl
    · rw [List.getElem?_eq_none (by simpa using Nat.not_lt.mp hk)] at hq
      cases hq
  refine ⟨fun i j p q hp hq he => ?_, fun k q hq => ?_⟩
  · rw [key i p hp, key j q hq] at he
    exact Nat.add_left_cancel he
  · show g.2.1 ≤ q.1
    rw [key k q hq]
    exact Nat.le_add_right _ _
theorem ax_s_lt {h : ax_H} {a kd : Nat} (hs : (ax_s h a).1 = kd) (hk : kd < 99) : a < h.1 ∧ (h.2.1 a).1 = kd ∧ (ax_s h a).2 = (h.2.1 a).2 := by
  unfold ax_s at hs ⊢
  by_cases ha : a < h.1
  · rw [if_pos ha] at hs ⊢
    exact ⟨ha, hs, rfl⟩
  · rw [if_neg ha] at hs
    subst hs
    exact absurd hk (by decide)
theorem ax_e_obj {g : ax_G} {h : ax_H} {a ci : Nat} (hs : (h.2.1 a).1 = ci) (hc : ci < 11) : ax_e g h a = .inr (ci, ax_fl g h (ax_ft ci) a) := by
  unfold ax_e
  rw [hs, if_pos hc]
theorem ax_e_arr {g : ax_G} {h : ax_H} {a kd : Nat} (hs : (h.2.1 a).1 = kd) (hc : ¬ kd < 11) : ax_e g h a = .inl (g.2.2.2.2 kd, (h.2.1 a).2, ax_c g h a kd) := by
  unfold ax_e
  rw [hs, if_neg hc]
theorem ax_ad_lt {g : ax_G} {a : Nat} (h : a < 1000000) : ax_ad g a = g.2.1 + a := if_pos h
theorem ax_fl_get {g : ax_G} {h : ax_H} {ts : List Nat} {a k t : Nat} (ht : ts[k]? = some t) : (ax_fl g h ts a)[k]? = some (if t = 0 then .int (ax_i h a k) else if t = 1 then .long (ax_l h a k) else va_rf ((ax_r h a k).map (ax_ad g))) := by
  unfold ax_fl
  rw [List.getElem?_mapIdx, ht]
  rfl
theorem ax_fl_len {g : ax_G} {h : ax_H} {ts : List Nat} {a : Nat} : (ax_fl g h ts a).length = ts.length := by
  unfold ax_fl
  exact List.length_mapIdx
/-- the world behind a write into one cell -/
theorem ax_w_set {g : ax_G} {h h' : ax_H} {a : Nat} {x : va_E} (hn : h'.1 = h.1) (hx : ax_e g h' a = x) (ho : ∀ b, b ≠ a → ax_e g h' b = ax_e g h b) : (ax_w g h).set a (g.2.1 + a, x) = ax_w g h' := by
  apply List.ext_getElem?
  intro i
  rw [List.getElem?_set]
  unfold ax_w
  rw [List.getElem?_map, List.getElem?_map, List.length_map, List.length_range, hn]
  by_cases hi : a = i
  · subst hi
    rw [if_pos rfl]
    by_cases hb : a < h.1
    · rw [if_pos hb, List.getElem?_range hb]
      show some (g.2.1 + a, x) = some (g.2.1 + a, ax_e g h' a)
      rw [hx]
    · rw [if_neg hb, List.getElem?_eq_none (by simpa using Nat.not_lt.mp hb)]
      rfl
  · rw [if_neg hi]
    by_cases hb : i < h.1
    · rw [List.getElem?_range hb]
      show some (g.2.1 + i, ax_e g h i) = some (g.2.1 + i, ax_e g h' i)
      rw [ho i (fun e => hi e.symm)]
    · rw [List.getElem?_eq_none (by simpa using Nat.not_lt.mp hb)]
      rfl
theorem ax_u_ne {α : Type} {f : Nat → Nat → α} {a k : Nat} {v : α} {b : Nat} (h : b ≠ a) : ax_u f a k v b = f b := if_neg h
theorem ax_u_eq {α : Type} {f : Nat → Nat → α} {a k : Nat} {v : α} : ax_u f a k v a = (fun j => if j = k then v else f a j) := if_pos rfl
theorem ax_fl_cong {g : ax_G} {h h' : ax_H} {ts : List Nat} {b : Nat} (hi : h'.2.2.1 b = h.2.2.1 b) (hl : h'.2.2.2.1 b = h.2.2.2.1 b) (hr : h'.2.2.2.2 b = h.2.2.2.2 b) : ax_fl g h' ts b = ax_fl g h ts b := by
  unfold ax_fl ax_i ax_l ax_r
  rw [hi, hl, hr]
theorem ax_e_cong {g : ax_G} {h h' : ax_H} {b : Nat} (hs : h'.2.1 b = h.2.1 b) (hi : h'.2.2.1 b = h.2.2.1 b) (hl : h'.2.2.2.1 b = h.2.2.2.1 b) (hr : h'.2.2.2.2 b = h.2.2.2.2 b) : ax_e g h' b = ax_e g h b := by
  unfold ax_e ax_c
  rw [hs, ax_fl_cong hi hl hr]
  unfold ax_i ax_l ax_r
  rw [hi, hl, hr]
theorem ax_fl_set {g : ax_G} {h h' : ax_H} {ts : List Nat} {a k t : Nat} {v : Value} (ht : ts[k]? = some t) (hv : (if t = 0 then Value.int (ax_i h' a k) else if t = 1 then .long (ax_l h' a k) else va_rf ((ax_r h' a k).map (ax_ad g))) = v) (ho : ∀ j u, j ≠ k → ts[j]? = some u → (if u = 0 then Value.int (ax_i h' a j) else if u = 1 then .long (ax_l h' a j) else va_rf ((ax_r h' a j).map (ax_ad g))) = (if u = 0 then Value.int (ax_i h a j) else if u = 1 then .long (ax_l h a j) else va_rf ((ax_r h a j).map (ax_ad g)))) : ax_fl g h' ts a = (ax_fl g h ts a).set k v := by
  apply List.ext_getElem?
  intro i
  rw [List.getElem?_set]
  by_cases hi : k = i
  · subst hi
    rw [if_pos rfl, if_pos (by rw [ax_fl_len]; exact (List.getElem?_eq_some_iff.mp ht).1), ax_fl_get ht, hv]
  · rw [if_neg hi]
    cases hu : ts[i]? with
    | none =>
      have e : ∀ h0 : ax_H, (ax_fl g h0 ts a)[i]? = none := fun h0 => by
        rw [List.getElem?_eq_none_iff, ax_fl_len]
        exact List.getElem?_eq_none_iff.mp hu
      rw [e, e]
    | some u => rw [ax_fl_get hu, ax_fl_get hu, ho i u (fun e => hi e.symm) hu]
end
end
section
section
/-! locals by place -/
def ax_as : Nat → List (Option Value) → List (Nat × Value)
  | _, [] => []
  | i, none :: r => ax_as (i + 1) r
  | i, some v :: r => (i, v) :: ax_as (i + 1) r
def ax_g : List (Option Value) → Nat → Option Value
  | [], _ => none
  | x :: _, 0 => x
  | _ :: r, n + 1 => ax_g r n
def ax_k2 (x : Option Value) : Option Value := match x with
  | some (.long _) => none
  | some (.double _) => none
  | x => x
def ax_st : List (Option Value) → Nat → Value → List (Option Value)
  | [], _, _ => []
  | _ :: r, 0, v => some v :: r
  | x :: r, 1, v => ax_k2 x :: ax_st r 0 v
  | x :: r, n + 2, v => x :: ax_st r (n + 1) v
def ax_st2 : List (Option Value) → Nat → Value → List (Option Value)
  | [], _, _ => []
  | [_], 0, _ => [none]
  | _ :: _ :: r, 0, v => some v :: none :: r
  | x :: r, 1, v => ax_k2 x :: ax_st2 r 0 v
  | x :: r, n + 2, v => x :: ax_st2 r (n + 1) v
theorem ax_as_mem : ∀ (L : List (Option Value)) (i j : Nat) (v : Value), (j, v) ∈ ax_as i L ↔ i ≤ j ∧ L[j - i]? = some (some v) := by
  intro L
  induction L with
  | nil => intro i j v; simp [ax_as]
  | cons x r ih =>
    intro i j v
    have key : ∀ y : Option Value, (i + 1 ≤ j ∧ r[j - (i + 1)]? = some (some v)) ↔ (i + 1 ≤ j ∧ (y :: r)[j - i]? = some (some v)) := by
      intro y
      constructor
      · rintro ⟨h1, h2⟩
        refine ⟨h1, ?_⟩
        have : j - i = (j - (i + 1)) + 1 := by omega
        rw [this, List.getElem?_cons_succ]
        exact h2
      · rintro ⟨h1, h2⟩
        refine ⟨h1, ?_⟩
        have : j - i = (j - (i + 1)) + 1 := by omega
        rw [this, List.getElem?_cons_succ] at h2
        exact h2
    cases x with
    | none =>
      rw [ax_as, ih, key none]
      constructor
      · rintro ⟨h1, h2⟩
        exact ⟨by omega, h2⟩
      · rintro ⟨h1, h2⟩
        rcases Nat.eq_or_lt_of_le h1 with e | e
        · subst e
          simp at h2
        · exact ⟨e, h2⟩
    | some w =>
      rw [ax_as, List.mem_cons, ih, key (some w)]
      constructor
      · rintro (h | ⟨h1, h2⟩)
        · cases h
          simp
        · exact ⟨by omega, h2⟩
      · rintro ⟨h1, h2⟩
        rcases Nat.eq_or_lt_of_le h1 with e | e
        · subst e
          simp at h2
          exact Or.inl (by rw [h2])
        · exact Or.inr ⟨e, h2⟩
theorem ax_g_get : ∀ (L : List (Option Value)) (i : Nat) (v : Value), ax_g L i = some v → L[i]? = some (some v) := by
  intro L
  induction L with
  | nil => intro i v h; simp [ax_g] at h
  | cons x r ih =>
    intro i v h
    cases i with
    | zero => simp [ax_g] at h; simp [h]
    | succ n => simp [ax_g] at h; simpa using ih n v h
theorem ax_k2_cat {x : Option Value} {w : Value} (h : ax_k2 x = some w) : x = some w ∧ ¬ w.category = 2 := by
  unfold ax_k2 at h
  split at h
  · cases h
  · cases h
  · rename_i h1 h2
    subst h
    refine ⟨rfl, ?_⟩
    cases w <;> simp [Value.category] <;> first | exact absurd rfl (h1 _) | exact absurd rfl (h2 _)
theorem ax_st_get : ∀ (L : List (Option Value)) (i : Nat) (v : Value) (j : Nat) (w : Value), (ax_st L i v)[j]? = some (some w) → (j = i ∧ w = v) ∨ (j ≠ i ∧ ¬ (j + 1 = i ∧ w.category = 2) ∧ L[j]? = some (some w)) := by
  intro L
  induction L with
  | nil => intro i v j w h; simp [ax_st] at h
  | cons x r ih =>
    intro i v j w h
    match i with
    | 0 =>
      cases j with
      | zero => simp [ax_st] at h; exact Or.inl ⟨rfl, h.symm⟩
      | succ j => simp [ax_st] at h; exact Or.inr ⟨by omega, by omega, by simpa using h⟩
    | 1 =>
      cases j with
      | zero =>
        simp [ax_st] at h
        obtain ⟨h1, h2⟩ := ax_k2_cat h
        exact Or.inr ⟨by omega, fun q => h2 q.2, by simp [h1]⟩
      | succ j =>
        simp [ax_st] at h
        rcases ih 0 v j w h with ⟨h1, h2⟩ | ⟨h1, h2, h3⟩
        · exact Or.inl ⟨by omega, h2⟩
        · exact Or.inr ⟨by omega, by omega, by simpa using h3⟩
    | n + 2 =>
      cases j with
      | zero => simp [ax_st] at h; exact Or.inr ⟨by omega, by omega, by simp [h]⟩
      | succ j =>
        simp [ax_st] at h
        rcases ih (n + 1) v j w h with ⟨h1, h2⟩ | ⟨h1, h2, h3⟩
        · exact Or.inl ⟨by omega, h2⟩
        · exact Or.inr ⟨by omega, fun q => h2 ⟨by omega, q.2⟩, by simpa using h3⟩
theorem ax_st2_get : ∀ (L : List (Option Value)) (i : Nat) (v : Value) (j : Nat) (w : Value), (ax_st2 L i v)[j]? = some (some w) → (j = i ∧ w = v) ∨ (j ≠ i ∧ j ≠ i + 1 ∧ ¬ (j + 1 = i ∧ w.category = 2) ∧ L[j]? = some (some w)) := by
  intro L
  induction L with
  | nil => intro i v j w h; simp [ax_st2] at h
  | cons x r ih =>
    intro i v j w h
    match i with
    | 0 =>
      cases r with
      | nil =>
        cases j with
        | zero => simp [ax_st2] at h
        | succ j => simp [ax_st2] at h
      | cons y r =>
        match j with
        | 0 => simp [ax_st2] at h; exact Or.inl ⟨rfl, h.symm⟩
        | 1 => simp [ax_st2] at h
        | j + 2 => simp [ax_st2] at h; exact Or.inr ⟨by omega, by omega, by omega, by simpa using h⟩
    | 1 =>
      cases j with
      | zero =>
        simp [ax_st2] at h
        obtain ⟨h1, h2⟩ := ax_k2_cat h
        exact Or.inr ⟨by omega, by omega, fun q => h2 q.2, by simp [h1]⟩
      | succ j =>
        simp [ax_st2] at h
        rcases ih 0 v j w h with ⟨h1, h2⟩ | ⟨h1, h2, h3, h4⟩
        · exact Or.inl ⟨by omega, h2⟩
        · exact Or.inr ⟨by omega, by omega, by omega, by simpa using h4⟩
    | n + 2 =>
      cases j with
      | zero => simp [ax_st2] at h; exact Or.inr ⟨by omega, by omega, by omega, by simp [h]⟩
      | succ j =>
        simp [ax_st2] at h
        rcases ih (n + 1) v j w h with ⟨h1, h2⟩ | ⟨h1, h2, h3, h4⟩
        · exact Or.inl ⟨by omega, h2⟩
        · exact Or.inr ⟨by omega, by omega, fun q => h3 ⟨by omega, q.2⟩, by simpa using h4⟩
/-- the machine's locals hold L's -/
def ax_lr (g : ax_G) (ls : Array Slot) (nL : Nat) (L : List (Option Value)) : Prop := lv_has ls nL (ax_as 0 (L.map (Option.map (ax_v g))))
theorem ax_v_cat (g : ax_G) (v : Value) : (ax_v g v).category = v.category := by cases v <;> rfl
theorem ax_lr_get {g : ax_G} {ls : Array Slot} {nL : Nat} {L : List (Option Value)} {i : Nat} {v : Value} (h : ax_lr g ls nL L) (hv : ax_g L i = some v) : ls[i]? = some (.val (ax_v g v)) := by
  refine h.2.2 (i, ax_v g v) ((ax_as_mem _ _ _ _).mpr ⟨Nat.zero_le _, ?_⟩)
  rw [Nat.sub_zero, List.getElem?_map, ax_g_get _ _ _ hv]
  rfl
theorem ax_map_get {g : ax_G} {L : List (Option Value)} {j : Nat} {w : Value} (h : (L.map (Option.map (ax_v g)))[j]? = some (some w)) : ∃ u, L[j]? = some (some u) ∧ w = ax_v g u := by
  rw [List.getElem?_map] at h
  cases hL : L[j]? with
  | none => rw [hL] at h; cases h
  | some x =>
    rw [hL] at h
    cases x with
    | none => cases h
    | some u => cases h; exact ⟨u, rfl, rfl⟩
theorem ax_lr_st {g : ax_G} {ls' : Array Slot} {nL : Nat} {L : List (Option Value)} {i : Nat} {v : Value} (h : lv_has ls' nL ((i, ax_v g v) :: (ax_as 0 (L.map (Option.map (ax_v g)))).filter (fun q => !(q.1 == i) && !(q.1 + 1 == i && q.2.category == 2)))) : ax_lr g ls' nL (ax_st L i v) := by
  refine ⟨h.1, h.2.1, fun q hq => h.2.2 q ?_⟩
  obtain ⟨j, w⟩ := q
  obtain ⟨-, h1⟩ := (ax_as_mem _ _ _ _).mp hq
  rw [Nat.sub_zero] at h1
  obtain ⟨u, h2, rfl⟩ := ax_map_get h1
  rcases ax_st_get _ _ _ _ _ h2 with ⟨rfl, rfl⟩ | ⟨h3, h4, h5⟩
  · exact List.mem_cons_self
  · refine List.mem_cons_of_mem _ (List.mem_filter.mpr ⟨(ax_as_mem _ _ _ _).mpr ⟨Nat.zero_le _, ?_⟩, ?_⟩)
    · rw [Nat.sub_zero, List.getElem?_map, h5]; rfl
    · have e1 : (j == i) = false := by simpa using h3
      show (!(j == i) && !(j + 1 == i && (ax_v g u).category == 2)) = true
      rw [e1, ax_v_cat]
      by_cases e2 : j + 1 = i
      · have : ¬ u.category = 2 := fun q => h4 ⟨e2, q⟩
        simp [this]
      · simp [e2]
theorem ax_lr_st2 {g : ax_G} {ls' : Array Slot} {nL : Nat} {L : List (Option Value)} {i : Nat} {v : Value} (h : lv_has ls' nL ((i, ax_v g v) :: (ax_as 0 (L.map (Option.map (ax_v g)))).filter (fun q => !(q.1 == i) && (!(q.1 == i + 1) && !(q.1 + 1 == i && q.2.category == 2))))) : ax_lr g ls' nL (ax_st2 L i v) := by
  refine ⟨h.1, h.2.1, fun q hq => h.2.2 q ?_⟩
  obtain ⟨j, w⟩ := q
  obtain ⟨-, h1⟩ := (ax_as_mem _ _ _ _).mp hq
  rw [Nat.sub_zero] at h1
  obtain ⟨u, h2, rfl⟩ := ax_map_get h1
  rcases ax_st2_get _ _ _ _ _ h2 with ⟨rfl, rfl⟩ | ⟨h3, h3', h4, h5⟩
  · exact List.mem_cons_self
  · refine List.mem_cons_of_mem _ (List.mem_filter.mpr ⟨(ax_as_mem _ _ _ _).mpr ⟨Nat.zero_le _, ?_⟩, ?_⟩)
    · rw [Nat.sub_zero, List.getElem?_map, h5]; rfl
    · have e1 : (j == i) = false := by simpa using h3
      have e3 : (j == i + 1) = false := by simpa using h3'
      show (!(j == i) && (!(j == i + 1) && !(j + 1 == i && (ax_v g u).category == 2))) = true
      rw [e1, e3, ax_v_cat]
      by_cases e2 : j + 1 = i
      · have : ¬ u.category = 2 := fun q => h4 ⟨e2, q⟩
        simp [this]
      · simp [e2]
/-- the locals at a method's entry -/
def ax_en : List Value → Nat → List (Option Value)
  | [], n => List.replicate n none
  | v :: r, n => if v.category = 2 then some v :: none :: ax_en r (n - 2) else some v :: ax_en r (n - 1)
theorem ax_en_mem : ∀ (vs : List Value) (n i j : Nat) (w : Value), (j, w) ∈ ax_as i (ax_en vs n) → (j, w) ∈ lv_args i vs := by
  intro vs
  induction vs with
  | nil =>
    intro n i j w h
    exfalso
    obtain ⟨-, h1⟩ := (ax_as_mem _ _ _ _).mp h
    simp only [ax_en, List.getElem?_replicate] at h1
    split at h1 <;> cases h1
  | cons v r ih =>
    intro n i j w h
    unfold ax_en at h
    unfold lv_args
    by_cases hc : v.category = 2
    · rw [if_pos hc] at h
      simp only [ax_as] at h
      rcases List.mem_cons.mp h with h | h
      · cases h; first | exact List.mem_cons_self | (simp)
      · have := ih (n - 2) (i + 1 + 1) j w h
        first | (rw [if_pos hc]; exact List.mem_cons_of_mem _ this) | (simp [hc]; exact Or.inr this) | (refine List.mem_cons_of_mem _ ?_; simpa [hc] using this)
    · rw [if_neg hc] at h
      simp only [ax_as] at h
      rcases List.mem_cons.mp h with h | h
      · cases h; first | exact List.mem_cons_self | (simp)
      · have := ih (n - 1) (i + 1) j w h
        have hc1 : v.category = 1 := by cases v <;> first | rfl | exact absurd rfl hc
        first | (rw [if_neg hc]; exact List.mem_cons_of_mem _ this) | (refine List.mem_cons_of_mem _ ?_; simpa [hc1] using this)
end
end
section
section
/-! a state: place in the code, locals, stack, heap, new cells and slots so far; an operation: what must hold at a state so that K holds at what comes -/
/-- the words of the tables that hold in every callee -/
def lw_gd : List Cond := lw_tbl.filter goodWord
theorem lw_gd_in {i : Nat} {w : Cond} (h : lw_tbl[i]? = some w) (hg : goodWord w = true) : w ∈ lw_gd := List.mem_filter.mpr ⟨List.mem_of_getElem? h, hg⟩
abbrev ax_S : Type := Nat × List (Option Value) × List Value × ax_H × Nat × Nat
abbrev ax_O : Type := (Option Value → ax_H → Prop) → ax_S → (ax_S → Prop) → Prop
def ax_rm (d mc ms : Nat) : Room := { frames := d, cells := mc, slots := ms, locals := 41 * d + 32 }
def ax_sa : List (String × String × List Int32) := [("GluedHour", "LINES_MOST", [0, 14, 6, 8, 6]), ("GluedHour", "LINE_WIDTH", [0, 1, 3, 2, 3]), ("GluedHour$Reader", "VERB_SORT", [0, 0, 0, 0, 0, 0, 1, 2, 3, 4, 4]), ("GluedHour$Reader", "NUMBERS", [1, 2, 2, 1, 3, 3, 1, 3, 2, 3, 3]), ("GluedHour$Reader", "LOWEST", [2, 0, 0, 0, 0, 0, 0, 0, 0, 0, 0, 0, 0, 0, 0, 0, 0, 0, 0, 0, 0, 0, 0, 0, 0, 1, 0, 1, 0, 0, 1, 0, 0]), ("GluedHour$Reader", "HIGHEST", [12, 0, 0, 5, 99, 0, 5, 99, 0, 999, 0, 0, 5, 11, 5, 5, 11, 9, 11, 0, 0, 5, 11, 11, 11, 9, 0, 3, 5, 999, 3, 5, 999])]
/-- the String constants of the reader: entry of its pool, text -/
def ax_ss : List (Nat × String) := [(125, "twice"), (131, "once"), (133, "undone"), (173, "hours"), (174, "gain"), (176, "loss"), (178, "person"), (180, "does"), (182, "lot"), (184, "stuck"), (186, "errand"), (188, "train"), (190, "has"), (192, "owes")]
def ax_sl : List Nat := [5, 4, 6, 5, 4, 4, 6, 4, 3, 5, 6, 5, 3, 4]
def ax_sb : List (List Int32) := [[116, 119, 105, 99, 101], [111, 110, 99, 101], [117, 110, 100, 111, 110, 101], [104, 111, 117, 114, 115], [103, 97, 105, 110], [108, 111, 115, 115], [112, 101, 114, 115, 111, 110], [100, 111, 101, 115], [108, 111, 116], [115, 116, 117, 99, 107], [101, 114, 114, 97, 110, 100], [116, 114, 97, 105, 110], [104, 97, 115], [111, 119, 101, 115]]
def ax_nf : List (String × Nat × String × String × String × String) := [("GluedHour$Lines", 15, "GluedHour", "LINES_MOST", "[I", "GluedHour"), ("GluedHour$Lines", 22, "GluedHour", "LINE_WIDTH", "[I", "GluedHour")]
def ax_nm : List (String × Nat × MethodName × String) := [("GluedHour", 35, ⟨"GluedHour$Course", "<init>", "()V"⟩, "GluedHour"), ("GluedHour", 42, ⟨"GluedHour$Odds", "<init>", "()V"⟩, "GluedHour"), ("GluedHour", 52, ⟨"GluedHour$Planner", "<init>", "()V"⟩, "GluedHour"), ("GluedHour", 66, ⟨"GluedHour$Fraction", "<init>", "()V"⟩, "GluedHour"), ("GluedHour$Planner", 41, ⟨"GluedHour$Odds", "<init>", "()V"⟩, "GluedHour"), ("GluedHour$Search", 31, ⟨"GluedHour$Odds", "<init>", "()V"⟩, "GluedHour")]
def ax_ao : List String := ["GluedHour$Lines", "GluedHour$Odds", "GluedHour$Republic", "GluedHour$Told"]
/-- the static arrays and String constants, as they stand below the new cells -/
def ax_Z (g : ax_G) (s : State) (H : Heap) : Prop := (∀ (j : Nat) (q : String × String × List Int32), ax_sa[j]? = some q → va_Z q.1 q.2.1 "[I" (.ref (ax_ad g (1000000 + j))) (ax_A g) s H ∧ va_T .int (ax_ad g (1000000 + j)) q.2.2.length (fun k => .int (q.2.2.getD k 0)) (ax_A g) s H) ∧ vk_S 14 ax_sl ax_sb (fun i => ax_ad g (1000100 + i)) (fun i => ax_ad g (1000200 + i)) (ax_A g) s H ∧ (∀ (i : Nat) (q : Nat × String), ax_ss[i]? = some q → vk_R "GluedHour$Reader" q.1 q.2 (ax_ad g (1000100 + i)) s) ∧ va_Z "java/lang/String" "COMPACT_STRINGS" "Z" (.int 1) (ax_A g) s H ∧ va_X (ax_ad g 1000300) (g.2.2.1 400) (fun j => Int32.ofNat (g.2.2.1 (1000 + j))) s H ∧ (¬ ax_A g (ax_ad g 1000300)) ∧ (∀ q ∈ ax_nf, va_Nw (.fieldLinkNest q.1 q.2.1 q.2.2.1 q.2.2.2.1 q.2.2.2.2.1 q.2.2.2.2.2) s) ∧ (∀ q ∈ ax_nm, va_Nw (.methodLinkNest q.1 q.2.1 q.2.2.1 q.2.2.2) s) ∧ ∀ C ∈ ax_ao, va_AO C s
theorem ax_Z_moved {g : ax_G} {s U : State} {H H1 : Heap} (h : ax_Z g s H) (hvm : s.vm.Alike U.vm) (hR : U.vm = s.vm ∨ s.WarmedH U.vm) (hq : ∀ a : Nat, a < H.size → ¬ ax_A g a → H1[a]? = H[a]?) : ax_Z g U H1 := ⟨fun j q hj => ⟨((h.1 j q hj).1.kept hq).moved hvm, ((h.1 j q hj).2.kept hq).moved hvm⟩, (h.2.1.kept hq).moved hvm, fun i q hi => hR.elim (fun z => vk_R.same z (h.2.2.1 i q hi)) (fun z => vk_R.warm z (h.2.2.1 i q hi)), (h.2.2.2.1.kept hq).moved hvm, (h.2.2.2.2.1.kept (hq _ (by obtain ⟨_, h1, _⟩ := h.2.2.2.2.1; exact (Array.getElem?_eq_some_iff.mp h1).1) h.2.2.2.2.2.1)).moved hvm, h.2.2.2.2.2.1, fun q hq => hR.elim (fun z => va_Nw.same rfl z.symm (h.2.2.2.2.2.2.1 q hq)) (fun z => va_Nw.warmF z (h.2.2.2.2.2.2.1 q hq)), fun q hq => hR.elim (fun z => va_Nw.same rfl z.symm (h.2.2.2.2.2.2.2.1 q hq)) (fun z => va_Nw.warmM z (h.2.2.2.2.2.2.2.1 q hq)), fun C hC => (h.2.2.2.2.2.2.2.2 C hC).moved hvm⟩
def ax_V (g : ax_G) (cc : ByteArray) (nL : Nat) (ret : Option FieldType) (own nm : String) (p : Program) (s : State) (m : MethodId) (args : Array Value) (meth : Method) (c : Code) : Prop := p.tables.exec = Jvm.exec ∧ c.code = cc ∧ meth.sig.returnType = ret ∧ meth.locks = false ∧ c.maxLocals = nL ∧ s.vm.findClass own = some m.cls ∧ meth.name = nm ∧ (∀ w ∈ lw_gd, w.before args s = true) ∧ ax_K g s ∧ g.2.1 ≤ s.heap.size ∧ ax_Z g s s.heap
def ax_Q (g : ax_G) (Ret : Option Value → ax_H → Prop) : Array Value → State → Outcome → State → Prop := fun _ st oc t => (∃ (v : Option Value) (h' : ax_H), oc = .returned (v.map (ax_v g)) ∧ Ret v h' ∧ ax_P g h' t.heap) ∧ va_F (ax_A g) st t
def ax_W (g : ax_G) (nL d mc ms : Nat) (p : Program) (e : Env) (s : State) (m : MethodId) (args : Array Value) (below : List Frame) (meth : Method) (c : Code) (Ret : Option Value → ax_H → Prop) : ax_S → Prop := fun σ => ∀ (H : Heap) (locs : List Loc) (ls : Array Slot), ax_P g σ.2.2.2.1 H → va_S (ax_A g) s.heap H locs → ax_lr g ls nL σ.2.1 → W p g.1 e (ax_rm d mc ms) s m args below meth c H locs σ.2.2.2.2.1 σ.2.2.2.2.2 (MQ below (ax_Q g Ret) args s mc ms (ax_A g)) (F0 m σ.1 ls (σ.2.2.1.map (ax_v g)))
/-- an operation is sound at a place of a code -/
def ax_ok (g : ax_G) (cc : ByteArray) (nL : Nat) (ret : Option FieldType) (own nm : String) (d mc ms pc : Nat) (o : ax_O) : Prop := ∀ (p : Program) (e : Env) (s : State) (m : MethodId) (args : Array Value) (below : List Frame) (meth : Method) (c : Code), ax_V g cc nL ret own nm p s m args meth c → ∀ (Ret : Option Value → ax_H → Prop) (L : List (Option Value)) (st : List Value) (h : ax_H) (u1 u2 : Nat) (K : ax_S → Prop), o Ret (pc, L, st, h, u1, u2) K → (∀ σ, K σ → ax_W g nL d mc ms p e s m args below meth c Ret σ) → ax_W g nL d mc ms p e s m args below meth c Ret (pc, L, st, h, u1, u2)
def ao_no : ax_O := fun _ _ _ => False
variable {g : ax_G} {cc : ByteArray} {nL : Nat} {ret : Option FieldType} {own nm : String} {d mc ms pc : Nat}
theorem ak_no : ax_ok g cc nL ret own nm d mc ms pc ao_no := fun _ _ _ _ _ _ _ _ _ _ _ _ _ _ _ _ ho => ho.elim

def ao_iadd : ax_O := fun _ σ K => match σ with
  | (pc, L, st, h, u1, u2) => match st with
    | .int y :: .int x :: r => K (pc + 1, L, .int (x + y) :: r, h, u1, u2)
    | _ => False
theorem ak_iadd (hd : decode cc pc = .ok (.iadd, 1)) : ax_ok g cc nL ret own nm d mc ms pc (ao_iadd) := by
  intro p e s m args below meth c V Ret L st h u1 u2 K ho hK H locs ls hP hS hl
  dsimp only [ao_iadd] at ho
  split at ho
  · exact lv_iadd V.1 V.2.1 hd (hK _ ho H locs ls hP hS hl)
  · exact ho.elim
def ao_isub : ax_O := fun _ σ K => match σ with
  | (pc, L, st, h, u1, u2) => match st with
    | .int y :: .int x :: r => K (pc + 1, L, .int (x - y) :: r, h, u1, u2)
    | _ => False
theorem ak_isub (hd : decode cc pc = .ok (.isub, 1)) : ax_ok g cc nL ret own nm d mc ms pc (ao_isub) := by
  intro p e s m args below meth c V Ret L st h u1 u2 K ho hK H locs ls hP hS hl
  dsimp only [ao_isub] at ho
  split at ho
  · exact lv_isub V.1 V.2.1 hd (hK _ ho H locs ls hP hS hl)
  · exact ho.elim
def ao_imul : ax_O := fun _ σ K => match σ with
  | (pc, L, st, h, u1, u2) => match st with
    | .int y :: .int x :: r => K (pc + 1, L, .int (x * y) :: r, h, u1, u2)
    | _ => False
theorem ak_imul (hd : decode cc pc = .ok (.imul, 1)) : ax_ok g cc nL ret own nm d mc ms pc (ao_imul) := by
  intro p e s m args below meth c V Ret L st h u1 u2 K ho hK H locs ls hP hS hl
  dsimp only [ao_imul] at ho
  split at ho
  · exact lv_imul V.1 V.2.1 hd (hK _ ho H locs ls hP hS hl)
  · exact ho.elim
def ao_iand : ax_O := fun _ σ K => match σ with
  | (pc, L, st, h, u1, u2) => match st with
    | .int y :: .int x :: r => K (pc + 1, L, .int (x &&& y) :: r, h, u1, u2)
    | _ => False
theorem ak_iand (hd : decode cc pc = .ok (.iand, 1)) : ax_ok g cc nL ret own nm d mc ms pc (ao_iand) := by
  intro p e s m args below meth c V Ret L st h u1 u2 K ho hK H locs ls hP hS hl
  dsimp only [ao_iand] at ho
  split at ho
  · exact lv_iand V.1 V.2.1 hd (hK _ ho H locs ls hP hS hl)
  · exact ho.elim
def ao_ior : ax_O := fun _ σ K => match σ with
  | (pc, L, st, h, u1, u2) => match st with
    | .int y :: .int x :: r => K (pc + 1, L, .int (x ||| y) :: r, h, u1, u2)
    | _ => False
theorem ak_ior (hd : decode cc pc = .ok (.ior, 1)) : ax_ok g cc nL ret own nm d mc ms pc (ao_ior) := by
  intro p e s m args below meth c V Ret L st h u1 u2 K ho hK H locs ls hP hS hl
  dsimp only [ao_ior] at ho
  split at ho
  · exact lv_ior V.1 V.2.1 hd (hK _ ho H locs ls hP hS hl)
  · exact ho.elim
def ao_ixor : ax_O := fun _ σ K => match σ with
  | (pc, L, st, h, u1, u2) => match st with
    | .int y :: .int x :: r => K (pc + 1, L, .int (x ^^^ y) :: r, h, u1, u2)
    | _ => False
theorem ak_ixor (hd : decode cc pc = .ok (.ixor, 1)) : ax_ok g cc nL ret own nm d mc ms pc (ao_ixor) := by
  intro p e s m args below meth c V Ret L st h u1 u2 K ho hK H locs ls hP hS hl
  dsimp only [ao_ixor] at ho
  split at ho
  · exact lv_ixor V.1 V.2.1 hd (hK _ ho H locs ls hP hS hl)
  · exact ho.elim
def ao_ishl : ax_O := fun _ σ K => match σ with
  | (pc, L, st, h, u1, u2) => match st with
    | .int y :: .int x :: r => K (pc + 1, L, .int (x <<< (y &&& 31)) :: r, h, u1, u2)
    | _ => False
theorem ak_ishl (hd : decode cc pc = .ok (.ishl, 1)) : ax_ok g cc nL ret own nm d mc ms pc (ao_ishl) := by
  intro p e s m args below meth c V Ret L st h u1 u2 K ho hK H locs ls hP hS hl
  dsimp only [ao_ishl] at ho
  split at ho
  · exact lv_ishl V.1 V.2.1 hd (hK _ ho H locs ls hP hS hl)
  · exact ho.elim
def ao_ishr : ax_O := fun _ σ K => match σ with
  | (pc, L, st, h, u1, u2) => match st with
    | .int y :: .int x :: r => K (pc + 1, L, .int (x >>> (y &&& 31)) :: r, h, u1, u2)
    | _ => False
theorem ak_ishr (hd : decode cc pc = .ok (.ishr, 1)) : ax_ok g cc nL ret own nm d mc ms pc (ao_ishr) := by
  intro p e s m args below meth c V Ret L st h u1 u2 K ho hK H locs ls hP hS hl
  dsimp only [ao_ishr] at ho
  split at ho
  · exact lv_ishr V.1 V.2.1 hd (hK _ ho H locs ls hP hS hl)
  · exact ho.elim
def ao_iushr : ax_O := fun _ σ K => match σ with
  | (pc, L, st, h, u1, u2) => match st with
    | .int y :: .int x :: r => K (pc + 1, L, .int ((x.toUInt32 >>> (y.toUInt32 &&& Int32.toUInt32 31)).toInt32) :: r, h, u1, u2)
    | _ => False
theorem ak_iushr (hd : decode cc pc = .ok (.iushr, 1)) : ax_ok g cc nL ret own nm d mc ms pc (ao_iushr) := by
  intro p e s m args below meth c V Ret L st h u1 u2 K ho hK H locs ls hP hS hl
  dsimp only [ao_iushr] at ho
  split at ho
  · exact lv_iushr V.1 V.2.1 hd rfl (hK _ ho H locs ls hP hS hl)
  · exact ho.elim
def ao_idiv : ax_O := fun _ σ K => match σ with
  | (pc, L, st, h, u1, u2) => match st with
    | .int y :: .int x :: r => (¬ y = 0) ∧ K (pc + 1, L, .int (x / y) :: r, h, u1, u2)
    | _ => False
theorem ak_idiv (hd : decode cc pc = .ok (.idiv, 1)) : ax_ok g cc nL ret own nm d mc ms pc (ao_idiv) := by
  intro p e s m args below meth c V Ret L st h u1 u2 K ho hK H locs ls hP hS hl
  dsimp only [ao_idiv] at ho
  split at ho
  · exact lv_idiv V.1 V.2.1 hd ho.1 (hK _ ho.2 H locs ls hP hS hl)
  · exact ho.elim
def ao_irem : ax_O := fun _ σ K => match σ with
  | (pc, L, st, h, u1, u2) => match st with
    | .int y :: .int x :: r => (¬ y = 0) ∧ K (pc + 1, L, .int (x - x / y * y) :: r, h, u1, u2)
    | _ => False
theorem ak_irem (hd : decode cc pc = .ok (.irem, 1)) : ax_ok g cc nL ret own nm d mc ms pc (ao_irem) := by
  intro p e s m args below meth c V Ret L st h u1 u2 K ho hK H locs ls hP hS hl
  dsimp only [ao_irem] at ho
  split at ho
  · exact lv_irem V.1 V.2.1 hd ho.1 (hK _ ho.2 H locs ls hP hS hl)
  · exact ho.elim
def ao_ladd : ax_O := fun _ σ K => match σ with
  | (pc, L, st, h, u1, u2) => match st with
    | .long y :: .long x :: r => K (pc + 1, L, .long (x + y) :: r, h, u1, u2)
    | _ => False
theorem ak_ladd (hd : decode cc pc = .ok (.ladd, 1)) : ax_ok g cc nL ret own nm d mc ms pc (ao_ladd) := by
  intro p e s m args below meth c V Ret L st h u1 u2 K ho hK H locs ls hP hS hl
  dsimp only [ao_ladd] at ho
  split at ho
  · exact lv_ladd V.1 V.2.1 hd (hK _ ho H locs ls hP hS hl)
  · exact ho.elim
def ao_lsub : ax_O := fun _ σ K => match σ with
  | (pc, L, st, h, u1, u2) => match st with
    | .long y :: .long x :: r => K (pc + 1, L, .long (x - y) :: r, h, u1, u2)
    | _ => False
theorem ak_lsub (hd : decode cc pc = .ok (.lsub, 1)) : ax_ok g cc nL ret own nm d mc ms pc (ao_lsub) := by
  intro p e s m args below meth c V Ret L st h u1 u2 K ho hK H locs ls hP hS hl
  dsimp only [ao_lsub] at ho
  split at ho
  · exact lv_lsub V.1 V.2.1 hd (hK _ ho H locs ls hP hS hl)
  · exact ho.elim
def ao_lmul : ax_O := fun _ σ K => match σ with
  | (pc, L, st, h, u1, u2) => match st with
    | .long y :: .long x :: r => K (pc + 1, L, .long (x * y) :: r, h, u1, u2)
    | _ => False
theorem ak_lmul (hd : decode cc pc = .ok (.lmul, 1)) : ax_ok g cc nL ret own nm d mc ms pc (ao_lmul) := by
  intro p e s m args below meth c V Ret L st h u1 u2 K ho hK H locs ls hP hS hl
  dsimp only [ao_lmul] at ho
  split at ho
  · exact lv_lmul V.1 V.2.1 hd (hK _ ho H locs ls hP hS hl)
  · exact ho.elim
def ao_lor : ax_O := fun _ σ K => match σ with
  | (pc, L, st, h, u1, u2) => match st with
    | .long y :: .long x :: r => K (pc + 1, L, .long (x ||| y) :: r, h, u1, u2)
    | _ => False
theorem ak_lor (hd : decode cc pc = .ok (.lor, 1)) : ax_ok g cc nL ret own nm d mc ms pc (ao_lor) := by
  intro p e s m args below meth c V Ret L st h u1 u2 K ho hK H locs ls hP hS hl
  dsimp only [ao_lor] at ho
  split at ho
  · exact lv_lor V.1 V.2.1 hd (hK _ ho H locs ls hP hS hl)
  · exact ho.elim
def ao_ldiv : ax_O := fun _ σ K => match σ with
  | (pc, L, st, h, u1, u2) => match st with
    | .long y :: .long x :: r => (¬ y = 0) ∧ K (pc + 1, L, .long (x / y) :: r, h, u1, u2)
    | _ => False
theorem ak_ldiv (hd : decode cc pc = .ok (.ldiv, 1)) : ax_ok g cc nL ret own nm d mc ms pc (ao_ldiv) := by
  intro p e s m args below meth c V Ret L st h u1 u2 K ho hK H locs ls hP hS hl
  dsimp only [ao_ldiv] at ho
  split at ho
  · exact lv_ldiv V.1 V.2.1 hd ho.1 (hK _ ho.2 H locs ls hP hS hl)
  · exact ho.elim
def ao_lrem : ax_O := fun _ σ K => match σ with
  | (pc, L, st, h, u1, u2) => match st with
    | .long y :: .long x :: r => (¬ y = 0) ∧ K (pc + 1, L, .long (x - x / y * y) :: r, h, u1, u2)
    | _ => False
theorem ak_lrem (hd : decode cc pc = .ok (.lrem, 1)) : ax_ok g cc nL ret own nm d mc ms pc (ao_lrem) := by
  intro p e s m args below meth c V Ret L st h u1 u2 K ho hK H locs ls hP hS hl
  dsimp only [ao_lrem] at ho
  split at ho
  · exact lv_lrem V.1 V.2.1 hd ho.1 (hK _ ho.2 H locs ls hP hS hl)
  · exact ho.elim
def ao_lcmp : ax_O := fun _ σ K => match σ with
  | (pc, L, st, h, u1, u2) => match st with
    | .long y :: .long x :: r => K (pc + 1, L, .int (lg_cmp x y) :: r, h, u1, u2)
    | _ => False
theorem ak_lcmp (hd : decode cc pc = .ok (.lcmp, 1)) : ax_ok g cc nL ret own nm d mc ms pc (ao_lcmp) := by
  intro p e s m args below meth c V Ret L st h u1 u2 K ho hK H locs ls hP hS hl
  dsimp only [ao_lcmp] at ho
  split at ho
  · exact W.lcmp V.1 V.2.1 hd (hK _ ho H locs ls hP hS hl)
  · exact ho.elim
def ao_lshl : ax_O := fun _ σ K => match σ with
  | (pc, L, st, h, u1, u2) => match st with
    | .int y :: .long x :: r => K (pc + 1, L, .long (x <<< (y.toInt64 &&& 63)) :: r, h, u1, u2)
    | _ => False
theorem ak_lshl (hd : decode cc pc = .ok (.lshl, 1)) : ax_ok g cc nL ret own nm d mc ms pc (ao_lshl) := by
  intro p e s m args below meth c V Ret L st h u1 u2 K ho hK H locs ls hP hS hl
  dsimp only [ao_lshl] at ho
  split at ho
  · exact lv_lshl V.1 V.2.1 hd rfl (hK _ ho H locs ls hP hS hl)
  · exact ho.elim
def ao_lshr : ax_O := fun _ σ K => match σ with
  | (pc, L, st, h, u1, u2) => match st with
    | .int y :: .long x :: r => K (pc + 1, L, .long (x >>> (y.toInt64 &&& 63)) :: r, h, u1, u2)
    | _ => False
theorem ak_lshr (hd : decode cc pc = .ok (.lshr, 1)) : ax_ok g cc nL ret own nm d mc ms pc (ao_lshr) := by
  intro p e s m args below meth c V Ret L st h u1 u2 K ho hK H locs ls hP hS hl
  dsimp only [ao_lshr] at ho
  split at ho
  · exact lv_lshr V.1 V.2.1 hd rfl (hK _ ho H locs ls hP hS hl)
  · exact ho.elim
def ao_ineg : ax_O := fun _ σ K => match σ with
  | (pc, L, st, h, u1, u2) => match st with
    | .int x :: r => K (pc + 1, L, .int (-x) :: r, h, u1, u2)
    | _ => False
theorem ak_ineg (hd : decode cc pc = .ok (.ineg, 1)) : ax_ok g cc nL ret own nm d mc ms pc (ao_ineg) := by
  intro p e s m args below meth c V Ret L st h u1 u2 K ho hK H locs ls hP hS hl
  dsimp only [ao_ineg] at ho
  split at ho
  · exact lv_ineg V.1 V.2.1 hd (hK _ ho H locs ls hP hS hl)
  · exact ho.elim
def ao_lneg : ax_O := fun _ σ K => match σ with
  | (pc, L, st, h, u1, u2) => match st with
    | .long x :: r => K (pc + 1, L, .long (-x) :: r, h, u1, u2)
    | _ => False
theorem ak_lneg (hd : decode cc pc = .ok (.lneg, 1)) : ax_ok g cc nL ret own nm d mc ms pc (ao_lneg) := by
  intro p e s m args below meth c V Ret L st h u1 u2 K ho hK H locs ls hP hS hl
  dsimp only [ao_lneg] at ho
  split at ho
  · exact lv_lneg V.1 V.2.1 hd (hK _ ho H locs ls hP hS hl)
  · exact ho.elim
def ao_i2l : ax_O := fun _ σ K => match σ with
  | (pc, L, st, h, u1, u2) => match st with
    | .int x :: r => K (pc + 1, L, .long x.toInt64 :: r, h, u1, u2)
    | _ => False
theorem ak_i2l (hd : decode cc pc = .ok (.i2l, 1)) : ax_ok g cc nL ret own nm d mc ms pc (ao_i2l) := by
  intro p e s m args below meth c V Ret L st h u1 u2 K ho hK H locs ls hP hS hl
  dsimp only [ao_i2l] at ho
  split at ho
  · exact lv_i2l V.1 V.2.1 hd rfl (hK _ ho H locs ls hP hS hl)
  · exact ho.elim
def ao_l2i : ax_O := fun _ σ K => match σ with
  | (pc, L, st, h, u1, u2) => match st with
    | .long x :: r => K (pc + 1, L, .int x.toInt32 :: r, h, u1, u2)
    | _ => False
theorem ak_l2i (hd : decode cc pc = .ok (.l2i, 1)) : ax_ok g cc nL ret own nm d mc ms pc (ao_l2i) := by
  intro p e s m args below meth c V Ret L st h u1 u2 K ho hK H locs ls hP hS hl
  dsimp only [ao_l2i] at ho
  split at ho
  · exact lv_l2i V.1 V.2.1 hd rfl (hK _ ho H locs ls hP hS hl)
  · exact ho.elim
def ao_i2b : ax_O := fun _ σ K => match σ with
  | (pc, L, st, h, u1, u2) => match st with
    | .int x :: r => K (pc + 1, L, .int x.toInt8.toInt32 :: r, h, u1, u2)
    | _ => False
theorem ak_i2b (hd : decode cc pc = .ok (.i2b, 1)) : ax_ok g cc nL ret own nm d mc ms pc (ao_i2b) := by
  intro p e s m args below meth c V Ret L st h u1 u2 K ho hK H locs ls hP hS hl
  dsimp only [ao_i2b] at ho
  split at ho
  · exact lv_i2b V.1 V.2.1 hd rfl (hK _ ho H locs ls hP hS hl)
  · exact ho.elim
def ao_i2c : ax_O := fun _ σ K => match σ with
  | (pc, L, st, h, u1, u2) => match st with
    | .int x :: r => K (pc + 1, L, .int (x.toUInt32 % 65536).toInt32 :: r, h, u1, u2)
    | _ => False
theorem ak_i2c (hd : decode cc pc = .ok (.i2c, 1)) : ax_ok g cc nL ret own nm d mc ms pc (ao_i2c) := by
  intro p e s m args below meth c V Ret L st h u1 u2 K ho hK H locs ls hP hS hl
  dsimp only [ao_i2c] at ho
  split at ho
  · exact lv_i2c V.1 V.2.1 hd rfl (hK _ ho H locs ls hP hS hl)
  · exact ho.elim
def ao_dup : ax_O := fun _ σ K => match σ with
  | (pc, L, st, h, u1, u2) => match st with
    | v :: r => v.category = 1 ∧ K (pc + 1, L, v :: v :: r, h, u1, u2)
    | _ => False
theorem ak_dup (hd : decode cc pc = .ok (.dup, 1)) : ax_ok g cc nL ret own nm d mc ms pc (ao_dup) := by
  intro p e s m args below meth c V Ret L st h u1 u2 K ho hK H locs ls hP hS hl
  dsimp only [ao_dup] at ho
  split at ho
  · exact lv_dup V.1 V.2.1 hd ((ax_v_cat g _).trans ho.1) (hK _ ho.2 H locs ls hP hS hl)
  · exact ho.elim
def ao_pop : ax_O := fun _ σ K => match σ with
  | (pc, L, st, h, u1, u2) => match st with
    | v :: r => v.category = 1 ∧ K (pc + 1, L, r, h, u1, u2)
    | _ => False
theorem ak_pop (hd : decode cc pc = .ok (.pop, 1)) : ax_ok g cc nL ret own nm d mc ms pc (ao_pop) := by
  intro p e s m args below meth c V Ret L st h u1 u2 K ho hK H locs ls hP hS hl
  dsimp only [ao_pop] at ho
  split at ho
  · exact lv_pop V.1 V.2.1 hd ((ax_v_cat g _).trans ho.1) (hK _ ho.2 H locs ls hP hS hl)
  · exact ho.elim
def ao_dup2 : ax_O := fun _ σ K => match σ with
  | (pc, L, st, h, u1, u2) => match st with
    | v :: w :: r => (v.category = 1 ∧ w.category = 1) ∧ K (pc + 1, L, v :: w :: v :: w :: r, h, u1, u2)
    | _ => False
theorem ak_dup2 (hd : decode cc pc = .ok (.dup2, 1)) : ax_ok g cc nL ret own nm d mc ms pc (ao_dup2) := by
  intro p e s m args below meth c V Ret L st h u1 u2 K ho hK H locs ls hP hS hl
  dsimp only [ao_dup2] at ho
  split at ho
  · exact lv_dup2_11 V.1 V.2.1 hd ((ax_v_cat g _).trans ho.1.1) ((ax_v_cat g _).trans ho.1.2) (hK _ ho.2 H locs ls hP hS hl)
  · exact ho.elim
def ao_ic (v : Int32) (len : Nat) : ax_O := fun _ σ K => match σ with
  | (pc, L, st, h, u1, u2) => K (pc + len, L, .int v :: st, h, u1, u2)
def ao_lc (v : Int64) (len : Nat) : ax_O := fun _ σ K => match σ with
  | (pc, L, st, h, u1, u2) => K (pc + len, L, .long v :: st, h, u1, u2)
def ao_null : ax_O := fun _ σ K => match σ with
  | (pc, L, st, h, u1, u2) => K (pc + 1, L, .null :: st, h, u1, u2)
theorem ak_iconst {n : Int} {v : Int32} (hv : Int32.ofInt n = v) (hd : decode cc pc = .ok (.iconst n, 1)) : ax_ok g cc nL ret own nm d mc ms pc (ao_ic v 1) := by
  intro p e s m args below meth c V Ret L st h u1 u2 K ho hK H locs ls hP hS hl
  dsimp only [ao_ic] at ho
  exact lv_iconst V.1 V.2.1 hd hv (hK _ ho H locs ls hP hS hl)
theorem ak_bipush {n : Int} {v : Int32} (hv : (Int8.ofInt n).toInt32 = v) (hd : decode cc pc = .ok (.bipush n, 2)) : ax_ok g cc nL ret own nm d mc ms pc (ao_ic v 2) := by
  intro p e s m args below meth c V Ret L st h u1 u2 K ho hK H locs ls hP hS hl
  dsimp only [ao_ic] at ho
  exact lv_bipush V.1 V.2.1 hd hv (hK _ ho H locs ls hP hS hl)
theorem ak_sipush {n : Int} {v : Int32} (hv : (Int16.ofInt n).toInt32 = v) (hd : decode cc pc = .ok (.sipush n, 3)) : ax_ok g cc nL ret own nm d mc ms pc (ao_ic v 3) := by
  intro p e s m args below meth c V Ret L st h u1 u2 K ho hK H locs ls hP hS hl
  dsimp only [ao_ic] at ho
  exact lv_sipush V.1 V.2.1 hd hv (hK _ ho H locs ls hP hS hl)
theorem ak_lconst {n : Fin 2} {v : Int64} (hv : Int64.ofNat (n : Nat) = v) (hd : decode cc pc = .ok (.lconst n, 1)) : ax_ok g cc nL ret own nm d mc ms pc (ao_lc v 1) := by
  intro p e s m args below meth c V Ret L st h u1 u2 K ho hK H locs ls hP hS hl
  dsimp only [ao_lc] at ho
  exact lv_lconst V.1 V.2.1 hd hv (hK _ ho H locs ls hP hS hl)
theorem ak_null (hd : decode cc pc = .ok (.aconst_null, 1)) : ax_ok g cc nL ret own nm d mc ms pc (ao_null) := by
  intro p e s m args below meth c V Ret L st h u1 u2 K ho hK H locs ls hP hS hl
  dsimp only [ao_null] at ho
  exact lv_null V.1 V.2.1 hd (hK _ ho H locs ls hP hS hl)
theorem ak_ldc {i : Nat} {v : Int32} (hw : Cond.constant own i v ∈ lw_gd) (hd : decode cc pc = .ok (.ldc i, 2)) : ax_ok g cc nL ret own nm d mc ms pc (ao_ic v 2) := by
  intro p e s m args below meth c V Ret L st h u1 u2 K ho hK H locs ls hP hS hl
  dsimp only [ao_ic] at ho
  exact lv_ldc V.1 V.2.1 V.2.2.2.2.2.1 (V.2.2.2.2.2.2.2.1 _ hw) hd (hK _ ho H locs ls hP hS hl)
theorem ak_ldcw {i : Nat} {v : Int32} (hw : Cond.constant own i v ∈ lw_gd) (hd : decode cc pc = .ok (.ldc_w i, 3)) : ax_ok g cc nL ret own nm d mc ms pc (ao_ic v 3) := by
  intro p e s m args below meth c V Ret L st h u1 u2 K ho hK H locs ls hP hS hl
  dsimp only [ao_ic] at ho
  exact lv_ldcw V.1 V.2.1 V.2.2.2.2.2.1 (V.2.2.2.2.2.2.2.1 _ hw) hd (hK _ ho H locs ls hP hS hl)
theorem ak_ldc2 {i : Nat} {v : Int64} (hw : Cond.constantLong own i v ∈ lw_gd) (hd : decode cc pc = .ok (.ldc2_w i, 3)) : ax_ok g cc nL ret own nm d mc ms pc (ao_lc v 3) := by
  intro p e s m args below meth c V Ret L st h u1 u2 K ho hK H locs ls hP hS hl
  dsimp only [ao_lc] at ho
  exact lv_ldc2 V.1 V.2.1 V.2.2.2.2.2.1 (V.2.2.2.2.2.2.2.1 _ hw) hd (hK _ ho H locs ls hP hS hl)
def ao_il (i len : Nat) : ax_O := fun _ σ K => match σ with
  | (pc, L, st, h, u1, u2) => match ax_g L i with
    | some (.int x) => K (pc + len, L, .int x :: st, h, u1, u2)
    | _ => False
theorem ak_iload_n {k : Fin 4} {i : Nat} (hi : (k : Nat) = i) (hd : decode cc pc = .ok (.iload_n k, 1)) : ax_ok g cc nL ret own nm d mc ms pc (ao_il i 1) := by
  intro p e s m args below meth c V Ret L st h u1 u2 K ho hK H locs ls hP hS hl
  dsimp only [ao_il] at ho
  split at ho
  · rename_i hg
    exact lv_iload_n V.1 V.2.1 hd hi (ax_lr_get hl hg) (hK _ ho H locs ls hP hS hl)
  · exact ho.elim
theorem ak_iload {i : Nat} (hd : decode cc pc = .ok (.iload i, 2)) : ax_ok g cc nL ret own nm d mc ms pc (ao_il i 2) := by
  intro p e s m args below meth c V Ret L st h u1 u2 K ho hK H locs ls hP hS hl
  dsimp only [ao_il] at ho
  split at ho
  · rename_i hg
    exact lv_iload V.1 V.2.1 hd (ax_lr_get hl hg) (hK _ ho H locs ls hP hS hl)
  · exact ho.elim
def ao_ll (i len : Nat) : ax_O := fun _ σ K => match σ with
  | (pc, L, st, h, u1, u2) => match ax_g L i with
    | some (.long x) => K (pc + len, L, .long x :: st, h, u1, u2)
    | _ => False
theorem ak_lload_n {k : Fin 4} {i : Nat} (hi : (k : Nat) = i) (hd : decode cc pc = .ok (.lload_n k, 1)) : ax_ok g cc nL ret own nm d mc ms pc (ao_ll i 1) := by
  intro p e s m args below meth c V Ret L st h u1 u2 K ho hK H locs ls hP hS hl
  dsimp only [ao_ll] at ho
  split at ho
  · rename_i hg
    exact lv_lload_n V.1 V.2.1 hd hi (ax_lr_get hl hg) (hK _ ho H locs ls hP hS hl)
  · exact ho.elim
theorem ak_lload {i : Nat} (hd : decode cc pc = .ok (.lload i, 2)) : ax_ok g cc nL ret own nm d mc ms pc (ao_ll i 2) := by
  intro p e s m args below meth c V Ret L st h u1 u2 K ho hK H locs ls hP hS hl
  dsimp only [ao_ll] at ho
  split at ho
  · rename_i hg
    exact lv_lload V.1 V.2.1 hd (ax_lr_get hl hg) (hK _ ho H locs ls hP hS hl)
  · exact ho.elim
def ao_al (i len : Nat) : ax_O := fun _ σ K => match σ with
  | (pc, L, st, h, u1, u2) => match ax_g L i with
    | some (.ref x) => K (pc + len, L, .ref x :: st, h, u1, u2)
    | some .null => K (pc + len, L, .null :: st, h, u1, u2)
    | _ => False
theorem ak_aload_n {k : Fin 4} {i : Nat} (hi : (k : Nat) = i) (hd : decode cc pc = .ok (.aload_n k, 1)) : ax_ok g cc nL ret own nm d mc ms pc (ao_al i 1) := by
  intro p e s m args below meth c V Ret L st h u1 u2 K ho hK H locs ls hP hS hl
  dsimp only [ao_al] at ho
  split at ho
  · rename_i hg
    exact lv_aload_n V.1 V.2.1 hd hi (ax_lr_get hl hg) (hK _ ho H locs ls hP hS hl)
  · rename_i hg
    exact lv_aload_nN V.1 V.2.1 hd hi (ax_lr_get hl hg) (hK _ ho H locs ls hP hS hl)
  · exact ho.elim
theorem ak_aload {i : Nat} (hd : decode cc pc = .ok (.aload i, 2)) : ax_ok g cc nL ret own nm d mc ms pc (ao_al i 2) := by
  intro p e s m args below meth c V Ret L st h u1 u2 K ho hK H locs ls hP hS hl
  dsimp only [ao_al] at ho
  split at ho
  · rename_i hg
    exact lv_aload V.1 V.2.1 hd (ax_lr_get hl hg) (hK _ ho H locs ls hP hS hl)
  · rename_i hg
    exact lv_aloadN V.1 V.2.1 hd (ax_lr_get hl hg) (hK _ ho H locs ls hP hS hl)
  · exact ho.elim
def ao_is (i len : Nat) : ax_O := fun _ σ K => match σ with
  | (pc, L, st, h, u1, u2) => match st with
    | .int x :: r => K (pc + len, ax_st L i (.int x), r, h, u1, u2)
    | _ => False
theorem ak_istore_n {k : Fin 4} {i : Nat} (hi : (k : Nat) = i) (hn : i < nL) (hd : decode cc pc = .ok (.istore_n k, 1)) : ax_ok g cc nL ret own nm d mc ms pc (ao_is i 1) := by
  intro p e s m args below meth c V Ret L st h u1 u2 K ho hK H locs ls hP hS hl
  dsimp only [ao_is] at ho
  split at ho
  · exact lv_istore_n V.1 V.2.1 hd hi hl hn rfl (fun ls' hl' => hK _ ho H locs ls' hP hS (ax_lr_st hl'))
  · exact ho.elim
theorem ak_istore {i : Nat} (hn : i < nL) (hd : decode cc pc = .ok (.istore i, 2)) : ax_ok g cc nL ret own nm d mc ms pc (ao_is i 2) := by
  intro p e s m args below meth c V Ret L st h u1 u2 K ho hK H locs ls hP hS hl
  dsimp only [ao_is] at ho
  split at ho
  · exact lv_istore V.1 V.2.1 hd hl hn rfl (fun ls' hl' => hK _ ho H locs ls' hP hS (ax_lr_st hl'))
  · exact ho.elim
def ao_ls (i len : Nat) : ax_O := fun _ σ K => match σ with
  | (pc, L, st, h, u1, u2) => match st with
    | .long x :: r => K (pc + len, ax_st2 L i (.long x), r, h, u1, u2)
    | _ => False
theorem ak_lstore_n {k : Fin 4} {i : Nat} (hi : (k : Nat) = i) (hn : i + 1 < nL) (hd : decode cc pc = .ok (.lstore_n k, 1)) : ax_ok g cc nL ret own nm d mc ms pc (ao_ls i 1) := by
  intro p e s m args below meth c V Ret L st h u1 u2 K ho hK H locs ls hP hS hl
  dsimp only [ao_ls] at ho
  split at ho
  · exact lv_lstore_n V.1 V.2.1 hd hi hl hn rfl (fun ls' hl' => hK _ ho H locs ls' hP hS (ax_lr_st2 hl'))
  · exact ho.elim
theorem ak_lstore {i : Nat} (hn : i + 1 < nL) (hd : decode cc pc = .ok (.lstore i, 2)) : ax_ok g cc nL ret own nm d mc ms pc (ao_ls i 2) := by
  intro p e s m args below meth c V Ret L st h u1 u2 K ho hK H locs ls hP hS hl
  dsimp only [ao_ls] at ho
  split at ho
  · exact lv_lstore V.1 V.2.1 hd hl hn rfl (fun ls' hl' => hK _ ho H locs ls' hP hS (ax_lr_st2 hl'))
  · exact ho.elim
def ao_as (i len : Nat) : ax_O := fun _ σ K => match σ with
  | (pc, L, st, h, u1, u2) => match st with
    | .ref x :: r => K (pc + len, ax_st L i (.ref x), r, h, u1, u2)
    | .null :: r => K (pc + len, ax_st L i .null, r, h, u1, u2)
    | _ => False
theorem ak_astore_n {k : Fin 4} {i : Nat} (hi : (k : Nat) = i) (hn : i < nL) (hd : decode cc pc = .ok (.astore_n k, 1)) : ax_ok g cc nL ret own nm d mc ms pc (ao_as i 1) := by
  intro p e s m args below meth c V Ret L st h u1 u2 K ho hK H locs ls hP hS hl
  dsimp only [ao_as] at ho
  split at ho
  · exact lv_astore_n V.1 V.2.1 hd hi hl hn rfl (fun ls' hl' => hK _ ho H locs ls' hP hS (ax_lr_st hl'))
  · exact lv_astore_nN V.1 V.2.1 hd hi hl hn rfl (fun ls' hl' => hK _ ho H locs ls' hP hS (ax_lr_st hl'))
  · exact ho.elim
theorem ak_astore {i : Nat} (hn : i < nL) (hd : decode cc pc = .ok (.astore i, 2)) : ax_ok g cc nL ret own nm d mc ms pc (ao_as i 2) := by
  intro p e s m args below meth c V Ret L st h u1 u2 K ho hK H locs ls hP hS hl
  dsimp only [ao_as] at ho
  split at ho
  · exact lv_astore V.1 V.2.1 hd hl hn rfl (fun ls' hl' => hK _ ho H locs ls' hP hS (ax_lr_st hl'))
  · exact lv_astoreN V.1 V.2.1 hd hl hn rfl (fun ls' hl' => hK _ ho H locs ls' hP hS (ax_lr_st hl'))
  · exact ho.elim
def ao_iinc (i : Nat) (v : Int32) : ax_O := fun _ σ K => match σ with
  | (pc, L, st, h, u1, u2) => match ax_g L i with
    | some (.int x) => K (pc + 3, ax_st L i (.int (x + v)), st, h, u1, u2)
    | _ => False
theorem ak_iinc {i : Nat} {n : Int} {v : Int32} (hv : Int32.ofInt n = v) (hn : i < nL) (hd : decode cc pc = .ok (.iinc i n, 3)) : ax_ok g cc nL ret own nm d mc ms pc (ao_iinc i v) := by
  intro p e s m args below meth c V Ret L st h u1 u2 K ho hK H locs ls hP hS hl
  dsimp only [ao_iinc] at ho
  subst hv
  split at ho
  · rename_i x hg
    have hm : (i, Value.int x) ∈ ax_as 0 (L.map (Option.map (ax_v g))) := (ax_as_mem _ _ _ _).mpr ⟨Nat.zero_le _, by rw [Nat.sub_zero, List.getElem?_map, ax_g_get _ _ _ hg]; rfl⟩
    obtain ⟨k, hk⟩ := List.getElem?_of_mem hm
    exact lv_iinc V.1 V.2.1 hd hl hk rfl hn rfl (fun ls' hl' => hK _ ho H locs ls' hP hS (ax_lr_st (v := .int (x + Int32.ofInt n)) hl'))
  · exact ho.elim
def ao_if_eq (tgt : Nat) : ax_O := fun _ σ K => match σ with
  | (pc, L, st, h, u1, u2) => match st with
    | .int x :: r => ((x = 0) → K (tgt, L, r, h, u1, u2)) ∧ ((¬ (x = 0)) → K (pc + 3, L, r, h, u1, u2))
    | _ => False
theorem ak_if_eq {off : Int} {tgt : Nat} (ht : (pc : Int) + off = (tgt : Int)) (hd : decode cc pc = .ok (.ifCond .eq off, 3)) : ax_ok g cc nL ret own nm d mc ms pc (ao_if_eq tgt) := by
  intro p e s m args below meth c V Ret L st h u1 u2 K ho hK H locs ls hP hS hl
  dsimp only [ao_if_eq] at ho
  split at ho
  · exact lv_if_eq V.1 V.2.1 hd ht (fun q => hK _ (ho.1 q) H locs ls hP hS hl) (fun q => hK _ (ho.2 q) H locs ls hP hS hl)
  · exact ho.elim
def ao_icmp_eq (tgt : Nat) : ax_O := fun _ σ K => match σ with
  | (pc, L, st, h, u1, u2) => match st with
    | .int y :: .int x :: r => ((x = y) → K (tgt, L, r, h, u1, u2)) ∧ ((¬ (x = y)) → K (pc + 3, L, r, h, u1, u2))
    | _ => False
theorem ak_icmp_eq {off : Int} {tgt : Nat} (ht : (pc : Int) + off = (tgt : Int)) (hd : decode cc pc = .ok (.if_icmp .eq off, 3)) : ax_ok g cc nL ret own nm d mc ms pc (ao_icmp_eq tgt) := by
  intro p e s m args below meth c V Ret L st h u1 u2 K ho hK H locs ls hP hS hl
  dsimp only [ao_icmp_eq] at ho
  split at ho
  · exact lv_icmp_eq V.1 V.2.1 hd ht (fun q => hK _ (ho.1 q) H locs ls hP hS hl) (fun q => hK _ (ho.2 q) H locs ls hP hS hl)
  · exact ho.elim
def ao_if_ne (tgt : Nat) : ax_O := fun _ σ K => match σ with
  | (pc, L, st, h, u1, u2) => match st with
    | .int x :: r => ((¬ x = 0) → K (tgt, L, r, h, u1, u2)) ∧ ((x = 0) → K (pc + 3, L, r, h, u1, u2))
    | _ => False
theorem ak_if_ne {off : Int} {tgt : Nat} (ht : (pc : Int) + off = (tgt : Int)) (hd : decode cc pc = .ok (.ifCond .ne off, 3)) : ax_ok g cc nL ret own nm d mc ms pc (ao_if_ne tgt) := by
  intro p e s m args below meth c V Ret L st h u1 u2 K ho hK H locs ls hP hS hl
  dsimp only [ao_if_ne] at ho
  split at ho
  · exact lv_if_ne V.1 V.2.1 hd ht (fun q => hK _ (ho.1 q) H locs ls hP hS hl) (fun q => hK _ (ho.2 q) H locs ls hP hS hl)
  · exact ho.elim
def ao_icmp_ne (tgt : Nat) : ax_O := fun _ σ K => match σ with
  | (pc, L, st, h, u1, u2) => match st with
    | .int y :: .int x :: r => ((¬ x = y) → K (tgt, L, r, h, u1, u2)) ∧ ((x = y) → K (pc + 3, L, r, h, u1, u2))
    | _ => False
theorem ak_icmp_ne {off : Int} {tgt : Nat} (ht : (pc : Int) + off = (tgt : Int)) (hd : decode cc pc = .ok (.if_icmp .ne off, 3)) : ax_ok g cc nL ret own nm d mc ms pc (ao_icmp_ne tgt) := by
  intro p e s m args below meth c V Ret L st h u1 u2 K ho hK H locs ls hP hS hl
  dsimp only [ao_icmp_ne] at ho
  split at ho
  · exact lv_icmp_ne V.1 V.2.1 hd ht (fun q => hK _ (ho.1 q) H locs ls hP hS hl) (fun q => hK _ (ho.2 q) H locs ls hP hS hl)
  · exact ho.elim
def ao_if_lt (tgt : Nat) : ax_O := fun _ σ K => match σ with
  | (pc, L, st, h, u1, u2) => match st with
    | .int x :: r => ((x < 0) → K (tgt, L, r, h, u1, u2)) ∧ ((¬ (x < 0)) → K (pc + 3, L, r, h, u1, u2))
    | _ => False
theorem ak_if_lt {off : Int} {tgt : Nat} (ht : (pc : Int) + off = (tgt : Int)) (hd : decode cc pc = .ok (.ifCond .lt off, 3)) : ax_ok g cc nL ret own nm d mc ms pc (ao_if_lt tgt) := by
  intro p e s m args below meth c V Ret L st h u1 u2 K ho hK H locs ls hP hS hl
  dsimp only [ao_if_lt] at ho
  split at ho
  · exact lv_if_lt V.1 V.2.1 hd ht (fun q => hK _ (ho.1 q) H locs ls hP hS hl) (fun q => hK _ (ho.2 q) H locs ls hP hS hl)
  · exact ho.elim
def ao_icmp_lt (tgt : Nat) : ax_O := fun _ σ K => match σ with
  | (pc, L, st, h, u1, u2) => match st with
    | .int y :: .int x :: r => ((x < y) → K (tgt, L, r, h, u1, u2)) ∧ ((¬ (x < y)) → K (pc + 3, L, r, h, u1, u2))
    | _ => False
theorem ak_icmp_lt {off : Int} {tgt : Nat} (ht : (pc : Int) + off = (tgt : Int)) (hd : decode cc pc = .ok (.if_icmp .lt off, 3)) : ax_ok g cc nL ret own nm d mc ms pc (ao_icmp_lt tgt) := by
  intro p e s m args below meth c V Ret L st h u1 u2 K ho hK H locs ls hP hS hl
  dsimp only [ao_icmp_lt] at ho
  split at ho
  · exact lv_icmp_lt V.1 V.2.1 hd ht (fun q => hK _ (ho.1 q) H locs ls hP hS hl) (fun q => hK _ (ho.2 q) H locs ls hP hS hl)
  · exact ho.elim
def ao_if_ge (tgt : Nat) : ax_O := fun _ σ K => match σ with
  | (pc, L, st, h, u1, u2) => match st with
    | .int x :: r => ((0 ≤ x) → K (tgt, L, r, h, u1, u2)) ∧ ((¬ (0 ≤ x)) → K (pc + 3, L, r, h, u1, u2))
    | _ => False
theorem ak_if_ge {off : Int} {tgt : Nat} (ht : (pc : Int) + off = (tgt : Int)) (hd : decode cc pc = .ok (.ifCond .ge off, 3)) : ax_ok g cc nL ret own nm d mc ms pc (ao_if_ge tgt) := by
  intro p e s m args below meth c V Ret L st h u1 u2 K ho hK H locs ls hP hS hl
  dsimp only [ao_if_ge] at ho
  split at ho
  · exact lv_if_ge V.1 V.2.1 hd ht (fun q => hK _ (ho.1 q) H locs ls hP hS hl) (fun q => hK _ (ho.2 q) H locs ls hP hS hl)
  · exact ho.elim
def ao_icmp_ge (tgt : Nat) : ax_O := fun _ σ K => match σ with
  | (pc, L, st, h, u1, u2) => match st with
    | .int y :: .int x :: r => ((y ≤ x) → K (tgt, L, r, h, u1, u2)) ∧ ((¬ (y ≤ x)) → K (pc + 3, L, r, h, u1, u2))
    | _ => False
theorem ak_icmp_ge {off : Int} {tgt : Nat} (ht : (pc : Int) + off = (tgt : Int)) (hd : decode cc pc = .ok (.if_icmp .ge off, 3)) : ax_ok g cc nL ret own nm d mc ms pc (ao_icmp_ge tgt) := by
  intro p e s m args below meth c V Ret L st h u1 u2 K ho hK H locs ls hP hS hl
  dsimp only [ao_icmp_ge] at ho
  split at ho
  · exact lv_icmp_ge V.1 V.2.1 hd ht (fun q => hK _ (ho.1 q) H locs ls hP hS hl) (fun q => hK _ (ho.2 q) H locs ls hP hS hl)
  · exact ho.elim
def ao_if_gt (tgt : Nat) : ax_O := fun _ σ K => match σ with
  | (pc, L, st, h, u1, u2) => match st with
    | .int x :: r => ((0 < x) → K (tgt, L, r, h, u1, u2)) ∧ ((¬ (0 < x)) → K (pc + 3, L, r, h, u1, u2))
    | _ => False
theorem ak_if_gt {off : Int} {tgt : Nat} (ht : (pc : Int) + off = (tgt : Int)) (hd : decode cc pc = .ok (.ifCond .gt off, 3)) : ax_ok g cc nL ret own nm d mc ms pc (ao_if_gt tgt) := by
  intro p e s m args below meth c V Ret L st h u1 u2 K ho hK H locs ls hP hS hl
  dsimp only [ao_if_gt] at ho
  split at ho
  · exact lv_if_gt V.1 V.2.1 hd ht (fun q => hK _ (ho.1 q) H locs ls hP hS hl) (fun q => hK _ (ho.2 q) H locs ls hP hS hl)
  · exact ho.elim
def ao_icmp_gt (tgt : Nat) : ax_O := fun _ σ K => match σ with
  | (pc, L, st, h, u1, u2) => match st with
    | .int y :: .int x :: r => ((y < x) → K (tgt, L, r, h, u1, u2)) ∧ ((¬ (y < x)) → K (pc + 3, L, r, h, u1, u2))
    | _ => False
theorem ak_icmp_gt {off : Int} {tgt : Nat} (ht : (pc : Int) + off = (tgt : Int)) (hd : decode cc pc = .ok (.if_icmp .gt off, 3)) : ax_ok g cc nL ret own nm d mc ms pc (ao_icmp_gt tgt) := by
  intro p e s m args below meth c V Ret L st h u1 u2 K ho hK H locs ls hP hS hl
  dsimp only [ao_icmp_gt] at ho
  split at ho
  · exact lv_icmp_gt V.1 V.2.1 hd ht (fun q => hK _ (ho.1 q) H locs ls hP hS hl) (fun q => hK _ (ho.2 q) H locs ls hP hS hl)
  · exact ho.elim
def ao_if_le (tgt : Nat) : ax_O := fun _ σ K => match σ with
  | (pc, L, st, h, u1, u2) => match st with
    | .int x :: r => ((x ≤ 0) → K (tgt, L, r, h, u1, u2)) ∧ ((¬ (x ≤ 0)) → K (pc + 3, L, r, h, u1, u2))
    | _ => False
theorem ak_if_le {off : Int} {tgt : Nat} (ht : (pc : Int) + off = (tgt : Int)) (hd : decode cc pc = .ok (.ifCond .le off, 3)) : ax_ok g cc nL ret own nm d mc ms pc (ao_if_le tgt) := by
  intro p e s m args below meth c V Ret L st h u1 u2 K ho hK H locs ls hP hS hl
  dsimp only [ao_if_le] at ho
  split at ho
  · exact lv_if_le V.1 V.2.1 hd ht (fun q => hK _ (ho.1 q) H locs ls hP hS hl) (fun q => hK _ (ho.2 q) H locs ls hP hS hl)
  · exact ho.elim
def ao_icmp_le (tgt : Nat) : ax_O := fun _ σ K => match σ with
  | (pc, L, st, h, u1, u2) => match st with
    | .int y :: .int x :: r => ((x ≤ y) → K (tgt, L, r, h, u1, u2)) ∧ ((¬ (x ≤ y)) → K (pc + 3, L, r, h, u1, u2))
    | _ => False
theorem ak_icmp_le {off : Int} {tgt : Nat} (ht : (pc : Int) + off = (tgt : Int)) (hd : decode cc pc = .ok (.if_icmp .le off, 3)) : ax_ok g cc nL ret own nm d mc ms pc (ao_icmp_le tgt) := by
  intro p e s m args below meth c V Ret L st h u1 u2 K ho hK H locs ls hP hS hl
  dsimp only [ao_icmp_le] at ho
  split at ho
  · exact lv_icmp_le V.1 V.2.1 hd ht (fun q => hK _ (ho.1 q) H locs ls hP hS hl) (fun q => hK _ (ho.2 q) H locs ls hP hS hl)
  · exact ho.elim
def ao_goto (tgt : Nat) : ax_O := fun _ σ K => match σ with
  | (pc, L, st, h, u1, u2) => K (tgt, L, st, h, u1, u2)
theorem ak_goto {off : Int} {tgt : Nat} (ht : (pc : Int) + off = (tgt : Int)) (hd : decode cc pc = .ok (.goto off, 3)) : ax_ok g cc nL ret own nm d mc ms pc (ao_goto tgt) := by
  intro p e s m args below meth c V Ret L st h u1 u2 K ho hK H locs ls hP hS hl
  dsimp only [ao_goto] at ho
  exact lv_goto V.1 V.2.1 hd ht (hK _ ho H locs ls hP hS hl)
def ao_ifnull (tgt : Nat) : ax_O := fun _ σ K => match σ with
  | (pc, L, st, h, u1, u2) => match st with
    | .ref _ :: r => K (pc + 3, L, r, h, u1, u2)
    | .null :: r => K (tgt, L, r, h, u1, u2)
    | _ => False
theorem ak_ifnull {off : Int} {tgt : Nat} (ht : (pc : Int) + off = (tgt : Int)) (hd : decode cc pc = .ok (.ifnull off, 3)) : ax_ok g cc nL ret own nm d mc ms pc (ao_ifnull tgt) := by
  intro p e s m args below meth c V Ret L st h u1 u2 K ho hK H locs ls hP hS hl
  dsimp only [ao_ifnull] at ho
  split at ho
  · exact lv_ifnull V.1 V.2.1 hd (hK _ ho H locs ls hP hS hl)
  · exact lv_ifnullN V.1 V.2.1 hd ht (hK _ ho H locs ls hP hS hl)
  · exact ho.elim
def ao_ifnonnull (tgt : Nat) : ax_O := fun _ σ K => match σ with
  | (pc, L, st, h, u1, u2) => match st with
    | .ref _ :: r => K (tgt, L, r, h, u1, u2)
    | .null :: r => K (pc + 3, L, r, h, u1, u2)
    | _ => False
theorem ak_ifnonnull {off : Int} {tgt : Nat} (ht : (pc : Int) + off = (tgt : Int)) (hd : decode cc pc = .ok (.ifnonnull off, 3)) : ax_ok g cc nL ret own nm d mc ms pc (ao_ifnonnull tgt) := by
  intro p e s m args below meth c V Ret L st h u1 u2 K ho hK H locs ls hP hS hl
  dsimp only [ao_ifnonnull] at ho
  split at ho
  · exact lv_ifnonnull V.1 V.2.1 hd ht (hK _ ho H locs ls hP hS hl)
  · exact lv_ifnonnullN V.1 V.2.1 hd (hK _ ho H locs ls hP hS hl)
  · exact ho.elim
end
end
section
section
variable {g : ax_G} {cc : ByteArray} {nL : Nat} {ret : Option FieldType} {own nm : String} {d mc ms pc : Nat}
theorem ax_P_set {h h' : ax_H} {H H1 : Heap} {a : Nat} (hP : ax_P g h H) (hn : h'.1 = h.1) (ho : ∀ b, b ≠ a → ax_e g h' b = ax_e g h b) (ha : a < h.1) (hx : va_at g.2.2.2.1 vwCl (g.2.1 + a, ax_e g h' a) H1) (z : H1.size = H.size) (oq : ∀ q : Nat, q ≠ g.2.1 + a → H1[q]? = H[q]?) : ax_P g h' H1 := by
  have e := hP.1.set ax_w_D (ax_w_get ha) hx oq
  rw [ax_w_set hn rfl ho] at e
  exact ⟨e, by rw [z, hP.2.1, hn], by rw [hn]; exact hP.2.2⟩
theorem ax_at {h : ax_H} {H : Heap} {a : Nat} (hP : ax_P g h H) (ha : a < h.1) : va_at g.2.2.2.1 vwCl (g.2.1 + a, ax_e g h a) H := hP.1 a _ (ax_w_get ha)
theorem ax_vr {h : ax_H} {H : Heap} {a : Nat} (hP : ax_P g h H) (ha : a < h.1) : ax_v g (.ref a) = .ref (g.2.1 + a) := by
  show Value.ref (ax_ad g a) = _
  rw [ax_ad_lt (Nat.lt_trans ha hP.2.2)]
section
variable {p : Program} {e : Env} {s : State} {m : MethodId} {args : Array Value} {below : List Frame} {meth : Method} {c : Code} {R : Room} {cells slots : Nat} {Q : State → Prop} {ls : Array Slot} {rest : List Value}
theorem ax_putW {h h' : ax_H} {H : Heap} {locs : List Loc} {a ci index k N : Nat} {C : String} {T : u_T} {ty0 : Nat → FieldType} {ty : FieldType} {v : Value} (V : ax_V g cc nL ret own nm p s m args meth c) (hP : ax_P g h H) (hS0 : va_S (ax_A g) s.heap H locs) (ha : a < h.1) (hs : (h.2.1 a).1 = ci) (hci : ci < 11) (hc : vwCl[ci]? = some (C, T, N)) (hin : ∀ w ∈ u_ws C T N, w ∈ lw_gd) (hty : ∀ k, k < N → parseFieldDescriptor (T k).2.2.1 = some (ty0 k)) (hnm : ∀ a, a < N → ∀ b, b < N → a ≠ b → (T a).2.1 ≠ (T b).2.1) (hk : k < N) (hw : Cond.fieldLink own index (T k).1 (T k).2.1 (T k).2.2.1 ∈ lw_gd) (hfin : (T k).2.2.2 = false ∨ ((T k).2.2.2 = true ∧ nm = "<init>" ∧ (T k).1 = own)) (hd0 : parseFieldDescriptor (T k).2.2.1 = some ty) (hn : narrow ty v = v) (hfit : fits ty v = true) (hlen : k < (ax_ft ci).length) (hd : decode cc pc = .ok (.putfield index, 3)) (hn' : h'.1 = h.1) (hs' : h'.2.1 a = h.2.1 a) (hfl : ax_fl g h' (ax_ft ci) a = (ax_fl g h (ax_ft ci) a).set k v) (ho : ∀ b, b ≠ a → ax_e g h' b = ax_e g h b)
    (kk : ∀ (H1 : Heap) (locs1 : List Loc), ax_P g h' H1 → va_S (ax_A g) s.heap H1 locs1 → W p g.1 e R s m args below meth c H1 locs1 cells slots Q (F0 m (pc + 3) ls rest)) : W p g.1 e R s m args below meth c H locs cells slots Q (F0 m pc ls (v :: .ref (g.2.1 + a) :: rest)) := by
  obtain ⟨hx, hb, -, -, -, hown, hname, hts, hK, -, -⟩ := V
  have hap := va_apart (own := own) hts hin ty0 hty hnm hK hc
  have hat := ax_at hP ha
  rw [ax_e_obj hs hci] at hat
  obtain ⟨r, h1, cell, q1, q2, q3, q4⟩ := hat
  have hr : r = (C, T, N) := Option.some.inj (h1.symm.trans hc)
  subst hr
  obtain ⟨hSl, hfc, kC, hkC, hkind⟩ := hK.1 ci _ hc
  obtain ⟨cf, kf, fi, f, hi, hsl⟩ := hSl k hk
  have hst := (u_facts hfc hkC (u_lays hts hin hk) hi).1
  have hlay := hts _ (hin _ (u_in_lay hk))
  unfold u_lay at hlay
  have fin : ∀ H' : Heap, H'[g.2.1 + a]? = some (cell.setSlot f.slot v) → H'.size = H.size → (∀ q, q ≠ g.2.1 + a → H'[q]? = H[q]?) → W p g.1 e R s m args below meth c H' (locs ++ [⟨g.2.1 + a, f.slot⟩]) cells slots Q (F0 m (pc + 3) ls rest) := by
    intro H' e1 e2 e3
    rw [hsl] at e1
    refine kk H' _ (ax_P_set hP hn' ho ha ?_ e2 e3) (hS0.put e2 e3 (Nat.le_add_right _ _))
    rw [ax_e_obj (by rw [hs']; exact hs) hci, hfl]
    exact ⟨_, hc, t_OB.to (V := updV (vp_V (ax_fl g h (ax_ft ci) a)) k v) ⟨_, e1, q2, q3, t_set q4 hap hk v⟩ (fun j _ => vp_updV_set (by rw [ax_fl_len]; exact hlen) v j)⟩
  rcases hfin with hfin | ⟨hfin, hini, hdecl⟩
  · rw [if_neg (by rw [hfin]; decide)] at hlay
    have h6 := u_store hfc hkC hkind hlay hi hd0 hn hfit
    exact W.putK hx hb (f := f) ⟨hown, hts _ hw, ⟨_, _, _, hi⟩, hst⟩ (by rw [q2]; exact h6) q1 q3 (by rw [hsl]; exact k2_hasslot (q4 k hk)) rfl rfl hd fin
  · rw [if_pos hfin] at hlay
    have hcf : m.cls = cf := by
      obtain ⟨_, _, c', _, _, _, -, -, hf', -, -, -, hown2, -⟩ := Cond.laysFinal_spec hlay
      have e1 : c' = cf := by have := hi.symm.trans hf'; simp at this; exact this.1.symm
      rw [hdecl] at hown2
      rw [← e1]; exact Option.some.inj (hown.symm.trans hown2)
    have h6 := u_fits hfc hkC hkind (Or.inr hlay) hi hd0 hn hfit
    exact W.putFinK hx hb hown (hts _ hw) hi hst hcf (hname.trans hini) (by rw [q2]; exact h6) q1 q3 (by rw [hsl]; exact k2_hasslot (q4 k hk)) rfl rfl hd fin
end
/-! fields -/
/-- what the tables say of field k of class ci -/
def ax_F (own : String) (index ci k t : Nat) : Prop := ci < 11 ∧ (ax_ft ci)[k]? = some t ∧ ∃ (C : String) (T : u_T) (N : Nat) (ty0 : Nat → FieldType), vwCl[ci]? = some (C, T, N) ∧ (∀ w ∈ u_ws C T N, w ∈ lw_gd) ∧ (∀ k, k < N → parseFieldDescriptor (T k).2.2.1 = some (ty0 k)) ∧ (∀ a, a < N → ∀ b, b < N → a ≠ b → (T a).2.1 ≠ (T b).2.1) ∧ k < N ∧ Cond.fieldLink own index (T k).1 (T k).2.1 (T k).2.2.1 ∈ lw_gd
def ao_gi (ci k : Nat) : ax_O := fun _ σ K => match σ with
  | (pc, L, st, h, u1, u2) => match st with
    | .ref a :: r => (ax_s h a).1 = ci ∧ K (pc + 3, L, .int (ax_i h a k) :: r, h, u1, u2)
    | _ => False
def ao_gl (ci k : Nat) : ax_O := fun _ σ K => match σ with
  | (pc, L, st, h, u1, u2) => match st with
    | .ref a :: r => (ax_s h a).1 = ci ∧ K (pc + 3, L, .long (ax_l h a k) :: r, h, u1, u2)
    | _ => False
def ao_gr (ci k : Nat) : ax_O := fun _ σ K => match σ with
  | (pc, L, st, h, u1, u2) => match st with
    | .ref a :: r => (ax_s h a).1 = ci ∧ (∀ b, ax_r h a k = some b → K (pc + 3, L, .ref b :: r, h, u1, u2)) ∧ (ax_r h a k = none → K (pc + 3, L, .null :: r, h, u1, u2))
    | _ => False
theorem ax_getW {p : Program} {e : Env} {s : State} {m : MethodId} {args : Array Value} {below : List Frame} {meth : Method} {c : Code} {R : Room} {cells slots : Nat} {Q : State → Prop} {ls : Array Slot} {rest : List Value} {h : ax_H} {H : Heap} {locs : List Loc} {a ci index k t : Nat} {v : Value} (V : ax_V g cc nL ret own nm p s m args meth c) (hP : ax_P g h H) (hF : ax_F own index ci k t) (hs : (ax_s h a).1 = ci) (hd : decode cc pc = .ok (.getfield index, 3)) (hv : (ax_fl g h (ax_ft ci) a)[k]? = some v)
    (kk : W p g.1 e R s m args below meth c H locs cells slots Q (F0 m (pc + 3) ls (v :: rest))) : W p g.1 e R s m args below meth c H locs cells slots Q (F0 m pc ls (ax_v g (.ref a) :: rest)) := by
  obtain ⟨hci, ht, C, T, N, ty0, hc, hin, hty, hnm, hk, hw⟩ := hF
  obtain ⟨ha, hs, -⟩ := ax_s_lt hs (by omega)
  rw [ax_vr hP ha]
  exact va_get V.1 V.2.1 V.2.2.2.2.2.2.2.1 hin V.2.2.2.2.2.1 V.2.2.2.2.2.2.2.2.1 hP.1 a ((ax_w_get ha).trans (by rw [ax_e_obj hs hci])) hc k hk (V.2.2.2.2.2.2.2.1 _ hw) (fun _ h => h) hv hd kk
theorem ak_gi {ci k index : Nat} (hF : ax_F own index ci k 0) (hd : decode cc pc = .ok (.getfield index, 3)) : ax_ok g cc nL ret own nm d mc ms pc (ao_gi ci k) := by
  intro p e s m args below meth c V Ret L st h u1 u2 K ho hK H locs ls hP hS hl
  dsimp only [ao_gi] at ho
  split at ho
  · exact ax_getW V hP hF ho.1 hd (ax_fl_get hF.2.1) (hK _ ho.2 H locs ls hP hS hl)
  · exact ho.elim
theorem ak_gl {ci k index : Nat} (hF : ax_F own index ci k 1) (hd : decode cc pc = .ok (.getfield index, 3)) : ax_ok g cc nL ret own nm d mc ms pc (ao_gl ci k) := by
  intro p e s m args below meth c V Ret L st h u1 u2 K ho hK H locs ls hP hS hl
  dsimp only [ao_gl] at ho
  split at ho
  · exact ax_getW V hP hF ho.1 hd (ax_fl_get hF.2.1) (hK _ ho.2 H locs ls hP hS hl)
  · exact ho.elim
theorem ak_gr {ci k index : Nat} (hF : ax_F own index ci k 2) (hd : decode cc pc = .ok (.getfield index, 3)) : ax_ok g cc nL ret own nm d mc ms pc (ao_gr ci k) := by
  intro p e s m args below meth c V Ret L st h u1 u2 K ho hK H locs ls hP hS hl
  dsimp only [ao_gr] at ho
  split at ho
  · rename_i a r
    cases hr : ax_r h a k with
    | none => exact ax_getW V hP hF ho.1 hd ((ax_fl_get hF.2.1).trans (by rw [hr]; rfl)) (hK _ (ho.2.2 hr) H locs ls hP hS hl)
    | some b => exact ax_getW V hP hF ho.1 hd ((ax_fl_get hF.2.1).trans (by rw [hr]; rfl)) (hK _ (ho.2.1 b hr) H locs ls hP hS hl)
  · exact ho.elim
def ao_pi (ci k : Nat) : ax_O := fun _ σ K => match σ with
  | (pc, L, st, h, u1, u2) => match st with
    | .int x :: .ref a :: r => (ax_s h a).1 = ci ∧ K (pc + 3, L, r, ax_pi h a k x, u1, u2)
    | _ => False
/-- a boolean field -/
def ao_pz (ci k : Nat) : ax_O := fun _ σ K => match σ with
  | (pc, L, st, h, u1, u2) => match st with
    | .int x :: .ref a :: r => (x = 0 ∨ x = 1) ∧ (ax_s h a).1 = ci ∧ K (pc + 3, L, r, ax_pi h a k x, u1, u2)
    | _ => False
def ao_pl (ci k : Nat) : ax_O := fun _ σ K => match σ with
  | (pc, L, st, h, u1, u2) => match st with
    | .long x :: .ref a :: r => (ax_s h a).1 = ci ∧ K (pc + 3, L, r, ax_pl h a k x, u1, u2)
    | _ => False
def ao_pr (ci k : Nat) : ax_O := fun _ σ K => match σ with
  | (pc, L, st, h, u1, u2) => match st with
    | .ref b :: .ref a :: r => (ax_s h a).1 = ci ∧ K (pc + 3, L, r, ax_pr h a k (some b), u1, u2)
    | .null :: .ref a :: r => (ax_s h a).1 = ci ∧ K (pc + 3, L, r, ax_pr h a k none, u1, u2)
    | _ => False
/-- the field may be written here -/
def ax_Fw (own nm : String) (ci k : Nat) (ty : FieldType) : Prop := ∀ (C : String) (T : u_T) (N : Nat), vwCl[ci]? = some (C, T, N) → ((T k).2.2.2 = false ∨ ((T k).2.2.2 = true ∧ nm = "<init>" ∧ (T k).1 = own)) ∧ parseFieldDescriptor (T k).2.2.1 = some ty
theorem ax_u_ee {α : Type} {f : Nat → Nat → α} {a k : Nat} {v : α} : ax_u f a k v a k = v := by rw [ax_u_eq]; exact if_pos rfl
theorem ax_u_en {α : Type} {f : Nat → Nat → α} {a k j : Nat} {v : α} (h : j ≠ k) : ax_u f a k v a j = f a j := by rw [ax_u_eq]; exact if_neg h
theorem ax_get_lt {ts : List Nat} {k t : Nat} (h : ts[k]? = some t) : k < ts.length := (List.getElem?_eq_some_iff.mp h).1
theorem ak_pi {ci k index : Nat} (hF : ax_F own index ci k 0) (hw : ax_Fw own nm ci k .int) (hd : decode cc pc = .ok (.putfield index, 3)) : ax_ok g cc nL ret own nm d mc ms pc (ao_pi ci k) := by
  intro p e s m args below meth c V Ret L st h u1 u2 K ho hK H locs ls hP hS hl
  dsimp only [ao_pi] at ho
  split at ho
  · rename_i x a r
    obtain ⟨hci, ht, C, T, N, ty0, hc, hin, hty, hnm, hk, hwl⟩ := hF
    obtain ⟨ha, hs, -⟩ := ax_s_lt ho.1 (by omega)
    show W _ _ _ _ _ _ _ _ _ _ _ _ _ _ _ (F0 m pc ls (Value.int x :: ax_v g (.ref a) :: r.map (ax_v g)))
    rw [ax_vr hP ha]
    refine ax_putW (h' := ax_pi h a k x) V hP hS ha hs hci hc hin hty hnm hk hwl (hw _ _ _ hc).1 (hw _ _ _ hc).2 rfl rfl (ax_get_lt ht) hd rfl rfl ?_ (fun b hb => ax_e_cong rfl (ax_u_ne hb) rfl rfl) (fun H1 locs1 hP1 hS1 => hK _ ho.2 H1 locs1 ls hP1 hS1 hl)
    refine ax_fl_set ht ?_ (fun j u hj _ => ?_)
    · show Value.int (ax_u h.2.2.1 a k x a k) = _
      rw [ax_u_ee]
    · show (if u = 0 then Value.int (ax_u h.2.2.1 a k x a j) else _) = _
      rw [ax_u_en hj]; rfl
  · exact ho.elim
theorem ak_pz {ci k index : Nat} (hF : ax_F own index ci k 0) (hw : ax_Fw own nm ci k .boolean) (hd : decode cc pc = .ok (.putfield index, 3)) : ax_ok g cc nL ret own nm d mc ms pc (ao_pz ci k) := by
  intro p e s m args below meth c V Ret L st h u1 u2 K ho hK H locs ls hP hS hl
  dsimp only [ao_pz] at ho
  split at ho
  · rename_i x a r
    obtain ⟨hb01, ho⟩ := ho
    obtain ⟨hci, ht, C, T, N, ty0, hc, hin, hty, hnm, hk, hwl⟩ := hF
    obtain ⟨ha, hs, -⟩ := ax_s_lt ho.1 (by omega)
    show W _ _ _ _ _ _ _ _ _ _ _ _ _ _ _ (F0 m pc ls (Value.int x :: ax_v g (.ref a) :: r.map (ax_v g)))
    rw [ax_vr hP ha]
    have hnr : narrow .boolean (.int x) = .int x := by rcases hb01 with rfl | rfl <;> rfl
    have hft : fits .boolean (.int x) = true := by rcases hb01 with rfl | rfl <;> rfl
    refine ax_putW (h' := ax_pi h a k x) V hP hS ha hs hci hc hin hty hnm hk hwl (hw _ _ _ hc).1 (hw _ _ _ hc).2 hnr hft (ax_get_lt ht) hd rfl rfl ?_ (fun b hb => ax_e_cong rfl (ax_u_ne hb) rfl rfl) (fun H1 locs1 hP1 hS1 => hK _ ho.2 H1 locs1 ls hP1 hS1 hl)
    refine ax_fl_set ht ?_ (fun j u hj _ => ?_)
    · show Value.int (ax_u h.2.2.1 a k x a k) = _
      rw [ax_u_ee]
    · show (if u = 0 then Value.int (ax_u h.2.2.1 a k x a j) else _) = _
      rw [ax_u_en hj]; rfl
  · exact ho.elim
theorem ak_pl {ci k index : Nat} (hF : ax_F own index ci k 1) (hw : ax_Fw own nm ci k .long) (hd : decode cc pc = .ok (.putfield index, 3)) : ax_ok g cc nL ret own nm d mc ms pc (ao_pl ci k) := by
  intro p e s m args below meth c V Ret L st h u1 u2 K ho hK H locs ls hP hS hl
  dsimp only [ao_pl] at ho
  split at ho
  · rename_i x a r
    obtain ⟨hci, ht, C, T, N, ty0, hc, hin, hty, hnm, hk, hwl⟩ := hF
    obtain ⟨ha, hs, -⟩ := ax_s_lt ho.1 (by omega)
    show W _ _ _ _ _ _ _ _ _ _ _ _ _ _ _ (F0 m pc ls (Value.long x :: ax_v g (.ref a) :: r.map (ax_v g)))
    rw [ax_vr hP ha]
    refine ax_putW (h' := ax_pl h a k x) V hP hS ha hs hci hc hin hty hnm hk hwl (hw _ _ _ hc).1 (hw _ _ _ hc).2 rfl rfl (ax_get_lt ht) hd rfl rfl ?_ (fun b hb => ax_e_cong rfl rfl (ax_u_ne hb) rfl) (fun H1 locs1 hP1 hS1 => hK _ ho.2 H1 locs1 ls hP1 hS1 hl)
    refine ax_fl_set ht ?_ (fun j u hj _ => ?_)
    · show Value.long (ax_u h.2.2.2.1 a k x a k) = _
      rw [ax_u_ee]
    · show (if u = 0 then _ else if u = 1 then Value.long (ax_u h.2.2.2.1 a k x a j) else _) = _
      rw [ax_u_en hj]; rfl
  · exact ho.elim
theorem ak_pr {ci k index : Nat} {ty : FieldType} (hF : ax_F own index ci k 2) (hty2 : ty.isReference = true) (hw : ax_Fw own nm ci k ty) (hd : decode cc pc = .ok (.putfield index, 3)) : ax_ok g cc nL ret own nm d mc ms pc (ao_pr ci k) := by
  intro p e s m args below meth c V Ret L st h u1 u2 K ho hK H locs ls hP hS hl
  dsimp only [ao_pr] at ho
  have nr : ∀ b : Nat, narrow ty (.ref b) = .ref b := fun b => by cases ty <;> first | rfl | cases hty2
  have fr : ∀ b : Nat, fits ty (.ref b) = true := fun b => by cases ty <;> first | rfl | cases hty2
  have nn : narrow ty .null = .null := by cases ty <;> first | rfl | cases hty2
  have fn : fits ty .null = true := by cases ty <;> first | rfl | cases hty2
  split at ho
  · rename_i b a r
    obtain ⟨hci, ht, C, T, N, ty0, hc, hin, hty, hnm, hk, hwl⟩ := hF
    obtain ⟨ha, hs, -⟩ := ax_s_lt ho.1 (by omega)
    show W _ _ _ _ _ _ _ _ _ _ _ _ _ _ _ (F0 m pc ls (Value.ref (ax_ad g b) :: ax_v g (.ref a) :: r.map (ax_v g)))
    rw [ax_vr hP ha]
    refine ax_putW (h' := ax_pr h a k (some b)) V hP hS ha hs hci hc hin hty hnm hk hwl (hw _ _ _ hc).1 (hw _ _ _ hc).2 (nr _) (fr _) (ax_get_lt ht) hd rfl rfl ?_ (fun b hb => ax_e_cong rfl rfl rfl (ax_u_ne hb)) (fun H1 locs1 hP1 hS1 => hK _ ho.2 H1 locs1 ls hP1 hS1 hl)
    refine ax_fl_set ht ?_ (fun j u hj _ => ?_)
    · show va_rf ((ax_u h.2.2.2.2 a k (some b) a k).map (ax_ad g)) = _
      rw [ax_u_ee]; rfl
    · show (if u = 0 then _ else if u = 1 then _ else va_rf ((ax_u h.2.2.2.2 a k (some b) a j).map (ax_ad g))) = _
      rw [ax_u_en hj]; rfl
  · rename_i a r
    obtain ⟨hci, ht, C, T, N, ty0, hc, hin, hty, hnm, hk, hwl⟩ := hF
    obtain ⟨ha, hs, -⟩ := ax_s_lt ho.1 (by omega)
    show W _ _ _ _ _ _ _ _ _ _ _ _ _ _ _ (F0 m pc ls (Value.null :: ax_v g (.ref a) :: r.map (ax_v g)))
    rw [ax_vr hP ha]
    refine ax_putW (h' := ax_pr h a k none) V hP hS ha hs hci hc hin hty hnm hk hwl (hw _ _ _ hc).1 (hw _ _ _ hc).2 nn fn (ax_get_lt ht) hd rfl rfl ?_ (fun b hb => ax_e_cong rfl rfl rfl (ax_u_ne hb)) (fun H1 locs1 hP1 hS1 => hK _ ho.2 H1 locs1 ls hP1 hS1 hl)
    refine ax_fl_set ht ?_ (fun j u hj _ => ?_)
    · show va_rf ((ax_u h.2.2.2.2 a k none a k).map (ax_ad g)) = _
      rw [ax_u_ee]; rfl
    · show (if u = 0 then _ else if u = 1 then _ else va_rf ((ax_u h.2.2.2.2 a k none a j).map (ax_ad g))) = _
      rw [ax_u_en hj]; rfl
  · exact ho.elim
end
end
section
section
variable {g : ax_G} {cc : ByteArray} {nL : Nat} {ret : Option FieldType} {own nm : String} {d mc ms pc : Nat}
theorem ax_good : ∀ w ∈ lw_gd, goodWord w = true := fun _ h => (List.mem_filter.mp h).2
theorem ax_gi {ws : List Cond} (h : ∀ w ∈ ws, w ∈ lw_gd) : GoodIn lw_gd ws := fun w hw => ⟨h w hw, good_of_word (ax_good w (h w hw))⟩
/-- how a contract begins -/
def ax_C (g : ax_G) (as : List Value) (h : ax_H) : Array Value → State → Prop := va_Pc (as.map (ax_v g)) (fun U => ax_K g U ∧ g.2.1 ≤ U.heap.size ∧ ax_Z g U U.heap ∧ ax_P g h U.heap)
/-- THE CONTRACT: from heap h with the arguments as, y returns, and Ret holds of answer and heap -/
def ax_M (g : ax_G) (d mc ms : Nat) (y : MethodName) (cc : ByteArray) (nL : Nat) (ret : Option FieldType) (as : List Value) (h : ax_H) (Ret : Option Value → ax_H → Prop) : Prop := Met g.1 y (.code y cc nL ret :: lw_gd) (ax_rm d mc ms) (ax_C g as h) (ax_Q g Ret) mc ms (ax_A g)
/-- a contract out of a walk of the abstract machine -/
theorem ax_meth {y : MethodName} {as : List Value} {h : ax_H} {Ret : Option Value → ax_H → Prop} {tbl : Nat → ax_O} (hy : plainName y.cls = true) (hlen : (lg_sl as).length ≤ nL) (hok : ∀ pc, ax_ok g cc nL ret y.cls y.name d mc ms pc (tbl pc)) (hw : ∀ A : ax_S → Prop, (∀ (σ : ax_S) (K : ax_S → Prop), tbl σ.1 Ret σ K → (∀ σ', K σ' → A σ') → A σ) → A (0, ax_en as nL, [], h, 0, 0)) : ax_M g d mc ms y cc nL ret as h Ret := by
  refine Met.ofW (cc := cc) (maxL := nL) (ret := ret) hy rfl ?_
  intro p e s m args below meth c s₁ B hml hv
  obtain ⟨rfl, hK, hbs, hZ, hP⟩ := hv
  have hts := atoms_spec (ws := .code y cc nL ret :: lw_gd) B.pre
  have hnm : meth.name = y.name := (name_of_methodNamed B.named B.method).1
  have V : ax_V g cc nL ret y.cls y.name p s m (as.map (ax_v g)).toArray meth c := ⟨B.exec, B.bytes, B.returns, B.notSynchronized, hml, findClass_of_methodNamed B.named, hnm, fun w hw => hts w (List.mem_cons_of_mem _ hw), hK, hbs, hZ⟩
  have key := hw (ax_W g nL d mc ms p e s m (as.map (ax_v g)).toArray below meth c Ret) (fun σ K ho hK => by
    obtain ⟨pc, L, st, h, u1, u2⟩ := σ
    exact hok pc p e s m _ below meth c V Ret L st h u1 u2 _ ho hK)
  have hsl : ∀ vs : List Value, (lg_sl (vs.map (ax_v g))).length = (lg_sl vs).length := by
    intro vs
    induction vs with
    | nil => rfl
    | cons v r ih =>
      unfold lg_sl at ih ⊢
      rw [List.map_cons, List.flatMap_cons, List.flatMap_cons, List.length_append, List.length_append, ih, ax_v_cat]
      split <;> rfl
  have hl := lv_entry (as.map (ax_v g)) (n := nL) (by rw [hsl]; exact hlen)
  rw [lg_entry_eq]
  refine key s.heap [] _ hP va_S.rf ⟨hl.1, hl.2.1, fun q hq => hl.2.2 q ?_⟩
  obtain ⟨j, w⟩ := q
  have hmap : ∀ (vs : List Value) (n : Nat), (ax_en vs n).map (Option.map (ax_v g)) = ax_en (vs.map (ax_v g)) n := by
    intro vs
    induction vs with
    | nil => intro n; simp [ax_en]
    | cons v r ih =>
      intro n
      rw [List.map_cons]
      unfold ax_en
      rw [ax_v_cat]
      split
      · simp [ih]
      · simp [ih]
  rw [show ((0, ax_en as nL, [], h, 0, 0) : ax_S).2.1 = ax_en as nL from rfl, hmap] at hq
  exact ax_en_mem _ _ _ _ _ hq
/-! returns -/
def ao_iret (mc ms : Nat) : ax_O := fun Ret σ _ => match σ with
  | (pc, L, st, h, u1, u2) => match st with
    | [.int x] => (u1 ≤ mc ∧ u2 ≤ ms) ∧ Ret (some (.int x)) h
    | _ => False
def ao_zret (mc ms : Nat) : ax_O := fun Ret σ _ => match σ with
  | (pc, L, st, h, u1, u2) => match st with
    | [.int x] => (u1 ≤ mc ∧ u2 ≤ ms) ∧ (x = 0 ∨ x = 1) ∧ Ret (some (.int x)) h
    | _ => False
def ao_lret (mc ms : Nat) : ax_O := fun Ret σ _ => match σ with
  | (pc, L, st, h, u1, u2) => match st with
    | [.long x] => (u1 ≤ mc ∧ u2 ≤ ms) ∧ Ret (some (.long x)) h
    | _ => False
def ao_aret (mc ms : Nat) : ax_O := fun Ret σ _ => match σ with
  | (pc, L, st, h, u1, u2) => match st with
    | [.ref x] => (u1 ≤ mc ∧ u2 ≤ ms) ∧ Ret (some (.ref x)) h
    | [.null] => (u1 ≤ mc ∧ u2 ≤ ms) ∧ Ret (some .null) h
    | _ => False
def ao_vret (mc ms : Nat) : ax_O := fun Ret σ _ => match σ with
  | (pc, L, st, h, u1, u2) => match st with
    | [] => (u1 ≤ mc ∧ u2 ≤ ms) ∧ Ret none h
    | _ => False
theorem ax_qr {Ret : Option Value → ax_H → Prop} {s : State} {args : Array Value} {H : Heap} {locs : List Loc} {h : ax_H} {v : Option Value} (hP : ax_P g h H) (hS : va_S (ax_A g) s.heap H locs) (hR : Ret v h) : ∀ t : State, t.heap = H → s.WarmedH t.vm → ax_Q g Ret args s (.returned (v.map (ax_v g))) t := fun t ht _ => ⟨⟨v, h, rfl, hR, by rw [ht]; exact hP⟩, hS.F ht⟩
theorem ak_iret (hr : ret = some .int) (hd : decode cc pc = .ok (.ireturn, 1)) : ax_ok g cc nL ret own nm d mc ms pc (ao_iret mc ms) := by
  intro p e s m args below meth c V Ret L st h u1 u2 K ho hK H locs ls hP hS hl
  dsimp only [ao_iret] at ho
  split at ho
  · rename_i x
    refine W.widen ho.1.1 ho.1.2 ?_
    exact W.iret V.1 V.2.1 (V.2.2.1.trans hr) (ax_qr (v := some (.int x)) hP hS ho.2) hS.2.2 hd V.2.2.2.1
  · exact ho.elim
theorem ak_zret (hr : ret = some .boolean) (hd : decode cc pc = .ok (.ireturn, 1)) : ax_ok g cc nL ret own nm d mc ms pc (ao_zret mc ms) := by
  intro p e s m args below meth c V Ret L st h u1 u2 K ho hK H locs ls hP hS hl
  dsimp only [ao_zret] at ho
  split at ho
  · rename_i x
    refine W.widen ho.1.1 ho.1.2 ?_
    exact W.zret V.1 V.2.1 (V.2.2.1.trans hr) (by rcases ho.2.1 with rfl | rfl <;> rfl) (ax_qr (v := some (.int x)) hP hS ho.2.2) hS.2.2 hd V.2.2.2.1
  · exact ho.elim
theorem ak_lret (hr : ret = some .long) (hd : decode cc pc = .ok (.lreturn, 1)) : ax_ok g cc nL ret own nm d mc ms pc (ao_lret mc ms) := by
  intro p e s m args below meth c V Ret L st h u1 u2 K ho hK H locs ls hP hS hl
  dsimp only [ao_lret] at ho
  split at ho
  · rename_i x
    refine W.widen ho.1.1 ho.1.2 ?_
    exact W.lret V.1 V.2.1 (V.2.2.1.trans hr) (ax_qr (v := some (.long x)) hP hS ho.2) hS.2.2 hd V.2.2.2.1
  · exact ho.elim
theorem ak_aret {rt : FieldType} (hr : ret = some rt) (hrt : (∃ n, rt = .object n) ∨ ∃ t, rt = .array t) (hd : decode cc pc = .ok (.areturn, 1)) : ax_ok g cc nL ret own nm d mc ms pc (ao_aret mc ms) := by
  intro p e s m args below meth c V Ret L st h u1 u2 K ho hK H locs ls hP hS hl
  dsimp only [ao_aret] at ho
  split at ho
  · rename_i x
    refine W.widen ho.1.1 ho.1.2 ?_
    exact W.aret V.1 V.2.1 (V.2.2.1.trans hr) hrt (Or.inr ⟨_, rfl⟩) (ax_qr (v := some (.ref x)) hP hS ho.2) hS.2.2 hd V.2.2.2.1
  · refine W.widen ho.1.1 ho.1.2 ?_
    exact W.aret V.1 V.2.1 (V.2.2.1.trans hr) hrt (Or.inl rfl) (ax_qr (v := some .null) hP hS ho.2) hS.2.2 hd V.2.2.2.1
  · exact ho.elim
theorem ak_vret (hr : ret = none) (hd : decode cc pc = .ok (.return_, 1)) : ax_ok g cc nL ret own nm d mc ms pc (ao_vret mc ms) := by
  intro p e s m args below meth c V Ret L st h u1 u2 K ho hK H locs ls hP hS hl
  dsimp only [ao_vret] at ho
  split at ho
  · refine W.widen ho.1.1 ho.1.2 ?_
    exact W.vret V.1 V.2.1 (V.2.2.1.trans hr) (ax_qr (v := none) hP hS ho.2) hS.2.2 hd V.2.2.2.1
  · exact ho.elim
/-! calls -/
def ax_sp : Nat → List Value → List Value → Option (List Value × List Value)
  | 0, acc, st => some (acc, st)
  | n + 1, acc, v :: st => ax_sp n (v :: acc) st
  | _ + 1, _, [] => none
theorem ax_sp_eq : ∀ (n : Nat) (acc st as rest : List Value), ax_sp n acc st = some (as, rest) → ∃ bs, as = bs ++ acc ∧ bs.length = n ∧ st = bs.reverse ++ rest := by
  intro n
  induction n with
  | zero => intro acc st as rest h; cases h; exact ⟨[], rfl, rfl, rfl⟩
  | succ n ih =>
    intro acc st as rest h
    cases st with
    | nil => cases h
    | cons v st =>
      obtain ⟨bs, h1, h2, h3⟩ := ih (v :: acc) st as rest h
      refine ⟨bs ++ [v], by rw [h1]; simp, by simp [h2], by rw [h3]; simp⟩
/-- the answer of a call, by its kind: 0 none, 1 int, 2 long, 3 a reference -/
def ax_rk (rk : Nat) (v : Option Value) (k : List Value → Prop) : Prop := match rk with
  | 0 => v = none ∧ k []
  | 1 => ∃ r : Int32, v = some (.int r) ∧ k [.int r]
  | 2 => ∃ r : Int64, v = some (.long r) ∧ k [.long r]
  | _ => (∃ b : Nat, v = some (.ref b) ∧ k [.ref b]) ∨ (v = some .null ∧ k [.null])
theorem ax_rk_use {rk : Nat} {v : Option Value} {k : List Value → Prop} (h : ax_rk rk v k) : k v.toList := by
  unfold ax_rk at h
  split at h
  · obtain ⟨rfl, h⟩ := h; exact h
  · obtain ⟨r, rfl, h⟩ := h; exact h
  · obtain ⟨r, rfl, h⟩ := h; exact h
  · rcases h with ⟨b, rfl, h⟩ | ⟨rfl, h⟩ <;> exact h
/-- a call: y, its code, locals and type; n values are taken; ci: the receiver's class (99: a static method) -/
def ao_inv (g : ax_G) (d ci rk : Nat) (y : MethodName) (cc : ByteArray) (nL : Nat) (ret : Option FieldType) (n mc mx ms my : Nat) : ax_O := fun _ σ K => match σ with
  | (pc, L, st, h, u1, u2) => match ax_sp n [] st with
    | some (as, rest) => (ci = 99 ∨ ∃ a bs, as = .ref a :: bs ∧ (ax_s h a).1 = ci) ∧ ((rest.map Value.category).sum ≤ 8 ∧ u1 + mc ≤ mx ∧ u2 + ms ≤ my) ∧ ∃ d', d' < d ∧ ax_M g d' mc ms y cc nL ret as h (fun v h' => ax_rk rk v (fun vs => K (pc + 3, L, vs ++ rest, h', u1 + mc, u2 + ms)))
    | none => False
theorem ax_call {p : Program} {e : Env} {s : State} {m : MethodId} {args : Array Value} {below : List Frame} {meth : Method} {c : Code} {R : Room} {cells slots mc' ms' : Nat} {Q : State → Prop} {ls : Array Slot} {rest st0 : List Value} {H : Heap} {locs : List Loc} {Ret' : Option Value → ax_H → Prop} {a : Array Value} (hr : va_Run p g.1 e R s m args below meth c H locs cells slots mc' ms' (F0 m pc ls st0) rest (ax_Q g Ret' a) (ax_A g)) (hS : va_S (ax_A g) s.heap H locs)
    (kk : ∀ (v : Option Value) (h' : ax_H) (H1 : Heap) (locs1 : List Loc), Ret' v h' → ax_P g h' H1 → va_S (ax_A g) s.heap H1 locs1 → W p g.1 e R s m args below meth c H1 locs1 (cells + mc') (slots + ms') Q (F0 m (pc + 3) ls ((v.map (ax_v g)).toList ++ rest))) : W p g.1 e R s m args below meth c H locs cells slots Q (F0 m pc ls st0) := by
  intro T hT X
  obtain ⟨v, st₀, t, T', L, h0, X', hL, e1, e2, ⟨⟨v', h', hv, hp, hb⟩, hz, hk⟩, st⟩ := hr T hT X
  cases hv
  rw [h0] at hz hk
  obtain ⟨t2, a1, b1⟩ := kk v' h' T'.heap (locs ++ L) hp (by rw [e1]; exact hb)
    ⟨Nat.le_trans hS.1 (by rw [e1]; exact hz), fun q h1 h2 => by rw [e1, hk q (Nat.lt_of_lt_of_le h1 hS.1) h2]; exact hS.2.1 q h1 h2, fun q hq => by
      rcases List.mem_append.mp hq with h | h
      · exact hS.2.2 q h
      · exact hL q h⟩ T' rfl X'
  exact ⟨t2, st t2 a1, b1⟩
theorem ax_pre {y : MethodName} {cc' : ByteArray} {nL' : Nat} {ret' : Option FieldType} (hcode : Cond.code y cc' nL' ret' ∈ lw_gd) : ∀ w ∈ (Cond.code y cc' nL' ret' :: lw_gd), w ∈ lw_gd := fun w h => (List.mem_cons.mp h).elim (fun e => e ▸ hcode) id
theorem ax_PreS {p : Program} {s : State} {m : MethodId} {args : Array Value} {meth : Method} {c : Code} {h : ax_H} {H : Heap} {locs : List Loc} {as : List Value} (V : ax_V g cc nL ret own nm p s m args meth c) (hP : ax_P g h H) (hS : va_S (ax_A g) s.heap H locs) : FrameBlind (ax_C g as h) ∧ ∀ U : State, U.heap = H → s.WarmedH U.vm → ax_C g as h (as.map (ax_v g)).toArray U := by
  refine ⟨fun a U f mk q => ?_, fun U hU hW => ?_⟩
  · obtain ⟨q0, q1, q2, q3, q4⟩ := q
    exact ⟨q0, va_K.moved (u := U) (U := U.calling f mk a) (Vm.Alike.refl U.vm) q1, q2, ax_Z_moved (s := U) (U := U.calling f mk a) q3 (Vm.Alike.refl U.vm) (Or.inl rfl) (fun _ _ _ => rfl), q4⟩
  · obtain ⟨-, -, -, -, -, -, -, -, hK, hb, hZ⟩ := V
    exact ⟨rfl, va_K.moved hW.alike hK, by rw [hU]; exact Nat.le_trans hb hS.1, by rw [hU]; exact ax_Z_moved hZ hW.alike (Or.inr hW) (fun a ha hn => hS.2.1 a ha hn), by rw [hU]; exact hP⟩
theorem ax_rmL {d' d nL' : Nat} (h : d' < d) (hn : nL' ≤ 22) (mc' ms' mc ms : Nat) : (ax_rm d' mc' ms').frames + 1 ≤ (ax_rm d mc ms).frames ∧ 8 + (nL' + 11) + (ax_rm d' mc' ms').locals ≤ (ax_rm d mc ms).locals := by
  constructor
  · exact h
  · show 8 + (nL' + 11) + (41 * d' + 32) ≤ 41 * d + 32
    omega
theorem ax_sum (rest : List Value) : ((rest.map (ax_v g)).map fun v => v.category).sum = (rest.map Value.category).sum := by
  rw [List.map_map]
  congr 1
  exact List.map_congr_left (fun v _ => ax_v_cat g v)
/-- a static method -/
theorem ak_invS {rk : Nat} {y : MethodName} {cc' : ByteArray} {nL' n mc' ms' index : Nat} {ret' : Option FieldType} (hn' : nL' ≤ 22) (hl : Cond.methodLink own index y ∈ lw_gd) (hst : Cond.static y ∈ lw_gd) (hi : Cond.initialized y.cls ∈ lw_gd) (hcode : Cond.code y cc' nL' ret' ∈ lw_gd) (hdd : y.cls ≠ "java/lang/invoke/MethodHandle" ∧ y.cls ≠ "java/lang/invoke/VarHandle" ∧ (parseMethodDescriptor y.desc).map (fun d => d.parameters.length) = some n) (hd : decode cc pc = .ok (.invokestatic index, 3)) : ax_ok g cc nL ret own nm d mc ms pc (ao_inv g d 99 rk y cc' nL' ret' n mc' mc ms' ms) := by
  intro p e s m args below meth c V Ret L st h u1 u2 K ho hK H locs ls hP hS hlr
  dsimp only [ao_inv] at ho
  split at ho
  · rename_i as rest hsp
    obtain ⟨-, ⟨hrest, hc1, hc2⟩, d', hdl, hM⟩ := ho
    obtain ⟨bs, h1, h2, h3⟩ := ax_sp_eq _ _ _ _ _ hsp
    rw [List.append_nil] at h1
    subst h1
    refine ax_call (mc' := mc') (ms' := ms') (rest := rest.map (ax_v g)) (va_runS (As := as.map (ax_v g)) (n := n) ⟨V.1, V.2.1, V.2.2.2.2.1, V.2.2.2.2.2.1, V.2.2.2.2.2.2.2.1⟩ hM (va_cwS n V.2.2.2.2.2.2.2.1 (ax_gi ?_) rfl rfl rfl hdd (ax_rmL hdl hn' mc' ms' mc ms)) (ax_PreS V hP hS) rfl (by rw [List.length_map]; exact h2) hlr.1 (by show List.map (ax_v g) st = _; rw [h3, List.map_append, List.map_reverse]) (by show 0 + _ ≤ 8; rw [Nat.zero_add, ax_sum]; exact hrest) hd ⟨hc1, hc2⟩) hS ?_
    · intro w hw
      rcases List.mem_append.mp hw with hw | hw
      · simp only [List.mem_cons, List.not_mem_nil, or_false] at hw
        rcases hw with rfl | rfl | rfl
        · exact hl
        · exact hst
        · exact hi
      · exact ax_pre hcode w hw
    · intro v h' H1 locs1 hR hP1 hS1
      have := hK _ (ax_rk_use hR) H1 locs1 ls hP1 hS1 hlr
      cases v <;> exact this
  · exact ho.elim
end
end
section
section
variable {g : ax_G} {cc : ByteArray} {nL : Nat} {ret : Option FieldType} {own nm : String} {d mc ms pc : Nat}
/-- a method of an object -/
theorem ak_invV {rk : Nat} {y : MethodName} {cc' : ByteArray} {nL' n mc' ms' index ci N : Nat} {T : u_T} {ret' : Option FieldType} (hn' : nL' ≤ 22) (hci : ci < 11) (hcl : vwCl[ci]? = some (y.cls, T, N)) (hl : Cond.methodLink own index y ∈ lw_gd) (him : Cond.instanceMethod y ∈ lw_gd) (hsel : Cond.selects y.cls y y ∈ lw_gd) (hi : Cond.initialized y.cls ∈ lw_gd) (hcode : Cond.code y cc' nL' ret' ∈ lw_gd) (hdd : y.cls ≠ "java/lang/invoke/MethodHandle" ∧ y.cls ≠ "java/lang/invoke/VarHandle" ∧ (parseMethodDescriptor y.desc).map (fun d => d.parameters.length) = some n) (hd : decode cc pc = .ok (.invokevirtual index, 3)) : ax_ok g cc nL ret own nm d mc ms pc (ao_inv g d ci rk y cc' nL' ret' (n + 1) mc' mc ms' ms) := by
  intro p e s m args below meth c V Ret L st h u1 u2 K ho hK H locs ls hP hS hlr
  dsimp only [ao_inv] at ho
  split at ho
  · rename_i as rest hsp
    obtain ⟨hrc, ⟨hrest, hc1, hc2⟩, d', hdl, hM⟩ := ho
    obtain ⟨bs, h1, h2, h3⟩ := ax_sp_eq _ _ _ _ _ hsp
    rw [List.append_nil] at h1
    subst h1
    obtain ⟨a, As, rfl, hsa⟩ := hrc.resolve_left (by omega)
    obtain ⟨ha, hs, -⟩ := ax_s_lt hsa (by omega)
    have hpre := ax_PreS (as := .ref a :: As) V hP hS
    have hrecv := va_recv V.2.2.2.2.2.2.2.2.1 hP.1 hcl (q0 := a) (a := g.2.1 + a) (fs := ax_fl g h (ax_ft ci) a) ((ax_w_get ha).trans (by rw [ax_e_obj hs hci]))
    have hvr := ax_vr hP ha
    have hmap : (Value.ref a :: As).map (ax_v g) = .ref (g.2.1 + a) :: As.map (ax_v g) := by rw [List.map_cons, hvr]
    rw [hmap] at hpre
    refine ax_call (mc' := mc') (ms' := ms') (rest := rest.map (ax_v g)) (va_runV (C := y.cls) (b := g.2.1 + a) (As := As.map (ax_v g)) (n := n) ⟨V.1, V.2.1, V.2.2.2.2.1, V.2.2.2.2.2.1, V.2.2.2.2.2.2.2.1⟩ hM (cwV n V.2.2.2.2.2.2.2.1 (ax_gi ?_) rfl rfl rfl ⟨rfl, hdd⟩ (ax_rmL hdl hn' mc' ms' mc ms)) ⟨hpre.1, hrecv, hpre.2⟩ rfl (by rw [List.length_map]; simpa using h2) hlr.1 (by show List.map (ax_v g) st = _; rw [h3, List.map_append, List.map_reverse, hmap, List.reverse_cons, List.append_assoc]; rfl) (by show 0 + _ ≤ 8; rw [Nat.zero_add, ax_sum]; exact hrest) hd ⟨hc1, hc2⟩) hS ?_
    · intro w hw
      rcases List.mem_append.mp hw with hw | hw
      · simp only [List.mem_cons, List.not_mem_nil, or_false] at hw
        rcases hw with rfl | rfl | rfl | rfl
        · exact hl
        · exact him
        · exact hsel
        · exact hi
      · exact ax_pre hcode w hw
    · intro v h' H1 locs1 hR hP1 hS1
      have := hK _ (ax_rk_use hR) H1 locs1 ls hP1 hS1 hlr
      cases v <;> exact this
  · exact ho.elim
/-- a constructor of an object -/
theorem ak_invI {rk : Nat} {y : MethodName} {cc' : ByteArray} {nL' n mc' ms' index ci : Nat} (hn' : nL' ≤ 22) (hci : ci < 11) (hl : Cond.methodLink own index y ∈ lw_gd) (him : Cond.instanceMethod y ∈ lw_gd) (hi : Cond.initialized y.cls ∈ lw_gd) (hcode : Cond.code y cc' nL' none ∈ lw_gd) (hnm : y.name = "<init>") (hdd : y.cls ≠ "java/lang/invoke/MethodHandle" ∧ y.cls ≠ "java/lang/invoke/VarHandle" ∧ (parseMethodDescriptor y.desc).map (fun d => d.parameters.length) = some n) (hd : decode cc pc = .ok (.invokespecial index, 3)) : ax_ok g cc nL ret own nm d mc ms pc (ao_inv g d ci rk y cc' nL' none (n + 1) mc' mc ms' ms) := by
  intro p e s m args below meth c V Ret L st h u1 u2 K ho hK H locs ls hP hS hlr
  dsimp only [ao_inv] at ho
  split at ho
  · rename_i as rest hsp
    obtain ⟨hrc, ⟨hrest, hc1, hc2⟩, d', hdl, hM⟩ := ho
    obtain ⟨bs, h1, h2, h3⟩ := ax_sp_eq _ _ _ _ _ hsp
    rw [List.append_nil] at h1
    subst h1
    obtain ⟨a, As, rfl, hsa⟩ := hrc.resolve_left (by omega)
    obtain ⟨ha, hs, -⟩ := ax_s_lt hsa (by omega)
    have hpre := ax_PreS (as := .ref a :: As) V hP hS
    have hvr := ax_vr hP ha
    have hmap : (Value.ref a :: As).map (ax_v g) = .ref (g.2.1 + a) :: As.map (ax_v g) := by rw [List.map_cons, hvr]
    rw [hmap] at hpre
    have ht := V.2.2.2.2.2.2.2.1
    refine ax_call (mc' := mc') (ms' := ms') (rest := rest.map (ax_v g)) (va_runI (b := g.2.1 + a) (As := As.map (ax_v g)) (n := n) ⟨V.1, V.2.1, V.2.2.2.2.1, V.2.2.2.2.2.1, ht⟩ hM (cwI n ht (ax_gi (ax_pre hcode)) rfl rfl rfl (ht _ hi) (ht _ hl) (ht _ him) hnm hdd (ax_rmL hdl hn' mc' ms' mc ms)) hpre rfl (by rw [List.length_map]; simpa using h2) hlr.1 (by show List.map (ax_v g) st = _; rw [h3, List.map_append, List.map_reverse, hmap, List.reverse_cons, List.append_assoc]; rfl) (by show 0 + _ ≤ 8; rw [Nat.zero_add, ax_sum]; exact hrest) hd ⟨hc1, hc2⟩) hS ?_
    intro v h' H1 locs1 hR hP1 hS1
    have := hK _ (ax_rk_use hR) H1 locs1 ls hP1 hS1 hlr
    cases v <;> exact this
  · exact ho.elim
/-- a nest mate's private constructor -/
theorem ak_invIN {rk : Nat} {y : MethodName} {host : String} {cc' : ByteArray} {nL' n mc' ms' index ci : Nat} (hn' : nL' ≤ 22) (hci : ci < 11) (hl : (own, index, y, host) ∈ ax_nm) (him : Cond.instanceMethod y ∈ lw_gd) (hi : Cond.initialized y.cls ∈ lw_gd) (hcode : Cond.code y cc' nL' none ∈ lw_gd) (hnm : y.name = "<init>") (hdd : y.cls ≠ "java/lang/invoke/MethodHandle" ∧ y.cls ≠ "java/lang/invoke/VarHandle" ∧ (parseMethodDescriptor y.desc).map (fun d => d.parameters.length) = some n) (hd : decode cc pc = .ok (.invokespecial index, 3)) : ax_ok g cc nL ret own nm d mc ms pc (ao_inv g d ci rk y cc' nL' none (n + 1) mc' mc ms' ms) := by
  intro p e s m args below meth c V Ret L st h u1 u2 K ho hK H locs ls hP hS hlr
  dsimp only [ao_inv] at ho
  split at ho
  · rename_i as rest hsp
    obtain ⟨hrc, ⟨hrest, hc1, hc2⟩, d', hdl, hM⟩ := ho
    obtain ⟨bs, h1, h2, h3⟩ := ax_sp_eq _ _ _ _ _ hsp
    rw [List.append_nil] at h1
    subst h1
    obtain ⟨a, As, rfl, hsa⟩ := hrc.resolve_left (by omega)
    obtain ⟨ha, hs, -⟩ := ax_s_lt hsa (by omega)
    have hpre := ax_PreS (as := .ref a :: As) V hP hS
    have hvr := ax_vr hP ha
    have hmap : (Value.ref a :: As).map (ax_v g) = .ref (g.2.1 + a) :: As.map (ax_v g) := by rw [List.map_cons, hvr]
    rw [hmap] at hpre
    have ht := V.2.2.2.2.2.2.2.1
    have hnw : va_Nw (.methodLinkNest own index y host) s := V.2.2.2.2.2.2.2.2.2.2.2.2.2.2.2.2.2.1 _ hl
    refine ax_call (mc' := mc') (ms' := ms') (rest := rest.map (ax_v g)) (va_runIN (b := g.2.1 + a) (As := As.map (ax_v g)) (n := n) ⟨V.1, V.2.1, V.2.2.2.2.1, V.2.2.2.2.2.1, ht⟩ hM ⟨va_cnB n ht (ax_gi (ax_pre hcode)) rfl rfl rfl hnw (ht _ hi) hdd (ax_rmL hdl hn' mc' ms' mc ms), hnm, ht _ him⟩ hpre rfl (by rw [List.length_map]; simpa using h2) hlr.1 (by show List.map (ax_v g) st = _; rw [h3, List.map_append, List.map_reverse, hmap, List.reverse_cons, List.append_assoc]; rfl) (by show 0 + _ ≤ 8; rw [Nat.zero_add, ax_sum]; exact hrest) hd ⟨hc1, hc2⟩) hS ?_
    intro v h' H1 locs1 hR hP1 hS1
    have := hK _ (ax_rk_use hR) H1 locs1 ls hP1 hS1 hlr
    cases v <;> exact this
  · exact ho.elim
/-! arrays -/
def ao_iald : ax_O := fun _ σ K => match σ with
  | (pc, L, st, h, u1, u2) => match st with
    | .int i :: .ref a :: r => (ax_s h a).1 = 11 ∧ vp_in i (ax_s h a).2 ∧ K (pc + 1, L, .int (ax_i h a i.toNatClampNeg) :: r, h, u1, u2)
    | _ => False
def ao_bald (kd : Nat) : ax_O := fun _ σ K => match σ with
  | (pc, L, st, h, u1, u2) => match st with
    | .int i :: .ref a :: r => (ax_s h a).1 = kd ∧ vp_in i (ax_s h a).2 ∧ K (pc + 1, L, .int (ax_i h a i.toNatClampNeg) :: r, h, u1, u2)
    | _ => False
def ao_lald : ax_O := fun _ σ K => match σ with
  | (pc, L, st, h, u1, u2) => match st with
    | .int i :: .ref a :: r => (ax_s h a).1 = 14 ∧ vp_in i (ax_s h a).2 ∧ K (pc + 1, L, .long (ax_l h a i.toNatClampNeg) :: r, h, u1, u2)
    | _ => False
def ao_aald (kd : Nat) : ax_O := fun _ σ K => match σ with
  | (pc, L, st, h, u1, u2) => match st with
    | .int i :: .ref a :: r => (ax_s h a).1 = kd ∧ vp_in i (ax_s h a).2 ∧ (∀ b, ax_r h a i.toNatClampNeg = some b → K (pc + 1, L, .ref b :: r, h, u1, u2)) ∧ (ax_r h a i.toNatClampNeg = none → K (pc + 1, L, .null :: r, h, u1, u2))
    | _ => False
def ao_alen (kd : Nat) : ax_O := fun _ σ K => match σ with
  | (pc, L, st, h, u1, u2) => match st with
    | .ref a :: r => (ax_s h a).1 = kd ∧ K (pc + 1, L, .int (Int32.ofNat (ax_s h a).2) :: r, h, u1, u2)
    | _ => False
theorem ax_arr {h : ax_H} {H : Heap} {a kd : Nat} (hP : ax_P g h H) (hs : (ax_s h a).1 = kd) (h1 : ¬ kd < 11) (h2 : kd < 99) : a < h.1 ∧ (ax_w g h)[a]? = some (g.2.1 + a, .inl (g.2.2.2.2 kd, (ax_s h a).2, ax_c g h a kd)) ∧ ax_v g (.ref a) = .ref (g.2.1 + a) ∧ (h.2.1 a).1 = kd ∧ (h.2.1 a).2 = (ax_s h a).2 := by
  obtain ⟨ha, hs', hl⟩ := ax_s_lt hs h2
  exact ⟨ha, (ax_w_get ha).trans (by rw [ax_e_arr hs' h1, hl]), ax_vr hP ha, hs', hl.symm⟩
theorem ak_iald (hd : decode cc pc = .ok (.iaload, 1)) : ax_ok g cc nL ret own nm d mc ms pc ao_iald := by
  intro p e s m args below meth c V Ret L st h u1 u2 K ho hK H locs ls hP hS hl
  dsimp only [ao_iald] at ho
  split at ho
  · rename_i i a r
    obtain ⟨ha, hw, hv, -, -⟩ := ax_arr hP ho.1 (by decide) (by decide)
    show W _ _ _ _ _ _ _ _ _ _ _ _ _ _ _ (F0 m pc ls (Value.int i :: ax_v g (.ref a) :: r.map (ax_v g)))
    rw [hv]
    exact va_iald V.1 V.2.1 V.2.2.2.2.2.2.2.2.1 hP.1 a 0 hw rfl ho.2.1 hd (hK _ ho.2.2 H locs ls hP hS hl)
  · exact ho.elim
theorem ak_bald (hd : decode cc pc = .ok (.baload, 1)) : ax_ok g cc nL ret own nm d mc ms pc (ao_bald 12) := by
  intro p e s m args below meth c V Ret L st h u1 u2 K ho hK H locs ls hP hS hl
  dsimp only [ao_bald] at ho
  split at ho
  · rename_i i a r
    obtain ⟨ha, hw, hv, -, -⟩ := ax_arr hP ho.1 (by decide) (by decide)
    show W _ _ _ _ _ _ _ _ _ _ _ _ _ _ _ (F0 m pc ls (Value.int i :: ax_v g (.ref a) :: r.map (ax_v g)))
    rw [hv]
    exact va_bald V.1 V.2.1 V.2.2.2.2.2.2.2.2.1 hP.1 a 1 hw rfl ho.2.1 hd (hK _ ho.2.2 H locs ls hP hS hl)
  · exact ho.elim
theorem ak_zald (hd : decode cc pc = .ok (.baload, 1)) : ax_ok g cc nL ret own nm d mc ms pc (ao_bald 13) := by
  intro p e s m args below meth c V Ret L st h u1 u2 K ho hK H locs ls hP hS hl
  dsimp only [ao_bald] at ho
  split at ho
  · rename_i i a r
    obtain ⟨ha, hw, hv, -, -⟩ := ax_arr hP ho.1 (by decide) (by decide)
    show W _ _ _ _ _ _ _ _ _ _ _ _ _ _ _ (F0 m pc ls (Value.int i :: ax_v g (.ref a) :: r.map (ax_v g)))
    rw [hv]
    exact va_zald V.1 V.2.1 V.2.2.2.2.2.2.2.2.1 hP.1 a 2 hw rfl ho.2.1 hd (hK _ ho.2.2 H locs ls hP hS hl)
  · exact ho.elim
theorem ak_lald (hd : decode cc pc = .ok (.laload, 1)) : ax_ok g cc nL ret own nm d mc ms pc ao_lald := by
  intro p e s m args below meth c V Ret L st h u1 u2 K ho hK H locs ls hP hS hl
  dsimp only [ao_lald] at ho
  split at ho
  · rename_i i a r
    obtain ⟨ha, hw, hv, -, -⟩ := ax_arr hP ho.1 (by decide) (by decide)
    show W _ _ _ _ _ _ _ _ _ _ _ _ _ _ _ (F0 m pc ls (Value.int i :: ax_v g (.ref a) :: r.map (ax_v g)))
    rw [hv]
    exact va_lald V.1 V.2.1 V.2.2.2.2.2.2.2.2.1 hP.1 a 3 hw rfl ho.2.1 hd (hK _ ho.2.2 H locs ls hP hS hl)
  · exact ho.elim
theorem ak_aald {kd t0 : Nat} {C : String} (h1 : ¬ kd < 15) (h2 : kd < 99) (ht : (ax_t g)[t0]? = some (g.2.2.2.2 kd, .object C)) (hd : decode cc pc = .ok (.aaload, 1)) : ax_ok g cc nL ret own nm d mc ms pc (ao_aald kd) := by
  intro p e s m args below meth c V Ret L st h u1 u2 K ho hK H locs ls hP hS hl
  dsimp only [ao_aald] at ho
  split at ho
  · rename_i i a r
    obtain ⟨ha, hw, hv, -, -⟩ := ax_arr hP ho.1 (by omega) h2
    show W _ _ _ _ _ _ _ _ _ _ _ _ _ _ _ (F0 m pc ls (Value.int i :: ax_v g (.ref a) :: r.map (ax_v g)))
    rw [hv]
    have hc : ax_c g h a kd = .inr (.inr (.inr (.inr (fun j => (ax_r h a j).map (ax_ad g))))) := by unfold ax_c; rw [if_neg (by omega), if_neg (by omega)]
    rw [hc] at hw
    refine va_aldq V.1 V.2.1 V.2.2.2.2.2.2.2.2.1 hP.1 a t0 hw ht ho.2.1 hd ?_
    cases hr : ax_r h a i.toNatClampNeg with
    | none => exact hK _ (ho.2.2.2 hr) H locs ls hP hS hl
    | some b => exact hK _ (ho.2.2.1 b hr) H locs ls hP hS hl
  · exact ho.elim
theorem ak_alen {kd t0 : Nat} {ty : FieldType} (h1 : ¬ kd < 11) (h2 : kd < 99) (ht : (ax_t g)[t0]? = some (g.2.2.2.2 kd, ty)) (hd : decode cc pc = .ok (.arraylength, 1)) : ax_ok g cc nL ret own nm d mc ms pc (ao_alen kd) := by
  intro p e s m args below meth c V Ret L st h u1 u2 K ho hK H locs ls hP hS hl
  dsimp only [ao_alen] at ho
  split at ho
  · rename_i a r
    obtain ⟨ha, hw, hv, -, -⟩ := ax_arr hP ho.1 h1 h2
    show W _ _ _ _ _ _ _ _ _ _ _ _ _ _ _ (F0 m pc ls (ax_v g (.ref a) :: r.map (ax_v g)))
    rw [hv]
    exact va_alen V.1 V.2.1 V.2.2.2.2.2.2.2.2.1 hP.1 a t0 hw ht rfl hd (hK _ ho.2 H locs ls hP hS hl)
  · exact ho.elim
def ao_iast : ax_O := fun _ σ K => match σ with
  | (pc, L, st, h, u1, u2) => match st with
    | .int x :: .int i :: .ref a :: r => (ax_s h a).1 = 11 ∧ vp_in i (ax_s h a).2 ∧ K (pc + 1, L, r, ax_pi h a i.toNatClampNeg x, u1, u2)
    | _ => False
def ao_bast : ax_O := fun _ σ K => match σ with
  | (pc, L, st, h, u1, u2) => match st with
    | .int x :: .int i :: .ref a :: r => (ax_s h a).1 = 12 ∧ vp_in i (ax_s h a).2 ∧ K (pc + 1, L, r, ax_pi h a i.toNatClampNeg x.toInt8.toInt32, u1, u2)
    | _ => False
def ao_last : ax_O := fun _ σ K => match σ with
  | (pc, L, st, h, u1, u2) => match st with
    | .long x :: .int i :: .ref a :: r => (ax_s h a).1 = 14 ∧ vp_in i (ax_s h a).2 ∧ K (pc + 1, L, r, ax_pl h a i.toNatClampNeg x, u1, u2)
    | _ => False
theorem ax_in_size {i : Int32} {n : Nat} {cA : ClassId} {f : Nat → Value} (h : vp_in i n) : ¬ (i < 0 ∨ (arrV cA n f).slots.size ≤ i.toNatClampNeg) := by rw [arrV_size]; exact h
theorem ak_iast (hd : decode cc pc = .ok (.iastore, 1)) : ax_ok g cc nL ret own nm d mc ms pc ao_iast := by
  intro p e s m args below meth c V Ret L st h u1 u2 K ho hK H locs ls hP hS hl
  dsimp only [ao_iast] at ho
  split at ho
  · rename_i x i a r
    obtain ⟨ha, hw, hv, hk, hln⟩ := ax_arr hP ho.1 (by decide) (by decide)
    show W _ _ _ _ _ _ _ _ _ _ _ _ _ _ _ (F0 m pc ls (Value.int x :: .int i :: ax_v g (.ref a) :: r.map (ax_v g)))
    rw [hv]
    have hat : H[g.2.1 + a]? = some (arrV (g.2.2.2.2 11) (ax_s h a).2 (fun j => .int (ax_i h a j))) := hP.1 a _ hw
    refine W.iast V.1 V.2.1 hat ((V.2.2.2.2.2.2.2.2.1.2 0 _ rfl).1 _ _) (fun q => by cases q) (ax_in_size ho.2.1) rfl rfl hd fun H1 e1 z oq => ?_
    refine hK _ ho.2.2 H1 _ ls (ax_P_set hP rfl (fun b hb => ax_e_cong rfl (ax_u_ne hb) rfl rfl) ha ?_ z oq) (hS.put z oq (Nat.le_add_right _ _)) hl
    rw [ax_e_arr (h := ax_pi h a i.toNatClampNeg x) (kd := 11) hk (by decide)]
    show H1[g.2.1 + a]? = some (arrV (g.2.2.2.2 11) (h.2.1 a).2 (fun j => .int (ax_u h.2.2.1 a i.toNatClampNeg x a j)))
    rw [e1, arrV_store, hln, ax_u_eq]
    congr 2
    funext q
    by_cases hq : q = i.toNatClampNeg
    · subst hq
      simp [updV]
    · simp [updV, hq, ax_i]
  · exact ho.elim
theorem ak_bast (hd : decode cc pc = .ok (.bastore, 1)) : ax_ok g cc nL ret own nm d mc ms pc ao_bast := by
  intro p e s m args below meth c V Ret L st h u1 u2 K ho hK H locs ls hP hS hl
  dsimp only [ao_bast] at ho
  split at ho
  · rename_i x i a r
    obtain ⟨ha, hw, hv, hk, hln⟩ := ax_arr hP ho.1 (by decide) (by decide)
    show W _ _ _ _ _ _ _ _ _ _ _ _ _ _ _ (F0 m pc ls (Value.int x :: .int i :: ax_v g (.ref a) :: r.map (ax_v g)))
    rw [hv]
    have hat : H[g.2.1 + a]? = some (arrV (g.2.2.2.2 12) (ax_s h a).2 (fun j => .int (ax_i h a j))) := hP.1 a _ hw
    refine W.bast V.1 V.2.1 hat ((V.2.2.2.2.2.2.2.2.1.2 1 _ rfl).1 _ _) (fun q => by cases q) (ax_in_size ho.2.1) rfl rfl hd fun H1 e1 z oq => ?_
    refine hK _ ho.2.2 H1 _ ls (ax_P_set hP rfl (fun b hb => ax_e_cong rfl (ax_u_ne hb) rfl rfl) ha ?_ z oq) (hS.put z oq (Nat.le_add_right _ _)) hl
    rw [ax_e_arr (h := ax_pi h a i.toNatClampNeg x.toInt8.toInt32) (kd := 12) hk (by decide)]
    show H1[g.2.1 + a]? = some (arrV (g.2.2.2.2 12) (h.2.1 a).2 (fun j => .int (ax_u h.2.2.1 a i.toNatClampNeg x.toInt8.toInt32 a j)))
    rw [e1, arrV_store, hln, ax_u_eq]
    congr 2
    funext q
    by_cases hq : q = i.toNatClampNeg
    · subst hq
      simp [updV]
      rfl
    · simp [updV, hq, ax_i]
  · exact ho.elim
theorem ak_last (hd : decode cc pc = .ok (.lastore, 1)) : ax_ok g cc nL ret own nm d mc ms pc ao_last := by
  intro p e s m args below meth c V Ret L st h u1 u2 K ho hK H locs ls hP hS hl
  dsimp only [ao_last] at ho
  split at ho
  · rename_i x i a r
    obtain ⟨ha, hw, hv, hk, hln⟩ := ax_arr hP ho.1 (by decide) (by decide)
    show W _ _ _ _ _ _ _ _ _ _ _ _ _ _ _ (F0 m pc ls (Value.long x :: .int i :: ax_v g (.ref a) :: r.map (ax_v g)))
    rw [hv]
    have hat : H[g.2.1 + a]? = some (arrV (g.2.2.2.2 14) (ax_s h a).2 (fun j => .long (ax_l h a j))) := hP.1 a _ hw
    refine W.last V.1 V.2.1 hat ((V.2.2.2.2.2.2.2.2.1.2 3 _ rfl).1 _ _) (fun q => by cases q) (ax_in_size ho.2.1) rfl rfl hd fun H1 e1 z oq => ?_
    refine hK _ ho.2.2 H1 _ ls (ax_P_set hP rfl (fun b hb => ax_e_cong rfl rfl (ax_u_ne hb) rfl) ha ?_ z oq) (hS.put z oq (Nat.le_add_right _ _)) hl
    rw [ax_e_arr (h := ax_pl h a i.toNatClampNeg x) (kd := 14) hk (by decide)]
    show H1[g.2.1 + a]? = some (arrV (g.2.2.2.2 14) (h.2.1 a).2 (fun j => .long (ax_u h.2.2.2.1 a i.toNatClampNeg x a j)))
    rw [e1, arrV_store, hln, ax_u_eq]
    congr 2
    funext q
    by_cases hq : q = i.toNatClampNeg
    · subst hq
      simp [updV]
    · simp [updV, hq, ax_l]
  · exact ho.elim
/-! the tree of a code -/
def ax_nd (k : Nat) (a b : Nat → ax_O) : Nat → ax_O := fun pc => bif Nat.ble pc k then a pc else b pc
def ax_lf (k : Nat) (o : ax_O) : Nat → ax_O := fun pc => bif Nat.beq pc k then o else ao_no
theorem ax_nd_ok {k : Nat} {a b : Nat → ax_O} (ha : ∀ pc, ax_ok g cc nL ret own nm d mc ms pc (a pc)) (hb : ∀ pc, ax_ok g cc nL ret own nm d mc ms pc (b pc)) : ∀ pc, ax_ok g cc nL ret own nm d mc ms pc (ax_nd k a b pc) := by
  intro pc
  unfold ax_nd
  cases Nat.ble pc k
  · exact hb pc
  · exact ha pc
theorem ax_lf_ok {k : Nat} {o : ax_O} (ho : ax_ok g cc nL ret own nm d mc ms k o) : ∀ pc, ax_ok g cc nL ret own nm d mc ms pc (ax_lf k o pc) := by
  intro pc
  unfold ax_lf
  cases h : Nat.beq pc k
  · exact ak_no
  · rw [Nat.eq_of_beq_eq_true h]
    exact ho
/-- switches -/
def ax_sw (x : Int32) (K : Nat → Prop) (dflt : Nat) : List (Int32 × Nat) → Prop
  | [] => K dflt
  | (v, t) :: r => (x = v → K t) ∧ (¬ x = v → ax_sw x K dflt r)
def ao_sw (ts : List (Int32 × Nat)) (dflt : Nat) : ax_O := fun _ σ K => match σ with
  | (pc, L, st, h, u1, u2) => match st with
    | .int x :: r => ax_sw x (fun t => K (t, L, r, h, u1, u2)) dflt ts
    | _ => False
end
section
variable {g : ax_G} {cc : ByteArray} {nL : Nat} {ret : Option FieldType} {own nm : String} {d mc ms pc : Nat}
/-- the table of a switch out of the listing: each value with its target -/
def ax_swt (pc : Nat) (ps : List (Int × Int)) : List (Int32 × Nat) := ps.map fun q => (Int32.ofInt q.1, ((pc : Int) + q.2).toNat)
theorem ax_i32 {x : Int32} {z : Int} (h1 : -2147483648 ≤ z) (h2 : z < 2147483648) : x = Int32.ofInt z ↔ x.toInt = z := by
  constructor
  · intro h
    rw [h]
    exact Int32.toInt_ofInt_of_le h1 (by omega)
  · intro h
    rw [← h]
    exact (Int32.ofInt_toInt x).symm
theorem ak_table {dflt lo hi : Int} {offs : Array Int} {len dt : Nat} {ts : List (Int32 × Nat)} (hd : decode cc pc = .ok (.tableswitch dflt lo hi offs, len)) (h1 : -2147483648 ≤ lo) (h2 : hi < 2147483648) (hlen : (offs.size : Int) = hi - lo + 1) (hdt : (pc : Int) + dflt = (dt : Int)) (ht : ∀ k, k < offs.size → ∃ (off : Int) (tgt : Nat), offs[k]? = some off ∧ (pc : Int) + off = (tgt : Int) ∧ ts[k]? = some (Int32.ofInt (lo + k), tgt)) (htl : ts.length = offs.size) : ax_ok g cc nL ret own nm d mc ms pc (ao_sw ts dt) := by
  intro p e s m args below meth c V Ret L st h u1 u2 K ho hK H locs ls hP hS hl
  dsimp only [ao_sw] at ho
  split at ho
  · rename_i x r
    have key : ∀ (us : List (Int32 × Nat)) (Kt : Nat → Prop), ax_sw x Kt dt us → (∃ (j t : Nat), us[j]? = some (x, t) ∧ Kt t) ∨ ((∀ (j : Nat) (q : Int32 × Nat), us[j]? = some q → ¬ x = q.1) ∧ Kt dt) := by
      intro us Kt
      induction us with
      | nil => intro h; exact Or.inr ⟨fun j q hj => by simp at hj, h⟩
      | cons q us ih =>
        intro h
        obtain ⟨v, t⟩ := q
        by_cases hx : x = v
        · subst hx
          exact Or.inl ⟨0, t, rfl, h.1 rfl⟩
        · rcases ih (h.2 hx) with ⟨j, t', hj, hk⟩ | ⟨hn, hk⟩
          · exact Or.inl ⟨j + 1, t', by simpa using hj, hk⟩
          · refine Or.inr ⟨fun j q hj => ?_, hk⟩
            cases j with
            | zero => simp at hj; rw [← hj]; exact hx
            | succ j => exact hn j q (by simpa using hj)
    have hb : ∀ k, k < offs.size → -2147483648 ≤ lo + (k : Int) ∧ lo + (k : Int) < 2147483648 := fun k hk => by omega
    rcases key ts _ ho with ⟨j, t, hj, hk⟩ | ⟨hn, hk⟩
    · have hjl : j < offs.size := by rw [← htl]; exact (List.getElem?_eq_some_iff.mp hj).1
      obtain ⟨off, tgt, ho1, ho2, ho3⟩ := ht j hjl
      rw [hj] at ho3
      have he : x = Int32.ofInt (lo + j) ∧ t = tgt := by
        have := Option.some.inj ho3
        exact ⟨congrArg Prod.fst this, congrArg Prod.snd this⟩
      have hx := (ax_i32 (hb j hjl).1 (hb j hjl).2).mp he.1
      refine lv_tableIn (off := off) (tgt := t) V.1 V.2.1 hd (by omega) (by omega) ?_ (by rw [he.2]; exact ho2) (hK _ hk H locs ls hP hS hl)
      rw [hx, show (lo + (j : Int) - lo).toNat = j by omega]
      exact ho1
    · refine lv_tableOut V.1 V.2.1 hd ?_ hdt (hK _ hk H locs ls hP hS hl)
      by_cases h3 : x.toInt < lo
      · exact Or.inl h3
      · by_cases h4 : hi < x.toInt
        · exact Or.inr h4
        · exfalso
          have hkl : (x.toInt - lo).toNat < offs.size := by omega
          obtain ⟨off, tgt, -, -, ho3⟩ := ht _ hkl
          refine hn _ _ ho3 ((ax_i32 (hb _ hkl).1 (hb _ hkl).2).mpr ?_)
          omega
  · exact ho.elim
end
section
variable {g : ax_G} {cc : ByteArray} {nL : Nat} {ret : Option FieldType} {own nm : String} {d mc ms pc : Nat}
def ax_swc (pc : Nat) (lo : Int) (offs : Array Int) (ts : List (Int32 × Nat)) : Bool := (List.range offs.size).all fun k => match offs[k]?, ts[k]? with
  | some off, some q => decide (q.1 = Int32.ofInt (lo + (k : Int))) && decide ((pc : Int) + off = (q.2 : Int))
  | _, _ => false
theorem ak_tsw {dflt lo hi : Int} {offs : Array Int} {len dt : Nat} {ts : List (Int32 × Nat)} (hd : decode cc pc = .ok (.tableswitch dflt lo hi offs, len)) (h1 : -2147483648 ≤ lo) (h2 : hi < 2147483648) (hlen : (offs.size : Int) = hi - lo + 1) (hdt : (pc : Int) + dflt = (dt : Int)) (ht : ax_swc pc lo offs ts = true) (htl : ts.length = offs.size) : ax_ok g cc nL ret own nm d mc ms pc (ao_sw ts dt) := by
  refine ak_table hd h1 h2 hlen hdt (fun k hk => ?_) htl
  have := List.all_eq_true.mp ht k (List.mem_range.mpr hk)
  split at this
  · rename_i off q h3 h4
    simp only [Bool.and_eq_true, decide_eq_true_eq] at this
    refine ⟨off, q.2, h3, this.2, ?_⟩
    rw [h4, ← this.1]
  · cases this
theorem ax_sw_off {x : Int32} {Kt : Nat → Prop} {dt : Nat} {dflt : Int} (hdt : (pc : Int) + dflt = (dt : Int)) : ∀ (ps : List (Int × Int)) (ts : List (Int32 × Nat)), ts.length = ps.length → ((ps.zip ts).all fun q => decide (q.2.1.toInt = q.1.1) && decide ((pc : Int) + q.1.2 = (q.2.2 : Int))) = true → ax_sw x Kt dt ts → ∃ (off : Int) (tgt : Nat), Op.lookupswitch.offset ps dflt x.toInt = off ∧ (pc : Int) + off = (tgt : Int) ∧ Kt tgt := by
  intro ps
  induction ps with
  | nil =>
    intro ts hl _ h
    cases ts with
    | nil => exact ⟨dflt, dt, rfl, hdt, h⟩
    | cons _ _ => cases hl
  | cons q ps ih =>
    intro ts hl hz h
    cases ts with
    | nil => cases hl
    | cons t ts =>
      obtain ⟨a, o⟩ := q
      obtain ⟨v, tg⟩ := t
      simp only [List.zip_cons_cons, List.all_cons, Bool.and_eq_true, decide_eq_true_eq] at hz
      by_cases hx : x = v
      · subst hx
        refine ⟨o, tg, ?_, hz.1.2, h.1 rfl⟩
        rw [Op.lookupswitch.offset_cons, if_pos hz.1.1.symm]
      · rw [lv_osw hx hz.1.1]
        exact ih ts (by simpa using hl) hz.2 (h.2 hx)
theorem ak_look {dflt : Int} {ps : Array (Int × Int)} {len dt : Nat} {ts : List (Int32 × Nat)} (hd : decode cc pc = .ok (.lookupswitch dflt ps, len)) (hp : (ps.toList.zip (ps.toList.drop 1)).all (fun (a, next) => a.1 < next.1) = true) (hdt : (pc : Int) + dflt = (dt : Int)) (htl : ts.length = ps.toList.length) (ht : ((ps.toList.zip ts).all fun q => decide (q.2.1.toInt = q.1.1) && decide ((pc : Int) + q.1.2 = (q.2.2 : Int))) = true) : ax_ok g cc nL ret own nm d mc ms pc (ao_sw ts dt) := by
  intro p e s m args below meth c V Ret L st h u1 u2 K ho hK H locs ls hP hS hl
  dsimp only [ao_sw] at ho
  split at ho
  · rename_i x r
    obtain ⟨off, tgt, h1, h2, h3⟩ := ax_sw_off hdt _ _ htl ht ho
    exact lv_lookup V.1 V.2.1 hd hp h1 h2 (hK _ h3 H locs ls hP hS hl)
  · exact ho.elim
/-- many steps at once: from σ to the next places that 'cut' names -/
def ax_run (tbl : Nat → ax_O) (Ret : Option Value → ax_H → Prop) (A : ax_S → Prop) (cut : Nat → Bool) : Nat → ax_S → Prop
  | 0, σ => A σ
  | n + 1, σ => bif cut σ.1 then A σ else tbl σ.1 Ret σ (ax_run tbl Ret A cut n)
theorem ax_go {tbl : Nat → ax_O} {Ret : Option Value → ax_H → Prop} {A : ax_S → Prop} (hA : ∀ (σ : ax_S) (K : ax_S → Prop), tbl σ.1 Ret σ K → (∀ σ', K σ' → A σ') → A σ) (cut : Nat → Bool) : ∀ (n : Nat) (σ : ax_S), ax_run tbl Ret A cut n σ → A σ := by
  intro n
  induction n with
  | zero => intro σ h; exact h
  | succ n ih =>
    intro σ h
    unfold ax_run at h
    cases hc : cut σ.1 with
    | true => rw [hc] at h; exact h
    | false => rw [hc] at h; exact hA σ _ h ih
theorem ax_go1 {tbl : Nat → ax_O} {Ret : Option Value → ax_H → Prop} {A : ax_S → Prop} (hA : ∀ (σ : ax_S) (K : ax_S → Prop), tbl σ.1 Ret σ K → (∀ σ', K σ' → A σ') → A σ) (cut : Nat → Bool) (n : Nat) (σ : ax_S) (h : tbl σ.1 Ret σ (ax_run tbl Ret A cut n)) : A σ := hA σ _ h (ax_go hA cut n)
end
end
section
section
variable {g : ax_G} {cc : ByteArray} {nL : Nat} {ret : Option FieldType} {own nm : String} {d mc ms pc : Nat}
def ao_obj : ax_O := fun _ σ K => match σ with
  | (pc, L, st, h, u1, u2) => match st with
    | .ref _ :: r => (r.map Value.category).sum ≤ 8 ∧ K (pc + 3, L, r, h, u1, u2)
    | _ => False
theorem ak_obj {index : Nat} (hd1 : 0 < d) (hl : Cond.methodLink own index Lib.objectInit ∈ lw_gd) (hi : Cond.instanceMethod Lib.objectInit ∈ lw_gd) (hc : Cond.code Lib.objectInit ⟨#[0xb1]⟩ 1 none ∈ lw_gd) (hd : decode cc pc = .ok (.invokespecial index, 3)) : ax_ok g cc nL ret own nm d mc ms pc ao_obj := by
  intro p e s m args below meth c V Ret L st h u1 u2 K ho hK H locs ls hP hS hlr
  dsimp only [ao_obj] at ho
  split at ho
  · have ht := V.2.2.2.2.2.2.2.1
    refine W.objInit V.1 V.2.1 V.2.2.2.2.2.1 (ht _ hl) (ht _ hi) (ht _ hc) rfl (hlr.1.trans V.2.2.2.2.1.symm) rfl hd hd1 ?_ (hK _ ho.2 H locs ls hP hS hlr)
    show 0 + _ + 12 ≤ 41 * d + 32
    rw [Nat.zero_add, ax_sum]
    have := ho.1
    omega
  · exact ho.elim
/-- the world with one cell more -/
theorem ax_P_new {h : ax_H} {H H1 : Heap} {kd ln : Nat} (hP : ax_P g h H) (hx : va_at g.2.2.2.1 vwCl (g.2.1 + h.1, ax_e g (ax_nw h kd ln) h.1) H1) (z : H1.size = H.size + 1) (oq : ∀ q : Nat, q < H.size → H1[q]? = H[q]?) (hn : h.1 + 1 < 1000000) : ax_P g (ax_nw h kd ln) H1 := by
  have hold : ∀ b, b < h.1 → ax_e g (ax_nw h kd ln) b = ax_e g h b := fun b hb => ax_e_cong (if_neg (Nat.ne_of_lt hb)) (if_neg (Nat.ne_of_lt hb)) (if_neg (Nat.ne_of_lt hb)) (if_neg (Nat.ne_of_lt hb))
  refine ⟨fun k q hk => ?_, by rw [z, hP.2.1]; rfl, hn⟩
  by_cases hk1 : k < h.1
  · rw [ax_w_get (Nat.lt_succ_of_lt hk1)] at hk
    cases hk
    rw [hold k hk1]
    exact (ax_at hP hk1).kept (oq _ (by rw [hP.2.1]; omega))
  · have hlt : k < h.1 + 1 := by
      have := (List.getElem?_eq_some_iff.mp hk).1
      unfold ax_w at this
      rw [List.length_map, List.length_range] at this
      exact this
    have : k = h.1 := by omega
    subst this
    rw [ax_w_get (h := ax_nw h kd ln) hlt] at hk
    cases hk
    exact hx
theorem ax_S_new {s : State} {H H1 : Heap} {locs : List Loc} (hS : va_S (ax_A g) s.heap H locs) (z : H1.size = H.size + 1) (oq : ∀ q : Nat, q < H.size → H1[q]? = H[q]?) : va_S (ax_A g) s.heap H1 locs := ⟨Nat.le_trans hS.1 (by omega), fun x h1 h2 => (oq x (Nat.lt_of_lt_of_le h1 hS.1)).trans (hS.2.1 x h1 h2), hS.2.2⟩
theorem ax_vn {h : ax_H} (hn : h.1 + 1 < 1000000) : ax_v g (.ref h.1) = .ref (g.2.1 + h.1) := by
  show Value.ref (ax_ad g h.1) = _
  rw [ax_ad_lt (by omega)]
/-- a new object; N: its slots -/
def ao_new (ci N mc ms : Nat) : ax_O := fun _ σ K => match σ with
  | (pc, L, st, h, u1, u2) => (h.1 + 1 < 1000000 ∧ u1 + 1 ≤ mc ∧ u2 + N ≤ ms) ∧ K (pc + 3, L, .ref h.1 :: st, ax_nw h ci 0, u1 + 1, u2 + N)
theorem ak_new {ci N index : Nat} {C : String} {T : u_T} {ty : Nat → FieldType} (hci : ci < 11) (hc : vwCl[ci]? = some (C, T, N)) (hin : ∀ w ∈ u_ws C T N, w ∈ lw_gd) (hty : ∀ k, k < N → parseFieldDescriptor (T k).2.2.1 = some (ty k)) (hdv : ∀ j, j < N → defaultValue (ty j) = vp_V ((ax_ft ci).map fun t => if t = 0 then .int 0 else if t = 1 then .long 0 else .null) j) (hcl : Cond.classLink own index C ∈ lw_gd) (hinst : Cond.instantiable C N ∈ lw_gd) (hini : Cond.initialized C ∈ lw_gd) (hd : decode cc pc = .ok (.new index, 3)) : ax_ok g cc nL ret own nm d mc ms pc (ao_new ci N mc ms) := by
  intro p e s m args below meth c V Ret L st h u1 u2 K ho hK H locs ls hP hS hlr
  dsimp only [ao_new] at ho
  obtain ⟨⟨h0, h1, h2⟩, ho⟩ := ho
  have ht := V.2.2.2.2.2.2.2.1
  have hKn := V.2.2.2.2.2.2.2.2.1.1 ci _ hc
  refine W.newcK V.1 V.2.1 V.2.2.2.2.2.1 (ht _ hcl) (ht _ hinst) (ht _ hini) rfl hd h1 h2 hKn.2.1 rfl fun H1 kC hkC e1 z1 o1 => ?_
  have hfl : ax_fl g (ax_nw h ci 0) (ax_ft ci) h.1 = (ax_ft ci).map fun t => if t = 0 then .int 0 else if t = 1 then .long 0 else .null := by
    apply List.ext_getElem?
    intro k
    cases hk : (ax_ft ci)[k]? with
    | none =>
      rw [List.getElem?_map, hk, List.getElem?_eq_none_iff.mpr (by rw [ax_fl_len]; exact List.getElem?_eq_none_iff.mp hk)]
      rfl
    | some t =>
      rw [ax_fl_get hk, List.getElem?_map, hk]
      show some _ = some _
      have e1 : ax_i (ax_nw h ci 0) h.1 k = 0 := by show (if h.1 = h.1 then (fun _ => (0 : Int32)) else _) k = 0; rw [if_pos rfl]
      have e2 : ax_l (ax_nw h ci 0) h.1 k = 0 := by show (if h.1 = h.1 then (fun _ => (0 : Int64)) else _) k = 0; rw [if_pos rfl]
      have e3 : ax_r (ax_nw h ci 0) h.1 k = none := by show (if h.1 = h.1 then (fun _ => (none : Option Nat)) else _) k = none; rw [if_pos rfl]
      rw [e1, e2, e3]
      rfl
  have hx : va_at g.2.2.2.1 vwCl (g.2.1 + h.1, ax_e g (ax_nw h ci 0) h.1) H1 := by
    rw [ax_e_obj (h := ax_nw h ci 0) (ci := ci) (by show (if h.1 = h.1 then (ci, 0) else _).1 = ci; rw [if_pos rfl]) hci, hfl]
    rw [hP.2.1] at e1
    exact ⟨_, hc, (u_born ty ht hin hKn hkC e1 hty).to hdv⟩
  have := hK _ ho H1 locs ls (ax_P_new hP hx z1 o1 h0) (ax_S_new hS z1 o1) hlr
  have e : ((Value.ref h.1) :: st).map (ax_v g) = .ref H.size :: st.map (ax_v g) := by rw [List.map_cons, ax_vn h0, hP.2.1]
  rw [show ((pc + 3, L, Value.ref h.1 :: st, ax_nw h ci 0, u1 + 1, u2 + N) : ax_S).2.2.1.map (ax_v g) = .ref H.size :: st.map (ax_v g) from e] at this
  exact this
/-- a new array of numbers -/
def ao_newa (kd bt mc ms : Nat) : ax_O := fun _ σ K => match σ with
  | (pc, L, st, h, u1, u2) => match st with
    | .int n :: r => (¬ n < 0) ∧ (h.1 + 1 < 1000000 ∧ u1 + 1 ≤ mc ∧ u2 + n.toNatClampNeg ≤ ms ∧ n.toNatClampNeg * bt ≤ 536870912) ∧ K (pc + 2, L, .ref h.1 :: r, ax_nw h kd n.toNatClampNeg, u1 + 1, u2 + n.toNatClampNeg)
    | _ => False
theorem ax_e_new {h : ax_H} {kd ln : Nat} (hk : ¬ kd < 11) : ax_e g (ax_nw h kd ln) h.1 = .inl (g.2.2.2.2 kd, ln, if kd < 14 then .inl (fun _ => 0) else if kd = 14 then .inr (.inl (fun _ => 0)) else .inr (.inr (.inr (.inr (fun _ => none))))) := by
  have e0 : (ax_nw h kd ln).2.1 h.1 = (kd, ln) := if_pos rfl
  rw [ax_e_arr (kd := kd) (by rw [e0]) hk, e0]
  unfold ax_c
  have e1 : ax_i (ax_nw h kd ln) h.1 = fun _ => 0 := by show (if h.1 = h.1 then (fun _ => (0 : Int32)) else _) = _; rw [if_pos rfl]
  have e2 : ax_l (ax_nw h kd ln) h.1 = fun _ => 0 := by show (if h.1 = h.1 then (fun _ => (0 : Int64)) else _) = _; rw [if_pos rfl]
  have e3 : ax_r (ax_nw h kd ln) h.1 = fun _ => none := by show (if h.1 = h.1 then (fun _ => (none : Option Nat)) else _) = _; rw [if_pos rfl]
  rw [e1, e2, e3]
  rfl
theorem ak_newa {kd t0 bt : Nat} {atype : ArrayType} {ty : FieldType} (hk : ¬ kd < 11) (hk2 : kd < 15) (hty : newarray.typeOf atype = ty) (hbt : componentBytes ty = bt) (hno : ∀ C, ty ≠ .object C) (ht0 : (ax_t g)[t0]? = some (g.2.2.2.2 kd, ty)) (hdf : ∀ cA n, vp_cell cA (n, if kd < 14 then .inl (fun _ => 0) else if kd = 14 then .inr (.inl (fun _ => 0)) else .inr (.inr (.inr (.inr (fun _ => none))))) = arrV cA n (fun _ => defaultValue ty)) (hw : Cond.arrayClass ty ∈ lw_gd) (hd : decode cc pc = .ok (.newarray atype, 2)) : ax_ok g cc nL ret own nm d mc ms pc (ao_newa kd bt mc ms) := by
  intro p e s m args below meth c V Ret L st h u1 u2 K ho hK H locs ls hP hS hlr
  dsimp only [ao_newa] at ho
  split at ho
  · rename_i n r
    obtain ⟨hn, ⟨h0, h1, h2, h3⟩, ho⟩ := ho
    have ht := V.2.2.2.2.2.2.2.1
    subst hty
    subst hbt
    refine va_newaK V.1 V.2.1 (ht _ hw) rfl hd rfl hn rfl h3 h1 h2 rfl fun H1 cA e1 z1 o1 _ hNm => ?_
    have hcA : g.2.2.2.2 kd = cA := by
      have hra := (V.2.2.2.2.2.2.2.2.1.2 t0 _ ht0).2
      have hra' : s.vm.findClass ("[" ++ (newarray.typeOf atype).toString) = some (g.2.2.2.2 kd) := by
        revert hra
        cases atype <;> exact fun q => q
      exact Option.some.inj (hra'.symm.trans hNm)
    have hx : va_at g.2.2.2.1 vwCl (g.2.1 + h.1, ax_e g (ax_nw h kd n.toNatClampNeg) h.1) H1 := by
      rw [ax_e_new hk, hcA]
      show H1[g.2.1 + h.1]? = some (vp_cell cA _)
      rw [hdf, ← hP.2.1]
      exact e1
    have := hK _ ho H1 locs ls (ax_P_new hP hx z1 o1 h0) (ax_S_new hS z1 o1) hlr
    have e : ((Value.ref h.1) :: r).map (ax_v g) = .ref H.size :: r.map (ax_v g) := by rw [List.map_cons, ax_vn h0, hP.2.1]
    rw [show ((pc + 2, L, Value.ref h.1 :: r, ax_nw h kd n.toNatClampNeg, u1 + 1, u2 + n.toNatClampNeg) : ax_S).2.2.1.map (ax_v g) = .ref H.size :: r.map (ax_v g) from e] at this
    exact this
  · exact ho.elim
/-- a new array of references -/
def ao_newr (kd mc ms : Nat) : ax_O := fun _ σ K => match σ with
  | (pc, L, st, h, u1, u2) => match st with
    | .int n :: r => (¬ n < 0) ∧ (h.1 + 1 < 1000000 ∧ u1 + 1 ≤ mc ∧ u2 + n.toNatClampNeg ≤ ms ∧ n.toNatClampNeg * 4 ≤ 536870912) ∧ K (pc + 3, L, .ref h.1 :: r, ax_nw h kd n.toNatClampNeg, u1 + 1, u2 + n.toNatClampNeg)
    | _ => False
theorem ak_newr {kd t0 index : Nat} {C : String} (hk : ¬ kd < 15) (ht0 : (ax_t g)[t0]? = some (g.2.2.2.2 kd, .object C)) (hcl : Cond.classLink own index C ∈ lw_gd) (hw : C ∈ ax_ao) (hd : decode cc pc = .ok (.anewarray index, 3)) : ax_ok g cc nL ret own nm d mc ms pc (ao_newr kd mc ms) := by
  intro p e s m args below meth c V Ret L st h u1 u2 K ho hK H locs ls hP hS hlr
  dsimp only [ao_newr] at ho
  split at ho
  · rename_i n r
    obtain ⟨hn, ⟨h0, h1, h2, h3⟩, ho⟩ := ho
    have ht := V.2.2.2.2.2.2.2.1
    refine W.anew V.1 V.2.1 V.2.2.2.2.2.1 (ht _ hcl) (va_AO.use (V.2.2.2.2.2.2.2.2.2.2.2.2.2.2.2.2.2.2 _ hw)) rfl hd rfl hn h3 h1 h2 fun cA kA comp f1 f2 f3 f4 => ?_
    generalize hH1 : H.push ({ cls := cA, slots := Array.replicate n.toNatClampNeg .null, vm := .none } : Cell) = H1
    have z1 : H1.size = H.size + 1 := by rw [← hH1, Array.size_push]
    have e1 : H1[H.size]? = some (arrV cA n.toNatClampNeg (fun _ => .null)) := by rw [← hH1, Array.getElem?_push_size, ← arrV_new]
    have o1 : ∀ q : Nat, q < H.size → H1[q]? = H[q]? := fun q hq => by rw [← hH1, Array.getElem?_push, if_neg (Nat.ne_of_lt hq)]
    have hcA : g.2.2.2.2 kd = cA := by
      obtain ⟨_, _, _, _, _, hra⟩ := (V.2.2.2.2.2.2.2.2.1.2 t0 _ ht0).2
      exact Option.some.inj (hra.symm.trans f1)
    have hx : va_at g.2.2.2.1 vwCl (g.2.1 + h.1, ax_e g (ax_nw h kd n.toNatClampNeg) h.1) H1 := by
      rw [ax_e_new (by omega), hcA, if_neg (by omega), if_neg (by omega)]
      show H1[g.2.1 + h.1]? = some (arrV cA _ (fun _ => .null))
      rw [← hP.2.1]
      exact e1
    have := hK _ ho H1 locs ls (ax_P_new hP hx z1 o1 h0) (ax_S_new hS z1 o1) hlr
    have e : ((Value.ref h.1) :: r).map (ax_v g) = .ref H.size :: r.map (ax_v g) := by rw [List.map_cons, ax_vn h0, hP.2.1]
    rw [show ((pc + 3, L, Value.ref h.1 :: r, ax_nw h kd n.toNatClampNeg, u1 + 1, u2 + n.toNatClampNeg) : ax_S).2.2.1.map (ax_v g) = .ref H.size :: r.map (ax_v g) from e] at this
    exact this
  · exact ho.elim
/-- a store of an object of class ci into an array of references -/
def ao_aast (kd ci : Nat) : ax_O := fun _ σ K => match σ with
  | (pc, L, st, h, u1, u2) => match st with
    | .ref b :: .int i :: .ref a :: r => (ax_s h a).1 = kd ∧ (ax_s h b).1 = ci ∧ vp_in i (ax_s h a).2 ∧ K (pc + 1, L, r, ax_pr h a i.toNatClampNeg (some b), u1, u2)
    | _ => False
theorem ak_aast {kd t0 ci N : Nat} {C : String} {T : u_T} (hk : ¬ kd < 15) (hk9 : kd < 99) (hci : ci < 11) (hcl : vwCl[ci]? = some (C, T, N)) (ht0 : (ax_t g)[t0]? = some (g.2.2.2.2 kd, .object C)) (hd : decode cc pc = .ok (.aastore, 1)) : ax_ok g cc nL ret own nm d mc ms pc (ao_aast kd ci) := by
  intro p e s m args below meth c V Ret L st h u1 u2 K ho hK H locs ls hP hS hl
  dsimp only [ao_aast] at ho
  split at ho
  · rename_i b i a r
    obtain ⟨ho1, ho2, ho3, ho⟩ := ho
    obtain ⟨ha, hw, hv, hk', hln⟩ := ax_arr hP ho1 (by omega) hk9
    obtain ⟨hb, hsb, -⟩ := ax_s_lt ho2 (by omega)
    have hvb := ax_vr hP hb
    have hc : ax_c g h a kd = .inr (.inr (.inr (.inr (fun j => (ax_r h a j).map (ax_ad g))))) := by unfold ax_c; rw [if_neg (by omega), if_neg (by omega)]
    rw [hc] at hw
    show W _ _ _ _ _ _ _ _ _ _ _ _ _ _ _ (F0 m pc ls (ax_v g (.ref b) :: .int i :: ax_v g (.ref a) :: r.map (ax_v g)))
    rw [hv, hvb]
    have hat : H[g.2.1 + a]? = some (arrV (g.2.2.2.2 kd) (ax_s h a).2 (fun j => va_rf ((ax_r h a j).map (ax_ad g)))) := hP.1 a _ hw
    have hatb := ax_at hP hb
    rw [ax_e_obj hsb hci] at hatb
    obtain ⟨r', hr', cellV, g1, g2, g3, -⟩ := hatb
    have hcls := (V.2.2.2.2.2.2.2.2.1.1 ci _ hcl).2
    obtain ⟨kA, comp, k1, k2, k3, -⟩ := (V.2.2.2.2.2.2.2.2.1.2 t0 _ ht0).2
    have hcomp : comp = g.2.2.2.1.1 ci := Option.some.inj (k3.symm.trans hcls.1)
    subst hcomp
    obtain ⟨kC, hkC, hkk⟩ := id hcls.2
    have hlt : i.toNatClampNeg < (ax_s h a).2 := Nat.not_le.mp fun q => ho3 (Or.inr q)
    refine W.aast V.1 V.2.1 hat (fun q h => by cases h) (fun h => by cases h) k1 k2 rfl hkC ⟨fun q => ho3 (Or.inl q), by rw [arrV_size]; exact hlt⟩ g1 (fun q h => by rw [g3] at h; cases h) (by rw [g2]; exact hkC) (by rw [g2]; exact va_assign hcls) rfl rfl hd fun H1 e1 z oq => ?_
    refine hK _ ho H1 _ ls (ax_P_set hP rfl (fun b hb => ax_e_cong rfl rfl rfl (ax_u_ne hb)) ha ?_ z oq) (hS.put z oq (Nat.le_add_right _ _)) hl
    rw [ax_e_arr (h := ax_pr h a i.toNatClampNeg (some b)) (kd := kd) hk' (by omega)]
    unfold ax_c
    rw [if_neg (by omega), if_neg (by omega)]
    show H1[g.2.1 + a]? = some (arrV (g.2.2.2.2 kd) (h.2.1 a).2 (fun j => va_rf ((ax_u h.2.2.2.2 a i.toNatClampNeg (some b) a j).map (ax_ad g))))
    rw [e1, arrV_store, hln, ax_u_eq]
    congr 2
    funext q
    by_cases hq : q = i.toNatClampNeg
    · subst hq
      have : ax_ad g b = g.2.1 + b := by
        have := hvb
        exact Value.ref.inj this
      simp [updV, va_rf, this]
    · simp [updV, hq, ax_r]
  · exact ho.elim
/-! static arrays -/
def ao_gs (j : Nat) : ax_O := fun _ σ K => match σ with
  | (pc, L, st, h, u1, u2) => K (pc + 3, L, .ref (1000000 + j) :: st, h, u1, u2)
theorem ak_gs {j index : Nat} {q : String × String × List Int32} (hq : ax_sa[j]? = some q) (hl : Cond.fieldLink own index q.1 q.2.1 "[I" ∈ lw_gd) (hd : decode cc pc = .ok (.getstatic index, 3)) : ax_ok g cc nL ret own nm d mc ms pc (ao_gs j) := by
  intro p e s m args below meth c V Ret L st h u1 u2 K ho hK H locs ls hP hS hlr
  dsimp only [ao_gs] at ho
  exact va_gets V.1 V.2.1 (V.2.2.2.2.2.2.2.2.2.2.1 j q hq).1 hS V.2.2.2.2.2.1 (V.2.2.2.2.2.2.2.1 _ hl) (fun _ h => h) hd (hK _ ho H locs ls hP hS hlr)
theorem ak_gsN {j index : Nat} {host : String} {q : String × String × List Int32} (hq : ax_sa[j]? = some q) (hl : (own, index, q.1, q.2.1, "[I", host) ∈ ax_nf) (hd : decode cc pc = .ok (.getstatic index, 3)) : ax_ok g cc nL ret own nm d mc ms pc (ao_gs j) := by
  intro p e s m args below meth c V Ret L st h u1 u2 K ho hK H locs ls hP hS hlr
  dsimp only [ao_gs] at ho
  exact va_getsN V.1 V.2.1 (V.2.2.2.2.2.2.2.2.2.2.1 j q hq).1 hS V.2.2.2.2.2.1 (va_Nw.use rfl (V.2.2.2.2.2.2.2.2.2.2.2.2.2.2.2.2.1 _ hl)) (fun _ h => h) hd (hK _ ho H locs ls hP hS hlr)
def ao_sald (j : Nat) (q : List Int32) : ax_O := fun _ σ K => match σ with
  | (pc, L, st, h, u1, u2) => match st with
    | .int i :: .ref a :: r => a = 1000000 + j ∧ vp_in i q.length ∧ K (pc + 1, L, .int (q.getD i.toNatClampNeg 0) :: r, h, u1, u2)
    | _ => False
theorem ak_sald {j : Nat} {q : String × String × List Int32} (hq : ax_sa[j]? = some q) (hd : decode cc pc = .ok (.iaload, 1)) : ax_ok g cc nL ret own nm d mc ms pc (ao_sald j q.2.2) := by
  intro p e s m args below meth c V Ret L st h u1 u2 K ho hK H locs ls hP hS hlr
  dsimp only [ao_sald] at ho
  split at ho
  · obtain ⟨rfl, hin, ho⟩ := ho
    exact va_ti V.1 V.2.1 (V.2.2.2.2.2.2.2.2.2.2.1 j q hq).2 hS hin rfl hd (hK _ ho H locs ls hP hS hlr)
  · exact ho.elim
end
section
variable {g : ax_G} {cc : ByteArray} {nL : Nat} {ret : Option FieldType} {own nm : String} {d mc ms pc : Nat}
/-- a row of ints in the place of another -/
def ax_row (h : ax_H) (a : Nat) (f : Nat → Int32) : ax_H := (h.1, h.2.1, (fun b => if b = a then f else h.2.2.1 b), h.2.2.2.1, h.2.2.2.2)
/-- System.arraycopy between arrays of kind kd (11 ints, 12 bytes) -/
def ao_copy (kd : Nat) : ax_O := fun _ σ K => match σ with
  | (pc, L, st, h, u1, u2) => match st with
    | .int n :: .int dp :: .ref a :: .int sp :: .ref b :: r => (ax_s h a).1 = kd ∧ (ax_s h b).1 = kd ∧ ((¬ sp < 0) ∧ (¬ dp < 0) ∧ (¬ n < 0) ∧ sp.toNatClampNeg + n.toNatClampNeg ≤ (ax_s h b).2 ∧ dp.toNatClampNeg + n.toNatClampNeg ≤ (ax_s h a).2) ∧ (kd = 11 ∨ ∀ i, i < n.toNatClampNeg → fits .byte (.int (ax_i h b (sp.toNatClampNeg + i))) = true) ∧ (r.map Value.category).sum ≤ 8 ∧ K (pc + 3, L, r, ax_row h a (va_cpy (ax_i h b) (ax_i h a) sp.toNatClampNeg dp.toNatClampNeg n.toNatClampNeg), u1, u2)
    | _ => False
theorem ak_copy {kd t0 index : Nat} {ty : FieldType} (hkd : kd = 11 ∧ ty = .int ∨ kd = 12 ∧ ty = .byte) (ht0 : (ax_t g)[t0]? = some (g.2.2.2.2 kd, ty)) (hd2 : 1 < d) (hl : Cond.methodLink own index arraycopyName ∈ lw_gd) (hnat : Cond.native arraycopyName ∈ lw_gd) (hstat : Cond.static arraycopyName ∈ lw_gd) (hini : Cond.initialized "java/lang/System" ∈ lw_gd) (hd : decode cc pc = .ok (.invokestatic index, 3)) : ax_ok g cc nL ret own nm d mc ms pc (ao_copy kd) := by
  intro p e s m args below meth c V Ret L st h u1 u2 K ho hK H locs ls hP hS hlr
  dsimp only [ao_copy] at ho
  split at ho
  · rename_i n dp a sp b r
    obtain ⟨hsa, hsb, ⟨h1, h2, h3, h4, h5⟩, hfit, hr8, ho⟩ := ho
    have hk1 : ¬ kd < 11 := by omega
    have hk2 : kd < 14 := by omega
    obtain ⟨ha, hwa, hva, hka, hla⟩ := ax_arr hP hsa hk1 (by omega)
    obtain ⟨hb, hwb, hvb, hkb, hlb⟩ := ax_arr hP hsb hk1 (by omega)
    have hc : ∀ x, ax_c g h x kd = .inl (ax_i h x) := fun x => by unfold ax_c; rw [if_pos hk2]
    rw [hc] at hwa hwb
    show W _ _ _ _ _ _ _ _ _ _ _ _ _ _ _ (F0 m pc ls (.int n :: .int dp :: ax_v g (.ref a) :: .int sp :: ax_v g (.ref b) :: r.map (ax_v g)))
    rw [hva, hvb]
    have ht := V.2.2.2.2.2.2.2.1
    have nn : ∀ z : Int32, ¬ z < 0 → z.toInt = (z.toNatClampNeg : Int) := by
      intro z hz
      have hz0 : (0 : Int) ≤ z.toInt := by
        have := Int32.not_lt.mp hz
        simpa using Int32.le_iff_toInt_le.mp this
      show z.toInt = ((z.toInt.toNat : Nat) : Int)
      omega
    intro T hT X
    have hc0 : H[g.2.1 + b]? = some (arrV (g.2.2.2.2 kd) (ax_s h b).2 (fun j => .int (ax_i h b j))) := hP.1 b _ hwb
    have hc1 : H[g.2.1 + a]? = some (arrV (g.2.2.2.2 kd) (ax_s h a).2 (fun j => .int (ax_i h a j))) := hP.1 a _ hwa
    obtain ⟨-, k0, hk0, cm0, hkk0⟩ := (V.2.2.2.2.2.2.2.2.1.2 t0 _ ht0).1 (ax_s h b).2 (fun j => .int (ax_i h b j))
    obtain ⟨-, k1, hk1, cm1, hkk1⟩ := (V.2.2.2.2.2.2.2.2.1.2 t0 _ ht0).1 (ax_s h a).2 (fun j => .int (ax_i h a j))
    have hprim : refKind ty = false := by rcases hkd with ⟨-, rfl⟩ | ⟨-, rfl⟩ <;> rfl
    obtain ⟨vm', X', step⟩ := X.arraycopy V.1 V.2.2.2.2.2.1 (ht _ hl) (ht _ hnat) (ht _ hstat) (ht _ hini) (src := g.2.1 + b) (dst := g.2.1 + a) (srcPos := sp) (destPos := dp) (n := n) (by rw [hT]; exact hc0) (by rw [hT]; exact hc1)
      (fun _ h => by cases h) (fun _ h => by cases h) (fun h => by cases h) (fun h => by cases h) hk0 hk1 hkk0 hkk1 (by simp [hprim]) h1 h2 h3
      (by rw [nn sp h1, nn n h3, arrV_size]; omega)
      (by rw [nn dp h2, nn n h3, arrV_size]; omega)
      (fun vm₁ _ i hi => by
        have e : (arrV (g.2.2.2.2 kd) (ax_s h b).2 (fun j => .int (ax_i h b j))).slots.getD (sp.toNatClampNeg + i) .null = .int (ax_i h b (sp.toNatClampNeg + i)) := by
          rw [Array.getD_eq_getD_getElem?, arrV_read _ _ (by omega)]
          rfl
        refine ⟨?_, ?_⟩
        · rw [e]
          rcases hkd with ⟨-, rfl⟩ | ⟨hq, rfl⟩
          · rfl
          · exact (hfit.resolve_left (by omega)) i hi
        · rw [e]
          exact trivial)
      (g := F0 m pc ls (.int n :: .int dp :: .ref (g.2.1 + a) :: .int sp :: .ref (g.2.1 + b) :: r.map (ax_v g))) rfl (by rw [V.2.2.2.2.1]; exact hlr.1) (rest := r.map (ax_v g)) rfl (by rw [V.2.1]; exact hd) (by show 1 ≤ d; omega) (by
        show 2 * 0 + _ + (_ + 11) ≤ 41 * d + 32
        rw [ax_sum]
        have : nativeFrameWords "java/lang/System" "arraycopy" 5 ≤ 60 := by decide +kernel
        omega)
    have e1 : copied (arrV (g.2.2.2.2 kd) (ax_s h b).2 (fun j => .int (ax_i h b j))) (arrV (g.2.2.2.2 kd) (ax_s h a).2 (fun j => .int (ax_i h a j))) sp dp n = arrV (g.2.2.2.2 kd) (ax_s h a).2 (fun j => .int (va_cpy (ax_i h b) (ax_i h a) sp.toNatClampNeg dp.toNatClampNeg n.toNatClampNeg j)) := va_copied (fun z => .int z) _ _ (ax_i h b) (ax_i h a) h4
    rw [e1] at X' step
    generalize va_cpy (ax_i h b) (ax_i h a) sp.toNatClampNeg dp.toNatClampNeg n.toNatClampNeg = F at X' step ho
    have hl2 : g.2.1 + a < H.size := (Array.getElem?_eq_some_iff.mp hc1).1
    generalize hcell : arrV (g.2.2.2.2 kd) (ax_s h a).2 (fun j => Value.int (F j)) = cell at X' step
    have hheap : ((T.setVm vm').setCell (g.2.1 + a) cell).heap = H.setIfInBounds (g.2.1 + a) cell := by rw [← hT]; rfl
    have oq : ∀ q : Nat, q ≠ g.2.1 + a → (H.setIfInBounds (g.2.1 + a) cell)[q]? = H[q]? := fun q hq => by simp [Array.getElem?_setIfInBounds, Ne.symm hq]
    have hnew : (H.setIfInBounds (g.2.1 + a) cell)[g.2.1 + a]? = some cell := by simp [Array.getElem?_setIfInBounds, hl2]
    obtain ⟨t, a1, b1⟩ := hK _ ho (H.setIfInBounds (g.2.1 + a) cell) _ ls (ax_P_set (a := a) (h' := ax_row h a F) hP rfl (fun x hx => ax_e_cong rfl (if_neg hx) rfl rfl) ha (by
        rw [ax_e_arr (h := ax_row h a F) (kd := kd) hka (by omega)]
        unfold ax_c
        rw [if_pos hk2]
        show (H.setIfInBounds (g.2.1 + a) cell)[g.2.1 + a]? = some (arrV (g.2.2.2.2 kd) (h.2.1 a).2 (fun j => .int ((if a = a then F else h.2.2.1 a) j)))
        rw [hnew, if_pos rfl, hla, hcell]) (by simp) oq) ⟨by simp; exact hS.1, fun q g1 g2 => by
        rw [oq q (fun e => g2 (by rw [e]; exact Nat.le_add_right _ _))]
        exact hS.2.1 q g1 g2, fun q hq => by
        rcases List.mem_append.mp hq with h | h
        · exact hS.2.2 q h
        · obtain ⟨z, -, hz⟩ := List.mem_map.mp h
          rw [← hz]
          exact Nat.le_add_right _ _⟩ hlr _ hheap X'
    exact ⟨t, step t a1, b1⟩
  · exact ho.elim
end
end
section
section
variable {g : ax_G} {cc : ByteArray} {nL : Nat} {ret : Option FieldType} {own nm : String} {d mc ms pc : Nat}
theorem ax_off {a lo n : Nat} (h1 : lo ≤ a) (h2 : a < lo + n) : ∃ i, i < n ∧ a = lo + i := ⟨a - lo, by omega, by omega⟩
/-! String constants: places 1000100 .. 1000113, their bytes 1000200 .. 1000213 -/
def ao_ldcs (i : Nat) : ax_O := fun _ σ K => match σ with
  | (pc, L, st, h, u1, u2) => K (pc + 2, L, .ref (1000100 + i) :: st, h, u1, u2)
theorem ak_ldcs {i index : Nat} {tx : String} (hi : ax_ss[i]? = some (index, tx)) (hd : decode cc pc = .ok (.ldc index, 2)) : ax_ok g cc nL ret "GluedHour$Reader" nm d mc ms pc (ao_ldcs i) := by
  intro p e s m args below meth c V Ret L st h u1 u2 K ho hK H locs ls hP hS hlr
  dsimp only [ao_ldcs] at ho
  exact va_ldcS V.1 V.2.1 V.2.2.2.2.2.1 (V.2.2.2.2.2.2.2.2.2.2.2.2.1 i _ hi) hd (hK _ ho H locs ls hP hS hlr)
def ao_sgv : ax_O := fun _ σ K => match σ with
  | (pc, L, st, h, u1, u2) => match st with
    | .ref a :: r => (1000100 ≤ a ∧ a < 1000114) ∧ K (pc + 3, L, .ref (a + 100) :: r, h, u1, u2)
    | _ => False
theorem ak_sgv {index : Nat} (hl : Cond.fieldLink own index "java/lang/String" "value" "[B" ∈ lw_gd) (hd : decode cc pc = .ok (.getfield index, 3)) : ax_ok g cc nL ret own nm d mc ms pc ao_sgv := by
  intro p e s m args below meth c V Ret L st h u1 u2 K ho hK H locs ls hP hS hlr
  dsimp only [ao_sgv] at ho
  split at ho
  · rename_i a r
    obtain ⟨i, hi14, rfl⟩ := ax_off (n := 14) ho.1.1 ho.1.2
    have hv := (V.2.2.2.2.2.2.2.2.2.2.2.1.1 i hi14).2.2.1
    refine vk_getf V.1 V.2.1 hv hS V.2.2.2.2.2.1 (V.2.2.2.2.2.2.2.1 _ hl) (fun _ h => h) hd ?_
    have := hK _ ho.2 H locs ls hP hS hlr
    rw [show (1000100 + i + 100 : Nat) = 1000200 + i from by rw [Nat.add_right_comm]] at this
    exact this
  · exact ho.elim
def ao_sgc : ax_O := fun _ σ K => match σ with
  | (pc, L, st, h, u1, u2) => match st with
    | .ref a :: r => (1000100 ≤ a ∧ a < 1000114) ∧ K (pc + 3, L, .int 0 :: r, h, u1, u2)
    | _ => False
theorem ak_sgc {index : Nat} (hl : Cond.fieldLink own index "java/lang/String" "coder" "B" ∈ lw_gd) (hd : decode cc pc = .ok (.getfield index, 3)) : ax_ok g cc nL ret own nm d mc ms pc ao_sgc := by
  intro p e s m args below meth c V Ret L st h u1 u2 K ho hK H locs ls hP hS hlr
  dsimp only [ao_sgc] at ho
  split at ho
  · rename_i a r
    obtain ⟨i, hi14, rfl⟩ := ax_off (n := 14) ho.1.1 ho.1.2
    have hv := (V.2.2.2.2.2.2.2.2.2.2.2.1.1 i hi14).2.1
    exact vk_getf V.1 V.2.1 hv hS V.2.2.2.2.2.1 (V.2.2.2.2.2.2.2.1 _ hl) (fun _ h => h) hd (hK _ ho.2 H locs ls hP hS hlr)
  · exact ho.elim
theorem ak_gcs {index : Nat} (hl : Cond.fieldLink own index "java/lang/String" "COMPACT_STRINGS" "Z" ∈ lw_gd) (hd : decode cc pc = .ok (.getstatic index, 3)) : ax_ok g cc nL ret own nm d mc ms pc (ao_ic 1 3) := by
  intro p e s m args below meth c V Ret L st h u1 u2 K ho hK H locs ls hP hS hlr
  dsimp only [ao_ic] at ho
  exact va_gets V.1 V.2.1 V.2.2.2.2.2.2.2.2.2.2.2.2.2.1 hS V.2.2.2.2.2.1 (V.2.2.2.2.2.2.2.1 _ hl) (fun _ h => h) hd (hK _ ho H locs ls hP hS hlr)
def ao_slen : ax_O := fun _ σ K => match σ with
  | (pc, L, st, h, u1, u2) => match st with
    | .ref a :: r => (1000200 ≤ a ∧ a < 1000214) ∧ K (pc + 1, L, .int (Int32.ofNat (ax_sl.getD (a - 1000200) 0)) :: r, h, u1, u2)
    | _ => False
theorem ak_slen (hd : decode cc pc = .ok (.arraylength, 1)) : ax_ok g cc nL ret own nm d mc ms pc ao_slen := by
  intro p e s m args below meth c V Ret L st h u1 u2 K ho hK H locs ls hP hS hlr
  dsimp only [ao_slen] at ho
  split at ho
  · rename_i a r
    obtain ⟨i, hi14, rfl⟩ := ax_off (n := 14) ho.1.1 ho.1.2
    have hv := (V.2.2.2.2.2.2.2.2.2.2.2.1.1 i hi14).2.2.2
    have := ho.2
    rw [show (1000200 + i - 1000200 : Nat) = i from Nat.add_sub_cancel_left _ _] at this
    exact va_tlen V.1 V.2.1 hv hS rfl hd (hK _ this H locs ls hP hS hlr)
  · exact ho.elim
def ao_sbld : ax_O := fun _ σ K => match σ with
  | (pc, L, st, h, u1, u2) => match st with
    | .int j :: .ref a :: r => (1000200 ≤ a ∧ a < 1000214) ∧ vp_in j (ax_sl.getD (a - 1000200) 0) ∧ K (pc + 1, L, .int ((ax_sb.getD (a - 1000200) []).getD j.toNatClampNeg 0) :: r, h, u1, u2)
    | _ => False
theorem ak_sbld (hd : decode cc pc = .ok (.baload, 1)) : ax_ok g cc nL ret own nm d mc ms pc ao_sbld := by
  intro p e s m args below meth c V Ret L st h u1 u2 K ho hK H locs ls hP hS hlr
  dsimp only [ao_sbld] at ho
  split at ho
  · rename_i j a r
    obtain ⟨i, hi14, rfl⟩ := ax_off (n := 14) ho.1.1 ho.1.2
    have hv := (V.2.2.2.2.2.2.2.2.2.2.2.1.1 i hi14).2.2.2
    have := ho.2
    rw [show (1000200 + i - 1000200 : Nat) = i from Nat.add_sub_cancel_left _ _] at this
    exact va_tb V.1 V.2.1 hv hS this.1 rfl hd (hK _ this.2 H locs ls hP hS hlr)
  · exact ho.elim
def ao_nret (ty : FieldType) : ax_O := fun Ret σ _ => match σ with
  | (pc, L, st, h, u1, u2) => match st with
    | [.int x] => (u1 ≤ 0 ∧ u2 ≤ 0) ∧ narrow ty (.int x) = .int x ∧ Ret (some (.int x)) h
    | _ => False
theorem ak_nret {ty : FieldType} (hr : ret = some ty) (hd : decode cc pc = .ok (.ireturn, 1)) : ax_ok g cc nL ret own nm d 0 0 pc (ao_nret ty) := by
  intro p e s m args below meth c V Ret L st h u1 u2 K ho hK H locs ls hP hS hl
  dsimp only [ao_nret] at ho
  split at ho
  · rename_i x
    refine W.widen ho.1.1 ho.1.2 ?_
    exact W.zret V.1 V.2.1 (V.2.2.1.trans hr) ho.2.1 (ax_qr (v := some (.int x)) hP hS ho.2.2) hS.2.2 hd V.2.2.2.1
  · exact ho.elim
/-- a method of a String constant -/
def ao_invs (g : ax_G) (d : Nat) (y : MethodName) (cc : ByteArray) (nL : Nat) (ret : Option FieldType) (n : Nat) : ax_O := fun _ σ K => match σ with
  | (pc, L, st, h, u1, u2) => match ax_sp n [] st with
    | some (as, rest) => (∃ i bs, i < 14 ∧ as = .ref (1000100 + i) :: bs) ∧ ((rest.map Value.category).sum ≤ 8 ∧ u1 = 0 ∧ u2 = 0) ∧ ∃ d', d' < d ∧ ax_M g d' 0 0 y cc nL ret as h (fun v h' => ax_rk 1 v (fun vs => K (pc + 3, L, vs ++ rest, h', u1, u2)))
    | none => False
theorem ak_invs {y : MethodName} {cc' : ByteArray} {nL' n index : Nat} {ret' : Option FieldType} (hcls : y.cls = "java/lang/String") (hn' : nL' ≤ 22) (hl : Cond.methodLink own index y ∈ lw_gd) (him : Cond.instanceMethod y ∈ lw_gd) (hsel : Cond.selects y.cls y y ∈ lw_gd) (hi : Cond.initialized y.cls ∈ lw_gd) (hcode : Cond.code y cc' nL' ret' ∈ lw_gd) (hdd : y.cls ≠ "java/lang/invoke/MethodHandle" ∧ y.cls ≠ "java/lang/invoke/VarHandle" ∧ (parseMethodDescriptor y.desc).map (fun d => d.parameters.length) = some n) (hd : decode cc pc = .ok (.invokevirtual index, 3)) : ax_ok g cc nL ret own nm d mc ms pc (ao_invs g d y cc' nL' ret' (n + 1)) := by
  intro p e s m args below meth c V Ret L st h u1 u2 K ho hK H locs ls hP hS hlr
  dsimp only [ao_invs] at ho
  split at ho
  · rename_i as rest hsp
    obtain ⟨⟨i, As, hi14, rfl⟩, ⟨hrest, rfl, rfl⟩, d', hdl, hM⟩ := ho
    obtain ⟨bs, h1, h2, h3⟩ := ax_sp_eq _ _ _ _ _ hsp
    rw [List.append_nil] at h1
    subst h1
    have hpre := ax_PreS (as := .ref (1000100 + i) :: As) V hP hS
    have hrecv := vk_recv V.2.2.2.2.2.2.2.2.2.2.2.1 hi14 hS
    rw [← hcls] at hrecv
    have hmap : (Value.ref (1000100 + i) :: As).map (ax_v g) = .ref (ax_ad g (1000100 + i)) :: As.map (ax_v g) := rfl
    rw [hmap] at hpre
    refine ax_call (mc' := 0) (ms' := 0) (rest := rest.map (ax_v g)) (va_runV (C := y.cls) (b := ax_ad g (1000100 + i)) (As := As.map (ax_v g)) (n := n) ⟨V.1, V.2.1, V.2.2.2.2.1, V.2.2.2.2.2.1, V.2.2.2.2.2.2.2.1⟩ hM (cwV n V.2.2.2.2.2.2.2.1 (ax_gi ?_) rfl rfl rfl ⟨rfl, hdd⟩ (ax_rmL hdl hn' 0 0 mc ms)) ⟨hpre.1, hrecv, hpre.2⟩ rfl (by rw [List.length_map]; simpa using h2) hlr.1 (by show List.map (ax_v g) st = _; rw [h3, List.map_append, List.map_reverse, hmap, List.reverse_cons, List.append_assoc]; rfl) (by show 0 + _ ≤ 8; rw [Nat.zero_add, ax_sum]; exact hrest) hd ⟨Nat.zero_le _, Nat.zero_le _⟩) hS ?_
    · intro w hw
      rcases List.mem_append.mp hw with hw | hw
      · simp only [List.mem_cons, List.not_mem_nil, or_false] at hw
        rcases hw with rfl | rfl | rfl | rfl
        · exact hl
        · exact him
        · exact hsel
        · exact hi
      · exact ax_pre hcode w hw
    · intro v h' H1 locs1 hR hP1 hS1
      have := hK _ (ax_rk_use hR) H1 locs1 ls hP1 hS1 hlr
      cases v <;> exact this
  · exact ho.elim
end
section
variable {g : ax_G} {cc : ByteArray} {nL : Nat} {ret : Option FieldType} {own nm : String} {d mc ms pc : Nat}
/-! the script: place 1000300 -/
def ao_xlen (g : ax_G) : ax_O := fun _ σ K => match σ with
  | (pc, L, st, h, u1, u2) => match st with
    | .ref a :: r => a = 1000300 ∧ K (pc + 1, L, .int (Int32.ofNat (g.2.2.1 400)) :: r, h, u1, u2)
    | _ => False
theorem ak_xlen (hd : decode cc pc = .ok (.arraylength, 1)) : ax_ok g cc nL ret own nm d mc ms pc (ao_xlen g) := by
  intro p e s m args below meth c V Ret L st h u1 u2 K ho hK H locs ls hP hS hlr
  dsimp only [ao_xlen] at ho
  split at ho
  · obtain ⟨rfl, ho⟩ := ho
    obtain ⟨hX, hA, -⟩ := V.2.2.2.2.2.2.2.2.2.2.2.2.2.2
    exact va_slen V.1 V.2.1 hX (by obtain ⟨_, h1, _⟩ := hX; exact (Array.getElem?_eq_some_iff.mp h1).1) hA hS hd (hK _ ho H locs ls hP hS hlr)
  · exact ho.elim
def ao_xld (g : ax_G) : ax_O := fun _ σ K => match σ with
  | (pc, L, st, h, u1, u2) => match st with
    | .int i :: .ref a :: r => a = 1000300 ∧ vp_in i (g.2.2.1 400) ∧ K (pc + 1, L, .int (Int32.ofNat (g.2.2.1 (1000 + i.toNatClampNeg))) :: r, h, u1, u2)
    | _ => False
theorem ak_xld (hd : decode cc pc = .ok (.iaload, 1)) : ax_ok g cc nL ret own nm d mc ms pc (ao_xld g) := by
  intro p e s m args below meth c V Ret L st h u1 u2 K ho hK H locs ls hP hS hlr
  dsimp only [ao_xld] at ho
  split at ho
  · obtain ⟨rfl, hin, ho⟩ := ho
    obtain ⟨hX, hA, -⟩ := V.2.2.2.2.2.2.2.2.2.2.2.2.2.2
    exact va_sld V.1 V.2.1 hX (by obtain ⟨_, h1, _⟩ := hX; exact (Array.getElem?_eq_some_iff.mp h1).1) hA hS hin hd (hK _ ho H locs ls hP hS hlr)
  · exact ho.elim
end
end
