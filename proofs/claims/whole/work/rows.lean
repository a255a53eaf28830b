section
/-- a private method of a class that the tables say can be made, by its rows of tables_1 -/
def lw_okq (q : MethodName × Nat) : Prop := (q.1.cls ≠ "java/lang/invoke/MethodHandle" ∧ q.1.cls ≠ "java/lang/invoke/VarHandle") ∧ Cond.instantiable q.1.cls q.2 ∈ tables_1 ∧ Cond.privateMethod q.1 ∈ tables_1 ∧ Cond.instanceMethod q.1 ∈ tables_1
theorem lw_p0 : lw_okq (⟨"MirrorTelegraph$HeightText", "stateAfter", "(I)I"⟩, 6) := ⟨⟨by decide +kernel, by decide +kernel⟩, List.mem_of_getElem? (i := 40) (by decide +kernel), List.mem_of_getElem? (i := 249) (by decide +kernel), List.mem_of_getElem? (i := 250) (by decide +kernel)⟩
theorem lw_p1 : lw_okq (⟨"MirrorTelegraph$HeightText", "stateAfterDigit", "(I)I"⟩, 6) := ⟨⟨by decide +kernel, by decide +kernel⟩, List.mem_of_getElem? (i := 40) (by decide +kernel), List.mem_of_getElem? (i := 253) (by decide +kernel), List.mem_of_getElem? (i := 254) (by decide +kernel)⟩
theorem lw_p2 : lw_okq (⟨"MirrorTelegraph$HeightText", "beginItem", "(I)I"⟩, 6) := ⟨⟨by decide +kernel, by decide +kernel⟩, List.mem_of_getElem? (i := 40) (by decide +kernel), List.mem_of_getElem? (i := 257) (by decide +kernel), List.mem_of_getElem? (i := 258) (by decide +kernel)⟩
theorem lw_p3 : lw_okq (⟨"MirrorTelegraph$HeightText", "growHeight", "(II)I"⟩, 6) := ⟨⟨by decide +kernel, by decide +kernel⟩, List.mem_of_getElem? (i := 40) (by decide +kernel), List.mem_of_getElem? (i := 261) (by decide +kernel), List.mem_of_getElem? (i := 262) (by decide +kernel)⟩
theorem lw_p4 : lw_okq (⟨"MirrorTelegraph$HeightText", "growRepeat", "(II)I"⟩, 6) := ⟨⟨by decide +kernel, by decide +kernel⟩, List.mem_of_getElem? (i := 40) (by decide +kernel), List.mem_of_getElem? (i := 265) (by decide +kernel), List.mem_of_getElem? (i := 266) (by decide +kernel)⟩
theorem lw_p5 : lw_okq (⟨"MirrorTelegraph$Links", "sunObstacle", "(II)I"⟩, 3) := ⟨⟨by decide +kernel, by decide +kernel⟩, List.mem_of_getElem? (i := 112) (by decide +kernel), List.mem_of_getElem? (i := 294) (by decide +kernel), List.mem_of_getElem? (i := 295) (by decide +kernel)⟩
theorem lw_p6 : lw_okq (⟨"MirrorTelegraph$Links", "blockingCellFrom", "(III)I"⟩, 3) := ⟨⟨by decide +kernel, by decide +kernel⟩, List.mem_of_getElem? (i := 112) (by decide +kernel), List.mem_of_getElem? (i := 364) (by decide +kernel), List.mem_of_getElem? (i := 365) (by decide +kernel)⟩
theorem lw_p7 : lw_okq (⟨"MirrorTelegraph$Links", "canThrow", "(III)Z"⟩, 3) := ⟨⟨by decide +kernel, by decide +kernel⟩, List.mem_of_getElem? (i := 112) (by decide +kernel), List.mem_of_getElem? (i := 375) (by decide +kernel), List.mem_of_getElem? (i := 376) (by decide +kernel)⟩
theorem lw_p8 : lw_okq (⟨"MirrorTelegraph$Routes", "takeRequests", "()I"⟩, 8) := ⟨⟨by decide +kernel, by decide +kernel⟩, List.mem_of_getElem? (i := 147) (by decide +kernel), List.mem_of_getElem? (i := 387) (by decide +kernel), List.mem_of_getElem? (i := 388) (by decide +kernel)⟩
theorem lw_p9 : lw_okq (⟨"MirrorTelegraph$Routes", "earliestUnsettled", "(I)I"⟩, 8) := ⟨⟨by decide +kernel, by decide +kernel⟩, List.mem_of_getElem? (i := 147) (by decide +kernel), List.mem_of_getElem? (i := 417) (by decide +kernel), List.mem_of_getElem? (i := 418) (by decide +kernel)⟩
theorem lw_p10 : lw_okq (⟨"MirrorTelegraph$Routes", "passOn", "(I)V"⟩, 8) := ⟨⟨by decide +kernel, by decide +kernel⟩, List.mem_of_getElem? (i := 147) (by decide +kernel), List.mem_of_getElem? (i := 425) (by decide +kernel), List.mem_of_getElem? (i := 426) (by decide +kernel)⟩
theorem lw_p11 : lw_okq (⟨"MirrorTelegraph$Routes", "earliestEnd", "(II)I"⟩, 8) := ⟨⟨by decide +kernel, by decide +kernel⟩, List.mem_of_getElem? (i := 147) (by decide +kernel), List.mem_of_getElem? (i := 429) (by decide +kernel), List.mem_of_getElem? (i := 430) (by decide +kernel)⟩
theorem lw_p12 : lw_okq (⟨"MirrorTelegraph$Routes", "hoursOfPair", "(II)I"⟩, 8) := ⟨⟨by decide +kernel, by decide +kernel⟩, List.mem_of_getElem? (i := 147) (by decide +kernel), List.mem_of_getElem? (i := 433) (by decide +kernel), List.mem_of_getElem? (i := 434) (by decide +kernel)⟩
theorem lw_p13 : lw_okq (⟨"MirrorTelegraph$Routes", "traceRoute", "(II)I"⟩, 8) := ⟨⟨by decide +kernel, by decide +kernel⟩, List.mem_of_getElem? (i := 147) (by decide +kernel), List.mem_of_getElem? (i := 444) (by decide +kernel), List.mem_of_getElem? (i := 445) (by decide +kernel)⟩
theorem lw_p14 : lw_okq (⟨"MirrorTelegraph$Routes", "stationBefore", "(I)I"⟩, 8) := ⟨⟨by decide +kernel, by decide +kernel⟩, List.mem_of_getElem? (i := 147) (by decide +kernel), List.mem_of_getElem? (i := 448) (by decide +kernel), List.mem_of_getElem? (i := 449) (by decide +kernel)⟩
theorem lw_p15 : lw_okq (⟨"MirrorTelegraph$Timetable", "bookTurns", "(IIII)V"⟩, 3) := ⟨⟨by decide +kernel, by decide +kernel⟩, List.mem_of_getElem? (i := 128) (by decide +kernel), List.mem_of_getElem? (i := 465) (by decide +kernel), List.mem_of_getElem? (i := 466) (by decide +kernel)⟩
def lw_privs_1 : List (MethodName × Nat) := [(⟨"MirrorTelegraph$HeightText", "stateAfter", "(I)I"⟩, 6), (⟨"MirrorTelegraph$HeightText", "stateAfterDigit", "(I)I"⟩, 6), (⟨"MirrorTelegraph$HeightText", "beginItem", "(I)I"⟩, 6), (⟨"MirrorTelegraph$HeightText", "growHeight", "(II)I"⟩, 6), (⟨"MirrorTelegraph$HeightText", "growRepeat", "(II)I"⟩, 6), (⟨"MirrorTelegraph$Links", "sunObstacle", "(II)I"⟩, 3), (⟨"MirrorTelegraph$Links", "blockingCellFrom", "(III)I"⟩, 3), (⟨"MirrorTelegraph$Links", "canThrow", "(III)Z"⟩, 3), (⟨"MirrorTelegraph$Routes", "takeRequests", "()I"⟩, 8), (⟨"MirrorTelegraph$Routes", "earliestUnsettled", "(I)I"⟩, 8), (⟨"MirrorTelegraph$Routes", "passOn", "(I)V"⟩, 8), (⟨"MirrorTelegraph$Routes", "earliestEnd", "(II)I"⟩, 8), (⟨"MirrorTelegraph$Routes", "hoursOfPair", "(II)I"⟩, 8), (⟨"MirrorTelegraph$Routes", "traceRoute", "(II)I"⟩, 8), (⟨"MirrorTelegraph$Routes", "stationBefore", "(I)I"⟩, 8), (⟨"MirrorTelegraph$Timetable", "bookTurns", "(IIII)V"⟩, 3)]
theorem lw_r1 : ∀ q ∈ lw_privs_1, lw_okq q := List.forall_mem_cons.mpr ⟨lw_p0, List.forall_mem_cons.mpr ⟨lw_p1, List.forall_mem_cons.mpr ⟨lw_p2, List.forall_mem_cons.mpr ⟨lw_p3, List.forall_mem_cons.mpr ⟨lw_p4, List.forall_mem_cons.mpr ⟨lw_p5, List.forall_mem_cons.mpr ⟨lw_p6, List.forall_mem_cons.mpr ⟨lw_p7, List.forall_mem_cons.mpr ⟨lw_p8, List.forall_mem_cons.mpr ⟨lw_p9, List.forall_mem_cons.mpr ⟨lw_p10, List.forall_mem_cons.mpr ⟨lw_p11, List.forall_mem_cons.mpr ⟨lw_p12, List.forall_mem_cons.mpr ⟨lw_p13, List.forall_mem_cons.mpr ⟨lw_p14, List.forall_mem_cons.mpr ⟨lw_p15, fun _ h => absurd h List.not_mem_nil⟩⟩⟩⟩⟩⟩⟩⟩⟩⟩⟩⟩⟩⟩⟩⟩
theorem lw_p16 : lw_okq (⟨"MirrorTelegraph", "numberOf", "(I)I"⟩, 7) := ⟨⟨by decide +kernel, by decide +kernel⟩, List.mem_of_getElem? (i := 21) (by decide +kernel), List.mem_of_getElem? (i := 488) (by decide +kernel), List.mem_of_getElem? (i := 489) (by decide +kernel)⟩
theorem lw_p17 : lw_okq (⟨"MirrorTelegraph", "hashWithStations", "(J)J"⟩, 7) := ⟨⟨by decide +kernel, by decide +kernel⟩, List.mem_of_getElem? (i := 21) (by decide +kernel), List.mem_of_getElem? (i := 519) (by decide +kernel), List.mem_of_getElem? (i := 520) (by decide +kernel)⟩
theorem lw_p18 : lw_okq (⟨"MirrorTelegraph", "stationProperty", "(II)I"⟩, 7) := ⟨⟨by decide +kernel, by decide +kernel⟩, List.mem_of_getElem? (i := 21) (by decide +kernel), List.mem_of_getElem? (i := 523) (by decide +kernel), List.mem_of_getElem? (i := 524) (by decide +kernel)⟩
theorem lw_p19 : lw_okq (⟨"MirrorTelegraph", "hashWithPairs", "(J)J"⟩, 7) := ⟨⟨by decide +kernel, by decide +kernel⟩, List.mem_of_getElem? (i := 21) (by decide +kernel), List.mem_of_getElem? (i := 533) (by decide +kernel), List.mem_of_getElem? (i := 534) (by decide +kernel)⟩
theorem lw_p20 : lw_okq (⟨"MirrorTelegraph", "hashWithMessages", "(J)J"⟩, 7) := ⟨⟨by decide +kernel, by decide +kernel⟩, List.mem_of_getElem? (i := 21) (by decide +kernel), List.mem_of_getElem? (i := 545) (by decide +kernel), List.mem_of_getElem? (i := 546) (by decide +kernel)⟩
theorem lw_p21 : lw_okq (⟨"MirrorTelegraph", "hashWithText", "(J)J"⟩, 7) := ⟨⟨by decide +kernel, by decide +kernel⟩, List.mem_of_getElem? (i := 21) (by decide +kernel), List.mem_of_getElem? (i := 555) (by decide +kernel), List.mem_of_getElem? (i := 556) (by decide +kernel)⟩
theorem lw_p22 : lw_okq (⟨"java/lang/Throwable", "fillInStackTrace", "(I)Ljava/lang/Throwable;"⟩, 6) := ⟨⟨by decide +kernel, by decide +kernel⟩, List.mem_of_getElem? (i := 611) (by decide +kernel), List.mem_of_getElem? (i := 609) (by decide +kernel), List.mem_of_getElem? (i := 610) (by decide +kernel)⟩
theorem lw_p23 : lw_okq (⟨"MirrorTelegraph$HeightText", "cellsOf", "(I)I"⟩, 6) := ⟨⟨by decide +kernel, by decide +kernel⟩, List.mem_of_getElem? (i := 40) (by decide +kernel), List.mem_of_getElem? (i := 718) (by decide +kernel), List.mem_of_getElem? (i := 719) (by decide +kernel)⟩
theorem lw_p24 : lw_okq (⟨"MirrorTelegraph", "requireStation", "(I)V"⟩, 7) := ⟨⟨by decide +kernel, by decide +kernel⟩, List.mem_of_getElem? (i := 21) (by decide +kernel), List.mem_of_getElem? (i := 753) (by decide +kernel), List.mem_of_getElem? (i := 754) (by decide +kernel)⟩
theorem lw_p25 : lw_okq (⟨"MirrorTelegraph", "requirePair", "(II)V"⟩, 7) := ⟨⟨by decide +kernel, by decide +kernel⟩, List.mem_of_getElem? (i := 21) (by decide +kernel), List.mem_of_getElem? (i := 796) (by decide +kernel), List.mem_of_getElem? (i := 797) (by decide +kernel)⟩
theorem lw_p26 : lw_okq (⟨"MirrorTelegraph", "requireMessage", "(I)V"⟩, 7) := ⟨⟨by decide +kernel, by decide +kernel⟩, List.mem_of_getElem? (i := 21) (by decide +kernel), List.mem_of_getElem? (i := 810) (by decide +kernel), List.mem_of_getElem? (i := 811) (by decide +kernel)⟩
theorem lw_p27 : lw_okq (⟨"MirrorTelegraph$Links", "stationsInSight", "(II)I"⟩, 3) := ⟨⟨by decide +kernel, by decide +kernel⟩, List.mem_of_getElem? (i := 112) (by decide +kernel), List.mem_of_getElem? (i := 878) (by decide +kernel), List.mem_of_getElem? (i := 879) (by decide +kernel)⟩
theorem lw_p28 : lw_okq (⟨"MirrorTelegraphModel", "read", "()I"⟩, 27) := ⟨⟨by decide +kernel, by decide +kernel⟩, List.mem_of_getElem? (i := 914) (by decide +kernel), List.mem_of_getElem? (i := 1040) (by decide +kernel), List.mem_of_getElem? (i := 1041) (by decide +kernel)⟩
theorem lw_p29 : lw_okq (⟨"MirrorTelegraphModel", "takes", "(I)Z"⟩, 27) := ⟨⟨by decide +kernel, by decide +kernel⟩, List.mem_of_getElem? (i := 914) (by decide +kernel), List.mem_of_getElem? (i := 1044) (by decide +kernel), List.mem_of_getElem? (i := 1045) (by decide +kernel)⟩
theorem lw_p30 : lw_okq (⟨"MirrorTelegraphModel", "takesDigit", "(I)Z"⟩, 27) := ⟨⟨by decide +kernel, by decide +kernel⟩, List.mem_of_getElem? (i := 914) (by decide +kernel), List.mem_of_getElem? (i := 1048) (by decide +kernel), List.mem_of_getElem? (i := 1049) (by decide +kernel)⟩
theorem lw_p31 : lw_okq (⟨"MirrorTelegraphModel", "endItem", "()V"⟩, 27) := ⟨⟨by decide +kernel, by decide +kernel⟩, List.mem_of_getElem? (i := 914) (by decide +kernel), List.mem_of_getElem? (i := 1052) (by decide +kernel), List.mem_of_getElem? (i := 1053) (by decide +kernel)⟩
def lw_privs_2 : List (MethodName × Nat) := [(⟨"MirrorTelegraph", "numberOf", "(I)I"⟩, 7), (⟨"MirrorTelegraph", "hashWithStations", "(J)J"⟩, 7), (⟨"MirrorTelegraph", "stationProperty", "(II)I"⟩, 7), (⟨"MirrorTelegraph", "hashWithPairs", "(J)J"⟩, 7), (⟨"MirrorTelegraph", "hashWithMessages", "(J)J"⟩, 7), (⟨"MirrorTelegraph", "hashWithText", "(J)J"⟩, 7), (⟨"java/lang/Throwable", "fillInStackTrace", "(I)Ljava/lang/Throwable;"⟩, 6), (⟨"MirrorTelegraph$HeightText", "cellsOf", "(I)I"⟩, 6), (⟨"MirrorTelegraph", "requireStation", "(I)V"⟩, 7), (⟨"MirrorTelegraph", "requirePair", "(II)V"⟩, 7), (⟨"MirrorTelegraph", "requireMessage", "(I)V"⟩, 7), (⟨"MirrorTelegraph$Links", "stationsInSight", "(II)I"⟩, 3), (⟨"MirrorTelegraphModel", "read", "()I"⟩, 27), (⟨"MirrorTelegraphModel", "takes", "(I)Z"⟩, 27), (⟨"MirrorTelegraphModel", "takesDigit", "(I)Z"⟩, 27), (⟨"MirrorTelegraphModel", "endItem", "()V"⟩, 27)]
theorem lw_r2 : ∀ q ∈ lw_privs_2, lw_okq q := List.forall_mem_cons.mpr ⟨lw_p16, List.forall_mem_cons.mpr ⟨lw_p17, List.forall_mem_cons.mpr ⟨lw_p18, List.forall_mem_cons.mpr ⟨lw_p19, List.forall_mem_cons.mpr ⟨lw_p20, List.forall_mem_cons.mpr ⟨lw_p21, List.forall_mem_cons.mpr ⟨lw_p22, List.forall_mem_cons.mpr ⟨lw_p23, List.forall_mem_cons.mpr ⟨lw_p24, List.forall_mem_cons.mpr ⟨lw_p25, List.forall_mem_cons.mpr ⟨lw_p26, List.forall_mem_cons.mpr ⟨lw_p27, List.forall_mem_cons.mpr ⟨lw_p28, List.forall_mem_cons.mpr ⟨lw_p29, List.forall_mem_cons.mpr ⟨lw_p30, List.forall_mem_cons.mpr ⟨lw_p31, fun _ h => absurd h List.not_mem_nil⟩⟩⟩⟩⟩⟩⟩⟩⟩⟩⟩⟩⟩⟩⟩⟩
theorem lw_p32 : lw_okq (⟨"MirrorTelegraphModel", "cellsRead", "()I"⟩, 27) := ⟨⟨by decide +kernel, by decide +kernel⟩, List.mem_of_getElem? (i := 914) (by decide +kernel), List.mem_of_getElem? (i := 1060) (by decide +kernel), List.mem_of_getElem? (i := 1061) (by decide +kernel)⟩
theorem lw_p33 : lw_okq (⟨"MirrorTelegraphModel", "isTaken", "(I)Z"⟩, 27) := ⟨⟨by decide +kernel, by decide +kernel⟩, List.mem_of_getElem? (i := 914) (by decide +kernel), List.mem_of_getElem? (i := 1068) (by decide +kernel), List.mem_of_getElem? (i := 1069) (by decide +kernel)⟩
theorem lw_p34 : lw_okq (⟨"MirrorTelegraphModel", "isStation", "(I)Z"⟩, 27) := ⟨⟨by decide +kernel, by decide +kernel⟩, List.mem_of_getElem? (i := 914) (by decide +kernel), List.mem_of_getElem? (i := 1076) (by decide +kernel), List.mem_of_getElem? (i := 1077) (by decide +kernel)⟩
theorem lw_p35 : lw_okq (⟨"MirrorTelegraphModel", "doubles", "()I"⟩, 27) := ⟨⟨by decide +kernel, by decide +kernel⟩, List.mem_of_getElem? (i := 914) (by decide +kernel), List.mem_of_getElem? (i := 1084) (by decide +kernel), List.mem_of_getElem? (i := 1085) (by decide +kernel)⟩
theorem lw_p36 : lw_okq (⟨"MirrorTelegraphModel", "sends", "(IIII)Z"⟩, 27) := ⟨⟨by decide +kernel, by decide +kernel⟩, List.mem_of_getElem? (i := 914) (by decide +kernel), List.mem_of_getElem? (i := 1103) (by decide +kernel), List.mem_of_getElem? (i := 1104) (by decide +kernel)⟩
theorem lw_p37 : lw_okq (⟨"MirrorTelegraphModel", "layArrivals", "(III)V"⟩, 27) := ⟨⟨by decide +kernel, by decide +kernel⟩, List.mem_of_getElem? (i := 914) (by decide +kernel), List.mem_of_getElem? (i := 1107) (by decide +kernel), List.mem_of_getElem? (i := 1108) (by decide +kernel)⟩
theorem lw_p38 : lw_okq (⟨"MirrorTelegraphModel", "layTurns", "()V"⟩, 27) := ⟨⟨by decide +kernel, by decide +kernel⟩, List.mem_of_getElem? (i := 914) (by decide +kernel), List.mem_of_getElem? (i := 1111) (by decide +kernel), List.mem_of_getElem? (i := 1112) (by decide +kernel)⟩
theorem lw_p39 : lw_okq (⟨"MirrorTelegraphModel", "layLinks", "()V"⟩, 27) := ⟨⟨by decide +kernel, by decide +kernel⟩, List.mem_of_getElem? (i := 914) (by decide +kernel), List.mem_of_getElem? (i := 1115) (by decide +kernel), List.mem_of_getElem? (i := 1116) (by decide +kernel)⟩
theorem lw_p40 : lw_okq (⟨"MirrorTelegraphModel", "linkOf", "(III)I"⟩, 27) := ⟨⟨by decide +kernel, by decide +kernel⟩, List.mem_of_getElem? (i := 914) (by decide +kernel), List.mem_of_getElem? (i := 1119) (by decide +kernel), List.mem_of_getElem? (i := 1120) (by decide +kernel)⟩
theorem lw_p41 : lw_okq (⟨"MirrorTelegraphModel", "sunless", "(II)I"⟩, 27) := ⟨⟨by decide +kernel, by decide +kernel⟩, List.mem_of_getElem? (i := 914) (by decide +kernel), List.mem_of_getElem? (i := 1123) (by decide +kernel), List.mem_of_getElem? (i := 1124) (by decide +kernel)⟩
theorem lw_p42 : lw_okq (⟨"MirrorTelegraphModel", "isShaded", "(II)Z"⟩, 27) := ⟨⟨by decide +kernel, by decide +kernel⟩, List.mem_of_getElem? (i := 914) (by decide +kernel), List.mem_of_getElem? (i := 1130) (by decide +kernel), List.mem_of_getElem? (i := 1131) (by decide +kernel)⟩
theorem lw_p43 : lw_okq (⟨"MirrorTelegraphModel", "eyeOf", "(I)I"⟩, 27) := ⟨⟨by decide +kernel, by decide +kernel⟩, List.mem_of_getElem? (i := 914) (by decide +kernel), List.mem_of_getElem? (i := 1140) (by decide +kernel), List.mem_of_getElem? (i := 1141) (by decide +kernel)⟩
theorem lw_p44 : lw_okq (⟨"MirrorTelegraphModel", "isCovered", "(II)Z"⟩, 27) := ⟨⟨by decide +kernel, by decide +kernel⟩, List.mem_of_getElem? (i := 914) (by decide +kernel), List.mem_of_getElem? (i := 1144) (by decide +kernel), List.mem_of_getElem? (i := 1145) (by decide +kernel)⟩
theorem lw_p45 : lw_okq (⟨"MirrorTelegraphModel", "between", "(II)I"⟩, 27) := ⟨⟨by decide +kernel, by decide +kernel⟩, List.mem_of_getElem? (i := 914) (by decide +kernel), List.mem_of_getElem? (i := 1151) (by decide +kernel), List.mem_of_getElem? (i := 1152) (by decide +kernel)⟩
theorem lw_p46 : lw_okq (⟨"MirrorTelegraphModel", "blockerOf", "(IIII)I"⟩, 27) := ⟨⟨by decide +kernel, by decide +kernel⟩, List.mem_of_getElem? (i := 914) (by decide +kernel), List.mem_of_getElem? (i := 1155) (by decide +kernel), List.mem_of_getElem? (i := 1156) (by decide +kernel)⟩
theorem lw_p47 : lw_okq (⟨"MirrorTelegraphModel", "throwsTo", "(III)Z"⟩, 27) := ⟨⟨by decide +kernel, by decide +kernel⟩, List.mem_of_getElem? (i := 914) (by decide +kernel), List.mem_of_getElem? (i := 1159) (by decide +kernel), List.mem_of_getElem? (i := 1160) (by decide +kernel)⟩
def lw_privs_3 : List (MethodName × Nat) := [(⟨"MirrorTelegraphModel", "cellsRead", "()I"⟩, 27), (⟨"MirrorTelegraphModel", "isTaken", "(I)Z"⟩, 27), (⟨"MirrorTelegraphModel", "isStation", "(I)Z"⟩, 27), (⟨"MirrorTelegraphModel", "doubles", "()I"⟩, 27), (⟨"MirrorTelegraphModel", "sends", "(IIII)Z"⟩, 27), (⟨"MirrorTelegraphModel", "layArrivals", "(III)V"⟩, 27), (⟨"MirrorTelegraphModel", "layTurns", "()V"⟩, 27), (⟨"MirrorTelegraphModel", "layLinks", "()V"⟩, 27), (⟨"MirrorTelegraphModel", "linkOf", "(III)I"⟩, 27), (⟨"MirrorTelegraphModel", "sunless", "(II)I"⟩, 27), (⟨"MirrorTelegraphModel", "isShaded", "(II)Z"⟩, 27), (⟨"MirrorTelegraphModel", "eyeOf", "(I)I"⟩, 27), (⟨"MirrorTelegraphModel", "isCovered", "(II)Z"⟩, 27), (⟨"MirrorTelegraphModel", "between", "(II)I"⟩, 27), (⟨"MirrorTelegraphModel", "blockerOf", "(IIII)I"⟩, 27), (⟨"MirrorTelegraphModel", "throwsTo", "(III)Z"⟩, 27)]
theorem lw_r3 : ∀ q ∈ lw_privs_3, lw_okq q := List.forall_mem_cons.mpr ⟨lw_p32, List.forall_mem_cons.mpr ⟨lw_p33, List.forall_mem_cons.mpr ⟨lw_p34, List.forall_mem_cons.mpr ⟨lw_p35, List.forall_mem_cons.mpr ⟨lw_p36, List.forall_mem_cons.mpr ⟨lw_p37, List.forall_mem_cons.mpr ⟨lw_p38, List.forall_mem_cons.mpr ⟨lw_p39, List.forall_mem_cons.mpr ⟨lw_p40, List.forall_mem_cons.mpr ⟨lw_p41, List.forall_mem_cons.mpr ⟨lw_p42, List.forall_mem_cons.mpr ⟨lw_p43, List.forall_mem_cons.mpr ⟨lw_p44, List.forall_mem_cons.mpr ⟨lw_p45, List.forall_mem_cons.mpr ⟨lw_p46, List.forall_mem_cons.mpr ⟨lw_p47, fun _ h => absurd h List.not_mem_nil⟩⟩⟩⟩⟩⟩⟩⟩⟩⟩⟩⟩⟩⟩⟩⟩
theorem lw_p48 : lw_okq (⟨"MirrorTelegraphModel", "beginOf", "(IIII)I"⟩, 27) := ⟨⟨by decide +kernel, by decide +kernel⟩, List.mem_of_getElem? (i := 914) (by decide +kernel), List.mem_of_getElem? (i := 1163) (by decide +kernel), List.mem_of_getElem? (i := 1164) (by decide +kernel)⟩
theorem lw_p49 : lw_okq (⟨"MirrorTelegraphModel", "isFree", "(III)Z"⟩, 27) := ⟨⟨by decide +kernel, by decide +kernel⟩, List.mem_of_getElem? (i := 914) (by decide +kernel), List.mem_of_getElem? (i := 1167) (by decide +kernel), List.mem_of_getElem? (i := 1168) (by decide +kernel)⟩
theorem lw_p50 : lw_okq (⟨"MirrorTelegraphModel", "stationBefore", "(II)I"⟩, 27) := ⟨⟨by decide +kernel, by decide +kernel⟩, List.mem_of_getElem? (i := 914) (by decide +kernel), List.mem_of_getElem? (i := 1171) (by decide +kernel), List.mem_of_getElem? (i := 1172) (by decide +kernel)⟩
theorem lw_p51 : lw_okq (⟨"MirrorTelegraphModel", "isMessage", "(I)Z"⟩, 27) := ⟨⟨by decide +kernel, by decide +kernel⟩, List.mem_of_getElem? (i := 914) (by decide +kernel), List.mem_of_getElem? (i := 1179) (by decide +kernel), List.mem_of_getElem? (i := 1180) (by decide +kernel)⟩
theorem lw_p52 : lw_okq (⟨"MirrorTelegraphModel", "drop", "(I)V"⟩, 27) := ⟨⟨by decide +kernel, by decide +kernel⟩, List.mem_of_getElem? (i := 914) (by decide +kernel), List.mem_of_getElem? (i := 1183) (by decide +kernel), List.mem_of_getElem? (i := 1184) (by decide +kernel)⟩
theorem lw_p53 : lw_okq (⟨"MirrorTelegraphModel", "counted", "(I)I"⟩, 27) := ⟨⟨by decide +kernel, by decide +kernel⟩, List.mem_of_getElem? (i := 914) (by decide +kernel), List.mem_of_getElem? (i := 1195) (by decide +kernel), List.mem_of_getElem? (i := 1196) (by decide +kernel)⟩
theorem lw_p54 : lw_okq (⟨"MirrorTelegraphModel", "highest", "()I"⟩, 27) := ⟨⟨by decide +kernel, by decide +kernel⟩, List.mem_of_getElem? (i := 914) (by decide +kernel), List.mem_of_getElem? (i := 1199) (by decide +kernel), List.mem_of_getElem? (i := 1200) (by decide +kernel)⟩
theorem lw_p55 : lw_okq (⟨"MirrorTelegraphModel", "heights", "()I"⟩, 27) := ⟨⟨by decide +kernel, by decide +kernel⟩, List.mem_of_getElem? (i := 914) (by decide +kernel), List.mem_of_getElem? (i := 1203) (by decide +kernel), List.mem_of_getElem? (i := 1204) (by decide +kernel)⟩
theorem lw_p56 : lw_okq (⟨"MirrorTelegraphModel", "sights", "()I"⟩, 27) := ⟨⟨by decide +kernel, by decide +kernel⟩, List.mem_of_getElem? (i := 914) (by decide +kernel), List.mem_of_getElem? (i := 1207) (by decide +kernel), List.mem_of_getElem? (i := 1208) (by decide +kernel)⟩
theorem lw_p57 : lw_okq (⟨"MirrorTelegraphModel", "busyAll", "()I"⟩, 27) := ⟨⟨by decide +kernel, by decide +kernel⟩, List.mem_of_getElem? (i := 914) (by decide +kernel), List.mem_of_getElem? (i := 1211) (by decide +kernel), List.mem_of_getElem? (i := 1212) (by decide +kernel)⟩
theorem lw_p58 : lw_okq (⟨"MirrorTelegraphModel", "busyOf", "(I)I"⟩, 27) := ⟨⟨by decide +kernel, by decide +kernel⟩, List.mem_of_getElem? (i := 914) (by decide +kernel), List.mem_of_getElem? (i := 1215) (by decide +kernel), List.mem_of_getElem? (i := 1216) (by decide +kernel)⟩
theorem lw_p59 : lw_okq (⟨"MirrorTelegraphModel", "latest", "()I"⟩, 27) := ⟨⟨by decide +kernel, by decide +kernel⟩, List.mem_of_getElem? (i := 914) (by decide +kernel), List.mem_of_getElem? (i := 1219) (by decide +kernel), List.mem_of_getElem? (i := 1220) (by decide +kernel)⟩
theorem lw_p60 : lw_okq (⟨"MirrorTelegraphModel", "told", "(II)I"⟩, 27) := ⟨⟨by decide +kernel, by decide +kernel⟩, List.mem_of_getElem? (i := 914) (by decide +kernel), List.mem_of_getElem? (i := 1227) (by decide +kernel), List.mem_of_getElem? (i := 1228) (by decide +kernel)⟩
theorem lw_p61 : lw_okq (⟨"MirrorTelegraphModel", "sunny", "(I)I"⟩, 27) := ⟨⟨by decide +kernel, by decide +kernel⟩, List.mem_of_getElem? (i := 914) (by decide +kernel), List.mem_of_getElem? (i := 1231) (by decide +kernel), List.mem_of_getElem? (i := 1232) (by decide +kernel)⟩
theorem lw_p62 : lw_okq (⟨"MirrorTelegraphModel", "pairWrong", "(II)I"⟩, 27) := ⟨⟨by decide +kernel, by decide +kernel⟩, List.mem_of_getElem? (i := 914) (by decide +kernel), List.mem_of_getElem? (i := 1239) (by decide +kernel), List.mem_of_getElem? (i := 1240) (by decide +kernel)⟩
theorem lw_p63 : lw_okq (⟨"MirrorTelegraphModel", "leastMast", "(II)I"⟩, 27) := ⟨⟨by decide +kernel, by decide +kernel⟩, List.mem_of_getElem? (i := 914) (by decide +kernel), List.mem_of_getElem? (i := 1251) (by decide +kernel), List.mem_of_getElem? (i := 1252) (by decide +kernel)⟩
def lw_privs_4 : List (MethodName × Nat) := [(⟨"MirrorTelegraphModel", "beginOf", "(IIII)I"⟩, 27), (⟨"MirrorTelegraphModel", "isFree", "(III)Z"⟩, 27), (⟨"MirrorTelegraphModel", "stationBefore", "(II)I"⟩, 27), (⟨"MirrorTelegraphModel", "isMessage", "(I)Z"⟩, 27), (⟨"MirrorTelegraphModel", "drop", "(I)V"⟩, 27), (⟨"MirrorTelegraphModel", "counted", "(I)I"⟩, 27), (⟨"MirrorTelegraphModel", "highest", "()I"⟩, 27), (⟨"MirrorTelegraphModel", "heights", "()I"⟩, 27), (⟨"MirrorTelegraphModel", "sights", "()I"⟩, 27), (⟨"MirrorTelegraphModel", "busyAll", "()I"⟩, 27), (⟨"MirrorTelegraphModel", "busyOf", "(I)I"⟩, 27), (⟨"MirrorTelegraphModel", "latest", "()I"⟩, 27), (⟨"MirrorTelegraphModel", "told", "(II)I"⟩, 27), (⟨"MirrorTelegraphModel", "sunny", "(I)I"⟩, 27), (⟨"MirrorTelegraphModel", "pairWrong", "(II)I"⟩, 27), (⟨"MirrorTelegraphModel", "leastMast", "(II)I"⟩, 27)]
theorem lw_r4 : ∀ q ∈ lw_privs_4, lw_okq q := List.forall_mem_cons.mpr ⟨lw_p48, List.forall_mem_cons.mpr ⟨lw_p49, List.forall_mem_cons.mpr ⟨lw_p50, List.forall_mem_cons.mpr ⟨lw_p51, List.forall_mem_cons.mpr ⟨lw_p52, List.forall_mem_cons.mpr ⟨lw_p53, List.forall_mem_cons.mpr ⟨lw_p54, List.forall_mem_cons.mpr ⟨lw_p55, List.forall_mem_cons.mpr ⟨lw_p56, List.forall_mem_cons.mpr ⟨lw_p57, List.forall_mem_cons.mpr ⟨lw_p58, List.forall_mem_cons.mpr ⟨lw_p59, List.forall_mem_cons.mpr ⟨lw_p60, List.forall_mem_cons.mpr ⟨lw_p61, List.forall_mem_cons.mpr ⟨lw_p62, List.forall_mem_cons.mpr ⟨lw_p63, fun _ h => absurd h List.not_mem_nil⟩⟩⟩⟩⟩⟩⟩⟩⟩⟩⟩⟩⟩⟩⟩⟩
theorem lw_p64 : lw_okq (⟨"MirrorTelegraphModel", "seenFrom", "(II)I"⟩, 27) := ⟨⟨by decide +kernel, by decide +kernel⟩, List.mem_of_getElem? (i := 914) (by decide +kernel), List.mem_of_getElem? (i := 1259) (by decide +kernel), List.mem_of_getElem? (i := 1260) (by decide +kernel)⟩
theorem lw_p65 : lw_okq (⟨"MirrorTelegraphModel", "mix", "(J)V"⟩, 27) := ⟨⟨by decide +kernel, by decide +kernel⟩, List.mem_of_getElem? (i := 914) (by decide +kernel), List.mem_of_getElem? (i := 1288) (by decide +kernel), List.mem_of_getElem? (i := 1289) (by decide +kernel)⟩
theorem lw_p66 : lw_okq (⟨"MirrorTelegraphModel", "mixPairs", "()V"⟩, 27) := ⟨⟨by decide +kernel, by decide +kernel⟩, List.mem_of_getElem? (i := 914) (by decide +kernel), List.mem_of_getElem? (i := 1293) (by decide +kernel), List.mem_of_getElem? (i := 1294) (by decide +kernel)⟩
def lw_privs_5 : List (MethodName × Nat) := [(⟨"MirrorTelegraphModel", "seenFrom", "(II)I"⟩, 27), (⟨"MirrorTelegraphModel", "mix", "(J)V"⟩, 27), (⟨"MirrorTelegraphModel", "mixPairs", "()V"⟩, 27)]
theorem lw_r5 : ∀ q ∈ lw_privs_5, lw_okq q := List.forall_mem_cons.mpr ⟨lw_p64, List.forall_mem_cons.mpr ⟨lw_p65, List.forall_mem_cons.mpr ⟨lw_p66, fun _ h => absurd h List.not_mem_nil⟩⟩⟩
def lw_privs : List (MethodName × Nat) := lw_privs_1 ++ (lw_privs_2 ++ (lw_privs_3 ++ (lw_privs_4 ++ (lw_privs_5))))
def lw_tbl : List Cond := k2_sels lw_privs ++ tables_1
theorem lw_privs_ok : ∀ q ∈ lw_privs, lw_okq q := by
  show ∀ q ∈ lw_privs_1 ++ (lw_privs_2 ++ (lw_privs_3 ++ (lw_privs_4 ++ (lw_privs_5)))), lw_okq q
  exact List.forall_mem_append.mpr ⟨lw_r1, List.forall_mem_append.mpr ⟨lw_r2, List.forall_mem_append.mpr ⟨lw_r3, List.forall_mem_append.mpr ⟨lw_r4, lw_r5⟩⟩⟩⟩
/-- the streams that the claim lets the run draw from -/
abbrev lw_cs : List Choice := [Jvm.Choice.named "NaN.bits"]
theorem lw_bits : nanBits ∈ lw_cs := by first | decide | exact List.mem_cons_self | simp [lw_cs, nanBits]
/-! ===== BEGIN words of one list among another's, by their places ===== -/
theorem goodIn_r {big : List Cond} (ws : List Cond) (ps : List Nat) (hp : ws = ps.filterMap (fun i => big[i]?)) (h : ws.all goodWord = true) : GoodIn big ws := by
  intro w hw
  have h1 := List.all_eq_true.mp h w hw
  rw [hp] at hw
  obtain ⟨i, -, hi⟩ := List.mem_filterMap.mp hw
  have hm : w ∈ big := by first | exact List.mem_of_getElem? hi | exact List.getElem?_mem hi
  exact ⟨hm, good_of_word h1⟩
theorem goodIn_app {big a b : List Cond} (ha : GoodIn big a) (hb : GoodIn big b) : GoodIn big (a ++ b) := fun w h => (List.mem_append.mp h).elim (ha w) (hb w)
theorem goodIn_ca {big a b : List Cond} {c : Cond} (ha : GoodIn big (c :: a)) (hb : GoodIn big b) : GoodIn big (c :: (a ++ b)) := fun w h => (List.mem_cons.mp h).elim (fun e => ha w (List.mem_cons.mpr (Or.inl e))) (fun h => (List.mem_append.mp h).elim (fun h => ha w (List.mem_cons.mpr (Or.inr h))) (hb w))
theorem goodIn_sub {big ws : List Cond} (hm : ∀ w ∈ ws, w ∈ big) (h : ws.all goodWord = true) : GoodIn big ws := fun w hw => ⟨hm w hw, good_of_word (List.all_eq_true.mp h w hw)⟩
/-! ===== END ===== -/

/-! ===== BEGIN exceptions that leave a method, and their catching by the caller (launches without stack traces) ===== -/
section VXA
/-! The laws vx_back, vx_callV, vx_callS, vx_callSW, vx_throw0, vx_throwS follow proofs of the library, with one case more: JvmDerived/Free/Laws.lean (Back.of_free), Shelf42/LK1.lean (callV, callS), Shelf/KitTraced.lean (throwNew0V, throwNewS). -/
/-- where a method has thrown q: the class by its name, the cell, what was written, the world -/
def vx_T (XC : String → State → State → Prop) (st : State) (q : Addr) (t : State) (mc ms : Nat) (free : Addr → Prop) : Prop :=
  ∃ (E : String) (ce : Cell) (L : List Loc), XC E st t ∧ t.heap[q]? = some ce ∧ ce.vm = .none ∧ st.vm.findClass E = some ce.cls ∧ st.WarmedH t.vm ∧ st.sameButNew ({ t with vm := st.vm } : State) L mc ms ∧ ∀ z ∈ L, free z.base
def vx_Q (Qc : Array Value → State → Outcome → State → Prop) (XC : String → State → State → Prop) (mc ms : Nat) (free : Addr → Prop) : Array Value → State → Outcome → State → Prop := fun a st o t =>
  (Qc a st o t ∧ ∃ L, FrameEnd st o t L mc ms ∧ ∀ q ∈ L, free q.base) ∨ ∃ q, o = .threw q ∧ vx_T XC st q t mc ms free
/-- a callee that returns or throws -/
def vx_Met (l : Launch) (y : MethodName) (ws : List Cond) (rm : Room) (Pc : Array Value → State → Prop) (Qc : Array Value → State → Outcome → State → Prop) (XC : String → State → State → Prop) (mc ms : Nat) (free : Addr → Prop) : Prop :=
  MetFree l y (headSpec ws rm) Pc (fun _ _ _ _ _ => True) (vx_Q Qc XC mc ms free)
def vx_Post (XC : String → State → State → Prop) (mc ms : Nat) (free : Addr → Prop) : Pt → Array Value → Addr → Pt → Prop := fun A a q B =>
  ∃ (g : JFrame) (mk : MethodId) (t : State) (L : List Loc) (E : String) (ce : Cell), B.U.heap = t.heap ∧ B.U.vm = t.vm ∧ XC E (A.U.calling g mk a) t ∧ t.heap[q]? = some ce ∧ ce.vm = .none ∧ A.U.vm.findClass E = some ce.cls ∧ B.locs = A.locs ++ L ∧ (∀ z ∈ L, free z.base) ∧ B.cells = A.cells + mc ∧ B.slots = A.slots + ms
def vx_Back (l : Launch) (R : Room) (p : Program) (e : Env) (below : List Frame) (s : State) (sargs : Array Value) (y : MethodName) (len W9 : Nat)
    (Pre : Pt → Array Value → Prop) (Post : Pt → Array Value → Option Value → Pt → Prop) (PostX : Pt → Array Value → Addr → Pt → Prop) : Prop :=
  ∀ (m : MethodId) (meth : Method) (c : Code) (A : Pt) (g : JFrame) (ig : Instr) (mk : MethodId) (a : Array Value),
    Stand p l e R s m sargs below meth c A.U A.locs A.cells A.slots → g.method = m → g.locals.size = c.maxLocals → decode c.code g.pc = .ok (ig, len) →
    2 * g.monitorRoom + (g.stack.map fun v => v.category).sum ≤ W9 → A.U.methodNamed? y = some mk → Pre A a →
    (∃ (v : Option Value) (B : Pt), Stand p l e R s m sargs below meth c B.U B.locs B.cells B.slots ∧ Post A a v B ∧
      Steps p.tables e below (doInvoke e (A.U.setTop g) [] mk a).1 (B.U.setTop { g with pc := g.pc + len, stack := v.toList ++ g.stack })) ∨
    (∃ (q : Addr) (B : Pt), Stand p l e R s m sargs below meth c B.U B.locs B.cells B.slots ∧ PostX A a q B ∧
      Steps p.tables e below (doInvoke e (A.U.setTop g) [] mk a).1 ((B.U.setTop g).pushFrame (.throwing q)))
section Payer
variable {l : Launch} {R : Room} {p : Program} {e : Env} {below : List Frame} {s : State} {sargs : Array Value} {y : MethodName} {len W9 : Nat}
theorem vx_back {ws : List Cond} {rm : Room} {Pc : Array Value → State → Prop} {Qc : Array Value → State → Outcome → State → Prop} {XC : String → State → State → Prop} {mc ms : Nat} {free : Addr → Prop} {bytes : ByteArray} {maxL : Nat} {ret : Option FieldType}
    (hM : vx_Met l y ws rm Pc Qc XC mc ms free) (hblind : FrameBlind Pc) (hrc : rm.cells = mc) (hrs : rm.slots = ms)
    (hframes : rm.frames + 1 ≤ R.frames) (hlocals : W9 + (maxL + 11) + rm.locals ≤ R.locals)
    (hws : ∀ w ∈ ws, ∀ a' U, s.WarmedH U.vm → w.before a' U = true) (hcode : Cond.code y bytes maxL ret ∈ ws) (hinit : ∀ a' U, s.WarmedH U.vm → (Cond.initialized y.cls).before a' U = true) :
    vx_Back l R p e below s sargs y len W9 (PreOf R mc ms Pc) (PostOf Qc mc ms free) (vx_Post XC mc ms free) := by
  intro m meth c A g ig mk a X hg hsize hdg hW hn hp
  have h1 : (headSpec ws rm).pre.before a A.U = true := atoms_intro fun w hw => hws w hw _ _ X.warmed
  have h2 : (Cond.code y bytes maxL ret).before a A.U = true := hws _ hcode _ _ X.warmed
  have h3 : (Cond.initialized y.cls).before a A.U = true := hinit _ _ X.warmed
  have h4 : A.cells + (headSpec ws rm).room.cells ≤ R.cells := by rw [show (headSpec ws rm).room.cells = mc from hrc]; exact hp.1
  have h5 : A.slots + (headSpec ws rm).room.slots ≤ R.slots := by rw [show (headSpec ws rm).room.slots = ms from hrs]; exact hp.2.1
  have hPc : Pc a (A.U.calling g mk a) := hblind _ _ _ _ hp.2.2
  obtain ⟨U, Ls, c0, s0⟩ := A
  dsimp only [Pt.U, Pt.locs, Pt.cells, Pt.slots] at h1 h2 h3 h4 h5 X hn hPc ⊢
  obtain ⟨methY, cY, hmY, hcY, -, hlY, -, -, -, -⟩ := Cond.code_spec hn h2
  obtain ⟨kY, hkY, -⟩ := className_of_methodNamed hn
  have hinitY : kY.init = .initialized := Cond.initialized_spec (findClass_of_methodNamed hn) hkY h3
  have h : At U g.method c below := by rw [hg]; exact X.here
  have hlocals9 : W9 + (maxL + 11) + (headSpec ws rm).room.locals ≤ R.locals := hlocals
  have happ : (headSpec ws rm).appliesLoose y e.platform (U.calling g mk a) = true :=
    Spec.appliesLoose_calling (g := g) h hdg hn hkY hinitY
      (X.room_calling (g := g) (R' := (headSpec ws rm).room) hsize hmY hcY hframes (by rw [hlY]; omega) h4 h5) h1
  obtain ⟨mid, hmid⟩ := h.above
  have hfr : (U.setTop g).frames = (.java g :: mid) ++ below := by rw [State.frames_setTop' g h.top, hmid]; rfl
  obtain ⟨o, s₂, hsteps, -, hend, hq⟩ := Steps.callFree hM p X.admits X.cas X.clock (acts := []) hfr happ hPc trivial
  have hq' : vx_Q Qc XC mc ms free a (U.calling g mk a) o s₂ := hq
  rw [State.frames_setTop' g h.top] at hend
  obtain ⟨g₀, hg0⟩ := Option.isSome_iff_exists.mp h.top
  obtain ⟨r, hr⟩ := State.topJava?_eq_some.mp hg0
  have hr' : (({ U with heap := s₂.heap, slotsUsed := s₂.slotsUsed } : State).setVm s₂.vm).frames = .java g₀ :: r := hr
  rcases hq' with ⟨hqc, L, hfe, hL⟩ | ⟨q, rfl, E, ce, L, hx, hce, hcv, hcl, hW₂, hsm, hL⟩
  · obtain ⟨⟨v, rfl⟩, hW₂, e2, q2, q3, q4, q5, q6⟩ := id hfe
    have e3 : s₂ = ({ (U.calling g mk a).setFrames s₂.frames with heap := s₂.heap, slotsUsed := s₂.slotsUsed } : State).setVm s₂.vm := by
      have : s₂ = ({ s₂ with vm := (U.calling g mk a).vm } : State).setVm s₂.vm := rfl
      rw [e2] at this
      exact this
    obtain ⟨c₂, i₂, len₂, hc₂, hd₂, hf₂⟩ := hend
    have hW' : U.WarmedH s₂.vm := hW₂
    have hcc : c₂ = c := by
      have h1 : s₂.code? g.method = U.code? g.method := by
        rw [State.code?_eq, State.code?_eq, hW'.alike.method?]
      exact Option.some.inj (hc₂.symm.trans (h1.trans h.code))
    subst hcc
    have hlen : len₂ = len := by rw [hdg] at hd₂; cases hd₂; rfl
    subst hlen
    have hs₂ : s₂ = (({ U with heap := s₂.heap, slotsUsed := s₂.slotsUsed } : State).setVm s₂.vm).setTop { g with pc := g.pc + len₂, stack := v.toList ++ g.stack } := by
      refine e3.trans ?_
      rw [hf₂, State.calling_eq h.top, State.setFrames_setFrames, State.setTop_of_frames _ hr', hr]
      rfl
    have hsame : U.sameButNew ({ U with heap := s₂.heap, slotsUsed := s₂.slotsUsed } : State) L mc ms := by
      refine ⟨?_, q2, q3, q4, q5, q6⟩
      obtain ⟨t, ht, -⟩ := State.frames_cons hr
      show ({ U with heap := s₂.heap, slotsUsed := s₂.slotsUsed } : State) = { U.setFrames U.frames with heap := s₂.heap, slotsUsed := s₂.slotsUsed }
      rw [State.setFrames_self ht]
    subst hg
    refine Or.inl ⟨v, ⟨(({ U with heap := s₂.heap, slotsUsed := s₂.slotsUsed } : State).setVm s₂.vm), Ls ++ L, c0 + mc, s0 + ms⟩,
      ⟨X.admits, X.cas, X.clock, X.frames, X.room, X.hears, X.method, X.code, (X.here.setHeapUsed s₂.heap s₂.slotsUsed).setVm hW'.alike, X.tail, State.WarmedH.trans X.warmed hW', X.limits, X.bytes, X.same.trans (hsame.setVm s.vm)⟩,
      ⟨g, mk, s₂, L, rfl, rfl, hqc, rfl, hL, rfl, rfl⟩, ?_⟩
    show Steps p.tables e below _ ((({ U with heap := s₂.heap, slotsUsed := s₂.slotsUsed } : State).setVm s₂.vm).setTop { g with pc := g.pc + len₂, stack := v.toList ++ g.stack })
    rw [← hs₂]
    exact hsteps
  · obtain ⟨e2, q2, q3, q4, q5, q6⟩ := id hsm
    have e3 : s₂ = ({ (U.calling g mk a).setFrames s₂.frames with heap := s₂.heap, slotsUsed := s₂.slotsUsed } : State).setVm s₂.vm := by
      have : s₂ = ({ s₂ with vm := (U.calling g mk a).vm } : State).setVm s₂.vm := rfl
      rw [e2] at this
      exact this
    have hf₂ : s₂.frames = .throwing q :: .java g :: U.frames.tail := hend
    have hW' : U.WarmedH s₂.vm := hW₂
    have hs₂ : s₂ = ((({ U with heap := s₂.heap, slotsUsed := s₂.slotsUsed } : State).setVm s₂.vm).setTop g).pushFrame (.throwing q) := by
      refine e3.trans ?_
      rw [hf₂, State.calling_eq h.top, State.setFrames_setFrames, State.pushFrame, State.frames_setTop _ hr', State.setTop_of_frames _ hr', State.setFrames_setFrames, hr]
      rfl
    have hsame : U.sameButNew ({ U with heap := s₂.heap, slotsUsed := s₂.slotsUsed } : State) L mc ms := by
      refine ⟨?_, q2, q3, q4, q5, q6⟩
      obtain ⟨t, ht, -⟩ := State.frames_cons hr
      show ({ U with heap := s₂.heap, slotsUsed := s₂.slotsUsed } : State) = { U.setFrames U.frames with heap := s₂.heap, slotsUsed := s₂.slotsUsed }
      rw [State.setFrames_self ht]
    subst hg
    refine Or.inr ⟨q, ⟨(({ U with heap := s₂.heap, slotsUsed := s₂.slotsUsed } : State).setVm s₂.vm), Ls ++ L, c0 + mc, s0 + ms⟩,
      ⟨X.admits, X.cas, X.clock, X.frames, X.room, X.hears, X.method, X.code, (X.here.setHeapUsed s₂.heap s₂.slotsUsed).setVm hW'.alike, X.tail, State.WarmedH.trans X.warmed hW', X.limits, X.bytes, X.same.trans (hsame.setVm s.vm)⟩,
      ⟨g, mk, s₂, L, E, ce, rfl, rfl, hx, hce, hcv, hcl, rfl, hL, rfl, rfl⟩, ?_⟩
    show Steps p.tables e below _ (((({ U with heap := s₂.heap, slotsUsed := s₂.slotsUsed } : State).setVm s₂.vm).setTop g).pushFrame (.throwing q))
    rw [← hs₂]
    exact hsteps
end Payer
section Calls
variable {p : Program} {l : Launch} {e : Env} {R : Room} {s : State} {m : MethodId} {args : Array Value} {below : List Frame} {meth : Method} {c : Code} {T : State} {locs : List Loc} {cells slots : Nat}
theorem vx_callV (X : Stand p l e R s m args below meth c T locs cells slots) (hexec : p.tables.exec = Jvm.exec) {own C : String} {index : Nat} {y : MethodName} {bytes : ByteArray} {maxL : Nat} {ret : Option FieldType}
    (hown : s.vm.findClass own = some m.cls) (hlink : (Cond.methodLink own index y).before args s = true) (hinst : (Cond.instanceMethod y).before args s = true) (hsel : (Cond.selects C y y).before args s = true)
    (hcode : (Cond.code y bytes maxL ret).before args s = true) (hy : y.cls ≠ "java/lang/invoke/MethodHandle" ∧ y.cls ≠ "java/lang/invoke/VarHandle")
    {W9 : Nat} {Pre : Pt → Array Value → Prop} {Post : Pt → Array Value → Option Value → Pt → Prop} {PostX : Pt → Array Value → Addr → Pt → Prop} (hK : vx_Back l R p e below s args y 3 W9 Pre Post PostX)
    {b : Addr} {cellB : Cell} (hcell : T.heap[b]? = some cellB) (hobj : cellB.vm.isStatics = false) (hcls : s.vm.findClass C = some cellB.cls)
    {g : JFrame} (hg : g.method = m) (hsize : g.locals.size = c.maxLocals) {argsL rest : List Value} (hlen : ∀ sig, parseMethodDescriptor y.desc = some sig → argsL.length = sig.parameters.length)
    (hstack : g.stack = argsL.reverse ++ .ref b :: rest) (hW : 2 * g.monitorRoom + (rest.map fun v => v.category).sum ≤ W9) (hdg : decode c.code g.pc = .ok (.invokevirtual index, 3))
    (hpre : ∀ vm₁, s.WarmedH vm₁ → Pre ⟨T.setVm vm₁, locs, cells, slots⟩ (Value.ref b :: argsL).toArray) :
    (∃ (v : Option Value) (vm₁ : Vm) (B : Pt), s.WarmedH vm₁ ∧ Stand p l e R s m args below meth c B.U B.locs B.cells B.slots ∧ Post ⟨T.setVm vm₁, locs, cells, slots⟩ (Value.ref b :: argsL).toArray v B ∧
      ∀ target, Steps p.tables e below (B.U.setTop { g with pc := g.pc + 3, stack := v.toList ++ rest }) target → Steps p.tables e below (T.setTop g) target) ∨
    (∃ (q : Addr) (vm₁ : Vm) (B : Pt), s.WarmedH vm₁ ∧ Stand p l e R s m args below meth c B.U B.locs B.cells B.slots ∧ PostX ⟨T.setVm vm₁, locs, cells, slots⟩ (Value.ref b :: argsL).toArray q B ∧
      Steps p.tables e below (T.setTop g) ((B.U.setTop { g with stack := rest }).pushFrame (.throwing q))) := by
  obtain ⟨mk, methM, hnamed, hmethM, hstM, habM⟩ := Cond.instanceMethod_spec hinst
  obtain ⟨methM', cM, hmethM', -, -, -, -, -, -, hsigM⟩ := Cond.code_spec hnamed hcode
  cases hmethM.symm.trans hmethM'
  obtain ⟨c2, r2, m2, q1, q2, q3, q4, kP, hkP, hkPi⟩ := Cond.selects_spec hsel
  cases hcls.symm.trans q1
  cases (State.methodFound?_of_named hnamed hy).symm.trans q2
  cases hnamed.symm.trans q3
  have hselP : selectMethod e.platform s.vm cellB.cls mk = .method mk := by rw [Launch.admits_selectMethod X.admits]; exact q4
  obtain ⟨vm₁, X₁, hstep₁⟩ := X.invokevirtual hexec hown hlink hnamed hmethM hstM hkP hkPi hy (a := b) (cell := cellB) hcell
    (fun z h => by rw [h] at hobj; cases hobj) hselP hmethM habM hkP hkPi (g := g) hg (argsL := argsL) (rest := rest) (hlen _ hsigM) hstack hdg
  rcases hK m meth c ⟨T.setVm vm₁, locs, cells, slots⟩ { g with stack := rest } (.invokevirtual index) mk (Value.ref b :: argsL).toArray X₁ hg hsize hdg hW (X₁.named hnamed) (hpre vm₁ X₁.warmed) with ⟨v, B, X', hpost, hsteps⟩ | ⟨q, B, X', hpost, hsteps⟩
  · exact Or.inl ⟨v, vm₁, B, X₁.warmed, X', hpost, fun target h => hstep₁ _ fun acts => by rw [doInvoke_state]; exact hsteps.trans h⟩
  · exact Or.inr ⟨q, vm₁, B, X₁.warmed, X', hpost, hstep₁ _ fun acts => by rw [doInvoke_state]; exact hsteps⟩
theorem vx_callS (X : Stand p l e R s m args below meth c T locs cells slots) (hexec : p.tables.exec = Jvm.exec) {own : String} {index : Nat} {y : MethodName} {bytes : ByteArray} {maxL : Nat} {ret : Option FieldType}
    (hown : s.vm.findClass own = some m.cls) (hlink : (Cond.methodLink own index y).before args s = true) (hstat : (Cond.static y).before args s = true) (hinit : (Cond.initialized y.cls).before args s = true)
    (hcode : (Cond.code y bytes maxL ret).before args s = true) (hy : y.cls ≠ "java/lang/invoke/MethodHandle" ∧ y.cls ≠ "java/lang/invoke/VarHandle")
    {W9 : Nat} {Pre : Pt → Array Value → Prop} {Post : Pt → Array Value → Option Value → Pt → Prop} {PostX : Pt → Array Value → Addr → Pt → Prop} (hK : vx_Back l R p e below s args y 3 W9 Pre Post PostX)
    {g : JFrame} (hg : g.method = m) (hsize : g.locals.size = c.maxLocals) {argsL rest : List Value} (hlen : ∀ sig, parseMethodDescriptor y.desc = some sig → argsL.length = sig.parameters.length)
    (hstack : g.stack = argsL.reverse ++ rest) (hW : 2 * g.monitorRoom + (rest.map fun v => v.category).sum ≤ W9) (hdg : decode c.code g.pc = .ok (.invokestatic index, 3))
    (hpre : ∀ vm₁, s.WarmedH vm₁ → Pre ⟨T.setVm vm₁, locs, cells, slots⟩ argsL.toArray) :
    (∃ (v : Option Value) (vm₁ : Vm) (B : Pt), s.WarmedH vm₁ ∧ Stand p l e R s m args below meth c B.U B.locs B.cells B.slots ∧ Post ⟨T.setVm vm₁, locs, cells, slots⟩ argsL.toArray v B ∧
      ∀ target, Steps p.tables e below (B.U.setTop { g with pc := g.pc + 3, stack := v.toList ++ rest }) target → Steps p.tables e below (T.setTop g) target) ∨
    (∃ (q : Addr) (vm₁ : Vm) (B : Pt), s.WarmedH vm₁ ∧ Stand p l e R s m args below meth c B.U B.locs B.cells B.slots ∧ PostX ⟨T.setVm vm₁, locs, cells, slots⟩ argsL.toArray q B ∧
      Steps p.tables e below (T.setTop g) ((B.U.setTop { g with stack := rest }).pushFrame (.throwing q))) := by
  obtain ⟨mk, hnamed⟩ := Cond.code_named hcode
  obtain ⟨methM, cM, hmethM, -, -, -, -, -, -, hsigM⟩ := Cond.code_spec hnamed hcode
  have hstatic : methM.isStatic = true := Cond.static_spec hnamed hmethM hstat
  obtain ⟨kP, hkP, -⟩ := className_of_methodNamed hnamed
  have hinitP : kP.init = .initialized := Cond.initialized_spec (findClass_of_methodNamed hnamed) hkP hinit
  obtain ⟨vm₁, X₁, hstep₁⟩ := X.invokestatic hexec hown hlink hnamed hmethM hstatic hkP hinitP hy (g := g) hg (argsL := argsL) (rest := rest) (hlen _ hsigM) hstack hdg
  rcases hK m meth c ⟨T.setVm vm₁, locs, cells, slots⟩ { g with stack := rest } (.invokestatic index) mk argsL.toArray X₁ hg hsize hdg hW (X₁.named hnamed) (hpre vm₁ X₁.warmed) with ⟨v, B, X', hpost, hsteps⟩ | ⟨q, B, X', hpost, hsteps⟩
  · exact Or.inl ⟨v, vm₁, B, X₁.warmed, X', hpost, fun target h => hstep₁ _ fun acts => by rw [doInvoke_state]; exact hsteps.trans h⟩
  · exact Or.inr ⟨q, vm₁, B, X₁.warmed, X', hpost, hstep₁ _ fun acts => by rw [doInvoke_state]; exact hsteps⟩
end Calls
theorem vx_cls {s : State} {T : State} {vm₁ : Vm} {E : String} {k : ClassId} (hW : s.WarmedH vm₁) (h : (T.setVm vm₁).vm.findClass E = some k) : s.vm.findClass E = some k := by
  have h1 : vm₁.findClass E = some k := h
  rw [hW.alike.findClass] at h1
  exact h1
/-- the method's frame g, with q thrown over it -/
def vx_W (p : Program) (l : Launch) (e : Env) (R : Room) (s : State) (m : MethodId) (args : Array Value) (below : List Frame) (meth : Method) (c : Code) (H : Heap) (locs : List Loc) (cells slots : Nat) (Q : State → Prop) (g : JFrame) (q : Addr) : Prop :=
  ∀ T : State, T.heap = H → Stand p l e R s m args below meth c T locs cells slots → ∃ t, Steps p.tables e below ((T.setTop g).pushFrame (.throwing q)) t ∧ Q t
def vx_Run (p : Program) (l : Launch) (e : Env) (R : Room) (s : State) (m : MethodId) (args : Array Value) (below : List Frame) (meth : Method) (c : Code) (H : Heap) (locs : List Loc) (cells slots mc ms : Nat) (g : JFrame) (rest : List Value) (Qa : State → Outcome → State → Prop) (XC : String → State → State → Prop) (free : Addr → Prop) : Prop :=
  ∀ T : State, T.heap = H → Stand p l e R s m args below meth c T locs cells slots →
    (∃ (v : Option Value) (st₀ t T' : State) (L : List Loc), st₀.heap = H ∧ Stand p l e R s m args below meth c T' (locs ++ L) (cells + mc) (slots + ms) ∧ (∀ q ∈ L, free q.base) ∧ T'.heap = t.heap ∧ T'.vm = t.vm ∧ Qa st₀ (.returned v) t ∧
      Goes p e below T g T' { g with pc := g.pc + 3, stack := v.toList ++ rest }) ∨
    (∃ (q : Addr) (st₀ t T' : State) (L : List Loc) (E : String) (ce : Cell), st₀.heap = H ∧ Stand p l e R s m args below meth c T' (locs ++ L) (cells + mc) (slots + ms) ∧ (∀ z ∈ L, free z.base) ∧ T'.heap = t.heap ∧ T'.vm = t.vm ∧ XC E st₀ t ∧ t.heap[q]? = some ce ∧ ce.vm = .none ∧ s.vm.findClass E = some ce.cls ∧
      Steps p.tables e below (T.setTop g) ((T'.setTop { g with stack := rest }).pushFrame (.throwing q)))
def vx_X {S : Type} (px : S → Prop) (B : String → S → State → Prop) (A : Nat → Prop) : String → State → State → Prop := fun E st t => ∃ u : S, px u ∧ B E u t ∧ va_F A st t
section Runs
variable {p : Program} {l : Launch} {e : Env} {R : Room} {s : State} {m : MethodId} {args : Array Value} {below : List Frame} {meth : Method} {c : Code} {H : Heap} {locs : List Loc} {cells slots : Nat}
variable {y : MethodName} {bytes cc : ByteArray} {maxL nL mc ms n index : Nat} {ret : Option FieldType} {ws : List Cond} {rm : Room} {Pc : Array Value → State → Prop} {Qc : Array Value → State → Outcome → State → Prop} {XC : String → State → State → Prop} {free : Addr → Prop} {Ts : List Cond} {own C : String} {b : Addr} {As rest : List Value} {g : JFrame}
theorem vx_callBack (cb : CallB R s args own index y bytes maxL ret ws rm mc ms n) (hM : vx_Met l y ws rm Pc Qc XC mc ms free) (hbl : FrameBlind Pc) : vx_Back l R p e below s args y 3 8 (PreOf R mc ms Pc) (PostOf Qc mc ms free) (vx_Post XC mc ms free) := by
  obtain ⟨hrc, hrs, hfr, hlo, hws, hcw, -, hini, -⟩ := cb
  exact vx_back (bytes := bytes) (maxL := maxL) (ret := ret) hM hbl hrc hrs hfr hlo hws hcw (fun a' U hW => word_at hW (Or.inl (by first | rfl | simp [Cond.onTables, Cond.keeps, Cond.steady])) hini)
theorem vx_runV (S : CallFix p m c cc nL s args Ts own) (hM : vx_Met l y ws rm Pc Qc XC mc ms free) (cw : CallW R s args own C index y bytes maxL ret ws rm mc ms n) (hp : PreV s H C b Pc As)
    (hg : g.method = m) (hn : As.length = n) (hsize : g.locals.size = nL) (hstack : g.stack = As.reverse ++ .ref b :: rest) (hW : 2 * g.monitorRoom + (rest.map fun v => v.category).sum ≤ 8) (hdg : decode cc g.pc = .ok (.invokevirtual index, 3)) (hf : cells + mc ≤ R.cells ∧ slots + ms ≤ R.slots) :
    vx_Run p l e R s m args below meth c H locs cells slots mc ms g rest (Qc (Value.ref b :: As).toArray) XC free := by
  have hK : vx_Back l R p e below s args y 3 8 (PreOf R mc ms Pc) (PostOf Qc mc ms free) (vx_Post XC mc ms free) := vx_callBack cw.1 hM hp.1
  obtain ⟨⟨-, -, -, -, -, -, hcode, -, hy, hlen, hl⟩, hin, hse⟩ := cw
  obtain ⟨hx, hb, hml, ho, -⟩ := S
  obtain ⟨-, ⟨cellB, hcB, hoB, hclB⟩, hPc⟩ := hp
  intro T hT X
  rcases vx_callV X hx (C := C) (bytes := bytes) (maxL := maxL) (ret := ret) ho hl hin hse hcode hy hK (by rw [hT]; exact hcB) hoB hclB hg (hsize.trans hml.symm) (argsL := As) (rest := rest) (fun sig h => hn.trans (hlen sig h)) hstack hW (by rw [hb]; exact hdg)
    (fun vm₁ hW₁ => ⟨hf.1, hf.2, hPc (T.setVm vm₁) hT hW₁⟩) with ⟨v, vm₁, ⟨U', l2, c2, s2⟩, hW₁, X', ⟨g', mk, t, L, e1, e2, hq, h1, hL, h2, h3⟩, st⟩ | ⟨q, vm₁, ⟨U', l2, c2, s2⟩, hW₁, X', ⟨g', mk, t, L, E, ce, e1, e2, hq, hce, hcv, hcl, h1, hL, h2, h3⟩, st⟩
  · dsimp only [Pt.U, Pt.locs, Pt.cells, Pt.slots] at X' e1 e2 h1 h2 h3 st
    subst h1; subst h2; subst h3
    exact Or.inl ⟨v, (T.setVm vm₁).calling g' mk (Value.ref b :: As).toArray, t, U', L, hT, X', hL, e1, e2, hq, st⟩
  · dsimp only [Pt.U, Pt.locs, Pt.cells, Pt.slots] at X' e1 e2 h1 h2 h3 st hcl
    subst h1; subst h2; subst h3
    exact Or.inr ⟨q, (T.setVm vm₁).calling g' mk (Value.ref b :: As).toArray, t, U', L, E, ce, hT, X', hL, e1, e2, hq, hce, hcv, vx_cls hW₁ hcl, st⟩
theorem vx_runS (S : CallFix p m c cc nL s args Ts own) (hM : vx_Met l y ws rm Pc Qc XC mc ms free) (cw : CallB R s args own index y bytes maxL ret ws rm mc ms n ∧ (Cond.static y).before args s = true) (hp : PreS s H Pc As)
    (hg : g.method = m) (hn : As.length = n) (hsize : g.locals.size = nL) (hstack : g.stack = As.reverse ++ rest) (hW : 2 * g.monitorRoom + (rest.map fun v => v.category).sum ≤ 8) (hdg : decode cc g.pc = .ok (.invokestatic index, 3)) (hf : cells + mc ≤ R.cells ∧ slots + ms ≤ R.slots) :
    vx_Run p l e R s m args below meth c H locs cells slots mc ms g rest (Qc As.toArray) XC free := by
  have hK : vx_Back l R p e below s args y 3 8 (PreOf R mc ms Pc) (PostOf Qc mc ms free) (vx_Post XC mc ms free) := vx_callBack cw.1 hM hp.1
  obtain ⟨⟨-, -, -, -, -, -, hcode, hini, hy, hlen, hl⟩, hstt⟩ := cw
  obtain ⟨hx, hb, hml, ho, -⟩ := S
  intro T hT X
  rcases vx_callS X hx (bytes := bytes) (maxL := maxL) (ret := ret) ho hl hstt hini hcode hy hK hg (hsize.trans hml.symm) (argsL := As) (rest := rest) (fun sig h => hn.trans (hlen sig h)) hstack hW (by rw [hb]; exact hdg)
    (fun vm₁ hW₁ => ⟨hf.1, hf.2, hp.2 (T.setVm vm₁) hT hW₁⟩) with ⟨v, vm₁, ⟨U', l2, c2, s2⟩, hW₁, X', ⟨g', mk, t, L, e1, e2, hq, h1, hL, h2, h3⟩, st⟩ | ⟨q, vm₁, ⟨U', l2, c2, s2⟩, hW₁, X', ⟨g', mk, t, L, E, ce, e1, e2, hq, hce, hcv, hcl, h1, hL, h2, h3⟩, st⟩
  · dsimp only [Pt.U, Pt.locs, Pt.cells, Pt.slots] at X' e1 e2 h1 h2 h3 st
    subst h1; subst h2; subst h3
    exact Or.inl ⟨v, (T.setVm vm₁).calling g' mk As.toArray, t, U', L, hT, X', hL, e1, e2, hq, st⟩
  · dsimp only [Pt.U, Pt.locs, Pt.cells, Pt.slots] at X' e1 e2 h1 h2 h3 st hcl
    subst h1; subst h2; subst h3
    exact Or.inr ⟨q, (T.setVm vm₁).calling g' mk As.toArray, t, U', L, E, ce, hT, X', hL, e1, e2, hq, hce, hcv, vx_cls hW₁ hcl, st⟩
end Runs
section Rows
variable {p : Program} {l : Launch} {e : Env} {R : Room} {s : State} {m : MethodId} {args : Array Value} {below : List Frame} {meth : Method} {c : Code} {H : Heap} {locs : List Loc} {cells slots : Nat} {Q : State → Prop}
variable {mc ms : Nat} {free : Addr → Prop} {A0 A1 : Nat → Prop} {H0 : Heap} {a : Array Value} {pc : Nat} {ls : Array Slot} {st0 rest : List Value}
theorem vx_keep {st₀ t T' : State} {L : List Loc} (h0 : st₀.heap = H) (e1 : T'.heap = t.heap) (hS : va_S A0 H0 H locs) (hA : ∀ q, q < H.size → A1 q → A0 q) (hf : ∀ q, free q → A0 q) (hL : ∀ q ∈ L, free q.base) (hF : va_F A1 st₀ t) :
    H.size ≤ T'.heap.size ∧ (∀ q : Nat, q < H.size → ¬ A1 q → T'.heap[q]? = H[q]?) ∧ va_S A0 H0 T'.heap (locs ++ L) := by
  obtain ⟨hz, hk⟩ := hF
  rw [h0] at hz hk
  exact ⟨by rw [e1]; exact hz, fun q h1 h2 => by rw [e1]; exact hk q h1 h2,
    ⟨Nat.le_trans hS.1 (by rw [e1]; exact hz), fun q h1 h2 => by rw [e1, hk q (Nat.lt_of_lt_of_le h1 hS.1) (fun z => h2 (hA q (Nat.lt_of_lt_of_le h1 hS.1) z))]; exact hS.2.1 q h1 h2, fun q hq => by
      rcases List.mem_append.mp hq with h | h
      · exact hS.2.2 q h
      · exact hf _ (hL q h)⟩⟩
theorem vx_calli {S SX : Type} {post : Int32 → S → Prop} {px : SX → Prop} {B : S → State → Prop} {BX : String → SX → State → Prop} {AX : Nat → Prop} (hr : vx_Run p l e R s m args below meth c H locs cells slots mc ms (F0 m pc ls st0) rest (va_Qi post B A1 a) (vx_X px BX AX) free) (hS : va_S A0 H0 H locs) (hA : ∀ q, q < H.size → A1 q → A0 q) (hf : ∀ q, free q → A0 q) (hAX : ∀ q, q < H.size → AX q → A0 q)
    (kx : ∀ (E : String) (ce : Cell) (q9 : Addr) (u : SX) (t : State) (H1 : Heap) (locs1 : List Loc), t.heap = H1 → s.vm.Alike t.vm → px u → BX E u t → H.size ≤ H1.size → (∀ q : Nat, q < H.size → ¬ AX q → H1[q]? = H[q]?) → va_S A0 H0 H1 locs1 → H1[q9]? = some ce → ce.vm = .none → s.vm.findClass E = some ce.cls → vx_W p l e R s m args below meth c H1 locs1 (cells + mc) (slots + ms) Q (F0 m pc ls rest) q9)
    (kk : ∀ (r : Int32) (u : S) (t : State) (H1 : Heap) (locs1 : List Loc), t.heap = H1 → s.vm.Alike t.vm → post r u → B u t → H.size ≤ H1.size → (∀ q : Nat, q < H.size → ¬ A1 q → H1[q]? = H[q]?) → va_S A0 H0 H1 locs1 → W p l e R s m args below meth c H1 locs1 (cells + mc) (slots + ms) Q (F0 m (pc + 3) ls (.int r :: rest))) : W p l e R s m args below meth c H locs cells slots Q (F0 m pc ls st0) := by
  intro T hT X
  rcases hr T hT X with ⟨v, st₀, t, T', L, h0, X', hL, e1, e2, ⟨⟨r, u, hv, hp, hb⟩, hF⟩, st⟩ | ⟨q, st₀, t, T', L, E, ce, h0, X', hL, e1, e2, ⟨u, hp, hb, hF⟩, hce, hcv, hcl, st⟩
  · cases hv
    obtain ⟨k1, k2, k3⟩ := vx_keep h0 e1 hS hA hf hL hF
    obtain ⟨t2, a1, b1⟩ := kk r u t T'.heap (locs ++ L) e1.symm (by rw [← e2]; exact X'.warmed.alike) hp hb k1 k2 k3 T' rfl X'
    exact ⟨t2, st t2 a1, b1⟩
  · obtain ⟨k1, k2, k3⟩ := vx_keep h0 e1 hS hAX hf hL hF
    obtain ⟨t2, a1, b1⟩ := kx E ce q u t T'.heap (locs ++ L) e1.symm (by rw [← e2]; exact X'.warmed.alike) hp hb k1 k2 k3 (by rw [e1]; exact hce) hcv hcl T' rfl X'
    exact ⟨t2, st.trans a1, b1⟩
theorem vx_calll {S SX : Type} {post : Int64 → S → Prop} {px : SX → Prop} {B : S → State → Prop} {BX : String → SX → State → Prop} {AX : Nat → Prop} (hr : vx_Run p l e R s m args below meth c H locs cells slots mc ms (F0 m pc ls st0) rest (va_Ql post B A1 a) (vx_X px BX AX) free) (hS : va_S A0 H0 H locs) (hA : ∀ q, q < H.size → A1 q → A0 q) (hf : ∀ q, free q → A0 q) (hAX : ∀ q, q < H.size → AX q → A0 q)
    (kx : ∀ (E : String) (ce : Cell) (q9 : Addr) (u : SX) (t : State) (H1 : Heap) (locs1 : List Loc), t.heap = H1 → s.vm.Alike t.vm → px u → BX E u t → H.size ≤ H1.size → (∀ q : Nat, q < H.size → ¬ AX q → H1[q]? = H[q]?) → va_S A0 H0 H1 locs1 → H1[q9]? = some ce → ce.vm = .none → s.vm.findClass E = some ce.cls → vx_W p l e R s m args below meth c H1 locs1 (cells + mc) (slots + ms) Q (F0 m pc ls rest) q9)
    (kk : ∀ (r : Int64) (u : S) (t : State) (H1 : Heap) (locs1 : List Loc), t.heap = H1 → s.vm.Alike t.vm → post r u → B u t → H.size ≤ H1.size → (∀ q : Nat, q < H.size → ¬ A1 q → H1[q]? = H[q]?) → va_S A0 H0 H1 locs1 → W p l e R s m args below meth c H1 locs1 (cells + mc) (slots + ms) Q (F0 m (pc + 3) ls (.long r :: rest))) : W p l e R s m args below meth c H locs cells slots Q (F0 m pc ls st0) := by
  intro T hT X
  rcases hr T hT X with ⟨v, st₀, t, T', L, h0, X', hL, e1, e2, ⟨⟨r, u, hv, hp, hb⟩, hF⟩, st⟩ | ⟨q, st₀, t, T', L, E, ce, h0, X', hL, e1, e2, ⟨u, hp, hb, hF⟩, hce, hcv, hcl, st⟩
  · cases hv
    obtain ⟨k1, k2, k3⟩ := vx_keep h0 e1 hS hA hf hL hF
    obtain ⟨t2, a1, b1⟩ := kk r u t T'.heap (locs ++ L) e1.symm (by rw [← e2]; exact X'.warmed.alike) hp hb k1 k2 k3 T' rfl X'
    exact ⟨t2, st t2 a1, b1⟩
  · obtain ⟨k1, k2, k3⟩ := vx_keep h0 e1 hS hAX hf hL hF
    obtain ⟨t2, a1, b1⟩ := kx E ce q u t T'.heap (locs ++ L) e1.symm (by rw [← e2]; exact X'.warmed.alike) hp hb k1 k2 k3 (by rw [e1]; exact hce) hcv hcl T' rfl X'
    exact ⟨t2, st.trans a1, b1⟩
theorem vx_callf {S SX : Type} {post : UInt32 → S → Prop} {px : SX → Prop} {B : S → State → Prop} {BX : String → SX → State → Prop} {AX : Nat → Prop} (hr : vx_Run p l e R s m args below meth c H locs cells slots mc ms (F0 m pc ls st0) rest (va_Qf post B A1 a) (vx_X px BX AX) free) (hS : va_S A0 H0 H locs) (hA : ∀ q, q < H.size → A1 q → A0 q) (hf : ∀ q, free q → A0 q) (hAX : ∀ q, q < H.size → AX q → A0 q)
    (kx : ∀ (E : String) (ce : Cell) (q9 : Addr) (u : SX) (t : State) (H1 : Heap) (locs1 : List Loc), t.heap = H1 → s.vm.Alike t.vm → px u → BX E u t → H.size ≤ H1.size → (∀ q : Nat, q < H.size → ¬ AX q → H1[q]? = H[q]?) → va_S A0 H0 H1 locs1 → H1[q9]? = some ce → ce.vm = .none → s.vm.findClass E = some ce.cls → vx_W p l e R s m args below meth c H1 locs1 (cells + mc) (slots + ms) Q (F0 m pc ls rest) q9)
    (kk : ∀ (r : UInt32) (u : S) (t : State) (H1 : Heap) (locs1 : List Loc), t.heap = H1 → s.vm.Alike t.vm → post r u → B u t → H.size ≤ H1.size → (∀ q : Nat, q < H.size → ¬ A1 q → H1[q]? = H[q]?) → va_S A0 H0 H1 locs1 → W p l e R s m args below meth c H1 locs1 (cells + mc) (slots + ms) Q (F0 m (pc + 3) ls (.float r :: rest))) : W p l e R s m args below meth c H locs cells slots Q (F0 m pc ls st0) := by
  intro T hT X
  rcases hr T hT X with ⟨v, st₀, t, T', L, h0, X', hL, e1, e2, ⟨⟨r, u, hv, hp, hb⟩, hF⟩, st⟩ | ⟨q, st₀, t, T', L, E, ce, h0, X', hL, e1, e2, ⟨u, hp, hb, hF⟩, hce, hcv, hcl, st⟩
  · cases hv
    obtain ⟨k1, k2, k3⟩ := vx_keep h0 e1 hS hA hf hL hF
    obtain ⟨t2, a1, b1⟩ := kk r u t T'.heap (locs ++ L) e1.symm (by rw [← e2]; exact X'.warmed.alike) hp hb k1 k2 k3 T' rfl X'
    exact ⟨t2, st t2 a1, b1⟩
  · obtain ⟨k1, k2, k3⟩ := vx_keep h0 e1 hS hAX hf hL hF
    obtain ⟨t2, a1, b1⟩ := kx E ce q u t T'.heap (locs ++ L) e1.symm (by rw [← e2]; exact X'.warmed.alike) hp hb k1 k2 k3 (by rw [e1]; exact hce) hcv hcl T' rfl X'
    exact ⟨t2, st.trans a1, b1⟩
theorem vx_calld {S SX : Type} {post : UInt64 → S → Prop} {px : SX → Prop} {B : S → State → Prop} {BX : String → SX → State → Prop} {AX : Nat → Prop} (hr : vx_Run p l e R s m args below meth c H locs cells slots mc ms (F0 m pc ls st0) rest (va_Qd post B A1 a) (vx_X px BX AX) free) (hS : va_S A0 H0 H locs) (hA : ∀ q, q < H.size → A1 q → A0 q) (hf : ∀ q, free q → A0 q) (hAX : ∀ q, q < H.size → AX q → A0 q)
    (kx : ∀ (E : String) (ce : Cell) (q9 : Addr) (u : SX) (t : State) (H1 : Heap) (locs1 : List Loc), t.heap = H1 → s.vm.Alike t.vm → px u → BX E u t → H.size ≤ H1.size → (∀ q : Nat, q < H.size → ¬ AX q → H1[q]? = H[q]?) → va_S A0 H0 H1 locs1 → H1[q9]? = some ce → ce.vm = .none → s.vm.findClass E = some ce.cls → vx_W p l e R s m args below meth c H1 locs1 (cells + mc) (slots + ms) Q (F0 m pc ls rest) q9)
    (kk : ∀ (r : UInt64) (u : S) (t : State) (H1 : Heap) (locs1 : List Loc), t.heap = H1 → s.vm.Alike t.vm → post r u → B u t → H.size ≤ H1.size → (∀ q : Nat, q < H.size → ¬ A1 q → H1[q]? = H[q]?) → va_S A0 H0 H1 locs1 → W p l e R s m args below meth c H1 locs1 (cells + mc) (slots + ms) Q (F0 m (pc + 3) ls (.double r :: rest))) : W p l e R s m args below meth c H locs cells slots Q (F0 m pc ls st0) := by
  intro T hT X
  rcases hr T hT X with ⟨v, st₀, t, T', L, h0, X', hL, e1, e2, ⟨⟨r, u, hv, hp, hb⟩, hF⟩, st⟩ | ⟨q, st₀, t, T', L, E, ce, h0, X', hL, e1, e2, ⟨u, hp, hb, hF⟩, hce, hcv, hcl, st⟩
  · cases hv
    obtain ⟨k1, k2, k3⟩ := vx_keep h0 e1 hS hA hf hL hF
    obtain ⟨t2, a1, b1⟩ := kk r u t T'.heap (locs ++ L) e1.symm (by rw [← e2]; exact X'.warmed.alike) hp hb k1 k2 k3 T' rfl X'
    exact ⟨t2, st t2 a1, b1⟩
  · obtain ⟨k1, k2, k3⟩ := vx_keep h0 e1 hS hAX hf hL hF
    obtain ⟨t2, a1, b1⟩ := kx E ce q u t T'.heap (locs ++ L) e1.symm (by rw [← e2]; exact X'.warmed.alike) hp hb k1 k2 k3 (by rw [e1]; exact hce) hcv hcl T' rfl X'
    exact ⟨t2, st.trans a1, b1⟩
theorem vx_callv {S SX : Type} {post : S → Prop} {px : SX → Prop} {B : S → State → Prop} {BX : String → SX → State → Prop} {AX : Nat → Prop} (hr : vx_Run p l e R s m args below meth c H locs cells slots mc ms (F0 m pc ls st0) rest (va_Qv post B A1 a) (vx_X px BX AX) free) (hS : va_S A0 H0 H locs) (hA : ∀ q, q < H.size → A1 q → A0 q) (hf : ∀ q, free q → A0 q) (hAX : ∀ q, q < H.size → AX q → A0 q)
    (kx : ∀ (E : String) (ce : Cell) (q9 : Addr) (u : SX) (t : State) (H1 : Heap) (locs1 : List Loc), t.heap = H1 → s.vm.Alike t.vm → px u → BX E u t → H.size ≤ H1.size → (∀ q : Nat, q < H.size → ¬ AX q → H1[q]? = H[q]?) → va_S A0 H0 H1 locs1 → H1[q9]? = some ce → ce.vm = .none → s.vm.findClass E = some ce.cls → vx_W p l e R s m args below meth c H1 locs1 (cells + mc) (slots + ms) Q (F0 m pc ls rest) q9)
    (kk : ∀ (u : S) (t : State) (H1 : Heap) (locs1 : List Loc), t.heap = H1 → s.vm.Alike t.vm → post u → B u t → H.size ≤ H1.size → (∀ q : Nat, q < H.size → ¬ A1 q → H1[q]? = H[q]?) → va_S A0 H0 H1 locs1 → W p l e R s m args below meth c H1 locs1 (cells + mc) (slots + ms) Q (F0 m (pc + 3) ls (rest))) : W p l e R s m args below meth c H locs cells slots Q (F0 m pc ls st0) := by
  intro T hT X
  rcases hr T hT X with ⟨v, st₀, t, T', L, h0, X', hL, e1, e2, ⟨⟨u, hv, hp, hb⟩, hF⟩, st⟩ | ⟨q, st₀, t, T', L, E, ce, h0, X', hL, e1, e2, ⟨u, hp, hb, hF⟩, hce, hcv, hcl, st⟩
  · cases hv
    obtain ⟨k1, k2, k3⟩ := vx_keep h0 e1 hS hA hf hL hF
    obtain ⟨t2, a1, b1⟩ := kk u t T'.heap (locs ++ L) e1.symm (by rw [← e2]; exact X'.warmed.alike) hp hb k1 k2 k3 T' rfl X'
    exact ⟨t2, st t2 a1, b1⟩
  · obtain ⟨k1, k2, k3⟩ := vx_keep h0 e1 hS hAX hf hL hF
    obtain ⟨t2, a1, b1⟩ := kx E ce q u t T'.heap (locs ++ L) e1.symm (by rw [← e2]; exact X'.warmed.alike) hp hb k1 k2 k3 (by rw [e1]; exact hce) hcv hcl T' rfl X'
    exact ⟨t2, st.trans a1, b1⟩
/-- caught by the row x of this method's table; the rows ahead don't take it -/
theorem vx_catch {own name : String} {E : String} {ce : Cell} {q : Addr} (hown : s.vm.findClass own = some m.cls) (pre : List ExceptionTableEntry) (x : ExceptionTableEntry) (suf : List ExceptionTableEntry) (hsplit : c.exceptionTable.toList = pre ++ x :: suf)
    (hpass : ∀ z ∈ pre, covers z pc = false ∨ (z.catchType ≠ 0 ∧ ∃ nm : String, (Cond.classLink own z.catchType nm).before args s = true ∧ va_Nc E nm s)) (hx : covers x pc = true) (h0 : x.catchType ≠ 0)
    (hlink : (Cond.classLink own x.catchType name).before args s = true) (hcast : (Cond.castable E name).before args s = true) (hcell : H[q]? = some ce) (hv : ce.vm = .none) (hcl : s.vm.findClass E = some ce.cls)
    (kk : W p l e R s m args below meth c H locs cells slots Q (F0 m x.handlerPc ls [.ref q])) : vx_W p l e R s m args below meth c H locs cells slots Q (F0 m pc ls rest) q := by
  intro T hT X
  have hpl : e.platform.magicAccessors = ({} : Platform).magicAccessors := by rw [X.admits.platform]
  obtain ⟨c3, c4, hc3, hc4, hasg⟩ := Cond.castable_spec hcast
  cases Option.some.inj (hc3.symm.trans hcl)
  obtain ⟨c5, hc5, hcl5⟩ := Cond.classLink_spec hown hlink e.platform hpl
  cases Option.some.inj (hc4.symm.trans hc5)
  obtain ⟨vm', X', st⟩ := X.thenCaughtThrough q (g := F0 m pc ls rest) rfl (Steps.refl _) (by rw [hT]; exact hcell) (by rw [hv]; rfl) (by obtain ⟨k9, h9, -⟩ := Vm.findClass_spec hcl; exact ⟨k9, h9⟩) pre x suf hsplit
    (fun z hz => by
      rcases hpass z hz with h | ⟨hz0, nm, hl1, hn1⟩
      · exact Or.inl h
      · obtain ⟨c6, hc6, hcl6⟩ := Cond.classLink_spec hown hl1 e.platform hpl
        obtain ⟨a8, b8, h1, h2, h3⟩ := hn1
        cases Option.some.inj (h1.symm.trans hcl)
        cases Option.some.inj (h2.symm.trans hc6)
        exact Or.inr ⟨hz0, _, hcl6, h3⟩) hx (Or.inr ⟨h0, c4, hcl5, hasg⟩)
  obtain ⟨t, a1, b1⟩ := kk (T.setVm vm') hT X'
  exact ⟨t, st.trans a1, b1⟩
end Rows
section Ends
variable {p : Program} {l : Launch} {e : Env} {R : Room} {s : State} {m : MethodId} {args : Array Value} {below : List Frame} {meth : Method} {c : Code} {H : Heap} {locs : List Loc} {cells slots : Nat} {Q : State → Prop}
variable {mc ms : Nat} {free : Addr → Prop} {A0 A1 : Nat → Prop} {H0 : Heap} {a : Array Value} {ls : Array Slot} {st0 rest : List Value}
variable {Qc : Array Value → State → Outcome → State → Prop} {XC : String → State → State → Prop}
/-- what a body that may throw owes at its end -/
def vx_MQ (below : List Frame) (Qc : Array Value → State → Outcome → State → Prop) (XC : String → State → State → Prop) (a : Array Value) (s : State) (mc ms : Nat) (free : Addr → Prop) : State → Prop := fun t =>
  ∃ o, t.status = .running ∧ Ended t below o ∧ vx_Q Qc XC mc ms free a s o t
theorem vx_ret {g : JFrame} {mc ms : Nat} (k : W p l e R s m args below meth c H locs cells slots (MQ below Qc args s mc ms free) g) : W p l e R s m args below meth c H locs cells slots (vx_MQ below Qc XC args s mc ms free) g := by
  intro T hT X
  obtain ⟨t, a1, o, b1, b2, b3, b4⟩ := k T hT X
  exact ⟨t, a1, o, b1, b2, Or.inl ⟨b3, b4⟩⟩
/-- not caught here: it goes on to the caller -/
theorem vx_widen {g : JFrame} {q : Addr} {k n : Nat} (h1 : cells ≤ k) (h2 : slots ≤ n) (kk : vx_W p l e R s m args below meth c H locs k n Q g q) : vx_W p l e R s m args below meth c H locs cells slots Q g q := fun T hT X => kk T hT (stand_widen X h1 h2)
theorem vx_out {pc : Nat} {E : String} {ce : Cell} {q : Addr} {mc ms : Nat} (hout : ∀ x ∈ c.exceptionTable.toList, covers x pc = false) (hlocks : meth.locks = false) (hcell : H[q]? = some ce) (hv : ce.vm = .none) (hcl : s.vm.findClass E = some ce.cls)
    (hx : ∀ t : State, t.heap = H → s.vm.Alike t.vm → XC E s t) (hf : ∀ z ∈ locs, free z.base) (hc : cells ≤ mc) (hs : slots ≤ ms) :
    vx_W p l e R s m args below meth c H locs cells slots (vx_MQ below Qc XC args s mc ms free) (F0 m pc ls rest) q := by
  intro T hT X
  obtain ⟨st1, hrun, hend, hW, hsm⟩ := X.leaveThrown q (g := F0 m pc ls rest) rfl rfl rfl hout hlocks
  have hcell9 : (T.setFrames (.throwing q :: below)).heap[q]? = some ce := by
    show T.heap[q]? = some ce
    rw [hT]; exact hcell
  exact ⟨_, st1, .threw q, hrun, hend, Or.inr ⟨q, rfl, E, ce, locs, hx _ hT hW.alike, hcell9, hv, hcl, hW, hsm.mono hc hs, hf⟩⟩
theorem vx_frame {U : State} {k n : Nat} (h : s.sameButNew ({ U with vm := s.vm } : State) locs k n) : s.heap.size ≤ U.heap.size ∧ ∀ q : Nat, q < s.heap.size → (∀ z ∈ locs, z.base ≠ q) → U.heap[q]? = s.heap[q]? := by
  obtain ⟨-, h2, -, -, -, h6⟩ := h
  refine ⟨h2, fun q hq hz => ?_⟩
  obtain ⟨c9, e1, e2, e3, e4⟩ := h6 q _ (Array.getElem?_eq_getElem hq)
  have hs : c9.slots = (s.heap[q]).slots := Array.ext_getElem? fun i => e4 i fun hm => hz _ hm rfl
  have h9 : c9 = s.heap[q] := by
    rw [hs] at e2
    exact e2
  have e5 : U.heap[q]? = some c9 := e1
  rw [e5, h9, Array.getElem?_eq_getElem hq]
/-- the words of a throw but the four that speak of the heap -/
def vx_no (w : Cond) : Bool := decide (w ≠ .isRef (.static Bundle.tN "UNASSIGNED_STACK" Bundle.steD)) && decide (w ≠ .isRef (.static Bundle.tN "SUPPRESSED_SENTINEL" Bundle.listD)) && decide (w ≠ .laysStatic Bundle.tN "UNASSIGNED_STACK" Bundle.steD) && decide (w ≠ .laysStatic Bundle.tN "SUPPRESSED_SENTINEL" Bundle.listD)
def vx_at0 (own : String) (ic : Nat) (X : String) (names : List String) : List Cond := (Bundle.ownAtoms0 own ic X names).filter vx_no
def vx_atS (own : String) (ic : Nat) (X : String) (names : List String) : List Cond := (Bundle.ownAtoms own ic X names).filter vx_no
/-- a word that the tables alone decide, or a good one -/
def vx_ot (w : Cond) : Bool := w.onTables || goodWord w
theorem vx_ot_at {args a' : Array Value} {s U : State} {w : Cond} (hW : s.WarmedH U.vm) (hvm : s.vm = U.vm) (hg : vx_ot w = true) (h : w.before args s = true) : w.before a' U = true := by
  simp only [vx_ot, Bool.or_eq_true] at hg
  rcases hg with hg | hg
  · exact va_tabs hg hvm h
  · exact word_at hW (good_of_word hg) h
/-- a list's words: the good ones out of the method's own list, the others by premises of their own -/
theorem vx_hat {args : Array Value} {s : State} {L B : List Cond} (h1 : ∀ w ∈ L.filter goodWord, w.before args s = true) (h2 : ∀ w ∈ L.filter (fun w => !goodWord w), w ∈ B) (h3 : ∀ w ∈ B, w.before args s = true) : ∀ w ∈ L, w.before args s = true := by
  intro w hw
  by_cases g : goodWord w = true
  · exact h1 w (List.mem_filter.mpr ⟨hw, g⟩)
  · refine h3 w (h2 w (List.mem_filter.mpr ⟨hw, ?_⟩))
    show (!goodWord w) = true
    cases hgw : goodWord w
    · rfl
    · exact absurd hgw g
theorem vx_c {args : Array Value} {s : State} {w : Cond} {B : List Cond} (h : w.before args s = true) (t : ∀ w ∈ B, w.before args s = true) : ∀ w' ∈ w :: B, w'.before args s = true := fun w' h' => (List.mem_cons.mp h').elim (fun e => by rw [e]; exact h) (t w')
theorem vx_n {args : Array Value} {s : State} : ∀ w ∈ ([] : List Cond), w.before args s = true := fun _ h => nomatch h
theorem vx_own {args : Array Value} {s : State} {L : List Cond} (h1 : ∀ w ∈ L.filter vx_no, w.before args s = true)
    (hU : (Cond.isRef (.static Bundle.tN "UNASSIGNED_STACK" Bundle.steD)).before args s = true) (hN : (Cond.isRef (.static Bundle.tN "SUPPRESSED_SENTINEL" Bundle.listD)).before args s = true)
    (lU : (Cond.laysStatic Bundle.tN "UNASSIGNED_STACK" Bundle.steD).before args s = true) (lN : (Cond.laysStatic Bundle.tN "SUPPRESSED_SENTINEL" Bundle.listD).before args s = true) : ∀ w ∈ L, w.before args s = true := by
  intro w hw
  by_cases e1 : w = .isRef (.static Bundle.tN "UNASSIGNED_STACK" Bundle.steD)
  · rw [e1]; exact hU
  · by_cases e2 : w = .isRef (.static Bundle.tN "SUPPRESSED_SENTINEL" Bundle.listD)
    · rw [e2]; exact hN
    · by_cases e3 : w = .laysStatic Bundle.tN "UNASSIGNED_STACK" Bundle.steD
      · rw [e3]; exact lU
      · by_cases e4 : w = .laysStatic Bundle.tN "SUPPRESSED_SENTINEL" Bundle.listD
        · rw [e4]; exact lN
        · exact h1 w (List.mem_filter.mpr ⟨hw, by unfold vx_no; rw [decide_eq_true e1, decide_eq_true e2, decide_eq_true e3, decide_eq_true e4]; rfl⟩)
/-- where a static field lies, its class's statics cell in H -/
def vx_L (C n d : String) (A : Nat → Prop) (U : State) (H : Heap) : Prop := ∃ (c : ClassId) (k : Class) (i : Nat) (f : Field) (a : Nat) (cell : Cell), U.vm.findClass C = some c ∧ U.fieldFound? C n d = some (c, k, i, f) ∧ f.isStatic = true ∧ k.statics = some a ∧ H[a]? = some cell ∧ cell.vm.isStatics = true ∧ cell.cls = c ∧ f.slot < cell.slots.size ∧ k.staticTypes[f.slot]? = some f.type ∧ ¬ A a
theorem vx_L.moved {C n d : String} {A : Nat → Prop} {u U : State} {H : Heap} (hvm : u.vm.Alike U.vm) (h : vx_L C n d A u H) : vx_L C n d A U H := by
  obtain ⟨c, k, i, f, a, cell, h1, h2, h3, h4, h5, h6, h7, h8, h9, h10⟩ := h
  obtain ⟨k', hi', he⟩ := State.fieldFound?_setVm hvm h2
  exact ⟨c, k', i, f, a, cell, by rw [hvm.findClass]; exact h1, hi', h3, by rw [he]; exact h4, h5, h6, h7, h8, by rw [he]; exact h9, h10⟩
theorem vx_L.kept {C n d : String} {A : Nat → Prop} {U : State} {H H1 : Heap} (h : vx_L C n d A U H) (hq : ∀ a : Nat, a < H.size → ¬ A a → H1[a]? = H[a]?) : vx_L C n d A U H1 := by
  obtain ⟨c, k, i, f, a, cell, h1, h2, h3, h4, h5, h6, h7, h8, h9, h10⟩ := h
  exact ⟨c, k, i, f, a, cell, h1, h2, h3, h4, by rw [hq a (Array.getElem?_eq_some_iff.mp h5).1 h10]; exact h5, h6, h7, h8, h9, h10⟩
theorem vx_L.narrow {C n d : String} {A B : Nat → Prop} {U : State} {H : Heap} (h : vx_L C n d A U H) (hAB : ∀ q, B q → A q) : vx_L C n d B U H := by
  obtain ⟨c, k, i, f, a, cell, h1, h2, h3, h4, h5, h6, h7, h8, h9, h10⟩ := h
  exact ⟨c, k, i, f, a, cell, h1, h2, h3, h4, h5, h6, h7, h8, h9, fun z => h10 (hAB _ z)⟩
theorem vx_L.word {C n d : String} {A : Nat → Prop} {s : State} {args : Array Value} (h : vx_L C n d A s s.heap) : (Cond.laysStatic C n d).before args s = true := by
  obtain ⟨c, k, i, f, a, cell, h1, h2, h3, h4, h5, h6, h7, h8, h9, -⟩ := h
  show (Cond.laysStatic C n d).holds args s none s [] = true
  exact Cond.laysStatic_of h1 h2 h3 h4 h5 h6 h7 h8 h9
/-- .. and what it holds: null or some reference -/
def vx_Zq (C n d : String) (A : Nat → Prop) (U : State) (H : Heap) : Prop := va_Zq C n d A U H ∧ vx_L C n d A U H
theorem vx_Zq.moved {C n d : String} {A : Nat → Prop} {u U : State} {H : Heap} (hvm : u.vm.Alike U.vm) (h : vx_Zq C n d A u H) : vx_Zq C n d A U H := ⟨va_Zq.moved hvm h.1, vx_L.moved hvm h.2⟩
theorem vx_Zq.kept {C n d : String} {A : Nat → Prop} {U : State} {H H1 : Heap} (h : vx_Zq C n d A U H) (hq : ∀ a : Nat, a < H.size → ¬ A a → H1[a]? = H[a]?) : vx_Zq C n d A U H1 := ⟨va_Zq.kept h.1 hq, vx_L.kept h.2 hq⟩
theorem vx_Zq.narrow {C n d : String} {A B : Nat → Prop} {U : State} {H : Heap} (h : vx_Zq C n d A U H) (hAB : ∀ q, B q → A q) : vx_Zq C n d B U H := ⟨va_Zq.narrow h.1 hAB, vx_L.narrow h.2 hAB⟩
theorem vx_Zqof {args : Array Value} {s : State} {C n d : String} {A : Nat → Prop} (hl : (Cond.laysStatic C n d).before args s = true) (hini : (Cond.initialized C).before args s = true) (h : (Cond.isRef (.static C n d)).before args s = true) (hA : ∀ a : Nat, a < s.heap.size → ¬ A a) : vx_Zq C n d A s s.heap := by
  refine ⟨va_Zqof hl hini h hA, ?_⟩
  obtain ⟨c, k, i, f, a, cell, h1, h2, h3, h4, h5, h6, h7, h8, h9⟩ := Cond.laysStatic_spec hl
  exact ⟨c, k, i, f, a, cell, h1, h2, h3, h4, h5, h6, h7, h8, h9, hA a (Array.getElem?_eq_some_iff.mp h5).1⟩
theorem vx_isRef {C n d : String} {v : Value} {A : Nat → Prop} {s : State} {args : Array Value} (h : va_Z C n d v A s s.heap) (hv : v.isRef = true) : (Cond.isRef (.static C n d)).before args s = true := by
  obtain ⟨cf, kf, fi, f, a, cell, h1, h2, h3, h4, h5, h6, h7, -⟩ := h
  have he : (Term.static C n d).eval args s none [] s = some v := by
    simp [Term.eval, State.fieldNamed?, h1, h2, h4, h5, h6, h7]
  simp only [Cond.before, Cond.holds, Cond.value, he]
  cases v <;> simp_all [Value.isRef]
theorem vx_isRefq {C n d : String} {A : Nat → Prop} {s : State} {args : Array Value} (h : va_Zq C n d A s s.heap) : (Cond.isRef (.static C n d)).before args s = true := by
  rcases h with h | ⟨t, h⟩
  · exact vx_isRef h rfl
  · exact vx_isRef h rfl
/-- the same frame, seen from here: as if the method were called anew in this heap -/
theorem vx_rebase {T : State} (X : Stand p l e R s m args below meth c T locs cells slots) {R' : Room} (hf : R'.frames ≤ R.frames) (hl : R'.locals ≤ R.locals) (hc : cells + R'.cells ≤ R.cells) (hs : slots + R'.slots ≤ R.slots) :
    Stand p l e R' ((T.setVm s.vm).setFrames (.invoking m args :: below)) m args below meth c T [] 0 0 := by
  have htop : (T.setVm s.vm).topJava?.isSome := X.here.top
  have hF : ((T.setVm s.vm).setFrames (.invoking m args :: below)).frames = .invoking m args :: below := State.frames_setFrames _ (State.cur_lt_of_top htop)
  obtain ⟨g₀, hg0⟩ := Option.isSome_iff_exists.mp htop
  obtain ⟨r, hr⟩ := State.topJava?_eq_some.mp hg0
  have hl9 : e.platform.stackLimits (T.setVm s.vm).me = e.platform.stackLimits s.me := X.limits
  have hb9 : (T.setVm s.vm).me.stackBytes = s.me.stackBytes := X.bytes
  refine ⟨X.admits, X.cas, X.clock, hF, ?_, X.hears, X.method, X.code, X.here, X.tail, X.warmed, ?_, ?_, ?_⟩
  · have h := X.room
    have hU : ((T.setVm s.vm).setFrames (.invoking m args :: below)).localsInUse = s.localsInUse := by
      rw [State.localsInUse_invoking hF (meth := meth) (c := c) X.method X.code, State.localsInUse_invoking X.frames X.method X.code]
    simp only [State.hasRoom, Bool.and_eq_true, decide_eq_true_eq] at h ⊢
    obtain ⟨⟨⟨⟨h1, h2, h3, h4, h5, h6⟩, h7⟩, h8⟩, h9⟩ := h
    rw [X.frames, List.length_cons] at h2 h3
    have q1 := X.heapSize
    have q2 := X.used
    simp only [hF, hU, List.length_cons, State.stackLimits_setFrames, State.stackBytes_setFrames, hl9, hb9]
    refine ⟨⟨⟨⟨by omega, by omega, by omega, by omega, by omega, h6⟩, ?_⟩, ?_⟩, X.book⟩
    · show T.heap.size + R'.cells ≤ e.platform.maxCells
      omega
    · show T.slotsUsed + R'.slots ≤ e.platform.maxSlots
      omega
  · rw [State.stackLimits_setFrames]; rfl
  · rw [State.stackBytes_setFrames]; rfl
  · refine ⟨?_, Nat.le_refl _, Nat.le_refl _, ?_, ?_, fun a c9 h9 => ⟨c9, h9, rfl, rfl, fun _ _ => rfl⟩⟩
    · obtain ⟨t, ht, -⟩ := State.frames_cons hr
      show T.setVm s.vm = { ((T.setVm s.vm).setFrames (.invoking m args :: below)).setFrames (T.setVm s.vm).frames with heap := T.heap, slotsUsed := T.slotsUsed }
      rw [State.setFrames_setFrames, State.setFrames_self ht]
      rfl
    · show T.slotsUsed = T.slotsUsed + ((T.heap.toList.drop T.heap.size).map (·.slots.size)).sum
      rw [List.drop_eq_nil_of_le (Nat.le_of_eq Array.length_toList)]
      rfl
    · show ((T.heap.toList.drop T.heap.size).map (·.slots.size)).sum ≤ 0
      rw [List.drop_eq_nil_of_le (Nat.le_of_eq Array.length_toList)]
      exact Nat.le_refl _
/-- 'throw new E()': new; dup; invokespecial; athrow -/
theorem vx_throw0 {cc : ByteArray} {pc : Nat} (hexec : p.tables.exec = Jvm.exec) (hb : c.code = cc) (hl : l.stackTraces = false) {own cls : String} {names : List String} {ik ic mc ms : Nat} {A : Nat → Prop}
    (hown : s.vm.findClass own = some m.cls) (hcls : Bundle.fit cls = true) (hnames : ∀ n ∈ names, Bundle.fit n = true)
    (hk : (Cond.classLink own ik cls).before args s = true) (hini : (Cond.initialized cls).before args s = true) (hat : ∀ w ∈ vx_at0 own ic cls names, w.before args s = true)
    (hgood : ∀ w ∈ Cond.classLink own ik cls :: Cond.initialized cls :: vx_at0 own ic cls names, vx_ot w = true)
    (hU : vx_Zq Bundle.tN "UNASSIGNED_STACK" Bundle.steD A s s.heap) (hN : vx_Zq Bundle.tN "SUPPRESSED_SENTINEL" Bundle.listD A s s.heap) (hS : va_S A s.heap H locs) (hsize : ls.size = c.maxLocals)
    (d0 : decode cc pc = .ok (.new ik, 3)) (d3 : decode cc (pc + 3) = .ok (.dup, 1)) (d4 : decode cc (pc + 4) = .ok (.invokespecial ic, 3)) (d7 : decode cc (pc + 7) = .ok (.athrow, 1))
    (hout : ∀ x ∈ c.exceptionTable.toList, covers x (pc + 7) = false)
    (hRframes : names.length + 3 < R.frames) (hRlocals : (rest.map fun v => v.category).sum + (13 * (names.length + 1) + 42) ≤ R.locals) (hRcells : cells + 1 ≤ R.cells) (hRslots : slots + 6 ≤ R.slots) (hlocks : meth.locks = false)
    (hx : ∀ t : State, s.vm.Alike t.vm → H.size ≤ t.heap.size → (∀ q : Nat, q < H.size → t.heap[q]? = H[q]?) → XC cls s t)
    (hf : ∀ z ∈ locs, free z.base) (hc : cells + 1 ≤ mc) (hs : slots + 6 ≤ ms) :
    W p l e R s m args below meth c H locs cells slots (vx_MQ below Qc XC args s mc ms free) (F0 m pc ls rest) := by
  intro T hT X
  have htr : e.platform.stackTraces = false := (show e.platform.stackTraces = l.stackTraces by rw [X.admits.platform]).trans hl
  have Y := vx_rebase X (R' := { frames := R.frames, locals := R.locals, cells := 1, slots := 6 }) (Nat.le_refl _) (Nat.le_refl _) hRcells hRslots
  obtain ⟨s', hA⟩ : ∃ z, z = (T.setVm s.vm).setFrames (.invoking m args :: below) := ⟨_, rfl⟩
  rw [← hA] at Y
  have hvm : s'.vm = s.vm := by rw [hA]; rfl
  have hhp : s'.heap = H := by rw [hA]; exact hT
  have hW0 : s.WarmedH s'.vm := by rw [hvm]; exact State.WarmedH.refl s
  have hat' : ∀ w ∈ vx_at0 own ic cls names, w.before args s' = true := fun w hw => vx_ot_at hW0 hvm.symm (hgood w (List.mem_cons_of_mem _ (List.mem_cons_of_mem _ hw))) (hat w hw)
  have hk' : (Cond.classLink own ik cls).before args s' = true := vx_ot_at hW0 hvm.symm (hgood _ List.mem_cons_self) hk
  have hini' : (Cond.initialized cls).before args s' = true := vx_ot_at hW0 hvm.symm (hgood _ (List.mem_cons_of_mem _ List.mem_cons_self)) hini
  have hU' : vx_Zq Bundle.tN "UNASSIGNED_STACK" Bundle.steD A s' s'.heap := by rw [hhp]; exact vx_Zq.moved hW0.alike (hU.kept hS.2.1)
  have hN' : vx_Zq Bundle.tN "SUPPRESSED_SENTINEL" Bundle.listD A s' s'.heap := by rw [hhp]; exact vx_Zq.moved hW0.alike (hN.kept hS.2.1)
  have h : ∀ w ∈ Bundle.ownAtoms0 own ic cls names, w.before args s' = true := vx_own hat' (vx_isRefq hU'.1) (vx_isRefq hN'.1) hU'.2.word hN'.2.word
  have hown' : s'.vm.findClass own = some m.cls := by rw [hvm]; exact hown
  have hins : (Cond.instantiable cls 6).before args s' = true := h _ (by simp [Bundle.ownAtoms0])
  obtain ⟨vm₁, cX, kX, hfX, hkX, -, -, X₁, st1⟩ := Y.newCold hexec (own := own) (C := cls) (index := ik) (n := 6) hown' hk' hins hini'
    (g := F0 m pc ls rest) rfl (by rw [hb]; exact d0) (Nat.le_refl _) (Nat.le_refl _)
  generalize hT1 : (T.setVm vm₁).pushCell { cls := cX, slots := kX.instanceTypes.map defaultValue, vm := .none } = T1 at X₁ st1
  have hcat : (Value.ref T.heap.size).category = 1 := rfl
  have hcellA : T1.heap[T.heap.size]? = some (freshCell cX kX) := by rw [← hT1]; exact State.heap_pushCell_size _ _
  have d3' : decode c.code (pc + 3) = .ok (.dup, 1) := by rw [hb]; exact d3
  obtain ⟨U, hsteps, hrun, hend, hW, hsame, ce, hce, hO⟩ := X₁.ctorThrow0 hexec htr (own := own) (cls := cls) (names := names) (ic := ic) hown' hcls hnames h (fun x hx => nomatch hx) hfX hkX hcellA (by rw [hhp, hT]; exact Nat.le_refl _)
    (g := { method := m, pc := pc + 4, locals := ls, stack := .ref T.heap.size :: .ref T.heap.size :: rest, locked := none }) rfl hsize rfl rfl (rest := rest) rfl
    (by rw [hb]; exact d4) (by rw [hb]; exact d7) hout hRframes (by simp only [List.map_cons, List.sum_cons, hcat]; omega) hlocks
  obtain ⟨f1, f2⟩ := vx_frame hsame
  rw [hhp] at f1 f2
  have hWs : s.WarmedH U.vm := State.WarmedH.trans hW0 hW
  have hcl : s.vm.findClass cls = some ce.cls := by
    have h9 := hO.cls
    rw [hvm] at h9
    exact h9
  have hall : s.sameButNew ({ U with vm := s.vm } : State) locs mc ms := by
    subst hA
    obtain ⟨e1, e2⟩ := hsame
    rw [State.setFrames_setFrames] at e1
    have h2 : (T.setVm s.vm).sameButNew ({ U with vm := s.vm } : State) [] (0 + 1) (0 + 6) := ⟨e1, e2⟩
    have h3 := X.same.trans h2
    rw [List.append_nil] at h3
    exact h3.mono hc hs
  refine ⟨U, ?_, .threw T.heap.size, hrun, hend, Or.inr ⟨T.heap.size, rfl, cls, ce, locs, hx U hWs.alike f1 (fun q hq => f2 q hq (fun z hz => nomatch hz)), hce, hO.vm, hcl, hWs, hall, hf⟩⟩
  refine st1 _ ?_
  show Steps p.tables e below (T1.setTop { method := m, pc := pc + 3, locals := ls, stack := .ref T.heap.size :: rest, locked := none }) _
  jvm_step X₁.here [X₁.here.top, hexec, d3', Value.category]
  exact hsteps
/-- 'throw new E("text")': new; dup; ldc; invokespecial; athrow -/
theorem vx_throwS {cc : ByteArray} {pc : Nat} (hexec : p.tables.exec = Jvm.exec) (hb : c.code = cc) (hl : l.stackTraces = false) {own cls text : String} {names : List String} {ik is ic mc ms sa : Nat} {A : Nat → Prop}
    (hown : s.vm.findClass own = some m.cls) (hcls : Bundle.fit cls = true) (hnames : ∀ n ∈ names, Bundle.fit n = true)
    (hk : (Cond.classLink own ik cls).before args s = true) (hini : (Cond.initialized cls).before args s = true) (hstr : vk_R own is text sa s) (hat : ∀ w ∈ vx_atS own ic cls names, w.before args s = true)
    (hgood : ∀ w ∈ Cond.classLink own ik cls :: Cond.initialized cls :: vx_atS own ic cls names, vx_ot w = true)
    (hU : vx_Zq Bundle.tN "UNASSIGNED_STACK" Bundle.steD A s s.heap) (hN : vx_Zq Bundle.tN "SUPPRESSED_SENTINEL" Bundle.listD A s s.heap) (hS : va_S A s.heap H locs) (hsize : ls.size = c.maxLocals)
    (d0 : decode cc pc = .ok (.new ik, 3)) (d3 : decode cc (pc + 3) = .ok (.dup, 1)) (d4 : decode cc (pc + 4) = .ok (.ldc is, 2)) (d6 : decode cc (pc + 6) = .ok (.invokespecial ic, 3)) (d9 : decode cc (pc + 9) = .ok (.athrow, 1))
    (hout : ∀ x ∈ c.exceptionTable.toList, covers x (pc + 9) = false)
    (hRframes : names.length + 3 < R.frames) (hRlocals : (rest.map fun v => v.category).sum + (13 * (names.length + 1) + 43) ≤ R.locals) (hRcells : cells + 1 ≤ R.cells) (hRslots : slots + 6 ≤ R.slots) (hlocks : meth.locks = false)
    (hx : ∀ t : State, s.vm.Alike t.vm → H.size ≤ t.heap.size → (∀ q : Nat, q < H.size → t.heap[q]? = H[q]?) → XC cls s t)
    (hf : ∀ z ∈ locs, free z.base) (hc : cells + 1 ≤ mc) (hs : slots + 6 ≤ ms) :
    W p l e R s m args below meth c H locs cells slots (vx_MQ below Qc XC args s mc ms free) (F0 m pc ls rest) := by
  intro T hT X
  have htr : e.platform.stackTraces = false := (show e.platform.stackTraces = l.stackTraces by rw [X.admits.platform]).trans hl
  have Y := vx_rebase X (R' := { frames := R.frames, locals := R.locals, cells := 1, slots := 6 }) (Nat.le_refl _) (Nat.le_refl _) hRcells hRslots
  obtain ⟨s', hA⟩ : ∃ z, z = (T.setVm s.vm).setFrames (.invoking m args :: below) := ⟨_, rfl⟩
  rw [← hA] at Y
  have hvm : s'.vm = s.vm := by rw [hA]; rfl
  have hhp : s'.heap = H := by rw [hA]; exact hT
  have hW0 : s.WarmedH s'.vm := by rw [hvm]; exact State.WarmedH.refl s
  have hat' : ∀ w ∈ vx_atS own ic cls names, w.before args s' = true := fun w hw => vx_ot_at hW0 hvm.symm (hgood w (List.mem_cons_of_mem _ (List.mem_cons_of_mem _ hw))) (hat w hw)
  have hk' : (Cond.classLink own ik cls).before args s' = true := vx_ot_at hW0 hvm.symm (hgood _ List.mem_cons_self) hk
  have hini' : (Cond.initialized cls).before args s' = true := vx_ot_at hW0 hvm.symm (hgood _ (List.mem_cons_of_mem _ List.mem_cons_self)) hini
  have hU' : vx_Zq Bundle.tN "UNASSIGNED_STACK" Bundle.steD A s' s'.heap := by rw [hhp]; exact vx_Zq.moved hW0.alike (hU.kept hS.2.1)
  have hN' : vx_Zq Bundle.tN "SUPPRESSED_SENTINEL" Bundle.listD A s' s'.heap := by rw [hhp]; exact vx_Zq.moved hW0.alike (hN.kept hS.2.1)
  have h : ∀ w ∈ Bundle.ownAtoms own ic cls names, w.before args s' = true := vx_own hat' (vx_isRefq hU'.1) (vx_isRefq hN'.1) hU'.2.word hN'.2.word
  have hown' : s'.vm.findClass own = some m.cls := by rw [hvm]; exact hown
  have hins : (Cond.instantiable cls 6).before args s' = true := h _ (by simp [Bundle.ownAtoms])
  obtain ⟨vm₁, cX, kX, hfX, hkX, -, -, X₁, st1⟩ := Y.newCold hexec (own := own) (C := cls) (index := ik) (n := 6) hown' hk' hins hini'
    (g := F0 m pc ls rest) rfl (by rw [hb]; exact d0) (Nat.le_refl _) (Nat.le_refl _)
  generalize hT1 : (T.setVm vm₁).pushCell { cls := cX, slots := kX.instanceTypes.map defaultValue, vm := .none } = T1 at X₁ st1
  have hcat : (Value.ref T.heap.size).category = 1 := rfl
  have hcellA : T1.heap[T.heap.size]? = some (freshCell cX kX) := by rw [← hT1]; exact State.heap_pushCell_size _ _
  have d3' : decode c.code (pc + 3) = .ok (.dup, 1) := by rw [hb]; exact d3
  have d4' : decode c.code (pc + 4) = .ok (.ldc is, 2) := by rw [hb]; exact d4
  have hstr' : vk_R own is text sa s' := vk_R.warm hW0 hstr
  obtain ⟨U, hsteps, hrun, hend, hW, hsame, ce, hce, hO⟩ := X₁.ctorThrowS hexec htr (own := own) (cls := cls) (names := names) (ic := ic) hown' hcls hnames h (fun x hx => nomatch hx) hfX hkX hcellA (by rw [hhp, hT]; exact Nat.le_refl _) (msg := .ref sa) rfl
    (g := { method := m, pc := pc + 6, locals := ls, stack := .ref sa :: .ref T.heap.size :: .ref T.heap.size :: rest, locked := none }) rfl hsize rfl rfl (rest := rest) rfl
    (by rw [hb]; exact d6) (by rw [hb]; exact d9) hout hRframes (by simp only [List.map_cons, List.sum_cons, hcat]; omega) hlocks
  obtain ⟨f1, f2⟩ := vx_frame hsame
  rw [hhp] at f1 f2
  have hWs : s.WarmedH U.vm := State.WarmedH.trans hW0 hW
  have hcl : s.vm.findClass cls = some ce.cls := by
    have h9 := hO.cls
    rw [hvm] at h9
    exact h9
  have hall : s.sameButNew ({ U with vm := s.vm } : State) locs mc ms := by
    subst hA
    obtain ⟨e1, e2⟩ := hsame
    rw [State.setFrames_setFrames] at e1
    have h2 : (T.setVm s.vm).sameButNew ({ U with vm := s.vm } : State) [] (0 + 1) (0 + 6) := ⟨e1, e2⟩
    have h3 := X.same.trans h2
    rw [List.append_nil] at h3
    exact h3.mono hc hs
  refine ⟨U, ?_, .threw T.heap.size, hrun, hend, Or.inr ⟨T.heap.size, rfl, cls, ce, locs, hx U hWs.alike f1 (fun q hq => f2 q hq (fun z hz => nomatch hz)), hce, hO.vm, hcl, hWs, hall, hf⟩⟩
  refine st1 _ ?_
  show Steps p.tables e below (T1.setTop { method := m, pc := pc + 3, locals := ls, stack := .ref T.heap.size :: rest, locked := none }) _
  jvm_step X₁.here [X₁.here.top, hexec, d3', Value.category]
  exact X₁.ldcString hexec (own := own) (text := text) (index := is) (a := sa) hown' hstr'.1 hstr'.2
    (g := { method := m, pc := pc + 4, locals := ls, stack := .ref T.heap.size :: .ref T.heap.size :: rest, locked := none }) rfl d4' _ hsteps
/-- 'throw new E("text")', the text by a wide index -/
theorem vx_throwSW {cc : ByteArray} {pc : Nat} (hexec : p.tables.exec = Jvm.exec) (hb : c.code = cc) (hl : l.stackTraces = false) {own cls text : String} {names : List String} {ik is ic mc ms sa : Nat} {A : Nat → Prop}
    (hown : s.vm.findClass own = some m.cls) (hcls : Bundle.fit cls = true) (hnames : ∀ n ∈ names, Bundle.fit n = true)
    (hk : (Cond.classLink own ik cls).before args s = true) (hini : (Cond.initialized cls).before args s = true) (hstr : vk_R own is text sa s) (hat : ∀ w ∈ vx_atS own ic cls names, w.before args s = true)
    (hgood : ∀ w ∈ Cond.classLink own ik cls :: Cond.initialized cls :: vx_atS own ic cls names, vx_ot w = true)
    (hU : vx_Zq Bundle.tN "UNASSIGNED_STACK" Bundle.steD A s s.heap) (hN : vx_Zq Bundle.tN "SUPPRESSED_SENTINEL" Bundle.listD A s s.heap) (hS : va_S A s.heap H locs) (hsize : ls.size = c.maxLocals)
    (d0 : decode cc pc = .ok (.new ik, 3)) (d3 : decode cc (pc + 3) = .ok (.dup, 1)) (d4 : decode cc (pc + 4) = .ok (.ldc_w is, 3)) (d7 : decode cc (pc + 7) = .ok (.invokespecial ic, 3)) (d10 : decode cc (pc + 10) = .ok (.athrow, 1))
    (hout : ∀ x ∈ c.exceptionTable.toList, covers x (pc + 10) = false)
    (hRframes : names.length + 3 < R.frames) (hRlocals : (rest.map fun v => v.category).sum + (13 * (names.length + 1) + 43) ≤ R.locals) (hRcells : cells + 1 ≤ R.cells) (hRslots : slots + 6 ≤ R.slots) (hlocks : meth.locks = false)
    (hx : ∀ t : State, s.vm.Alike t.vm → H.size ≤ t.heap.size → (∀ q : Nat, q < H.size → t.heap[q]? = H[q]?) → XC cls s t)
    (hf : ∀ z ∈ locs, free z.base) (hc : cells + 1 ≤ mc) (hs : slots + 6 ≤ ms) :
    W p l e R s m args below meth c H locs cells slots (vx_MQ below Qc XC args s mc ms free) (F0 m pc ls rest) := by
  intro T hT X
  have htr : e.platform.stackTraces = false := (show e.platform.stackTraces = l.stackTraces by rw [X.admits.platform]).trans hl
  have Y := vx_rebase X (R' := { frames := R.frames, locals := R.locals, cells := 1, slots := 6 }) (Nat.le_refl _) (Nat.le_refl _) hRcells hRslots
  obtain ⟨s', hA⟩ : ∃ z, z = (T.setVm s.vm).setFrames (.invoking m args :: below) := ⟨_, rfl⟩
  rw [← hA] at Y
  have hvm : s'.vm = s.vm := by rw [hA]; rfl
  have hhp : s'.heap = H := by rw [hA]; exact hT
  have hW0 : s.WarmedH s'.vm := by rw [hvm]; exact State.WarmedH.refl s
  have hat' : ∀ w ∈ vx_atS own ic cls names, w.before args s' = true := fun w hw => vx_ot_at hW0 hvm.symm (hgood w (List.mem_cons_of_mem _ (List.mem_cons_of_mem _ hw))) (hat w hw)
  have hk' : (Cond.classLink own ik cls).before args s' = true := vx_ot_at hW0 hvm.symm (hgood _ List.mem_cons_self) hk
  have hini' : (Cond.initialized cls).before args s' = true := vx_ot_at hW0 hvm.symm (hgood _ (List.mem_cons_of_mem _ List.mem_cons_self)) hini
  have hU' : vx_Zq Bundle.tN "UNASSIGNED_STACK" Bundle.steD A s' s'.heap := by rw [hhp]; exact vx_Zq.moved hW0.alike (hU.kept hS.2.1)
  have hN' : vx_Zq Bundle.tN "SUPPRESSED_SENTINEL" Bundle.listD A s' s'.heap := by rw [hhp]; exact vx_Zq.moved hW0.alike (hN.kept hS.2.1)
  have h : ∀ w ∈ Bundle.ownAtoms own ic cls names, w.before args s' = true := vx_own hat' (vx_isRefq hU'.1) (vx_isRefq hN'.1) hU'.2.word hN'.2.word
  have hown' : s'.vm.findClass own = some m.cls := by rw [hvm]; exact hown
  have hins : (Cond.instantiable cls 6).before args s' = true := h _ (by simp [Bundle.ownAtoms])
  obtain ⟨vm₁, cX, kX, hfX, hkX, -, -, X₁, st1⟩ := Y.newCold hexec (own := own) (C := cls) (index := ik) (n := 6) hown' hk' hins hini'
    (g := F0 m pc ls rest) rfl (by rw [hb]; exact d0) (Nat.le_refl _) (Nat.le_refl _)
  generalize hT1 : (T.setVm vm₁).pushCell { cls := cX, slots := kX.instanceTypes.map defaultValue, vm := .none } = T1 at X₁ st1
  have hcat : (Value.ref T.heap.size).category = 1 := rfl
  have hcellA : T1.heap[T.heap.size]? = some (freshCell cX kX) := by rw [← hT1]; exact State.heap_pushCell_size _ _
  have d3' : decode c.code (pc + 3) = .ok (.dup, 1) := by rw [hb]; exact d3
  have d4' : decode c.code (pc + 4) = .ok (.ldc_w is, 3) := by rw [hb]; exact d4
  have hstr' : vk_R own is text sa s' := vk_R.warm hW0 hstr
  obtain ⟨U, hsteps, hrun, hend, hW, hsame, ce, hce, hO⟩ := X₁.ctorThrowS hexec htr (own := own) (cls := cls) (names := names) (ic := ic) hown' hcls hnames h (fun x hx => nomatch hx) hfX hkX hcellA (by rw [hhp, hT]; exact Nat.le_refl _) (msg := .ref sa) rfl
    (g := { method := m, pc := pc + 7, locals := ls, stack := .ref sa :: .ref T.heap.size :: .ref T.heap.size :: rest, locked := none }) rfl hsize rfl rfl (rest := rest) rfl
    (by rw [hb]; exact d7) (by rw [hb]; exact d10) hout hRframes (by simp only [List.map_cons, List.sum_cons, hcat]; omega) hlocks
  obtain ⟨f1, f2⟩ := vx_frame hsame
  rw [hhp] at f1 f2
  have hWs : s.WarmedH U.vm := State.WarmedH.trans hW0 hW
  have hcl : s.vm.findClass cls = some ce.cls := by
    have h9 := hO.cls
    rw [hvm] at h9
    exact h9
  have hall : s.sameButNew ({ U with vm := s.vm } : State) locs mc ms := by
    subst hA
    obtain ⟨e1, e2⟩ := hsame
    rw [State.setFrames_setFrames] at e1
    have h2 : (T.setVm s.vm).sameButNew ({ U with vm := s.vm } : State) [] (0 + 1) (0 + 6) := ⟨e1, e2⟩
    have h3 := X.same.trans h2
    rw [List.append_nil] at h3
    exact h3.mono hc hs
  refine ⟨U, ?_, .threw T.heap.size, hrun, hend, Or.inr ⟨T.heap.size, rfl, cls, ce, locs, hx U hWs.alike f1 (fun q hq => f2 q hq (fun z hz => nomatch hz)), hce, hO.vm, hcl, hWs, hall, hf⟩⟩
  refine st1 _ ?_
  show Steps p.tables e below (T1.setTop { method := m, pc := pc + 3, locals := ls, stack := .ref T.heap.size :: rest, locked := none }) _
  jvm_step X₁.here [X₁.here.top, hexec, d3', Value.category]
  exact X₁.ldcStringW hexec (own := own) (text := text) (index := is) (a := sa) hown' hstr'.1 hstr'.2
    (g := { method := m, pc := pc + 4, locals := ls, stack := .ref T.heap.size :: .ref T.heap.size :: rest, locked := none }) rfl d4' _ hsteps
end Ends
section Bodies
variable {l : Launch}
theorem vx_ofW {y : MethodName} {ws ws' : List Cond} {rm : Room} {Pc : Array Value → State → Prop} {Qc : Array Value → State → Outcome → State → Prop} {XC : String → State → State → Prop} {mc ms : Nat} {free : Addr → Prop} {cc : ByteArray} {maxL : Nat} {ret : Option FieldType}
    (hy : plainName y.cls = true) (hw : ws = Cond.code y cc maxL ret :: ws')
    (body : ∀ p e s m args below meth c s₁, BodyLoose p l y (headSpec ws rm) cc maxL ret e s m args below meth c s₁ → c.maxLocals = maxL → (∀ x ∈ c.exceptionTable.toList, False) → Pc args s →
      W p l e (headSpec ws rm).room s m args below meth c s.heap [] 0 0 (vx_MQ below Qc XC args s mc ms free) (entryFrame m args maxL)) : vx_Met l y ws rm Pc Qc XC mc ms free := by
  refine MetFree.of_bodyS (code := cc) (maxLocals := maxL) (ret := ret) hy ?_ ?_
  · intro args s m h hn
    obtain ⟨meth, c, h1, h2, h3, h4, h5, h6, -, -⟩ := Cond.code_spec hn (atoms_spec (ws := ws) h _ (by rw [hw]; exact List.mem_cons_self))
    exact ⟨meth, c, h1, h2, h3, h4, h5, h6⟩
  · intro p e s m args below meth c s₁ B hml hP _
    have hh0 : s₁.heap = s.heap := by rw [B.state]; rfl
    have ht : ∀ x ∈ c.exceptionTable.toList, False := by
      obtain ⟨meth9, c9, h1, h2, -, -, -, -, h7, -⟩ := Cond.code_spec B.named (atoms_spec (ws := ws) B.pre _ (by rw [hw]; exact List.mem_cons_self))
      cases Option.some.inj (h1.symm.trans B.method)
      cases Option.some.inj (h2.symm.trans (Stand.of_body B).code)
      intro x hx
      rw [Array.isEmpty_iff.mp h7] at hx
      cases hx
    obtain ⟨t, a1, o, b1, b2, b3⟩ := body p e s m args below meth c s₁ B hml ht hP s₁ hh0 (Stand.of_body B)
    exact ⟨t, o, a1, b1, b2, b3⟩
/-- the table of a body with handlers -/
theorem vx_table {p : Program} {x y : MethodName} {S : Spec} {cc bytes : ByteArray} {maxL maxL' : Nat} {ret ret' : Option FieldType} {e : Env} {s s₁ : State} {m : MethodId} {args : Array Value} {below : List Frame} {meth : Method} {c : Code} {hh : List (Nat × Nat × Nat × Nat)}
    (B : BodyLoose p l y S cc maxL ret e s m args below meth c s₁) (h : (Cond.codeWith y bytes maxL' ret' hh).before args s = true) : c.exceptionTable.toList = tableOf hh := by
  obtain ⟨m9, meth9, c9, hn9, h1, h2, -, -, h6, -⟩ := Cond.codeWith_spec h
  cases Option.some.inj (hn9.symm.trans B.named)
  cases Option.some.inj (h1.symm.trans B.method)
  cases Option.some.inj (h2.symm.trans (Stand.of_body B).code)
  rw [← h6, table_eq]
end Bodies
end VXA
/-! ===== END ===== -/
/-! ===== BEGIN a static call of a method with an exception table ===== -/
section VXS
variable {p : Program} {l : Launch} {e : Env} {R : Room} {s : State} {m : MethodId} {args : Array Value} {below : List Frame} {meth : Method} {c : Code} {T : State} {H : Heap} {locs : List Loc} {cells slots : Nat}
abbrev vx_CSW (R : Room) (s : State) (args : Array Value) (own : String) (index : Nat) (y : MethodName) (bytes : ByteArray) (maxL : Nat) (ret : Option FieldType) (hh : List (Nat × Nat × Nat × Nat)) (ws : List Cond) (rm : Room) (mc ms n : Nat) : Prop :=
  (rm.cells = mc ∧ rm.slots = ms ∧ rm.frames + 1 ≤ R.frames ∧ 8 + (maxL + 11) + rm.locals ≤ R.locals ∧ (∀ w ∈ ws, ∀ (a' : Array Value) (U : State), s.WarmedH U.vm → w.before a' U = true) ∧ Cond.codeWith y bytes maxL ret hh ∈ ws) ∧
  (Cond.codeWith y bytes maxL ret hh).before args s = true ∧ (Cond.initialized y.cls).before args s = true ∧ (y.cls ≠ "java/lang/invoke/MethodHandle" ∧ y.cls ≠ "java/lang/invoke/VarHandle") ∧
  (∀ sig, parseMethodDescriptor y.desc = some sig → n = sig.parameters.length) ∧ (Cond.methodLink own index y).before args s = true ∧ (Cond.static y).before args s = true
theorem vx_cwSW {own : String} {index maxL mc ms : Nat} {y : MethodName} {bytes : ByteArray} {ret : Option FieldType} {hh : List (Nat × Nat × Nat × Nat)} {Ts ws ws' : List Cond} {rm : Room} (n : Nat) (ht : ∀ w ∈ Ts, w.before args s = true) (hT : GoodIn Ts (va_wsS own index y ws)) (hw : ws = Cond.codeWith y bytes maxL ret hh :: ws') (hrc : rm.cells = mc) (hrs : rm.slots = ms)
    (hd : y.cls ≠ "java/lang/invoke/MethodHandle" ∧ y.cls ≠ "java/lang/invoke/VarHandle" ∧ (parseMethodDescriptor y.desc).map (fun d => d.parameters.length) = some n) (hR : rm.frames + 1 ≤ R.frames ∧ 8 + (maxL + 11) + rm.locals ≤ R.locals) :
    vx_CSW R s args own index y bytes maxL ret hh ws rm mc ms n := by
  have ok : ∀ w ∈ va_wsS own index y ws, w.before args s = true := fun w h => ht w (hT w h).1
  have hG : GoodIn Ts ws := fun w h => hT w (by unfold va_wsS; exact List.mem_append_right _ h)
  have hc : Cond.codeWith y bytes maxL ret hh ∈ ws := by rw [hw]; exact List.mem_cons_self
  refine ⟨⟨hrc, hrs, hR.1, hR.2, pay_in ht hG, hc⟩, ht _ (hG _ hc).1, ok _ (by simp [va_wsS]), ⟨hd.1, hd.2.1⟩, fun sig h => ?_, ok _ (by simp [va_wsS]), ok _ (by simp [va_wsS])⟩
  have h2 := hd.2.2
  rw [h] at h2
  exact (Option.some.inj h2).symm
theorem vx_callSW (X : Stand p l e R s m args below meth c T locs cells slots) (hexec : p.tables.exec = Jvm.exec) {own : String} {index : Nat} {y : MethodName} {bytes : ByteArray} {maxL : Nat} {ret : Option FieldType} {hh : List (Nat × Nat × Nat × Nat)}
    (hown : s.vm.findClass own = some m.cls) (hlink : (Cond.methodLink own index y).before args s = true) (hstat : (Cond.static y).before args s = true) (hinit : (Cond.initialized y.cls).before args s = true)
    (hcode : (Cond.codeWith y bytes maxL ret hh).before args s = true) (hy : y.cls ≠ "java/lang/invoke/MethodHandle" ∧ y.cls ≠ "java/lang/invoke/VarHandle")
    {W9 : Nat} {Pre : Pt → Array Value → Prop} {Post : Pt → Array Value → Option Value → Pt → Prop} (hK : Back l R p e below s args y 3 W9 Pre Post)
    {g : JFrame} (hg : g.method = m) (hsize : g.locals.size = c.maxLocals) {argsL rest : List Value} (hlen : ∀ sig, parseMethodDescriptor y.desc = some sig → argsL.length = sig.parameters.length)
    (hstack : g.stack = argsL.reverse ++ rest) (hW : 2 * g.monitorRoom + (rest.map fun v => v.category).sum ≤ W9) (hdg : decode c.code g.pc = .ok (.invokestatic index, 3))
    (hpre : ∀ vm₁, s.WarmedH vm₁ → Pre ⟨T.setVm vm₁, locs, cells, slots⟩ argsL.toArray) :
    ∃ (v : Option Value) (vm₁ : Vm) (B : Pt), s.WarmedH vm₁ ∧ Stand p l e R s m args below meth c B.U B.locs B.cells B.slots ∧ Post ⟨T.setVm vm₁, locs, cells, slots⟩ argsL.toArray v B ∧
      ∀ target, Steps p.tables e below (B.U.setTop { g with pc := g.pc + 3, stack := v.toList ++ rest }) target → Steps p.tables e below (T.setTop g) target := by
  obtain ⟨mk, methM, cM, hnamed, hmethM, -, -, -, -, -, -, hsigM⟩ := Cond.codeWith_spec hcode
  have hstatic : methM.isStatic = true := Cond.static_spec hnamed hmethM hstat
  obtain ⟨kP, hkP, -⟩ := className_of_methodNamed hnamed
  have hinitP : kP.init = .initialized := Cond.initialized_spec (findClass_of_methodNamed hnamed) hkP hinit
  obtain ⟨vm₁, X₁, hstep₁⟩ := X.invokestatic hexec hown hlink hnamed hmethM hstatic hkP hinitP hy (g := g) hg (argsL := argsL) (rest := rest) (hlen _ hsigM) hstack hdg
  obtain ⟨v, B, X', hpost, hsteps⟩ := hK m meth c ⟨T.setVm vm₁, locs, cells, slots⟩ { g with stack := rest } (.invokestatic index) mk argsL.toArray X₁ hg hsize hdg hW (X₁.named hnamed) (hpre vm₁ X₁.warmed)
  exact ⟨v, vm₁, B, X₁.warmed, X', hpost, fun target h => hstep₁ _ fun acts => by rw [doInvoke_state]; exact hsteps.trans h⟩
theorem vx_runSW {y : MethodName} {bytes cc : ByteArray} {maxL nL mc ms n index : Nat} {ret : Option FieldType} {hh : List (Nat × Nat × Nat × Nat)} {ws : List Cond} {rm : Room} {Pc : Array Value → State → Prop} {Qc : Array Value → State → Outcome → State → Prop} {free : Addr → Prop} {Ts : List Cond} {own : String} {As rest : List Value} {g : JFrame}
    (S : CallFix p m c cc nL s args Ts own) (hM : Met l y ws rm Pc Qc mc ms free) (cw : vx_CSW R s args own index y bytes maxL ret hh ws rm mc ms n) (hp : PreS s H Pc As)
    (hg : g.method = m) (hn : As.length = n) (hsize : g.locals.size = nL) (hstack : g.stack = As.reverse ++ rest) (hW : 2 * g.monitorRoom + (rest.map fun v => v.category).sum ≤ 8) (hdg : decode cc g.pc = .ok (.invokestatic index, 3)) (hf : cells + mc ≤ R.cells ∧ slots + ms ≤ R.slots) :
    va_Run p l e R s m args below meth c H locs cells slots mc ms g rest (Qc As.toArray) (free) := by
  obtain ⟨⟨hrc, hrs, hfr, hlo, hws, hcw⟩, hcode, hini, hy, hlen, hl, hstt⟩ := cw
  have hK : Back l R p e below s args y 3 8 (PreOf R mc ms Pc) (PostOf Qc mc ms free) := va_backW (hh := hh) (bytes := bytes) (maxL := maxL) (ret := ret) hM hp.1 hrc hrs hfr hlo hws hcw (fun a' U hW => word_at hW (Or.inl (by first | rfl | simp [Cond.onTables, Cond.keeps, Cond.steady])) hini)
  obtain ⟨hx, hb, hml, ho, -⟩ := S
  intro T hT X
  obtain ⟨v, vm₁, ⟨U', l2, c2, s2⟩, hW₁, X', ⟨g', mk, t, L, e1, e2, hq, h1, hL, h2, h3⟩, st⟩ := vx_callSW X hx (hh := hh) (bytes := bytes) (maxL := maxL) (ret := ret) ho hl hstt hini hcode hy hK hg (hsize.trans hml.symm) (argsL := As) (rest := rest) (fun sig h => hn.trans (hlen sig h)) hstack hW (by rw [hb]; exact hdg)
    (fun vm₁ hW₁ => ⟨hf.1, hf.2, hp.2 (T.setVm vm₁) hT hW₁⟩)
  dsimp only [Pt.U, Pt.locs, Pt.cells, Pt.slots] at X' e1 e2 h1 h2 h3 st
  subst h1; subst h2; subst h3
  exact ⟨v, (T.setVm vm₁).calling g' mk As.toArray, t, U', L, hT, X', hL, e1, e2, hq, st⟩
/-- not caught here, past rows that name other classes: it goes on to the caller -/
theorem vx_outP {p : Program} {l : Launch} {e : Env} {R : Room} {s : State} {m : MethodId} {args : Array Value} {below : List Frame} {meth : Method} {c : Code} {H : Heap} {locs : List Loc} {cells slots : Nat} {free : Addr → Prop} {ls : Array Slot} {rest : List Value} {Qc : Array Value → State → Outcome → State → Prop} {XC : String → State → State → Prop}
    {pc : Nat} {own E : String} {ce : Cell} {q : Addr} {mc ms : Nat} (hown : s.vm.findClass own = some m.cls) (hlocks : meth.locks = false)
    (hpass : ∀ z ∈ c.exceptionTable.toList, covers z pc = false ∨ (z.catchType ≠ 0 ∧ ∃ nm : String, (Cond.classLink own z.catchType nm).before args s = true ∧ va_Nc E nm s)) (hcell : H[q]? = some ce) (hv : ce.vm = .none) (hcl : s.vm.findClass E = some ce.cls)
    (hx : ∀ t : State, t.heap = H → s.vm.Alike t.vm → XC E s t) (hf : ∀ z ∈ locs, free z.base) (hc : cells ≤ mc) (hs : slots ≤ ms) :
    vx_W p l e R s m args below meth c H locs cells slots (vx_MQ below Qc XC args s mc ms free) (F0 m pc ls rest) q := by
  intro T hT X
  have hpl : e.platform.magicAccessors = ({} : Platform).magicAccessors := by rw [X.admits.platform]
  obtain ⟨vm', hW', X', st⟩ := X.outThrough hlocks q (g := F0 m pc ls rest) rfl rfl rfl (cell := ce) (by rw [hT]; exact hcell) (by rw [hv]; rfl)
    (by obtain ⟨k9, h9, -⟩ := Vm.findClass_spec hcl; exact ⟨k9, h9⟩) (fun z hz => by
      rcases hpass z hz with h | ⟨hz0, nm, hl1, hn1⟩
      · exact Or.inl h
      · obtain ⟨c6, hc6, hcl6⟩ := Cond.classLink_spec hown hl1 e.platform hpl
        obtain ⟨a8, b8, h1, h2, h3⟩ := hn1
        cases Option.some.inj (h1.symm.trans hcl)
        cases Option.some.inj (h2.symm.trans hc6)
        exact Or.inr ⟨hz0, _, hcl6, h3⟩)
  obtain ⟨g₀, hfr⟩ := X'.frames_eq
  have hcell9 : ((T.setVm vm').setFrames (.throwing q :: below)).heap[q]? = some ce := by
    show T.heap[q]? = some ce
    rw [hT]; exact hcell
  have hend : Ended ((T.setVm vm').setFrames (.throwing q :: below)) below (.threw q) := State.frames_setFrames _ (State.cur_lt_of_frames hfr)
  refine ⟨(T.setVm vm').setFrames (.throwing q :: below), ?_, .threw q, X'.here.running, hend, Or.inr ⟨q, rfl, E, ce, locs, hx _ hT (X'.ends _).1.alike, hcell9, hv, hcl, (X'.ends _).1, (X'.ends _).2.mono hc hs, hf⟩⟩
  rw [X.pushThrowing_eq]
  exact st
/-- a thing of a world lies in the heap -/
theorem vx_lt {D : va_G} {cl : List vw_C} {ws : va_W} {H1 : Heap} (h : va_P D cl ws H1) {k : Nat} {q : Nat × va_E} (hk : ws[k]? = some q) : q.1 < H1.size := (h k q hk).lt
end VXS
/-! ===== END ===== -/
/-! ===== BEGIN methods with a table of their own: called by a name, returning or throwing ===== -/
section VXH
/-! vx_backW, vx_callVX, vx_callSX, vx_callVW, vx_runVW, vx_runVX, vx_runSX, vx_ofWH follow the same proofs as their sisters above (Free/Laws.lean, Shelf42/LK1.lean); vx_outP calls Shelf42/NT130.lean (outThrough). -/
section
variable {l : Launch} {R : Room} {p : Program} {e : Env} {below : List Frame} {s : State} {sargs : Array Value} {y : MethodName} {len W9 : Nat}
theorem vx_backW {ws : List Cond} {rm : Room} {Pc : Array Value → State → Prop} {Qc : Array Value → State → Outcome → State → Prop} {XC : String → State → State → Prop} {mc ms : Nat} {free : Addr → Prop} {bytes : ByteArray} {maxL : Nat} {ret : Option FieldType} {hh : List (Nat × Nat × Nat × Nat)}
    (hM : vx_Met l y ws rm Pc Qc XC mc ms free) (hblind : FrameBlind Pc) (hrc : rm.cells = mc) (hrs : rm.slots = ms)
    (hframes : rm.frames + 1 ≤ R.frames) (hlocals : W9 + (maxL + 11) + rm.locals ≤ R.locals)
    (hws : ∀ w ∈ ws, ∀ a' U, s.WarmedH U.vm → w.before a' U = true) (hcode : Cond.codeWith y bytes maxL ret hh ∈ ws) (hinit : ∀ a' U, s.WarmedH U.vm → (Cond.initialized y.cls).before a' U = true) :
    vx_Back l R p e below s sargs y len W9 (PreOf R mc ms Pc) (PostOf Qc mc ms free) (vx_Post XC mc ms free) := by
  intro m meth c A g ig mk a X hg hsize hdg hW hn hp
  have h1 : (headSpec ws rm).pre.before a A.U = true := atoms_intro fun w hw => hws w hw _ _ X.warmed
  have h2 : (Cond.codeWith y bytes maxL ret hh).before a A.U = true := hws _ hcode _ _ X.warmed
  have h3 : (Cond.initialized y.cls).before a A.U = true := hinit _ _ X.warmed
  have h4 : A.cells + (headSpec ws rm).room.cells ≤ R.cells := by rw [show (headSpec ws rm).room.cells = mc from hrc]; exact hp.1
  have h5 : A.slots + (headSpec ws rm).room.slots ≤ R.slots := by rw [show (headSpec ws rm).room.slots = ms from hrs]; exact hp.2.1
  have hPc : Pc a (A.U.calling g mk a) := hblind _ _ _ _ hp.2.2
  obtain ⟨U, Ls, c0, s0⟩ := A
  dsimp only [Pt.U, Pt.locs, Pt.cells, Pt.slots] at h1 h2 h3 h4 h5 X hn hPc ⊢
  obtain ⟨m9, methY, cY, hn9, hmY, hcY, -, hlY, -⟩ := Cond.codeWith_spec h2
  cases Option.some.inj (hn9.symm.trans hn)
  obtain ⟨kY, hkY, -⟩ := className_of_methodNamed hn
  have hinitY : kY.init = .initialized := Cond.initialized_spec (findClass_of_methodNamed hn) hkY h3
  have h : At U g.method c below := by rw [hg]; exact X.here
  have hlocals9 : W9 + (maxL + 11) + (headSpec ws rm).room.locals ≤ R.locals := hlocals
  have happ : (headSpec ws rm).appliesLoose y e.platform (U.calling g mk a) = true :=
    Spec.appliesLoose_calling (g := g) h hdg hn hkY hinitY
      (X.room_calling (g := g) (R' := (headSpec ws rm).room) hsize hmY hcY hframes (by rw [hlY]; omega) h4 h5) h1
  obtain ⟨mid, hmid⟩ := h.above
  have hfr : (U.setTop g).frames = (.java g :: mid) ++ below := by rw [State.frames_setTop' g h.top, hmid]; rfl
  obtain ⟨o, s₂, hsteps, -, hend, hq⟩ := Steps.callFree hM p X.admits X.cas X.clock (acts := []) hfr happ hPc trivial
  have hq' : vx_Q Qc XC mc ms free a (U.calling g mk a) o s₂ := hq
  rw [State.frames_setTop' g h.top] at hend
  obtain ⟨g₀, hg0⟩ := Option.isSome_iff_exists.mp h.top
  obtain ⟨r, hr⟩ := State.topJava?_eq_some.mp hg0
  have hr' : (({ U with heap := s₂.heap, slotsUsed := s₂.slotsUsed } : State).setVm s₂.vm).frames = .java g₀ :: r := hr
  rcases hq' with ⟨hqc, L, hfe, hL⟩ | ⟨q, rfl, E, ce, L, hx, hce, hcv, hcl, hW₂, hsm, hL⟩
  · obtain ⟨⟨v, rfl⟩, hW₂, e2, q2, q3, q4, q5, q6⟩ := id hfe
    have e3 : s₂ = ({ (U.calling g mk a).setFrames s₂.frames with heap := s₂.heap, slotsUsed := s₂.slotsUsed } : State).setVm s₂.vm := by
      have : s₂ = ({ s₂ with vm := (U.calling g mk a).vm } : State).setVm s₂.vm := rfl
      rw [e2] at this
      exact this
    obtain ⟨c₂, i₂, len₂, hc₂, hd₂, hf₂⟩ := hend
    have hW' : U.WarmedH s₂.vm := hW₂
    have hcc : c₂ = c := by
      have h1 : s₂.code? g.method = U.code? g.method := by
        rw [State.code?_eq, State.code?_eq, hW'.alike.method?]
      exact Option.some.inj (hc₂.symm.trans (h1.trans h.code))
    subst hcc
    have hlen : len₂ = len := by rw [hdg] at hd₂; cases hd₂; rfl
    subst hlen
    have hs₂ : s₂ = (({ U with heap := s₂.heap, slotsUsed := s₂.slotsUsed } : State).setVm s₂.vm).setTop { g with pc := g.pc + len₂, stack := v.toList ++ g.stack } := by
      refine e3.trans ?_
      rw [hf₂, State.calling_eq h.top, State.setFrames_setFrames, State.setTop_of_frames _ hr', hr]
      rfl
    have hsame : U.sameButNew ({ U with heap := s₂.heap, slotsUsed := s₂.slotsUsed } : State) L mc ms := by
      refine ⟨?_, q2, q3, q4, q5, q6⟩
      obtain ⟨t, ht, -⟩ := State.frames_cons hr
      show ({ U with heap := s₂.heap, slotsUsed := s₂.slotsUsed } : State) = { U.setFrames U.frames with heap := s₂.heap, slotsUsed := s₂.slotsUsed }
      rw [State.setFrames_self ht]
    subst hg
    refine Or.inl ⟨v, ⟨(({ U with heap := s₂.heap, slotsUsed := s₂.slotsUsed } : State).setVm s₂.vm), Ls ++ L, c0 + mc, s0 + ms⟩,
      ⟨X.admits, X.cas, X.clock, X.frames, X.room, X.hears, X.method, X.code, (X.here.setHeapUsed s₂.heap s₂.slotsUsed).setVm hW'.alike, X.tail, State.WarmedH.trans X.warmed hW', X.limits, X.bytes, X.same.trans (hsame.setVm s.vm)⟩,
      ⟨g, mk, s₂, L, rfl, rfl, hqc, rfl, hL, rfl, rfl⟩, ?_⟩
    show Steps p.tables e below _ ((({ U with heap := s₂.heap, slotsUsed := s₂.slotsUsed } : State).setVm s₂.vm).setTop { g with pc := g.pc + len₂, stack := v.toList ++ g.stack })
    rw [← hs₂]
    exact hsteps
  · obtain ⟨e2, q2, q3, q4, q5, q6⟩ := id hsm
    have e3 : s₂ = ({ (U.calling g mk a).setFrames s₂.frames with heap := s₂.heap, slotsUsed := s₂.slotsUsed } : State).setVm s₂.vm := by
      have : s₂ = ({ s₂ with vm := (U.calling g mk a).vm } : State).setVm s₂.vm := rfl
      rw [e2] at this
      exact this
    have hf₂ : s₂.frames = .throwing q :: .java g :: U.frames.tail := hend
    have hW' : U.WarmedH s₂.vm := hW₂
    have hs₂ : s₂ = ((({ U with heap := s₂.heap, slotsUsed := s₂.slotsUsed } : State).setVm s₂.vm).setTop g).pushFrame (.throwing q) := by
      refine e3.trans ?_
      rw [hf₂, State.calling_eq h.top, State.setFrames_setFrames, State.pushFrame, State.frames_setTop _ hr', State.setTop_of_frames _ hr', State.setFrames_setFrames, hr]
      rfl
    have hsame : U.sameButNew ({ U with heap := s₂.heap, slotsUsed := s₂.slotsUsed } : State) L mc ms := by
      refine ⟨?_, q2, q3, q4, q5, q6⟩
      obtain ⟨t, ht, -⟩ := State.frames_cons hr
      show ({ U with heap := s₂.heap, slotsUsed := s₂.slotsUsed } : State) = { U.setFrames U.frames with heap := s₂.heap, slotsUsed := s₂.slotsUsed }
      rw [State.setFrames_self ht]
    subst hg
    refine Or.inr ⟨q, ⟨(({ U with heap := s₂.heap, slotsUsed := s₂.slotsUsed } : State).setVm s₂.vm), Ls ++ L, c0 + mc, s0 + ms⟩,
      ⟨X.admits, X.cas, X.clock, X.frames, X.room, X.hears, X.method, X.code, (X.here.setHeapUsed s₂.heap s₂.slotsUsed).setVm hW'.alike, X.tail, State.WarmedH.trans X.warmed hW', X.limits, X.bytes, X.same.trans (hsame.setVm s.vm)⟩,
      ⟨g, mk, s₂, L, E, ce, rfl, rfl, hx, hce, hcv, hcl, rfl, hL, rfl, rfl⟩, ?_⟩
    show Steps p.tables e below _ (((({ U with heap := s₂.heap, slotsUsed := s₂.slotsUsed } : State).setVm s₂.vm).setTop g).pushFrame (.throwing q))
    rw [← hs₂]
    exact hsteps
end
variable {p : Program} {l : Launch} {e : Env} {R : Room} {s : State} {m : MethodId} {args : Array Value} {below : List Frame} {meth : Method} {c : Code} {T : State} {H : Heap} {locs : List Loc} {cells slots : Nat}
theorem vx_callVX (X : Stand p l e R s m args below meth c T locs cells slots) (hexec : p.tables.exec = Jvm.exec) {own C : String} {index : Nat} {y : MethodName} {bytes : ByteArray} {maxL : Nat} {ret : Option FieldType} {hh : List (Nat × Nat × Nat × Nat)}
    (hown : s.vm.findClass own = some m.cls) (hlink : (Cond.methodLink own index y).before args s = true) (hinst : (Cond.instanceMethod y).before args s = true) (hsel : (Cond.selects C y y).before args s = true)
    (hcode : (Cond.codeWith y bytes maxL ret hh).before args s = true) (hy : y.cls ≠ "java/lang/invoke/MethodHandle" ∧ y.cls ≠ "java/lang/invoke/VarHandle")
    {W9 : Nat} {Pre : Pt → Array Value → Prop} {Post : Pt → Array Value → Option Value → Pt → Prop} {PostX : Pt → Array Value → Addr → Pt → Prop} (hK : vx_Back l R p e below s args y 3 W9 Pre Post PostX)
    {b : Addr} {cellB : Cell} (hcell : T.heap[b]? = some cellB) (hobj : cellB.vm.isStatics = false) (hcls : s.vm.findClass C = some cellB.cls)
    {g : JFrame} (hg : g.method = m) (hsize : g.locals.size = c.maxLocals) {argsL rest : List Value} (hlen : ∀ sig, parseMethodDescriptor y.desc = some sig → argsL.length = sig.parameters.length)
    (hstack : g.stack = argsL.reverse ++ .ref b :: rest) (hW : 2 * g.monitorRoom + (rest.map fun v => v.category).sum ≤ W9) (hdg : decode c.code g.pc = .ok (.invokevirtual index, 3))
    (hpre : ∀ vm₁, s.WarmedH vm₁ → Pre ⟨T.setVm vm₁, locs, cells, slots⟩ (Value.ref b :: argsL).toArray) :
    (∃ (v : Option Value) (vm₁ : Vm) (B : Pt), s.WarmedH vm₁ ∧ Stand p l e R s m args below meth c B.U B.locs B.cells B.slots ∧ Post ⟨T.setVm vm₁, locs, cells, slots⟩ (Value.ref b :: argsL).toArray v B ∧
      ∀ target, Steps p.tables e below (B.U.setTop { g with pc := g.pc + 3, stack := v.toList ++ rest }) target → Steps p.tables e below (T.setTop g) target) ∨
    (∃ (q : Addr) (vm₁ : Vm) (B : Pt), s.WarmedH vm₁ ∧ Stand p l e R s m args below meth c B.U B.locs B.cells B.slots ∧ PostX ⟨T.setVm vm₁, locs, cells, slots⟩ (Value.ref b :: argsL).toArray q B ∧
      Steps p.tables e below (T.setTop g) ((B.U.setTop { g with stack := rest }).pushFrame (.throwing q))) := by
  obtain ⟨mk, methM, hnamed, hmethM, hstM, habM⟩ := Cond.instanceMethod_spec hinst
  obtain ⟨m8, methM', cM, hn8, hmethM', -, -, -, -, -, -, hsigM⟩ := Cond.codeWith_spec hcode
  cases Option.some.inj (hn8.symm.trans hnamed)
  cases hmethM.symm.trans hmethM'
  obtain ⟨c2, r2, m2, q1, q2, q3, q4, kP, hkP, hkPi⟩ := Cond.selects_spec hsel
  cases hcls.symm.trans q1
  cases (State.methodFound?_of_named hnamed hy).symm.trans q2
  cases hnamed.symm.trans q3
  have hselP : selectMethod e.platform s.vm cellB.cls mk = .method mk := by rw [Launch.admits_selectMethod X.admits]; exact q4
  obtain ⟨vm₁, X₁, hstep₁⟩ := X.invokevirtual hexec hown hlink hnamed hmethM hstM hkP hkPi hy (a := b) (cell := cellB) hcell
    (fun z h => by rw [h] at hobj; cases hobj) hselP hmethM habM hkP hkPi (g := g) hg (argsL := argsL) (rest := rest) (hlen _ hsigM) hstack hdg
  rcases hK m meth c ⟨T.setVm vm₁, locs, cells, slots⟩ { g with stack := rest } (.invokevirtual index) mk (Value.ref b :: argsL).toArray X₁ hg hsize hdg hW (X₁.named hnamed) (hpre vm₁ X₁.warmed) with ⟨v, B, X', hpost, hsteps⟩ | ⟨q, B, X', hpost, hsteps⟩
  · exact Or.inl ⟨v, vm₁, B, X₁.warmed, X', hpost, fun target h => hstep₁ _ fun acts => by rw [doInvoke_state]; exact hsteps.trans h⟩
  · exact Or.inr ⟨q, vm₁, B, X₁.warmed, X', hpost, hstep₁ _ fun acts => by rw [doInvoke_state]; exact hsteps⟩
theorem vx_callSX (X : Stand p l e R s m args below meth c T locs cells slots) (hexec : p.tables.exec = Jvm.exec) {own : String} {index : Nat} {y : MethodName} {bytes : ByteArray} {maxL : Nat} {ret : Option FieldType} {hh : List (Nat × Nat × Nat × Nat)}
    (hown : s.vm.findClass own = some m.cls) (hlink : (Cond.methodLink own index y).before args s = true) (hstat : (Cond.static y).before args s = true) (hinit : (Cond.initialized y.cls).before args s = true)
    (hcode : (Cond.codeWith y bytes maxL ret hh).before args s = true) (hy : y.cls ≠ "java/lang/invoke/MethodHandle" ∧ y.cls ≠ "java/lang/invoke/VarHandle")
    {W9 : Nat} {Pre : Pt → Array Value → Prop} {Post : Pt → Array Value → Option Value → Pt → Prop} {PostX : Pt → Array Value → Addr → Pt → Prop} (hK : vx_Back l R p e below s args y 3 W9 Pre Post PostX)
    {g : JFrame} (hg : g.method = m) (hsize : g.locals.size = c.maxLocals) {argsL rest : List Value} (hlen : ∀ sig, parseMethodDescriptor y.desc = some sig → argsL.length = sig.parameters.length)
    (hstack : g.stack = argsL.reverse ++ rest) (hW : 2 * g.monitorRoom + (rest.map fun v => v.category).sum ≤ W9) (hdg : decode c.code g.pc = .ok (.invokestatic index, 3))
    (hpre : ∀ vm₁, s.WarmedH vm₁ → Pre ⟨T.setVm vm₁, locs, cells, slots⟩ argsL.toArray) :
    (∃ (v : Option Value) (vm₁ : Vm) (B : Pt), s.WarmedH vm₁ ∧ Stand p l e R s m args below meth c B.U B.locs B.cells B.slots ∧ Post ⟨T.setVm vm₁, locs, cells, slots⟩ argsL.toArray v B ∧
      ∀ target, Steps p.tables e below (B.U.setTop { g with pc := g.pc + 3, stack := v.toList ++ rest }) target → Steps p.tables e below (T.setTop g) target) ∨
    (∃ (q : Addr) (vm₁ : Vm) (B : Pt), s.WarmedH vm₁ ∧ Stand p l e R s m args below meth c B.U B.locs B.cells B.slots ∧ PostX ⟨T.setVm vm₁, locs, cells, slots⟩ argsL.toArray q B ∧
      Steps p.tables e below (T.setTop g) ((B.U.setTop { g with stack := rest }).pushFrame (.throwing q))) := by
  obtain ⟨mk, methM, cM, hnamed, hmethM, -, -, -, -, -, -, hsigM⟩ := Cond.codeWith_spec hcode
  have hstatic : methM.isStatic = true := Cond.static_spec hnamed hmethM hstat
  obtain ⟨kP, hkP, -⟩ := className_of_methodNamed hnamed
  have hinitP : kP.init = .initialized := Cond.initialized_spec (findClass_of_methodNamed hnamed) hkP hinit
  obtain ⟨vm₁, X₁, hstep₁⟩ := X.invokestatic hexec hown hlink hnamed hmethM hstatic hkP hinitP hy (g := g) hg (argsL := argsL) (rest := rest) (hlen _ hsigM) hstack hdg
  rcases hK m meth c ⟨T.setVm vm₁, locs, cells, slots⟩ { g with stack := rest } (.invokestatic index) mk argsL.toArray X₁ hg hsize hdg hW (X₁.named hnamed) (hpre vm₁ X₁.warmed) with ⟨v, B, X', hpost, hsteps⟩ | ⟨q, B, X', hpost, hsteps⟩
  · exact Or.inl ⟨v, vm₁, B, X₁.warmed, X', hpost, fun target h => hstep₁ _ fun acts => by rw [doInvoke_state]; exact hsteps.trans h⟩
  · exact Or.inr ⟨q, vm₁, B, X₁.warmed, X', hpost, hstep₁ _ fun acts => by rw [doInvoke_state]; exact hsteps⟩
theorem vx_callVW (X : Stand p l e R s m args below meth c T locs cells slots) (hexec : p.tables.exec = Jvm.exec) {own C : String} {index : Nat} {y : MethodName} {bytes : ByteArray} {maxL : Nat} {ret : Option FieldType} {hh : List (Nat × Nat × Nat × Nat)}
    (hown : s.vm.findClass own = some m.cls) (hlink : (Cond.methodLink own index y).before args s = true) (hinst : (Cond.instanceMethod y).before args s = true) (hsel : (Cond.selects C y y).before args s = true)
    (hcode : (Cond.codeWith y bytes maxL ret hh).before args s = true) (hy : y.cls ≠ "java/lang/invoke/MethodHandle" ∧ y.cls ≠ "java/lang/invoke/VarHandle")
    {W9 : Nat} {Pre : Pt → Array Value → Prop} {Post : Pt → Array Value → Option Value → Pt → Prop} (hK : Back l R p e below s args y 3 W9 Pre Post)
    {b : Addr} {cellB : Cell} (hcell : T.heap[b]? = some cellB) (hobj : cellB.vm.isStatics = false) (hcls : s.vm.findClass C = some cellB.cls)
    {g : JFrame} (hg : g.method = m) (hsize : g.locals.size = c.maxLocals) {argsL rest : List Value} (hlen : ∀ sig, parseMethodDescriptor y.desc = some sig → argsL.length = sig.parameters.length)
    (hstack : g.stack = argsL.reverse ++ .ref b :: rest) (hW : 2 * g.monitorRoom + (rest.map fun v => v.category).sum ≤ W9) (hdg : decode c.code g.pc = .ok (.invokevirtual index, 3))
    (hpre : ∀ vm₁, s.WarmedH vm₁ → Pre ⟨T.setVm vm₁, locs, cells, slots⟩ (Value.ref b :: argsL).toArray) :
    ∃ (v : Option Value) (vm₁ : Vm) (B : Pt), s.WarmedH vm₁ ∧ Stand p l e R s m args below meth c B.U B.locs B.cells B.slots ∧ Post ⟨T.setVm vm₁, locs, cells, slots⟩ (Value.ref b :: argsL).toArray v B ∧
      ∀ target, Steps p.tables e below (B.U.setTop { g with pc := g.pc + 3, stack := v.toList ++ rest }) target → Steps p.tables e below (T.setTop g) target := by
  obtain ⟨mk, methM, hnamed, hmethM, hstM, habM⟩ := Cond.instanceMethod_spec hinst
  obtain ⟨m8, methM', cM, hn8, hmethM', -, -, -, -, -, -, hsigM⟩ := Cond.codeWith_spec hcode
  cases Option.some.inj (hn8.symm.trans hnamed)
  cases hmethM.symm.trans hmethM'
  obtain ⟨c2, r2, m2, q1, q2, q3, q4, kP, hkP, hkPi⟩ := Cond.selects_spec hsel
  cases hcls.symm.trans q1
  cases (State.methodFound?_of_named hnamed hy).symm.trans q2
  cases hnamed.symm.trans q3
  have hselP : selectMethod e.platform s.vm cellB.cls mk = .method mk := by rw [Launch.admits_selectMethod X.admits]; exact q4
  obtain ⟨vm₁, X₁, hstep₁⟩ := X.invokevirtual hexec hown hlink hnamed hmethM hstM hkP hkPi hy (a := b) (cell := cellB) hcell
    (fun z h => by rw [h] at hobj; cases hobj) hselP hmethM habM hkP hkPi (g := g) hg (argsL := argsL) (rest := rest) (hlen _ hsigM) hstack hdg
  obtain ⟨v, B, X', hpost, hsteps⟩ := hK m meth c ⟨T.setVm vm₁, locs, cells, slots⟩ { g with stack := rest } (.invokevirtual index) mk (Value.ref b :: argsL).toArray X₁ hg hsize hdg hW (X₁.named hnamed) (hpre vm₁ X₁.warmed)
  exact ⟨v, vm₁, B, X₁.warmed, X', hpost, fun target h => hstep₁ _ fun acts => by rw [doInvoke_state]; exact hsteps.trans h⟩
abbrev vx_CVW (R : Room) (s : State) (args : Array Value) (own C : String) (index : Nat) (y : MethodName) (bytes : ByteArray) (maxL : Nat) (ret : Option FieldType) (hh : List (Nat × Nat × Nat × Nat)) (ws : List Cond) (rm : Room) (mc ms n : Nat) : Prop :=
  (rm.cells = mc ∧ rm.slots = ms ∧ rm.frames + 1 ≤ R.frames ∧ 8 + (maxL + 11) + rm.locals ≤ R.locals ∧ (∀ w ∈ ws, ∀ (a' : Array Value) (U : State), s.WarmedH U.vm → w.before a' U = true) ∧ Cond.codeWith y bytes maxL ret hh ∈ ws) ∧
  (Cond.codeWith y bytes maxL ret hh).before args s = true ∧ (Cond.initialized y.cls).before args s = true ∧ (y.cls ≠ "java/lang/invoke/MethodHandle" ∧ y.cls ≠ "java/lang/invoke/VarHandle") ∧
  (∀ sig, parseMethodDescriptor y.desc = some sig → n = sig.parameters.length) ∧ (Cond.methodLink own index y).before args s = true ∧ (Cond.instanceMethod y).before args s = true ∧ (Cond.selects C y y).before args s = true
theorem vx_cwVW {own C : String} {index maxL mc ms : Nat} {y : MethodName} {bytes : ByteArray} {ret : Option FieldType} {hh : List (Nat × Nat × Nat × Nat)} {Ts ws ws' : List Cond} {rm : Room} (n : Nat) (ht : ∀ w ∈ Ts, w.before args s = true) (hT : GoodIn Ts (wsV own index C y ws)) (hw : ws = Cond.codeWith y bytes maxL ret hh :: ws') (hrc : rm.cells = mc) (hrs : rm.slots = ms)
    (hd : y.cls = C ∧ y.cls ≠ "java/lang/invoke/MethodHandle" ∧ y.cls ≠ "java/lang/invoke/VarHandle" ∧ (parseMethodDescriptor y.desc).map (fun d => d.parameters.length) = some n) (hR : rm.frames + 1 ≤ R.frames ∧ 8 + (maxL + 11) + rm.locals ≤ R.locals) :
    vx_CVW R s args own C index y bytes maxL ret hh ws rm mc ms n := by
  obtain ⟨hC, hd⟩ := hd
  subst hC
  have ok : ∀ w ∈ wsV own index y.cls y ws, w.before args s = true := fun w h => ht w (hT w h).1
  have hG : GoodIn Ts ws := fun w h => hT w (by unfold wsV; exact List.mem_append_right _ h)
  have hc : Cond.codeWith y bytes maxL ret hh ∈ ws := by rw [hw]; exact List.mem_cons_self
  refine ⟨⟨hrc, hrs, hR.1, hR.2, pay_in ht hG, hc⟩, ht _ (hG _ hc).1, ok _ (by simp [wsV]), ⟨hd.1, hd.2.1⟩, fun sig h => ?_, ok _ (by simp [wsV]), ok _ (by simp [wsV]), ok _ (by simp [wsV])⟩
  have h2 := hd.2.2
  rw [h] at h2
  exact (Option.some.inj h2).symm
theorem vx_runVW {y : MethodName} {bytes cc : ByteArray} {maxL nL mc ms n index : Nat} {ret : Option FieldType} {hh : List (Nat × Nat × Nat × Nat)} {ws : List Cond} {rm : Room} {Pc : Array Value → State → Prop} {Qc : Array Value → State → Outcome → State → Prop} {free : Addr → Prop} {Ts : List Cond} {own C : String} {b : Addr} {As rest : List Value} {g : JFrame}
    (S : CallFix p m c cc nL s args Ts own) (hM : Met l y ws rm Pc Qc mc ms free) (cw : vx_CVW R s args own C index y bytes maxL ret hh ws rm mc ms n) (hp : PreV s H C b Pc As)
    (hg : g.method = m) (hn : As.length = n) (hsize : g.locals.size = nL) (hstack : g.stack = As.reverse ++ .ref b :: rest) (hW : 2 * g.monitorRoom + (rest.map fun v => v.category).sum ≤ 8) (hdg : decode cc g.pc = .ok (.invokevirtual index, 3)) (hf : cells + mc ≤ R.cells ∧ slots + ms ≤ R.slots) :
    va_Run p l e R s m args below meth c H locs cells slots mc ms g rest (Qc (Value.ref b :: As).toArray) free := by
  obtain ⟨⟨hrc, hrs, hfr, hlo, hws, hcw⟩, hcode, hini, hy, hlen, hl, hin, hse⟩ := cw
  have hK : Back l R p e below s args y 3 8 (PreOf R mc ms Pc) (PostOf Qc mc ms free) := va_backW (hh := hh) (bytes := bytes) (maxL := maxL) (ret := ret) hM hp.1 hrc hrs hfr hlo hws hcw (fun a' U hW => word_at hW (Or.inl (by first | rfl | simp [Cond.onTables, Cond.keeps, Cond.steady])) hini)
  obtain ⟨hx, hb, hml, ho, -⟩ := S
  obtain ⟨-, ⟨cellB, hcB, hoB, hclB⟩, hPc⟩ := hp
  intro T hT X
  obtain ⟨v, vm₁, ⟨U', l2, c2, s2⟩, hW₁, X', ⟨g', mk, t, L, e1, e2, hq, h1, hL, h2, h3⟩, st⟩ := vx_callVW X hx (C := C) (hh := hh) (bytes := bytes) (maxL := maxL) (ret := ret) ho hl hin hse hcode hy hK (by rw [hT]; exact hcB) hoB hclB hg (hsize.trans hml.symm) (argsL := As) (rest := rest) (fun sig h => hn.trans (hlen sig h)) hstack hW (by rw [hb]; exact hdg)
    (fun vm₁ hW₁ => ⟨hf.1, hf.2, hPc (T.setVm vm₁) hT hW₁⟩)
  dsimp only [Pt.U, Pt.locs, Pt.cells, Pt.slots] at X' e1 e2 h1 h2 h3 st
  subst h1; subst h2; subst h3
  exact ⟨v, (T.setVm vm₁).calling g' mk (Value.ref b :: As).toArray, t, U', L, hT, X', hL, e1, e2, hq, st⟩
section
variable {y : MethodName} {bytes cc : ByteArray} {maxL nL mc ms n index : Nat} {ret : Option FieldType} {ws : List Cond} {rm : Room} {Pc : Array Value → State → Prop} {Qc : Array Value → State → Outcome → State → Prop} {XC : String → State → State → Prop} {free : Addr → Prop} {Ts : List Cond} {own C : String} {b : Addr} {As rest : List Value} {g : JFrame}
theorem vx_runVX {hh : List (Nat × Nat × Nat × Nat)} (S : CallFix p m c cc nL s args Ts own) (hM : vx_Met l y ws rm Pc Qc XC mc ms free) (cw : vx_CVW R s args own C index y bytes maxL ret hh ws rm mc ms n) (hp : PreV s H C b Pc As)
    (hg : g.method = m) (hn : As.length = n) (hsize : g.locals.size = nL) (hstack : g.stack = As.reverse ++ .ref b :: rest) (hW : 2 * g.monitorRoom + (rest.map fun v => v.category).sum ≤ 8) (hdg : decode cc g.pc = .ok (.invokevirtual index, 3)) (hf : cells + mc ≤ R.cells ∧ slots + ms ≤ R.slots) :
    vx_Run p l e R s m args below meth c H locs cells slots mc ms g rest (Qc (Value.ref b :: As).toArray) XC free := by
  obtain ⟨⟨hrc, hrs, hfr, hlo, hws, hcw⟩, hcode, hini, hy, hlen, hl, hin, hse⟩ := cw
  have hK : vx_Back l R p e below s args y 3 8 (PreOf R mc ms Pc) (PostOf Qc mc ms free) (vx_Post XC mc ms free) := vx_backW (hh := hh) (bytes := bytes) (maxL := maxL) (ret := ret) hM hp.1 hrc hrs hfr hlo hws hcw (fun a' U hW => word_at hW (Or.inl (by first | rfl | simp [Cond.onTables, Cond.keeps, Cond.steady])) hini)
  obtain ⟨hx, hb, hml, ho, -⟩ := S
  obtain ⟨-, ⟨cellB, hcB, hoB, hclB⟩, hPc⟩ := hp
  intro T hT X
  rcases vx_callVX X hx (C := C) (hh := hh) (bytes := bytes) (maxL := maxL) (ret := ret) ho hl hin hse hcode hy hK (by rw [hT]; exact hcB) hoB hclB hg (hsize.trans hml.symm) (argsL := As) (rest := rest) (fun sig h => hn.trans (hlen sig h)) hstack hW (by rw [hb]; exact hdg)
    (fun vm₁ hW₁ => ⟨hf.1, hf.2, hPc (T.setVm vm₁) hT hW₁⟩) with ⟨v, vm₁, ⟨U', l2, c2, s2⟩, hW₁, X', ⟨g', mk, t, L, e1, e2, hq, h1, hL, h2, h3⟩, st⟩ | ⟨q, vm₁, ⟨U', l2, c2, s2⟩, hW₁, X', ⟨g', mk, t, L, E, ce, e1, e2, hq, hce, hcv, hcl, h1, hL, h2, h3⟩, st⟩
  · dsimp only [Pt.U, Pt.locs, Pt.cells, Pt.slots] at X' e1 e2 h1 h2 h3 st
    subst h1; subst h2; subst h3
    exact Or.inl ⟨v, (T.setVm vm₁).calling g' mk (Value.ref b :: As).toArray, t, U', L, hT, X', hL, e1, e2, hq, st⟩
  · dsimp only [Pt.U, Pt.locs, Pt.cells, Pt.slots] at X' e1 e2 h1 h2 h3 st hcl
    subst h1; subst h2; subst h3
    exact Or.inr ⟨q, (T.setVm vm₁).calling g' mk (Value.ref b :: As).toArray, t, U', L, E, ce, hT, X', hL, e1, e2, hq, hce, hcv, vx_cls hW₁ hcl, st⟩
theorem vx_runSX {hh : List (Nat × Nat × Nat × Nat)} (S : CallFix p m c cc nL s args Ts own) (hM : vx_Met l y ws rm Pc Qc XC mc ms free) (cw : vx_CSW R s args own index y bytes maxL ret hh ws rm mc ms n) (hp : PreS s H Pc As)
    (hg : g.method = m) (hn : As.length = n) (hsize : g.locals.size = nL) (hstack : g.stack = As.reverse ++ rest) (hW : 2 * g.monitorRoom + (rest.map fun v => v.category).sum ≤ 8) (hdg : decode cc g.pc = .ok (.invokestatic index, 3)) (hf : cells + mc ≤ R.cells ∧ slots + ms ≤ R.slots) :
    vx_Run p l e R s m args below meth c H locs cells slots mc ms g rest (Qc As.toArray) XC free := by
  obtain ⟨⟨hrc, hrs, hfr, hlo, hws, hcw⟩, hcode, hini, hy, hlen, hl, hstt⟩ := cw
  have hK : vx_Back l R p e below s args y 3 8 (PreOf R mc ms Pc) (PostOf Qc mc ms free) (vx_Post XC mc ms free) := vx_backW (hh := hh) (bytes := bytes) (maxL := maxL) (ret := ret) hM hp.1 hrc hrs hfr hlo hws hcw (fun a' U hW => word_at hW (Or.inl (by first | rfl | simp [Cond.onTables, Cond.keeps, Cond.steady])) hini)
  obtain ⟨hx, hb, hml, ho, -⟩ := S
  intro T hT X
  rcases vx_callSX X hx (hh := hh) (bytes := bytes) (maxL := maxL) (ret := ret) ho hl hstt hini hcode hy hK hg (hsize.trans hml.symm) (argsL := As) (rest := rest) (fun sig h => hn.trans (hlen sig h)) hstack hW (by rw [hb]; exact hdg)
    (fun vm₁ hW₁ => ⟨hf.1, hf.2, hp.2 (T.setVm vm₁) hT hW₁⟩) with ⟨v, vm₁, ⟨U', l2, c2, s2⟩, hW₁, X', ⟨g', mk, t, L, e1, e2, hq, h1, hL, h2, h3⟩, st⟩ | ⟨q, vm₁, ⟨U', l2, c2, s2⟩, hW₁, X', ⟨g', mk, t, L, E, ce, e1, e2, hq, hce, hcv, hcl, h1, hL, h2, h3⟩, st⟩
  · dsimp only [Pt.U, Pt.locs, Pt.cells, Pt.slots] at X' e1 e2 h1 h2 h3 st
    subst h1; subst h2; subst h3
    exact Or.inl ⟨v, (T.setVm vm₁).calling g' mk As.toArray, t, U', L, hT, X', hL, e1, e2, hq, st⟩
  · dsimp only [Pt.U, Pt.locs, Pt.cells, Pt.slots] at X' e1 e2 h1 h2 h3 st hcl
    subst h1; subst h2; subst h3
    exact Or.inr ⟨q, (T.setVm vm₁).calling g' mk As.toArray, t, U', L, E, ce, hT, X', hL, e1, e2, hq, hce, hcv, vx_cls hW₁ hcl, st⟩
end
end VXH
theorem vx_ofWH {l : Launch} {y : MethodName} {ws ws' : List Cond} {rm : Room} {Pc : Array Value → State → Prop} {Qc : Array Value → State → Outcome → State → Prop} {XC : String → State → State → Prop} {mc ms : Nat} {free : Addr → Prop} {cc : ByteArray} {maxL : Nat} {ret : Option FieldType} {hh : List (Nat × Nat × Nat × Nat)}
    (hy : plainName y.cls = true) (hw : ws = Cond.codeWith y cc maxL ret hh :: ws')
    (body : ∀ p e s m args below meth c s₁, BodyLoose p l y (headSpec ws rm) cc maxL ret e s m args below meth c s₁ → c.maxLocals = maxL → Pc args s →
      W p l e (headSpec ws rm).room s m args below meth c s.heap [] 0 0 (vx_MQ below Qc XC args s mc ms free) (entryFrame m args maxL)) : vx_Met l y ws rm Pc Qc XC mc ms free := by
  refine MetFree.of_bodyS (code := cc) (maxLocals := maxL) (ret := ret) hy ?_ ?_
  · intro args s m h hn
    obtain ⟨m9, meth, c, hn9, h1, h2, h3, h4, -, h5, h6, -⟩ := Cond.codeWith_spec (atoms_spec (ws := ws) h _ (by rw [hw]; exact List.mem_cons_self))
    cases hn.symm.trans hn9
    exact ⟨meth, c, h1, h2, h3, h4, h5, h6⟩
  · intro p e s m args below meth c s₁ B hml hP _
    have hh0 : s₁.heap = s.heap := by rw [B.state]; rfl
    obtain ⟨t, a1, o, b1, b2, b3⟩ := body p e s m args below meth c s₁ B hml hP s₁ hh0 (Stand.of_body B)
    exact ⟨t, o, a1, b1, b2, b3⟩
/-! ===== END ===== -/
end
section
def RX0 : String := "MirrorTelegraph$Clouds"
def TX0 : u_T := fun k => match k with
  | 0 => ("MirrorTelegraph$Clouds", "wests", "[I", true)
  | 1 => ("MirrorTelegraph$Clouds", "easts", "[I", true)
  | 2 => ("MirrorTelegraph$Clouds", "norths", "[I", true)
  | 3 => ("MirrorTelegraph$Clouds", "souths", "[I", true)
  | 4 => ("MirrorTelegraph$Clouds", "firstHours", "[I", true)
  | 5 => ("MirrorTelegraph$Clouds", "lastHours", "[I", true)
  | _ => ("MirrorTelegraph$Clouds", "size", "I", false)
def tyX0 : Nat → FieldType := fun k => match k with
  | 0 => .array .int
  | 1 => .array .int
  | 2 => .array .int
  | 3 => .array .int
  | 4 => .array .int
  | 5 => .array .int
  | _ => .int
abbrev wsX00 : List Cond := u_ws RX0 TX0 7
theorem nmX0 : ∀ a, a < 7 → ∀ b, b < 7 → a ≠ b → (TX0 a).2.1 ≠ (TX0 b).2.1 := by decide +kernel
theorem tyX0_ok : ∀ k, k < 7 → parseFieldDescriptor (TX0 k).2.2.1 = some (tyX0 k) := by decide +kernel
abbrev cX0_init : ByteArray := prog_2_method_1_code
def yX0_init : MethodName := ⟨RX0, "<init>", "()V"⟩
abbrev cX0_size : ByteArray := prog_2_method_2_code
def yX0_size : MethodName := ⟨RX0, "size", "()I"⟩
abbrev cX0_add : ByteArray := prog_2_method_3_code
def yX0_add : MethodName := ⟨RX0, "add", "(IIII)I"⟩
abbrev cX0_clear : ByteArray := prog_2_method_4_code
def yX0_clear : MethodName := ⟨RX0, "clear", "()V"⟩
abbrev cX0_cover : ByteArray := prog_2_method_5_code
def yX0_cover : MethodName := ⟨RX0, "cover", "(II)Z"⟩
def RX1 : String := "MirrorTelegraph$HeightText"
def TX1 : u_T := fun k => match k with
  | 0 => ("MirrorTelegraph$HeightText", "codes", "[I", true)
  | 1 => ("MirrorTelegraph$HeightText", "itemHeights", "[I", true)
  | 2 => ("MirrorTelegraph$HeightText", "itemRepeats", "[I", true)
  | 3 => ("MirrorTelegraph$HeightText", "length", "I", false)
  | 4 => ("MirrorTelegraph$HeightText", "items", "I", false)
  | _ => ("MirrorTelegraph$HeightText", "state", "I", false)
def tyX1 : Nat → FieldType := fun k => match k with
  | 0 => .array .int
  | 1 => .array .int
  | 2 => .array .int
  | 3 => .int
  | 4 => .int
  | _ => .int
abbrev wsX10 : List Cond := u_ws RX1 TX1 6
theorem nmX1 : ∀ a, a < 6 → ∀ b, b < 6 → a ≠ b → (TX1 a).2.1 ≠ (TX1 b).2.1 := by decide +kernel
theorem tyX1_ok : ∀ k, k < 6 → parseFieldDescriptor (TX1 k).2.2.1 = some (tyX1 k) := by decide +kernel
abbrev cX1_init : ByteArray := prog_3_method_1_code
def yX1_init : MethodName := ⟨RX1, "<init>", "()V"⟩
abbrev cX1_length : ByteArray := prog_3_method_2_code
def yX1_length : MethodName := ⟨RX1, "length", "()I"⟩
abbrev cX1_codeAt : ByteArray := prog_3_method_3_code
def yX1_codeAt : MethodName := ⟨RX1, "codeAt", "(I)I"⟩
abbrev cX1_add : ByteArray := prog_3_method_4_code
def yX1_add : MethodName := ⟨RX1, "add", "(I)V"⟩
abbrev cX1_clear : ByteArray := prog_3_method_5_code
def yX1_clear : MethodName := ⟨RX1, "clear", "()V"⟩
abbrev cX1_read : ByteArray := prog_3_method_6_code
def yX1_read : MethodName := ⟨RX1, "read", "()I"⟩
abbrev cX1_isComplete : ByteArray := prog_3_method_7_code
def yX1_isComplete : MethodName := ⟨RX1, "isComplete", "()Z"⟩
abbrev cX1_stateAfter : ByteArray := prog_3_method_8_code
def yX1_stateAfter : MethodName := ⟨RX1, "stateAfter", "(I)I"⟩
abbrev cX1_stateAfterDigit : ByteArray := prog_3_method_9_code
def yX1_stateAfterDigit : MethodName := ⟨RX1, "stateAfterDigit", "(I)I"⟩
abbrev cX1_beginItem : ByteArray := prog_3_method_10_code
def yX1_beginItem : MethodName := ⟨RX1, "beginItem", "(I)I"⟩
abbrev cX1_growHeight : ByteArray := prog_3_method_11_code
def yX1_growHeight : MethodName := ⟨RX1, "growHeight", "(II)I"⟩
abbrev cX1_growRepeat : ByteArray := prog_3_method_12_code
def yX1_growRepeat : MethodName := ⟨RX1, "growRepeat", "(II)I"⟩
abbrev cX1_cellsOf : ByteArray := prog_3_method_13_code
def yX1_cellsOf : MethodName := ⟨RX1, "cellsOf", "(I)I"⟩
abbrev cX1_cells : ByteArray := prog_3_method_14_code
def yX1_cells : MethodName := ⟨RX1, "cells", "()I"⟩
abbrev cX1_copyTo : ByteArray := prog_3_method_15_code
def yX1_copyTo : MethodName := ⟨RX1, "copyTo", "(LMirrorTelegraph$Terrain;I)V"⟩
def RX2 : String := "MirrorTelegraph$Links"
def TX2 : u_T := fun k => match k with
  | 0 => ("MirrorTelegraph$Links", "terrain", "LMirrorTelegraph$Terrain;", true)
  | 1 => ("MirrorTelegraph$Links", "stations", "LMirrorTelegraph$Stations;", true)
  | _ => ("MirrorTelegraph$Links", "clouds", "LMirrorTelegraph$Clouds;", true)
def tyX2 : Nat → FieldType := fun k => match k with
  | 0 => .object "MirrorTelegraph$Terrain"
  | 1 => .object "MirrorTelegraph$Stations"
  | _ => .object "MirrorTelegraph$Clouds"
abbrev wsX20 : List Cond := u_ws RX2 TX2 3
theorem nmX2 : ∀ a, a < 3 → ∀ b, b < 3 → a ≠ b → (TX2 a).2.1 ≠ (TX2 b).2.1 := by decide +kernel
theorem tyX2_ok : ∀ k, k < 3 → parseFieldDescriptor (TX2 k).2.2.1 = some (tyX2 k) := by decide +kernel
abbrev cX2_init : ByteArray := prog_4_method_1_code
def yX2_init : MethodName := ⟨RX2, "<init>", "(LMirrorTelegraph$Terrain;LMirrorTelegraph$Stations;LMirrorTelegraph$Clouds;)V"⟩
abbrev cX2_eyeOf : ByteArray := prog_4_method_2_code
def yX2_eyeOf : MethodName := ⟨RX2, "eyeOf", "(I)I"⟩
abbrev cX2_blockingCell : ByteArray := prog_4_method_3_code
def yX2_blockingCell : MethodName := ⟨RX2, "blockingCell", "(II)I"⟩
abbrev cX2_blockingCellFrom : ByteArray := prog_4_method_4_code
def yX2_blockingCellFrom : MethodName := ⟨RX2, "blockingCellFrom", "(III)I"⟩
abbrev cX2_pairsInSight : ByteArray := prog_4_method_5_code
def yX2_pairsInSight : MethodName := ⟨RX2, "pairsInSight", "()I"⟩
abbrev cX2_leastMast : ByteArray := prog_4_method_6_code
def yX2_leastMast : MethodName := ⟨RX2, "leastMast", "(II)I"⟩
abbrev cX2_cellWithMostInSight : ByteArray := prog_4_method_7_code
def yX2_cellWithMostInSight : MethodName := ⟨RX2, "cellWithMostInSight", "(I)I"⟩
abbrev cX2_stationsInSight : ByteArray := prog_4_method_8_code
def yX2_stationsInSight : MethodName := ⟨RX2, "stationsInSight", "(II)I"⟩
abbrev cX2_sunEast : ByteArray := prog_4_method_9_code
def yX2_sunEast : MethodName := ⟨RX2, "sunEast", "(I)I"⟩
abbrev cX2_sunUp : ByteArray := prog_4_method_10_code
def yX2_sunUp : MethodName := ⟨RX2, "sunUp", "(I)I"⟩
abbrev cX2_sunObstacle : ByteArray := prog_4_method_11_code
def yX2_sunObstacle : MethodName := ⟨RX2, "sunObstacle", "(II)I"⟩
abbrev cX2_sunHours : ByteArray := prog_4_method_12_code
def yX2_sunHours : MethodName := ⟨RX2, "sunHours", "(I)I"⟩
abbrev cX2_canThrow : ByteArray := prog_4_method_13_code
def yX2_canThrow : MethodName := ⟨RX2, "canThrow", "(III)Z"⟩
abbrev cX2_obstacle : ByteArray := prog_4_method_14_code
def yX2_obstacle : MethodName := ⟨RX2, "obstacle", "(III)I"⟩
abbrev cX2_signalHours : ByteArray := prog_4_method_15_code
def yX2_signalHours : MethodName := ⟨RX2, "signalHours", "(III)I"⟩
def RX3 : String := "MirrorTelegraph$Routes"
def TX3 : u_T := fun k => match k with
  | 0 => ("MirrorTelegraph$Routes", "stations", "LMirrorTelegraph$Stations;", true)
  | 1 => ("MirrorTelegraph$Routes", "links", "LMirrorTelegraph$Links;", true)
  | 2 => ("MirrorTelegraph$Routes", "timetable", "LMirrorTelegraph$Timetable;", true)
  | 3 => ("MirrorTelegraph$Routes", "hoursOfPairs", "[I", true)
  | 4 => ("MirrorTelegraph$Routes", "arrivals", "[I", true)
  | 5 => ("MirrorTelegraph$Routes", "route", "[I", true)
  | 6 => ("MirrorTelegraph$Routes", "requests", "[I", true)
  | _ => ("MirrorTelegraph$Routes", "wantedLength", "I", false)
def tyX3 : Nat → FieldType := fun k => match k with
  | 0 => .object "MirrorTelegraph$Stations"
  | 1 => .object "MirrorTelegraph$Links"
  | 2 => .object "MirrorTelegraph$Timetable"
  | 3 => .array .int
  | 4 => .array .int
  | 5 => .array .int
  | 6 => .array .int
  | _ => .int
abbrev wsX30 : List Cond := u_ws RX3 TX3 8
theorem nmX3 : ∀ a, a < 8 → ∀ b, b < 8 → a ≠ b → (TX3 a).2.1 ≠ (TX3 b).2.1 := by decide +kernel
theorem tyX3_ok : ∀ k, k < 8 → parseFieldDescriptor (TX3 k).2.2.1 = some (tyX3 k) := by decide +kernel
abbrev cX3_init : ByteArray := prog_5_method_1_code
def yX3_init : MethodName := ⟨RX3, "<init>", "(LMirrorTelegraph$Stations;LMirrorTelegraph$Links;LMirrorTelegraph$Timetable;)V"⟩
abbrev cX3_lookAtLinks : ByteArray := prog_5_method_2_code
def yX3_lookAtLinks : MethodName := ⟨RX3, "lookAtLinks", "()V"⟩
abbrev cX3_arrivalAt : ByteArray := prog_5_method_3_code
def yX3_arrivalAt : MethodName := ⟨RX3, "arrivalAt", "(I)I"⟩
abbrev cX3_findArrivals : ByteArray := prog_5_method_4_code
def yX3_findArrivals : MethodName := ⟨RX3, "findArrivals", "(III)V"⟩
abbrev cX3_earliestUnsettled : ByteArray := prog_5_method_5_code
def yX3_earliestUnsettled : MethodName := ⟨RX3, "earliestUnsettled", "(I)I"⟩
abbrev cX3_passOn : ByteArray := prog_5_method_6_code
def yX3_passOn : MethodName := ⟨RX3, "passOn", "(I)V"⟩
abbrev cX3_earliestEnd : ByteArray := prog_5_method_7_code
def yX3_earliestEnd : MethodName := ⟨RX3, "earliestEnd", "(II)I"⟩
abbrev cX3_hoursOfPair : ByteArray := prog_5_method_8_code
def yX3_hoursOfPair : MethodName := ⟨RX3, "hoursOfPair", "(II)I"⟩
abbrev cX3_post : ByteArray := prog_5_method_9_code
def yX3_post : MethodName := ⟨RX3, "post", "(IIII)I"⟩
abbrev cX3_traceRoute : ByteArray := prog_5_method_10_code
def yX3_traceRoute : MethodName := ⟨RX3, "traceRoute", "(II)I"⟩
abbrev cX3_stationBefore : ByteArray := prog_5_method_11_code
def yX3_stationBefore : MethodName := ⟨RX3, "stationBefore", "(I)I"⟩
abbrev cX3_postAllAgain : ByteArray := prog_5_method_12_code
def yX3_postAllAgain : MethodName := ⟨RX3, "postAllAgain", "()V"⟩
abbrev cX3_takeRequests : ByteArray := prog_5_method_13_code
def yX3_takeRequests : MethodName := ⟨RX3, "takeRequests", "()I"⟩
def RX4 : String := "MirrorTelegraph$Stations"
def TX4 : u_T := fun k => match k with
  | 0 => ("MirrorTelegraph$Stations", "cells", "[I", true)
  | 1 => ("MirrorTelegraph$Stations", "masts", "[I", true)
  | 2 => ("MirrorTelegraph$Stations", "mirrors", "[I", true)
  | _ => ("MirrorTelegraph$Stations", "size", "I", false)
def tyX4 : Nat → FieldType := fun k => match k with
  | 0 => .array .int
  | 1 => .array .int
  | 2 => .array .int
  | _ => .int
abbrev wsX40 : List Cond := u_ws RX4 TX4 4
theorem nmX4 : ∀ a, a < 4 → ∀ b, b < 4 → a ≠ b → (TX4 a).2.1 ≠ (TX4 b).2.1 := by decide +kernel
theorem tyX4_ok : ∀ k, k < 4 → parseFieldDescriptor (TX4 k).2.2.1 = some (tyX4 k) := by decide +kernel
abbrev cX4_init : ByteArray := prog_6_method_1_code
def yX4_init : MethodName := ⟨RX4, "<init>", "()V"⟩
abbrev cX4_size : ByteArray := prog_6_method_2_code
def yX4_size : MethodName := ⟨RX4, "size", "()I"⟩
abbrev cX4_has : ByteArray := prog_6_method_3_code
def yX4_has : MethodName := ⟨RX4, "has", "(I)Z"⟩
abbrev cX4_isTaken : ByteArray := prog_6_method_4_code
def yX4_isTaken : MethodName := ⟨RX4, "isTaken", "(I)Z"⟩
abbrev cX4_add : ByteArray := prog_6_method_5_code
def yX4_add : MethodName := ⟨RX4, "add", "(III)I"⟩
abbrev cX4_clear : ByteArray := prog_6_method_6_code
def yX4_clear : MethodName := ⟨RX4, "clear", "()V"⟩
abbrev cX4_cellOf : ByteArray := prog_6_method_7_code
def yX4_cellOf : MethodName := ⟨RX4, "cellOf", "(I)I"⟩
abbrev cX4_mastOf : ByteArray := prog_6_method_8_code
def yX4_mastOf : MethodName := ⟨RX4, "mastOf", "(I)I"⟩
abbrev cX4_mirrorsOf : ByteArray := prog_6_method_9_code
def yX4_mirrorsOf : MethodName := ⟨RX4, "mirrorsOf", "(I)I"⟩
abbrev cX4_changeMast : ByteArray := prog_6_method_10_code
def yX4_changeMast : MethodName := ⟨RX4, "changeMast", "(II)V"⟩
abbrev cX4_changeMirrors : ByteArray := prog_6_method_11_code
def yX4_changeMirrors : MethodName := ⟨RX4, "changeMirrors", "(II)V"⟩
abbrev cX4_withTwoMirrors : ByteArray := prog_6_method_12_code
def yX4_withTwoMirrors : MethodName := ⟨RX4, "withTwoMirrors", "()I"⟩
def RX5 : String := "MirrorTelegraph$Terrain"
def TX5 : u_T := fun k => match k with
  | _ => ("MirrorTelegraph$Terrain", "heights", "[I", true)
def tyX5 : Nat → FieldType := fun k => match k with
  | _ => .array .int
abbrev wsX50 : List Cond := u_ws RX5 TX5 1
theorem nmX5 : ∀ a, a < 1 → ∀ b, b < 1 → a ≠ b → (TX5 a).2.1 ≠ (TX5 b).2.1 := by decide +kernel
theorem tyX5_ok : ∀ k, k < 1 → parseFieldDescriptor (TX5 k).2.2.1 = some (tyX5 k) := by decide +kernel
abbrev cX5_init : ByteArray := prog_7_method_1_code
def yX5_init : MethodName := ⟨RX5, "<init>", "()V"⟩
abbrev cX5_isCell : ByteArray := prog_7_method_2_code
def yX5_isCell : MethodName := ⟨RX5, "isCell", "(I)Z"⟩
abbrev cX5_columnOf : ByteArray := prog_7_method_3_code
def yX5_columnOf : MethodName := ⟨RX5, "columnOf", "(I)I"⟩
abbrev cX5_rowOf : ByteArray := prog_7_method_4_code
def yX5_rowOf : MethodName := ⟨RX5, "rowOf", "(I)I"⟩
abbrev cX5_eastward : ByteArray := prog_7_method_5_code
def yX5_eastward : MethodName := ⟨RX5, "eastward", "(II)I"⟩
abbrev cX5_southward : ByteArray := prog_7_method_6_code
def yX5_southward : MethodName := ⟨RX5, "southward", "(II)I"⟩
abbrev cX5_roundedQuotient : ByteArray := prog_7_method_7_code
def yX5_roundedQuotient : MethodName := ⟨RX5, "roundedQuotient", "(II)I"⟩
abbrev cX5_reach : ByteArray := prog_7_method_8_code
def yX5_reach : MethodName := ⟨RX5, "reach", "(II)I"⟩
abbrev cX5_firstAbove : ByteArray := prog_7_method_9_code
def yX5_firstAbove : MethodName := ⟨RX5, "firstAbove", "(IIIIII)I"⟩
abbrev cX5_heightOf : ByteArray := prog_7_method_10_code
def yX5_heightOf : MethodName := ⟨RX5, "heightOf", "(I)I"⟩
abbrev cX5_change : ByteArray := prog_7_method_11_code
def yX5_change : MethodName := ⟨RX5, "change", "(II)V"⟩
abbrev cX5_flatten : ByteArray := prog_7_method_12_code
def yX5_flatten : MethodName := ⟨RX5, "flatten", "()V"⟩
abbrev cX5_raise : ByteArray := prog_7_method_13_code
def yX5_raise : MethodName := ⟨RX5, "raise", "(III)I"⟩
abbrev cX5_greatest : ByteArray := prog_7_method_14_code
def yX5_greatest : MethodName := ⟨RX5, "greatest", "()I"⟩
abbrev cX5_sum : ByteArray := prog_7_method_15_code
def yX5_sum : MethodName := ⟨RX5, "sum", "()I"⟩
def RX6 : String := "MirrorTelegraph$Timetable"
def TX6 : u_T := fun k => match k with
  | 0 => ("MirrorTelegraph$Timetable", "rows", "[I", true)
  | 1 => ("MirrorTelegraph$Timetable", "bookings", "[I", true)
  | _ => ("MirrorTelegraph$Timetable", "size", "I", false)
def tyX6 : Nat → FieldType := fun k => match k with
  | 0 => .array .int
  | 1 => .array .int
  | _ => .int
abbrev wsX60 : List Cond := u_ws RX6 TX6 3
theorem nmX6 : ∀ a, a < 3 → ∀ b, b < 3 → a ≠ b → (TX6 a).2.1 ≠ (TX6 b).2.1 := by decide +kernel
theorem tyX6_ok : ∀ k, k < 3 → parseFieldDescriptor (TX6 k).2.2.1 = some (tyX6 k) := by decide +kernel
abbrev cX6_init : ByteArray := prog_8_method_1_code
def yX6_init : MethodName := ⟨RX6, "<init>", "()V"⟩
abbrev cX6_size : ByteArray := prog_8_method_2_code
def yX6_size : MethodName := ⟨RX6, "size", "()I"⟩
abbrev cX6_has : ByteArray := prog_8_method_3_code
def yX6_has : MethodName := ⟨RX6, "has", "(I)Z"⟩
abbrev cX6_clear : ByteArray := prog_8_method_4_code
def yX6_clear : MethodName := ⟨RX6, "clear", "()V"⟩
abbrev cX6_property : ByteArray := prog_8_method_5_code
def yX6_property : MethodName := ⟨RX6, "property", "(II)I"⟩
abbrev cX6_hopsOf : ByteArray := prog_8_method_6_code
def yX6_hopsOf : MethodName := ⟨RX6, "hopsOf", "(I)I"⟩
abbrev cX6_hopPart : ByteArray := prog_8_method_7_code
def yX6_hopPart : MethodName := ⟨RX6, "hopPart", "(III)I"⟩
abbrev cX6_enter : ByteArray := prog_8_method_8_code
def yX6_enter : MethodName := ⟨RX6, "enter", "(IIIII)V"⟩
abbrev cX6_addHop : ByteArray := prog_8_method_9_code
def yX6_addHop : MethodName := ⟨RX6, "addHop", "(III)V"⟩
abbrev cX6_isPlace : ByteArray := prog_8_method_10_code
def yX6_isPlace : MethodName := ⟨RX6, "isPlace", "(II)Z"⟩
abbrev cX6_bookTurns : ByteArray := prog_8_method_11_code
def yX6_bookTurns : MethodName := ⟨RX6, "bookTurns", "(IIII)V"⟩
abbrev cX6_bookedBy : ByteArray := prog_8_method_12_code
def yX6_bookedBy : MethodName := ⟨RX6, "bookedBy", "(II)I"⟩
abbrev cX6_remove : ByteArray := prog_8_method_13_code
def yX6_remove : MethodName := ⟨RX6, "remove", "(I)V"⟩
abbrev cX6_busyTurns : ByteArray := prog_8_method_14_code
def yX6_busyTurns : MethodName := ⟨RX6, "busyTurns", "(I)I"⟩
abbrev cX6_allBusyTurns : ByteArray := prog_8_method_15_code
def yX6_allBusyTurns : MethodName := ⟨RX6, "allBusyTurns", "()I"⟩
abbrev cX6_latestArrival : ByteArray := prog_8_method_16_code
def yX6_latestArrival : MethodName := ⟨RX6, "latestArrival", "()I"⟩
def RX7 : String := "MirrorTelegraph"
def TX7 : u_T := fun k => match k with
  | 0 => ("MirrorTelegraph", "terrain", "LMirrorTelegraph$Terrain;", true)
  | 1 => ("MirrorTelegraph", "text", "LMirrorTelegraph$HeightText;", true)
  | 2 => ("MirrorTelegraph", "stations", "LMirrorTelegraph$Stations;", true)
  | 3 => ("MirrorTelegraph", "clouds", "LMirrorTelegraph$Clouds;", true)
  | 4 => ("MirrorTelegraph", "links", "LMirrorTelegraph$Links;", true)
  | 5 => ("MirrorTelegraph", "timetable", "LMirrorTelegraph$Timetable;", true)
  | _ => ("MirrorTelegraph", "routes", "LMirrorTelegraph$Routes;", true)
def tyX7 : Nat → FieldType := fun k => match k with
  | 0 => .object "MirrorTelegraph$Terrain"
  | 1 => .object "MirrorTelegraph$HeightText"
  | 2 => .object "MirrorTelegraph$Stations"
  | 3 => .object "MirrorTelegraph$Clouds"
  | 4 => .object "MirrorTelegraph$Links"
  | 5 => .object "MirrorTelegraph$Timetable"
  | _ => .object "MirrorTelegraph$Routes"
abbrev wsX70 : List Cond := u_ws RX7 TX7 7
theorem nmX7 : ∀ a, a < 7 → ∀ b, b < 7 → a ≠ b → (TX7 a).2.1 ≠ (TX7 b).2.1 := by decide +kernel
theorem tyX7_ok : ∀ k, k < 7 → parseFieldDescriptor (TX7 k).2.2.1 = some (tyX7 k) := by decide +kernel
abbrev cX7_init : ByteArray := prog_1_method_1_code
def yX7_init : MethodName := ⟨RX7, "<init>", "()V"⟩
abbrev cX7_begin : ByteArray := prog_1_method_2_code
def yX7_begin : MethodName := ⟨RX7, "begin", "()I"⟩
abbrev cX7_setHeight : ByteArray := prog_1_method_3_code
def yX7_setHeight : MethodName := ⟨RX7, "setHeight", "(II)I"⟩
abbrev cX7_hill : ByteArray := prog_1_method_4_code
def yX7_hill : MethodName := ⟨RX7, "hill", "(III)I"⟩
abbrev cX7_append : ByteArray := prog_1_method_5_code
def yX7_append : MethodName := ⟨RX7, "append", "(I)I"⟩
abbrev cX7_clearBuffer : ByteArray := prog_1_method_6_code
def yX7_clearBuffer : MethodName := ⟨RX7, "clearBuffer", "()I"⟩
abbrev cX7_firstError : ByteArray := prog_1_method_7_code
def yX7_firstError : MethodName := ⟨RX7, "firstError", "()I"⟩
abbrev cX7_load : ByteArray := prog_1_method_8_code
def yX7_load : MethodName := ⟨RX7, "load", "(I)I"⟩
abbrev cX7_addStation : ByteArray := prog_1_method_9_code
def yX7_addStation : MethodName := ⟨RX7, "addStation", "(III)I"⟩
abbrev cX7_setMast : ByteArray := prog_1_method_10_code
def yX7_setMast : MethodName := ⟨RX7, "setMast", "(II)I"⟩
abbrev cX7_lend : ByteArray := prog_1_method_11_code
def yX7_lend : MethodName := ⟨RX7, "lend", "(II)I"⟩
abbrev cX7_addCloud : ByteArray := prog_1_method_12_code
def yX7_addCloud : MethodName := ⟨RX7, "addCloud", "(IIII)I"⟩
abbrev cX7_clearClouds : ByteArray := prog_1_method_13_code
def yX7_clearClouds : MethodName := ⟨RX7, "clearClouds", "()I"⟩
abbrev cX7_send : ByteArray := prog_1_method_14_code
def yX7_send : MethodName := ⟨RX7, "send", "(IIII)I"⟩
abbrev cX7_cancel : ByteArray := prog_1_method_15_code
def yX7_cancel : MethodName := ⟨RX7, "cancel", "(I)I"⟩
abbrev cX7_reorder : ByteArray := prog_1_method_16_code
def yX7_reorder : MethodName := ⟨RX7, "reorder", "()I"⟩
abbrev cX7_count : ByteArray := prog_1_method_17_code
def yX7_count : MethodName := ⟨RX7, "count", "(I)I"⟩
abbrev cX7_station : ByteArray := prog_1_method_18_code
def yX7_station : MethodName := ⟨RX7, "station", "(II)I"⟩
abbrev cX7_blocker : ByteArray := prog_1_method_19_code
def yX7_blocker : MethodName := ⟨RX7, "blocker", "(II)I"⟩
abbrev cX7_link : ByteArray := prog_1_method_20_code
def yX7_link : MethodName := ⟨RX7, "link", "(III)I"⟩
abbrev cX7_mastFor : ByteArray := prog_1_method_21_code
def yX7_mastFor : MethodName := ⟨RX7, "mastFor", "(II)I"⟩
abbrev cX7_bestCell : ByteArray := prog_1_method_22_code
def yX7_bestCell : MethodName := ⟨RX7, "bestCell", "(I)I"⟩
abbrev cX7_arrival : ByteArray := prog_1_method_23_code
def yX7_arrival : MethodName := ⟨RX7, "arrival", "(IIII)I"⟩
abbrev cX7_message : ByteArray := prog_1_method_24_code
def yX7_message : MethodName := ⟨RX7, "message", "(II)I"⟩
abbrev cX7_hop : ByteArray := prog_1_method_25_code
def yX7_hop : MethodName := ⟨RX7, "hop", "(III)I"⟩
abbrev cX7_busy : ByteArray := prog_1_method_26_code
def yX7_busy : MethodName := ⟨RX7, "busy", "(II)I"⟩
abbrev cX7_workload : ByteArray := prog_1_method_27_code
def yX7_workload : MethodName := ⟨RX7, "workload", "()D"⟩
abbrev cX7_digest : ByteArray := prog_1_method_28_code
def yX7_digest : MethodName := ⟨RX7, "digest", "()J"⟩
abbrev cX7_hashWith : ByteArray := prog_1_method_29_code
def yX7_hashWith : MethodName := ⟨RX7, "hashWith", "(JI)J"⟩
abbrev cX7_hashWithStations : ByteArray := prog_1_method_30_code
def yX7_hashWithStations : MethodName := ⟨RX7, "hashWithStations", "(J)J"⟩
abbrev cX7_hashWithPairs : ByteArray := prog_1_method_31_code
def yX7_hashWithPairs : MethodName := ⟨RX7, "hashWithPairs", "(J)J"⟩
abbrev cX7_hashWithMessages : ByteArray := prog_1_method_32_code
def yX7_hashWithMessages : MethodName := ⟨RX7, "hashWithMessages", "(J)J"⟩
abbrev cX7_hashWithText : ByteArray := prog_1_method_33_code
def yX7_hashWithText : MethodName := ⟨RX7, "hashWithText", "(J)J"⟩
abbrev cX7_numberOf : ByteArray := prog_1_method_34_code
def yX7_numberOf : MethodName := ⟨RX7, "numberOf", "(I)I"⟩
abbrev cX7_stationProperty : ByteArray := prog_1_method_35_code
def yX7_stationProperty : MethodName := ⟨RX7, "stationProperty", "(II)I"⟩
abbrev cX7_requireCell : ByteArray := prog_1_method_36_code
def yX7_requireCell : MethodName := ⟨RX7, "requireCell", "(I)V"⟩
abbrev cX7_requireStation : ByteArray := prog_1_method_37_code
def yX7_requireStation : MethodName := ⟨RX7, "requireStation", "(I)V"⟩
abbrev cX7_requirePair : ByteArray := prog_1_method_38_code
def yX7_requirePair : MethodName := ⟨RX7, "requirePair", "(II)V"⟩
abbrev cX7_requireMessage : ByteArray := prog_1_method_39_code
def yX7_requireMessage : MethodName := ⟨RX7, "requireMessage", "(I)V"⟩
abbrev cX7_requireRange : ByteArray := prog_1_method_40_code
def yX7_requireRange : MethodName := ⟨RX7, "requireRange", "(III)V"⟩
def RX8 : String := "MirrorTelegraphModel"
def TX8 : u_T := fun k => match k with
  | 0 => ("MirrorTelegraphModel", "thrown", "I", false)
  | 1 => ("MirrorTelegraphModel", "height", "[I", true)
  | 2 => ("MirrorTelegraphModel", "stations", "I", false)
  | 3 => ("MirrorTelegraphModel", "cellOf", "[I", true)
  | 4 => ("MirrorTelegraphModel", "mast", "[I", true)
  | 5 => ("MirrorTelegraphModel", "mirrors", "[I", true)
  | 6 => ("MirrorTelegraphModel", "clouds", "I", false)
  | 7 => ("MirrorTelegraphModel", "cloudFirst", "[I", true)
  | 8 => ("MirrorTelegraphModel", "cloudLast", "[I", true)
  | 9 => ("MirrorTelegraphModel", "cloudFrom", "[I", true)
  | 10 => ("MirrorTelegraphModel", "cloudTo", "[I", true)
  | 11 => ("MirrorTelegraphModel", "messages", "I", false)
  | 12 => ("MirrorTelegraphModel", "sent", "[I", true)
  | 13 => ("MirrorTelegraphModel", "hops", "[I", true)
  | 14 => ("MirrorTelegraphModel", "length", "I", false)
  | 15 => ("MirrorTelegraphModel", "text", "[I", true)
  | 16 => ("MirrorTelegraphModel", "items", "I", false)
  | 17 => ("MirrorTelegraphModel", "itemHeight", "[I", true)
  | 18 => ("MirrorTelegraphModel", "itemCount", "[I", true)
  | 19 => ("MirrorTelegraphModel", "isCount", "Z", false)
  | 20 => ("MirrorTelegraphModel", "number", "I", false)
  | 21 => ("MirrorTelegraphModel", "taken", "[I", true)
  | 22 => ("MirrorTelegraphModel", "goes", "[Z", true)
  | 23 => ("MirrorTelegraphModel", "arrives", "[I", true)
  | 24 => ("MirrorTelegraphModel", "way", "[I", true)
  | 25 => ("MirrorTelegraphModel", "asked", "[I", true)
  | _ => ("MirrorTelegraphModel", "h", "J", false)
def tyX8 : Nat → FieldType := fun k => match k with
  | 0 => .int
  | 1 => .array .int
  | 2 => .int
  | 3 => .array .int
  | 4 => .array .int
  | 5 => .array .int
  | 6 => .int
  | 7 => .array .int
  | 8 => .array .int
  | 9 => .array .int
  | 10 => .array .int
  | 11 => .int
  | 12 => .array .int
  | 13 => .array .int
  | 14 => .int
  | 15 => .array .int
  | 16 => .int
  | 17 => .array .int
  | 18 => .array .int
  | 19 => .boolean
  | 20 => .int
  | 21 => .array .int
  | 22 => .array .boolean
  | 23 => .array .int
  | 24 => .array .int
  | 25 => .array .int
  | _ => .long
abbrev wsX80 : List Cond := u_ws RX8 TX8 27
theorem nmX8 : ∀ a, a < 27 → ∀ b, b < 27 → a ≠ b → (TX8 a).2.1 ≠ (TX8 b).2.1 := by decide +kernel
theorem tyX8_ok : ∀ k, k < 27 → parseFieldDescriptor (TX8 k).2.2.1 = some (tyX8 k) := by decide +kernel
abbrev cX8_init : ByteArray := prog_10_method_1_code
def yX8_init : MethodName := ⟨RX8, "<init>", "()V"⟩
abbrev cX8_thrown : ByteArray := prog_10_method_2_code
def yX8_thrown : MethodName := ⟨RX8, "thrown", "()I"⟩
abbrev cX8_within : ByteArray := prog_10_method_3_code
def yX8_within : MethodName := ⟨RX8, "within", "(III)Z"⟩
abbrev cX8_isCell : ByteArray := prog_10_method_4_code
def yX8_isCell : MethodName := ⟨RX8, "isCell", "(I)Z"⟩
abbrev cX8_isStation : ByteArray := prog_10_method_5_code
def yX8_isStation : MethodName := ⟨RX8, "isStation", "(I)Z"⟩
abbrev cX8_size : ByteArray := prog_10_method_6_code
def yX8_size : MethodName := ⟨RX8, "size", "(I)I"⟩
abbrev cX8_begin : ByteArray := prog_10_method_7_code
def yX8_begin : MethodName := ⟨RX8, "begin", "()I"⟩
abbrev cX8_setHeight : ByteArray := prog_10_method_8_code
def yX8_setHeight : MethodName := ⟨RX8, "setHeight", "(II)I"⟩
abbrev cX8_hill : ByteArray := prog_10_method_9_code
def yX8_hill : MethodName := ⟨RX8, "hill", "(III)I"⟩
abbrev cX8_append : ByteArray := prog_10_method_10_code
def yX8_append : MethodName := ⟨RX8, "append", "(I)I"⟩
abbrev cX8_clearBuffer : ByteArray := prog_10_method_11_code
def yX8_clearBuffer : MethodName := ⟨RX8, "clearBuffer", "()I"⟩
abbrev cX8_takesDigit : ByteArray := prog_10_method_12_code
def yX8_takesDigit : MethodName := ⟨RX8, "takesDigit", "(I)Z"⟩
abbrev cX8_endItem : ByteArray := prog_10_method_13_code
def yX8_endItem : MethodName := ⟨RX8, "endItem", "()V"⟩
abbrev cX8_takes : ByteArray := prog_10_method_14_code
def yX8_takes : MethodName := ⟨RX8, "takes", "(I)Z"⟩
abbrev cX8_read : ByteArray := prog_10_method_15_code
def yX8_read : MethodName := ⟨RX8, "read", "()I"⟩
abbrev cX8_firstError : ByteArray := prog_10_method_16_code
def yX8_firstError : MethodName := ⟨RX8, "firstError", "()I"⟩
abbrev cX8_cellsRead : ByteArray := prog_10_method_17_code
def yX8_cellsRead : MethodName := ⟨RX8, "cellsRead", "()I"⟩
abbrev cX8_load : ByteArray := prog_10_method_18_code
def yX8_load : MethodName := ⟨RX8, "load", "(I)I"⟩
abbrev cX8_rounded : ByteArray := prog_10_method_19_code
def yX8_rounded : MethodName := ⟨RX8, "rounded", "(II)I"⟩
abbrev cX8_along : ByteArray := prog_10_method_20_code
def yX8_along : MethodName := ⟨RX8, "along", "(IIII)I"⟩
abbrev cX8_eyeOf : ByteArray := prog_10_method_21_code
def yX8_eyeOf : MethodName := ⟨RX8, "eyeOf", "(I)I"⟩
abbrev cX8_blockerOf : ByteArray := prog_10_method_22_code
def yX8_blockerOf : MethodName := ⟨RX8, "blockerOf", "(IIII)I"⟩
abbrev cX8_between : ByteArray := prog_10_method_23_code
def yX8_between : MethodName := ⟨RX8, "between", "(II)I"⟩
abbrev cX8_upAt : ByteArray := prog_10_method_24_code
def yX8_upAt : MethodName := ⟨RX8, "upAt", "(I)I"⟩
abbrev cX8_isShaded : ByteArray := prog_10_method_25_code
def yX8_isShaded : MethodName := ⟨RX8, "isShaded", "(II)Z"⟩
abbrev cX8_isBetween : ByteArray := prog_10_method_26_code
def yX8_isBetween : MethodName := ⟨RX8, "isBetween", "(III)Z"⟩
abbrev cX8_isCovered : ByteArray := prog_10_method_27_code
def yX8_isCovered : MethodName := ⟨RX8, "isCovered", "(II)Z"⟩
abbrev cX8_sunless : ByteArray := prog_10_method_28_code
def yX8_sunless : MethodName := ⟨RX8, "sunless", "(II)I"⟩
abbrev cX8_throwsTo : ByteArray := prog_10_method_29_code
def yX8_throwsTo : MethodName := ⟨RX8, "throwsTo", "(III)Z"⟩
abbrev cX8_linkOf : ByteArray := prog_10_method_30_code
def yX8_linkOf : MethodName := ⟨RX8, "linkOf", "(III)I"⟩
abbrev cX8_isTaken : ByteArray := prog_10_method_31_code
def yX8_isTaken : MethodName := ⟨RX8, "isTaken", "(I)Z"⟩
abbrev cX8_addStation : ByteArray := prog_10_method_32_code
def yX8_addStation : MethodName := ⟨RX8, "addStation", "(III)I"⟩
abbrev cX8_setMast : ByteArray := prog_10_method_33_code
def yX8_setMast : MethodName := ⟨RX8, "setMast", "(II)I"⟩
abbrev cX8_doubles : ByteArray := prog_10_method_34_code
def yX8_doubles : MethodName := ⟨RX8, "doubles", "()I"⟩
abbrev cX8_lend : ByteArray := prog_10_method_35_code
def yX8_lend : MethodName := ⟨RX8, "lend", "(II)I"⟩
abbrev cX8_addCloud : ByteArray := prog_10_method_36_code
def yX8_addCloud : MethodName := ⟨RX8, "addCloud", "(IIII)I"⟩
abbrev cX8_clearClouds : ByteArray := prog_10_method_37_code
def yX8_clearClouds : MethodName := ⟨RX8, "clearClouds", "()I"⟩
abbrev cX8_layTurns : ByteArray := prog_10_method_38_code
def yX8_layTurns : MethodName := ⟨RX8, "layTurns", "()V"⟩
abbrev cX8_layLinks : ByteArray := prog_10_method_39_code
def yX8_layLinks : MethodName := ⟨RX8, "layLinks", "()V"⟩
abbrev cX8_isFree : ByteArray := prog_10_method_40_code
def yX8_isFree : MethodName := ⟨RX8, "isFree", "(III)Z"⟩
abbrev cX8_beginOf : ByteArray := prog_10_method_41_code
def yX8_beginOf : MethodName := ⟨RX8, "beginOf", "(IIII)I"⟩
abbrev cX8_layArrivals : ByteArray := prog_10_method_42_code
def yX8_layArrivals : MethodName := ⟨RX8, "layArrivals", "(III)V"⟩
abbrev cX8_stationBefore : ByteArray := prog_10_method_43_code
def yX8_stationBefore : MethodName := ⟨RX8, "stationBefore", "(II)I"⟩
abbrev cX8_sends : ByteArray := prog_10_method_44_code
def yX8_sends : MethodName := ⟨RX8, "sends", "(IIII)Z"⟩
abbrev cX8_isSpan : ByteArray := prog_10_method_45_code
def yX8_isSpan : MethodName := ⟨RX8, "isSpan", "(II)Z"⟩
abbrev cX8_send : ByteArray := prog_10_method_46_code
def yX8_send : MethodName := ⟨RX8, "send", "(IIII)I"⟩
abbrev cX8_isMessage : ByteArray := prog_10_method_47_code
def yX8_isMessage : MethodName := ⟨RX8, "isMessage", "(I)Z"⟩
abbrev cX8_drop : ByteArray := prog_10_method_48_code
def yX8_drop : MethodName := ⟨RX8, "drop", "(I)V"⟩
abbrev cX8_cancel : ByteArray := prog_10_method_49_code
def yX8_cancel : MethodName := ⟨RX8, "cancel", "(I)I"⟩
abbrev cX8_reorder : ByteArray := prog_10_method_50_code
def yX8_reorder : MethodName := ⟨RX8, "reorder", "()I"⟩
abbrev cX8_highest : ByteArray := prog_10_method_51_code
def yX8_highest : MethodName := ⟨RX8, "highest", "()I"⟩
abbrev cX8_heights : ByteArray := prog_10_method_52_code
def yX8_heights : MethodName := ⟨RX8, "heights", "()I"⟩
abbrev cX8_sights : ByteArray := prog_10_method_53_code
def yX8_sights : MethodName := ⟨RX8, "sights", "()I"⟩
abbrev cX8_busyOf : ByteArray := prog_10_method_54_code
def yX8_busyOf : MethodName := ⟨RX8, "busyOf", "(I)I"⟩
abbrev cX8_busyAll : ByteArray := prog_10_method_55_code
def yX8_busyAll : MethodName := ⟨RX8, "busyAll", "()I"⟩
abbrev cX8_latest : ByteArray := prog_10_method_56_code
def yX8_latest : MethodName := ⟨RX8, "latest", "()I"⟩
abbrev cX8_counted : ByteArray := prog_10_method_57_code
def yX8_counted : MethodName := ⟨RX8, "counted", "(I)I"⟩
abbrev cX8_count : ByteArray := prog_10_method_58_code
def yX8_count : MethodName := ⟨RX8, "count", "(I)I"⟩
abbrev cX8_sunny : ByteArray := prog_10_method_59_code
def yX8_sunny : MethodName := ⟨RX8, "sunny", "(I)I"⟩
abbrev cX8_told : ByteArray := prog_10_method_60_code
def yX8_told : MethodName := ⟨RX8, "told", "(II)I"⟩
abbrev cX8_station : ByteArray := prog_10_method_61_code
def yX8_station : MethodName := ⟨RX8, "station", "(II)I"⟩
abbrev cX8_pairWrong : ByteArray := prog_10_method_62_code
def yX8_pairWrong : MethodName := ⟨RX8, "pairWrong", "(II)I"⟩
abbrev cX8_blocker : ByteArray := prog_10_method_63_code
def yX8_blocker : MethodName := ⟨RX8, "blocker", "(II)I"⟩
abbrev cX8_link : ByteArray := prog_10_method_64_code
def yX8_link : MethodName := ⟨RX8, "link", "(III)I"⟩
abbrev cX8_leastMast : ByteArray := prog_10_method_65_code
def yX8_leastMast : MethodName := ⟨RX8, "leastMast", "(II)I"⟩
abbrev cX8_mastFor : ByteArray := prog_10_method_66_code
def yX8_mastFor : MethodName := ⟨RX8, "mastFor", "(II)I"⟩
abbrev cX8_seenFrom : ByteArray := prog_10_method_67_code
def yX8_seenFrom : MethodName := ⟨RX8, "seenFrom", "(II)I"⟩
abbrev cX8_bestCell : ByteArray := prog_10_method_68_code
def yX8_bestCell : MethodName := ⟨RX8, "bestCell", "(I)I"⟩
abbrev cX8_arrival : ByteArray := prog_10_method_69_code
def yX8_arrival : MethodName := ⟨RX8, "arrival", "(IIII)I"⟩
abbrev cX8_message : ByteArray := prog_10_method_70_code
def yX8_message : MethodName := ⟨RX8, "message", "(II)I"⟩
abbrev cX8_hop : ByteArray := prog_10_method_71_code
def yX8_hop : MethodName := ⟨RX8, "hop", "(III)I"⟩
abbrev cX8_busy : ByteArray := prog_10_method_72_code
def yX8_busy : MethodName := ⟨RX8, "busy", "(II)I"⟩
abbrev cX8_workload : ByteArray := prog_10_method_73_code
def yX8_workload : MethodName := ⟨RX8, "workload", "()D"⟩
abbrev cX8_mix : ByteArray := prog_10_method_74_code
def yX8_mix : MethodName := ⟨RX8, "mix", "(J)V"⟩
abbrev cX8_mixPairs : ByteArray := prog_10_method_75_code
def yX8_mixPairs : MethodName := ⟨RX8, "mixPairs", "()V"⟩
abbrev cX8_digest : ByteArray := prog_10_method_76_code
def yX8_digest : MethodName := ⟨RX8, "digest", "()J"⟩
def RJx145de : String := "java/io/Serializable"
def RJ6 : String := "java/lang/Integer"
abbrev cJ6_bitCount_0f7a4 : ByteArray := prog_15_method_49_code
def yJ6_bitCount_0f7a4 : MethodName := ⟨RJ6, "bitCount", "(I)I"⟩
def RJ9 : String := "java/lang/Math"
abbrev cJ9_abs_0f7a4 : ByteArray := prog_16_method_59_code
def yJ9_abs_0f7a4 : MethodName := ⟨RJ9, "abs", "(I)I"⟩
abbrev cJ9_max_7cf53 : ByteArray := prog_16_method_65_code
def yJ9_max_7cf53 : MethodName := ⟨RJ9, "max", "(II)I"⟩
abbrev cJ9_min_7cf53 : ByteArray := prog_16_method_69_code
def yJ9_min_7cf53 : MethodName := ⟨RJ9, "min", "(II)I"⟩
def RJ0 : String := "java/lang/String"
def RJ10 : String := "java/lang/System"
def RJ7 : String := "java/util/Arrays"
abbrev cJ7_fill_53178 : ByteArray := prog_21_method_103_code
def yJ7_fill_53178 : MethodName := ⟨RJ7, "fill", "([II)V"⟩
def RL : String := "MirrorTelegraphLaw"
abbrev cL_setHeight : ByteArray := method_3_code
def yL_setHeight : MethodName := ⟨RL, "setHeight", "(LMirrorTelegraph;II[J)I"⟩
abbrev cL_hill : ByteArray := method_4_code
def yL_hill : MethodName := ⟨RL, "hill", "(LMirrorTelegraph;III[J)I"⟩
abbrev cL_append : ByteArray := method_5_code
def yL_append : MethodName := ⟨RL, "append", "(LMirrorTelegraph;I[J)I"⟩
abbrev cL_load : ByteArray := method_6_code
def yL_load : MethodName := ⟨RL, "load", "(LMirrorTelegraph;I[J)I"⟩
abbrev cL_addStation : ByteArray := method_7_code
def yL_addStation : MethodName := ⟨RL, "addStation", "(LMirrorTelegraph;III[J)I"⟩
abbrev cL_setMast : ByteArray := method_8_code
def yL_setMast : MethodName := ⟨RL, "setMast", "(LMirrorTelegraph;II[J)I"⟩
abbrev cL_lend : ByteArray := method_9_code
def yL_lend : MethodName := ⟨RL, "lend", "(LMirrorTelegraph;II[J)I"⟩
abbrev cL_addCloud : ByteArray := method_10_code
def yL_addCloud : MethodName := ⟨RL, "addCloud", "(LMirrorTelegraph;IIII[J)I"⟩
abbrev cL_send : ByteArray := method_11_code
def yL_send : MethodName := ⟨RL, "send", "(LMirrorTelegraph;IIII[J)I"⟩
abbrev cL_cancel : ByteArray := method_12_code
def yL_cancel : MethodName := ⟨RL, "cancel", "(LMirrorTelegraph;I[J)I"⟩
abbrev cL_count : ByteArray := method_13_code
def yL_count : MethodName := ⟨RL, "count", "(LMirrorTelegraph;I[J)I"⟩
abbrev cL_station : ByteArray := method_14_code
def yL_station : MethodName := ⟨RL, "station", "(LMirrorTelegraph;II[J)I"⟩
abbrev cL_blocker : ByteArray := method_15_code
def yL_blocker : MethodName := ⟨RL, "blocker", "(LMirrorTelegraph;II[J)I"⟩
abbrev cL_link : ByteArray := method_16_code
def yL_link : MethodName := ⟨RL, "link", "(LMirrorTelegraph;III[J)I"⟩
abbrev cL_mastFor : ByteArray := method_17_code
def yL_mastFor : MethodName := ⟨RL, "mastFor", "(LMirrorTelegraph;II[J)I"⟩
abbrev cL_bestCell : ByteArray := method_18_code
def yL_bestCell : MethodName := ⟨RL, "bestCell", "(LMirrorTelegraph;I[J)I"⟩
abbrev cL_arrival : ByteArray := method_19_code
def yL_arrival : MethodName := ⟨RL, "arrival", "(LMirrorTelegraph;IIII[J)I"⟩
abbrev cL_message : ByteArray := method_20_code
def yL_message : MethodName := ⟨RL, "message", "(LMirrorTelegraph;II[J)I"⟩
abbrev cL_hop : ByteArray := method_21_code
def yL_hop : MethodName := ⟨RL, "hop", "(LMirrorTelegraph;III[J)I"⟩
abbrev cL_busy : ByteArray := method_22_code
def yL_busy : MethodName := ⟨RL, "busy", "(LMirrorTelegraph;II[J)I"⟩
abbrev cL_law : ByteArray := code
def yL_law : MethodName := ⟨RL, "law", "([I)Z"⟩
abbrev vwCl : List vw_C := [(RX0, TX0, 7), (RX1, TX1, 6), (RX2, TX2, 3), (RX3, TX3, 8), (RX4, TX4, 4), (RX5, TX5, 1), (RX6, TX6, 3), (RX7, TX7, 7), (RX8, TX8, 27)]
end
section
/-! the abstract machine: values, memory by places, the world of a memory -/
abbrev AV : Type := Int ⊕ (Nat ⊕ (Int ⊕ UInt64))
abbrev vI (x : Int) : AV := .inl x
abbrev vR (k : Nat) : AV := .inr (.inl k)
abbrev vL (x : Int) : AV := .inr (.inr (.inl x))
abbrev vD (x : UInt64) : AV := .inr (.inr (.inr x))
abbrev Mem : Type := Nat → Nat → Int
abbrev Lo : Type := List (Option AV)
abbrev Out : Type := Option AV ⊕ String
abbrev Ev : Type := Launch × Nat × (Nat → Nat) × va_G × (ClassId × ClassId × ClassId) × (Nat → Nat)
abbrev MT : Type := MethodName × ByteArray × Nat × Option FieldType × List (Nat × Nat × Nat) × List (Nat × Nat × Int)
abbrev eL (ev : Ev) : Launch := ev.1
abbrev eB (ev : Ev) : Nat := ev.2.1
abbrev eA (ev : Ev) : Nat → Nat := ev.2.2.1
abbrev eD (ev : Ev) : va_G := ev.2.2.2.1
abbrev eY (ev : Ev) : ClassId × ClassId × ClassId := ev.2.2.2.2.1
abbrev eS (ev : Ev) : Nat → Nat := ev.2.2.2.2.2
abbrev mN (t : MT) : MethodName := t.1
abbrev mC (t : MT) : ByteArray := t.2.1
abbrev mL (t : MT) : Nat := t.2.2.1
abbrev mR (t : MT) : Option FieldType := t.2.2.2.1
abbrev mF (t : MT) : List (Nat × Nat × Nat) := t.2.2.2.2.1
abbrev mK (t : MT) : List (Nat × Nat × Int) := t.2.2.2.2.2
def cv (ad : Nat → Nat) : AV → Value
  | .inl x => .int (Int32.ofInt x)
  | .inr (.inl k) => .ref (ad k)
  | .inr (.inr (.inl x)) => .long (Int64.ofInt x)
  | .inr (.inr (.inr d)) => .double d
def upM (M : Mem) (k j : Nat) (x : Int) : Mem := fun k' i => if k' = k ∧ i = j then x else M k' i
def alk {α : Type} : List (Nat × α) → Nat → Option α
  | [], _ => none
  | e :: r, k => bif Nat.beq e.1 k then some e.2 else alk r k
def nth {α : Type} : List α → Nat → Option α
  | [], _ => none
  | a :: _, 0 => some a
  | _ :: r, n + 1 => nth r n
theorem nth_eq {α : Type} : ∀ (l : List α) (n : Nat), nth l n = l[n]?
  | [], _ => rfl
  | _ :: _, 0 => rfl
  | _ :: r, n + 1 => by rw [List.getElem?_cons_succ]; exact nth_eq r n
theorem alk_mem {α : Type} : ∀ {l : List (Nat × α)} {k : Nat} {a : α}, alk l k = some a → (k, a) ∈ l
  | [], _, _, h => by cases h
  | e :: r, k, a, h => by
    unfold alk at h
    cases hb : Nat.beq e.1 k with
    | true =>
      rw [hb] at h
      have h1 : e.1 = k := Nat.eq_of_beq_eq_true hb
      have h2 : e.2 = a := by simpa using h
      rw [← h1, ← h2]; exact List.mem_cons_self
    | false =>
      rw [hb] at h
      exact List.mem_cons_of_mem _ (alk_mem h)
/-- the objects: place, class, fields (0 int, 1 a place, 2 long, 3 boolean) -/
def fkL : List (Nat × Nat × List (Nat × Nat)) := [
  (0, 7, [(1, 1), (1, 3), (1, 7), (1, 11), (1, 18), (1, 19), (1, 22)]),
  (1, 5, [(1, 2)]),
  (3, 1, [(1, 4), (1, 5), (1, 6), (0, 0), (0, 0), (0, 0)]),
  (7, 4, [(1, 8), (1, 9), (1, 10), (0, 0)]),
  (11, 0, [(1, 12), (1, 13), (1, 14), (1, 15), (1, 16), (1, 17), (0, 0)]),
  (18, 2, [(1, 1), (1, 7), (1, 11)]),
  (19, 6, [(1, 20), (1, 21), (0, 0)]),
  (22, 3, [(1, 7), (1, 18), (1, 19), (1, 23), (1, 24), (1, 25), (1, 26), (0, 0)]),
  (27, 8, [(0, 0), (1, 28), (0, 0), (1, 29), (1, 30), (1, 31), (0, 0), (1, 32), (1, 33), (1, 34), (1, 35), (0, 0), (1, 36), (1, 37), (0, 0), (1, 38), (0, 0), (1, 39), (1, 40), (3, 0), (0, 0), (1, 41), (1, 42), (1, 43), (1, 44), (1, 45), (2, 0)])]
/-- the arrays: place, type (0 int, 1 boolean, 2 long), length -/
def akL : List (Nat × Nat × Nat) := [(2, 0, 144), (4, 0, 40), (5, 0, 20), (6, 0, 20), (8, 0, 8), (9, 0, 8), (10, 0, 8),
  (12, 0, 6), (13, 0, 6), (14, 0, 6), (15, 0, 6), (16, 0, 6), (17, 0, 6), (20, 0, 540), (21, 0, 576), (23, 0, 64), (24, 0, 8), (25, 0, 8), (26, 0, 80),
  (28, 0, 144), (29, 0, 8), (30, 0, 8), (31, 0, 8), (32, 0, 6), (33, 0, 6), (34, 0, 6), (35, 0, 6), (36, 0, 120), (37, 0, 420), (38, 0, 40), (39, 0, 21), (40, 0, 21),
  (41, 0, 576), (42, 1, 768), (43, 0, 8), (44, 0, 8), (45, 0, 80), (46, 2, 1)]
def fAV (M : Mem) (k j : Nat) (e : Nat × Nat) : AV := match e.1 with
  | 1 => vR e.2
  | 2 => vL (M k j)
  | _ => vI (M k j)
def fvs (ad : Nat → Nat) (M : Mem) (k : Nat) : Nat → List (Nat × Nat) → List Value
  | _, [] => []
  | j, e :: r => cv ad (fAV M k j e) :: fvs ad M k (j + 1) r
def cellE (ev : Ev) (M : Mem) (k : Nat) : va_E := match alk fkL k with
  | some q => .inr (q.1, fvs (eA ev) M k 0 q.2)
  | none => match alk akL k with
    | some (0, n) => .inl ((eY ev).1, n, .inl (fun i => Int32.ofInt (M k i)))
    | some (1, n) => .inl ((eY ev).2.1, n, .inl (fun i => Int32.ofInt (M k i)))
    | some (_, n) => .inl ((eY ev).2.2, n, .inr (.inl (fun i => Int64.ofInt (M k i))))
    | none => .inr (0, [])
def wd (ev : Ev) (M : Mem) : va_W := (List.range 47).map (fun k => (eA ev k, cellE ev M k))
theorem wd_get (ev : Ev) (M : Mem) {k : Nat} (h : k < 47) : (wd ev M)[k]? = some (eA ev k, cellE ev M k) := by
  unfold wd
  rw [List.getElem?_map, List.getElem?_range h]; rfl
theorem fvs_congr (ad : Nat → Nat) {M M' : Mem} {k : Nat} (h : ∀ i, M k i = M' k i) : ∀ (l : List (Nat × Nat)) (j : Nat), fvs ad M k j l = fvs ad M' k j l
  | [], _ => rfl
  | e :: r, j => by
    unfold fvs
    rw [fvs_congr ad h r (j + 1)]
    congr 1
    unfold fAV
    rw [h j]
theorem cellE_congr (ev : Ev) {M M' : Mem} {k : Nat} (h : ∀ i, M k i = M' k i) : cellE ev M k = cellE ev M' k := by
  have h2 : M k = M' k := funext h
  unfold cellE
  cases alk fkL k with
  | some q => simp only [fvs_congr (eA ev) h]
  | none => simp only [h2]
theorem upM_ne {M : Mem} {k j : Nat} {x : Int} {k' : Nat} (h : k' ≠ k) (i : Nat) : upM M k j x k' i = M k' i := by
  unfold upM; rw [if_neg (fun q => h q.1)]
theorem wd_set (ev : Ev) (M : Mem) (k j : Nat) (x : Int) : wd ev (upM M k j x) = (wd ev M).set k (eA ev k, cellE ev (upM M k j x) k) := by
  apply List.ext_getElem?
  intro i
  rw [List.getElem?_set]
  by_cases hi : i < 47
  · rw [wd_get ev _ hi]
    by_cases hk : k = i
    · subst hk
      rw [if_pos rfl, if_pos (by simp [wd]; exact hi)]
    · rw [if_neg hk, wd_get ev _ hi, cellE_congr ev (fun q => upM_ne (fun h => hk h.symm) q)]
  · have h1 : ∀ M' : Mem, (wd ev M')[i]? = none := fun M' => by
      rw [List.getElem?_eq_none_iff]; simp [wd]; omega
    rw [h1, h1]
    by_cases hk : k = i
    · subst hk
      rw [if_pos rfl, if_neg (by simp [wd]; omega)]
    · rw [if_neg hk]
theorem fvs_get (ad : Nat → Nat) (M : Mem) (k : Nat) : ∀ (l : List (Nat × Nat)) (b j : Nat), (fvs ad M k b l)[j]? = (l[j]?).map (fun e => cv ad (fAV M k (b + j) e))
  | [], _, _ => rfl
  | e :: r, b, 0 => rfl
  | e :: r, b, j + 1 => by
    unfold fvs
    rw [List.getElem?_cons_succ, List.getElem?_cons_succ, fvs_get ad M k r (b + 1) j]
    have : b + 1 + j = b + (j + 1) := by omega
    rw [this]
theorem fvs_len (ad : Nat → Nat) (M : Mem) (k : Nat) : ∀ (l : List (Nat × Nat)) (b : Nat), (fvs ad M k b l).length = l.length
  | [], _ => rfl
  | e :: r, b => by unfold fvs; rw [List.length_cons, List.length_cons, fvs_len ad M k r]
/-- a field that is a number is written -/
theorem fvs_set (ad : Nat → Nat) (M : Mem) (k : Nat) (l : List (Nat × Nat)) (j : Nat) (x : Int) {e : Nat × Nat} (he : l[j]? = some e) :
    fvs ad (upM M k j x) k 0 l = (fvs ad M k 0 l).set j (cv ad (fAV (upM M k j x) k j e)) := by
  apply List.ext_getElem?
  intro i
  rw [List.getElem?_set, fvs_get, fvs_get, Nat.zero_add]
  by_cases hk : j = i
  · subst hk
    have hlt : j < l.length := (List.getElem?_eq_some_iff.mp he).1
    rw [if_pos rfl, if_pos (by rw [fvs_len]; exact hlt), he]; rfl
  · rw [if_neg hk]
    have h2 : upM M k j x k i = M k i := by unfold upM; rw [if_neg (fun q => hk q.2.symm)]
    have h3 : ∀ e, fAV (upM M k j x) k i e = fAV M k i e := fun e => by unfold fAV; rw [h2]
    congr 1
    funext e
    rw [h3]
/-! locals -/
def lget : Lo → Nat → Option AV
  | [], _ => none
  | o :: _, 0 => o
  | _ :: r, n + 1 => lget r n
def lset : Lo → Nat → Option AV → Lo
  | [], _, _ => []
  | _ :: r, 0, v => v :: r
  | o :: r, n + 1, v => o :: lset r n v
def lwide : Option AV → Bool
  | some (.inr (.inr _)) => true
  | _ => false
def lkill (L : Lo) : Nat → Lo
  | 0 => L
  | n + 1 => bif lwide (lget L n) then lset L n none else L
def sto1 (L : Lo) (i : Nat) (v : AV) : Lo := lset (lkill L i) i (some v)
def sto2 (L : Lo) (i : Nat) (v : AV) : Lo := lset (lset (lkill L i) i (some v)) (i + 1) none
theorem lget_lset : ∀ (L : Lo) (i : Nat) (o : Option AV) (j : Nat) (w : AV), lget (lset L i o) j = some w → (j = i ∧ o = some w) ∨ (j ≠ i ∧ lget L j = some w)
  | [], _, _, _, _, h => by cases h
  | _ :: r, 0, o, 0, w, h => Or.inl ⟨rfl, h⟩
  | _ :: r, 0, o, j + 1, w, h => Or.inr ⟨by omega, h⟩
  | a :: r, i + 1, o, 0, w, h => Or.inr ⟨by omega, h⟩
  | a :: r, i + 1, o, j + 1, w, h => by
    rcases lget_lset r i o j w h with ⟨h1, h2⟩ | ⟨h1, h2⟩
    · exact Or.inl ⟨by omega, h2⟩
    · exact Or.inr ⟨by omega, h2⟩
theorem cv_cat (ad : Nat → Nat) (v : AV) : (cv ad v).category = 2 ↔ lwide (some v) = true := by
  rcases v with x | k | x | d <;> simp [cv, Value.category, lwide]
theorem lget_lkill {L : Lo} {i j : Nat} {w : AV} (h : lget (lkill L i) j = some w) : lget L j = some w ∧ (j + 1 = i → lwide (some w) = false) := by
  cases i with
  | zero => exact ⟨h, fun q => by omega⟩
  | succ n =>
    replace h : lget (bif lwide (lget L n) then lset L n none else L) j = some w := h
    cases hw : lwide (lget L n) with
    | true =>
      rw [hw] at h
      rcases lget_lset L n none j w h with ⟨-, h2⟩ | ⟨h1, h2⟩
      · cases h2
      · exact ⟨h2, fun q => by omega⟩
    | false =>
      rw [hw] at h
      refine ⟨h, fun q => ?_⟩
      have : j = n := by omega
      subst this
      have h' : lget L j = some w := h
      rw [h'] at hw
      exact hw
def asc (ad : Nat → Nat) : Nat → Lo → List (Nat × Value)
  | _, [] => []
  | i, none :: r => asc ad (i + 1) r
  | i, some v :: r => (i, cv ad v) :: asc ad (i + 1) r
theorem asc_mem (ad : Nat → Nat) : ∀ (L : Lo) (b : Nat) (q : Nat × Value), q ∈ asc ad b L ↔ ∃ j w, lget L j = some w ∧ q = (b + j, cv ad w)
  | [], b, q => by
    constructor
    · intro h; cases h
    · rintro ⟨j, w, h, -⟩; cases h
  | none :: r, b, q => by
    show q ∈ asc ad (b + 1) r ↔ _
    rw [asc_mem ad r (b + 1) q]
    constructor
    · rintro ⟨j, w, h, e⟩
      exact ⟨j + 1, w, h, by rw [e]; congr 1; omega⟩
    · rintro ⟨j, w, h, e⟩
      cases j with
      | zero => cases h
      | succ j => exact ⟨j, w, h, by rw [e]; congr 1; omega⟩
  | some v :: r, b, q => by
    show q ∈ (b, cv ad v) :: asc ad (b + 1) r ↔ _
    rw [List.mem_cons, asc_mem ad r (b + 1) q]
    constructor
    · rintro (h | ⟨j, w, h, e⟩)
      · exact ⟨0, v, rfl, h⟩
      · exact ⟨j + 1, w, h, by rw [e]; congr 1; omega⟩
    · rintro ⟨j, w, h, e⟩
      cases j with
      | zero => cases h; exact Or.inl e
      | succ j => exact Or.inr ⟨j, w, h, by rw [e]; congr 1; omega⟩
def LH (ad : Nat → Nat) (ls : Array Slot) (n : Nat) (L : Lo) : Prop := lv_has ls n (asc ad 0 L)
theorem LH.at {ad : Nat → Nat} {ls : Array Slot} {n : Nat} {L : Lo} (h : LH ad ls n L) {i : Nat} {v : AV} (hg : lget L i = some v) : ls[i]? = some (.val (cv ad v)) :=
  h.2.2 (i, cv ad v) ((asc_mem ad L 0 _).mpr ⟨i, v, hg, by rw [Nat.zero_add]⟩)
theorem LH.of {ad : Nat → Nat} {ls : Array Slot} {n : Nat} {lv : List (Nat × Value)} {L : Lo} (h : lv_has ls n lv) (hs : ∀ j w, lget L j = some w → (j, cv ad w) ∈ lv) : LH ad ls n L :=
  ⟨h.1, h.2.1, fun q hq => by
    obtain ⟨j, w, h1, e⟩ := (asc_mem ad L 0 q).mp hq
    rw [e, Nat.zero_add]
    exact h.2.2 _ (hs j w h1)⟩
theorem LH.st1 {ad : Nat → Nat} {ls : Array Slot} {n : Nat} {L : Lo} {i : Nat} {v : AV}
    (h : lv_has ls n ((i, cv ad v) :: (asc ad 0 L).filter (fun q => !(q.1 == i) && !(q.1 + 1 == i && q.2.category == 2)))) : LH ad ls n (sto1 L i v) := by
  refine LH.of h fun j w hg => ?_
  rcases lget_lset _ _ _ _ _ hg with ⟨h1, h2⟩ | ⟨h1, h2⟩
  · cases h2; subst h1; exact List.mem_cons_self
  · obtain ⟨h3, h4⟩ := lget_lkill h2
    refine List.mem_cons_of_mem _ (List.mem_filter.mpr ⟨(asc_mem ad L 0 _).mpr ⟨j, w, h3, by rw [Nat.zero_add]⟩, ?_⟩)
    have h5 : (cv ad w).category = 2 → ¬ j + 1 = i := fun q r => by
      have := (cv_cat ad w).mp q
      rw [h4 r] at this
      cases this
    by_cases hc : (cv ad w).category = 2
    · simp [h1, h5 hc]
    · simp [h1, hc]
theorem LH.st2 {ad : Nat → Nat} {ls : Array Slot} {n : Nat} {L : Lo} {i : Nat} {v : AV}
    (h : lv_has ls n ((i, cv ad v) :: (asc ad 0 L).filter (fun q => !(q.1 == i) && (!(q.1 == i + 1) && !(q.1 + 1 == i && q.2.category == 2))))) : LH ad ls n (sto2 L i v) := by
  refine LH.of h fun j w hg => ?_
  rcases lget_lset _ _ _ _ _ hg with ⟨h1, h2⟩ | ⟨h1, h2⟩
  · cases h2
  · rcases lget_lset _ _ _ _ _ h2 with ⟨h6, h7⟩ | ⟨h6, h7⟩
    · cases h7; subst h6; exact List.mem_cons_self
    · obtain ⟨h3, h4⟩ := lget_lkill h7
      refine List.mem_cons_of_mem _ (List.mem_filter.mpr ⟨(asc_mem ad L 0 _).mpr ⟨j, w, h3, by rw [Nat.zero_add]⟩, ?_⟩)
      have h5 : (cv ad w).category = 2 → ¬ j + 1 = i := fun q r => by
        have := (cv_cat ad w).mp q
        rw [h4 r] at this
        cases this
      by_cases hc : (cv ad w).category = 2
      · simp [h6, h1, h5 hc]
      · simp [h6, h1, hc]
theorem LH.len {ad : Nat → Nat} {ls : Array Slot} {n : Nat} {L : Lo} (h : LH ad ls n L) : ls.size = n := h.1
/-- fewer known locals -/
def lsub : Lo → Lo → Prop
  | [], _ => True
  | none :: r, [] => lsub r []
  | none :: r, _ :: r' => lsub r r'
  | some _ :: _, [] => False
  | some v :: r, o :: r' => o = some v ∧ lsub r r'
theorem lsub_nil : ∀ (r : Lo), lsub r [] → ∀ j w, lget r j = some w → lget [] j = some w
  | [], _, _, _, h => by cases h
  | none :: r, h, 0, _, hg => by cases hg
  | none :: r, h, j + 1, w, hg => by have := lsub_nil r h j w hg; cases this
theorem lsub_get : ∀ (L' L : Lo), lsub L' L → ∀ j w, lget L' j = some w → lget L j = some w
  | [], _, _, _, _, h => by cases h
  | none :: r, [], h, j, w, hg => lsub_nil (none :: r) h j w hg
  | none :: r, _ :: r', h, 0, w, hg => by cases hg
  | none :: r, _ :: r', h, j + 1, w, hg => lsub_get r r' h j w hg
  | some v :: r, [], h, j, w, hg => h.elim
  | some v :: r, o :: r', h, 0, w, hg => by rw [← hg]; exact h.1
  | some v :: r, o :: r', h, j + 1, w, hg => lsub_get r r' h.2 j w hg
theorem LH.sub {ad : Nat → Nat} {ls : Array Slot} {n : Nat} {L L' : Lo} (h : LH ad ls n L) (hs : lsub L' L) : LH ad ls n L' :=
  LH.of h fun j w hg => (asc_mem ad L 0 _).mpr ⟨j, w, lsub_get L' L hs j w hg, by rw [Nat.zero_add]⟩
/-- the locals at a method's entry -/
def ent : List AV → Lo
  | [] => []
  | v :: r => bif lwide (some v) then some v :: none :: ent r else some v :: ent r
theorem ent_mem (ad : Nat → Nat) : ∀ (as : List AV) (b j : Nat) (w : AV), lget (ent as) j = some w → (b + j, cv ad w) ∈ lv_args b (as.map (cv ad))
  | [], _, _, _, h => by cases h
  | v :: r, b, j, w, h => by
    unfold ent at h
    rw [List.map_cons]
    unfold lv_args
    cases hw : lwide (some v) with
    | true =>
      rw [hw] at h
      rw [if_pos ((cv_cat ad v).mpr hw)]
      match j, h with
      | 0, h => cases h; exact List.mem_cons_self
      | 1, h => cases h
      | j + 2, h =>
        have := ent_mem ad r (b + 2) j w h
        refine List.mem_cons_of_mem _ ?_
        have e : b + (j + 2) = b + 2 + j := by omega
        rw [e]; exact this
    | false =>
      rw [hw] at h
      rw [if_neg (fun q => by have := (cv_cat ad v).mp q; rw [hw] at this; cases this)]
      match j, h with
      | 0, h => cases h; exact List.mem_cons_self
      | j + 1, h =>
        have := ent_mem ad r (b + 1) j w h
        refine List.mem_cons_of_mem _ ?_
        have e : b + (j + 1) = b + 1 + j := by omega
        rw [e]; exact this
end
section
/-! the world, the judgements AW (at an instruction) and AM (a whole method), by places -/
def lw_big : List Cond := lw_tbl.filter goodWord
theorem bm (i : Nat) (w : Jvm.Cond) (h : lw_tbl[i]? = some w) (g : goodWord w = true) : w ∈ lw_big := List.mem_filter.mpr ⟨List.mem_of_getElem? h, g⟩
theorem big_good : GoodIn lw_big lw_big := fun w h => ⟨h, good_of_word (List.mem_filter.mp h).2⟩
/-- the texts of the throws: owner, constant, text -/
def stT : List (String × Nat × String) := [("MirrorTelegraph", 290, "no such cell"), ("MirrorTelegraph", 302, "an argument is out of range"), ("MirrorTelegraph", 99, "the buffer is full"), ("MirrorTelegraph", 117, "the buffer is not a complete text"), ("MirrorTelegraph", 123, "there are not so many cells"), ("MirrorTelegraph", 133, "there is a station on the cell"), ("MirrorTelegraph", 135, "there are 8 stations"), ("MirrorTelegraph", 295, "no such station"), ("MirrorTelegraph", 151, "no mirror to give, or no place for it"), ("MirrorTelegraph", 160, "there are 6 clouds"), ("MirrorTelegraph", 297, "both stations are the same"), ("MirrorTelegraph", 169, "there are 20 messages"), ("MirrorTelegraph", 300, "no such message"), ("MirrorTelegraph", 219, "no such transmission")]
abbrev eR (ev : Ev) : Nat → Prop := fun q => eB ev ≤ q
def tyT (ev : Ev) : List (ClassId × FieldType) := [((eY ev).1, .int), ((eY ev).2.1, .boolean), ((eY ev).2.2, .long)]
def evS (ev : Ev) : Prop := (∀ i j, i < 47 → j < 47 → eA ev i = eA ev j → i = j) ∧ (∀ i, i < 47 → eB ev ≤ eA ev i) ∧ (eL ev).stackTraces = false
def evAt (ev : Ev) (U : State) : Prop := evS ev ∧ va_K (eD ev) vwCl (tyT ev) U ∧ vx_Zq Bundle.tN "UNASSIGNED_STACK" Bundle.steD (eR ev) U U.heap ∧ vx_Zq Bundle.tN "SUPPRESSED_SENTINEL" Bundle.listD (eR ev) U U.heap ∧ eB ev ≤ U.heap.size ∧
  ∀ i, i < 14 → ∀ q, stT[i]? = some q → vk_R q.1 q.2.1 q.2.2 (eS ev i) U
abbrev PW (ev : Ev) (M : Mem) (H : Heap) : Prop := va_P (eD ev) vwCl (wd ev M) H
theorem wd_D {ev : Ev} (h : evS ev) (M : Mem) : va_D (eR ev) (wd ev M) := by
  have key : ∀ (i : Nat) (p : Nat × va_E), (wd ev M)[i]? = some p → i < 47 ∧ p.1 = eA ev i := by
    intro i p hp
    have hlt : i < 47 := by
      have := (List.getElem?_eq_some_iff.mp hp).1
      simpa [wd] using this
    rw [wd_get ev M hlt] at hp
    cases hp
    exact ⟨hlt, rfl⟩
  refine ⟨fun i j p q hp hq he => ?_, fun k q hq => ?_⟩
  · obtain ⟨h1, e1⟩ := key i p hp
    obtain ⟨h2, e2⟩ := key j q hq
    exact h.1 i j h1 h2 (by rw [← e1, ← e2]; exact he)
  · obtain ⟨h1, e1⟩ := key k q hq
    show eB ev ≤ q.1
    rw [e1]
    exact h.2.1 k h1
theorem evAt.go {ev : Ev} {s U : State} {H : Heap} {locs : List Loc} (h : evAt ev s) (hS : va_S (eR ev) s.heap H locs) (hU : U.heap = H) (hW : s.WarmedH U.vm) : evAt ev U := by
  obtain ⟨h1, h2, h3, h4, h5, h6⟩ := h
  refine ⟨h1, va_K.moved hW.alike h2, ?_, ?_, ?_, fun i hi q hq => vk_R.warm hW (h6 i hi q hq)⟩
  · rw [hU]; exact vx_Zq.moved hW.alike (h3.kept hS.2.1)
  · rw [hU]; exact vx_Zq.moved hW.alike (h4.kept hS.2.1)
  · rw [hU]; exact Nat.le_trans h5 hS.1
theorem evAt.blind {ev : Ev} {U : State} {g : JFrame} {mk : MethodId} {a : Array Value} (h : evAt ev U) : evAt ev (U.calling g mk a) := by
  obtain ⟨h1, h2, h3, h4, h5, h6⟩ := h
  exact ⟨h1, va_K.moved (u := U) (U := U.calling g mk a) (Vm.Alike.refl U.vm) h2, vx_Zq.moved (u := U) (U := U.calling g mk a) (Vm.Alike.refl U.vm) h3, vx_Zq.moved (u := U) (U := U.calling g mk a) (Vm.Alike.refl U.vm) h4, h5, fun i hi q hq => vk_R.same (u := U) rfl (h6 i hi q hq)⟩
def rmOf (k : Bool) (d : Nat) : Room := { frames := d, cells := bif k then 1 else 0, slots := bif k then 6 else 0, locals := 38 * d }
def mcOf (k : Bool) : Nat := bif k then 1 else 0
def msOf (k : Bool) : Nat := bif k then 6 else 0
def wsOf (t : MT) : List Cond := Cond.code (mN t) (mC t) (mL t) (mR t) :: lw_big
def QcOf (ev : Ev) (k : Bool) (Q : Out → Mem → Prop) : Array Value → State → Outcome → State → Prop := fun _ st oc t =>
  ∃ (v : Option AV) (M : Mem), oc = .returned (v.map (cv (eA ev))) ∧ k = false ∧ Q (.inl v) M ∧ PW ev M t.heap ∧ va_F (eR ev) st t
def XcOf (ev : Ev) (k : Bool) (Q : Out → Mem → Prop) : String → State → State → Prop := fun E st t =>
  ∃ M : Mem, k = true ∧ Q (.inr E) M ∧ PW ev M t.heap ∧ va_F (eR ev) st t
def AM (ev : Ev) (k : Bool) (d : Nat) (t : MT) (as : List AV) (M : Mem) (Q : Out → Mem → Prop) : Prop :=
  vx_Met (eL ev) (mN t) (wsOf t) (rmOf k d) (va_Pc (as.map (cv (eA ev))) (fun U => evAt ev U ∧ PW ev M U.heap)) (QcOf ev k Q) (XcOf ev k Q) (mcOf k) (msOf k) (eR ev)
def FTok (t : MT) : Prop := ∀ e ∈ mF t, ∀ q, vwCl[e.2.1]? = some q → e.2.2 < q.2.2 ∧ Cond.fieldLink (mN t).cls e.1 (q.2.1 e.2.2).1 (q.2.1 e.2.2).2.1 (q.2.1 e.2.2).2.2.1 ∈ lw_big
def CTok (t : MT) : Prop := ∀ e ∈ mK t, (e.2.1 = 0 → Cond.constant (mN t).cls e.1 (Int32.ofInt e.2.2) ∈ lw_big) ∧ (e.2.1 = 1 → Cond.constantLong (mN t).cls e.1 (Int64.ofInt e.2.2) ∈ lw_big)
def Cx (ev : Ev) (t : MT) (p : Program) (s : State) (m : MethodId) (args : Array Value) (meth : Method) (c : Code) : Prop :=
  p.tables.exec = Jvm.exec ∧ c.code = mC t ∧ c.maxLocals = mL t ∧ meth.sig.returnType = mR t ∧ meth.locks = false ∧ s.vm.findClass (mN t).cls = some m.cls ∧ (∀ w ∈ lw_big, w.before args s = true) ∧ (∀ x ∈ c.exceptionTable.toList, False) ∧ evAt ev s ∧ FTok t ∧ CTok t
def AW (ev : Ev) (k : Bool) (d : Nat) (t : MT) (Q : Out → Mem → Prop) (pc : Nat) (L : Lo) (st : List AV) (M : Mem) : Prop :=
  ∀ (p : Program) (e : Env) (s : State) (m : MethodId) (args : Array Value) (below : List Frame) (meth : Method) (c : Code), Cx ev t p s m args meth c →
    ∀ (H : Heap) (locs : List Loc) (ls : Array Slot), PW ev M H → va_S (eR ev) s.heap H locs → LH (eA ev) ls (mL t) L →
      W p (eL ev) e (rmOf k d) s m args below meth c H locs 0 0 (vx_MQ below (QcOf ev k Q) (XcOf ev k Q) args s (mcOf k) (msOf k) (eR ev)) (F0 m pc ls (st.map (cv (eA ev))))
theorem AW.sub {ev : Ev} {k : Bool} {d : Nat} {t : MT} {Q : Out → Mem → Prop} {pc : Nat} {L : Lo} (L' : Lo) {st : List AV} {M : Mem} (hs : lsub L' L) (h : AW ev k d t Q pc L' st M) : AW ev k d t Q pc L st M :=
  fun p e s m args below meth c hc H locs ls hP hS hl => h p e s m args below meth c hc H locs ls hP hS (hl.sub hs)
/-- a method's contract out of its body -/
def MTok (t : MT) : Prop := plainName (mN t).cls = true ∧ FTok t ∧ CTok t
def ent0 (t : MT) (as : List AV) : Lo := let l := ent as; l ++ List.replicate (mL t - l.length) none
theorem lget_app : ∀ (a : Lo) (n j : Nat) (w : AV), lget (a ++ List.replicate n none) j = some w → lget a j = some w
  | [], 0, _, _, h => by cases h
  | [], n + 1, 0, _, h => by cases h
  | [], n + 1, j + 1, w, h => by
    have := lget_app [] n j w h
    cases this
  | o :: r, n, 0, w, h => h
  | o :: r, n, j + 1, w, h => lget_app r n j w h
theorem AM.of {ev : Ev} {k : Bool} {d : Nat} {t : MT} {as : List AV} {M : Mem} {Q : Out → Mem → Prop} (ht : MTok t) (hlen : (ent as).length ≤ mL t) (h : AW ev k d t Q 0 (ent0 t as) [] M) : AM ev k d t as M Q := by
  refine vx_ofW (cc := mC t) (maxL := mL t) (ret := mR t) ht.1 rfl ?_
  intro p e s m args below meth c s₁ B hml hno hv
  obtain ⟨rfl, hev, hP⟩ := hv
  have hts := atoms_spec (ws := wsOf t) B.pre
  have hlen2 : ∀ l : List AV, (lg_sl (l.map (cv (eA ev)))).length = (ent l).length := by
    intro l
    induction l with
    | nil => rfl
    | cons v r ih =>
      rw [List.map_cons]
      unfold ent
      unfold lg_sl at ih ⊢
      rw [List.flatMap_cons, List.length_append, ih]
      by_cases hw : lwide (some v) = true
      · rw [if_pos ((cv_cat _ v).mpr hw), hw]; simp; omega
      · rw [if_neg (fun q => hw ((cv_cat _ v).mp q))]
        rw [Bool.not_eq_true] at hw
        rw [hw]; simp; omega
  have hl := lv_entry (as.map (cv (eA ev))) (n := mL t) (by rw [hlen2]; exact hlen)
  rw [lg_entry_eq]
  refine h p e s m _ below meth c ⟨B.exec, B.bytes, hml, B.returns, B.notSynchronized, findClass_of_methodNamed B.named, fun w hw => hts w (List.mem_cons_of_mem _ hw), hno, hev, ht.2.1, ht.2.2⟩ s.heap [] _ hP va_S.rf (LH.of hl fun j w hg => ?_)
  have := ent_mem (eA ev) as 0 j w (lget_app _ _ _ _ hg)
  rw [Nat.zero_add] at this
  exact this
end
section
/-! numbers: Int for Int32 -/
def Inr (x : Int) : Prop := -2147483648 ≤ x ∧ x < 2147483648
theorem oI_toInt {x : Int} (h : Inr x) : (Int32.ofInt x).toInt = x := Int32.toInt_ofInt_of_le (by have := h.1; omega) (by have := h.2; omega)
theorem oI_lt {x y : Int} (hx : Inr x) (hy : Inr y) : Int32.ofInt x < Int32.ofInt y ↔ x < y := by rw [Int32.lt_iff_toInt_lt, oI_toInt hx, oI_toInt hy]
theorem oI_le {x y : Int} (hx : Inr x) (hy : Inr y) : Int32.ofInt x ≤ Int32.ofInt y ↔ x ≤ y := by rw [Int32.le_iff_toInt_le, oI_toInt hx, oI_toInt hy]
theorem oI_eq {x y : Int} (hx : Inr x) (hy : Inr y) : Int32.ofInt x = Int32.ofInt y ↔ x = y := by
  constructor
  · intro h
    have := congrArg Int32.toInt h
    rwa [oI_toInt hx, oI_toInt hy] at this
  · intro h; rw [h]
theorem oI_nat {x : Int} (h0 : 0 ≤ x) : Int32.ofInt x = nI x.toNat := by
  obtain ⟨n, rfl⟩ := Int.eq_ofNat_of_zero_le h0
  rfl
theorem oI_div {x y : Int} (h0 : 0 ≤ x) (h1 : x < 2147483648) (h2 : 0 < y) (h3 : y < 2147483648) : Int32.ofInt x / Int32.ofInt y = Int32.ofInt (x / y) := by
  obtain ⟨n, rfl⟩ := Int.eq_ofNat_of_zero_le h0
  obtain ⟨m, rfl⟩ := Int.eq_ofNat_of_zero_le (Int.le_of_lt h2)
  rw [← Int.natCast_ediv]
  exact pk_div (by omega) (by omega) (by omega)
theorem oI_rem {x y : Int} (h0 : 0 ≤ x) (h1 : x < 2147483648) (h2 : 0 < y) (h3 : y < 2147483648) : Int32.ofInt x - Int32.ofInt x / Int32.ofInt y * Int32.ofInt y = Int32.ofInt (x % y) := by
  obtain ⟨n, rfl⟩ := Int.eq_ofNat_of_zero_le h0
  obtain ⟨m, rfl⟩ := Int.eq_ofNat_of_zero_le (Int.le_of_lt h2)
  rw [← Int.natCast_emod]
  exact pk_rem (by omega) (by omega) (by omega)
theorem oI_in {i : Int} {n : Nat} (h0 : 0 ≤ i) (h1 : i < n) (hn : n < 2147483648) : vp_in (Int32.ofInt i) n := by
  rw [vp_in_iff, oI_toInt ⟨by omega, by omega⟩]; exact ⟨h0, h1⟩
theorem oI_cl {i : Int} (h0 : 0 ≤ i) (h1 : i < 2147483648) : (Int32.ofInt i).toNatClampNeg = i.toNat := by
  show (Int32.ofInt i).toInt.toNat = _
  rw [oI_toInt ⟨by omega, by omega⟩]
theorem oI_l {x : Int} (h : Inr x) : (Int32.ofInt x).toInt64 = Int64.ofInt x := by
  apply Int64.toInt_inj.mp
  rw [Int32.toInt_toInt64, oI_toInt h, Int64.toInt_ofInt_of_le (by have := h.1; omega) (by have := h.2; omega)]
def iandI (x y : Int) : Int := (Int32.ofInt x &&& Int32.ofInt y).toInt
def iorI (x y : Int) : Int := (Int32.ofInt x ||| Int32.ofInt y).toInt
def ishlI (x y : Int) : Int := (Int32.ofInt x <<< (Int32.ofInt y &&& 31)).toInt
def ishrI (x y : Int) : Int := (Int32.ofInt x >>> (Int32.ofInt y &&& 31)).toInt
def iushrI (x y : Int) : Int := ((Int32.ofInt x).toUInt32 >>> ((Int32.ofInt y).toUInt32 &&& Int32.toUInt32 31)).toInt32.toInt
def cmpP (c : Jvm.ClassFile.Cond) (x y : Int) : Prop := match c with
  | .eq => x = y
  | .ne => x ≠ y
  | .lt => x < y
  | .ge => y ≤ x
  | .gt => y < x
  | .le => x ≤ y
def tgt (pc : Nat) (off : Int) : Nat := ((pc : Int) + off).toNat
def tsw (dflt lo hi : Int) (offs : Array Int) (x : Int) : Int := if x < lo ∨ hi < x then dflt else (nth offs.toList (x - lo).toNat).getD dflt
/-! one instruction: what must hold so that the goal holds -/
section
variable (ev : Ev) (k : Bool) (t : MT) (Q : Out → Mem → Prop) (K : Nat → Lo → List AV → Mem → Prop) (nx : Lo → List AV → Mem → Prop) (pc : Nat) (L : Lo) (M : Mem)
def wpLd (i : Nat) (st : List AV) : Prop := match lget L i with
  | some v => nx L (v :: st) M
  | none => False
def wpLdI (i : Nat) (st : List AV) : Prop := match lget L i with
  | some (.inl x) => nx L (vI x :: st) M
  | _ => False
def wpLdA (i : Nat) (st : List AV) : Prop := match lget L i with
  | some (.inr (.inl x)) => nx L (vR x :: st) M
  | _ => False
def wpLdL (i : Nat) (st : List AV) : Prop := match lget L i with
  | some (.inr (.inr (.inl x))) => nx L (vL x :: st) M
  | _ => False
def wpStI (i : Nat) (st : List AV) : Prop := match st with
  | .inl x :: st => i < mL t ∧ nx (sto1 L i (vI x)) st M
  | _ => False
def wpStL (i : Nat) (st : List AV) : Prop := match st with
  | .inr (.inr (.inl x)) :: st => i + 1 < mL t ∧ nx (sto2 L i (vL x)) st M
  | _ => False
def wpInc (i : Nat) (n : Int) (st : List AV) : Prop := match lget L i with
  | some (.inl x) => i < mL t ∧ nx (sto1 L i (vI (x + n))) st M
  | _ => False
def wpBin (f : Int → Int → Int) (st : List AV) : Prop := match st with
  | .inl y :: .inl x :: st => nx L (vI (f x y) :: st) M
  | _ => False
def wpDiv (f : Int → Int → Int) (st : List AV) : Prop := match st with
  | .inl y :: .inl x :: st => ((0 ≤ x ∧ x < 2147483648) ∧ 0 < y ∧ y < 2147483648) ∧ nx L (vI (f x y) :: st) M
  | _ => False
def wpNeg (st : List AV) : Prop := match st with
  | .inl x :: st => nx L (vI (-x) :: st) M
  | _ => False
def wpBinL (f : Int → Int → Int) (st : List AV) : Prop := match st with
  | .inr (.inr (.inl y)) :: .inr (.inr (.inl x)) :: st => nx L (vL (f x y) :: st) M
  | _ => False
def wpI2l (st : List AV) : Prop := match st with
  | .inl x :: st => Inr x ∧ nx L (vL x :: st) M
  | _ => False
def wpIf2 (c : Jvm.ClassFile.Cond) (off : Int) (st : List AV) : Prop := match st with
  | .inl y :: .inl x :: st => (Inr x ∧ Inr y) ∧ (cmpP c x y → K (tgt pc off) L st M) ∧ (¬ cmpP c x y → nx L st M)
  | _ => False
def wpIf1 (c : Jvm.ClassFile.Cond) (off : Int) (st : List AV) : Prop := match st with
  | .inl x :: st => Inr x ∧ (cmpP c x 0 → K (tgt pc off) L st M) ∧ (¬ cmpP c x 0 → nx L st M)
  | _ => False
def wpSw (dflt lo hi : Int) (offs : Array Int) (st : List AV) : Prop := match st with
  | .inl x :: st => Inr x ∧ K (tgt pc (tsw dflt lo hi offs x)) L st M
  | _ => False
def wpGet (i : Nat) (st : List AV) : Prop := match st with
  | .inr (.inl a) :: st => match alk (mF t) i with
    | some e => match alk fkL a with
      | some q => bif Nat.beq q.1 e.1 then (match nth q.2 e.2 with
        | some f => nx L (fAV M a e.2 f :: st) M
        | none => False) else False
      | none => False
    | none => False
  | _ => False
/-- a field's write: the memory behind it -/
def wpPut (i : Nat) (st : List AV) : Prop := match st with
  | v :: .inr (.inl a) :: st => match alk (mF t) i with
    | some e => match alk fkL a with
      | some q => bif Nat.beq q.1 e.1 then (match nth q.2 e.2 with
        | some f => (match f.1, v with
          | 0, .inl x => nx L st (upM M a e.2 x)
          | 3, .inl x => (x = 0 ∨ x = 1) ∧ nx L st (upM M a e.2 x)
          | 2, .inr (.inr (.inl x)) => nx L st (upM M a e.2 x)
          | _, _ => False)
        | none => False) else False
      | none => False
    | none => False
  | _ => False
def wpAld (ty : Nat) (st : List AV) : Prop := match st with
  | .inl i :: .inr (.inl a) :: st => match alk akL a with
    | some q => bif Nat.beq q.1 ty then (0 ≤ i ∧ i < q.2) ∧ nx L (vI (M a i.toNat) :: st) M else False
    | none => False
  | _ => False
def wpAst (ty : Nat) (st : List AV) : Prop := match st with
  | .inl x :: .inl i :: .inr (.inl a) :: st => match alk akL a with
    | some q => bif Nat.beq q.1 ty then ((0 ≤ i ∧ i < q.2) ∧ (ty = 0 ∨ x = 0 ∨ x = 1)) ∧ nx L st (upM M a i.toNat x) else False
    | none => False
  | _ => False
def wpLen (st : List AV) : Prop := match st with
  | .inr (.inl a) :: st => match alk akL a with
    | some (0, n) => nx L (vI (n : Int) :: st) M
    | _ => False
  | _ => False
def wpLdc (i : Nat) (st : List AV) : Prop := match alk (mK t) i with
  | some (0, v) => nx L (vI v :: st) M
  | _ => False
def wpLdc2 (i : Nat) (st : List AV) : Prop := match alk (mK t) i with
  | some (1, v) => nx L (vL v :: st) M
  | _ => False
def wpDup (st : List AV) : Prop := match st with
  | .inl x :: st => nx L (vI x :: vI x :: st) M
  | .inr (.inl x) :: st => nx L (vR x :: vR x :: st) M
  | _ => False
def wpDup2 (st : List AV) : Prop := match st with
  | .inl x :: .inr (.inl y) :: st => nx L (vI x :: vR y :: vI x :: vR y :: st) M
  | _ => False
def wpPop (st : List AV) : Prop := match st with
  | .inl _ :: st => nx L st M
  | _ => False
def wpI2d (st : List AV) : Prop := match st with
  | .inl x :: st => nx L (vD (FP.i2d (Int32.ofInt x)) :: st) M
  | _ => False
def wpBinD (f : UInt64 → UInt64 → UInt64) (st : List AV) : Prop := match st with
  | .inr (.inr (.inr y)) :: .inr (.inr (.inr x)) :: st => vf_n64 (f x y) ∧ nx L (vD (f x y) :: st) M
  | _ => False
def wpRet (st : List AV) : Prop := match st with
  | [.inl x] => match mR t with
    | some .int => k = false ∧ Q (.inl (some (vI x))) M
    | some .boolean => k = false ∧ (x = 0 ∨ x = 1) ∧ Q (.inl (some (vI x))) M
    | _ => False
  | _ => False
def wpRetV (st : List AV) : Prop := match st with
  | [] => match mR t with
    | none => k = false ∧ Q (.inl none) M
    | _ => False
  | _ => False
def wpRetL (st : List AV) : Prop := match st with
  | [.inr (.inr (.inl x))] => match mR t with
    | some .long => k = false ∧ Q (.inl (some (vL x))) M
    | _ => False
  | _ => False
def wpRetD (st : List AV) : Prop := match st with
  | [.inr (.inr (.inr x))] => match mR t with
    | some .double => k = false ∧ Q (.inl (some (vD x))) M
    | _ => False
  | _ => False
def stp (st : List AV) : Instr → Prop
  | .iconst n => nx L (vI n :: st) M
  | .bipush n => nx L (vI n :: st) M
  | .sipush n => nx L (vI n :: st) M
  | .dconst n => nx L (vD (bif Nat.beq n.val 0 then FP.dconst0 else FP.dconst1) :: st) M
  | .iload_n i => wpLdI nx L M i.val st
  | .iload i => wpLdI nx L M i st
  | .aload_n i => wpLdA nx L M i.val st
  | .aload i => wpLdA nx L M i st
  | .lload_n i => wpLdL nx L M i.val st
  | .lload i => wpLdL nx L M i st
  | .istore_n i => wpStI t nx L M i.val st
  | .istore i => wpStI t nx L M i st
  | .lstore_n i => wpStL t nx L M i.val st
  | .lstore i => wpStL t nx L M i st
  | .iinc i n => wpInc t nx L M i n st
  | .iadd => wpBin nx L M (fun x y => x + y) st
  | .isub => wpBin nx L M (fun x y => x - y) st
  | .imul => wpBin nx L M (fun x y => x * y) st
  | .iand => wpBin nx L M iandI st
  | .ior => wpBin nx L M iorI st
  | .ishl => wpBin nx L M ishlI st
  | .ishr => wpBin nx L M ishrI st
  | .iushr => wpBin nx L M iushrI st
  | .idiv => wpDiv nx L M (fun x y => x / y) st
  | .irem => wpDiv nx L M (fun x y => x % y) st
  | .ineg => wpNeg nx L M st
  | .ladd => wpBinL nx L M (fun x y => x + y) st
  | .lmul => wpBinL nx L M (fun x y => x * y) st
  | .i2l => wpI2l nx L M st
  | .if_icmp c off => wpIf2 K nx pc L M c off st
  | .ifCond c off => wpIf1 K nx pc L M c off st
  | .goto off => K (tgt pc off) L st M
  | .tableswitch a b c o => wpSw K pc L M a b c o st
  | .getfield i => wpGet t nx L M i st
  | .putfield i => wpPut t nx L M i st
  | .iaload => wpAld nx L M 0 st
  | .baload => wpAld nx L M 1 st
  | .iastore => wpAst nx L M 0 st
  | .bastore => wpAst nx L M 1 st
  | .arraylength => wpLen nx L M st
  | .ldc i => wpLdc t nx L M i st
  | .ldc_w i => wpLdc t nx L M i st
  | .ldc2_w i => wpLdc2 t nx L M i st
  | .dup => wpDup nx L M st
  | .dup2 => wpDup2 nx L M st
  | .pop => wpPop nx L M st
  | .i2d => wpI2d nx L M st
  | .ddiv => wpBinD nx L M FP.ddiv st
  | .dmul => wpBinD nx L M FP.dmul st
  | .ireturn => wpRet k t Q M st
  | .return_ => wpRetV k t Q M st
  | .lreturn => wpRetL k t Q M st
  | .dreturn => wpRetD k t Q M st
  | .invokestatic _ => K pc L st M
  | .invokevirtual _ => K pc L st M
  | .new _ => K pc L st M
  | _ => False
end
def okI : Instr → Nat → Bool
  | .bipush n, len => decide (-128 ≤ n) && decide (n < 128) && Nat.beq len 2
  | .sipush n, len => decide (-32768 ≤ n) && decide (n < 32768) && Nat.beq len 3
  | .iload _, len | .aload _, len | .lload _, len | .istore _, len | .lstore _, len | .ldc _, len => Nat.beq len 2
  | .iinc _ _, len | .if_icmp _ _, len | .ifCond _ _, len | .goto _, len | .getfield _, len | .putfield _, len | .ldc_w _, len | .ldc2_w _, len | .invokestatic _, len | .invokevirtual _, len | .new _, len => Nat.beq len 3
  | .tableswitch _ _ _ _, _ => true
  | _, len => Nat.beq len 1
end
section
theorem ob8 {n : Int} (h0 : -128 ≤ n) (h1 : n < 128) : (Int8.ofInt n).toInt32 = Int32.ofInt n := by
  apply Int32.toInt_inj.mp
  rw [Int8.toInt_toInt32, Int8.toInt_ofInt_of_le (by omega) (by omega), Int32.toInt_ofInt_of_le (by omega) (by omega)]
theorem ob16 {n : Int} (h0 : -32768 ≤ n) (h1 : n < 32768) : (Int16.ofInt n).toInt32 = Int32.ofInt n := by
  apply Int32.toInt_inj.mp
  rw [Int16.toInt_toInt32, Int16.toInt_ofInt_of_le (by omega) (by omega), Int32.toInt_ofInt_of_le (by omega) (by omega)]
/-! one instruction, sound: by the kit's rows -/
def okT (pc : Nat) : Instr → Bool
  | .if_icmp _ off | .ifCond _ off | .goto off => decide (0 ≤ (pc : Int) + off)
  | .tableswitch a _ _ o => decide (0 ≤ (pc : Int) + a) && o.toList.all (fun q => decide (0 ≤ (pc : Int) + q))
  | _ => true
theorem tgt_ok {pc : Nat} {off : Int} (h : 0 ≤ (pc : Int) + off) : (pc : Int) + off = ((tgt pc off : Nat) : Int) := by
  unfold tgt; omega
section SND
variable {ev : Ev} {k : Bool} {d : Nat} {t : MT} {Q : Out → Mem → Prop} {K : Nat → Lo → List AV → Mem → Prop} {nx : Lo → List AV → Mem → Prop} {pc : Nat} {L : Lo} {M : Mem} {st : List AV}
abbrev nxOK (ev : Ev) (k : Bool) (d : Nat) (t : MT) (Q : Out → Mem → Prop) (nx : Lo → List AV → Mem → Prop) (pc : Nat) : Prop := ∀ L st M, nx L st M → AW ev k d t Q pc L st M
abbrev kOK (ev : Ev) (k : Bool) (d : Nat) (t : MT) (Q : Out → Mem → Prop) (K : Nat → Lo → List AV → Mem → Prop) : Prop := ∀ pc L st M, K pc L st M → AW ev k d t Q pc L st M

theorem sk_iconst {n : Int} (hd : decode (mC t) pc = .ok (.iconst n, 1)) (h : nx L (vI n :: st) M) (hn : nxOK ev k d t Q nx (pc + 1)) : AW ev k d t Q pc L st M := by
  intro p e s m args below meth c hc H locs ls hP hS hl
  refine lv_iconst (v := Int32.ofInt n) hc.1 hc.2.1 hd rfl ?_
  exact hn _ _ _ h p e s m args below meth c hc H locs ls hP hS hl
theorem sk_bipush {n : Int} (h0 : -128 ≤ n) (h1 : n < 128) (hd : decode (mC t) pc = .ok (.bipush n, 2)) (h : nx L (vI n :: st) M) (hn : nxOK ev k d t Q nx (pc + 2)) : AW ev k d t Q pc L st M := by
  intro p e s m args below meth c hc H locs ls hP hS hl
  refine lv_bipush (v := Int32.ofInt n) hc.1 hc.2.1 hd (ob8 h0 h1) ?_
  exact hn _ _ _ h p e s m args below meth c hc H locs ls hP hS hl
theorem sk_sipush {n : Int} (h0 : -32768 ≤ n) (h1 : n < 32768) (hd : decode (mC t) pc = .ok (.sipush n, 3)) (h : nx L (vI n :: st) M) (hn : nxOK ev k d t Q nx (pc + 3)) : AW ev k d t Q pc L st M := by
  intro p e s m args below meth c hc H locs ls hP hS hl
  refine lv_sipush (v := Int32.ofInt n) hc.1 hc.2.1 hd (ob16 h0 h1) ?_
  exact hn _ _ _ h p e s m args below meth c hc H locs ls hP hS hl
theorem sk_iload_n {i : Fin 4} (hd : decode (mC t) pc = .ok (.iload_n i, 1)) (h : wpLdI nx L M i.val st) (hn : nxOK ev k d t Q nx (pc + 1)) : AW ev k d t Q pc L st M := by
  unfold wpLdI at h
  split at h
  · rename_i x hg
    intro p e s m args below meth c hc H locs ls hP hS hl
    refine lv_iload_n hc.1 hc.2.1 hd rfl (hl.at hg) ?_
    exact hn _ _ _ h p e s m args below meth c hc H locs ls hP hS hl
  · exact h.elim
theorem sk_iload {i : Nat} (hd : decode (mC t) pc = .ok (.iload i, 2)) (h : wpLdI nx L M i st) (hn : nxOK ev k d t Q nx (pc + 2)) : AW ev k d t Q pc L st M := by
  unfold wpLdI at h
  split at h
  · rename_i x hg
    intro p e s m args below meth c hc H locs ls hP hS hl
    refine lv_iload hc.1 hc.2.1 hd (hl.at hg) ?_
    exact hn _ _ _ h p e s m args below meth c hc H locs ls hP hS hl
  · exact h.elim
theorem sk_aload_n {i : Fin 4} (hd : decode (mC t) pc = .ok (.aload_n i, 1)) (h : wpLdA nx L M i.val st) (hn : nxOK ev k d t Q nx (pc + 1)) : AW ev k d t Q pc L st M := by
  unfold wpLdA at h
  split at h
  · rename_i x hg
    intro p e s m args below meth c hc H locs ls hP hS hl
    refine lv_aload_n hc.1 hc.2.1 hd rfl (hl.at hg) ?_
    exact hn _ _ _ h p e s m args below meth c hc H locs ls hP hS hl
  · exact h.elim
theorem sk_aload {i : Nat} (hd : decode (mC t) pc = .ok (.aload i, 2)) (h : wpLdA nx L M i st) (hn : nxOK ev k d t Q nx (pc + 2)) : AW ev k d t Q pc L st M := by
  unfold wpLdA at h
  split at h
  · rename_i x hg
    intro p e s m args below meth c hc H locs ls hP hS hl
    refine lv_aload hc.1 hc.2.1 hd (hl.at hg) ?_
    exact hn _ _ _ h p e s m args below meth c hc H locs ls hP hS hl
  · exact h.elim
theorem sk_lload_n {i : Fin 4} (hd : decode (mC t) pc = .ok (.lload_n i, 1)) (h : wpLdL nx L M i.val st) (hn : nxOK ev k d t Q nx (pc + 1)) : AW ev k d t Q pc L st M := by
  unfold wpLdL at h
  split at h
  · rename_i x hg
    intro p e s m args below meth c hc H locs ls hP hS hl
    refine lv_lload_n hc.1 hc.2.1 hd rfl (hl.at hg) ?_
    exact hn _ _ _ h p e s m args below meth c hc H locs ls hP hS hl
  · exact h.elim
theorem sk_lload {i : Nat} (hd : decode (mC t) pc = .ok (.lload i, 2)) (h : wpLdL nx L M i st) (hn : nxOK ev k d t Q nx (pc + 2)) : AW ev k d t Q pc L st M := by
  unfold wpLdL at h
  split at h
  · rename_i x hg
    intro p e s m args below meth c hc H locs ls hP hS hl
    refine lv_lload hc.1 hc.2.1 hd (hl.at hg) ?_
    exact hn _ _ _ h p e s m args below meth c hc H locs ls hP hS hl
  · exact h.elim
theorem sk_istore_n {i : Fin 4} (hd : decode (mC t) pc = .ok (.istore_n i, 1)) (h : wpStI t nx L M i.val st) (hn : nxOK ev k d t Q nx (pc + 1)) : AW ev k d t Q pc L st M := by
  unfold wpStI at h
  split at h
  · rename_i x st'
    intro p e s m args below meth c hc H locs ls hP hS hl
    refine lv_istore_n (x := Int32.ofInt x) hc.1 hc.2.1 hd rfl hl h.1 rfl (fun ls' hl' => ?_)
    exact hn _ _ _ h.2 p e s m args below meth c hc H locs ls' hP hS (LH.st1 (v := vI x) hl')
  · exact h.elim
theorem sk_istore {i : Nat} (hd : decode (mC t) pc = .ok (.istore i, 2)) (h : wpStI t nx L M i st) (hn : nxOK ev k d t Q nx (pc + 2)) : AW ev k d t Q pc L st M := by
  unfold wpStI at h
  split at h
  · rename_i x st'
    intro p e s m args below meth c hc H locs ls hP hS hl
    refine lv_istore (x := Int32.ofInt x) hc.1 hc.2.1 hd hl h.1 rfl (fun ls' hl' => ?_)
    exact hn _ _ _ h.2 p e s m args below meth c hc H locs ls' hP hS (LH.st1 (v := vI x) hl')
  · exact h.elim
theorem sk_lstore_n {i : Fin 4} (hd : decode (mC t) pc = .ok (.lstore_n i, 1)) (h : wpStL t nx L M i.val st) (hn : nxOK ev k d t Q nx (pc + 1)) : AW ev k d t Q pc L st M := by
  unfold wpStL at h
  split at h
  · rename_i x st'
    intro p e s m args below meth c hc H locs ls hP hS hl
    refine lv_lstore_n (x := Int64.ofInt x) hc.1 hc.2.1 hd rfl hl h.1 rfl (fun ls' hl' => ?_)
    exact hn _ _ _ h.2 p e s m args below meth c hc H locs ls' hP hS (LH.st2 (v := vL x) hl')
  · exact h.elim
theorem sk_lstore {i : Nat} (hd : decode (mC t) pc = .ok (.lstore i, 2)) (h : wpStL t nx L M i st) (hn : nxOK ev k d t Q nx (pc + 2)) : AW ev k d t Q pc L st M := by
  unfold wpStL at h
  split at h
  · rename_i x st'
    intro p e s m args below meth c hc H locs ls hP hS hl
    refine lv_lstore (x := Int64.ofInt x) hc.1 hc.2.1 hd hl h.1 rfl (fun ls' hl' => ?_)
    exact hn _ _ _ h.2 p e s m args below meth c hc H locs ls' hP hS (LH.st2 (v := vL x) hl')
  · exact h.elim
theorem sk_iinc {i : Nat} {n : Int} (hd : decode (mC t) pc = .ok (.iinc i n, 3)) (h : wpInc t nx L M i n st) (hn : nxOK ev k d t Q nx (pc + 3)) : AW ev k d t Q pc L st M := by
  unfold wpInc at h
  split at h
  · rename_i x hg
    intro p e s m args below meth c hc H locs ls hP hS hl
    obtain ⟨q, hq⟩ := List.getElem?_of_mem ((asc_mem (eA ev) L 0 (i, .int (Int32.ofInt x))).mpr ⟨i, vI x, hg, by rw [Nat.zero_add]; rfl⟩)
    refine lv_iinc (v := Int32.ofInt (x + n)) (k := q) hc.1 hc.2.1 hd hl hq (by rw [Int32.ofInt_add]) h.1 rfl (fun ls' hl' => ?_)
    exact hn _ _ _ h.2 p e s m args below meth c hc H locs ls' hP hS (LH.st1 (v := vI (x + n)) hl')
  · exact h.elim
theorem sk_iadd (hd : decode (mC t) pc = .ok (.iadd, 1)) (h : wpBin nx L M (fun x y => x + y) st) (hn : nxOK ev k d t Q nx (pc + 1)) : AW ev k d t Q pc L st M := by
  unfold wpBin at h
  split at h
  · rename_i y x st'
    intro p e s m args below meth c hc H locs ls hP hS hl
    refine lv_iadd (x := Int32.ofInt x) (y := Int32.ofInt y) hc.1 hc.2.1 hd ?_
    rw [← Int32.ofInt_add]
    exact hn _ _ _ h p e s m args below meth c hc H locs ls hP hS hl
  · exact h.elim
theorem sk_isub (hd : decode (mC t) pc = .ok (.isub, 1)) (h : wpBin nx L M (fun x y => x - y) st) (hn : nxOK ev k d t Q nx (pc + 1)) : AW ev k d t Q pc L st M := by
  unfold wpBin at h
  split at h
  · rename_i y x st'
    intro p e s m args below meth c hc H locs ls hP hS hl
    refine lv_isub (x := Int32.ofInt x) (y := Int32.ofInt y) hc.1 hc.2.1 hd ?_
    rw [← Int32.ofInt_sub]
    exact hn _ _ _ h p e s m args below meth c hc H locs ls hP hS hl
  · exact h.elim
theorem sk_imul (hd : decode (mC t) pc = .ok (.imul, 1)) (h : wpBin nx L M (fun x y => x * y) st) (hn : nxOK ev k d t Q nx (pc + 1)) : AW ev k d t Q pc L st M := by
  unfold wpBin at h
  split at h
  · rename_i y x st'
    intro p e s m args below meth c hc H locs ls hP hS hl
    refine lv_imul (x := Int32.ofInt x) (y := Int32.ofInt y) hc.1 hc.2.1 hd ?_
    rw [← Int32.ofInt_mul]
    exact hn _ _ _ h p e s m args below meth c hc H locs ls hP hS hl
  · exact h.elim
theorem sk_iand (hd : decode (mC t) pc = .ok (.iand, 1)) (h : wpBin nx L M iandI st) (hn : nxOK ev k d t Q nx (pc + 1)) : AW ev k d t Q pc L st M := by
  unfold wpBin at h
  split at h
  · rename_i y x st'
    intro p e s m args below meth c hc H locs ls hP hS hl
    refine lv_iand (x := Int32.ofInt x) (y := Int32.ofInt y) hc.1 hc.2.1 hd ?_
    rw [← Int32.ofInt_toInt (Int32.ofInt x &&& Int32.ofInt y)]
    exact hn _ _ _ h p e s m args below meth c hc H locs ls hP hS hl
  · exact h.elim
theorem sk_ior (hd : decode (mC t) pc = .ok (.ior, 1)) (h : wpBin nx L M iorI st) (hn : nxOK ev k d t Q nx (pc + 1)) : AW ev k d t Q pc L st M := by
  unfold wpBin at h
  split at h
  · rename_i y x st'
    intro p e s m args below meth c hc H locs ls hP hS hl
    refine lv_ior (x := Int32.ofInt x) (y := Int32.ofInt y) hc.1 hc.2.1 hd ?_
    rw [← Int32.ofInt_toInt (Int32.ofInt x ||| Int32.ofInt y)]
    exact hn _ _ _ h p e s m args below meth c hc H locs ls hP hS hl
  · exact h.elim
theorem sk_ishl (hd : decode (mC t) pc = .ok (.ishl, 1)) (h : wpBin nx L M ishlI st) (hn : nxOK ev k d t Q nx (pc + 1)) : AW ev k d t Q pc L st M := by
  unfold wpBin at h
  split at h
  · rename_i y x st'
    intro p e s m args below meth c hc H locs ls hP hS hl
    refine lv_ishl (x := Int32.ofInt x) (y := Int32.ofInt y) hc.1 hc.2.1 hd ?_
    rw [← Int32.ofInt_toInt (Int32.ofInt x <<< (Int32.ofInt y &&& 31))]
    exact hn _ _ _ h p e s m args below meth c hc H locs ls hP hS hl
  · exact h.elim
theorem sk_ishr (hd : decode (mC t) pc = .ok (.ishr, 1)) (h : wpBin nx L M ishrI st) (hn : nxOK ev k d t Q nx (pc + 1)) : AW ev k d t Q pc L st M := by
  unfold wpBin at h
  split at h
  · rename_i y x st'
    intro p e s m args below meth c hc H locs ls hP hS hl
    refine lv_ishr (x := Int32.ofInt x) (y := Int32.ofInt y) hc.1 hc.2.1 hd ?_
    rw [← Int32.ofInt_toInt (Int32.ofInt x >>> (Int32.ofInt y &&& 31))]
    exact hn _ _ _ h p e s m args below meth c hc H locs ls hP hS hl
  · exact h.elim
theorem sk_iushr (hd : decode (mC t) pc = .ok (.iushr, 1)) (h : wpBin nx L M iushrI st) (hn : nxOK ev k d t Q nx (pc + 1)) : AW ev k d t Q pc L st M := by
  unfold wpBin at h
  split at h
  · rename_i y x st'
    intro p e s m args below meth c hc H locs ls hP hS hl
    refine lv_iushr (x := Int32.ofInt x) (y := Int32.ofInt y) (v := Int32.ofInt (iushrI x y)) hc.1 hc.2.1 hd (by unfold iushrI; rw [Int32.ofInt_toInt]) ?_
    exact hn _ _ _ h p e s m args below meth c hc H locs ls hP hS hl
  · exact h.elim
theorem sk_idiv (hd : decode (mC t) pc = .ok (.idiv, 1)) (h : wpDiv nx L M (fun x y => x / y) st) (hn : nxOK ev k d t Q nx (pc + 1)) : AW ev k d t Q pc L st M := by
  unfold wpDiv at h
  split at h
  · rename_i y x st'
    obtain ⟨⟨⟨h0, h1⟩, h2, h3⟩, h⟩ := h
    intro p e s m args below meth c hc H locs ls hP hS hl
    refine lv_idiv (x := Int32.ofInt x) (y := Int32.ofInt y) hc.1 hc.2.1 hd (fun q => ?_) ?_
    · have := (oI_eq (x := y) (y := 0) ⟨by omega, by omega⟩ ⟨by omega, by omega⟩).mp q
      omega
    · rw [oI_div h0 h1 h2 h3]
      exact hn _ _ _ h p e s m args below meth c hc H locs ls hP hS hl
  · exact h.elim
theorem sk_irem (hd : decode (mC t) pc = .ok (.irem, 1)) (h : wpDiv nx L M (fun x y => x % y) st) (hn : nxOK ev k d t Q nx (pc + 1)) : AW ev k d t Q pc L st M := by
  unfold wpDiv at h
  split at h
  · rename_i y x st'
    obtain ⟨⟨⟨h0, h1⟩, h2, h3⟩, h⟩ := h
    intro p e s m args below meth c hc H locs ls hP hS hl
    refine lv_irem (x := Int32.ofInt x) (y := Int32.ofInt y) hc.1 hc.2.1 hd (fun q => ?_) ?_
    · have := (oI_eq (x := y) (y := 0) ⟨by omega, by omega⟩ ⟨by omega, by omega⟩).mp q
      omega
    · rw [oI_rem h0 h1 h2 h3]
      exact hn _ _ _ h p e s m args below meth c hc H locs ls hP hS hl
  · exact h.elim
theorem sk_ineg (hd : decode (mC t) pc = .ok (.ineg, 1)) (h : wpNeg nx L M st) (hn : nxOK ev k d t Q nx (pc + 1)) : AW ev k d t Q pc L st M := by
  unfold wpNeg at h
  split at h
  · rename_i x st'
    intro p e s m args below meth c hc H locs ls hP hS hl
    refine lv_ineg (x := Int32.ofInt x) hc.1 hc.2.1 hd ?_
    rw [← Int32.ofInt_neg]
    exact hn _ _ _ h p e s m args below meth c hc H locs ls hP hS hl
  · exact h.elim
theorem sk_ladd (hd : decode (mC t) pc = .ok (.ladd, 1)) (h : wpBinL nx L M (fun x y => x + y) st) (hn : nxOK ev k d t Q nx (pc + 1)) : AW ev k d t Q pc L st M := by
  unfold wpBinL at h
  split at h
  · rename_i y x st'
    intro p e s m args below meth c hc H locs ls hP hS hl
    refine lv_ladd (x := Int64.ofInt x) (y := Int64.ofInt y) hc.1 hc.2.1 hd ?_
    rw [← Int64.ofInt_add]
    exact hn _ _ _ h p e s m args below meth c hc H locs ls hP hS hl
  · exact h.elim
theorem sk_lmul (hd : decode (mC t) pc = .ok (.lmul, 1)) (h : wpBinL nx L M (fun x y => x * y) st) (hn : nxOK ev k d t Q nx (pc + 1)) : AW ev k d t Q pc L st M := by
  unfold wpBinL at h
  split at h
  · rename_i y x st'
    intro p e s m args below meth c hc H locs ls hP hS hl
    refine lv_lmul (x := Int64.ofInt x) (y := Int64.ofInt y) hc.1 hc.2.1 hd ?_
    rw [← Int64.ofInt_mul]
    exact hn _ _ _ h p e s m args below meth c hc H locs ls hP hS hl
  · exact h.elim
theorem sk_i2l (hd : decode (mC t) pc = .ok (.i2l, 1)) (h : wpI2l nx L M st) (hn : nxOK ev k d t Q nx (pc + 1)) : AW ev k d t Q pc L st M := by
  unfold wpI2l at h
  split at h
  · rename_i x st'
    intro p e s m args below meth c hc H locs ls hP hS hl
    refine lv_i2l (x := Int32.ofInt x) (v := Int64.ofInt x) hc.1 hc.2.1 hd (oI_l h.1) ?_
    exact hn _ _ _ h.2 p e s m args below meth c hc H locs ls hP hS hl
  · exact h.elim
theorem sk_icmp_eq {off : Int} (ho : 0 ≤ (pc : Int) + off) (hd : decode (mC t) pc = .ok (.if_icmp .eq off, 3)) (h : wpIf2 K nx pc L M .eq off st) (hn : nxOK ev k d t Q nx (pc + 3)) (hK : kOK ev k d t Q K) : AW ev k d t Q pc L st M := by
  unfold wpIf2 at h
  split at h
  · rename_i y x st'
    obtain ⟨⟨hx, hy⟩, h1, h2⟩ := h
    intro p e s m args below meth c hc H locs ls hP hS hl
    refine lv_icmp_eq (x := Int32.ofInt x) (y := Int32.ofInt y) (tgt := tgt pc off) hc.1 hc.2.1 hd (tgt_ok ho) (fun q => ?_) (fun q => ?_)
    · exact hK _ _ _ _ (h1 ((oI_eq hx hy).mp q)) p e s m args below meth c hc H locs ls hP hS hl
    · exact hn _ _ _ (h2 (fun r => q ((oI_eq hx hy).mpr r))) p e s m args below meth c hc H locs ls hP hS hl
  · exact h.elim
theorem sk_if_eq {off : Int} (ho : 0 ≤ (pc : Int) + off) (hd : decode (mC t) pc = .ok (.ifCond .eq off, 3)) (h : wpIf1 K nx pc L M .eq off st) (hn : nxOK ev k d t Q nx (pc + 3)) (hK : kOK ev k d t Q K) : AW ev k d t Q pc L st M := by
  unfold wpIf1 at h
  split at h
  · rename_i x st'
    obtain ⟨hx, h1, h2⟩ := h
    have hy : Inr 0 := ⟨by omega, by omega⟩
    intro p e s m args below meth c hc H locs ls hP hS hl
    refine lv_if_eq (x := Int32.ofInt x) (tgt := tgt pc off) hc.1 hc.2.1 hd (tgt_ok ho) (fun q => ?_) (fun q => ?_)
    · exact hK _ _ _ _ (h1 ((oI_eq hx hy).mp q)) p e s m args below meth c hc H locs ls hP hS hl
    · exact hn _ _ _ (h2 (fun r => q ((oI_eq hx hy).mpr r))) p e s m args below meth c hc H locs ls hP hS hl
  · exact h.elim
theorem sk_icmp_ne {off : Int} (ho : 0 ≤ (pc : Int) + off) (hd : decode (mC t) pc = .ok (.if_icmp .ne off, 3)) (h : wpIf2 K nx pc L M .ne off st) (hn : nxOK ev k d t Q nx (pc + 3)) (hK : kOK ev k d t Q K) : AW ev k d t Q pc L st M := by
  unfold wpIf2 at h
  split at h
  · rename_i y x st'
    obtain ⟨⟨hx, hy⟩, h1, h2⟩ := h
    intro p e s m args below meth c hc H locs ls hP hS hl
    refine lv_icmp_ne (x := Int32.ofInt x) (y := Int32.ofInt y) (tgt := tgt pc off) hc.1 hc.2.1 hd (tgt_ok ho) (fun q => ?_) (fun q => ?_)
    · exact hK _ _ _ _ (h1 (fun r => q ((oI_eq hx hy).mpr r))) p e s m args below meth c hc H locs ls hP hS hl
    · exact hn _ _ _ (h2 (fun r => r ((oI_eq hx hy).mp q))) p e s m args below meth c hc H locs ls hP hS hl
  · exact h.elim
theorem sk_if_ne {off : Int} (ho : 0 ≤ (pc : Int) + off) (hd : decode (mC t) pc = .ok (.ifCond .ne off, 3)) (h : wpIf1 K nx pc L M .ne off st) (hn : nxOK ev k d t Q nx (pc + 3)) (hK : kOK ev k d t Q K) : AW ev k d t Q pc L st M := by
  unfold wpIf1 at h
  split at h
  · rename_i x st'
    obtain ⟨hx, h1, h2⟩ := h
    have hy : Inr 0 := ⟨by omega, by omega⟩
    intro p e s m args below meth c hc H locs ls hP hS hl
    refine lv_if_ne (x := Int32.ofInt x) (tgt := tgt pc off) hc.1 hc.2.1 hd (tgt_ok ho) (fun q => ?_) (fun q => ?_)
    · exact hK _ _ _ _ (h1 (fun r => q ((oI_eq hx hy).mpr r))) p e s m args below meth c hc H locs ls hP hS hl
    · exact hn _ _ _ (h2 (fun r => r ((oI_eq hx hy).mp q))) p e s m args below meth c hc H locs ls hP hS hl
  · exact h.elim
theorem sk_icmp_lt {off : Int} (ho : 0 ≤ (pc : Int) + off) (hd : decode (mC t) pc = .ok (.if_icmp .lt off, 3)) (h : wpIf2 K nx pc L M .lt off st) (hn : nxOK ev k d t Q nx (pc + 3)) (hK : kOK ev k d t Q K) : AW ev k d t Q pc L st M := by
  unfold wpIf2 at h
  split at h
  · rename_i y x st'
    obtain ⟨⟨hx, hy⟩, h1, h2⟩ := h
    intro p e s m args below meth c hc H locs ls hP hS hl
    refine lv_icmp_lt (x := Int32.ofInt x) (y := Int32.ofInt y) (tgt := tgt pc off) hc.1 hc.2.1 hd (tgt_ok ho) (fun q => ?_) (fun q => ?_)
    · exact hK _ _ _ _ (h1 ((oI_lt hx hy).mp q)) p e s m args below meth c hc H locs ls hP hS hl
    · exact hn _ _ _ (h2 (fun r => q ((oI_lt hx hy).mpr r))) p e s m args below meth c hc H locs ls hP hS hl
  · exact h.elim
theorem sk_if_lt {off : Int} (ho : 0 ≤ (pc : Int) + off) (hd : decode (mC t) pc = .ok (.ifCond .lt off, 3)) (h : wpIf1 K nx pc L M .lt off st) (hn : nxOK ev k d t Q nx (pc + 3)) (hK : kOK ev k d t Q K) : AW ev k d t Q pc L st M := by
  unfold wpIf1 at h
  split at h
  · rename_i x st'
    obtain ⟨hx, h1, h2⟩ := h
    have hy : Inr 0 := ⟨by omega, by omega⟩
    intro p e s m args below meth c hc H locs ls hP hS hl
    refine lv_if_lt (x := Int32.ofInt x) (tgt := tgt pc off) hc.1 hc.2.1 hd (tgt_ok ho) (fun q => ?_) (fun q => ?_)
    · exact hK _ _ _ _ (h1 ((oI_lt hx hy).mp q)) p e s m args below meth c hc H locs ls hP hS hl
    · exact hn _ _ _ (h2 (fun r => q ((oI_lt hx hy).mpr r))) p e s m args below meth c hc H locs ls hP hS hl
  · exact h.elim
theorem sk_icmp_ge {off : Int} (ho : 0 ≤ (pc : Int) + off) (hd : decode (mC t) pc = .ok (.if_icmp .ge off, 3)) (h : wpIf2 K nx pc L M .ge off st) (hn : nxOK ev k d t Q nx (pc + 3)) (hK : kOK ev k d t Q K) : AW ev k d t Q pc L st M := by
  unfold wpIf2 at h
  split at h
  · rename_i y x st'
    obtain ⟨⟨hx, hy⟩, h1, h2⟩ := h
    intro p e s m args below meth c hc H locs ls hP hS hl
    refine lv_icmp_ge (x := Int32.ofInt x) (y := Int32.ofInt y) (tgt := tgt pc off) hc.1 hc.2.1 hd (tgt_ok ho) (fun q => ?_) (fun q => ?_)
    · exact hK _ _ _ _ (h1 ((oI_le hy hx).mp q)) p e s m args below meth c hc H locs ls hP hS hl
    · exact hn _ _ _ (h2 (fun r => q ((oI_le hy hx).mpr r))) p e s m args below meth c hc H locs ls hP hS hl
  · exact h.elim
theorem sk_if_ge {off : Int} (ho : 0 ≤ (pc : Int) + off) (hd : decode (mC t) pc = .ok (.ifCond .ge off, 3)) (h : wpIf1 K nx pc L M .ge off st) (hn : nxOK ev k d t Q nx (pc + 3)) (hK : kOK ev k d t Q K) : AW ev k d t Q pc L st M := by
  unfold wpIf1 at h
  split at h
  · rename_i x st'
    obtain ⟨hx, h1, h2⟩ := h
    have hy : Inr 0 := ⟨by omega, by omega⟩
    intro p e s m args below meth c hc H locs ls hP hS hl
    refine lv_if_ge (x := Int32.ofInt x) (tgt := tgt pc off) hc.1 hc.2.1 hd (tgt_ok ho) (fun q => ?_) (fun q => ?_)
    · exact hK _ _ _ _ (h1 ((oI_le hy hx).mp q)) p e s m args below meth c hc H locs ls hP hS hl
    · exact hn _ _ _ (h2 (fun r => q ((oI_le hy hx).mpr r))) p e s m args below meth c hc H locs ls hP hS hl
  · exact h.elim
theorem sk_icmp_gt {off : Int} (ho : 0 ≤ (pc : Int) + off) (hd : decode (mC t) pc = .ok (.if_icmp .gt off, 3)) (h : wpIf2 K nx pc L M .gt off st) (hn : nxOK ev k d t Q nx (pc + 3)) (hK : kOK ev k d t Q K) : AW ev k d t Q pc L st M := by
  unfold wpIf2 at h
  split at h
  · rename_i y x st'
    obtain ⟨⟨hx, hy⟩, h1, h2⟩ := h
    intro p e s m args below meth c hc H locs ls hP hS hl
    refine lv_icmp_gt (x := Int32.ofInt x) (y := Int32.ofInt y) (tgt := tgt pc off) hc.1 hc.2.1 hd (tgt_ok ho) (fun q => ?_) (fun q => ?_)
    · exact hK _ _ _ _ (h1 ((oI_lt hy hx).mp q)) p e s m args below meth c hc H locs ls hP hS hl
    · exact hn _ _ _ (h2 (fun r => q ((oI_lt hy hx).mpr r))) p e s m args below meth c hc H locs ls hP hS hl
  · exact h.elim
theorem sk_if_gt {off : Int} (ho : 0 ≤ (pc : Int) + off) (hd : decode (mC t) pc = .ok (.ifCond .gt off, 3)) (h : wpIf1 K nx pc L M .gt off st) (hn : nxOK ev k d t Q nx (pc + 3)) (hK : kOK ev k d t Q K) : AW ev k d t Q pc L st M := by
  unfold wpIf1 at h
  split at h
  · rename_i x st'
    obtain ⟨hx, h1, h2⟩ := h
    have hy : Inr 0 := ⟨by omega, by omega⟩
    intro p e s m args below meth c hc H locs ls hP hS hl
    refine lv_if_gt (x := Int32.ofInt x) (tgt := tgt pc off) hc.1 hc.2.1 hd (tgt_ok ho) (fun q => ?_) (fun q => ?_)
    · exact hK _ _ _ _ (h1 ((oI_lt hy hx).mp q)) p e s m args below meth c hc H locs ls hP hS hl
    · exact hn _ _ _ (h2 (fun r => q ((oI_lt hy hx).mpr r))) p e s m args below meth c hc H locs ls hP hS hl
  · exact h.elim
theorem sk_icmp_le {off : Int} (ho : 0 ≤ (pc : Int) + off) (hd : decode (mC t) pc = .ok (.if_icmp .le off, 3)) (h : wpIf2 K nx pc L M .le off st) (hn : nxOK ev k d t Q nx (pc + 3)) (hK : kOK ev k d t Q K) : AW ev k d t Q pc L st M := by
  unfold wpIf2 at h
  split at h
  · rename_i y x st'
    obtain ⟨⟨hx, hy⟩, h1, h2⟩ := h
    intro p e s m args below meth c hc H locs ls hP hS hl
    refine lv_icmp_le (x := Int32.ofInt x) (y := Int32.ofInt y) (tgt := tgt pc off) hc.1 hc.2.1 hd (tgt_ok ho) (fun q => ?_) (fun q => ?_)
    · exact hK _ _ _ _ (h1 ((oI_le hx hy).mp q)) p e s m args below meth c hc H locs ls hP hS hl
    · exact hn _ _ _ (h2 (fun r => q ((oI_le hx hy).mpr r))) p e s m args below meth c hc H locs ls hP hS hl
  · exact h.elim
theorem sk_if_le {off : Int} (ho : 0 ≤ (pc : Int) + off) (hd : decode (mC t) pc = .ok (.ifCond .le off, 3)) (h : wpIf1 K nx pc L M .le off st) (hn : nxOK ev k d t Q nx (pc + 3)) (hK : kOK ev k d t Q K) : AW ev k d t Q pc L st M := by
  unfold wpIf1 at h
  split at h
  · rename_i x st'
    obtain ⟨hx, h1, h2⟩ := h
    have hy : Inr 0 := ⟨by omega, by omega⟩
    intro p e s m args below meth c hc H locs ls hP hS hl
    refine lv_if_le (x := Int32.ofInt x) (tgt := tgt pc off) hc.1 hc.2.1 hd (tgt_ok ho) (fun q => ?_) (fun q => ?_)
    · exact hK _ _ _ _ (h1 ((oI_le hx hy).mp q)) p e s m args below meth c hc H locs ls hP hS hl
    · exact hn _ _ _ (h2 (fun r => q ((oI_le hx hy).mpr r))) p e s m args below meth c hc H locs ls hP hS hl
  · exact h.elim
theorem sk_goto {off : Int} (ho : 0 ≤ (pc : Int) + off) (hd : decode (mC t) pc = .ok (.goto off, 3)) (h : K (tgt pc off) L st M) (hK : kOK ev k d t Q K) : AW ev k d t Q pc L st M := by
  intro p e s m args below meth c hc H locs ls hP hS hl
  refine lv_goto (tgt := tgt pc off) hc.1 hc.2.1 hd (tgt_ok ho) ?_
  exact hK _ _ _ _ h p e s m args below meth c hc H locs ls hP hS hl
theorem sk_sw {a lo hi : Int} {offs : Array Int} {len : Nat} (ho : 0 ≤ (pc : Int) + a) (ho2 : ∀ q ∈ offs.toList, 0 ≤ (pc : Int) + q) (hd : decode (mC t) pc = .ok (.tableswitch a lo hi offs, len)) (hlen : hi - lo < offs.size) (h : wpSw K pc L M a lo hi offs st) (hK : kOK ev k d t Q K) : AW ev k d t Q pc L st M := by
  unfold wpSw at h
  split at h
  · rename_i x st'
    obtain ⟨hx, h⟩ := h
    intro p e s m args below meth c hc H locs ls hP hS hl
    unfold tsw at h
    by_cases hb : x < lo ∨ hi < x
    · rw [if_pos hb] at h
      refine lv_tableOut (x := Int32.ofInt x) (tgt := tgt pc a) hc.1 hc.2.1 hd (by rw [oI_toInt hx]; exact hb) (tgt_ok ho) ?_
      exact hK _ _ _ _ h p e s m args below meth c hc H locs ls hP hS hl
    · rw [if_neg hb] at h
      have h1 : ¬ x < lo := fun q => hb (Or.inl q)
      have h2 : ¬ hi < x := fun q => hb (Or.inr q)
      have hlt : (x - lo).toNat < offs.size := by omega
      have hg : offs[(x - lo).toNat]? = some offs[(x - lo).toNat] := Array.getElem?_eq_getElem hlt
      rw [nth_eq, Array.getElem?_toList, hg] at h
      refine lv_tableIn (x := Int32.ofInt x) (off := offs[(x - lo).toNat]) (tgt := tgt pc offs[(x - lo).toNat]) hc.1 hc.2.1 hd (by rw [oI_toInt hx]; exact h1) (by rw [oI_toInt hx]; exact h2) (by rw [oI_toInt hx]; exact hg) (tgt_ok (ho2 _ (Array.getElem_mem_toList hlt))) ?_
      exact hK _ _ _ _ h p e s m args below meth c hc H locs ls hP hS hl
  · exact h.elim
theorem fk_lt : ∀ e ∈ fkL, e.1 < 47 ∧ (∃ q, vwCl[e.2.1]? = some q ∧ e.2.2.length = q.2.2) := by
  have h : (fkL.all fun e => decide (e.1 < 47) && (match vwCl[e.2.1]? with | some q => Nat.beq e.2.2.length q.2.2 | none => false)) = true := by decide +kernel
  intro e he
  have h1 := List.all_eq_true.mp h e he
  rw [Bool.and_eq_true] at h1
  refine ⟨of_decide_eq_true h1.1, ?_⟩
  have h2 := h1.2
  cases hq : vwCl[e.2.1]? with
  | none => rw [hq] at h2; cases h2
  | some q => rw [hq] at h2; exact ⟨q, rfl, Nat.eq_of_beq_eq_true h2⟩
theorem ak_lt : ∀ e ∈ akL, e.1 < 47 ∧ alk fkL e.1 = none ∧ e.2.2 < 2147483648 := by
  have h : (akL.all fun e => decide (e.1 < 47) && (match alk fkL e.1 with | some _ => false | none => true) && Nat.blt e.2.2 2147483648) = true := by decide +kernel
  intro e he
  have h1 := List.all_eq_true.mp h e he
  rw [Bool.and_eq_true, Bool.and_eq_true] at h1
  refine ⟨of_decide_eq_true h1.1.1, ?_, Nat.le_of_ble_eq_true h1.2⟩
  have h2 := h1.1.2
  cases hq : alk fkL e.1 with
  | none => rfl
  | some q => rw [hq] at h2; cases h2
theorem tyAll : ∀ (ci : Nat) (q : vw_C), vwCl[ci]? = some q → (∀ a, a < q.2.2 → ∀ b, b < q.2.2 → a ≠ b → (q.2.1 a).2.1 ≠ (q.2.1 b).2.1) ∧ ∃ ty : Nat → FieldType, ∀ j, j < q.2.2 → parseFieldDescriptor (q.2.1 j).2.2.1 = some (ty j) := by
  intro ci q h
  match ci, h with
  | 0, h => cases h; exact ⟨nmX0, tyX0, tyX0_ok⟩
  | 1, h => cases h; exact ⟨nmX1, tyX1, tyX1_ok⟩
  | 2, h => cases h; exact ⟨nmX2, tyX2, tyX2_ok⟩
  | 3, h => cases h; exact ⟨nmX3, tyX3, tyX3_ok⟩
  | 4, h => cases h; exact ⟨nmX4, tyX4, tyX4_ok⟩
  | 5, h => cases h; exact ⟨nmX5, tyX5, tyX5_ok⟩
  | 6, h => cases h; exact ⟨nmX6, tyX6, tyX6_ok⟩
  | 7, h => cases h; exact ⟨nmX7, tyX7, tyX7_ok⟩
  | 8, h => cases h; exact ⟨nmX8, tyX8, tyX8_ok⟩
  | k + 9, h => simp [vwCl] at h
/-- the fields that are numbers are not final, and of the type that their kind says -/
theorem fk_ty : ∀ e ∈ fkL, ∀ q, vwCl[e.2.1]? = some q → ∀ j f, e.2.2[j]? = some f → (f.1 = 0 → (q.2.1 j).2.2.2 = false ∧ parseFieldDescriptor (q.2.1 j).2.2.1 = some .int) ∧ (f.1 = 3 → (q.2.1 j).2.2.2 = false ∧ parseFieldDescriptor (q.2.1 j).2.2.1 = some .boolean) ∧ (f.1 = 2 → (q.2.1 j).2.2.2 = false ∧ parseFieldDescriptor (q.2.1 j).2.2.1 = some .long) := by
  have h : (fkL.all fun e => match vwCl[e.2.1]? with
    | none => true
    | some q => (List.range e.2.2.length).all fun j => match e.2.2[j]? with
      | none => true
      | some f => (!(Nat.beq f.1 0) || (decide ((q.2.1 j).2.2.2 = false) && decide (parseFieldDescriptor (q.2.1 j).2.2.1 = some .int))) && ((!(Nat.beq f.1 3) || (decide ((q.2.1 j).2.2.2 = false) && decide (parseFieldDescriptor (q.2.1 j).2.2.1 = some .boolean))) && (!(Nat.beq f.1 2) || (decide ((q.2.1 j).2.2.2 = false) && decide (parseFieldDescriptor (q.2.1 j).2.2.1 = some .long))))) = true := by decide +kernel
  intro e he q hq j f hf
  have h1 := List.all_eq_true.mp h e he
  rw [hq] at h1
  have hj : j < e.2.2.length := (List.getElem?_eq_some_iff.mp hf).1
  have h2 := List.all_eq_true.mp h1 j (List.mem_range.mpr hj)
  rw [hf] at h2
  simp only [Bool.and_eq_true, Bool.or_eq_true, Bool.not_eq_true', decide_eq_true_eq] at h2
  obtain ⟨h3, h4, h5⟩ := h2
  refine ⟨fun q => ?_, fun q => ?_, fun q => ?_⟩
  · rcases h3 with h | h
    · rw [q] at h; cases h
    · exact h
  · rcases h4 with h | h
    · rw [q] at h; cases h
    · exact h
  · rcases h5 with h | h
    · rw [q] at h; cases h
    · exact h
theorem cellE_obj {ev : Ev} {M : Mem} {a : Nat} {q : Nat × List (Nat × Nat)} (h : alk fkL a = some q) : cellE ev M a = .inr (q.1, fvs (eA ev) M a 0 q.2) := by
  unfold cellE; rw [h]
theorem cellE_arr0 {ev : Ev} {M : Mem} {a n : Nat} (h : alk akL a = some (0, n)) : cellE ev M a = .inl ((eY ev).1, n, .inl (fun i => Int32.ofInt (M a i))) := by
  unfold cellE; rw [(ak_lt _ (alk_mem h)).2.1, h]; rfl
theorem cellE_arr1 {ev : Ev} {M : Mem} {a n : Nat} (h : alk akL a = some (1, n)) : cellE ev M a = .inl ((eY ev).2.1, n, .inl (fun i => Int32.ofInt (M a i))) := by
  unfold cellE; rw [(ak_lt _ (alk_mem h)).2.1, h]; rfl
theorem cellE_arr2 {ev : Ev} {M : Mem} {a n : Nat} (h : alk akL a = some (2, n)) : cellE ev M a = .inl ((eY ev).2.2, n, .inr (.inl (fun i => Int64.ofInt (M a i)))) := by
  unfold cellE; rw [(ak_lt _ (alk_mem h)).2.1, h]; rfl
theorem sk_getf {i : Nat} (wsAll : ∀ (ci : Nat) (q : vw_C), vwCl[ci]? = some q → ∀ w ∈ u_ws q.1 q.2.1 q.2.2, w ∈ lw_big) (hd : decode (mC t) pc = .ok (.getfield i, 3)) (h : wpGet t nx L M i st) (hn : nxOK ev k d t Q nx (pc + 3)) : AW ev k d t Q pc L st M := by
  unfold wpGet at h
  split at h
  · rename_i a st'
    split at h
    · rename_i e' he
      split at h
      · rename_i q hq
        cases hb : Nat.beq q.1 e'.1 with
        | false => rw [hb] at h; exact h.elim
        | true =>
          rw [hb] at h
          have hqe : q.1 = e'.1 := Nat.eq_of_beq_eq_true hb
          replace h : (match nth q.2 e'.2 with | some f => nx L (fAV M a e'.2 f :: st') M | none => False) := h
          split at h
          · rename_i f hf
            rw [nth_eq] at hf
            intro p e s m args below meth c hc H locs ls hP hS hl
            obtain ⟨hlt, r, hr, hrl⟩ := fk_lt _ (alk_mem hq)
            obtain ⟨C, T, N⟩ := r
            obtain ⟨hj, hlink⟩ := hc.2.2.2.2.2.2.2.2.2.1 _ (alk_mem he) (C, T, N) (by rw [← hqe]; exact hr)
            have hev := hc.2.2.2.2.2.2.2.2.1
            refine va_get (D := eD ev) (cl := vwCl) (tys := tyT ev) (ws := wd ev M) (ref := (T e'.2).1) (C := C) (T := T) (N := N) (ci := q.1) (fs := fvs (eA ev) M a 0 q.2) (v := cv (eA ev) (fAV M a e'.2 f)) hc.1 hc.2.1 hc.2.2.2.2.2.2.1 (wsAll _ _ hr) hc.2.2.2.2.2.1 hev.2.1 hP a (by rw [wd_get ev M hlt, cellE_obj hq]) hr e'.2 hj (hc.2.2.2.2.2.2.1 _ hlink) (fun _ h9 => h9) (by rw [fvs_get, hf, Nat.zero_add]; rfl) hd ?_
            exact hn _ _ _ h p e s m args below meth c hc H locs ls hP hS hl
          · exact h.elim
      · exact h.elim
    · exact h.elim
  · exact h.elim
theorem sk_putf {i : Nat} (wsAll : ∀ (ci : Nat) (q : vw_C), vwCl[ci]? = some q → ∀ w ∈ u_ws q.1 q.2.1 q.2.2, w ∈ lw_big) (hd : decode (mC t) pc = .ok (.putfield i, 3)) (h : wpPut t nx L M i st) (hn : nxOK ev k d t Q nx (pc + 3)) : AW ev k d t Q pc L st M := by
  unfold wpPut at h
  split at h
  · rename_i v a st'
    split at h
    · rename_i e' he
      split at h
      · rename_i q hq
        cases hb : Nat.beq q.1 e'.1 with
        | false => rw [hb] at h; exact h.elim
        | true =>
          rw [hb] at h
          have hqe : q.1 = e'.1 := Nat.eq_of_beq_eq_true hb
          dsimp only [cond] at h
          split at h
          · rename_i f hf
            rw [nth_eq] at hf
            intro p e s m args below meth c hc H locs ls hP hS hl
            obtain ⟨hlt, r, hr, hrl⟩ := fk_lt _ (alk_mem hq)
            have hty := fk_ty _ (alk_mem hq) r hr e'.2 f hf
            obtain ⟨hnm, ty0, hty0⟩ := tyAll _ _ hr
            obtain ⟨C, T, N⟩ := r
            obtain ⟨hj, hlink⟩ := hc.2.2.2.2.2.2.2.2.2.1 _ (alk_mem he) (C, T, N) (by rw [← hqe]; exact hr)
            have hev := hc.2.2.2.2.2.2.2.2.1
            have put : ∀ (x : Int) (ty : FieldType) (w : Value), cv (eA ev) (fAV (upM M a e'.2 x) a e'.2 f) = w → (T e'.2).2.2.2 = false → parseFieldDescriptor (T e'.2).2.2.1 = some ty → narrow ty w = w → fits ty w = true → nx L st' (upM M a e'.2 x) → W p (eL ev) e (rmOf k d) s m args below meth c H locs 0 0 (vx_MQ below (QcOf ev k Q) (XcOf ev k Q) args s (mcOf k) (msOf k) (eR ev)) (F0 m pc ls (w :: .ref (eA ev a) :: st'.map (cv (eA ev)))) := by
              intro x ty w hw hfin hpd hnar hfit hnx
              refine va_put (D := eD ev) (cl := vwCl) (tys := tyT ev) (ws := wd ev M) (A := eR ev) (ref := (T e'.2).1) (C := C) (T := T) (N := N) (ci := q.1) (fs := fvs (eA ev) M a 0 q.2) (v := w) (ty := ty) hc.1 hc.2.1 hc.2.2.2.2.2.2.1 (wsAll _ _ hr) ty0 hty0 hnm hc.2.2.2.2.2.1 hev.2.1 hP (wd_D hev.1 M) hS a (by rw [wd_get ev M hlt, cellE_obj hq]) hr e'.2 hj (hc.2.2.2.2.2.2.1 _ hlink) (fun _ h9 => h9) hfin hpd hnar hfit (by rw [fvs_len]; exact (List.getElem?_eq_some_iff.mp hf).1) hd (fun H1 locs1 hP1 _ hS1 => ?_)
              refine hn _ _ _ hnx p e s m args below meth c hc H1 locs1 ls ?_ hS1 hl
              show va_P (eD ev) vwCl (wd ev (upM M a e'.2 x)) H1
              rw [wd_set, cellE_obj hq, fvs_set (eA ev) M a q.2 e'.2 x hf, hw]
              exact hP1
            split at h
            · rename_i x hf1
              refine put x .int (.int (Int32.ofInt x)) ?_ (hty.1 hf1).1 (hty.1 hf1).2 rfl rfl h
              unfold fAV; rw [hf1]; simp [upM, cv]
            · rename_i x hf1
              obtain ⟨h01, h⟩ := h
              refine put x .boolean (.int (Int32.ofInt x)) ?_ (hty.2.1 hf1).1 (hty.2.1 hf1).2 ?_ ?_ h
              · unfold fAV; rw [hf1]; simp [upM, cv]
              · rcases h01 with rfl | rfl <;> rfl
              · rcases h01 with rfl | rfl <;> rfl
            · rename_i x hf1
              refine put x .long (.long (Int64.ofInt x)) ?_ (hty.2.2 hf1).1 (hty.2.2 hf1).2 rfl rfl h
              unfold fAV; rw [hf1]; simp [upM, cv]
            · exact h.elim
          · exact h.elim
      · exact h.elim
    · exact h.elim
  · exact h.elim
theorem sk_iald (hd : decode (mC t) pc = .ok (.iaload, 1)) (h : wpAld nx L M 0 st) (hn : nxOK ev k d t Q nx (pc + 1)) : AW ev k d t Q pc L st M := by
  unfold wpAld at h
  split at h
  · rename_i i a st'
    split at h
    · rename_i q hq
      obtain ⟨q1, n⟩ := q
      cases hb : Nat.beq q1 0 with
      | false => rw [hb] at h; exact h.elim
      | true =>
        rw [hb] at h
        have hqe : q1 = 0 := Nat.eq_of_beq_eq_true hb
        subst hqe
        replace h : (0 ≤ i ∧ i < (n : Int)) ∧ nx L (vI (M a i.toNat) :: st') M := h
        obtain ⟨⟨h0, h1⟩, h⟩ := h
        obtain ⟨hlt, -, hsm⟩ := ak_lt _ (alk_mem hq)
        replace hsm : n < 2147483648 := hsm
        intro p e s m args below meth c hc H locs ls hP hS hl
        have hev := hc.2.2.2.2.2.2.2.2.1
        refine va_iald (D := eD ev) (cl := vwCl) (tys := tyT ev) (ws := wd ev M) (i := Int32.ofInt i) (n := n) hc.1 hc.2.1 hev.2.1 hP a 0 (by rw [wd_get ev M hlt, cellE_arr0 hq]) rfl (oI_in h0 h1 hsm) hd ?_
        rw [oI_cl h0 (by omega)]
        exact hn _ _ _ h p e s m args below meth c hc H locs ls hP hS hl
    · exact h.elim
  · exact h.elim
theorem sk_zald (hd : decode (mC t) pc = .ok (.baload, 1)) (h : wpAld nx L M 1 st) (hn : nxOK ev k d t Q nx (pc + 1)) : AW ev k d t Q pc L st M := by
  unfold wpAld at h
  split at h
  · rename_i i a st'
    split at h
    · rename_i q hq
      obtain ⟨q1, n⟩ := q
      cases hb : Nat.beq q1 1 with
      | false => rw [hb] at h; exact h.elim
      | true =>
        rw [hb] at h
        have hqe : q1 = 1 := Nat.eq_of_beq_eq_true hb
        subst hqe
        replace h : (0 ≤ i ∧ i < (n : Int)) ∧ nx L (vI (M a i.toNat) :: st') M := h
        obtain ⟨⟨h0, h1⟩, h⟩ := h
        obtain ⟨hlt, -, hsm⟩ := ak_lt _ (alk_mem hq)
        replace hsm : n < 2147483648 := hsm
        intro p e s m args below meth c hc H locs ls hP hS hl
        have hev := hc.2.2.2.2.2.2.2.2.1
        refine va_zald (D := eD ev) (cl := vwCl) (tys := tyT ev) (ws := wd ev M) (i := Int32.ofInt i) (n := n) hc.1 hc.2.1 hev.2.1 hP a 1 (by rw [wd_get ev M hlt, cellE_arr1 hq]) rfl (oI_in h0 h1 hsm) hd ?_
        rw [oI_cl h0 (by omega)]
        exact hn _ _ _ h p e s m args below meth c hc H locs ls hP hS hl
    · exact h.elim
  · exact h.elim
theorem sk_iast (hd : decode (mC t) pc = .ok (.iastore, 1)) (h : wpAst nx L M 0 st) (hn : nxOK ev k d t Q nx (pc + 1)) : AW ev k d t Q pc L st M := by
  unfold wpAst at h
  split at h
  · rename_i x i a st'
    split at h
    · rename_i q hq
      obtain ⟨q1, n⟩ := q
      cases hb : Nat.beq q1 0 with
      | false => rw [hb] at h; exact h.elim
      | true =>
        rw [hb] at h
        have hqe : q1 = 0 := Nat.eq_of_beq_eq_true hb
        subst hqe
        replace h : ((0 ≤ i ∧ i < (n : Int)) ∧ ((0 : Nat) = 0 ∨ x = 0 ∨ x = 1)) ∧ nx L st' (upM M a i.toNat x) := h
        obtain ⟨⟨⟨h0, h1⟩, hx⟩, h⟩ := h
        obtain ⟨hlt, -, hsm⟩ := ak_lt _ (alk_mem hq)
        replace hsm : n < 2147483648 := hsm
        intro p e s m args below meth c hc H locs ls hP hS hl
        have hev := hc.2.2.2.2.2.2.2.2.1
        refine va_iast (D := eD ev) (cl := vwCl) (tys := tyT ev) (ws := wd ev M) (A := eR ev) (i := Int32.ofInt i) (x := Int32.ofInt x) (n := n) hc.1 hc.2.1 hev.2.1 hP (wd_D hev.1 M) hS a 0 (by rw [wd_get ev M hlt, cellE_arr0 hq]) rfl (oI_in h0 h1 hsm) hd (fun H1 locs1 hP1 _ hS1 => ?_)
        refine hn _ _ _ h p e s m args below meth c hc H1 locs1 ls ?_ hS1 hl
        · show va_P (eD ev) vwCl (wd ev (upM M a i.toNat x)) H1
          rw [oI_cl h0 (by omega)] at hP1
          rw [wd_set, cellE_arr0 hq]
          have he : (fun j => Int32.ofInt (upM M a i.toNat x a j)) = upd (fun j => Int32.ofInt (M a j)) i.toNat (Int32.ofInt x) := by
            funext j
            unfold upM upd
            by_cases hj : j = i.toNat
            · rw [if_pos ⟨rfl, hj⟩, if_pos hj]
            · rw [if_neg (fun r => hj r.2), if_neg hj]
          rw [he]
          exact hP1
    · exact h.elim
  · exact h.elim
theorem sk_zast (hd : decode (mC t) pc = .ok (.bastore, 1)) (h : wpAst nx L M 1 st) (hn : nxOK ev k d t Q nx (pc + 1)) : AW ev k d t Q pc L st M := by
  unfold wpAst at h
  split at h
  · rename_i x i a st'
    split at h
    · rename_i q hq
      obtain ⟨q1, n⟩ := q
      cases hb : Nat.beq q1 1 with
      | false => rw [hb] at h; exact h.elim
      | true =>
        rw [hb] at h
        have hqe : q1 = 1 := Nat.eq_of_beq_eq_true hb
        subst hqe
        replace h : ((0 ≤ i ∧ i < (n : Int)) ∧ ((1 : Nat) = 0 ∨ x = 0 ∨ x = 1)) ∧ nx L st' (upM M a i.toNat x) := h
        obtain ⟨⟨⟨h0, h1⟩, hx⟩, h⟩ := h
        obtain ⟨hlt, -, hsm⟩ := ak_lt _ (alk_mem hq)
        replace hsm : n < 2147483648 := hsm
        intro p e s m args below meth c hc H locs ls hP hS hl
        have hev := hc.2.2.2.2.2.2.2.2.1
        refine va_zast (D := eD ev) (cl := vwCl) (tys := tyT ev) (ws := wd ev M) (A := eR ev) (i := Int32.ofInt i) (x := Int32.ofInt x) (n := n) hc.1 hc.2.1 hev.2.1 hP (wd_D hev.1 M) hS a 1 (by rw [wd_get ev M hlt, cellE_arr1 hq]) rfl (oI_in h0 h1 hsm) hd (fun H1 locs1 hP1 _ hS1 => ?_)
        refine hn _ _ _ h p e s m args below meth c hc H1 locs1 ls ?_ hS1 hl
        · show va_P (eD ev) vwCl (wd ev (upM M a i.toNat x)) H1
          have hnar : vp_nar .boolean (Int32.ofInt x) = Int32.ofInt x := by rcases hx with hx | rfl | rfl <;> first | rfl | cases hx
          rw [hnar] at hP1
          rw [oI_cl h0 (by omega)] at hP1
          rw [wd_set, cellE_arr1 hq]
          have he : (fun j => Int32.ofInt (upM M a i.toNat x a j)) = upd (fun j => Int32.ofInt (M a j)) i.toNat (Int32.ofInt x) := by
            funext j
            unfold upM upd
            by_cases hj : j = i.toNat
            · rw [if_pos ⟨rfl, hj⟩, if_pos hj]
            · rw [if_neg (fun r => hj r.2), if_neg hj]
          rw [he]
          exact hP1
    · exact h.elim
  · exact h.elim
theorem sk_alen (hd : decode (mC t) pc = .ok (.arraylength, 1)) (h : wpLen nx L M st) (hn : nxOK ev k d t Q nx (pc + 1)) : AW ev k d t Q pc L st M := by
  unfold wpLen at h
  split at h
  · rename_i a st'
    split at h
    · rename_i n hq
      obtain ⟨hlt, -, hsm⟩ := ak_lt _ (alk_mem hq)
      intro p e s m args below meth c hc H locs ls hP hS hl
      have hev := hc.2.2.2.2.2.2.2.2.1
      exact va_alen (D := eD ev) (cl := vwCl) (tys := tyT ev) (ws := wd ev M) (x := (n, .inl (fun i => Int32.ofInt (M a i)))) hc.1 hc.2.1 hev.2.1 hP a 0 (by rw [wd_get ev M hlt, cellE_arr0 hq]) (ty := .int) rfl rfl hd (hn _ _ _ h p e s m args below meth c hc H locs ls hP hS hl)
    · exact h.elim
  · exact h.elim
theorem sk_ldc {i : Nat} (hd : decode (mC t) pc = .ok (.ldc i, 2)) (h : wpLdc t nx L M i st) (hn : nxOK ev k d t Q nx (pc + 2)) : AW ev k d t Q pc L st M := by
  unfold wpLdc at h
  split at h
  · rename_i v hv
    intro p e s m args below meth c hc H locs ls hP hS hl
    exact lv_ldc (v := Int32.ofInt v) hc.1 hc.2.1 hc.2.2.2.2.2.1 (hc.2.2.2.2.2.2.1 _ ((hc.2.2.2.2.2.2.2.2.2.2 _ (alk_mem hv)).1 rfl)) hd (hn _ _ _ h p e s m args below meth c hc H locs ls hP hS hl)
  · exact h.elim
theorem sk_ldcw {i : Nat} (hd : decode (mC t) pc = .ok (.ldc_w i, 3)) (h : wpLdc t nx L M i st) (hn : nxOK ev k d t Q nx (pc + 3)) : AW ev k d t Q pc L st M := by
  unfold wpLdc at h
  split at h
  · rename_i v hv
    intro p e s m args below meth c hc H locs ls hP hS hl
    exact lv_ldcw (v := Int32.ofInt v) hc.1 hc.2.1 hc.2.2.2.2.2.1 (hc.2.2.2.2.2.2.1 _ ((hc.2.2.2.2.2.2.2.2.2.2 _ (alk_mem hv)).1 rfl)) hd (hn _ _ _ h p e s m args below meth c hc H locs ls hP hS hl)
  · exact h.elim
theorem sk_ldc2 {i : Nat} (hd : decode (mC t) pc = .ok (.ldc2_w i, 3)) (h : wpLdc2 t nx L M i st) (hn : nxOK ev k d t Q nx (pc + 3)) : AW ev k d t Q pc L st M := by
  unfold wpLdc2 at h
  split at h
  · rename_i v hv
    intro p e s m args below meth c hc H locs ls hP hS hl
    exact lv_ldc2 (v := Int64.ofInt v) hc.1 hc.2.1 hc.2.2.2.2.2.1 (hc.2.2.2.2.2.2.1 _ ((hc.2.2.2.2.2.2.2.2.2.2 _ (alk_mem hv)).2 rfl)) hd (hn _ _ _ h p e s m args below meth c hc H locs ls hP hS hl)
  · exact h.elim
theorem sk_dup (hd : decode (mC t) pc = .ok (.dup, 1)) (h : wpDup nx L M st) (hn : nxOK ev k d t Q nx (pc + 1)) : AW ev k d t Q pc L st M := by
  unfold wpDup at h
  split at h
  · intro p e s m args below meth c hc H locs ls hP hS hl
    exact lv_dup hc.1 hc.2.1 hd rfl (hn _ _ _ h p e s m args below meth c hc H locs ls hP hS hl)
  · intro p e s m args below meth c hc H locs ls hP hS hl
    exact lv_dup hc.1 hc.2.1 hd rfl (hn _ _ _ h p e s m args below meth c hc H locs ls hP hS hl)
  · exact h.elim
theorem sk_dup2 (hd : decode (mC t) pc = .ok (.dup2, 1)) (h : wpDup2 nx L M st) (hn : nxOK ev k d t Q nx (pc + 1)) : AW ev k d t Q pc L st M := by
  unfold wpDup2 at h
  split at h
  · intro p e s m args below meth c hc H locs ls hP hS hl
    exact lv_dup2_11 hc.1 hc.2.1 hd rfl rfl (hn _ _ _ h p e s m args below meth c hc H locs ls hP hS hl)
  · exact h.elim
theorem sk_pop (hd : decode (mC t) pc = .ok (.pop, 1)) (h : wpPop nx L M st) (hn : nxOK ev k d t Q nx (pc + 1)) : AW ev k d t Q pc L st M := by
  unfold wpPop at h
  split at h
  · intro p e s m args below meth c hc H locs ls hP hS hl
    exact lv_pop hc.1 hc.2.1 hd rfl (hn _ _ _ h p e s m args below meth c hc H locs ls hP hS hl)
  · exact h.elim
theorem sk_i2d (hd : decode (mC t) pc = .ok (.i2d, 1)) (h : wpI2d nx L M st) (hn : nxOK ev k d t Q nx (pc + 1)) : AW ev k d t Q pc L st M := by
  unfold wpI2d at h
  split at h
  · intro p e s m args below meth c hc H locs ls hP hS hl
    exact lv_i2d hc.1 hc.2.1 hd (hn _ _ _ h p e s m args below meth c hc H locs ls hP hS hl)
  · exact h.elim
theorem sk_ddiv (hd : decode (mC t) pc = .ok (.ddiv, 1)) (h : wpBinD nx L M FP.ddiv st) (hn : nxOK ev k d t Q nx (pc + 1)) : AW ev k d t Q pc L st M := by
  unfold wpBinD at h
  split at h
  · intro p e s m args below meth c hc H locs ls hP hS hl
    exact lv_ddiv hc.1 hc.2.1 hd h.1 (hn _ _ _ h.2 p e s m args below meth c hc H locs ls hP hS hl)
  · exact h.elim
theorem sk_dmul (hd : decode (mC t) pc = .ok (.dmul, 1)) (h : wpBinD nx L M FP.dmul st) (hn : nxOK ev k d t Q nx (pc + 1)) : AW ev k d t Q pc L st M := by
  unfold wpBinD at h
  split at h
  · intro p e s m args below meth c hc H locs ls hP hS hl
    exact lv_dmul hc.1 hc.2.1 hd h.1 (hn _ _ _ h.2 p e s m args below meth c hc H locs ls hP hS hl)
  · exact h.elim
theorem sk_dconst {n : Fin 2} (hd : decode (mC t) pc = .ok (.dconst n, 1)) (h : nx L (vD (bif Nat.beq n.val 0 then FP.dconst0 else FP.dconst1) :: st) M) (hn : nxOK ev k d t Q nx (pc + 1)) : AW ev k d t Q pc L st M := by
  intro p e s m args below meth c hc H locs ls hP hS hl
  match n, hd, h with
  | 0, hd, h => exact lv_dconst0 hc.1 hc.2.1 hd (hn _ _ _ h p e s m args below meth c hc H locs ls hP hS hl)
  | 1, hd, h => exact lv_dconst1 hc.1 hc.2.1 hd (hn _ _ _ h p e s m args below meth c hc H locs ls hP hS hl)
theorem sk_ireturn (hd : decode (mC t) pc = .ok (.ireturn, 1)) (h : wpRet k t Q M st) : AW ev k d t Q pc L st M := by
  unfold wpRet at h
  split at h
  · rename_i x
    split at h
    · rename_i hr
      obtain ⟨rfl, h⟩ := h
      intro p e s m args below meth c hc H locs ls hP hS hl
      exact vx_ret (W.zret (ty := .int) (v := Int32.ofInt x) hc.1 hc.2.1 (hc.2.2.2.1.trans hr) rfl (fun u hu hW => ⟨(some (vI x)), M, rfl, rfl, h, by rw [hu]; exact hP, hS.F hu⟩) hS.2.2 hd hc.2.2.2.2.1)
    · rename_i hr
      obtain ⟨rfl, h01, h⟩ := h
      intro p e s m args below meth c hc H locs ls hP hS hl
      exact vx_ret (W.zret (ty := .boolean) (v := Int32.ofInt x) hc.1 hc.2.1 (hc.2.2.2.1.trans hr) (by rcases h01 with rfl | rfl <;> rfl) (fun u hu hW => ⟨(some (vI x)), M, rfl, rfl, h, by rw [hu]; exact hP, hS.F hu⟩) hS.2.2 hd hc.2.2.2.2.1)
    · exact h.elim
  · exact h.elim
theorem sk_return (hd : decode (mC t) pc = .ok (.return_, 1)) (h : wpRetV k t Q M st) : AW ev k d t Q pc L st M := by
  unfold wpRetV at h
  split at h
  · split at h
    · rename_i hr
      obtain ⟨rfl, h⟩ := h
      intro p e s m args below meth c hc H locs ls hP hS hl
      exact vx_ret (W.vret hc.1 hc.2.1 (hc.2.2.2.1.trans hr) (fun u hu hW => ⟨none, M, rfl, rfl, h, by rw [hu]; exact hP, hS.F hu⟩) hS.2.2 hd hc.2.2.2.2.1)
    · exact h.elim
  · exact h.elim
theorem sk_lreturn (hd : decode (mC t) pc = .ok (.lreturn, 1)) (h : wpRetL k t Q M st) : AW ev k d t Q pc L st M := by
  unfold wpRetL at h
  split at h
  · rename_i x
    split at h
    · rename_i hr
      obtain ⟨rfl, h⟩ := h
      intro p e s m args below meth c hc H locs ls hP hS hl
      exact vx_ret (W.lret (v := Int64.ofInt x) hc.1 hc.2.1 (hc.2.2.2.1.trans hr) (fun u hu hW => ⟨(some (vL x)), M, rfl, rfl, h, by rw [hu]; exact hP, hS.F hu⟩) hS.2.2 hd hc.2.2.2.2.1)
    · exact h.elim
  · exact h.elim
theorem sk_dreturn (hd : decode (mC t) pc = .ok (.dreturn, 1)) (h : wpRetD k t Q M st) : AW ev k d t Q pc L st M := by
  unfold wpRetD at h
  split at h
  · rename_i x
    split at h
    · rename_i hr
      obtain ⟨rfl, h⟩ := h
      intro p e s m args below meth c hc H locs ls hP hS hl
      exact vx_ret (W.dret (v := x) hc.1 hc.2.1 (hc.2.2.2.1.trans hr) (fun u hu hW => ⟨(some (vD x)), M, rfl, rfl, h, by rw [hu]; exact hP, hS.F hu⟩) hS.2.2 hd hc.2.2.2.2.1)
    · exact h.elim
  · exact h.elim
end SND
end
section
/-! blocks, calls, throws -/
theorem wsAll : ∀ (ci : Nat) (q : vw_C), vwCl[ci]? = some q → ∀ w ∈ u_ws q.1 q.2.1 q.2.2, w ∈ lw_big := by
  have h : (vwCl.all fun q => (u_ws q.1 q.2.1 q.2.2).all fun w => decide (w ∈ lw_big)) = true := by decide +kernel
  intro ci q hq w hw
  exact of_decide_eq_true (List.all_eq_true.mp (List.all_eq_true.mp h q (List.mem_of_getElem? hq)) w hw)
theorem blen {a b : Nat} (h : Nat.beq a b = true) : a = b := Nat.eq_of_beq_eq_true h
def okS : Instr → Bool
  | .tableswitch _ lo hi o => decide (hi - lo < o.size)
  | _ => true
theorem stp_ok {ev : Ev} {k : Bool} {d : Nat} {t : MT} {Q : Out → Mem → Prop} {K : Nat → Lo → List AV → Mem → Prop} {nx : Lo → List AV → Mem → Prop} {pc : Nat} {L : Lo} {M : Mem} {st : List AV} {i : Instr} {len : Nat}
    (hd : decode (mC t) pc = .ok (i, len)) (h1 : okI i len = true) (h2 : okT pc i = true) (h3 : okS i = true) (h : stp k t Q K nx pc L M st i) (hn : nxOK ev k d t Q nx (pc + len)) (hK : kOK ev k d t Q K) : AW ev k d t Q pc L st M := by
  cases i with
  | iconst n => cases blen h1; exact sk_iconst hd h hn
  | bipush n =>
    simp only [okI, Bool.and_eq_true, decide_eq_true_eq] at h1
    cases blen h1.2; exact sk_bipush h1.1.1 h1.1.2 hd h hn
  | sipush n =>
    simp only [okI, Bool.and_eq_true, decide_eq_true_eq] at h1
    cases blen h1.2; exact sk_sipush h1.1.1 h1.1.2 hd h hn
  | dconst n => cases blen h1; exact sk_dconst hd h hn
  | iload_n i => cases blen h1; exact sk_iload_n hd h hn
  | iload i => cases blen h1; exact sk_iload hd h hn
  | aload_n i => cases blen h1; exact sk_aload_n hd h hn
  | aload i => cases blen h1; exact sk_aload hd h hn
  | lload_n i => cases blen h1; exact sk_lload_n hd h hn
  | lload i => cases blen h1; exact sk_lload hd h hn
  | istore_n i => cases blen h1; exact sk_istore_n hd h hn
  | istore i => cases blen h1; exact sk_istore hd h hn
  | lstore_n i => cases blen h1; exact sk_lstore_n hd h hn
  | lstore i => cases blen h1; exact sk_lstore hd h hn
  | iinc i n => cases blen h1; exact sk_iinc hd h hn
  | iadd => cases blen h1; exact sk_iadd hd h hn
  | isub => cases blen h1; exact sk_isub hd h hn
  | imul => cases blen h1; exact sk_imul hd h hn
  | iand => cases blen h1; exact sk_iand hd h hn
  | ior => cases blen h1; exact sk_ior hd h hn
  | ishl => cases blen h1; exact sk_ishl hd h hn
  | ishr => cases blen h1; exact sk_ishr hd h hn
  | iushr => cases blen h1; exact sk_iushr hd h hn
  | idiv => cases blen h1; exact sk_idiv hd h hn
  | irem => cases blen h1; exact sk_irem hd h hn
  | ineg => cases blen h1; exact sk_ineg hd h hn
  | ladd => cases blen h1; exact sk_ladd hd h hn
  | lmul => cases blen h1; exact sk_lmul hd h hn
  | i2l => cases blen h1; exact sk_i2l hd h hn
  | if_icmp c off =>
    cases blen h1
    have ho : 0 ≤ (pc : Int) + off := of_decide_eq_true h2
    cases c
    · exact sk_icmp_eq ho hd h hn hK
    · exact sk_icmp_ne ho hd h hn hK
    · exact sk_icmp_lt ho hd h hn hK
    · exact sk_icmp_ge ho hd h hn hK
    · exact sk_icmp_gt ho hd h hn hK
    · exact sk_icmp_le ho hd h hn hK
  | ifCond c off =>
    cases blen h1
    have ho : 0 ≤ (pc : Int) + off := of_decide_eq_true h2
    cases c
    · exact sk_if_eq ho hd h hn hK
    · exact sk_if_ne ho hd h hn hK
    · exact sk_if_lt ho hd h hn hK
    · exact sk_if_ge ho hd h hn hK
    · exact sk_if_gt ho hd h hn hK
    · exact sk_if_le ho hd h hn hK
  | goto off => cases blen h1; exact sk_goto (of_decide_eq_true h2) hd h hK
  | tableswitch a lo hi o =>
    simp only [okT, Bool.and_eq_true, decide_eq_true_eq] at h2
    exact sk_sw h2.1 (fun q hq => of_decide_eq_true (List.all_eq_true.mp h2.2 q hq)) hd (of_decide_eq_true h3) h hK
  | getfield i => cases blen h1; exact sk_getf wsAll hd h hn
  | putfield i => cases blen h1; exact sk_putf wsAll hd h hn
  | iaload => cases blen h1; exact sk_iald hd h hn
  | baload => cases blen h1; exact sk_zald hd h hn
  | iastore => cases blen h1; exact sk_iast hd h hn
  | bastore => cases blen h1; exact sk_zast hd h hn
  | arraylength => cases blen h1; exact sk_alen hd h hn
  | ldc i => cases blen h1; exact sk_ldc hd h hn
  | ldc_w i => cases blen h1; exact sk_ldcw hd h hn
  | ldc2_w i => cases blen h1; exact sk_ldc2 hd h hn
  | dup => cases blen h1; exact sk_dup hd h hn
  | dup2 => cases blen h1; exact sk_dup2 hd h hn
  | pop => cases blen h1; exact sk_pop hd h hn
  | i2d => cases blen h1; exact sk_i2d hd h hn
  | ddiv => cases blen h1; exact sk_ddiv hd h hn
  | dmul => cases blen h1; exact sk_dmul hd h hn
  | ireturn => cases blen h1; exact sk_ireturn hd h
  | return_ => cases blen h1; exact sk_return hd h
  | lreturn => cases blen h1; exact sk_lreturn hd h
  | dreturn => cases blen h1; exact sk_dreturn hd h
  | invokestatic _ => exact hK _ _ _ _ h
  | invokevirtual _ => exact hK _ _ _ _ h
  | new _ => exact hK _ _ _ _ h
  | _ => exact h.elim
abbrev Pg : Type := List (Nat × Instr × Nat)
/-- a stretch of instructions -/
def wpB (k : Bool) (t : MT) (Q : Out → Mem → Prop) (K : Nat → Lo → List AV → Mem → Prop) : Pg → Lo → List AV → Mem → Prop
  | [], _, _, _ => False
  | e :: r, L, st, M => match r with
    | [] => stp k t Q K (fun _ _ _ => False) e.1 L M st e.2.1
    | e' :: _ => stp k t Q K (fun L st M => bif Nat.beq (e.1 + e.2.2) e'.1 then wpB k t Q K r L st M else False) e.1 L M st e.2.1
def okE (c : ByteArray) (e : Nat × Instr × Nat) : Bool := decide (decode c e.1 = .ok (e.2.1, e.2.2)) && (okI e.2.1 e.2.2 && (okT e.1 e.2.1 && okS e.2.1))
def okP (c : ByteArray) (pg : Pg) : Prop := ∀ e ∈ pg, okE c e = true
theorem okP_of {c : ByteArray} {pg : Pg} (h : pg.all (okE c) = true) : okP c pg := List.all_eq_true.mp h
theorem wpB_ok {ev : Ev} {k : Bool} {d : Nat} {t : MT} {Q : Out → Mem → Prop} {K : Nat → Lo → List AV → Mem → Prop} (hK : kOK ev k d t Q K) :
    ∀ (pg : Pg), okP (mC t) pg → ∀ (e : Nat × Instr × Nat) (r : Pg), pg = e :: r → ∀ (L : Lo) (st : List AV) (M : Mem), wpB k t Q K pg L st M → AW ev k d t Q e.1 L st M := by
  intro pg
  induction pg with
  | nil => intro _ e r h; cases h
  | cons e0 r0 ih =>
    intro hok e r he L st M h
    injection he with h4 h5
    subst h4; subst h5
    have h0 := hok e0 List.mem_cons_self
    simp only [okE, Bool.and_eq_true, decide_eq_true_eq] at h0
    obtain ⟨hd, h1, h2, h3⟩ := h0
    cases r0 with
    | nil => exact stp_ok (nx := fun _ _ _ => False) hd h1 h2 h3 h (fun _ _ _ q => q.elim) hK
    | cons e' r' =>
      refine stp_ok (nx := fun L st M => bif Nat.beq (e0.1 + e0.2.2) e'.1 then wpB k t Q K (e' :: r') L st M else False) hd h1 h2 h3 h (fun L st M q => ?_) hK
      cases hb : Nat.beq (e0.1 + e0.2.2) e'.1 with
      | false => rw [hb] at q; exact q.elim
      | true =>
        rw [hb] at q
        rw [Nat.eq_of_beq_eq_true hb]
        exact ih (fun x hx => hok x (List.mem_cons_of_mem _ hx)) e' r' rfl L st M q
/-- go on at a place of the program -/
theorem AW.go {ev : Ev} {k : Bool} {d : Nat} {t : MT} {Q : Out → Mem → Prop} {pg : Pg} (hok : okP (mC t) pg) (i : Nat) {e : Nat × Instr × Nat} {r : Pg} (he : pg.drop i = e :: r) {L : Lo} {st : List AV} {M : Mem} (h : wpB k t Q (AW ev k d t Q) (e :: r) L st M) : AW ev k d t Q e.1 L st M :=
  wpB_ok (fun _ _ _ _ q => q) (e :: r) (fun x hx => hok x (List.mem_of_mem_drop (by rw [he]; exact hx))) e r rfl L st M h
/-! calls -/
def ctn (ev : Ev) (k : Bool) (d : Nat) (t : MT) (Q : Out → Mem → Prop) (pc : Nat) (L : Lo) (rest : List AV) : Out → Mem → Prop := fun o M => match o with
  | .inl v => AW ev k d t Q pc L (v.toList ++ rest) M
  | .inr _ => False
theorem call_go {ev : Ev} {k : Bool} {d : Nat} {t : MT} {Q : Out → Mem → Prop} {pc : Nat} {L : Lo} {st rest : List AV} {p : Program} {e : Env} {s : State} {m : MethodId} {args : Array Value} {below : List Frame} {meth : Method} {c : Code} {H : Heap} {locs : List Loc} {ls : Array Slot} {a : Array Value}
    (hc : Cx ev t p s m args meth c) (hS : va_S (eR ev) s.heap H locs) (hl : LH (eA ev) ls (mL t) L)
    (hr : vx_Run p (eL ev) e (rmOf k d) s m args below meth c H locs 0 0 0 0 (F0 m pc ls (st.map (cv (eA ev)))) (rest.map (cv (eA ev))) (QcOf ev false (ctn ev k d t Q (pc + 3) L rest) a) (XcOf ev false (ctn ev k d t Q (pc + 3) L rest)) (eR ev)) :
    W p (eL ev) e (rmOf k d) s m args below meth c H locs 0 0 (vx_MQ below (QcOf ev k Q) (XcOf ev k Q) args s (mcOf k) (msOf k) (eR ev)) (F0 m pc ls (st.map (cv (eA ev)))) := by
  intro T hT X
  rcases hr T hT X with ⟨v, st₀, t', T', L', h0, X', hL, e1, e2, ⟨v', M', hv, -, hQ, hP, hF⟩, sg⟩ | ⟨q, st₀, t', T', L', E, ce, h0, X', hL, e1, e2, ⟨M', hk, -⟩, hce, hcv, hcl, sg⟩
  · cases hv
    obtain ⟨k1, k2, k3⟩ := vx_keep (A1 := eR ev) h0 e1 hS (fun _ _ q => q) (fun _ q => q) hL hF
    have hAW : AW ev k d t Q (pc + 3) L (v'.toList ++ rest) M' := hQ
    obtain ⟨t2, a1, b1⟩ := hAW p e s m args below meth c hc T'.heap (locs ++ L') ls (by rw [e1]; exact hP) k3 hl T' rfl X'
    refine ⟨t2, sg t2 ?_, b1⟩
    have he : (Option.map (cv (eA ev)) v').toList ++ rest.map (cv (eA ev)) = (v'.toList ++ rest).map (cv (eA ev)) := by
      cases v' <;> simp
    rw [he]
    exact a1
  · cases hk
/-- a call that throws, not caught here -/
theorem call_thr {ev : Ev} {d : Nat} {t : MT} {Q : Out → Mem → Prop} {pc : Nat} {st rest : List AV} {p : Program} {e : Env} {s : State} {m : MethodId} {args : Array Value} {below : List Frame} {meth : Method} {c : Code} {H : Heap} {locs : List Loc} {ls : Array Slot} {a : Array Value}
    (hc : Cx ev t p s m args meth c) (hS : va_S (eR ev) s.heap H locs)
    (hr : vx_Run p (eL ev) e (rmOf true d) s m args below meth c H locs 0 0 1 6 (F0 m pc ls (st.map (cv (eA ev)))) (rest.map (cv (eA ev))) (QcOf ev true Q a) (XcOf ev true Q) (eR ev)) :
    W p (eL ev) e (rmOf true d) s m args below meth c H locs 0 0 (vx_MQ below (QcOf ev true Q) (XcOf ev true Q) args s (mcOf true) (msOf true) (eR ev)) (F0 m pc ls (st.map (cv (eA ev)))) := by
  intro T hT X
  rcases hr T hT X with ⟨v, st₀, t', T', L', h0, X', hL, e1, e2, ⟨v', M', hv, hk, -⟩, sg⟩ | ⟨q, st₀, t', T', L', E, ce, h0, X', hL, e1, e2, ⟨M', -, hQ, hP, hF⟩, hce, hcv, hcl, sg⟩
  · cases hk
  · obtain ⟨k1, k2, k3⟩ := vx_keep (A1 := eR ev) h0 e1 hS (fun _ _ q => q) (fun _ q => q) hL hF
    have hw := vx_out (p := p) (l := eL ev) (e := e) (R := rmOf true d) (s := s) (m := m) (args := args) (below := below) (meth := meth) (c := c) (H := T'.heap) (locs := locs ++ L') (cells := 0 + 1) (slots := 0 + 6) (ls := ls) (rest := rest.map (cv (eA ev))) (Qc := QcOf ev true Q) (XC := XcOf ev true Q) (free := eR ev) (pc := pc) (E := E) (ce := ce) (q := q) (mc := mcOf true) (ms := msOf true)
      (fun x hx => (hc.2.2.2.2.2.2.2.1 x hx).elim) hc.2.2.2.2.1 (by rw [e1]; exact hce) hcv hcl
      (fun u hu hA => ⟨M', rfl, hQ, by rw [hu, e1]; exact hP, by rw [← hu] at k3; exact k3.F rfl⟩) k3.2.2 (Nat.le_refl _) (Nat.le_refl _)
    obtain ⟨t2, a1, b1⟩ := hw T' rfl X'
    exact ⟨t2, sg.trans a1, b1⟩
theorem pcB (ev : Ev) (as : List AV) (M : Mem) : FrameBlind (va_Pc (as.map (cv (eA ev))) (fun U => evAt ev U ∧ PW ev M U.heap)) := fun _ _ _ _ q => ⟨q.1, q.2.1.blind, q.2.2⟩
/-- what a static method's tables say: arity n -/
def SMok (t : MT) (n : Nat) : Prop := Cond.static (mN t) ∈ lw_big ∧ Cond.initialized (mN t).cls ∈ lw_big ∧ Cond.code (mN t) (mC t) (mL t) (mR t) ∈ lw_big ∧ ((mN t).cls ≠ "java/lang/invoke/MethodHandle" ∧ (mN t).cls ≠ "java/lang/invoke/VarHandle" ∧ (parseMethodDescriptor (mN t).desc).map (fun d => d.parameters.length) = some n) ∧ mL t ≤ 19
def VMok (t : MT) (n ci : Nat) : Prop := (∃ q, vwCl[ci]? = some q ∧ q.1 = (mN t).cls) ∧ Cond.instanceMethod (mN t) ∈ lw_big ∧ Cond.selects (mN t).cls (mN t) (mN t) ∈ lw_big ∧ Cond.initialized (mN t).cls ∈ lw_big ∧ Cond.code (mN t) (mC t) (mL t) (mR t) ∈ lw_big ∧ ((mN t).cls ≠ "java/lang/invoke/MethodHandle" ∧ (mN t).cls ≠ "java/lang/invoke/VarHandle" ∧ (parseMethodDescriptor (mN t).desc).map (fun d => d.parameters.length) = some n) ∧ mL t ≤ 19
theorem ws_good {t : MT} (h : Cond.code (mN t) (mC t) (mL t) (mR t) ∈ lw_big) : GoodIn lw_big (wsOf t) := fun w hw => (List.mem_cons.mp hw).elim (fun e => e ▸ big_good _ h) (fun h => big_good w h)
theorem good_cons {w : Jvm.Cond} {l : List Cond} (h : w ∈ lw_big) (hl : GoodIn lw_big l) : GoodIn lw_big (w :: l) := fun x hx => (List.mem_cons.mp hx).elim (fun e => e ▸ big_good _ h) (fun h => hl x h)
def catS (rest : List AV) : Nat := (rest.map fun v => bif lwide (some v) then 2 else 1).sum
theorem catS_ok (ad : Nat → Nat) (rest : List AV) (h : catS rest ≤ 8) : ((rest.map (cv ad)).map fun v => v.category).sum ≤ 8 := by
  have : ((rest.map (cv ad)).map fun v => v.category) = rest.map fun v => bif lwide (some v) then 2 else 1 := by
    rw [List.map_map]
    apply List.map_congr_left
    intro v _
    rcases v with x | k | x | d <;> rfl
  rw [this]; exact h
theorem rmR {k : Bool} {d d' maxL : Nat} (hd : d' < d) (hm : maxL ≤ 19) (k' : Bool) : (rmOf k' d').frames + 1 ≤ (rmOf k d).frames ∧ 8 + (maxL + 11) + (rmOf k' d').locals ≤ (rmOf k d).locals := by
  constructor
  · exact hd
  · show 8 + (maxL + 11) + 38 * d' ≤ 38 * d
    omega
theorem AW.callS {ev : Ev} {k : Bool} {d : Nat} {t : MT} {Q : Out → Mem → Prop} {pc : Nat} {L : Lo} {M : Mem} {t' : MT} {n d' idx : Nat} (as rest : List AV) (hs : SMok t' n) (hl' : Cond.methodLink (mN t).cls idx (mN t') ∈ lw_big) (hdec : decode (mC t) pc = .ok (.invokestatic idx, 3)) (hd : d' < d) (hn : as.length = n) (hcat : catS rest ≤ 8)
    (h : AM ev false d' t' as M (ctn ev k d t Q (pc + 3) L rest)) : AW ev k d t Q pc L (as.reverse ++ rest) M := by
  intro p e s m args below meth c hc H locs ls hP hS hl
  refine call_go (rest := rest) (a := (as.map (cv (eA ev))).toArray) hc hS hl ?_
  have hts := hc.2.2.2.2.2.2.1
  refine vx_runS (Ts := lw_big) (own := (mN t).cls) (nL := mL t) (cc := mC t) (n := n) (bytes := mC t') (maxL := mL t') (ret := mR t') (index := idx) (As := as.map (cv (eA ev))) ⟨hc.1, hc.2.1, hc.2.2.1, hc.2.2.2.2.2.1, hts⟩ h
    (va_cwS n hts (good_cons hl' (good_cons hs.1 (good_cons hs.2.1 (ws_good hs.2.2.1)))) rfl rfl rfl hs.2.2.2.1 (rmR hd hs.2.2.2.2 false)) ⟨pcB ev as M, fun U hU hW => ⟨rfl, hc.2.2.2.2.2.2.2.2.1.go hS hU hW, by rw [hU]; exact hP⟩⟩ rfl (by rw [List.length_map]; exact hn) hl.1 (by rw [List.map_append, List.map_reverse]) (by show 2 * 0 + _ ≤ 8; rw [Nat.mul_zero, Nat.zero_add]; exact catS_ok _ _ hcat) hdec ⟨by show 0 + 0 ≤ _; exact Nat.zero_le _, by show 0 + 0 ≤ _; exact Nat.zero_le _⟩
theorem AW.callST {ev : Ev} {d : Nat} {t : MT} {Q : Out → Mem → Prop} {pc : Nat} {L : Lo} {M : Mem} {t' : MT} {n d' idx : Nat} (as rest : List AV) (hs : SMok t' n) (hl' : Cond.methodLink (mN t).cls idx (mN t') ∈ lw_big) (hdec : decode (mC t) pc = .ok (.invokestatic idx, 3)) (hd : d' < d) (hn : as.length = n) (hcat : catS rest ≤ 8)
    (h : AM ev true d' t' as M Q) : AW ev true d t Q pc L (as.reverse ++ rest) M := by
  intro p e s m args below meth c hc H locs ls hP hS hl
  refine call_thr (rest := rest) (a := (as.map (cv (eA ev))).toArray) hc hS ?_
  have hts := hc.2.2.2.2.2.2.1
  refine vx_runS (Ts := lw_big) (own := (mN t).cls) (nL := mL t) (cc := mC t) (n := n) (bytes := mC t') (maxL := mL t') (ret := mR t') (index := idx) (As := as.map (cv (eA ev))) ⟨hc.1, hc.2.1, hc.2.2.1, hc.2.2.2.2.2.1, hts⟩ h
    (va_cwS n hts (good_cons hl' (good_cons hs.1 (good_cons hs.2.1 (ws_good hs.2.2.1)))) rfl rfl rfl hs.2.2.2.1 (rmR hd hs.2.2.2.2 true)) ⟨pcB ev as M, fun U hU hW => ⟨rfl, hc.2.2.2.2.2.2.2.2.1.go hS hU hW, by rw [hU]; exact hP⟩⟩ rfl (by rw [List.length_map]; exact hn) hl.1 (by rw [List.map_append, List.map_reverse]) (by show 2 * 0 + _ ≤ 8; rw [Nat.mul_zero, Nat.zero_add]; exact catS_ok _ _ hcat) hdec ⟨by show 0 + 1 ≤ 1; omega, by show 0 + 6 ≤ 6; omega⟩
theorem AW.callV {ev : Ev} {k : Bool} {d : Nat} {t : MT} {Q : Out → Mem → Prop} {pc : Nat} {L : Lo} {M : Mem} {t' : MT} {n d' idx ci b : Nat} {fs : List (Nat × Nat)} (as rest : List AV) (hs : VMok t' n ci) (hb : alk fkL b = some (ci, fs)) (hl' : Cond.methodLink (mN t).cls idx (mN t') ∈ lw_big) (hdec : decode (mC t) pc = .ok (.invokevirtual idx, 3)) (hd : d' < d) (hn : as.length = n) (hcat : catS rest ≤ 8)
    (h : AM ev false d' t' (vR b :: as) M (ctn ev k d t Q (pc + 3) L rest)) : AW ev k d t Q pc L (as.reverse ++ vR b :: rest) M := by
  intro p e s m args below meth c hc H locs ls hP hS hl
  refine call_go (rest := rest) (a := ((vR b :: as).map (cv (eA ev))).toArray) hc hS hl ?_
  have hts := hc.2.2.2.2.2.2.1
  obtain ⟨⟨q, hq, hqn⟩, hs1, hs2, hs3, hs4, hs5, hs6⟩ := hs
  have hlt := (fk_lt _ (alk_mem hb)).1
  have hrecv := va_recv hc.2.2.2.2.2.2.2.2.1.2.1 hP hq (q0 := b) (by rw [wd_get ev M hlt, cellE_obj hb])
  rw [hqn] at hrecv
  refine vx_runV (Ts := lw_big) (own := (mN t).cls) (C := (mN t').cls) (nL := mL t) (cc := mC t) (n := n) (bytes := mC t') (maxL := mL t') (ret := mR t') (index := idx) (b := eA ev b) (As := as.map (cv (eA ev))) ⟨hc.1, hc.2.1, hc.2.2.1, hc.2.2.2.2.2.1, hts⟩ h
    (cwV n hts (good_cons hl' (good_cons hs1 (good_cons hs2 (good_cons hs3 (ws_good hs4))))) rfl rfl rfl ⟨rfl, hs5⟩ (rmR hd hs6 false)) ⟨pcB ev (vR b :: as) M, hrecv, fun U hU hW => ⟨rfl, hc.2.2.2.2.2.2.2.2.1.go hS hU hW, by rw [hU]; exact hP⟩⟩ rfl (by rw [List.length_map]; exact hn) hl.1 (by rw [List.map_append, List.map_reverse]; rfl) (by show 2 * 0 + _ ≤ 8; rw [Nat.mul_zero, Nat.zero_add]; exact catS_ok _ _ hcat) hdec ⟨by show 0 + 0 ≤ _; exact Nat.zero_le _, by show 0 + 0 ≤ _; exact Nat.zero_le _⟩
theorem AW.callVT {ev : Ev} {d : Nat} {t : MT} {Q : Out → Mem → Prop} {pc : Nat} {L : Lo} {M : Mem} {t' : MT} {n d' idx ci b : Nat} {fs : List (Nat × Nat)} (as rest : List AV) (hs : VMok t' n ci) (hb : alk fkL b = some (ci, fs)) (hl' : Cond.methodLink (mN t).cls idx (mN t') ∈ lw_big) (hdec : decode (mC t) pc = .ok (.invokevirtual idx, 3)) (hd : d' < d) (hn : as.length = n) (hcat : catS rest ≤ 8)
    (h : AM ev true d' t' (vR b :: as) M Q) : AW ev true d t Q pc L (as.reverse ++ vR b :: rest) M := by
  intro p e s m args below meth c hc H locs ls hP hS hl
  refine call_thr (rest := rest) (a := ((vR b :: as).map (cv (eA ev))).toArray) hc hS ?_
  have hts := hc.2.2.2.2.2.2.1
  obtain ⟨⟨q, hq, hqn⟩, hs1, hs2, hs3, hs4, hs5, hs6⟩ := hs
  have hlt := (fk_lt _ (alk_mem hb)).1
  have hrecv := va_recv hc.2.2.2.2.2.2.2.2.1.2.1 hP hq (q0 := b) (by rw [wd_get ev M hlt, cellE_obj hb])
  rw [hqn] at hrecv
  refine vx_runV (Ts := lw_big) (own := (mN t).cls) (C := (mN t').cls) (nL := mL t) (cc := mC t) (n := n) (bytes := mC t') (maxL := mL t') (ret := mR t') (index := idx) (b := eA ev b) (As := as.map (cv (eA ev))) ⟨hc.1, hc.2.1, hc.2.2.1, hc.2.2.2.2.2.1, hts⟩ h
    (cwV n hts (good_cons hl' (good_cons hs1 (good_cons hs2 (good_cons hs3 (ws_good hs4))))) rfl rfl rfl ⟨rfl, hs5⟩ (rmR hd hs6 true)) ⟨pcB ev (vR b :: as) M, hrecv, fun U hU hW => ⟨rfl, hc.2.2.2.2.2.2.2.2.1.go hS hU hW, by rw [hU]; exact hP⟩⟩ rfl (by rw [List.length_map]; exact hn) hl.1 (by rw [List.map_append, List.map_reverse]; rfl) (by show 2 * 0 + _ ≤ 8; rw [Nat.mul_zero, Nat.zero_add]; exact catS_ok _ _ hcat) hdec ⟨by show 0 + 1 ≤ 1; omega, by show 0 + 6 ≤ 6; omega⟩
end
