section
-- ===== PART A: goes FIRST, ahead of the names: the tables' words, and 'selects' of the private methods out of them =====
/-- a private method of a class that the tables say can be made, by its rows of tables_1 -/
def lw_okq (q : MethodName × Nat) : Prop := (q.1.cls ≠ "java/lang/invoke/MethodHandle" ∧ q.1.cls ≠ "java/lang/invoke/VarHandle") ∧ Cond.instantiable q.1.cls q.2 ∈ tables_1 ∧ Cond.privateMethod q.1 ∈ tables_1 ∧ Cond.instanceMethod q.1 ∈ tables_1
theorem lw_p0 : lw_okq (⟨"OrganCorners$Payout", "sharePot", "(LOrganCorners$Town;I)V"⟩, 3) := ⟨⟨by decide +kernel, by decide +kernel⟩, List.mem_of_getElem? (i := 264) (by decide +kernel), List.mem_of_getElem? (i := 355) (by decide +kernel), List.mem_of_getElem? (i := 356) (by decide +kernel)⟩
theorem lw_p1 : lw_okq (⟨"OrganCorners$Payout", "giveUnits", "(II)V"⟩, 3) := ⟨⟨by decide +kernel, by decide +kernel⟩, List.mem_of_getElem? (i := 264) (by decide +kernel), List.mem_of_getElem? (i := 359) (by decide +kernel), List.mem_of_getElem? (i := 360) (by decide +kernel)⟩
theorem lw_p2 : lw_okq (⟨"OrganCorners$Payout", "giveAllowances", "(LOrganCorners$Town;)V"⟩, 3) := ⟨⟨by decide +kernel, by decide +kernel⟩, List.mem_of_getElem? (i := 264) (by decide +kernel), List.mem_of_getElem? (i := 363) (by decide +kernel), List.mem_of_getElem? (i := 364) (by decide +kernel)⟩
theorem lw_p3 : lw_okq (⟨"OrganCorners$Town", "payOut", "(LOrganCorners$Payout;)V"⟩, 15) := ⟨⟨by decide +kernel, by decide +kernel⟩, List.mem_of_getElem? (i := 36) (by decide +kernel), List.mem_of_getElem? (i := 374) (by decide +kernel), List.mem_of_getElem? (i := 375) (by decide +kernel)⟩
theorem lw_p4 : lw_okq (⟨"OrganCorners$Town", "beginDay", "()V"⟩, 15) := ⟨⟨by decide +kernel, by decide +kernel⟩, List.mem_of_getElem? (i := 36) (by decide +kernel), List.mem_of_getElem? (i := 378) (by decide +kernel), List.mem_of_getElem? (i := 379) (by decide +kernel)⟩
theorem lw_p5 : lw_okq (⟨"OrganCorners$Town", "takeCornersBack", "()V"⟩, 15) := ⟨⟨by decide +kernel, by decide +kernel⟩, List.mem_of_getElem? (i := 36) (by decide +kernel), List.mem_of_getElem? (i := 382) (by decide +kernel), List.mem_of_getElem? (i := 383) (by decide +kernel)⟩
theorem lw_p6 : lw_okq (⟨"java/lang/Throwable", "fillInStackTrace", "(I)Ljava/lang/Throwable;"⟩, 6) := ⟨⟨by decide +kernel, by decide +kernel⟩, List.mem_of_getElem? (i := 530) (by decide +kernel), List.mem_of_getElem? (i := 528) (by decide +kernel), List.mem_of_getElem? (i := 529) (by decide +kernel)⟩
theorem lw_p7 : lw_okq (⟨"OrganCorners", "withCorner", "(JI)J"⟩, 5) := ⟨⟨by decide +kernel, by decide +kernel⟩, List.mem_of_getElem? (i := 28) (by decide +kernel), List.mem_of_getElem? (i := 598) (by decide +kernel), List.mem_of_getElem? (i := 599) (by decide +kernel)⟩
theorem lw_p8 : lw_okq (⟨"OrganCorners", "withOrgan", "(JI)J"⟩, 5) := ⟨⟨by decide +kernel, by decide +kernel⟩, List.mem_of_getElem? (i := 28) (by decide +kernel), List.mem_of_getElem? (i := 633) (by decide +kernel), List.mem_of_getElem? (i := 634) (by decide +kernel)⟩
theorem lw_p9 : lw_okq (⟨"OrganCorners$Town", "reasonAgainstAll", "(I)I"⟩, 15) := ⟨⟨by decide +kernel, by decide +kernel⟩, List.mem_of_getElem? (i := 36) (by decide +kernel), List.mem_of_getElem? (i := 653) (by decide +kernel), List.mem_of_getElem? (i := 654) (by decide +kernel)⟩
theorem lw_p10 : lw_okq (⟨"OrganCorners$Outlook", "hinderedPairs", "(LOrganCorners$Town;II)I"⟩, 4) := ⟨⟨by decide +kernel, by decide +kernel⟩, List.mem_of_getElem? (i := 284) (by decide +kernel), List.mem_of_getElem? (i := 702) (by decide +kernel), List.mem_of_getElem? (i := 703) (by decide +kernel)⟩
theorem lw_p11 : lw_okq (⟨"OrganCorners", "withPlayer", "(JI)J"⟩, 5) := ⟨⟨by decide +kernel, by decide +kernel⟩, List.mem_of_getElem? (i := 28) (by decide +kernel), List.mem_of_getElem? (i := 707) (by decide +kernel), List.mem_of_getElem? (i := 708) (by decide +kernel)⟩
theorem lw_p12 : lw_okq (⟨"OrganCorners", "withText", "(J)J"⟩, 5) := ⟨⟨by decide +kernel, by decide +kernel⟩, List.mem_of_getElem? (i := 28) (by decide +kernel), List.mem_of_getElem? (i := 754) (by decide +kernel), List.mem_of_getElem? (i := 755) (by decide +kernel)⟩
theorem lw_p13 : lw_okq (⟨"OrganCorners$Town", "draw", "(I)I"⟩, 15) := ⟨⟨by decide +kernel, by decide +kernel⟩, List.mem_of_getElem? (i := 36) (by decide +kernel), List.mem_of_getElem? (i := 854) (by decide +kernel), List.mem_of_getElem? (i := 855) (by decide +kernel)⟩
theorem lw_p14 : lw_okq (⟨"OrganCorners$Town", "freeCorner", "(I)I"⟩, 15) := ⟨⟨by decide +kernel, by decide +kernel⟩, List.mem_of_getElem? (i := 36) (by decide +kernel), List.mem_of_getElem? (i := 862) (by decide +kernel), List.mem_of_getElem? (i := 863) (by decide +kernel)⟩
theorem lw_p15 : lw_okq (⟨"OrganCorners$Town", "divideTakings", "(LOrganCorners$Organ;I)V"⟩, 15) := ⟨⟨by decide +kernel, by decide +kernel⟩, List.mem_of_getElem? (i := 36) (by decide +kernel), List.mem_of_getElem? (i := 891) (by decide +kernel), List.mem_of_getElem? (i := 892) (by decide +kernel)⟩
def lw_privs_1 : List (MethodName × Nat) := [(⟨"OrganCorners$Payout", "sharePot", "(LOrganCorners$Town;I)V"⟩, 3), (⟨"OrganCorners$Payout", "giveUnits", "(II)V"⟩, 3), (⟨"OrganCorners$Payout", "giveAllowances", "(LOrganCorners$Town;)V"⟩, 3), (⟨"OrganCorners$Town", "payOut", "(LOrganCorners$Payout;)V"⟩, 15), (⟨"OrganCorners$Town", "beginDay", "()V"⟩, 15), (⟨"OrganCorners$Town", "takeCornersBack", "()V"⟩, 15), (⟨"java/lang/Throwable", "fillInStackTrace", "(I)Ljava/lang/Throwable;"⟩, 6), (⟨"OrganCorners", "withCorner", "(JI)J"⟩, 5), (⟨"OrganCorners", "withOrgan", "(JI)J"⟩, 5), (⟨"OrganCorners$Town", "reasonAgainstAll", "(I)I"⟩, 15), (⟨"OrganCorners$Outlook", "hinderedPairs", "(LOrganCorners$Town;II)I"⟩, 4), (⟨"OrganCorners", "withPlayer", "(JI)J"⟩, 5), (⟨"OrganCorners", "withText", "(J)J"⟩, 5), (⟨"OrganCorners$Town", "draw", "(I)I"⟩, 15), (⟨"OrganCorners$Town", "freeCorner", "(I)I"⟩, 15), (⟨"OrganCorners$Town", "divideTakings", "(LOrganCorners$Organ;I)V"⟩, 15)]
theorem lw_r1 : ∀ q ∈ lw_privs_1, lw_okq q := List.forall_mem_cons.mpr ⟨lw_p0, List.forall_mem_cons.mpr ⟨lw_p1, List.forall_mem_cons.mpr ⟨lw_p2, List.forall_mem_cons.mpr ⟨lw_p3, List.forall_mem_cons.mpr ⟨lw_p4, List.forall_mem_cons.mpr ⟨lw_p5, List.forall_mem_cons.mpr ⟨lw_p6, List.forall_mem_cons.mpr ⟨lw_p7, List.forall_mem_cons.mpr ⟨lw_p8, List.forall_mem_cons.mpr ⟨lw_p9, List.forall_mem_cons.mpr ⟨lw_p10, List.forall_mem_cons.mpr ⟨lw_p11, List.forall_mem_cons.mpr ⟨lw_p12, List.forall_mem_cons.mpr ⟨lw_p13, List.forall_mem_cons.mpr ⟨lw_p14, List.forall_mem_cons.mpr ⟨lw_p15, fun _ h => absurd h List.not_mem_nil⟩⟩⟩⟩⟩⟩⟩⟩⟩⟩⟩⟩⟩⟩⟩⟩
theorem lw_p16 : lw_okq (⟨"OrganCorners$Town", "addHourOfCrew", "(I)V"⟩, 15) := ⟨⟨by decide +kernel, by decide +kernel⟩, List.mem_of_getElem? (i := 36) (by decide +kernel), List.mem_of_getElem? (i := 895) (by decide +kernel), List.mem_of_getElem? (i := 896) (by decide +kernel)⟩
theorem lw_p17 : lw_okq (⟨"OrganCorners", "obey", "(LOrganCorners$OrderKind;I)Z"⟩, 5) := ⟨⟨by decide +kernel, by decide +kernel⟩, List.mem_of_getElem? (i := 28) (by decide +kernel), List.mem_of_getElem? (i := 924) (by decide +kernel), List.mem_of_getElem? (i := 925) (by decide +kernel)⟩
theorem lw_p18 : lw_okq (⟨"OrganCorners", "obeyPlay", "(II)Z"⟩, 5) := ⟨⟨by decide +kernel, by decide +kernel⟩, List.mem_of_getElem? (i := 28) (by decide +kernel), List.mem_of_getElem? (i := 946) (by decide +kernel), List.mem_of_getElem? (i := 947) (by decide +kernel)⟩
theorem lw_p19 : lw_okq (⟨"OrganCornersModel", "fails", "(I)I"⟩, 18) := ⟨⟨by decide +kernel, by decide +kernel⟩, List.mem_of_getElem? (i := 1006) (by decide +kernel), List.mem_of_getElem? (i := 1078) (by decide +kernel), List.mem_of_getElem? (i := 1079) (by decide +kernel)⟩
theorem lw_p20 : lw_okq (⟨"OrganCornersModel", "corner0", "(II)I"⟩, 18) := ⟨⟨by decide +kernel, by decide +kernel⟩, List.mem_of_getElem? (i := 1006) (by decide +kernel), List.mem_of_getElem? (i := 1082) (by decide +kernel), List.mem_of_getElem? (i := 1083) (by decide +kernel)⟩
theorem lw_p21 : lw_okq (⟨"OrganCornersModel", "save", "()V"⟩, 18) := ⟨⟨by decide +kernel, by decide +kernel⟩, List.mem_of_getElem? (i := 1006) (by decide +kernel), List.mem_of_getElem? (i := 1086) (by decide +kernel), List.mem_of_getElem? (i := 1087) (by decide +kernel)⟩
theorem lw_p22 : lw_okq (⟨"OrganCornersModel", "isOrgan", "(I)Z"⟩, 18) := ⟨⟨by decide +kernel, by decide +kernel⟩, List.mem_of_getElem? (i := 1006) (by decide +kernel), List.mem_of_getElem? (i := 1102) (by decide +kernel), List.mem_of_getElem? (i := 1103) (by decide +kernel)⟩
theorem lw_p23 : lw_okq (⟨"OrganCornersModel", "permits", "()I"⟩, 18) := ⟨⟨by decide +kernel, by decide +kernel⟩, List.mem_of_getElem? (i := 1006) (by decide +kernel), List.mem_of_getElem? (i := 1106) (by decide +kernel), List.mem_of_getElem? (i := 1107) (by decide +kernel)⟩
theorem lw_p24 : lw_okq (⟨"OrganCornersModel", "organ0", "(II)I"⟩, 18) := ⟨⟨by decide +kernel, by decide +kernel⟩, List.mem_of_getElem? (i := 1006) (by decide +kernel), List.mem_of_getElem? (i := 1110) (by decide +kernel), List.mem_of_getElem? (i := 1111) (by decide +kernel)⟩
theorem lw_p25 : lw_okq (⟨"OrganCornersModel", "isPlayer", "(I)Z"⟩, 18) := ⟨⟨by decide +kernel, by decide +kernel⟩, List.mem_of_getElem? (i := 1006) (by decide +kernel), List.mem_of_getElem? (i := 1122) (by decide +kernel), List.mem_of_getElem? (i := 1123) (by decide +kernel)⟩
theorem lw_p26 : lw_okq (⟨"OrganCornersModel", "player0", "(II)I"⟩, 18) := ⟨⟨by decide +kernel, by decide +kernel⟩, List.mem_of_getElem? (i := 1006) (by decide +kernel), List.mem_of_getElem? (i := 1126) (by decide +kernel), List.mem_of_getElem? (i := 1127) (by decide +kernel)⟩
theorem lw_p27 : lw_okq (⟨"OrganCornersModel", "mayDraw", "()Z"⟩, 18) := ⟨⟨by decide +kernel, by decide +kernel⟩, List.mem_of_getElem? (i := 1006) (by decide +kernel), List.mem_of_getElem? (i := 1141) (by decide +kernel), List.mem_of_getElem? (i := 1142) (by decide +kernel)⟩
theorem lw_p28 : lw_okq (⟨"OrganCornersModel", "playedToday", "()I"⟩, 18) := ⟨⟨by decide +kernel, by decide +kernel⟩, List.mem_of_getElem? (i := 1006) (by decide +kernel), List.mem_of_getElem? (i := 1145) (by decide +kernel), List.mem_of_getElem? (i := 1146) (by decide +kernel)⟩
theorem lw_p29 : lw_okq (⟨"OrganCornersModel", "drawLots", "()V"⟩, 18) := ⟨⟨by decide +kernel, by decide +kernel⟩, List.mem_of_getElem? (i := 1006) (by decide +kernel), List.mem_of_getElem? (i := 1149) (by decide +kernel), List.mem_of_getElem? (i := 1150) (by decide +kernel)⟩
theorem lw_p30 : lw_okq (⟨"OrganCornersModel", "noCorners", "()V"⟩, 18) := ⟨⟨by decide +kernel, by decide +kernel⟩, List.mem_of_getElem? (i := 1006) (by decide +kernel), List.mem_of_getElem? (i := 1153) (by decide +kernel), List.mem_of_getElem? (i := 1154) (by decide +kernel)⟩
theorem lw_p31 : lw_okq (⟨"OrganCornersModel", "freeCorners", "()I"⟩, 18) := ⟨⟨by decide +kernel, by decide +kernel⟩, List.mem_of_getElem? (i := 1006) (by decide +kernel), List.mem_of_getElem? (i := 1157) (by decide +kernel), List.mem_of_getElem? (i := 1158) (by decide +kernel)⟩
def lw_privs_2 : List (MethodName × Nat) := [(⟨"OrganCorners$Town", "addHourOfCrew", "(I)V"⟩, 15), (⟨"OrganCorners", "obey", "(LOrganCorners$OrderKind;I)Z"⟩, 5), (⟨"OrganCorners", "obeyPlay", "(II)Z"⟩, 5), (⟨"OrganCornersModel", "fails", "(I)I"⟩, 18), (⟨"OrganCornersModel", "corner0", "(II)I"⟩, 18), (⟨"OrganCornersModel", "save", "()V"⟩, 18), (⟨"OrganCornersModel", "isOrgan", "(I)Z"⟩, 18), (⟨"OrganCornersModel", "permits", "()I"⟩, 18), (⟨"OrganCornersModel", "organ0", "(II)I"⟩, 18), (⟨"OrganCornersModel", "isPlayer", "(I)Z"⟩, 18), (⟨"OrganCornersModel", "player0", "(II)I"⟩, 18), (⟨"OrganCornersModel", "mayDraw", "()Z"⟩, 18), (⟨"OrganCornersModel", "playedToday", "()I"⟩, 18), (⟨"OrganCornersModel", "drawLots", "()V"⟩, 18), (⟨"OrganCornersModel", "noCorners", "()V"⟩, 18), (⟨"OrganCornersModel", "freeCorners", "()I"⟩, 18)]
theorem lw_r2 : ∀ q ∈ lw_privs_2, lw_okq q := List.forall_mem_cons.mpr ⟨lw_p16, List.forall_mem_cons.mpr ⟨lw_p17, List.forall_mem_cons.mpr ⟨lw_p18, List.forall_mem_cons.mpr ⟨lw_p19, List.forall_mem_cons.mpr ⟨lw_p20, List.forall_mem_cons.mpr ⟨lw_p21, List.forall_mem_cons.mpr ⟨lw_p22, List.forall_mem_cons.mpr ⟨lw_p23, List.forall_mem_cons.mpr ⟨lw_p24, List.forall_mem_cons.mpr ⟨lw_p25, List.forall_mem_cons.mpr ⟨lw_p26, List.forall_mem_cons.mpr ⟨lw_p27, List.forall_mem_cons.mpr ⟨lw_p28, List.forall_mem_cons.mpr ⟨lw_p29, List.forall_mem_cons.mpr ⟨lw_p30, List.forall_mem_cons.mpr ⟨lw_p31, fun _ h => absurd h List.not_mem_nil⟩⟩⟩⟩⟩⟩⟩⟩⟩⟩⟩⟩⟩⟩⟩⟩
theorem lw_p32 : lw_okq (⟨"OrganCornersModel", "whoHas", "(I)I"⟩, 18) := ⟨⟨by decide +kernel, by decide +kernel⟩, List.mem_of_getElem? (i := 1006) (by decide +kernel), List.mem_of_getElem? (i := 1161) (by decide +kernel), List.mem_of_getElem? (i := 1162) (by decide +kernel)⟩
theorem lw_p33 : lw_okq (⟨"OrganCornersModel", "cornerOf", "(I)I"⟩, 18) := ⟨⟨by decide +kernel, by decide +kernel⟩, List.mem_of_getElem? (i := 1006) (by decide +kernel), List.mem_of_getElem? (i := 1165) (by decide +kernel), List.mem_of_getElem? (i := 1166) (by decide +kernel)⟩
theorem lw_p34 : lw_okq (⟨"OrganCornersModel", "draw", "(I)I"⟩, 18) := ⟨⟨by decide +kernel, by decide +kernel⟩, List.mem_of_getElem? (i := 1006) (by decide +kernel), List.mem_of_getElem? (i := 1169) (by decide +kernel), List.mem_of_getElem? (i := 1170) (by decide +kernel)⟩
theorem lw_p35 : lw_okq (⟨"OrganCornersModel", "freeAt", "(I)I"⟩, 18) := ⟨⟨by decide +kernel, by decide +kernel⟩, List.mem_of_getElem? (i := 1006) (by decide +kernel), List.mem_of_getElem? (i := 1177) (by decide +kernel), List.mem_of_getElem? (i := 1178) (by decide +kernel)⟩
theorem lw_p36 : lw_okq (⟨"OrganCornersModel", "withCorner", "()I"⟩, 18) := ⟨⟨by decide +kernel, by decide +kernel⟩, List.mem_of_getElem? (i := 1006) (by decide +kernel), List.mem_of_getElem? (i := 1181) (by decide +kernel), List.mem_of_getElem? (i := 1182) (by decide +kernel)⟩
theorem lw_p37 : lw_okq (⟨"OrganCornersModel", "reason", "(II)I"⟩, 18) := ⟨⟨by decide +kernel, by decide +kernel⟩, List.mem_of_getElem? (i := 1006) (by decide +kernel), List.mem_of_getElem? (i := 1193) (by decide +kernel), List.mem_of_getElem? (i := 1194) (by decide +kernel)⟩
theorem lw_p38 : lw_okq (⟨"OrganCornersModel", "crewOf", "(I)I"⟩, 18) := ⟨⟨by decide +kernel, by decide +kernel⟩, List.mem_of_getElem? (i := 1006) (by decide +kernel), List.mem_of_getElem? (i := 1197) (by decide +kernel), List.mem_of_getElem? (i := 1198) (by decide +kernel)⟩
theorem lw_p39 : lw_okq (⟨"OrganCornersModel", "tuneIn", "(II)I"⟩, 18) := ⟨⟨by decide +kernel, by decide +kernel⟩, List.mem_of_getElem? (i := 1006) (by decide +kernel), List.mem_of_getElem? (i := 1201) (by decide +kernel), List.mem_of_getElem? (i := 1202) (by decide +kernel)⟩
theorem lw_p40 : lw_okq (⟨"OrganCornersModel", "isQuiet", "(I)Z"⟩, 18) := ⟨⟨by decide +kernel, by decide +kernel⟩, List.mem_of_getElem? (i := 1006) (by decide +kernel), List.mem_of_getElem? (i := 1205) (by decide +kernel), List.mem_of_getElem? (i := 1206) (by decide +kernel)⟩
theorem lw_p41 : lw_okq (⟨"OrganCornersModel", "heardAt", "(I)I"⟩, 18) := ⟨⟨by decide +kernel, by decide +kernel⟩, List.mem_of_getElem? (i := 1006) (by decide +kernel), List.mem_of_getElem? (i := 1209) (by decide +kernel), List.mem_of_getElem? (i := 1210) (by decide +kernel)⟩
theorem lw_p42 : lw_okq (⟨"OrganCornersModel", "areNear", "(II)Z"⟩, 18) := ⟨⟨by decide +kernel, by decide +kernel⟩, List.mem_of_getElem? (i := 1006) (by decide +kernel), List.mem_of_getElem? (i := 1213) (by decide +kernel), List.mem_of_getElem? (i := 1214) (by decide +kernel)⟩
theorem lw_p43 : lw_okq (⟨"OrganCornersModel", "plays", "(II)I"⟩, 18) := ⟨⟨by decide +kernel, by decide +kernel⟩, List.mem_of_getElem? (i := 1006) (by decide +kernel), List.mem_of_getElem? (i := 1217) (by decide +kernel), List.mem_of_getElem? (i := 1218) (by decide +kernel)⟩
theorem lw_p44 : lw_okq (⟨"OrganCornersModel", "othersNear", "(I)I"⟩, 18) := ⟨⟨by decide +kernel, by decide +kernel⟩, List.mem_of_getElem? (i := 1006) (by decide +kernel), List.mem_of_getElem? (i := 1221) (by decide +kernel), List.mem_of_getElem? (i := 1222) (by decide +kernel)⟩
theorem lw_p45 : lw_okq (⟨"OrganCornersModel", "takings", "(II)I"⟩, 18) := ⟨⟨by decide +kernel, by decide +kernel⟩, List.mem_of_getElem? (i := 1006) (by decide +kernel), List.mem_of_getElem? (i := 1225) (by decide +kernel), List.mem_of_getElem? (i := 1226) (by decide +kernel)⟩
theorem lw_p46 : lw_okq (⟨"OrganCornersModel", "goOn", "()V"⟩, 18) := ⟨⟨by decide +kernel, by decide +kernel⟩, List.mem_of_getElem? (i := 1006) (by decide +kernel), List.mem_of_getElem? (i := 1233) (by decide +kernel), List.mem_of_getElem? (i := 1234) (by decide +kernel)⟩
theorem lw_p47 : lw_okq (⟨"OrganCornersModel", "endDay", "()V"⟩, 18) := ⟨⟨by decide +kernel, by decide +kernel⟩, List.mem_of_getElem? (i := 1006) (by decide +kernel), List.mem_of_getElem? (i := 1237) (by decide +kernel), List.mem_of_getElem? (i := 1238) (by decide +kernel)⟩
def lw_privs_3 : List (MethodName × Nat) := [(⟨"OrganCornersModel", "whoHas", "(I)I"⟩, 18), (⟨"OrganCornersModel", "cornerOf", "(I)I"⟩, 18), (⟨"OrganCornersModel", "draw", "(I)I"⟩, 18), (⟨"OrganCornersModel", "freeAt", "(I)I"⟩, 18), (⟨"OrganCornersModel", "withCorner", "()I"⟩, 18), (⟨"OrganCornersModel", "reason", "(II)I"⟩, 18), (⟨"OrganCornersModel", "crewOf", "(I)I"⟩, 18), (⟨"OrganCornersModel", "tuneIn", "(II)I"⟩, 18), (⟨"OrganCornersModel", "isQuiet", "(I)Z"⟩, 18), (⟨"OrganCornersModel", "heardAt", "(I)I"⟩, 18), (⟨"OrganCornersModel", "areNear", "(II)Z"⟩, 18), (⟨"OrganCornersModel", "plays", "(II)I"⟩, 18), (⟨"OrganCornersModel", "othersNear", "(I)I"⟩, 18), (⟨"OrganCornersModel", "takings", "(II)I"⟩, 18), (⟨"OrganCornersModel", "goOn", "()V"⟩, 18), (⟨"OrganCornersModel", "endDay", "()V"⟩, 18)]
theorem lw_r3 : ∀ q ∈ lw_privs_3, lw_okq q := List.forall_mem_cons.mpr ⟨lw_p32, List.forall_mem_cons.mpr ⟨lw_p33, List.forall_mem_cons.mpr ⟨lw_p34, List.forall_mem_cons.mpr ⟨lw_p35, List.forall_mem_cons.mpr ⟨lw_p36, List.forall_mem_cons.mpr ⟨lw_p37, List.forall_mem_cons.mpr ⟨lw_p38, List.forall_mem_cons.mpr ⟨lw_p39, List.forall_mem_cons.mpr ⟨lw_p40, List.forall_mem_cons.mpr ⟨lw_p41, List.forall_mem_cons.mpr ⟨lw_p42, List.forall_mem_cons.mpr ⟨lw_p43, List.forall_mem_cons.mpr ⟨lw_p44, List.forall_mem_cons.mpr ⟨lw_p45, List.forall_mem_cons.mpr ⟨lw_p46, List.forall_mem_cons.mpr ⟨lw_p47, fun _ h => absurd h List.not_mem_nil⟩⟩⟩⟩⟩⟩⟩⟩⟩⟩⟩⟩⟩⟩⟩⟩
theorem lw_p48 : lw_okq (⟨"OrganCornersModel", "sharePot", "(I)V"⟩, 18) := ⟨⟨by decide +kernel, by decide +kernel⟩, List.mem_of_getElem? (i := 1006) (by decide +kernel), List.mem_of_getElem? (i := 1241) (by decide +kernel), List.mem_of_getElem? (i := 1242) (by decide +kernel)⟩
theorem lw_p49 : lw_okq (⟨"OrganCornersModel", "timeAt", "(II)I"⟩, 18) := ⟨⟨by decide +kernel, by decide +kernel⟩, List.mem_of_getElem? (i := 1006) (by decide +kernel), List.mem_of_getElem? (i := 1245) (by decide +kernel), List.mem_of_getElem? (i := 1246) (by decide +kernel)⟩
theorem lw_p50 : lw_okq (⟨"OrganCornersModel", "timeToday", "(I)I"⟩, 18) := ⟨⟨by decide +kernel, by decide +kernel⟩, List.mem_of_getElem? (i := 1006) (by decide +kernel), List.mem_of_getElem? (i := 1249) (by decide +kernel), List.mem_of_getElem? (i := 1250) (by decide +kernel)⟩
theorem lw_p51 : lw_okq (⟨"OrganCornersModel", "read", "()I"⟩, 18) := ⟨⟨by decide +kernel, by decide +kernel⟩, List.mem_of_getElem? (i := 1006) (by decide +kernel), List.mem_of_getElem? (i := 1265) (by decide +kernel), List.mem_of_getElem? (i := 1266) (by decide +kernel)⟩
theorem lw_p52 : lw_okq (⟨"OrganCornersModel", "takes", "(I)Z"⟩, 18) := ⟨⟨by decide +kernel, by decide +kernel⟩, List.mem_of_getElem? (i := 1006) (by decide +kernel), List.mem_of_getElem? (i := 1269) (by decide +kernel), List.mem_of_getElem? (i := 1270) (by decide +kernel)⟩
theorem lw_p53 : lw_okq (⟨"OrganCornersModel", "begins", "(I)Z"⟩, 18) := ⟨⟨by decide +kernel, by decide +kernel⟩, List.mem_of_getElem? (i := 1006) (by decide +kernel), List.mem_of_getElem? (i := 1273) (by decide +kernel), List.mem_of_getElem? (i := 1274) (by decide +kernel)⟩
theorem lw_p54 : lw_okq (⟨"OrganCornersModel", "goes", "(ZI)Z"⟩, 18) := ⟨⟨by decide +kernel, by decide +kernel⟩, List.mem_of_getElem? (i := 1006) (by decide +kernel), List.mem_of_getElem? (i := 1277) (by decide +kernel), List.mem_of_getElem? (i := 1278) (by decide +kernel)⟩
theorem lw_p55 : lw_okq (⟨"OrganCornersModel", "ends", "(ZI)Z"⟩, 18) := ⟨⟨by decide +kernel, by decide +kernel⟩, List.mem_of_getElem? (i := 1006) (by decide +kernel), List.mem_of_getElem? (i := 1281) (by decide +kernel), List.mem_of_getElem? (i := 1282) (by decide +kernel)⟩
theorem lw_p56 : lw_okq (⟨"OrganCornersModel", "mayDo", "(I)Z"⟩, 18) := ⟨⟨by decide +kernel, by decide +kernel⟩, List.mem_of_getElem? (i := 1006) (by decide +kernel), List.mem_of_getElem? (i := 1289) (by decide +kernel), List.mem_of_getElem? (i := 1290) (by decide +kernel)⟩
theorem lw_p57 : lw_okq (⟨"OrganCornersModel", "does", "(I)V"⟩, 18) := ⟨⟨by decide +kernel, by decide +kernel⟩, List.mem_of_getElem? (i := 1006) (by decide +kernel), List.mem_of_getElem? (i := 1293) (by decide +kernel), List.mem_of_getElem? (i := 1294) (by decide +kernel)⟩
theorem lw_p58 : lw_okq (⟨"OrganCornersModel", "isCorner", "(I)Z"⟩, 18) := ⟨⟨by decide +kernel, by decide +kernel⟩, List.mem_of_getElem? (i := 1006) (by decide +kernel), List.mem_of_getElem? (i := 1305) (by decide +kernel), List.mem_of_getElem? (i := 1306) (by decide +kernel)⟩
theorem lw_p59 : lw_okq (⟨"OrganCornersModel", "cornerNow", "(II)I"⟩, 18) := ⟨⟨by decide +kernel, by decide +kernel⟩, List.mem_of_getElem? (i := 1006) (by decide +kernel), List.mem_of_getElem? (i := 1309) (by decide +kernel), List.mem_of_getElem? (i := 1310) (by decide +kernel)⟩
theorem lw_p60 : lw_okq (⟨"OrganCornersModel", "playedAt", "(I)I"⟩, 18) := ⟨⟨by decide +kernel, by decide +kernel⟩, List.mem_of_getElem? (i := 1006) (by decide +kernel), List.mem_of_getElem? (i := 1313) (by decide +kernel), List.mem_of_getElem? (i := 1314) (by decide +kernel)⟩
theorem lw_p61 : lw_okq (⟨"OrganCornersModel", "organNow", "(II)I"⟩, 18) := ⟨⟨by decide +kernel, by decide +kernel⟩, List.mem_of_getElem? (i := 1006) (by decide +kernel), List.mem_of_getElem? (i := 1321) (by decide +kernel), List.mem_of_getElem? (i := 1322) (by decide +kernel)⟩
theorem lw_p62 : lw_okq (⟨"OrganCornersModel", "playerNow", "(II)I"⟩, 18) := ⟨⟨by decide +kernel, by decide +kernel⟩, List.mem_of_getElem? (i := 1006) (by decide +kernel), List.mem_of_getElem? (i := 1329) (by decide +kernel), List.mem_of_getElem? (i := 1330) (by decide +kernel)⟩
theorem lw_p63 : lw_okq (⟨"OrganCornersModel", "counted", "(I)I"⟩, 18) := ⟨⟨by decide +kernel, by decide +kernel⟩, List.mem_of_getElem? (i := 1006) (by decide +kernel), List.mem_of_getElem? (i := 1341) (by decide +kernel), List.mem_of_getElem? (i := 1342) (by decide +kernel)⟩
def lw_privs_4 : List (MethodName × Nat) := [(⟨"OrganCornersModel", "sharePot", "(I)V"⟩, 18), (⟨"OrganCornersModel", "timeAt", "(II)I"⟩, 18), (⟨"OrganCornersModel", "timeToday", "(I)I"⟩, 18), (⟨"OrganCornersModel", "read", "()I"⟩, 18), (⟨"OrganCornersModel", "takes", "(I)Z"⟩, 18), (⟨"OrganCornersModel", "begins", "(I)Z"⟩, 18), (⟨"OrganCornersModel", "goes", "(ZI)Z"⟩, 18), (⟨"OrganCornersModel", "ends", "(ZI)Z"⟩, 18), (⟨"OrganCornersModel", "mayDo", "(I)Z"⟩, 18), (⟨"OrganCornersModel", "does", "(I)V"⟩, 18), (⟨"OrganCornersModel", "isCorner", "(I)Z"⟩, 18), (⟨"OrganCornersModel", "cornerNow", "(II)I"⟩, 18), (⟨"OrganCornersModel", "playedAt", "(I)I"⟩, 18), (⟨"OrganCornersModel", "organNow", "(II)I"⟩, 18), (⟨"OrganCornersModel", "playerNow", "(II)I"⟩, 18), (⟨"OrganCornersModel", "counted", "(I)I"⟩, 18)]
theorem lw_r4 : ∀ q ∈ lw_privs_4, lw_okq q := List.forall_mem_cons.mpr ⟨lw_p48, List.forall_mem_cons.mpr ⟨lw_p49, List.forall_mem_cons.mpr ⟨lw_p50, List.forall_mem_cons.mpr ⟨lw_p51, List.forall_mem_cons.mpr ⟨lw_p52, List.forall_mem_cons.mpr ⟨lw_p53, List.forall_mem_cons.mpr ⟨lw_p54, List.forall_mem_cons.mpr ⟨lw_p55, List.forall_mem_cons.mpr ⟨lw_p56, List.forall_mem_cons.mpr ⟨lw_p57, List.forall_mem_cons.mpr ⟨lw_p58, List.forall_mem_cons.mpr ⟨lw_p59, List.forall_mem_cons.mpr ⟨lw_p60, List.forall_mem_cons.mpr ⟨lw_p61, List.forall_mem_cons.mpr ⟨lw_p62, List.forall_mem_cons.mpr ⟨lw_p63, fun _ h => absurd h List.not_mem_nil⟩⟩⟩⟩⟩⟩⟩⟩⟩⟩⟩⟩⟩⟩⟩⟩
theorem lw_p64 : lw_okq (⟨"OrganCornersModel", "ofOrgans", "(I)I"⟩, 18) := ⟨⟨by decide +kernel, by decide +kernel⟩, List.mem_of_getElem? (i := 1006) (by decide +kernel), List.mem_of_getElem? (i := 1345) (by decide +kernel), List.mem_of_getElem? (i := 1346) (by decide +kernel)⟩
theorem lw_p65 : lw_okq (⟨"OrganCornersModel", "playersGot", "()I"⟩, 18) := ⟨⟨by decide +kernel, by decide +kernel⟩, List.mem_of_getElem? (i := 1006) (by decide +kernel), List.mem_of_getElem? (i := 1349) (by decide +kernel), List.mem_of_getElem? (i := 1350) (by decide +kernel)⟩
theorem lw_p66 : lw_okq (⟨"OrganCornersModel", "playedNow", "(I)I"⟩, 18) := ⟨⟨by decide +kernel, by decide +kernel⟩, List.mem_of_getElem? (i := 1006) (by decide +kernel), List.mem_of_getElem? (i := 1365) (by decide +kernel), List.mem_of_getElem? (i := 1366) (by decide +kernel)⟩
theorem lw_p67 : lw_okq (⟨"OrganCornersModel", "tunesOf", "(I)I"⟩, 18) := ⟨⟨by decide +kernel, by decide +kernel⟩, List.mem_of_getElem? (i := 1006) (by decide +kernel), List.mem_of_getElem? (i := 1369) (by decide +kernel), List.mem_of_getElem? (i := 1370) (by decide +kernel)⟩
theorem lw_p68 : lw_okq (⟨"OrganCornersModel", "kindestNow", "(I)I"⟩, 18) := ⟨⟨by decide +kernel, by decide +kernel⟩, List.mem_of_getElem? (i := 1006) (by decide +kernel), List.mem_of_getElem? (i := 1377) (by decide +kernel), List.mem_of_getElem? (i := 1378) (by decide +kernel)⟩
theorem lw_p69 : lw_okq (⟨"OrganCornersModel", "pairsBehind", "(II)I"⟩, 18) := ⟨⟨by decide +kernel, by decide +kernel⟩, List.mem_of_getElem? (i := 1006) (by decide +kernel), List.mem_of_getElem? (i := 1381) (by decide +kernel), List.mem_of_getElem? (i := 1382) (by decide +kernel)⟩
theorem lw_p70 : lw_okq (⟨"OrganCornersModel", "layMost", "()V"⟩, 18) := ⟨⟨by decide +kernel, by decide +kernel⟩, List.mem_of_getElem? (i := 1006) (by decide +kernel), List.mem_of_getElem? (i := 1392) (by decide +kernel), List.mem_of_getElem? (i := 1393) (by decide +kernel)⟩
theorem lw_p71 : lw_okq (⟨"OrganCornersModel", "keepPicks", "()V"⟩, 18) := ⟨⟨by decide +kernel, by decide +kernel⟩, List.mem_of_getElem? (i := 1006) (by decide +kernel), List.mem_of_getElem? (i := 1396) (by decide +kernel), List.mem_of_getElem? (i := 1397) (by decide +kernel)⟩
theorem lw_p72 : lw_okq (⟨"OrganCornersModel", "canPick", "(I)Z"⟩, 18) := ⟨⟨by decide +kernel, by decide +kernel⟩, List.mem_of_getElem? (i := 1006) (by decide +kernel), List.mem_of_getElem? (i := 1400) (by decide +kernel), List.mem_of_getElem? (i := 1401) (by decide +kernel)⟩
theorem lw_p73 : lw_okq (⟨"OrganCornersModel", "pickTakings", "(I)I"⟩, 18) := ⟨⟨by decide +kernel, by decide +kernel⟩, List.mem_of_getElem? (i := 1006) (by decide +kernel), List.mem_of_getElem? (i := 1404) (by decide +kernel), List.mem_of_getElem? (i := 1405) (by decide +kernel)⟩
theorem lw_p74 : lw_okq (⟨"OrganCornersModel", "endedNow", "(I)I"⟩, 18) := ⟨⟨by decide +kernel, by decide +kernel⟩, List.mem_of_getElem? (i := 1006) (by decide +kernel), List.mem_of_getElem? (i := 1412) (by decide +kernel), List.mem_of_getElem? (i := 1413) (by decide +kernel)⟩
theorem lw_p75 : lw_okq (⟨"OrganCornersModel", "keep", "()V"⟩, 18) := ⟨⟨by decide +kernel, by decide +kernel⟩, List.mem_of_getElem? (i := 1006) (by decide +kernel), List.mem_of_getElem? (i := 1416) (by decide +kernel), List.mem_of_getElem? (i := 1417) (by decide +kernel)⟩
theorem lw_p76 : lw_okq (⟨"OrganCornersModel", "bring", "()V"⟩, 18) := ⟨⟨by decide +kernel, by decide +kernel⟩, List.mem_of_getElem? (i := 1006) (by decide +kernel), List.mem_of_getElem? (i := 1420) (by decide +kernel), List.mem_of_getElem? (i := 1421) (by decide +kernel)⟩
theorem lw_p77 : lw_okq (⟨"OrganCornersModel", "shareNow", "()D"⟩, 18) := ⟨⟨by decide +kernel, by decide +kernel⟩, List.mem_of_getElem? (i := 1006) (by decide +kernel), List.mem_of_getElem? (i := 1428) (by decide +kernel), List.mem_of_getElem? (i := 1429) (by decide +kernel)⟩
theorem lw_p78 : lw_okq (⟨"OrganCornersModel", "mix", "(J)V"⟩, 18) := ⟨⟨by decide +kernel, by decide +kernel⟩, List.mem_of_getElem? (i := 1006) (by decide +kernel), List.mem_of_getElem? (i := 1437) (by decide +kernel), List.mem_of_getElem? (i := 1438) (by decide +kernel)⟩
theorem lw_p79 : lw_okq (⟨"OrganCornersModel", "mixOrgan", "(I)V"⟩, 18) := ⟨⟨by decide +kernel, by decide +kernel⟩, List.mem_of_getElem? (i := 1006) (by decide +kernel), List.mem_of_getElem? (i := 1442) (by decide +kernel), List.mem_of_getElem? (i := 1443) (by decide +kernel)⟩
def lw_privs_5 : List (MethodName × Nat) := [(⟨"OrganCornersModel", "ofOrgans", "(I)I"⟩, 18), (⟨"OrganCornersModel", "playersGot", "()I"⟩, 18), (⟨"OrganCornersModel", "playedNow", "(I)I"⟩, 18), (⟨"OrganCornersModel", "tunesOf", "(I)I"⟩, 18), (⟨"OrganCornersModel", "kindestNow", "(I)I"⟩, 18), (⟨"OrganCornersModel", "pairsBehind", "(II)I"⟩, 18), (⟨"OrganCornersModel", "layMost", "()V"⟩, 18), (⟨"OrganCornersModel", "keepPicks", "()V"⟩, 18), (⟨"OrganCornersModel", "canPick", "(I)Z"⟩, 18), (⟨"OrganCornersModel", "pickTakings", "(I)I"⟩, 18), (⟨"OrganCornersModel", "endedNow", "(I)I"⟩, 18), (⟨"OrganCornersModel", "keep", "()V"⟩, 18), (⟨"OrganCornersModel", "bring", "()V"⟩, 18), (⟨"OrganCornersModel", "shareNow", "()D"⟩, 18), (⟨"OrganCornersModel", "mix", "(J)V"⟩, 18), (⟨"OrganCornersModel", "mixOrgan", "(I)V"⟩, 18)]
theorem lw_r5 : ∀ q ∈ lw_privs_5, lw_okq q := List.forall_mem_cons.mpr ⟨lw_p64, List.forall_mem_cons.mpr ⟨lw_p65, List.forall_mem_cons.mpr ⟨lw_p66, List.forall_mem_cons.mpr ⟨lw_p67, List.forall_mem_cons.mpr ⟨lw_p68, List.forall_mem_cons.mpr ⟨lw_p69, List.forall_mem_cons.mpr ⟨lw_p70, List.forall_mem_cons.mpr ⟨lw_p71, List.forall_mem_cons.mpr ⟨lw_p72, List.forall_mem_cons.mpr ⟨lw_p73, List.forall_mem_cons.mpr ⟨lw_p74, List.forall_mem_cons.mpr ⟨lw_p75, List.forall_mem_cons.mpr ⟨lw_p76, List.forall_mem_cons.mpr ⟨lw_p77, List.forall_mem_cons.mpr ⟨lw_p78, List.forall_mem_cons.mpr ⟨lw_p79, fun _ h => absurd h List.not_mem_nil⟩⟩⟩⟩⟩⟩⟩⟩⟩⟩⟩⟩⟩⟩⟩⟩
theorem lw_p80 : lw_okq (⟨"OrganCornersModel", "mixPlayer", "(I)V"⟩, 18) := ⟨⟨by decide +kernel, by decide +kernel⟩, List.mem_of_getElem? (i := 1006) (by decide +kernel), List.mem_of_getElem? (i := 1446) (by decide +kernel), List.mem_of_getElem? (i := 1447) (by decide +kernel)⟩
def lw_privs_6 : List (MethodName × Nat) := [(⟨"OrganCornersModel", "mixPlayer", "(I)V"⟩, 18)]
theorem lw_r6 : ∀ q ∈ lw_privs_6, lw_okq q := List.forall_mem_cons.mpr ⟨lw_p80, fun _ h => absurd h List.not_mem_nil⟩
def lw_privs : List (MethodName × Nat) := lw_privs_1 ++ (lw_privs_2 ++ (lw_privs_3 ++ (lw_privs_4 ++ (lw_privs_5 ++ (lw_privs_6)))))
def lw_tbl : List Cond := k2_sels lw_privs ++ tables_1
theorem lw_privs_ok : ∀ q ∈ lw_privs, lw_okq q := by
  show ∀ q ∈ lw_privs_1 ++ (lw_privs_2 ++ (lw_privs_3 ++ (lw_privs_4 ++ (lw_privs_5 ++ (lw_privs_6))))), lw_okq q
  exact List.forall_mem_append.mpr ⟨lw_r1, List.forall_mem_append.mpr ⟨lw_r2, List.forall_mem_append.mpr ⟨lw_r3, List.forall_mem_append.mpr ⟨lw_r4, List.forall_mem_append.mpr ⟨lw_r5, lw_r6⟩⟩⟩⟩⟩
/-- the streams that the claim lets the run draw from -/
abbrev lw_cs : List Choice := [Jvm.Choice.named "NaN.bits"]
theorem lw_bits : nanBits ∈ lw_cs := by first | decide | exact List.mem_cons_self | simp [lw_cs, nanBits]
end
section
section NM
def RX0 : String := "OrganCorners$1"
def TX0 : u_T := fun k => match k with
  | _ => ("", "", "", false)
def tyX0 : Nat → FieldType := fun k => match k with
  | _ => .int
abbrev wsX00 : List Cond := u_ws RX0 TX0 0
theorem nmX0 : ∀ a, a < 0 → ∀ b, b < 0 → a ≠ b → (TX0 a).2.1 ≠ (TX0 b).2.1 := by decide +kernel
theorem tyX0_ok : ∀ k, k < 0 → parseFieldDescriptor (TX0 k).2.2.1 = some (tyX0 k) := by decide +kernel
def RX1 : String := "OrganCorners$Corner"
def TX1 : u_T := fun k => match k with
  | 0 => ("OrganCorners$Corner", "place", "I", false)
  | 1 => ("OrganCorners$Corner", "crowd", "I", false)
  | 2 => ("OrganCorners$Corner", "firstQuiet", "I", false)
  | 3 => ("OrganCorners$Corner", "quietHours", "I", false)
  | _ => ("OrganCorners$Corner", "tunesByHour", "[I", true)
def tyX1 : Nat → FieldType := fun k => match k with
  | 0 => .int
  | 1 => .int
  | 2 => .int
  | 3 => .int
  | _ => .array .int
abbrev wsX10 : List Cond := u_ws RX1 TX1 5
theorem nmX1 : ∀ a, a < 5 → ∀ b, b < 5 → a ≠ b → (TX1 a).2.1 ≠ (TX1 b).2.1 := by decide +kernel
theorem tyX1_ok : ∀ k, k < 5 → parseFieldDescriptor (TX1 k).2.2.1 = some (tyX1 k) := by decide +kernel
abbrev cX1_init : ByteArray := prog_3_method_1_code
def yX1_init : MethodName := ⟨RX1, "<init>", "()V"⟩
abbrev cX1_copyFrom : ByteArray := prog_3_method_2_code
def yX1_copyFrom : MethodName := ⟨RX1, "copyFrom", "(LOrganCorners$Corner;)V"⟩
abbrev cX1_isQuietAt : ByteArray := prog_3_method_3_code
def yX1_isQuietAt : MethodName := ⟨RX1, "isQuietAt", "(I)Z"⟩
abbrev cX1_distanceTo : ByteArray := prog_3_method_4_code
def yX1_distanceTo : MethodName := ⟨RX1, "distanceTo", "(LOrganCorners$Corner;)I"⟩
abbrev cX1_tunesPlayed : ByteArray := prog_3_method_5_code
def yX1_tunesPlayed : MethodName := ⟨RX1, "tunesPlayed", "(II)I"⟩
abbrev cX1_noteTune : ByteArray := prog_3_method_6_code
def yX1_noteTune : MethodName := ⟨RX1, "noteTune", "(II)V"⟩
abbrev cX1_forgetDay : ByteArray := prog_3_method_7_code
def yX1_forgetDay : MethodName := ⟨RX1, "forgetDay", "()V"⟩
def RX2 : String := "OrganCorners$OrderKind"
def TX2 : u_T := fun k => match k with
  | _ => ("", "", "", false)
def tyX2 : Nat → FieldType := fun k => match k with
  | _ => .int
abbrev wsX20 : List Cond := u_ws RX2 TX2 0
theorem nmX2 : ∀ a, a < 0 → ∀ b, b < 0 → a ≠ b → (TX2 a).2.1 ≠ (TX2 b).2.1 := by decide +kernel
theorem tyX2_ok : ∀ k, k < 0 → parseFieldDescriptor (TX2 k).2.2.1 = some (tyX2 k) := by decide +kernel
abbrev cX2_signCount : ByteArray := prog_4_method_4_code
def yX2_signCount : MethodName := ⟨RX2, "signCount", "()I"⟩
abbrev cX2_fits : ByteArray := prog_4_method_5_code
def yX2_fits : MethodName := ⟨RX2, "fits", "(II)Z"⟩
def RX3 : String := "OrganCorners$OrderText"
def TX3 : u_T := fun k => match k with
  | 0 => ("OrganCorners$OrderText", "signs", "[I", true)
  | _ => ("OrganCorners$OrderText", "length", "I", false)
def tyX3 : Nat → FieldType := fun k => match k with
  | 0 => .array .int
  | _ => .int
abbrev wsX30 : List Cond := u_ws RX3 TX3 2
theorem nmX3 : ∀ a, a < 2 → ∀ b, b < 2 → a ≠ b → (TX3 a).2.1 ≠ (TX3 b).2.1 := by decide +kernel
theorem tyX3_ok : ∀ k, k < 2 → parseFieldDescriptor (TX3 k).2.2.1 = some (tyX3 k) := by decide +kernel
abbrev cX3_init : ByteArray := prog_5_method_1_code
def yX3_init : MethodName := ⟨RX3, "<init>", "()V"⟩
abbrev cX3_kindAt : ByteArray := prog_5_method_2_code
def yX3_kindAt : MethodName := ⟨RX3, "kindAt", "(I)LOrganCorners$OrderKind;"⟩
abbrev cX3_errorIndex : ByteArray := prog_5_method_3_code
def yX3_errorIndex : MethodName := ⟨RX3, "errorIndex", "()I"⟩
abbrev cX3_isWholeRow : ByteArray := prog_5_method_4_code
def yX3_isWholeRow : MethodName := ⟨RX3, "isWholeRow", "()Z"⟩
abbrev cX3_organAt : ByteArray := prog_5_method_5_code
def yX3_organAt : MethodName := ⟨RX3, "organAt", "(I)I"⟩
abbrev cX3_tuneAt : ByteArray := prog_5_method_6_code
def yX3_tuneAt : MethodName := ⟨RX3, "tuneAt", "(I)I"⟩
def RX4 : String := "OrganCorners$Organ"
def TX4 : u_T := fun k => match k with
  | 0 => ("OrganCorners$Organ", "ownerPercent", "I", false)
  | 1 => ("OrganCorners$Organ", "hasPermit", "Z", false)
  | 2 => ("OrganCorners$Organ", "tunes", "I", false)
  | 3 => ("OrganCorners$Organ", "corner", "I", false)
  | 4 => ("OrganCorners$Organ", "pot", "I", false)
  | 5 => ("OrganCorners$Organ", "cameToOwner", "I", false)
  | 6 => ("OrganCorners$Organ", "takings", "I", false)
  | _ => ("OrganCorners$Organ", "tuneOfHour", "I", false)
def tyX4 : Nat → FieldType := fun k => match k with
  | 0 => .int
  | 1 => .boolean
  | 2 => .int
  | 3 => .int
  | 4 => .int
  | 5 => .int
  | 6 => .int
  | _ => .int
abbrev wsX40 : List Cond := u_ws RX4 TX4 8
theorem nmX4 : ∀ a, a < 8 → ∀ b, b < 8 → a ≠ b → (TX4 a).2.1 ≠ (TX4 b).2.1 := by decide +kernel
theorem tyX4_ok : ∀ k, k < 8 → parseFieldDescriptor (TX4 k).2.2.1 = some (tyX4 k) := by decide +kernel
abbrev cX4_init : ByteArray := prog_6_method_1_code
def yX4_init : MethodName := ⟨RX4, "<init>", "()V"⟩
abbrev cX4_copyFrom : ByteArray := prog_6_method_2_code
def yX4_copyFrom : MethodName := ⟨RX4, "copyFrom", "(LOrganCorners$Organ;)V"⟩
def RX5 : String := "OrganCorners$Outlook"
def TX5 : u_T := fun k => match k with
  | 0 => ("OrganCorners$Outlook", "playable", "[I", true)
  | 1 => ("OrganCorners$Outlook", "chosen", "[I", true)
  | 2 => ("OrganCorners$Outlook", "mostTakings", "I", false)
  | _ => ("OrganCorners$Outlook", "mostOrgans", "I", false)
def tyX5 : Nat → FieldType := fun k => match k with
  | 0 => .array .int
  | 1 => .array .int
  | 2 => .int
  | _ => .int
abbrev wsX50 : List Cond := u_ws RX5 TX5 4
theorem nmX5 : ∀ a, a < 4 → ∀ b, b < 4 → a ≠ b → (TX5 a).2.1 ≠ (TX5 b).2.1 := by decide +kernel
theorem tyX5_ok : ∀ k, k < 4 → parseFieldDescriptor (TX5 k).2.2.1 = some (tyX5 k) := by decide +kernel
abbrev cX5_init : ByteArray := prog_7_method_1_code
def yX5_init : MethodName := ⟨RX5, "<init>", "()V"⟩
abbrev cX5_lookAt : ByteArray := prog_7_method_2_code
def yX5_lookAt : MethodName := ⟨RX5, "lookAt", "(LOrganCorners$Town;)V"⟩
abbrev cX5_leastHindering : ByteArray := prog_7_method_3_code
def yX5_leastHindering : MethodName := ⟨RX5, "leastHindering", "(LOrganCorners$Town;I)I"⟩
abbrev cX5_hinderedPairs : ByteArray := prog_7_method_4_code
def yX5_hinderedPairs : MethodName := ⟨RX5, "hinderedPairs", "(LOrganCorners$Town;II)I"⟩
abbrev cX5_findMost : ByteArray := prog_7_method_5_code
def yX5_findMost : MethodName := ⟨RX5, "findMost", "(LOrganCorners$Town;)V"⟩
abbrev cX5_takingsOf : ByteArray := prog_7_method_6_code
def yX5_takingsOf : MethodName := ⟨RX5, "takingsOf", "(LOrganCorners$Town;I)I"⟩
abbrev cX5_nearAhead : ByteArray := prog_7_method_7_code
def yX5_nearAhead : MethodName := ⟨RX5, "nearAhead", "(LOrganCorners$Town;II)I"⟩
abbrev cX5_findTunes : ByteArray := prog_7_method_8_code
def yX5_findTunes : MethodName := ⟨RX5, "findTunes", "(LOrganCorners$Town;[I[III)Z"⟩
abbrev cX5_isFree : ByteArray := prog_7_method_9_code
def yX5_isFree : MethodName := ⟨RX5, "isFree", "(LOrganCorners$Town;[IIII)Z"⟩
def RX6 : String := "OrganCorners$Payout"
def TX6 : u_T := fun k => match k with
  | 0 => ("OrganCorners$Payout", "fromPots", "[I", true)
  | 1 => ("OrganCorners$Payout", "fromFund", "[I", true)
  | _ => ("OrganCorners$Payout", "remainders", "[I", true)
def tyX6 : Nat → FieldType := fun k => match k with
  | 0 => .array .int
  | 1 => .array .int
  | _ => .array .int
abbrev wsX60 : List Cond := u_ws RX6 TX6 3
theorem nmX6 : ∀ a, a < 3 → ∀ b, b < 3 → a ≠ b → (TX6 a).2.1 ≠ (TX6 b).2.1 := by decide +kernel
theorem tyX6_ok : ∀ k, k < 3 → parseFieldDescriptor (TX6 k).2.2.1 = some (tyX6 k) := by decide +kernel
abbrev cX6_init : ByteArray := prog_8_method_1_code
def yX6_init : MethodName := ⟨RX6, "<init>", "()V"⟩
abbrev cX6_reckon : ByteArray := prog_8_method_2_code
def yX6_reckon : MethodName := ⟨RX6, "reckon", "(LOrganCorners$Town;)V"⟩
abbrev cX6_sharePot : ByteArray := prog_8_method_3_code
def yX6_sharePot : MethodName := ⟨RX6, "sharePot", "(LOrganCorners$Town;I)V"⟩
abbrev cX6_giveUnits : ByteArray := prog_8_method_4_code
def yX6_giveUnits : MethodName := ⟨RX6, "giveUnits", "(II)V"⟩
abbrev cX6_giveAllowances : ByteArray := prog_8_method_5_code
def yX6_giveAllowances : MethodName := ⟨RX6, "giveAllowances", "(LOrganCorners$Town;)V"⟩
def RX7 : String := "OrganCorners$Player"
def TX7 : u_T := fun k => match k with
  | 0 => ("OrganCorners$Player", "crewOf", "I", false)
  | 1 => ("OrganCorners$Player", "got", "I", false)
  | 2 => ("OrganCorners$Player", "gotFromFund", "I", false)
  | 3 => ("OrganCorners$Player", "hoursSoFar", "I", false)
  | _ => ("OrganCorners$Player", "hoursAt", "[I", true)
def tyX7 : Nat → FieldType := fun k => match k with
  | 0 => .int
  | 1 => .int
  | 2 => .int
  | 3 => .int
  | _ => .array .int
abbrev wsX70 : List Cond := u_ws RX7 TX7 5
theorem nmX7 : ∀ a, a < 5 → ∀ b, b < 5 → a ≠ b → (TX7 a).2.1 ≠ (TX7 b).2.1 := by decide +kernel
theorem tyX7_ok : ∀ k, k < 5 → parseFieldDescriptor (TX7 k).2.2.1 = some (tyX7 k) := by decide +kernel
abbrev cX7_init : ByteArray := prog_9_method_1_code
def yX7_init : MethodName := ⟨RX7, "<init>", "()V"⟩
abbrev cX7_copyFrom : ByteArray := prog_9_method_2_code
def yX7_copyFrom : MethodName := ⟨RX7, "copyFrom", "(LOrganCorners$Player;)V"⟩
abbrev cX7_hoursOfDay : ByteArray := prog_9_method_3_code
def yX7_hoursOfDay : MethodName := ⟨RX7, "hoursOfDay", "()I"⟩
abbrev cX7_forgetDay : ByteArray := prog_9_method_4_code
def yX7_forgetDay : MethodName := ⟨RX7, "forgetDay", "()V"⟩
def RX8 : String := "OrganCorners$SavedTowns"
def TX8 : u_T := fun k => match k with
  | 0 => ("OrganCorners$SavedTowns", "ring", "[LOrganCorners$Town;", true)
  | 1 => ("OrganCorners$SavedTowns", "oldest", "I", false)
  | _ => ("OrganCorners$SavedTowns", "count", "I", false)
def tyX8 : Nat → FieldType := fun k => match k with
  | 0 => .array (.object "OrganCorners$Town")
  | 1 => .int
  | _ => .int
abbrev wsX80 : List Cond := u_ws RX8 TX8 3
theorem nmX8 : ∀ a, a < 3 → ∀ b, b < 3 → a ≠ b → (TX8 a).2.1 ≠ (TX8 b).2.1 := by decide +kernel
theorem tyX8_ok : ∀ k, k < 3 → parseFieldDescriptor (TX8 k).2.2.1 = some (tyX8 k) := by decide +kernel
abbrev cX8_init : ByteArray := prog_10_method_1_code
def yX8_init : MethodName := ⟨RX8, "<init>", "()V"⟩
abbrev cX8_save : ByteArray := prog_10_method_2_code
def yX8_save : MethodName := ⟨RX8, "save", "(LOrganCorners$Town;)V"⟩
abbrev cX8_restore : ByteArray := prog_10_method_3_code
def yX8_restore : MethodName := ⟨RX8, "restore", "(LOrganCorners$Town;)V"⟩
def RX9 : String := "OrganCorners$Town"
def TX9 : u_T := fun k => match k with
  | 0 => ("OrganCorners$Town", "corners", "[LOrganCorners$Corner;", true)
  | 1 => ("OrganCorners$Town", "organs", "[LOrganCorners$Organ;", true)
  | 2 => ("OrganCorners$Town", "players", "[LOrganCorners$Player;", true)
  | 3 => ("OrganCorners$Town", "settings", "[I", true)
  | 4 => ("OrganCorners$Town", "cornerCount", "I", false)
  | 5 => ("OrganCorners$Town", "organCount", "I", false)
  | 6 => ("OrganCorners$Town", "playerCount", "I", false)
  | 7 => ("OrganCorners$Town", "day", "I", false)
  | 8 => ("OrganCorners$Town", "hour", "I", false)
  | 9 => ("OrganCorners$Town", "wet", "Z", false)
  | 10 => ("OrganCorners$Town", "seed", "I", false)
  | 11 => ("OrganCorners$Town", "playedOnDay", "I", false)
  | 12 => ("OrganCorners$Town", "playedSoFar", "I", false)
  | 13 => ("OrganCorners$Town", "treasury", "I", false)
  | _ => ("OrganCorners$Town", "fund", "I", false)
def tyX9 : Nat → FieldType := fun k => match k with
  | 0 => .array (.object "OrganCorners$Corner")
  | 1 => .array (.object "OrganCorners$Organ")
  | 2 => .array (.object "OrganCorners$Player")
  | 3 => .array .int
  | 4 => .int
  | 5 => .int
  | 6 => .int
  | 7 => .int
  | 8 => .int
  | 9 => .boolean
  | 10 => .int
  | 11 => .int
  | 12 => .int
  | 13 => .int
  | _ => .int
abbrev wsX90 : List Cond := u_ws RX9 TX9 15
theorem nmX9 : ∀ a, a < 15 → ∀ b, b < 15 → a ≠ b → (TX9 a).2.1 ≠ (TX9 b).2.1 := by decide +kernel
theorem tyX9_ok : ∀ k, k < 15 → parseFieldDescriptor (TX9 k).2.2.1 = some (tyX9 k) := by decide +kernel
abbrev cX9_init : ByteArray := prog_11_method_1_code
def yX9_init : MethodName := ⟨RX9, "<init>", "()V"⟩
abbrev cX9_copyFrom : ByteArray := prog_11_method_2_code
def yX9_copyFrom : MethodName := ⟨RX9, "copyFrom", "(LOrganCorners$Town;)V"⟩
abbrev cX9_hasCornerAt : ByteArray := prog_11_method_3_code
def yX9_hasCornerAt : MethodName := ⟨RX9, "hasCornerAt", "(I)Z"⟩
abbrev cX9_permits : ByteArray := prog_11_method_4_code
def yX9_permits : MethodName := ⟨RX9, "permits", "()I"⟩
abbrev cX9_crewSize : ByteArray := prog_11_method_5_code
def yX9_crewSize : MethodName := ⟨RX9, "crewSize", "(I)I"⟩
abbrev cX9_organAt : ByteArray := prog_11_method_6_code
def yX9_organAt : MethodName := ⟨RX9, "organAt", "(I)I"⟩
abbrev cX9_cornerOf : ByteArray := prog_11_method_7_code
def yX9_cornerOf : MethodName := ⟨RX9, "cornerOf", "(I)LOrganCorners$Corner;"⟩
abbrev cX9_takingsSoFar : ByteArray := prog_11_method_8_code
def yX9_takingsSoFar : MethodName := ⟨RX9, "takingsSoFar", "()I"⟩
abbrev cX9_ownersSoFar : ByteArray := prog_11_method_9_code
def yX9_ownersSoFar : MethodName := ⟨RX9, "ownersSoFar", "()I"⟩
abbrev cX9_inAllPots : ByteArray := prog_11_method_10_code
def yX9_inAllPots : MethodName := ⟨RX9, "inAllPots", "()I"⟩
abbrev cX9_playersSoFar : ByteArray := prog_11_method_11_code
def yX9_playersSoFar : MethodName := ⟨RX9, "playersSoFar", "()I"⟩
abbrev cX9_weatherMayChange : ByteArray := prog_11_method_12_code
def yX9_weatherMayChange : MethodName := ⟨RX9, "weatherMayChange", "()Z"⟩
abbrev cX9_lotsMayBeDrawn : ByteArray := prog_11_method_13_code
def yX9_lotsMayBeDrawn : MethodName := ⟨RX9, "lotsMayBeDrawn", "()Z"⟩
abbrev cX9_drawLots : ByteArray := prog_11_method_14_code
def yX9_drawLots : MethodName := ⟨RX9, "drawLots", "()I"⟩
abbrev cX9_takeCornersBack : ByteArray := prog_11_method_15_code
def yX9_takeCornersBack : MethodName := ⟨RX9, "takeCornersBack", "()V"⟩
abbrev cX9_draw : ByteArray := prog_11_method_16_code
def yX9_draw : MethodName := ⟨RX9, "draw", "(I)I"⟩
abbrev cX9_freeCorner : ByteArray := prog_11_method_17_code
def yX9_freeCorner : MethodName := ⟨RX9, "freeCorner", "(I)I"⟩
abbrev cX9_areNear : ByteArray := prog_11_method_18_code
def yX9_areNear : MethodName := ⟨RX9, "areNear", "(II)Z"⟩
abbrev cX9_tunesHeardAt : ByteArray := prog_11_method_19_code
def yX9_tunesHeardAt : MethodName := ⟨RX9, "tunesHeardAt", "(LOrganCorners$Corner;)I"⟩
abbrev cX9_reasonAgainstAll : ByteArray := prog_11_method_20_code
def yX9_reasonAgainstAll : MethodName := ⟨RX9, "reasonAgainstAll", "(I)I"⟩
abbrev cX9_reasonAgainst : ByteArray := prog_11_method_21_code
def yX9_reasonAgainst : MethodName := ⟨RX9, "reasonAgainst", "(II)I"⟩
abbrev cX9_playableTunes : ByteArray := prog_11_method_22_code
def yX9_playableTunes : MethodName := ⟨RX9, "playableTunes", "(I)I"⟩
abbrev cX9_playedNear : ByteArray := prog_11_method_23_code
def yX9_playedNear : MethodName := ⟨RX9, "playedNear", "(I)I"⟩
abbrev cX9_takingsFor : ByteArray := prog_11_method_24_code
def yX9_takingsFor : MethodName := ⟨RX9, "takingsFor", "(II)I"⟩
abbrev cX9_playTune : ByteArray := prog_11_method_25_code
def yX9_playTune : MethodName := ⟨RX9, "playTune", "(II)I"⟩
abbrev cX9_divideTakings : ByteArray := prog_11_method_26_code
def yX9_divideTakings : MethodName := ⟨RX9, "divideTakings", "(LOrganCorners$Organ;I)V"⟩
abbrev cX9_addHourOfCrew : ByteArray := prog_11_method_27_code
def yX9_addHourOfCrew : MethodName := ⟨RX9, "addHourOfCrew", "(I)V"⟩
abbrev cX9_endHour : ByteArray := prog_11_method_28_code
def yX9_endHour : MethodName := ⟨RX9, "endHour", "(LOrganCorners$Payout;)V"⟩
abbrev cX9_payOut : ByteArray := prog_11_method_29_code
def yX9_payOut : MethodName := ⟨RX9, "payOut", "(LOrganCorners$Payout;)V"⟩
abbrev cX9_beginDay : ByteArray := prog_11_method_30_code
def yX9_beginDay : MethodName := ⟨RX9, "beginDay", "()V"⟩
def RX10 : String := "OrganCorners"
def TX10 : u_T := fun k => match k with
  | 0 => ("OrganCorners", "town", "LOrganCorners$Town;", true)
  | 1 => ("OrganCorners", "savedTowns", "LOrganCorners$SavedTowns;", true)
  | 2 => ("OrganCorners", "text", "LOrganCorners$OrderText;", true)
  | 3 => ("OrganCorners", "payout", "LOrganCorners$Payout;", true)
  | _ => ("OrganCorners", "outlook", "LOrganCorners$Outlook;", true)
def tyX10 : Nat → FieldType := fun k => match k with
  | 0 => .object "OrganCorners$Town"
  | 1 => .object "OrganCorners$SavedTowns"
  | 2 => .object "OrganCorners$OrderText"
  | 3 => .object "OrganCorners$Payout"
  | _ => .object "OrganCorners$Outlook"
abbrev wsX100 : List Cond := u_ws RX10 TX10 5
theorem nmX10 : ∀ a, a < 5 → ∀ b, b < 5 → a ≠ b → (TX10 a).2.1 ≠ (TX10 b).2.1 := by decide +kernel
theorem tyX10_ok : ∀ k, k < 5 → parseFieldDescriptor (TX10 k).2.2.1 = some (tyX10 k) := by decide +kernel
abbrev cX10_init : ByteArray := prog_1_method_1_code
def yX10_init : MethodName := ⟨RX10, "<init>", "()V"⟩
abbrev cX10_addCorner : ByteArray := prog_1_method_2_code
def yX10_addCorner : MethodName := ⟨RX10, "addCorner", "(IIII)I"⟩
abbrev cX10_addOrgan : ByteArray := prog_1_method_3_code
def yX10_addOrgan : MethodName := ⟨RX10, "addOrgan", "(I)I"⟩
abbrev cX10_addPlayer : ByteArray := prog_1_method_4_code
def yX10_addPlayer : MethodName := ⟨RX10, "addPlayer", "()I"⟩
abbrev cX10_permit : ByteArray := prog_1_method_5_code
def yX10_permit : MethodName := ⟨RX10, "permit", "(IZ)I"⟩
abbrev cX10_barrel : ByteArray := prog_1_method_6_code
def yX10_barrel : MethodName := ⟨RX10, "barrel", "(II)I"⟩
abbrev cX10_assign : ByteArray := prog_1_method_7_code
def yX10_assign : MethodName := ⟨RX10, "assign", "(II)I"⟩
abbrev cX10_set : ByteArray := prog_1_method_8_code
def yX10_set : MethodName := ⟨RX10, "set", "(II)I"⟩
abbrev cX10_lots : ByteArray := prog_1_method_9_code
def yX10_lots : MethodName := ⟨RX10, "lots", "()I"⟩
abbrev cX10_weather : ByteArray := prog_1_method_10_code
def yX10_weather : MethodName := ⟨RX10, "weather", "(Z)I"⟩
abbrev cX10_play : ByteArray := prog_1_method_11_code
def yX10_play : MethodName := ⟨RX10, "play", "(II)I"⟩
abbrev cX10_next : ByteArray := prog_1_method_12_code
def yX10_next : MethodName := ⟨RX10, "next", "()I"⟩
abbrev cX10_append : ByteArray := prog_1_method_13_code
def yX10_append : MethodName := ⟨RX10, "append", "(I)I"⟩
abbrev cX10_clearBuffer : ByteArray := prog_1_method_14_code
def yX10_clearBuffer : MethodName := ⟨RX10, "clearBuffer", "()I"⟩
abbrev cX10_firstError : ByteArray := prog_1_method_15_code
def yX10_firstError : MethodName := ⟨RX10, "firstError", "()I"⟩
abbrev cX10_run : ByteArray := prog_1_method_16_code
def yX10_run : MethodName := ⟨RX10, "run", "()I"⟩
abbrev cX10_undo : ByteArray := prog_1_method_17_code
def yX10_undo : MethodName := ⟨RX10, "undo", "()I"⟩
abbrev cX10_corner : ByteArray := prog_1_method_18_code
def yX10_corner : MethodName := ⟨RX10, "corner", "(II)I"⟩
abbrev cX10_organ : ByteArray := prog_1_method_19_code
def yX10_organ : MethodName := ⟨RX10, "organ", "(II)I"⟩
abbrev cX10_player : ByteArray := prog_1_method_20_code
def yX10_player : MethodName := ⟨RX10, "player", "(II)I"⟩
abbrev cX10_hours : ByteArray := prog_1_method_21_code
def yX10_hours : MethodName := ⟨RX10, "hours", "(II)I"⟩
abbrev cX10_count : ByteArray := prog_1_method_22_code
def yX10_count : MethodName := ⟨RX10, "count", "(I)I"⟩
abbrev cX10_setting : ByteArray := prog_1_method_23_code
def yX10_setting : MethodName := ⟨RX10, "setting", "(I)I"⟩
abbrev cX10_whyNot : ByteArray := prog_1_method_24_code
def yX10_whyNot : MethodName := ⟨RX10, "whyNot", "(II)I"⟩
abbrev cX10_ifPlayed : ByteArray := prog_1_method_25_code
def yX10_ifPlayed : MethodName := ⟨RX10, "ifPlayed", "(I)I"⟩
abbrev cX10_kindestTune : ByteArray := prog_1_method_26_code
def yX10_kindestTune : MethodName := ⟨RX10, "kindestTune", "(I)I"⟩
abbrev cX10_most : ByteArray := prog_1_method_27_code
def yX10_most : MethodName := ⟨RX10, "most", "(I)I"⟩
abbrev cX10_ifEnded : ByteArray := prog_1_method_28_code
def yX10_ifEnded : MethodName := ⟨RX10, "ifEnded", "(I)I"⟩
abbrev cX10_playersShare : ByteArray := prog_1_method_29_code
def yX10_playersShare : MethodName := ⟨RX10, "playersShare", "()D"⟩
abbrev cX10_digest : ByteArray := prog_1_method_30_code
def yX10_digest : MethodName := ⟨RX10, "digest", "()J"⟩
abbrev cX10_requireIndex : ByteArray := prog_1_method_31_code
def yX10_requireIndex : MethodName := ⟨RX10, "requireIndex", "(II)V"⟩
abbrev cX10_requireInRange : ByteArray := prog_1_method_32_code
def yX10_requireInRange : MethodName := ⟨RX10, "requireInRange", "(III)V"⟩
abbrev cX10_requireState : ByteArray := prog_1_method_33_code
def yX10_requireState : MethodName := ⟨RX10, "requireState", "(Z)V"⟩
abbrev cX10_asNumber : ByteArray := prog_1_method_34_code
def yX10_asNumber : MethodName := ⟨RX10, "asNumber", "(Z)I"⟩
abbrev cX10_holds : ByteArray := prog_1_method_35_code
def yX10_holds : MethodName := ⟨RX10, "holds", "(II)Z"⟩
abbrev cX10_obey : ByteArray := prog_1_method_36_code
def yX10_obey : MethodName := ⟨RX10, "obey", "(LOrganCorners$OrderKind;I)Z"⟩
abbrev cX10_obeyPlay : ByteArray := prog_1_method_37_code
def yX10_obeyPlay : MethodName := ⟨RX10, "obeyPlay", "(II)Z"⟩
abbrev cX10_mixed : ByteArray := prog_1_method_38_code
def yX10_mixed : MethodName := ⟨RX10, "mixed", "(JJ)J"⟩
abbrev cX10_withCorner : ByteArray := prog_1_method_39_code
def yX10_withCorner : MethodName := ⟨RX10, "withCorner", "(JI)J"⟩
abbrev cX10_withOrgan : ByteArray := prog_1_method_40_code
def yX10_withOrgan : MethodName := ⟨RX10, "withOrgan", "(JI)J"⟩
abbrev cX10_withPlayer : ByteArray := prog_1_method_41_code
def yX10_withPlayer : MethodName := ⟨RX10, "withPlayer", "(JI)J"⟩
abbrev cX10_withText : ByteArray := prog_1_method_42_code
def yX10_withText : MethodName := ⟨RX10, "withText", "(J)J"⟩
abbrev cX10_bitsOfShare : ByteArray := prog_1_method_43_code
def yX10_bitsOfShare : MethodName := ⟨RX10, "bitsOfShare", "(D)J"⟩
def RX11 : String := "OrganCornersModel"
def TX11 : u_T := fun k => match k with
  | 0 => ("OrganCornersModel", "z", "[I", true)
  | 1 => ("OrganCornersModel", "aside", "[I", true)
  | 2 => ("OrganCornersModel", "rows", "[I", true)
  | 3 => ("OrganCornersModel", "text", "[I", true)
  | 4 => ("OrganCornersModel", "orders", "[I", true)
  | 5 => ("OrganCornersModel", "rests", "[I", true)
  | 6 => ("OrganCornersModel", "can", "[I", true)
  | 7 => ("OrganCornersModel", "pick", "[I", true)
  | 8 => ("OrganCornersModel", "sumBehind", "[I", true)
  | 9 => ("OrganCornersModel", "bestSum", "I", false)
  | 10 => ("OrganCornersModel", "bestMask", "I", false)
  | 11 => ("OrganCornersModel", "entries", "I", false)
  | 12 => ("OrganCornersModel", "state", "I", false)
  | 13 => ("OrganCornersModel", "organRead", "I", false)
  | 14 => ("OrganCornersModel", "saved", "I", false)
  | 15 => ("OrganCornersModel", "length", "I", false)
  | 16 => ("OrganCornersModel", "thrown", "I", false)
  | _ => ("OrganCornersModel", "h", "J", false)
def tyX11 : Nat → FieldType := fun k => match k with
  | 0 => .array .int
  | 1 => .array .int
  | 2 => .array .int
  | 3 => .array .int
  | 4 => .array .int
  | 5 => .array .int
  | 6 => .array .int
  | 7 => .array .int
  | 8 => .array .int
  | 9 => .int
  | 10 => .int
  | 11 => .int
  | 12 => .int
  | 13 => .int
  | 14 => .int
  | 15 => .int
  | 16 => .int
  | _ => .long
abbrev wsX110 : List Cond := u_ws RX11 TX11 18
theorem nmX11 : ∀ a, a < 18 → ∀ b, b < 18 → a ≠ b → (TX11 a).2.1 ≠ (TX11 b).2.1 := by decide +kernel
theorem tyX11_ok : ∀ k, k < 18 → parseFieldDescriptor (TX11 k).2.2.1 = some (tyX11 k) := by decide +kernel
abbrev cX11_init : ByteArray := prog_13_method_1_code
def yX11_init : MethodName := ⟨RX11, "<init>", "()V"⟩
abbrev cX11_thrown : ByteArray := prog_13_method_2_code
def yX11_thrown : MethodName := ⟨RX11, "thrown", "()I"⟩
abbrev cX11_fails : ByteArray := prog_13_method_3_code
def yX11_fails : MethodName := ⟨RX11, "fails", "(I)I"⟩
abbrev cX11_within : ByteArray := prog_13_method_4_code
def yX11_within : MethodName := ⟨RX11, "within", "(III)Z"⟩
abbrev cX11_isCorner : ByteArray := prog_13_method_5_code
def yX11_isCorner : MethodName := ⟨RX11, "isCorner", "(I)Z"⟩
abbrev cX11_isOrgan : ByteArray := prog_13_method_6_code
def yX11_isOrgan : MethodName := ⟨RX11, "isOrgan", "(I)Z"⟩
abbrev cX11_isPlayer : ByteArray := prog_13_method_7_code
def yX11_isPlayer : MethodName := ⟨RX11, "isPlayer", "(I)Z"⟩
abbrev cX11_corner0 : ByteArray := prog_13_method_8_code
def yX11_corner0 : MethodName := ⟨RX11, "corner0", "(II)I"⟩
abbrev cX11_organ0 : ByteArray := prog_13_method_9_code
def yX11_organ0 : MethodName := ⟨RX11, "organ0", "(II)I"⟩
abbrev cX11_player0 : ByteArray := prog_13_method_10_code
def yX11_player0 : MethodName := ⟨RX11, "player0", "(II)I"⟩
abbrev cX11_cornerOf : ByteArray := prog_13_method_11_code
def yX11_cornerOf : MethodName := ⟨RX11, "cornerOf", "(I)I"⟩
abbrev cX11_tuneIn : ByteArray := prog_13_method_12_code
def yX11_tuneIn : MethodName := ⟨RX11, "tuneIn", "(II)I"⟩
abbrev cX11_save : ByteArray := prog_13_method_13_code
def yX11_save : MethodName := ⟨RX11, "save", "()V"⟩
abbrev cX11_keep : ByteArray := prog_13_method_14_code
def yX11_keep : MethodName := ⟨RX11, "keep", "()V"⟩
abbrev cX11_bring : ByteArray := prog_13_method_15_code
def yX11_bring : MethodName := ⟨RX11, "bring", "()V"⟩
abbrev cX11_addCorner : ByteArray := prog_13_method_16_code
def yX11_addCorner : MethodName := ⟨RX11, "addCorner", "(IIII)I"⟩
abbrev cX11_addOrgan : ByteArray := prog_13_method_17_code
def yX11_addOrgan : MethodName := ⟨RX11, "addOrgan", "(I)I"⟩
abbrev cX11_addPlayer : ByteArray := prog_13_method_18_code
def yX11_addPlayer : MethodName := ⟨RX11, "addPlayer", "()I"⟩
abbrev cX11_permits : ByteArray := prog_13_method_19_code
def yX11_permits : MethodName := ⟨RX11, "permits", "()I"⟩
abbrev cX11_permit : ByteArray := prog_13_method_20_code
def yX11_permit : MethodName := ⟨RX11, "permit", "(IZ)I"⟩
abbrev cX11_barrel : ByteArray := prog_13_method_21_code
def yX11_barrel : MethodName := ⟨RX11, "barrel", "(II)I"⟩
abbrev cX11_assign : ByteArray := prog_13_method_22_code
def yX11_assign : MethodName := ⟨RX11, "assign", "(II)I"⟩
abbrev cX11_mostOf : ByteArray := prog_13_method_23_code
def yX11_mostOf : MethodName := ⟨RX11, "mostOf", "(I)I"⟩
abbrev cX11_set : ByteArray := prog_13_method_24_code
def yX11_set : MethodName := ⟨RX11, "set", "(II)I"⟩
abbrev cX11_playedToday : ByteArray := prog_13_method_25_code
def yX11_playedToday : MethodName := ⟨RX11, "playedToday", "()I"⟩
abbrev cX11_draw : ByteArray := prog_13_method_26_code
def yX11_draw : MethodName := ⟨RX11, "draw", "(I)I"⟩
abbrev cX11_whoHas : ByteArray := prog_13_method_27_code
def yX11_whoHas : MethodName := ⟨RX11, "whoHas", "(I)I"⟩
abbrev cX11_freeCorners : ByteArray := prog_13_method_28_code
def yX11_freeCorners : MethodName := ⟨RX11, "freeCorners", "()I"⟩
abbrev cX11_freeAt : ByteArray := prog_13_method_29_code
def yX11_freeAt : MethodName := ⟨RX11, "freeAt", "(I)I"⟩
abbrev cX11_withCorner : ByteArray := prog_13_method_30_code
def yX11_withCorner : MethodName := ⟨RX11, "withCorner", "()I"⟩
abbrev cX11_noCorners : ByteArray := prog_13_method_31_code
def yX11_noCorners : MethodName := ⟨RX11, "noCorners", "()V"⟩
abbrev cX11_mayDraw : ByteArray := prog_13_method_32_code
def yX11_mayDraw : MethodName := ⟨RX11, "mayDraw", "()Z"⟩
abbrev cX11_drawLots : ByteArray := prog_13_method_33_code
def yX11_drawLots : MethodName := ⟨RX11, "drawLots", "()V"⟩
abbrev cX11_lots : ByteArray := prog_13_method_34_code
def yX11_lots : MethodName := ⟨RX11, "lots", "()I"⟩
abbrev cX11_weather : ByteArray := prog_13_method_35_code
def yX11_weather : MethodName := ⟨RX11, "weather", "(Z)I"⟩
abbrev cX11_isQuiet : ByteArray := prog_13_method_36_code
def yX11_isQuiet : MethodName := ⟨RX11, "isQuiet", "(I)Z"⟩
abbrev cX11_areNear : ByteArray := prog_13_method_37_code
def yX11_areNear : MethodName := ⟨RX11, "areNear", "(II)Z"⟩
abbrev cX11_heardAt : ByteArray := prog_13_method_38_code
def yX11_heardAt : MethodName := ⟨RX11, "heardAt", "(I)I"⟩
abbrev cX11_crewOf : ByteArray := prog_13_method_39_code
def yX11_crewOf : MethodName := ⟨RX11, "crewOf", "(I)I"⟩
abbrev cX11_reason : ByteArray := prog_13_method_40_code
def yX11_reason : MethodName := ⟨RX11, "reason", "(II)I"⟩
abbrev cX11_othersNear : ByteArray := prog_13_method_41_code
def yX11_othersNear : MethodName := ⟨RX11, "othersNear", "(I)I"⟩
abbrev cX11_takings : ByteArray := prog_13_method_42_code
def yX11_takings : MethodName := ⟨RX11, "takings", "(II)I"⟩
abbrev cX11_plays : ByteArray := prog_13_method_43_code
def yX11_plays : MethodName := ⟨RX11, "plays", "(II)I"⟩
abbrev cX11_play : ByteArray := prog_13_method_44_code
def yX11_play : MethodName := ⟨RX11, "play", "(II)I"⟩
abbrev cX11_timeAt : ByteArray := prog_13_method_45_code
def yX11_timeAt : MethodName := ⟨RX11, "timeAt", "(II)I"⟩
abbrev cX11_timeToday : ByteArray := prog_13_method_46_code
def yX11_timeToday : MethodName := ⟨RX11, "timeToday", "(I)I"⟩
abbrev cX11_sharePot : ByteArray := prog_13_method_47_code
def yX11_sharePot : MethodName := ⟨RX11, "sharePot", "(I)V"⟩
abbrev cX11_endDay : ByteArray := prog_13_method_48_code
def yX11_endDay : MethodName := ⟨RX11, "endDay", "()V"⟩
abbrev cX11_goOn : ByteArray := prog_13_method_49_code
def yX11_goOn : MethodName := ⟨RX11, "goOn", "()V"⟩
abbrev cX11_next : ByteArray := prog_13_method_50_code
def yX11_next : MethodName := ⟨RX11, "next", "()I"⟩
abbrev cX11_append : ByteArray := prog_13_method_51_code
def yX11_append : MethodName := ⟨RX11, "append", "(I)I"⟩
abbrev cX11_clearBuffer : ByteArray := prog_13_method_52_code
def yX11_clearBuffer : MethodName := ⟨RX11, "clearBuffer", "()I"⟩
abbrev cX11_goes : ByteArray := prog_13_method_53_code
def yX11_goes : MethodName := ⟨RX11, "goes", "(ZI)Z"⟩
abbrev cX11_ends : ByteArray := prog_13_method_54_code
def yX11_ends : MethodName := ⟨RX11, "ends", "(ZI)Z"⟩
abbrev cX11_begins : ByteArray := prog_13_method_55_code
def yX11_begins : MethodName := ⟨RX11, "begins", "(I)Z"⟩
abbrev cX11_takes : ByteArray := prog_13_method_56_code
def yX11_takes : MethodName := ⟨RX11, "takes", "(I)Z"⟩
abbrev cX11_read : ByteArray := prog_13_method_57_code
def yX11_read : MethodName := ⟨RX11, "read", "()I"⟩
abbrev cX11_firstError : ByteArray := prog_13_method_58_code
def yX11_firstError : MethodName := ⟨RX11, "firstError", "()I"⟩
abbrev cX11_mayDo : ByteArray := prog_13_method_59_code
def yX11_mayDo : MethodName := ⟨RX11, "mayDo", "(I)Z"⟩
abbrev cX11_does : ByteArray := prog_13_method_60_code
def yX11_does : MethodName := ⟨RX11, "does", "(I)V"⟩
abbrev cX11_run : ByteArray := prog_13_method_61_code
def yX11_run : MethodName := ⟨RX11, "run", "()I"⟩
abbrev cX11_undo : ByteArray := prog_13_method_62_code
def yX11_undo : MethodName := ⟨RX11, "undo", "()I"⟩
abbrev cX11_playedAt : ByteArray := prog_13_method_63_code
def yX11_playedAt : MethodName := ⟨RX11, "playedAt", "(I)I"⟩
abbrev cX11_cornerNow : ByteArray := prog_13_method_64_code
def yX11_cornerNow : MethodName := ⟨RX11, "cornerNow", "(II)I"⟩
abbrev cX11_corner : ByteArray := prog_13_method_65_code
def yX11_corner : MethodName := ⟨RX11, "corner", "(II)I"⟩
abbrev cX11_organNow : ByteArray := prog_13_method_66_code
def yX11_organNow : MethodName := ⟨RX11, "organNow", "(II)I"⟩
abbrev cX11_organ : ByteArray := prog_13_method_67_code
def yX11_organ : MethodName := ⟨RX11, "organ", "(II)I"⟩
abbrev cX11_playerNow : ByteArray := prog_13_method_68_code
def yX11_playerNow : MethodName := ⟨RX11, "playerNow", "(II)I"⟩
abbrev cX11_player : ByteArray := prog_13_method_69_code
def yX11_player : MethodName := ⟨RX11, "player", "(II)I"⟩
abbrev cX11_hours : ByteArray := prog_13_method_70_code
def yX11_hours : MethodName := ⟨RX11, "hours", "(II)I"⟩
abbrev cX11_ofOrgans : ByteArray := prog_13_method_71_code
def yX11_ofOrgans : MethodName := ⟨RX11, "ofOrgans", "(I)I"⟩
abbrev cX11_playersGot : ByteArray := prog_13_method_72_code
def yX11_playersGot : MethodName := ⟨RX11, "playersGot", "()I"⟩
abbrev cX11_counted : ByteArray := prog_13_method_73_code
def yX11_counted : MethodName := ⟨RX11, "counted", "(I)I"⟩
abbrev cX11_count : ByteArray := prog_13_method_74_code
def yX11_count : MethodName := ⟨RX11, "count", "(I)I"⟩
abbrev cX11_setting : ByteArray := prog_13_method_75_code
def yX11_setting : MethodName := ⟨RX11, "setting", "(I)I"⟩
abbrev cX11_whyNot : ByteArray := prog_13_method_76_code
def yX11_whyNot : MethodName := ⟨RX11, "whyNot", "(II)I"⟩
abbrev cX11_tunesOf : ByteArray := prog_13_method_77_code
def yX11_tunesOf : MethodName := ⟨RX11, "tunesOf", "(I)I"⟩
abbrev cX11_playedNow : ByteArray := prog_13_method_78_code
def yX11_playedNow : MethodName := ⟨RX11, "playedNow", "(I)I"⟩
abbrev cX11_ifPlayed : ByteArray := prog_13_method_79_code
def yX11_ifPlayed : MethodName := ⟨RX11, "ifPlayed", "(I)I"⟩
abbrev cX11_size : ByteArray := prog_13_method_80_code
def yX11_size : MethodName := ⟨RX11, "size", "(I)I"⟩
abbrev cX11_pairsBehind : ByteArray := prog_13_method_81_code
def yX11_pairsBehind : MethodName := ⟨RX11, "pairsBehind", "(II)I"⟩
abbrev cX11_kindestNow : ByteArray := prog_13_method_82_code
def yX11_kindestNow : MethodName := ⟨RX11, "kindestNow", "(I)I"⟩
abbrev cX11_kindestTune : ByteArray := prog_13_method_83_code
def yX11_kindestTune : MethodName := ⟨RX11, "kindestTune", "(I)I"⟩
abbrev cX11_canPick : ByteArray := prog_13_method_84_code
def yX11_canPick : MethodName := ⟨RX11, "canPick", "(I)Z"⟩
abbrev cX11_pickTakings : ByteArray := prog_13_method_85_code
def yX11_pickTakings : MethodName := ⟨RX11, "pickTakings", "(I)I"⟩
abbrev cX11_keepPicks : ByteArray := prog_13_method_86_code
def yX11_keepPicks : MethodName := ⟨RX11, "keepPicks", "()V"⟩
abbrev cX11_layMost : ByteArray := prog_13_method_87_code
def yX11_layMost : MethodName := ⟨RX11, "layMost", "()V"⟩
abbrev cX11_most : ByteArray := prog_13_method_88_code
def yX11_most : MethodName := ⟨RX11, "most", "(I)I"⟩
abbrev cX11_endedNow : ByteArray := prog_13_method_89_code
def yX11_endedNow : MethodName := ⟨RX11, "endedNow", "(I)I"⟩
abbrev cX11_ifEnded : ByteArray := prog_13_method_90_code
def yX11_ifEnded : MethodName := ⟨RX11, "ifEnded", "(I)I"⟩
abbrev cX11_shareNow : ByteArray := prog_13_method_91_code
def yX11_shareNow : MethodName := ⟨RX11, "shareNow", "()D"⟩
abbrev cX11_playersShare : ByteArray := prog_13_method_92_code
def yX11_playersShare : MethodName := ⟨RX11, "playersShare", "()D"⟩
abbrev cX11_mix : ByteArray := prog_13_method_93_code
def yX11_mix : MethodName := ⟨RX11, "mix", "(J)V"⟩
abbrev cX11_mixOrgan : ByteArray := prog_13_method_94_code
def yX11_mixOrgan : MethodName := ⟨RX11, "mixOrgan", "(I)V"⟩
abbrev cX11_mixPlayer : ByteArray := prog_13_method_95_code
def yX11_mixPlayer : MethodName := ⟨RX11, "mixPlayer", "(I)V"⟩
abbrev cX11_digest : ByteArray := prog_13_method_96_code
def yX11_digest : MethodName := ⟨RX11, "digest", "()J"⟩
def RJxe99ae : String := "java/lang/Double"
abbrev cJxe99ae_isNaN_b9ae7 : ByteArray := prog_14_method_6_code
def yJxe99ae_isNaN_b9ae7 : MethodName := ⟨RJxe99ae, "isNaN", "(D)Z"⟩
abbrev cJxe99ae_doubleToLongBits_ccdee : ByteArray := prog_14_method_23_code
def yJxe99ae_doubleToLongBits_ccdee : MethodName := ⟨RJxe99ae, "doubleToLongBits", "(D)J"⟩
def RJx29ce0 : String := "java/lang/Enum"
abbrev cJx29ce0_ordinal_8abf5 : ByteArray := prog_15_method_2_code
def yJx29ce0_ordinal_8abf5 : MethodName := ⟨RJx29ce0, "ordinal", "()I"⟩
def RJ9 : String := "java/lang/Math"
abbrev cJ9_abs_0f7a4 : ByteArray := prog_20_method_59_code
def yJ9_abs_0f7a4 : MethodName := ⟨RJ9, "abs", "(I)I"⟩
abbrev cJ9_max_7cf53 : ByteArray := prog_20_method_65_code
def yJ9_max_7cf53 : MethodName := ⟨RJ9, "max", "(II)I"⟩
abbrev cJ9_min_7cf53 : ByteArray := prog_20_method_69_code
def yJ9_min_7cf53 : MethodName := ⟨RJ9, "min", "(II)I"⟩
def RJ0 : String := "java/lang/String"
abbrev cJ0_length_8abf5 : ByteArray := prog_22_method_54_code
def yJ0_length_8abf5 : MethodName := ⟨RJ0, "length", "()I"⟩
abbrev cJ0_charAt_5068e : ByteArray := prog_22_method_56_code
def yJ0_charAt_5068e : MethodName := ⟨RJ0, "charAt", "(I)C"⟩
abbrev cJ0_coder_7d493 : ByteArray := prog_22_method_152_code
def yJ0_coder_7d493 : MethodName := ⟨RJ0, "coder", "()B"⟩
abbrev cJ0_isLatin1_aae02 : ByteArray := prog_22_method_154_code
def yJ0_isLatin1_aae02 : MethodName := ⟨RJ0, "isLatin1", "()Z"⟩
abbrev cJ0_checkIndex_df160 : ByteArray := prog_22_method_155_code
def yJ0_checkIndex_df160 : MethodName := ⟨RJ0, "checkIndex", "(II)V"⟩
def RJ1 : String := "java/lang/StringLatin1"
abbrev cJ1_charAt_3b067 : ByteArray := prog_23_method_2_code
def yJ1_charAt_3b067 : MethodName := ⟨RJ1, "charAt", "([BI)C"⟩
def RJ2 : String := "java/lang/StringUTF16"
abbrev cJ2_getChar_3b067 : ByteArray := prog_24_method_5_code
def yJ2_getChar_3b067 : MethodName := ⟨RJ2, "getChar", "([BI)C"⟩
abbrev cJ2_length_9d52b : ByteArray := prog_24_method_6_code
def yJ2_length_9d52b : MethodName := ⟨RJ2, "length", "([B)I"⟩
abbrev cJ2_charAt_3b067 : ByteArray := prog_24_method_83_code
def yJ2_charAt_3b067 : MethodName := ⟨RJ2, "charAt", "([BI)C"⟩
abbrev cJ2_checkIndex_2214a : ByteArray := prog_24_method_91_code
def yJ2_checkIndex_2214a : MethodName := ⟨RJ2, "checkIndex", "(I[B)V"⟩
def RJ10 : String := "java/lang/System"
def RJ3 : String := "jdk/internal/util/Preconditions"
abbrev cJ3_checkIndex_8e157 : ByteArray := prog_27_method_11_code
def yJ3_checkIndex_8e157 : MethodName := ⟨RJ3, "checkIndex", "(IILjava/util/function/BiFunction;)I"⟩
def RL : String := "OrganCornersLaw"
abbrev cL_addCorner : ByteArray := method_3_code
def yL_addCorner : MethodName := ⟨RL, "addCorner", "(LOrganCorners;IIII[J)I"⟩
abbrev cL_addOrgan : ByteArray := method_4_code
def yL_addOrgan : MethodName := ⟨RL, "addOrgan", "(LOrganCorners;I[J)I"⟩
abbrev cL_addPlayer : ByteArray := method_5_code
def yL_addPlayer : MethodName := ⟨RL, "addPlayer", "(LOrganCorners;[J)I"⟩
abbrev cL_permit : ByteArray := method_6_code
def yL_permit : MethodName := ⟨RL, "permit", "(LOrganCorners;IZ[J)I"⟩
abbrev cL_barrel : ByteArray := method_7_code
def yL_barrel : MethodName := ⟨RL, "barrel", "(LOrganCorners;II[J)I"⟩
abbrev cL_assign : ByteArray := method_8_code
def yL_assign : MethodName := ⟨RL, "assign", "(LOrganCorners;II[J)I"⟩
abbrev cL_set : ByteArray := method_9_code
def yL_set : MethodName := ⟨RL, "set", "(LOrganCorners;II[J)I"⟩
abbrev cL_lots : ByteArray := method_10_code
def yL_lots : MethodName := ⟨RL, "lots", "(LOrganCorners;[J)I"⟩
abbrev cL_weather : ByteArray := method_11_code
def yL_weather : MethodName := ⟨RL, "weather", "(LOrganCorners;Z[J)I"⟩
abbrev cL_play : ByteArray := method_12_code
def yL_play : MethodName := ⟨RL, "play", "(LOrganCorners;II[J)I"⟩
abbrev cL_append : ByteArray := method_13_code
def yL_append : MethodName := ⟨RL, "append", "(LOrganCorners;I[J)I"⟩
abbrev cL_run : ByteArray := method_14_code
def yL_run : MethodName := ⟨RL, "run", "(LOrganCorners;[J)I"⟩
abbrev cL_undo : ByteArray := method_15_code
def yL_undo : MethodName := ⟨RL, "undo", "(LOrganCorners;[J)I"⟩
abbrev cL_corner : ByteArray := method_16_code
def yL_corner : MethodName := ⟨RL, "corner", "(LOrganCorners;II[J)I"⟩
abbrev cL_organ : ByteArray := method_17_code
def yL_organ : MethodName := ⟨RL, "organ", "(LOrganCorners;II[J)I"⟩
abbrev cL_player : ByteArray := method_18_code
def yL_player : MethodName := ⟨RL, "player", "(LOrganCorners;II[J)I"⟩
abbrev cL_hours : ByteArray := method_19_code
def yL_hours : MethodName := ⟨RL, "hours", "(LOrganCorners;II[J)I"⟩
abbrev cL_count : ByteArray := method_20_code
def yL_count : MethodName := ⟨RL, "count", "(LOrganCorners;I[J)I"⟩
abbrev cL_setting : ByteArray := method_21_code
def yL_setting : MethodName := ⟨RL, "setting", "(LOrganCorners;I[J)I"⟩
abbrev cL_whyNot : ByteArray := method_22_code
def yL_whyNot : MethodName := ⟨RL, "whyNot", "(LOrganCorners;II[J)I"⟩
abbrev cL_ifPlayed : ByteArray := method_23_code
def yL_ifPlayed : MethodName := ⟨RL, "ifPlayed", "(LOrganCorners;I[J)I"⟩
abbrev cL_kindestTune : ByteArray := method_24_code
def yL_kindestTune : MethodName := ⟨RL, "kindestTune", "(LOrganCorners;I[J)I"⟩
abbrev cL_most : ByteArray := method_25_code
def yL_most : MethodName := ⟨RL, "most", "(LOrganCorners;I[J)I"⟩
abbrev cL_ifEnded : ByteArray := method_26_code
def yL_ifEnded : MethodName := ⟨RL, "ifEnded", "(LOrganCorners;I[J)I"⟩
abbrev cL_law : ByteArray := code
def yL_law : MethodName := ⟨RL, "law", "([I)Z"⟩
abbrev vwCl : List vw_C := [(RX1, TX1, 5), (RX3, TX3, 2), (RX4, TX4, 8), (RX5, TX5, 4), (RX6, TX6, 3), (RX7, TX7, 5), (RX8, TX8, 3), (RX9, TX9, 15), (RX10, TX10, 5), (RX11, TX11, 18)]
end NM
end
section
/-! THE CODE, DECODED, by program (wip/whole/gen.py) -/
section CD
def cd_X1_copyFrom_0 : List (Nat × Instr × Nat) := [(0, .aload_n 0, 1), (1, .aload_n 1, 1), (2, .getfield 15, 3), (5, .putfield 15, 3), (8, .aload_n 0, 1), (9, .aload_n 1, 1), (10, .getfield 19, 3), (13, .putfield 19, 3), (16, .aload_n 0, 1), (17, .aload_n 1, 1), (18, .getfield 22, 3), (21, .putfield 22, 3), (24, .aload_n 0, 1), (25, .aload_n 1, 1), (26, .getfield 25, 3), (29, .putfield 25, 3)]
def cd_X1_copyFrom_1 : List (Nat × Instr × Nat) := [(32, .aload_n 1, 1), (33, .getfield 9, 3), (36, .iconst 0, 1), (37, .aload_n 0, 1), (38, .getfield 9, 3), (41, .iconst 0, 1), (42, .bipush 10, 2), (44, .invokestatic 28, 3), (47, .return_, 1)]
def cd_X1_isQuietAt_0 : List (Nat × Instr × Nat) := [(0, .iload_n 1, 1), (1, .aload_n 0, 1), (2, .getfield 22, 3), (5, .isub, 1), (6, .bipush 10, 2), (8, .iadd, 1), (9, .bipush 10, 2), (11, .irem, 1), (12, .aload_n 0, 1), (13, .getfield 25, 3), (16, .if_icmp .ge 7, 3), (19, .iconst 1, 1), (20, .goto 4, 3), (23, .iconst 0, 1), (24, .ireturn, 1)]
def cd_X1_distanceTo_0 : List (Nat × Instr × Nat) := [(0, .aload_n 0, 1), (1, .getfield 15, 3), (4, .aload_n 1, 1), (5, .getfield 15, 3), (8, .isub, 1), (9, .invokestatic 34, 3), (12, .ireturn, 1)]
def cd_X1_tunesPlayed_0 : List (Nat × Instr × Nat) := [(0, .iconst 0, 1), (1, .istore_n 3, 1), (2, .iload_n 1, 1), (3, .iconst 0, 1), (4, .invokestatic 40, 3), (7, .istore 4, 2), (9, .iload 4, 2), (11, .iload_n 2, 1), (12, .if_icmp .gt 26, 3), (15, .iload 4, 2), (17, .bipush 10, 2), (19, .if_icmp .ge 19, 3), (22, .iload_n 3, 1), (23, .aload_n 0, 1), (24, .getfield 9, 3), (27, .iload 4, 2), (29, .iaload, 1), (30, .ior, 1), (31, .istore_n 3, 1)]
def cd_X1_tunesPlayed_1 : List (Nat × Instr × Nat) := [(32, .iinc 4 1, 3), (35, .goto (-26), 3), (38, .iload_n 3, 1), (39, .ireturn, 1)]
def cd_X1_noteTune_0 : List (Nat × Instr × Nat) := [(0, .iload_n 1, 1), (1, .ifCond .lt 21, 3), (4, .iload_n 1, 1), (5, .bipush 10, 2), (7, .if_icmp .ge 15, 3), (10, .aload_n 0, 1), (11, .getfield 9, 3), (14, .iload_n 1, 1), (15, .dup2, 1), (16, .iaload, 1), (17, .iconst 1, 1), (18, .iload_n 2, 1), (19, .ishl, 1), (20, .ior, 1), (21, .iastore, 1), (22, .return_, 1)]
def cd_X1_forgetDay_0 : List (Nat × Instr × Nat) := [(0, .iconst 0, 1), (1, .istore_n 1, 1), (2, .iload_n 1, 1), (3, .bipush 10, 2), (5, .if_icmp .ge 16, 3), (8, .aload_n 0, 1), (9, .getfield 9, 3), (12, .iload_n 1, 1), (13, .iconst 0, 1), (14, .iastore, 1), (15, .iinc 1 1, 3), (18, .goto (-16), 3), (21, .return_, 1)]
def cd_X2_signCount_0 : List (Nat × Instr × Nat) := [(0, .aload_n 0, 1), (1, .getfield 38, 3), (4, .invokevirtual 45, 3), (7, .ireturn, 1)]
def cd_X2_fits_0 : List (Nat × Instr × Nat) := [(0, .iload_n 1, 1), (1, .ifCond .lt 53, 3), (4, .iload_n 1, 1), (5, .aload_n 0, 1), (6, .getfield 38, 3), (9, .invokevirtual 45, 3), (12, .if_icmp .ge 42, 3), (15, .iload_n 1, 1), (16, .aload_n 0, 1), (17, .getfield 42, 3), (20, .invokevirtual 45, 3), (23, .if_icmp .ge 31, 3), (26, .iload_n 2, 1), (27, .aload_n 0, 1), (28, .getfield 38, 3), (31, .iload_n 1, 1)]
def cd_X2_fits_1 : List (Nat × Instr × Nat) := [(32, .invokevirtual 51, 3), (35, .if_icmp .lt 19, 3), (38, .iload_n 2, 1), (39, .aload_n 0, 1), (40, .getfield 42, 3), (43, .iload_n 1, 1), (44, .invokevirtual 51, 3), (47, .if_icmp .gt 7, 3), (50, .iconst 1, 1), (51, .goto 4, 3), (54, .iconst 0, 1), (55, .ireturn, 1)]
def cd_X3_kindAt_0 : List (Nat × Instr × Nat) := [(0, .iload_n 1, 1), (1, .ifCond .lt 11, 3), (4, .iload_n 1, 1), (5, .aload_n 0, 1), (6, .getfield 15, 3), (9, .if_icmp .lt 5, 3), (12, .aconst_null, 1), (13, .areturn, 1), (14, .iconst 0, 1), (15, .istore_n 2, 1), (16, .iload_n 2, 1), (17, .getstatic 19, 3), (20, .arraylength, 1), (21, .if_icmp .ge 33, 3), (24, .getstatic 19, 3), (27, .iload_n 2, 1), (28, .aaload, 1), (29, .iconst 0, 1), (30, .aload_n 0, 1), (31, .getfield 9, 3)]
def cd_X3_kindAt_1 : List (Nat × Instr × Nat) := [(34, .iload_n 1, 1), (35, .iaload, 1), (36, .invokevirtual 23, 3), (39, .ifCond .eq 9, 3), (42, .getstatic 19, 3), (45, .iload_n 2, 1), (46, .aaload, 1), (47, .areturn, 1), (48, .iinc 2 1, 3), (51, .goto (-35), 3), (54, .aconst_null, 1), (55, .areturn, 1)]
def cd_X3_errorIndex_0 : List (Nat × Instr × Nat) := [(0, .iconst 0, 1), (1, .istore_n 1, 1), (2, .iload_n 1, 1), (3, .aload_n 0, 1), (4, .getfield 15, 3), (7, .if_icmp .ge 95, 3), (10, .aload_n 0, 1), (11, .iload_n 1, 1), (12, .invokevirtual 29, 3), (15, .astore_n 2, 1), (16, .aload_n 2, 1), (17, .ifnonnull 5, 3), (20, .iload_n 1, 1), (21, .ireturn, 1), (22, .iload_n 1, 1), (23, .aload_n 2, 1), (24, .invokevirtual 33, 3), (27, .iadd, 1), (28, .istore_n 3, 1), (29, .iload_n 1, 1), (30, .istore 4, 2)]
def cd_X3_errorIndex_1 : List (Nat × Instr × Nat) := [(32, .iload 4, 2), (34, .iload_n 3, 1), (35, .if_icmp .ge 39, 3), (38, .iload 4, 2), (40, .aload_n 0, 1), (41, .getfield 15, 3), (44, .if_icmp .ge 30, 3), (47, .aload_n 2, 1), (48, .iload 4, 2), (50, .iload_n 1, 1), (51, .isub, 1), (52, .aload_n 0, 1), (53, .getfield 9, 3), (56, .iload 4, 2), (58, .iaload, 1), (59, .invokevirtual 23, 3), (62, .ifCond .ne 6, 3)]
def cd_X3_errorIndex_2 : List (Nat × Instr × Nat) := [(65, .iload 4, 2), (67, .ireturn, 1), (68, .iinc 4 1, 3), (71, .goto (-39), 3), (74, .iload_n 3, 1), (75, .aload_n 0, 1), (76, .getfield 15, 3), (79, .if_icmp .ge 16, 3), (82, .aload_n 0, 1), (83, .getfield 9, 3), (86, .iload_n 3, 1), (87, .iaload, 1), (88, .bipush 59, 2), (90, .if_icmp .eq 5, 3), (93, .iload_n 3, 1), (94, .ireturn, 1), (95, .iload_n 3, 1)]
def cd_X3_errorIndex_3 : List (Nat × Instr × Nat) := [(96, .iconst 1, 1), (97, .iadd, 1), (98, .istore_n 1, 1), (99, .goto (-97), 3), (102, .aload_n 0, 1), (103, .getfield 15, 3), (106, .ireturn, 1)]
def cd_X3_isWholeRow_0 : List (Nat × Instr × Nat) := [(0, .aload_n 0, 1), (1, .invokevirtual 37, 3), (4, .aload_n 0, 1), (5, .getfield 15, 3), (8, .if_icmp .ge 5, 3), (11, .iconst 0, 1), (12, .ireturn, 1), (13, .iconst 0, 1), (14, .istore_n 1, 1), (15, .iload_n 1, 1), (16, .aload_n 0, 1), (17, .getfield 15, 3), (20, .if_icmp .ge 27, 3), (23, .aload_n 0, 1), (24, .iload_n 1, 1), (25, .invokevirtual 29, 3), (28, .astore_n 2, 1), (29, .aload_n 2, 1), (30, .ifnonnull 5, 3)]
def cd_X3_isWholeRow_1 : List (Nat × Instr × Nat) := [(33, .iconst 0, 1), (34, .ireturn, 1), (35, .iload_n 1, 1), (36, .aload_n 2, 1), (37, .invokevirtual 33, 3), (40, .iconst 1, 1), (41, .iadd, 1), (42, .iadd, 1), (43, .istore_n 1, 1), (44, .goto (-29), 3), (47, .iload_n 1, 1), (48, .aload_n 0, 1), (49, .getfield 15, 3), (52, .iconst 1, 1), (53, .iadd, 1), (54, .if_icmp .ne 7, 3), (57, .iconst 1, 1), (58, .goto 4, 3), (61, .iconst 0, 1), (62, .ireturn, 1)]
def cd_X3_organAt_0 : List (Nat × Instr × Nat) := [(0, .iload_n 1, 1), (1, .ifCond .lt 23, 3), (4, .iload_n 1, 1), (5, .aload_n 0, 1), (6, .getfield 15, 3), (9, .if_icmp .ge 15, 3), (12, .aload_n 0, 1), (13, .getfield 9, 3), (16, .iload_n 1, 1), (17, .iaload, 1), (18, .bipush 48, 2), (20, .isub, 1), (21, .goto 4, 3), (24, .iconst (-1), 1), (25, .ireturn, 1)]
def cd_X3_tuneAt_0 : List (Nat × Instr × Nat) := [(0, .iload_n 1, 1), (1, .ifCond .lt 27, 3), (4, .iload_n 1, 1), (5, .iconst 2, 1), (6, .iadd, 1), (7, .aload_n 0, 1), (8, .getfield 15, 3), (11, .if_icmp .ge 17, 3), (14, .aload_n 0, 1), (15, .getfield 9, 3), (18, .iload_n 1, 1), (19, .iconst 2, 1), (20, .iadd, 1), (21, .iaload, 1), (22, .bipush 97, 2), (24, .isub, 1), (25, .goto 4, 3), (28, .iconst (-1), 1), (29, .ireturn, 1)]
def cd_X4_copyFrom_0 : List (Nat × Instr × Nat) := [(0, .aload_n 0, 1), (1, .aload_n 1, 1), (2, .getfield 18, 3), (5, .putfield 18, 3), (8, .aload_n 0, 1), (9, .aload_n 1, 1), (10, .getfield 21, 3), (13, .putfield 21, 3), (16, .aload_n 0, 1), (17, .aload_n 1, 1), (18, .getfield 25, 3), (21, .putfield 25, 3), (24, .aload_n 0, 1), (25, .aload_n 1, 1), (26, .getfield 9, 3), (29, .putfield 9, 3)]
def cd_X4_copyFrom_1 : List (Nat × Instr × Nat) := [(32, .aload_n 0, 1), (33, .aload_n 1, 1), (34, .getfield 28, 3), (37, .putfield 28, 3), (40, .aload_n 0, 1), (41, .aload_n 1, 1), (42, .getfield 31, 3), (45, .putfield 31, 3), (48, .aload_n 0, 1), (49, .aload_n 1, 1), (50, .getfield 34, 3), (53, .putfield 34, 3), (56, .aload_n 0, 1), (57, .aload_n 1, 1), (58, .getfield 15, 3), (61, .putfield 15, 3)]
def cd_X4_copyFrom_2 : List (Nat × Instr × Nat) := [(64, .return_, 1)]
def cd_X5_lookAt_0 : List (Nat × Instr × Nat) := [(0, .iconst 0, 1), (1, .istore_n 2, 1), (2, .iload_n 2, 1), (3, .aload_n 1, 1), (4, .getfield 18, 3), (7, .if_icmp .ge 20, 3), (10, .aload_n 0, 1), (11, .getfield 9, 3), (14, .iload_n 2, 1), (15, .aload_n 1, 1), (16, .iload_n 2, 1), (17, .invokevirtual 24, 3), (20, .iastore, 1), (21, .iinc 2 1, 3), (24, .goto (-22), 3), (27, .return_, 1)]
def cd_X5_leastHindering_0 : List (Nat × Instr × Nat) := [(0, .iconst (-1), 1), (1, .istore_n 3, 1), (2, .iconst 5, 1), (3, .istore 4, 2), (5, .iconst 0, 1), (6, .istore 5, 2), (8, .iload 5, 2), (10, .bipush 10, 2), (12, .if_icmp .ge 47, 3), (15, .aload_n 0, 1), (16, .getfield 9, 3), (19, .iload_n 2, 1), (20, .iaload, 1), (21, .iload 5, 2), (23, .invokestatic 28, 3), (26, .ifCond .eq 27, 3), (29, .aload_n 0, 1), (30, .aload_n 1, 1), (31, .iload_n 2, 1)]
def cd_X5_leastHindering_1 : List (Nat × Instr × Nat) := [(32, .iload 5, 2), (34, .invokevirtual 32, 3), (37, .istore 6, 2), (39, .iload 6, 2), (41, .iload 4, 2), (43, .if_icmp .ge 10, 3), (46, .iload 6, 2), (48, .istore 4, 2), (50, .iload 5, 2), (52, .istore_n 3, 1), (53, .iinc 5 1, 3), (56, .goto (-48), 3), (59, .iload_n 3, 1), (60, .ireturn, 1)]
def cd_X5_hinderedPairs_0 : List (Nat × Instr × Nat) := [(0, .iconst 0, 1), (1, .istore 4, 2), (3, .iconst 0, 1), (4, .istore 5, 2), (6, .iload 5, 2), (8, .aload_n 1, 1), (9, .getfield 18, 3), (12, .if_icmp .ge 42, 3), (15, .iload 5, 2), (17, .iload_n 2, 1), (18, .if_icmp .eq 30, 3), (21, .aload_n 0, 1), (22, .getfield 9, 3), (25, .iload 5, 2), (27, .iaload, 1), (28, .iload_n 3, 1), (29, .invokestatic 28, 3)]
def cd_X5_hinderedPairs_1 : List (Nat × Instr × Nat) := [(32, .ifCond .eq 16, 3), (35, .aload_n 1, 1), (36, .iload_n 2, 1), (37, .iload 5, 2), (39, .invokevirtual 36, 3), (42, .ifCond .eq 6, 3), (45, .iinc 4 1, 3), (48, .iinc 5 1, 3), (51, .goto (-45), 3), (54, .iload 4, 2), (56, .ireturn, 1)]
def cd_X5_findMost_0 : List (Nat × Instr × Nat) := [(0, .aload_n 0, 1), (1, .iconst 0, 1), (2, .putfield 39, 3), (5, .aload_n 0, 1), (6, .iconst 0, 1), (7, .putfield 42, 3), (10, .iconst 1, 1), (11, .istore_n 2, 1), (12, .iload_n 2, 1), (13, .iconst 1, 1), (14, .aload_n 1, 1), (15, .getfield 18, 3), (18, .ishl, 1), (19, .if_icmp .ge 50, 3), (22, .aload_n 1, 1), (23, .iload_n 2, 1), (24, .invokestatic 45, 3), (27, .istore_n 3, 1), (28, .iload_n 3, 1), (29, .aload_n 0, 1), (30, .getfield 39, 3)]
def cd_X5_findMost_1 : List (Nat × Instr × Nat) := [(33, .if_icmp .le 30, 3), (36, .aload_n 1, 1), (37, .aload_n 0, 1), (38, .getfield 9, 3), (41, .aload_n 0, 1), (42, .getfield 15, 3), (45, .iload_n 2, 1), (46, .iconst 0, 1), (47, .invokestatic 49, 3), (50, .ifCond .eq 13, 3), (53, .aload_n 0, 1), (54, .iload_n 3, 1), (55, .putfield 39, 3), (58, .aload_n 0, 1), (59, .iload_n 2, 1), (60, .putfield 42, 3), (63, .iinc 2 1, 3)]
def cd_X5_findMost_2 : List (Nat × Instr × Nat) := [(66, .goto (-54), 3), (69, .return_, 1)]
def cd_X5_takingsOf_0 : List (Nat × Instr × Nat) := [(0, .iconst 0, 1), (1, .istore_n 2, 1), (2, .iconst 0, 1), (3, .istore_n 3, 1), (4, .iload_n 3, 1), (5, .aload_n 0, 1), (6, .getfield 18, 3), (9, .if_icmp .ge 41, 3), (12, .iload_n 1, 1), (13, .iload_n 3, 1), (14, .invokestatic 28, 3), (17, .ifCond .eq 27, 3), (20, .aload_n 0, 1), (21, .iload_n 3, 1), (22, .invokevirtual 53, 3), (25, .aload_n 0, 1), (26, .iload_n 1, 1), (27, .iload_n 3, 1), (28, .invokestatic 56, 3), (31, .iadd, 1)]
def cd_X5_takingsOf_1 : List (Nat × Instr × Nat) := [(32, .istore 4, 2), (34, .iload_n 2, 1), (35, .aload_n 0, 1), (36, .iload_n 3, 1), (37, .iload 4, 2), (39, .invokevirtual 59, 3), (42, .iadd, 1), (43, .istore_n 2, 1), (44, .iinc 3 1, 3), (47, .goto (-43), 3), (50, .iload_n 2, 1), (51, .ireturn, 1)]
def cd_X5_nearAhead_0 : List (Nat × Instr × Nat) := [(0, .iconst 0, 1), (1, .istore_n 3, 1), (2, .iconst 0, 1), (3, .istore 4, 2), (5, .iload 4, 2), (7, .iload_n 2, 1), (8, .if_icmp .ge 31, 3), (11, .iload_n 1, 1), (12, .iload 4, 2), (14, .invokestatic 28, 3), (17, .ifCond .eq 16, 3), (20, .aload_n 0, 1), (21, .iload_n 2, 1), (22, .iload 4, 2), (24, .invokevirtual 36, 3), (27, .ifCond .eq 6, 3), (30, .iinc 3 1, 3)]
def cd_X5_nearAhead_1 : List (Nat × Instr × Nat) := [(33, .iinc 4 1, 3), (36, .goto (-31), 3), (39, .iload_n 3, 1), (40, .ireturn, 1)]
def cd_X5_findTunes_0 : List (Nat × Instr × Nat) := [(0, .iload 4, 2), (2, .aload_n 0, 1), (3, .getfield 18, 3), (6, .if_icmp .ge 9, 3), (9, .iload 4, 2), (11, .iconst 5, 1), (12, .if_icmp .lt 5, 3), (15, .iconst 1, 1), (16, .ireturn, 1), (17, .iload_n 3, 1), (18, .iload 4, 2), (20, .invokestatic 28, 3), (23, .ifCond .ne 15, 3), (26, .aload_n 0, 1), (27, .aload_n 1, 1), (28, .aload_n 2, 1), (29, .iload_n 3, 1), (30, .iload 4, 2)]
def cd_X5_findTunes_1 : List (Nat × Instr × Nat) := [(32, .iconst 1, 1), (33, .iadd, 1), (34, .invokestatic 49, 3), (37, .ireturn, 1), (38, .iconst 0, 1), (39, .istore 5, 2), (41, .iload 5, 2), (43, .bipush 10, 2), (45, .if_icmp .ge 56, 3), (48, .aload_n 1, 1), (49, .iload 4, 2), (51, .iaload, 1), (52, .iload 5, 2), (54, .invokestatic 28, 3), (57, .ifCond .eq 38, 3), (60, .aload_n 0, 1), (61, .aload_n 2, 1), (62, .iload_n 3, 1), (63, .iload 4, 2)]
def cd_X5_findTunes_2 : List (Nat × Instr × Nat) := [(65, .iload 5, 2), (67, .invokestatic 63, 3), (70, .ifCond .eq 25, 3), (73, .aload_n 2, 1), (74, .iload 4, 2), (76, .iload 5, 2), (78, .iastore, 1), (79, .aload_n 0, 1), (80, .aload_n 1, 1), (81, .aload_n 2, 1), (82, .iload_n 3, 1), (83, .iload 4, 2), (85, .iconst 1, 1), (86, .iadd, 1), (87, .invokestatic 49, 3), (90, .ifCond .eq 5, 3), (93, .iconst 1, 1), (94, .ireturn, 1), (95, .iinc 5 1, 3)]
def cd_X5_findTunes_3 : List (Nat × Instr × Nat) := [(98, .goto (-57), 3), (101, .iconst 0, 1), (102, .ireturn, 1)]
def cd_X5_isFree_0 : List (Nat × Instr × Nat) := [(0, .iconst 0, 1), (1, .istore 5, 2), (3, .iload 5, 2), (5, .iload_n 3, 1), (6, .if_icmp .ge 39, 3), (9, .iload_n 2, 1), (10, .iload 5, 2), (12, .invokestatic 28, 3), (15, .ifCond .eq 24, 3), (18, .aload_n 1, 1), (19, .iload 5, 2), (21, .iaload, 1), (22, .iload 4, 2), (24, .if_icmp .ne 15, 3), (27, .aload_n 0, 1), (28, .iload_n 3, 1), (29, .iload 5, 2), (31, .invokevirtual 36, 3)]
def cd_X5_isFree_1 : List (Nat × Instr × Nat) := [(34, .ifCond .eq 5, 3), (37, .iconst 0, 1), (38, .ireturn, 1), (39, .iinc 5 1, 3), (42, .goto (-39), 3), (45, .iconst 1, 1), (46, .ireturn, 1)]
def cd_X6_reckon_0 : List (Nat × Instr × Nat) := [(0, .iconst 0, 1), (1, .istore_n 2, 1), (2, .iload_n 2, 1), (3, .bipush 8, 2), (5, .if_icmp .ge 23, 3), (8, .aload_n 0, 1), (9, .getfield 9, 3), (12, .iload_n 2, 1), (13, .iconst 0, 1), (14, .iastore, 1), (15, .aload_n 0, 1), (16, .getfield 15, 3), (19, .iload_n 2, 1), (20, .iconst 0, 1), (21, .iastore, 1), (22, .iinc 2 1, 3), (25, .goto (-23), 3), (28, .iconst 0, 1), (29, .istore_n 2, 1), (30, .iload_n 2, 1), (31, .aload_n 1, 1)]
def cd_X6_reckon_1 : List (Nat × Instr × Nat) := [(32, .getfield 21, 3), (35, .if_icmp .ge 15, 3), (38, .aload_n 0, 1), (39, .aload_n 1, 1), (40, .iload_n 2, 1), (41, .invokevirtual 27, 3), (44, .iinc 2 1, 3), (47, .goto (-17), 3), (50, .aload_n 1, 1), (51, .getfield 31, 3), (54, .ifCond .eq 8, 3), (57, .aload_n 0, 1), (58, .aload_n 1, 1), (59, .invokevirtual 35, 3), (62, .return_, 1)]
def cd_X6_sharePot_0 : List (Nat × Instr × Nat) := [(0, .aload_n 1, 1), (1, .getfield 39, 3), (4, .iload_n 2, 1), (5, .aaload, 1), (6, .getfield 43, 3), (9, .istore_n 3, 1), (10, .iconst 0, 1), (11, .istore 4, 2), (13, .iconst 0, 1), (14, .istore 5, 2), (16, .iload 5, 2), (18, .aload_n 1, 1), (19, .getfield 48, 3), (22, .if_icmp .ge 26, 3), (25, .iload 4, 2), (27, .aload_n 1, 1), (28, .getfield 51, 3), (31, .iload 5, 2)]
def cd_X6_sharePot_1 : List (Nat × Instr × Nat) := [(33, .aaload, 1), (34, .getfield 55, 3), (37, .iload_n 2, 1), (38, .iaload, 1), (39, .iadd, 1), (40, .istore 4, 2), (42, .iinc 5 1, 3), (45, .goto (-29), 3), (48, .iload_n 3, 1), (49, .ifCond .eq 8, 3), (52, .iload 4, 2), (54, .ifCond .ne 4, 3), (57, .return_, 1), (58, .iload_n 3, 1), (59, .istore 5, 2), (61, .iconst 0, 1), (62, .istore 6, 2)]
def cd_X6_sharePot_2 : List (Nat × Instr × Nat) := [(64, .iload 6, 2), (66, .aload_n 1, 1), (67, .getfield 48, 3), (70, .if_icmp .ge 62, 3), (73, .iload_n 3, 1), (74, .aload_n 1, 1), (75, .getfield 51, 3), (78, .iload 6, 2), (80, .aaload, 1), (81, .getfield 55, 3), (84, .iload_n 2, 1), (85, .iaload, 1), (86, .imul, 1), (87, .istore 7, 2), (89, .aload_n 0, 1), (90, .getfield 9, 3), (93, .iload 6, 2), (95, .dup2, 1)]
def cd_X6_sharePot_3 : List (Nat × Instr × Nat) := [(96, .iaload, 1), (97, .iload 7, 2), (99, .iload 4, 2), (101, .idiv, 1), (102, .iadd, 1), (103, .iastore, 1), (104, .aload_n 0, 1), (105, .getfield 18, 3), (108, .iload 6, 2), (110, .iload 7, 2), (112, .iload 4, 2), (114, .irem, 1), (115, .iastore, 1), (116, .iload 5, 2), (118, .iload 7, 2), (120, .iload 4, 2), (122, .idiv, 1), (123, .isub, 1), (124, .istore 5, 2), (126, .iinc 6 1, 3)]
def cd_X6_sharePot_4 : List (Nat × Instr × Nat) := [(129, .goto (-65), 3), (132, .aload_n 0, 1), (133, .iload 5, 2), (135, .aload_n 1, 1), (136, .getfield 48, 3), (139, .invokevirtual 60, 3), (142, .return_, 1)]
def cd_X6_giveUnits_0 : List (Nat × Instr × Nat) := [(0, .iconst 0, 1), (1, .istore_n 3, 1), (2, .iload_n 3, 1), (3, .iload_n 1, 1), (4, .if_icmp .ge 72, 3), (7, .iload_n 3, 1), (8, .iload_n 2, 1), (9, .if_icmp .ge 67, 3), (12, .iconst 0, 1), (13, .istore 4, 2), (15, .iconst 1, 1), (16, .istore 5, 2), (18, .iload 5, 2), (20, .iload_n 2, 1), (21, .if_icmp .ge 30, 3), (24, .aload_n 0, 1), (25, .getfield 18, 3), (28, .iload 5, 2), (30, .iaload, 1), (31, .aload_n 0, 1)]
def cd_X6_giveUnits_1 : List (Nat × Instr × Nat) := [(32, .getfield 18, 3), (35, .iload 4, 2), (37, .iaload, 1), (38, .if_icmp .le 7, 3), (41, .iload 5, 2), (43, .istore 4, 2), (45, .iinc 5 1, 3), (48, .goto (-30), 3), (51, .aload_n 0, 1), (52, .getfield 9, 3), (55, .iload 4, 2), (57, .dup2, 1), (58, .iaload, 1), (59, .iconst 1, 1), (60, .iadd, 1), (61, .iastore, 1), (62, .aload_n 0, 1), (63, .getfield 18, 3)]
def cd_X6_giveUnits_2 : List (Nat × Instr × Nat) := [(66, .iload 4, 2), (68, .iconst (-1), 1), (69, .iastore, 1), (70, .iinc 3 1, 3), (73, .goto (-71), 3), (76, .return_, 1)]
def cd_X6_giveAllowances_0 : List (Nat × Instr × Nat) := [(0, .aload_n 1, 1), (1, .getfield 64, 3), (4, .istore_n 2, 1), (5, .iconst 0, 1), (6, .istore_n 3, 1), (7, .iload_n 3, 1), (8, .aload_n 1, 1), (9, .getfield 48, 3), (12, .if_icmp .ge 47, 3), (15, .aload_n 1, 1), (16, .getfield 51, 3), (19, .iload_n 3, 1), (20, .aaload, 1), (21, .invokevirtual 67, 3), (24, .iconst 3, 1), (25, .if_icmp .ge 28, 3), (28, .aload_n 0, 1), (29, .getfield 15, 3)]
def cd_X6_giveAllowances_1 : List (Nat × Instr × Nat) := [(32, .iload_n 3, 1), (33, .aload_n 1, 1), (34, .getfield 71, 3), (37, .iconst 4, 1), (38, .iaload, 1), (39, .iload_n 2, 1), (40, .invokestatic 74, 3), (43, .iastore, 1), (44, .iload_n 2, 1), (45, .aload_n 0, 1), (46, .getfield 15, 3), (49, .iload_n 3, 1), (50, .iaload, 1), (51, .isub, 1), (52, .istore_n 2, 1), (53, .iinc 3 1, 3), (56, .goto (-49), 3), (59, .return_, 1)]
def cd_X7_copyFrom_0 : List (Nat × Instr × Nat) := [(0, .aload_n 0, 1), (1, .aload_n 1, 1), (2, .getfield 9, 3), (5, .putfield 9, 3), (8, .aload_n 0, 1), (9, .aload_n 1, 1), (10, .getfield 19, 3), (13, .putfield 19, 3), (16, .aload_n 0, 1), (17, .aload_n 1, 1), (18, .getfield 22, 3), (21, .putfield 22, 3), (24, .aload_n 0, 1), (25, .aload_n 1, 1), (26, .getfield 25, 3), (29, .putfield 25, 3)]
def cd_X7_copyFrom_1 : List (Nat × Instr × Nat) := [(32, .aload_n 1, 1), (33, .getfield 15, 3), (36, .iconst 0, 1), (37, .aload_n 0, 1), (38, .getfield 15, 3), (41, .iconst 0, 1), (42, .iconst 5, 1), (43, .invokestatic 28, 3), (46, .return_, 1)]
def cd_X7_hoursOfDay_0 : List (Nat × Instr × Nat) := [(0, .iconst 0, 1), (1, .istore_n 1, 1), (2, .iconst 0, 1), (3, .istore_n 2, 1), (4, .iload_n 2, 1), (5, .iconst 5, 1), (6, .if_icmp .ge 18, 3), (9, .iload_n 1, 1), (10, .aload_n 0, 1), (11, .getfield 15, 3), (14, .iload_n 2, 1), (15, .iaload, 1), (16, .iadd, 1), (17, .istore_n 1, 1), (18, .iinc 2 1, 3), (21, .goto (-17), 3), (24, .iload_n 1, 1), (25, .ireturn, 1)]
def cd_X7_forgetDay_0 : List (Nat × Instr × Nat) := [(0, .iconst 0, 1), (1, .istore_n 1, 1), (2, .iload_n 1, 1), (3, .iconst 5, 1), (4, .if_icmp .ge 16, 3), (7, .aload_n 0, 1), (8, .getfield 15, 3), (11, .iload_n 1, 1), (12, .iconst 0, 1), (13, .iastore, 1), (14, .iinc 1 1, 3), (17, .goto (-15), 3), (20, .return_, 1)]
def cd_X8_save_0 : List (Nat × Instr × Nat) := [(0, .aload_n 0, 1), (1, .getfield 11, 3), (4, .aload_n 0, 1), (5, .getfield 18, 3), (8, .aload_n 0, 1), (9, .getfield 22, 3), (12, .iadd, 1), (13, .bipush 6, 2), (15, .irem, 1), (16, .aaload, 1), (17, .aload_n 1, 1), (18, .invokevirtual 25, 3), (21, .aload_n 0, 1), (22, .getfield 22, 3), (25, .bipush 6, 2), (27, .if_icmp .ge 16, 3), (30, .aload_n 0, 1), (31, .dup, 1)]
def cd_X8_save_1 : List (Nat × Instr × Nat) := [(32, .getfield 22, 3), (35, .iconst 1, 1), (36, .iadd, 1), (37, .putfield 22, 3), (40, .goto 16, 3), (43, .aload_n 0, 1), (44, .aload_n 0, 1), (45, .getfield 18, 3), (48, .iconst 1, 1), (49, .iadd, 1), (50, .bipush 6, 2), (52, .irem, 1), (53, .putfield 18, 3), (56, .return_, 1)]
def cd_X8_restore_0 : List (Nat × Instr × Nat) := [(0, .aload_n 0, 1), (1, .getfield 22, 3), (4, .ifCond .le 34, 3), (7, .aload_n 0, 1), (8, .dup, 1), (9, .getfield 22, 3), (12, .iconst 1, 1), (13, .isub, 1), (14, .putfield 22, 3), (17, .aload_n 1, 1), (18, .aload_n 0, 1), (19, .getfield 11, 3), (22, .aload_n 0, 1), (23, .getfield 18, 3), (26, .aload_n 0, 1), (27, .getfield 22, 3), (30, .iadd, 1), (31, .bipush 6, 2)]
def cd_X8_restore_1 : List (Nat × Instr × Nat) := [(33, .irem, 1), (34, .aaload, 1), (35, .invokevirtual 25, 3), (38, .return_, 1)]
def cd_X9_copyFrom_0 : List (Nat × Instr × Nat) := [(0, .iconst 0, 1), (1, .istore_n 2, 1), (2, .iload_n 2, 1), (3, .bipush 10, 2), (5, .if_icmp .ge 24, 3), (8, .aload_n 0, 1), (9, .getfield 11, 3), (12, .iload_n 2, 1), (13, .aaload, 1), (14, .aload_n 1, 1), (15, .getfield 11, 3), (18, .iload_n 2, 1), (19, .aaload, 1), (20, .invokevirtual 49, 3), (23, .iinc 2 1, 3), (26, .goto (-24), 3), (29, .iconst 0, 1), (30, .istore_n 2, 1), (31, .iload_n 2, 1)]
def cd_X9_copyFrom_1 : List (Nat × Instr × Nat) := [(32, .iconst 5, 1), (33, .if_icmp .ge 24, 3), (36, .aload_n 0, 1), (37, .getfield 19, 3), (40, .iload_n 2, 1), (41, .aaload, 1), (42, .aload_n 1, 1), (43, .getfield 19, 3), (46, .iload_n 2, 1), (47, .aaload, 1), (48, .invokevirtual 53, 3), (51, .iinc 2 1, 3), (54, .goto (-23), 3), (57, .iconst 0, 1), (58, .istore_n 2, 1), (59, .iload_n 2, 1), (60, .bipush 8, 2), (62, .if_icmp .ge 24, 3)]
def cd_X9_copyFrom_2 : List (Nat × Instr × Nat) := [(65, .aload_n 0, 1), (66, .getfield 25, 3), (69, .iload_n 2, 1), (70, .aaload, 1), (71, .aload_n 1, 1), (72, .getfield 25, 3), (75, .iload_n 2, 1), (76, .aaload, 1), (77, .invokevirtual 56, 3), (80, .iinc 2 1, 3), (83, .goto (-24), 3), (86, .aload_n 1, 1), (87, .getfield 29, 3), (90, .iconst 0, 1), (91, .aload_n 0, 1), (92, .getfield 29, 3), (95, .iconst 0, 1)]
def cd_X9_copyFrom_3 : List (Nat × Instr × Nat) := [(96, .iconst 5, 1), (97, .invokestatic 43, 3), (100, .aload_n 0, 1), (101, .aload_n 1, 1), (102, .getfield 59, 3), (105, .putfield 59, 3), (108, .aload_n 0, 1), (109, .aload_n 1, 1), (110, .getfield 62, 3), (113, .putfield 62, 3), (116, .aload_n 0, 1), (117, .aload_n 1, 1), (118, .getfield 65, 3), (121, .putfield 65, 3), (124, .aload_n 0, 1), (125, .aload_n 1, 1), (126, .getfield 68, 3)]
def cd_X9_copyFrom_4 : List (Nat × Instr × Nat) := [(129, .putfield 68, 3), (132, .aload_n 0, 1), (133, .aload_n 1, 1), (134, .getfield 71, 3), (137, .putfield 71, 3), (140, .aload_n 0, 1), (141, .aload_n 1, 1), (142, .getfield 74, 3), (145, .putfield 74, 3), (148, .aload_n 0, 1), (149, .aload_n 1, 1), (150, .getfield 33, 3), (153, .putfield 33, 3), (156, .aload_n 0, 1), (157, .aload_n 1, 1), (158, .getfield 78, 3)]
def cd_X9_copyFrom_5 : List (Nat × Instr × Nat) := [(161, .putfield 78, 3), (164, .aload_n 0, 1), (165, .aload_n 1, 1), (166, .getfield 81, 3), (169, .putfield 81, 3), (172, .aload_n 0, 1), (173, .aload_n 1, 1), (174, .getfield 84, 3), (177, .putfield 84, 3), (180, .aload_n 0, 1), (181, .aload_n 1, 1), (182, .getfield 87, 3), (185, .putfield 87, 3), (188, .return_, 1)]
def cd_X9_hasCornerAt_0 : List (Nat × Instr × Nat) := [(0, .iconst 0, 1), (1, .istore_n 2, 1), (2, .iload_n 2, 1), (3, .aload_n 0, 1), (4, .getfield 59, 3), (7, .if_icmp .ge 24, 3), (10, .aload_n 0, 1), (11, .getfield 11, 3), (14, .iload_n 2, 1), (15, .aaload, 1), (16, .getfield 90, 3), (19, .iload_n 1, 1), (20, .if_icmp .ne 5, 3), (23, .iconst 1, 1), (24, .ireturn, 1), (25, .iinc 2 1, 3), (28, .goto (-26), 3), (31, .iconst 0, 1)]
def cd_X9_hasCornerAt_1 : List (Nat × Instr × Nat) := [(32, .ireturn, 1)]
def cd_X9_permits_0 : List (Nat × Instr × Nat) := [(0, .iconst 0, 1), (1, .istore_n 1, 1), (2, .iconst 0, 1), (3, .istore_n 2, 1), (4, .iload_n 2, 1), (5, .aload_n 0, 1), (6, .getfield 62, 3), (9, .if_icmp .ge 24, 3), (12, .aload_n 0, 1), (13, .getfield 19, 3), (16, .iload_n 2, 1), (17, .aaload, 1), (18, .getfield 93, 3), (21, .ifCond .eq 6, 3), (24, .iinc 1 1, 3), (27, .iinc 2 1, 3), (30, .goto (-26), 3)]
def cd_X9_permits_1 : List (Nat × Instr × Nat) := [(33, .iload_n 1, 1), (34, .ireturn, 1)]
def cd_X9_crewSize_0 : List (Nat × Instr × Nat) := [(0, .iconst 0, 1), (1, .istore_n 2, 1), (2, .iconst 0, 1), (3, .istore_n 3, 1), (4, .iload_n 3, 1), (5, .aload_n 0, 1), (6, .getfield 65, 3), (9, .if_icmp .ge 25, 3), (12, .aload_n 0, 1), (13, .getfield 25, 3), (16, .iload_n 3, 1), (17, .aaload, 1), (18, .getfield 96, 3), (21, .iload_n 1, 1), (22, .if_icmp .ne 6, 3), (25, .iinc 2 1, 3), (28, .iinc 3 1, 3), (31, .goto (-27), 3)]
def cd_X9_crewSize_1 : List (Nat × Instr × Nat) := [(34, .iload_n 2, 1), (35, .ireturn, 1)]
def cd_X9_organAt_0 : List (Nat × Instr × Nat) := [(0, .iconst 0, 1), (1, .istore_n 2, 1), (2, .iload_n 2, 1), (3, .aload_n 0, 1), (4, .getfield 62, 3), (7, .if_icmp .ge 24, 3), (10, .aload_n 0, 1), (11, .getfield 19, 3), (14, .iload_n 2, 1), (15, .aaload, 1), (16, .getfield 99, 3), (19, .iload_n 1, 1), (20, .if_icmp .ne 5, 3), (23, .iload_n 2, 1), (24, .ireturn, 1), (25, .iinc 2 1, 3), (28, .goto (-26), 3), (31, .iconst (-1), 1)]
def cd_X9_organAt_1 : List (Nat × Instr × Nat) := [(32, .ireturn, 1)]
def cd_X9_cornerOf_0 : List (Nat × Instr × Nat) := [(0, .aload_n 0, 1), (1, .getfield 19, 3), (4, .iload_n 1, 1), (5, .aaload, 1), (6, .getfield 99, 3), (9, .istore_n 2, 1), (10, .iload_n 2, 1), (11, .ifCond .lt 20, 3), (14, .iload_n 2, 1), (15, .aload_n 0, 1), (16, .getfield 59, 3), (19, .if_icmp .ge 12, 3), (22, .aload_n 0, 1), (23, .getfield 11, 3), (26, .iload_n 2, 1), (27, .aaload, 1), (28, .goto 4, 3), (31, .aconst_null, 1)]
def cd_X9_cornerOf_1 : List (Nat × Instr × Nat) := [(32, .areturn, 1)]
def cd_X9_takingsSoFar_0 : List (Nat × Instr × Nat) := [(0, .iconst 0, 1), (1, .istore_n 1, 1), (2, .iconst 0, 1), (3, .istore_n 2, 1), (4, .iload_n 2, 1), (5, .aload_n 0, 1), (6, .getfield 62, 3), (9, .if_icmp .ge 21, 3), (12, .iload_n 1, 1), (13, .aload_n 0, 1), (14, .getfield 19, 3), (17, .iload_n 2, 1), (18, .aaload, 1), (19, .getfield 102, 3), (22, .iadd, 1), (23, .istore_n 1, 1), (24, .iinc 2 1, 3), (27, .goto (-23), 3), (30, .iload_n 1, 1), (31, .ireturn, 1)]
def cd_X9_ownersSoFar_0 : List (Nat × Instr × Nat) := [(0, .iconst 0, 1), (1, .istore_n 1, 1), (2, .iconst 0, 1), (3, .istore_n 2, 1), (4, .iload_n 2, 1), (5, .aload_n 0, 1), (6, .getfield 62, 3), (9, .if_icmp .ge 21, 3), (12, .iload_n 1, 1), (13, .aload_n 0, 1), (14, .getfield 19, 3), (17, .iload_n 2, 1), (18, .aaload, 1), (19, .getfield 105, 3), (22, .iadd, 1), (23, .istore_n 1, 1), (24, .iinc 2 1, 3), (27, .goto (-23), 3), (30, .iload_n 1, 1), (31, .ireturn, 1)]
def cd_X9_inAllPots_0 : List (Nat × Instr × Nat) := [(0, .iconst 0, 1), (1, .istore_n 1, 1), (2, .iconst 0, 1), (3, .istore_n 2, 1), (4, .iload_n 2, 1), (5, .aload_n 0, 1), (6, .getfield 62, 3), (9, .if_icmp .ge 21, 3), (12, .iload_n 1, 1), (13, .aload_n 0, 1), (14, .getfield 19, 3), (17, .iload_n 2, 1), (18, .aaload, 1), (19, .getfield 108, 3), (22, .iadd, 1), (23, .istore_n 1, 1), (24, .iinc 2 1, 3), (27, .goto (-23), 3), (30, .iload_n 1, 1), (31, .ireturn, 1)]
def cd_X9_playersSoFar_0 : List (Nat × Instr × Nat) := [(0, .iconst 0, 1), (1, .istore_n 1, 1), (2, .iconst 0, 1), (3, .istore_n 2, 1), (4, .iload_n 2, 1), (5, .aload_n 0, 1), (6, .getfield 65, 3), (9, .if_icmp .ge 21, 3), (12, .iload_n 1, 1), (13, .aload_n 0, 1), (14, .getfield 25, 3), (17, .iload_n 2, 1), (18, .aaload, 1), (19, .getfield 111, 3), (22, .iadd, 1), (23, .istore_n 1, 1), (24, .iinc 2 1, 3), (27, .goto (-23), 3), (30, .iload_n 1, 1), (31, .ireturn, 1)]
def cd_X9_weatherMayChange_0 : List (Nat × Instr × Nat) := [(0, .aload_n 0, 1), (1, .getfield 78, 3), (4, .ifCond .ne 7, 3), (7, .iconst 1, 1), (8, .goto 4, 3), (11, .iconst 0, 1), (12, .ireturn, 1)]
def cd_X9_lotsMayBeDrawn_0 : List (Nat × Instr × Nat) := [(0, .aload_n 0, 1), (1, .getfield 71, 3), (4, .ifCond .ne 14, 3), (7, .aload_n 0, 1), (8, .getfield 78, 3), (11, .ifCond .ne 7, 3), (14, .iconst 1, 1), (15, .goto 4, 3), (18, .iconst 0, 1), (19, .ireturn, 1)]
def cd_X9_drawLots_0 : List (Nat × Instr × Nat) := [(0, .aload_n 0, 1), (1, .invokevirtual 114, 3), (4, .iconst 0, 1), (5, .istore_n 1, 1), (6, .iconst 0, 1), (7, .istore_n 2, 1), (8, .iload_n 2, 1), (9, .aload_n 0, 1), (10, .getfield 62, 3), (13, .if_icmp .ge 53, 3), (16, .aload_n 0, 1), (17, .getfield 59, 3), (20, .iload_n 1, 1), (21, .isub, 1), (22, .istore_n 3, 1), (23, .aload_n 0, 1), (24, .getfield 19, 3), (27, .iload_n 2, 1), (28, .aaload, 1), (29, .getfield 93, 3)]
def cd_X9_drawLots_1 : List (Nat × Instr × Nat) := [(32, .ifCond .eq 28, 3), (35, .iload_n 3, 1), (36, .ifCond .le 24, 3), (39, .aload_n 0, 1), (40, .getfield 19, 3), (43, .iload_n 2, 1), (44, .aaload, 1), (45, .aload_n 0, 1), (46, .aload_n 0, 1), (47, .iload_n 3, 1), (48, .invokevirtual 117, 3), (51, .invokevirtual 121, 3), (54, .putfield 99, 3), (57, .iinc 1 1, 3), (60, .iinc 2 1, 3), (63, .goto (-55), 3)]
def cd_X9_drawLots_2 : List (Nat × Instr × Nat) := [(66, .iload_n 1, 1), (67, .ireturn, 1)]
def cd_X9_takeCornersBack_0 : List (Nat × Instr × Nat) := [(0, .iconst 0, 1), (1, .istore_n 1, 1), (2, .iload_n 1, 1), (3, .aload_n 0, 1), (4, .getfield 62, 3), (7, .if_icmp .ge 19, 3), (10, .aload_n 0, 1), (11, .getfield 19, 3), (14, .iload_n 1, 1), (15, .aaload, 1), (16, .iconst (-1), 1), (17, .putfield 99, 3), (20, .iinc 1 1, 3), (23, .goto (-21), 3), (26, .return_, 1)]
def cd_X9_draw_0 : List (Nat × Instr × Nat) := [(0, .aload_n 0, 1), (1, .ldc2_w 124, 3), (4, .aload_n 0, 1), (5, .getfield 33, 3), (8, .i2l, 1), (9, .lmul, 1), (10, .ldc2_w 126, 3), (13, .ladd, 1), (14, .ldc2_w 128, 3), (17, .lrem, 1), (18, .l2i, 1), (19, .putfield 33, 3), (22, .iload_n 1, 1), (23, .ifCond .le 15, 3), (26, .aload_n 0, 1), (27, .getfield 33, 3), (30, .ldc 130, 2)]
def cd_X9_draw_1 : List (Nat × Instr × Nat) := [(32, .idiv, 1), (33, .iload_n 1, 1), (34, .irem, 1), (35, .goto 4, 3), (38, .iconst 0, 1), (39, .ireturn, 1)]
def cd_X9_freeCorner_0 : List (Nat × Instr × Nat) := [(0, .iload_n 1, 1), (1, .istore_n 2, 1), (2, .iconst 0, 1), (3, .istore_n 3, 1), (4, .iload_n 3, 1), (5, .aload_n 0, 1), (6, .getfield 59, 3), (9, .if_icmp .ge 27, 3), (12, .aload_n 0, 1), (13, .iload_n 3, 1), (14, .invokevirtual 131, 3), (17, .iconst (-1), 1), (18, .if_icmp .ne 12, 3), (21, .iload_n 2, 1), (22, .ifCond .ne 5, 3), (25, .iload_n 3, 1), (26, .ireturn, 1), (27, .iinc 2 (-1), 3), (30, .iinc 3 1, 3)]
def cd_X9_freeCorner_1 : List (Nat × Instr × Nat) := [(33, .goto (-29), 3), (36, .iconst (-1), 1), (37, .ireturn, 1)]
def cd_X9_areNear_0 : List (Nat × Instr × Nat) := [(0, .aload_n 0, 1), (1, .iload_n 1, 1), (2, .invokevirtual 134, 3), (5, .astore_n 3, 1), (6, .aload_n 0, 1), (7, .iload_n 2, 1), (8, .invokevirtual 134, 3), (11, .astore 4, 2), (13, .aload_n 3, 1), (14, .ifnull 27, 3), (17, .aload 4, 2), (19, .ifnull 22, 3), (22, .aload_n 3, 1), (23, .aload 4, 2), (25, .invokevirtual 138, 3), (28, .aload_n 0, 1), (29, .getfield 29, 3)]
def cd_X9_areNear_1 : List (Nat × Instr × Nat) := [(32, .iconst 0, 1), (33, .iaload, 1), (34, .if_icmp .gt 7, 3), (37, .iconst 1, 1), (38, .goto 4, 3), (41, .iconst 0, 1), (42, .ireturn, 1)]
def cd_X9_tunesHeardAt_0 : List (Nat × Instr × Nat) := [(0, .iconst 0, 1), (1, .istore_n 2, 1), (2, .iconst 0, 1), (3, .istore_n 3, 1), (4, .iload_n 3, 1), (5, .aload_n 0, 1), (6, .getfield 59, 3), (9, .if_icmp .ge 55, 3), (12, .aload_n 0, 1), (13, .getfield 11, 3), (16, .iload_n 3, 1), (17, .aaload, 1), (18, .astore 4, 2), (20, .aload_n 1, 1), (21, .aload 4, 2), (23, .invokevirtual 138, 3), (26, .aload_n 0, 1), (27, .getfield 29, 3), (30, .iconst 0, 1), (31, .iaload, 1)]
def cd_X9_tunesHeardAt_1 : List (Nat × Instr × Nat) := [(32, .if_icmp .gt 26, 3), (35, .iload_n 2, 1), (36, .aload 4, 2), (38, .aload_n 0, 1), (39, .getfield 71, 3), (42, .aload_n 0, 1), (43, .getfield 29, 3), (46, .iconst 1, 1), (47, .iaload, 1), (48, .isub, 1), (49, .aload_n 0, 1), (50, .getfield 71, 3), (53, .invokevirtual 142, 3), (56, .ior, 1), (57, .istore_n 2, 1), (58, .iinc 3 1, 3), (61, .goto (-57), 3)]
def cd_X9_tunesHeardAt_2 : List (Nat × Instr × Nat) := [(64, .iload_n 2, 1), (65, .ireturn, 1)]
def cd_X9_reasonAgainstAll_0 : List (Nat × Instr × Nat) := [(0, .aload_n 0, 1), (1, .iload_n 1, 1), (2, .invokevirtual 134, 3), (5, .astore_n 2, 1), (6, .aload_n 2, 1), (7, .ifnonnull 5, 3), (10, .iconst 1, 1), (11, .ireturn, 1), (12, .aload_n 0, 1), (13, .iload_n 1, 1), (14, .invokevirtual 146, 3), (17, .ifCond .ne 5, 3), (20, .iconst 2, 1), (21, .ireturn, 1), (22, .aload_n 0, 1), (23, .getfield 19, 3), (26, .iload_n 1, 1), (27, .aaload, 1), (28, .getfield 149, 3), (31, .iconst (-1), 1)]
def cd_X9_reasonAgainstAll_1 : List (Nat × Instr × Nat) := [(32, .if_icmp .eq 5, 3), (35, .iconst 4, 1), (36, .ireturn, 1), (37, .aload_n 2, 1), (38, .aload_n 0, 1), (39, .getfield 71, 3), (42, .invokevirtual 152, 3), (45, .ifCond .eq 7, 3), (48, .iconst 5, 1), (49, .goto 4, 3), (52, .iconst 0, 1), (53, .ireturn, 1)]
def cd_X9_reasonAgainst_0 : List (Nat × Instr × Nat) := [(0, .aload_n 0, 1), (1, .iload_n 1, 1), (2, .invokevirtual 156, 3), (5, .istore_n 3, 1), (6, .aload_n 0, 1), (7, .getfield 19, 3), (10, .iload_n 1, 1), (11, .aaload, 1), (12, .getfield 159, 3), (15, .iload_n 2, 1), (16, .invokestatic 162, 3), (19, .istore 4, 2), (21, .iload 4, 2), (23, .ifCond .ne 15, 3), (26, .iload_n 3, 1), (27, .iconst 1, 1), (28, .if_icmp .eq 10, 3), (31, .iload_n 3, 1)]
def cd_X9_reasonAgainst_1 : List (Nat × Instr × Nat) := [(32, .iconst 2, 1), (33, .if_icmp .eq 5, 3), (36, .iconst 3, 1), (37, .ireturn, 1), (38, .aload_n 0, 1), (39, .iload_n 1, 1), (40, .invokevirtual 134, 3), (43, .astore 5, 2), (45, .iload_n 3, 1), (46, .ifCond .ne 24, 3), (49, .aload 5, 2), (51, .ifnull 19, 3), (54, .aload_n 0, 1), (55, .aload 5, 2), (57, .invokevirtual 166, 3), (60, .iload_n 2, 1), (61, .invokestatic 162, 3)]
def cd_X9_reasonAgainst_2 : List (Nat × Instr × Nat) := [(64, .ifCond .eq 6, 3), (67, .bipush 6, 2), (69, .ireturn, 1), (70, .iload_n 3, 1), (71, .ireturn, 1)]
def cd_X9_playableTunes_0 : List (Nat × Instr × Nat) := [(0, .aload_n 0, 1), (1, .iload_n 1, 1), (2, .invokevirtual 134, 3), (5, .astore_n 2, 1), (6, .aload_n 2, 1), (7, .ifnull 11, 3), (10, .aload_n 0, 1), (11, .iload_n 1, 1), (12, .invokevirtual 156, 3), (15, .ifCond .eq 5, 3), (18, .iconst 0, 1), (19, .ireturn, 1), (20, .aload_n 0, 1), (21, .getfield 19, 3), (24, .iload_n 1, 1), (25, .aaload, 1), (26, .getfield 159, 3), (29, .aload_n 0, 1), (30, .aload_n 2, 1), (31, .invokevirtual 166, 3)]
def cd_X9_playableTunes_1 : List (Nat × Instr × Nat) := [(34, .iconst (-1), 1), (35, .ixor, 1), (36, .iand, 1), (37, .ireturn, 1)]
def cd_X9_playedNear_0 : List (Nat × Instr × Nat) := [(0, .iconst 0, 1), (1, .istore_n 2, 1), (2, .iconst 0, 1), (3, .istore_n 3, 1), (4, .iload_n 3, 1), (5, .aload_n 0, 1), (6, .getfield 62, 3), (9, .if_icmp .ge 39, 3), (12, .iload_n 3, 1), (13, .iload_n 1, 1), (14, .if_icmp .eq 28, 3), (17, .aload_n 0, 1), (18, .getfield 19, 3), (21, .iload_n 3, 1), (22, .aaload, 1), (23, .getfield 149, 3), (26, .iconst (-1), 1), (27, .if_icmp .eq 15, 3), (30, .aload_n 0, 1), (31, .iload_n 1, 1)]
def cd_X9_playedNear_1 : List (Nat × Instr × Nat) := [(32, .iload_n 3, 1), (33, .invokevirtual 169, 3), (36, .ifCond .eq 6, 3), (39, .iinc 2 1, 3), (42, .iinc 3 1, 3), (45, .goto (-41), 3), (48, .iload_n 2, 1), (49, .ireturn, 1)]
def cd_X9_takingsFor_0 : List (Nat × Instr × Nat) := [(0, .aload_n 0, 1), (1, .iload_n 1, 1), (2, .invokevirtual 134, 3), (5, .astore_n 3, 1), (6, .aload_n 3, 1), (7, .ifnonnull 5, 3), (10, .iconst 0, 1), (11, .ireturn, 1), (12, .aload_n 3, 1), (13, .getfield 172, 3), (16, .bipush 10, 2), (18, .iconst 2, 1), (19, .iload_n 2, 1), (20, .imul, 1), (21, .isub, 1), (22, .imul, 1), (23, .bipush 10, 2), (25, .idiv, 1), (26, .iconst 0, 1), (27, .invokestatic 175, 3), (30, .istore 4, 2)]
def cd_X9_takingsFor_1 : List (Nat × Instr × Nat) := [(32, .aload_n 0, 1), (33, .getfield 74, 3), (36, .ifCond .eq 10, 3), (39, .iload 4, 2), (41, .iconst 2, 1), (42, .idiv, 1), (43, .goto 5, 3), (46, .iload 4, 2), (48, .ireturn, 1)]
def cd_X9_playTune_0 : List (Nat × Instr × Nat) := [(0, .aload_n 0, 1), (1, .iload_n 1, 1), (2, .invokevirtual 134, 3), (5, .astore_n 3, 1), (6, .aload_n 3, 1), (7, .ifnonnull 5, 3), (10, .iconst 0, 1), (11, .ireturn, 1), (12, .aload_n 0, 1), (13, .iload_n 1, 1), (14, .aload_n 0, 1), (15, .iload_n 1, 1), (16, .invokevirtual 180, 3), (19, .invokevirtual 183, 3), (22, .istore 4, 2), (24, .aload_n 0, 1), (25, .aload_n 0, 1), (26, .getfield 19, 3), (29, .iload_n 1, 1), (30, .aaload, 1), (31, .iload 4, 2)]
def cd_X9_playTune_1 : List (Nat × Instr × Nat) := [(33, .invokevirtual 186, 3), (36, .aload_n 0, 1), (37, .iload_n 1, 1), (38, .invokevirtual 190, 3), (41, .aload_n 3, 1), (42, .aload_n 0, 1), (43, .getfield 71, 3), (46, .iload_n 2, 1), (47, .invokevirtual 194, 3), (50, .aload_n 0, 1), (51, .getfield 19, 3), (54, .iload_n 1, 1), (55, .aaload, 1), (56, .iload_n 2, 1), (57, .putfield 149, 3), (60, .aload_n 0, 1), (61, .dup, 1), (62, .getfield 78, 3)]
def cd_X9_playTune_2 : List (Nat × Instr × Nat) := [(65, .iconst 1, 1), (66, .iadd, 1), (67, .putfield 78, 3), (70, .aload_n 0, 1), (71, .dup, 1), (72, .getfield 81, 3), (75, .iconst 1, 1), (76, .iadd, 1), (77, .putfield 81, 3), (80, .iload 4, 2), (82, .ireturn, 1)]
def cd_X9_divideTakings_0 : List (Nat × Instr × Nat) := [(0, .iload_n 2, 1), (1, .aload_n 0, 1), (2, .getfield 29, 3), (5, .iconst 2, 1), (6, .iaload, 1), (7, .imul, 1), (8, .bipush 100, 2), (10, .idiv, 1), (11, .istore_n 3, 1), (12, .iload_n 3, 1), (13, .aload_n 0, 1), (14, .getfield 29, 3), (17, .iconst 3, 1), (18, .iaload, 1), (19, .imul, 1), (20, .bipush 100, 2), (22, .idiv, 1), (23, .istore 4, 2), (25, .iload_n 2, 1), (26, .iload_n 3, 1), (27, .isub, 1), (28, .istore 5, 2), (30, .iload 5, 2)]
def cd_X9_divideTakings_1 : List (Nat × Instr × Nat) := [(32, .aload_n 1, 1), (33, .getfield 198, 3), (36, .imul, 1), (37, .bipush 100, 2), (39, .idiv, 1), (40, .istore 6, 2), (42, .aload_n 0, 1), (43, .dup, 1), (44, .getfield 87, 3), (47, .iload 4, 2), (49, .iadd, 1), (50, .putfield 87, 3), (53, .aload_n 0, 1), (54, .dup, 1), (55, .getfield 84, 3), (58, .iload_n 3, 1), (59, .iload 4, 2), (61, .isub, 1), (62, .iadd, 1), (63, .putfield 84, 3)]
def cd_X9_divideTakings_2 : List (Nat × Instr × Nat) := [(66, .aload_n 1, 1), (67, .dup, 1), (68, .getfield 105, 3), (71, .iload 6, 2), (73, .iadd, 1), (74, .putfield 105, 3), (77, .aload_n 1, 1), (78, .dup, 1), (79, .getfield 108, 3), (82, .iload 5, 2), (84, .iload 6, 2), (86, .isub, 1), (87, .iadd, 1), (88, .putfield 108, 3), (91, .aload_n 1, 1), (92, .dup, 1), (93, .getfield 102, 3)]
def cd_X9_divideTakings_3 : List (Nat × Instr × Nat) := [(96, .iload_n 2, 1), (97, .iadd, 1), (98, .putfield 102, 3), (101, .return_, 1)]
def cd_X9_addHourOfCrew_0 : List (Nat × Instr × Nat) := [(0, .iconst 0, 1), (1, .istore_n 2, 1), (2, .iload_n 2, 1), (3, .aload_n 0, 1), (4, .getfield 65, 3), (7, .if_icmp .ge 52, 3), (10, .aload_n 0, 1), (11, .getfield 25, 3), (14, .iload_n 2, 1), (15, .aaload, 1), (16, .getfield 96, 3), (19, .iload_n 1, 1), (20, .if_icmp .ne 33, 3), (23, .aload_n 0, 1), (24, .getfield 25, 3), (27, .iload_n 2, 1), (28, .aaload, 1), (29, .getfield 201, 3)]
def cd_X9_addHourOfCrew_1 : List (Nat × Instr × Nat) := [(32, .iload_n 1, 1), (33, .dup2, 1), (34, .iaload, 1), (35, .iconst 1, 1), (36, .iadd, 1), (37, .iastore, 1), (38, .aload_n 0, 1), (39, .getfield 25, 3), (42, .iload_n 2, 1), (43, .aaload, 1), (44, .dup, 1), (45, .getfield 204, 3), (48, .iconst 1, 1), (49, .iadd, 1), (50, .putfield 204, 3), (53, .iinc 2 1, 3), (56, .goto (-54), 3), (59, .return_, 1)]
def cd_X9_endHour_0 : List (Nat × Instr × Nat) := [(0, .iconst 0, 1), (1, .istore_n 2, 1), (2, .iload_n 2, 1), (3, .aload_n 0, 1), (4, .getfield 62, 3), (7, .if_icmp .ge 19, 3), (10, .aload_n 0, 1), (11, .getfield 19, 3), (14, .iload_n 2, 1), (15, .aaload, 1), (16, .iconst (-1), 1), (17, .putfield 149, 3), (20, .iinc 2 1, 3), (23, .goto (-21), 3), (26, .aload_n 0, 1), (27, .dup, 1), (28, .getfield 71, 3), (31, .iconst 1, 1)]
def cd_X9_endHour_1 : List (Nat × Instr × Nat) := [(32, .iadd, 1), (33, .putfield 71, 3), (36, .aload_n 0, 1), (37, .getfield 71, 3), (40, .bipush 10, 2), (42, .if_icmp .lt 17, 3), (45, .aload_n 1, 1), (46, .aload_n 0, 1), (47, .invokevirtual 207, 3), (50, .aload_n 0, 1), (51, .aload_n 1, 1), (52, .invokevirtual 213, 3), (55, .aload_n 0, 1), (56, .invokevirtual 217, 3), (59, .return_, 1)]
def cd_X9_payOut_0 : List (Nat × Instr × Nat) := [(0, .iconst 0, 1), (1, .istore_n 2, 1), (2, .iload_n 2, 1), (3, .aload_n 0, 1), (4, .getfield 65, 3), (7, .if_icmp .ge 63, 3), (10, .aload_n 1, 1), (11, .getfield 220, 3), (14, .iload_n 2, 1), (15, .iaload, 1), (16, .istore_n 3, 1), (17, .aload_n 0, 1), (18, .getfield 25, 3), (21, .iload_n 2, 1), (22, .aaload, 1), (23, .dup, 1), (24, .getfield 111, 3), (27, .aload_n 1, 1), (28, .getfield 223, 3), (31, .iload_n 2, 1)]
def cd_X9_payOut_1 : List (Nat × Instr × Nat) := [(32, .iaload, 1), (33, .iload_n 3, 1), (34, .iadd, 1), (35, .iadd, 1), (36, .putfield 111, 3), (39, .aload_n 0, 1), (40, .getfield 25, 3), (43, .iload_n 2, 1), (44, .aaload, 1), (45, .dup, 1), (46, .getfield 226, 3), (49, .iload_n 3, 1), (50, .iadd, 1), (51, .putfield 226, 3), (54, .aload_n 0, 1), (55, .dup, 1), (56, .getfield 87, 3), (59, .iload_n 3, 1), (60, .isub, 1), (61, .putfield 87, 3)]
def cd_X9_payOut_2 : List (Nat × Instr × Nat) := [(64, .iinc 2 1, 3), (67, .goto (-65), 3), (70, .iconst 0, 1), (71, .istore_n 2, 1), (72, .iload_n 2, 1), (73, .aload_n 0, 1), (74, .getfield 62, 3), (77, .if_icmp .ge 19, 3), (80, .aload_n 0, 1), (81, .getfield 19, 3), (84, .iload_n 2, 1), (85, .aaload, 1), (86, .iconst 0, 1), (87, .putfield 108, 3), (90, .iinc 2 1, 3), (93, .goto (-21), 3)]
def cd_X9_payOut_3 : List (Nat × Instr × Nat) := [(96, .return_, 1)]
def cd_X9_beginDay_0 : List (Nat × Instr × Nat) := [(0, .aload_n 0, 1), (1, .dup, 1), (2, .getfield 68, 3), (5, .iconst 1, 1), (6, .iadd, 1), (7, .putfield 68, 3), (10, .aload_n 0, 1), (11, .iconst 0, 1), (12, .putfield 71, 3), (15, .aload_n 0, 1), (16, .iconst 0, 1), (17, .putfield 74, 3), (20, .aload_n 0, 1), (21, .iconst 0, 1), (22, .putfield 78, 3), (25, .aload_n 0, 1), (26, .invokevirtual 114, 3), (29, .iconst 0, 1), (30, .istore_n 1, 1), (31, .iload_n 1, 1)]
def cd_X9_beginDay_1 : List (Nat × Instr × Nat) := [(32, .aload_n 0, 1), (33, .getfield 59, 3), (36, .if_icmp .ge 18, 3), (39, .aload_n 0, 1), (40, .getfield 11, 3), (43, .iload_n 1, 1), (44, .aaload, 1), (45, .invokevirtual 229, 3), (48, .iinc 1 1, 3), (51, .goto (-20), 3), (54, .iconst 0, 1), (55, .istore_n 1, 1), (56, .iload_n 1, 1), (57, .aload_n 0, 1), (58, .getfield 65, 3), (61, .if_icmp .ge 18, 3)]
def cd_X9_beginDay_2 : List (Nat × Instr × Nat) := [(64, .aload_n 0, 1), (65, .getfield 25, 3), (68, .iload_n 1, 1), (69, .aaload, 1), (70, .invokevirtual 232, 3), (73, .iinc 1 1, 3), (76, .goto (-20), 3), (79, .return_, 1)]
def cd_X10_addCorner_0 : List (Nat × Instr × Nat) := [(0, .iload_n 1, 1), (1, .iconst 0, 1), (2, .bipush 99, 2), (4, .invokestatic 44, 3), (7, .iload_n 2, 1), (8, .iconst 1, 1), (9, .bipush 90, 2), (11, .invokestatic 44, 3), (14, .iload_n 3, 1), (15, .iconst 0, 1), (16, .bipush 9, 2), (18, .invokestatic 44, 3), (21, .iload 4, 2), (23, .iconst 0, 1), (24, .bipush 9, 2), (26, .invokestatic 44, 3), (29, .aload_n 0, 1), (30, .getfield 10, 3)]
def cd_X10_addCorner_1 : List (Nat × Instr × Nat) := [(33, .getfield 48, 3), (36, .bipush 10, 2), (38, .if_icmp .ge 18, 3), (41, .aload_n 0, 1), (42, .getfield 10, 3), (45, .iload_n 1, 1), (46, .invokevirtual 52, 3), (49, .ifCond .ne 7, 3), (52, .iconst 1, 1), (53, .goto 4, 3), (56, .iconst 0, 1), (57, .invokestatic 56, 3), (60, .aload_n 0, 1), (61, .getfield 19, 3)]
def cd_X10_addCorner_2 : List (Nat × Instr × Nat) := [(64, .aload_n 0, 1), (65, .getfield 10, 3), (68, .invokevirtual 60, 3), (71, .aload_n 0, 1), (72, .getfield 10, 3), (75, .getfield 64, 3), (78, .aload_n 0, 1), (79, .getfield 10, 3), (82, .getfield 48, 3), (85, .aaload, 1), (86, .astore 5, 2), (88, .aload 5, 2), (90, .iload_n 1, 1), (91, .putfield 68, 3), (94, .aload 5, 2)]
def cd_X10_addCorner_3 : List (Nat × Instr × Nat) := [(96, .iload_n 2, 1), (97, .putfield 73, 3), (100, .aload 5, 2), (102, .iload_n 3, 1), (103, .putfield 76, 3), (106, .aload 5, 2), (108, .iload 4, 2), (110, .putfield 79, 3), (113, .aload_n 0, 1), (114, .getfield 10, 3), (117, .dup, 1), (118, .getfield 48, 3), (121, .iconst 1, 1), (122, .iadd, 1), (123, .putfield 48, 3), (126, .aload_n 0, 1), (127, .getfield 10, 3)]
def cd_X10_addCorner_4 : List (Nat × Instr × Nat) := [(130, .getfield 48, 3), (133, .iconst 1, 1), (134, .isub, 1), (135, .ireturn, 1)]
def cd_X10_addOrgan_0 : List (Nat × Instr × Nat) := [(0, .iload_n 1, 1), (1, .iconst 0, 1), (2, .bipush 50, 2), (4, .invokestatic 44, 3), (7, .aload_n 0, 1), (8, .getfield 10, 3), (11, .getfield 82, 3), (14, .iconst 5, 1), (15, .if_icmp .ge 7, 3), (18, .iconst 1, 1), (19, .goto 4, 3), (22, .iconst 0, 1), (23, .invokestatic 56, 3), (26, .aload_n 0, 1), (27, .getfield 19, 3), (30, .aload_n 0, 1), (31, .getfield 10, 3)]
def cd_X10_addOrgan_1 : List (Nat × Instr × Nat) := [(34, .invokevirtual 60, 3), (37, .aload_n 0, 1), (38, .getfield 10, 3), (41, .getfield 85, 3), (44, .aload_n 0, 1), (45, .getfield 10, 3), (48, .getfield 82, 3), (51, .aaload, 1), (52, .iload_n 1, 1), (53, .putfield 89, 3), (56, .aload_n 0, 1), (57, .getfield 10, 3), (60, .dup, 1), (61, .getfield 82, 3)]
def cd_X10_addOrgan_2 : List (Nat × Instr × Nat) := [(64, .iconst 1, 1), (65, .iadd, 1), (66, .putfield 82, 3), (69, .aload_n 0, 1), (70, .getfield 10, 3), (73, .getfield 82, 3), (76, .iconst 1, 1), (77, .isub, 1), (78, .ireturn, 1)]
def cd_X10_addPlayer_0 : List (Nat × Instr × Nat) := [(0, .aload_n 0, 1), (1, .getfield 10, 3), (4, .getfield 94, 3), (7, .bipush 8, 2), (9, .if_icmp .ge 7, 3), (12, .iconst 1, 1), (13, .goto 4, 3), (16, .iconst 0, 1), (17, .invokestatic 56, 3), (20, .aload_n 0, 1), (21, .getfield 19, 3), (24, .aload_n 0, 1), (25, .getfield 10, 3), (28, .invokevirtual 60, 3), (31, .aload_n 0, 1)]
def cd_X10_addPlayer_1 : List (Nat × Instr × Nat) := [(32, .getfield 10, 3), (35, .dup, 1), (36, .getfield 94, 3), (39, .iconst 1, 1), (40, .iadd, 1), (41, .putfield 94, 3), (44, .aload_n 0, 1), (45, .getfield 10, 3), (48, .getfield 94, 3), (51, .iconst 1, 1), (52, .isub, 1), (53, .ireturn, 1)]
def cd_X10_permit_0 : List (Nat × Instr × Nat) := [(0, .iload_n 1, 1), (1, .aload_n 0, 1), (2, .getfield 10, 3), (5, .getfield 82, 3), (8, .invokestatic 97, 3), (11, .aload_n 0, 1), (12, .getfield 19, 3), (15, .aload_n 0, 1), (16, .getfield 10, 3), (19, .invokevirtual 60, 3), (22, .aload_n 0, 1), (23, .getfield 10, 3), (26, .getfield 85, 3), (29, .iload_n 1, 1), (30, .aaload, 1), (31, .iload_n 2, 1)]
def cd_X10_permit_1 : List (Nat × Instr × Nat) := [(32, .putfield 101, 3), (35, .aload_n 0, 1), (36, .getfield 10, 3), (39, .invokevirtual 105, 3), (42, .ireturn, 1)]
def cd_X10_barrel_0 : List (Nat × Instr × Nat) := [(0, .iload_n 1, 1), (1, .aload_n 0, 1), (2, .getfield 10, 3), (5, .getfield 82, 3), (8, .invokestatic 97, 3), (11, .iload_n 2, 1), (12, .iconst 0, 1), (13, .sipush 1023, 3), (16, .invokestatic 44, 3), (19, .aload_n 0, 1), (20, .getfield 19, 3), (23, .aload_n 0, 1), (24, .getfield 10, 3), (27, .invokevirtual 60, 3), (30, .aload_n 0, 1), (31, .getfield 10, 3)]
def cd_X10_barrel_1 : List (Nat × Instr × Nat) := [(34, .getfield 85, 3), (37, .iload_n 1, 1), (38, .aaload, 1), (39, .getfield 109, 3), (42, .istore_n 3, 1), (43, .aload_n 0, 1), (44, .getfield 10, 3), (47, .getfield 85, 3), (50, .iload_n 1, 1), (51, .aaload, 1), (52, .iload_n 2, 1), (53, .putfield 109, 3), (56, .iload_n 3, 1), (57, .ireturn, 1)]
def cd_X10_assign_0 : List (Nat × Instr × Nat) := [(0, .iload_n 1, 1), (1, .aload_n 0, 1), (2, .getfield 10, 3), (5, .getfield 94, 3), (8, .invokestatic 97, 3), (11, .iload_n 2, 1), (12, .iconst (-1), 1), (13, .if_icmp .eq 14, 3), (16, .iload_n 2, 1), (17, .aload_n 0, 1), (18, .getfield 10, 3), (21, .getfield 82, 3), (24, .invokestatic 97, 3), (27, .aload_n 0, 1), (28, .getfield 19, 3), (31, .aload_n 0, 1)]
def cd_X10_assign_1 : List (Nat × Instr × Nat) := [(32, .getfield 10, 3), (35, .invokevirtual 60, 3), (38, .aload_n 0, 1), (39, .getfield 10, 3), (42, .getfield 112, 3), (45, .iload_n 1, 1), (46, .aaload, 1), (47, .getfield 116, 3), (50, .istore_n 3, 1), (51, .aload_n 0, 1), (52, .getfield 10, 3), (55, .getfield 112, 3), (58, .iload_n 1, 1), (59, .aaload, 1), (60, .iload_n 2, 1), (61, .putfield 116, 3)]
def cd_X10_assign_2 : List (Nat × Instr × Nat) := [(64, .iload_n 3, 1), (65, .ireturn, 1)]
def cd_X10_set_0 : List (Nat × Instr × Nat) := [(0, .iload_n 1, 1), (1, .iconst 5, 1), (2, .invokestatic 97, 3), (5, .iload_n 2, 1), (6, .iconst 0, 1), (7, .getstatic 121, 3), (10, .iload_n 1, 1), (11, .iaload, 1), (12, .invokestatic 44, 3), (15, .aload_n 0, 1), (16, .getfield 19, 3), (19, .aload_n 0, 1), (20, .getfield 10, 3), (23, .invokevirtual 60, 3), (26, .aload_n 0, 1), (27, .getfield 10, 3), (30, .getfield 125, 3)]
def cd_X10_set_1 : List (Nat × Instr × Nat) := [(33, .iload_n 1, 1), (34, .iaload, 1), (35, .istore_n 3, 1), (36, .aload_n 0, 1), (37, .getfield 10, 3), (40, .getfield 125, 3), (43, .iload_n 1, 1), (44, .iload_n 2, 1), (45, .iastore, 1), (46, .iload_n 3, 1), (47, .ireturn, 1)]
def cd_X10_lots_0 : List (Nat × Instr × Nat) := [(0, .aload_n 0, 1), (1, .getfield 10, 3), (4, .invokevirtual 128, 3), (7, .invokestatic 56, 3), (10, .aload_n 0, 1), (11, .getfield 19, 3), (14, .aload_n 0, 1), (15, .getfield 10, 3), (18, .invokevirtual 60, 3), (21, .aload_n 0, 1), (22, .getfield 10, 3), (25, .invokevirtual 132, 3), (28, .ireturn, 1)]
def cd_X10_weather_0 : List (Nat × Instr × Nat) := [(0, .aload_n 0, 1), (1, .getfield 10, 3), (4, .invokevirtual 135, 3), (7, .invokestatic 56, 3), (10, .aload_n 0, 1), (11, .getfield 19, 3), (14, .aload_n 0, 1), (15, .getfield 10, 3), (18, .invokevirtual 60, 3), (21, .aload_n 0, 1), (22, .getfield 10, 3), (25, .getfield 138, 3), (28, .invokestatic 141, 3), (31, .istore_n 2, 1)]
def cd_X10_weather_1 : List (Nat × Instr × Nat) := [(32, .aload_n 0, 1), (33, .getfield 10, 3), (36, .iload_n 1, 1), (37, .putfield 138, 3), (40, .iload_n 2, 1), (41, .ireturn, 1)]
def cd_X10_play_0 : List (Nat × Instr × Nat) := [(0, .iload_n 1, 1), (1, .aload_n 0, 1), (2, .getfield 10, 3), (5, .getfield 82, 3), (8, .invokestatic 97, 3), (11, .iload_n 2, 1), (12, .iconst 0, 1), (13, .bipush 9, 2), (15, .invokestatic 44, 3), (18, .aload_n 0, 1), (19, .getfield 10, 3), (22, .iload_n 1, 1), (23, .iload_n 2, 1), (24, .invokevirtual 145, 3), (27, .ifCond .ne 7, 3), (30, .iconst 1, 1), (31, .goto 4, 3)]
def cd_X10_play_1 : List (Nat × Instr × Nat) := [(34, .iconst 0, 1), (35, .invokestatic 56, 3), (38, .aload_n 0, 1), (39, .getfield 19, 3), (42, .aload_n 0, 1), (43, .getfield 10, 3), (46, .invokevirtual 60, 3), (49, .aload_n 0, 1), (50, .getfield 10, 3), (53, .iload_n 1, 1), (54, .iload_n 2, 1), (55, .invokevirtual 149, 3), (58, .ireturn, 1)]
def cd_X10_next_0 : List (Nat × Instr × Nat) := [(0, .aload_n 0, 1), (1, .getfield 19, 3), (4, .aload_n 0, 1), (5, .getfield 10, 3), (8, .invokevirtual 60, 3), (11, .aload_n 0, 1), (12, .getfield 10, 3), (15, .aload_n 0, 1), (16, .getfield 33, 3), (19, .invokevirtual 152, 3), (22, .aload_n 0, 1), (23, .getfield 10, 3), (26, .getfield 156, 3), (29, .ireturn, 1)]
def cd_X10_append_0 : List (Nat × Instr × Nat) := [(0, .iload_n 1, 1), (1, .bipush 33, 2), (3, .bipush 126, 2), (5, .invokestatic 44, 3), (8, .aload_n 0, 1), (9, .getfield 26, 3), (12, .getfield 159, 3), (15, .bipush 60, 2), (17, .if_icmp .ge 7, 3), (20, .iconst 1, 1), (21, .goto 4, 3), (24, .iconst 0, 1), (25, .invokestatic 56, 3), (28, .aload_n 0, 1), (29, .getfield 26, 3)]
def cd_X10_append_1 : List (Nat × Instr × Nat) := [(32, .getfield 162, 3), (35, .aload_n 0, 1), (36, .getfield 26, 3), (39, .getfield 159, 3), (42, .iload_n 1, 1), (43, .iastore, 1), (44, .aload_n 0, 1), (45, .getfield 26, 3), (48, .dup, 1), (49, .getfield 159, 3), (52, .iconst 1, 1), (53, .iadd, 1), (54, .putfield 159, 3), (57, .aload_n 0, 1), (58, .getfield 26, 3), (61, .getfield 159, 3)]
def cd_X10_append_2 : List (Nat × Instr × Nat) := [(64, .ireturn, 1)]
def cd_X10_clearBuffer_0 : List (Nat × Instr × Nat) := [(0, .aload_n 0, 1), (1, .getfield 26, 3), (4, .getfield 159, 3), (7, .istore_n 1, 1), (8, .aload_n 0, 1), (9, .getfield 26, 3), (12, .iconst 0, 1), (13, .putfield 159, 3), (16, .iload_n 1, 1), (17, .ireturn, 1)]
def cd_X10_firstError_0 : List (Nat × Instr × Nat) := [(0, .aload_n 0, 1), (1, .getfield 26, 3), (4, .invokevirtual 165, 3), (7, .ireturn, 1)]
def cd_X10_run_0 : List (Nat × Instr × Nat) := [(0, .aload_n 0, 1), (1, .getfield 26, 3), (4, .invokevirtual 168, 3), (7, .ifCond .ne 13, 3), (10, .new 171, 3), (13, .dup, 1), (14, .ldc 173, 2), (16, .invokespecial 175, 3), (19, .athrow, 1), (20, .aload_n 0, 1), (21, .getfield 19, 3), (24, .aload_n 0, 1), (25, .getfield 10, 3), (28, .invokevirtual 60, 3), (31, .iconst 0, 1)]
def cd_X10_run_1 : List (Nat × Instr × Nat) := [(32, .istore_n 1, 1), (33, .iconst 0, 1), (34, .istore_n 2, 1), (35, .iload_n 2, 1), (36, .aload_n 0, 1), (37, .getfield 26, 3), (40, .getfield 159, 3), (43, .if_icmp .ge 43, 3), (46, .aload_n 0, 1), (47, .getfield 26, 3), (50, .iload_n 2, 1), (51, .invokevirtual 178, 3), (54, .astore_n 3, 1), (55, .aload_n 3, 1), (56, .ifnull 30, 3), (59, .aload_n 0, 1), (60, .aload_n 3, 1), (61, .iload_n 2, 1), (62, .invokevirtual 182, 3)]
def cd_X10_run_2 : List (Nat × Instr × Nat) := [(65, .ifCond .ne 6, 3), (68, .goto 18, 3), (71, .iinc 1 1, 3), (74, .iload_n 2, 1), (75, .aload_n 3, 1), (76, .invokevirtual 186, 3), (79, .iconst 1, 1), (80, .iadd, 1), (81, .iadd, 1), (82, .istore_n 2, 1), (83, .goto (-48), 3), (86, .aload_n 0, 1), (87, .getfield 26, 3), (90, .iconst 0, 1), (91, .putfield 159, 3), (94, .iload_n 1, 1), (95, .ireturn, 1)]
def cd_X10_undo_0 : List (Nat × Instr × Nat) := [(0, .aload_n 0, 1), (1, .getfield 19, 3), (4, .getfield 191, 3), (7, .ifCond .le 7, 3), (10, .iconst 1, 1), (11, .goto 4, 3), (14, .iconst 0, 1), (15, .invokestatic 56, 3), (18, .aload_n 0, 1), (19, .getfield 19, 3), (22, .aload_n 0, 1), (23, .getfield 10, 3), (26, .invokevirtual 194, 3), (29, .aload_n 0, 1), (30, .getfield 19, 3)]
def cd_X10_undo_1 : List (Nat × Instr × Nat) := [(33, .getfield 191, 3), (36, .ireturn, 1)]
def cd_X10_corner_0 : List (Nat × Instr × Nat) := [(0, .iload_n 1, 1), (1, .aload_n 0, 1), (2, .getfield 10, 3), (5, .getfield 48, 3), (8, .invokestatic 97, 3), (11, .iload_n 2, 1), (12, .iconst 0, 1), (13, .iconst 5, 1), (14, .invokestatic 44, 3), (17, .aload_n 0, 1), (18, .getfield 10, 3), (21, .getfield 64, 3), (24, .iload_n 1, 1), (25, .aaload, 1), (26, .astore_n 3, 1), (27, .iload_n 2, 1), (28, .tableswitch 78 0 4 #[36, 41, 46, 61, 70], 36)]
def cd_X10_corner_1 : List (Nat × Instr × Nat) := []
def cd_X10_corner_2 : List (Nat × Instr × Nat) := [(64, .aload_n 3, 1), (65, .getfield 68, 3), (68, .ireturn, 1), (69, .aload_n 3, 1), (70, .getfield 73, 3), (73, .ireturn, 1), (74, .aload_n 3, 1), (75, .aload_n 0, 1), (76, .getfield 10, 3), (79, .getfield 156, 3), (82, .invokevirtual 197, 3), (85, .invokestatic 141, 3), (88, .ireturn, 1), (89, .aload_n 0, 1), (90, .getfield 10, 3), (93, .iload_n 1, 1), (94, .invokevirtual 200, 3)]
def cd_X10_corner_3 : List (Nat × Instr × Nat) := [(97, .ireturn, 1), (98, .aload_n 3, 1), (99, .iconst 0, 1), (100, .bipush 9, 2), (102, .invokevirtual 204, 3), (105, .ireturn, 1), (106, .aload_n 0, 1), (107, .getfield 10, 3), (110, .aload_n 3, 1), (111, .invokevirtual 207, 3), (114, .ireturn, 1)]
def cd_X10_organ_0 : List (Nat × Instr × Nat) := [(0, .iload_n 1, 1), (1, .aload_n 0, 1), (2, .getfield 10, 3), (5, .getfield 82, 3), (8, .invokestatic 97, 3), (11, .iload_n 2, 1), (12, .iconst 0, 1), (13, .bipush 8, 2), (15, .invokestatic 44, 3), (18, .aload_n 0, 1), (19, .getfield 10, 3), (22, .getfield 85, 3), (25, .iload_n 1, 1), (26, .aaload, 1), (27, .astore_n 3, 1), (28, .iload_n 2, 1), (29, .tableswitch 94 0 7 #[47, 52, 60, 65, 70, 79, 84, 89], 47)]
def cd_X10_organ_1 : List (Nat × Instr × Nat) := []
def cd_X10_organ_2 : List (Nat × Instr × Nat) := [(76, .aload_n 3, 1), (77, .getfield 89, 3), (80, .ireturn, 1), (81, .aload_n 3, 1), (82, .getfield 101, 3), (85, .invokestatic 141, 3), (88, .ireturn, 1), (89, .aload_n 3, 1), (90, .getfield 109, 3), (93, .ireturn, 1), (94, .aload_n 3, 1), (95, .getfield 211, 3)]
def cd_X10_organ_3 : List (Nat × Instr × Nat) := [(98, .ireturn, 1), (99, .aload_n 0, 1), (100, .getfield 10, 3), (103, .iload_n 1, 1), (104, .invokevirtual 214, 3), (107, .ireturn, 1), (108, .aload_n 3, 1), (109, .getfield 217, 3), (112, .ireturn, 1), (113, .aload_n 3, 1), (114, .getfield 220, 3), (117, .ireturn, 1), (118, .aload_n 3, 1), (119, .getfield 223, 3), (122, .ireturn, 1), (123, .aload_n 3, 1), (124, .getfield 226, 3), (127, .ireturn, 1)]
def cd_X10_player_0 : List (Nat × Instr × Nat) := [(0, .iload_n 1, 1), (1, .aload_n 0, 1), (2, .getfield 10, 3), (5, .getfield 94, 3), (8, .invokestatic 97, 3), (11, .iload_n 2, 1), (12, .iconst 0, 1), (13, .iconst 4, 1), (14, .invokestatic 44, 3), (17, .aload_n 0, 1), (18, .getfield 10, 3), (21, .getfield 112, 3), (24, .iload_n 1, 1), (25, .aaload, 1), (26, .astore_n 3, 1), (27, .iload_n 2, 1), (28, .tableswitch 52 0 3 #[32, 37, 42, 47], 32)]
def cd_X10_player_1 : List (Nat × Instr × Nat) := [(60, .aload_n 3, 1), (61, .getfield 116, 3)]
def cd_X10_player_2 : List (Nat × Instr × Nat) := [(64, .ireturn, 1), (65, .aload_n 3, 1), (66, .invokevirtual 229, 3), (69, .ireturn, 1), (70, .aload_n 3, 1), (71, .getfield 232, 3), (74, .ireturn, 1), (75, .aload_n 3, 1), (76, .getfield 235, 3), (79, .ireturn, 1), (80, .aload_n 3, 1), (81, .getfield 238, 3), (84, .ireturn, 1)]
def cd_X10_hours_0 : List (Nat × Instr × Nat) := [(0, .iload_n 1, 1), (1, .aload_n 0, 1), (2, .getfield 10, 3), (5, .getfield 94, 3), (8, .invokestatic 97, 3), (11, .iload_n 2, 1), (12, .aload_n 0, 1), (13, .getfield 10, 3), (16, .getfield 82, 3), (19, .invokestatic 97, 3), (22, .aload_n 0, 1), (23, .getfield 10, 3), (26, .getfield 112, 3), (29, .iload_n 1, 1), (30, .aaload, 1), (31, .getfield 241, 3)]
def cd_X10_hours_1 : List (Nat × Instr × Nat) := [(34, .iload_n 2, 1), (35, .iaload, 1), (36, .ireturn, 1)]
def cd_X10_count_0 : List (Nat × Instr × Nat) := [(0, .iload_n 1, 1), (1, .iconst 0, 1), (2, .bipush 15, 2), (4, .invokestatic 44, 3), (7, .iload_n 1, 1), (8, .tableswitch 199 0 14 #[76, 84, 92, 100, 108, 116, 127, 135, 143, 151, 159, 167, 175, 183, 191], 76)]
def cd_X10_count_1 : List (Nat × Instr × Nat) := []
def cd_X10_count_2 : List (Nat × Instr × Nat) := [(84, .aload_n 0, 1), (85, .getfield 10, 3), (88, .getfield 48, 3), (91, .ireturn, 1), (92, .aload_n 0, 1), (93, .getfield 10, 3)]
def cd_X10_count_3 : List (Nat × Instr × Nat) := [(96, .getfield 82, 3), (99, .ireturn, 1), (100, .aload_n 0, 1), (101, .getfield 10, 3), (104, .getfield 94, 3), (107, .ireturn, 1), (108, .aload_n 0, 1), (109, .getfield 10, 3), (112, .getfield 244, 3), (115, .ireturn, 1), (116, .aload_n 0, 1), (117, .getfield 10, 3), (120, .getfield 156, 3), (123, .ireturn, 1), (124, .aload_n 0, 1), (125, .getfield 10, 3)]
def cd_X10_count_4 : List (Nat × Instr × Nat) := [(128, .getfield 138, 3), (131, .invokestatic 141, 3), (134, .ireturn, 1), (135, .aload_n 0, 1), (136, .getfield 10, 3), (139, .getfield 247, 3), (142, .ireturn, 1), (143, .aload_n 0, 1), (144, .getfield 10, 3), (147, .getfield 250, 3), (150, .ireturn, 1), (151, .aload_n 0, 1), (152, .getfield 10, 3), (155, .getfield 253, 3), (158, .ireturn, 1), (159, .aload_n 0, 1)]
def cd_X10_count_5 : List (Nat × Instr × Nat) := [(160, .getfield 10, 3), (163, .invokevirtual 256, 3), (166, .ireturn, 1), (167, .aload_n 0, 1), (168, .getfield 10, 3), (171, .getfield 259, 3), (174, .ireturn, 1), (175, .aload_n 0, 1), (176, .getfield 10, 3), (179, .getfield 262, 3), (182, .ireturn, 1), (183, .aload_n 0, 1), (184, .getfield 10, 3), (187, .invokevirtual 265, 3), (190, .ireturn, 1), (191, .aload_n 0, 1)]
def cd_X10_count_6 : List (Nat × Instr × Nat) := [(192, .getfield 10, 3), (195, .invokevirtual 268, 3), (198, .ireturn, 1), (199, .aload_n 0, 1), (200, .getfield 10, 3), (203, .invokevirtual 271, 3), (206, .ireturn, 1), (207, .aload_n 0, 1), (208, .getfield 19, 3), (211, .getfield 191, 3), (214, .ireturn, 1)]
def cd_X10_setting_0 : List (Nat × Instr × Nat) := [(0, .iload_n 1, 1), (1, .iconst 5, 1), (2, .invokestatic 97, 3), (5, .aload_n 0, 1), (6, .getfield 10, 3), (9, .getfield 125, 3), (12, .iload_n 1, 1), (13, .iaload, 1), (14, .ireturn, 1)]
def cd_X10_whyNot_0 : List (Nat × Instr × Nat) := [(0, .iload_n 1, 1), (1, .aload_n 0, 1), (2, .getfield 10, 3), (5, .getfield 82, 3), (8, .invokestatic 97, 3), (11, .iload_n 2, 1), (12, .iconst 0, 1), (13, .bipush 9, 2), (15, .invokestatic 44, 3), (18, .aload_n 0, 1), (19, .getfield 10, 3), (22, .iload_n 1, 1), (23, .iload_n 2, 1), (24, .invokevirtual 145, 3), (27, .ireturn, 1)]
def cd_X10_ifPlayed_0 : List (Nat × Instr × Nat) := [(0, .iload_n 1, 1), (1, .aload_n 0, 1), (2, .getfield 10, 3), (5, .getfield 82, 3), (8, .invokestatic 97, 3), (11, .aload_n 0, 1), (12, .getfield 10, 3), (15, .iload_n 1, 1), (16, .invokevirtual 274, 3), (19, .ifCond .ne 5, 3), (22, .iconst (-1), 1), (23, .ireturn, 1), (24, .aload_n 0, 1), (25, .getfield 10, 3), (28, .iload_n 1, 1), (29, .aload_n 0, 1), (30, .getfield 10, 3)]
def cd_X10_ifPlayed_1 : List (Nat × Instr × Nat) := [(33, .iload_n 1, 1), (34, .invokevirtual 277, 3), (37, .invokevirtual 280, 3), (40, .ireturn, 1)]
def cd_X10_kindestTune_0 : List (Nat × Instr × Nat) := [(0, .iload_n 1, 1), (1, .aload_n 0, 1), (2, .getfield 10, 3), (5, .getfield 82, 3), (8, .invokestatic 97, 3), (11, .aload_n 0, 1), (12, .getfield 40, 3), (15, .aload_n 0, 1), (16, .getfield 10, 3), (19, .invokevirtual 283, 3), (22, .aload_n 0, 1), (23, .getfield 40, 3), (26, .aload_n 0, 1), (27, .getfield 10, 3), (30, .iload_n 1, 1), (31, .invokevirtual 286, 3)]
def cd_X10_kindestTune_1 : List (Nat × Instr × Nat) := [(34, .ireturn, 1)]
def cd_X10_most_0 : List (Nat × Instr × Nat) := [(0, .iload_n 1, 1), (1, .iconst 0, 1), (2, .iconst 1, 1), (3, .invokestatic 44, 3), (6, .aload_n 0, 1), (7, .getfield 40, 3), (10, .aload_n 0, 1), (11, .getfield 10, 3), (14, .invokevirtual 283, 3), (17, .aload_n 0, 1), (18, .getfield 40, 3), (21, .aload_n 0, 1), (22, .getfield 10, 3), (25, .invokevirtual 290, 3), (28, .iload_n 1, 1), (29, .ifCond .ne 13, 3)]
def cd_X10_most_1 : List (Nat × Instr × Nat) := [(32, .aload_n 0, 1), (33, .getfield 40, 3), (36, .getfield 293, 3), (39, .goto 10, 3), (42, .aload_n 0, 1), (43, .getfield 40, 3), (46, .getfield 296, 3), (49, .ireturn, 1)]
def cd_X10_ifEnded_0 : List (Nat × Instr × Nat) := [(0, .iload_n 1, 1), (1, .aload_n 0, 1), (2, .getfield 10, 3), (5, .getfield 94, 3), (8, .invokestatic 97, 3), (11, .aload_n 0, 1), (12, .getfield 33, 3), (15, .aload_n 0, 1), (16, .getfield 10, 3), (19, .invokevirtual 299, 3), (22, .aload_n 0, 1), (23, .getfield 33, 3), (26, .getfield 302, 3), (29, .iload_n 1, 1), (30, .iaload, 1), (31, .aload_n 0, 1)]
def cd_X10_ifEnded_1 : List (Nat × Instr × Nat) := [(32, .getfield 33, 3), (35, .getfield 305, 3), (38, .iload_n 1, 1), (39, .iaload, 1), (40, .iadd, 1), (41, .ireturn, 1)]
def cd_X10_playersShare_0 : List (Nat × Instr × Nat) := [(0, .aload_n 0, 1), (1, .getfield 10, 3), (4, .invokevirtual 256, 3), (7, .istore_n 1, 1), (8, .iload_n 1, 1), (9, .ifCond .ne 5, 3), (12, .dconst 0, 1), (13, .dreturn, 1), (14, .aload_n 0, 1), (15, .getfield 10, 3), (18, .invokevirtual 271, 3), (21, .i2d, 1), (22, .iload_n 1, 1), (23, .i2d, 1), (24, .ddiv, 1), (25, .dreturn, 1)]
def cd_X10_digest_0 : List (Nat × Instr × Nat) := [(0, .ldc2_w 308, 3), (3, .lstore_n 1, 1), (4, .iconst 0, 1), (5, .istore_n 3, 1), (6, .iload_n 3, 1), (7, .bipush 16, 2), (9, .if_icmp .ge 20, 3), (12, .lload_n 1, 1), (13, .aload_n 0, 1), (14, .iload_n 3, 1), (15, .invokevirtual 310, 3), (18, .i2l, 1), (19, .invokestatic 312, 3), (22, .lstore_n 1, 1), (23, .iinc 3 1, 3), (26, .goto (-20), 3), (29, .iconst 0, 1), (30, .istore_n 3, 1), (31, .iload_n 3, 1)]
def cd_X10_digest_1 : List (Nat × Instr × Nat) := [(32, .iconst 5, 1), (33, .if_icmp .ge 20, 3), (36, .lload_n 1, 1), (37, .aload_n 0, 1), (38, .iload_n 3, 1), (39, .invokevirtual 316, 3), (42, .i2l, 1), (43, .invokestatic 312, 3), (46, .lstore_n 1, 1), (47, .iinc 3 1, 3), (50, .goto (-19), 3), (53, .iconst 0, 1), (54, .istore_n 3, 1), (55, .iload_n 3, 1), (56, .aload_n 0, 1), (57, .getfield 10, 3), (60, .getfield 48, 3), (63, .if_icmp .ge 16, 3)]
def cd_X10_digest_2 : List (Nat × Instr × Nat) := [(66, .aload_n 0, 1), (67, .lload_n 1, 1), (68, .iload_n 3, 1), (69, .invokevirtual 319, 3), (72, .lstore_n 1, 1), (73, .iinc 3 1, 3), (76, .goto (-21), 3), (79, .iconst 0, 1), (80, .istore_n 3, 1), (81, .iload_n 3, 1), (82, .aload_n 0, 1), (83, .getfield 10, 3), (86, .getfield 82, 3), (89, .if_icmp .ge 16, 3), (92, .aload_n 0, 1), (93, .lload_n 1, 1), (94, .iload_n 3, 1), (95, .invokevirtual 323, 3)]
def cd_X10_digest_3 : List (Nat × Instr × Nat) := [(98, .lstore_n 1, 1), (99, .iinc 3 1, 3), (102, .goto (-21), 3), (105, .iconst 0, 1), (106, .istore_n 3, 1), (107, .iload_n 3, 1), (108, .aload_n 0, 1), (109, .getfield 10, 3), (112, .getfield 94, 3), (115, .if_icmp .ge 16, 3), (118, .aload_n 0, 1), (119, .lload_n 1, 1), (120, .iload_n 3, 1), (121, .invokevirtual 326, 3), (124, .lstore_n 1, 1), (125, .iinc 3 1, 3)]
def cd_X10_digest_4 : List (Nat × Instr × Nat) := [(128, .goto (-21), 3), (131, .lload_n 1, 1), (132, .aload_n 0, 1), (133, .iconst 0, 1), (134, .invokevirtual 329, 3), (137, .i2l, 1), (138, .invokestatic 312, 3), (141, .lstore_n 1, 1), (142, .lload_n 1, 1), (143, .aload_n 0, 1), (144, .iconst 1, 1), (145, .invokevirtual 329, 3), (148, .i2l, 1), (149, .invokestatic 312, 3), (152, .lstore_n 1, 1), (153, .lload_n 1, 1), (154, .aload_n 0, 1), (155, .invokevirtual 332, 3), (158, .invokestatic 336, 3)]
def cd_X10_digest_5 : List (Nat × Instr × Nat) := [(161, .invokestatic 312, 3), (164, .lstore_n 1, 1), (165, .aload_n 0, 1), (166, .lload_n 1, 1), (167, .invokevirtual 340, 3), (170, .lreturn, 1)]
def cd_X10_requireIndex_0 : List (Nat × Instr × Nat) := [(0, .iload_n 0, 1), (1, .ifCond .lt 8, 3), (4, .iload_n 0, 1), (5, .iload_n 1, 1), (6, .if_icmp .lt 14, 3), (9, .new 344, 3), (12, .dup, 1), (13, .ldc_w 346, 3), (16, .invokespecial 348, 3), (19, .athrow, 1), (20, .return_, 1)]
def cd_X10_requireInRange_0 : List (Nat × Instr × Nat) := [(0, .iload_n 0, 1), (1, .iload_n 1, 1), (2, .if_icmp .lt 8, 3), (5, .iload_n 0, 1), (6, .iload_n 2, 1), (7, .if_icmp .le 14, 3), (10, .new 171, 3), (13, .dup, 1), (14, .ldc_w 349, 3), (17, .invokespecial 175, 3), (20, .athrow, 1), (21, .return_, 1)]
def cd_X10_requireState_0 : List (Nat × Instr × Nat) := [(0, .iload_n 0, 1), (1, .ifCond .ne 14, 3), (4, .new 351, 3), (7, .dup, 1), (8, .ldc_w 353, 3), (11, .invokespecial 355, 3), (14, .athrow, 1), (15, .return_, 1)]
def cd_X10_asNumber_0 : List (Nat × Instr × Nat) := [(0, .iload_n 0, 1), (1, .ifCond .eq 7, 3), (4, .iconst 1, 1), (5, .goto 4, 3), (8, .iconst 0, 1), (9, .ireturn, 1)]
def cd_X10_holds_0 : List (Nat × Instr × Nat) := [(0, .iload_n 0, 1), (1, .iload_n 1, 1), (2, .ishr, 1), (3, .iconst 1, 1), (4, .iand, 1), (5, .iconst 1, 1), (6, .if_icmp .ne 7, 3), (9, .iconst 1, 1), (10, .goto 4, 3), (13, .iconst 0, 1), (14, .ireturn, 1)]
def cd_X10_obey_0 : List (Nat × Instr × Nat) := [(0, .getstatic 356, 3), (3, .aload_n 1, 1), (4, .invokevirtual 361, 3), (7, .iaload, 1), (8, .tableswitch 100 1 4 #[32, 54, 54, 87], 32)]
def cd_X10_obey_1 : List (Nat × Instr × Nat) := [(40, .aload_n 0, 1), (41, .getfield 10, 3), (44, .invokevirtual 128, 3), (47, .ifCond .ne 5, 3), (50, .iconst 0, 1), (51, .ireturn, 1), (52, .aload_n 0, 1), (53, .getfield 10, 3), (56, .invokevirtual 132, 3), (59, .pop, 1), (60, .iconst 1, 1), (61, .ireturn, 1), (62, .aload_n 0, 1), (63, .getfield 10, 3)]
def cd_X10_obey_2 : List (Nat × Instr × Nat) := [(66, .invokevirtual 135, 3), (69, .ifCond .ne 5, 3), (72, .iconst 0, 1), (73, .ireturn, 1), (74, .aload_n 0, 1), (75, .getfield 10, 3), (78, .aload_n 1, 1), (79, .getstatic 364, 3), (82, .if_acmp .ne 7, 3), (85, .iconst 1, 1), (86, .goto 4, 3), (89, .iconst 0, 1), (90, .putfield 138, 3), (93, .iconst 1, 1), (94, .ireturn, 1), (95, .aload_n 0, 1)]
def cd_X10_obey_3 : List (Nat × Instr × Nat) := [(96, .getfield 10, 3), (99, .aload_n 0, 1), (100, .getfield 33, 3), (103, .invokevirtual 152, 3), (106, .iconst 1, 1), (107, .ireturn, 1), (108, .aload_n 0, 1), (109, .aload_n 0, 1), (110, .getfield 26, 3), (113, .iload_n 2, 1), (114, .invokevirtual 368, 3), (117, .aload_n 0, 1), (118, .getfield 26, 3), (121, .iload_n 2, 1), (122, .invokevirtual 369, 3), (125, .invokevirtual 372, 3)]
def cd_X10_obey_4 : List (Nat × Instr × Nat) := [(128, .ireturn, 1)]
def cd_X10_obeyPlay_0 : List (Nat × Instr × Nat) := [(0, .iload_n 1, 1), (1, .ifCond .lt 36, 3), (4, .iload_n 1, 1), (5, .aload_n 0, 1), (6, .getfield 10, 3), (9, .getfield 82, 3), (12, .if_icmp .ge 25, 3), (15, .iload_n 2, 1), (16, .ifCond .lt 21, 3), (19, .iload_n 2, 1), (20, .bipush 10, 2), (22, .if_icmp .ge 15, 3), (25, .aload_n 0, 1), (26, .getfield 10, 3), (29, .iload_n 1, 1), (30, .iload_n 2, 1), (31, .invokevirtual 145, 3)]
def cd_X10_obeyPlay_1 : List (Nat × Instr × Nat) := [(34, .ifCond .eq 5, 3), (37, .iconst 0, 1), (38, .ireturn, 1), (39, .aload_n 0, 1), (40, .getfield 10, 3), (43, .iload_n 1, 1), (44, .iload_n 2, 1), (45, .invokevirtual 149, 3), (48, .pop, 1), (49, .iconst 1, 1), (50, .ireturn, 1)]
def cd_X10_mixed_0 : List (Nat × Instr × Nat) := [(0, .ldc2_w 376, 3), (3, .lload_n 0, 1), (4, .lmul, 1), (5, .lload_n 2, 1), (6, .ladd, 1), (7, .lreturn, 1)]
def cd_X10_withCorner_0 : List (Nat × Instr × Nat) := [(0, .lload_n 1, 1), (1, .lstore 4, 2), (3, .iconst 0, 1), (4, .istore 6, 2), (6, .iload 6, 2), (8, .bipush 6, 2), (10, .if_icmp .ge 24, 3), (13, .lload 4, 2), (15, .aload_n 0, 1), (16, .iload_n 3, 1), (17, .iload 6, 2), (19, .invokevirtual 378, 3), (22, .i2l, 1), (23, .invokestatic 312, 3), (26, .lstore 4, 2), (28, .iinc 6 1, 3), (31, .goto (-25), 3)]
def cd_X10_withCorner_1 : List (Nat × Instr × Nat) := [(34, .lload 4, 2), (36, .lreturn, 1)]
def cd_X10_withOrgan_0 : List (Nat × Instr × Nat) := [(0, .lload_n 1, 1), (1, .lstore 4, 2), (3, .iconst 0, 1), (4, .istore 6, 2), (6, .iload 6, 2), (8, .bipush 9, 2), (10, .if_icmp .ge 24, 3), (13, .lload 4, 2), (15, .aload_n 0, 1), (16, .iload_n 3, 1), (17, .iload 6, 2), (19, .invokevirtual 380, 3), (22, .i2l, 1), (23, .invokestatic 312, 3), (26, .lstore 4, 2), (28, .iinc 6 1, 3), (31, .goto (-25), 3)]
def cd_X10_withOrgan_1 : List (Nat × Instr × Nat) := [(34, .iconst 0, 1), (35, .istore 6, 2), (37, .iload 6, 2), (39, .bipush 10, 2), (41, .if_icmp .ge 24, 3), (44, .lload 4, 2), (46, .aload_n 0, 1), (47, .iload_n 3, 1), (48, .iload 6, 2), (50, .invokevirtual 383, 3), (53, .i2l, 1), (54, .invokestatic 312, 3), (57, .lstore 4, 2), (59, .iinc 6 1, 3), (62, .goto (-25), 3)]
def cd_X10_withOrgan_2 : List (Nat × Instr × Nat) := [(65, .lload 4, 2), (67, .aload_n 0, 1), (68, .iload_n 3, 1), (69, .invokevirtual 386, 3), (72, .i2l, 1), (73, .invokestatic 312, 3), (76, .lstore 4, 2), (78, .lload 4, 2), (80, .aload_n 0, 1), (81, .iload_n 3, 1), (82, .invokevirtual 389, 3), (85, .i2l, 1), (86, .invokestatic 312, 3), (89, .lreturn, 1)]
def cd_X10_withPlayer_0 : List (Nat × Instr × Nat) := [(0, .lload_n 1, 1), (1, .lstore 4, 2), (3, .iconst 0, 1), (4, .istore 6, 2), (6, .iload 6, 2), (8, .iconst 5, 1), (9, .if_icmp .ge 24, 3), (12, .lload 4, 2), (14, .aload_n 0, 1), (15, .iload_n 3, 1), (16, .iload 6, 2), (18, .invokevirtual 392, 3), (21, .i2l, 1), (22, .invokestatic 312, 3), (25, .lstore 4, 2), (27, .iinc 6 1, 3), (30, .goto (-24), 3)]
def cd_X10_withPlayer_1 : List (Nat × Instr × Nat) := [(33, .iconst 0, 1), (34, .istore 6, 2), (36, .iload 6, 2), (38, .aload_n 0, 1), (39, .getfield 10, 3), (42, .getfield 82, 3), (45, .if_icmp .ge 24, 3), (48, .lload 4, 2), (50, .aload_n 0, 1), (51, .iload_n 3, 1), (52, .iload 6, 2), (54, .invokevirtual 395, 3), (57, .i2l, 1), (58, .invokestatic 312, 3), (61, .lstore 4, 2), (63, .iinc 6 1, 3)]
def cd_X10_withPlayer_2 : List (Nat × Instr × Nat) := [(66, .goto (-30), 3), (69, .lload 4, 2), (71, .aload_n 0, 1), (72, .iload_n 3, 1), (73, .invokevirtual 398, 3), (76, .i2l, 1), (77, .invokestatic 312, 3), (80, .lreturn, 1)]
def cd_X10_withText_0 : List (Nat × Instr × Nat) := [(0, .lload_n 1, 1), (1, .aload_n 0, 1), (2, .getfield 26, 3), (5, .getfield 159, 3), (8, .i2l, 1), (9, .invokestatic 312, 3), (12, .lstore_n 3, 1), (13, .iconst 0, 1), (14, .istore 5, 2), (16, .iload 5, 2), (18, .aload_n 0, 1), (19, .getfield 26, 3), (22, .getfield 159, 3), (25, .if_icmp .ge 25, 3), (28, .lload_n 3, 1), (29, .aload_n 0, 1), (30, .getfield 26, 3)]
def cd_X10_withText_1 : List (Nat × Instr × Nat) := [(33, .getfield 162, 3), (36, .iload 5, 2), (38, .iaload, 1), (39, .i2l, 1), (40, .invokestatic 312, 3), (43, .lstore_n 3, 1), (44, .iinc 5 1, 3), (47, .goto (-31), 3), (50, .lload_n 3, 1), (51, .lreturn, 1)]
def cd_X10_bitsOfShare_0 : List (Nat × Instr × Nat) := [(0, .dload_n 0, 1), (1, .dconst 0, 1), (2, .dcmp .g, 1), (3, .ifCond .gt 5, 3), (6, .lconst 0, 1), (7, .lreturn, 1), (8, .dload_n 0, 1), (9, .dstore_n 2, 1), (10, .ldc2_w 401, 3), (13, .lstore 4, 2), (15, .iconst 0, 1), (16, .istore 6, 2), (18, .iload 6, 2), (20, .bipush 64, 2), (22, .if_icmp .ge 27, 3), (25, .dload_n 2, 1), (26, .dconst 1, 1), (27, .dcmp .g, 1), (28, .ifCond .ge 21, 3), (31, .dload_n 2, 1)]
def cd_X10_bitsOfShare_1 : List (Nat × Instr × Nat) := [(32, .ldc2_w 403, 3), (35, .dmul, 1), (36, .dstore_n 2, 1), (37, .lload 4, 2), (39, .lconst 1, 1), (40, .lsub, 1), (41, .lstore 4, 2), (43, .iinc 6 1, 3), (46, .goto (-28), 3), (49, .dload_n 2, 1), (50, .dconst 1, 1), (51, .dsub, 1), (52, .ldc2_w 405, 3), (55, .dmul, 1), (56, .d2l, 1), (57, .lstore 6, 2), (59, .lload 4, 2), (61, .bipush 52, 2), (63, .lshl, 1)]
def cd_X10_bitsOfShare_2 : List (Nat × Instr × Nat) := [(64, .lload 6, 2), (66, .ladd, 1), (67, .lreturn, 1)]
def cd_X11_thrown_0 : List (Nat × Instr × Nat) := [(0, .aload_n 0, 1), (1, .getfield 37, 3), (4, .ireturn, 1)]
def cd_X11_fails_0 : List (Nat × Instr × Nat) := [(0, .aload_n 0, 1), (1, .iload_n 1, 1), (2, .putfield 37, 3), (5, .iconst 0, 1), (6, .ireturn, 1)]
def cd_X11_within_0 : List (Nat × Instr × Nat) := [(0, .iload_n 0, 1), (1, .iload_n 1, 1), (2, .if_icmp .lt 12, 3), (5, .iload_n 0, 1), (6, .iload_n 2, 1), (7, .if_icmp .gt 7, 3), (10, .iconst 1, 1), (11, .goto 4, 3), (14, .iconst 0, 1), (15, .ireturn, 1)]
def cd_X11_isCorner_0 : List (Nat × Instr × Nat) := [(0, .iload_n 1, 1), (1, .iconst 0, 1), (2, .aload_n 0, 1), (3, .getfield 7, 3), (6, .iconst 0, 1), (7, .iaload, 1), (8, .iconst 1, 1), (9, .isub, 1), (10, .invokestatic 41, 3), (13, .ireturn, 1)]
def cd_X11_isOrgan_0 : List (Nat × Instr × Nat) := [(0, .iload_n 1, 1), (1, .iconst 0, 1), (2, .aload_n 0, 1), (3, .getfield 7, 3), (6, .iconst 1, 1), (7, .iaload, 1), (8, .iconst 1, 1), (9, .isub, 1), (10, .invokestatic 41, 3), (13, .ireturn, 1)]
def cd_X11_isPlayer_0 : List (Nat × Instr × Nat) := [(0, .iload_n 1, 1), (1, .iconst 0, 1), (2, .aload_n 0, 1), (3, .getfield 7, 3), (6, .iconst 2, 1), (7, .iaload, 1), (8, .iconst 1, 1), (9, .isub, 1), (10, .invokestatic 41, 3), (13, .ireturn, 1)]
def cd_X11_corner0_0 : List (Nat × Instr × Nat) := [(0, .aload_n 0, 1), (1, .getfield 7, 3), (4, .bipush 16, 2), (6, .iconst 4, 1), (7, .iload_n 1, 1), (8, .imul, 1), (9, .iadd, 1), (10, .iload_n 2, 1), (11, .iadd, 1), (12, .iaload, 1), (13, .ireturn, 1)]
def cd_X11_organ0_0 : List (Nat × Instr × Nat) := [(0, .aload_n 0, 1), (1, .getfield 7, 3), (4, .bipush 56, 2), (6, .bipush 7, 2), (8, .iload_n 1, 1), (9, .imul, 1), (10, .iadd, 1), (11, .iload_n 2, 1), (12, .iadd, 1), (13, .iaload, 1), (14, .ireturn, 1)]
def cd_X11_player0_0 : List (Nat × Instr × Nat) := [(0, .aload_n 0, 1), (1, .getfield 7, 3), (4, .bipush 91, 2), (6, .iconst 4, 1), (7, .iload_n 1, 1), (8, .imul, 1), (9, .iadd, 1), (10, .iload_n 2, 1), (11, .iadd, 1), (12, .iaload, 1), (13, .ireturn, 1)]
def cd_X11_cornerOf_0 : List (Nat × Instr × Nat) := [(0, .aload_n 0, 1), (1, .iload_n 1, 1), (2, .iconst 3, 1), (3, .invokevirtual 45, 3), (6, .iconst 1, 1), (7, .isub, 1), (8, .ireturn, 1)]
def cd_X11_tuneIn_0 : List (Nat × Instr × Nat) := [(0, .aload_n 0, 1), (1, .getfield 7, 3), (4, .sipush 163, 3), (7, .bipush 10, 2), (9, .iload_n 1, 1), (10, .imul, 1), (11, .iadd, 1), (12, .iload_n 2, 1), (13, .iadd, 1), (14, .iaload, 1), (15, .iconst 1, 1), (16, .isub, 1), (17, .ireturn, 1)]
def cd_X11_save_0 : List (Nat × Instr × Nat) := [(0, .aload_n 0, 1), (1, .getfield 49, 3), (4, .bipush 6, 2), (6, .if_icmp .ne 44, 3), (9, .iconst 0, 1), (10, .istore_n 1, 1), (11, .iload_n 1, 1), (12, .sipush 1065, 3), (15, .if_icmp .ge 25, 3), (18, .aload_n 0, 1), (19, .getfield 16, 3), (22, .iload_n 1, 1), (23, .aload_n 0, 1), (24, .getfield 16, 3), (27, .sipush 213, 3), (30, .iload_n 1, 1), (31, .iadd, 1)]
def cd_X11_save_1 : List (Nat × Instr × Nat) := [(32, .iaload, 1), (33, .iastore, 1), (34, .iinc 1 1, 3), (37, .goto (-26), 3), (40, .aload_n 0, 1), (41, .dup, 1), (42, .getfield 49, 3), (45, .iconst 1, 1), (46, .isub, 1), (47, .putfield 49, 3), (50, .iconst 0, 1), (51, .istore_n 1, 1), (52, .iload_n 1, 1), (53, .sipush 213, 3), (56, .if_icmp .ge 30, 3), (59, .aload_n 0, 1), (60, .getfield 16, 3), (63, .sipush 213, 3)]
def cd_X11_save_2 : List (Nat × Instr × Nat) := [(66, .aload_n 0, 1), (67, .getfield 49, 3), (70, .imul, 1), (71, .iload_n 1, 1), (72, .iadd, 1), (73, .aload_n 0, 1), (74, .getfield 7, 3), (77, .iload_n 1, 1), (78, .iaload, 1), (79, .iastore, 1), (80, .iinc 1 1, 3), (83, .goto (-31), 3), (86, .aload_n 0, 1), (87, .dup, 1), (88, .getfield 49, 3), (91, .iconst 1, 1), (92, .iadd, 1), (93, .putfield 49, 3)]
def cd_X11_save_3 : List (Nat × Instr × Nat) := [(96, .return_, 1)]
def cd_X11_keep_0 : List (Nat × Instr × Nat) := [(0, .iconst 0, 1), (1, .istore_n 1, 1), (2, .iload_n 1, 1), (3, .sipush 213, 3), (6, .if_icmp .ge 21, 3), (9, .aload_n 0, 1), (10, .getfield 13, 3), (13, .iload_n 1, 1), (14, .aload_n 0, 1), (15, .getfield 7, 3), (18, .iload_n 1, 1), (19, .iaload, 1), (20, .iastore, 1), (21, .iinc 1 1, 3), (24, .goto (-22), 3), (27, .return_, 1)]
def cd_X11_bring_0 : List (Nat × Instr × Nat) := [(0, .iconst 0, 1), (1, .istore_n 1, 1), (2, .iload_n 1, 1), (3, .sipush 213, 3), (6, .if_icmp .ge 21, 3), (9, .aload_n 0, 1), (10, .getfield 7, 3), (13, .iload_n 1, 1), (14, .aload_n 0, 1), (15, .getfield 13, 3), (18, .iload_n 1, 1), (19, .iaload, 1), (20, .iastore, 1), (21, .iinc 1 1, 3), (24, .goto (-22), 3), (27, .return_, 1)]
def cd_X11_addCorner_0 : List (Nat × Instr × Nat) := [(0, .aload_n 0, 1), (1, .iconst 0, 1), (2, .putfield 37, 3), (5, .iload_n 1, 1), (6, .iconst 0, 1), (7, .bipush 99, 2), (9, .invokestatic 41, 3), (12, .ifCond .eq 34, 3), (15, .iload_n 2, 1), (16, .iconst 1, 1), (17, .bipush 90, 2), (19, .invokestatic 41, 3), (22, .ifCond .eq 24, 3), (25, .iload_n 3, 1), (26, .iconst 0, 1), (27, .bipush 9, 2), (29, .invokestatic 41, 3)]
def cd_X11_addCorner_1 : List (Nat × Instr × Nat) := [(32, .ifCond .eq 14, 3), (35, .iload 4, 2), (37, .iconst 0, 1), (38, .bipush 9, 2), (40, .invokestatic 41, 3), (43, .ifCond .ne 9, 3), (46, .aload_n 0, 1), (47, .iconst 1, 1), (48, .invokevirtual 52, 3), (51, .ireturn, 1), (52, .iconst 0, 1), (53, .istore 5, 2), (55, .iconst 0, 1), (56, .istore 6, 2), (58, .iload 6, 2), (60, .aload_n 0, 1), (61, .getfield 7, 3)]
def cd_X11_addCorner_2 : List (Nat × Instr × Nat) := [(64, .iconst 0, 1), (65, .iaload, 1), (66, .if_icmp .ge 32, 3), (69, .iload 5, 2), (71, .ifCond .ne 14, 3), (74, .aload_n 0, 1), (75, .iload 6, 2), (77, .iconst 0, 1), (78, .invokevirtual 56, 3), (81, .iload_n 1, 1), (82, .if_icmp .ne 7, 3), (85, .iconst 1, 1), (86, .goto 4, 3), (89, .iconst 0, 1), (90, .istore 5, 2), (92, .iinc 6 1, 3), (95, .goto (-37), 3)]
def cd_X11_addCorner_3 : List (Nat × Instr × Nat) := [(98, .aload_n 0, 1), (99, .getfield 7, 3), (102, .iconst 0, 1), (103, .iaload, 1), (104, .bipush 10, 2), (106, .if_icmp .eq 8, 3), (109, .iload 5, 2), (111, .ifCond .eq 9, 3), (114, .aload_n 0, 1), (115, .iconst 2, 1), (116, .invokevirtual 52, 3), (119, .ireturn, 1), (120, .aload_n 0, 1), (121, .invokevirtual 59, 3), (124, .bipush 16, 2), (126, .iconst 4, 1), (127, .aload_n 0, 1)]
def cd_X11_addCorner_4 : List (Nat × Instr × Nat) := [(128, .getfield 7, 3), (131, .iconst 0, 1), (132, .iaload, 1), (133, .imul, 1), (134, .iadd, 1), (135, .istore 6, 2), (137, .aload_n 0, 1), (138, .getfield 7, 3), (141, .iload 6, 2), (143, .iload_n 1, 1), (144, .iastore, 1), (145, .aload_n 0, 1), (146, .getfield 7, 3), (149, .iload 6, 2), (151, .iconst 1, 1), (152, .iadd, 1), (153, .iload_n 2, 1), (154, .iastore, 1), (155, .aload_n 0, 1), (156, .getfield 7, 3), (159, .iload 6, 2)]
def cd_X11_addCorner_5 : List (Nat × Instr × Nat) := [(161, .iconst 2, 1), (162, .iadd, 1), (163, .iload_n 3, 1), (164, .iastore, 1), (165, .aload_n 0, 1), (166, .getfield 7, 3), (169, .iload 6, 2), (171, .iconst 3, 1), (172, .iadd, 1), (173, .iload 4, 2), (175, .iastore, 1), (176, .aload_n 0, 1), (177, .getfield 7, 3), (180, .iconst 0, 1), (181, .dup2, 1), (182, .iaload, 1), (183, .iconst 1, 1), (184, .iadd, 1), (185, .iastore, 1), (186, .aload_n 0, 1), (187, .getfield 7, 3), (190, .iconst 0, 1), (191, .iaload, 1)]
def cd_X11_addCorner_6 : List (Nat × Instr × Nat) := [(192, .iconst 1, 1), (193, .isub, 1), (194, .ireturn, 1)]
def cd_X11_addOrgan_0 : List (Nat × Instr × Nat) := [(0, .aload_n 0, 1), (1, .iconst 0, 1), (2, .putfield 37, 3), (5, .iload_n 1, 1), (6, .iconst 0, 1), (7, .bipush 50, 2), (9, .invokestatic 41, 3), (12, .ifCond .ne 9, 3), (15, .aload_n 0, 1), (16, .iconst 1, 1), (17, .invokevirtual 52, 3), (20, .ireturn, 1), (21, .aload_n 0, 1), (22, .getfield 7, 3), (25, .iconst 1, 1), (26, .iaload, 1), (27, .iconst 5, 1), (28, .if_icmp .ne 9, 3), (31, .aload_n 0, 1)]
def cd_X11_addOrgan_1 : List (Nat × Instr × Nat) := [(32, .iconst 2, 1), (33, .invokevirtual 52, 3), (36, .ireturn, 1), (37, .aload_n 0, 1), (38, .invokevirtual 59, 3), (41, .aload_n 0, 1), (42, .getfield 7, 3), (45, .bipush 56, 2), (47, .bipush 7, 2), (49, .aload_n 0, 1), (50, .getfield 7, 3), (53, .iconst 1, 1), (54, .iaload, 1), (55, .imul, 1), (56, .iadd, 1), (57, .iload_n 1, 1), (58, .iastore, 1), (59, .aload_n 0, 1), (60, .getfield 7, 3), (63, .iconst 1, 1)]
def cd_X11_addOrgan_2 : List (Nat × Instr × Nat) := [(64, .dup2, 1), (65, .iaload, 1), (66, .iconst 1, 1), (67, .iadd, 1), (68, .iastore, 1), (69, .aload_n 0, 1), (70, .getfield 7, 3), (73, .iconst 1, 1), (74, .iaload, 1), (75, .iconst 1, 1), (76, .isub, 1), (77, .ireturn, 1)]
def cd_X11_addPlayer_0 : List (Nat × Instr × Nat) := [(0, .aload_n 0, 1), (1, .iconst 0, 1), (2, .putfield 37, 3), (5, .aload_n 0, 1), (6, .getfield 7, 3), (9, .iconst 2, 1), (10, .iaload, 1), (11, .bipush 8, 2), (13, .if_icmp .ne 9, 3), (16, .aload_n 0, 1), (17, .iconst 1, 1), (18, .invokevirtual 52, 3), (21, .ireturn, 1), (22, .aload_n 0, 1), (23, .invokevirtual 59, 3), (26, .aload_n 0, 1), (27, .getfield 7, 3), (30, .iconst 2, 1), (31, .dup2, 1)]
def cd_X11_addPlayer_1 : List (Nat × Instr × Nat) := [(32, .iaload, 1), (33, .iconst 1, 1), (34, .iadd, 1), (35, .iastore, 1), (36, .aload_n 0, 1), (37, .getfield 7, 3), (40, .iconst 2, 1), (41, .iaload, 1), (42, .iconst 1, 1), (43, .isub, 1), (44, .ireturn, 1)]
def cd_X11_permits_0 : List (Nat × Instr × Nat) := [(0, .iconst 0, 1), (1, .istore_n 1, 1), (2, .iconst 0, 1), (3, .istore_n 2, 1), (4, .iload_n 2, 1), (5, .aload_n 0, 1), (6, .getfield 7, 3), (9, .iconst 1, 1), (10, .iaload, 1), (11, .if_icmp .ge 18, 3), (14, .iload_n 1, 1), (15, .aload_n 0, 1), (16, .iload_n 2, 1), (17, .iconst 1, 1), (18, .invokevirtual 45, 3), (21, .iadd, 1), (22, .istore_n 1, 1), (23, .iinc 2 1, 3), (26, .goto (-22), 3), (29, .iload_n 1, 1), (30, .ireturn, 1)]
def cd_X11_permit_0 : List (Nat × Instr × Nat) := [(0, .aload_n 0, 1), (1, .iconst 0, 1), (2, .putfield 37, 3), (5, .aload_n 0, 1), (6, .iload_n 1, 1), (7, .invokevirtual 62, 3), (10, .ifCond .ne 9, 3), (13, .aload_n 0, 1), (14, .iconst 1, 1), (15, .invokevirtual 52, 3), (18, .ireturn, 1), (19, .aload_n 0, 1), (20, .invokevirtual 59, 3), (23, .aload_n 0, 1), (24, .getfield 7, 3), (27, .bipush 56, 2), (29, .bipush 7, 2), (31, .iload_n 1, 1)]
def cd_X11_permit_1 : List (Nat × Instr × Nat) := [(32, .imul, 1), (33, .iadd, 1), (34, .iconst 1, 1), (35, .iadd, 1), (36, .iload_n 2, 1), (37, .ifCond .eq 7, 3), (40, .iconst 1, 1), (41, .goto 4, 3), (44, .iconst 0, 1), (45, .iastore, 1), (46, .aload_n 0, 1), (47, .invokevirtual 66, 3), (50, .ireturn, 1)]
def cd_X11_barrel_0 : List (Nat × Instr × Nat) := [(0, .aload_n 0, 1), (1, .iconst 0, 1), (2, .putfield 37, 3), (5, .aload_n 0, 1), (6, .iload_n 1, 1), (7, .invokevirtual 62, 3), (10, .ifCond .ne 9, 3), (13, .aload_n 0, 1), (14, .iconst 1, 1), (15, .invokevirtual 52, 3), (18, .ireturn, 1), (19, .iload_n 2, 1), (20, .iconst 0, 1), (21, .sipush 1023, 3), (24, .invokestatic 41, 3), (27, .ifCond .ne 9, 3), (30, .aload_n 0, 1), (31, .iconst 2, 1)]
def cd_X11_barrel_1 : List (Nat × Instr × Nat) := [(32, .invokevirtual 52, 3), (35, .ireturn, 1), (36, .aload_n 0, 1), (37, .invokevirtual 59, 3), (40, .aload_n 0, 1), (41, .iload_n 1, 1), (42, .iconst 2, 1), (43, .invokevirtual 45, 3), (46, .istore_n 3, 1), (47, .aload_n 0, 1), (48, .getfield 7, 3), (51, .bipush 56, 2), (53, .bipush 7, 2), (55, .iload_n 1, 1), (56, .imul, 1), (57, .iadd, 1), (58, .iconst 2, 1), (59, .iadd, 1), (60, .iload_n 2, 1), (61, .iastore, 1), (62, .iload_n 3, 1), (63, .ireturn, 1)]
def cd_X11_assign_0 : List (Nat × Instr × Nat) := [(0, .aload_n 0, 1), (1, .iconst 0, 1), (2, .putfield 37, 3), (5, .aload_n 0, 1), (6, .iload_n 1, 1), (7, .invokevirtual 70, 3), (10, .ifCond .eq 16, 3), (13, .iload_n 2, 1), (14, .iconst (-1), 1), (15, .if_icmp .eq 17, 3), (18, .aload_n 0, 1), (19, .iload_n 2, 1), (20, .invokevirtual 62, 3), (23, .ifCond .ne 9, 3), (26, .aload_n 0, 1), (27, .iconst 1, 1), (28, .invokevirtual 52, 3), (31, .ireturn, 1)]
def cd_X11_assign_1 : List (Nat × Instr × Nat) := [(32, .aload_n 0, 1), (33, .invokevirtual 59, 3), (36, .aload_n 0, 1), (37, .iload_n 1, 1), (38, .iconst 0, 1), (39, .invokevirtual 73, 3), (42, .iconst 1, 1), (43, .isub, 1), (44, .istore_n 3, 1), (45, .aload_n 0, 1), (46, .getfield 7, 3), (49, .bipush 91, 2), (51, .iconst 4, 1), (52, .iload_n 1, 1), (53, .imul, 1), (54, .iadd, 1), (55, .iload_n 2, 1), (56, .iconst 1, 1), (57, .iadd, 1), (58, .iastore, 1), (59, .iload_n 3, 1), (60, .ireturn, 1)]
def cd_X11_mostOf_0 : List (Nat × Instr × Nat) := [(0, .iload_n 0, 1), (1, .ifCond .ne 8, 3), (4, .bipush 99, 2), (6, .goto 25, 3), (9, .iload_n 0, 1), (10, .iconst 1, 1), (11, .if_icmp .ne 8, 3), (14, .bipush 9, 2), (16, .goto 15, 3), (19, .iload_n 0, 1), (20, .iconst 3, 1), (21, .if_icmp .ne 8, 3), (24, .bipush 100, 2), (26, .goto 5, 3), (29, .bipush 50, 2), (31, .ireturn, 1)]
def cd_X11_set_0 : List (Nat × Instr × Nat) := [(0, .aload_n 0, 1), (1, .iconst 0, 1), (2, .putfield 37, 3), (5, .iload_n 1, 1), (6, .iconst 0, 1), (7, .iconst 4, 1), (8, .invokestatic 41, 3), (11, .ifCond .ne 9, 3), (14, .aload_n 0, 1), (15, .iconst 1, 1), (16, .invokevirtual 52, 3), (19, .ireturn, 1), (20, .iload_n 2, 1), (21, .iconst 0, 1), (22, .iload_n 1, 1), (23, .invokestatic 76, 3), (26, .invokestatic 41, 3), (29, .ifCond .ne 9, 3)]
def cd_X11_set_1 : List (Nat × Instr × Nat) := [(32, .aload_n 0, 1), (33, .iconst 2, 1), (34, .invokevirtual 52, 3), (37, .ireturn, 1), (38, .aload_n 0, 1), (39, .invokevirtual 59, 3), (42, .aload_n 0, 1), (43, .getfield 7, 3), (46, .bipush 11, 2), (48, .iload_n 1, 1), (49, .iadd, 1), (50, .iaload, 1), (51, .istore_n 3, 1), (52, .aload_n 0, 1), (53, .getfield 7, 3), (56, .bipush 11, 2), (58, .iload_n 1, 1), (59, .iadd, 1), (60, .iload_n 2, 1), (61, .iastore, 1), (62, .iload_n 3, 1), (63, .ireturn, 1)]
def cd_X11_playedToday_0 : List (Nat × Instr × Nat) := [(0, .iconst 0, 1), (1, .istore_n 1, 1), (2, .sipush 163, 3), (5, .istore_n 2, 1), (6, .iload_n 2, 1), (7, .sipush 213, 3), (10, .if_icmp .ge 26, 3), (13, .iload_n 1, 1), (14, .aload_n 0, 1), (15, .getfield 7, 3), (18, .iload_n 2, 1), (19, .iaload, 1), (20, .ifCond .ne 7, 3), (23, .iconst 0, 1), (24, .goto 4, 3), (27, .iconst 1, 1), (28, .iadd, 1), (29, .istore_n 1, 1), (30, .iinc 2 1, 3)]
def cd_X11_playedToday_1 : List (Nat × Instr × Nat) := [(33, .goto (-27), 3), (36, .iload_n 1, 1), (37, .ireturn, 1)]
def cd_X11_draw_0 : List (Nat × Instr × Nat) := [(0, .aload_n 0, 1), (1, .getfield 7, 3), (4, .bipush 6, 2), (6, .ldc2_w 79, 3), (9, .aload_n 0, 1), (10, .getfield 7, 3), (13, .bipush 6, 2), (15, .iaload, 1), (16, .i2l, 1), (17, .lmul, 1), (18, .ldc2_w 81, 3), (21, .ladd, 1), (22, .ldc2_w 83, 3), (25, .lrem, 1), (26, .l2i, 1), (27, .iastore, 1), (28, .aload_n 0, 1), (29, .getfield 7, 3)]
def cd_X11_draw_1 : List (Nat × Instr × Nat) := [(32, .bipush 6, 2), (34, .iaload, 1), (35, .ldc 85, 2), (37, .idiv, 1), (38, .iload_n 1, 1), (39, .irem, 1), (40, .ireturn, 1)]
def cd_X11_whoHas_0 : List (Nat × Instr × Nat) := [(0, .iconst (-1), 1), (1, .istore_n 2, 1), (2, .aload_n 0, 1), (3, .getfield 7, 3), (6, .iconst 1, 1), (7, .iaload, 1), (8, .iconst 1, 1), (9, .isub, 1), (10, .istore_n 3, 1), (11, .iload_n 3, 1), (12, .ifCond .lt 24, 3), (15, .aload_n 0, 1), (16, .iload_n 3, 1), (17, .invokevirtual 86, 3), (20, .iload_n 1, 1), (21, .if_icmp .ne 7, 3), (24, .iload_n 3, 1), (25, .goto 4, 3), (28, .iload_n 2, 1), (29, .istore_n 2, 1), (30, .iinc 3 (-1), 3)]
def cd_X11_whoHas_1 : List (Nat × Instr × Nat) := [(33, .goto (-22), 3), (36, .iload_n 2, 1), (37, .ireturn, 1)]
def cd_X11_freeCorners_0 : List (Nat × Instr × Nat) := [(0, .iconst 0, 1), (1, .istore_n 1, 1), (2, .iconst 0, 1), (3, .istore_n 2, 1), (4, .iload_n 2, 1), (5, .aload_n 0, 1), (6, .getfield 7, 3), (9, .iconst 0, 1), (10, .iaload, 1), (11, .if_icmp .ge 26, 3), (14, .iload_n 1, 1), (15, .aload_n 0, 1), (16, .iload_n 2, 1), (17, .invokevirtual 89, 3), (20, .iconst (-1), 1), (21, .if_icmp .ne 7, 3), (24, .iconst 1, 1), (25, .goto 4, 3), (28, .iconst 0, 1), (29, .iadd, 1), (30, .istore_n 1, 1), (31, .iinc 2 1, 3)]
def cd_X11_freeCorners_1 : List (Nat × Instr × Nat) := [(34, .goto (-30), 3), (37, .iload_n 1, 1), (38, .ireturn, 1)]
def cd_X11_freeAt_0 : List (Nat × Instr × Nat) := [(0, .iload_n 1, 1), (1, .istore_n 2, 1), (2, .iconst 0, 1), (3, .istore_n 3, 1), (4, .aload_n 0, 1), (5, .iload_n 3, 1), (6, .invokevirtual 89, 3), (9, .iconst (-1), 1), (10, .if_icmp .ne 7, 3), (13, .iload_n 2, 1), (14, .ifCond .le 26, 3), (17, .iload_n 2, 1), (18, .aload_n 0, 1), (19, .iload_n 3, 1), (20, .invokevirtual 89, 3), (23, .iconst (-1), 1), (24, .if_icmp .ne 7, 3), (27, .iconst 1, 1), (28, .goto 4, 3), (31, .iconst 0, 1)]
def cd_X11_freeAt_1 : List (Nat × Instr × Nat) := [(32, .isub, 1), (33, .istore_n 2, 1), (34, .iinc 3 1, 3), (37, .goto (-33), 3), (40, .iload_n 3, 1), (41, .ireturn, 1)]
def cd_X11_withCorner_0 : List (Nat × Instr × Nat) := [(0, .iconst 0, 1), (1, .istore_n 1, 1), (2, .iconst 0, 1), (3, .istore_n 2, 1), (4, .iload_n 2, 1), (5, .aload_n 0, 1), (6, .getfield 7, 3), (9, .iconst 1, 1), (10, .iaload, 1), (11, .if_icmp .ge 26, 3), (14, .iload_n 1, 1), (15, .aload_n 0, 1), (16, .iload_n 2, 1), (17, .invokevirtual 86, 3), (20, .iconst (-1), 1), (21, .if_icmp .ne 7, 3), (24, .iconst 0, 1), (25, .goto 4, 3), (28, .iconst 1, 1), (29, .iadd, 1), (30, .istore_n 1, 1), (31, .iinc 2 1, 3)]
def cd_X11_withCorner_1 : List (Nat × Instr × Nat) := [(34, .goto (-30), 3), (37, .iload_n 1, 1), (38, .ireturn, 1)]
def cd_X11_noCorners_0 : List (Nat × Instr × Nat) := [(0, .iconst 0, 1), (1, .istore_n 1, 1), (2, .iload_n 1, 1), (3, .aload_n 0, 1), (4, .getfield 7, 3), (7, .iconst 1, 1), (8, .iaload, 1), (9, .if_icmp .ge 24, 3), (12, .aload_n 0, 1), (13, .getfield 7, 3), (16, .bipush 56, 2), (18, .bipush 7, 2), (20, .iload_n 1, 1), (21, .imul, 1), (22, .iadd, 1), (23, .iconst 3, 1), (24, .iadd, 1), (25, .iconst 0, 1), (26, .iastore, 1), (27, .iinc 1 1, 3), (30, .goto (-28), 3)]
def cd_X11_noCorners_1 : List (Nat × Instr × Nat) := [(33, .return_, 1)]
def cd_X11_mayDraw_0 : List (Nat × Instr × Nat) := [(0, .aload_n 0, 1), (1, .getfield 7, 3), (4, .iconst 4, 1), (5, .iaload, 1), (6, .ifCond .ne 14, 3), (9, .aload_n 0, 1), (10, .invokevirtual 92, 3), (13, .ifCond .ne 7, 3), (16, .iconst 1, 1), (17, .goto 4, 3), (20, .iconst 0, 1), (21, .ireturn, 1)]
def cd_X11_drawLots_0 : List (Nat × Instr × Nat) := [(0, .aload_n 0, 1), (1, .invokevirtual 95, 3), (4, .iconst 0, 1), (5, .istore_n 1, 1), (6, .iload_n 1, 1), (7, .aload_n 0, 1), (8, .getfield 7, 3), (11, .iconst 1, 1), (12, .iaload, 1), (13, .if_icmp .ge 57, 3), (16, .aload_n 0, 1), (17, .iload_n 1, 1), (18, .iconst 1, 1), (19, .invokevirtual 45, 3), (22, .iconst 1, 1), (23, .if_icmp .ne 10, 3), (26, .aload_n 0, 1), (27, .invokevirtual 98, 3), (30, .goto 4, 3)]
def cd_X11_drawLots_1 : List (Nat × Instr × Nat) := [(33, .iconst 0, 1), (34, .istore_n 2, 1), (35, .iload_n 2, 1), (36, .ifCond .le 28, 3), (39, .aload_n 0, 1), (40, .getfield 7, 3), (43, .bipush 56, 2), (45, .bipush 7, 2), (47, .iload_n 1, 1), (48, .imul, 1), (49, .iadd, 1), (50, .iconst 3, 1), (51, .iadd, 1), (52, .aload_n 0, 1), (53, .aload_n 0, 1), (54, .iload_n 2, 1), (55, .invokevirtual 101, 3), (58, .invokevirtual 104, 3), (61, .iconst 1, 1), (62, .iadd, 1), (63, .iastore, 1)]
def cd_X11_drawLots_2 : List (Nat × Instr × Nat) := [(64, .iinc 1 1, 3), (67, .goto (-61), 3), (70, .return_, 1)]
def cd_X11_lots_0 : List (Nat × Instr × Nat) := [(0, .aload_n 0, 1), (1, .iconst 0, 1), (2, .putfield 37, 3), (5, .aload_n 0, 1), (6, .invokevirtual 107, 3), (9, .ifCond .ne 9, 3), (12, .aload_n 0, 1), (13, .iconst 1, 1), (14, .invokevirtual 52, 3), (17, .ireturn, 1), (18, .aload_n 0, 1), (19, .invokevirtual 59, 3), (22, .aload_n 0, 1), (23, .invokevirtual 111, 3), (26, .aload_n 0, 1), (27, .invokevirtual 114, 3), (30, .ireturn, 1)]
def cd_X11_weather_0 : List (Nat × Instr × Nat) := [(0, .aload_n 0, 1), (1, .iconst 0, 1), (2, .putfield 37, 3), (5, .aload_n 0, 1), (6, .invokevirtual 92, 3), (9, .ifCond .le 9, 3), (12, .aload_n 0, 1), (13, .iconst 1, 1), (14, .invokevirtual 52, 3), (17, .ireturn, 1), (18, .aload_n 0, 1), (19, .invokevirtual 59, 3), (22, .aload_n 0, 1), (23, .getfield 7, 3), (26, .iconst 5, 1), (27, .iaload, 1), (28, .istore_n 2, 1), (29, .aload_n 0, 1), (30, .getfield 7, 3)]
def cd_X11_weather_1 : List (Nat × Instr × Nat) := [(33, .iconst 5, 1), (34, .iload_n 1, 1), (35, .ifCond .eq 7, 3), (38, .iconst 1, 1), (39, .goto 4, 3), (42, .iconst 0, 1), (43, .iastore, 1), (44, .iload_n 2, 1), (45, .ireturn, 1)]
def cd_X11_isQuiet_0 : List (Nat × Instr × Nat) := [(0, .aload_n 0, 1), (1, .getfield 7, 3), (4, .iconst 4, 1), (5, .iaload, 1), (6, .aload_n 0, 1), (7, .iload_n 1, 1), (8, .iconst 2, 1), (9, .invokevirtual 56, 3), (12, .isub, 1), (13, .bipush 10, 2), (15, .iadd, 1), (16, .bipush 10, 2), (18, .irem, 1), (19, .aload_n 0, 1), (20, .iload_n 1, 1), (21, .iconst 3, 1), (22, .invokevirtual 56, 3), (25, .if_icmp .ge 7, 3), (28, .iconst 1, 1), (29, .goto 4, 3)]
def cd_X11_isQuiet_1 : List (Nat × Instr × Nat) := [(32, .iconst 0, 1), (33, .ireturn, 1)]
def cd_X11_areNear_0 : List (Nat × Instr × Nat) := [(0, .aload_n 0, 1), (1, .iload_n 1, 1), (2, .iconst 0, 1), (3, .invokevirtual 56, 3), (6, .aload_n 0, 1), (7, .iload_n 2, 1), (8, .iconst 0, 1), (9, .invokevirtual 56, 3), (12, .isub, 1), (13, .istore_n 3, 1), (14, .iload_n 3, 1), (15, .ifCond .ge 8, 3), (18, .iload_n 3, 1), (19, .ineg, 1), (20, .goto 4, 3), (23, .iload_n 3, 1), (24, .aload_n 0, 1), (25, .getfield 7, 3), (28, .bipush 11, 2), (30, .iaload, 1), (31, .if_icmp .gt 7, 3)]
def cd_X11_areNear_1 : List (Nat × Instr × Nat) := [(34, .iconst 1, 1), (35, .goto 4, 3), (38, .iconst 0, 1), (39, .ireturn, 1)]
def cd_X11_heardAt_0 : List (Nat × Instr × Nat) := [(0, .iconst 0, 1), (1, .istore_n 2, 1), (2, .aload_n 0, 1), (3, .getfield 7, 3), (6, .iconst 4, 1), (7, .iaload, 1), (8, .aload_n 0, 1), (9, .getfield 7, 3), (12, .bipush 12, 2), (14, .iaload, 1), (15, .if_icmp .le 20, 3), (18, .aload_n 0, 1), (19, .getfield 7, 3), (22, .iconst 4, 1), (23, .iaload, 1), (24, .aload_n 0, 1), (25, .getfield 7, 3), (28, .bipush 12, 2), (30, .iaload, 1), (31, .isub, 1)]
def cd_X11_heardAt_1 : List (Nat × Instr × Nat) := [(32, .goto 4, 3), (35, .iconst 0, 1), (36, .istore_n 3, 1), (37, .iconst 0, 1), (38, .istore 4, 2), (40, .iload 4, 2), (42, .aload_n 0, 1), (43, .getfield 7, 3), (46, .iconst 1, 1), (47, .iaload, 1), (48, .if_icmp .ge 94, 3), (51, .aload_n 0, 1), (52, .iload 4, 2), (54, .invokevirtual 86, 3), (57, .iconst (-1), 1), (58, .if_icmp .eq 21, 3), (61, .aload_n 0, 1), (62, .iload_n 1, 1), (63, .aload_n 0, 1)]
def cd_X11_heardAt_2 : List (Nat × Instr × Nat) := [(64, .iload 4, 2), (66, .invokevirtual 86, 3), (69, .invokevirtual 117, 3), (72, .ifCond .eq 7, 3), (75, .iconst 1, 1), (76, .goto 4, 3), (79, .iconst 0, 1), (80, .istore 5, 2), (82, .iload_n 3, 1), (83, .istore 6, 2), (85, .iload 6, 2), (87, .aload_n 0, 1), (88, .getfield 7, 3), (91, .iconst 4, 1), (92, .iaload, 1), (93, .if_icmp .gt 43, 3)]
def cd_X11_heardAt_3 : List (Nat × Instr × Nat) := [(96, .iload_n 2, 1), (97, .iload 5, 2), (99, .ifCond .eq 28, 3), (102, .aload_n 0, 1), (103, .iload 4, 2), (105, .iload 6, 2), (107, .invokevirtual 121, 3), (110, .iconst (-1), 1), (111, .if_icmp .eq 16, 3), (114, .iconst 1, 1), (115, .aload_n 0, 1), (116, .iload 4, 2), (118, .iload 6, 2), (120, .invokevirtual 121, 3), (123, .ishl, 1), (124, .goto 4, 3), (127, .iconst 0, 1)]
def cd_X11_heardAt_4 : List (Nat × Instr × Nat) := [(128, .ior, 1), (129, .istore_n 2, 1), (130, .iinc 6 1, 3), (133, .goto (-48), 3), (136, .iinc 4 1, 3), (139, .goto (-99), 3), (142, .iload_n 2, 1), (143, .ireturn, 1)]
def cd_X11_crewOf_0 : List (Nat × Instr × Nat) := [(0, .iconst 0, 1), (1, .istore_n 2, 1), (2, .iconst 0, 1), (3, .istore_n 3, 1), (4, .iload_n 3, 1), (5, .aload_n 0, 1), (6, .getfield 7, 3), (9, .iconst 2, 1), (10, .iaload, 1), (11, .if_icmp .ge 29, 3), (14, .iload_n 2, 1), (15, .aload_n 0, 1), (16, .iload_n 3, 1), (17, .iconst 0, 1), (18, .invokevirtual 73, 3), (21, .iconst 1, 1), (22, .isub, 1), (23, .iload_n 1, 1), (24, .if_icmp .ne 7, 3), (27, .iconst 1, 1), (28, .goto 4, 3), (31, .iconst 0, 1)]
def cd_X11_crewOf_1 : List (Nat × Instr × Nat) := [(32, .iadd, 1), (33, .istore_n 2, 1), (34, .iinc 3 1, 3), (37, .goto (-33), 3), (40, .iload_n 2, 1), (41, .ireturn, 1)]
def cd_X11_reason_0 : List (Nat × Instr × Nat) := [(0, .aload_n 0, 1), (1, .iload_n 1, 1), (2, .invokevirtual 86, 3), (5, .istore_n 3, 1), (6, .iload_n 3, 1), (7, .iconst (-1), 1), (8, .if_icmp .ne 5, 3), (11, .iconst 1, 1), (12, .ireturn, 1), (13, .aload_n 0, 1), (14, .iload_n 1, 1), (15, .invokevirtual 124, 3), (18, .ifCond .ne 5, 3), (21, .iconst 2, 1), (22, .ireturn, 1), (23, .aload_n 0, 1), (24, .iload_n 1, 1), (25, .iconst 2, 1), (26, .invokevirtual 45, 3), (29, .iload_n 2, 1), (30, .ishr, 1), (31, .iconst 1, 1)]
def cd_X11_reason_1 : List (Nat × Instr × Nat) := [(32, .iand, 1), (33, .ifCond .ne 5, 3), (36, .iconst 3, 1), (37, .ireturn, 1), (38, .aload_n 0, 1), (39, .iload_n 1, 1), (40, .aload_n 0, 1), (41, .getfield 7, 3), (44, .iconst 4, 1), (45, .iaload, 1), (46, .invokevirtual 121, 3), (49, .iconst (-1), 1), (50, .if_icmp .eq 5, 3), (53, .iconst 4, 1), (54, .ireturn, 1), (55, .aload_n 0, 1), (56, .iload_n 3, 1), (57, .invokevirtual 127, 3), (60, .ifCond .eq 7, 3), (63, .iconst 5, 1)]
def cd_X11_reason_2 : List (Nat × Instr × Nat) := [(64, .goto 22, 3), (67, .aload_n 0, 1), (68, .iload_n 3, 1), (69, .invokevirtual 130, 3), (72, .iload_n 2, 1), (73, .ishr, 1), (74, .iconst 1, 1), (75, .iand, 1), (76, .iconst 1, 1), (77, .if_icmp .ne 8, 3), (80, .bipush 6, 2), (82, .goto 4, 3), (85, .iconst 0, 1), (86, .ireturn, 1)]
def cd_X11_othersNear_0 : List (Nat × Instr × Nat) := [(0, .iconst 0, 1), (1, .istore_n 2, 1), (2, .iconst 0, 1), (3, .istore_n 3, 1), (4, .iload_n 3, 1), (5, .aload_n 0, 1), (6, .getfield 7, 3), (9, .iconst 1, 1), (10, .iaload, 1), (11, .if_icmp .ge 66, 3), (14, .iload_n 3, 1), (15, .iload_n 1, 1), (16, .if_icmp .eq 22, 3), (19, .aload_n 0, 1), (20, .iload_n 3, 1), (21, .aload_n 0, 1), (22, .getfield 7, 3), (25, .iconst 4, 1), (26, .iaload, 1), (27, .invokevirtual 121, 3), (30, .iconst (-1), 1), (31, .if_icmp .eq 7, 3)]
def cd_X11_othersNear_1 : List (Nat × Instr × Nat) := [(34, .iconst 1, 1), (35, .goto 4, 3), (38, .iconst 0, 1), (39, .istore 4, 2), (41, .iload_n 2, 1), (42, .iload 4, 2), (44, .ifCond .eq 24, 3), (47, .aload_n 0, 1), (48, .aload_n 0, 1), (49, .iload_n 1, 1), (50, .invokevirtual 86, 3), (53, .aload_n 0, 1), (54, .iload_n 3, 1), (55, .invokevirtual 86, 3), (58, .invokevirtual 117, 3), (61, .ifCond .eq 7, 3)]
def cd_X11_othersNear_2 : List (Nat × Instr × Nat) := [(64, .iconst 1, 1), (65, .goto 4, 3), (68, .iconst 0, 1), (69, .iadd, 1), (70, .istore_n 2, 1), (71, .iinc 3 1, 3), (74, .goto (-70), 3), (77, .iload_n 2, 1), (78, .ireturn, 1)]
def cd_X11_takings_0 : List (Nat × Instr × Nat) := [(0, .bipush 10, 2), (2, .iconst 2, 1), (3, .iload_n 2, 1), (4, .imul, 1), (5, .isub, 1), (6, .istore_n 3, 1), (7, .aload_n 0, 1), (8, .aload_n 0, 1), (9, .iload_n 1, 1), (10, .invokevirtual 86, 3), (13, .iconst 1, 1), (14, .invokevirtual 56, 3), (17, .iload_n 3, 1), (18, .ifCond .ge 7, 3), (21, .iconst 0, 1), (22, .goto 4, 3), (25, .iload_n 3, 1), (26, .imul, 1), (27, .bipush 10, 2), (29, .idiv, 1), (30, .istore 4, 2)]
def cd_X11_takings_1 : List (Nat × Instr × Nat) := [(32, .aload_n 0, 1), (33, .getfield 7, 3), (36, .iconst 5, 1), (37, .iaload, 1), (38, .iconst 1, 1), (39, .if_icmp .ne 10, 3), (42, .iload 4, 2), (44, .iconst 2, 1), (45, .idiv, 1), (46, .goto 5, 3), (49, .iload 4, 2), (51, .ireturn, 1)]
def cd_X11_plays_0 : List (Nat × Instr × Nat) := [(0, .aload_n 0, 1), (1, .iload_n 1, 1), (2, .aload_n 0, 1), (3, .iload_n 1, 1), (4, .invokevirtual 133, 3), (7, .invokevirtual 136, 3), (10, .istore_n 3, 1), (11, .iload_n 3, 1), (12, .aload_n 0, 1), (13, .getfield 7, 3), (16, .bipush 13, 2), (18, .iaload, 1), (19, .imul, 1), (20, .bipush 100, 2), (22, .idiv, 1), (23, .istore 4, 2), (25, .iload 4, 2), (27, .aload_n 0, 1), (28, .getfield 7, 3), (31, .bipush 14, 2)]
def cd_X11_plays_1 : List (Nat × Instr × Nat) := [(33, .iaload, 1), (34, .imul, 1), (35, .bipush 100, 2), (37, .idiv, 1), (38, .istore 5, 2), (40, .iload_n 3, 1), (41, .iload 4, 2), (43, .isub, 1), (44, .aload_n 0, 1), (45, .iload_n 1, 1), (46, .iconst 0, 1), (47, .invokevirtual 45, 3), (50, .imul, 1), (51, .bipush 100, 2), (53, .idiv, 1), (54, .istore 6, 2), (56, .aload_n 0, 1), (57, .getfield 7, 3), (60, .bipush 10, 2), (62, .dup2, 1), (63, .iaload, 1)]
def cd_X11_plays_2 : List (Nat × Instr × Nat) := [(64, .iload 5, 2), (66, .iadd, 1), (67, .iastore, 1), (68, .aload_n 0, 1), (69, .getfield 7, 3), (72, .bipush 9, 2), (74, .dup2, 1), (75, .iaload, 1), (76, .iload 4, 2), (78, .iload 5, 2), (80, .isub, 1), (81, .iadd, 1), (82, .iastore, 1), (83, .aload_n 0, 1), (84, .getfield 7, 3), (87, .bipush 56, 2), (89, .bipush 7, 2), (91, .iload_n 1, 1), (92, .imul, 1), (93, .iadd, 1), (94, .iconst 5, 1), (95, .iadd, 1)]
def cd_X11_plays_3 : List (Nat × Instr × Nat) := [(96, .dup2, 1), (97, .iaload, 1), (98, .iload 6, 2), (100, .iadd, 1), (101, .iastore, 1), (102, .aload_n 0, 1), (103, .getfield 7, 3), (106, .bipush 56, 2), (108, .bipush 7, 2), (110, .iload_n 1, 1), (111, .imul, 1), (112, .iadd, 1), (113, .iconst 4, 1), (114, .iadd, 1), (115, .dup2, 1), (116, .iaload, 1), (117, .iload_n 3, 1), (118, .iload 4, 2), (120, .isub, 1), (121, .iload 6, 2), (123, .isub, 1), (124, .iadd, 1), (125, .iastore, 1), (126, .aload_n 0, 1), (127, .getfield 7, 3)]
def cd_X11_plays_4 : List (Nat × Instr × Nat) := [(130, .bipush 56, 2), (132, .bipush 7, 2), (134, .iload_n 1, 1), (135, .imul, 1), (136, .iadd, 1), (137, .bipush 6, 2), (139, .iadd, 1), (140, .dup2, 1), (141, .iaload, 1), (142, .iload_n 3, 1), (143, .iadd, 1), (144, .iastore, 1), (145, .aload_n 0, 1), (146, .getfield 7, 3), (149, .bipush 8, 2), (151, .dup2, 1), (152, .iaload, 1), (153, .iload_n 3, 1), (154, .iadd, 1), (155, .iastore, 1), (156, .aload_n 0, 1), (157, .getfield 7, 3)]
def cd_X11_plays_5 : List (Nat × Instr × Nat) := [(160, .bipush 7, 2), (162, .dup2, 1), (163, .iaload, 1), (164, .iconst 1, 1), (165, .iadd, 1), (166, .iastore, 1), (167, .aload_n 0, 1), (168, .getfield 7, 3), (171, .sipush 163, 3), (174, .bipush 10, 2), (176, .iload_n 1, 1), (177, .imul, 1), (178, .iadd, 1), (179, .aload_n 0, 1), (180, .getfield 7, 3), (183, .iconst 4, 1), (184, .iaload, 1), (185, .iadd, 1), (186, .iload_n 2, 1), (187, .iconst 1, 1), (188, .iadd, 1), (189, .iastore, 1), (190, .iconst 0, 1), (191, .istore 7, 2)]
def cd_X11_plays_6 : List (Nat × Instr × Nat) := [(193, .iload 7, 2), (195, .aload_n 0, 1), (196, .getfield 7, 3), (199, .iconst 2, 1), (200, .iaload, 1), (201, .if_icmp .ge 58, 3), (204, .aload_n 0, 1), (205, .iload 7, 2), (207, .iconst 0, 1), (208, .invokevirtual 73, 3), (211, .iconst 1, 1), (212, .isub, 1), (213, .iload_n 1, 1), (214, .if_icmp .ne 39, 3), (217, .aload_n 0, 1), (218, .getfield 7, 3), (221, .bipush 123, 2), (223, .iconst 5, 1)]
def cd_X11_plays_7 : List (Nat × Instr × Nat) := [(224, .iload 7, 2), (226, .imul, 1), (227, .iadd, 1), (228, .iload_n 1, 1), (229, .iadd, 1), (230, .dup2, 1), (231, .iaload, 1), (232, .iconst 1, 1), (233, .iadd, 1), (234, .iastore, 1), (235, .aload_n 0, 1), (236, .getfield 7, 3), (239, .bipush 91, 2), (241, .iconst 4, 1), (242, .iload 7, 2), (244, .imul, 1), (245, .iadd, 1), (246, .iconst 3, 1), (247, .iadd, 1), (248, .dup2, 1), (249, .iaload, 1), (250, .iconst 1, 1), (251, .iadd, 1), (252, .iastore, 1), (253, .iinc 7 1, 3)]
def cd_X11_plays_8 : List (Nat × Instr × Nat) := [(256, .goto (-63), 3), (259, .iload_n 3, 1), (260, .ireturn, 1)]
def cd_X11_play_0 : List (Nat × Instr × Nat) := [(0, .aload_n 0, 1), (1, .iconst 0, 1), (2, .putfield 37, 3), (5, .aload_n 0, 1), (6, .iload_n 1, 1), (7, .invokevirtual 62, 3), (10, .ifCond .ne 9, 3), (13, .aload_n 0, 1), (14, .iconst 1, 1), (15, .invokevirtual 52, 3), (18, .ireturn, 1), (19, .iload_n 2, 1), (20, .iconst 0, 1), (21, .bipush 9, 2), (23, .invokestatic 41, 3), (26, .ifCond .ne 9, 3), (29, .aload_n 0, 1), (30, .iconst 2, 1), (31, .invokevirtual 52, 3)]
def cd_X11_play_1 : List (Nat × Instr × Nat) := [(34, .ireturn, 1), (35, .aload_n 0, 1), (36, .iload_n 1, 1), (37, .iload_n 2, 1), (38, .invokevirtual 139, 3), (41, .ifCond .eq 9, 3), (44, .aload_n 0, 1), (45, .iconst 3, 1), (46, .invokevirtual 52, 3), (49, .ireturn, 1), (50, .aload_n 0, 1), (51, .invokevirtual 59, 3), (54, .aload_n 0, 1), (55, .iload_n 1, 1), (56, .iload_n 2, 1), (57, .invokevirtual 142, 3), (60, .ireturn, 1)]
def cd_X11_timeAt_0 : List (Nat × Instr × Nat) := [(0, .aload_n 0, 1), (1, .getfield 7, 3), (4, .bipush 123, 2), (6, .iconst 5, 1), (7, .iload_n 1, 1), (8, .imul, 1), (9, .iadd, 1), (10, .iload_n 2, 1), (11, .iadd, 1), (12, .iaload, 1), (13, .ireturn, 1)]
def cd_X11_timeToday_0 : List (Nat × Instr × Nat) := [(0, .iconst 0, 1), (1, .istore_n 2, 1), (2, .iconst 0, 1), (3, .istore_n 3, 1), (4, .iload_n 3, 1), (5, .iconst 5, 1), (6, .if_icmp .ge 18, 3), (9, .iload_n 2, 1), (10, .aload_n 0, 1), (11, .iload_n 1, 1), (12, .iload_n 3, 1), (13, .invokevirtual 145, 3), (16, .iadd, 1), (17, .istore_n 2, 1), (18, .iinc 3 1, 3), (21, .goto (-17), 3), (24, .iload_n 2, 1), (25, .ireturn, 1)]
def cd_X11_sharePot_0 : List (Nat × Instr × Nat) := [(0, .aload_n 0, 1), (1, .iload_n 1, 1), (2, .iconst 4, 1), (3, .invokevirtual 45, 3), (6, .istore_n 2, 1), (7, .iconst 0, 1), (8, .istore_n 3, 1), (9, .iconst 0, 1), (10, .istore 4, 2), (12, .iload 4, 2), (14, .aload_n 0, 1), (15, .getfield 7, 3), (18, .iconst 2, 1), (19, .iaload, 1), (20, .if_icmp .ge 19, 3), (23, .iload_n 3, 1), (24, .aload_n 0, 1), (25, .iload 4, 2), (27, .iload_n 1, 1), (28, .invokevirtual 145, 3), (31, .iadd, 1)]
def cd_X11_sharePot_1 : List (Nat × Instr × Nat) := [(32, .istore_n 3, 1), (33, .iinc 4 1, 3), (36, .goto (-24), 3), (39, .iload_n 2, 1), (40, .ifCond .eq 7, 3), (43, .iload_n 3, 1), (44, .ifCond .ne 4, 3), (47, .return_, 1), (48, .iload_n 2, 1), (49, .istore 4, 2), (51, .iconst 0, 1), (52, .istore 5, 2), (54, .iload 5, 2), (56, .aload_n 0, 1), (57, .getfield 7, 3), (60, .iconst 2, 1), (61, .iaload, 1), (62, .if_icmp .ge 66, 3)]
def cd_X11_sharePot_2 : List (Nat × Instr × Nat) := [(65, .iload_n 2, 1), (66, .aload_n 0, 1), (67, .iload 5, 2), (69, .iload_n 1, 1), (70, .invokevirtual 145, 3), (73, .imul, 1), (74, .iload_n 3, 1), (75, .idiv, 1), (76, .istore 6, 2), (78, .aload_n 0, 1), (79, .getfield 25, 3), (82, .iload 5, 2), (84, .iload_n 2, 1), (85, .aload_n 0, 1), (86, .iload 5, 2), (88, .iload_n 1, 1), (89, .invokevirtual 145, 3), (92, .imul, 1), (93, .iload_n 3, 1), (94, .irem, 1), (95, .iastore, 1)]
def cd_X11_sharePot_3 : List (Nat × Instr × Nat) := [(96, .aload_n 0, 1), (97, .getfield 7, 3), (100, .bipush 91, 2), (102, .iconst 4, 1), (103, .iload 5, 2), (105, .imul, 1), (106, .iadd, 1), (107, .iconst 1, 1), (108, .iadd, 1), (109, .dup2, 1), (110, .iaload, 1), (111, .iload 6, 2), (113, .iadd, 1), (114, .iastore, 1), (115, .iload 4, 2), (117, .iload 6, 2), (119, .isub, 1), (120, .istore 4, 2), (122, .iinc 5 1, 3), (125, .goto (-71), 3)]
def cd_X11_sharePot_4 : List (Nat × Instr × Nat) := [(128, .iload 4, 2), (130, .ifCond .le 84, 3), (133, .iconst 0, 1), (134, .istore 5, 2), (136, .iconst 1, 1), (137, .istore 6, 2), (139, .iload 6, 2), (141, .aload_n 0, 1), (142, .getfield 7, 3), (145, .iconst 2, 1), (146, .iaload, 1), (147, .if_icmp .ge 35, 3), (150, .aload_n 0, 1), (151, .getfield 25, 3), (154, .iload 6, 2), (156, .iaload, 1), (157, .aload_n 0, 1), (158, .getfield 25, 3)]
def cd_X11_sharePot_5 : List (Nat × Instr × Nat) := [(161, .iload 5, 2), (163, .iaload, 1), (164, .if_icmp .le 8, 3), (167, .iload 6, 2), (169, .goto 5, 3), (172, .iload 5, 2), (174, .istore 5, 2), (176, .iinc 6 1, 3), (179, .goto (-40), 3), (182, .aload_n 0, 1), (183, .getfield 7, 3), (186, .bipush 91, 2), (188, .iconst 4, 1), (189, .iload 5, 2), (191, .imul, 1)]
def cd_X11_sharePot_6 : List (Nat × Instr × Nat) := [(192, .iadd, 1), (193, .iconst 1, 1), (194, .iadd, 1), (195, .dup2, 1), (196, .iaload, 1), (197, .iconst 1, 1), (198, .iadd, 1), (199, .iastore, 1), (200, .aload_n 0, 1), (201, .getfield 25, 3), (204, .iload 5, 2), (206, .iconst (-1), 1), (207, .iastore, 1), (208, .iinc 4 (-1), 3), (211, .goto (-83), 3), (214, .aload_n 0, 1), (215, .getfield 7, 3), (218, .bipush 56, 2), (220, .bipush 7, 2), (222, .iload_n 1, 1), (223, .imul, 1)]
def cd_X11_sharePot_7 : List (Nat × Instr × Nat) := [(224, .iadd, 1), (225, .iconst 4, 1), (226, .iadd, 1), (227, .iconst 0, 1), (228, .iastore, 1), (229, .return_, 1)]
def cd_X11_endDay_0 : List (Nat × Instr × Nat) := [(0, .iconst 0, 1), (1, .istore_n 1, 1), (2, .iload_n 1, 1), (3, .aload_n 0, 1), (4, .getfield 7, 3), (7, .iconst 1, 1), (8, .iaload, 1), (9, .if_icmp .ge 14, 3), (12, .aload_n 0, 1), (13, .iload_n 1, 1), (14, .invokevirtual 148, 3), (17, .iinc 1 1, 3), (20, .goto (-18), 3), (23, .iconst 0, 1), (24, .istore_n 1, 1), (25, .iload_n 1, 1), (26, .aload_n 0, 1), (27, .getfield 7, 3), (30, .iconst 2, 1), (31, .iaload, 1)]
def cd_X11_endDay_1 : List (Nat × Instr × Nat) := [(32, .if_icmp .ge 112, 3), (35, .aload_n 0, 1), (36, .getfield 7, 3), (39, .iconst 5, 1), (40, .iaload, 1), (41, .iconst 1, 1), (42, .if_icmp .ne 102, 3), (45, .aload_n 0, 1), (46, .iload_n 1, 1), (47, .invokevirtual 152, 3), (50, .iconst 3, 1), (51, .if_icmp .lt 7, 3), (54, .iconst 0, 1), (55, .goto 37, 3), (58, .aload_n 0, 1), (59, .getfield 7, 3), (62, .bipush 15, 2)]
def cd_X11_endDay_2 : List (Nat × Instr × Nat) := [(64, .iaload, 1), (65, .aload_n 0, 1), (66, .getfield 7, 3), (69, .bipush 10, 2), (71, .iaload, 1), (72, .if_icmp .ge 13, 3), (75, .aload_n 0, 1), (76, .getfield 7, 3), (79, .bipush 15, 2), (81, .iaload, 1), (82, .goto 10, 3), (85, .aload_n 0, 1), (86, .getfield 7, 3), (89, .bipush 10, 2), (91, .iaload, 1), (92, .istore_n 2, 1), (93, .aload_n 0, 1), (94, .getfield 7, 3)]
def cd_X11_endDay_3 : List (Nat × Instr × Nat) := [(97, .bipush 91, 2), (99, .iconst 4, 1), (100, .iload_n 1, 1), (101, .imul, 1), (102, .iadd, 1), (103, .iconst 1, 1), (104, .iadd, 1), (105, .dup2, 1), (106, .iaload, 1), (107, .iload_n 2, 1), (108, .iadd, 1), (109, .iastore, 1), (110, .aload_n 0, 1), (111, .getfield 7, 3), (114, .bipush 91, 2), (116, .iconst 4, 1), (117, .iload_n 1, 1), (118, .imul, 1), (119, .iadd, 1), (120, .iconst 2, 1), (121, .iadd, 1), (122, .dup2, 1), (123, .iaload, 1), (124, .iload_n 2, 1), (125, .iadd, 1), (126, .iastore, 1), (127, .aload_n 0, 1)]
def cd_X11_endDay_4 : List (Nat × Instr × Nat) := [(128, .getfield 7, 3), (131, .bipush 10, 2), (133, .dup2, 1), (134, .iaload, 1), (135, .iload_n 2, 1), (136, .isub, 1), (137, .iastore, 1), (138, .iinc 1 1, 3), (141, .goto (-116), 3), (144, .return_, 1)]
def cd_X11_goOn_0 : List (Nat × Instr × Nat) := [(0, .aload_n 0, 1), (1, .getfield 7, 3), (4, .iconst 4, 1), (5, .dup2, 1), (6, .iaload, 1), (7, .iconst 1, 1), (8, .iadd, 1), (9, .iastore, 1), (10, .aload_n 0, 1), (11, .getfield 7, 3), (14, .iconst 4, 1), (15, .iaload, 1), (16, .bipush 10, 2), (18, .if_icmp .ge 4, 3), (21, .return_, 1), (22, .aload_n 0, 1), (23, .invokevirtual 155, 3), (26, .aload_n 0, 1), (27, .getfield 7, 3), (30, .iconst 3, 1), (31, .dup2, 1)]
def cd_X11_goOn_1 : List (Nat × Instr × Nat) := [(32, .iaload, 1), (33, .iconst 1, 1), (34, .iadd, 1), (35, .iastore, 1), (36, .aload_n 0, 1), (37, .getfield 7, 3), (40, .iconst 4, 1), (41, .iconst 0, 1), (42, .iastore, 1), (43, .aload_n 0, 1), (44, .getfield 7, 3), (47, .iconst 5, 1), (48, .iconst 0, 1), (49, .iastore, 1), (50, .bipush 123, 2), (52, .istore_n 1, 1), (53, .iload_n 1, 1), (54, .sipush 213, 3), (57, .if_icmp .ge 16, 3), (60, .aload_n 0, 1), (61, .getfield 7, 3)]
def cd_X11_goOn_2 : List (Nat × Instr × Nat) := [(64, .iload_n 1, 1), (65, .iconst 0, 1), (66, .iastore, 1), (67, .iinc 1 1, 3), (70, .goto (-17), 3), (73, .aload_n 0, 1), (74, .invokevirtual 95, 3), (77, .return_, 1)]
def cd_X11_next_0 : List (Nat × Instr × Nat) := [(0, .aload_n 0, 1), (1, .iconst 0, 1), (2, .putfield 37, 3), (5, .aload_n 0, 1), (6, .invokevirtual 59, 3), (9, .aload_n 0, 1), (10, .invokevirtual 158, 3), (13, .aload_n 0, 1), (14, .getfield 7, 3), (17, .iconst 4, 1), (18, .iaload, 1), (19, .ireturn, 1)]
def cd_X11_append_0 : List (Nat × Instr × Nat) := [(0, .aload_n 0, 1), (1, .iconst 0, 1), (2, .putfield 37, 3), (5, .iload_n 1, 1), (6, .bipush 33, 2), (8, .bipush 126, 2), (10, .invokestatic 41, 3), (13, .ifCond .ne 9, 3), (16, .aload_n 0, 1), (17, .iconst 1, 1), (18, .invokevirtual 52, 3), (21, .ireturn, 1), (22, .aload_n 0, 1), (23, .getfield 161, 3), (26, .bipush 60, 2), (28, .if_icmp .ne 9, 3), (31, .aload_n 0, 1)]
def cd_X11_append_1 : List (Nat × Instr × Nat) := [(32, .iconst 2, 1), (33, .invokevirtual 52, 3), (36, .ireturn, 1), (37, .aload_n 0, 1), (38, .getfield 19, 3), (41, .aload_n 0, 1), (42, .getfield 161, 3), (45, .iload_n 1, 1), (46, .iastore, 1), (47, .aload_n 0, 1), (48, .dup, 1), (49, .getfield 161, 3), (52, .iconst 1, 1), (53, .iadd, 1), (54, .putfield 161, 3), (57, .aload_n 0, 1), (58, .getfield 161, 3), (61, .ireturn, 1)]
def cd_X11_clearBuffer_0 : List (Nat × Instr × Nat) := [(0, .aload_n 0, 1), (1, .iconst 0, 1), (2, .putfield 37, 3), (5, .aload_n 0, 1), (6, .getfield 161, 3), (9, .istore_n 1, 1), (10, .aload_n 0, 1), (11, .iconst 0, 1), (12, .putfield 161, 3), (15, .iload_n 1, 1), (16, .ireturn, 1)]
def cd_X11_goes_0 : List (Nat × Instr × Nat) := [(0, .aload_n 0, 1), (1, .iload_n 1, 1), (2, .ifCond .eq 7, 3), (5, .iload_n 2, 1), (6, .goto 7, 3), (9, .aload_n 0, 1), (10, .getfield 164, 3), (13, .putfield 164, 3), (16, .iload_n 1, 1), (17, .ireturn, 1)]
def cd_X11_ends_0 : List (Nat × Instr × Nat) := [(0, .iload_n 1, 1), (1, .ifCond .eq 23, 3), (4, .aload_n 0, 1), (5, .getfield 22, 3), (8, .aload_n 0, 1), (9, .getfield 167, 3), (12, .iload_n 2, 1), (13, .iastore, 1), (14, .aload_n 0, 1), (15, .dup, 1), (16, .getfield 167, 3), (19, .iconst 1, 1), (20, .iadd, 1), (21, .putfield 167, 3), (24, .aload_n 0, 1), (25, .iload_n 1, 1), (26, .bipush 20, 2), (28, .invokevirtual 170, 3), (31, .ireturn, 1)]
def cd_X11_begins_0 : List (Nat × Instr × Nat) := [(0, .iload_n 1, 1), (1, .lookupswitch 73 #[(100, 57), (108, 43), (110, 65), (119, 50)], 43)]
def cd_X11_begins_1 : List (Nat × Instr × Nat) := [(44, .aload_n 0, 1), (45, .iconst 1, 1), (46, .iconst 1, 1), (47, .invokevirtual 170, 3), (50, .ireturn, 1), (51, .aload_n 0, 1), (52, .iconst 1, 1), (53, .iconst 4, 1), (54, .invokevirtual 170, 3), (57, .ireturn, 1), (58, .aload_n 0, 1), (59, .iconst 1, 1), (60, .bipush 6, 2), (62, .invokevirtual 170, 3)]
def cd_X11_begins_2 : List (Nat × Instr × Nat) := [(65, .ireturn, 1), (66, .aload_n 0, 1), (67, .iconst 1, 1), (68, .bipush 8, 2), (70, .invokevirtual 170, 3), (73, .ireturn, 1), (74, .aload_n 0, 1), (75, .iload_n 1, 1), (76, .bipush 48, 2), (78, .isub, 1), (79, .putfield 174, 3), (82, .aload_n 0, 1), (83, .aload_n 0, 1), (84, .getfield 174, 3), (87, .iconst 0, 1), (88, .iconst 4, 1), (89, .invokestatic 41, 3), (92, .bipush 11, 2), (94, .invokevirtual 170, 3)]
def cd_X11_begins_3 : List (Nat × Instr × Nat) := [(97, .ireturn, 1)]
def cd_X11_takes_0 : List (Nat × Instr × Nat) := [(0, .aload_n 0, 1), (1, .getfield 164, 3), (4, .tableswitch 293 0 12 #[68, 74, 91, 108, 125, 142, 159, 177, 194, 212, 230, 247, 265], 68)]
def cd_X11_takes_1 : List (Nat × Instr × Nat) := []
def cd_X11_takes_2 : List (Nat × Instr × Nat) := [(72, .aload_n 0, 1), (73, .iload_n 1, 1), (74, .invokevirtual 177, 3), (77, .ireturn, 1), (78, .aload_n 0, 1), (79, .iload_n 1, 1), (80, .bipush 111, 2), (82, .if_icmp .ne 7, 3), (85, .iconst 1, 1), (86, .goto 4, 3), (89, .iconst 0, 1), (90, .iconst 2, 1), (91, .invokevirtual 170, 3), (94, .ireturn, 1), (95, .aload_n 0, 1)]
def cd_X11_takes_3 : List (Nat × Instr × Nat) := [(96, .iload_n 1, 1), (97, .bipush 116, 2), (99, .if_icmp .ne 7, 3), (102, .iconst 1, 1), (103, .goto 4, 3), (106, .iconst 0, 1), (107, .iconst 3, 1), (108, .invokevirtual 170, 3), (111, .ireturn, 1), (112, .aload_n 0, 1), (113, .iload_n 1, 1), (114, .bipush 115, 2), (116, .if_icmp .ne 7, 3), (119, .iconst 1, 1), (120, .goto 4, 3), (123, .iconst 0, 1), (124, .iconst 0, 1), (125, .invokevirtual 180, 3)]
def cd_X11_takes_4 : List (Nat × Instr × Nat) := [(128, .ireturn, 1), (129, .aload_n 0, 1), (130, .iload_n 1, 1), (131, .bipush 101, 2), (133, .if_icmp .ne 7, 3), (136, .iconst 1, 1), (137, .goto 4, 3), (140, .iconst 0, 1), (141, .iconst 5, 1), (142, .invokevirtual 170, 3), (145, .ireturn, 1), (146, .aload_n 0, 1), (147, .iload_n 1, 1), (148, .bipush 116, 2), (150, .if_icmp .ne 7, 3), (153, .iconst 1, 1), (154, .goto 4, 3), (157, .iconst 0, 1), (158, .iconst 1, 1), (159, .invokevirtual 180, 3)]
def cd_X11_takes_5 : List (Nat × Instr × Nat) := [(162, .ireturn, 1), (163, .aload_n 0, 1), (164, .iload_n 1, 1), (165, .bipush 114, 2), (167, .if_icmp .ne 7, 3), (170, .iconst 1, 1), (171, .goto 4, 3), (174, .iconst 0, 1), (175, .bipush 7, 2), (177, .invokevirtual 170, 3), (180, .ireturn, 1), (181, .aload_n 0, 1), (182, .iload_n 1, 1), (183, .bipush 121, 2), (185, .if_icmp .ne 7, 3), (188, .iconst 1, 1), (189, .goto 4, 3)]
def cd_X11_takes_6 : List (Nat × Instr × Nat) := [(192, .iconst 0, 1), (193, .iconst 2, 1), (194, .invokevirtual 180, 3), (197, .ireturn, 1), (198, .aload_n 0, 1), (199, .iload_n 1, 1), (200, .bipush 101, 2), (202, .if_icmp .ne 7, 3), (205, .iconst 1, 1), (206, .goto 4, 3), (209, .iconst 0, 1), (210, .bipush 9, 2), (212, .invokevirtual 170, 3), (215, .ireturn, 1), (216, .aload_n 0, 1), (217, .iload_n 1, 1), (218, .bipush 120, 2), (220, .if_icmp .ne 7, 3), (223, .iconst 1, 1)]
def cd_X11_takes_7 : List (Nat × Instr × Nat) := [(224, .goto 4, 3), (227, .iconst 0, 1), (228, .bipush 10, 2), (230, .invokevirtual 170, 3), (233, .ireturn, 1), (234, .aload_n 0, 1), (235, .iload_n 1, 1), (236, .bipush 116, 2), (238, .if_icmp .ne 7, 3), (241, .iconst 1, 1), (242, .goto 4, 3), (245, .iconst 0, 1), (246, .iconst 3, 1), (247, .invokevirtual 180, 3), (250, .ireturn, 1), (251, .aload_n 0, 1), (252, .iload_n 1, 1), (253, .bipush 58, 2), (255, .if_icmp .ne 7, 3)]
def cd_X11_takes_8 : List (Nat × Instr × Nat) := [(258, .iconst 1, 1), (259, .goto 4, 3), (262, .iconst 0, 1), (263, .bipush 12, 2), (265, .invokevirtual 170, 3), (268, .ireturn, 1), (269, .aload_n 0, 1), (270, .iload_n 1, 1), (271, .bipush 97, 2), (273, .bipush 106, 2), (275, .invokestatic 41, 3), (278, .bipush 10, 2), (280, .bipush 10, 2), (282, .aload_n 0, 1), (283, .getfield 174, 3), (286, .imul, 1), (287, .iadd, 1)]
def cd_X11_takes_9 : List (Nat × Instr × Nat) := [(288, .iload_n 1, 1), (289, .iadd, 1), (290, .bipush 97, 2), (292, .isub, 1), (293, .invokevirtual 180, 3), (296, .ireturn, 1), (297, .aload_n 0, 1), (298, .iload_n 1, 1), (299, .bipush 59, 2), (301, .if_icmp .ne 7, 3), (304, .iconst 1, 1), (305, .goto 4, 3), (308, .iconst 0, 1), (309, .iconst 0, 1), (310, .invokevirtual 170, 3), (313, .ireturn, 1)]
def cd_X11_read_0 : List (Nat × Instr × Nat) := [(0, .aload_n 0, 1), (1, .iconst 0, 1), (2, .putfield 164, 3), (5, .aload_n 0, 1), (6, .iconst 0, 1), (7, .putfield 167, 3), (10, .iconst 0, 1), (11, .istore_n 1, 1), (12, .iload_n 1, 1), (13, .aload_n 0, 1), (14, .getfield 161, 3), (17, .if_icmp .ge 22, 3), (20, .aload_n 0, 1), (21, .aload_n 0, 1), (22, .getfield 19, 3), (25, .iload_n 1, 1), (26, .iaload, 1), (27, .invokevirtual 183, 3), (30, .ifCond .eq 9, 3)]
def cd_X11_read_1 : List (Nat × Instr × Nat) := [(33, .iinc 1 1, 3), (36, .goto (-24), 3), (39, .iload_n 1, 1), (40, .ireturn, 1)]
def cd_X11_firstError_0 : List (Nat × Instr × Nat) := [(0, .aload_n 0, 1), (1, .iconst 0, 1), (2, .putfield 37, 3), (5, .aload_n 0, 1), (6, .invokevirtual 186, 3), (9, .ireturn, 1)]
def cd_X11_mayDo_0 : List (Nat × Instr × Nat) := [(0, .iload_n 1, 1), (1, .ifCond .ne 8, 3), (4, .aload_n 0, 1), (5, .invokevirtual 107, 3), (8, .ireturn, 1), (9, .iload_n 1, 1), (10, .iconst 3, 1), (11, .if_icmp .ge 16, 3), (14, .aload_n 0, 1), (15, .invokevirtual 92, 3), (18, .ifCond .ne 7, 3), (21, .iconst 1, 1), (22, .goto 4, 3), (25, .iconst 0, 1), (26, .ireturn, 1), (27, .iload_n 1, 1), (28, .bipush 10, 2), (30, .isub, 1), (31, .bipush 10, 2)]
def cd_X11_mayDo_1 : List (Nat × Instr × Nat) := [(33, .idiv, 1), (34, .istore_n 2, 1), (35, .iload_n 1, 1), (36, .iconst 3, 1), (37, .if_icmp .eq 26, 3), (40, .aload_n 0, 1), (41, .iload_n 2, 1), (42, .invokevirtual 62, 3), (45, .ifCond .eq 22, 3), (48, .aload_n 0, 1), (49, .iload_n 2, 1), (50, .iload_n 1, 1), (51, .bipush 10, 2), (53, .isub, 1), (54, .bipush 10, 2), (56, .irem, 1), (57, .invokevirtual 139, 3), (60, .ifCond .ne 7, 3), (63, .iconst 1, 1)]
def cd_X11_mayDo_2 : List (Nat × Instr × Nat) := [(64, .goto 4, 3), (67, .iconst 0, 1), (68, .ireturn, 1)]
def cd_X11_does_0 : List (Nat × Instr × Nat) := [(0, .iload_n 1, 1), (1, .ifCond .ne 10, 3), (4, .aload_n 0, 1), (5, .invokevirtual 111, 3), (8, .goto 58, 3), (11, .iload_n 1, 1), (12, .iconst 3, 1), (13, .if_icmp .ge 22, 3), (16, .aload_n 0, 1), (17, .getfield 7, 3), (20, .iconst 5, 1), (21, .iload_n 1, 1), (22, .iconst 1, 1), (23, .if_icmp .ne 7, 3), (26, .iconst 1, 1), (27, .goto 4, 3), (30, .iconst 0, 1), (31, .iastore, 1)]
def cd_X11_does_1 : List (Nat × Instr × Nat) := [(32, .goto 34, 3), (35, .iload_n 1, 1), (36, .iconst 3, 1), (37, .if_icmp .ne 10, 3), (40, .aload_n 0, 1), (41, .invokevirtual 158, 3), (44, .goto 22, 3), (47, .aload_n 0, 1), (48, .iload_n 1, 1), (49, .bipush 10, 2), (51, .isub, 1), (52, .bipush 10, 2), (54, .idiv, 1), (55, .iload_n 1, 1), (56, .bipush 10, 2), (58, .isub, 1), (59, .bipush 10, 2), (61, .irem, 1), (62, .invokevirtual 142, 3)]
def cd_X11_does_2 : List (Nat × Instr × Nat) := [(65, .pop, 1), (66, .return_, 1)]
def cd_X11_run_0 : List (Nat × Instr × Nat) := [(0, .aload_n 0, 1), (1, .iconst 0, 1), (2, .putfield 37, 3), (5, .aload_n 0, 1), (6, .invokevirtual 186, 3), (9, .aload_n 0, 1), (10, .getfield 161, 3), (13, .if_icmp .lt 12, 3), (16, .aload_n 0, 1), (17, .getfield 164, 3), (20, .bipush 20, 2), (22, .if_icmp .eq 9, 3), (25, .aload_n 0, 1), (26, .iconst 1, 1), (27, .invokevirtual 52, 3), (30, .ireturn, 1), (31, .aload_n 0, 1)]
def cd_X11_run_1 : List (Nat × Instr × Nat) := [(32, .invokevirtual 59, 3), (35, .iconst 0, 1), (36, .istore_n 1, 1), (37, .iload_n 1, 1), (38, .aload_n 0, 1), (39, .getfield 167, 3), (42, .if_icmp .ge 32, 3), (45, .aload_n 0, 1), (46, .aload_n 0, 1), (47, .getfield 22, 3), (50, .iload_n 1, 1), (51, .iaload, 1), (52, .invokevirtual 189, 3), (55, .ifCond .eq 19, 3), (58, .aload_n 0, 1), (59, .aload_n 0, 1), (60, .getfield 22, 3), (63, .iload_n 1, 1)]
def cd_X11_run_2 : List (Nat × Instr × Nat) := [(64, .iaload, 1), (65, .invokevirtual 192, 3), (68, .iinc 1 1, 3), (71, .goto (-34), 3), (74, .aload_n 0, 1), (75, .iconst 0, 1), (76, .putfield 161, 3), (79, .iload_n 1, 1), (80, .ireturn, 1)]
def cd_X11_undo_0 : List (Nat × Instr × Nat) := [(0, .aload_n 0, 1), (1, .iconst 0, 1), (2, .putfield 37, 3), (5, .aload_n 0, 1), (6, .getfield 49, 3), (9, .ifCond .ne 9, 3), (12, .aload_n 0, 1), (13, .iconst 1, 1), (14, .invokevirtual 52, 3), (17, .ireturn, 1), (18, .aload_n 0, 1), (19, .dup, 1), (20, .getfield 49, 3), (23, .iconst 1, 1), (24, .isub, 1), (25, .putfield 49, 3), (28, .iconst 0, 1), (29, .istore_n 1, 1), (30, .iload_n 1, 1), (31, .sipush 213, 3)]
def cd_X11_undo_1 : List (Nat × Instr × Nat) := [(34, .if_icmp .ge 30, 3), (37, .aload_n 0, 1), (38, .getfield 7, 3), (41, .iload_n 1, 1), (42, .aload_n 0, 1), (43, .getfield 16, 3), (46, .sipush 213, 3), (49, .aload_n 0, 1), (50, .getfield 49, 3), (53, .imul, 1), (54, .iload_n 1, 1), (55, .iadd, 1), (56, .iaload, 1), (57, .iastore, 1), (58, .iinc 1 1, 3), (61, .goto (-31), 3)]
def cd_X11_undo_2 : List (Nat × Instr × Nat) := [(64, .aload_n 0, 1), (65, .getfield 49, 3), (68, .ireturn, 1)]
def cd_X11_playedAt_0 : List (Nat × Instr × Nat) := [(0, .iconst 0, 1), (1, .istore_n 2, 1), (2, .aload_n 0, 1), (3, .iload_n 1, 1), (4, .invokevirtual 89, 3), (7, .istore_n 3, 1), (8, .iconst 0, 1), (9, .istore 4, 2), (11, .iload 4, 2), (13, .bipush 10, 2), (15, .if_icmp .ge 41, 3), (18, .iload_n 3, 1), (19, .iconst (-1), 1), (20, .if_icmp .eq 36, 3), (23, .iload_n 2, 1), (24, .aload_n 0, 1), (25, .iload_n 3, 1), (26, .iload 4, 2), (28, .invokevirtual 121, 3), (31, .iconst (-1), 1)]
def cd_X11_playedAt_1 : List (Nat × Instr × Nat) := [(32, .if_icmp .ne 7, 3), (35, .iconst 0, 1), (36, .goto 12, 3), (39, .iconst 1, 1), (40, .aload_n 0, 1), (41, .iload_n 3, 1), (42, .iload 4, 2), (44, .invokevirtual 121, 3), (47, .ishl, 1), (48, .ior, 1), (49, .istore_n 2, 1), (50, .iinc 4 1, 3), (53, .goto (-42), 3), (56, .iload_n 2, 1), (57, .ireturn, 1)]
def cd_X11_cornerNow_0 : List (Nat × Instr × Nat) := [(0, .iload_n 2, 1), (1, .tableswitch 68 0 4 #[35, 35, 42, 56, 62], 35)]
def cd_X11_cornerNow_1 : List (Nat × Instr × Nat) := [(36, .aload_n 0, 1), (37, .iload_n 1, 1), (38, .iload_n 2, 1), (39, .invokevirtual 56, 3), (42, .ireturn, 1), (43, .aload_n 0, 1), (44, .iload_n 1, 1), (45, .invokevirtual 127, 3), (48, .ifCond .eq 7, 3), (51, .iconst 1, 1), (52, .goto 4, 3), (55, .iconst 0, 1), (56, .ireturn, 1), (57, .aload_n 0, 1), (58, .iload_n 1, 1), (59, .invokevirtual 89, 3), (62, .ireturn, 1), (63, .aload_n 0, 1)]
def cd_X11_cornerNow_2 : List (Nat × Instr × Nat) := [(64, .iload_n 1, 1), (65, .invokevirtual 195, 3), (68, .ireturn, 1), (69, .aload_n 0, 1), (70, .iload_n 1, 1), (71, .invokevirtual 130, 3), (74, .ireturn, 1)]
def cd_X11_corner_0 : List (Nat × Instr × Nat) := [(0, .aload_n 0, 1), (1, .iconst 0, 1), (2, .putfield 37, 3), (5, .aload_n 0, 1), (6, .iload_n 1, 1), (7, .invokevirtual 198, 3), (10, .ifCond .ne 9, 3), (13, .aload_n 0, 1), (14, .iconst 1, 1), (15, .invokevirtual 52, 3), (18, .ireturn, 1), (19, .iload_n 2, 1), (20, .iconst 0, 1), (21, .iconst 5, 1), (22, .invokestatic 41, 3), (25, .ifCond .eq 12, 3), (28, .aload_n 0, 1), (29, .iload_n 1, 1), (30, .iload_n 2, 1), (31, .invokevirtual 201, 3)]
def cd_X11_corner_1 : List (Nat × Instr × Nat) := [(34, .goto 8, 3), (37, .aload_n 0, 1), (38, .iconst 2, 1), (39, .invokevirtual 52, 3), (42, .ireturn, 1)]
def cd_X11_organNow_0 : List (Nat × Instr × Nat) := [(0, .iload_n 2, 1), (1, .tableswitch 75 0 7 #[47, 47, 47, 54, 60, 66, 66, 66], 47)]
def cd_X11_organNow_1 : List (Nat × Instr × Nat) := [(48, .aload_n 0, 1), (49, .iload_n 1, 1), (50, .iload_n 2, 1), (51, .invokevirtual 45, 3), (54, .ireturn, 1), (55, .aload_n 0, 1), (56, .iload_n 1, 1), (57, .invokevirtual 86, 3), (60, .ireturn, 1), (61, .aload_n 0, 1), (62, .iload_n 1, 1), (63, .invokevirtual 124, 3)]
def cd_X11_organNow_2 : List (Nat × Instr × Nat) := [(66, .ireturn, 1), (67, .aload_n 0, 1), (68, .iload_n 1, 1), (69, .iload_n 2, 1), (70, .iconst 1, 1), (71, .isub, 1), (72, .invokevirtual 45, 3), (75, .ireturn, 1), (76, .aload_n 0, 1), (77, .iload_n 1, 1), (78, .aload_n 0, 1), (79, .getfield 7, 3), (82, .iconst 4, 1), (83, .iaload, 1), (84, .invokevirtual 121, 3), (87, .ireturn, 1)]
def cd_X11_organ_0 : List (Nat × Instr × Nat) := [(0, .aload_n 0, 1), (1, .iconst 0, 1), (2, .putfield 37, 3), (5, .aload_n 0, 1), (6, .iload_n 1, 1), (7, .invokevirtual 62, 3), (10, .ifCond .ne 9, 3), (13, .aload_n 0, 1), (14, .iconst 1, 1), (15, .invokevirtual 52, 3), (18, .ireturn, 1), (19, .iload_n 2, 1), (20, .iconst 0, 1), (21, .bipush 8, 2), (23, .invokestatic 41, 3), (26, .ifCond .eq 12, 3), (29, .aload_n 0, 1), (30, .iload_n 1, 1), (31, .iload_n 2, 1)]
def cd_X11_organ_1 : List (Nat × Instr × Nat) := [(32, .invokevirtual 204, 3), (35, .goto 8, 3), (38, .aload_n 0, 1), (39, .iconst 2, 1), (40, .invokevirtual 52, 3), (43, .ireturn, 1)]
def cd_X11_playerNow_0 : List (Nat × Instr × Nat) := [(0, .iload_n 2, 1), (1, .lookupswitch 42 #[(0, 27), (1, 36)], 27), (28, .aload_n 0, 1), (29, .iload_n 1, 1), (30, .iconst 0, 1), (31, .invokevirtual 73, 3)]
def cd_X11_playerNow_1 : List (Nat × Instr × Nat) := [(34, .iconst 1, 1), (35, .isub, 1), (36, .ireturn, 1), (37, .aload_n 0, 1), (38, .iload_n 1, 1), (39, .invokevirtual 152, 3), (42, .ireturn, 1), (43, .aload_n 0, 1), (44, .iload_n 1, 1), (45, .iload_n 2, 1), (46, .iconst 1, 1), (47, .isub, 1), (48, .invokevirtual 73, 3), (51, .ireturn, 1)]
def cd_X11_player_0 : List (Nat × Instr × Nat) := [(0, .aload_n 0, 1), (1, .iconst 0, 1), (2, .putfield 37, 3), (5, .aload_n 0, 1), (6, .iload_n 1, 1), (7, .invokevirtual 70, 3), (10, .ifCond .ne 9, 3), (13, .aload_n 0, 1), (14, .iconst 1, 1), (15, .invokevirtual 52, 3), (18, .ireturn, 1), (19, .iload_n 2, 1), (20, .iconst 0, 1), (21, .iconst 4, 1), (22, .invokestatic 41, 3), (25, .ifCond .eq 12, 3), (28, .aload_n 0, 1), (29, .iload_n 1, 1), (30, .iload_n 2, 1), (31, .invokevirtual 207, 3)]
def cd_X11_player_1 : List (Nat × Instr × Nat) := [(34, .goto 8, 3), (37, .aload_n 0, 1), (38, .iconst 2, 1), (39, .invokevirtual 52, 3), (42, .ireturn, 1)]
def cd_X11_hours_0 : List (Nat × Instr × Nat) := [(0, .aload_n 0, 1), (1, .iconst 0, 1), (2, .putfield 37, 3), (5, .aload_n 0, 1), (6, .iload_n 1, 1), (7, .invokevirtual 70, 3), (10, .ifCond .eq 20, 3), (13, .aload_n 0, 1), (14, .iload_n 2, 1), (15, .invokevirtual 62, 3), (18, .ifCond .eq 12, 3), (21, .aload_n 0, 1), (22, .iload_n 1, 1), (23, .iload_n 2, 1), (24, .invokevirtual 145, 3), (27, .goto 8, 3), (30, .aload_n 0, 1), (31, .iconst 1, 1)]
def cd_X11_hours_1 : List (Nat × Instr × Nat) := [(32, .invokevirtual 52, 3), (35, .ireturn, 1)]
def cd_X11_ofOrgans_0 : List (Nat × Instr × Nat) := [(0, .iconst 0, 1), (1, .istore_n 2, 1), (2, .iconst 0, 1), (3, .istore_n 3, 1), (4, .iload_n 3, 1), (5, .aload_n 0, 1), (6, .getfield 7, 3), (9, .iconst 1, 1), (10, .iaload, 1), (11, .if_icmp .ge 18, 3), (14, .iload_n 2, 1), (15, .aload_n 0, 1), (16, .iload_n 3, 1), (17, .iload_n 1, 1), (18, .invokevirtual 45, 3), (21, .iadd, 1), (22, .istore_n 2, 1), (23, .iinc 3 1, 3), (26, .goto (-22), 3), (29, .iload_n 2, 1), (30, .ireturn, 1)]
def cd_X11_playersGot_0 : List (Nat × Instr × Nat) := [(0, .iconst 0, 1), (1, .istore_n 1, 1), (2, .iconst 0, 1), (3, .istore_n 2, 1), (4, .iload_n 2, 1), (5, .aload_n 0, 1), (6, .getfield 7, 3), (9, .iconst 2, 1), (10, .iaload, 1), (11, .if_icmp .ge 18, 3), (14, .iload_n 1, 1), (15, .aload_n 0, 1), (16, .iload_n 2, 1), (17, .iconst 1, 1), (18, .invokevirtual 73, 3), (21, .iadd, 1), (22, .istore_n 1, 1), (23, .iinc 2 1, 3), (26, .goto (-22), 3), (29, .iload_n 1, 1), (30, .ireturn, 1)]
def cd_X11_counted_0 : List (Nat × Instr × Nat) := [(0, .iload_n 1, 1), (1, .tableswitch 110 7 15 #[51, 56, 64, 72, 80, 88, 94, 100, 105], 51)]
def cd_X11_counted_1 : List (Nat × Instr × Nat) := [(52, .aload_n 0, 1), (53, .invokevirtual 92, 3), (56, .ireturn, 1), (57, .aload_n 0, 1), (58, .getfield 7, 3), (61, .bipush 7, 2), (63, .iaload, 1)]
def cd_X11_counted_2 : List (Nat × Instr × Nat) := [(64, .ireturn, 1), (65, .aload_n 0, 1), (66, .getfield 7, 3), (69, .bipush 8, 2), (71, .iaload, 1), (72, .ireturn, 1), (73, .aload_n 0, 1), (74, .getfield 7, 3), (77, .bipush 9, 2), (79, .iaload, 1), (80, .ireturn, 1), (81, .aload_n 0, 1), (82, .getfield 7, 3), (85, .bipush 10, 2), (87, .iaload, 1), (88, .ireturn, 1), (89, .aload_n 0, 1), (90, .iconst 5, 1), (91, .invokevirtual 210, 3), (94, .ireturn, 1), (95, .aload_n 0, 1)]
def cd_X11_counted_3 : List (Nat × Instr × Nat) := [(96, .iconst 4, 1), (97, .invokevirtual 210, 3), (100, .ireturn, 1), (101, .aload_n 0, 1), (102, .invokevirtual 213, 3), (105, .ireturn, 1), (106, .aload_n 0, 1), (107, .getfield 49, 3), (110, .ireturn, 1), (111, .aload_n 0, 1), (112, .getfield 7, 3), (115, .iload_n 1, 1), (116, .iaload, 1), (117, .ireturn, 1)]
def cd_X11_count_0 : List (Nat × Instr × Nat) := [(0, .aload_n 0, 1), (1, .iconst 0, 1), (2, .putfield 37, 3), (5, .iload_n 1, 1), (6, .iconst 0, 1), (7, .bipush 15, 2), (9, .invokestatic 41, 3), (12, .ifCond .eq 11, 3), (15, .aload_n 0, 1), (16, .iload_n 1, 1), (17, .invokevirtual 216, 3), (20, .goto 8, 3), (23, .aload_n 0, 1), (24, .iconst 1, 1), (25, .invokevirtual 52, 3), (28, .ireturn, 1)]
def cd_X11_setting_0 : List (Nat × Instr × Nat) := [(0, .aload_n 0, 1), (1, .iconst 0, 1), (2, .putfield 37, 3), (5, .iload_n 1, 1), (6, .iconst 0, 1), (7, .iconst 4, 1), (8, .invokestatic 41, 3), (11, .ifCond .eq 15, 3), (14, .aload_n 0, 1), (15, .getfield 7, 3), (18, .bipush 11, 2), (20, .iload_n 1, 1), (21, .iadd, 1), (22, .iaload, 1), (23, .goto 8, 3), (26, .aload_n 0, 1), (27, .iconst 1, 1), (28, .invokevirtual 52, 3), (31, .ireturn, 1)]
def cd_X11_whyNot_0 : List (Nat × Instr × Nat) := [(0, .aload_n 0, 1), (1, .iconst 0, 1), (2, .putfield 37, 3), (5, .aload_n 0, 1), (6, .iload_n 1, 1), (7, .invokevirtual 62, 3), (10, .ifCond .ne 9, 3), (13, .aload_n 0, 1), (14, .iconst 1, 1), (15, .invokevirtual 52, 3), (18, .ireturn, 1), (19, .iload_n 2, 1), (20, .iconst 0, 1), (21, .bipush 9, 2), (23, .invokestatic 41, 3), (26, .ifCond .eq 12, 3), (29, .aload_n 0, 1), (30, .iload_n 1, 1), (31, .iload_n 2, 1)]
def cd_X11_whyNot_1 : List (Nat × Instr × Nat) := [(32, .invokevirtual 139, 3), (35, .goto 8, 3), (38, .aload_n 0, 1), (39, .iconst 2, 1), (40, .invokevirtual 52, 3), (43, .ireturn, 1)]
def cd_X11_tunesOf_0 : List (Nat × Instr × Nat) := [(0, .iconst 0, 1), (1, .istore_n 2, 1), (2, .iconst 0, 1), (3, .istore_n 3, 1), (4, .iload_n 3, 1), (5, .bipush 10, 2), (7, .if_icmp .ge 28, 3), (10, .iload_n 2, 1), (11, .aload_n 0, 1), (12, .iload_n 1, 1), (13, .iload_n 3, 1), (14, .invokevirtual 139, 3), (17, .ifCond .ne 9, 3), (20, .iconst 1, 1), (21, .iload_n 3, 1), (22, .ishl, 1), (23, .goto 4, 3), (26, .iconst 0, 1), (27, .ior, 1), (28, .istore_n 2, 1), (29, .iinc 3 1, 3)]
def cd_X11_tunesOf_1 : List (Nat × Instr × Nat) := [(32, .goto (-28), 3), (35, .iload_n 2, 1), (36, .ireturn, 1)]
def cd_X11_playedNow_0 : List (Nat × Instr × Nat) := [(0, .aload_n 0, 1), (1, .iload_n 1, 1), (2, .invokevirtual 219, 3), (5, .ifCond .ne 7, 3), (8, .iconst (-1), 1), (9, .goto 13, 3), (12, .aload_n 0, 1), (13, .iload_n 1, 1), (14, .aload_n 0, 1), (15, .iload_n 1, 1), (16, .invokevirtual 133, 3), (19, .invokevirtual 136, 3), (22, .ireturn, 1)]
def cd_X11_ifPlayed_0 : List (Nat × Instr × Nat) := [(0, .aload_n 0, 1), (1, .iconst 0, 1), (2, .putfield 37, 3), (5, .aload_n 0, 1), (6, .iload_n 1, 1), (7, .invokevirtual 62, 3), (10, .ifCond .eq 11, 3), (13, .aload_n 0, 1), (14, .iload_n 1, 1), (15, .invokevirtual 222, 3), (18, .goto 8, 3), (21, .aload_n 0, 1), (22, .iconst 1, 1), (23, .invokevirtual 52, 3), (26, .ireturn, 1)]
def cd_X11_size_0 : List (Nat × Instr × Nat) := [(0, .iconst 0, 1), (1, .istore_n 1, 1), (2, .iconst 0, 1), (3, .istore_n 2, 1), (4, .iload_n 2, 1), (5, .bipush 10, 2), (7, .if_icmp .ge 17, 3), (10, .iload_n 1, 1), (11, .iload_n 0, 1), (12, .iload_n 2, 1), (13, .ishr, 1), (14, .iconst 1, 1), (15, .iand, 1), (16, .iadd, 1), (17, .istore_n 1, 1), (18, .iinc 2 1, 3), (21, .goto (-17), 3), (24, .iload_n 1, 1), (25, .ireturn, 1)]
def cd_X11_pairsBehind_0 : List (Nat × Instr × Nat) := [(0, .sipush 163, 3), (3, .bipush 10, 2), (5, .iload_n 1, 1), (6, .imul, 1), (7, .iadd, 1), (8, .aload_n 0, 1), (9, .getfield 7, 3), (12, .iconst 4, 1), (13, .iaload, 1), (14, .iadd, 1), (15, .istore_n 3, 1), (16, .aload_n 0, 1), (17, .getfield 7, 3), (20, .iload_n 3, 1), (21, .iload_n 2, 1), (22, .iconst 1, 1), (23, .iadd, 1), (24, .iastore, 1), (25, .iconst 0, 1), (26, .istore 4, 2), (28, .iconst 0, 1), (29, .istore 5, 2), (31, .iload 5, 2)]
def cd_X11_pairsBehind_1 : List (Nat × Instr × Nat) := [(33, .aload_n 0, 1), (34, .getfield 7, 3), (37, .iconst 1, 1), (38, .iaload, 1), (39, .if_icmp .ge 33, 3), (42, .iload 4, 2), (44, .iload 5, 2), (46, .iload_n 1, 1), (47, .if_icmp .ne 7, 3), (50, .iconst 0, 1), (51, .goto 12, 3), (54, .aload_n 0, 1), (55, .iload 5, 2), (57, .invokevirtual 219, 3), (60, .invokestatic 225, 3), (63, .iadd, 1)]
def cd_X11_pairsBehind_2 : List (Nat × Instr × Nat) := [(64, .istore 4, 2), (66, .iinc 5 1, 3), (69, .goto (-38), 3), (72, .aload_n 0, 1), (73, .getfield 7, 3), (76, .iload_n 3, 1), (77, .iconst 0, 1), (78, .iastore, 1), (79, .iload 4, 2), (81, .ireturn, 1)]
def cd_X11_kindestNow_0 : List (Nat × Instr × Nat) := [(0, .aload_n 0, 1), (1, .iload_n 1, 1), (2, .invokevirtual 219, 3), (5, .istore_n 2, 1), (6, .iconst (-1), 1), (7, .istore_n 3, 1), (8, .iconst (-1), 1), (9, .istore 4, 2), (11, .iconst 0, 1), (12, .istore 5, 2), (14, .iload 5, 2), (16, .bipush 10, 2), (18, .if_icmp .ge 62, 3), (21, .iload_n 2, 1), (22, .iload 5, 2), (24, .ishr, 1), (25, .iconst 1, 1), (26, .iand, 1), (27, .iconst 1, 1), (28, .if_icmp .ne 13, 3), (31, .aload_n 0, 1)]
def cd_X11_kindestNow_1 : List (Nat × Instr × Nat) := [(32, .iload_n 1, 1), (33, .iload 5, 2), (35, .invokevirtual 228, 3), (38, .goto 4, 3), (41, .iconst (-1), 1), (42, .istore 6, 2), (44, .iload 6, 2), (46, .iload 4, 2), (48, .if_icmp .le 8, 3), (51, .iload 5, 2), (53, .goto 4, 3), (56, .iload_n 3, 1), (57, .istore_n 3, 1), (58, .iload 6, 2), (60, .iload 4, 2), (62, .if_icmp .le 8, 3)]
def cd_X11_kindestNow_2 : List (Nat × Instr × Nat) := [(65, .iload 6, 2), (67, .goto 5, 3), (70, .iload 4, 2), (72, .istore 4, 2), (74, .iinc 5 1, 3), (77, .goto (-63), 3), (80, .iload_n 3, 1), (81, .ireturn, 1)]
def cd_X11_kindestTune_0 : List (Nat × Instr × Nat) := [(0, .aload_n 0, 1), (1, .iconst 0, 1), (2, .putfield 37, 3), (5, .aload_n 0, 1), (6, .iload_n 1, 1), (7, .invokevirtual 62, 3), (10, .ifCond .eq 11, 3), (13, .aload_n 0, 1), (14, .iload_n 1, 1), (15, .invokevirtual 231, 3), (18, .goto 8, 3), (21, .aload_n 0, 1), (22, .iconst 1, 1), (23, .invokevirtual 52, 3), (26, .ireturn, 1)]
def cd_X11_canPick_0 : List (Nat × Instr × Nat) := [(0, .aload_n 0, 1), (1, .getfield 28, 3), (4, .iload_n 1, 1), (5, .iaload, 1), (6, .aload_n 0, 1), (7, .getfield 31, 3), (10, .iload_n 1, 1), (11, .iaload, 1), (12, .ishr, 1), (13, .iconst 1, 1), (14, .iand, 1), (15, .iconst 1, 1), (16, .if_icmp .ne 7, 3), (19, .iconst 1, 1), (20, .goto 4, 3), (23, .iconst 0, 1), (24, .istore_n 2, 1), (25, .iconst 0, 1), (26, .istore_n 3, 1), (27, .iload_n 3, 1), (28, .iload_n 1, 1), (29, .if_icmp .ge 51, 3)]
def cd_X11_canPick_1 : List (Nat × Instr × Nat) := [(32, .iload_n 2, 1), (33, .ifCond .eq 47, 3), (36, .aload_n 0, 1), (37, .getfield 31, 3), (40, .iload_n 3, 1), (41, .iaload, 1), (42, .aload_n 0, 1), (43, .getfield 31, 3), (46, .iload_n 1, 1), (47, .iaload, 1), (48, .if_icmp .ne 20, 3), (51, .aload_n 0, 1), (52, .aload_n 0, 1), (53, .iload_n 1, 1), (54, .invokevirtual 86, 3), (57, .aload_n 0, 1), (58, .iload_n 3, 1), (59, .invokevirtual 86, 3), (62, .invokevirtual 117, 3)]
def cd_X11_canPick_2 : List (Nat × Instr × Nat) := [(65, .ifCond .ne 7, 3), (68, .iconst 1, 1), (69, .goto 4, 3), (72, .iconst 0, 1), (73, .istore_n 2, 1), (74, .iinc 3 1, 3), (77, .goto (-50), 3), (80, .iload_n 2, 1), (81, .ireturn, 1)]
def cd_X11_pickTakings_0 : List (Nat × Instr × Nat) := [(0, .aload_n 0, 1), (1, .iload_n 1, 1), (2, .invokevirtual 133, 3), (5, .istore_n 2, 1), (6, .iconst 0, 1), (7, .istore_n 3, 1), (8, .iload_n 3, 1), (9, .iload_n 1, 1), (10, .if_icmp .ge 44, 3), (13, .iload_n 2, 1), (14, .aload_n 0, 1), (15, .getfield 31, 3), (18, .iload_n 3, 1), (19, .iaload, 1), (20, .iconst (-1), 1), (21, .if_icmp .eq 24, 3), (24, .aload_n 0, 1), (25, .aload_n 0, 1), (26, .iload_n 1, 1), (27, .invokevirtual 86, 3), (30, .aload_n 0, 1), (31, .iload_n 3, 1)]
def cd_X11_pickTakings_1 : List (Nat × Instr × Nat) := [(32, .invokevirtual 86, 3), (35, .invokevirtual 117, 3), (38, .ifCond .eq 7, 3), (41, .iconst 1, 1), (42, .goto 4, 3), (45, .iconst 0, 1), (46, .iadd, 1), (47, .istore_n 2, 1), (48, .iinc 3 1, 3), (51, .goto (-43), 3), (54, .aload_n 0, 1), (55, .iload_n 1, 1), (56, .iload_n 2, 1), (57, .invokevirtual 136, 3), (60, .ireturn, 1)]
def cd_X11_keepPicks_0 : List (Nat × Instr × Nat) := [(0, .iconst 0, 1), (1, .istore_n 1, 1), (2, .iconst 0, 1), (3, .istore_n 2, 1), (4, .iload_n 2, 1), (5, .aload_n 0, 1), (6, .getfield 7, 3), (9, .iconst 1, 1), (10, .iaload, 1), (11, .if_icmp .ge 29, 3), (14, .iload_n 1, 1), (15, .aload_n 0, 1), (16, .getfield 31, 3), (19, .iload_n 2, 1), (20, .iaload, 1), (21, .iconst (-1), 1), (22, .if_icmp .ne 7, 3), (25, .iconst 0, 1), (26, .goto 6, 3), (29, .iconst 1, 1), (30, .iload_n 2, 1), (31, .ishl, 1)]
def cd_X11_keepPicks_1 : List (Nat × Instr × Nat) := [(32, .ior, 1), (33, .istore_n 1, 1), (34, .iinc 2 1, 3), (37, .goto (-33), 3), (40, .aload_n 0, 1), (41, .getfield 34, 3), (44, .aload_n 0, 1), (45, .getfield 7, 3), (48, .iconst 1, 1), (49, .iaload, 1), (50, .iaload, 1), (51, .istore_n 2, 1), (52, .iload_n 2, 1), (53, .aload_n 0, 1), (54, .getfield 234, 3), (57, .if_icmp .gt 19, 3), (60, .iload_n 2, 1), (61, .aload_n 0, 1), (62, .getfield 234, 3)]
def cd_X11_keepPicks_2 : List (Nat × Instr × Nat) := [(65, .if_icmp .ne 21, 3), (68, .iload_n 1, 1), (69, .aload_n 0, 1), (70, .getfield 237, 3), (73, .if_icmp .ge 13, 3), (76, .aload_n 0, 1), (77, .iload_n 2, 1), (78, .putfield 234, 3), (81, .aload_n 0, 1), (82, .iload_n 1, 1), (83, .putfield 237, 3), (86, .return_, 1)]
def cd_X11_layMost_0 : List (Nat × Instr × Nat) := [(0, .iconst 0, 1), (1, .istore_n 1, 1), (2, .iload_n 1, 1), (3, .aload_n 0, 1), (4, .getfield 7, 3), (7, .iconst 1, 1), (8, .iaload, 1), (9, .if_icmp .ge 20, 3), (12, .aload_n 0, 1), (13, .getfield 28, 3), (16, .iload_n 1, 1), (17, .aload_n 0, 1), (18, .iload_n 1, 1), (19, .invokevirtual 219, 3), (22, .iastore, 1), (23, .iinc 1 1, 3), (26, .goto (-24), 3), (29, .aload_n 0, 1), (30, .iconst 0, 1), (31, .putfield 234, 3)]
def cd_X11_layMost_1 : List (Nat × Instr × Nat) := [(34, .aload_n 0, 1), (35, .iconst 0, 1), (36, .putfield 237, 3), (39, .iconst 0, 1), (40, .istore_n 1, 1), (41, .aload_n 0, 1), (42, .getfield 31, 3), (45, .iconst 0, 1), (46, .bipush (-2), 2), (48, .iastore, 1), (49, .iload_n 1, 1), (50, .ifCond .lt 116, 3), (53, .iload_n 1, 1), (54, .aload_n 0, 1), (55, .getfield 7, 3), (58, .iconst 1, 1), (59, .iaload, 1), (60, .if_icmp .ne 13, 3), (63, .aload_n 0, 1)]
def cd_X11_layMost_2 : List (Nat × Instr × Nat) := [(64, .invokevirtual 240, 3), (67, .iinc 1 (-1), 3), (70, .goto (-21), 3), (73, .aload_n 0, 1), (74, .getfield 31, 3), (77, .iload_n 1, 1), (78, .iaload, 1), (79, .bipush 9, 2), (81, .if_icmp .ne 9, 3), (84, .iinc 1 (-1), 3), (87, .goto (-38), 3), (90, .aload_n 0, 1), (91, .getfield 31, 3), (94, .iload_n 1, 1), (95, .dup2, 1)]
def cd_X11_layMost_3 : List (Nat × Instr × Nat) := [(96, .iaload, 1), (97, .iconst 1, 1), (98, .iadd, 1), (99, .iastore, 1), (100, .aload_n 0, 1), (101, .getfield 31, 3), (104, .iload_n 1, 1), (105, .iaload, 1), (106, .iconst (-1), 1), (107, .if_icmp .eq 11, 3), (110, .aload_n 0, 1), (111, .iload_n 1, 1), (112, .invokevirtual 243, 3), (115, .ifCond .eq (-66), 3), (118, .aload_n 0, 1), (119, .getfield 34, 3), (122, .iload_n 1, 1), (123, .iconst 1, 1), (124, .iadd, 1), (125, .aload_n 0, 1), (126, .getfield 34, 3)]
def cd_X11_layMost_4 : List (Nat × Instr × Nat) := [(129, .iload_n 1, 1), (130, .iaload, 1), (131, .aload_n 0, 1), (132, .getfield 31, 3), (135, .iload_n 1, 1), (136, .iaload, 1), (137, .iconst (-1), 1), (138, .if_icmp .ne 7, 3), (141, .iconst 0, 1), (142, .goto 8, 3), (145, .aload_n 0, 1), (146, .iload_n 1, 1), (147, .invokevirtual 246, 3), (150, .iadd, 1), (151, .iastore, 1), (152, .iinc 1 1, 3), (155, .aload_n 0, 1), (156, .getfield 31, 3), (159, .iload_n 1, 1)]
def cd_X11_layMost_5 : List (Nat × Instr × Nat) := [(160, .bipush (-2), 2), (162, .iastore, 1), (163, .goto (-114), 3), (166, .return_, 1)]
def cd_X11_most_0 : List (Nat × Instr × Nat) := [(0, .aload_n 0, 1), (1, .iconst 0, 1), (2, .putfield 37, 3), (5, .iload_n 1, 1), (6, .iconst 0, 1), (7, .iconst 1, 1), (8, .invokestatic 41, 3), (11, .ifCond .ne 9, 3), (14, .aload_n 0, 1), (15, .iconst 1, 1), (16, .invokevirtual 52, 3), (19, .ireturn, 1), (20, .aload_n 0, 1), (21, .invokevirtual 249, 3), (24, .iload_n 1, 1), (25, .ifCond .ne 10, 3), (28, .aload_n 0, 1), (29, .getfield 234, 3)]
def cd_X11_most_1 : List (Nat × Instr × Nat) := [(32, .goto 7, 3), (35, .aload_n 0, 1), (36, .getfield 237, 3), (39, .ireturn, 1)]
def cd_X11_endedNow_0 : List (Nat × Instr × Nat) := [(0, .aload_n 0, 1), (1, .iload_n 1, 1), (2, .iconst 1, 1), (3, .invokevirtual 73, 3), (6, .istore_n 2, 1), (7, .aload_n 0, 1), (8, .invokevirtual 252, 3), (11, .aload_n 0, 1), (12, .invokevirtual 155, 3), (15, .aload_n 0, 1), (16, .iload_n 1, 1), (17, .iconst 1, 1), (18, .invokevirtual 73, 3), (21, .istore_n 3, 1), (22, .aload_n 0, 1), (23, .invokevirtual 255, 3), (26, .iload_n 3, 1), (27, .iload_n 2, 1), (28, .isub, 1), (29, .ireturn, 1)]
def cd_X11_ifEnded_0 : List (Nat × Instr × Nat) := [(0, .aload_n 0, 1), (1, .iconst 0, 1), (2, .putfield 37, 3), (5, .aload_n 0, 1), (6, .iload_n 1, 1), (7, .invokevirtual 70, 3), (10, .ifCond .eq 11, 3), (13, .aload_n 0, 1), (14, .iload_n 1, 1), (15, .invokevirtual 258, 3), (18, .goto 8, 3), (21, .aload_n 0, 1), (22, .iconst 1, 1), (23, .invokevirtual 52, 3), (26, .ireturn, 1)]
def cd_X11_shareNow_0 : List (Nat × Instr × Nat) := [(0, .aload_n 0, 1), (1, .getfield 7, 3), (4, .bipush 8, 2), (6, .iaload, 1), (7, .ifCond .ne 7, 3), (10, .dconst 0, 1), (11, .goto 17, 3), (14, .aload_n 0, 1), (15, .invokevirtual 213, 3), (18, .i2d, 1), (19, .aload_n 0, 1), (20, .getfield 7, 3), (23, .bipush 8, 2), (25, .iaload, 1), (26, .i2d, 1), (27, .ddiv, 1), (28, .dreturn, 1)]
def cd_X11_playersShare_0 : List (Nat × Instr × Nat) := [(0, .aload_n 0, 1), (1, .iconst 0, 1), (2, .putfield 37, 3), (5, .aload_n 0, 1), (6, .invokevirtual 261, 3), (9, .dreturn, 1)]
def cd_X11_mix_0 : List (Nat × Instr × Nat) := [(0, .aload_n 0, 1), (1, .ldc2_w 265, 3), (4, .aload_n 0, 1), (5, .getfield 267, 3), (8, .lmul, 1), (9, .lload_n 1, 1), (10, .ladd, 1), (11, .putfield 267, 3), (14, .return_, 1)]
def cd_X11_mixOrgan_0 : List (Nat × Instr × Nat) := [(0, .iconst 0, 1), (1, .istore_n 2, 1), (2, .iload_n 2, 1), (3, .bipush 9, 2), (5, .if_icmp .ge 20, 3), (8, .aload_n 0, 1), (9, .aload_n 0, 1), (10, .iload_n 1, 1), (11, .iload_n 2, 1), (12, .invokevirtual 204, 3), (15, .i2l, 1), (16, .invokevirtual 271, 3), (19, .iinc 2 1, 3), (22, .goto (-20), 3), (25, .iconst 0, 1), (26, .istore_n 2, 1), (27, .iload_n 2, 1), (28, .bipush 10, 2), (30, .if_icmp .ge 20, 3)]
def cd_X11_mixOrgan_1 : List (Nat × Instr × Nat) := [(33, .aload_n 0, 1), (34, .aload_n 0, 1), (35, .iload_n 1, 1), (36, .iload_n 2, 1), (37, .invokevirtual 139, 3), (40, .i2l, 1), (41, .invokevirtual 271, 3), (44, .iinc 2 1, 3), (47, .goto (-20), 3), (50, .aload_n 0, 1), (51, .aload_n 0, 1), (52, .iload_n 1, 1), (53, .invokevirtual 222, 3), (56, .i2l, 1), (57, .invokevirtual 271, 3), (60, .aload_n 0, 1), (61, .aload_n 0, 1), (62, .iload_n 1, 1), (63, .invokevirtual 231, 3)]
def cd_X11_mixOrgan_2 : List (Nat × Instr × Nat) := [(66, .i2l, 1), (67, .invokevirtual 271, 3), (70, .return_, 1)]
def cd_X11_mixPlayer_0 : List (Nat × Instr × Nat) := [(0, .iconst 0, 1), (1, .istore_n 2, 1), (2, .iload_n 2, 1), (3, .iconst 5, 1), (4, .if_icmp .ge 20, 3), (7, .aload_n 0, 1), (8, .aload_n 0, 1), (9, .iload_n 1, 1), (10, .iload_n 2, 1), (11, .invokevirtual 207, 3), (14, .i2l, 1), (15, .invokevirtual 271, 3), (18, .iinc 2 1, 3), (21, .goto (-19), 3), (24, .iconst 0, 1), (25, .istore_n 2, 1), (26, .iload_n 2, 1), (27, .aload_n 0, 1), (28, .getfield 7, 3), (31, .iconst 1, 1)]
def cd_X11_mixPlayer_1 : List (Nat × Instr × Nat) := [(32, .iaload, 1), (33, .if_icmp .ge 20, 3), (36, .aload_n 0, 1), (37, .aload_n 0, 1), (38, .iload_n 1, 1), (39, .iload_n 2, 1), (40, .invokevirtual 145, 3), (43, .i2l, 1), (44, .invokevirtual 271, 3), (47, .iinc 2 1, 3), (50, .goto (-24), 3), (53, .aload_n 0, 1), (54, .aload_n 0, 1), (55, .iload_n 1, 1), (56, .invokevirtual 258, 3), (59, .i2l, 1), (60, .invokevirtual 271, 3), (63, .return_, 1)]
def cd_X11_digest_0 : List (Nat × Instr × Nat) := [(0, .aload_n 0, 1), (1, .iconst 0, 1), (2, .putfield 37, 3), (5, .aload_n 0, 1), (6, .ldc2_w 275, 3), (9, .putfield 267, 3), (12, .iconst 0, 1), (13, .istore_n 1, 1), (14, .iload_n 1, 1), (15, .bipush 16, 2), (17, .if_icmp .ge 19, 3), (20, .aload_n 0, 1), (21, .aload_n 0, 1), (22, .iload_n 1, 1), (23, .invokevirtual 216, 3), (26, .i2l, 1), (27, .invokevirtual 271, 3), (30, .iinc 1 1, 3)]
def cd_X11_digest_1 : List (Nat × Instr × Nat) := [(33, .goto (-19), 3), (36, .iconst 0, 1), (37, .istore_n 1, 1), (38, .iload_n 1, 1), (39, .iconst 5, 1), (40, .if_icmp .ge 23, 3), (43, .aload_n 0, 1), (44, .aload_n 0, 1), (45, .getfield 7, 3), (48, .bipush 11, 2), (50, .iload_n 1, 1), (51, .iadd, 1), (52, .iaload, 1), (53, .i2l, 1), (54, .invokevirtual 271, 3), (57, .iinc 1 1, 3), (60, .goto (-22), 3), (63, .iconst 0, 1)]
def cd_X11_digest_2 : List (Nat × Instr × Nat) := [(64, .istore_n 1, 1), (65, .iload_n 1, 1), (66, .aload_n 0, 1), (67, .getfield 7, 3), (70, .iconst 0, 1), (71, .iaload, 1), (72, .if_icmp .ge 34, 3), (75, .iconst 0, 1), (76, .istore_n 2, 1), (77, .iload_n 2, 1), (78, .bipush 6, 2), (80, .if_icmp .ge 20, 3), (83, .aload_n 0, 1), (84, .aload_n 0, 1), (85, .iload_n 1, 1), (86, .iload_n 2, 1), (87, .invokevirtual 201, 3), (90, .i2l, 1), (91, .invokevirtual 271, 3), (94, .iinc 2 1, 3)]
def cd_X11_digest_3 : List (Nat × Instr × Nat) := [(97, .goto (-20), 3), (100, .iinc 1 1, 3), (103, .goto (-38), 3), (106, .iconst 0, 1), (107, .istore_n 1, 1), (108, .iload_n 1, 1), (109, .aload_n 0, 1), (110, .getfield 7, 3), (113, .iconst 1, 1), (114, .iaload, 1), (115, .if_icmp .ge 14, 3), (118, .aload_n 0, 1), (119, .iload_n 1, 1), (120, .invokevirtual 277, 3), (123, .iinc 1 1, 3), (126, .goto (-18), 3)]
def cd_X11_digest_4 : List (Nat × Instr × Nat) := [(129, .iconst 0, 1), (130, .istore_n 1, 1), (131, .iload_n 1, 1), (132, .aload_n 0, 1), (133, .getfield 7, 3), (136, .iconst 2, 1), (137, .iaload, 1), (138, .if_icmp .ge 14, 3), (141, .aload_n 0, 1), (142, .iload_n 1, 1), (143, .invokevirtual 280, 3), (146, .iinc 1 1, 3), (149, .goto (-18), 3), (152, .aload_n 0, 1), (153, .invokevirtual 249, 3), (156, .aload_n 0, 1), (157, .aload_n 0, 1), (158, .getfield 234, 3)]
def cd_X11_digest_5 : List (Nat × Instr × Nat) := [(161, .i2l, 1), (162, .invokevirtual 271, 3), (165, .aload_n 0, 1), (166, .aload_n 0, 1), (167, .getfield 237, 3), (170, .i2l, 1), (171, .invokevirtual 271, 3), (174, .aload_n 0, 1), (175, .aload_n 0, 1), (176, .invokevirtual 261, 3), (179, .invokestatic 283, 3), (182, .invokevirtual 271, 3), (185, .aload_n 0, 1), (186, .aload_n 0, 1), (187, .getfield 161, 3), (190, .i2l, 1), (191, .invokevirtual 271, 3)]
def cd_X11_digest_6 : List (Nat × Instr × Nat) := [(194, .iconst 0, 1), (195, .istore_n 1, 1), (196, .iload_n 1, 1), (197, .aload_n 0, 1), (198, .getfield 161, 3), (201, .if_icmp .ge 20, 3), (204, .aload_n 0, 1), (205, .aload_n 0, 1), (206, .getfield 19, 3), (209, .iload_n 1, 1), (210, .iaload, 1), (211, .i2l, 1), (212, .invokevirtual 271, 3), (215, .iinc 1 1, 3), (218, .goto (-22), 3), (221, .aload_n 0, 1), (222, .getfield 267, 3)]
def cd_X11_digest_7 : List (Nat × Instr × Nat) := [(225, .lreturn, 1)]
def cd_L_addCorner_0 : List (Nat × Instr × Nat) := [(0, .aload 5, 2), (2, .iconst 0, 1), (3, .aload_n 0, 1), (4, .iload_n 1, 1), (5, .iload_n 2, 1), (6, .iload_n 3, 1), (7, .iload 4, 2), (9, .invokevirtual 7, 3), (12, .i2l, 1), (13, .lastore, 1), (14, .goto 11, 3), (17, .astore 6, 2), (19, .iconst 1, 1), (20, .ireturn, 1), (21, .astore 6, 2), (23, .iconst 2, 1), (24, .ireturn, 1), (25, .iconst 0, 1), (26, .ireturn, 1)]
def cd_L_addOrgan_0 : List (Nat × Instr × Nat) := [(0, .aload_n 2, 1), (1, .iconst 0, 1), (2, .aload_n 0, 1), (3, .iload_n 1, 1), (4, .invokevirtual 17, 3), (7, .i2l, 1), (8, .lastore, 1), (9, .goto 9, 3), (12, .astore_n 3, 1), (13, .iconst 1, 1), (14, .ireturn, 1), (15, .astore_n 3, 1), (16, .iconst 2, 1), (17, .ireturn, 1), (18, .iconst 0, 1), (19, .ireturn, 1)]
def cd_L_addPlayer_0 : List (Nat × Instr × Nat) := [(0, .aload_n 1, 1), (1, .iconst 0, 1), (2, .aload_n 0, 1), (3, .invokevirtual 21, 3), (6, .i2l, 1), (7, .lastore, 1), (8, .goto 6, 3), (11, .astore_n 2, 1), (12, .iconst 1, 1), (13, .ireturn, 1), (14, .iconst 0, 1), (15, .ireturn, 1)]
def cd_L_permit_0 : List (Nat × Instr × Nat) := [(0, .aload_n 3, 1), (1, .iconst 0, 1), (2, .aload_n 0, 1), (3, .iload_n 1, 1), (4, .iload_n 2, 1), (5, .invokevirtual 25, 3), (8, .i2l, 1), (9, .lastore, 1), (10, .goto 7, 3), (13, .astore 4, 2), (15, .iconst 1, 1), (16, .ireturn, 1), (17, .iconst 0, 1), (18, .ireturn, 1)]
def cd_L_barrel_0 : List (Nat × Instr × Nat) := [(0, .aload_n 3, 1), (1, .iconst 0, 1), (2, .aload_n 0, 1), (3, .iload_n 1, 1), (4, .iload_n 2, 1), (5, .invokevirtual 31, 3), (8, .i2l, 1), (9, .lastore, 1), (10, .goto 11, 3), (13, .astore 4, 2), (15, .iconst 1, 1), (16, .ireturn, 1), (17, .astore 4, 2), (19, .iconst 2, 1), (20, .ireturn, 1), (21, .iconst 0, 1), (22, .ireturn, 1)]
def cd_L_assign_0 : List (Nat × Instr × Nat) := [(0, .aload_n 3, 1), (1, .iconst 0, 1), (2, .aload_n 0, 1), (3, .iload_n 1, 1), (4, .iload_n 2, 1), (5, .invokevirtual 35, 3), (8, .i2l, 1), (9, .lastore, 1), (10, .goto 7, 3), (13, .astore 4, 2), (15, .iconst 1, 1), (16, .ireturn, 1), (17, .iconst 0, 1), (18, .ireturn, 1)]
def cd_L_set_0 : List (Nat × Instr × Nat) := [(0, .aload_n 3, 1), (1, .iconst 0, 1), (2, .aload_n 0, 1), (3, .iload_n 1, 1), (4, .iload_n 2, 1), (5, .invokevirtual 38, 3), (8, .i2l, 1), (9, .lastore, 1), (10, .goto 11, 3), (13, .astore 4, 2), (15, .iconst 1, 1), (16, .ireturn, 1), (17, .astore 4, 2), (19, .iconst 2, 1), (20, .ireturn, 1), (21, .iconst 0, 1), (22, .ireturn, 1)]
def cd_L_lots_0 : List (Nat × Instr × Nat) := [(0, .aload_n 1, 1), (1, .iconst 0, 1), (2, .aload_n 0, 1), (3, .invokevirtual 41, 3), (6, .i2l, 1), (7, .lastore, 1), (8, .goto 6, 3), (11, .astore_n 2, 1), (12, .iconst 1, 1), (13, .ireturn, 1), (14, .iconst 0, 1), (15, .ireturn, 1)]
def cd_L_weather_0 : List (Nat × Instr × Nat) := [(0, .aload_n 2, 1), (1, .iconst 0, 1), (2, .aload_n 0, 1), (3, .iload_n 1, 1), (4, .invokevirtual 44, 3), (7, .i2l, 1), (8, .lastore, 1), (9, .goto 6, 3), (12, .astore_n 3, 1), (13, .iconst 1, 1), (14, .ireturn, 1), (15, .iconst 0, 1), (16, .ireturn, 1)]
def cd_L_play_0 : List (Nat × Instr × Nat) := [(0, .aload_n 3, 1), (1, .iconst 0, 1), (2, .aload_n 0, 1), (3, .iload_n 1, 1), (4, .iload_n 2, 1), (5, .invokevirtual 48, 3), (8, .i2l, 1), (9, .lastore, 1), (10, .goto 15, 3), (13, .astore 4, 2), (15, .iconst 1, 1), (16, .ireturn, 1), (17, .astore 4, 2), (19, .iconst 2, 1), (20, .ireturn, 1), (21, .astore 4, 2), (23, .iconst 3, 1), (24, .ireturn, 1), (25, .iconst 0, 1), (26, .ireturn, 1)]
def cd_L_append_0 : List (Nat × Instr × Nat) := [(0, .aload_n 2, 1), (1, .iconst 0, 1), (2, .aload_n 0, 1), (3, .iload_n 1, 1), (4, .invokevirtual 51, 3), (7, .i2l, 1), (8, .lastore, 1), (9, .goto 9, 3), (12, .astore_n 3, 1), (13, .iconst 1, 1), (14, .ireturn, 1), (15, .astore_n 3, 1), (16, .iconst 2, 1), (17, .ireturn, 1), (18, .iconst 0, 1), (19, .ireturn, 1)]
def cd_L_run_0 : List (Nat × Instr × Nat) := [(0, .aload_n 1, 1), (1, .iconst 0, 1), (2, .aload_n 0, 1), (3, .invokevirtual 54, 3), (6, .i2l, 1), (7, .lastore, 1), (8, .goto 6, 3), (11, .astore_n 2, 1), (12, .iconst 1, 1), (13, .ireturn, 1), (14, .iconst 0, 1), (15, .ireturn, 1)]
def cd_L_undo_0 : List (Nat × Instr × Nat) := [(0, .aload_n 1, 1), (1, .iconst 0, 1), (2, .aload_n 0, 1), (3, .invokevirtual 57, 3), (6, .i2l, 1), (7, .lastore, 1), (8, .goto 6, 3), (11, .astore_n 2, 1), (12, .iconst 1, 1), (13, .ireturn, 1), (14, .iconst 0, 1), (15, .ireturn, 1)]
def cd_L_corner_0 : List (Nat × Instr × Nat) := [(0, .aload_n 3, 1), (1, .iconst 0, 1), (2, .aload_n 0, 1), (3, .iload_n 1, 1), (4, .iload_n 2, 1), (5, .invokevirtual 60, 3), (8, .i2l, 1), (9, .lastore, 1), (10, .goto 11, 3), (13, .astore 4, 2), (15, .iconst 1, 1), (16, .ireturn, 1), (17, .astore 4, 2), (19, .iconst 2, 1), (20, .ireturn, 1), (21, .iconst 0, 1), (22, .ireturn, 1)]
def cd_L_organ_0 : List (Nat × Instr × Nat) := [(0, .aload_n 3, 1), (1, .iconst 0, 1), (2, .aload_n 0, 1), (3, .iload_n 1, 1), (4, .iload_n 2, 1), (5, .invokevirtual 63, 3), (8, .i2l, 1), (9, .lastore, 1), (10, .goto 11, 3), (13, .astore 4, 2), (15, .iconst 1, 1), (16, .ireturn, 1), (17, .astore 4, 2), (19, .iconst 2, 1), (20, .ireturn, 1), (21, .iconst 0, 1), (22, .ireturn, 1)]
def cd_L_player_0 : List (Nat × Instr × Nat) := [(0, .aload_n 3, 1), (1, .iconst 0, 1), (2, .aload_n 0, 1), (3, .iload_n 1, 1), (4, .iload_n 2, 1), (5, .invokevirtual 66, 3), (8, .i2l, 1), (9, .lastore, 1), (10, .goto 11, 3), (13, .astore 4, 2), (15, .iconst 1, 1), (16, .ireturn, 1), (17, .astore 4, 2), (19, .iconst 2, 1), (20, .ireturn, 1), (21, .iconst 0, 1), (22, .ireturn, 1)]
def cd_L_hours_0 : List (Nat × Instr × Nat) := [(0, .aload_n 3, 1), (1, .iconst 0, 1), (2, .aload_n 0, 1), (3, .iload_n 1, 1), (4, .iload_n 2, 1), (5, .invokevirtual 69, 3), (8, .i2l, 1), (9, .lastore, 1), (10, .goto 7, 3), (13, .astore 4, 2), (15, .iconst 1, 1), (16, .ireturn, 1), (17, .iconst 0, 1), (18, .ireturn, 1)]
def cd_L_count_0 : List (Nat × Instr × Nat) := [(0, .aload_n 2, 1), (1, .iconst 0, 1), (2, .aload_n 0, 1), (3, .iload_n 1, 1), (4, .invokevirtual 72, 3), (7, .i2l, 1), (8, .lastore, 1), (9, .goto 6, 3), (12, .astore_n 3, 1), (13, .iconst 1, 1), (14, .ireturn, 1), (15, .iconst 0, 1), (16, .ireturn, 1)]
def cd_L_setting_0 : List (Nat × Instr × Nat) := [(0, .aload_n 2, 1), (1, .iconst 0, 1), (2, .aload_n 0, 1), (3, .iload_n 1, 1), (4, .invokevirtual 75, 3), (7, .i2l, 1), (8, .lastore, 1), (9, .goto 6, 3), (12, .astore_n 3, 1), (13, .iconst 1, 1), (14, .ireturn, 1), (15, .iconst 0, 1), (16, .ireturn, 1)]
def cd_L_whyNot_0 : List (Nat × Instr × Nat) := [(0, .aload_n 3, 1), (1, .iconst 0, 1), (2, .aload_n 0, 1), (3, .iload_n 1, 1), (4, .iload_n 2, 1), (5, .invokevirtual 78, 3), (8, .i2l, 1), (9, .lastore, 1), (10, .goto 11, 3), (13, .astore 4, 2), (15, .iconst 1, 1), (16, .ireturn, 1), (17, .astore 4, 2), (19, .iconst 2, 1), (20, .ireturn, 1), (21, .iconst 0, 1), (22, .ireturn, 1)]
def cd_L_ifPlayed_0 : List (Nat × Instr × Nat) := [(0, .aload_n 2, 1), (1, .iconst 0, 1), (2, .aload_n 0, 1), (3, .iload_n 1, 1), (4, .invokevirtual 81, 3), (7, .i2l, 1), (8, .lastore, 1), (9, .goto 6, 3), (12, .astore_n 3, 1), (13, .iconst 1, 1), (14, .ireturn, 1), (15, .iconst 0, 1), (16, .ireturn, 1)]
def cd_L_kindestTune_0 : List (Nat × Instr × Nat) := [(0, .aload_n 2, 1), (1, .iconst 0, 1), (2, .aload_n 0, 1), (3, .iload_n 1, 1), (4, .invokevirtual 84, 3), (7, .i2l, 1), (8, .lastore, 1), (9, .goto 6, 3), (12, .astore_n 3, 1), (13, .iconst 1, 1), (14, .ireturn, 1), (15, .iconst 0, 1), (16, .ireturn, 1)]
def cd_L_most_0 : List (Nat × Instr × Nat) := [(0, .aload_n 2, 1), (1, .iconst 0, 1), (2, .aload_n 0, 1), (3, .iload_n 1, 1), (4, .invokevirtual 87, 3), (7, .i2l, 1), (8, .lastore, 1), (9, .goto 6, 3), (12, .astore_n 3, 1), (13, .iconst 1, 1), (14, .ireturn, 1), (15, .iconst 0, 1), (16, .ireturn, 1)]
def cd_L_ifEnded_0 : List (Nat × Instr × Nat) := [(0, .aload_n 2, 1), (1, .iconst 0, 1), (2, .aload_n 0, 1), (3, .iload_n 1, 1), (4, .invokevirtual 90, 3), (7, .i2l, 1), (8, .lastore, 1), (9, .goto 6, 3), (12, .astore_n 3, 1), (13, .iconst 1, 1), (14, .ireturn, 1), (15, .iconst 0, 1), (16, .ireturn, 1)]
def cd_L_law_0 : List (Nat × Instr × Nat) := [(0, .new 8, 3), (3, .dup, 1), (4, .invokespecial 93, 3), (7, .astore_n 1, 1), (8, .new 94, 3), (11, .dup, 1), (12, .invokespecial 96, 3), (15, .astore_n 2, 1), (16, .iconst 1, 1), (17, .newarray .long, 2), (19, .astore_n 3, 1), (20, .iconst 0, 1), (21, .istore 4, 2), (23, .iload 4, 2), (25, .aload_n 0, 1), (26, .arraylength, 1), (27, .iconst 5, 1), (28, .isub, 1), (29, .if_icmp .gt 1723, 3)]
def cd_L_law_1 : List (Nat × Instr × Nat) := [(32, .aload_n 0, 1), (33, .iload 4, 2), (35, .iaload, 1), (36, .bipush 31, 2), (38, .iand, 1), (39, .tableswitch 1707 0 28 #[129, 221, 277, 321, 405, 473, 541, 609, 653, 725, 793, 806, 862, 875, 888, 932, 976, 1044, 1112, 1180, 1248, 1304, 1360, 1428, 1484, 1540, 1596, 1652, 1693], 129)]
def cd_L_law_2 : List (Nat × Instr × Nat) := []
def cd_L_law_3 : List (Nat × Instr × Nat) := []
def cd_L_law_4 : List (Nat × Instr × Nat) := []
def cd_L_law_5 : List (Nat × Instr × Nat) := [(168, .aload_n 1, 1), (169, .aload_n 0, 1), (170, .iload 4, 2), (172, .iconst 1, 1), (173, .iadd, 1), (174, .iaload, 1), (175, .aload_n 0, 1), (176, .iload 4, 2), (178, .iconst 2, 1), (179, .iadd, 1), (180, .iaload, 1), (181, .aload_n 0, 1), (182, .iload 4, 2), (184, .iconst 3, 1), (185, .iadd, 1), (186, .iaload, 1), (187, .aload_n 0, 1), (188, .iload 4, 2), (190, .iconst 4, 1), (191, .iadd, 1)]
def cd_L_law_6 : List (Nat × Instr × Nat) := [(192, .iaload, 1), (193, .aload_n 3, 1), (194, .invokestatic 97, 3), (197, .istore 5, 2), (199, .aload_n 2, 1), (200, .aload_n 0, 1), (201, .iload 4, 2), (203, .iconst 1, 1), (204, .iadd, 1), (205, .iaload, 1), (206, .aload_n 0, 1), (207, .iload 4, 2), (209, .iconst 2, 1), (210, .iadd, 1), (211, .iaload, 1), (212, .aload_n 0, 1), (213, .iload 4, 2), (215, .iconst 3, 1), (216, .iadd, 1), (217, .iaload, 1), (218, .aload_n 0, 1), (219, .iload 4, 2), (221, .iconst 4, 1), (222, .iadd, 1), (223, .iaload, 1)]
def cd_L_law_7 : List (Nat × Instr × Nat) := [(224, .invokevirtual 102, 3), (227, .istore 6, 2), (229, .aload_n 2, 1), (230, .invokevirtual 103, 3), (233, .iload 5, 2), (235, .if_icmp .eq 5, 3), (238, .iconst 0, 1), (239, .ireturn, 1), (240, .iload 5, 2), (242, .ifCond .ne 15, 3), (245, .aload_n 3, 1), (246, .iconst 0, 1), (247, .laload, 1), (248, .iload 6, 2), (250, .i2l, 1), (251, .lcmp, 1), (252, .ifCond .eq 5, 3), (255, .iconst 0, 1)]
def cd_L_law_8 : List (Nat × Instr × Nat) := [(256, .ireturn, 1), (257, .goto 1489, 3), (260, .aload_n 1, 1), (261, .aload_n 0, 1), (262, .iload 4, 2), (264, .iconst 1, 1), (265, .iadd, 1), (266, .iaload, 1), (267, .aload_n 3, 1), (268, .invokestatic 106, 3), (271, .istore 5, 2), (273, .aload_n 2, 1), (274, .aload_n 0, 1), (275, .iload 4, 2), (277, .iconst 1, 1), (278, .iadd, 1), (279, .iaload, 1), (280, .invokevirtual 109, 3), (283, .istore 6, 2), (285, .aload_n 2, 1), (286, .invokevirtual 103, 3)]
def cd_L_law_9 : List (Nat × Instr × Nat) := [(289, .iload 5, 2), (291, .if_icmp .eq 5, 3), (294, .iconst 0, 1), (295, .ireturn, 1), (296, .iload 5, 2), (298, .ifCond .ne 15, 3), (301, .aload_n 3, 1), (302, .iconst 0, 1), (303, .laload, 1), (304, .iload 6, 2), (306, .i2l, 1), (307, .lcmp, 1), (308, .ifCond .eq 5, 3), (311, .iconst 0, 1), (312, .ireturn, 1), (313, .goto 1433, 3), (316, .aload_n 1, 1), (317, .aload_n 3, 1), (318, .invokestatic 110, 3)]
def cd_L_law_10 : List (Nat × Instr × Nat) := [(321, .istore 5, 2), (323, .aload_n 2, 1), (324, .invokevirtual 113, 3), (327, .istore 6, 2), (329, .aload_n 2, 1), (330, .invokevirtual 103, 3), (333, .iload 5, 2), (335, .if_icmp .eq 5, 3), (338, .iconst 0, 1), (339, .ireturn, 1), (340, .iload 5, 2), (342, .ifCond .ne 15, 3), (345, .aload_n 3, 1), (346, .iconst 0, 1), (347, .laload, 1), (348, .iload 6, 2), (350, .i2l, 1), (351, .lcmp, 1)]
def cd_L_law_11 : List (Nat × Instr × Nat) := [(352, .ifCond .eq 5, 3), (355, .iconst 0, 1), (356, .ireturn, 1), (357, .goto 1389, 3), (360, .aload_n 1, 1), (361, .aload_n 0, 1), (362, .iload 4, 2), (364, .iconst 1, 1), (365, .iadd, 1), (366, .iaload, 1), (367, .aload_n 0, 1), (368, .iload 4, 2), (370, .iconst 2, 1), (371, .iadd, 1), (372, .iaload, 1), (373, .ifCond .eq 7, 3), (376, .iconst 1, 1), (377, .goto 4, 3), (380, .iconst 0, 1), (381, .aload_n 3, 1), (382, .invokestatic 114, 3)]
def cd_L_law_12 : List (Nat × Instr × Nat) := [(385, .istore 5, 2), (387, .aload_n 2, 1), (388, .aload_n 0, 1), (389, .iload 4, 2), (391, .iconst 1, 1), (392, .iadd, 1), (393, .iaload, 1), (394, .aload_n 0, 1), (395, .iload 4, 2), (397, .iconst 2, 1), (398, .iadd, 1), (399, .iaload, 1), (400, .ifCond .eq 7, 3), (403, .iconst 1, 1), (404, .goto 4, 3), (407, .iconst 0, 1), (408, .invokevirtual 117, 3), (411, .istore 6, 2), (413, .aload_n 2, 1), (414, .invokevirtual 103, 3)]
def cd_L_law_13 : List (Nat × Instr × Nat) := [(417, .iload 5, 2), (419, .if_icmp .eq 5, 3), (422, .iconst 0, 1), (423, .ireturn, 1), (424, .iload 5, 2), (426, .ifCond .ne 15, 3), (429, .aload_n 3, 1), (430, .iconst 0, 1), (431, .laload, 1), (432, .iload 6, 2), (434, .i2l, 1), (435, .lcmp, 1), (436, .ifCond .eq 5, 3), (439, .iconst 0, 1), (440, .ireturn, 1), (441, .goto 1305, 3), (444, .aload_n 1, 1), (445, .aload_n 0, 1), (446, .iload 4, 2)]
def cd_L_law_14 : List (Nat × Instr × Nat) := [(448, .iconst 1, 1), (449, .iadd, 1), (450, .iaload, 1), (451, .aload_n 0, 1), (452, .iload 4, 2), (454, .iconst 2, 1), (455, .iadd, 1), (456, .iaload, 1), (457, .aload_n 3, 1), (458, .invokestatic 118, 3), (461, .istore 5, 2), (463, .aload_n 2, 1), (464, .aload_n 0, 1), (465, .iload 4, 2), (467, .iconst 1, 1), (468, .iadd, 1), (469, .iaload, 1), (470, .aload_n 0, 1), (471, .iload 4, 2), (473, .iconst 2, 1), (474, .iadd, 1), (475, .iaload, 1), (476, .invokevirtual 121, 3), (479, .istore 6, 2)]
def cd_L_law_15 : List (Nat × Instr × Nat) := [(481, .aload_n 2, 1), (482, .invokevirtual 103, 3), (485, .iload 5, 2), (487, .if_icmp .eq 5, 3), (490, .iconst 0, 1), (491, .ireturn, 1), (492, .iload 5, 2), (494, .ifCond .ne 15, 3), (497, .aload_n 3, 1), (498, .iconst 0, 1), (499, .laload, 1), (500, .iload 6, 2), (502, .i2l, 1), (503, .lcmp, 1), (504, .ifCond .eq 5, 3), (507, .iconst 0, 1), (508, .ireturn, 1), (509, .goto 1237, 3)]
def cd_L_law_16 : List (Nat × Instr × Nat) := [(512, .aload_n 1, 1), (513, .aload_n 0, 1), (514, .iload 4, 2), (516, .iconst 1, 1), (517, .iadd, 1), (518, .iaload, 1), (519, .aload_n 0, 1), (520, .iload 4, 2), (522, .iconst 2, 1), (523, .iadd, 1), (524, .iaload, 1), (525, .aload_n 3, 1), (526, .invokestatic 122, 3), (529, .istore 5, 2), (531, .aload_n 2, 1), (532, .aload_n 0, 1), (533, .iload 4, 2), (535, .iconst 1, 1), (536, .iadd, 1), (537, .iaload, 1), (538, .aload_n 0, 1), (539, .iload 4, 2), (541, .iconst 2, 1), (542, .iadd, 1), (543, .iaload, 1)]
def cd_L_law_17 : List (Nat × Instr × Nat) := [(544, .invokevirtual 124, 3), (547, .istore 6, 2), (549, .aload_n 2, 1), (550, .invokevirtual 103, 3), (553, .iload 5, 2), (555, .if_icmp .eq 5, 3), (558, .iconst 0, 1), (559, .ireturn, 1), (560, .iload 5, 2), (562, .ifCond .ne 15, 3), (565, .aload_n 3, 1), (566, .iconst 0, 1), (567, .laload, 1), (568, .iload 6, 2), (570, .i2l, 1), (571, .lcmp, 1), (572, .ifCond .eq 5, 3), (575, .iconst 0, 1)]
def cd_L_law_18 : List (Nat × Instr × Nat) := [(576, .ireturn, 1), (577, .goto 1169, 3), (580, .aload_n 1, 1), (581, .aload_n 0, 1), (582, .iload 4, 2), (584, .iconst 1, 1), (585, .iadd, 1), (586, .iaload, 1), (587, .aload_n 0, 1), (588, .iload 4, 2), (590, .iconst 2, 1), (591, .iadd, 1), (592, .iaload, 1), (593, .aload_n 3, 1), (594, .invokestatic 125, 3), (597, .istore 5, 2), (599, .aload_n 2, 1), (600, .aload_n 0, 1), (601, .iload 4, 2), (603, .iconst 1, 1), (604, .iadd, 1), (605, .iaload, 1), (606, .aload_n 0, 1), (607, .iload 4, 2)]
def cd_L_law_19 : List (Nat × Instr × Nat) := [(609, .iconst 2, 1), (610, .iadd, 1), (611, .iaload, 1), (612, .invokevirtual 127, 3), (615, .istore 6, 2), (617, .aload_n 2, 1), (618, .invokevirtual 103, 3), (621, .iload 5, 2), (623, .if_icmp .eq 5, 3), (626, .iconst 0, 1), (627, .ireturn, 1), (628, .iload 5, 2), (630, .ifCond .ne 15, 3), (633, .aload_n 3, 1), (634, .iconst 0, 1), (635, .laload, 1), (636, .iload 6, 2), (638, .i2l, 1), (639, .lcmp, 1)]
def cd_L_law_20 : List (Nat × Instr × Nat) := [(640, .ifCond .eq 5, 3), (643, .iconst 0, 1), (644, .ireturn, 1), (645, .goto 1101, 3), (648, .aload_n 1, 1), (649, .aload_n 3, 1), (650, .invokestatic 128, 3), (653, .istore 5, 2), (655, .aload_n 2, 1), (656, .invokevirtual 130, 3), (659, .istore 6, 2), (661, .aload_n 2, 1), (662, .invokevirtual 103, 3), (665, .iload 5, 2), (667, .if_icmp .eq 5, 3), (670, .iconst 0, 1), (671, .ireturn, 1)]
def cd_L_law_21 : List (Nat × Instr × Nat) := [(672, .iload 5, 2), (674, .ifCond .ne 15, 3), (677, .aload_n 3, 1), (678, .iconst 0, 1), (679, .laload, 1), (680, .iload 6, 2), (682, .i2l, 1), (683, .lcmp, 1), (684, .ifCond .eq 5, 3), (687, .iconst 0, 1), (688, .ireturn, 1), (689, .goto 1057, 3), (692, .aload_n 1, 1), (693, .aload_n 0, 1), (694, .iload 4, 2), (696, .iconst 1, 1), (697, .iadd, 1), (698, .iaload, 1), (699, .ifCond .eq 7, 3), (702, .iconst 1, 1), (703, .goto 4, 3)]
def cd_L_law_22 : List (Nat × Instr × Nat) := [(706, .iconst 0, 1), (707, .aload_n 3, 1), (708, .invokestatic 131, 3), (711, .istore 5, 2), (713, .aload_n 2, 1), (714, .aload_n 0, 1), (715, .iload 4, 2), (717, .iconst 1, 1), (718, .iadd, 1), (719, .iaload, 1), (720, .ifCond .eq 7, 3), (723, .iconst 1, 1), (724, .goto 4, 3), (727, .iconst 0, 1), (728, .invokevirtual 134, 3), (731, .istore 6, 2), (733, .aload_n 2, 1), (734, .invokevirtual 103, 3)]
def cd_L_law_23 : List (Nat × Instr × Nat) := [(737, .iload 5, 2), (739, .if_icmp .eq 5, 3), (742, .iconst 0, 1), (743, .ireturn, 1), (744, .iload 5, 2), (746, .ifCond .ne 15, 3), (749, .aload_n 3, 1), (750, .iconst 0, 1), (751, .laload, 1), (752, .iload 6, 2), (754, .i2l, 1), (755, .lcmp, 1), (756, .ifCond .eq 5, 3), (759, .iconst 0, 1), (760, .ireturn, 1), (761, .goto 985, 3), (764, .aload_n 1, 1), (765, .aload_n 0, 1), (766, .iload 4, 2)]
def cd_L_law_24 : List (Nat × Instr × Nat) := [(768, .iconst 1, 1), (769, .iadd, 1), (770, .iaload, 1), (771, .aload_n 0, 1), (772, .iload 4, 2), (774, .iconst 2, 1), (775, .iadd, 1), (776, .iaload, 1), (777, .aload_n 3, 1), (778, .invokestatic 135, 3), (781, .istore 5, 2), (783, .aload_n 2, 1), (784, .aload_n 0, 1), (785, .iload 4, 2), (787, .iconst 1, 1), (788, .iadd, 1), (789, .iaload, 1), (790, .aload_n 0, 1), (791, .iload 4, 2), (793, .iconst 2, 1), (794, .iadd, 1), (795, .iaload, 1), (796, .invokevirtual 137, 3), (799, .istore 6, 2)]
def cd_L_law_25 : List (Nat × Instr × Nat) := [(801, .aload_n 2, 1), (802, .invokevirtual 103, 3), (805, .iload 5, 2), (807, .if_icmp .eq 5, 3), (810, .iconst 0, 1), (811, .ireturn, 1), (812, .iload 5, 2), (814, .ifCond .ne 15, 3), (817, .aload_n 3, 1), (818, .iconst 0, 1), (819, .laload, 1), (820, .iload 6, 2), (822, .i2l, 1), (823, .lcmp, 1), (824, .ifCond .eq 5, 3), (827, .iconst 0, 1), (828, .ireturn, 1), (829, .goto 917, 3)]
def cd_L_law_26 : List (Nat × Instr × Nat) := [(832, .aload_n 1, 1), (833, .invokevirtual 138, 3), (836, .aload_n 2, 1), (837, .invokevirtual 141, 3), (840, .if_icmp .eq 906, 3), (843, .iconst 0, 1), (844, .ireturn, 1), (845, .aload_n 1, 1), (846, .aload_n 0, 1), (847, .iload 4, 2), (849, .iconst 1, 1), (850, .iadd, 1), (851, .iaload, 1), (852, .aload_n 3, 1), (853, .invokestatic 142, 3), (856, .istore 5, 2), (858, .aload_n 2, 1), (859, .aload_n 0, 1), (860, .iload 4, 2), (862, .iconst 1, 1), (863, .iadd, 1)]
def cd_L_law_27 : List (Nat × Instr × Nat) := [(864, .iaload, 1), (865, .invokevirtual 144, 3), (868, .istore 6, 2), (870, .aload_n 2, 1), (871, .invokevirtual 103, 3), (874, .iload 5, 2), (876, .if_icmp .eq 5, 3), (879, .iconst 0, 1), (880, .ireturn, 1), (881, .iload 5, 2), (883, .ifCond .ne 15, 3), (886, .aload_n 3, 1), (887, .iconst 0, 1), (888, .laload, 1), (889, .iload 6, 2), (891, .i2l, 1), (892, .lcmp, 1), (893, .ifCond .eq 5, 3)]
def cd_L_law_28 : List (Nat × Instr × Nat) := [(896, .iconst 0, 1), (897, .ireturn, 1), (898, .goto 848, 3), (901, .aload_n 1, 1), (902, .invokevirtual 145, 3), (905, .aload_n 2, 1), (906, .invokevirtual 148, 3), (909, .if_icmp .eq 837, 3), (912, .iconst 0, 1), (913, .ireturn, 1), (914, .aload_n 1, 1), (915, .invokevirtual 149, 3), (918, .aload_n 2, 1), (919, .invokevirtual 152, 3), (922, .if_icmp .eq 824, 3), (925, .iconst 0, 1), (926, .ireturn, 1), (927, .aload_n 1, 1)]
def cd_L_law_29 : List (Nat × Instr × Nat) := [(928, .aload_n 3, 1), (929, .invokestatic 153, 3), (932, .istore 5, 2), (934, .aload_n 2, 1), (935, .invokevirtual 155, 3), (938, .istore 6, 2), (940, .aload_n 2, 1), (941, .invokevirtual 103, 3), (944, .iload 5, 2), (946, .if_icmp .eq 5, 3), (949, .iconst 0, 1), (950, .ireturn, 1), (951, .iload 5, 2), (953, .ifCond .ne 15, 3), (956, .aload_n 3, 1), (957, .iconst 0, 1), (958, .laload, 1), (959, .iload 6, 2)]
def cd_L_law_30 : List (Nat × Instr × Nat) := [(961, .i2l, 1), (962, .lcmp, 1), (963, .ifCond .eq 5, 3), (966, .iconst 0, 1), (967, .ireturn, 1), (968, .goto 778, 3), (971, .aload_n 1, 1), (972, .aload_n 3, 1), (973, .invokestatic 156, 3), (976, .istore 5, 2), (978, .aload_n 2, 1), (979, .invokevirtual 158, 3), (982, .istore 6, 2), (984, .aload_n 2, 1), (985, .invokevirtual 103, 3), (988, .iload 5, 2), (990, .if_icmp .eq 5, 3)]
def cd_L_law_31 : List (Nat × Instr × Nat) := [(993, .iconst 0, 1), (994, .ireturn, 1), (995, .iload 5, 2), (997, .ifCond .ne 15, 3), (1000, .aload_n 3, 1), (1001, .iconst 0, 1), (1002, .laload, 1), (1003, .iload 6, 2), (1005, .i2l, 1), (1006, .lcmp, 1), (1007, .ifCond .eq 5, 3), (1010, .iconst 0, 1), (1011, .ireturn, 1), (1012, .goto 734, 3), (1015, .aload_n 1, 1), (1016, .aload_n 0, 1), (1017, .iload 4, 2), (1019, .iconst 1, 1), (1020, .iadd, 1), (1021, .iaload, 1), (1022, .aload_n 0, 1), (1023, .iload 4, 2)]
def cd_L_law_32 : List (Nat × Instr × Nat) := [(1025, .iconst 2, 1), (1026, .iadd, 1), (1027, .iaload, 1), (1028, .aload_n 3, 1), (1029, .invokestatic 159, 3), (1032, .istore 5, 2), (1034, .aload_n 2, 1), (1035, .aload_n 0, 1), (1036, .iload 4, 2), (1038, .iconst 1, 1), (1039, .iadd, 1), (1040, .iaload, 1), (1041, .aload_n 0, 1), (1042, .iload 4, 2), (1044, .iconst 2, 1), (1045, .iadd, 1), (1046, .iaload, 1), (1047, .invokevirtual 161, 3), (1050, .istore 6, 2), (1052, .aload_n 2, 1), (1053, .invokevirtual 103, 3)]
def cd_L_law_33 : List (Nat × Instr × Nat) := [(1056, .iload 5, 2), (1058, .if_icmp .eq 5, 3), (1061, .iconst 0, 1), (1062, .ireturn, 1), (1063, .iload 5, 2), (1065, .ifCond .ne 15, 3), (1068, .aload_n 3, 1), (1069, .iconst 0, 1), (1070, .laload, 1), (1071, .iload 6, 2), (1073, .i2l, 1), (1074, .lcmp, 1), (1075, .ifCond .eq 5, 3), (1078, .iconst 0, 1), (1079, .ireturn, 1), (1080, .goto 666, 3), (1083, .aload_n 1, 1), (1084, .aload_n 0, 1), (1085, .iload 4, 2), (1087, .iconst 1, 1)]
def cd_L_law_34 : List (Nat × Instr × Nat) := [(1088, .iadd, 1), (1089, .iaload, 1), (1090, .aload_n 0, 1), (1091, .iload 4, 2), (1093, .iconst 2, 1), (1094, .iadd, 1), (1095, .iaload, 1), (1096, .aload_n 3, 1), (1097, .invokestatic 162, 3), (1100, .istore 5, 2), (1102, .aload_n 2, 1), (1103, .aload_n 0, 1), (1104, .iload 4, 2), (1106, .iconst 1, 1), (1107, .iadd, 1), (1108, .iaload, 1), (1109, .aload_n 0, 1), (1110, .iload 4, 2), (1112, .iconst 2, 1), (1113, .iadd, 1), (1114, .iaload, 1), (1115, .invokevirtual 164, 3), (1118, .istore 6, 2)]
def cd_L_law_35 : List (Nat × Instr × Nat) := [(1120, .aload_n 2, 1), (1121, .invokevirtual 103, 3), (1124, .iload 5, 2), (1126, .if_icmp .eq 5, 3), (1129, .iconst 0, 1), (1130, .ireturn, 1), (1131, .iload 5, 2), (1133, .ifCond .ne 15, 3), (1136, .aload_n 3, 1), (1137, .iconst 0, 1), (1138, .laload, 1), (1139, .iload 6, 2), (1141, .i2l, 1), (1142, .lcmp, 1), (1143, .ifCond .eq 5, 3), (1146, .iconst 0, 1), (1147, .ireturn, 1), (1148, .goto 598, 3), (1151, .aload_n 1, 1)]
def cd_L_law_36 : List (Nat × Instr × Nat) := [(1152, .aload_n 0, 1), (1153, .iload 4, 2), (1155, .iconst 1, 1), (1156, .iadd, 1), (1157, .iaload, 1), (1158, .aload_n 0, 1), (1159, .iload 4, 2), (1161, .iconst 2, 1), (1162, .iadd, 1), (1163, .iaload, 1), (1164, .aload_n 3, 1), (1165, .invokestatic 165, 3), (1168, .istore 5, 2), (1170, .aload_n 2, 1), (1171, .aload_n 0, 1), (1172, .iload 4, 2), (1174, .iconst 1, 1), (1175, .iadd, 1), (1176, .iaload, 1), (1177, .aload_n 0, 1), (1178, .iload 4, 2), (1180, .iconst 2, 1), (1181, .iadd, 1), (1182, .iaload, 1), (1183, .invokevirtual 167, 3)]
def cd_L_law_37 : List (Nat × Instr × Nat) := [(1186, .istore 6, 2), (1188, .aload_n 2, 1), (1189, .invokevirtual 103, 3), (1192, .iload 5, 2), (1194, .if_icmp .eq 5, 3), (1197, .iconst 0, 1), (1198, .ireturn, 1), (1199, .iload 5, 2), (1201, .ifCond .ne 15, 3), (1204, .aload_n 3, 1), (1205, .iconst 0, 1), (1206, .laload, 1), (1207, .iload 6, 2), (1209, .i2l, 1), (1210, .lcmp, 1), (1211, .ifCond .eq 5, 3), (1214, .iconst 0, 1), (1215, .ireturn, 1)]
def cd_L_law_38 : List (Nat × Instr × Nat) := [(1216, .goto 530, 3), (1219, .aload_n 1, 1), (1220, .aload_n 0, 1), (1221, .iload 4, 2), (1223, .iconst 1, 1), (1224, .iadd, 1), (1225, .iaload, 1), (1226, .aload_n 0, 1), (1227, .iload 4, 2), (1229, .iconst 2, 1), (1230, .iadd, 1), (1231, .iaload, 1), (1232, .aload_n 3, 1), (1233, .invokestatic 168, 3), (1236, .istore 5, 2), (1238, .aload_n 2, 1), (1239, .aload_n 0, 1), (1240, .iload 4, 2), (1242, .iconst 1, 1), (1243, .iadd, 1), (1244, .iaload, 1), (1245, .aload_n 0, 1), (1246, .iload 4, 2)]
def cd_L_law_39 : List (Nat × Instr × Nat) := [(1248, .iconst 2, 1), (1249, .iadd, 1), (1250, .iaload, 1), (1251, .invokevirtual 170, 3), (1254, .istore 6, 2), (1256, .aload_n 2, 1), (1257, .invokevirtual 103, 3), (1260, .iload 5, 2), (1262, .if_icmp .eq 5, 3), (1265, .iconst 0, 1), (1266, .ireturn, 1), (1267, .iload 5, 2), (1269, .ifCond .ne 15, 3), (1272, .aload_n 3, 1), (1273, .iconst 0, 1), (1274, .laload, 1), (1275, .iload 6, 2), (1277, .i2l, 1), (1278, .lcmp, 1), (1279, .ifCond .eq 5, 3)]
def cd_L_law_40 : List (Nat × Instr × Nat) := [(1282, .iconst 0, 1), (1283, .ireturn, 1), (1284, .goto 462, 3), (1287, .aload_n 1, 1), (1288, .aload_n 0, 1), (1289, .iload 4, 2), (1291, .iconst 1, 1), (1292, .iadd, 1), (1293, .iaload, 1), (1294, .aload_n 3, 1), (1295, .invokestatic 171, 3), (1298, .istore 5, 2), (1300, .aload_n 2, 1), (1301, .aload_n 0, 1), (1302, .iload 4, 2), (1304, .iconst 1, 1), (1305, .iadd, 1), (1306, .iaload, 1), (1307, .invokevirtual 173, 3), (1310, .istore 6, 2)]
def cd_L_law_41 : List (Nat × Instr × Nat) := [(1312, .aload_n 2, 1), (1313, .invokevirtual 103, 3), (1316, .iload 5, 2), (1318, .if_icmp .eq 5, 3), (1321, .iconst 0, 1), (1322, .ireturn, 1), (1323, .iload 5, 2), (1325, .ifCond .ne 15, 3), (1328, .aload_n 3, 1), (1329, .iconst 0, 1), (1330, .laload, 1), (1331, .iload 6, 2), (1333, .i2l, 1), (1334, .lcmp, 1), (1335, .ifCond .eq 5, 3), (1338, .iconst 0, 1), (1339, .ireturn, 1), (1340, .goto 406, 3), (1343, .aload_n 1, 1)]
def cd_L_law_42 : List (Nat × Instr × Nat) := [(1344, .aload_n 0, 1), (1345, .iload 4, 2), (1347, .iconst 1, 1), (1348, .iadd, 1), (1349, .iaload, 1), (1350, .aload_n 3, 1), (1351, .invokestatic 174, 3), (1354, .istore 5, 2), (1356, .aload_n 2, 1), (1357, .aload_n 0, 1), (1358, .iload 4, 2), (1360, .iconst 1, 1), (1361, .iadd, 1), (1362, .iaload, 1), (1363, .invokevirtual 176, 3), (1366, .istore 6, 2), (1368, .aload_n 2, 1), (1369, .invokevirtual 103, 3), (1372, .iload 5, 2), (1374, .if_icmp .eq 5, 3)]
def cd_L_law_43 : List (Nat × Instr × Nat) := [(1377, .iconst 0, 1), (1378, .ireturn, 1), (1379, .iload 5, 2), (1381, .ifCond .ne 15, 3), (1384, .aload_n 3, 1), (1385, .iconst 0, 1), (1386, .laload, 1), (1387, .iload 6, 2), (1389, .i2l, 1), (1390, .lcmp, 1), (1391, .ifCond .eq 5, 3), (1394, .iconst 0, 1), (1395, .ireturn, 1), (1396, .goto 350, 3), (1399, .aload_n 1, 1), (1400, .aload_n 0, 1), (1401, .iload 4, 2), (1403, .iconst 1, 1), (1404, .iadd, 1), (1405, .iaload, 1), (1406, .aload_n 0, 1), (1407, .iload 4, 2)]
def cd_L_law_44 : List (Nat × Instr × Nat) := [(1409, .iconst 2, 1), (1410, .iadd, 1), (1411, .iaload, 1), (1412, .aload_n 3, 1), (1413, .invokestatic 177, 3), (1416, .istore 5, 2), (1418, .aload_n 2, 1), (1419, .aload_n 0, 1), (1420, .iload 4, 2), (1422, .iconst 1, 1), (1423, .iadd, 1), (1424, .iaload, 1), (1425, .aload_n 0, 1), (1426, .iload 4, 2), (1428, .iconst 2, 1), (1429, .iadd, 1), (1430, .iaload, 1), (1431, .invokevirtual 179, 3), (1434, .istore 6, 2), (1436, .aload_n 2, 1), (1437, .invokevirtual 103, 3)]
def cd_L_law_45 : List (Nat × Instr × Nat) := [(1440, .iload 5, 2), (1442, .if_icmp .eq 5, 3), (1445, .iconst 0, 1), (1446, .ireturn, 1), (1447, .iload 5, 2), (1449, .ifCond .ne 15, 3), (1452, .aload_n 3, 1), (1453, .iconst 0, 1), (1454, .laload, 1), (1455, .iload 6, 2), (1457, .i2l, 1), (1458, .lcmp, 1), (1459, .ifCond .eq 5, 3), (1462, .iconst 0, 1), (1463, .ireturn, 1), (1464, .goto 282, 3), (1467, .aload_n 1, 1), (1468, .aload_n 0, 1), (1469, .iload 4, 2), (1471, .iconst 1, 1)]
def cd_L_law_46 : List (Nat × Instr × Nat) := [(1472, .iadd, 1), (1473, .iaload, 1), (1474, .aload_n 3, 1), (1475, .invokestatic 180, 3), (1478, .istore 5, 2), (1480, .aload_n 2, 1), (1481, .aload_n 0, 1), (1482, .iload 4, 2), (1484, .iconst 1, 1), (1485, .iadd, 1), (1486, .iaload, 1), (1487, .invokevirtual 182, 3), (1490, .istore 6, 2), (1492, .aload_n 2, 1), (1493, .invokevirtual 103, 3), (1496, .iload 5, 2), (1498, .if_icmp .eq 5, 3), (1501, .iconst 0, 1), (1502, .ireturn, 1), (1503, .iload 5, 2)]
def cd_L_law_47 : List (Nat × Instr × Nat) := [(1505, .ifCond .ne 15, 3), (1508, .aload_n 3, 1), (1509, .iconst 0, 1), (1510, .laload, 1), (1511, .iload 6, 2), (1513, .i2l, 1), (1514, .lcmp, 1), (1515, .ifCond .eq 5, 3), (1518, .iconst 0, 1), (1519, .ireturn, 1), (1520, .goto 226, 3), (1523, .aload_n 1, 1), (1524, .aload_n 0, 1), (1525, .iload 4, 2), (1527, .iconst 1, 1), (1528, .iadd, 1), (1529, .iaload, 1), (1530, .aload_n 3, 1), (1531, .invokestatic 183, 3), (1534, .istore 5, 2)]
def cd_L_law_48 : List (Nat × Instr × Nat) := [(1536, .aload_n 2, 1), (1537, .aload_n 0, 1), (1538, .iload 4, 2), (1540, .iconst 1, 1), (1541, .iadd, 1), (1542, .iaload, 1), (1543, .invokevirtual 185, 3), (1546, .istore 6, 2), (1548, .aload_n 2, 1), (1549, .invokevirtual 103, 3), (1552, .iload 5, 2), (1554, .if_icmp .eq 5, 3), (1557, .iconst 0, 1), (1558, .ireturn, 1), (1559, .iload 5, 2), (1561, .ifCond .ne 15, 3), (1564, .aload_n 3, 1), (1565, .iconst 0, 1), (1566, .laload, 1), (1567, .iload 6, 2)]
def cd_L_law_49 : List (Nat × Instr × Nat) := [(1569, .i2l, 1), (1570, .lcmp, 1), (1571, .ifCond .eq 5, 3), (1574, .iconst 0, 1), (1575, .ireturn, 1), (1576, .goto 170, 3), (1579, .aload_n 1, 1), (1580, .aload_n 0, 1), (1581, .iload 4, 2), (1583, .iconst 1, 1), (1584, .iadd, 1), (1585, .iaload, 1), (1586, .aload_n 3, 1), (1587, .invokestatic 186, 3), (1590, .istore 5, 2), (1592, .aload_n 2, 1), (1593, .aload_n 0, 1), (1594, .iload 4, 2), (1596, .iconst 1, 1), (1597, .iadd, 1), (1598, .iaload, 1), (1599, .invokevirtual 188, 3)]
def cd_L_law_50 : List (Nat × Instr × Nat) := [(1602, .istore 6, 2), (1604, .aload_n 2, 1), (1605, .invokevirtual 103, 3), (1608, .iload 5, 2), (1610, .if_icmp .eq 5, 3), (1613, .iconst 0, 1), (1614, .ireturn, 1), (1615, .iload 5, 2), (1617, .ifCond .ne 15, 3), (1620, .aload_n 3, 1), (1621, .iconst 0, 1), (1622, .laload, 1), (1623, .iload 6, 2), (1625, .i2l, 1), (1626, .lcmp, 1), (1627, .ifCond .eq 5, 3), (1630, .iconst 0, 1), (1631, .ireturn, 1)]
def cd_L_law_51 : List (Nat × Instr × Nat) := [(1632, .goto 114, 3), (1635, .aload_n 1, 1), (1636, .aload_n 0, 1), (1637, .iload 4, 2), (1639, .iconst 1, 1), (1640, .iadd, 1), (1641, .iaload, 1), (1642, .aload_n 3, 1), (1643, .invokestatic 189, 3), (1646, .istore 5, 2), (1648, .aload_n 2, 1), (1649, .aload_n 0, 1), (1650, .iload 4, 2), (1652, .iconst 1, 1), (1653, .iadd, 1), (1654, .iaload, 1), (1655, .invokevirtual 191, 3), (1658, .istore 6, 2), (1660, .aload_n 2, 1), (1661, .invokevirtual 103, 3)]
def cd_L_law_52 : List (Nat × Instr × Nat) := [(1664, .iload 5, 2), (1666, .if_icmp .eq 5, 3), (1669, .iconst 0, 1), (1670, .ireturn, 1), (1671, .iload 5, 2), (1673, .ifCond .ne 15, 3), (1676, .aload_n 3, 1), (1677, .iconst 0, 1), (1678, .laload, 1), (1679, .iload 6, 2), (1681, .i2l, 1), (1682, .lcmp, 1), (1683, .ifCond .eq 5, 3), (1686, .iconst 0, 1), (1687, .ireturn, 1), (1688, .goto 58, 3), (1691, .aload_n 1, 1), (1692, .invokevirtual 192, 3), (1695, .dstore 5, 2)]
def cd_L_law_53 : List (Nat × Instr × Nat) := [(1697, .aload_n 2, 1), (1698, .invokevirtual 196, 3), (1701, .dstore 7, 2), (1703, .dload 5, 2), (1705, .dload 7, 2), (1707, .dcmp .l, 1), (1708, .ifCond .eq 21, 3), (1711, .dload 5, 2), (1713, .dload 5, 2), (1715, .dcmp .l, 1), (1716, .ifCond .eq 11, 3), (1719, .dload 7, 2), (1721, .dload 7, 2), (1723, .dcmp .l, 1), (1724, .ifCond .ne 5, 3), (1727, .iconst 0, 1)]
def cd_L_law_54 : List (Nat × Instr × Nat) := [(1728, .ireturn, 1), (1729, .goto 17, 3), (1732, .aload_n 1, 1), (1733, .invokevirtual 197, 3), (1736, .aload_n 2, 1), (1737, .invokevirtual 201, 3), (1740, .lcmp, 1), (1741, .ifCond .eq 5, 3), (1744, .iconst 0, 1), (1745, .ireturn, 1), (1746, .iinc 4 5, 3), (1749, .goto (-1726), 3), (1752, .iconst 1, 1), (1753, .ireturn, 1)]
end CD
end
section
/-! THE DECODED CODE IS THE CODE, by program (wip/whole/gen.py) -/
section DEC
theorem dk_X1_copyFrom_0 : ∀ z ∈ cd_X1_copyFrom_0, decode cX1_copyFrom z.1 = .ok (z.2.1, z.2.2) := by decide +kernel
theorem dk_X1_copyFrom_1 : ∀ z ∈ cd_X1_copyFrom_1, decode cX1_copyFrom z.1 = .ok (z.2.1, z.2.2) := by decide +kernel
theorem dk_X1_isQuietAt_0 : ∀ z ∈ cd_X1_isQuietAt_0, decode cX1_isQuietAt z.1 = .ok (z.2.1, z.2.2) := by decide +kernel
theorem dk_X1_distanceTo_0 : ∀ z ∈ cd_X1_distanceTo_0, decode cX1_distanceTo z.1 = .ok (z.2.1, z.2.2) := by decide +kernel
theorem dk_X1_tunesPlayed_0 : ∀ z ∈ cd_X1_tunesPlayed_0, decode cX1_tunesPlayed z.1 = .ok (z.2.1, z.2.2) := by decide +kernel
theorem dk_X1_tunesPlayed_1 : ∀ z ∈ cd_X1_tunesPlayed_1, decode cX1_tunesPlayed z.1 = .ok (z.2.1, z.2.2) := by decide +kernel
theorem dk_X1_noteTune_0 : ∀ z ∈ cd_X1_noteTune_0, decode cX1_noteTune z.1 = .ok (z.2.1, z.2.2) := by decide +kernel
theorem dk_X1_forgetDay_0 : ∀ z ∈ cd_X1_forgetDay_0, decode cX1_forgetDay z.1 = .ok (z.2.1, z.2.2) := by decide +kernel
theorem dk_X2_signCount_0 : ∀ z ∈ cd_X2_signCount_0, decode cX2_signCount z.1 = .ok (z.2.1, z.2.2) := by decide +kernel
theorem dk_X2_fits_0 : ∀ z ∈ cd_X2_fits_0, decode cX2_fits z.1 = .ok (z.2.1, z.2.2) := by decide +kernel
theorem dk_X2_fits_1 : ∀ z ∈ cd_X2_fits_1, decode cX2_fits z.1 = .ok (z.2.1, z.2.2) := by decide +kernel
theorem dk_X3_kindAt_0 : ∀ z ∈ cd_X3_kindAt_0, decode cX3_kindAt z.1 = .ok (z.2.1, z.2.2) := by decide +kernel
theorem dk_X3_kindAt_1 : ∀ z ∈ cd_X3_kindAt_1, decode cX3_kindAt z.1 = .ok (z.2.1, z.2.2) := by decide +kernel
theorem dk_X3_errorIndex_0 : ∀ z ∈ cd_X3_errorIndex_0, decode cX3_errorIndex z.1 = .ok (z.2.1, z.2.2) := by decide +kernel
theorem dk_X3_errorIndex_1 : ∀ z ∈ cd_X3_errorIndex_1, decode cX3_errorIndex z.1 = .ok (z.2.1, z.2.2) := by decide +kernel
theorem dk_X3_errorIndex_2 : ∀ z ∈ cd_X3_errorIndex_2, decode cX3_errorIndex z.1 = .ok (z.2.1, z.2.2) := by decide +kernel
theorem dk_X3_errorIndex_3 : ∀ z ∈ cd_X3_errorIndex_3, decode cX3_errorIndex z.1 = .ok (z.2.1, z.2.2) := by decide +kernel
theorem dk_X3_isWholeRow_0 : ∀ z ∈ cd_X3_isWholeRow_0, decode cX3_isWholeRow z.1 = .ok (z.2.1, z.2.2) := by decide +kernel
theorem dk_X3_isWholeRow_1 : ∀ z ∈ cd_X3_isWholeRow_1, decode cX3_isWholeRow z.1 = .ok (z.2.1, z.2.2) := by decide +kernel
theorem dk_X3_organAt_0 : ∀ z ∈ cd_X3_organAt_0, decode cX3_organAt z.1 = .ok (z.2.1, z.2.2) := by decide +kernel
theorem dk_X3_tuneAt_0 : ∀ z ∈ cd_X3_tuneAt_0, decode cX3_tuneAt z.1 = .ok (z.2.1, z.2.2) := by decide +kernel
theorem dk_X4_copyFrom_0 : ∀ z ∈ cd_X4_copyFrom_0, decode cX4_copyFrom z.1 = .ok (z.2.1, z.2.2) := by decide +kernel
theorem dk_X4_copyFrom_1 : ∀ z ∈ cd_X4_copyFrom_1, decode cX4_copyFrom z.1 = .ok (z.2.1, z.2.2) := by decide +kernel
theorem dk_X4_copyFrom_2 : ∀ z ∈ cd_X4_copyFrom_2, decode cX4_copyFrom z.1 = .ok (z.2.1, z.2.2) := by decide +kernel
theorem dk_X5_lookAt_0 : ∀ z ∈ cd_X5_lookAt_0, decode cX5_lookAt z.1 = .ok (z.2.1, z.2.2) := by decide +kernel
theorem dk_X5_leastHindering_0 : ∀ z ∈ cd_X5_leastHindering_0, decode cX5_leastHindering z.1 = .ok (z.2.1, z.2.2) := by decide +kernel
theorem dk_X5_leastHindering_1 : ∀ z ∈ cd_X5_leastHindering_1, decode cX5_leastHindering z.1 = .ok (z.2.1, z.2.2) := by decide +kernel
theorem dk_X5_hinderedPairs_0 : ∀ z ∈ cd_X5_hinderedPairs_0, decode cX5_hinderedPairs z.1 = .ok (z.2.1, z.2.2) := by decide +kernel
theorem dk_X5_hinderedPairs_1 : ∀ z ∈ cd_X5_hinderedPairs_1, decode cX5_hinderedPairs z.1 = .ok (z.2.1, z.2.2) := by decide +kernel
theorem dk_X5_findMost_0 : ∀ z ∈ cd_X5_findMost_0, decode cX5_findMost z.1 = .ok (z.2.1, z.2.2) := by decide +kernel
theorem dk_X5_findMost_1 : ∀ z ∈ cd_X5_findMost_1, decode cX5_findMost z.1 = .ok (z.2.1, z.2.2) := by decide +kernel
theorem dk_X5_findMost_2 : ∀ z ∈ cd_X5_findMost_2, decode cX5_findMost z.1 = .ok (z.2.1, z.2.2) := by decide +kernel
theorem dk_X5_takingsOf_0 : ∀ z ∈ cd_X5_takingsOf_0, decode cX5_takingsOf z.1 = .ok (z.2.1, z.2.2) := by decide +kernel
theorem dk_X5_takingsOf_1 : ∀ z ∈ cd_X5_takingsOf_1, decode cX5_takingsOf z.1 = .ok (z.2.1, z.2.2) := by decide +kernel
theorem dk_X5_nearAhead_0 : ∀ z ∈ cd_X5_nearAhead_0, decode cX5_nearAhead z.1 = .ok (z.2.1, z.2.2) := by decide +kernel
theorem dk_X5_nearAhead_1 : ∀ z ∈ cd_X5_nearAhead_1, decode cX5_nearAhead z.1 = .ok (z.2.1, z.2.2) := by decide +kernel
theorem dk_X5_findTunes_0 : ∀ z ∈ cd_X5_findTunes_0, decode cX5_findTunes z.1 = .ok (z.2.1, z.2.2) := by decide +kernel
theorem dk_X5_findTunes_1 : ∀ z ∈ cd_X5_findTunes_1, decode cX5_findTunes z.1 = .ok (z.2.1, z.2.2) := by decide +kernel
theorem dk_X5_findTunes_2 : ∀ z ∈ cd_X5_findTunes_2, decode cX5_findTunes z.1 = .ok (z.2.1, z.2.2) := by decide +kernel
theorem dk_X5_findTunes_3 : ∀ z ∈ cd_X5_findTunes_3, decode cX5_findTunes z.1 = .ok (z.2.1, z.2.2) := by decide +kernel
theorem dk_X5_isFree_0 : ∀ z ∈ cd_X5_isFree_0, decode cX5_isFree z.1 = .ok (z.2.1, z.2.2) := by decide +kernel
theorem dk_X5_isFree_1 : ∀ z ∈ cd_X5_isFree_1, decode cX5_isFree z.1 = .ok (z.2.1, z.2.2) := by decide +kernel
theorem dk_X6_reckon_0 : ∀ z ∈ cd_X6_reckon_0, decode cX6_reckon z.1 = .ok (z.2.1, z.2.2) := by decide +kernel
theorem dk_X6_reckon_1 : ∀ z ∈ cd_X6_reckon_1, decode cX6_reckon z.1 = .ok (z.2.1, z.2.2) := by decide +kernel
theorem dk_X6_sharePot_0 : ∀ z ∈ cd_X6_sharePot_0, decode cX6_sharePot z.1 = .ok (z.2.1, z.2.2) := by decide +kernel
theorem dk_X6_sharePot_1 : ∀ z ∈ cd_X6_sharePot_1, decode cX6_sharePot z.1 = .ok (z.2.1, z.2.2) := by decide +kernel
theorem dk_X6_sharePot_2 : ∀ z ∈ cd_X6_sharePot_2, decode cX6_sharePot z.1 = .ok (z.2.1, z.2.2) := by decide +kernel
theorem dk_X6_sharePot_3 : ∀ z ∈ cd_X6_sharePot_3, decode cX6_sharePot z.1 = .ok (z.2.1, z.2.2) := by decide +kernel
theorem dk_X6_sharePot_4 : ∀ z ∈ cd_X6_sharePot_4, decode cX6_sharePot z.1 = .ok (z.2.1, z.2.2) := by decide +kernel
theorem dk_X6_giveUnits_0 : ∀ z ∈ cd_X6_giveUnits_0, decode cX6_giveUnits z.1 = .ok (z.2.1, z.2.2) := by decide +kernel
theorem dk_X6_giveUnits_1 : ∀ z ∈ cd_X6_giveUnits_1, decode cX6_giveUnits z.1 = .ok (z.2.1, z.2.2) := by decide +kernel
theorem dk_X6_giveUnits_2 : ∀ z ∈ cd_X6_giveUnits_2, decode cX6_giveUnits z.1 = .ok (z.2.1, z.2.2) := by decide +kernel
theorem dk_X6_giveAllowances_0 : ∀ z ∈ cd_X6_giveAllowances_0, decode cX6_giveAllowances z.1 = .ok (z.2.1, z.2.2) := by decide +kernel
theorem dk_X6_giveAllowances_1 : ∀ z ∈ cd_X6_giveAllowances_1, decode cX6_giveAllowances z.1 = .ok (z.2.1, z.2.2) := by decide +kernel
theorem dk_X7_copyFrom_0 : ∀ z ∈ cd_X7_copyFrom_0, decode cX7_copyFrom z.1 = .ok (z.2.1, z.2.2) := by decide +kernel
theorem dk_X7_copyFrom_1 : ∀ z ∈ cd_X7_copyFrom_1, decode cX7_copyFrom z.1 = .ok (z.2.1, z.2.2) := by decide +kernel
theorem dk_X7_hoursOfDay_0 : ∀ z ∈ cd_X7_hoursOfDay_0, decode cX7_hoursOfDay z.1 = .ok (z.2.1, z.2.2) := by decide +kernel
theorem dk_X7_forgetDay_0 : ∀ z ∈ cd_X7_forgetDay_0, decode cX7_forgetDay z.1 = .ok (z.2.1, z.2.2) := by decide +kernel
theorem dk_X8_save_0 : ∀ z ∈ cd_X8_save_0, decode cX8_save z.1 = .ok (z.2.1, z.2.2) := by decide +kernel
theorem dk_X8_save_1 : ∀ z ∈ cd_X8_save_1, decode cX8_save z.1 = .ok (z.2.1, z.2.2) := by decide +kernel
theorem dk_X8_restore_0 : ∀ z ∈ cd_X8_restore_0, decode cX8_restore z.1 = .ok (z.2.1, z.2.2) := by decide +kernel
theorem dk_X8_restore_1 : ∀ z ∈ cd_X8_restore_1, decode cX8_restore z.1 = .ok (z.2.1, z.2.2) := by decide +kernel
theorem dk_X9_copyFrom_0 : ∀ z ∈ cd_X9_copyFrom_0, decode cX9_copyFrom z.1 = .ok (z.2.1, z.2.2) := by decide +kernel
theorem dk_X9_copyFrom_1 : ∀ z ∈ cd_X9_copyFrom_1, decode cX9_copyFrom z.1 = .ok (z.2.1, z.2.2) := by decide +kernel
theorem dk_X9_copyFrom_2 : ∀ z ∈ cd_X9_copyFrom_2, decode cX9_copyFrom z.1 = .ok (z.2.1, z.2.2) := by decide +kernel
theorem dk_X9_copyFrom_3 : ∀ z ∈ cd_X9_copyFrom_3, decode cX9_copyFrom z.1 = .ok (z.2.1, z.2.2) := by decide +kernel
theorem dk_X9_copyFrom_4 : ∀ z ∈ cd_X9_copyFrom_4, decode cX9_copyFrom z.1 = .ok (z.2.1, z.2.2) := by decide +kernel
theorem dk_X9_copyFrom_5 : ∀ z ∈ cd_X9_copyFrom_5, decode cX9_copyFrom z.1 = .ok (z.2.1, z.2.2) := by decide +kernel
theorem dk_X9_hasCornerAt_0 : ∀ z ∈ cd_X9_hasCornerAt_0, decode cX9_hasCornerAt z.1 = .ok (z.2.1, z.2.2) := by decide +kernel
theorem dk_X9_hasCornerAt_1 : ∀ z ∈ cd_X9_hasCornerAt_1, decode cX9_hasCornerAt z.1 = .ok (z.2.1, z.2.2) := by decide +kernel
theorem dk_X9_permits_0 : ∀ z ∈ cd_X9_permits_0, decode cX9_permits z.1 = .ok (z.2.1, z.2.2) := by decide +kernel
theorem dk_X9_permits_1 : ∀ z ∈ cd_X9_permits_1, decode cX9_permits z.1 = .ok (z.2.1, z.2.2) := by decide +kernel
theorem dk_X9_crewSize_0 : ∀ z ∈ cd_X9_crewSize_0, decode cX9_crewSize z.1 = .ok (z.2.1, z.2.2) := by decide +kernel
theorem dk_X9_crewSize_1 : ∀ z ∈ cd_X9_crewSize_1, decode cX9_crewSize z.1 = .ok (z.2.1, z.2.2) := by decide +kernel
theorem dk_X9_organAt_0 : ∀ z ∈ cd_X9_organAt_0, decode cX9_organAt z.1 = .ok (z.2.1, z.2.2) := by decide +kernel
theorem dk_X9_organAt_1 : ∀ z ∈ cd_X9_organAt_1, decode cX9_organAt z.1 = .ok (z.2.1, z.2.2) := by decide +kernel
theorem dk_X9_cornerOf_0 : ∀ z ∈ cd_X9_cornerOf_0, decode cX9_cornerOf z.1 = .ok (z.2.1, z.2.2) := by decide +kernel
theorem dk_X9_cornerOf_1 : ∀ z ∈ cd_X9_cornerOf_1, decode cX9_cornerOf z.1 = .ok (z.2.1, z.2.2) := by decide +kernel
theorem dk_X9_takingsSoFar_0 : ∀ z ∈ cd_X9_takingsSoFar_0, decode cX9_takingsSoFar z.1 = .ok (z.2.1, z.2.2) := by decide +kernel
theorem dk_X9_ownersSoFar_0 : ∀ z ∈ cd_X9_ownersSoFar_0, decode cX9_ownersSoFar z.1 = .ok (z.2.1, z.2.2) := by decide +kernel
theorem dk_X9_inAllPots_0 : ∀ z ∈ cd_X9_inAllPots_0, decode cX9_inAllPots z.1 = .ok (z.2.1, z.2.2) := by decide +kernel
theorem dk_X9_playersSoFar_0 : ∀ z ∈ cd_X9_playersSoFar_0, decode cX9_playersSoFar z.1 = .ok (z.2.1, z.2.2) := by decide +kernel
theorem dk_X9_weatherMayChange_0 : ∀ z ∈ cd_X9_weatherMayChange_0, decode cX9_weatherMayChange z.1 = .ok (z.2.1, z.2.2) := by decide +kernel
theorem dk_X9_lotsMayBeDrawn_0 : ∀ z ∈ cd_X9_lotsMayBeDrawn_0, decode cX9_lotsMayBeDrawn z.1 = .ok (z.2.1, z.2.2) := by decide +kernel
theorem dk_X9_drawLots_0 : ∀ z ∈ cd_X9_drawLots_0, decode cX9_drawLots z.1 = .ok (z.2.1, z.2.2) := by decide +kernel
theorem dk_X9_drawLots_1 : ∀ z ∈ cd_X9_drawLots_1, decode cX9_drawLots z.1 = .ok (z.2.1, z.2.2) := by decide +kernel
theorem dk_X9_drawLots_2 : ∀ z ∈ cd_X9_drawLots_2, decode cX9_drawLots z.1 = .ok (z.2.1, z.2.2) := by decide +kernel
theorem dk_X9_takeCornersBack_0 : ∀ z ∈ cd_X9_takeCornersBack_0, decode cX9_takeCornersBack z.1 = .ok (z.2.1, z.2.2) := by decide +kernel
theorem dk_X9_draw_0 : ∀ z ∈ cd_X9_draw_0, decode cX9_draw z.1 = .ok (z.2.1, z.2.2) := by decide +kernel
theorem dk_X9_draw_1 : ∀ z ∈ cd_X9_draw_1, decode cX9_draw z.1 = .ok (z.2.1, z.2.2) := by decide +kernel
theorem dk_X9_freeCorner_0 : ∀ z ∈ cd_X9_freeCorner_0, decode cX9_freeCorner z.1 = .ok (z.2.1, z.2.2) := by decide +kernel
theorem dk_X9_freeCorner_1 : ∀ z ∈ cd_X9_freeCorner_1, decode cX9_freeCorner z.1 = .ok (z.2.1, z.2.2) := by decide +kernel
theorem dk_X9_areNear_0 : ∀ z ∈ cd_X9_areNear_0, decode cX9_areNear z.1 = .ok (z.2.1, z.2.2) := by decide +kernel
theorem dk_X9_areNear_1 : ∀ z ∈ cd_X9_areNear_1, decode cX9_areNear z.1 = .ok (z.2.1, z.2.2) := by decide +kernel
theorem dk_X9_tunesHeardAt_0 : ∀ z ∈ cd_X9_tunesHeardAt_0, decode cX9_tunesHeardAt z.1 = .ok (z.2.1, z.2.2) := by decide +kernel
theorem dk_X9_tunesHeardAt_1 : ∀ z ∈ cd_X9_tunesHeardAt_1, decode cX9_tunesHeardAt z.1 = .ok (z.2.1, z.2.2) := by decide +kernel
theorem dk_X9_tunesHeardAt_2 : ∀ z ∈ cd_X9_tunesHeardAt_2, decode cX9_tunesHeardAt z.1 = .ok (z.2.1, z.2.2) := by decide +kernel
theorem dk_X9_reasonAgainstAll_0 : ∀ z ∈ cd_X9_reasonAgainstAll_0, decode cX9_reasonAgainstAll z.1 = .ok (z.2.1, z.2.2) := by decide +kernel
theorem dk_X9_reasonAgainstAll_1 : ∀ z ∈ cd_X9_reasonAgainstAll_1, decode cX9_reasonAgainstAll z.1 = .ok (z.2.1, z.2.2) := by decide +kernel
theorem dk_X9_reasonAgainst_0 : ∀ z ∈ cd_X9_reasonAgainst_0, decode cX9_reasonAgainst z.1 = .ok (z.2.1, z.2.2) := by decide +kernel
theorem dk_X9_reasonAgainst_1 : ∀ z ∈ cd_X9_reasonAgainst_1, decode cX9_reasonAgainst z.1 = .ok (z.2.1, z.2.2) := by decide +kernel
theorem dk_X9_reasonAgainst_2 : ∀ z ∈ cd_X9_reasonAgainst_2, decode cX9_reasonAgainst z.1 = .ok (z.2.1, z.2.2) := by decide +kernel
theorem dk_X9_playableTunes_0 : ∀ z ∈ cd_X9_playableTunes_0, decode cX9_playableTunes z.1 = .ok (z.2.1, z.2.2) := by decide +kernel
theorem dk_X9_playableTunes_1 : ∀ z ∈ cd_X9_playableTunes_1, decode cX9_playableTunes z.1 = .ok (z.2.1, z.2.2) := by decide +kernel
theorem dk_X9_playedNear_0 : ∀ z ∈ cd_X9_playedNear_0, decode cX9_playedNear z.1 = .ok (z.2.1, z.2.2) := by decide +kernel
theorem dk_X9_playedNear_1 : ∀ z ∈ cd_X9_playedNear_1, decode cX9_playedNear z.1 = .ok (z.2.1, z.2.2) := by decide +kernel
theorem dk_X9_takingsFor_0 : ∀ z ∈ cd_X9_takingsFor_0, decode cX9_takingsFor z.1 = .ok (z.2.1, z.2.2) := by decide +kernel
theorem dk_X9_takingsFor_1 : ∀ z ∈ cd_X9_takingsFor_1, decode cX9_takingsFor z.1 = .ok (z.2.1, z.2.2) := by decide +kernel
theorem dk_X9_playTune_0 : ∀ z ∈ cd_X9_playTune_0, decode cX9_playTune z.1 = .ok (z.2.1, z.2.2) := by decide +kernel
theorem dk_X9_playTune_1 : ∀ z ∈ cd_X9_playTune_1, decode cX9_playTune z.1 = .ok (z.2.1, z.2.2) := by decide +kernel
theorem dk_X9_playTune_2 : ∀ z ∈ cd_X9_playTune_2, decode cX9_playTune z.1 = .ok (z.2.1, z.2.2) := by decide +kernel
theorem dk_X9_divideTakings_0 : ∀ z ∈ cd_X9_divideTakings_0, decode cX9_divideTakings z.1 = .ok (z.2.1, z.2.2) := by decide +kernel
theorem dk_X9_divideTakings_1 : ∀ z ∈ cd_X9_divideTakings_1, decode cX9_divideTakings z.1 = .ok (z.2.1, z.2.2) := by decide +kernel
theorem dk_X9_divideTakings_2 : ∀ z ∈ cd_X9_divideTakings_2, decode cX9_divideTakings z.1 = .ok (z.2.1, z.2.2) := by decide +kernel
theorem dk_X9_divideTakings_3 : ∀ z ∈ cd_X9_divideTakings_3, decode cX9_divideTakings z.1 = .ok (z.2.1, z.2.2) := by decide +kernel
theorem dk_X9_addHourOfCrew_0 : ∀ z ∈ cd_X9_addHourOfCrew_0, decode cX9_addHourOfCrew z.1 = .ok (z.2.1, z.2.2) := by decide +kernel
theorem dk_X9_addHourOfCrew_1 : ∀ z ∈ cd_X9_addHourOfCrew_1, decode cX9_addHourOfCrew z.1 = .ok (z.2.1, z.2.2) := by decide +kernel
theorem dk_X9_endHour_0 : ∀ z ∈ cd_X9_endHour_0, decode cX9_endHour z.1 = .ok (z.2.1, z.2.2) := by decide +kernel
theorem dk_X9_endHour_1 : ∀ z ∈ cd_X9_endHour_1, decode cX9_endHour z.1 = .ok (z.2.1, z.2.2) := by decide +kernel
theorem dk_X9_payOut_0 : ∀ z ∈ cd_X9_payOut_0, decode cX9_payOut z.1 = .ok (z.2.1, z.2.2) := by decide +kernel
theorem dk_X9_payOut_1 : ∀ z ∈ cd_X9_payOut_1, decode cX9_payOut z.1 = .ok (z.2.1, z.2.2) := by decide +kernel
theorem dk_X9_payOut_2 : ∀ z ∈ cd_X9_payOut_2, decode cX9_payOut z.1 = .ok (z.2.1, z.2.2) := by decide +kernel
theorem dk_X9_payOut_3 : ∀ z ∈ cd_X9_payOut_3, decode cX9_payOut z.1 = .ok (z.2.1, z.2.2) := by decide +kernel
theorem dk_X9_beginDay_0 : ∀ z ∈ cd_X9_beginDay_0, decode cX9_beginDay z.1 = .ok (z.2.1, z.2.2) := by decide +kernel
theorem dk_X9_beginDay_1 : ∀ z ∈ cd_X9_beginDay_1, decode cX9_beginDay z.1 = .ok (z.2.1, z.2.2) := by decide +kernel
theorem dk_X9_beginDay_2 : ∀ z ∈ cd_X9_beginDay_2, decode cX9_beginDay z.1 = .ok (z.2.1, z.2.2) := by decide +kernel
theorem dk_X10_addCorner_0 : ∀ z ∈ cd_X10_addCorner_0, decode cX10_addCorner z.1 = .ok (z.2.1, z.2.2) := by decide +kernel
theorem dk_X10_addCorner_1 : ∀ z ∈ cd_X10_addCorner_1, decode cX10_addCorner z.1 = .ok (z.2.1, z.2.2) := by decide +kernel
theorem dk_X10_addCorner_2 : ∀ z ∈ cd_X10_addCorner_2, decode cX10_addCorner z.1 = .ok (z.2.1, z.2.2) := by decide +kernel
theorem dk_X10_addCorner_3 : ∀ z ∈ cd_X10_addCorner_3, decode cX10_addCorner z.1 = .ok (z.2.1, z.2.2) := by decide +kernel
theorem dk_X10_addCorner_4 : ∀ z ∈ cd_X10_addCorner_4, decode cX10_addCorner z.1 = .ok (z.2.1, z.2.2) := by decide +kernel
theorem dk_X10_addOrgan_0 : ∀ z ∈ cd_X10_addOrgan_0, decode cX10_addOrgan z.1 = .ok (z.2.1, z.2.2) := by decide +kernel
theorem dk_X10_addOrgan_1 : ∀ z ∈ cd_X10_addOrgan_1, decode cX10_addOrgan z.1 = .ok (z.2.1, z.2.2) := by decide +kernel
theorem dk_X10_addOrgan_2 : ∀ z ∈ cd_X10_addOrgan_2, decode cX10_addOrgan z.1 = .ok (z.2.1, z.2.2) := by decide +kernel
theorem dk_X10_addPlayer_0 : ∀ z ∈ cd_X10_addPlayer_0, decode cX10_addPlayer z.1 = .ok (z.2.1, z.2.2) := by decide +kernel
theorem dk_X10_addPlayer_1 : ∀ z ∈ cd_X10_addPlayer_1, decode cX10_addPlayer z.1 = .ok (z.2.1, z.2.2) := by decide +kernel
theorem dk_X10_permit_0 : ∀ z ∈ cd_X10_permit_0, decode cX10_permit z.1 = .ok (z.2.1, z.2.2) := by decide +kernel
theorem dk_X10_permit_1 : ∀ z ∈ cd_X10_permit_1, decode cX10_permit z.1 = .ok (z.2.1, z.2.2) := by decide +kernel
theorem dk_X10_barrel_0 : ∀ z ∈ cd_X10_barrel_0, decode cX10_barrel z.1 = .ok (z.2.1, z.2.2) := by decide +kernel
theorem dk_X10_barrel_1 : ∀ z ∈ cd_X10_barrel_1, decode cX10_barrel z.1 = .ok (z.2.1, z.2.2) := by decide +kernel
theorem dk_X10_assign_0 : ∀ z ∈ cd_X10_assign_0, decode cX10_assign z.1 = .ok (z.2.1, z.2.2) := by decide +kernel
theorem dk_X10_assign_1 : ∀ z ∈ cd_X10_assign_1, decode cX10_assign z.1 = .ok (z.2.1, z.2.2) := by decide +kernel
theorem dk_X10_assign_2 : ∀ z ∈ cd_X10_assign_2, decode cX10_assign z.1 = .ok (z.2.1, z.2.2) := by decide +kernel
theorem dk_X10_set_0 : ∀ z ∈ cd_X10_set_0, decode cX10_set z.1 = .ok (z.2.1, z.2.2) := by decide +kernel
theorem dk_X10_set_1 : ∀ z ∈ cd_X10_set_1, decode cX10_set z.1 = .ok (z.2.1, z.2.2) := by decide +kernel
theorem dk_X10_lots_0 : ∀ z ∈ cd_X10_lots_0, decode cX10_lots z.1 = .ok (z.2.1, z.2.2) := by decide +kernel
theorem dk_X10_weather_0 : ∀ z ∈ cd_X10_weather_0, decode cX10_weather z.1 = .ok (z.2.1, z.2.2) := by decide +kernel
theorem dk_X10_weather_1 : ∀ z ∈ cd_X10_weather_1, decode cX10_weather z.1 = .ok (z.2.1, z.2.2) := by decide +kernel
theorem dk_X10_play_0 : ∀ z ∈ cd_X10_play_0, decode cX10_play z.1 = .ok (z.2.1, z.2.2) := by decide +kernel
theorem dk_X10_play_1 : ∀ z ∈ cd_X10_play_1, decode cX10_play z.1 = .ok (z.2.1, z.2.2) := by decide +kernel
theorem dk_X10_next_0 : ∀ z ∈ cd_X10_next_0, decode cX10_next z.1 = .ok (z.2.1, z.2.2) := by decide +kernel
theorem dk_X10_append_0 : ∀ z ∈ cd_X10_append_0, decode cX10_append z.1 = .ok (z.2.1, z.2.2) := by decide +kernel
theorem dk_X10_append_1 : ∀ z ∈ cd_X10_append_1, decode cX10_append z.1 = .ok (z.2.1, z.2.2) := by decide +kernel
theorem dk_X10_append_2 : ∀ z ∈ cd_X10_append_2, decode cX10_append z.1 = .ok (z.2.1, z.2.2) := by decide +kernel
theorem dk_X10_clearBuffer_0 : ∀ z ∈ cd_X10_clearBuffer_0, decode cX10_clearBuffer z.1 = .ok (z.2.1, z.2.2) := by decide +kernel
theorem dk_X10_firstError_0 : ∀ z ∈ cd_X10_firstError_0, decode cX10_firstError z.1 = .ok (z.2.1, z.2.2) := by decide +kernel
theorem dk_X10_run_0 : ∀ z ∈ cd_X10_run_0, decode cX10_run z.1 = .ok (z.2.1, z.2.2) := by decide +kernel
theorem dk_X10_run_1 : ∀ z ∈ cd_X10_run_1, decode cX10_run z.1 = .ok (z.2.1, z.2.2) := by decide +kernel
theorem dk_X10_run_2 : ∀ z ∈ cd_X10_run_2, decode cX10_run z.1 = .ok (z.2.1, z.2.2) := by decide +kernel
theorem dk_X10_undo_0 : ∀ z ∈ cd_X10_undo_0, decode cX10_undo z.1 = .ok (z.2.1, z.2.2) := by decide +kernel
theorem dk_X10_undo_1 : ∀ z ∈ cd_X10_undo_1, decode cX10_undo z.1 = .ok (z.2.1, z.2.2) := by decide +kernel
theorem dk_X10_corner_0 : ∀ z ∈ cd_X10_corner_0, decode cX10_corner z.1 = .ok (z.2.1, z.2.2) := by decide +kernel
theorem dk_X10_corner_1 : ∀ z ∈ cd_X10_corner_1, decode cX10_corner z.1 = .ok (z.2.1, z.2.2) := by decide +kernel
theorem dk_X10_corner_2 : ∀ z ∈ cd_X10_corner_2, decode cX10_corner z.1 = .ok (z.2.1, z.2.2) := by decide +kernel
theorem dk_X10_corner_3 : ∀ z ∈ cd_X10_corner_3, decode cX10_corner z.1 = .ok (z.2.1, z.2.2) := by decide +kernel
theorem dk_X10_organ_0 : ∀ z ∈ cd_X10_organ_0, decode cX10_organ z.1 = .ok (z.2.1, z.2.2) := by decide +kernel
theorem dk_X10_organ_1 : ∀ z ∈ cd_X10_organ_1, decode cX10_organ z.1 = .ok (z.2.1, z.2.2) := by decide +kernel
theorem dk_X10_organ_2 : ∀ z ∈ cd_X10_organ_2, decode cX10_organ z.1 = .ok (z.2.1, z.2.2) := by decide +kernel
theorem dk_X10_organ_3 : ∀ z ∈ cd_X10_organ_3, decode cX10_organ z.1 = .ok (z.2.1, z.2.2) := by decide +kernel
theorem dk_X10_player_0 : ∀ z ∈ cd_X10_player_0, decode cX10_player z.1 = .ok (z.2.1, z.2.2) := by decide +kernel
theorem dk_X10_player_1 : ∀ z ∈ cd_X10_player_1, decode cX10_player z.1 = .ok (z.2.1, z.2.2) := by decide +kernel
theorem dk_X10_player_2 : ∀ z ∈ cd_X10_player_2, decode cX10_player z.1 = .ok (z.2.1, z.2.2) := by decide +kernel
theorem dk_X10_hours_0 : ∀ z ∈ cd_X10_hours_0, decode cX10_hours z.1 = .ok (z.2.1, z.2.2) := by decide +kernel
theorem dk_X10_hours_1 : ∀ z ∈ cd_X10_hours_1, decode cX10_hours z.1 = .ok (z.2.1, z.2.2) := by decide +kernel
theorem dk_X10_count_0 : ∀ z ∈ cd_X10_count_0, decode cX10_count z.1 = .ok (z.2.1, z.2.2) := by decide +kernel
theorem dk_X10_count_1 : ∀ z ∈ cd_X10_count_1, decode cX10_count z.1 = .ok (z.2.1, z.2.2) := by decide +kernel
theorem dk_X10_count_2 : ∀ z ∈ cd_X10_count_2, decode cX10_count z.1 = .ok (z.2.1, z.2.2) := by decide +kernel
theorem dk_X10_count_3 : ∀ z ∈ cd_X10_count_3, decode cX10_count z.1 = .ok (z.2.1, z.2.2) := by decide +kernel
theorem dk_X10_count_4 : ∀ z ∈ cd_X10_count_4, decode cX10_count z.1 = .ok (z.2.1, z.2.2) := by decide +kernel
theorem dk_X10_count_5 : ∀ z ∈ cd_X10_count_5, decode cX10_count z.1 = .ok (z.2.1, z.2.2) := by decide +kernel
theorem dk_X10_count_6 : ∀ z ∈ cd_X10_count_6, decode cX10_count z.1 = .ok (z.2.1, z.2.2) := by decide +kernel
theorem dk_X10_setting_0 : ∀ z ∈ cd_X10_setting_0, decode cX10_setting z.1 = .ok (z.2.1, z.2.2) := by decide +kernel
theorem dk_X10_whyNot_0 : ∀ z ∈ cd_X10_whyNot_0, decode cX10_whyNot z.1 = .ok (z.2.1, z.2.2) := by decide +kernel
theorem dk_X10_ifPlayed_0 : ∀ z ∈ cd_X10_ifPlayed_0, decode cX10_ifPlayed z.1 = .ok (z.2.1, z.2.2) := by decide +kernel
theorem dk_X10_ifPlayed_1 : ∀ z ∈ cd_X10_ifPlayed_1, decode cX10_ifPlayed z.1 = .ok (z.2.1, z.2.2) := by decide +kernel
theorem dk_X10_kindestTune_0 : ∀ z ∈ cd_X10_kindestTune_0, decode cX10_kindestTune z.1 = .ok (z.2.1, z.2.2) := by decide +kernel
theorem dk_X10_kindestTune_1 : ∀ z ∈ cd_X10_kindestTune_1, decode cX10_kindestTune z.1 = .ok (z.2.1, z.2.2) := by decide +kernel
theorem dk_X10_most_0 : ∀ z ∈ cd_X10_most_0, decode cX10_most z.1 = .ok (z.2.1, z.2.2) := by decide +kernel
theorem dk_X10_most_1 : ∀ z ∈ cd_X10_most_1, decode cX10_most z.1 = .ok (z.2.1, z.2.2) := by decide +kernel
theorem dk_X10_ifEnded_0 : ∀ z ∈ cd_X10_ifEnded_0, decode cX10_ifEnded z.1 = .ok (z.2.1, z.2.2) := by decide +kernel
theorem dk_X10_ifEnded_1 : ∀ z ∈ cd_X10_ifEnded_1, decode cX10_ifEnded z.1 = .ok (z.2.1, z.2.2) := by decide +kernel
theorem dk_X10_playersShare_0 : ∀ z ∈ cd_X10_playersShare_0, decode cX10_playersShare z.1 = .ok (z.2.1, z.2.2) := by decide +kernel
theorem dk_X10_digest_0 : ∀ z ∈ cd_X10_digest_0, decode cX10_digest z.1 = .ok (z.2.1, z.2.2) := by decide +kernel
theorem dk_X10_digest_1 : ∀ z ∈ cd_X10_digest_1, decode cX10_digest z.1 = .ok (z.2.1, z.2.2) := by decide +kernel
theorem dk_X10_digest_2 : ∀ z ∈ cd_X10_digest_2, decode cX10_digest z.1 = .ok (z.2.1, z.2.2) := by decide +kernel
theorem dk_X10_digest_3 : ∀ z ∈ cd_X10_digest_3, decode cX10_digest z.1 = .ok (z.2.1, z.2.2) := by decide +kernel
theorem dk_X10_digest_4 : ∀ z ∈ cd_X10_digest_4, decode cX10_digest z.1 = .ok (z.2.1, z.2.2) := by decide +kernel
theorem dk_X10_digest_5 : ∀ z ∈ cd_X10_digest_5, decode cX10_digest z.1 = .ok (z.2.1, z.2.2) := by decide +kernel
theorem dk_X10_requireIndex_0 : ∀ z ∈ cd_X10_requireIndex_0, decode cX10_requireIndex z.1 = .ok (z.2.1, z.2.2) := by decide +kernel
theorem dk_X10_requireInRange_0 : ∀ z ∈ cd_X10_requireInRange_0, decode cX10_requireInRange z.1 = .ok (z.2.1, z.2.2) := by decide +kernel
theorem dk_X10_requireState_0 : ∀ z ∈ cd_X10_requireState_0, decode cX10_requireState z.1 = .ok (z.2.1, z.2.2) := by decide +kernel
theorem dk_X10_asNumber_0 : ∀ z ∈ cd_X10_asNumber_0, decode cX10_asNumber z.1 = .ok (z.2.1, z.2.2) := by decide +kernel
theorem dk_X10_holds_0 : ∀ z ∈ cd_X10_holds_0, decode cX10_holds z.1 = .ok (z.2.1, z.2.2) := by decide +kernel
theorem dk_X10_obey_0 : ∀ z ∈ cd_X10_obey_0, decode cX10_obey z.1 = .ok (z.2.1, z.2.2) := by decide +kernel
theorem dk_X10_obey_1 : ∀ z ∈ cd_X10_obey_1, decode cX10_obey z.1 = .ok (z.2.1, z.2.2) := by decide +kernel
theorem dk_X10_obey_2 : ∀ z ∈ cd_X10_obey_2, decode cX10_obey z.1 = .ok (z.2.1, z.2.2) := by decide +kernel
theorem dk_X10_obey_3 : ∀ z ∈ cd_X10_obey_3, decode cX10_obey z.1 = .ok (z.2.1, z.2.2) := by decide +kernel
theorem dk_X10_obey_4 : ∀ z ∈ cd_X10_obey_4, decode cX10_obey z.1 = .ok (z.2.1, z.2.2) := by decide +kernel
theorem dk_X10_obeyPlay_0 : ∀ z ∈ cd_X10_obeyPlay_0, decode cX10_obeyPlay z.1 = .ok (z.2.1, z.2.2) := by decide +kernel
theorem dk_X10_obeyPlay_1 : ∀ z ∈ cd_X10_obeyPlay_1, decode cX10_obeyPlay z.1 = .ok (z.2.1, z.2.2) := by decide +kernel
theorem dk_X10_mixed_0 : ∀ z ∈ cd_X10_mixed_0, decode cX10_mixed z.1 = .ok (z.2.1, z.2.2) := by decide +kernel
theorem dk_X10_withCorner_0 : ∀ z ∈ cd_X10_withCorner_0, decode cX10_withCorner z.1 = .ok (z.2.1, z.2.2) := by decide +kernel
theorem dk_X10_withCorner_1 : ∀ z ∈ cd_X10_withCorner_1, decode cX10_withCorner z.1 = .ok (z.2.1, z.2.2) := by decide +kernel
theorem dk_X10_withOrgan_0 : ∀ z ∈ cd_X10_withOrgan_0, decode cX10_withOrgan z.1 = .ok (z.2.1, z.2.2) := by decide +kernel
theorem dk_X10_withOrgan_1 : ∀ z ∈ cd_X10_withOrgan_1, decode cX10_withOrgan z.1 = .ok (z.2.1, z.2.2) := by decide +kernel
theorem dk_X10_withOrgan_2 : ∀ z ∈ cd_X10_withOrgan_2, decode cX10_withOrgan z.1 = .ok (z.2.1, z.2.2) := by decide +kernel
theorem dk_X10_withPlayer_0 : ∀ z ∈ cd_X10_withPlayer_0, decode cX10_withPlayer z.1 = .ok (z.2.1, z.2.2) := by decide +kernel
theorem dk_X10_withPlayer_1 : ∀ z ∈ cd_X10_withPlayer_1, decode cX10_withPlayer z.1 = .ok (z.2.1, z.2.2) := by decide +kernel
theorem dk_X10_withPlayer_2 : ∀ z ∈ cd_X10_withPlayer_2, decode cX10_withPlayer z.1 = .ok (z.2.1, z.2.2) := by decide +kernel
theorem dk_X10_withText_0 : ∀ z ∈ cd_X10_withText_0, decode cX10_withText z.1 = .ok (z.2.1, z.2.2) := by decide +kernel
theorem dk_X10_withText_1 : ∀ z ∈ cd_X10_withText_1, decode cX10_withText z.1 = .ok (z.2.1, z.2.2) := by decide +kernel
theorem dk_X10_bitsOfShare_0 : ∀ z ∈ cd_X10_bitsOfShare_0, decode cX10_bitsOfShare z.1 = .ok (z.2.1, z.2.2) := by decide +kernel
theorem dk_X10_bitsOfShare_1 : ∀ z ∈ cd_X10_bitsOfShare_1, decode cX10_bitsOfShare z.1 = .ok (z.2.1, z.2.2) := by decide +kernel
theorem dk_X10_bitsOfShare_2 : ∀ z ∈ cd_X10_bitsOfShare_2, decode cX10_bitsOfShare z.1 = .ok (z.2.1, z.2.2) := by decide +kernel
theorem dk_X11_thrown_0 : ∀ z ∈ cd_X11_thrown_0, decode cX11_thrown z.1 = .ok (z.2.1, z.2.2) := by decide +kernel
theorem dk_X11_fails_0 : ∀ z ∈ cd_X11_fails_0, decode cX11_fails z.1 = .ok (z.2.1, z.2.2) := by decide +kernel
theorem dk_X11_within_0 : ∀ z ∈ cd_X11_within_0, decode cX11_within z.1 = .ok (z.2.1, z.2.2) := by decide +kernel
theorem dk_X11_isCorner_0 : ∀ z ∈ cd_X11_isCorner_0, decode cX11_isCorner z.1 = .ok (z.2.1, z.2.2) := by decide +kernel
theorem dk_X11_isOrgan_0 : ∀ z ∈ cd_X11_isOrgan_0, decode cX11_isOrgan z.1 = .ok (z.2.1, z.2.2) := by decide +kernel
theorem dk_X11_isPlayer_0 : ∀ z ∈ cd_X11_isPlayer_0, decode cX11_isPlayer z.1 = .ok (z.2.1, z.2.2) := by decide +kernel
theorem dk_X11_corner0_0 : ∀ z ∈ cd_X11_corner0_0, decode cX11_corner0 z.1 = .ok (z.2.1, z.2.2) := by decide +kernel
theorem dk_X11_organ0_0 : ∀ z ∈ cd_X11_organ0_0, decode cX11_organ0 z.1 = .ok (z.2.1, z.2.2) := by decide +kernel
theorem dk_X11_player0_0 : ∀ z ∈ cd_X11_player0_0, decode cX11_player0 z.1 = .ok (z.2.1, z.2.2) := by decide +kernel
theorem dk_X11_cornerOf_0 : ∀ z ∈ cd_X11_cornerOf_0, decode cX11_cornerOf z.1 = .ok (z.2.1, z.2.2) := by decide +kernel
theorem dk_X11_tuneIn_0 : ∀ z ∈ cd_X11_tuneIn_0, decode cX11_tuneIn z.1 = .ok (z.2.1, z.2.2) := by decide +kernel
theorem dk_X11_save_0 : ∀ z ∈ cd_X11_save_0, decode cX11_save z.1 = .ok (z.2.1, z.2.2) := by decide +kernel
theorem dk_X11_save_1 : ∀ z ∈ cd_X11_save_1, decode cX11_save z.1 = .ok (z.2.1, z.2.2) := by decide +kernel
theorem dk_X11_save_2 : ∀ z ∈ cd_X11_save_2, decode cX11_save z.1 = .ok (z.2.1, z.2.2) := by decide +kernel
theorem dk_X11_save_3 : ∀ z ∈ cd_X11_save_3, decode cX11_save z.1 = .ok (z.2.1, z.2.2) := by decide +kernel
theorem dk_X11_keep_0 : ∀ z ∈ cd_X11_keep_0, decode cX11_keep z.1 = .ok (z.2.1, z.2.2) := by decide +kernel
theorem dk_X11_bring_0 : ∀ z ∈ cd_X11_bring_0, decode cX11_bring z.1 = .ok (z.2.1, z.2.2) := by decide +kernel
theorem dk_X11_addCorner_0 : ∀ z ∈ cd_X11_addCorner_0, decode cX11_addCorner z.1 = .ok (z.2.1, z.2.2) := by decide +kernel
theorem dk_X11_addCorner_1 : ∀ z ∈ cd_X11_addCorner_1, decode cX11_addCorner z.1 = .ok (z.2.1, z.2.2) := by decide +kernel
theorem dk_X11_addCorner_2 : ∀ z ∈ cd_X11_addCorner_2, decode cX11_addCorner z.1 = .ok (z.2.1, z.2.2) := by decide +kernel
theorem dk_X11_addCorner_3 : ∀ z ∈ cd_X11_addCorner_3, decode cX11_addCorner z.1 = .ok (z.2.1, z.2.2) := by decide +kernel
theorem dk_X11_addCorner_4 : ∀ z ∈ cd_X11_addCorner_4, decode cX11_addCorner z.1 = .ok (z.2.1, z.2.2) := by decide +kernel
theorem dk_X11_addCorner_5 : ∀ z ∈ cd_X11_addCorner_5, decode cX11_addCorner z.1 = .ok (z.2.1, z.2.2) := by decide +kernel
theorem dk_X11_addCorner_6 : ∀ z ∈ cd_X11_addCorner_6, decode cX11_addCorner z.1 = .ok (z.2.1, z.2.2) := by decide +kernel
theorem dk_X11_addOrgan_0 : ∀ z ∈ cd_X11_addOrgan_0, decode cX11_addOrgan z.1 = .ok (z.2.1, z.2.2) := by decide +kernel
theorem dk_X11_addOrgan_1 : ∀ z ∈ cd_X11_addOrgan_1, decode cX11_addOrgan z.1 = .ok (z.2.1, z.2.2) := by decide +kernel
theorem dk_X11_addOrgan_2 : ∀ z ∈ cd_X11_addOrgan_2, decode cX11_addOrgan z.1 = .ok (z.2.1, z.2.2) := by decide +kernel
theorem dk_X11_addPlayer_0 : ∀ z ∈ cd_X11_addPlayer_0, decode cX11_addPlayer z.1 = .ok (z.2.1, z.2.2) := by decide +kernel
theorem dk_X11_addPlayer_1 : ∀ z ∈ cd_X11_addPlayer_1, decode cX11_addPlayer z.1 = .ok (z.2.1, z.2.2) := by decide +kernel
theorem dk_X11_permits_0 : ∀ z ∈ cd_X11_permits_0, decode cX11_permits z.1 = .ok (z.2.1, z.2.2) := by decide +kernel
theorem dk_X11_permit_0 : ∀ z ∈ cd_X11_permit_0, decode cX11_permit z.1 = .ok (z.2.1, z.2.2) := by decide +kernel
theorem dk_X11_permit_1 : ∀ z ∈ cd_X11_permit_1, decode cX11_permit z.1 = .ok (z.2.1, z.2.2) := by decide +kernel
theorem dk_X11_barrel_0 : ∀ z ∈ cd_X11_barrel_0, decode cX11_barrel z.1 = .ok (z.2.1, z.2.2) := by decide +kernel
theorem dk_X11_barrel_1 : ∀ z ∈ cd_X11_barrel_1, decode cX11_barrel z.1 = .ok (z.2.1, z.2.2) := by decide +kernel
theorem dk_X11_assign_0 : ∀ z ∈ cd_X11_assign_0, decode cX11_assign z.1 = .ok (z.2.1, z.2.2) := by decide +kernel
theorem dk_X11_assign_1 : ∀ z ∈ cd_X11_assign_1, decode cX11_assign z.1 = .ok (z.2.1, z.2.2) := by decide +kernel
theorem dk_X11_mostOf_0 : ∀ z ∈ cd_X11_mostOf_0, decode cX11_mostOf z.1 = .ok (z.2.1, z.2.2) := by decide +kernel
theorem dk_X11_set_0 : ∀ z ∈ cd_X11_set_0, decode cX11_set z.1 = .ok (z.2.1, z.2.2) := by decide +kernel
theorem dk_X11_set_1 : ∀ z ∈ cd_X11_set_1, decode cX11_set z.1 = .ok (z.2.1, z.2.2) := by decide +kernel
theorem dk_X11_playedToday_0 : ∀ z ∈ cd_X11_playedToday_0, decode cX11_playedToday z.1 = .ok (z.2.1, z.2.2) := by decide +kernel
theorem dk_X11_playedToday_1 : ∀ z ∈ cd_X11_playedToday_1, decode cX11_playedToday z.1 = .ok (z.2.1, z.2.2) := by decide +kernel
theorem dk_X11_draw_0 : ∀ z ∈ cd_X11_draw_0, decode cX11_draw z.1 = .ok (z.2.1, z.2.2) := by decide +kernel
theorem dk_X11_draw_1 : ∀ z ∈ cd_X11_draw_1, decode cX11_draw z.1 = .ok (z.2.1, z.2.2) := by decide +kernel
theorem dk_X11_whoHas_0 : ∀ z ∈ cd_X11_whoHas_0, decode cX11_whoHas z.1 = .ok (z.2.1, z.2.2) := by decide +kernel
theorem dk_X11_whoHas_1 : ∀ z ∈ cd_X11_whoHas_1, decode cX11_whoHas z.1 = .ok (z.2.1, z.2.2) := by decide +kernel
theorem dk_X11_freeCorners_0 : ∀ z ∈ cd_X11_freeCorners_0, decode cX11_freeCorners z.1 = .ok (z.2.1, z.2.2) := by decide +kernel
theorem dk_X11_freeCorners_1 : ∀ z ∈ cd_X11_freeCorners_1, decode cX11_freeCorners z.1 = .ok (z.2.1, z.2.2) := by decide +kernel
theorem dk_X11_freeAt_0 : ∀ z ∈ cd_X11_freeAt_0, decode cX11_freeAt z.1 = .ok (z.2.1, z.2.2) := by decide +kernel
theorem dk_X11_freeAt_1 : ∀ z ∈ cd_X11_freeAt_1, decode cX11_freeAt z.1 = .ok (z.2.1, z.2.2) := by decide +kernel
theorem dk_X11_withCorner_0 : ∀ z ∈ cd_X11_withCorner_0, decode cX11_withCorner z.1 = .ok (z.2.1, z.2.2) := by decide +kernel
theorem dk_X11_withCorner_1 : ∀ z ∈ cd_X11_withCorner_1, decode cX11_withCorner z.1 = .ok (z.2.1, z.2.2) := by decide +kernel
theorem dk_X11_noCorners_0 : ∀ z ∈ cd_X11_noCorners_0, decode cX11_noCorners z.1 = .ok (z.2.1, z.2.2) := by decide +kernel
theorem dk_X11_noCorners_1 : ∀ z ∈ cd_X11_noCorners_1, decode cX11_noCorners z.1 = .ok (z.2.1, z.2.2) := by decide +kernel
theorem dk_X11_mayDraw_0 : ∀ z ∈ cd_X11_mayDraw_0, decode cX11_mayDraw z.1 = .ok (z.2.1, z.2.2) := by decide +kernel
theorem dk_X11_drawLots_0 : ∀ z ∈ cd_X11_drawLots_0, decode cX11_drawLots z.1 = .ok (z.2.1, z.2.2) := by decide +kernel
theorem dk_X11_drawLots_1 : ∀ z ∈ cd_X11_drawLots_1, decode cX11_drawLots z.1 = .ok (z.2.1, z.2.2) := by decide +kernel
theorem dk_X11_drawLots_2 : ∀ z ∈ cd_X11_drawLots_2, decode cX11_drawLots z.1 = .ok (z.2.1, z.2.2) := by decide +kernel
theorem dk_X11_lots_0 : ∀ z ∈ cd_X11_lots_0, decode cX11_lots z.1 = .ok (z.2.1, z.2.2) := by decide +kernel
theorem dk_X11_weather_0 : ∀ z ∈ cd_X11_weather_0, decode cX11_weather z.1 = .ok (z.2.1, z.2.2) := by decide +kernel
theorem dk_X11_weather_1 : ∀ z ∈ cd_X11_weather_1, decode cX11_weather z.1 = .ok (z.2.1, z.2.2) := by decide +kernel
theorem dk_X11_isQuiet_0 : ∀ z ∈ cd_X11_isQuiet_0, decode cX11_isQuiet z.1 = .ok (z.2.1, z.2.2) := by decide +kernel
theorem dk_X11_isQuiet_1 : ∀ z ∈ cd_X11_isQuiet_1, decode cX11_isQuiet z.1 = .ok (z.2.1, z.2.2) := by decide +kernel
theorem dk_X11_areNear_0 : ∀ z ∈ cd_X11_areNear_0, decode cX11_areNear z.1 = .ok (z.2.1, z.2.2) := by decide +kernel
theorem dk_X11_areNear_1 : ∀ z ∈ cd_X11_areNear_1, decode cX11_areNear z.1 = .ok (z.2.1, z.2.2) := by decide +kernel
theorem dk_X11_heardAt_0 : ∀ z ∈ cd_X11_heardAt_0, decode cX11_heardAt z.1 = .ok (z.2.1, z.2.2) := by decide +kernel
theorem dk_X11_heardAt_1 : ∀ z ∈ cd_X11_heardAt_1, decode cX11_heardAt z.1 = .ok (z.2.1, z.2.2) := by decide +kernel
theorem dk_X11_heardAt_2 : ∀ z ∈ cd_X11_heardAt_2, decode cX11_heardAt z.1 = .ok (z.2.1, z.2.2) := by decide +kernel
theorem dk_X11_heardAt_3 : ∀ z ∈ cd_X11_heardAt_3, decode cX11_heardAt z.1 = .ok (z.2.1, z.2.2) := by decide +kernel
theorem dk_X11_heardAt_4 : ∀ z ∈ cd_X11_heardAt_4, decode cX11_heardAt z.1 = .ok (z.2.1, z.2.2) := by decide +kernel
theorem dk_X11_crewOf_0 : ∀ z ∈ cd_X11_crewOf_0, decode cX11_crewOf z.1 = .ok (z.2.1, z.2.2) := by decide +kernel
theorem dk_X11_crewOf_1 : ∀ z ∈ cd_X11_crewOf_1, decode cX11_crewOf z.1 = .ok (z.2.1, z.2.2) := by decide +kernel
theorem dk_X11_reason_0 : ∀ z ∈ cd_X11_reason_0, decode cX11_reason z.1 = .ok (z.2.1, z.2.2) := by decide +kernel
theorem dk_X11_reason_1 : ∀ z ∈ cd_X11_reason_1, decode cX11_reason z.1 = .ok (z.2.1, z.2.2) := by decide +kernel
theorem dk_X11_reason_2 : ∀ z ∈ cd_X11_reason_2, decode cX11_reason z.1 = .ok (z.2.1, z.2.2) := by decide +kernel
theorem dk_X11_othersNear_0 : ∀ z ∈ cd_X11_othersNear_0, decode cX11_othersNear z.1 = .ok (z.2.1, z.2.2) := by decide +kernel
theorem dk_X11_othersNear_1 : ∀ z ∈ cd_X11_othersNear_1, decode cX11_othersNear z.1 = .ok (z.2.1, z.2.2) := by decide +kernel
theorem dk_X11_othersNear_2 : ∀ z ∈ cd_X11_othersNear_2, decode cX11_othersNear z.1 = .ok (z.2.1, z.2.2) := by decide +kernel
theorem dk_X11_takings_0 : ∀ z ∈ cd_X11_takings_0, decode cX11_takings z.1 = .ok (z.2.1, z.2.2) := by decide +kernel
theorem dk_X11_takings_1 : ∀ z ∈ cd_X11_takings_1, decode cX11_takings z.1 = .ok (z.2.1, z.2.2) := by decide +kernel
theorem dk_X11_plays_0 : ∀ z ∈ cd_X11_plays_0, decode cX11_plays z.1 = .ok (z.2.1, z.2.2) := by decide +kernel
theorem dk_X11_plays_1 : ∀ z ∈ cd_X11_plays_1, decode cX11_plays z.1 = .ok (z.2.1, z.2.2) := by decide +kernel
theorem dk_X11_plays_2 : ∀ z ∈ cd_X11_plays_2, decode cX11_plays z.1 = .ok (z.2.1, z.2.2) := by decide +kernel
theorem dk_X11_plays_3 : ∀ z ∈ cd_X11_plays_3, decode cX11_plays z.1 = .ok (z.2.1, z.2.2) := by decide +kernel
theorem dk_X11_plays_4 : ∀ z ∈ cd_X11_plays_4, decode cX11_plays z.1 = .ok (z.2.1, z.2.2) := by decide +kernel
theorem dk_X11_plays_5 : ∀ z ∈ cd_X11_plays_5, decode cX11_plays z.1 = .ok (z.2.1, z.2.2) := by decide +kernel
theorem dk_X11_plays_6 : ∀ z ∈ cd_X11_plays_6, decode cX11_plays z.1 = .ok (z.2.1, z.2.2) := by decide +kernel
theorem dk_X11_plays_7 : ∀ z ∈ cd_X11_plays_7, decode cX11_plays z.1 = .ok (z.2.1, z.2.2) := by decide +kernel
theorem dk_X11_plays_8 : ∀ z ∈ cd_X11_plays_8, decode cX11_plays z.1 = .ok (z.2.1, z.2.2) := by decide +kernel
theorem dk_X11_play_0 : ∀ z ∈ cd_X11_play_0, decode cX11_play z.1 = .ok (z.2.1, z.2.2) := by decide +kernel
theorem dk_X11_play_1 : ∀ z ∈ cd_X11_play_1, decode cX11_play z.1 = .ok (z.2.1, z.2.2) := by decide +kernel
theorem dk_X11_timeAt_0 : ∀ z ∈ cd_X11_timeAt_0, decode cX11_timeAt z.1 = .ok (z.2.1, z.2.2) := by decide +kernel
theorem dk_X11_timeToday_0 : ∀ z ∈ cd_X11_timeToday_0, decode cX11_timeToday z.1 = .ok (z.2.1, z.2.2) := by decide +kernel
theorem dk_X11_sharePot_0 : ∀ z ∈ cd_X11_sharePot_0, decode cX11_sharePot z.1 = .ok (z.2.1, z.2.2) := by decide +kernel
theorem dk_X11_sharePot_1 : ∀ z ∈ cd_X11_sharePot_1, decode cX11_sharePot z.1 = .ok (z.2.1, z.2.2) := by decide +kernel
theorem dk_X11_sharePot_2 : ∀ z ∈ cd_X11_sharePot_2, decode cX11_sharePot z.1 = .ok (z.2.1, z.2.2) := by decide +kernel
theorem dk_X11_sharePot_3 : ∀ z ∈ cd_X11_sharePot_3, decode cX11_sharePot z.1 = .ok (z.2.1, z.2.2) := by decide +kernel
theorem dk_X11_sharePot_4 : ∀ z ∈ cd_X11_sharePot_4, decode cX11_sharePot z.1 = .ok (z.2.1, z.2.2) := by decide +kernel
theorem dk_X11_sharePot_5 : ∀ z ∈ cd_X11_sharePot_5, decode cX11_sharePot z.1 = .ok (z.2.1, z.2.2) := by decide +kernel
theorem dk_X11_sharePot_6 : ∀ z ∈ cd_X11_sharePot_6, decode cX11_sharePot z.1 = .ok (z.2.1, z.2.2) := by decide +kernel
theorem dk_X11_sharePot_7 : ∀ z ∈ cd_X11_sharePot_7, decode cX11_sharePot z.1 = .ok (z.2.1, z.2.2) := by decide +kernel
theorem dk_X11_endDay_0 : ∀ z ∈ cd_X11_endDay_0, decode cX11_endDay z.1 = .ok (z.2.1, z.2.2) := by decide +kernel
theorem dk_X11_endDay_1 : ∀ z ∈ cd_X11_endDay_1, decode cX11_endDay z.1 = .ok (z.2.1, z.2.2) := by decide +kernel
theorem dk_X11_endDay_2 : ∀ z ∈ cd_X11_endDay_2, decode cX11_endDay z.1 = .ok (z.2.1, z.2.2) := by decide +kernel
theorem dk_X11_endDay_3 : ∀ z ∈ cd_X11_endDay_3, decode cX11_endDay z.1 = .ok (z.2.1, z.2.2) := by decide +kernel
theorem dk_X11_endDay_4 : ∀ z ∈ cd_X11_endDay_4, decode cX11_endDay z.1 = .ok (z.2.1, z.2.2) := by decide +kernel
theorem dk_X11_goOn_0 : ∀ z ∈ cd_X11_goOn_0, decode cX11_goOn z.1 = .ok (z.2.1, z.2.2) := by decide +kernel
theorem dk_X11_goOn_1 : ∀ z ∈ cd_X11_goOn_1, decode cX11_goOn z.1 = .ok (z.2.1, z.2.2) := by decide +kernel
theorem dk_X11_goOn_2 : ∀ z ∈ cd_X11_goOn_2, decode cX11_goOn z.1 = .ok (z.2.1, z.2.2) := by decide +kernel
theorem dk_X11_next_0 : ∀ z ∈ cd_X11_next_0, decode cX11_next z.1 = .ok (z.2.1, z.2.2) := by decide +kernel
theorem dk_X11_append_0 : ∀ z ∈ cd_X11_append_0, decode cX11_append z.1 = .ok (z.2.1, z.2.2) := by decide +kernel
theorem dk_X11_append_1 : ∀ z ∈ cd_X11_append_1, decode cX11_append z.1 = .ok (z.2.1, z.2.2) := by decide +kernel
theorem dk_X11_clearBuffer_0 : ∀ z ∈ cd_X11_clearBuffer_0, decode cX11_clearBuffer z.1 = .ok (z.2.1, z.2.2) := by decide +kernel
theorem dk_X11_goes_0 : ∀ z ∈ cd_X11_goes_0, decode cX11_goes z.1 = .ok (z.2.1, z.2.2) := by decide +kernel
theorem dk_X11_ends_0 : ∀ z ∈ cd_X11_ends_0, decode cX11_ends z.1 = .ok (z.2.1, z.2.2) := by decide +kernel
theorem dk_X11_begins_0 : ∀ z ∈ cd_X11_begins_0, decode cX11_begins z.1 = .ok (z.2.1, z.2.2) := by decide +kernel
theorem dk_X11_begins_1 : ∀ z ∈ cd_X11_begins_1, decode cX11_begins z.1 = .ok (z.2.1, z.2.2) := by decide +kernel
theorem dk_X11_begins_2 : ∀ z ∈ cd_X11_begins_2, decode cX11_begins z.1 = .ok (z.2.1, z.2.2) := by decide +kernel
theorem dk_X11_begins_3 : ∀ z ∈ cd_X11_begins_3, decode cX11_begins z.1 = .ok (z.2.1, z.2.2) := by decide +kernel
theorem dk_X11_takes_0 : ∀ z ∈ cd_X11_takes_0, decode cX11_takes z.1 = .ok (z.2.1, z.2.2) := by decide +kernel
theorem dk_X11_takes_1 : ∀ z ∈ cd_X11_takes_1, decode cX11_takes z.1 = .ok (z.2.1, z.2.2) := by decide +kernel
theorem dk_X11_takes_2 : ∀ z ∈ cd_X11_takes_2, decode cX11_takes z.1 = .ok (z.2.1, z.2.2) := by decide +kernel
theorem dk_X11_takes_3 : ∀ z ∈ cd_X11_takes_3, decode cX11_takes z.1 = .ok (z.2.1, z.2.2) := by decide +kernel
theorem dk_X11_takes_4 : ∀ z ∈ cd_X11_takes_4, decode cX11_takes z.1 = .ok (z.2.1, z.2.2) := by decide +kernel
theorem dk_X11_takes_5 : ∀ z ∈ cd_X11_takes_5, decode cX11_takes z.1 = .ok (z.2.1, z.2.2) := by decide +kernel
theorem dk_X11_takes_6 : ∀ z ∈ cd_X11_takes_6, decode cX11_takes z.1 = .ok (z.2.1, z.2.2) := by decide +kernel
theorem dk_X11_takes_7 : ∀ z ∈ cd_X11_takes_7, decode cX11_takes z.1 = .ok (z.2.1, z.2.2) := by decide +kernel
theorem dk_X11_takes_8 : ∀ z ∈ cd_X11_takes_8, decode cX11_takes z.1 = .ok (z.2.1, z.2.2) := by decide +kernel
theorem dk_X11_takes_9 : ∀ z ∈ cd_X11_takes_9, decode cX11_takes z.1 = .ok (z.2.1, z.2.2) := by decide +kernel
theorem dk_X11_read_0 : ∀ z ∈ cd_X11_read_0, decode cX11_read z.1 = .ok (z.2.1, z.2.2) := by decide +kernel
theorem dk_X11_read_1 : ∀ z ∈ cd_X11_read_1, decode cX11_read z.1 = .ok (z.2.1, z.2.2) := by decide +kernel
theorem dk_X11_firstError_0 : ∀ z ∈ cd_X11_firstError_0, decode cX11_firstError z.1 = .ok (z.2.1, z.2.2) := by decide +kernel
theorem dk_X11_mayDo_0 : ∀ z ∈ cd_X11_mayDo_0, decode cX11_mayDo z.1 = .ok (z.2.1, z.2.2) := by decide +kernel
theorem dk_X11_mayDo_1 : ∀ z ∈ cd_X11_mayDo_1, decode cX11_mayDo z.1 = .ok (z.2.1, z.2.2) := by decide +kernel
theorem dk_X11_mayDo_2 : ∀ z ∈ cd_X11_mayDo_2, decode cX11_mayDo z.1 = .ok (z.2.1, z.2.2) := by decide +kernel
theorem dk_X11_does_0 : ∀ z ∈ cd_X11_does_0, decode cX11_does z.1 = .ok (z.2.1, z.2.2) := by decide +kernel
theorem dk_X11_does_1 : ∀ z ∈ cd_X11_does_1, decode cX11_does z.1 = .ok (z.2.1, z.2.2) := by decide +kernel
theorem dk_X11_does_2 : ∀ z ∈ cd_X11_does_2, decode cX11_does z.1 = .ok (z.2.1, z.2.2) := by decide +kernel
theorem dk_X11_run_0 : ∀ z ∈ cd_X11_run_0, decode cX11_run z.1 = .ok (z.2.1, z.2.2) := by decide +kernel
theorem dk_X11_run_1 : ∀ z ∈ cd_X11_run_1, decode cX11_run z.1 = .ok (z.2.1, z.2.2) := by decide +kernel
theorem dk_X11_run_2 : ∀ z ∈ cd_X11_run_2, decode cX11_run z.1 = .ok (z.2.1, z.2.2) := by decide +kernel
theorem dk_X11_undo_0 : ∀ z ∈ cd_X11_undo_0, decode cX11_undo z.1 = .ok (z.2.1, z.2.2) := by decide +kernel
theorem dk_X11_undo_1 : ∀ z ∈ cd_X11_undo_1, decode cX11_undo z.1 = .ok (z.2.1, z.2.2) := by decide +kernel
theorem dk_X11_undo_2 : ∀ z ∈ cd_X11_undo_2, decode cX11_undo z.1 = .ok (z.2.1, z.2.2) := by decide +kernel
theorem dk_X11_playedAt_0 : ∀ z ∈ cd_X11_playedAt_0, decode cX11_playedAt z.1 = .ok (z.2.1, z.2.2) := by decide +kernel
theorem dk_X11_playedAt_1 : ∀ z ∈ cd_X11_playedAt_1, decode cX11_playedAt z.1 = .ok (z.2.1, z.2.2) := by decide +kernel
theorem dk_X11_cornerNow_0 : ∀ z ∈ cd_X11_cornerNow_0, decode cX11_cornerNow z.1 = .ok (z.2.1, z.2.2) := by decide +kernel
theorem dk_X11_cornerNow_1 : ∀ z ∈ cd_X11_cornerNow_1, decode cX11_cornerNow z.1 = .ok (z.2.1, z.2.2) := by decide +kernel
theorem dk_X11_cornerNow_2 : ∀ z ∈ cd_X11_cornerNow_2, decode cX11_cornerNow z.1 = .ok (z.2.1, z.2.2) := by decide +kernel
theorem dk_X11_corner_0 : ∀ z ∈ cd_X11_corner_0, decode cX11_corner z.1 = .ok (z.2.1, z.2.2) := by decide +kernel
theorem dk_X11_corner_1 : ∀ z ∈ cd_X11_corner_1, decode cX11_corner z.1 = .ok (z.2.1, z.2.2) := by decide +kernel
theorem dk_X11_organNow_0 : ∀ z ∈ cd_X11_organNow_0, decode cX11_organNow z.1 = .ok (z.2.1, z.2.2) := by decide +kernel
theorem dk_X11_organNow_1 : ∀ z ∈ cd_X11_organNow_1, decode cX11_organNow z.1 = .ok (z.2.1, z.2.2) := by decide +kernel
theorem dk_X11_organNow_2 : ∀ z ∈ cd_X11_organNow_2, decode cX11_organNow z.1 = .ok (z.2.1, z.2.2) := by decide +kernel
theorem dk_X11_organ_0 : ∀ z ∈ cd_X11_organ_0, decode cX11_organ z.1 = .ok (z.2.1, z.2.2) := by decide +kernel
theorem dk_X11_organ_1 : ∀ z ∈ cd_X11_organ_1, decode cX11_organ z.1 = .ok (z.2.1, z.2.2) := by decide +kernel
theorem dk_X11_playerNow_0 : ∀ z ∈ cd_X11_playerNow_0, decode cX11_playerNow z.1 = .ok (z.2.1, z.2.2) := by decide +kernel
theorem dk_X11_playerNow_1 : ∀ z ∈ cd_X11_playerNow_1, decode cX11_playerNow z.1 = .ok (z.2.1, z.2.2) := by decide +kernel
theorem dk_X11_player_0 : ∀ z ∈ cd_X11_player_0, decode cX11_player z.1 = .ok (z.2.1, z.2.2) := by decide +kernel
theorem dk_X11_player_1 : ∀ z ∈ cd_X11_player_1, decode cX11_player z.1 = .ok (z.2.1, z.2.2) := by decide +kernel
theorem dk_X11_hours_0 : ∀ z ∈ cd_X11_hours_0, decode cX11_hours z.1 = .ok (z.2.1, z.2.2) := by decide +kernel
theorem dk_X11_hours_1 : ∀ z ∈ cd_X11_hours_1, decode cX11_hours z.1 = .ok (z.2.1, z.2.2) := by decide +kernel
theorem dk_X11_ofOrgans_0 : ∀ z ∈ cd_X11_ofOrgans_0, decode cX11_ofOrgans z.1 = .ok (z.2.1, z.2.2) := by decide +kernel
theorem dk_X11_playersGot_0 : ∀ z ∈ cd_X11_playersGot_0, decode cX11_playersGot z.1 = .ok (z.2.1, z.2.2) := by decide +kernel
theorem dk_X11_counted_0 : ∀ z ∈ cd_X11_counted_0, decode cX11_counted z.1 = .ok (z.2.1, z.2.2) := by decide +kernel
theorem dk_X11_counted_1 : ∀ z ∈ cd_X11_counted_1, decode cX11_counted z.1 = .ok (z.2.1, z.2.2) := by decide +kernel
theorem dk_X11_counted_2 : ∀ z ∈ cd_X11_counted_2, decode cX11_counted z.1 = .ok (z.2.1, z.2.2) := by decide +kernel
theorem dk_X11_counted_3 : ∀ z ∈ cd_X11_counted_3, decode cX11_counted z.1 = .ok (z.2.1, z.2.2) := by decide +kernel
theorem dk_X11_count_0 : ∀ z ∈ cd_X11_count_0, decode cX11_count z.1 = .ok (z.2.1, z.2.2) := by decide +kernel
theorem dk_X11_setting_0 : ∀ z ∈ cd_X11_setting_0, decode cX11_setting z.1 = .ok (z.2.1, z.2.2) := by decide +kernel
theorem dk_X11_whyNot_0 : ∀ z ∈ cd_X11_whyNot_0, decode cX11_whyNot z.1 = .ok (z.2.1, z.2.2) := by decide +kernel
theorem dk_X11_whyNot_1 : ∀ z ∈ cd_X11_whyNot_1, decode cX11_whyNot z.1 = .ok (z.2.1, z.2.2) := by decide +kernel
theorem dk_X11_tunesOf_0 : ∀ z ∈ cd_X11_tunesOf_0, decode cX11_tunesOf z.1 = .ok (z.2.1, z.2.2) := by decide +kernel
theorem dk_X11_tunesOf_1 : ∀ z ∈ cd_X11_tunesOf_1, decode cX11_tunesOf z.1 = .ok (z.2.1, z.2.2) := by decide +kernel
theorem dk_X11_playedNow_0 : ∀ z ∈ cd_X11_playedNow_0, decode cX11_playedNow z.1 = .ok (z.2.1, z.2.2) := by decide +kernel
theorem dk_X11_ifPlayed_0 : ∀ z ∈ cd_X11_ifPlayed_0, decode cX11_ifPlayed z.1 = .ok (z.2.1, z.2.2) := by decide +kernel
theorem dk_X11_size_0 : ∀ z ∈ cd_X11_size_0, decode cX11_size z.1 = .ok (z.2.1, z.2.2) := by decide +kernel
theorem dk_X11_pairsBehind_0 : ∀ z ∈ cd_X11_pairsBehind_0, decode cX11_pairsBehind z.1 = .ok (z.2.1, z.2.2) := by decide +kernel
theorem dk_X11_pairsBehind_1 : ∀ z ∈ cd_X11_pairsBehind_1, decode cX11_pairsBehind z.1 = .ok (z.2.1, z.2.2) := by decide +kernel
theorem dk_X11_pairsBehind_2 : ∀ z ∈ cd_X11_pairsBehind_2, decode cX11_pairsBehind z.1 = .ok (z.2.1, z.2.2) := by decide +kernel
theorem dk_X11_kindestNow_0 : ∀ z ∈ cd_X11_kindestNow_0, decode cX11_kindestNow z.1 = .ok (z.2.1, z.2.2) := by decide +kernel
theorem dk_X11_kindestNow_1 : ∀ z ∈ cd_X11_kindestNow_1, decode cX11_kindestNow z.1 = .ok (z.2.1, z.2.2) := by decide +kernel
theorem dk_X11_kindestNow_2 : ∀ z ∈ cd_X11_kindestNow_2, decode cX11_kindestNow z.1 = .ok (z.2.1, z.2.2) := by decide +kernel
theorem dk_X11_kindestTune_0 : ∀ z ∈ cd_X11_kindestTune_0, decode cX11_kindestTune z.1 = .ok (z.2.1, z.2.2) := by decide +kernel
theorem dk_X11_canPick_0 : ∀ z ∈ cd_X11_canPick_0, decode cX11_canPick z.1 = .ok (z.2.1, z.2.2) := by decide +kernel
theorem dk_X11_canPick_1 : ∀ z ∈ cd_X11_canPick_1, decode cX11_canPick z.1 = .ok (z.2.1, z.2.2) := by decide +kernel
theorem dk_X11_canPick_2 : ∀ z ∈ cd_X11_canPick_2, decode cX11_canPick z.1 = .ok (z.2.1, z.2.2) := by decide +kernel
theorem dk_X11_pickTakings_0 : ∀ z ∈ cd_X11_pickTakings_0, decode cX11_pickTakings z.1 = .ok (z.2.1, z.2.2) := by decide +kernel
theorem dk_X11_pickTakings_1 : ∀ z ∈ cd_X11_pickTakings_1, decode cX11_pickTakings z.1 = .ok (z.2.1, z.2.2) := by decide +kernel
theorem dk_X11_keepPicks_0 : ∀ z ∈ cd_X11_keepPicks_0, decode cX11_keepPicks z.1 = .ok (z.2.1, z.2.2) := by decide +kernel
theorem dk_X11_keepPicks_1 : ∀ z ∈ cd_X11_keepPicks_1, decode cX11_keepPicks z.1 = .ok (z.2.1, z.2.2) := by decide +kernel
theorem dk_X11_keepPicks_2 : ∀ z ∈ cd_X11_keepPicks_2, decode cX11_keepPicks z.1 = .ok (z.2.1, z.2.2) := by decide +kernel
theorem dk_X11_layMost_0 : ∀ z ∈ cd_X11_layMost_0, decode cX11_layMost z.1 = .ok (z.2.1, z.2.2) := by decide +kernel
theorem dk_X11_layMost_1 : ∀ z ∈ cd_X11_layMost_1, decode cX11_layMost z.1 = .ok (z.2.1, z.2.2) := by decide +kernel
theorem dk_X11_layMost_2 : ∀ z ∈ cd_X11_layMost_2, decode cX11_layMost z.1 = .ok (z.2.1, z.2.2) := by decide +kernel
theorem dk_X11_layMost_3 : ∀ z ∈ cd_X11_layMost_3, decode cX11_layMost z.1 = .ok (z.2.1, z.2.2) := by decide +kernel
theorem dk_X11_layMost_4 : ∀ z ∈ cd_X11_layMost_4, decode cX11_layMost z.1 = .ok (z.2.1, z.2.2) := by decide +kernel
theorem dk_X11_layMost_5 : ∀ z ∈ cd_X11_layMost_5, decode cX11_layMost z.1 = .ok (z.2.1, z.2.2) := by decide +kernel
theorem dk_X11_most_0 : ∀ z ∈ cd_X11_most_0, decode cX11_most z.1 = .ok (z.2.1, z.2.2) := by decide +kernel
theorem dk_X11_most_1 : ∀ z ∈ cd_X11_most_1, decode cX11_most z.1 = .ok (z.2.1, z.2.2) := by decide +kernel
theorem dk_X11_endedNow_0 : ∀ z ∈ cd_X11_endedNow_0, decode cX11_endedNow z.1 = .ok (z.2.1, z.2.2) := by decide +kernel
theorem dk_X11_ifEnded_0 : ∀ z ∈ cd_X11_ifEnded_0, decode cX11_ifEnded z.1 = .ok (z.2.1, z.2.2) := by decide +kernel
theorem dk_X11_shareNow_0 : ∀ z ∈ cd_X11_shareNow_0, decode cX11_shareNow z.1 = .ok (z.2.1, z.2.2) := by decide +kernel
theorem dk_X11_playersShare_0 : ∀ z ∈ cd_X11_playersShare_0, decode cX11_playersShare z.1 = .ok (z.2.1, z.2.2) := by decide +kernel
theorem dk_X11_mix_0 : ∀ z ∈ cd_X11_mix_0, decode cX11_mix z.1 = .ok (z.2.1, z.2.2) := by decide +kernel
theorem dk_X11_mixOrgan_0 : ∀ z ∈ cd_X11_mixOrgan_0, decode cX11_mixOrgan z.1 = .ok (z.2.1, z.2.2) := by decide +kernel
theorem dk_X11_mixOrgan_1 : ∀ z ∈ cd_X11_mixOrgan_1, decode cX11_mixOrgan z.1 = .ok (z.2.1, z.2.2) := by decide +kernel
theorem dk_X11_mixOrgan_2 : ∀ z ∈ cd_X11_mixOrgan_2, decode cX11_mixOrgan z.1 = .ok (z.2.1, z.2.2) := by decide +kernel
theorem dk_X11_mixPlayer_0 : ∀ z ∈ cd_X11_mixPlayer_0, decode cX11_mixPlayer z.1 = .ok (z.2.1, z.2.2) := by decide +kernel
theorem dk_X11_mixPlayer_1 : ∀ z ∈ cd_X11_mixPlayer_1, decode cX11_mixPlayer z.1 = .ok (z.2.1, z.2.2) := by decide +kernel
theorem dk_X11_digest_0 : ∀ z ∈ cd_X11_digest_0, decode cX11_digest z.1 = .ok (z.2.1, z.2.2) := by decide +kernel
theorem dk_X11_digest_1 : ∀ z ∈ cd_X11_digest_1, decode cX11_digest z.1 = .ok (z.2.1, z.2.2) := by decide +kernel
theorem dk_X11_digest_2 : ∀ z ∈ cd_X11_digest_2, decode cX11_digest z.1 = .ok (z.2.1, z.2.2) := by decide +kernel
theorem dk_X11_digest_3 : ∀ z ∈ cd_X11_digest_3, decode cX11_digest z.1 = .ok (z.2.1, z.2.2) := by decide +kernel
theorem dk_X11_digest_4 : ∀ z ∈ cd_X11_digest_4, decode cX11_digest z.1 = .ok (z.2.1, z.2.2) := by decide +kernel
theorem dk_X11_digest_5 : ∀ z ∈ cd_X11_digest_5, decode cX11_digest z.1 = .ok (z.2.1, z.2.2) := by decide +kernel
theorem dk_X11_digest_6 : ∀ z ∈ cd_X11_digest_6, decode cX11_digest z.1 = .ok (z.2.1, z.2.2) := by decide +kernel
theorem dk_X11_digest_7 : ∀ z ∈ cd_X11_digest_7, decode cX11_digest z.1 = .ok (z.2.1, z.2.2) := by decide +kernel
theorem dk_L_addCorner_0 : ∀ z ∈ cd_L_addCorner_0, decode cL_addCorner z.1 = .ok (z.2.1, z.2.2) := by decide +kernel
theorem dk_L_addOrgan_0 : ∀ z ∈ cd_L_addOrgan_0, decode cL_addOrgan z.1 = .ok (z.2.1, z.2.2) := by decide +kernel
theorem dk_L_addPlayer_0 : ∀ z ∈ cd_L_addPlayer_0, decode cL_addPlayer z.1 = .ok (z.2.1, z.2.2) := by decide +kernel
theorem dk_L_permit_0 : ∀ z ∈ cd_L_permit_0, decode cL_permit z.1 = .ok (z.2.1, z.2.2) := by decide +kernel
theorem dk_L_barrel_0 : ∀ z ∈ cd_L_barrel_0, decode cL_barrel z.1 = .ok (z.2.1, z.2.2) := by decide +kernel
theorem dk_L_assign_0 : ∀ z ∈ cd_L_assign_0, decode cL_assign z.1 = .ok (z.2.1, z.2.2) := by decide +kernel
theorem dk_L_set_0 : ∀ z ∈ cd_L_set_0, decode cL_set z.1 = .ok (z.2.1, z.2.2) := by decide +kernel
theorem dk_L_lots_0 : ∀ z ∈ cd_L_lots_0, decode cL_lots z.1 = .ok (z.2.1, z.2.2) := by decide +kernel
theorem dk_L_weather_0 : ∀ z ∈ cd_L_weather_0, decode cL_weather z.1 = .ok (z.2.1, z.2.2) := by decide +kernel
theorem dk_L_play_0 : ∀ z ∈ cd_L_play_0, decode cL_play z.1 = .ok (z.2.1, z.2.2) := by decide +kernel
theorem dk_L_append_0 : ∀ z ∈ cd_L_append_0, decode cL_append z.1 = .ok (z.2.1, z.2.2) := by decide +kernel
theorem dk_L_run_0 : ∀ z ∈ cd_L_run_0, decode cL_run z.1 = .ok (z.2.1, z.2.2) := by decide +kernel
theorem dk_L_undo_0 : ∀ z ∈ cd_L_undo_0, decode cL_undo z.1 = .ok (z.2.1, z.2.2) := by decide +kernel
theorem dk_L_corner_0 : ∀ z ∈ cd_L_corner_0, decode cL_corner z.1 = .ok (z.2.1, z.2.2) := by decide +kernel
theorem dk_L_organ_0 : ∀ z ∈ cd_L_organ_0, decode cL_organ z.1 = .ok (z.2.1, z.2.2) := by decide +kernel
theorem dk_L_player_0 : ∀ z ∈ cd_L_player_0, decode cL_player z.1 = .ok (z.2.1, z.2.2) := by decide +kernel
theorem dk_L_hours_0 : ∀ z ∈ cd_L_hours_0, decode cL_hours z.1 = .ok (z.2.1, z.2.2) := by decide +kernel
theorem dk_L_count_0 : ∀ z ∈ cd_L_count_0, decode cL_count z.1 = .ok (z.2.1, z.2.2) := by decide +kernel
theorem dk_L_setting_0 : ∀ z ∈ cd_L_setting_0, decode cL_setting z.1 = .ok (z.2.1, z.2.2) := by decide +kernel
theorem dk_L_whyNot_0 : ∀ z ∈ cd_L_whyNot_0, decode cL_whyNot z.1 = .ok (z.2.1, z.2.2) := by decide +kernel
theorem dk_L_ifPlayed_0 : ∀ z ∈ cd_L_ifPlayed_0, decode cL_ifPlayed z.1 = .ok (z.2.1, z.2.2) := by decide +kernel
theorem dk_L_kindestTune_0 : ∀ z ∈ cd_L_kindestTune_0, decode cL_kindestTune z.1 = .ok (z.2.1, z.2.2) := by decide +kernel
theorem dk_L_most_0 : ∀ z ∈ cd_L_most_0, decode cL_most z.1 = .ok (z.2.1, z.2.2) := by decide +kernel
theorem dk_L_ifEnded_0 : ∀ z ∈ cd_L_ifEnded_0, decode cL_ifEnded z.1 = .ok (z.2.1, z.2.2) := by decide +kernel
theorem dk_L_law_0 : ∀ z ∈ cd_L_law_0, decode cL_law z.1 = .ok (z.2.1, z.2.2) := by decide +kernel
theorem dk_L_law_1 : ∀ z ∈ cd_L_law_1, decode cL_law z.1 = .ok (z.2.1, z.2.2) := by decide +kernel
theorem dk_L_law_2 : ∀ z ∈ cd_L_law_2, decode cL_law z.1 = .ok (z.2.1, z.2.2) := by decide +kernel
theorem dk_L_law_3 : ∀ z ∈ cd_L_law_3, decode cL_law z.1 = .ok (z.2.1, z.2.2) := by decide +kernel
theorem dk_L_law_4 : ∀ z ∈ cd_L_law_4, decode cL_law z.1 = .ok (z.2.1, z.2.2) := by decide +kernel
theorem dk_L_law_5 : ∀ z ∈ cd_L_law_5, decode cL_law z.1 = .ok (z.2.1, z.2.2) := by decide +kernel
theorem dk_L_law_6 : ∀ z ∈ cd_L_law_6, decode cL_law z.1 = .ok (z.2.1, z.2.2) := by decide +kernel
theorem dk_L_law_7 : ∀ z ∈ cd_L_law_7, decode cL_law z.1 = .ok (z.2.1, z.2.2) := by decide +kernel
theorem dk_L_law_8 : ∀ z ∈ cd_L_law_8, decode cL_law z.1 = .ok (z.2.1, z.2.2) := by decide +kernel
theorem dk_L_law_9 : ∀ z ∈ cd_L_law_9, decode cL_law z.1 = .ok (z.2.1, z.2.2) := by decide +kernel
theorem dk_L_law_10 : ∀ z ∈ cd_L_law_10, decode cL_law z.1 = .ok (z.2.1, z.2.2) := by decide +kernel
theorem dk_L_law_11 : ∀ z ∈ cd_L_law_11, decode cL_law z.1 = .ok (z.2.1, z.2.2) := by decide +kernel
theorem dk_L_law_12 : ∀ z ∈ cd_L_law_12, decode cL_law z.1 = .ok (z.2.1, z.2.2) := by decide +kernel
theorem dk_L_law_13 : ∀ z ∈ cd_L_law_13, decode cL_law z.1 = .ok (z.2.1, z.2.2) := by decide +kernel
theorem dk_L_law_14 : ∀ z ∈ cd_L_law_14, decode cL_law z.1 = .ok (z.2.1, z.2.2) := by decide +kernel
theorem dk_L_law_15 : ∀ z ∈ cd_L_law_15, decode cL_law z.1 = .ok (z.2.1, z.2.2) := by decide +kernel
theorem dk_L_law_16 : ∀ z ∈ cd_L_law_16, decode cL_law z.1 = .ok (z.2.1, z.2.2) := by decide +kernel
theorem dk_L_law_17 : ∀ z ∈ cd_L_law_17, decode cL_law z.1 = .ok (z.2.1, z.2.2) := by decide +kernel
theorem dk_L_law_18 : ∀ z ∈ cd_L_law_18, decode cL_law z.1 = .ok (z.2.1, z.2.2) := by decide +kernel
theorem dk_L_law_19 : ∀ z ∈ cd_L_law_19, decode cL_law z.1 = .ok (z.2.1, z.2.2) := by decide +kernel
theorem dk_L_law_20 : ∀ z ∈ cd_L_law_20, decode cL_law z.1 = .ok (z.2.1, z.2.2) := by decide +kernel
theorem dk_L_law_21 : ∀ z ∈ cd_L_law_21, decode cL_law z.1 = .ok (z.2.1, z.2.2) := by decide +kernel
theorem dk_L_law_22 : ∀ z ∈ cd_L_law_22, decode cL_law z.1 = .ok (z.2.1, z.2.2) := by decide +kernel
theorem dk_L_law_23 : ∀ z ∈ cd_L_law_23, decode cL_law z.1 = .ok (z.2.1, z.2.2) := by decide +kernel
theorem dk_L_law_24 : ∀ z ∈ cd_L_law_24, decode cL_law z.1 = .ok (z.2.1, z.2.2) := by decide +kernel
theorem dk_L_law_25 : ∀ z ∈ cd_L_law_25, decode cL_law z.1 = .ok (z.2.1, z.2.2) := by decide +kernel
theorem dk_L_law_26 : ∀ z ∈ cd_L_law_26, decode cL_law z.1 = .ok (z.2.1, z.2.2) := by decide +kernel
theorem dk_L_law_27 : ∀ z ∈ cd_L_law_27, decode cL_law z.1 = .ok (z.2.1, z.2.2) := by decide +kernel
theorem dk_L_law_28 : ∀ z ∈ cd_L_law_28, decode cL_law z.1 = .ok (z.2.1, z.2.2) := by decide +kernel
theorem dk_L_law_29 : ∀ z ∈ cd_L_law_29, decode cL_law z.1 = .ok (z.2.1, z.2.2) := by decide +kernel
theorem dk_L_law_30 : ∀ z ∈ cd_L_law_30, decode cL_law z.1 = .ok (z.2.1, z.2.2) := by decide +kernel
theorem dk_L_law_31 : ∀ z ∈ cd_L_law_31, decode cL_law z.1 = .ok (z.2.1, z.2.2) := by decide +kernel
theorem dk_L_law_32 : ∀ z ∈ cd_L_law_32, decode cL_law z.1 = .ok (z.2.1, z.2.2) := by decide +kernel
theorem dk_L_law_33 : ∀ z ∈ cd_L_law_33, decode cL_law z.1 = .ok (z.2.1, z.2.2) := by decide +kernel
theorem dk_L_law_34 : ∀ z ∈ cd_L_law_34, decode cL_law z.1 = .ok (z.2.1, z.2.2) := by decide +kernel
theorem dk_L_law_35 : ∀ z ∈ cd_L_law_35, decode cL_law z.1 = .ok (z.2.1, z.2.2) := by decide +kernel
theorem dk_L_law_36 : ∀ z ∈ cd_L_law_36, decode cL_law z.1 = .ok (z.2.1, z.2.2) := by decide +kernel
theorem dk_L_law_37 : ∀ z ∈ cd_L_law_37, decode cL_law z.1 = .ok (z.2.1, z.2.2) := by decide +kernel
theorem dk_L_law_38 : ∀ z ∈ cd_L_law_38, decode cL_law z.1 = .ok (z.2.1, z.2.2) := by decide +kernel
theorem dk_L_law_39 : ∀ z ∈ cd_L_law_39, decode cL_law z.1 = .ok (z.2.1, z.2.2) := by decide +kernel
theorem dk_L_law_40 : ∀ z ∈ cd_L_law_40, decode cL_law z.1 = .ok (z.2.1, z.2.2) := by decide +kernel
theorem dk_L_law_41 : ∀ z ∈ cd_L_law_41, decode cL_law z.1 = .ok (z.2.1, z.2.2) := by decide +kernel
theorem dk_L_law_42 : ∀ z ∈ cd_L_law_42, decode cL_law z.1 = .ok (z.2.1, z.2.2) := by decide +kernel
theorem dk_L_law_43 : ∀ z ∈ cd_L_law_43, decode cL_law z.1 = .ok (z.2.1, z.2.2) := by decide +kernel
theorem dk_L_law_44 : ∀ z ∈ cd_L_law_44, decode cL_law z.1 = .ok (z.2.1, z.2.2) := by decide +kernel
theorem dk_L_law_45 : ∀ z ∈ cd_L_law_45, decode cL_law z.1 = .ok (z.2.1, z.2.2) := by decide +kernel
theorem dk_L_law_46 : ∀ z ∈ cd_L_law_46, decode cL_law z.1 = .ok (z.2.1, z.2.2) := by decide +kernel
theorem dk_L_law_47 : ∀ z ∈ cd_L_law_47, decode cL_law z.1 = .ok (z.2.1, z.2.2) := by decide +kernel
theorem dk_L_law_48 : ∀ z ∈ cd_L_law_48, decode cL_law z.1 = .ok (z.2.1, z.2.2) := by decide +kernel
theorem dk_L_law_49 : ∀ z ∈ cd_L_law_49, decode cL_law z.1 = .ok (z.2.1, z.2.2) := by decide +kernel
theorem dk_L_law_50 : ∀ z ∈ cd_L_law_50, decode cL_law z.1 = .ok (z.2.1, z.2.2) := by decide +kernel
theorem dk_L_law_51 : ∀ z ∈ cd_L_law_51, decode cL_law z.1 = .ok (z.2.1, z.2.2) := by decide +kernel
theorem dk_L_law_52 : ∀ z ∈ cd_L_law_52, decode cL_law z.1 = .ok (z.2.1, z.2.2) := by decide +kernel
theorem dk_L_law_53 : ∀ z ∈ cd_L_law_53, decode cL_law z.1 = .ok (z.2.1, z.2.2) := by decide +kernel
theorem dk_L_law_54 : ∀ z ∈ cd_L_law_54, decode cL_law z.1 = .ok (z.2.1, z.2.2) := by decide +kernel
end DEC
end
section
/-! THE PURE INTERPRETER. The system's own bytecode over a pure memory: objects are logical numbers, whole numbers lie in a function of (object, slot), references between objects are fixed by the layout. -/
section PINT
/-- memory: ints, longs, the script's length, how many exceptions were made -/
abbrev PM : Type := (Nat → Nat → Int32) × (Nat → Nat → Int64) × Nat × Nat
/-- pc, locals (retAddr: not known), stack, memory -/
abbrev PS : Type := Nat × List Value × List Value × PM
abbrev PO : Type := ((Option Value) ⊕ Nat) × PM
/-- a call: method, arguments, its pc, locals, stack below, memory -/
abbrev PCl : Type := Nat × List Value × Nat × List Value × List Value × PM
abbrev SR : Type := PS ⊕ (PCl ⊕ PO)
abbrev Ent : Type := Nat × Nat × Nat × Value
abbrev Chunks : Type := List (List (Nat × Instr × Nat))
/-- code, constant pool, return type (0 void, 1 int, 2 boolean, 3 long, 4 double, 5 reference), maxLocals, exception table -/
abbrev MI : Type := Chunks × (Nat → Ent) × Nat × Nat × List (Nat × Nat × Nat × Nat)
abbrev pU : Value := .retAddr 0
def mI (μ : PM) (k j : Nat) : Int32 := μ.1 k j
def mJ (μ : PM) (k j : Nat) : Int64 := μ.2.1 k j
def stI (μ : PM) (k j : Nat) (v : Int32) : PM := (fun a b => bif Nat.beq a k && Nat.beq b j then v else μ.1 a b, μ.2)
def stJ (μ : PM) (k j : Nat) (v : Int64) : PM := (μ.1, fun a b => bif Nat.beq a k && Nat.beq b j then v else μ.2.1 a b, μ.2.2)
/-- the layout: what kind of thing a logical number is. 0..9: objects of the classes of vwCl; 20 int array; 21 long array; 22, 23, 24, 26: arrays of corners, organs, players, towns; 25 the script; 27 fixed ints; 28 the kinds; 29 a kind; 30 a text -/
def lyLow : List (Nat × Nat) := [(8, 0), (6, 0), (26, 6), (1, 0), (20, 60), (4, 0), (20, 8), (20, 8), (20, 8), (3, 0), (20, 5), (20, 5), (9, 0), (20, 213), (20, 213), (20, 1278), (20, 60), (20, 32), (20, 8), (20, 5), (20, 6), (20, 6), (21, 1)]
def lyTown (r : Nat) : Nat × Nat :=
  bif Nat.beq r 0 then (7, 0) else bif Nat.beq r 1 then (22, 10) else bif Nat.beq r 2 then (23, 5) else bif Nat.beq r 3 then (24, 8) else bif Nat.beq r 4 then (20, 5)
  else bif Nat.blt r 25 then (bif Nat.beq (r % 2) 1 then (0, 0) else (20, 10)) else bif Nat.blt r 30 then (2, 0) else bif Nat.beq (r % 2) 0 then (5, 0) else (20, 5)
def lyTop (k : Nat) : Nat × Nat :=
  bif Nat.beq k 390 then (25, 0) else bif Nat.beq k 400 then (27, 5) else bif Nat.beq k 402 then (27, 5) else bif Nat.beq k 401 then (28, 5)
  else bif Nat.blt k 410 then (99, 0) else bif Nat.blt k 415 then (29, 0) else bif Nat.blt k 420 then (99, 0) else bif Nat.blt k 430 then (30, 0) else (99, 0)
def ly (k : Nat) : Nat × Nat := bif Nat.blt k 23 then lyLow.getD k (99, 0) else bif Nat.blt k 345 then lyTown ((k - 23) % 46) else lyTop k
def cls (k : Nat) : Nat := (ly k).1
def len (k : Nat) : Nat := (ly k).2
def cst (k i : Nat) : Int32 := (bif Nat.beq k 400 then [99, 9, 50, 100, 50] else [1, 2, 3, 4, 0]).getD i 0
/-- what lies at place i of an array of references -/
def eN (k i : Nat) : Nat :=
  bif Nat.beq (cls k) 22 then k + 4 + 2 * i else bif Nat.beq (cls k) 23 then k + 23 + i else bif Nat.beq (cls k) 24 then k + 27 + 2 * i
  else bif Nat.beq (cls k) 26 then k + 67 + 46 * i else k + 9 + i
def elr (k i : Nat) : Value := .ref (eN k i)
/-- an index within -/
def inb (i : Int32) (n : Nat) : Bool := !(decide (i < 0) || Nat.ble n i.toNatClampNeg)
def strs : List (List Int32) := [[108, 111, 116, 115], [108, 111, 116, 115], [119, 101, 116], [119, 101, 116], [100, 114, 121], [100, 114, 121], [110, 101, 120, 116], [110, 101, 120, 116], [48, 58, 97], [52, 58, 106]]
def strLen (k : Nat) : Int32 := Int32.ofNat (strs.getD (k - 420) []).length
def strAt (k i : Nat) : Int32 := (strs.getD (k - 420) []).getD i 0
def noNaN (r : UInt64) : Bool := decide (r &&& 0x7fffffffffffffff ≤ 0x7ff0000000000000)
def lk : List (Nat × Instr × Nat) → Nat → Option (Instr × Nat)
  | [], _ => none
  | (p, i, l) :: r, pc => bif Nat.beq p pc then some (i, l) else lk r pc
def lk2 (cs : Chunks) (pc : Nat) : Option (Instr × Nat) := lk (cs.getD (pc / 32) []) pc
def nx (pc : Nat) (ls st : List Value) (μ : PM) : Option SR := some (.inl (pc, ls, st, μ))
def jp (pc : Nat) (off : Int) (ls st : List Value) (μ : PM) : Option SR := match (pc : Int) + off with
  | .ofNat t => nx t ls st μ
  | .negSucc _ => none
def un32 (f : Int32 → Value) (pc : Nat) (ls st : List Value) (μ : PM) : Option SR := match st with
  | .int x :: r => nx (pc + 1) ls (f x :: r) μ
  | _ => none
def un64 (f : Int64 → Value) (pc : Nat) (ls st : List Value) (μ : PM) : Option SR := match st with
  | .long x :: r => nx (pc + 1) ls (f x :: r) μ
  | _ => none
def b32 (f : Int32 → Int32 → Int32) (pc : Nat) (ls st : List Value) (μ : PM) : Option SR := match st with
  | .int y :: .int x :: r => nx (pc + 1) ls (.int (f x y) :: r) μ
  | _ => none
def b32n (f : Int32 → Int32 → Int32) (pc : Nat) (ls st : List Value) (μ : PM) : Option SR := match st with
  | .int y :: .int x :: r => if ¬ y = 0 then nx (pc + 1) ls (.int (f x y) :: r) μ else none
  | _ => none
def b64 (f : Int64 → Int64 → Value) (pc : Nat) (ls st : List Value) (μ : PM) : Option SR := match st with
  | .long y :: .long x :: r => nx (pc + 1) ls (f x y :: r) μ
  | _ => none
def b64n (f : Int64 → Int64 → Value) (pc : Nat) (ls st : List Value) (μ : PM) : Option SR := match st with
  | .long y :: .long x :: r => if ¬ y = 0 then nx (pc + 1) ls (f x y :: r) μ else none
  | _ => none
def bD (f : UInt64 → UInt64 → UInt64) (pc : Nat) (ls st : List Value) (μ : PM) : Option SR := match st with
  | .double y :: .double x :: r => if noNaN (f x y) = true then nx (pc + 1) ls (.double (f x y) :: r) μ else none
  | _ => none
def if1 (c : ClassFile.Cond) (pc : Nat) (off : Int) (ls st : List Value) (μ : PM) : Option SR := match st with
  | .int x :: r => (match c with
    | .eq => if x = 0 then jp pc off ls r μ else nx (pc + 3) ls r μ
    | .ne => if ¬ x = 0 then jp pc off ls r μ else nx (pc + 3) ls r μ
    | .lt => if x < 0 then jp pc off ls r μ else nx (pc + 3) ls r μ
    | .ge => if 0 ≤ x then jp pc off ls r μ else nx (pc + 3) ls r μ
    | .gt => if 0 < x then jp pc off ls r μ else nx (pc + 3) ls r μ
    | .le => if x ≤ 0 then jp pc off ls r μ else nx (pc + 3) ls r μ)
  | _ => none
def if2 (c : ClassFile.Cond) (pc : Nat) (off : Int) (ls st : List Value) (μ : PM) : Option SR := match st with
  | .int y :: .int x :: r => (match c with
    | .eq => if x = y then jp pc off ls r μ else nx (pc + 3) ls r μ
    | .ne => if ¬ x = y then jp pc off ls r μ else nx (pc + 3) ls r μ
    | .lt => if x < y then jp pc off ls r μ else nx (pc + 3) ls r μ
    | .ge => if y ≤ x then jp pc off ls r μ else nx (pc + 3) ls r μ
    | .gt => if y < x then jp pc off ls r μ else nx (pc + 3) ls r μ
    | .le => if x ≤ y then jp pc off ls r μ else nx (pc + 3) ls r μ)
  | _ => none
def ifn (neg : Bool) (pc : Nat) (off : Int) (ls st : List Value) (μ : PM) : Option SR := match st with
  | .ref _ :: r => bif neg then jp pc off ls r μ else nx (pc + 3) ls r μ
  | .null :: r => bif neg then nx (pc + 3) ls r μ else jp pc off ls r μ
  | _ => none
/-- references are compared where both are kinds -/
def ifa (pc : Nat) (off : Int) (ls st : List Value) (μ : PM) : Option SR := match st with
  | .ref y :: .ref x :: r => if cls x = 29 ∧ cls y = 29 then (if ¬ x = y then jp pc off ls r μ else nx (pc + 3) ls r μ) else none
  | _ => none
def ldI (pc l i : Nat) (ls st : List Value) (μ : PM) : Option SR := match ls[i]? with
  | some (.int x) => nx (pc + l) ls (.int x :: st) μ
  | _ => none
def ldJ (pc l i : Nat) (ls st : List Value) (μ : PM) : Option SR := match ls[i]? with
  | some (.long x) => nx (pc + l) ls (.long x :: st) μ
  | _ => none
def ldD (pc l i : Nat) (ls st : List Value) (μ : PM) : Option SR := match ls[i]? with
  | some (.double x) => nx (pc + l) ls (.double x :: st) μ
  | _ => none
def ldA (pc l i : Nat) (ls st : List Value) (μ : PM) : Option SR := match ls[i]? with
  | some (.ref x) => nx (pc + l) ls (.ref x :: st) μ
  | some .null => nx (pc + l) ls (.null :: st) μ
  | _ => none
/-- the local ahead holds no long or double -/
def okS (ls : List Value) (i : Nat) : Bool := match i with
  | 0 => true
  | j + 1 => match ls[j]? with
    | some (.long _) => false
    | some (.double _) => false
    | _ => true
def st1 (pc l i : Nat) (v : Value) (ls st : List Value) (μ : PM) : Option SR := bif Nat.blt i ls.length && okS ls i then nx (pc + l) (ls.set i v) st μ else none
def st2 (pc l i : Nat) (v : Value) (ls st : List Value) (μ : PM) : Option SR := bif Nat.blt (i + 1) ls.length && okS ls i then nx (pc + l) ((ls.set i v).set (i + 1) pU) st μ else none
def stoI (pc l i : Nat) (ls st : List Value) (μ : PM) : Option SR := match st with
  | .int x :: r => st1 pc l i (.int x) ls r μ
  | _ => none
def stoA (pc l i : Nat) (ls st : List Value) (μ : PM) : Option SR := match st with
  | .ref x :: r => st1 pc l i (.ref x) ls r μ
  | .null :: r => st1 pc l i .null ls r μ
  | _ => none
def stoJ (pc l i : Nat) (ls st : List Value) (μ : PM) : Option SR := match st with
  | .long x :: r => st2 pc l i (.long x) ls r μ
  | _ => none
def stoD (pc l i : Nat) (ls st : List Value) (μ : PM) : Option SR := match st with
  | .double x :: r => st2 pc l i (.double x) ls r μ
  | _ => none
def incI (pc i : Nat) (n : Int) (ls st : List Value) (μ : PM) : Option SR := match ls[i]? with
  | some (.int x) => st1 pc 3 i (.int (x + Int32.ofInt n)) ls st μ
  | _ => none
def alI (pc : Nat) (ls st : List Value) (μ : PM) : Option SR := match st with
  | .int i :: .ref k :: r =>
    if cls k = 20 ∧ inb i (len k) = true then nx (pc + 1) ls (.int (mI μ k i.toNatClampNeg) :: r) μ
    else if cls k = 25 ∧ inb i μ.2.2.1 = true then nx (pc + 1) ls (.int (mI μ k i.toNatClampNeg) :: r) μ
    else if cls k = 27 ∧ inb i (len k) = true then nx (pc + 1) ls (.int (cst k i.toNatClampNeg) :: r) μ else none
  | _ => none
def alJ (pc : Nat) (ls st : List Value) (μ : PM) : Option SR := match st with
  | .int i :: .ref k :: r => if cls k = 21 ∧ inb i (len k) = true then nx (pc + 1) ls (.long (mJ μ k i.toNatClampNeg) :: r) μ else none
  | _ => none
def isRA (c : Nat) : Bool := Nat.beq c 22 || Nat.beq c 23 || Nat.beq c 24 || Nat.beq c 26 || Nat.beq c 28
def alA (pc : Nat) (ls st : List Value) (μ : PM) : Option SR := match st with
  | .int i :: .ref k :: r => if isRA (cls k) = true ∧ inb i (len k) = true then nx (pc + 1) ls (elr k i.toNatClampNeg :: r) μ else none
  | _ => none
def asI (pc : Nat) (ls st : List Value) (μ : PM) : Option SR := match st with
  | .int v :: .int i :: .ref k :: r => if cls k = 20 ∧ inb i (len k) = true then nx (pc + 1) ls r (stI μ k i.toNatClampNeg v) else none
  | _ => none
def asJ (pc : Nat) (ls st : List Value) (μ : PM) : Option SR := match st with
  | .long v :: .int i :: .ref k :: r => if cls k = 21 ∧ inb i (len k) = true then nx (pc + 1) ls r (stJ μ k i.toNatClampNeg v) else none
  | _ => none
def arl (pc : Nat) (ls st : List Value) (μ : PM) : Option SR := match st with
  | .ref k :: r => if cls k = 25 then nx (pc + 1) ls (.int (Int32.ofNat μ.2.2.1) :: r) μ else if cls k = 28 then nx (pc + 1) ls (.int (Int32.ofNat (len k)) :: r) μ else none
  | _ => none
/-- pool entries: (0, class, slot): an int field; 1: a boolean one; 2: a long one; 3: a reference, at so far behind; 8: a text of a kind; 6: a constant; 7: an exception's class; 4: an instance method (number, arguments, class of the receiver); 9: a static one; 5: a method of the JDK's -/
def gtf (pl : Nat → Ent) (pc ix : Nat) (ls st : List Value) (μ : PM) : Option SR := match st with
  | .ref k :: r => (match pl ix with
    | (0, ci, j, _) => if cls k = ci then nx (pc + 3) ls (.int (mI μ k j) :: r) μ else none
    | (1, ci, j, _) => if cls k = ci then nx (pc + 3) ls (.int (mI μ k j) :: r) μ else none
    | (2, ci, j, _) => if cls k = ci then nx (pc + 3) ls (.long (mJ μ k j) :: r) μ else none
    | (3, ci, _, .ref o) => if cls k = ci then nx (pc + 3) ls (.ref (k + o) :: r) μ else none
    | (8, ci, j, _) => if cls k = ci then nx (pc + 3) ls (.ref (420 + 2 * (k - 410) + j) :: r) μ else none
    | _ => none)
  | _ => none
def ptf (pl : Nat → Ent) (pc ix : Nat) (ls st : List Value) (μ : PM) : Option SR := match st with
  | .int v :: .ref k :: r => (match pl ix with
    | (0, ci, j, _) => bif Nat.blt ci 10 then (if cls k = ci then nx (pc + 3) ls r (stI μ k j v) else none) else none
    | (1, ci, j, _) => bif Nat.blt ci 10 then (if cls k = ci ∧ (v = 0 ∨ v = 1) then nx (pc + 3) ls r (stI μ k j v) else none) else none
    | _ => none)
  | .long v :: .ref k :: r => (match pl ix with
    | (2, ci, j, _) => if cls k = ci then nx (pc + 3) ls r (stJ μ k j v) else none
    | _ => none)
  | _ => none
/-- arraycopy between int arrays -/
def cpI (μ : PM) (a i b j n : Nat) : PM := (fun x y => bif Nat.beq x b && Nat.ble j y && Nat.blt y (j + n) then μ.1 a (i + (y - j)) else μ.1 x y, μ.2)
def catS (st : List Value) : Nat := (st.map fun v => v.category).sum
def jdk0 (id pc : Nat) (ls st : List Value) (μ : PM) : Option SR := match id with
  | 0 => (match st with | .int y :: .int x :: r => nx (pc + 3) ls (.int (if x < y then y else x) :: r) μ | _ => none)
  | 1 => (match st with | .int y :: .int x :: r => nx (pc + 3) ls (.int (if y < x then y else x) :: r) μ | _ => none)
  | 2 => (match st with | .int x :: r => nx (pc + 3) ls (.int (if 0 ≤ x then x else 0 - x) :: r) μ | _ => none)
  | 3 => (match st with
    | .int n :: .int j :: .ref b :: .int i :: .ref a :: r => if cls a = 20 ∧ cls b = 20 ∧ ¬ a = b ∧ i = 0 ∧ j = 0 ∧ ¬ n < 0 ∧ n.toNatClampNeg ≤ len a ∧ n.toNatClampNeg ≤ len b then nx (pc + 3) ls r (cpI μ a 0 b 0 n.toNatClampNeg) else none
    | _ => none)
  | 4 => (match st with | .double x :: r => if noNaN x = true then nx (pc + 3) ls (.long x.toInt64 :: r) μ else none | _ => none)
  | 5 => (match st with | .ref k :: r => if cls k = 30 then nx (pc + 3) ls (.int (strLen k) :: r) μ else none | _ => none)
  | 6 => (match st with | .int i :: .ref k :: r => if cls k = 30 ∧ inb i (strs.getD (k - 420) []).length = true then nx (pc + 3) ls (.int (strAt k i.toNatClampNeg) :: r) μ else none | _ => none)
  | 7 => (match st with | .ref k :: r => if cls k = 29 then nx (pc + 3) ls (.int (Int32.ofNat (k - 410)) :: r) μ else none | _ => none)
  | _ => none
def jdk (id pc : Nat) (ls st : List Value) (μ : PM) : Option SR := bif Nat.ble (catS st) 16 then jdk0 id pc ls st μ else none
def ivV (pl : Nat → Ent) (pc ix : Nat) (ls st : List Value) (μ : PM) : Option SR := match pl ix with
  | (4, n, na, .ref ci) => (match st[na - 1]? with
    | some (.ref k) => bif Nat.ble (catS (st.drop na)) 8 then (if cls k = ci then some (.inr (.inl (n, (st.take na).reverse, pc, ls, st.drop na, μ))) else none) else none
    | _ => none)
  | (13, id, _, _) => bif Nat.ble 5 id then jdk id pc ls st μ else none
  | _ => none
def ivS (pl : Nat → Ent) (pc ix : Nat) (ls st : List Value) (μ : PM) : Option SR := match pl ix with
  | (9, n, na, _) => bif Nat.ble na st.length && Nat.ble (catS (st.drop na)) 8 then some (.inr (.inl (n, (st.take na).reverse, pc, ls, st.drop na, μ))) else none
  | (10, n, na, _) => bif Nat.ble na st.length && Nat.ble (catS (st.drop na)) 8 then some (.inr (.inl (n, (st.take na).reverse, pc, ls, st.drop na, μ))) else none
  | (5, id, _, _) => bif Nat.blt id 5 then jdk id pc ls st μ else none
  | _ => none
/-- new E("..") and its throw, at one go -/
def thr (cs : Chunks) (pl : Nat → Ent) (pc ix : Nat) (st : List Value) (μ : PM) : Option SR := match pl ix with
  | (7, kind, _, _) => (match lk2 cs (pc + 3) with
    | some (.dup, 1) => (match lk2 cs (pc + 4) with
      | some (.ldc _, 2) => (match lk2 cs (pc + 6), lk2 cs (pc + 9) with
        | some (.invokespecial _, 3), some (.athrow, 1) => bif st.isEmpty then some (.inr (.inr (.inr kind, (μ.1, μ.2.1, μ.2.2.1, μ.2.2.2 + 1)))) else none
        | _, _ => none)
      | some (.ldc_w _, 3) => (match lk2 cs (pc + 7), lk2 cs (pc + 10) with
        | some (.invokespecial _, 3), some (.athrow, 1) => bif st.isEmpty then some (.inr (.inr (.inr kind, (μ.1, μ.2.1, μ.2.2.1, μ.2.2.2 + 1)))) else none
        | _, _ => none)
      | _ => none)
    | _ => none)
  | _ => none
def ldcI (pl : Nat → Ent) (pc l ix : Nat) (ls st : List Value) (μ : PM) : Option SR := match pl ix with
  | (6, _, _, .int v) => nx (pc + l) ls (.int v :: st) μ
  | _ => none
def ldc2 (pl : Nat → Ent) (pc ix : Nat) (ls st : List Value) (μ : PM) : Option SR := match pl ix with
  | (6, _, _, .long v) => nx (pc + 3) ls (.long v :: st) μ
  | (6, _, _, .double v) => nx (pc + 3) ls (.double v :: st) μ
  | _ => none
def gst (pl : Nat → Ent) (pc ix : Nat) (ls st : List Value) (μ : PM) : Option SR := match pl ix with
  | (12, k, _, _) => nx (pc + 3) ls (.ref k :: st) μ
  | (11, k, _, _) => nx (pc + 3) ls (.ref k :: st) μ
  | _ => none
def dn (v : Option Value) (μ : PM) : Option SR := some (.inr (.inr (.inl v, μ)))
def irt (rt : Nat) (st : List Value) (μ : PM) : Option SR := match st with
  | .int x :: [] => (match rt with
    | 1 => dn (some (.int x)) μ
    | 2 => if x = 0 ∨ x = 1 then dn (some (.int x)) μ else none
    | _ => none)
  | _ => none
def jrt (rt : Nat) (st : List Value) (μ : PM) : Option SR := match rt, st with
  | 3, .long x :: [] => dn (some (.long x)) μ
  | _, _ => none
def drt (rt : Nat) (st : List Value) (μ : PM) : Option SR := match rt, st with
  | 4, .double x :: [] => dn (some (.double x)) μ
  | _, _ => none
def art (rt : Nat) (st : List Value) (μ : PM) : Option SR := match rt, st with
  | 5, .ref x :: [] => dn (some (.ref x)) μ
  | 5, .null :: [] => dn (some .null) μ
  | _, _ => none
def vrt (rt : Nat) (st : List Value) (μ : PM) : Option SR := match rt, st with
  | 0, [] => dn none μ
  | _, _ => none
def tsw (pc : Nat) (d lo hi : Int) (os : Array Int) (ls st : List Value) (μ : PM) : Option SR := match st with
  | .int x :: r => if x.toInt < lo ∨ hi < x.toInt then jp pc d ls r μ else (match os.toList[(x.toInt - lo).toNat]? with
    | some o => jp pc o ls r μ
    | none => none)
  | _ => none
def lsw (pc : Nat) (d : Int) (ps : Array (Int × Int)) (ls st : List Value) (μ : PM) : Option SR := match st with
  | .int x :: r => bif (ps.toList.zip (ps.toList.drop 1)).all (fun (a, next) => a.1 < next.1) then jp pc (Op.lookupswitch.offset ps.toList d x.toInt) ls r μ else none
  | _ => none
def cat1 (v : Value) : Bool := match v with
  | .long _ => false
  | .double _ => false
  | _ => true
def dp (pc : Nat) (ls st : List Value) (μ : PM) : Option SR := match st with
  | a :: r => bif cat1 a then nx (pc + 1) ls (a :: a :: r) μ else none
  | _ => none
def dp2 (pc : Nat) (ls st : List Value) (μ : PM) : Option SR := match st with
  | a :: b :: r => bif cat1 a && cat1 b then nx (pc + 1) ls (a :: b :: a :: b :: r) μ else none
  | _ => none
def pp (pc : Nat) (ls st : List Value) (μ : PM) : Option SR := match st with
  | a :: r => bif cat1 a then nx (pc + 1) ls r μ else none
  | _ => none
def pex (M : MI) (i : Instr) (l pc : Nat) (ls st : List Value) (μ : PM) : Option SR := match i with
  | .aaload => alA pc ls st μ
  | .aconst_null => nx (pc + 1) ls (.null :: st) μ
  | .aload k => ldA pc 2 k ls st μ
  | .aload_n k => ldA pc 1 k ls st μ
  | .areturn => art M.2.2.1 st μ
  | .arraylength => arl pc ls st μ
  | .astore k => stoA pc 2 k ls st μ
  | .astore_n k => stoA pc 1 k ls st μ
  | .bipush n => nx (pc + 2) ls (.int (Int8.ofInt n).toInt32 :: st) μ
  | .d2l => (match st with | .double x :: r => nx (pc + 1) ls (.long (FP.d2l x) :: r) μ | _ => none)
  | .dcmp op => (match st with | .double y :: .double x :: r => nx (pc + 1) ls (.int (Op.cmpValue (FP.dcmp x y) op) :: r) μ | _ => none)
  | .dconst 0 => nx (pc + 1) ls (.double FP.dconst0 :: st) μ
  | .dconst 1 => nx (pc + 1) ls (.double FP.dconst1 :: st) μ
  | .ddiv => bD FP.ddiv pc ls st μ
  | .dload k => ldD pc 2 k ls st μ
  | .dload_n k => ldD pc 1 k ls st μ
  | .dmul => bD FP.dmul pc ls st μ
  | .dreturn => drt M.2.2.1 st μ
  | .dstore k => stoD pc 2 k ls st μ
  | .dstore_n k => stoD pc 1 k ls st μ
  | .dsub => bD FP.dsub pc ls st μ
  | .dup => dp pc ls st μ
  | .dup2 => dp2 pc ls st μ
  | .getfield ix => gtf M.2.1 pc ix ls st μ
  | .getstatic ix => gst M.2.1 pc ix ls st μ
  | .goto off => jp pc off ls st μ
  | .i2d => un32 (fun x => .double (FP.i2d x)) pc ls st μ
  | .i2l => un32 (fun x => .long x.toInt64) pc ls st μ
  | .iadd => b32 (fun x y => x + y) pc ls st μ
  | .iaload => alI pc ls st μ
  | .iand => b32 (fun x y => x &&& y) pc ls st μ
  | .iastore => asI pc ls st μ
  | .iconst n => nx (pc + 1) ls (.int (Int32.ofInt n) :: st) μ
  | .idiv => b32n (fun x y => x / y) pc ls st μ
  | .if_acmp .ne off => ifa pc off ls st μ
  | .if_icmp c off => if2 c pc off ls st μ
  | .ifCond c off => if1 c pc off ls st μ
  | .ifnonnull off => ifn true pc off ls st μ
  | .ifnull off => ifn false pc off ls st μ
  | .iinc k n => bif Nat.beq l 3 then incI pc k n ls st μ else none
  | .iload k => ldI pc 2 k ls st μ
  | .iload_n k => ldI pc 1 k ls st μ
  | .imul => b32 (fun x y => x * y) pc ls st μ
  | .ineg => un32 (fun x => .int (-x)) pc ls st μ
  | .invokestatic ix => ivS M.2.1 pc ix ls st μ
  | .invokevirtual ix => ivV M.2.1 pc ix ls st μ
  | .ior => b32 (fun x y => x ||| y) pc ls st μ
  | .irem => b32n (fun x y => x - x / y * y) pc ls st μ
  | .ireturn => irt M.2.2.1 st μ
  | .ishl => b32 (fun x y => x <<< (y &&& 31)) pc ls st μ
  | .ishr => b32 (fun x y => x >>> (y &&& 31)) pc ls st μ
  | .istore k => stoI pc 2 k ls st μ
  | .istore_n k => stoI pc 1 k ls st μ
  | .isub => b32 (fun x y => x - y) pc ls st μ
  | .ixor => b32 (fun x y => x ^^^ y) pc ls st μ
  | .l2d => un64 (fun x => .double (FP.l2d x)) pc ls st μ
  | .l2i => un64 (fun x => .int x.toInt32) pc ls st μ
  | .ladd => b64 (fun x y => .long (x + y)) pc ls st μ
  | .laload => alJ pc ls st μ
  | .lastore => asJ pc ls st μ
  | .lcmp => b64 (fun x y => .int (lg_cmp x y)) pc ls st μ
  | .lconst k => nx (pc + 1) ls (.long (Int64.ofNat (k : Nat)) :: st) μ
  | .ldc ix => ldcI M.2.1 pc 2 ix ls st μ
  | .ldc_w ix => ldcI M.2.1 pc 3 ix ls st μ
  | .ldc2_w ix => ldc2 M.2.1 pc ix ls st μ
  | .lload k => ldJ pc 2 k ls st μ
  | .lload_n k => ldJ pc 1 k ls st μ
  | .lmul => b64 (fun x y => .long (x * y)) pc ls st μ
  | .lookupswitch d ps => lsw pc d ps ls st μ
  | .lrem => b64n (fun x y => .long (x - x / y * y)) pc ls st μ
  | .lreturn => jrt M.2.2.1 st μ
  | .lshl => (match st with | .int y :: .long x :: r => nx (pc + 1) ls (.long (x <<< (y.toInt64 &&& 63)) :: r) μ | _ => none)
  | .lstore k => stoJ pc 2 k ls st μ
  | .lstore_n k => stoJ pc 1 k ls st μ
  | .lsub => b64 (fun x y => .long (x - y)) pc ls st μ
  | .new ix => thr M.1 M.2.1 pc ix st μ
  | .pop => pp pc ls st μ
  | .putfield ix => ptf M.2.1 pc ix ls st μ
  | .return_ => vrt M.2.2.1 st μ
  | .sipush n => nx (pc + 3) ls (.int (Int16.ofInt n).toInt32 :: st) μ
  | .tableswitch d lo hi os => tsw pc d lo hi os ls st μ
  | _ => none
def pstep (M : MI) (s : PS) : Option SR := match s with
  | (pc, ls, st, μ) => match lk2 M.1 pc with
    | none => none
    | some (i, l) => pex M i l pc ls st μ
def pblk (M : MI) : Nat → PS → Option SR
  | 0, s => pstep M s
  | n + 1, s => match pstep M s with
    | some (.inl s') => pblk M n s'
    | r => r
def hfind : List (Nat × Nat × Nat × Nat) → Nat → Nat → Option Nat
  | [], _, _ => none
  | (a, b, h, k) :: r, pc, kind => bif Nat.ble a pc && Nat.blt pc b && Nat.beq k kind then some h else hfind r pc kind
/-- behind a call -/
def aft (M : MI) (pc : Nat) (ls st : List Value) (o : PO) : Option SR := match o with
  | (.inl (some v), μ) => nx (pc + 3) ls (v :: st) μ
  | (.inl none, μ) => nx (pc + 3) ls st μ
  | (.inr k, μ) => match hfind M.2.2.2.2 pc k with
    | none => some (.inr (.inr (.inr k, μ)))
    | some h => match lk2 M.1 h with
      | some (.astore n, _) => st1 h 2 n pU ls [] μ
      | some (.astore_n n, _) => st1 h 1 n pU ls [] μ
      | _ => none
/-- the arguments as locals -/
def layA : List Value → List Value
  | [] => []
  | v :: vs => bif cat1 v then v :: layA vs else v :: pU :: layA vs
def entryL (n : Nat) (as : List Value) : List Value := layA as ++ List.replicate (n - (layA as).length) pU
end PINT
end
section
/-! THE CODE TABLES, by program (wip/whole/gen.py) out of the names and the listing -/
section CODE
def plk : List (Nat × Ent) → Nat → Ent
  | [], _ => (99, 0, 0, .null)
  | (i, e) :: r, j => bif Nat.beq i j then e else plk r j
abbrev nX1_copyFrom : Nat := 0
abbrev nX1_isQuietAt : Nat := 1
abbrev nX1_distanceTo : Nat := 2
abbrev nX1_tunesPlayed : Nat := 3
abbrev nX1_noteTune : Nat := 4
abbrev nX1_forgetDay : Nat := 5
abbrev nX2_signCount : Nat := 6
abbrev nX2_fits : Nat := 7
abbrev nX3_kindAt : Nat := 8
abbrev nX3_errorIndex : Nat := 9
abbrev nX3_isWholeRow : Nat := 10
abbrev nX3_organAt : Nat := 11
abbrev nX3_tuneAt : Nat := 12
abbrev nX4_copyFrom : Nat := 13
abbrev nX5_lookAt : Nat := 14
abbrev nX5_leastHindering : Nat := 15
abbrev nX5_hinderedPairs : Nat := 16
abbrev nX5_findMost : Nat := 17
abbrev nX5_takingsOf : Nat := 18
abbrev nX5_nearAhead : Nat := 19
abbrev nX5_findTunes : Nat := 20
abbrev nX5_isFree : Nat := 21
abbrev nX6_reckon : Nat := 22
abbrev nX6_sharePot : Nat := 23
abbrev nX6_giveUnits : Nat := 24
abbrev nX6_giveAllowances : Nat := 25
abbrev nX7_copyFrom : Nat := 26
abbrev nX7_hoursOfDay : Nat := 27
abbrev nX7_forgetDay : Nat := 28
abbrev nX8_save : Nat := 29
abbrev nX8_restore : Nat := 30
abbrev nX9_copyFrom : Nat := 31
abbrev nX9_hasCornerAt : Nat := 32
abbrev nX9_permits : Nat := 33
abbrev nX9_crewSize : Nat := 34
abbrev nX9_organAt : Nat := 35
abbrev nX9_cornerOf : Nat := 36
abbrev nX9_takingsSoFar : Nat := 37
abbrev nX9_ownersSoFar : Nat := 38
abbrev nX9_inAllPots : Nat := 39
abbrev nX9_playersSoFar : Nat := 40
abbrev nX9_weatherMayChange : Nat := 41
abbrev nX9_lotsMayBeDrawn : Nat := 42
abbrev nX9_drawLots : Nat := 43
abbrev nX9_takeCornersBack : Nat := 44
abbrev nX9_draw : Nat := 45
abbrev nX9_freeCorner : Nat := 46
abbrev nX9_areNear : Nat := 47
abbrev nX9_tunesHeardAt : Nat := 48
abbrev nX9_reasonAgainstAll : Nat := 49
abbrev nX9_reasonAgainst : Nat := 50
abbrev nX9_playableTunes : Nat := 51
abbrev nX9_playedNear : Nat := 52
abbrev nX9_takingsFor : Nat := 53
abbrev nX9_playTune : Nat := 54
abbrev nX9_divideTakings : Nat := 55
abbrev nX9_addHourOfCrew : Nat := 56
abbrev nX9_endHour : Nat := 57
abbrev nX9_payOut : Nat := 58
abbrev nX9_beginDay : Nat := 59
abbrev nX10_addCorner : Nat := 60
abbrev nX10_addOrgan : Nat := 61
abbrev nX10_addPlayer : Nat := 62
abbrev nX10_permit : Nat := 63
abbrev nX10_barrel : Nat := 64
abbrev nX10_assign : Nat := 65
abbrev nX10_set : Nat := 66
abbrev nX10_lots : Nat := 67
abbrev nX10_weather : Nat := 68
abbrev nX10_play : Nat := 69
abbrev nX10_next : Nat := 70
abbrev nX10_append : Nat := 71
abbrev nX10_clearBuffer : Nat := 72
abbrev nX10_firstError : Nat := 73
abbrev nX10_run : Nat := 74
abbrev nX10_undo : Nat := 75
abbrev nX10_corner : Nat := 76
abbrev nX10_organ : Nat := 77
abbrev nX10_player : Nat := 78
abbrev nX10_hours : Nat := 79
abbrev nX10_count : Nat := 80
abbrev nX10_setting : Nat := 81
abbrev nX10_whyNot : Nat := 82
abbrev nX10_ifPlayed : Nat := 83
abbrev nX10_kindestTune : Nat := 84
abbrev nX10_most : Nat := 85
abbrev nX10_ifEnded : Nat := 86
abbrev nX10_playersShare : Nat := 87
abbrev nX10_digest : Nat := 88
abbrev nX10_requireIndex : Nat := 89
abbrev nX10_requireInRange : Nat := 90
abbrev nX10_requireState : Nat := 91
abbrev nX10_asNumber : Nat := 92
abbrev nX10_holds : Nat := 93
abbrev nX10_obey : Nat := 94
abbrev nX10_obeyPlay : Nat := 95
abbrev nX10_mixed : Nat := 96
abbrev nX10_withCorner : Nat := 97
abbrev nX10_withOrgan : Nat := 98
abbrev nX10_withPlayer : Nat := 99
abbrev nX10_withText : Nat := 100
abbrev nX10_bitsOfShare : Nat := 101
abbrev nX11_thrown : Nat := 102
abbrev nX11_fails : Nat := 103
abbrev nX11_within : Nat := 104
abbrev nX11_isCorner : Nat := 105
abbrev nX11_isOrgan : Nat := 106
abbrev nX11_isPlayer : Nat := 107
abbrev nX11_corner0 : Nat := 108
abbrev nX11_organ0 : Nat := 109
abbrev nX11_player0 : Nat := 110
abbrev nX11_cornerOf : Nat := 111
abbrev nX11_tuneIn : Nat := 112
abbrev nX11_save : Nat := 113
abbrev nX11_keep : Nat := 114
abbrev nX11_bring : Nat := 115
abbrev nX11_addCorner : Nat := 116
abbrev nX11_addOrgan : Nat := 117
abbrev nX11_addPlayer : Nat := 118
abbrev nX11_permits : Nat := 119
abbrev nX11_permit : Nat := 120
abbrev nX11_barrel : Nat := 121
abbrev nX11_assign : Nat := 122
abbrev nX11_mostOf : Nat := 123
abbrev nX11_set : Nat := 124
abbrev nX11_playedToday : Nat := 125
abbrev nX11_draw : Nat := 126
abbrev nX11_whoHas : Nat := 127
abbrev nX11_freeCorners : Nat := 128
abbrev nX11_freeAt : Nat := 129
abbrev nX11_withCorner : Nat := 130
abbrev nX11_noCorners : Nat := 131
abbrev nX11_mayDraw : Nat := 132
abbrev nX11_drawLots : Nat := 133
abbrev nX11_lots : Nat := 134
abbrev nX11_weather : Nat := 135
abbrev nX11_isQuiet : Nat := 136
abbrev nX11_areNear : Nat := 137
abbrev nX11_heardAt : Nat := 138
abbrev nX11_crewOf : Nat := 139
abbrev nX11_reason : Nat := 140
abbrev nX11_othersNear : Nat := 141
abbrev nX11_takings : Nat := 142
abbrev nX11_plays : Nat := 143
abbrev nX11_play : Nat := 144
abbrev nX11_timeAt : Nat := 145
abbrev nX11_timeToday : Nat := 146
abbrev nX11_sharePot : Nat := 147
abbrev nX11_endDay : Nat := 148
abbrev nX11_goOn : Nat := 149
abbrev nX11_next : Nat := 150
abbrev nX11_append : Nat := 151
abbrev nX11_clearBuffer : Nat := 152
abbrev nX11_goes : Nat := 153
abbrev nX11_ends : Nat := 154
abbrev nX11_begins : Nat := 155
abbrev nX11_takes : Nat := 156
abbrev nX11_read : Nat := 157
abbrev nX11_firstError : Nat := 158
abbrev nX11_mayDo : Nat := 159
abbrev nX11_does : Nat := 160
abbrev nX11_run : Nat := 161
abbrev nX11_undo : Nat := 162
abbrev nX11_playedAt : Nat := 163
abbrev nX11_cornerNow : Nat := 164
abbrev nX11_corner : Nat := 165
abbrev nX11_organNow : Nat := 166
abbrev nX11_organ : Nat := 167
abbrev nX11_playerNow : Nat := 168
abbrev nX11_player : Nat := 169
abbrev nX11_hours : Nat := 170
abbrev nX11_ofOrgans : Nat := 171
abbrev nX11_playersGot : Nat := 172
abbrev nX11_counted : Nat := 173
abbrev nX11_count : Nat := 174
abbrev nX11_setting : Nat := 175
abbrev nX11_whyNot : Nat := 176
abbrev nX11_tunesOf : Nat := 177
abbrev nX11_playedNow : Nat := 178
abbrev nX11_ifPlayed : Nat := 179
abbrev nX11_size : Nat := 180
abbrev nX11_pairsBehind : Nat := 181
abbrev nX11_kindestNow : Nat := 182
abbrev nX11_kindestTune : Nat := 183
abbrev nX11_canPick : Nat := 184
abbrev nX11_pickTakings : Nat := 185
abbrev nX11_keepPicks : Nat := 186
abbrev nX11_layMost : Nat := 187
abbrev nX11_most : Nat := 188
abbrev nX11_endedNow : Nat := 189
abbrev nX11_ifEnded : Nat := 190
abbrev nX11_shareNow : Nat := 191
abbrev nX11_playersShare : Nat := 192
abbrev nX11_mix : Nat := 193
abbrev nX11_mixOrgan : Nat := 194
abbrev nX11_mixPlayer : Nat := 195
abbrev nX11_digest : Nat := 196
abbrev nL_addCorner : Nat := 197
abbrev nL_addOrgan : Nat := 198
abbrev nL_addPlayer : Nat := 199
abbrev nL_permit : Nat := 200
abbrev nL_barrel : Nat := 201
abbrev nL_assign : Nat := 202
abbrev nL_set : Nat := 203
abbrev nL_lots : Nat := 204
abbrev nL_weather : Nat := 205
abbrev nL_play : Nat := 206
abbrev nL_append : Nat := 207
abbrev nL_run : Nat := 208
abbrev nL_undo : Nat := 209
abbrev nL_corner : Nat := 210
abbrev nL_organ : Nat := 211
abbrev nL_player : Nat := 212
abbrev nL_hours : Nat := 213
abbrev nL_count : Nat := 214
abbrev nL_setting : Nat := 215
abbrev nL_whyNot : Nat := 216
abbrev nL_ifPlayed : Nat := 217
abbrev nL_kindestTune : Nat := 218
abbrev nL_most : Nat := 219
abbrev nL_ifEnded : Nat := 220
abbrev nL_law : Nat := 221
def plL_L : List (Nat × Ent) := [(7, (4, 60, 5, .ref 8)), (17, (4, 61, 2, .ref 8)), (21, (4, 62, 1, .ref 8)), (25, (4, 63, 3, .ref 8)), (31, (4, 64, 3, .ref 8)), (35, (4, 65, 3, .ref 8)), (38, (4, 66, 3, .ref 8)), (41, (4, 67, 1, .ref 8)), (44, (4, 68, 2, .ref 8)), (48, (4, 69, 3, .ref 8)), (51, (4, 71, 2, .ref 8)), (54, (4, 74, 1, .ref 8)), (57, (4, 75, 1, .ref 8)), (60, (4, 76, 3, .ref 8)), (63, (4, 77, 3, .ref 8)), (66, (4, 78, 3, .ref 8)), (69, (4, 79, 3, .ref 8)), (72, (4, 80, 2, .ref 8)), (75, (4, 81, 2, .ref 8)), (78, (4, 82, 3, .ref 8)), (81, (4, 83, 2, .ref 8)), (84, (4, 84, 2, .ref 8)), (87, (4, 85, 2, .ref 8)), (90, (4, 86, 2, .ref 8)), (97, (9, 197, 6, .null)), (102, (4, 116, 5, .ref 9)), (103, (4, 102, 1, .ref 9)), (106, (9, 198, 3, .null)), (109, (4, 117, 2, .ref 9)), (110, (9, 199, 2, .null)), (113, (4, 118, 1, .ref 9)), (114, (9, 200, 4, .null)), (117, (4, 120, 3, .ref 9)), (118, (9, 201, 4, .null)), (121, (4, 121, 3, .ref 9)), (122, (9, 202, 4, .null)), (124, (4, 122, 3, .ref 9)), (125, (9, 203, 4, .null)), (127, (4, 124, 3, .ref 9)), (128, (9, 204, 2, .null)), (130, (4, 134, 1, .ref 9)), (131, (9, 205, 3, .null)), (134, (4, 135, 2, .ref 9)), (135, (9, 206, 4, .null)), (137, (4, 144, 3, .ref 9)), (138, (4, 70, 1, .ref 8)), (141, (4, 150, 1, .ref 9)), (142, (9, 207, 3, .null)), (144, (4, 151, 2, .ref 9)), (145, (4, 72, 1, .ref 8)), (148, (4, 152, 1, .ref 9)), (149, (4, 73, 1, .ref 8)), (152, (4, 158, 1, .ref 9)), (153, (9, 208, 2, .null)), (155, (4, 161, 1, .ref 9)), (156, (9, 209, 2, .null)), (158, (4, 162, 1, .ref 9)), (159, (9, 210, 4, .null)), (161, (4, 165, 3, .ref 9)), (162, (9, 211, 4, .null)), (164, (4, 167, 3, .ref 9)), (165, (9, 212, 4, .null)), (167, (4, 169, 3, .ref 9)), (168, (9, 213, 4, .null)), (170, (4, 170, 3, .ref 9)), (171, (9, 214, 3, .null)), (173, (4, 174, 2, .ref 9)), (174, (9, 215, 3, .null)), (176, (4, 175, 2, .ref 9)), (177, (9, 216, 4, .null)), (179, (4, 176, 3, .ref 9)), (180, (9, 217, 3, .null)), (182, (4, 179, 2, .ref 9)), (183, (9, 218, 3, .null)), (185, (4, 183, 2, .ref 9)), (186, (9, 219, 3, .null)), (188, (4, 188, 2, .ref 9)), (189, (9, 220, 3, .null)), (191, (4, 190, 2, .ref 9)), (192, (4, 87, 1, .ref 8)), (196, (4, 192, 1, .ref 9)), (197, (4, 88, 1, .ref 8)), (201, (4, 196, 1, .ref 9))]
def pl_L (i : Nat) : Ent := plk plL_L i
def plL_X1 : List (Nat × Ent) := [(9, (3, 0, 4, .ref 1)), (15, (0, 0, 0, .null)), (19, (0, 0, 1, .null)), (22, (0, 0, 2, .null)), (25, (0, 0, 3, .null)), (28, (5, 3, 0, .null)), (34, (5, 2, 0, .null)), (40, (5, 0, 0, .null))]
def pl_X1 (i : Nat) : Ent := plk plL_X1 i
def plL_X10 : List (Nat × Ent) := [(10, (3, 8, 0, .ref 23)), (19, (3, 8, 1, .ref 1)), (26, (3, 8, 2, .ref 3)), (33, (3, 8, 3, .ref 5)), (40, (3, 8, 4, .ref 9)), (44, (9, 90, 3, .null)), (48, (0, 7, 4, .null)), (52, (4, 32, 2, .ref 7)), (56, (9, 91, 1, .null)), (60, (4, 29, 2, .ref 6)), (64, (3, 7, 0, .ref 1)), (68, (0, 0, 0, .null)), (73, (0, 0, 1, .null)), (76, (0, 0, 2, .null)), (79, (0, 0, 3, .null)), (82, (0, 7, 5, .null)), (85, (3, 7, 1, .ref 2)), (89, (0, 2, 0, .null)), (94, (0, 7, 6, .null)), (97, (9, 89, 2, .null)), (101, (1, 2, 1, .null)), (105, (4, 33, 1, .ref 7)), (109, (0, 2, 2, .null)), (112, (3, 7, 2, .ref 3)), (116, (0, 5, 0, .null)), (121, (12, 400, 0, .null)), (125, (3, 7, 3, .ref 4)), (128, (4, 42, 1, .ref 7)), (132, (4, 43, 1, .ref 7)), (135, (4, 41, 1, .ref 7)), (138, (1, 7, 9, .null)), (141, (9, 92, 1, .null)), (145, (4, 50, 3, .ref 7)), (149, (4, 54, 3, .ref 7)), (152, (4, 57, 2, .ref 7)), (156, (0, 7, 8, .null)), (159, (0, 1, 1, .null)), (162, (3, 1, 0, .ref 1)), (165, (4, 9, 1, .ref 1)), (168, (4, 10, 1, .ref 1)), (171, (7, 1, 0, .null)), (178, (4, 8, 2, .ref 1)), (182, (4, 94, 3, .ref 8)), (186, (4, 6, 1, .ref 29)), (191, (0, 6, 2, .null)), (194, (4, 30, 2, .ref 6)), (197, (4, 1, 2, .ref 0)), (200, (4, 35, 2, .ref 7)), (204, (4, 3, 3, .ref 0)), (207, (4, 48, 2, .ref 7)), (211, (0, 2, 3, .null)), (214, (4, 34, 2, .ref 7)), (217, (0, 2, 4, .null)), (220, (0, 2, 5, .null)), (223, (0, 2, 6, .null)), (226, (0, 2, 7, .null)), (229, (4, 27, 1, .ref 5)), (232, (0, 5, 1, .null)), (235, (0, 5, 2, .null)), (238, (0, 5, 3, .null)), (241, (3, 5, 4, .ref 1)), (244, (0, 7, 7, .null)), (247, (0, 7, 10, .null)), (250, (0, 7, 11, .null)), (253, (0, 7, 12, .null)), (256, (4, 37, 1, .ref 7)), (259, (0, 7, 13, .null)), (262, (0, 7, 14, .null)), (265, (4, 38, 1, .ref 7)), (268, (4, 39, 1, .ref 7)), (271, (4, 40, 1, .ref 7)), (274, (4, 51, 2, .ref 7)), (277, (4, 52, 2, .ref 7)), (280, (4, 53, 3, .ref 7)), (283, (4, 14, 2, .ref 3)), (286, (4, 15, 3, .ref 3)), (290, (4, 17, 2, .ref 3)), (293, (0, 3, 2, .null)), (296, (0, 3, 3, .null)), (299, (4, 22, 2, .ref 4)), (302, (3, 4, 0, .ref 1)), (305, (3, 4, 1, .ref 2)), (308, (6, 0, 0, .long 2297)), (310, (4, 80, 2, .ref 8)), (312, (9, 96, 2, .null)), (316, (4, 81, 2, .ref 8)), (319, (4, 97, 3, .ref 8)), (323, (4, 98, 3, .ref 8)), (326, (4, 99, 3, .ref 8)), (329, (4, 85, 2, .ref 8)), (332, (4, 87, 1, .ref 8)), (336, (9, 101, 1, .null)), (340, (4, 100, 2, .ref 8)), (344, (7, 3, 0, .null)), (351, (7, 2, 0, .null)), (356, (12, 402, 0, .null)), (361, (13, 7, 0, .null)), (364, (12, 411, 0, .null)), (368, (4, 11, 2, .ref 1)), (369, (4, 12, 2, .ref 1)), (372, (4, 95, 3, .ref 8)), (376, (6, 0, 0, .long 31)), (378, (4, 76, 3, .ref 8)), (380, (4, 77, 3, .ref 8)), (383, (4, 82, 3, .ref 8)), (386, (4, 83, 2, .ref 8)), (389, (4, 84, 2, .ref 8)), (392, (4, 78, 3, .ref 8)), (395, (4, 79, 3, .ref 8)), (398, (4, 86, 2, .ref 8)), (401, (6, 0, 0, .long 1023)), (403, (6, 0, 0, .double 4611686018427387904)), (405, (6, 0, 0, .double 4841369599423283200))]
def pl_X10 (i : Nat) : Ent := plk plL_X10 i
def plL_X11 : List (Nat × Ent) := [(7, (3, 9, 0, .ref 1)), (13, (3, 9, 1, .ref 2)), (16, (3, 9, 2, .ref 3)), (19, (3, 9, 3, .ref 4)), (22, (3, 9, 4, .ref 5)), (25, (3, 9, 5, .ref 6)), (28, (3, 9, 6, .ref 7)), (31, (3, 9, 7, .ref 8)), (34, (3, 9, 8, .ref 9)), (37, (0, 9, 16, .null)), (41, (9, 104, 3, .null)), (45, (4, 109, 3, .ref 9)), (49, (0, 9, 14, .null)), (52, (4, 103, 2, .ref 9)), (56, (4, 108, 3, .ref 9)), (59, (4, 113, 1, .ref 9)), (62, (4, 106, 2, .ref 9)), (66, (4, 119, 1, .ref 9)), (70, (4, 107, 2, .ref 9)), (73, (4, 110, 3, .ref 9)), (76, (9, 123, 1, .null)), (79, (6, 0, 0, .long 1103515245)), (81, (6, 0, 0, .long 12345)), (83, (6, 0, 0, .long 2147483648)), (85, (6, 0, 0, .int 65536)), (86, (4, 111, 2, .ref 9)), (89, (4, 127, 2, .ref 9)), (92, (4, 125, 1, .ref 9)), (95, (4, 131, 1, .ref 9)), (98, (4, 128, 1, .ref 9)), (101, (4, 126, 2, .ref 9)), (104, (4, 129, 2, .ref 9)), (107, (4, 132, 1, .ref 9)), (111, (4, 133, 1, .ref 9)), (114, (4, 130, 1, .ref 9)), (117, (4, 137, 3, .ref 9)), (121, (4, 112, 3, .ref 9)), (124, (4, 139, 2, .ref 9)), (127, (4, 136, 2, .ref 9)), (130, (4, 138, 2, .ref 9)), (133, (4, 141, 2, .ref 9)), (136, (4, 142, 3, .ref 9)), (139, (4, 140, 3, .ref 9)), (142, (4, 143, 3, .ref 9)), (145, (4, 145, 3, .ref 9)), (148, (4, 147, 2, .ref 9)), (152, (4, 146, 2, .ref 9)), (155, (4, 148, 1, .ref 9)), (158, (4, 149, 1, .ref 9)), (161, (0, 9, 15, .null)), (164, (0, 9, 12, .null)), (167, (0, 9, 11, .null)), (170, (4, 153, 3, .ref 9)), (174, (0, 9, 13, .null)), (177, (4, 155, 2, .ref 9)), (180, (4, 154, 3, .ref 9)), (183, (4, 156, 2, .ref 9)), (186, (4, 157, 1, .ref 9)), (189, (4, 159, 2, .ref 9)), (192, (4, 160, 2, .ref 9)), (195, (4, 163, 2, .ref 9)), (198, (4, 105, 2, .ref 9)), (201, (4, 164, 3, .ref 9)), (204, (4, 166, 3, .ref 9)), (207, (4, 168, 3, .ref 9)), (210, (4, 171, 2, .ref 9)), (213, (4, 172, 1, .ref 9)), (216, (4, 173, 2, .ref 9)), (219, (4, 177, 2, .ref 9)), (222, (4, 178, 2, .ref 9)), (225, (9, 180, 1, .null)), (228, (4, 181, 3, .ref 9)), (231, (4, 182, 2, .ref 9)), (234, (0, 9, 9, .null)), (237, (0, 9, 10, .null)), (240, (4, 186, 1, .ref 9)), (243, (4, 184, 2, .ref 9)), (246, (4, 185, 2, .ref 9)), (249, (4, 187, 1, .ref 9)), (252, (4, 114, 1, .ref 9)), (255, (4, 115, 1, .ref 9)), (258, (4, 189, 2, .ref 9)), (261, (4, 191, 1, .ref 9)), (265, (6, 0, 0, .long 31)), (267, (2, 9, 17, .null)), (271, (4, 193, 2, .ref 9)), (275, (6, 0, 0, .long 2297)), (277, (4, 194, 2, .ref 9)), (280, (4, 195, 2, .ref 9)), (283, (5, 4, 0, .null))]
def pl_X11 (i : Nat) : Ent := plk plL_X11 i
def plL_X2 : List (Nat × Ent) := [(38, (8, 29, 0, .null)), (42, (8, 29, 1, .null)), (45, (13, 5, 0, .null)), (51, (13, 6, 0, .null))]
def pl_X2 (i : Nat) : Ent := plk plL_X2 i
def plL_X3 : List (Nat × Ent) := [(9, (3, 1, 0, .ref 1)), (15, (0, 1, 1, .null)), (19, (11, 401, 0, .null)), (23, (4, 7, 3, .ref 29)), (29, (4, 8, 2, .ref 1)), (33, (4, 6, 1, .ref 29)), (37, (4, 9, 1, .ref 1))]
def pl_X3 (i : Nat) : Ent := plk plL_X3 i
def plL_X4 : List (Nat × Ent) := [(9, (0, 2, 3, .null)), (15, (0, 2, 7, .null)), (18, (0, 2, 0, .null)), (21, (1, 2, 1, .null)), (25, (0, 2, 2, .null)), (28, (0, 2, 4, .null)), (31, (0, 2, 5, .null)), (34, (0, 2, 6, .null))]
def pl_X4 (i : Nat) : Ent := plk plL_X4 i
def plL_X5 : List (Nat × Ent) := [(9, (3, 3, 0, .ref 1)), (15, (3, 3, 1, .ref 2)), (18, (0, 7, 5, .null)), (24, (4, 51, 2, .ref 7)), (28, (10, 93, 2, .null)), (32, (4, 16, 4, .ref 3)), (36, (4, 47, 3, .ref 7)), (39, (0, 3, 2, .null)), (42, (0, 3, 3, .null)), (45, (9, 18, 2, .null)), (49, (9, 20, 5, .null)), (53, (4, 52, 2, .ref 7)), (56, (9, 19, 3, .null)), (59, (4, 53, 3, .ref 7)), (63, (9, 21, 5, .null))]
def pl_X5 (i : Nat) : Ent := plk plL_X5 i
def plL_X6 : List (Nat × Ent) := [(9, (3, 4, 0, .ref 1)), (15, (3, 4, 1, .ref 2)), (18, (3, 4, 2, .ref 3)), (21, (0, 7, 5, .null)), (27, (4, 23, 3, .ref 4)), (31, (1, 7, 9, .null)), (35, (4, 25, 2, .ref 4)), (39, (3, 7, 1, .ref 2)), (43, (0, 2, 4, .null)), (48, (0, 7, 6, .null)), (51, (3, 7, 2, .ref 3)), (55, (3, 5, 4, .ref 1)), (60, (4, 24, 3, .ref 4)), (64, (0, 7, 14, .null)), (67, (4, 27, 1, .ref 5)), (71, (3, 7, 3, .ref 4)), (74, (5, 1, 0, .null))]
def pl_X6 (i : Nat) : Ent := plk plL_X6 i
def plL_X7 : List (Nat × Ent) := [(9, (0, 5, 0, .null)), (15, (3, 5, 4, .ref 1)), (19, (0, 5, 1, .null)), (22, (0, 5, 2, .null)), (25, (0, 5, 3, .null)), (28, (5, 3, 0, .null))]
def pl_X7 (i : Nat) : Ent := plk plL_X7 i
def plL_X8 : List (Nat × Ent) := [(11, (3, 6, 0, .ref 1)), (18, (0, 6, 1, .null)), (22, (0, 6, 2, .null)), (25, (4, 31, 2, .ref 7))]
def pl_X8 (i : Nat) : Ent := plk plL_X8 i
def plL_X9 : List (Nat × Ent) := [(11, (3, 7, 0, .ref 1)), (19, (3, 7, 1, .ref 2)), (25, (3, 7, 2, .ref 3)), (29, (3, 7, 3, .ref 4)), (33, (0, 7, 10, .null)), (43, (5, 3, 0, .null)), (49, (4, 0, 2, .ref 0)), (53, (4, 13, 2, .ref 2)), (56, (4, 26, 2, .ref 5)), (59, (0, 7, 4, .null)), (62, (0, 7, 5, .null)), (65, (0, 7, 6, .null)), (68, (0, 7, 7, .null)), (71, (0, 7, 8, .null)), (74, (1, 7, 9, .null)), (78, (0, 7, 11, .null)), (81, (0, 7, 12, .null)), (84, (0, 7, 13, .null)), (87, (0, 7, 14, .null)), (90, (0, 0, 0, .null)), (93, (1, 2, 1, .null)), (96, (0, 5, 0, .null)), (99, (0, 2, 3, .null)), (102, (0, 2, 6, .null)), (105, (0, 2, 5, .null)), (108, (0, 2, 4, .null)), (111, (0, 5, 1, .null)), (114, (4, 44, 1, .ref 7)), (117, (4, 45, 2, .ref 7)), (121, (4, 46, 2, .ref 7)), (124, (6, 0, 0, .long 1103515245)), (126, (6, 0, 0, .long 12345)), (128, (6, 0, 0, .long 2147483648)), (130, (6, 0, 0, .int 65536)), (131, (4, 35, 2, .ref 7)), (134, (4, 36, 2, .ref 7)), (138, (4, 2, 2, .ref 0)), (142, (4, 3, 3, .ref 0)), (146, (4, 34, 2, .ref 7)), (149, (0, 2, 7, .null)), (152, (4, 1, 2, .ref 0)), (156, (4, 49, 2, .ref 7)), (159, (0, 2, 2, .null)), (162, (10, 93, 2, .null)), (166, (4, 48, 2, .ref 7)), (169, (4, 47, 3, .ref 7)), (172, (0, 0, 1, .null)), (175, (5, 0, 0, .null)), (180, (4, 52, 2, .ref 7)), (183, (4, 53, 3, .ref 7)), (186, (4, 55, 3, .ref 7)), (190, (4, 56, 2, .ref 7)), (194, (4, 4, 3, .ref 0)), (198, (0, 2, 0, .null)), (201, (3, 5, 4, .ref 1)), (204, (0, 5, 3, .null)), (207, (4, 22, 2, .ref 4)), (213, (4, 58, 2, .ref 7)), (217, (4, 59, 1, .ref 7)), (220, (3, 4, 1, .ref 2)), (223, (3, 4, 0, .ref 1)), (226, (0, 5, 2, .null)), (229, (4, 5, 1, .ref 0)), (232, (4, 28, 1, .ref 5))]
def pl_X9 (i : Nat) : Ent := plk plL_X9 i
def cd_X1_copyFrom : Chunks := [cd_X1_copyFrom_0, cd_X1_copyFrom_1]
def mi_X1_copyFrom : MI := (cd_X1_copyFrom, pl_X1, 0, 2, [])
def cd_X1_isQuietAt : Chunks := [cd_X1_isQuietAt_0]
def mi_X1_isQuietAt : MI := (cd_X1_isQuietAt, pl_X1, 2, 2, [])
def cd_X1_distanceTo : Chunks := [cd_X1_distanceTo_0]
def mi_X1_distanceTo : MI := (cd_X1_distanceTo, pl_X1, 1, 2, [])
def cd_X1_tunesPlayed : Chunks := [cd_X1_tunesPlayed_0, cd_X1_tunesPlayed_1]
def mi_X1_tunesPlayed : MI := (cd_X1_tunesPlayed, pl_X1, 1, 5, [])
def cd_X1_noteTune : Chunks := [cd_X1_noteTune_0]
def mi_X1_noteTune : MI := (cd_X1_noteTune, pl_X1, 0, 3, [])
def cd_X1_forgetDay : Chunks := [cd_X1_forgetDay_0]
def mi_X1_forgetDay : MI := (cd_X1_forgetDay, pl_X1, 0, 2, [])
def cd_X2_signCount : Chunks := [cd_X2_signCount_0]
def mi_X2_signCount : MI := (cd_X2_signCount, pl_X2, 1, 1, [])
def cd_X2_fits : Chunks := [cd_X2_fits_0, cd_X2_fits_1]
def mi_X2_fits : MI := (cd_X2_fits, pl_X2, 2, 3, [])
def cd_X3_kindAt : Chunks := [cd_X3_kindAt_0, cd_X3_kindAt_1]
def mi_X3_kindAt : MI := (cd_X3_kindAt, pl_X3, 5, 3, [])
def cd_X3_errorIndex : Chunks := [cd_X3_errorIndex_0, cd_X3_errorIndex_1, cd_X3_errorIndex_2, cd_X3_errorIndex_3]
def mi_X3_errorIndex : MI := (cd_X3_errorIndex, pl_X3, 1, 5, [])
def cd_X3_isWholeRow : Chunks := [cd_X3_isWholeRow_0, cd_X3_isWholeRow_1]
def mi_X3_isWholeRow : MI := (cd_X3_isWholeRow, pl_X3, 2, 3, [])
def cd_X3_organAt : Chunks := [cd_X3_organAt_0]
def mi_X3_organAt : MI := (cd_X3_organAt, pl_X3, 1, 2, [])
def cd_X3_tuneAt : Chunks := [cd_X3_tuneAt_0]
def mi_X3_tuneAt : MI := (cd_X3_tuneAt, pl_X3, 1, 2, [])
def cd_X4_copyFrom : Chunks := [cd_X4_copyFrom_0, cd_X4_copyFrom_1, cd_X4_copyFrom_2]
def mi_X4_copyFrom : MI := (cd_X4_copyFrom, pl_X4, 0, 2, [])
def cd_X5_lookAt : Chunks := [cd_X5_lookAt_0]
def mi_X5_lookAt : MI := (cd_X5_lookAt, pl_X5, 0, 3, [])
def cd_X5_leastHindering : Chunks := [cd_X5_leastHindering_0, cd_X5_leastHindering_1]
def mi_X5_leastHindering : MI := (cd_X5_leastHindering, pl_X5, 1, 7, [])
def cd_X5_hinderedPairs : Chunks := [cd_X5_hinderedPairs_0, cd_X5_hinderedPairs_1]
def mi_X5_hinderedPairs : MI := (cd_X5_hinderedPairs, pl_X5, 1, 6, [])
def cd_X5_findMost : Chunks := [cd_X5_findMost_0, cd_X5_findMost_1, cd_X5_findMost_2]
def mi_X5_findMost : MI := (cd_X5_findMost, pl_X5, 0, 4, [])
def cd_X5_takingsOf : Chunks := [cd_X5_takingsOf_0, cd_X5_takingsOf_1]
def mi_X5_takingsOf : MI := (cd_X5_takingsOf, pl_X5, 1, 5, [])
def cd_X5_nearAhead : Chunks := [cd_X5_nearAhead_0, cd_X5_nearAhead_1]
def mi_X5_nearAhead : MI := (cd_X5_nearAhead, pl_X5, 1, 5, [])
def cd_X5_findTunes : Chunks := [cd_X5_findTunes_0, cd_X5_findTunes_1, cd_X5_findTunes_2, cd_X5_findTunes_3]
def mi_X5_findTunes : MI := (cd_X5_findTunes, pl_X5, 2, 6, [])
def cd_X5_isFree : Chunks := [cd_X5_isFree_0, cd_X5_isFree_1]
def mi_X5_isFree : MI := (cd_X5_isFree, pl_X5, 2, 6, [])
def cd_X6_reckon : Chunks := [cd_X6_reckon_0, cd_X6_reckon_1]
def mi_X6_reckon : MI := (cd_X6_reckon, pl_X6, 0, 3, [])
def cd_X6_sharePot : Chunks := [cd_X6_sharePot_0, cd_X6_sharePot_1, cd_X6_sharePot_2, cd_X6_sharePot_3, cd_X6_sharePot_4]
def mi_X6_sharePot : MI := (cd_X6_sharePot, pl_X6, 0, 8, [])
def cd_X6_giveUnits : Chunks := [cd_X6_giveUnits_0, cd_X6_giveUnits_1, cd_X6_giveUnits_2]
def mi_X6_giveUnits : MI := (cd_X6_giveUnits, pl_X6, 0, 6, [])
def cd_X6_giveAllowances : Chunks := [cd_X6_giveAllowances_0, cd_X6_giveAllowances_1]
def mi_X6_giveAllowances : MI := (cd_X6_giveAllowances, pl_X6, 0, 4, [])
def cd_X7_copyFrom : Chunks := [cd_X7_copyFrom_0, cd_X7_copyFrom_1]
def mi_X7_copyFrom : MI := (cd_X7_copyFrom, pl_X7, 0, 2, [])
def cd_X7_hoursOfDay : Chunks := [cd_X7_hoursOfDay_0]
def mi_X7_hoursOfDay : MI := (cd_X7_hoursOfDay, pl_X7, 1, 3, [])
def cd_X7_forgetDay : Chunks := [cd_X7_forgetDay_0]
def mi_X7_forgetDay : MI := (cd_X7_forgetDay, pl_X7, 0, 2, [])
def cd_X8_save : Chunks := [cd_X8_save_0, cd_X8_save_1]
def mi_X8_save : MI := (cd_X8_save, pl_X8, 0, 2, [])
def cd_X8_restore : Chunks := [cd_X8_restore_0, cd_X8_restore_1]
def mi_X8_restore : MI := (cd_X8_restore, pl_X8, 0, 2, [])
def cd_X9_copyFrom : Chunks := [cd_X9_copyFrom_0, cd_X9_copyFrom_1, cd_X9_copyFrom_2, cd_X9_copyFrom_3, cd_X9_copyFrom_4, cd_X9_copyFrom_5]
def mi_X9_copyFrom : MI := (cd_X9_copyFrom, pl_X9, 0, 3, [])
def cd_X9_hasCornerAt : Chunks := [cd_X9_hasCornerAt_0, cd_X9_hasCornerAt_1]
def mi_X9_hasCornerAt : MI := (cd_X9_hasCornerAt, pl_X9, 2, 3, [])
def cd_X9_permits : Chunks := [cd_X9_permits_0, cd_X9_permits_1]
def mi_X9_permits : MI := (cd_X9_permits, pl_X9, 1, 3, [])
def cd_X9_crewSize : Chunks := [cd_X9_crewSize_0, cd_X9_crewSize_1]
def mi_X9_crewSize : MI := (cd_X9_crewSize, pl_X9, 1, 4, [])
def cd_X9_organAt : Chunks := [cd_X9_organAt_0, cd_X9_organAt_1]
def mi_X9_organAt : MI := (cd_X9_organAt, pl_X9, 1, 3, [])
def cd_X9_cornerOf : Chunks := [cd_X9_cornerOf_0, cd_X9_cornerOf_1]
def mi_X9_cornerOf : MI := (cd_X9_cornerOf, pl_X9, 5, 3, [])
def cd_X9_takingsSoFar : Chunks := [cd_X9_takingsSoFar_0]
def mi_X9_takingsSoFar : MI := (cd_X9_takingsSoFar, pl_X9, 1, 3, [])
def cd_X9_ownersSoFar : Chunks := [cd_X9_ownersSoFar_0]
def mi_X9_ownersSoFar : MI := (cd_X9_ownersSoFar, pl_X9, 1, 3, [])
def cd_X9_inAllPots : Chunks := [cd_X9_inAllPots_0]
def mi_X9_inAllPots : MI := (cd_X9_inAllPots, pl_X9, 1, 3, [])
def cd_X9_playersSoFar : Chunks := [cd_X9_playersSoFar_0]
def mi_X9_playersSoFar : MI := (cd_X9_playersSoFar, pl_X9, 1, 3, [])
def cd_X9_weatherMayChange : Chunks := [cd_X9_weatherMayChange_0]
def mi_X9_weatherMayChange : MI := (cd_X9_weatherMayChange, pl_X9, 2, 1, [])
def cd_X9_lotsMayBeDrawn : Chunks := [cd_X9_lotsMayBeDrawn_0]
def mi_X9_lotsMayBeDrawn : MI := (cd_X9_lotsMayBeDrawn, pl_X9, 2, 1, [])
def cd_X9_drawLots : Chunks := [cd_X9_drawLots_0, cd_X9_drawLots_1, cd_X9_drawLots_2]
def mi_X9_drawLots : MI := (cd_X9_drawLots, pl_X9, 1, 4, [])
def cd_X9_takeCornersBack : Chunks := [cd_X9_takeCornersBack_0]
def mi_X9_takeCornersBack : MI := (cd_X9_takeCornersBack, pl_X9, 0, 2, [])
def cd_X9_draw : Chunks := [cd_X9_draw_0, cd_X9_draw_1]
def mi_X9_draw : MI := (cd_X9_draw, pl_X9, 1, 2, [])
def cd_X9_freeCorner : Chunks := [cd_X9_freeCorner_0, cd_X9_freeCorner_1]
def mi_X9_freeCorner : MI := (cd_X9_freeCorner, pl_X9, 1, 4, [])
def cd_X9_areNear : Chunks := [cd_X9_areNear_0, cd_X9_areNear_1]
def mi_X9_areNear : MI := (cd_X9_areNear, pl_X9, 2, 5, [])
def cd_X9_tunesHeardAt : Chunks := [cd_X9_tunesHeardAt_0, cd_X9_tunesHeardAt_1, cd_X9_tunesHeardAt_2]
def mi_X9_tunesHeardAt : MI := (cd_X9_tunesHeardAt, pl_X9, 1, 5, [])
def cd_X9_reasonAgainstAll : Chunks := [cd_X9_reasonAgainstAll_0, cd_X9_reasonAgainstAll_1]
def mi_X9_reasonAgainstAll : MI := (cd_X9_reasonAgainstAll, pl_X9, 1, 3, [])
def cd_X9_reasonAgainst : Chunks := [cd_X9_reasonAgainst_0, cd_X9_reasonAgainst_1, cd_X9_reasonAgainst_2]
def mi_X9_reasonAgainst : MI := (cd_X9_reasonAgainst, pl_X9, 1, 6, [])
def cd_X9_playableTunes : Chunks := [cd_X9_playableTunes_0, cd_X9_playableTunes_1]
def mi_X9_playableTunes : MI := (cd_X9_playableTunes, pl_X9, 1, 3, [])
def cd_X9_playedNear : Chunks := [cd_X9_playedNear_0, cd_X9_playedNear_1]
def mi_X9_playedNear : MI := (cd_X9_playedNear, pl_X9, 1, 4, [])
def cd_X9_takingsFor : Chunks := [cd_X9_takingsFor_0, cd_X9_takingsFor_1]
def mi_X9_takingsFor : MI := (cd_X9_takingsFor, pl_X9, 1, 5, [])
def cd_X9_playTune : Chunks := [cd_X9_playTune_0, cd_X9_playTune_1, cd_X9_playTune_2]
def mi_X9_playTune : MI := (cd_X9_playTune, pl_X9, 1, 5, [])
def cd_X9_divideTakings : Chunks := [cd_X9_divideTakings_0, cd_X9_divideTakings_1, cd_X9_divideTakings_2, cd_X9_divideTakings_3]
def mi_X9_divideTakings : MI := (cd_X9_divideTakings, pl_X9, 0, 7, [])
def cd_X9_addHourOfCrew : Chunks := [cd_X9_addHourOfCrew_0, cd_X9_addHourOfCrew_1]
def mi_X9_addHourOfCrew : MI := (cd_X9_addHourOfCrew, pl_X9, 0, 3, [])
def cd_X9_endHour : Chunks := [cd_X9_endHour_0, cd_X9_endHour_1]
def mi_X9_endHour : MI := (cd_X9_endHour, pl_X9, 0, 3, [])
def cd_X9_payOut : Chunks := [cd_X9_payOut_0, cd_X9_payOut_1, cd_X9_payOut_2, cd_X9_payOut_3]
def mi_X9_payOut : MI := (cd_X9_payOut, pl_X9, 0, 4, [])
def cd_X9_beginDay : Chunks := [cd_X9_beginDay_0, cd_X9_beginDay_1, cd_X9_beginDay_2]
def mi_X9_beginDay : MI := (cd_X9_beginDay, pl_X9, 0, 2, [])
def cd_X10_addCorner : Chunks := [cd_X10_addCorner_0, cd_X10_addCorner_1, cd_X10_addCorner_2, cd_X10_addCorner_3, cd_X10_addCorner_4]
def mi_X10_addCorner : MI := (cd_X10_addCorner, pl_X10, 1, 6, [])
def cd_X10_addOrgan : Chunks := [cd_X10_addOrgan_0, cd_X10_addOrgan_1, cd_X10_addOrgan_2]
def mi_X10_addOrgan : MI := (cd_X10_addOrgan, pl_X10, 1, 2, [])
def cd_X10_addPlayer : Chunks := [cd_X10_addPlayer_0, cd_X10_addPlayer_1]
def mi_X10_addPlayer : MI := (cd_X10_addPlayer, pl_X10, 1, 1, [])
def cd_X10_permit : Chunks := [cd_X10_permit_0, cd_X10_permit_1]
def mi_X10_permit : MI := (cd_X10_permit, pl_X10, 1, 3, [])
def cd_X10_barrel : Chunks := [cd_X10_barrel_0, cd_X10_barrel_1]
def mi_X10_barrel : MI := (cd_X10_barrel, pl_X10, 1, 4, [])
def cd_X10_assign : Chunks := [cd_X10_assign_0, cd_X10_assign_1, cd_X10_assign_2]
def mi_X10_assign : MI := (cd_X10_assign, pl_X10, 1, 4, [])
def cd_X10_set : Chunks := [cd_X10_set_0, cd_X10_set_1]
def mi_X10_set : MI := (cd_X10_set, pl_X10, 1, 4, [])
def cd_X10_lots : Chunks := [cd_X10_lots_0]
def mi_X10_lots : MI := (cd_X10_lots, pl_X10, 1, 1, [])
def cd_X10_weather : Chunks := [cd_X10_weather_0, cd_X10_weather_1]
def mi_X10_weather : MI := (cd_X10_weather, pl_X10, 1, 3, [])
def cd_X10_play : Chunks := [cd_X10_play_0, cd_X10_play_1]
def mi_X10_play : MI := (cd_X10_play, pl_X10, 1, 3, [])
def cd_X10_next : Chunks := [cd_X10_next_0]
def mi_X10_next : MI := (cd_X10_next, pl_X10, 1, 1, [])
def cd_X10_append : Chunks := [cd_X10_append_0, cd_X10_append_1, cd_X10_append_2]
def mi_X10_append : MI := (cd_X10_append, pl_X10, 1, 2, [])
def cd_X10_clearBuffer : Chunks := [cd_X10_clearBuffer_0]
def mi_X10_clearBuffer : MI := (cd_X10_clearBuffer, pl_X10, 1, 2, [])
def cd_X10_firstError : Chunks := [cd_X10_firstError_0]
def mi_X10_firstError : MI := (cd_X10_firstError, pl_X10, 1, 1, [])
def cd_X10_run : Chunks := [cd_X10_run_0, cd_X10_run_1, cd_X10_run_2]
def mi_X10_run : MI := (cd_X10_run, pl_X10, 1, 4, [])
def cd_X10_undo : Chunks := [cd_X10_undo_0, cd_X10_undo_1]
def mi_X10_undo : MI := (cd_X10_undo, pl_X10, 1, 1, [])
def cd_X10_corner : Chunks := [cd_X10_corner_0, cd_X10_corner_1, cd_X10_corner_2, cd_X10_corner_3]
def mi_X10_corner : MI := (cd_X10_corner, pl_X10, 1, 4, [])
def cd_X10_organ : Chunks := [cd_X10_organ_0, cd_X10_organ_1, cd_X10_organ_2, cd_X10_organ_3]
def mi_X10_organ : MI := (cd_X10_organ, pl_X10, 1, 4, [])
def cd_X10_player : Chunks := [cd_X10_player_0, cd_X10_player_1, cd_X10_player_2]
def mi_X10_player : MI := (cd_X10_player, pl_X10, 1, 4, [])
def cd_X10_hours : Chunks := [cd_X10_hours_0, cd_X10_hours_1]
def mi_X10_hours : MI := (cd_X10_hours, pl_X10, 1, 3, [])
def cd_X10_count : Chunks := [cd_X10_count_0, cd_X10_count_1, cd_X10_count_2, cd_X10_count_3, cd_X10_count_4, cd_X10_count_5, cd_X10_count_6]
def mi_X10_count : MI := (cd_X10_count, pl_X10, 1, 2, [])
def cd_X10_setting : Chunks := [cd_X10_setting_0]
def mi_X10_setting : MI := (cd_X10_setting, pl_X10, 1, 2, [])
def cd_X10_whyNot : Chunks := [cd_X10_whyNot_0]
def mi_X10_whyNot : MI := (cd_X10_whyNot, pl_X10, 1, 3, [])
def cd_X10_ifPlayed : Chunks := [cd_X10_ifPlayed_0, cd_X10_ifPlayed_1]
def mi_X10_ifPlayed : MI := (cd_X10_ifPlayed, pl_X10, 1, 2, [])
def cd_X10_kindestTune : Chunks := [cd_X10_kindestTune_0, cd_X10_kindestTune_1]
def mi_X10_kindestTune : MI := (cd_X10_kindestTune, pl_X10, 1, 2, [])
def cd_X10_most : Chunks := [cd_X10_most_0, cd_X10_most_1]
def mi_X10_most : MI := (cd_X10_most, pl_X10, 1, 2, [])
def cd_X10_ifEnded : Chunks := [cd_X10_ifEnded_0, cd_X10_ifEnded_1]
def mi_X10_ifEnded : MI := (cd_X10_ifEnded, pl_X10, 1, 2, [])
def cd_X10_playersShare : Chunks := [cd_X10_playersShare_0]
def mi_X10_playersShare : MI := (cd_X10_playersShare, pl_X10, 4, 2, [])
def cd_X10_digest : Chunks := [cd_X10_digest_0, cd_X10_digest_1, cd_X10_digest_2, cd_X10_digest_3, cd_X10_digest_4, cd_X10_digest_5]
def mi_X10_digest : MI := (cd_X10_digest, pl_X10, 3, 4, [])
def cd_X10_requireIndex : Chunks := [cd_X10_requireIndex_0]
def mi_X10_requireIndex : MI := (cd_X10_requireIndex, pl_X10, 0, 2, [])
def cd_X10_requireInRange : Chunks := [cd_X10_requireInRange_0]
def mi_X10_requireInRange : MI := (cd_X10_requireInRange, pl_X10, 0, 3, [])
def cd_X10_requireState : Chunks := [cd_X10_requireState_0]
def mi_X10_requireState : MI := (cd_X10_requireState, pl_X10, 0, 1, [])
def cd_X10_asNumber : Chunks := [cd_X10_asNumber_0]
def mi_X10_asNumber : MI := (cd_X10_asNumber, pl_X10, 1, 1, [])
def cd_X10_holds : Chunks := [cd_X10_holds_0]
def mi_X10_holds : MI := (cd_X10_holds, pl_X10, 2, 2, [])
def cd_X10_obey : Chunks := [cd_X10_obey_0, cd_X10_obey_1, cd_X10_obey_2, cd_X10_obey_3, cd_X10_obey_4]
def mi_X10_obey : MI := (cd_X10_obey, pl_X10, 2, 3, [])
def cd_X10_obeyPlay : Chunks := [cd_X10_obeyPlay_0, cd_X10_obeyPlay_1]
def mi_X10_obeyPlay : MI := (cd_X10_obeyPlay, pl_X10, 2, 3, [])
def cd_X10_mixed : Chunks := [cd_X10_mixed_0]
def mi_X10_mixed : MI := (cd_X10_mixed, pl_X10, 3, 4, [])
def cd_X10_withCorner : Chunks := [cd_X10_withCorner_0, cd_X10_withCorner_1]
def mi_X10_withCorner : MI := (cd_X10_withCorner, pl_X10, 3, 7, [])
def cd_X10_withOrgan : Chunks := [cd_X10_withOrgan_0, cd_X10_withOrgan_1, cd_X10_withOrgan_2]
def mi_X10_withOrgan : MI := (cd_X10_withOrgan, pl_X10, 3, 7, [])
def cd_X10_withPlayer : Chunks := [cd_X10_withPlayer_0, cd_X10_withPlayer_1, cd_X10_withPlayer_2]
def mi_X10_withPlayer : MI := (cd_X10_withPlayer, pl_X10, 3, 7, [])
def cd_X10_withText : Chunks := [cd_X10_withText_0, cd_X10_withText_1]
def mi_X10_withText : MI := (cd_X10_withText, pl_X10, 3, 6, [])
def cd_X10_bitsOfShare : Chunks := [cd_X10_bitsOfShare_0, cd_X10_bitsOfShare_1, cd_X10_bitsOfShare_2]
def mi_X10_bitsOfShare : MI := (cd_X10_bitsOfShare, pl_X10, 3, 8, [])
def cd_X11_thrown : Chunks := [cd_X11_thrown_0]
def mi_X11_thrown : MI := (cd_X11_thrown, pl_X11, 1, 1, [])
def cd_X11_fails : Chunks := [cd_X11_fails_0]
def mi_X11_fails : MI := (cd_X11_fails, pl_X11, 1, 2, [])
def cd_X11_within : Chunks := [cd_X11_within_0]
def mi_X11_within : MI := (cd_X11_within, pl_X11, 2, 3, [])
def cd_X11_isCorner : Chunks := [cd_X11_isCorner_0]
def mi_X11_isCorner : MI := (cd_X11_isCorner, pl_X11, 2, 2, [])
def cd_X11_isOrgan : Chunks := [cd_X11_isOrgan_0]
def mi_X11_isOrgan : MI := (cd_X11_isOrgan, pl_X11, 2, 2, [])
def cd_X11_isPlayer : Chunks := [cd_X11_isPlayer_0]
def mi_X11_isPlayer : MI := (cd_X11_isPlayer, pl_X11, 2, 2, [])
def cd_X11_corner0 : Chunks := [cd_X11_corner0_0]
def mi_X11_corner0 : MI := (cd_X11_corner0, pl_X11, 1, 3, [])
def cd_X11_organ0 : Chunks := [cd_X11_organ0_0]
def mi_X11_organ0 : MI := (cd_X11_organ0, pl_X11, 1, 3, [])
def cd_X11_player0 : Chunks := [cd_X11_player0_0]
def mi_X11_player0 : MI := (cd_X11_player0, pl_X11, 1, 3, [])
def cd_X11_cornerOf : Chunks := [cd_X11_cornerOf_0]
def mi_X11_cornerOf : MI := (cd_X11_cornerOf, pl_X11, 1, 2, [])
def cd_X11_tuneIn : Chunks := [cd_X11_tuneIn_0]
def mi_X11_tuneIn : MI := (cd_X11_tuneIn, pl_X11, 1, 3, [])
def cd_X11_save : Chunks := [cd_X11_save_0, cd_X11_save_1, cd_X11_save_2, cd_X11_save_3]
def mi_X11_save : MI := (cd_X11_save, pl_X11, 0, 2, [])
def cd_X11_keep : Chunks := [cd_X11_keep_0]
def mi_X11_keep : MI := (cd_X11_keep, pl_X11, 0, 2, [])
def cd_X11_bring : Chunks := [cd_X11_bring_0]
def mi_X11_bring : MI := (cd_X11_bring, pl_X11, 0, 2, [])
def cd_X11_addCorner : Chunks := [cd_X11_addCorner_0, cd_X11_addCorner_1, cd_X11_addCorner_2, cd_X11_addCorner_3, cd_X11_addCorner_4, cd_X11_addCorner_5, cd_X11_addCorner_6]
def mi_X11_addCorner : MI := (cd_X11_addCorner, pl_X11, 1, 7, [])
def cd_X11_addOrgan : Chunks := [cd_X11_addOrgan_0, cd_X11_addOrgan_1, cd_X11_addOrgan_2]
def mi_X11_addOrgan : MI := (cd_X11_addOrgan, pl_X11, 1, 2, [])
def cd_X11_addPlayer : Chunks := [cd_X11_addPlayer_0, cd_X11_addPlayer_1]
def mi_X11_addPlayer : MI := (cd_X11_addPlayer, pl_X11, 1, 1, [])
def cd_X11_permits : Chunks := [cd_X11_permits_0]
def mi_X11_permits : MI := (cd_X11_permits, pl_X11, 1, 3, [])
def cd_X11_permit : Chunks := [cd_X11_permit_0, cd_X11_permit_1]
def mi_X11_permit : MI := (cd_X11_permit, pl_X11, 1, 3, [])
def cd_X11_barrel : Chunks := [cd_X11_barrel_0, cd_X11_barrel_1]
def mi_X11_barrel : MI := (cd_X11_barrel, pl_X11, 1, 4, [])
def cd_X11_assign : Chunks := [cd_X11_assign_0, cd_X11_assign_1]
def mi_X11_assign : MI := (cd_X11_assign, pl_X11, 1, 4, [])
def cd_X11_mostOf : Chunks := [cd_X11_mostOf_0]
def mi_X11_mostOf : MI := (cd_X11_mostOf, pl_X11, 1, 1, [])
def cd_X11_set : Chunks := [cd_X11_set_0, cd_X11_set_1]
def mi_X11_set : MI := (cd_X11_set, pl_X11, 1, 4, [])
def cd_X11_playedToday : Chunks := [cd_X11_playedToday_0, cd_X11_playedToday_1]
def mi_X11_playedToday : MI := (cd_X11_playedToday, pl_X11, 1, 3, [])
def cd_X11_draw : Chunks := [cd_X11_draw_0, cd_X11_draw_1]
def mi_X11_draw : MI := (cd_X11_draw, pl_X11, 1, 2, [])
def cd_X11_whoHas : Chunks := [cd_X11_whoHas_0, cd_X11_whoHas_1]
def mi_X11_whoHas : MI := (cd_X11_whoHas, pl_X11, 1, 4, [])
def cd_X11_freeCorners : Chunks := [cd_X11_freeCorners_0, cd_X11_freeCorners_1]
def mi_X11_freeCorners : MI := (cd_X11_freeCorners, pl_X11, 1, 3, [])
def cd_X11_freeAt : Chunks := [cd_X11_freeAt_0, cd_X11_freeAt_1]
def mi_X11_freeAt : MI := (cd_X11_freeAt, pl_X11, 1, 4, [])
def cd_X11_withCorner : Chunks := [cd_X11_withCorner_0, cd_X11_withCorner_1]
def mi_X11_withCorner : MI := (cd_X11_withCorner, pl_X11, 1, 3, [])
def cd_X11_noCorners : Chunks := [cd_X11_noCorners_0, cd_X11_noCorners_1]
def mi_X11_noCorners : MI := (cd_X11_noCorners, pl_X11, 0, 2, [])
def cd_X11_mayDraw : Chunks := [cd_X11_mayDraw_0]
def mi_X11_mayDraw : MI := (cd_X11_mayDraw, pl_X11, 2, 1, [])
def cd_X11_drawLots : Chunks := [cd_X11_drawLots_0, cd_X11_drawLots_1, cd_X11_drawLots_2]
def mi_X11_drawLots : MI := (cd_X11_drawLots, pl_X11, 0, 3, [])
def cd_X11_lots : Chunks := [cd_X11_lots_0]
def mi_X11_lots : MI := (cd_X11_lots, pl_X11, 1, 1, [])
def cd_X11_weather : Chunks := [cd_X11_weather_0, cd_X11_weather_1]
def mi_X11_weather : MI := (cd_X11_weather, pl_X11, 1, 3, [])
def cd_X11_isQuiet : Chunks := [cd_X11_isQuiet_0, cd_X11_isQuiet_1]
def mi_X11_isQuiet : MI := (cd_X11_isQuiet, pl_X11, 2, 2, [])
def cd_X11_areNear : Chunks := [cd_X11_areNear_0, cd_X11_areNear_1]
def mi_X11_areNear : MI := (cd_X11_areNear, pl_X11, 2, 4, [])
def cd_X11_heardAt : Chunks := [cd_X11_heardAt_0, cd_X11_heardAt_1, cd_X11_heardAt_2, cd_X11_heardAt_3, cd_X11_heardAt_4]
def mi_X11_heardAt : MI := (cd_X11_heardAt, pl_X11, 1, 7, [])
def cd_X11_crewOf : Chunks := [cd_X11_crewOf_0, cd_X11_crewOf_1]
def mi_X11_crewOf : MI := (cd_X11_crewOf, pl_X11, 1, 4, [])
def cd_X11_reason : Chunks := [cd_X11_reason_0, cd_X11_reason_1, cd_X11_reason_2]
def mi_X11_reason : MI := (cd_X11_reason, pl_X11, 1, 4, [])
def cd_X11_othersNear : Chunks := [cd_X11_othersNear_0, cd_X11_othersNear_1, cd_X11_othersNear_2]
def mi_X11_othersNear : MI := (cd_X11_othersNear, pl_X11, 1, 5, [])
def cd_X11_takings : Chunks := [cd_X11_takings_0, cd_X11_takings_1]
def mi_X11_takings : MI := (cd_X11_takings, pl_X11, 1, 5, [])
def cd_X11_plays : Chunks := [cd_X11_plays_0, cd_X11_plays_1, cd_X11_plays_2, cd_X11_plays_3, cd_X11_plays_4, cd_X11_plays_5, cd_X11_plays_6, cd_X11_plays_7, cd_X11_plays_8]
def mi_X11_plays : MI := (cd_X11_plays, pl_X11, 1, 8, [])
def cd_X11_play : Chunks := [cd_X11_play_0, cd_X11_play_1]
def mi_X11_play : MI := (cd_X11_play, pl_X11, 1, 3, [])
def cd_X11_timeAt : Chunks := [cd_X11_timeAt_0]
def mi_X11_timeAt : MI := (cd_X11_timeAt, pl_X11, 1, 3, [])
def cd_X11_timeToday : Chunks := [cd_X11_timeToday_0]
def mi_X11_timeToday : MI := (cd_X11_timeToday, pl_X11, 1, 4, [])
def cd_X11_sharePot : Chunks := [cd_X11_sharePot_0, cd_X11_sharePot_1, cd_X11_sharePot_2, cd_X11_sharePot_3, cd_X11_sharePot_4, cd_X11_sharePot_5, cd_X11_sharePot_6, cd_X11_sharePot_7]
def mi_X11_sharePot : MI := (cd_X11_sharePot, pl_X11, 0, 7, [])
def cd_X11_endDay : Chunks := [cd_X11_endDay_0, cd_X11_endDay_1, cd_X11_endDay_2, cd_X11_endDay_3, cd_X11_endDay_4]
def mi_X11_endDay : MI := (cd_X11_endDay, pl_X11, 0, 3, [])
def cd_X11_goOn : Chunks := [cd_X11_goOn_0, cd_X11_goOn_1, cd_X11_goOn_2]
def mi_X11_goOn : MI := (cd_X11_goOn, pl_X11, 0, 2, [])
def cd_X11_next : Chunks := [cd_X11_next_0]
def mi_X11_next : MI := (cd_X11_next, pl_X11, 1, 1, [])
def cd_X11_append : Chunks := [cd_X11_append_0, cd_X11_append_1]
def mi_X11_append : MI := (cd_X11_append, pl_X11, 1, 2, [])
def cd_X11_clearBuffer : Chunks := [cd_X11_clearBuffer_0]
def mi_X11_clearBuffer : MI := (cd_X11_clearBuffer, pl_X11, 1, 2, [])
def cd_X11_goes : Chunks := [cd_X11_goes_0]
def mi_X11_goes : MI := (cd_X11_goes, pl_X11, 2, 3, [])
def cd_X11_ends : Chunks := [cd_X11_ends_0]
def mi_X11_ends : MI := (cd_X11_ends, pl_X11, 2, 3, [])
def cd_X11_begins : Chunks := [cd_X11_begins_0, cd_X11_begins_1, cd_X11_begins_2, cd_X11_begins_3]
def mi_X11_begins : MI := (cd_X11_begins, pl_X11, 2, 2, [])
def cd_X11_takes : Chunks := [cd_X11_takes_0, cd_X11_takes_1, cd_X11_takes_2, cd_X11_takes_3, cd_X11_takes_4, cd_X11_takes_5, cd_X11_takes_6, cd_X11_takes_7, cd_X11_takes_8, cd_X11_takes_9]
def mi_X11_takes : MI := (cd_X11_takes, pl_X11, 2, 2, [])
def cd_X11_read : Chunks := [cd_X11_read_0, cd_X11_read_1]
def mi_X11_read : MI := (cd_X11_read, pl_X11, 1, 2, [])
def cd_X11_firstError : Chunks := [cd_X11_firstError_0]
def mi_X11_firstError : MI := (cd_X11_firstError, pl_X11, 1, 1, [])
def cd_X11_mayDo : Chunks := [cd_X11_mayDo_0, cd_X11_mayDo_1, cd_X11_mayDo_2]
def mi_X11_mayDo : MI := (cd_X11_mayDo, pl_X11, 2, 3, [])
def cd_X11_does : Chunks := [cd_X11_does_0, cd_X11_does_1, cd_X11_does_2]
def mi_X11_does : MI := (cd_X11_does, pl_X11, 0, 2, [])
def cd_X11_run : Chunks := [cd_X11_run_0, cd_X11_run_1, cd_X11_run_2]
def mi_X11_run : MI := (cd_X11_run, pl_X11, 1, 2, [])
def cd_X11_undo : Chunks := [cd_X11_undo_0, cd_X11_undo_1, cd_X11_undo_2]
def mi_X11_undo : MI := (cd_X11_undo, pl_X11, 1, 2, [])
def cd_X11_playedAt : Chunks := [cd_X11_playedAt_0, cd_X11_playedAt_1]
def mi_X11_playedAt : MI := (cd_X11_playedAt, pl_X11, 1, 5, [])
def cd_X11_cornerNow : Chunks := [cd_X11_cornerNow_0, cd_X11_cornerNow_1, cd_X11_cornerNow_2]
def mi_X11_cornerNow : MI := (cd_X11_cornerNow, pl_X11, 1, 3, [])
def cd_X11_corner : Chunks := [cd_X11_corner_0, cd_X11_corner_1]
def mi_X11_corner : MI := (cd_X11_corner, pl_X11, 1, 3, [])
def cd_X11_organNow : Chunks := [cd_X11_organNow_0, cd_X11_organNow_1, cd_X11_organNow_2]
def mi_X11_organNow : MI := (cd_X11_organNow, pl_X11, 1, 3, [])
def cd_X11_organ : Chunks := [cd_X11_organ_0, cd_X11_organ_1]
def mi_X11_organ : MI := (cd_X11_organ, pl_X11, 1, 3, [])
def cd_X11_playerNow : Chunks := [cd_X11_playerNow_0, cd_X11_playerNow_1]
def mi_X11_playerNow : MI := (cd_X11_playerNow, pl_X11, 1, 3, [])
def cd_X11_player : Chunks := [cd_X11_player_0, cd_X11_player_1]
def mi_X11_player : MI := (cd_X11_player, pl_X11, 1, 3, [])
def cd_X11_hours : Chunks := [cd_X11_hours_0, cd_X11_hours_1]
def mi_X11_hours : MI := (cd_X11_hours, pl_X11, 1, 3, [])
def cd_X11_ofOrgans : Chunks := [cd_X11_ofOrgans_0]
def mi_X11_ofOrgans : MI := (cd_X11_ofOrgans, pl_X11, 1, 4, [])
def cd_X11_playersGot : Chunks := [cd_X11_playersGot_0]
def mi_X11_playersGot : MI := (cd_X11_playersGot, pl_X11, 1, 3, [])
def cd_X11_counted : Chunks := [cd_X11_counted_0, cd_X11_counted_1, cd_X11_counted_2, cd_X11_counted_3]
def mi_X11_counted : MI := (cd_X11_counted, pl_X11, 1, 2, [])
def cd_X11_count : Chunks := [cd_X11_count_0]
def mi_X11_count : MI := (cd_X11_count, pl_X11, 1, 2, [])
def cd_X11_setting : Chunks := [cd_X11_setting_0]
def mi_X11_setting : MI := (cd_X11_setting, pl_X11, 1, 2, [])
def cd_X11_whyNot : Chunks := [cd_X11_whyNot_0, cd_X11_whyNot_1]
def mi_X11_whyNot : MI := (cd_X11_whyNot, pl_X11, 1, 3, [])
def cd_X11_tunesOf : Chunks := [cd_X11_tunesOf_0, cd_X11_tunesOf_1]
def mi_X11_tunesOf : MI := (cd_X11_tunesOf, pl_X11, 1, 4, [])
def cd_X11_playedNow : Chunks := [cd_X11_playedNow_0]
def mi_X11_playedNow : MI := (cd_X11_playedNow, pl_X11, 1, 2, [])
def cd_X11_ifPlayed : Chunks := [cd_X11_ifPlayed_0]
def mi_X11_ifPlayed : MI := (cd_X11_ifPlayed, pl_X11, 1, 2, [])
def cd_X11_size : Chunks := [cd_X11_size_0]
def mi_X11_size : MI := (cd_X11_size, pl_X11, 1, 3, [])
def cd_X11_pairsBehind : Chunks := [cd_X11_pairsBehind_0, cd_X11_pairsBehind_1, cd_X11_pairsBehind_2]
def mi_X11_pairsBehind : MI := (cd_X11_pairsBehind, pl_X11, 1, 6, [])
def cd_X11_kindestNow : Chunks := [cd_X11_kindestNow_0, cd_X11_kindestNow_1, cd_X11_kindestNow_2]
def mi_X11_kindestNow : MI := (cd_X11_kindestNow, pl_X11, 1, 7, [])
def cd_X11_kindestTune : Chunks := [cd_X11_kindestTune_0]
def mi_X11_kindestTune : MI := (cd_X11_kindestTune, pl_X11, 1, 2, [])
def cd_X11_canPick : Chunks := [cd_X11_canPick_0, cd_X11_canPick_1, cd_X11_canPick_2]
def mi_X11_canPick : MI := (cd_X11_canPick, pl_X11, 2, 4, [])
def cd_X11_pickTakings : Chunks := [cd_X11_pickTakings_0, cd_X11_pickTakings_1]
def mi_X11_pickTakings : MI := (cd_X11_pickTakings, pl_X11, 1, 4, [])
def cd_X11_keepPicks : Chunks := [cd_X11_keepPicks_0, cd_X11_keepPicks_1, cd_X11_keepPicks_2]
def mi_X11_keepPicks : MI := (cd_X11_keepPicks, pl_X11, 0, 3, [])
def cd_X11_layMost : Chunks := [cd_X11_layMost_0, cd_X11_layMost_1, cd_X11_layMost_2, cd_X11_layMost_3, cd_X11_layMost_4, cd_X11_layMost_5]
def mi_X11_layMost : MI := (cd_X11_layMost, pl_X11, 0, 2, [])
def cd_X11_most : Chunks := [cd_X11_most_0, cd_X11_most_1]
def mi_X11_most : MI := (cd_X11_most, pl_X11, 1, 2, [])
def cd_X11_endedNow : Chunks := [cd_X11_endedNow_0]
def mi_X11_endedNow : MI := (cd_X11_endedNow, pl_X11, 1, 4, [])
def cd_X11_ifEnded : Chunks := [cd_X11_ifEnded_0]
def mi_X11_ifEnded : MI := (cd_X11_ifEnded, pl_X11, 1, 2, [])
def cd_X11_shareNow : Chunks := [cd_X11_shareNow_0]
def mi_X11_shareNow : MI := (cd_X11_shareNow, pl_X11, 4, 1, [])
def cd_X11_playersShare : Chunks := [cd_X11_playersShare_0]
def mi_X11_playersShare : MI := (cd_X11_playersShare, pl_X11, 4, 1, [])
def cd_X11_mix : Chunks := [cd_X11_mix_0]
def mi_X11_mix : MI := (cd_X11_mix, pl_X11, 0, 3, [])
def cd_X11_mixOrgan : Chunks := [cd_X11_mixOrgan_0, cd_X11_mixOrgan_1, cd_X11_mixOrgan_2]
def mi_X11_mixOrgan : MI := (cd_X11_mixOrgan, pl_X11, 0, 3, [])
def cd_X11_mixPlayer : Chunks := [cd_X11_mixPlayer_0, cd_X11_mixPlayer_1]
def mi_X11_mixPlayer : MI := (cd_X11_mixPlayer, pl_X11, 0, 3, [])
def cd_X11_digest : Chunks := [cd_X11_digest_0, cd_X11_digest_1, cd_X11_digest_2, cd_X11_digest_3, cd_X11_digest_4, cd_X11_digest_5, cd_X11_digest_6, cd_X11_digest_7]
def mi_X11_digest : MI := (cd_X11_digest, pl_X11, 3, 3, [])
def cd_L_addCorner : Chunks := [cd_L_addCorner_0]
def mi_L_addCorner : MI := (cd_L_addCorner, pl_L, 1, 7, [(0, 14, 17, 1), (0, 14, 21, 2)])
def cd_L_addOrgan : Chunks := [cd_L_addOrgan_0]
def mi_L_addOrgan : MI := (cd_L_addOrgan, pl_L, 1, 4, [(0, 9, 12, 1), (0, 9, 15, 2)])
def cd_L_addPlayer : Chunks := [cd_L_addPlayer_0]
def mi_L_addPlayer : MI := (cd_L_addPlayer, pl_L, 1, 3, [(0, 8, 11, 2)])
def cd_L_permit : Chunks := [cd_L_permit_0]
def mi_L_permit : MI := (cd_L_permit, pl_L, 1, 5, [(0, 10, 13, 3)])
def cd_L_barrel : Chunks := [cd_L_barrel_0]
def mi_L_barrel : MI := (cd_L_barrel, pl_L, 1, 5, [(0, 10, 13, 3), (0, 10, 17, 1)])
def cd_L_assign : Chunks := [cd_L_assign_0]
def mi_L_assign : MI := (cd_L_assign, pl_L, 1, 5, [(0, 10, 13, 3)])
def cd_L_set : Chunks := [cd_L_set_0]
def mi_L_set : MI := (cd_L_set, pl_L, 1, 5, [(0, 10, 13, 3), (0, 10, 17, 1)])
def cd_L_lots : Chunks := [cd_L_lots_0]
def mi_L_lots : MI := (cd_L_lots, pl_L, 1, 3, [(0, 8, 11, 2)])
def cd_L_weather : Chunks := [cd_L_weather_0]
def mi_L_weather : MI := (cd_L_weather, pl_L, 1, 4, [(0, 9, 12, 2)])
def cd_L_play : Chunks := [cd_L_play_0]
def mi_L_play : MI := (cd_L_play, pl_L, 1, 5, [(0, 10, 13, 3), (0, 10, 17, 1), (0, 10, 21, 2)])
def cd_L_append : Chunks := [cd_L_append_0]
def mi_L_append : MI := (cd_L_append, pl_L, 1, 4, [(0, 9, 12, 1), (0, 9, 15, 2)])
def cd_L_run : Chunks := [cd_L_run_0]
def mi_L_run : MI := (cd_L_run, pl_L, 1, 3, [(0, 8, 11, 1)])
def cd_L_undo : Chunks := [cd_L_undo_0]
def mi_L_undo : MI := (cd_L_undo, pl_L, 1, 3, [(0, 8, 11, 2)])
def cd_L_corner : Chunks := [cd_L_corner_0]
def mi_L_corner : MI := (cd_L_corner, pl_L, 1, 5, [(0, 10, 13, 3), (0, 10, 17, 1)])
def cd_L_organ : Chunks := [cd_L_organ_0]
def mi_L_organ : MI := (cd_L_organ, pl_L, 1, 5, [(0, 10, 13, 3), (0, 10, 17, 1)])
def cd_L_player : Chunks := [cd_L_player_0]
def mi_L_player : MI := (cd_L_player, pl_L, 1, 5, [(0, 10, 13, 3), (0, 10, 17, 1)])
def cd_L_hours : Chunks := [cd_L_hours_0]
def mi_L_hours : MI := (cd_L_hours, pl_L, 1, 5, [(0, 10, 13, 3)])
def cd_L_count : Chunks := [cd_L_count_0]
def mi_L_count : MI := (cd_L_count, pl_L, 1, 4, [(0, 9, 12, 1)])
def cd_L_setting : Chunks := [cd_L_setting_0]
def mi_L_setting : MI := (cd_L_setting, pl_L, 1, 4, [(0, 9, 12, 3)])
def cd_L_whyNot : Chunks := [cd_L_whyNot_0]
def mi_L_whyNot : MI := (cd_L_whyNot, pl_L, 1, 5, [(0, 10, 13, 3), (0, 10, 17, 1)])
def cd_L_ifPlayed : Chunks := [cd_L_ifPlayed_0]
def mi_L_ifPlayed : MI := (cd_L_ifPlayed, pl_L, 1, 4, [(0, 9, 12, 3)])
def cd_L_kindestTune : Chunks := [cd_L_kindestTune_0]
def mi_L_kindestTune : MI := (cd_L_kindestTune, pl_L, 1, 4, [(0, 9, 12, 3)])
def cd_L_most : Chunks := [cd_L_most_0]
def mi_L_most : MI := (cd_L_most, pl_L, 1, 4, [(0, 9, 12, 1)])
def cd_L_ifEnded : Chunks := [cd_L_ifEnded_0]
def mi_L_ifEnded : MI := (cd_L_ifEnded, pl_L, 1, 4, [(0, 9, 12, 3)])
def cd_L_law : Chunks := [cd_L_law_0, cd_L_law_1, cd_L_law_2, cd_L_law_3, cd_L_law_4, cd_L_law_5, cd_L_law_6, cd_L_law_7, cd_L_law_8, cd_L_law_9, cd_L_law_10, cd_L_law_11, cd_L_law_12, cd_L_law_13, cd_L_law_14, cd_L_law_15, cd_L_law_16, cd_L_law_17, cd_L_law_18, cd_L_law_19, cd_L_law_20, cd_L_law_21, cd_L_law_22, cd_L_law_23, cd_L_law_24, cd_L_law_25, cd_L_law_26, cd_L_law_27, cd_L_law_28, cd_L_law_29, cd_L_law_30, cd_L_law_31, cd_L_law_32, cd_L_law_33, cd_L_law_34, cd_L_law_35, cd_L_law_36, cd_L_law_37, cd_L_law_38, cd_L_law_39, cd_L_law_40, cd_L_law_41, cd_L_law_42, cd_L_law_43, cd_L_law_44, cd_L_law_45, cd_L_law_46, cd_L_law_47, cd_L_law_48, cd_L_law_49, cd_L_law_50, cd_L_law_51, cd_L_law_52, cd_L_law_53, cd_L_law_54]
def mi_L_law : MI := (cd_L_law, pl_L, 2, 9, [])
def mtab_0 : List MI := [mi_X1_copyFrom, mi_X1_isQuietAt, mi_X1_distanceTo, mi_X1_tunesPlayed, mi_X1_noteTune, mi_X1_forgetDay, mi_X2_signCount, mi_X2_fits, mi_X3_kindAt, mi_X3_errorIndex, mi_X3_isWholeRow, mi_X3_organAt, mi_X3_tuneAt, mi_X4_copyFrom, mi_X5_lookAt, mi_X5_leastHindering]
def mtab_1 : List MI := [mi_X5_hinderedPairs, mi_X5_findMost, mi_X5_takingsOf, mi_X5_nearAhead, mi_X5_findTunes, mi_X5_isFree, mi_X6_reckon, mi_X6_sharePot, mi_X6_giveUnits, mi_X6_giveAllowances, mi_X7_copyFrom, mi_X7_hoursOfDay, mi_X7_forgetDay, mi_X8_save, mi_X8_restore, mi_X9_copyFrom]
def mtab_2 : List MI := [mi_X9_hasCornerAt, mi_X9_permits, mi_X9_crewSize, mi_X9_organAt, mi_X9_cornerOf, mi_X9_takingsSoFar, mi_X9_ownersSoFar, mi_X9_inAllPots, mi_X9_playersSoFar, mi_X9_weatherMayChange, mi_X9_lotsMayBeDrawn, mi_X9_drawLots, mi_X9_takeCornersBack, mi_X9_draw, mi_X9_freeCorner, mi_X9_areNear]
def mtab_3 : List MI := [mi_X9_tunesHeardAt, mi_X9_reasonAgainstAll, mi_X9_reasonAgainst, mi_X9_playableTunes, mi_X9_playedNear, mi_X9_takingsFor, mi_X9_playTune, mi_X9_divideTakings, mi_X9_addHourOfCrew, mi_X9_endHour, mi_X9_payOut, mi_X9_beginDay, mi_X10_addCorner, mi_X10_addOrgan, mi_X10_addPlayer, mi_X10_permit]
def mtab_4 : List MI := [mi_X10_barrel, mi_X10_assign, mi_X10_set, mi_X10_lots, mi_X10_weather, mi_X10_play, mi_X10_next, mi_X10_append, mi_X10_clearBuffer, mi_X10_firstError, mi_X10_run, mi_X10_undo, mi_X10_corner, mi_X10_organ, mi_X10_player, mi_X10_hours]
def mtab_5 : List MI := [mi_X10_count, mi_X10_setting, mi_X10_whyNot, mi_X10_ifPlayed, mi_X10_kindestTune, mi_X10_most, mi_X10_ifEnded, mi_X10_playersShare, mi_X10_digest, mi_X10_requireIndex, mi_X10_requireInRange, mi_X10_requireState, mi_X10_asNumber, mi_X10_holds, mi_X10_obey, mi_X10_obeyPlay]
def mtab_6 : List MI := [mi_X10_mixed, mi_X10_withCorner, mi_X10_withOrgan, mi_X10_withPlayer, mi_X10_withText, mi_X10_bitsOfShare, mi_X11_thrown, mi_X11_fails, mi_X11_within, mi_X11_isCorner, mi_X11_isOrgan, mi_X11_isPlayer, mi_X11_corner0, mi_X11_organ0, mi_X11_player0, mi_X11_cornerOf]
def mtab_7 : List MI := [mi_X11_tuneIn, mi_X11_save, mi_X11_keep, mi_X11_bring, mi_X11_addCorner, mi_X11_addOrgan, mi_X11_addPlayer, mi_X11_permits, mi_X11_permit, mi_X11_barrel, mi_X11_assign, mi_X11_mostOf, mi_X11_set, mi_X11_playedToday, mi_X11_draw, mi_X11_whoHas]
def mtab_8 : List MI := [mi_X11_freeCorners, mi_X11_freeAt, mi_X11_withCorner, mi_X11_noCorners, mi_X11_mayDraw, mi_X11_drawLots, mi_X11_lots, mi_X11_weather, mi_X11_isQuiet, mi_X11_areNear, mi_X11_heardAt, mi_X11_crewOf, mi_X11_reason, mi_X11_othersNear, mi_X11_takings, mi_X11_plays]
def mtab_9 : List MI := [mi_X11_play, mi_X11_timeAt, mi_X11_timeToday, mi_X11_sharePot, mi_X11_endDay, mi_X11_goOn, mi_X11_next, mi_X11_append, mi_X11_clearBuffer, mi_X11_goes, mi_X11_ends, mi_X11_begins, mi_X11_takes, mi_X11_read, mi_X11_firstError, mi_X11_mayDo]
def mtab_10 : List MI := [mi_X11_does, mi_X11_run, mi_X11_undo, mi_X11_playedAt, mi_X11_cornerNow, mi_X11_corner, mi_X11_organNow, mi_X11_organ, mi_X11_playerNow, mi_X11_player, mi_X11_hours, mi_X11_ofOrgans, mi_X11_playersGot, mi_X11_counted, mi_X11_count, mi_X11_setting]
def mtab_11 : List MI := [mi_X11_whyNot, mi_X11_tunesOf, mi_X11_playedNow, mi_X11_ifPlayed, mi_X11_size, mi_X11_pairsBehind, mi_X11_kindestNow, mi_X11_kindestTune, mi_X11_canPick, mi_X11_pickTakings, mi_X11_keepPicks, mi_X11_layMost, mi_X11_most, mi_X11_endedNow, mi_X11_ifEnded, mi_X11_shareNow]
def mtab_12 : List MI := [mi_X11_playersShare, mi_X11_mix, mi_X11_mixOrgan, mi_X11_mixPlayer, mi_X11_digest, mi_L_addCorner, mi_L_addOrgan, mi_L_addPlayer, mi_L_permit, mi_L_barrel, mi_L_assign, mi_L_set, mi_L_lots, mi_L_weather, mi_L_play, mi_L_append]
def mtab_13 : List MI := [mi_L_run, mi_L_undo, mi_L_corner, mi_L_organ, mi_L_player, mi_L_hours, mi_L_count, mi_L_setting, mi_L_whyNot, mi_L_ifPlayed, mi_L_kindestTune, mi_L_most, mi_L_ifEnded, mi_L_law]
def mtabs : List (List MI) := [mtab_0, mtab_1, mtab_2, mtab_3, mtab_4, mtab_5, mtab_6, mtab_7, mtab_8, mtab_9, mtab_10, mtab_11, mtab_12, mtab_13]
def mtab (n : Nat) : Option MI := (mtabs.getD (n / 16) [])[n % 16]?
def levs : List Nat := [1, 1, 1, 1, 1, 1, 1, 1, 2, 3, 4, 1, 1, 1, 4, 4, 3, 10, 4, 3, 9, 3, 3, 2, 1, 2, 1, 1, 1, 3, 3, 2, 1, 1, 1, 1, 1, 1, 1, 1, 1, 1, 1, 3, 1, 1, 2, 2, 2, 2, 3, 3, 3, 2, 4, 1, 1, 4, 1, 2, 4, 4, 4, 4, 4, 4, 4, 4, 4, 5, 5, 2, 1, 4, 7, 4, 3, 2, 2, 2, 2, 2, 4, 4, 5, 11, 4, 2, 12, 1, 1, 1, 1, 1, 6, 5, 1, 4, 6, 5, 2, 1, 1, 1, 1, 2, 2, 2, 1, 1, 1, 2, 1, 1, 1, 1, 2, 2, 2, 2, 3, 3, 3, 1, 2, 1, 1, 3, 4, 4, 3, 1, 2, 5, 6, 2, 2, 2, 3, 2, 4, 3, 3, 4, 5, 1, 2, 2, 3, 4, 5, 2, 1, 1, 2, 2, 3, 4, 5, 5, 6, 7, 2, 4, 5, 6, 3, 4, 3, 4, 3, 2, 2, 3, 4, 2, 5, 5, 6, 7, 1, 6, 7, 8, 3, 4, 1, 6, 7, 4, 5, 3, 4, 1, 8, 5, 9, 5, 5, 5, 5, 5, 5, 5, 5, 5, 6, 3, 8, 5, 4, 3, 3, 3, 3, 3, 5, 5, 6, 12, 5, 13]
def orgArg (as : List Value) : Nat := match (as[4]? : Option Value) with
  | some (Value.int x) => min 5 x.toNatClampNeg
  | _ => 0
/-- how many frames a call needs at most -/
def lvl (m : Nat) (as : List Value) : Nat := bif Nat.beq m 20 then 9 - orgArg as else levs.getD m 0
def mxl (m : Nat) : Nat := match mtab m with | some M => M.2.2.2.1 | none => 0
end CODE
end
section
/-! WHAT A RUN OF THE PURE INTERPRETER COMES TO: fuel, and its limit -/
section EXEC
def prun : Nat → Nat → Nat → PS → Option PO
  | 0, _, _, _ => none
  | n + 1, m, lv, s => match mtab m with
    | none => none
    | some M => match pstep M s with
      | none => none
      | some (.inl s') => prun n m lv s'
      | some (.inr (.inr o)) => some o
      | some (.inr (.inl (c, as, pc, ls, st, μ))) =>
        if lvl c as < lv then (match prun n c (lvl c as) (0, entryL (mxl c) as, [], μ) with
          | none => none
          | some o => match aft M pc ls st o with
            | some (.inl s') => prun n m lv s'
            | some (.inr (.inr o2)) => some o2
            | _ => none)
        else none
theorem prun_mono : ∀ (n m lv : Nat) (s : PS) (o : PO), prun n m lv s = some o → prun (n + 1) m lv s = some o := by
  intro n
  induction n with
  | zero => intro m lv s o h; simp [prun] at h
  | succ n ih =>
    intro m lv s o h
    rw [prun] at h ⊢
    cases hM : mtab m with
    | none => rw [hM] at h; cases h
    | some M =>
      rw [hM] at h
      simp only at h ⊢
      cases hs : pstep M s with
      | none => rw [hs] at h; cases h
      | some r =>
        rw [hs] at h
        match r, h with
        | .inl s', h => exact ih _ _ _ _ h
        | .inr (.inr o'), h => exact h
        | .inr (.inl (c, as, pc, ls, st, μ)), h =>
          simp only at h ⊢
          by_cases hl : lvl c as < lv
          · rw [if_pos hl] at h ⊢
            cases ho : prun n c (lvl c as) (0, entryL (mxl c) as, [], μ) with
            | none => rw [ho] at h; cases h
            | some o1 =>
              rw [ho] at h
              rw [ih _ _ _ _ ho]
              simp only at h ⊢
              cases ha : aft M pc ls st o1 with
              | none => rw [ha] at h; cases h
              | some r2 =>
                rw [ha] at h
                match r2, h with
                | .inl s', h => exact ih _ _ _ _ h
                | .inr (.inr o2), h => exact h
                | .inr (.inl x), h => cases h
          · rw [if_neg hl] at h; cases h
theorem prun_le {n k m lv : Nat} {s : PS} {o : PO} (h : prun n m lv s = some o) (hk : n ≤ k) : prun k m lv s = some o := by
  induction hk with
  | refl => exact h
  | step _ ih => exact prun_mono _ _ _ _ _ ih
theorem prun_det {n k m lv : Nat} {s : PS} {o o' : PO} (h : prun n m lv s = some o) (h' : prun k m lv s = some o') : o = o' := by
  have h1 := prun_le h (Nat.le_max_left n k)
  have h2 := prun_le h' (Nat.le_max_right n k)
  rw [h1] at h2
  exact Option.some.inj h2
/-- the run's outcome, from a state of method m at level lv -/
noncomputable def Exec (m lv : Nat) (s : PS) : Option PO := @dite (Option PO) (∃ o n, prun n m lv s = some o) (Classical.propDecidable _) (fun h => some h.choose) (fun _ => none)
theorem Exec_of {n m lv : Nat} {s : PS} {o : PO} (h : prun n m lv s = some o) : Exec m lv s = some o := by
  have hx : ∃ o n, prun n m lv s = some o := ⟨o, n, h⟩
  rw [Exec, dif_pos hx]
  obtain ⟨k, hk⟩ := hx.choose_spec
  exact congrArg some (prun_det hk h)
theorem Exec_iff {m lv : Nat} {s : PS} {o : PO} : Exec m lv s = some o ↔ ∃ n, prun n m lv s = some o := by
  constructor
  · intro h
    unfold Exec at h
    split at h
    · rename_i hx
      obtain ⟨k, hk⟩ := hx.choose_spec
      rw [Option.some.inj h] at hk
      exact ⟨k, hk⟩
    · cases h
  · rintro ⟨n, h⟩; exact Exec_of h
theorem Exec_ext {m lv m' lv' : Nat} {s s' : PS} (h : ∀ o, (∃ n, prun n m lv s = some o) ↔ ∃ n, prun n m' lv' s' = some o) : Exec m lv s = Exec m' lv' s' := by
  have key : ∀ o, Exec m lv s = some o ↔ Exec m' lv' s' = some o := fun o => by rw [Exec_iff, Exec_iff]; exact h o
  cases h1 : Exec m lv s with
  | none =>
    cases h2 : Exec m' lv' s' with
    | none => rfl
    | some o => rw [(key o).mpr h2] at h1; cases h1
  | some o => exact ((key o).mp h1).symm
theorem Exec_step1 {m lv : Nat} {M : MI} {s s' : PS} (hM : mtab m = some M) (h : pstep M s = some (.inl s')) : Exec m lv s = Exec m lv s' := by
  refine Exec_ext fun o => ⟨?_, ?_⟩
  · rintro ⟨n, hn⟩
    cases n with
    | zero => simp [prun] at hn
    | succ n => rw [prun, hM] at hn; simp only [h] at hn; exact ⟨n, hn⟩
  · rintro ⟨n, hn⟩
    exact ⟨n + 1, by rw [prun, hM]; simp only [h]; exact hn⟩
theorem Exec_done1 {m lv : Nat} {M : MI} {s : PS} {o : PO} (hM : mtab m = some M) (h : pstep M s = some (.inr (.inr o))) : Exec m lv s = some o :=
  Exec_of (n := 1) (by rw [prun, hM]; simp only [h])
/-- a method's call -/
noncomputable def Den (m : Nat) (as : List Value) (μ : PM) : Option PO := Exec m (lvl m as) (0, entryL (mxl m) as, [], μ)
theorem Exec_call1 {m lv c pc : Nat} {as ls st : List Value} {μ : PM} {M : MI} {s s' : PS} {o : PO} (hM : mtab m = some M) (h : pstep M s = some (.inr (.inl (c, as, pc, ls, st, μ)))) (hl : lvl c as < lv) (hd : Den c as μ = some o) (ha : aft M pc ls st o = some (.inl s')) : Exec m lv s = Exec m lv s' := by
  obtain ⟨k, hk⟩ := Exec_iff.mp hd
  refine Exec_ext fun o2 => ⟨?_, ?_⟩
  · rintro ⟨n, hn⟩
    cases n with
    | zero => simp [prun] at hn
    | succ n =>
      rw [prun, hM] at hn
      simp only [h, if_pos hl] at hn
      split at hn
      · cases hn
      · rename_i o1 ho
        cases prun_det ho hk
        rw [ha] at hn
        exact ⟨n, hn⟩
  · rintro ⟨n, hn⟩
    refine ⟨max n k + 1, ?_⟩
    rw [prun, hM]
    simp only [h, if_pos hl, prun_le hk (Nat.le_max_right n k), ha]
    exact prun_le hn (Nat.le_max_left n k)
theorem Exec_callT1 {m lv c pc : Nat} {as ls st : List Value} {μ : PM} {M : MI} {s : PS} {o o2 : PO} (hM : mtab m = some M) (h : pstep M s = some (.inr (.inl (c, as, pc, ls, st, μ)))) (hl : lvl c as < lv) (hd : Den c as μ = some o) (ha : aft M pc ls st o = some (.inr (.inr o2))) : Exec m lv s = some o2 := by
  obtain ⟨k, hk⟩ := Exec_iff.mp hd
  refine Exec_of (n := k + 1) ?_
  rw [prun, hM]
  simp only [h, if_pos hl, hk, ha]
theorem pblk_run {m lv : Nat} {M : MI} (hM : mtab m = some M) : ∀ (n : Nat) (s : PS) (r : Option SR), pblk M n s = r → ∃ s', Exec m lv s = Exec m lv s' ∧ pstep M s' = r := by
  intro n
  induction n with
  | zero => intro s r h; exact ⟨s, rfl, h⟩
  | succ n ih =>
    intro s r h
    rw [pblk] at h
    split at h
    · rename_i s1 h1
      obtain ⟨s', e, h'⟩ := ih _ _ h
      exact ⟨s', (Exec_step1 hM h1).trans e, h'⟩
    · exact ⟨s, rfl, h⟩
/-- straight on -/
theorem xN {m lv : Nat} {M : MI} (n : Nat) {s s' : PS} (hM : mtab m = some M) (h : pblk M n s = some (.inl s')) : Exec m lv s = Exec m lv s' := by
  obtain ⟨t, e, h'⟩ := pblk_run (lv := lv) hM _ _ _ h
  exact e.trans (Exec_step1 hM h')
/-- the end -/
theorem xD {m lv : Nat} {M : MI} (n : Nat) {s : PS} {o : PO} (hM : mtab m = some M) (h : pblk M n s = some (.inr (.inr o))) : Exec m lv s = some o := by
  obtain ⟨t, e, h'⟩ := pblk_run (lv := lv) hM _ _ _ h
  exact e.trans (Exec_done1 hM h')
/-- a branch -/
theorem xB {m lv : Nat} {M : MI} (n : Nat) {s a b : PS} {c : Prop} [Decidable c] (hM : mtab m = some M) (h : pblk M n s = if c then some (.inl a) else some (.inl b)) : Exec m lv s = if c then Exec m lv a else Exec m lv b := by
  obtain ⟨t, e, h'⟩ := pblk_run (lv := lv) hM _ _ _ h
  rw [e]
  by_cases hc : c
  · rw [if_pos hc] at h' ⊢; exact Exec_step1 hM h'
  · rw [if_neg hc] at h' ⊢; exact Exec_step1 hM h'
/-- a check that holds, straight on -/
theorem xC {m lv : Nat} {M : MI} (n : Nat) {s s' : PS} {r : Option SR} {c : Prop} [Decidable c] (hc : c) (hM : mtab m = some M) (h : pblk M n s = if c then some (.inl s') else r) : Exec m lv s = Exec m lv s' := by
  rw [if_pos hc] at h
  exact xN n hM h
theorem xCD {m lv : Nat} {M : MI} (n : Nat) {s : PS} {o : PO} {r : Option SR} {c : Prop} [Decidable c] (hc : c) (hM : mtab m = some M) (h : pblk M n s = if c then some (.inr (.inr o)) else r) : Exec m lv s = some o := by
  rw [if_pos hc] at h
  exact xD n hM h
/-- a call -/
theorem xI {m lv c pc : Nat} {as ls st : List Value} {μ : PM} {M : MI} (n : Nat) {s s' : PS} {o : PO} (hM : mtab m = some M) (h : pblk M n s = some (.inr (.inl (c, as, pc, ls, st, μ)))) (hl : lvl c as < lv) (hd : Den c as μ = some o) (ha : aft M pc ls st o = some (.inl s')) : Exec m lv s = Exec m lv s' := by
  obtain ⟨t, e, h'⟩ := pblk_run (lv := lv) hM _ _ _ h
  exact e.trans (Exec_call1 hM h' hl hd ha)
theorem xIC {m lv c pc : Nat} {as ls st : List Value} {μ : PM} {M : MI} (n : Nat) {s s' : PS} {o : PO} {r : Option SR} {q : Prop} [Decidable q] (hc : q) (hM : mtab m = some M) (h : pblk M n s = if q then some (.inr (.inl (c, as, pc, ls, st, μ))) else r) (hl : lvl c as < lv) (hd : Den c as μ = some o) (ha : aft M pc ls st o = some (.inl s')) : Exec m lv s = Exec m lv s' := by
  rw [if_pos hc] at h
  exact xI n hM h hl hd ha
/-- a call that throws on -/
theorem xT {m lv c pc : Nat} {as ls st : List Value} {μ : PM} {M : MI} (n : Nat) {s : PS} {o o2 : PO} (hM : mtab m = some M) (h : pblk M n s = some (.inr (.inl (c, as, pc, ls, st, μ)))) (hl : lvl c as < lv) (hd : Den c as μ = some o) (ha : aft M pc ls st o = some (.inr (.inr o2))) : Exec m lv s = some o2 := by
  obtain ⟨t, e, h'⟩ := pblk_run (lv := lv) hM _ _ _ h
  exact e.trans (Exec_callT1 hM h' hl hd ha)
theorem xTC {m lv c pc : Nat} {as ls st : List Value} {μ : PM} {M : MI} (n : Nat) {s : PS} {o o2 : PO} {r : Option SR} {q : Prop} [Decidable q] (hc : q) (hM : mtab m = some M) (h : pblk M n s = if q then some (.inr (.inl (c, as, pc, ls, st, μ))) else r) (hl : lvl c as < lv) (hd : Den c as μ = some o) (ha : aft M pc ls st o = some (.inr (.inr o2))) : Exec m lv s = some o2 := by
  rw [if_pos hc] at h
  exact xT n hM h hl hd ha
end EXEC
end
section
/-! ===== BEGIN words of one list among another's, by their places ===== -/
theorem goodIn_r {big : List Cond} (ws : List Cond) (ps : List Nat) (hp : ws = ps.filterMap (fun i => big[i]?)) (h : ws.all goodWord = true) : GoodIn big ws := by
  intro w hw
  have h1 := List.all_eq_true.mp h w hw
  rw [hp] at hw
  obtain ⟨i, -, hi⟩ := List.mem_filterMap.mp hw
  have hm : w ∈ big := by first | exact List.mem_of_getElem? hi | exact List.getElem?_mem hi
  exact ⟨hm, good_of_word h1⟩
theorem goodIn_app {big a b : List Cond} (ha : GoodIn big a) (hb : GoodIn big b) : GoodIn big (a ++ b) := fun w h => (List.mem_append.mp h).elim (ha w) (hb w)
theorem goodIn_ca {big a b : List Cond} {c : Cond} (ha : GoodIn big (c :: a)) (hb : GoodIn big b) : GoodIn big (c :: (a ++ b)) := fun w h => (List.mem_cons.mp h).elim (fun e => ha w (List.mem_cons.mpr (Or.inl e))) (fun h => (List.mem_append.mp h).elim (fun h => ha w (List.mem_cons.mpr (Or.inr h))) (hb w))
theorem goodIn_sub {big ws : List Cond} (hm : ∀ w ∈ ws, w ∈ big) (h : ws.all goodWord = true) : GoodIn big ws := fun w hw => ⟨hm w hw, good_of_word (List.all_eq_true.mp h w hw)⟩
/-! ===== END ===== -/

/-! ===== BEGIN exceptions that leave a method, and their catching by the caller (launches without stack traces) ===== -/
section VXA
/-! The laws vx_back, vx_callV, vx_callS, vx_callSW, vx_throw0, vx_throwS follow proofs of the library, with one case more: JvmDerived/Free/Laws.lean (Back.of_free), Shelf42/LK1.lean (callV, callS), Shelf/KitTraced.lean (throwNew0V, throwNewS). -/
/-- where a method has thrown q: the class by its name, the cell, what was written, the world -/
def vx_T (XC : String → State → State → Prop) (st : State) (q : Addr) (t : State) (mc ms : Nat) (free : Addr → Prop) : Prop :=
  ∃ (E : String) (ce : Cell) (L : List Loc), XC E st t ∧ t.heap[q]? = some ce ∧ ce.vm = .none ∧ st.vm.findClass E = some ce.cls ∧ st.WarmedH t.vm ∧ st.sameButNew ({ t with vm := st.vm } : State) L mc ms ∧ ∀ z ∈ L, free z.base
def vx_Q (Qc : Array Value → State → Outcome → State → Prop) (XC : String → State → State → Prop) (mc ms : Nat) (free : Addr → Prop) : Array Value → State → Outcome → State → Prop := fun a st o t =>
  (Qc a st o t ∧ ∃ L, FrameEnd st o t L mc ms ∧ ∀ q ∈ L, free q.base) ∨ ∃ q, o = .threw q ∧ vx_T XC st q t mc ms free
/-- a callee that returns or throws -/
def vx_Met (l : Launch) (y : MethodName) (ws : List Cond) (rm : Room) (Pc : Array Value → State → Prop) (Qc : Array Value → State → Outcome → State → Prop) (XC : String → State → State → Prop) (mc ms : Nat) (free : Addr → Prop) : Prop :=
  MetFree l y (headSpec ws rm) Pc (fun _ _ _ _ _ => True) (vx_Q Qc XC mc ms free)
def vx_Post (XC : String → State → State → Prop) (mc ms : Nat) (free : Addr → Prop) : Pt → Array Value → Addr → Pt → Prop := fun A a q B =>
  ∃ (g : JFrame) (mk : MethodId) (t : State) (L : List Loc) (E : String) (ce : Cell), B.U.heap = t.heap ∧ B.U.vm = t.vm ∧ XC E (A.U.calling g mk a) t ∧ t.heap[q]? = some ce ∧ ce.vm = .none ∧ A.U.vm.findClass E = some ce.cls ∧ B.locs = A.locs ++ L ∧ (∀ z ∈ L, free z.base) ∧ B.cells = A.cells + mc ∧ B.slots = A.slots + ms
def vx_Back (l : Launch) (R : Room) (p : Program) (e : Env) (below : List Frame) (s : State) (sargs : Array Value) (y : MethodName) (len W9 : Nat)
    (Pre : Pt → Array Value → Prop) (Post : Pt → Array Value → Option Value → Pt → Prop) (PostX : Pt → Array Value → Addr → Pt → Prop) : Prop :=
  ∀ (m : MethodId) (meth : Method) (c : Code) (A : Pt) (g : JFrame) (ig : Instr) (mk : MethodId) (a : Array Value),
    Stand p l e R s m sargs below meth c A.U A.locs A.cells A.slots → g.method = m → g.locals.size = c.maxLocals → decode c.code g.pc = .ok (ig, len) →
    2 * g.monitorRoom + (g.stack.map fun v => v.category).sum ≤ W9 → A.U.methodNamed? y = some mk → Pre A a →
    (∃ (v : Option Value) (B : Pt), Stand p l e R s m sargs below meth c B.U B.locs B.cells B.slots ∧ Post A a v B ∧
      Steps p.tables e below (doInvoke e (A.U.setTop g) [] mk a).1 (B.U.setTop { g with pc := g.pc + len, stack := v.toList ++ g.stack })) ∨
    (∃ (q : Addr) (B : Pt), Stand p l e R s m sargs below meth c B.U B.locs B.cells B.slots ∧ PostX A a q B ∧
      Steps p.tables e below (doInvoke e (A.U.setTop g) [] mk a).1 ((B.U.setTop g).pushFrame (.throwing q)))
section Payer
variable {l : Launch} {R : Room} {p : Program} {e : Env} {below : List Frame} {s : State} {sargs : Array Value} {y : MethodName} {len W9 : Nat}
theorem vx_back {ws : List Cond} {rm : Room} {Pc : Array Value → State → Prop} {Qc : Array Value → State → Outcome → State → Prop} {XC : String → State → State → Prop} {mc ms : Nat} {free : Addr → Prop} {bytes : ByteArray} {maxL : Nat} {ret : Option FieldType}
    (hM : vx_Met l y ws rm Pc Qc XC mc ms free) (hblind : FrameBlind Pc) (hrc : rm.cells = mc) (hrs : rm.slots = ms)
    (hframes : rm.frames + 1 ≤ R.frames) (hlocals : W9 + (maxL + 11) + rm.locals ≤ R.locals)
    (hws : ∀ w ∈ ws, ∀ a' U, s.WarmedH U.vm → w.before a' U = true) (hcode : Cond.code y bytes maxL ret ∈ ws) (hinit : ∀ a' U, s.WarmedH U.vm → (Cond.initialized y.cls).before a' U = true) :
    vx_Back l R p e below s sargs y len W9 (PreOf R mc ms Pc) (PostOf Qc mc ms free) (vx_Post XC mc ms free) := by
  intro m meth c A g ig mk a X hg hsize hdg hW hn hp
  have h1 : (headSpec ws rm).pre.before a A.U = true := atoms_intro fun w hw => hws w hw _ _ X.warmed
  have h2 : (Cond.code y bytes maxL ret).before a A.U = true := hws _ hcode _ _ X.warmed
  have h3 : (Cond.initialized y.cls).before a A.U = true := hinit _ _ X.warmed
  have h4 : A.cells + (headSpec ws rm).room.cells ≤ R.cells := by rw [show (headSpec ws rm).room.cells = mc from hrc]; exact hp.1
  have h5 : A.slots + (headSpec ws rm).room.slots ≤ R.slots := by rw [show (headSpec ws rm).room.slots = ms from hrs]; exact hp.2.1
  have hPc : Pc a (A.U.calling g mk a) := hblind _ _ _ _ hp.2.2
  obtain ⟨U, Ls, c0, s0⟩ := A
  dsimp only [Pt.U, Pt.locs, Pt.cells, Pt.slots] at h1 h2 h3 h4 h5 X hn hPc ⊢
  obtain ⟨methY, cY, hmY, hcY, -, hlY, -, -, -, -⟩ := Cond.code_spec hn h2
  obtain ⟨kY, hkY, -⟩ := className_of_methodNamed hn
  have hinitY : kY.init = .initialized := Cond.initialized_spec (findClass_of_methodNamed hn) hkY h3
  have h : At U g.method c below := by rw [hg]; exact X.here
  have hlocals9 : W9 + (maxL + 11) + (headSpec ws rm).room.locals ≤ R.locals := hlocals
  have happ : (headSpec ws rm).appliesLoose y e.platform (U.calling g mk a) = true :=
    Spec.appliesLoose_calling (g := g) h hdg hn hkY hinitY
      (X.room_calling (g := g) (R' := (headSpec ws rm).room) hsize hmY hcY hframes (by rw [hlY]; omega) h4 h5) h1
  obtain ⟨mid, hmid⟩ := h.above
  have hfr : (U.setTop g).frames = (.java g :: mid) ++ below := by rw [State.frames_setTop' g h.top, hmid]; rfl
  obtain ⟨o, s₂, hsteps, -, hend, hq⟩ := Steps.callFree hM p X.admits X.cas X.clock (acts := []) hfr happ hPc trivial
  have hq' : vx_Q Qc XC mc ms free a (U.calling g mk a) o s₂ := hq
  rw [State.frames_setTop' g h.top] at hend
  obtain ⟨g₀, hg0⟩ := Option.isSome_iff_exists.mp h.top
  obtain ⟨r, hr⟩ := State.topJava?_eq_some.mp hg0
  have hr' : (({ U with heap := s₂.heap, slotsUsed := s₂.slotsUsed } : State).setVm s₂.vm).frames = .java g₀ :: r := hr
  rcases hq' with ⟨hqc, L, hfe, hL⟩ | ⟨q, rfl, E, ce, L, hx, hce, hcv, hcl, hW₂, hsm, hL⟩
  · obtain ⟨⟨v, rfl⟩, hW₂, e2, q2, q3, q4, q5, q6⟩ := id hfe
    have e3 : s₂ = ({ (U.calling g mk a).setFrames s₂.frames with heap := s₂.heap, slotsUsed := s₂.slotsUsed } : State).setVm s₂.vm := by
      have : s₂ = ({ s₂ with vm := (U.calling g mk a).vm } : State).setVm s₂.vm := rfl
      rw [e2] at this
      exact this
    obtain ⟨c₂, i₂, len₂, hc₂, hd₂, hf₂⟩ := hend
    have hW' : U.WarmedH s₂.vm := hW₂
    have hcc : c₂ = c := by
      have h1 : s₂.code? g.method = U.code? g.method := by
        rw [State.code?_eq, State.code?_eq, hW'.alike.method?]
      exact Option.some.inj (hc₂.symm.trans (h1.trans h.code))
    subst hcc
    have hlen : len₂ = len := by rw [hdg] at hd₂; cases hd₂; rfl
    subst hlen
    have hs₂ : s₂ = (({ U with heap := s₂.heap, slotsUsed := s₂.slotsUsed } : State).setVm s₂.vm).setTop { g with pc := g.pc + len₂, stack := v.toList ++ g.stack } := by
      refine e3.trans ?_
      rw [hf₂, State.calling_eq h.top, State.setFrames_setFrames, State.setTop_of_frames _ hr', hr]
      rfl
    have hsame : U.sameButNew ({ U with heap := s₂.heap, slotsUsed := s₂.slotsUsed } : State) L mc ms := by
      refine ⟨?_, q2, q3, q4, q5, q6⟩
      obtain ⟨t, ht, -⟩ := State.frames_cons hr
      show ({ U with heap := s₂.heap, slotsUsed := s₂.slotsUsed } : State) = { U.setFrames U.frames with heap := s₂.heap, slotsUsed := s₂.slotsUsed }
      rw [State.setFrames_self ht]
    subst hg
    refine Or.inl ⟨v, ⟨(({ U with heap := s₂.heap, slotsUsed := s₂.slotsUsed } : State).setVm s₂.vm), Ls ++ L, c0 + mc, s0 + ms⟩,
      ⟨X.admits, X.cas, X.clock, X.frames, X.room, X.hears, X.method, X.code, (X.here.setHeapUsed s₂.heap s₂.slotsUsed).setVm hW'.alike, X.tail, State.WarmedH.trans X.warmed hW', X.limits, X.bytes, X.same.trans (hsame.setVm s.vm)⟩,
      ⟨g, mk, s₂, L, rfl, rfl, hqc, rfl, hL, rfl, rfl⟩, ?_⟩
    show Steps p.tables e below _ ((({ U with heap := s₂.heap, slotsUsed := s₂.slotsUsed } : State).setVm s₂.vm).setTop { g with pc := g.pc + len₂, stack := v.toList ++ g.stack })
    rw [← hs₂]
    exact hsteps
  · obtain ⟨e2, q2, q3, q4, q5, q6⟩ := id hsm
    have e3 : s₂ = ({ (U.calling g mk a).setFrames s₂.frames with heap := s₂.heap, slotsUsed := s₂.slotsUsed } : State).setVm s₂.vm := by
      have : s₂ = ({ s₂ with vm := (U.calling g mk a).vm } : State).setVm s₂.vm := rfl
      rw [e2] at this
      exact this
    have hf₂ : s₂.frames = .throwing q :: .java g :: U.frames.tail := hend
    have hW' : U.WarmedH s₂.vm := hW₂
    have hs₂ : s₂ = ((({ U with heap := s₂.heap, slotsUsed := s₂.slotsUsed } : State).setVm s₂.vm).setTop g).pushFrame (.throwing q) := by
      refine e3.trans ?_
      rw [hf₂, State.calling_eq h.top, State.setFrames_setFrames, State.pushFrame, State.frames_setTop _ hr', State.setTop_of_frames _ hr', State.setFrames_setFrames, hr]
      rfl
    have hsame : U.sameButNew ({ U with heap := s₂.heap, slotsUsed := s₂.slotsUsed } : State) L mc ms := by
      refine ⟨?_, q2, q3, q4, q5, q6⟩
      obtain ⟨t, ht, -⟩ := State.frames_cons hr
      show ({ U with heap := s₂.heap, slotsUsed := s₂.slotsUsed } : State) = { U.setFrames U.frames with heap := s₂.heap, slotsUsed := s₂.slotsUsed }
      rw [State.setFrames_self ht]
    subst hg
    refine Or.inr ⟨q, ⟨(({ U with heap := s₂.heap, slotsUsed := s₂.slotsUsed } : State).setVm s₂.vm), Ls ++ L, c0 + mc, s0 + ms⟩,
      ⟨X.admits, X.cas, X.clock, X.frames, X.room, X.hears, X.method, X.code, (X.here.setHeapUsed s₂.heap s₂.slotsUsed).setVm hW'.alike, X.tail, State.WarmedH.trans X.warmed hW', X.limits, X.bytes, X.same.trans (hsame.setVm s.vm)⟩,
      ⟨g, mk, s₂, L, E, ce, rfl, rfl, hx, hce, hcv, hcl, rfl, hL, rfl, rfl⟩, ?_⟩
    show Steps p.tables e below _ (((({ U with heap := s₂.heap, slotsUsed := s₂.slotsUsed } : State).setVm s₂.vm).setTop g).pushFrame (.throwing q))
    rw [← hs₂]
    exact hsteps
end Payer
section Calls
variable {p : Program} {l : Launch} {e : Env} {R : Room} {s : State} {m : MethodId} {args : Array Value} {below : List Frame} {meth : Method} {c : Code} {T : State} {locs : List Loc} {cells slots : Nat}
theorem vx_callV (X : Stand p l e R s m args below meth c T locs cells slots) (hexec : p.tables.exec = Jvm.exec) {own C : String} {index : Nat} {y : MethodName} {bytes : ByteArray} {maxL : Nat} {ret : Option FieldType}
    (hown : s.vm.findClass own = some m.cls) (hlink : (Cond.methodLink own index y).before args s = true) (hinst : (Cond.instanceMethod y).before args s = true) (hsel : (Cond.selects C y y).before args s = true)
    (hcode : (Cond.code y bytes maxL ret).before args s = true) (hy : y.cls ≠ "java/lang/invoke/MethodHandle" ∧ y.cls ≠ "java/lang/invoke/VarHandle")
    {W9 : Nat} {Pre : Pt → Array Value → Prop} {Post : Pt → Array Value → Option Value → Pt → Prop} {PostX : Pt → Array Value → Addr → Pt → Prop} (hK : vx_Back l R p e below s args y 3 W9 Pre Post PostX)
    {b : Addr} {cellB : Cell} (hcell : T.heap[b]? = some cellB) (hobj : cellB.vm.isStatics = false) (hcls : s.vm.findClass C = some cellB.cls)
    {g : JFrame} (hg : g.method = m) (hsize : g.locals.size = c.maxLocals) {argsL rest : List Value} (hlen : ∀ sig, parseMethodDescriptor y.desc = some sig → argsL.length = sig.parameters.length)
    (hstack : g.stack = argsL.reverse ++ .ref b :: rest) (hW : 2 * g.monitorRoom + (rest.map fun v => v.category).sum ≤ W9) (hdg : decode c.code g.pc = .ok (.invokevirtual index, 3))
    (hpre : ∀ vm₁, s.WarmedH vm₁ → Pre ⟨T.setVm vm₁, locs, cells, slots⟩ (Value.ref b :: argsL).toArray) :
    (∃ (v : Option Value) (vm₁ : Vm) (B : Pt), s.WarmedH vm₁ ∧ Stand p l e R s m args below meth c B.U B.locs B.cells B.slots ∧ Post ⟨T.setVm vm₁, locs, cells, slots⟩ (Value.ref b :: argsL).toArray v B ∧
      ∀ target, Steps p.tables e below (B.U.setTop { g with pc := g.pc + 3, stack := v.toList ++ rest }) target → Steps p.tables e below (T.setTop g) target) ∨
    (∃ (q : Addr) (vm₁ : Vm) (B : Pt), s.WarmedH vm₁ ∧ Stand p l e R s m args below meth c B.U B.locs B.cells B.slots ∧ PostX ⟨T.setVm vm₁, locs, cells, slots⟩ (Value.ref b :: argsL).toArray q B ∧
      Steps p.tables e below (T.setTop g) ((B.U.setTop { g with stack := rest }).pushFrame (.throwing q))) := by
  obtain ⟨mk, methM, hnamed, hmethM, hstM, habM⟩ := Cond.instanceMethod_spec hinst
  obtain ⟨methM', cM, hmethM', -, -, -, -, -, -, hsigM⟩ := Cond.code_spec hnamed hcode
  cases hmethM.symm.trans hmethM'
  obtain ⟨c2, r2, m2, q1, q2, q3, q4, kP, hkP, hkPi⟩ := Cond.selects_spec hsel
  cases hcls.symm.trans q1
  cases (State.methodFound?_of_named hnamed hy).symm.trans q2
  cases hnamed.symm.trans q3
  have hselP : selectMethod e.platform s.vm cellB.cls mk = .method mk := by rw [Launch.admits_selectMethod X.admits]; exact q4
  obtain ⟨vm₁, X₁, hstep₁⟩ := X.invokevirtual hexec hown hlink hnamed hmethM hstM hkP hkPi hy (a := b) (cell := cellB) hcell
    (fun z h => by rw [h] at hobj; cases hobj) hselP hmethM habM hkP hkPi (g := g) hg (argsL := argsL) (rest := rest) (hlen _ hsigM) hstack hdg
  rcases hK m meth c ⟨T.setVm vm₁, locs, cells, slots⟩ { g with stack := rest } (.invokevirtual index) mk (Value.ref b :: argsL).toArray X₁ hg hsize hdg hW (X₁.named hnamed) (hpre vm₁ X₁.warmed) with ⟨v, B, X', hpost, hsteps⟩ | ⟨q, B, X', hpost, hsteps⟩
  · exact Or.inl ⟨v, vm₁, B, X₁.warmed, X', hpost, fun target h => hstep₁ _ fun acts => by rw [doInvoke_state]; exact hsteps.trans h⟩
  · exact Or.inr ⟨q, vm₁, B, X₁.warmed, X', hpost, hstep₁ _ fun acts => by rw [doInvoke_state]; exact hsteps⟩
theorem vx_callS (X : Stand p l e R s m args below meth c T locs cells slots) (hexec : p.tables.exec = Jvm.exec) {own : String} {index : Nat} {y : MethodName} {bytes : ByteArray} {maxL : Nat} {ret : Option FieldType}
    (hown : s.vm.findClass own = some m.cls) (hlink : (Cond.methodLink own index y).before args s = true) (hstat : (Cond.static y).before args s = true) (hinit : (Cond.initialized y.cls).before args s = true)
    (hcode : (Cond.code y bytes maxL ret).before args s = true) (hy : y.cls ≠ "java/lang/invoke/MethodHandle" ∧ y.cls ≠ "java/lang/invoke/VarHandle")
    {W9 : Nat} {Pre : Pt → Array Value → Prop} {Post : Pt → Array Value → Option Value → Pt → Prop} {PostX : Pt → Array Value → Addr → Pt → Prop} (hK : vx_Back l R p e below s args y 3 W9 Pre Post PostX)
    {g : JFrame} (hg : g.method = m) (hsize : g.locals.size = c.maxLocals) {argsL rest : List Value} (hlen : ∀ sig, parseMethodDescriptor y.desc = some sig → argsL.length = sig.parameters.length)
    (hstack : g.stack = argsL.reverse ++ rest) (hW : 2 * g.monitorRoom + (rest.map fun v => v.category).sum ≤ W9) (hdg : decode c.code g.pc = .ok (.invokestatic index, 3))
    (hpre : ∀ vm₁, s.WarmedH vm₁ → Pre ⟨T.setVm vm₁, locs, cells, slots⟩ argsL.toArray) :
    (∃ (v : Option Value) (vm₁ : Vm) (B : Pt), s.WarmedH vm₁ ∧ Stand p l e R s m args below meth c B.U B.locs B.cells B.slots ∧ Post ⟨T.setVm vm₁, locs, cells, slots⟩ argsL.toArray v B ∧
      ∀ target, Steps p.tables e below (B.U.setTop { g with pc := g.pc + 3, stack := v.toList ++ rest }) target → Steps p.tables e below (T.setTop g) target) ∨
    (∃ (q : Addr) (vm₁ : Vm) (B : Pt), s.WarmedH vm₁ ∧ Stand p l e R s m args below meth c B.U B.locs B.cells B.slots ∧ PostX ⟨T.setVm vm₁, locs, cells, slots⟩ argsL.toArray q B ∧
      Steps p.tables e below (T.setTop g) ((B.U.setTop { g with stack := rest }).pushFrame (.throwing q))) := by
  obtain ⟨mk, hnamed⟩ := Cond.code_named hcode
  obtain ⟨methM, cM, hmethM, -, -, -, -, -, -, hsigM⟩ := Cond.code_spec hnamed hcode
  have hstatic : methM.isStatic = true := Cond.static_spec hnamed hmethM hstat
  obtain ⟨kP, hkP, -⟩ := className_of_methodNamed hnamed
  have hinitP : kP.init = .initialized := Cond.initialized_spec (findClass_of_methodNamed hnamed) hkP hinit
  obtain ⟨vm₁, X₁, hstep₁⟩ := X.invokestatic hexec hown hlink hnamed hmethM hstatic hkP hinitP hy (g := g) hg (argsL := argsL) (rest := rest) (hlen _ hsigM) hstack hdg
  rcases hK m meth c ⟨T.setVm vm₁, locs, cells, slots⟩ { g with stack := rest } (.invokestatic index) mk argsL.toArray X₁ hg hsize hdg hW (X₁.named hnamed) (hpre vm₁ X₁.warmed) with ⟨v, B, X', hpost, hsteps⟩ | ⟨q, B, X', hpost, hsteps⟩
  · exact Or.inl ⟨v, vm₁, B, X₁.warmed, X', hpost, fun target h => hstep₁ _ fun acts => by rw [doInvoke_state]; exact hsteps.trans h⟩
  · exact Or.inr ⟨q, vm₁, B, X₁.warmed, X', hpost, hstep₁ _ fun acts => by rw [doInvoke_state]; exact hsteps⟩
end Calls
theorem vx_cls {s : State} {T : State} {vm₁ : Vm} {E : String} {k : ClassId} (hW : s.WarmedH vm₁) (h : (T.setVm vm₁).vm.findClass E = some k) : s.vm.findClass E = some k := by
  have h1 : vm₁.findClass E = some k := h
  rw [hW.alike.findClass] at h1
  exact h1
/-- the method's frame g, with q thrown over it -/
def vx_W (p : Program) (l : Launch) (e : Env) (R : Room) (s : State) (m : MethodId) (args : Array Value) (below : List Frame) (meth : Method) (c : Code) (H : Heap) (locs : List Loc) (cells slots : Nat) (Q : State → Prop) (g : JFrame) (q : Addr) : Prop :=
  ∀ T : State, T.heap = H → Stand p l e R s m args below meth c T locs cells slots → ∃ t, Steps p.tables e below ((T.setTop g).pushFrame (.throwing q)) t ∧ Q t
def vx_Run (p : Program) (l : Launch) (e : Env) (R : Room) (s : State) (m : MethodId) (args : Array Value) (below : List Frame) (meth : Method) (c : Code) (H : Heap) (locs : List Loc) (cells slots mc ms : Nat) (g : JFrame) (rest : List Value) (Qa : State → Outcome → State → Prop) (XC : String → State → State → Prop) (free : Addr → Prop) : Prop :=
  ∀ T : State, T.heap = H → Stand p l e R s m args below meth c T locs cells slots →
    (∃ (v : Option Value) (st₀ t T' : State) (L : List Loc), st₀.heap = H ∧ Stand p l e R s m args below meth c T' (locs ++ L) (cells + mc) (slots + ms) ∧ (∀ q ∈ L, free q.base) ∧ T'.heap = t.heap ∧ T'.vm = t.vm ∧ Qa st₀ (.returned v) t ∧
      Goes p e below T g T' { g with pc := g.pc + 3, stack := v.toList ++ rest }) ∨
    (∃ (q : Addr) (st₀ t T' : State) (L : List Loc) (E : String) (ce : Cell), st₀.heap = H ∧ Stand p l e R s m args below meth c T' (locs ++ L) (cells + mc) (slots + ms) ∧ (∀ z ∈ L, free z.base) ∧ T'.heap = t.heap ∧ T'.vm = t.vm ∧ XC E st₀ t ∧ t.heap[q]? = some ce ∧ ce.vm = .none ∧ s.vm.findClass E = some ce.cls ∧
      Steps p.tables e below (T.setTop g) ((T'.setTop { g with stack := rest }).pushFrame (.throwing q)))
def vx_X {S : Type} (px : S → Prop) (B : String → S → State → Prop) (A : Nat → Prop) : String → State → State → Prop := fun E st t => ∃ u : S, px u ∧ B E u t ∧ va_F A st t
section Runs
variable {p : Program} {l : Launch} {e : Env} {R : Room} {s : State} {m : MethodId} {args : Array Value} {below : List Frame} {meth : Method} {c : Code} {H : Heap} {locs : List Loc} {cells slots : Nat}
variable {y : MethodName} {bytes cc : ByteArray} {maxL nL mc ms n index : Nat} {ret : Option FieldType} {ws : List Cond} {rm : Room} {Pc : Array Value → State → Prop} {Qc : Array Value → State → Outcome → State → Prop} {XC : String → State → State → Prop} {free : Addr → Prop} {Ts : List Cond} {own C : String} {b : Addr} {As rest : List Value} {g : JFrame}
theorem vx_callBack (cb : CallB R s args own index y bytes maxL ret ws rm mc ms n) (hM : vx_Met l y ws rm Pc Qc XC mc ms free) (hbl : FrameBlind Pc) : vx_Back l R p e below s args y 3 8 (PreOf R mc ms Pc) (PostOf Qc mc ms free) (vx_Post XC mc ms free) := by
  obtain ⟨hrc, hrs, hfr, hlo, hws, hcw, -, hini, -⟩ := cb
  exact vx_back (bytes := bytes) (maxL := maxL) (ret := ret) hM hbl hrc hrs hfr hlo hws hcw (fun a' U hW => word_at hW (Or.inl (by first | rfl | simp [Cond.onTables, Cond.keeps, Cond.steady])) hini)
theorem vx_runV (S : CallFix p m c cc nL s args Ts own) (hM : vx_Met l y ws rm Pc Qc XC mc ms free) (cw : CallW R s args own C index y bytes maxL ret ws rm mc ms n) (hp : PreV s H C b Pc As)
    (hg : g.method = m) (hn : As.length = n) (hsize : g.locals.size = nL) (hstack : g.stack = As.reverse ++ .ref b :: rest) (hW : 2 * g.monitorRoom + (rest.map fun v => v.category).sum ≤ 8) (hdg : decode cc g.pc = .ok (.invokevirtual index, 3)) (hf : cells + mc ≤ R.cells ∧ slots + ms ≤ R.slots) :
    vx_Run p l e R s m args below meth c H locs cells slots mc ms g rest (Qc (Value.ref b :: As).toArray) XC free := by
  have hK : vx_Back l R p e below s args y 3 8 (PreOf R mc ms Pc) (PostOf Qc mc ms free) (vx_Post XC mc ms free) := vx_callBack cw.1 hM hp.1
  obtain ⟨⟨-, -, -, -, -, -, hcode, -, hy, hlen, hl⟩, hin, hse⟩ := cw
  obtain ⟨hx, hb, hml, ho, -⟩ := S
  obtain ⟨-, ⟨cellB, hcB, hoB, hclB⟩, hPc⟩ := hp
  intro T hT X
  rcases vx_callV X hx (C := C) (bytes := bytes) (maxL := maxL) (ret := ret) ho hl hin hse hcode hy hK (by rw [hT]; exact hcB) hoB hclB hg (hsize.trans hml.symm) (argsL := As) (rest := rest) (fun sig h => hn.trans (hlen sig h)) hstack hW (by rw [hb]; exact hdg)
    (fun vm₁ hW₁ => ⟨hf.1, hf.2, hPc (T.setVm vm₁) hT hW₁⟩) with ⟨v, vm₁, ⟨U', l2, c2, s2⟩, hW₁, X', ⟨g', mk, t, L, e1, e2, hq, h1, hL, h2, h3⟩, st⟩ | ⟨q, vm₁, ⟨U', l2, c2, s2⟩, hW₁, X', ⟨g', mk, t, L, E, ce, e1, e2, hq, hce, hcv, hcl, h1, hL, h2, h3⟩, st⟩
  · dsimp only [Pt.U, Pt.locs, Pt.cells, Pt.slots] at X' e1 e2 h1 h2 h3 st
    subst h1; subst h2; subst h3
    exact Or.inl ⟨v, (T.setVm vm₁).calling g' mk (Value.ref b :: As).toArray, t, U', L, hT, X', hL, e1, e2, hq, st⟩
  · dsimp only [Pt.U, Pt.locs, Pt.cells, Pt.slots] at X' e1 e2 h1 h2 h3 st hcl
    subst h1; subst h2; subst h3
    exact Or.inr ⟨q, (T.setVm vm₁).calling g' mk (Value.ref b :: As).toArray, t, U', L, E, ce, hT, X', hL, e1, e2, hq, hce, hcv, vx_cls hW₁ hcl, st⟩
theorem vx_runS (S : CallFix p m c cc nL s args Ts own) (hM : vx_Met l y ws rm Pc Qc XC mc ms free) (cw : CallB R s args own index y bytes maxL ret ws rm mc ms n ∧ (Cond.static y).before args s = true) (hp : PreS s H Pc As)
    (hg : g.method = m) (hn : As.length = n) (hsize : g.locals.size = nL) (hstack : g.stack = As.reverse ++ rest) (hW : 2 * g.monitorRoom + (rest.map fun v => v.category).sum ≤ 8) (hdg : decode cc g.pc = .ok (.invokestatic index, 3)) (hf : cells + mc ≤ R.cells ∧ slots + ms ≤ R.slots) :
    vx_Run p l e R s m args below meth c H locs cells slots mc ms g rest (Qc As.toArray) XC free := by
  have hK : vx_Back l R p e below s args y 3 8 (PreOf R mc ms Pc) (PostOf Qc mc ms free) (vx_Post XC mc ms free) := vx_callBack cw.1 hM hp.1
  obtain ⟨⟨-, -, -, -, -, -, hcode, hini, hy, hlen, hl⟩, hstt⟩ := cw
  obtain ⟨hx, hb, hml, ho, -⟩ := S
  intro T hT X
  rcases vx_callS X hx (bytes := bytes) (maxL := maxL) (ret := ret) ho hl hstt hini hcode hy hK hg (hsize.trans hml.symm) (argsL := As) (rest := rest) (fun sig h => hn.trans (hlen sig h)) hstack hW (by rw [hb]; exact hdg)
    (fun vm₁ hW₁ => ⟨hf.1, hf.2, hp.2 (T.setVm vm₁) hT hW₁⟩) with ⟨v, vm₁, ⟨U', l2, c2, s2⟩, hW₁, X', ⟨g', mk, t, L, e1, e2, hq, h1, hL, h2, h3⟩, st⟩ | ⟨q, vm₁, ⟨U', l2, c2, s2⟩, hW₁, X', ⟨g', mk, t, L, E, ce, e1, e2, hq, hce, hcv, hcl, h1, hL, h2, h3⟩, st⟩
  · dsimp only [Pt.U, Pt.locs, Pt.cells, Pt.slots] at X' e1 e2 h1 h2 h3 st
    subst h1; subst h2; subst h3
    exact Or.inl ⟨v, (T.setVm vm₁).calling g' mk As.toArray, t, U', L, hT, X', hL, e1, e2, hq, st⟩
  · dsimp only [Pt.U, Pt.locs, Pt.cells, Pt.slots] at X' e1 e2 h1 h2 h3 st hcl
    subst h1; subst h2; subst h3
    exact Or.inr ⟨q, (T.setVm vm₁).calling g' mk As.toArray, t, U', L, E, ce, hT, X', hL, e1, e2, hq, hce, hcv, vx_cls hW₁ hcl, st⟩
end Runs
section Rows
variable {p : Program} {l : Launch} {e : Env} {R : Room} {s : State} {m : MethodId} {args : Array Value} {below : List Frame} {meth : Method} {c : Code} {H : Heap} {locs : List Loc} {cells slots : Nat} {Q : State → Prop}
variable {mc ms : Nat} {free : Addr → Prop} {A0 A1 : Nat → Prop} {H0 : Heap} {a : Array Value} {pc : Nat} {ls : Array Slot} {st0 rest : List Value}
theorem vx_keep {st₀ t T' : State} {L : List Loc} (h0 : st₀.heap = H) (e1 : T'.heap = t.heap) (hS : va_S A0 H0 H locs) (hA : ∀ q, q < H.size → A1 q → A0 q) (hf : ∀ q, free q → A0 q) (hL : ∀ q ∈ L, free q.base) (hF : va_F A1 st₀ t) :
    H.size ≤ T'.heap.size ∧ (∀ q : Nat, q < H.size → ¬ A1 q → T'.heap[q]? = H[q]?) ∧ va_S A0 H0 T'.heap (locs ++ L) := by
  obtain ⟨hz, hk⟩ := hF
  rw [h0] at hz hk
  exact ⟨by rw [e1]; exact hz, fun q h1 h2 => by rw [e1]; exact hk q h1 h2,
    ⟨Nat.le_trans hS.1 (by rw [e1]; exact hz), fun q h1 h2 => by rw [e1, hk q (Nat.lt_of_lt_of_le h1 hS.1) (fun z => h2 (hA q (Nat.lt_of_lt_of_le h1 hS.1) z))]; exact hS.2.1 q h1 h2, fun q hq => by
      rcases List.mem_append.mp hq with h | h
      · exact hS.2.2 q h
      · exact hf _ (hL q h)⟩⟩
theorem vx_calli {S SX : Type} {post : Int32 → S → Prop} {px : SX → Prop} {B : S → State → Prop} {BX : String → SX → State → Prop} {AX : Nat → Prop} (hr : vx_Run p l e R s m args below meth c H locs cells slots mc ms (F0 m pc ls st0) rest (va_Qi post B A1 a) (vx_X px BX AX) free) (hS : va_S A0 H0 H locs) (hA : ∀ q, q < H.size → A1 q → A0 q) (hf : ∀ q, free q → A0 q) (hAX : ∀ q, q < H.size → AX q → A0 q)
    (kx : ∀ (E : String) (ce : Cell) (q9 : Addr) (u : SX) (t : State) (H1 : Heap) (locs1 : List Loc), t.heap = H1 → s.vm.Alike t.vm → px u → BX E u t → H.size ≤ H1.size → (∀ q : Nat, q < H.size → ¬ AX q → H1[q]? = H[q]?) → va_S A0 H0 H1 locs1 → H1[q9]? = some ce → ce.vm = .none → s.vm.findClass E = some ce.cls → vx_W p l e R s m args below meth c H1 locs1 (cells + mc) (slots + ms) Q (F0 m pc ls rest) q9)
    (kk : ∀ (r : Int32) (u : S) (t : State) (H1 : Heap) (locs1 : List Loc), t.heap = H1 → s.vm.Alike t.vm → post r u → B u t → H.size ≤ H1.size → (∀ q : Nat, q < H.size → ¬ A1 q → H1[q]? = H[q]?) → va_S A0 H0 H1 locs1 → W p l e R s m args below meth c H1 locs1 (cells + mc) (slots + ms) Q (F0 m (pc + 3) ls (.int r :: rest))) : W p l e R s m args below meth c H locs cells slots Q (F0 m pc ls st0) := by
  intro T hT X
  rcases hr T hT X with ⟨v, st₀, t, T', L, h0, X', hL, e1, e2, ⟨⟨r, u, hv, hp, hb⟩, hF⟩, st⟩ | ⟨q, st₀, t, T', L, E, ce, h0, X', hL, e1, e2, ⟨u, hp, hb, hF⟩, hce, hcv, hcl, st⟩
  · cases hv
    obtain ⟨k1, k2, k3⟩ := vx_keep h0 e1 hS hA hf hL hF
    obtain ⟨t2, a1, b1⟩ := kk r u t T'.heap (locs ++ L) e1.symm (by rw [← e2]; exact X'.warmed.alike) hp hb k1 k2 k3 T' rfl X'
    exact ⟨t2, st t2 a1, b1⟩
  · obtain ⟨k1, k2, k3⟩ := vx_keep h0 e1 hS hAX hf hL hF
    obtain ⟨t2, a1, b1⟩ := kx E ce q u t T'.heap (locs ++ L) e1.symm (by rw [← e2]; exact X'.warmed.alike) hp hb k1 k2 k3 (by rw [e1]; exact hce) hcv hcl T' rfl X'
    exact ⟨t2, st.trans a1, b1⟩
theorem vx_calll {S SX : Type} {post : Int64 → S → Prop} {px : SX → Prop} {B : S → State → Prop} {BX : String → SX → State → Prop} {AX : Nat → Prop} (hr : vx_Run p l e R s m args below meth c H locs cells slots mc ms (F0 m pc ls st0) rest (va_Ql post B A1 a) (vx_X px BX AX) free) (hS : va_S A0 H0 H locs) (hA : ∀ q, q < H.size → A1 q → A0 q) (hf : ∀ q, free q → A0 q) (hAX : ∀ q, q < H.size → AX q → A0 q)
    (kx : ∀ (E : String) (ce : Cell) (q9 : Addr) (u : SX) (t : State) (H1 : Heap) (locs1 : List Loc), t.heap = H1 → s.vm.Alike t.vm → px u → BX E u t → H.size ≤ H1.size → (∀ q : Nat, q < H.size → ¬ AX q → H1[q]? = H[q]?) → va_S A0 H0 H1 locs1 → H1[q9]? = some ce → ce.vm = .none → s.vm.findClass E = some ce.cls → vx_W p l e R s m args below meth c H1 locs1 (cells + mc) (slots + ms) Q (F0 m pc ls rest) q9)
    (kk : ∀ (r : Int64) (u : S) (t : State) (H1 : Heap) (locs1 : List Loc), t.heap = H1 → s.vm.Alike t.vm → post r u → B u t → H.size ≤ H1.size → (∀ q : Nat, q < H.size → ¬ A1 q → H1[q]? = H[q]?) → va_S A0 H0 H1 locs1 → W p l e R s m args below meth c H1 locs1 (cells + mc) (slots + ms) Q (F0 m (pc + 3) ls (.long r :: rest))) : W p l e R s m args below meth c H locs cells slots Q (F0 m pc ls st0) := by
  intro T hT X
  rcases hr T hT X with ⟨v, st₀, t, T', L, h0, X', hL, e1, e2, ⟨⟨r, u, hv, hp, hb⟩, hF⟩, st⟩ | ⟨q, st₀, t, T', L, E, ce, h0, X', hL, e1, e2, ⟨u, hp, hb, hF⟩, hce, hcv, hcl, st⟩
  · cases hv
    obtain ⟨k1, k2, k3⟩ := vx_keep h0 e1 hS hA hf hL hF
    obtain ⟨t2, a1, b1⟩ := kk r u t T'.heap (locs ++ L) e1.symm (by rw [← e2]; exact X'.warmed.alike) hp hb k1 k2 k3 T' rfl X'
    exact ⟨t2, st t2 a1, b1⟩
  · obtain ⟨k1, k2, k3⟩ := vx_keep h0 e1 hS hAX hf hL hF
    obtain ⟨t2, a1, b1⟩ := kx E ce q u t T'.heap (locs ++ L) e1.symm (by rw [← e2]; exact X'.warmed.alike) hp hb k1 k2 k3 (by rw [e1]; exact hce) hcv hcl T' rfl X'
    exact ⟨t2, st.trans a1, b1⟩
theorem vx_callf {S SX : Type} {post : UInt32 → S → Prop} {px : SX → Prop} {B : S → State → Prop} {BX : String → SX → State → Prop} {AX : Nat → Prop} (hr : vx_Run p l e R s m args below meth c H locs cells slots mc ms (F0 m pc ls st0) rest (va_Qf post B A1 a) (vx_X px BX AX) free) (hS : va_S A0 H0 H locs) (hA : ∀ q, q < H.size → A1 q → A0 q) (hf : ∀ q, free q → A0 q) (hAX : ∀ q, q < H.size → AX q → A0 q)
    (kx : ∀ (E : String) (ce : Cell) (q9 : Addr) (u : SX) (t : State) (H1 : Heap) (locs1 : List Loc), t.heap = H1 → s.vm.Alike t.vm → px u → BX E u t → H.size ≤ H1.size → (∀ q : Nat, q < H.size → ¬ AX q → H1[q]? = H[q]?) → va_S A0 H0 H1 locs1 → H1[q9]? = some ce → ce.vm = .none → s.vm.findClass E = some ce.cls → vx_W p l e R s m args below meth c H1 locs1 (cells + mc) (slots + ms) Q (F0 m pc ls rest) q9)
    (kk : ∀ (r : UInt32) (u : S) (t : State) (H1 : Heap) (locs1 : List Loc), t.heap = H1 → s.vm.Alike t.vm → post r u → B u t → H.size ≤ H1.size → (∀ q : Nat, q < H.size → ¬ A1 q → H1[q]? = H[q]?) → va_S A0 H0 H1 locs1 → W p l e R s m args below meth c H1 locs1 (cells + mc) (slots + ms) Q (F0 m (pc + 3) ls (.float r :: rest))) : W p l e R s m args below meth c H locs cells slots Q (F0 m pc ls st0) := by
  intro T hT X
  rcases hr T hT X with ⟨v, st₀, t, T', L, h0, X', hL, e1, e2, ⟨⟨r, u, hv, hp, hb⟩, hF⟩, st⟩ | ⟨q, st₀, t, T', L, E, ce, h0, X', hL, e1, e2, ⟨u, hp, hb, hF⟩, hce, hcv, hcl, st⟩
  · cases hv
    obtain ⟨k1, k2, k3⟩ := vx_keep h0 e1 hS hA hf hL hF
    obtain ⟨t2, a1, b1⟩ := kk r u t T'.heap (locs ++ L) e1.symm (by rw [← e2]; exact X'.warmed.alike) hp hb k1 k2 k3 T' rfl X'
    exact ⟨t2, st t2 a1, b1⟩
  · obtain ⟨k1, k2, k3⟩ := vx_keep h0 e1 hS hAX hf hL hF
    obtain ⟨t2, a1, b1⟩ := kx E ce q u t T'.heap (locs ++ L) e1.symm (by rw [← e2]; exact X'.warmed.alike) hp hb k1 k2 k3 (by rw [e1]; exact hce) hcv hcl T' rfl X'
    exact ⟨t2, st.trans a1, b1⟩
theorem vx_calld {S SX : Type} {post : UInt64 → S → Prop} {px : SX → Prop} {B : S → State → Prop} {BX : String → SX → State → Prop} {AX : Nat → Prop} (hr : vx_Run p l e R s m args below meth c H locs cells slots mc ms (F0 m pc ls st0) rest (va_Qd post B A1 a) (vx_X px BX AX) free) (hS : va_S A0 H0 H locs) (hA : ∀ q, q < H.size → A1 q → A0 q) (hf : ∀ q, free q → A0 q) (hAX : ∀ q, q < H.size → AX q → A0 q)
    (kx : ∀ (E : String) (ce : Cell) (q9 : Addr) (u : SX) (t : State) (H1 : Heap) (locs1 : List Loc), t.heap = H1 → s.vm.Alike t.vm → px u → BX E u t → H.size ≤ H1.size → (∀ q : Nat, q < H.size → ¬ AX q → H1[q]? = H[q]?) → va_S A0 H0 H1 locs1 → H1[q9]? = some ce → ce.vm = .none → s.vm.findClass E = some ce.cls → vx_W p l e R s m args below meth c H1 locs1 (cells + mc) (slots + ms) Q (F0 m pc ls rest) q9)
    (kk : ∀ (r : UInt64) (u : S) (t : State) (H1 : Heap) (locs1 : List Loc), t.heap = H1 → s.vm.Alike t.vm → post r u → B u t → H.size ≤ H1.size → (∀ q : Nat, q < H.size → ¬ A1 q → H1[q]? = H[q]?) → va_S A0 H0 H1 locs1 → W p l e R s m args below meth c H1 locs1 (cells + mc) (slots + ms) Q (F0 m (pc + 3) ls (.double r :: rest))) : W p l e R s m args below meth c H locs cells slots Q (F0 m pc ls st0) := by
  intro T hT X
  rcases hr T hT X with ⟨v, st₀, t, T', L, h0, X', hL, e1, e2, ⟨⟨r, u, hv, hp, hb⟩, hF⟩, st⟩ | ⟨q, st₀, t, T', L, E, ce, h0, X', hL, e1, e2, ⟨u, hp, hb, hF⟩, hce, hcv, hcl, st⟩
  · cases hv
    obtain ⟨k1, k2, k3⟩ := vx_keep h0 e1 hS hA hf hL hF
    obtain ⟨t2, a1, b1⟩ := kk r u t T'.heap (locs ++ L) e1.symm (by rw [← e2]; exact X'.warmed.alike) hp hb k1 k2 k3 T' rfl X'
    exact ⟨t2, st t2 a1, b1⟩
  · obtain ⟨k1, k2, k3⟩ := vx_keep h0 e1 hS hAX hf hL hF
    obtain ⟨t2, a1, b1⟩ := kx E ce q u t T'.heap (locs ++ L) e1.symm (by rw [← e2]; exact X'.warmed.alike) hp hb k1 k2 k3 (by rw [e1]; exact hce) hcv hcl T' rfl X'
    exact ⟨t2, st.trans a1, b1⟩
theorem vx_callv {S SX : Type} {post : S → Prop} {px : SX → Prop} {B : S → State → Prop} {BX : String → SX → State → Prop} {AX : Nat → Prop} (hr : vx_Run p l e R s m args below meth c H locs cells slots mc ms (F0 m pc ls st0) rest (va_Qv post B A1 a) (vx_X px BX AX) free) (hS : va_S A0 H0 H locs) (hA : ∀ q, q < H.size → A1 q → A0 q) (hf : ∀ q, free q → A0 q) (hAX : ∀ q, q < H.size → AX q → A0 q)
    (kx : ∀ (E : String) (ce : Cell) (q9 : Addr) (u : SX) (t : State) (H1 : Heap) (locs1 : List Loc), t.heap = H1 → s.vm.Alike t.vm → px u → BX E u t → H.size ≤ H1.size → (∀ q : Nat, q < H.size → ¬ AX q → H1[q]? = H[q]?) → va_S A0 H0 H1 locs1 → H1[q9]? = some ce → ce.vm = .none → s.vm.findClass E = some ce.cls → vx_W p l e R s m args below meth c H1 locs1 (cells + mc) (slots + ms) Q (F0 m pc ls rest) q9)
    (kk : ∀ (u : S) (t : State) (H1 : Heap) (locs1 : List Loc), t.heap = H1 → s.vm.Alike t.vm → post u → B u t → H.size ≤ H1.size → (∀ q : Nat, q < H.size → ¬ A1 q → H1[q]? = H[q]?) → va_S A0 H0 H1 locs1 → W p l e R s m args below meth c H1 locs1 (cells + mc) (slots + ms) Q (F0 m (pc + 3) ls (rest))) : W p l e R s m args below meth c H locs cells slots Q (F0 m pc ls st0) := by
  intro T hT X
  rcases hr T hT X with ⟨v, st₀, t, T', L, h0, X', hL, e1, e2, ⟨⟨u, hv, hp, hb⟩, hF⟩, st⟩ | ⟨q, st₀, t, T', L, E, ce, h0, X', hL, e1, e2, ⟨u, hp, hb, hF⟩, hce, hcv, hcl, st⟩
  · cases hv
    obtain ⟨k1, k2, k3⟩ := vx_keep h0 e1 hS hA hf hL hF
    obtain ⟨t2, a1, b1⟩ := kk u t T'.heap (locs ++ L) e1.symm (by rw [← e2]; exact X'.warmed.alike) hp hb k1 k2 k3 T' rfl X'
    exact ⟨t2, st t2 a1, b1⟩
  · obtain ⟨k1, k2, k3⟩ := vx_keep h0 e1 hS hAX hf hL hF
    obtain ⟨t2, a1, b1⟩ := kx E ce q u t T'.heap (locs ++ L) e1.symm (by rw [← e2]; exact X'.warmed.alike) hp hb k1 k2 k3 (by rw [e1]; exact hce) hcv hcl T' rfl X'
    exact ⟨t2, st.trans a1, b1⟩
/-- caught by the row x of this method's table; the rows ahead don't take it -/
theorem vx_catch {own name : String} {E : String} {ce : Cell} {q : Addr} (hown : s.vm.findClass own = some m.cls) (pre : List ExceptionTableEntry) (x : ExceptionTableEntry) (suf : List ExceptionTableEntry) (hsplit : c.exceptionTable.toList = pre ++ x :: suf)
    (hpass : ∀ z ∈ pre, covers z pc = false ∨ (z.catchType ≠ 0 ∧ ∃ nm : String, (Cond.classLink own z.catchType nm).before args s = true ∧ va_Nc E nm s)) (hx : covers x pc = true) (h0 : x.catchType ≠ 0)
    (hlink : (Cond.classLink own x.catchType name).before args s = true) (hcast : (Cond.castable E name).before args s = true) (hcell : H[q]? = some ce) (hv : ce.vm = .none) (hcl : s.vm.findClass E = some ce.cls)
    (kk : W p l e R s m args below meth c H locs cells slots Q (F0 m x.handlerPc ls [.ref q])) : vx_W p l e R s m args below meth c H locs cells slots Q (F0 m pc ls rest) q := by
  intro T hT X
  have hpl : e.platform.magicAccessors = ({} : Platform).magicAccessors := by rw [X.admits.platform]
  obtain ⟨c3, c4, hc3, hc4, hasg⟩ := Cond.castable_spec hcast
  cases Option.some.inj (hc3.symm.trans hcl)
  obtain ⟨c5, hc5, hcl5⟩ := Cond.classLink_spec hown hlink e.platform hpl
  cases Option.some.inj (hc4.symm.trans hc5)
  obtain ⟨vm', X', st⟩ := X.thenCaughtThrough q (g := F0 m pc ls rest) rfl (Steps.refl _) (by rw [hT]; exact hcell) (by rw [hv]; rfl) (by obtain ⟨k9, h9, -⟩ := Vm.findClass_spec hcl; exact ⟨k9, h9⟩) pre x suf hsplit
    (fun z hz => by
      rcases hpass z hz with h | ⟨hz0, nm, hl1, hn1⟩
      · exact Or.inl h
      · obtain ⟨c6, hc6, hcl6⟩ := Cond.classLink_spec hown hl1 e.platform hpl
        obtain ⟨a8, b8, h1, h2, h3⟩ := hn1
        cases Option.some.inj (h1.symm.trans hcl)
        cases Option.some.inj (h2.symm.trans hc6)
        exact Or.inr ⟨hz0, _, hcl6, h3⟩) hx (Or.inr ⟨h0, c4, hcl5, hasg⟩)
  obtain ⟨t, a1, b1⟩ := kk (T.setVm vm') hT X'
  exact ⟨t, st.trans a1, b1⟩
end Rows
section Ends
variable {p : Program} {l : Launch} {e : Env} {R : Room} {s : State} {m : MethodId} {args : Array Value} {below : List Frame} {meth : Method} {c : Code} {H : Heap} {locs : List Loc} {cells slots : Nat} {Q : State → Prop}
variable {mc ms : Nat} {free : Addr → Prop} {A0 A1 : Nat → Prop} {H0 : Heap} {a : Array Value} {ls : Array Slot} {st0 rest : List Value}
variable {Qc : Array Value → State → Outcome → State → Prop} {XC : String → State → State → Prop}
/-- what a body that may throw owes at its end -/
def vx_MQ (below : List Frame) (Qc : Array Value → State → Outcome → State → Prop) (XC : String → State → State → Prop) (a : Array Value) (s : State) (mc ms : Nat) (free : Addr → Prop) : State → Prop := fun t =>
  ∃ o, t.status = .running ∧ Ended t below o ∧ vx_Q Qc XC mc ms free a s o t
theorem vx_ret {g : JFrame} {mc ms : Nat} (k : W p l e R s m args below meth c H locs cells slots (MQ below Qc args s mc ms free) g) : W p l e R s m args below meth c H locs cells slots (vx_MQ below Qc XC args s mc ms free) g := by
  intro T hT X
  obtain ⟨t, a1, o, b1, b2, b3, b4⟩ := k T hT X
  exact ⟨t, a1, o, b1, b2, Or.inl ⟨b3, b4⟩⟩
/-- not caught here: it goes on to the caller -/
theorem vx_widen {g : JFrame} {q : Addr} {k n : Nat} (h1 : cells ≤ k) (h2 : slots ≤ n) (kk : vx_W p l e R s m args below meth c H locs k n Q g q) : vx_W p l e R s m args below meth c H locs cells slots Q g q := fun T hT X => kk T hT (stand_widen X h1 h2)
theorem vx_out {pc : Nat} {E : String} {ce : Cell} {q : Addr} {mc ms : Nat} (hout : ∀ x ∈ c.exceptionTable.toList, covers x pc = false) (hlocks : meth.locks = false) (hcell : H[q]? = some ce) (hv : ce.vm = .none) (hcl : s.vm.findClass E = some ce.cls)
    (hx : ∀ t : State, t.heap = H → s.vm.Alike t.vm → XC E s t) (hf : ∀ z ∈ locs, free z.base) (hc : cells ≤ mc) (hs : slots ≤ ms) :
    vx_W p l e R s m args below meth c H locs cells slots (vx_MQ below Qc XC args s mc ms free) (F0 m pc ls rest) q := by
  intro T hT X
  obtain ⟨st1, hrun, hend, hW, hsm⟩ := X.leaveThrown q (g := F0 m pc ls rest) rfl rfl rfl hout hlocks
  have hcell9 : (T.setFrames (.throwing q :: below)).heap[q]? = some ce := by
    show T.heap[q]? = some ce
    rw [hT]; exact hcell
  exact ⟨_, st1, .threw q, hrun, hend, Or.inr ⟨q, rfl, E, ce, locs, hx _ hT hW.alike, hcell9, hv, hcl, hW, hsm.mono hc hs, hf⟩⟩
theorem vx_frame {U : State} {k n : Nat} (h : s.sameButNew ({ U with vm := s.vm } : State) locs k n) : s.heap.size ≤ U.heap.size ∧ ∀ q : Nat, q < s.heap.size → (∀ z ∈ locs, z.base ≠ q) → U.heap[q]? = s.heap[q]? := by
  obtain ⟨-, h2, -, -, -, h6⟩ := h
  refine ⟨h2, fun q hq hz => ?_⟩
  obtain ⟨c9, e1, e2, e3, e4⟩ := h6 q _ (Array.getElem?_eq_getElem hq)
  have hs : c9.slots = (s.heap[q]).slots := Array.ext_getElem? fun i => e4 i fun hm => hz _ hm rfl
  have h9 : c9 = s.heap[q] := by
    rw [hs] at e2
    exact e2
  have e5 : U.heap[q]? = some c9 := e1
  rw [e5, h9, Array.getElem?_eq_getElem hq]
/-- the words of a throw but the four that speak of the heap -/
def vx_no (w : Cond) : Bool := decide (w ≠ .isRef (.static Bundle.tN "UNASSIGNED_STACK" Bundle.steD)) && decide (w ≠ .isRef (.static Bundle.tN "SUPPRESSED_SENTINEL" Bundle.listD)) && decide (w ≠ .laysStatic Bundle.tN "UNASSIGNED_STACK" Bundle.steD) && decide (w ≠ .laysStatic Bundle.tN "SUPPRESSED_SENTINEL" Bundle.listD)
def vx_at0 (own : String) (ic : Nat) (X : String) (names : List String) : List Cond := (Bundle.ownAtoms0 own ic X names).filter vx_no
def vx_atS (own : String) (ic : Nat) (X : String) (names : List String) : List Cond := (Bundle.ownAtoms own ic X names).filter vx_no
/-- a word that the tables alone decide, or a good one -/
def vx_ot (w : Cond) : Bool := w.onTables || goodWord w
theorem vx_ot_at {args a' : Array Value} {s U : State} {w : Cond} (hW : s.WarmedH U.vm) (hvm : s.vm = U.vm) (hg : vx_ot w = true) (h : w.before args s = true) : w.before a' U = true := by
  simp only [vx_ot, Bool.or_eq_true] at hg
  rcases hg with hg | hg
  · exact va_tabs hg hvm h
  · exact word_at hW (good_of_word hg) h
/-- a list's words: the good ones out of the method's own list, the others by premises of their own -/
theorem vx_hat {args : Array Value} {s : State} {L B : List Cond} (h1 : ∀ w ∈ L.filter goodWord, w.before args s = true) (h2 : ∀ w ∈ L.filter (fun w => !goodWord w), w ∈ B) (h3 : ∀ w ∈ B, w.before args s = true) : ∀ w ∈ L, w.before args s = true := by
  intro w hw
  by_cases g : goodWord w = true
  · exact h1 w (List.mem_filter.mpr ⟨hw, g⟩)
  · refine h3 w (h2 w (List.mem_filter.mpr ⟨hw, ?_⟩))
    show (!goodWord w) = true
    cases hgw : goodWord w
    · rfl
    · exact absurd hgw g
theorem vx_c {args : Array Value} {s : State} {w : Cond} {B : List Cond} (h : w.before args s = true) (t : ∀ w ∈ B, w.before args s = true) : ∀ w' ∈ w :: B, w'.before args s = true := fun w' h' => (List.mem_cons.mp h').elim (fun e => by rw [e]; exact h) (t w')
theorem vx_n {args : Array Value} {s : State} : ∀ w ∈ ([] : List Cond), w.before args s = true := fun _ h => nomatch h
theorem vx_own {args : Array Value} {s : State} {L : List Cond} (h1 : ∀ w ∈ L.filter vx_no, w.before args s = true)
    (hU : (Cond.isRef (.static Bundle.tN "UNASSIGNED_STACK" Bundle.steD)).before args s = true) (hN : (Cond.isRef (.static Bundle.tN "SUPPRESSED_SENTINEL" Bundle.listD)).before args s = true)
    (lU : (Cond.laysStatic Bundle.tN "UNASSIGNED_STACK" Bundle.steD).before args s = true) (lN : (Cond.laysStatic Bundle.tN "SUPPRESSED_SENTINEL" Bundle.listD).before args s = true) : ∀ w ∈ L, w.before args s = true := by
  intro w hw
  by_cases e1 : w = .isRef (.static Bundle.tN "UNASSIGNED_STACK" Bundle.steD)
  · rw [e1]; exact hU
  · by_cases e2 : w = .isRef (.static Bundle.tN "SUPPRESSED_SENTINEL" Bundle.listD)
    · rw [e2]; exact hN
    · by_cases e3 : w = .laysStatic Bundle.tN "UNASSIGNED_STACK" Bundle.steD
      · rw [e3]; exact lU
      · by_cases e4 : w = .laysStatic Bundle.tN "SUPPRESSED_SENTINEL" Bundle.listD
        · rw [e4]; exact lN
        · exact h1 w (List.mem_filter.mpr ⟨hw, by unfold vx_no; rw [decide_eq_true e1, decide_eq_true e2, decide_eq_true e3, decide_eq_true e4]; rfl⟩)
/-- where a static field lies, its class's statics cell in H -/
def vx_L (C n d : String) (A : Nat → Prop) (U : State) (H : Heap) : Prop := ∃ (c : ClassId) (k : Class) (i : Nat) (f : Field) (a : Nat) (cell : Cell), U.vm.findClass C = some c ∧ U.fieldFound? C n d = some (c, k, i, f) ∧ f.isStatic = true ∧ k.statics = some a ∧ H[a]? = some cell ∧ cell.vm.isStatics = true ∧ cell.cls = c ∧ f.slot < cell.slots.size ∧ k.staticTypes[f.slot]? = some f.type ∧ ¬ A a
theorem vx_L.moved {C n d : String} {A : Nat → Prop} {u U : State} {H : Heap} (hvm : u.vm.Alike U.vm) (h : vx_L C n d A u H) : vx_L C n d A U H := by
  obtain ⟨c, k, i, f, a, cell, h1, h2, h3, h4, h5, h6, h7, h8, h9, h10⟩ := h
  obtain ⟨k', hi', he⟩ := State.fieldFound?_setVm hvm h2
  exact ⟨c, k', i, f, a, cell, by rw [hvm.findClass]; exact h1, hi', h3, by rw [he]; exact h4, h5, h6, h7, h8, by rw [he]; exact h9, h10⟩
theorem vx_L.kept {C n d : String} {A : Nat → Prop} {U : State} {H H1 : Heap} (h : vx_L C n d A U H) (hq : ∀ a : Nat, a < H.size → ¬ A a → H1[a]? = H[a]?) : vx_L C n d A U H1 := by
  obtain ⟨c, k, i, f, a, cell, h1, h2, h3, h4, h5, h6, h7, h8, h9, h10⟩ := h
  exact ⟨c, k, i, f, a, cell, h1, h2, h3, h4, by rw [hq a (Array.getElem?_eq_some_iff.mp h5).1 h10]; exact h5, h6, h7, h8, h9, h10⟩
theorem vx_L.narrow {C n d : String} {A B : Nat → Prop} {U : State} {H : Heap} (h : vx_L C n d A U H) (hAB : ∀ q, B q → A q) : vx_L C n d B U H := by
  obtain ⟨c, k, i, f, a, cell, h1, h2, h3, h4, h5, h6, h7, h8, h9, h10⟩ := h
  exact ⟨c, k, i, f, a, cell, h1, h2, h3, h4, h5, h6, h7, h8, h9, fun z => h10 (hAB _ z)⟩
theorem vx_L.word {C n d : String} {A : Nat → Prop} {s : State} {args : Array Value} (h : vx_L C n d A s s.heap) : (Cond.laysStatic C n d).before args s = true := by
  obtain ⟨c, k, i, f, a, cell, h1, h2, h3, h4, h5, h6, h7, h8, h9, -⟩ := h
  show (Cond.laysStatic C n d).holds args s none s [] = true
  exact Cond.laysStatic_of h1 h2 h3 h4 h5 h6 h7 h8 h9
/-- .. and what it holds: null or some reference -/
def vx_Zq (C n d : String) (A : Nat → Prop) (U : State) (H : Heap) : Prop := va_Zq C n d A U H ∧ vx_L C n d A U H
theorem vx_Zq.moved {C n d : String} {A : Nat → Prop} {u U : State} {H : Heap} (hvm : u.vm.Alike U.vm) (h : vx_Zq C n d A u H) : vx_Zq C n d A U H := ⟨va_Zq.moved hvm h.1, vx_L.moved hvm h.2⟩
theorem vx_Zq.kept {C n d : String} {A : Nat → Prop} {U : State} {H H1 : Heap} (h : vx_Zq C n d A U H) (hq : ∀ a : Nat, a < H.size → ¬ A a → H1[a]? = H[a]?) : vx_Zq C n d A U H1 := ⟨va_Zq.kept h.1 hq, vx_L.kept h.2 hq⟩
theorem vx_Zq.narrow {C n d : String} {A B : Nat → Prop} {U : State} {H : Heap} (h : vx_Zq C n d A U H) (hAB : ∀ q, B q → A q) : vx_Zq C n d B U H := ⟨va_Zq.narrow h.1 hAB, vx_L.narrow h.2 hAB⟩
theorem vx_Zqof {args : Array Value} {s : State} {C n d : String} {A : Nat → Prop} (hl : (Cond.laysStatic C n d).before args s = true) (hini : (Cond.initialized C).before args s = true) (h : (Cond.isRef (.static C n d)).before args s = true) (hA : ∀ a : Nat, a < s.heap.size → ¬ A a) : vx_Zq C n d A s s.heap := by
  refine ⟨va_Zqof hl hini h hA, ?_⟩
  obtain ⟨c, k, i, f, a, cell, h1, h2, h3, h4, h5, h6, h7, h8, h9⟩ := Cond.laysStatic_spec hl
  exact ⟨c, k, i, f, a, cell, h1, h2, h3, h4, h5, h6, h7, h8, h9, hA a (Array.getElem?_eq_some_iff.mp h5).1⟩
theorem vx_isRef {C n d : String} {v : Value} {A : Nat → Prop} {s : State} {args : Array Value} (h : va_Z C n d v A s s.heap) (hv : v.isRef = true) : (Cond.isRef (.static C n d)).before args s = true := by
  obtain ⟨cf, kf, fi, f, a, cell, h1, h2, h3, h4, h5, h6, h7, -⟩ := h
  have he : (Term.static C n d).eval args s none [] s = some v := by
    simp [Term.eval, State.fieldNamed?, h1, h2, h4, h5, h6, h7]
  simp only [Cond.before, Cond.holds, Cond.value, he]
  cases v <;> simp_all [Value.isRef]
theorem vx_isRefq {C n d : String} {A : Nat → Prop} {s : State} {args : Array Value} (h : va_Zq C n d A s s.heap) : (Cond.isRef (.static C n d)).before args s = true := by
  rcases h with h | ⟨t, h⟩
  · exact vx_isRef h rfl
  · exact vx_isRef h rfl
/-- the same frame, seen from here: as if the method were called anew in this heap -/
theorem vx_rebase {T : State} (X : Stand p l e R s m args below meth c T locs cells slots) {R' : Room} (hf : R'.frames ≤ R.frames) (hl : R'.locals ≤ R.locals) (hc : cells + R'.cells ≤ R.cells) (hs : slots + R'.slots ≤ R.slots) :
    Stand p l e R' ((T.setVm s.vm).setFrames (.invoking m args :: below)) m args below meth c T [] 0 0 := by
  have htop : (T.setVm s.vm).topJava?.isSome := X.here.top
  have hF : ((T.setVm s.vm).setFrames (.invoking m args :: below)).frames = .invoking m args :: below := State.frames_setFrames _ (State.cur_lt_of_top htop)
  obtain ⟨g₀, hg0⟩ := Option.isSome_iff_exists.mp htop
  obtain ⟨r, hr⟩ := State.topJava?_eq_some.mp hg0
  have hl9 : e.platform.stackLimits (T.setVm s.vm).me = e.platform.stackLimits s.me := X.limits
  have hb9 : (T.setVm s.vm).me.stackBytes = s.me.stackBytes := X.bytes
  refine ⟨X.admits, X.cas, X.clock, hF, ?_, X.hears, X.method, X.code, X.here, X.tail, X.warmed, ?_, ?_, ?_⟩
  · have h := X.room
    have hU : ((T.setVm s.vm).setFrames (.invoking m args :: below)).localsInUse = s.localsInUse := by
      rw [State.localsInUse_invoking hF (meth := meth) (c := c) X.method X.code, State.localsInUse_invoking X.frames X.method X.code]
    simp only [State.hasRoom, Bool.and_eq_true, decide_eq_true_eq] at h ⊢
    obtain ⟨⟨⟨⟨h1, h2, h3, h4, h5, h6⟩, h7⟩, h8⟩, h9⟩ := h
    rw [X.frames, List.length_cons] at h2 h3
    have q1 := X.heapSize
    have q2 := X.used
    simp only [hF, hU, List.length_cons, State.stackLimits_setFrames, State.stackBytes_setFrames, hl9, hb9]
    refine ⟨⟨⟨⟨by omega, by omega, by omega, by omega, by omega, h6⟩, ?_⟩, ?_⟩, X.book⟩
    · show T.heap.size + R'.cells ≤ e.platform.maxCells
      omega
    · show T.slotsUsed + R'.slots ≤ e.platform.maxSlots
      omega
  · rw [State.stackLimits_setFrames]; rfl
  · rw [State.stackBytes_setFrames]; rfl
  · refine ⟨?_, Nat.le_refl _, Nat.le_refl _, ?_, ?_, fun a c9 h9 => ⟨c9, h9, rfl, rfl, fun _ _ => rfl⟩⟩
    · obtain ⟨t, ht, -⟩ := State.frames_cons hr
      show T.setVm s.vm = { ((T.setVm s.vm).setFrames (.invoking m args :: below)).setFrames (T.setVm s.vm).frames with heap := T.heap, slotsUsed := T.slotsUsed }
      rw [State.setFrames_setFrames, State.setFrames_self ht]
      rfl
    · show T.slotsUsed = T.slotsUsed + ((T.heap.toList.drop T.heap.size).map (·.slots.size)).sum
      rw [List.drop_eq_nil_of_le (Nat.le_of_eq Array.length_toList)]
      rfl
    · show ((T.heap.toList.drop T.heap.size).map (·.slots.size)).sum ≤ 0
      rw [List.drop_eq_nil_of_le (Nat.le_of_eq Array.length_toList)]
      exact Nat.le_refl _
/-- 'throw new E()': new; dup; invokespecial; athrow -/
theorem vx_throw0 {cc : ByteArray} {pc : Nat} (hexec : p.tables.exec = Jvm.exec) (hb : c.code = cc) (hl : l.stackTraces = false) {own cls : String} {names : List String} {ik ic mc ms : Nat} {A : Nat → Prop}
    (hown : s.vm.findClass own = some m.cls) (hcls : Bundle.fit cls = true) (hnames : ∀ n ∈ names, Bundle.fit n = true)
    (hk : (Cond.classLink own ik cls).before args s = true) (hini : (Cond.initialized cls).before args s = true) (hat : ∀ w ∈ vx_at0 own ic cls names, w.before args s = true)
    (hgood : ∀ w ∈ Cond.classLink own ik cls :: Cond.initialized cls :: vx_at0 own ic cls names, vx_ot w = true)
    (hU : vx_Zq Bundle.tN "UNASSIGNED_STACK" Bundle.steD A s s.heap) (hN : vx_Zq Bundle.tN "SUPPRESSED_SENTINEL" Bundle.listD A s s.heap) (hS : va_S A s.heap H locs) (hsize : ls.size = c.maxLocals)
    (d0 : decode cc pc = .ok (.new ik, 3)) (d3 : decode cc (pc + 3) = .ok (.dup, 1)) (d4 : decode cc (pc + 4) = .ok (.invokespecial ic, 3)) (d7 : decode cc (pc + 7) = .ok (.athrow, 1))
    (hout : ∀ x ∈ c.exceptionTable.toList, covers x (pc + 7) = false)
    (hRframes : names.length + 3 < R.frames) (hRlocals : (rest.map fun v => v.category).sum + (13 * (names.length + 1) + 42) ≤ R.locals) (hRcells : cells + 1 ≤ R.cells) (hRslots : slots + 6 ≤ R.slots) (hlocks : meth.locks = false)
    (hx : ∀ t : State, s.vm.Alike t.vm → H.size ≤ t.heap.size → (∀ q : Nat, q < H.size → t.heap[q]? = H[q]?) → XC cls s t)
    (hf : ∀ z ∈ locs, free z.base) (hc : cells + 1 ≤ mc) (hs : slots + 6 ≤ ms) :
    W p l e R s m args below meth c H locs cells slots (vx_MQ below Qc XC args s mc ms free) (F0 m pc ls rest) := by
  intro T hT X
  have htr : e.platform.stackTraces = false := (show e.platform.stackTraces = l.stackTraces by rw [X.admits.platform]).trans hl
  have Y := vx_rebase X (R' := { frames := R.frames, locals := R.locals, cells := 1, slots := 6 }) (Nat.le_refl _) (Nat.le_refl _) hRcells hRslots
  obtain ⟨s', hA⟩ : ∃ z, z = (T.setVm s.vm).setFrames (.invoking m args :: below) := ⟨_, rfl⟩
  rw [← hA] at Y
  have hvm : s'.vm = s.vm := by rw [hA]; rfl
  have hhp : s'.heap = H := by rw [hA]; exact hT
  have hW0 : s.WarmedH s'.vm := by rw [hvm]; exact State.WarmedH.refl s
  have hat' : ∀ w ∈ vx_at0 own ic cls names, w.before args s' = true := fun w hw => vx_ot_at hW0 hvm.symm (hgood w (List.mem_cons_of_mem _ (List.mem_cons_of_mem _ hw))) (hat w hw)
  have hk' : (Cond.classLink own ik cls).before args s' = true := vx_ot_at hW0 hvm.symm (hgood _ List.mem_cons_self) hk
  have hini' : (Cond.initialized cls).before args s' = true := vx_ot_at hW0 hvm.symm (hgood _ (List.mem_cons_of_mem _ List.mem_cons_self)) hini
  have hU' : vx_Zq Bundle.tN "UNASSIGNED_STACK" Bundle.steD A s' s'.heap := by rw [hhp]; exact vx_Zq.moved hW0.alike (hU.kept hS.2.1)
  have hN' : vx_Zq Bundle.tN "SUPPRESSED_SENTINEL" Bundle.listD A s' s'.heap := by rw [hhp]; exact vx_Zq.moved hW0.alike (hN.kept hS.2.1)
  have h : ∀ w ∈ Bundle.ownAtoms0 own ic cls names, w.before args s' = true := vx_own hat' (vx_isRefq hU'.1) (vx_isRefq hN'.1) hU'.2.word hN'.2.word
  have hown' : s'.vm.findClass own = some m.cls := by rw [hvm]; exact hown
  have hins : (Cond.instantiable cls 6).before args s' = true := h _ (by simp [Bundle.ownAtoms0])
  obtain ⟨vm₁, cX, kX, hfX, hkX, -, -, X₁, st1⟩ := Y.newCold hexec (own := own) (C := cls) (index := ik) (n := 6) hown' hk' hins hini'
    (g := F0 m pc ls rest) rfl (by rw [hb]; exact d0) (Nat.le_refl _) (Nat.le_refl _)
  generalize hT1 : (T.setVm vm₁).pushCell { cls := cX, slots := kX.instanceTypes.map defaultValue, vm := .none } = T1 at X₁ st1
  have hcat : (Value.ref T.heap.size).category = 1 := rfl
  have hcellA : T1.heap[T.heap.size]? = some (freshCell cX kX) := by rw [← hT1]; exact State.heap_pushCell_size _ _
  have d3' : decode c.code (pc + 3) = .ok (.dup, 1) := by rw [hb]; exact d3
  obtain ⟨U, hsteps, hrun, hend, hW, hsame, ce, hce, hO⟩ := X₁.ctorThrow0 hexec htr (own := own) (cls := cls) (names := names) (ic := ic) hown' hcls hnames h (fun x hx => nomatch hx) hfX hkX hcellA (by rw [hhp, hT]; exact Nat.le_refl _)
    (g := { method := m, pc := pc + 4, locals := ls, stack := .ref T.heap.size :: .ref T.heap.size :: rest, locked := none }) rfl hsize rfl rfl (rest := rest) rfl
    (by rw [hb]; exact d4) (by rw [hb]; exact d7) hout hRframes (by simp only [List.map_cons, List.sum_cons, hcat]; omega) hlocks
  obtain ⟨f1, f2⟩ := vx_frame hsame
  rw [hhp] at f1 f2
  have hWs : s.WarmedH U.vm := State.WarmedH.trans hW0 hW
  have hcl : s.vm.findClass cls = some ce.cls := by
    have h9 := hO.cls
    rw [hvm] at h9
    exact h9
  have hall : s.sameButNew ({ U with vm := s.vm } : State) locs mc ms := by
    subst hA
    obtain ⟨e1, e2⟩ := hsame
    rw [State.setFrames_setFrames] at e1
    have h2 : (T.setVm s.vm).sameButNew ({ U with vm := s.vm } : State) [] (0 + 1) (0 + 6) := ⟨e1, e2⟩
    have h3 := X.same.trans h2
    rw [List.append_nil] at h3
    exact h3.mono hc hs
  refine ⟨U, ?_, .threw T.heap.size, hrun, hend, Or.inr ⟨T.heap.size, rfl, cls, ce, locs, hx U hWs.alike f1 (fun q hq => f2 q hq (fun z hz => nomatch hz)), hce, hO.vm, hcl, hWs, hall, hf⟩⟩
  refine st1 _ ?_
  show Steps p.tables e below (T1.setTop { method := m, pc := pc + 3, locals := ls, stack := .ref T.heap.size :: rest, locked := none }) _
  jvm_step X₁.here [X₁.here.top, hexec, d3', Value.category]
  exact hsteps
/-- 'throw new E("text")': new; dup; ldc; invokespecial; athrow -/
theorem vx_throwS {cc : ByteArray} {pc : Nat} (hexec : p.tables.exec = Jvm.exec) (hb : c.code = cc) (hl : l.stackTraces = false) {own cls text : String} {names : List String} {ik is ic mc ms sa : Nat} {A : Nat → Prop}
    (hown : s.vm.findClass own = some m.cls) (hcls : Bundle.fit cls = true) (hnames : ∀ n ∈ names, Bundle.fit n = true)
    (hk : (Cond.classLink own ik cls).before args s = true) (hini : (Cond.initialized cls).before args s = true) (hstr : vk_R own is text sa s) (hat : ∀ w ∈ vx_atS own ic cls names, w.before args s = true)
    (hgood : ∀ w ∈ Cond.classLink own ik cls :: Cond.initialized cls :: vx_atS own ic cls names, vx_ot w = true)
    (hU : vx_Zq Bundle.tN "UNASSIGNED_STACK" Bundle.steD A s s.heap) (hN : vx_Zq Bundle.tN "SUPPRESSED_SENTINEL" Bundle.listD A s s.heap) (hS : va_S A s.heap H locs) (hsize : ls.size = c.maxLocals)
    (d0 : decode cc pc = .ok (.new ik, 3)) (d3 : decode cc (pc + 3) = .ok (.dup, 1)) (d4 : decode cc (pc + 4) = .ok (.ldc is, 2)) (d6 : decode cc (pc + 6) = .ok (.invokespecial ic, 3)) (d9 : decode cc (pc + 9) = .ok (.athrow, 1))
    (hout : ∀ x ∈ c.exceptionTable.toList, covers x (pc + 9) = false)
    (hRframes : names.length + 3 < R.frames) (hRlocals : (rest.map fun v => v.category).sum + (13 * (names.length + 1) + 43) ≤ R.locals) (hRcells : cells + 1 ≤ R.cells) (hRslots : slots + 6 ≤ R.slots) (hlocks : meth.locks = false)
    (hx : ∀ t : State, s.vm.Alike t.vm → H.size ≤ t.heap.size → (∀ q : Nat, q < H.size → t.heap[q]? = H[q]?) → XC cls s t)
    (hf : ∀ z ∈ locs, free z.base) (hc : cells + 1 ≤ mc) (hs : slots + 6 ≤ ms) :
    W p l e R s m args below meth c H locs cells slots (vx_MQ below Qc XC args s mc ms free) (F0 m pc ls rest) := by
  intro T hT X
  have htr : e.platform.stackTraces = false := (show e.platform.stackTraces = l.stackTraces by rw [X.admits.platform]).trans hl
  have Y := vx_rebase X (R' := { frames := R.frames, locals := R.locals, cells := 1, slots := 6 }) (Nat.le_refl _) (Nat.le_refl _) hRcells hRslots
  obtain ⟨s', hA⟩ : ∃ z, z = (T.setVm s.vm).setFrames (.invoking m args :: below) := ⟨_, rfl⟩
  rw [← hA] at Y
  have hvm : s'.vm = s.vm := by rw [hA]; rfl
  have hhp : s'.heap = H := by rw [hA]; exact hT
  have hW0 : s.WarmedH s'.vm := by rw [hvm]; exact State.WarmedH.refl s
  have hat' : ∀ w ∈ vx_atS own ic cls names, w.before args s' = true := fun w hw => vx_ot_at hW0 hvm.symm (hgood w (List.mem_cons_of_mem _ (List.mem_cons_of_mem _ hw))) (hat w hw)
  have hk' : (Cond.classLink own ik cls).before args s' = true := vx_ot_at hW0 hvm.symm (hgood _ List.mem_cons_self) hk
  have hini' : (Cond.initialized cls).before args s' = true := vx_ot_at hW0 hvm.symm (hgood _ (List.mem_cons_of_mem _ List.mem_cons_self)) hini
  have hU' : vx_Zq Bundle.tN "UNASSIGNED_STACK" Bundle.steD A s' s'.heap := by rw [hhp]; exact vx_Zq.moved hW0.alike (hU.kept hS.2.1)
  have hN' : vx_Zq Bundle.tN "SUPPRESSED_SENTINEL" Bundle.listD A s' s'.heap := by rw [hhp]; exact vx_Zq.moved hW0.alike (hN.kept hS.2.1)
  have h : ∀ w ∈ Bundle.ownAtoms own ic cls names, w.before args s' = true := vx_own hat' (vx_isRefq hU'.1) (vx_isRefq hN'.1) hU'.2.word hN'.2.word
  have hown' : s'.vm.findClass own = some m.cls := by rw [hvm]; exact hown
  have hins : (Cond.instantiable cls 6).before args s' = true := h _ (by simp [Bundle.ownAtoms])
  obtain ⟨vm₁, cX, kX, hfX, hkX, -, -, X₁, st1⟩ := Y.newCold hexec (own := own) (C := cls) (index := ik) (n := 6) hown' hk' hins hini'
    (g := F0 m pc ls rest) rfl (by rw [hb]; exact d0) (Nat.le_refl _) (Nat.le_refl _)
  generalize hT1 : (T.setVm vm₁).pushCell { cls := cX, slots := kX.instanceTypes.map defaultValue, vm := .none } = T1 at X₁ st1
  have hcat : (Value.ref T.heap.size).category = 1 := rfl
  have hcellA : T1.heap[T.heap.size]? = some (freshCell cX kX) := by rw [← hT1]; exact State.heap_pushCell_size _ _
  have d3' : decode c.code (pc + 3) = .ok (.dup, 1) := by rw [hb]; exact d3
  have d4' : decode c.code (pc + 4) = .ok (.ldc is, 2) := by rw [hb]; exact d4
  have hstr' : vk_R own is text sa s' := vk_R.warm hW0 hstr
  obtain ⟨U, hsteps, hrun, hend, hW, hsame, ce, hce, hO⟩ := X₁.ctorThrowS hexec htr (own := own) (cls := cls) (names := names) (ic := ic) hown' hcls hnames h (fun x hx => nomatch hx) hfX hkX hcellA (by rw [hhp, hT]; exact Nat.le_refl _) (msg := .ref sa) rfl
    (g := { method := m, pc := pc + 6, locals := ls, stack := .ref sa :: .ref T.heap.size :: .ref T.heap.size :: rest, locked := none }) rfl hsize rfl rfl (rest := rest) rfl
    (by rw [hb]; exact d6) (by rw [hb]; exact d9) hout hRframes (by simp only [List.map_cons, List.sum_cons, hcat]; omega) hlocks
  obtain ⟨f1, f2⟩ := vx_frame hsame
  rw [hhp] at f1 f2
  have hWs : s.WarmedH U.vm := State.WarmedH.trans hW0 hW
  have hcl : s.vm.findClass cls = some ce.cls := by
    have h9 := hO.cls
    rw [hvm] at h9
    exact h9
  have hall : s.sameButNew ({ U with vm := s.vm } : State) locs mc ms := by
    subst hA
    obtain ⟨e1, e2⟩ := hsame
    rw [State.setFrames_setFrames] at e1
    have h2 : (T.setVm s.vm).sameButNew ({ U with vm := s.vm } : State) [] (0 + 1) (0 + 6) := ⟨e1, e2⟩
    have h3 := X.same.trans h2
    rw [List.append_nil] at h3
    exact h3.mono hc hs
  refine ⟨U, ?_, .threw T.heap.size, hrun, hend, Or.inr ⟨T.heap.size, rfl, cls, ce, locs, hx U hWs.alike f1 (fun q hq => f2 q hq (fun z hz => nomatch hz)), hce, hO.vm, hcl, hWs, hall, hf⟩⟩
  refine st1 _ ?_
  show Steps p.tables e below (T1.setTop { method := m, pc := pc + 3, locals := ls, stack := .ref T.heap.size :: rest, locked := none }) _
  jvm_step X₁.here [X₁.here.top, hexec, d3', Value.category]
  exact X₁.ldcString hexec (own := own) (text := text) (index := is) (a := sa) hown' hstr'.1 hstr'.2
    (g := { method := m, pc := pc + 4, locals := ls, stack := .ref T.heap.size :: .ref T.heap.size :: rest, locked := none }) rfl d4' _ hsteps
/-- 'throw new E("text")', the text by a wide index -/
theorem vx_throwSW {cc : ByteArray} {pc : Nat} (hexec : p.tables.exec = Jvm.exec) (hb : c.code = cc) (hl : l.stackTraces = false) {own cls text : String} {names : List String} {ik is ic mc ms sa : Nat} {A : Nat → Prop}
    (hown : s.vm.findClass own = some m.cls) (hcls : Bundle.fit cls = true) (hnames : ∀ n ∈ names, Bundle.fit n = true)
    (hk : (Cond.classLink own ik cls).before args s = true) (hini : (Cond.initialized cls).before args s = true) (hstr : vk_R own is text sa s) (hat : ∀ w ∈ vx_atS own ic cls names, w.before args s = true)
    (hgood : ∀ w ∈ Cond.classLink own ik cls :: Cond.initialized cls :: vx_atS own ic cls names, vx_ot w = true)
    (hU : vx_Zq Bundle.tN "UNASSIGNED_STACK" Bundle.steD A s s.heap) (hN : vx_Zq Bundle.tN "SUPPRESSED_SENTINEL" Bundle.listD A s s.heap) (hS : va_S A s.heap H locs) (hsize : ls.size = c.maxLocals)
    (d0 : decode cc pc = .ok (.new ik, 3)) (d3 : decode cc (pc + 3) = .ok (.dup, 1)) (d4 : decode cc (pc + 4) = .ok (.ldc_w is, 3)) (d7 : decode cc (pc + 7) = .ok (.invokespecial ic, 3)) (d10 : decode cc (pc + 10) = .ok (.athrow, 1))
    (hout : ∀ x ∈ c.exceptionTable.toList, covers x (pc + 10) = false)
    (hRframes : names.length + 3 < R.frames) (hRlocals : (rest.map fun v => v.category).sum + (13 * (names.length + 1) + 43) ≤ R.locals) (hRcells : cells + 1 ≤ R.cells) (hRslots : slots + 6 ≤ R.slots) (hlocks : meth.locks = false)
    (hx : ∀ t : State, s.vm.Alike t.vm → H.size ≤ t.heap.size → (∀ q : Nat, q < H.size → t.heap[q]? = H[q]?) → XC cls s t)
    (hf : ∀ z ∈ locs, free z.base) (hc : cells + 1 ≤ mc) (hs : slots + 6 ≤ ms) :
    W p l e R s m args below meth c H locs cells slots (vx_MQ below Qc XC args s mc ms free) (F0 m pc ls rest) := by
  intro T hT X
  have htr : e.platform.stackTraces = false := (show e.platform.stackTraces = l.stackTraces by rw [X.admits.platform]).trans hl
  have Y := vx_rebase X (R' := { frames := R.frames, locals := R.locals, cells := 1, slots := 6 }) (Nat.le_refl _) (Nat.le_refl _) hRcells hRslots
  obtain ⟨s', hA⟩ : ∃ z, z = (T.setVm s.vm).setFrames (.invoking m args :: below) := ⟨_, rfl⟩
  rw [← hA] at Y
  have hvm : s'.vm = s.vm := by rw [hA]; rfl
  have hhp : s'.heap = H := by rw [hA]; exact hT
  have hW0 : s.WarmedH s'.vm := by rw [hvm]; exact State.WarmedH.refl s
  have hat' : ∀ w ∈ vx_atS own ic cls names, w.before args s' = true := fun w hw => vx_ot_at hW0 hvm.symm (hgood w (List.mem_cons_of_mem _ (List.mem_cons_of_mem _ hw))) (hat w hw)
  have hk' : (Cond.classLink own ik cls).before args s' = true := vx_ot_at hW0 hvm.symm (hgood _ List.mem_cons_self) hk
  have hini' : (Cond.initialized cls).before args s' = true := vx_ot_at hW0 hvm.symm (hgood _ (List.mem_cons_of_mem _ List.mem_cons_self)) hini
  have hU' : vx_Zq Bundle.tN "UNASSIGNED_STACK" Bundle.steD A s' s'.heap := by rw [hhp]; exact vx_Zq.moved hW0.alike (hU.kept hS.2.1)
  have hN' : vx_Zq Bundle.tN "SUPPRESSED_SENTINEL" Bundle.listD A s' s'.heap := by rw [hhp]; exact vx_Zq.moved hW0.alike (hN.kept hS.2.1)
  have h : ∀ w ∈ Bundle.ownAtoms own ic cls names, w.before args s' = true := vx_own hat' (vx_isRefq hU'.1) (vx_isRefq hN'.1) hU'.2.word hN'.2.word
  have hown' : s'.vm.findClass own = some m.cls := by rw [hvm]; exact hown
  have hins : (Cond.instantiable cls 6).before args s' = true := h _ (by simp [Bundle.ownAtoms])
  obtain ⟨vm₁, cX, kX, hfX, hkX, -, -, X₁, st1⟩ := Y.newCold hexec (own := own) (C := cls) (index := ik) (n := 6) hown' hk' hins hini'
    (g := F0 m pc ls rest) rfl (by rw [hb]; exact d0) (Nat.le_refl _) (Nat.le_refl _)
  generalize hT1 : (T.setVm vm₁).pushCell { cls := cX, slots := kX.instanceTypes.map defaultValue, vm := .none } = T1 at X₁ st1
  have hcat : (Value.ref T.heap.size).category = 1 := rfl
  have hcellA : T1.heap[T.heap.size]? = some (freshCell cX kX) := by rw [← hT1]; exact State.heap_pushCell_size _ _
  have d3' : decode c.code (pc + 3) = .ok (.dup, 1) := by rw [hb]; exact d3
  have d4' : decode c.code (pc + 4) = .ok (.ldc_w is, 3) := by rw [hb]; exact d4
  have hstr' : vk_R own is text sa s' := vk_R.warm hW0 hstr
  obtain ⟨U, hsteps, hrun, hend, hW, hsame, ce, hce, hO⟩ := X₁.ctorThrowS hexec htr (own := own) (cls := cls) (names := names) (ic := ic) hown' hcls hnames h (fun x hx => nomatch hx) hfX hkX hcellA (by rw [hhp, hT]; exact Nat.le_refl _) (msg := .ref sa) rfl
    (g := { method := m, pc := pc + 7, locals := ls, stack := .ref sa :: .ref T.heap.size :: .ref T.heap.size :: rest, locked := none }) rfl hsize rfl rfl (rest := rest) rfl
    (by rw [hb]; exact d7) (by rw [hb]; exact d10) hout hRframes (by simp only [List.map_cons, List.sum_cons, hcat]; omega) hlocks
  obtain ⟨f1, f2⟩ := vx_frame hsame
  rw [hhp] at f1 f2
  have hWs : s.WarmedH U.vm := State.WarmedH.trans hW0 hW
  have hcl : s.vm.findClass cls = some ce.cls := by
    have h9 := hO.cls
    rw [hvm] at h9
    exact h9
  have hall : s.sameButNew ({ U with vm := s.vm } : State) locs mc ms := by
    subst hA
    obtain ⟨e1, e2⟩ := hsame
    rw [State.setFrames_setFrames] at e1
    have h2 : (T.setVm s.vm).sameButNew ({ U with vm := s.vm } : State) [] (0 + 1) (0 + 6) := ⟨e1, e2⟩
    have h3 := X.same.trans h2
    rw [List.append_nil] at h3
    exact h3.mono hc hs
  refine ⟨U, ?_, .threw T.heap.size, hrun, hend, Or.inr ⟨T.heap.size, rfl, cls, ce, locs, hx U hWs.alike f1 (fun q hq => f2 q hq (fun z hz => nomatch hz)), hce, hO.vm, hcl, hWs, hall, hf⟩⟩
  refine st1 _ ?_
  show Steps p.tables e below (T1.setTop { method := m, pc := pc + 3, locals := ls, stack := .ref T.heap.size :: rest, locked := none }) _
  jvm_step X₁.here [X₁.here.top, hexec, d3', Value.category]
  exact X₁.ldcStringW hexec (own := own) (text := text) (index := is) (a := sa) hown' hstr'.1 hstr'.2
    (g := { method := m, pc := pc + 4, locals := ls, stack := .ref T.heap.size :: .ref T.heap.size :: rest, locked := none }) rfl d4' _ hsteps
end Ends
section Bodies
variable {l : Launch}
theorem vx_ofW {y : MethodName} {ws ws' : List Cond} {rm : Room} {Pc : Array Value → State → Prop} {Qc : Array Value → State → Outcome → State → Prop} {XC : String → State → State → Prop} {mc ms : Nat} {free : Addr → Prop} {cc : ByteArray} {maxL : Nat} {ret : Option FieldType}
    (hy : plainName y.cls = true) (hw : ws = Cond.code y cc maxL ret :: ws')
    (body : ∀ p e s m args below meth c s₁, BodyLoose p l y (headSpec ws rm) cc maxL ret e s m args below meth c s₁ → c.maxLocals = maxL → (∀ x ∈ c.exceptionTable.toList, False) → Pc args s →
      W p l e (headSpec ws rm).room s m args below meth c s.heap [] 0 0 (vx_MQ below Qc XC args s mc ms free) (entryFrame m args maxL)) : vx_Met l y ws rm Pc Qc XC mc ms free := by
  refine MetFree.of_bodyS (code := cc) (maxLocals := maxL) (ret := ret) hy ?_ ?_
  · intro args s m h hn
    obtain ⟨meth, c, h1, h2, h3, h4, h5, h6, -, -⟩ := Cond.code_spec hn (atoms_spec (ws := ws) h _ (by rw [hw]; exact List.mem_cons_self))
    exact ⟨meth, c, h1, h2, h3, h4, h5, h6⟩
  · intro p e s m args below meth c s₁ B hml hP _
    have hh0 : s₁.heap = s.heap := by rw [B.state]; rfl
    have ht : ∀ x ∈ c.exceptionTable.toList, False := by
      obtain ⟨meth9, c9, h1, h2, -, -, -, -, h7, -⟩ := Cond.code_spec B.named (atoms_spec (ws := ws) B.pre _ (by rw [hw]; exact List.mem_cons_self))
      cases Option.some.inj (h1.symm.trans B.method)
      cases Option.some.inj (h2.symm.trans (Stand.of_body B).code)
      intro x hx
      rw [Array.isEmpty_iff.mp h7] at hx
      cases hx
    obtain ⟨t, a1, o, b1, b2, b3⟩ := body p e s m args below meth c s₁ B hml ht hP s₁ hh0 (Stand.of_body B)
    exact ⟨t, o, a1, b1, b2, b3⟩
/-- the table of a body with handlers -/
theorem vx_table {p : Program} {x y : MethodName} {S : Spec} {cc bytes : ByteArray} {maxL maxL' : Nat} {ret ret' : Option FieldType} {e : Env} {s s₁ : State} {m : MethodId} {args : Array Value} {below : List Frame} {meth : Method} {c : Code} {hh : List (Nat × Nat × Nat × Nat)}
    (B : BodyLoose p l y S cc maxL ret e s m args below meth c s₁) (h : (Cond.codeWith y bytes maxL' ret' hh).before args s = true) : c.exceptionTable.toList = tableOf hh := by
  obtain ⟨m9, meth9, c9, hn9, h1, h2, -, -, h6, -⟩ := Cond.codeWith_spec h
  cases Option.some.inj (hn9.symm.trans B.named)
  cases Option.some.inj (h1.symm.trans B.method)
  cases Option.some.inj (h2.symm.trans (Stand.of_body B).code)
  rw [← h6, table_eq]
end Bodies
end VXA
/-! ===== END ===== -/
/-! ===== BEGIN a static call of a method with an exception table ===== -/
section VXS
variable {p : Program} {l : Launch} {e : Env} {R : Room} {s : State} {m : MethodId} {args : Array Value} {below : List Frame} {meth : Method} {c : Code} {T : State} {H : Heap} {locs : List Loc} {cells slots : Nat}
abbrev vx_CSW (R : Room) (s : State) (args : Array Value) (own : String) (index : Nat) (y : MethodName) (bytes : ByteArray) (maxL : Nat) (ret : Option FieldType) (hh : List (Nat × Nat × Nat × Nat)) (ws : List Cond) (rm : Room) (mc ms n : Nat) : Prop :=
  (rm.cells = mc ∧ rm.slots = ms ∧ rm.frames + 1 ≤ R.frames ∧ 8 + (maxL + 11) + rm.locals ≤ R.locals ∧ (∀ w ∈ ws, ∀ (a' : Array Value) (U : State), s.WarmedH U.vm → w.before a' U = true) ∧ Cond.codeWith y bytes maxL ret hh ∈ ws) ∧
  (Cond.codeWith y bytes maxL ret hh).before args s = true ∧ (Cond.initialized y.cls).before args s = true ∧ (y.cls ≠ "java/lang/invoke/MethodHandle" ∧ y.cls ≠ "java/lang/invoke/VarHandle") ∧
  (∀ sig, parseMethodDescriptor y.desc = some sig → n = sig.parameters.length) ∧ (Cond.methodLink own index y).before args s = true ∧ (Cond.static y).before args s = true
theorem vx_cwSW {own : String} {index maxL mc ms : Nat} {y : MethodName} {bytes : ByteArray} {ret : Option FieldType} {hh : List (Nat × Nat × Nat × Nat)} {Ts ws ws' : List Cond} {rm : Room} (n : Nat) (ht : ∀ w ∈ Ts, w.before args s = true) (hT : GoodIn Ts (va_wsS own index y ws)) (hw : ws = Cond.codeWith y bytes maxL ret hh :: ws') (hrc : rm.cells = mc) (hrs : rm.slots = ms)
    (hd : y.cls ≠ "java/lang/invoke/MethodHandle" ∧ y.cls ≠ "java/lang/invoke/VarHandle" ∧ (parseMethodDescriptor y.desc).map (fun d => d.parameters.length) = some n) (hR : rm.frames + 1 ≤ R.frames ∧ 8 + (maxL + 11) + rm.locals ≤ R.locals) :
    vx_CSW R s args own index y bytes maxL ret hh ws rm mc ms n := by
  have ok : ∀ w ∈ va_wsS own index y ws, w.before args s = true := fun w h => ht w (hT w h).1
  have hG : GoodIn Ts ws := fun w h => hT w (by unfold va_wsS; exact List.mem_append_right _ h)
  have hc : Cond.codeWith y bytes maxL ret hh ∈ ws := by rw [hw]; exact List.mem_cons_self
  refine ⟨⟨hrc, hrs, hR.1, hR.2, pay_in ht hG, hc⟩, ht _ (hG _ hc).1, ok _ (by simp [va_wsS]), ⟨hd.1, hd.2.1⟩, fun sig h => ?_, ok _ (by simp [va_wsS]), ok _ (by simp [va_wsS])⟩
  have h2 := hd.2.2
  rw [h] at h2
  exact (Option.some.inj h2).symm
theorem vx_callSW (X : Stand p l e R s m args below meth c T locs cells slots) (hexec : p.tables.exec = Jvm.exec) {own : String} {index : Nat} {y : MethodName} {bytes : ByteArray} {maxL : Nat} {ret : Option FieldType} {hh : List (Nat × Nat × Nat × Nat)}
    (hown : s.vm.findClass own = some m.cls) (hlink : (Cond.methodLink own index y).before args s = true) (hstat : (Cond.static y).before args s = true) (hinit : (Cond.initialized y.cls).before args s = true)
    (hcode : (Cond.codeWith y bytes maxL ret hh).before args s = true) (hy : y.cls ≠ "java/lang/invoke/MethodHandle" ∧ y.cls ≠ "java/lang/invoke/VarHandle")
    {W9 : Nat} {Pre : Pt → Array Value → Prop} {Post : Pt → Array Value → Option Value → Pt → Prop} (hK : Back l R p e below s args y 3 W9 Pre Post)
    {g : JFrame} (hg : g.method = m) (hsize : g.locals.size = c.maxLocals) {argsL rest : List Value} (hlen : ∀ sig, parseMethodDescriptor y.desc = some sig → argsL.length = sig.parameters.length)
    (hstack : g.stack = argsL.reverse ++ rest) (hW : 2 * g.monitorRoom + (rest.map fun v => v.category).sum ≤ W9) (hdg : decode c.code g.pc = .ok (.invokestatic index, 3))
    (hpre : ∀ vm₁, s.WarmedH vm₁ → Pre ⟨T.setVm vm₁, locs, cells, slots⟩ argsL.toArray) :
    ∃ (v : Option Value) (vm₁ : Vm) (B : Pt), s.WarmedH vm₁ ∧ Stand p l e R s m args below meth c B.U B.locs B.cells B.slots ∧ Post ⟨T.setVm vm₁, locs, cells, slots⟩ argsL.toArray v B ∧
      ∀ target, Steps p.tables e below (B.U.setTop { g with pc := g.pc + 3, stack := v.toList ++ rest }) target → Steps p.tables e below (T.setTop g) target := by
  obtain ⟨mk, methM, cM, hnamed, hmethM, -, -, -, -, -, -, hsigM⟩ := Cond.codeWith_spec hcode
  have hstatic : methM.isStatic = true := Cond.static_spec hnamed hmethM hstat
  obtain ⟨kP, hkP, -⟩ := className_of_methodNamed hnamed
  have hinitP : kP.init = .initialized := Cond.initialized_spec (findClass_of_methodNamed hnamed) hkP hinit
  obtain ⟨vm₁, X₁, hstep₁⟩ := X.invokestatic hexec hown hlink hnamed hmethM hstatic hkP hinitP hy (g := g) hg (argsL := argsL) (rest := rest) (hlen _ hsigM) hstack hdg
  obtain ⟨v, B, X', hpost, hsteps⟩ := hK m meth c ⟨T.setVm vm₁, locs, cells, slots⟩ { g with stack := rest } (.invokestatic index) mk argsL.toArray X₁ hg hsize hdg hW (X₁.named hnamed) (hpre vm₁ X₁.warmed)
  exact ⟨v, vm₁, B, X₁.warmed, X', hpost, fun target h => hstep₁ _ fun acts => by rw [doInvoke_state]; exact hsteps.trans h⟩
theorem vx_runSW {y : MethodName} {bytes cc : ByteArray} {maxL nL mc ms n index : Nat} {ret : Option FieldType} {hh : List (Nat × Nat × Nat × Nat)} {ws : List Cond} {rm : Room} {Pc : Array Value → State → Prop} {Qc : Array Value → State → Outcome → State → Prop} {free : Addr → Prop} {Ts : List Cond} {own : String} {As rest : List Value} {g : JFrame}
    (S : CallFix p m c cc nL s args Ts own) (hM : Met l y ws rm Pc Qc mc ms free) (cw : vx_CSW R s args own index y bytes maxL ret hh ws rm mc ms n) (hp : PreS s H Pc As)
    (hg : g.method = m) (hn : As.length = n) (hsize : g.locals.size = nL) (hstack : g.stack = As.reverse ++ rest) (hW : 2 * g.monitorRoom + (rest.map fun v => v.category).sum ≤ 8) (hdg : decode cc g.pc = .ok (.invokestatic index, 3)) (hf : cells + mc ≤ R.cells ∧ slots + ms ≤ R.slots) :
    va_Run p l e R s m args below meth c H locs cells slots mc ms g rest (Qc As.toArray) (free) := by
  obtain ⟨⟨hrc, hrs, hfr, hlo, hws, hcw⟩, hcode, hini, hy, hlen, hl, hstt⟩ := cw
  have hK : Back l R p e below s args y 3 8 (PreOf R mc ms Pc) (PostOf Qc mc ms free) := va_backW (hh := hh) (bytes := bytes) (maxL := maxL) (ret := ret) hM hp.1 hrc hrs hfr hlo hws hcw (fun a' U hW => word_at hW (Or.inl (by first | rfl | simp [Cond.onTables, Cond.keeps, Cond.steady])) hini)
  obtain ⟨hx, hb, hml, ho, -⟩ := S
  intro T hT X
  obtain ⟨v, vm₁, ⟨U', l2, c2, s2⟩, hW₁, X', ⟨g', mk, t, L, e1, e2, hq, h1, hL, h2, h3⟩, st⟩ := vx_callSW X hx (hh := hh) (bytes := bytes) (maxL := maxL) (ret := ret) ho hl hstt hini hcode hy hK hg (hsize.trans hml.symm) (argsL := As) (rest := rest) (fun sig h => hn.trans (hlen sig h)) hstack hW (by rw [hb]; exact hdg)
    (fun vm₁ hW₁ => ⟨hf.1, hf.2, hp.2 (T.setVm vm₁) hT hW₁⟩)
  dsimp only [Pt.U, Pt.locs, Pt.cells, Pt.slots] at X' e1 e2 h1 h2 h3 st
  subst h1; subst h2; subst h3
  exact ⟨v, (T.setVm vm₁).calling g' mk As.toArray, t, U', L, hT, X', hL, e1, e2, hq, st⟩
/-- not caught here, past rows that name other classes: it goes on to the caller -/
theorem vx_outP {p : Program} {l : Launch} {e : Env} {R : Room} {s : State} {m : MethodId} {args : Array Value} {below : List Frame} {meth : Method} {c : Code} {H : Heap} {locs : List Loc} {cells slots : Nat} {free : Addr → Prop} {ls : Array Slot} {rest : List Value} {Qc : Array Value → State → Outcome → State → Prop} {XC : String → State → State → Prop}
    {pc : Nat} {own E : String} {ce : Cell} {q : Addr} {mc ms : Nat} (hown : s.vm.findClass own = some m.cls) (hlocks : meth.locks = false)
    (hpass : ∀ z ∈ c.exceptionTable.toList, covers z pc = false ∨ (z.catchType ≠ 0 ∧ ∃ nm : String, (Cond.classLink own z.catchType nm).before args s = true ∧ va_Nc E nm s)) (hcell : H[q]? = some ce) (hv : ce.vm = .none) (hcl : s.vm.findClass E = some ce.cls)
    (hx : ∀ t : State, t.heap = H → s.vm.Alike t.vm → XC E s t) (hf : ∀ z ∈ locs, free z.base) (hc : cells ≤ mc) (hs : slots ≤ ms) :
    vx_W p l e R s m args below meth c H locs cells slots (vx_MQ below Qc XC args s mc ms free) (F0 m pc ls rest) q := by
  intro T hT X
  have hpl : e.platform.magicAccessors = ({} : Platform).magicAccessors := by rw [X.admits.platform]
  obtain ⟨vm', hW', X', st⟩ := X.outThrough hlocks q (g := F0 m pc ls rest) rfl rfl rfl (cell := ce) (by rw [hT]; exact hcell) (by rw [hv]; rfl)
    (by obtain ⟨k9, h9, -⟩ := Vm.findClass_spec hcl; exact ⟨k9, h9⟩) (fun z hz => by
      rcases hpass z hz with h | ⟨hz0, nm, hl1, hn1⟩
      · exact Or.inl h
      · obtain ⟨c6, hc6, hcl6⟩ := Cond.classLink_spec hown hl1 e.platform hpl
        obtain ⟨a8, b8, h1, h2, h3⟩ := hn1
        cases Option.some.inj (h1.symm.trans hcl)
        cases Option.some.inj (h2.symm.trans hc6)
        exact Or.inr ⟨hz0, _, hcl6, h3⟩)
  obtain ⟨g₀, hfr⟩ := X'.frames_eq
  have hcell9 : ((T.setVm vm').setFrames (.throwing q :: below)).heap[q]? = some ce := by
    show T.heap[q]? = some ce
    rw [hT]; exact hcell
  have hend : Ended ((T.setVm vm').setFrames (.throwing q :: below)) below (.threw q) := State.frames_setFrames _ (State.cur_lt_of_frames hfr)
  refine ⟨(T.setVm vm').setFrames (.throwing q :: below), ?_, .threw q, X'.here.running, hend, Or.inr ⟨q, rfl, E, ce, locs, hx _ hT (X'.ends _).1.alike, hcell9, hv, hcl, (X'.ends _).1, (X'.ends _).2.mono hc hs, hf⟩⟩
  rw [X.pushThrowing_eq]
  exact st
/-- a thing of a world lies in the heap -/
theorem vx_lt {D : va_G} {cl : List vw_C} {ws : va_W} {H1 : Heap} (h : va_P D cl ws H1) {k : Nat} {q : Nat × va_E} (hk : ws[k]? = some q) : q.1 < H1.size := (h k q hk).lt
end VXS
/-! ===== END ===== -/
/-! ===== BEGIN methods with a table of their own: called by a name, returning or throwing ===== -/
section VXH
/-! vx_backW, vx_callVX, vx_callSX, vx_callVW, vx_runVW, vx_runVX, vx_runSX, vx_ofWH follow the same proofs as their sisters above (Free/Laws.lean, Shelf42/LK1.lean); vx_outP calls Shelf42/NT130.lean (outThrough). -/
section
variable {l : Launch} {R : Room} {p : Program} {e : Env} {below : List Frame} {s : State} {sargs : Array Value} {y : MethodName} {len W9 : Nat}
theorem vx_backW {ws : List Cond} {rm : Room} {Pc : Array Value → State → Prop} {Qc : Array Value → State → Outcome → State → Prop} {XC : String → State → State → Prop} {mc ms : Nat} {free : Addr → Prop} {bytes : ByteArray} {maxL : Nat} {ret : Option FieldType} {hh : List (Nat × Nat × Nat × Nat)}
    (hM : vx_Met l y ws rm Pc Qc XC mc ms free) (hblind : FrameBlind Pc) (hrc : rm.cells = mc) (hrs : rm.slots = ms)
    (hframes : rm.frames + 1 ≤ R.frames) (hlocals : W9 + (maxL + 11) + rm.locals ≤ R.locals)
    (hws : ∀ w ∈ ws, ∀ a' U, s.WarmedH U.vm → w.before a' U = true) (hcode : Cond.codeWith y bytes maxL ret hh ∈ ws) (hinit : ∀ a' U, s.WarmedH U.vm → (Cond.initialized y.cls).before a' U = true) :
    vx_Back l R p e below s sargs y len W9 (PreOf R mc ms Pc) (PostOf Qc mc ms free) (vx_Post XC mc ms free) := by
  intro m meth c A g ig mk a X hg hsize hdg hW hn hp
  have h1 : (headSpec ws rm).pre.before a A.U = true := atoms_intro fun w hw => hws w hw _ _ X.warmed
  have h2 : (Cond.codeWith y bytes maxL ret hh).before a A.U = true := hws _ hcode _ _ X.warmed
  have h3 : (Cond.initialized y.cls).before a A.U = true := hinit _ _ X.warmed
  have h4 : A.cells + (headSpec ws rm).room.cells ≤ R.cells := by rw [show (headSpec ws rm).room.cells = mc from hrc]; exact hp.1
  have h5 : A.slots + (headSpec ws rm).room.slots ≤ R.slots := by rw [show (headSpec ws rm).room.slots = ms from hrs]; exact hp.2.1
  have hPc : Pc a (A.U.calling g mk a) := hblind _ _ _ _ hp.2.2
  obtain ⟨U, Ls, c0, s0⟩ := A
  dsimp only [Pt.U, Pt.locs, Pt.cells, Pt.slots] at h1 h2 h3 h4 h5 X hn hPc ⊢
  obtain ⟨m9, methY, cY, hn9, hmY, hcY, -, hlY, -⟩ := Cond.codeWith_spec h2
  cases Option.some.inj (hn9.symm.trans hn)
  obtain ⟨kY, hkY, -⟩ := className_of_methodNamed hn
  have hinitY : kY.init = .initialized := Cond.initialized_spec (findClass_of_methodNamed hn) hkY h3
  have h : At U g.method c below := by rw [hg]; exact X.here
  have hlocals9 : W9 + (maxL + 11) + (headSpec ws rm).room.locals ≤ R.locals := hlocals
  have happ : (headSpec ws rm).appliesLoose y e.platform (U.calling g mk a) = true :=
    Spec.appliesLoose_calling (g := g) h hdg hn hkY hinitY
      (X.room_calling (g := g) (R' := (headSpec ws rm).room) hsize hmY hcY hframes (by rw [hlY]; omega) h4 h5) h1
  obtain ⟨mid, hmid⟩ := h.above
  have hfr : (U.setTop g).frames = (.java g :: mid) ++ below := by rw [State.frames_setTop' g h.top, hmid]; rfl
  obtain ⟨o, s₂, hsteps, -, hend, hq⟩ := Steps.callFree hM p X.admits X.cas X.clock (acts := []) hfr happ hPc trivial
  have hq' : vx_Q Qc XC mc ms free a (U.calling g mk a) o s₂ := hq
  rw [State.frames_setTop' g h.top] at hend
  obtain ⟨g₀, hg0⟩ := Option.isSome_iff_exists.mp h.top
  obtain ⟨r, hr⟩ := State.topJava?_eq_some.mp hg0
  have hr' : (({ U with heap := s₂.heap, slotsUsed := s₂.slotsUsed } : State).setVm s₂.vm).frames = .java g₀ :: r := hr
  rcases hq' with ⟨hqc, L, hfe, hL⟩ | ⟨q, rfl, E, ce, L, hx, hce, hcv, hcl, hW₂, hsm, hL⟩
  · obtain ⟨⟨v, rfl⟩, hW₂, e2, q2, q3, q4, q5, q6⟩ := id hfe
    have e3 : s₂ = ({ (U.calling g mk a).setFrames s₂.frames with heap := s₂.heap, slotsUsed := s₂.slotsUsed } : State).setVm s₂.vm := by
      have : s₂ = ({ s₂ with vm := (U.calling g mk a).vm } : State).setVm s₂.vm := rfl
      rw [e2] at this
      exact this
    obtain ⟨c₂, i₂, len₂, hc₂, hd₂, hf₂⟩ := hend
    have hW' : U.WarmedH s₂.vm := hW₂
    have hcc : c₂ = c := by
      have h1 : s₂.code? g.method = U.code? g.method := by
        rw [State.code?_eq, State.code?_eq, hW'.alike.method?]
      exact Option.some.inj (hc₂.symm.trans (h1.trans h.code))
    subst hcc
    have hlen : len₂ = len := by rw [hdg] at hd₂; cases hd₂; rfl
    subst hlen
    have hs₂ : s₂ = (({ U with heap := s₂.heap, slotsUsed := s₂.slotsUsed } : State).setVm s₂.vm).setTop { g with pc := g.pc + len₂, stack := v.toList ++ g.stack } := by
      refine e3.trans ?_
      rw [hf₂, State.calling_eq h.top, State.setFrames_setFrames, State.setTop_of_frames _ hr', hr]
      rfl
    have hsame : U.sameButNew ({ U with heap := s₂.heap, slotsUsed := s₂.slotsUsed } : State) L mc ms := by
      refine ⟨?_, q2, q3, q4, q5, q6⟩
      obtain ⟨t, ht, -⟩ := State.frames_cons hr
      show ({ U with heap := s₂.heap, slotsUsed := s₂.slotsUsed } : State) = { U.setFrames U.frames with heap := s₂.heap, slotsUsed := s₂.slotsUsed }
      rw [State.setFrames_self ht]
    subst hg
    refine Or.inl ⟨v, ⟨(({ U with heap := s₂.heap, slotsUsed := s₂.slotsUsed } : State).setVm s₂.vm), Ls ++ L, c0 + mc, s0 + ms⟩,
      ⟨X.admits, X.cas, X.clock, X.frames, X.room, X.hears, X.method, X.code, (X.here.setHeapUsed s₂.heap s₂.slotsUsed).setVm hW'.alike, X.tail, State.WarmedH.trans X.warmed hW', X.limits, X.bytes, X.same.trans (hsame.setVm s.vm)⟩,
      ⟨g, mk, s₂, L, rfl, rfl, hqc, rfl, hL, rfl, rfl⟩, ?_⟩
    show Steps p.tables e below _ ((({ U with heap := s₂.heap, slotsUsed := s₂.slotsUsed } : State).setVm s₂.vm).setTop { g with pc := g.pc + len₂, stack := v.toList ++ g.stack })
    rw [← hs₂]
    exact hsteps
  · obtain ⟨e2, q2, q3, q4, q5, q6⟩ := id hsm
    have e3 : s₂ = ({ (U.calling g mk a).setFrames s₂.frames with heap := s₂.heap, slotsUsed := s₂.slotsUsed } : State).setVm s₂.vm := by
      have : s₂ = ({ s₂ with vm := (U.calling g mk a).vm } : State).setVm s₂.vm := rfl
      rw [e2] at this
      exact this
    have hf₂ : s₂.frames = .throwing q :: .java g :: U.frames.tail := hend
    have hW' : U.WarmedH s₂.vm := hW₂
    have hs₂ : s₂ = ((({ U with heap := s₂.heap, slotsUsed := s₂.slotsUsed } : State).setVm s₂.vm).setTop g).pushFrame (.throwing q) := by
      refine e3.trans ?_
      rw [hf₂, State.calling_eq h.top, State.setFrames_setFrames, State.pushFrame, State.frames_setTop _ hr', State.setTop_of_frames _ hr', State.setFrames_setFrames, hr]
      rfl
    have hsame : U.sameButNew ({ U with heap := s₂.heap, slotsUsed := s₂.slotsUsed } : State) L mc ms := by
      refine ⟨?_, q2, q3, q4, q5, q6⟩
      obtain ⟨t, ht, -⟩ := State.frames_cons hr
      show ({ U with heap := s₂.heap, slotsUsed := s₂.slotsUsed } : State) = { U.setFrames U.frames with heap := s₂.heap, slotsUsed := s₂.slotsUsed }
      rw [State.setFrames_self ht]
    subst hg
    refine Or.inr ⟨q, ⟨(({ U with heap := s₂.heap, slotsUsed := s₂.slotsUsed } : State).setVm s₂.vm), Ls ++ L, c0 + mc, s0 + ms⟩,
      ⟨X.admits, X.cas, X.clock, X.frames, X.room, X.hears, X.method, X.code, (X.here.setHeapUsed s₂.heap s₂.slotsUsed).setVm hW'.alike, X.tail, State.WarmedH.trans X.warmed hW', X.limits, X.bytes, X.same.trans (hsame.setVm s.vm)⟩,
      ⟨g, mk, s₂, L, E, ce, rfl, rfl, hx, hce, hcv, hcl, rfl, hL, rfl, rfl⟩, ?_⟩
    show Steps p.tables e below _ (((({ U with heap := s₂.heap, slotsUsed := s₂.slotsUsed } : State).setVm s₂.vm).setTop g).pushFrame (.throwing q))
    rw [← hs₂]
    exact hsteps
end
variable {p : Program} {l : Launch} {e : Env} {R : Room} {s : State} {m : MethodId} {args : Array Value} {below : List Frame} {meth : Method} {c : Code} {T : State} {H : Heap} {locs : List Loc} {cells slots : Nat}
theorem vx_callVX (X : Stand p l e R s m args below meth c T locs cells slots) (hexec : p.tables.exec = Jvm.exec) {own C : String} {index : Nat} {y : MethodName} {bytes : ByteArray} {maxL : Nat} {ret : Option FieldType} {hh : List (Nat × Nat × Nat × Nat)}
    (hown : s.vm.findClass own = some m.cls) (hlink : (Cond.methodLink own index y).before args s = true) (hinst : (Cond.instanceMethod y).before args s = true) (hsel : (Cond.selects C y y).before args s = true)
    (hcode : (Cond.codeWith y bytes maxL ret hh).before args s = true) (hy : y.cls ≠ "java/lang/invoke/MethodHandle" ∧ y.cls ≠ "java/lang/invoke/VarHandle")
    {W9 : Nat} {Pre : Pt → Array Value → Prop} {Post : Pt → Array Value → Option Value → Pt → Prop} {PostX : Pt → Array Value → Addr → Pt → Prop} (hK : vx_Back l R p e below s args y 3 W9 Pre Post PostX)
    {b : Addr} {cellB : Cell} (hcell : T.heap[b]? = some cellB) (hobj : cellB.vm.isStatics = false) (hcls : s.vm.findClass C = some cellB.cls)
    {g : JFrame} (hg : g.method = m) (hsize : g.locals.size = c.maxLocals) {argsL rest : List Value} (hlen : ∀ sig, parseMethodDescriptor y.desc = some sig → argsL.length = sig.parameters.length)
    (hstack : g.stack = argsL.reverse ++ .ref b :: rest) (hW : 2 * g.monitorRoom + (rest.map fun v => v.category).sum ≤ W9) (hdg : decode c.code g.pc = .ok (.invokevirtual index, 3))
    (hpre : ∀ vm₁, s.WarmedH vm₁ → Pre ⟨T.setVm vm₁, locs, cells, slots⟩ (Value.ref b :: argsL).toArray) :
    (∃ (v : Option Value) (vm₁ : Vm) (B : Pt), s.WarmedH vm₁ ∧ Stand p l e R s m args below meth c B.U B.locs B.cells B.slots ∧ Post ⟨T.setVm vm₁, locs, cells, slots⟩ (Value.ref b :: argsL).toArray v B ∧
      ∀ target, Steps p.tables e below (B.U.setTop { g with pc := g.pc + 3, stack := v.toList ++ rest }) target → Steps p.tables e below (T.setTop g) target) ∨
    (∃ (q : Addr) (vm₁ : Vm) (B : Pt), s.WarmedH vm₁ ∧ Stand p l e R s m args below meth c B.U B.locs B.cells B.slots ∧ PostX ⟨T.setVm vm₁, locs, cells, slots⟩ (Value.ref b :: argsL).toArray q B ∧
      Steps p.tables e below (T.setTop g) ((B.U.setTop { g with stack := rest }).pushFrame (.throwing q))) := by
  obtain ⟨mk, methM, hnamed, hmethM, hstM, habM⟩ := Cond.instanceMethod_spec hinst
  obtain ⟨m8, methM', cM, hn8, hmethM', -, -, -, -, -, -, hsigM⟩ := Cond.codeWith_spec hcode
  cases Option.some.inj (hn8.symm.trans hnamed)
  cases hmethM.symm.trans hmethM'
  obtain ⟨c2, r2, m2, q1, q2, q3, q4, kP, hkP, hkPi⟩ := Cond.selects_spec hsel
  cases hcls.symm.trans q1
  cases (State.methodFound?_of_named hnamed hy).symm.trans q2
  cases hnamed.symm.trans q3
  have hselP : selectMethod e.platform s.vm cellB.cls mk = .method mk := by rw [Launch.admits_selectMethod X.admits]; exact q4
  obtain ⟨vm₁, X₁, hstep₁⟩ := X.invokevirtual hexec hown hlink hnamed hmethM hstM hkP hkPi hy (a := b) (cell := cellB) hcell
    (fun z h => by rw [h] at hobj; cases hobj) hselP hmethM habM hkP hkPi (g := g) hg (argsL := argsL) (rest := rest) (hlen _ hsigM) hstack hdg
  rcases hK m meth c ⟨T.setVm vm₁, locs, cells, slots⟩ { g with stack := rest } (.invokevirtual index) mk (Value.ref b :: argsL).toArray X₁ hg hsize hdg hW (X₁.named hnamed) (hpre vm₁ X₁.warmed) with ⟨v, B, X', hpost, hsteps⟩ | ⟨q, B, X', hpost, hsteps⟩
  · exact Or.inl ⟨v, vm₁, B, X₁.warmed, X', hpost, fun target h => hstep₁ _ fun acts => by rw [doInvoke_state]; exact hsteps.trans h⟩
  · exact Or.inr ⟨q, vm₁, B, X₁.warmed, X', hpost, hstep₁ _ fun acts => by rw [doInvoke_state]; exact hsteps⟩
theorem vx_callSX (X : Stand p l e R s m args below meth c T locs cells slots) (hexec : p.tables.exec = Jvm.exec) {own : String} {index : Nat} {y : MethodName} {bytes : ByteArray} {maxL : Nat} {ret : Option FieldType} {hh : List (Nat × Nat × Nat × Nat)}
    (hown : s.vm.findClass own = some m.cls) (hlink : (Cond.methodLink own index y).before args s = true) (hstat : (Cond.static y).before args s = true) (hinit : (Cond.initialized y.cls).before args s = true)
    (hcode : (Cond.codeWith y bytes maxL ret hh).before args s = true) (hy : y.cls ≠ "java/lang/invoke/MethodHandle" ∧ y.cls ≠ "java/lang/invoke/VarHandle")
    {W9 : Nat} {Pre : Pt → Array Value → Prop} {Post : Pt → Array Value → Option Value → Pt → Prop} {PostX : Pt → Array Value → Addr → Pt → Prop} (hK : vx_Back l R p e below s args y 3 W9 Pre Post PostX)
    {g : JFrame} (hg : g.method = m) (hsize : g.locals.size = c.maxLocals) {argsL rest : List Value} (hlen : ∀ sig, parseMethodDescriptor y.desc = some sig → argsL.length = sig.parameters.length)
    (hstack : g.stack = argsL.reverse ++ rest) (hW : 2 * g.monitorRoom + (rest.map fun v => v.category).sum ≤ W9) (hdg : decode c.code g.pc = .ok (.invokestatic index, 3))
    (hpre : ∀ vm₁, s.WarmedH vm₁ → Pre ⟨T.setVm vm₁, locs, cells, slots⟩ argsL.toArray) :
    (∃ (v : Option Value) (vm₁ : Vm) (B : Pt), s.WarmedH vm₁ ∧ Stand p l e R s m args below meth c B.U B.locs B.cells B.slots ∧ Post ⟨T.setVm vm₁, locs, cells, slots⟩ argsL.toArray v B ∧
      ∀ target, Steps p.tables e below (B.U.setTop { g with pc := g.pc + 3, stack := v.toList ++ rest }) target → Steps p.tables e below (T.setTop g) target) ∨
    (∃ (q : Addr) (vm₁ : Vm) (B : Pt), s.WarmedH vm₁ ∧ Stand p l e R s m args below meth c B.U B.locs B.cells B.slots ∧ PostX ⟨T.setVm vm₁, locs, cells, slots⟩ argsL.toArray q B ∧
      Steps p.tables e below (T.setTop g) ((B.U.setTop { g with stack := rest }).pushFrame (.throwing q))) := by
  obtain ⟨mk, methM, cM, hnamed, hmethM, -, -, -, -, -, -, hsigM⟩ := Cond.codeWith_spec hcode
  have hstatic : methM.isStatic = true := Cond.static_spec hnamed hmethM hstat
  obtain ⟨kP, hkP, -⟩ := className_of_methodNamed hnamed
  have hinitP : kP.init = .initialized := Cond.initialized_spec (findClass_of_methodNamed hnamed) hkP hinit
  obtain ⟨vm₁, X₁, hstep₁⟩ := X.invokestatic hexec hown hlink hnamed hmethM hstatic hkP hinitP hy (g := g) hg (argsL := argsL) (rest := rest) (hlen _ hsigM) hstack hdg
  rcases hK m meth c ⟨T.setVm vm₁, locs, cells, slots⟩ { g with stack := rest } (.invokestatic index) mk argsL.toArray X₁ hg hsize hdg hW (X₁.named hnamed) (hpre vm₁ X₁.warmed) with ⟨v, B, X', hpost, hsteps⟩ | ⟨q, B, X', hpost, hsteps⟩
  · exact Or.inl ⟨v, vm₁, B, X₁.warmed, X', hpost, fun target h => hstep₁ _ fun acts => by rw [doInvoke_state]; exact hsteps.trans h⟩
  · exact Or.inr ⟨q, vm₁, B, X₁.warmed, X', hpost, hstep₁ _ fun acts => by rw [doInvoke_state]; exact hsteps⟩
theorem vx_callVW (X : Stand p l e R s m args below meth c T locs cells slots) (hexec : p.tables.exec = Jvm.exec) {own C : String} {index : Nat} {y : MethodName} {bytes : ByteArray} {maxL : Nat} {ret : Option FieldType} {hh : List (Nat × Nat × Nat × Nat)}
    (hown : s.vm.findClass own = some m.cls) (hlink : (Cond.methodLink own index y).before args s = true) (hinst : (Cond.instanceMethod y).before args s = true) (hsel : (Cond.selects C y y).before args s = true)
    (hcode : (Cond.codeWith y bytes maxL ret hh).before args s = true) (hy : y.cls ≠ "java/lang/invoke/MethodHandle" ∧ y.cls ≠ "java/lang/invoke/VarHandle")
    {W9 : Nat} {Pre : Pt → Array Value → Prop} {Post : Pt → Array Value → Option Value → Pt → Prop} (hK : Back l R p e below s args y 3 W9 Pre Post)
    {b : Addr} {cellB : Cell} (hcell : T.heap[b]? = some cellB) (hobj : cellB.vm.isStatics = false) (hcls : s.vm.findClass C = some cellB.cls)
    {g : JFrame} (hg : g.method = m) (hsize : g.locals.size = c.maxLocals) {argsL rest : List Value} (hlen : ∀ sig, parseMethodDescriptor y.desc = some sig → argsL.length = sig.parameters.length)
    (hstack : g.stack = argsL.reverse ++ .ref b :: rest) (hW : 2 * g.monitorRoom + (rest.map fun v => v.category).sum ≤ W9) (hdg : decode c.code g.pc = .ok (.invokevirtual index, 3))
    (hpre : ∀ vm₁, s.WarmedH vm₁ → Pre ⟨T.setVm vm₁, locs, cells, slots⟩ (Value.ref b :: argsL).toArray) :
    ∃ (v : Option Value) (vm₁ : Vm) (B : Pt), s.WarmedH vm₁ ∧ Stand p l e R s m args below meth c B.U B.locs B.cells B.slots ∧ Post ⟨T.setVm vm₁, locs, cells, slots⟩ (Value.ref b :: argsL).toArray v B ∧
      ∀ target, Steps p.tables e below (B.U.setTop { g with pc := g.pc + 3, stack := v.toList ++ rest }) target → Steps p.tables e below (T.setTop g) target := by
  obtain ⟨mk, methM, hnamed, hmethM, hstM, habM⟩ := Cond.instanceMethod_spec hinst
  obtain ⟨m8, methM', cM, hn8, hmethM', -, -, -, -, -, -, hsigM⟩ := Cond.codeWith_spec hcode
  cases Option.some.inj (hn8.symm.trans hnamed)
  cases hmethM.symm.trans hmethM'
  obtain ⟨c2, r2, m2, q1, q2, q3, q4, kP, hkP, hkPi⟩ := Cond.selects_spec hsel
  cases hcls.symm.trans q1
  cases (State.methodFound?_of_named hnamed hy).symm.trans q2
  cases hnamed.symm.trans q3
  have hselP : selectMethod e.platform s.vm cellB.cls mk = .method mk := by rw [Launch.admits_selectMethod X.admits]; exact q4
  obtain ⟨vm₁, X₁, hstep₁⟩ := X.invokevirtual hexec hown hlink hnamed hmethM hstM hkP hkPi hy (a := b) (cell := cellB) hcell
    (fun z h => by rw [h] at hobj; cases hobj) hselP hmethM habM hkP hkPi (g := g) hg (argsL := argsL) (rest := rest) (hlen _ hsigM) hstack hdg
  obtain ⟨v, B, X', hpost, hsteps⟩ := hK m meth c ⟨T.setVm vm₁, locs, cells, slots⟩ { g with stack := rest } (.invokevirtual index) mk (Value.ref b :: argsL).toArray X₁ hg hsize hdg hW (X₁.named hnamed) (hpre vm₁ X₁.warmed)
  exact ⟨v, vm₁, B, X₁.warmed, X', hpost, fun target h => hstep₁ _ fun acts => by rw [doInvoke_state]; exact hsteps.trans h⟩
abbrev vx_CVW (R : Room) (s : State) (args : Array Value) (own C : String) (index : Nat) (y : MethodName) (bytes : ByteArray) (maxL : Nat) (ret : Option FieldType) (hh : List (Nat × Nat × Nat × Nat)) (ws : List Cond) (rm : Room) (mc ms n : Nat) : Prop :=
  (rm.cells = mc ∧ rm.slots = ms ∧ rm.frames + 1 ≤ R.frames ∧ 8 + (maxL + 11) + rm.locals ≤ R.locals ∧ (∀ w ∈ ws, ∀ (a' : Array Value) (U : State), s.WarmedH U.vm → w.before a' U = true) ∧ Cond.codeWith y bytes maxL ret hh ∈ ws) ∧
  (Cond.codeWith y bytes maxL ret hh).before args s = true ∧ (Cond.initialized y.cls).before args s = true ∧ (y.cls ≠ "java/lang/invoke/MethodHandle" ∧ y.cls ≠ "java/lang/invoke/VarHandle") ∧
  (∀ sig, parseMethodDescriptor y.desc = some sig → n = sig.parameters.length) ∧ (Cond.methodLink own index y).before args s = true ∧ (Cond.instanceMethod y).before args s = true ∧ (Cond.selects C y y).before args s = true
theorem vx_cwVW {own C : String} {index maxL mc ms : Nat} {y : MethodName} {bytes : ByteArray} {ret : Option FieldType} {hh : List (Nat × Nat × Nat × Nat)} {Ts ws ws' : List Cond} {rm : Room} (n : Nat) (ht : ∀ w ∈ Ts, w.before args s = true) (hT : GoodIn Ts (wsV own index C y ws)) (hw : ws = Cond.codeWith y bytes maxL ret hh :: ws') (hrc : rm.cells = mc) (hrs : rm.slots = ms)
    (hd : y.cls = C ∧ y.cls ≠ "java/lang/invoke/MethodHandle" ∧ y.cls ≠ "java/lang/invoke/VarHandle" ∧ (parseMethodDescriptor y.desc).map (fun d => d.parameters.length) = some n) (hR : rm.frames + 1 ≤ R.frames ∧ 8 + (maxL + 11) + rm.locals ≤ R.locals) :
    vx_CVW R s args own C index y bytes maxL ret hh ws rm mc ms n := by
  obtain ⟨hC, hd⟩ := hd
  subst hC
  have ok : ∀ w ∈ wsV own index y.cls y ws, w.before args s = true := fun w h => ht w (hT w h).1
  have hG : GoodIn Ts ws := fun w h => hT w (by unfold wsV; exact List.mem_append_right _ h)
  have hc : Cond.codeWith y bytes maxL ret hh ∈ ws := by rw [hw]; exact List.mem_cons_self
  refine ⟨⟨hrc, hrs, hR.1, hR.2, pay_in ht hG, hc⟩, ht _ (hG _ hc).1, ok _ (by simp [wsV]), ⟨hd.1, hd.2.1⟩, fun sig h => ?_, ok _ (by simp [wsV]), ok _ (by simp [wsV]), ok _ (by simp [wsV])⟩
  have h2 := hd.2.2
  rw [h] at h2
  exact (Option.some.inj h2).symm
theorem vx_runVW {y : MethodName} {bytes cc : ByteArray} {maxL nL mc ms n index : Nat} {ret : Option FieldType} {hh : List (Nat × Nat × Nat × Nat)} {ws : List Cond} {rm : Room} {Pc : Array Value → State → Prop} {Qc : Array Value → State → Outcome → State → Prop} {free : Addr → Prop} {Ts : List Cond} {own C : String} {b : Addr} {As rest : List Value} {g : JFrame}
    (S : CallFix p m c cc nL s args Ts own) (hM : Met l y ws rm Pc Qc mc ms free) (cw : vx_CVW R s args own C index y bytes maxL ret hh ws rm mc ms n) (hp : PreV s H C b Pc As)
    (hg : g.method = m) (hn : As.length = n) (hsize : g.locals.size = nL) (hstack : g.stack = As.reverse ++ .ref b :: rest) (hW : 2 * g.monitorRoom + (rest.map fun v => v.category).sum ≤ 8) (hdg : decode cc g.pc = .ok (.invokevirtual index, 3)) (hf : cells + mc ≤ R.cells ∧ slots + ms ≤ R.slots) :
    va_Run p l e R s m args below meth c H locs cells slots mc ms g rest (Qc (Value.ref b :: As).toArray) free := by
  obtain ⟨⟨hrc, hrs, hfr, hlo, hws, hcw⟩, hcode, hini, hy, hlen, hl, hin, hse⟩ := cw
  have hK : Back l R p e below s args y 3 8 (PreOf R mc ms Pc) (PostOf Qc mc ms free) := va_backW (hh := hh) (bytes := bytes) (maxL := maxL) (ret := ret) hM hp.1 hrc hrs hfr hlo hws hcw (fun a' U hW => word_at hW (Or.inl (by first | rfl | simp [Cond.onTables, Cond.keeps, Cond.steady])) hini)
  obtain ⟨hx, hb, hml, ho, -⟩ := S
  obtain ⟨-, ⟨cellB, hcB, hoB, hclB⟩, hPc⟩ := hp
  intro T hT X
  obtain ⟨v, vm₁, ⟨U', l2, c2, s2⟩, hW₁, X', ⟨g', mk, t, L, e1, e2, hq, h1, hL, h2, h3⟩, st⟩ := vx_callVW X hx (C := C) (hh := hh) (bytes := bytes) (maxL := maxL) (ret := ret) ho hl hin hse hcode hy hK (by rw [hT]; exact hcB) hoB hclB hg (hsize.trans hml.symm) (argsL := As) (rest := rest) (fun sig h => hn.trans (hlen sig h)) hstack hW (by rw [hb]; exact hdg)
    (fun vm₁ hW₁ => ⟨hf.1, hf.2, hPc (T.setVm vm₁) hT hW₁⟩)
  dsimp only [Pt.U, Pt.locs, Pt.cells, Pt.slots] at X' e1 e2 h1 h2 h3 st
  subst h1; subst h2; subst h3
  exact ⟨v, (T.setVm vm₁).calling g' mk (Value.ref b :: As).toArray, t, U', L, hT, X', hL, e1, e2, hq, st⟩
section
variable {y : MethodName} {bytes cc : ByteArray} {maxL nL mc ms n index : Nat} {ret : Option FieldType} {ws : List Cond} {rm : Room} {Pc : Array Value → State → Prop} {Qc : Array Value → State → Outcome → State → Prop} {XC : String → State → State → Prop} {free : Addr → Prop} {Ts : List Cond} {own C : String} {b : Addr} {As rest : List Value} {g : JFrame}
theorem vx_runVX {hh : List (Nat × Nat × Nat × Nat)} (S : CallFix p m c cc nL s args Ts own) (hM : vx_Met l y ws rm Pc Qc XC mc ms free) (cw : vx_CVW R s args own C index y bytes maxL ret hh ws rm mc ms n) (hp : PreV s H C b Pc As)
    (hg : g.method = m) (hn : As.length = n) (hsize : g.locals.size = nL) (hstack : g.stack = As.reverse ++ .ref b :: rest) (hW : 2 * g.monitorRoom + (rest.map fun v => v.category).sum ≤ 8) (hdg : decode cc g.pc = .ok (.invokevirtual index, 3)) (hf : cells + mc ≤ R.cells ∧ slots + ms ≤ R.slots) :
    vx_Run p l e R s m args below meth c H locs cells slots mc ms g rest (Qc (Value.ref b :: As).toArray) XC free := by
  obtain ⟨⟨hrc, hrs, hfr, hlo, hws, hcw⟩, hcode, hini, hy, hlen, hl, hin, hse⟩ := cw
  have hK : vx_Back l R p e below s args y 3 8 (PreOf R mc ms Pc) (PostOf Qc mc ms free) (vx_Post XC mc ms free) := vx_backW (hh := hh) (bytes := bytes) (maxL := maxL) (ret := ret) hM hp.1 hrc hrs hfr hlo hws hcw (fun a' U hW => word_at hW (Or.inl (by first | rfl | simp [Cond.onTables, Cond.keeps, Cond.steady])) hini)
  obtain ⟨hx, hb, hml, ho, -⟩ := S
  obtain ⟨-, ⟨cellB, hcB, hoB, hclB⟩, hPc⟩ := hp
  intro T hT X
  rcases vx_callVX X hx (C := C) (hh := hh) (bytes := bytes) (maxL := maxL) (ret := ret) ho hl hin hse hcode hy hK (by rw [hT]; exact hcB) hoB hclB hg (hsize.trans hml.symm) (argsL := As) (rest := rest) (fun sig h => hn.trans (hlen sig h)) hstack hW (by rw [hb]; exact hdg)
    (fun vm₁ hW₁ => ⟨hf.1, hf.2, hPc (T.setVm vm₁) hT hW₁⟩) with ⟨v, vm₁, ⟨U', l2, c2, s2⟩, hW₁, X', ⟨g', mk, t, L, e1, e2, hq, h1, hL, h2, h3⟩, st⟩ | ⟨q, vm₁, ⟨U', l2, c2, s2⟩, hW₁, X', ⟨g', mk, t, L, E, ce, e1, e2, hq, hce, hcv, hcl, h1, hL, h2, h3⟩, st⟩
  · dsimp only [Pt.U, Pt.locs, Pt.cells, Pt.slots] at X' e1 e2 h1 h2 h3 st
    subst h1; subst h2; subst h3
    exact Or.inl ⟨v, (T.setVm vm₁).calling g' mk (Value.ref b :: As).toArray, t, U', L, hT, X', hL, e1, e2, hq, st⟩
  · dsimp only [Pt.U, Pt.locs, Pt.cells, Pt.slots] at X' e1 e2 h1 h2 h3 st hcl
    subst h1; subst h2; subst h3
    exact Or.inr ⟨q, (T.setVm vm₁).calling g' mk (Value.ref b :: As).toArray, t, U', L, E, ce, hT, X', hL, e1, e2, hq, hce, hcv, vx_cls hW₁ hcl, st⟩
theorem vx_runSX {hh : List (Nat × Nat × Nat × Nat)} (S : CallFix p m c cc nL s args Ts own) (hM : vx_Met l y ws rm Pc Qc XC mc ms free) (cw : vx_CSW R s args own index y bytes maxL ret hh ws rm mc ms n) (hp : PreS s H Pc As)
    (hg : g.method = m) (hn : As.length = n) (hsize : g.locals.size = nL) (hstack : g.stack = As.reverse ++ rest) (hW : 2 * g.monitorRoom + (rest.map fun v => v.category).sum ≤ 8) (hdg : decode cc g.pc = .ok (.invokestatic index, 3)) (hf : cells + mc ≤ R.cells ∧ slots + ms ≤ R.slots) :
    vx_Run p l e R s m args below meth c H locs cells slots mc ms g rest (Qc As.toArray) XC free := by
  obtain ⟨⟨hrc, hrs, hfr, hlo, hws, hcw⟩, hcode, hini, hy, hlen, hl, hstt⟩ := cw
  have hK : vx_Back l R p e below s args y 3 8 (PreOf R mc ms Pc) (PostOf Qc mc ms free) (vx_Post XC mc ms free) := vx_backW (hh := hh) (bytes := bytes) (maxL := maxL) (ret := ret) hM hp.1 hrc hrs hfr hlo hws hcw (fun a' U hW => word_at hW (Or.inl (by first | rfl | simp [Cond.onTables, Cond.keeps, Cond.steady])) hini)
  obtain ⟨hx, hb, hml, ho, -⟩ := S
  intro T hT X
  rcases vx_callSX X hx (hh := hh) (bytes := bytes) (maxL := maxL) (ret := ret) ho hl hstt hini hcode hy hK hg (hsize.trans hml.symm) (argsL := As) (rest := rest) (fun sig h => hn.trans (hlen sig h)) hstack hW (by rw [hb]; exact hdg)
    (fun vm₁ hW₁ => ⟨hf.1, hf.2, hp.2 (T.setVm vm₁) hT hW₁⟩) with ⟨v, vm₁, ⟨U', l2, c2, s2⟩, hW₁, X', ⟨g', mk, t, L, e1, e2, hq, h1, hL, h2, h3⟩, st⟩ | ⟨q, vm₁, ⟨U', l2, c2, s2⟩, hW₁, X', ⟨g', mk, t, L, E, ce, e1, e2, hq, hce, hcv, hcl, h1, hL, h2, h3⟩, st⟩
  · dsimp only [Pt.U, Pt.locs, Pt.cells, Pt.slots] at X' e1 e2 h1 h2 h3 st
    subst h1; subst h2; subst h3
    exact Or.inl ⟨v, (T.setVm vm₁).calling g' mk As.toArray, t, U', L, hT, X', hL, e1, e2, hq, st⟩
  · dsimp only [Pt.U, Pt.locs, Pt.cells, Pt.slots] at X' e1 e2 h1 h2 h3 st hcl
    subst h1; subst h2; subst h3
    exact Or.inr ⟨q, (T.setVm vm₁).calling g' mk As.toArray, t, U', L, E, ce, hT, X', hL, e1, e2, hq, hce, hcv, vx_cls hW₁ hcl, st⟩
end
end VXH
theorem vx_ofWH {l : Launch} {y : MethodName} {ws ws' : List Cond} {rm : Room} {Pc : Array Value → State → Prop} {Qc : Array Value → State → Outcome → State → Prop} {XC : String → State → State → Prop} {mc ms : Nat} {free : Addr → Prop} {cc : ByteArray} {maxL : Nat} {ret : Option FieldType} {hh : List (Nat × Nat × Nat × Nat)}
    (hy : plainName y.cls = true) (hw : ws = Cond.codeWith y cc maxL ret hh :: ws')
    (body : ∀ p e s m args below meth c s₁, BodyLoose p l y (headSpec ws rm) cc maxL ret e s m args below meth c s₁ → c.maxLocals = maxL → Pc args s →
      W p l e (headSpec ws rm).room s m args below meth c s.heap [] 0 0 (vx_MQ below Qc XC args s mc ms free) (entryFrame m args maxL)) : vx_Met l y ws rm Pc Qc XC mc ms free := by
  refine MetFree.of_bodyS (code := cc) (maxLocals := maxL) (ret := ret) hy ?_ ?_
  · intro args s m h hn
    obtain ⟨m9, meth, c, hn9, h1, h2, h3, h4, -, h5, h6, -⟩ := Cond.codeWith_spec (atoms_spec (ws := ws) h _ (by rw [hw]; exact List.mem_cons_self))
    cases hn.symm.trans hn9
    exact ⟨meth, c, h1, h2, h3, h4, h5, h6⟩
  · intro p e s m args below meth c s₁ B hml hP _
    have hh0 : s₁.heap = s.heap := by rw [B.state]; rfl
    obtain ⟨t, a1, o, b1, b2, b3⟩ := body p e s m args below meth c s₁ B hml hP s₁ hh0 (Stand.of_body B)
    exact ⟨t, o, a1, b1, b2, b3⟩
/-! ===== END ===== -/
end
section
/-! RECORDS OF THE METHODS, AND WHERE THEIR WORDS STAND, by program (wip/whole/gen.py) -/
section REC
abbrev MR : Type := MethodName × ByteArray × Option FieldType × List (Nat × Nat × Nat × Nat)
def mr_X1_copyFrom : MR := (yX1_copyFrom, cX1_copyFrom, none, [])
def mr_X1_isQuietAt : MR := (yX1_isQuietAt, cX1_isQuietAt, (some .boolean), [])
def mr_X1_distanceTo : MR := (yX1_distanceTo, cX1_distanceTo, (some .int), [])
def mr_X1_tunesPlayed : MR := (yX1_tunesPlayed, cX1_tunesPlayed, (some .int), [])
def mr_X1_noteTune : MR := (yX1_noteTune, cX1_noteTune, none, [])
def mr_X1_forgetDay : MR := (yX1_forgetDay, cX1_forgetDay, none, [])
def mr_X2_signCount : MR := (yX2_signCount, cX2_signCount, (some .int), [])
def mr_X2_fits : MR := (yX2_fits, cX2_fits, (some .boolean), [])
def mr_X3_kindAt : MR := (yX3_kindAt, cX3_kindAt, (some (.object "OrganCorners$OrderKind")), [])
def mr_X3_errorIndex : MR := (yX3_errorIndex, cX3_errorIndex, (some .int), [])
def mr_X3_isWholeRow : MR := (yX3_isWholeRow, cX3_isWholeRow, (some .boolean), [])
def mr_X3_organAt : MR := (yX3_organAt, cX3_organAt, (some .int), [])
def mr_X3_tuneAt : MR := (yX3_tuneAt, cX3_tuneAt, (some .int), [])
def mr_X4_copyFrom : MR := (yX4_copyFrom, cX4_copyFrom, none, [])
def mr_X5_lookAt : MR := (yX5_lookAt, cX5_lookAt, none, [])
def mr_X5_leastHindering : MR := (yX5_leastHindering, cX5_leastHindering, (some .int), [])
def mr_X5_hinderedPairs : MR := (yX5_hinderedPairs, cX5_hinderedPairs, (some .int), [])
def mr_X5_findMost : MR := (yX5_findMost, cX5_findMost, none, [])
def mr_X5_takingsOf : MR := (yX5_takingsOf, cX5_takingsOf, (some .int), [])
def mr_X5_nearAhead : MR := (yX5_nearAhead, cX5_nearAhead, (some .int), [])
def mr_X5_findTunes : MR := (yX5_findTunes, cX5_findTunes, (some .boolean), [])
def mr_X5_isFree : MR := (yX5_isFree, cX5_isFree, (some .boolean), [])
def mr_X6_reckon : MR := (yX6_reckon, cX6_reckon, none, [])
def mr_X6_sharePot : MR := (yX6_sharePot, cX6_sharePot, none, [])
def mr_X6_giveUnits : MR := (yX6_giveUnits, cX6_giveUnits, none, [])
def mr_X6_giveAllowances : MR := (yX6_giveAllowances, cX6_giveAllowances, none, [])
def mr_X7_copyFrom : MR := (yX7_copyFrom, cX7_copyFrom, none, [])
def mr_X7_hoursOfDay : MR := (yX7_hoursOfDay, cX7_hoursOfDay, (some .int), [])
def mr_X7_forgetDay : MR := (yX7_forgetDay, cX7_forgetDay, none, [])
def mr_X8_save : MR := (yX8_save, cX8_save, none, [])
def mr_X8_restore : MR := (yX8_restore, cX8_restore, none, [])
def mr_X9_copyFrom : MR := (yX9_copyFrom, cX9_copyFrom, none, [])
def mr_X9_hasCornerAt : MR := (yX9_hasCornerAt, cX9_hasCornerAt, (some .boolean), [])
def mr_X9_permits : MR := (yX9_permits, cX9_permits, (some .int), [])
def mr_X9_crewSize : MR := (yX9_crewSize, cX9_crewSize, (some .int), [])
def mr_X9_organAt : MR := (yX9_organAt, cX9_organAt, (some .int), [])
def mr_X9_cornerOf : MR := (yX9_cornerOf, cX9_cornerOf, (some (.object "OrganCorners$Corner")), [])
def mr_X9_takingsSoFar : MR := (yX9_takingsSoFar, cX9_takingsSoFar, (some .int), [])
def mr_X9_ownersSoFar : MR := (yX9_ownersSoFar, cX9_ownersSoFar, (some .int), [])
def mr_X9_inAllPots : MR := (yX9_inAllPots, cX9_inAllPots, (some .int), [])
def mr_X9_playersSoFar : MR := (yX9_playersSoFar, cX9_playersSoFar, (some .int), [])
def mr_X9_weatherMayChange : MR := (yX9_weatherMayChange, cX9_weatherMayChange, (some .boolean), [])
def mr_X9_lotsMayBeDrawn : MR := (yX9_lotsMayBeDrawn, cX9_lotsMayBeDrawn, (some .boolean), [])
def mr_X9_drawLots : MR := (yX9_drawLots, cX9_drawLots, (some .int), [])
def mr_X9_takeCornersBack : MR := (yX9_takeCornersBack, cX9_takeCornersBack, none, [])
def mr_X9_draw : MR := (yX9_draw, cX9_draw, (some .int), [])
def mr_X9_freeCorner : MR := (yX9_freeCorner, cX9_freeCorner, (some .int), [])
def mr_X9_areNear : MR := (yX9_areNear, cX9_areNear, (some .boolean), [])
def mr_X9_tunesHeardAt : MR := (yX9_tunesHeardAt, cX9_tunesHeardAt, (some .int), [])
def mr_X9_reasonAgainstAll : MR := (yX9_reasonAgainstAll, cX9_reasonAgainstAll, (some .int), [])
def mr_X9_reasonAgainst : MR := (yX9_reasonAgainst, cX9_reasonAgainst, (some .int), [])
def mr_X9_playableTunes : MR := (yX9_playableTunes, cX9_playableTunes, (some .int), [])
def mr_X9_playedNear : MR := (yX9_playedNear, cX9_playedNear, (some .int), [])
def mr_X9_takingsFor : MR := (yX9_takingsFor, cX9_takingsFor, (some .int), [])
def mr_X9_playTune : MR := (yX9_playTune, cX9_playTune, (some .int), [])
def mr_X9_divideTakings : MR := (yX9_divideTakings, cX9_divideTakings, none, [])
def mr_X9_addHourOfCrew : MR := (yX9_addHourOfCrew, cX9_addHourOfCrew, none, [])
def mr_X9_endHour : MR := (yX9_endHour, cX9_endHour, none, [])
def mr_X9_payOut : MR := (yX9_payOut, cX9_payOut, none, [])
def mr_X9_beginDay : MR := (yX9_beginDay, cX9_beginDay, none, [])
def mr_X10_addCorner : MR := (yX10_addCorner, cX10_addCorner, (some .int), [])
def mr_X10_addOrgan : MR := (yX10_addOrgan, cX10_addOrgan, (some .int), [])
def mr_X10_addPlayer : MR := (yX10_addPlayer, cX10_addPlayer, (some .int), [])
def mr_X10_permit : MR := (yX10_permit, cX10_permit, (some .int), [])
def mr_X10_barrel : MR := (yX10_barrel, cX10_barrel, (some .int), [])
def mr_X10_assign : MR := (yX10_assign, cX10_assign, (some .int), [])
def mr_X10_set : MR := (yX10_set, cX10_set, (some .int), [])
def mr_X10_lots : MR := (yX10_lots, cX10_lots, (some .int), [])
def mr_X10_weather : MR := (yX10_weather, cX10_weather, (some .int), [])
def mr_X10_play : MR := (yX10_play, cX10_play, (some .int), [])
def mr_X10_next : MR := (yX10_next, cX10_next, (some .int), [])
def mr_X10_append : MR := (yX10_append, cX10_append, (some .int), [])
def mr_X10_clearBuffer : MR := (yX10_clearBuffer, cX10_clearBuffer, (some .int), [])
def mr_X10_firstError : MR := (yX10_firstError, cX10_firstError, (some .int), [])
def mr_X10_run : MR := (yX10_run, cX10_run, (some .int), [])
def mr_X10_undo : MR := (yX10_undo, cX10_undo, (some .int), [])
def mr_X10_corner : MR := (yX10_corner, cX10_corner, (some .int), [])
def mr_X10_organ : MR := (yX10_organ, cX10_organ, (some .int), [])
def mr_X10_player : MR := (yX10_player, cX10_player, (some .int), [])
def mr_X10_hours : MR := (yX10_hours, cX10_hours, (some .int), [])
def mr_X10_count : MR := (yX10_count, cX10_count, (some .int), [])
def mr_X10_setting : MR := (yX10_setting, cX10_setting, (some .int), [])
def mr_X10_whyNot : MR := (yX10_whyNot, cX10_whyNot, (some .int), [])
def mr_X10_ifPlayed : MR := (yX10_ifPlayed, cX10_ifPlayed, (some .int), [])
def mr_X10_kindestTune : MR := (yX10_kindestTune, cX10_kindestTune, (some .int), [])
def mr_X10_most : MR := (yX10_most, cX10_most, (some .int), [])
def mr_X10_ifEnded : MR := (yX10_ifEnded, cX10_ifEnded, (some .int), [])
def mr_X10_playersShare : MR := (yX10_playersShare, cX10_playersShare, (some .double), [])
def mr_X10_digest : MR := (yX10_digest, cX10_digest, (some .long), [])
def mr_X10_requireIndex : MR := (yX10_requireIndex, cX10_requireIndex, none, [])
def mr_X10_requireInRange : MR := (yX10_requireInRange, cX10_requireInRange, none, [])
def mr_X10_requireState : MR := (yX10_requireState, cX10_requireState, none, [])
def mr_X10_asNumber : MR := (yX10_asNumber, cX10_asNumber, (some .int), [])
def mr_X10_holds : MR := (yX10_holds, cX10_holds, (some .boolean), [])
def mr_X10_obey : MR := (yX10_obey, cX10_obey, (some .boolean), [])
def mr_X10_obeyPlay : MR := (yX10_obeyPlay, cX10_obeyPlay, (some .boolean), [])
def mr_X10_mixed : MR := (yX10_mixed, cX10_mixed, (some .long), [])
def mr_X10_withCorner : MR := (yX10_withCorner, cX10_withCorner, (some .long), [])
def mr_X10_withOrgan : MR := (yX10_withOrgan, cX10_withOrgan, (some .long), [])
def mr_X10_withPlayer : MR := (yX10_withPlayer, cX10_withPlayer, (some .long), [])
def mr_X10_withText : MR := (yX10_withText, cX10_withText, (some .long), [])
def mr_X10_bitsOfShare : MR := (yX10_bitsOfShare, cX10_bitsOfShare, (some .long), [])
def mr_X11_thrown : MR := (yX11_thrown, cX11_thrown, (some .int), [])
def mr_X11_fails : MR := (yX11_fails, cX11_fails, (some .int), [])
def mr_X11_within : MR := (yX11_within, cX11_within, (some .boolean), [])
def mr_X11_isCorner : MR := (yX11_isCorner, cX11_isCorner, (some .boolean), [])
def mr_X11_isOrgan : MR := (yX11_isOrgan, cX11_isOrgan, (some .boolean), [])
def mr_X11_isPlayer : MR := (yX11_isPlayer, cX11_isPlayer, (some .boolean), [])
def mr_X11_corner0 : MR := (yX11_corner0, cX11_corner0, (some .int), [])
def mr_X11_organ0 : MR := (yX11_organ0, cX11_organ0, (some .int), [])
def mr_X11_player0 : MR := (yX11_player0, cX11_player0, (some .int), [])
def mr_X11_cornerOf : MR := (yX11_cornerOf, cX11_cornerOf, (some .int), [])
def mr_X11_tuneIn : MR := (yX11_tuneIn, cX11_tuneIn, (some .int), [])
def mr_X11_save : MR := (yX11_save, cX11_save, none, [])
def mr_X11_keep : MR := (yX11_keep, cX11_keep, none, [])
def mr_X11_bring : MR := (yX11_bring, cX11_bring, none, [])
def mr_X11_addCorner : MR := (yX11_addCorner, cX11_addCorner, (some .int), [])
def mr_X11_addOrgan : MR := (yX11_addOrgan, cX11_addOrgan, (some .int), [])
def mr_X11_addPlayer : MR := (yX11_addPlayer, cX11_addPlayer, (some .int), [])
def mr_X11_permits : MR := (yX11_permits, cX11_permits, (some .int), [])
def mr_X11_permit : MR := (yX11_permit, cX11_permit, (some .int), [])
def mr_X11_barrel : MR := (yX11_barrel, cX11_barrel, (some .int), [])
def mr_X11_assign : MR := (yX11_assign, cX11_assign, (some .int), [])
def mr_X11_mostOf : MR := (yX11_mostOf, cX11_mostOf, (some .int), [])
def mr_X11_set : MR := (yX11_set, cX11_set, (some .int), [])
def mr_X11_playedToday : MR := (yX11_playedToday, cX11_playedToday, (some .int), [])
def mr_X11_draw : MR := (yX11_draw, cX11_draw, (some .int), [])
def mr_X11_whoHas : MR := (yX11_whoHas, cX11_whoHas, (some .int), [])
def mr_X11_freeCorners : MR := (yX11_freeCorners, cX11_freeCorners, (some .int), [])
def mr_X11_freeAt : MR := (yX11_freeAt, cX11_freeAt, (some .int), [])
def mr_X11_withCorner : MR := (yX11_withCorner, cX11_withCorner, (some .int), [])
def mr_X11_noCorners : MR := (yX11_noCorners, cX11_noCorners, none, [])
def mr_X11_mayDraw : MR := (yX11_mayDraw, cX11_mayDraw, (some .boolean), [])
def mr_X11_drawLots : MR := (yX11_drawLots, cX11_drawLots, none, [])
def mr_X11_lots : MR := (yX11_lots, cX11_lots, (some .int), [])
def mr_X11_weather : MR := (yX11_weather, cX11_weather, (some .int), [])
def mr_X11_isQuiet : MR := (yX11_isQuiet, cX11_isQuiet, (some .boolean), [])
def mr_X11_areNear : MR := (yX11_areNear, cX11_areNear, (some .boolean), [])
def mr_X11_heardAt : MR := (yX11_heardAt, cX11_heardAt, (some .int), [])
def mr_X11_crewOf : MR := (yX11_crewOf, cX11_crewOf, (some .int), [])
def mr_X11_reason : MR := (yX11_reason, cX11_reason, (some .int), [])
def mr_X11_othersNear : MR := (yX11_othersNear, cX11_othersNear, (some .int), [])
def mr_X11_takings : MR := (yX11_takings, cX11_takings, (some .int), [])
def mr_X11_plays : MR := (yX11_plays, cX11_plays, (some .int), [])
def mr_X11_play : MR := (yX11_play, cX11_play, (some .int), [])
def mr_X11_timeAt : MR := (yX11_timeAt, cX11_timeAt, (some .int), [])
def mr_X11_timeToday : MR := (yX11_timeToday, cX11_timeToday, (some .int), [])
def mr_X11_sharePot : MR := (yX11_sharePot, cX11_sharePot, none, [])
def mr_X11_endDay : MR := (yX11_endDay, cX11_endDay, none, [])
def mr_X11_goOn : MR := (yX11_goOn, cX11_goOn, none, [])
def mr_X11_next : MR := (yX11_next, cX11_next, (some .int), [])
def mr_X11_append : MR := (yX11_append, cX11_append, (some .int), [])
def mr_X11_clearBuffer : MR := (yX11_clearBuffer, cX11_clearBuffer, (some .int), [])
def mr_X11_goes : MR := (yX11_goes, cX11_goes, (some .boolean), [])
def mr_X11_ends : MR := (yX11_ends, cX11_ends, (some .boolean), [])
def mr_X11_begins : MR := (yX11_begins, cX11_begins, (some .boolean), [])
def mr_X11_takes : MR := (yX11_takes, cX11_takes, (some .boolean), [])
def mr_X11_read : MR := (yX11_read, cX11_read, (some .int), [])
def mr_X11_firstError : MR := (yX11_firstError, cX11_firstError, (some .int), [])
def mr_X11_mayDo : MR := (yX11_mayDo, cX11_mayDo, (some .boolean), [])
def mr_X11_does : MR := (yX11_does, cX11_does, none, [])
def mr_X11_run : MR := (yX11_run, cX11_run, (some .int), [])
def mr_X11_undo : MR := (yX11_undo, cX11_undo, (some .int), [])
def mr_X11_playedAt : MR := (yX11_playedAt, cX11_playedAt, (some .int), [])
def mr_X11_cornerNow : MR := (yX11_cornerNow, cX11_cornerNow, (some .int), [])
def mr_X11_corner : MR := (yX11_corner, cX11_corner, (some .int), [])
def mr_X11_organNow : MR := (yX11_organNow, cX11_organNow, (some .int), [])
def mr_X11_organ : MR := (yX11_organ, cX11_organ, (some .int), [])
def mr_X11_playerNow : MR := (yX11_playerNow, cX11_playerNow, (some .int), [])
def mr_X11_player : MR := (yX11_player, cX11_player, (some .int), [])
def mr_X11_hours : MR := (yX11_hours, cX11_hours, (some .int), [])
def mr_X11_ofOrgans : MR := (yX11_ofOrgans, cX11_ofOrgans, (some .int), [])
def mr_X11_playersGot : MR := (yX11_playersGot, cX11_playersGot, (some .int), [])
def mr_X11_counted : MR := (yX11_counted, cX11_counted, (some .int), [])
def mr_X11_count : MR := (yX11_count, cX11_count, (some .int), [])
def mr_X11_setting : MR := (yX11_setting, cX11_setting, (some .int), [])
def mr_X11_whyNot : MR := (yX11_whyNot, cX11_whyNot, (some .int), [])
def mr_X11_tunesOf : MR := (yX11_tunesOf, cX11_tunesOf, (some .int), [])
def mr_X11_playedNow : MR := (yX11_playedNow, cX11_playedNow, (some .int), [])
def mr_X11_ifPlayed : MR := (yX11_ifPlayed, cX11_ifPlayed, (some .int), [])
def mr_X11_size : MR := (yX11_size, cX11_size, (some .int), [])
def mr_X11_pairsBehind : MR := (yX11_pairsBehind, cX11_pairsBehind, (some .int), [])
def mr_X11_kindestNow : MR := (yX11_kindestNow, cX11_kindestNow, (some .int), [])
def mr_X11_kindestTune : MR := (yX11_kindestTune, cX11_kindestTune, (some .int), [])
def mr_X11_canPick : MR := (yX11_canPick, cX11_canPick, (some .boolean), [])
def mr_X11_pickTakings : MR := (yX11_pickTakings, cX11_pickTakings, (some .int), [])
def mr_X11_keepPicks : MR := (yX11_keepPicks, cX11_keepPicks, none, [])
def mr_X11_layMost : MR := (yX11_layMost, cX11_layMost, none, [])
def mr_X11_most : MR := (yX11_most, cX11_most, (some .int), [])
def mr_X11_endedNow : MR := (yX11_endedNow, cX11_endedNow, (some .int), [])
def mr_X11_ifEnded : MR := (yX11_ifEnded, cX11_ifEnded, (some .int), [])
def mr_X11_shareNow : MR := (yX11_shareNow, cX11_shareNow, (some .double), [])
def mr_X11_playersShare : MR := (yX11_playersShare, cX11_playersShare, (some .double), [])
def mr_X11_mix : MR := (yX11_mix, cX11_mix, none, [])
def mr_X11_mixOrgan : MR := (yX11_mixOrgan, cX11_mixOrgan, none, [])
def mr_X11_mixPlayer : MR := (yX11_mixPlayer, cX11_mixPlayer, none, [])
def mr_X11_digest : MR := (yX11_digest, cX11_digest, (some .long), [])
def mr_L_addCorner : MR := (yL_addCorner, cL_addCorner, (some .int), [(0, 14, 17, 13), (0, 14, 21, 15)])
def mr_L_addOrgan : MR := (yL_addOrgan, cL_addOrgan, (some .int), [(0, 9, 12, 13), (0, 9, 15, 15)])
def mr_L_addPlayer : MR := (yL_addPlayer, cL_addPlayer, (some .int), [(0, 8, 11, 15)])
def mr_L_permit : MR := (yL_permit, cL_permit, (some .int), [(0, 10, 13, 29)])
def mr_L_barrel : MR := (yL_barrel, cL_barrel, (some .int), [(0, 10, 13, 29), (0, 10, 17, 13)])
def mr_L_assign : MR := (yL_assign, cL_assign, (some .int), [(0, 10, 13, 29)])
def mr_L_set : MR := (yL_set, cL_set, (some .int), [(0, 10, 13, 29), (0, 10, 17, 13)])
def mr_L_lots : MR := (yL_lots, cL_lots, (some .int), [(0, 8, 11, 15)])
def mr_L_weather : MR := (yL_weather, cL_weather, (some .int), [(0, 9, 12, 15)])
def mr_L_play : MR := (yL_play, cL_play, (some .int), [(0, 10, 13, 29), (0, 10, 17, 13), (0, 10, 21, 15)])
def mr_L_append : MR := (yL_append, cL_append, (some .int), [(0, 9, 12, 13), (0, 9, 15, 15)])
def mr_L_run : MR := (yL_run, cL_run, (some .int), [(0, 8, 11, 13)])
def mr_L_undo : MR := (yL_undo, cL_undo, (some .int), [(0, 8, 11, 15)])
def mr_L_corner : MR := (yL_corner, cL_corner, (some .int), [(0, 10, 13, 29), (0, 10, 17, 13)])
def mr_L_organ : MR := (yL_organ, cL_organ, (some .int), [(0, 10, 13, 29), (0, 10, 17, 13)])
def mr_L_player : MR := (yL_player, cL_player, (some .int), [(0, 10, 13, 29), (0, 10, 17, 13)])
def mr_L_hours : MR := (yL_hours, cL_hours, (some .int), [(0, 10, 13, 29)])
def mr_L_count : MR := (yL_count, cL_count, (some .int), [(0, 9, 12, 13)])
def mr_L_setting : MR := (yL_setting, cL_setting, (some .int), [(0, 9, 12, 29)])
def mr_L_whyNot : MR := (yL_whyNot, cL_whyNot, (some .int), [(0, 10, 13, 29), (0, 10, 17, 13)])
def mr_L_ifPlayed : MR := (yL_ifPlayed, cL_ifPlayed, (some .int), [(0, 9, 12, 29)])
def mr_L_kindestTune : MR := (yL_kindestTune, cL_kindestTune, (some .int), [(0, 9, 12, 29)])
def mr_L_most : MR := (yL_most, cL_most, (some .int), [(0, 9, 12, 13)])
def mr_L_ifEnded : MR := (yL_ifEnded, cL_ifEnded, (some .int), [(0, 9, 12, 29)])
def mr_L_law : MR := (yL_law, cL_law, (some .boolean), [])
def mrt_0 : List MR := [mr_X1_copyFrom, mr_X1_isQuietAt, mr_X1_distanceTo, mr_X1_tunesPlayed, mr_X1_noteTune, mr_X1_forgetDay, mr_X2_signCount, mr_X2_fits, mr_X3_kindAt, mr_X3_errorIndex, mr_X3_isWholeRow, mr_X3_organAt, mr_X3_tuneAt, mr_X4_copyFrom, mr_X5_lookAt, mr_X5_leastHindering]
def mrt_1 : List MR := [mr_X5_hinderedPairs, mr_X5_findMost, mr_X5_takingsOf, mr_X5_nearAhead, mr_X5_findTunes, mr_X5_isFree, mr_X6_reckon, mr_X6_sharePot, mr_X6_giveUnits, mr_X6_giveAllowances, mr_X7_copyFrom, mr_X7_hoursOfDay, mr_X7_forgetDay, mr_X8_save, mr_X8_restore, mr_X9_copyFrom]
def mrt_2 : List MR := [mr_X9_hasCornerAt, mr_X9_permits, mr_X9_crewSize, mr_X9_organAt, mr_X9_cornerOf, mr_X9_takingsSoFar, mr_X9_ownersSoFar, mr_X9_inAllPots, mr_X9_playersSoFar, mr_X9_weatherMayChange, mr_X9_lotsMayBeDrawn, mr_X9_drawLots, mr_X9_takeCornersBack, mr_X9_draw, mr_X9_freeCorner, mr_X9_areNear]
def mrt_3 : List MR := [mr_X9_tunesHeardAt, mr_X9_reasonAgainstAll, mr_X9_reasonAgainst, mr_X9_playableTunes, mr_X9_playedNear, mr_X9_takingsFor, mr_X9_playTune, mr_X9_divideTakings, mr_X9_addHourOfCrew, mr_X9_endHour, mr_X9_payOut, mr_X9_beginDay, mr_X10_addCorner, mr_X10_addOrgan, mr_X10_addPlayer, mr_X10_permit]
def mrt_4 : List MR := [mr_X10_barrel, mr_X10_assign, mr_X10_set, mr_X10_lots, mr_X10_weather, mr_X10_play, mr_X10_next, mr_X10_append, mr_X10_clearBuffer, mr_X10_firstError, mr_X10_run, mr_X10_undo, mr_X10_corner, mr_X10_organ, mr_X10_player, mr_X10_hours]
def mrt_5 : List MR := [mr_X10_count, mr_X10_setting, mr_X10_whyNot, mr_X10_ifPlayed, mr_X10_kindestTune, mr_X10_most, mr_X10_ifEnded, mr_X10_playersShare, mr_X10_digest, mr_X10_requireIndex, mr_X10_requireInRange, mr_X10_requireState, mr_X10_asNumber, mr_X10_holds, mr_X10_obey, mr_X10_obeyPlay]
def mrt_6 : List MR := [mr_X10_mixed, mr_X10_withCorner, mr_X10_withOrgan, mr_X10_withPlayer, mr_X10_withText, mr_X10_bitsOfShare, mr_X11_thrown, mr_X11_fails, mr_X11_within, mr_X11_isCorner, mr_X11_isOrgan, mr_X11_isPlayer, mr_X11_corner0, mr_X11_organ0, mr_X11_player0, mr_X11_cornerOf]
def mrt_7 : List MR := [mr_X11_tuneIn, mr_X11_save, mr_X11_keep, mr_X11_bring, mr_X11_addCorner, mr_X11_addOrgan, mr_X11_addPlayer, mr_X11_permits, mr_X11_permit, mr_X11_barrel, mr_X11_assign, mr_X11_mostOf, mr_X11_set, mr_X11_playedToday, mr_X11_draw, mr_X11_whoHas]
def mrt_8 : List MR := [mr_X11_freeCorners, mr_X11_freeAt, mr_X11_withCorner, mr_X11_noCorners, mr_X11_mayDraw, mr_X11_drawLots, mr_X11_lots, mr_X11_weather, mr_X11_isQuiet, mr_X11_areNear, mr_X11_heardAt, mr_X11_crewOf, mr_X11_reason, mr_X11_othersNear, mr_X11_takings, mr_X11_plays]
def mrt_9 : List MR := [mr_X11_play, mr_X11_timeAt, mr_X11_timeToday, mr_X11_sharePot, mr_X11_endDay, mr_X11_goOn, mr_X11_next, mr_X11_append, mr_X11_clearBuffer, mr_X11_goes, mr_X11_ends, mr_X11_begins, mr_X11_takes, mr_X11_read, mr_X11_firstError, mr_X11_mayDo]
def mrt_10 : List MR := [mr_X11_does, mr_X11_run, mr_X11_undo, mr_X11_playedAt, mr_X11_cornerNow, mr_X11_corner, mr_X11_organNow, mr_X11_organ, mr_X11_playerNow, mr_X11_player, mr_X11_hours, mr_X11_ofOrgans, mr_X11_playersGot, mr_X11_counted, mr_X11_count, mr_X11_setting]
def mrt_11 : List MR := [mr_X11_whyNot, mr_X11_tunesOf, mr_X11_playedNow, mr_X11_ifPlayed, mr_X11_size, mr_X11_pairsBehind, mr_X11_kindestNow, mr_X11_kindestTune, mr_X11_canPick, mr_X11_pickTakings, mr_X11_keepPicks, mr_X11_layMost, mr_X11_most, mr_X11_endedNow, mr_X11_ifEnded, mr_X11_shareNow]
def mrt_12 : List MR := [mr_X11_playersShare, mr_X11_mix, mr_X11_mixOrgan, mr_X11_mixPlayer, mr_X11_digest, mr_L_addCorner, mr_L_addOrgan, mr_L_addPlayer, mr_L_permit, mr_L_barrel, mr_L_assign, mr_L_set, mr_L_lots, mr_L_weather, mr_L_play, mr_L_append]
def mrt_13 : List MR := [mr_L_run, mr_L_undo, mr_L_corner, mr_L_organ, mr_L_player, mr_L_hours, mr_L_count, mr_L_setting, mr_L_whyNot, mr_L_ifPlayed, mr_L_kindestTune, mr_L_most, mr_L_ifEnded, mr_L_law]
def mrts : List (List MR) := [mrt_0, mrt_1, mrt_2, mrt_3, mrt_4, mrt_5, mrt_6, mrt_7, mrt_8, mrt_9, mrt_10, mrt_11, mrt_12, mrt_13]
def mr0 : MR := (⟨"", "", ""⟩, ⟨#[]⟩, none, [])
def mrec (n : Nat) : MR := (mrts.getD (n / 16) []).getD (n % 16) mr0
def yN (n : Nat) : MethodName := (mrec n).1
def cw_ (M : MI) (r : MR) : Cond := bif r.2.2.2.isEmpty then Cond.code r.1 r.2.1 M.2.2.2.1 r.2.2.1 else Cond.codeWith r.1 r.2.1 M.2.2.2.1 r.2.2.1 r.2.2.2
def cwN (n : Nat) : Cond := match mtab n with
  | some M => cw_ M (mrec n)
  | none => .initialized ""
def clT (ci : Nat) : vw_C := bif Nat.beq ci 29 then (RX2, TX2, 0) else vwCl.getD ci ("", TX0, 0)
def exn (k : Nat) : String := match k with
  | 1 => "java/lang/IllegalArgumentException"
  | 2 => "java/lang/IllegalStateException"
  | _ => "java/lang/IndexOutOfBoundsException"
def entWs (own : String) (ix : Nat) (e : Ent) : List Cond := match e with
  | (0, ci, j, _) => [.fieldLink own ix (clT ci).1 ((clT ci).2.1 j).2.1 ((clT ci).2.1 j).2.2.1]
  | (1, ci, j, _) => [.fieldLink own ix (clT ci).1 ((clT ci).2.1 j).2.1 ((clT ci).2.1 j).2.2.1]
  | (2, ci, j, _) => [.fieldLink own ix (clT ci).1 ((clT ci).2.1 j).2.1 ((clT ci).2.1 j).2.2.1]
  | (3, ci, j, _) => [.fieldLink own ix (clT ci).1 ((clT ci).2.1 j).2.1 ((clT ci).2.1 j).2.2.1]
  | (4, n, _, .ref ci) => [.methodLink own ix (yN n), .instanceMethod (yN n), .selects (clT ci).1 (yN n) (yN n), .initialized (yN n).cls, cwN n]
  | (9, n, _, _) => [.methodLink own ix (yN n), .static (yN n), .initialized (yN n).cls, cwN n]
  | (10, n, _, _) => [.static (yN n), .initialized (yN n).cls, cwN n]
  | (6, _, _, .int v) => [.constant own ix v]
  | (6, _, _, .long v) => [.constantLong own ix v]
  | (6, _, _, .double v) => [.constantDouble own ix v]
  | (7, k, _, _) => [.classLink own ix (exn k)]
  | (8, 29, 0, _) => [.fieldLink own ix "OrganCorners$OrderKind" "least" "Ljava/lang/String;"]
  | (8, 29, 1, _) => [.fieldLink own ix "OrganCorners$OrderKind" "greatest" "Ljava/lang/String;"]
  | (12, 400, _, _) => [.fieldLink own ix "OrganCorners" "GREATEST_SETTINGS" "[I"]
  | (12, 402, _, _) => [.fieldLink own ix "OrganCorners$1" "$SwitchMap$OrganCorners$OrderKind" "[I"]
  | (12, 411, _, _) => [.fieldLink own ix "OrganCorners$OrderKind" "WET" "LOrganCorners$OrderKind;"]
  | (5, 0, _, _) => [.methodLink own ix Lib.Math.max.name, .static Lib.Math.max.name, .initialized "java/lang/Math", .code Lib.Math.max.name Lib.Math.max.code 2 (some .int)]
  | (5, 1, _, _) => [.methodLink own ix Lib.Math.min.name, .static Lib.Math.min.name, .initialized "java/lang/Math", .code Lib.Math.min.name Lib.Math.min.code 2 (some .int)]
  | (5, 2, _, _) => [.methodLink own ix Lib.Math.abs.name, .static Lib.Math.abs.name, .initialized "java/lang/Math", .code Lib.Math.abs.name Lib.Math.abs.code 1 (some .int)]
  | (5, 3, _, _) => [.methodLink own ix arraycopyName, .native arraycopyName, .static arraycopyName, .initialized "java/lang/System"]
  | _ => []
def tch : List (List Cond) := [k2_sels lw_privs, tables_1_1, tables_1_2, tables_1_3, tables_1_4, tables_1_5, tables_1_6, tables_1_7]
def tix (q : Nat × Nat) : Option Cond := (tch.getD q.1 [])[q.2]?
def ixL_L : List (List (Nat × Nat)) := [[(4, 42), (4, 43), (4, 44), (1, 1), (4, 45)], [(4, 72), (4, 73), (4, 74), (1, 1), (4, 75)], [(4, 79), (4, 80), (4, 81), (1, 1), (4, 82)], [(4, 87), (4, 88), (4, 89), (1, 1), (4, 90)], [(4, 98), (4, 99), (4, 100), (1, 1), (4, 101)], [(4, 105), (4, 106), (4, 107), (1, 1), (4, 108)], [(4, 112), (4, 113), (4, 114), (1, 1), (4, 115)], [(4, 121), (4, 122), (4, 123), (1, 1), (4, 124)], [(4, 149), (4, 150), (4, 151), (1, 1), (4, 152)], [(4, 160), (4, 161), (4, 162), (1, 1), (4, 163)], [(4, 185), (4, 186), (4, 187), (1, 1), (4, 188)], [(4, 192), (4, 193), (4, 194), (1, 1), (4, 195)], [(4, 233), (4, 234), (4, 235), (1, 1), (4, 236)], [(5, 4), (3, 122), (3, 123), (1, 1), (3, 124)], [(5, 8), (3, 157), (3, 158), (1, 1), (3, 159)], [(5, 12), (3, 231), (3, 232), (1, 1), (3, 233)], [(5, 16), (3, 236), (3, 237), (1, 1), (3, 238)], [(5, 20), (3, 5), (3, 6), (1, 1), (3, 7)], [(5, 24), (3, 95), (3, 96), (1, 1), (3, 97)], [(5, 28), (3, 165), (3, 166), (1, 1), (3, 167)], [(5, 32), (3, 187), (3, 188), (1, 1), (3, 189)], [(5, 36), (3, 208), (3, 209), (1, 1), (3, 210)], [(5, 40), (4, 5), (4, 6), (1, 1), (4, 7)], [(5, 44), (4, 0), (4, 1), (1, 1), (4, 2)], [(4, 37), (4, 38), (1, 0), (4, 39)], [(5, 110), (5, 111), (5, 112), (1, 11), (5, 113)], [(5, 106), (5, 107), (5, 108), (1, 11), (5, 109)], [(4, 69), (4, 70), (1, 0), (4, 71)], [(5, 129), (5, 130), (5, 131), (1, 11), (5, 132)], [(4, 76), (4, 77), (1, 0), (4, 78)], [(5, 133), (5, 134), (5, 135), (1, 11), (5, 136)], [(4, 83), (4, 84), (1, 0), (4, 85)], [(5, 137), (5, 138), (5, 139), (1, 11), (5, 140)], [(4, 95), (4, 96), (1, 0), (4, 97)], [(5, 153), (5, 154), (5, 155), (1, 11), (5, 156)], [(4, 102), (4, 103), (1, 0), (4, 104)], [(5, 157), (5, 158), (5, 159), (1, 11), (5, 160)], [(4, 109), (4, 110), (1, 0), (4, 111)], [(5, 169), (5, 170), (5, 171), (1, 11), (5, 172)], [(4, 118), (4, 119), (1, 0), (4, 120)], [(5, 176), (5, 177), (5, 178), (1, 11), (5, 179)], [(4, 146), (4, 147), (1, 0), (4, 148)], [(5, 224), (5, 225), (5, 226), (1, 11), (5, 227)], [(4, 157), (4, 158), (1, 0), (4, 159)], [(5, 228), (5, 229), (5, 230), (1, 11), (5, 231)], [(2, 80), (2, 81), (2, 82), (1, 1), (2, 83)], [(6, 28), (6, 29), (6, 30), (1, 11), (6, 31)], [(4, 182), (4, 183), (1, 0), (4, 184)], [(6, 52), (6, 53), (6, 54), (1, 11), (6, 55)], [(2, 153), (2, 154), (2, 155), (1, 1), (2, 156)], [(6, 56), (6, 57), (6, 58), (1, 11), (6, 59)], [(2, 157), (2, 158), (2, 159), (1, 1), (2, 160)], [(6, 60), (6, 61), (6, 62), (1, 11), (6, 63)], [(4, 189), (4, 190), (1, 0), (4, 191)], [(6, 84), (6, 85), (6, 86), (1, 11), (6, 87)], [(4, 230), (4, 231), (1, 0), (4, 232)], [(6, 96), (6, 97), (6, 98), (1, 11), (6, 99)], [(5, 1), (5, 2), (1, 0), (5, 3)], [(6, 100), (6, 101), (6, 102), (1, 11), (6, 103)], [(5, 5), (5, 6), (1, 0), (5, 7)], [(6, 116), (6, 117), (6, 118), (1, 11), (6, 119)], [(5, 9), (5, 10), (1, 0), (5, 11)], [(6, 124), (6, 125), (6, 126), (1, 11), (6, 127)], [(5, 13), (5, 14), (1, 0), (5, 15)], [(6, 132), (6, 133), (6, 134), (1, 11), (6, 135)], [(5, 17), (5, 18), (1, 0), (5, 19)], [(6, 136), (6, 137), (6, 138), (1, 11), (6, 139)], [(5, 21), (5, 22), (1, 0), (5, 23)], [(6, 152), (6, 153), (6, 154), (1, 11), (6, 155)], [(5, 25), (5, 26), (1, 0), (5, 27)], [(6, 156), (6, 157), (6, 158), (1, 11), (6, 159)], [(5, 29), (5, 30), (1, 0), (5, 31)], [(6, 160), (6, 161), (6, 162), (1, 11), (6, 163)], [(5, 33), (5, 34), (1, 0), (5, 35)], [(6, 172), (6, 173), (6, 174), (1, 11), (6, 175)], [(5, 37), (5, 38), (1, 0), (5, 39)], [(6, 187), (6, 188), (6, 189), (1, 11), (6, 190)], [(5, 41), (5, 42), (1, 0), (5, 43)], [(6, 207), (6, 208), (6, 209), (1, 11), (6, 210)], [(2, 227), (2, 228), (2, 229), (1, 1), (2, 230)], [(6, 223), (6, 224), (6, 225), (1, 11), (6, 226)], [(2, 239), (3, 0), (3, 1), (1, 1), (3, 2)], [(6, 231), (6, 232), (6, 233), (1, 11), (6, 234)]]
set_option maxRecDepth 100000 in
theorem ek_L : plL_L.map (fun q => entWs RL q.1 q.2) = ixL_L.map (fun is => is.filterMap tix) := rfl
set_option maxRecDepth 100000 in
theorem eg_L : (plL_L.map (fun q => entWs RL q.1 q.2)).all (fun l => l.all goodWord) = true := rfl
def ixL_X1 : List (List (Nat × Nat)) := [[(1, 62)], [(1, 52)], [(1, 55)], [(1, 58)], [(1, 60)], [(2, 96), (1, 158), (1, 157), (1, 6)], [(3, 148), (3, 149), (1, 18), (3, 150)], [(3, 137), (3, 138), (1, 18), (3, 139)]]
set_option maxRecDepth 100000 in
theorem ek_X1 : plL_X1.map (fun q => entWs RX1 q.1 q.2) = ixL_X1.map (fun is => is.filterMap tix) := rfl
set_option maxRecDepth 100000 in
theorem eg_X1 : (plL_X1.map (fun q => entWs RX1 q.1 q.2)).all (fun l => l.all goodWord) = true := rfl
def ixL_X10 : List (List (Nat × Nat)) := [[(2, 64)], [(2, 65)], [(2, 66)], [(2, 67)], [(2, 68)], [(3, 8), (3, 9), (1, 1), (3, 10)], [(1, 170)], [(4, 46), (4, 47), (4, 48), (1, 2), (4, 49)], [(4, 50), (4, 51), (1, 1), (4, 52)], [(2, 84), (2, 85), (2, 86), (1, 7), (2, 87)], [(1, 160)], [(1, 53)], [(1, 56)], [(1, 59)], [(1, 61)], [(1, 175)], [(1, 163)], [(1, 81)], [(1, 178)], [(3, 98), (3, 99), (1, 1), (3, 100)], [(1, 85)], [(4, 91), (4, 92), (4, 93), (1, 2), (4, 94)], [(1, 87)], [(1, 166)], [(1, 129)], [(4, 116)], [(1, 169)], [(4, 125), (4, 126), (4, 127), (1, 2), (4, 128)], [(4, 129), (4, 130), (4, 131), (1, 2), (4, 132)], [(4, 153), (4, 154), (4, 155), (1, 2), (4, 156)], [(1, 185)], [(3, 79), (3, 80), (1, 1), (3, 81)], [(3, 168), (3, 169), (3, 170), (1, 2), (3, 171)], [(4, 164), (4, 165), (4, 166), (1, 2), (4, 167)], [(2, 106), (2, 107), (2, 108), (1, 2), (2, 109)], [(1, 182)], [(2, 17)], [(2, 15)], [(2, 161), (2, 162), (2, 163), (1, 8), (2, 164)], [(4, 196), (4, 197), (4, 198), (1, 8), (4, 199)], [(3, 11)], [(4, 202), (2, 166), (2, 167), (1, 8), (2, 168)], [(4, 203), (4, 205), (0, 17), (1, 1), (4, 206)], [(4, 229), (2, 224), (2, 225), (1, 25), (2, 226)], [(2, 0)], [(4, 237), (4, 238), (4, 239), (1, 7), (5, 0)], [(3, 125), (3, 126), (3, 127), (1, 3), (3, 128)], [(3, 129), (3, 130), (3, 131), (1, 2), (3, 132)], [(3, 133), (3, 134), (3, 135), (1, 3), (3, 136)], [(3, 140), (3, 141), (3, 142), (1, 2), (3, 143)], [(1, 91)], [(3, 160), (3, 161), (3, 162), (1, 2), (3, 163)], [(1, 95)], [(1, 98)], [(1, 101)], [(1, 103)], [(3, 234), (2, 127), (2, 128), (1, 5), (2, 129)], [(1, 132)], [(1, 134)], [(1, 137)], [(1, 141)], [(1, 180)], [(1, 187)], [(1, 189)], [(1, 191)], [(2, 231), (2, 232), (2, 233), (1, 2), (2, 234)], [(1, 193)], [(1, 196)], [(3, 82), (3, 83), (3, 84), (1, 2), (3, 85)], [(3, 86), (3, 87), (3, 88), (1, 2), (3, 89)], [(2, 235), (2, 236), (2, 237), (1, 2), (2, 238)], [(3, 190), (3, 191), (3, 192), (1, 2), (3, 193)], [(3, 194), (3, 195), (3, 196), (1, 2), (3, 197)], [(3, 202), (3, 203), (3, 204), (1, 2), (3, 205)], [(3, 211), (3, 212), (3, 213), (1, 10), (3, 214)], [(3, 216), (3, 217), (3, 218), (1, 10), (3, 219)], [(4, 8), (4, 9), (4, 10), (1, 10), (4, 11)], [(2, 52)], [(2, 54)], [(4, 3), (2, 111), (2, 112), (1, 9), (2, 113)], [(2, 30)], [(2, 33)], [(3, 3)], [(3, 4), (3, 5), (3, 6), (1, 1), (3, 7)], [(3, 90), (3, 91), (1, 1), (3, 92)], [(3, 94), (3, 95), (3, 96), (1, 1), (3, 97)], [(3, 117), (3, 119), (0, 7), (1, 1), (3, 120)], [(3, 152), (3, 154), (0, 8), (1, 1), (3, 155)], [(3, 226), (3, 228), (0, 11), (1, 1), (3, 229)], [(4, 4), (4, 5), (4, 6), (1, 1), (4, 7)], [(4, 26), (2, 228), (2, 229), (1, 1), (2, 230)], [(4, 27), (4, 28), (1, 1), (4, 29)], [(4, 33), (4, 35), (0, 12), (1, 1), (4, 36)], [(3, 101)], [(4, 53)], [(4, 207)], [], [(4, 215)], [(4, 217), (4, 218), (4, 219), (1, 8), (4, 220)], [(4, 221), (4, 222), (4, 223), (1, 8), (4, 224)], [(4, 225), (4, 227), (0, 18), (1, 1), (4, 228)], [(3, 93)], [(3, 121), (3, 122), (3, 123), (1, 1), (3, 124)], [(3, 156), (3, 157), (3, 158), (1, 1), (3, 159)], [(3, 164), (3, 165), (3, 166), (1, 1), (3, 167)], [(3, 186), (3, 187), (3, 188), (1, 1), (3, 189)], [(3, 207), (3, 208), (3, 209), (1, 1), (3, 210)], [(3, 230), (3, 231), (3, 232), (1, 1), (3, 233)], [(3, 235), (3, 236), (3, 237), (1, 1), (3, 238)], [(3, 239), (4, 0), (4, 1), (1, 1), (4, 2)], [(4, 30)], [(4, 31)], [(4, 32)]]
set_option maxRecDepth 100000 in
theorem ek_X10 : plL_X10.map (fun q => entWs RX10 q.1 q.2) = ixL_X10.map (fun is => is.filterMap tix) := rfl
set_option maxRecDepth 100000 in
theorem eg_X10 : (plL_X10.map (fun q => entWs RX10 q.1 q.2)).all (fun l => l.all goodWord) = true := rfl
def ixL_X11 : List (List (Nat × Nat)) := [[(5, 51)], [(5, 52)], [(5, 53)], [(5, 54)], [(5, 55)], [(5, 56)], [(5, 57)], [(5, 58)], [(5, 59)], [(5, 67)], [(5, 114), (5, 115), (1, 11), (5, 116)], [(5, 149), (5, 151), (0, 24), (1, 11), (5, 152)], [(5, 65)], [(5, 117), (5, 119), (0, 19), (1, 11), (5, 120)], [(5, 121), (5, 123), (0, 20), (1, 11), (5, 124)], [(5, 125), (5, 127), (0, 21), (1, 11), (5, 128)], [(5, 141), (5, 143), (0, 22), (1, 11), (5, 144)], [(5, 145), (5, 147), (0, 23), (1, 11), (5, 148)], [(5, 161), (5, 163), (0, 25), (1, 11), (5, 164)], [(5, 165), (5, 167), (0, 26), (1, 11), (5, 168)], [(5, 173), (5, 174), (1, 11), (5, 175)], [(5, 212)], [(5, 213)], [(5, 214)], [(5, 215)], [(5, 204), (5, 206), (0, 33), (1, 11), (5, 207)], [(5, 200), (5, 202), (0, 32), (1, 11), (5, 203)], [(5, 184), (5, 186), (0, 28), (1, 11), (5, 187)], [(5, 192), (5, 194), (0, 30), (1, 11), (5, 195)], [(5, 196), (5, 198), (0, 31), (1, 11), (5, 199)], [(5, 208), (5, 210), (0, 34), (1, 11), (5, 211)], [(5, 216), (5, 218), (0, 35), (1, 11), (5, 219)], [(5, 180), (5, 182), (0, 27), (1, 11), (5, 183)], [(5, 188), (5, 190), (0, 29), (1, 11), (5, 191)], [(5, 220), (5, 222), (0, 36), (1, 11), (5, 223)], [(6, 12), (6, 14), (0, 42), (1, 11), (6, 15)], [(6, 0), (6, 2), (0, 39), (1, 11), (6, 3)], [(5, 236), (5, 238), (0, 38), (1, 11), (5, 239)], [(6, 4), (6, 6), (0, 40), (1, 11), (6, 7)], [(6, 8), (6, 10), (0, 41), (1, 11), (6, 11)], [(6, 20), (6, 22), (0, 44), (1, 11), (6, 23)], [(6, 24), (6, 26), (0, 45), (1, 11), (6, 27)], [(5, 232), (5, 234), (0, 37), (1, 11), (5, 235)], [(6, 16), (6, 18), (0, 43), (1, 11), (6, 19)], [(6, 44), (6, 46), (0, 49), (1, 11), (6, 47)], [(6, 40), (6, 42), (0, 48), (1, 11), (6, 43)], [(6, 48), (6, 50), (0, 50), (1, 11), (6, 51)], [(6, 36), (6, 38), (0, 47), (1, 11), (6, 39)], [(6, 32), (6, 34), (0, 46), (1, 11), (6, 35)], [(5, 66)], [(5, 63)], [(5, 62)], [(6, 76), (6, 78), (0, 54), (1, 11), (6, 79)], [(5, 64)], [(6, 72), (6, 74), (0, 53), (1, 11), (6, 75)], [(6, 80), (6, 82), (0, 55), (1, 11), (6, 83)], [(6, 68), (6, 70), (0, 52), (1, 11), (6, 71)], [(6, 64), (6, 66), (0, 51), (1, 11), (6, 67)], [(6, 88), (6, 90), (0, 56), (1, 11), (6, 91)], [(6, 92), (6, 94), (0, 57), (1, 11), (6, 95)], [(6, 112), (6, 114), (0, 60), (1, 11), (6, 115)], [(6, 104), (6, 106), (0, 58), (1, 11), (6, 107)], [(6, 108), (6, 110), (0, 59), (1, 11), (6, 111)], [(6, 120), (6, 122), (0, 61), (1, 11), (6, 123)], [(6, 128), (6, 130), (0, 62), (1, 11), (6, 131)], [(6, 144), (6, 146), (0, 64), (1, 11), (6, 147)], [(6, 148), (6, 150), (0, 65), (1, 11), (6, 151)], [(6, 140), (6, 142), (0, 63), (1, 11), (6, 143)], [(6, 168), (6, 170), (0, 67), (1, 11), (6, 171)], [(6, 164), (6, 166), (0, 66), (1, 11), (6, 167)], [(6, 184), (6, 185), (1, 11), (6, 186)], [(6, 180), (6, 182), (0, 69), (1, 11), (6, 183)], [(6, 176), (6, 178), (0, 68), (1, 11), (6, 179)], [(5, 60)], [(5, 61)], [(6, 195), (6, 197), (0, 71), (1, 11), (6, 198)], [(6, 199), (6, 201), (0, 72), (1, 11), (6, 202)], [(6, 203), (6, 205), (0, 73), (1, 11), (6, 206)], [(6, 191), (6, 193), (0, 70), (1, 11), (6, 194)], [(6, 215), (6, 217), (0, 75), (1, 11), (6, 218)], [(6, 219), (6, 221), (0, 76), (1, 11), (6, 222)], [(6, 211), (6, 213), (0, 74), (1, 11), (6, 214)], [(6, 227), (6, 229), (0, 77), (1, 11), (6, 230)], [(7, 0)], [(5, 68)], [(6, 236), (6, 238), (0, 78), (1, 11), (6, 239)], [(6, 235)], [(7, 1), (7, 3), (0, 79), (1, 11), (7, 4)], [(7, 5), (7, 7), (0, 80), (1, 11), (7, 8)], []]
set_option maxRecDepth 100000 in
theorem ek_X11 : plL_X11.map (fun q => entWs RX11 q.1 q.2) = ixL_X11.map (fun is => is.filterMap tix) := rfl
set_option maxRecDepth 100000 in
theorem eg_X11 : (plL_X11.map (fun q => entWs RX11 q.1 q.2)).all (fun l => l.all goodWord) = true := rfl
def ixL_X2 : List (List (Nat × Nat)) := [[(7, 21)], [(7, 24)], [], []]
set_option maxRecDepth 100000 in
theorem ek_X2 : plL_X2.map (fun q => entWs RX2 q.1 q.2) = ixL_X2.map (fun is => is.filterMap tix) := rfl
set_option maxRecDepth 100000 in
theorem eg_X2 : (plL_X2.map (fun q => entWs RX2 q.1 q.2)).all (fun l => l.all goodWord) = true := rfl
def ixL_X3 : List (List (Nat × Nat)) := [[(2, 14)], [(2, 16)], [], [(2, 171), (2, 172), (2, 173), (1, 25), (2, 174)], [(2, 165), (2, 166), (2, 167), (1, 8), (2, 168)], [(2, 223), (2, 224), (2, 225), (1, 25), (2, 226)], [(4, 200), (2, 162), (2, 163), (1, 8), (2, 164)]]
set_option maxRecDepth 100000 in
theorem ek_X3 : plL_X3.map (fun q => entWs RX3 q.1 q.2) = ixL_X3.map (fun is => is.filterMap tix) := rfl
set_option maxRecDepth 100000 in
theorem eg_X3 : (plL_X3.map (fun q => entWs RX3 q.1 q.2)).all (fun l => l.all goodWord) = true := rfl
def ixL_X4 : List (List (Nat × Nat)) := [[(1, 89)], [(1, 102)], [(1, 80)], [(1, 83)], [(1, 86)], [(1, 92)], [(1, 96)], [(1, 99)]]
set_option maxRecDepth 100000 in
theorem ek_X4 : plL_X4.map (fun q => entWs RX4 q.1 q.2) = ixL_X4.map (fun is => is.filterMap tix) := rfl
set_option maxRecDepth 100000 in
theorem eg_X4 : (plL_X4.map (fun q => entWs RX4 q.1 q.2)).all (fun l => l.all goodWord) = true := rfl
def ixL_X5 : List (List (Nat × Nat)) := [[(2, 49)], [(2, 50)], [(1, 172)], [(3, 215), (3, 191), (3, 192), (1, 2), (3, 193)], [(3, 183), (1, 1), (3, 184)], [(3, 221), (3, 223), (0, 10), (1, 10), (3, 224)], [(3, 225), (3, 199), (3, 200), (1, 2), (3, 201)], [(2, 51)], [(2, 53)], [(4, 12), (4, 13), (1, 10), (4, 14)], [(4, 20), (4, 21), (1, 10), (4, 22)], [(4, 15), (3, 195), (3, 196), (1, 2), (3, 197)], [(4, 16), (4, 17), (1, 10), (4, 18)], [(4, 19), (3, 203), (3, 204), (1, 2), (3, 205)], [(4, 23), (4, 24), (1, 10), (4, 25)]]
set_option maxRecDepth 100000 in
theorem ek_X5 : plL_X5.map (fun q => entWs RX5 q.1 q.2) = ixL_X5.map (fun is => is.filterMap tix) := rfl
set_option maxRecDepth 100000 in
theorem eg_X5 : (plL_X5.map (fun q => entWs RX5 q.1 q.2)).all (fun l => l.all goodWord) = true := rfl
def ixL_X6 : List (List (Nat × Nat)) := [[(2, 29)], [(2, 32)], [(2, 35)], [(1, 173)], [(2, 114), (2, 116), (0, 0), (1, 9), (2, 117)], [(1, 183)], [(2, 122), (2, 124), (0, 2), (1, 9), (2, 125)], [(1, 162)], [(1, 93)], [(1, 177)], [(1, 165)], [(1, 140)], [(2, 118), (2, 120), (0, 1), (1, 9), (2, 121)], [(1, 195)], [(2, 126), (2, 127), (2, 128), (1, 5), (2, 129)], [(1, 168)], [(2, 130), (2, 131), (1, 18), (2, 132)]]
set_option maxRecDepth 100000 in
theorem ek_X6 : plL_X6.map (fun q => entWs RX6 q.1 q.2) = ixL_X6.map (fun is => is.filterMap tix) := rfl
set_option maxRecDepth 100000 in
theorem eg_X6 : (plL_X6.map (fun q => entWs RX6 q.1 q.2)).all (fun l => l.all goodWord) = true := rfl
def ixL_X7 : List (List (Nat × Nat)) := [[(1, 127)], [(1, 139)], [(1, 130)], [(1, 133)], [(1, 136)], [(2, 105), (1, 158), (1, 157), (1, 6)]]
set_option maxRecDepth 100000 in
theorem ek_X7 : plL_X7.map (fun q => entWs RX7 q.1 q.2) = ixL_X7.map (fun is => is.filterMap tix) := rfl
set_option maxRecDepth 100000 in
theorem eg_X7 : (plL_X7.map (fun q => entWs RX7 q.1 q.2)).all (fun l => l.all goodWord) = true := rfl
def ixL_X8 : List (List (Nat × Nat)) := [[(1, 237)], [(1, 238)], [(1, 239)], [(2, 88), (2, 89), (2, 90), (1, 2), (2, 91)]]
set_option maxRecDepth 100000 in
theorem ek_X8 : plL_X8.map (fun q => entWs RX8 q.1 q.2) = ixL_X8.map (fun is => is.filterMap tix) := rfl
set_option maxRecDepth 100000 in
theorem eg_X8 : (plL_X8.map (fun q => entWs RX8 q.1 q.2)).all (fun l => l.all goodWord) = true := rfl
def ixL_X9 : List (List (Nat × Nat)) := [[(1, 159)], [(1, 161)], [(1, 164)], [(1, 167)], [(1, 186)], [(1, 156), (1, 158), (1, 157), (1, 6)], [(2, 92), (2, 93), (2, 94), (1, 3), (2, 95)], [(2, 97), (2, 98), (2, 99), (1, 4), (2, 100)], [(2, 101), (2, 102), (2, 103), (1, 5), (2, 104)], [(1, 171)], [(1, 174)], [(1, 176)], [(1, 179)], [(1, 181)], [(1, 184)], [(1, 188)], [(1, 190)], [(1, 192)], [(1, 194)], [(1, 54)], [(1, 84)], [(1, 128)], [(1, 90)], [(1, 100)], [(1, 97)], [(1, 94)], [(1, 131)], [(2, 141), (2, 143), (0, 5), (1, 2), (2, 144)], [(4, 133), (4, 135), (0, 13), (1, 2), (4, 136)], [(4, 141), (4, 143), (0, 14), (1, 2), (4, 144)], [(4, 137)], [(4, 138)], [(4, 139)], [(4, 140)], [(4, 145), (3, 130), (3, 131), (1, 2), (3, 132)], [(3, 176), (3, 177), (3, 178), (1, 2), (3, 179)], [(3, 144), (3, 145), (3, 146), (1, 3), (3, 147)], [(3, 151), (3, 134), (3, 135), (1, 3), (3, 136)], [(3, 180), (3, 161), (3, 162), (1, 2), (3, 163)], [(1, 104)], [(3, 181), (3, 126), (3, 127), (1, 3), (3, 128)], [(3, 172), (3, 174), (0, 9), (1, 2), (3, 175)], [(1, 88)], [(3, 183), (1, 1), (3, 184)], [(3, 185), (3, 141), (3, 142), (1, 2), (3, 143)], [(3, 198), (3, 199), (3, 200), (1, 2), (3, 201)], [(1, 57)], [(3, 206), (3, 138), (1, 18), (3, 139)], [(4, 168), (3, 195), (3, 196), (1, 2), (3, 197)], [(4, 169), (3, 203), (3, 204), (1, 2), (3, 205)], [(4, 170), (4, 172), (0, 15), (1, 2), (4, 173)], [(4, 174), (4, 176), (0, 16), (1, 2), (4, 177)], [(4, 178), (4, 179), (4, 180), (1, 3), (4, 181)], [(1, 82)], [(1, 142)], [(1, 138)], [(2, 110), (2, 111), (2, 112), (1, 9), (2, 113)], [(2, 133), (2, 135), (0, 3), (1, 2), (2, 136)], [(2, 137), (2, 139), (0, 4), (1, 2), (2, 140)], [(2, 34)], [(2, 31)], [(1, 135)], [(2, 145), (2, 146), (2, 147), (1, 3), (2, 148)], [(2, 149), (2, 150), (2, 151), (1, 5), (2, 152)]]
set_option maxRecDepth 100000 in
theorem ek_X9 : plL_X9.map (fun q => entWs RX9 q.1 q.2) = ixL_X9.map (fun is => is.filterMap tix) := rfl
set_option maxRecDepth 100000 in
theorem eg_X9 : (plL_X9.map (fun q => entWs RX9 q.1 q.2)).all (fun l => l.all goodWord) = true := rfl
end REC
end
section
/-! THE WORLD OF THE MACHINE THAT A PURE MEMORY STANDS FOR -/
section WORLD
/-- a value, its reference moved to the machine's address -/
def lf (L : Nat → Nat) (v : Value) : Value := match v with
  | .ref k => .ref (L k)
  | v => v
/-- fields of a class: kind (0 int, 1 boolean, 2 long, 3 reference), and how far behind -/
def fcode : Nat → List (Nat × Nat)
  | 0 => [(0, 0), (0, 0), (0, 0), (0, 0), (3, 1)]
  | 1 => [(3, 1), (0, 0)]
  | 2 => [(0, 0), (1, 0), (0, 0), (0, 0), (0, 0), (0, 0), (0, 0), (0, 0)]
  | 3 => [(3, 1), (3, 2), (0, 0), (0, 0)]
  | 4 => [(3, 1), (3, 2), (3, 3)]
  | 5 => [(0, 0), (0, 0), (0, 0), (0, 0), (3, 1)]
  | 6 => [(3, 1), (0, 0), (0, 0)]
  | 7 => [(3, 1), (3, 2), (3, 3), (3, 4), (0, 0), (0, 0), (0, 0), (0, 0), (0, 0), (1, 0), (0, 0), (0, 0), (0, 0), (0, 0), (0, 0)]
  | 8 => [(3, 23), (3, 1), (3, 3), (3, 5), (3, 9)]
  | 9 => [(3, 1), (3, 2), (3, 3), (3, 4), (3, 5), (3, 6), (3, 7), (3, 8), (3, 9), (0, 0), (0, 0), (0, 0), (0, 0), (0, 0), (0, 0), (0, 0), (0, 0), (2, 0)]
  | _ => []
def fval (L : Nat → Nat) (μ : PM) (k j : Nat) (q : Nat × Nat) : Value := match q.1 with
  | 2 => .long (mJ μ k j)
  | 3 => .ref (L (k + q.2))
  | _ => .int (mI μ k j)
def flds (L : Nat → Nat) (μ : PM) (k c : Nat) : List Value := (fcode c).mapIdx (fun j q => fval L μ k j q)
def entW (L : Nat → Nat) (cA : Nat → ClassId) (μ : PM) (k : Nat) : va_E :=
  if cls k < 10 then .inr (cls k, flds L μ k (cls k))
  else if cls k = 20 then .inl (cA 20, len k, .inl (mI μ k))
  else if cls k = 21 then .inl (cA 21, len k, .inr (.inl (mJ μ k)))
  else .inl (cA (cls k), len k, .inr (.inr (.inr (.inr (fun i => some (L (eN k i)))))))
def WS (L : Nat → Nat) (cA : Nat → ClassId) (μ : PM) : va_W := (List.range 345).map (fun k => (L k, entW L cA μ k))
theorem WS_get {L : Nat → Nat} {cA : Nat → ClassId} {μ : PM} {k : Nat} (h : k < 345) : (WS L cA μ)[k]? = some (L k, entW L cA μ k) := by
  simp [WS, h]
theorem WS_len {L : Nat → Nat} {cA : Nat → ClassId} {μ : PM} : (WS L cA μ).length = 345 := by simp [WS]
theorem WS_inv {L : Nat → Nat} {cA : Nat → ClassId} {μ : PM} {k : Nat} {q : Nat × va_E} (h : (WS L cA μ)[k]? = some q) : k < 345 ∧ q = (L k, entW L cA μ k) := by
  have hk : k < 345 := by
    have := (List.getElem?_eq_some_iff.mp h).1
    rwa [WS_len] at this
  rw [WS_get hk] at h
  exact ⟨hk, (Option.some.inj h).symm⟩
theorem WS_set {L : Nat → Nat} {cA : Nat → ClassId} {μ μ' : PM} {k : Nat} {e : va_E} (he : entW L cA μ' k = e) (ho : ∀ j, j ≠ k → entW L cA μ' j = entW L cA μ j) : (WS L cA μ).set k (L k, e) = WS L cA μ' := by
  apply List.ext_getElem?
  intro i
  by_cases hi : i = k
  · subst hi
    by_cases hk : i < 345
    · rw [List.getElem?_set_self (by rw [WS_len]; exact hk), WS_get hk, he]
    · rw [List.getElem?_eq_none (by rw [List.length_set, WS_len]; omega), List.getElem?_eq_none (by rw [WS_len]; omega)]
  · rw [List.getElem?_set_ne (Ne.symm hi)]
    by_cases hk : i < 345
    · rw [WS_get hk, WS_get hk, ho i hi]
    · rw [List.getElem?_eq_none (by rw [WS_len]; omega), List.getElem?_eq_none (by rw [WS_len]; omega)]
theorem lyTop_ok (k : Nat) : 25 ≤ (lyTop k).1 ∧ (lyTop k).1 ≠ 26 := by
  unfold lyTop
  cases Nat.beq k 390
  · cases Nat.beq k 400
    · cases Nat.beq k 402
      · cases Nat.beq k 401
        · cases Nat.blt k 410
          · cases Nat.blt k 415
            · cases Nat.blt k 420
              · cases Nat.blt k 430 <;> simp
              · simp
            · simp
          · simp
        · simp
      · simp
    · simp
  · simp
theorem cls_lt {k : Nat} (h : cls k < 25 ∨ cls k = 26) : k < 345 := by
  by_cases hk : k < 345
  · exact hk
  · exfalso
    have h1 : Nat.blt k 23 = false := by
      cases hb : Nat.blt k 23
      · rfl
      · have := Nat.blt_eq.mp hb; omega
    have h2 : Nat.blt k 345 = false := by
      cases hb : Nat.blt k 345
      · rfl
      · have := Nat.blt_eq.mp hb; omega
    have h3 : cls k = (lyTop k).1 := by unfold cls ly; rw [h1, h2]; rfl
    have h4 := lyTop_ok k
    omega
theorem stI_self (μ : PM) (k j : Nat) (v : Int32) : mI (stI μ k j v) k = upd (mI μ k) j v := by
  funext b
  simp only [mI, stI, upd]
  by_cases h : b = j
  · subst h; simp
  · have : Nat.beq b j = false := by
      cases hb : Nat.beq b j
      · rfl
      · exact absurd (Nat.eq_of_beq_eq_true hb) h
    simp [this, h]
theorem stI_ne (μ : PM) {k i : Nat} (j : Nat) (v : Int32) (h : i ≠ k) : mI (stI μ k j v) i = mI μ i := by
  funext b
  have : Nat.beq i k = false := by
    cases hb : Nat.beq i k
    · rfl
    · exact absurd (Nat.eq_of_beq_eq_true hb) h
  simp only [mI, stI, this, Bool.false_and, cond_false]
theorem stI_J (μ : PM) (k j : Nat) (v : Int32) : mJ (stI μ k j v) = mJ μ := rfl
theorem stJ_I (μ : PM) (k j : Nat) (v : Int64) : mI (stJ μ k j v) = mI μ := rfl
theorem stJ_self (μ : PM) (k j : Nat) (v : Int64) : mJ (stJ μ k j v) k = vp_updL (mJ μ k) j v := by
  funext b
  simp only [mJ, stJ, vp_updL]
  by_cases h : b = j
  · subst h; simp
  · have : Nat.beq b j = false := by
      cases hb : Nat.beq b j
      · rfl
      · exact absurd (Nat.eq_of_beq_eq_true hb) h
    simp [this, h]
theorem stJ_ne (μ : PM) {k i : Nat} (j : Nat) (v : Int64) (h : i ≠ k) : mJ (stJ μ k j v) i = mJ μ i := by
  funext b
  have : Nat.beq i k = false := by
    cases hb : Nat.beq i k
    · rfl
    · exact absurd (Nat.eq_of_beq_eq_true hb) h
  simp only [mJ, stJ, this, Bool.false_and, cond_false]
theorem fval_congr {L : Nat → Nat} {μ μ' : PM} {k : Nat} (h1 : mI μ' k = mI μ k) (h2 : mJ μ' k = mJ μ k) (j : Nat) (q : Nat × Nat) : fval L μ' k j q = fval L μ k j q := by
  unfold fval; rw [h1, h2]
theorem entW_congr {L : Nat → Nat} {cA : Nat → ClassId} {μ μ' : PM} {k : Nat} (h1 : mI μ' k = mI μ k) (h2 : mJ μ' k = mJ μ k) : entW L cA μ' k = entW L cA μ k := by
  unfold entW flds; rw [h1, h2]
  simp only [fval_congr h1 h2]
theorem entW_obj {L : Nat → Nat} {cA : Nat → ClassId} {μ : PM} {k ci : Nat} (h : cls k = ci) (hc : ci < 10) : entW L cA μ k = .inr (ci, flds L μ k ci) := by
  unfold entW; rw [h, if_pos hc]
theorem entW_ints {L : Nat → Nat} {cA : Nat → ClassId} {μ : PM} {k : Nat} (h : cls k = 20) : entW L cA μ k = .inl (cA 20, len k, .inl (mI μ k)) := by
  unfold entW; rw [h, if_neg (by decide), if_pos rfl]
theorem entW_longs {L : Nat → Nat} {cA : Nat → ClassId} {μ : PM} {k : Nat} (h : cls k = 21) : entW L cA μ k = .inl (cA 21, len k, .inr (.inl (mJ μ k))) := by
  unfold entW; rw [h, if_neg (by decide), if_neg (by decide), if_pos rfl]
theorem entW_refs {L : Nat → Nat} {cA : Nat → ClassId} {μ : PM} {k c : Nat} (h : cls k = c) (hc : 22 ≤ c) : entW L cA μ k = .inl (cA c, len k, .inr (.inr (.inr (.inr (fun i => some (L (eN k i))))))) := by
  unfold entW; rw [h, if_neg (by omega), if_neg (by omega), if_neg (by omega)]
theorem flds_get {L : Nat → Nat} {μ : PM} {k c j : Nat} {q : Nat × Nat} (h : (fcode c)[j]? = some q) : (flds L μ k c)[j]? = some (fval L μ k j q) := by
  unfold flds; rw [List.getElem?_mapIdx, h]; rfl
theorem flds_len {L : Nat → Nat} {μ : PM} {k c : Nat} : (flds L μ k c).length = (fcode c).length := by unfold flds; rw [List.length_mapIdx]
theorem flds_setI {L : Nat → Nat} {μ : PM} {k c j : Nat} {q : Nat × Nat} {v : Int32} (h : (fcode c)[j]? = some q) (hq : q.1 = 0 ∨ q.1 = 1) : flds L (stI μ k j v) k c = (flds L μ k c).set j (.int v) := by
  apply List.ext_getElem?
  intro i
  unfold flds
  by_cases hi : i = j
  · subst hi
    have hl : i < (fcode c).length := (List.getElem?_eq_some_iff.mp h).1
    rw [List.getElem?_set_self (by rw [List.length_mapIdx]; exact hl), List.getElem?_mapIdx, h]
    simp only [Option.map_some]
    have e : mI (stI μ k i v) k i = v := by rw [stI_self]; simp [upd]
    unfold fval
    rcases hq with hq | hq <;> rw [hq] <;> simp only [e]
  · rw [List.getElem?_set_ne (Ne.symm hi), List.getElem?_mapIdx, List.getElem?_mapIdx]
    congr 1
    funext x
    have e : mI (stI μ k j v) k i = mI μ k i := by rw [stI_self]; simp [upd, hi]
    unfold fval
    rw [e, stI_J]
theorem flds_setJ {L : Nat → Nat} {μ : PM} {k c j : Nat} {q : Nat × Nat} {v : Int64} (h : (fcode c)[j]? = some q) (hq : q.1 = 2) : flds L (stJ μ k j v) k c = (flds L μ k c).set j (.long v) := by
  apply List.ext_getElem?
  intro i
  unfold flds
  by_cases hi : i = j
  · subst hi
    have hl : i < (fcode c).length := (List.getElem?_eq_some_iff.mp h).1
    rw [List.getElem?_set_self (by rw [List.length_mapIdx]; exact hl), List.getElem?_mapIdx, h]
    simp only [Option.map_some]
    have e : mJ (stJ μ k i v) k i = v := by rw [stJ_self]; simp [vp_updL]
    unfold fval
    rw [hq]; simp only [e]
  · rw [List.getElem?_set_ne (Ne.symm hi), List.getElem?_mapIdx, List.getElem?_mapIdx]
    congr 1
    funext x
    have e : mJ (stJ μ k j v) k i = mJ μ k i := by rw [stJ_self]; simp [vp_updL, hi]
    unfold fval
    rw [e, stJ_I]
theorem WS_setI {L : Nat → Nat} {cA : Nat → ClassId} {μ : PM} {k j : Nat} {v : Int32} {e : va_E} (he : entW L cA (stI μ k j v) k = e) : (WS L cA μ).set k (L k, e) = WS L cA (stI μ k j v) :=
  WS_set he fun i hi => entW_congr (stI_ne μ j v hi) (by rw [stI_J])
theorem WS_setJ {L : Nat → Nat} {cA : Nat → ClassId} {μ : PM} {k j : Nat} {v : Int64} {e : va_E} (he : entW L cA (stJ μ k j v) k = e) : (WS L cA μ).set k (L k, e) = WS L cA (stJ μ k j v) :=
  WS_set he fun i hi => entW_congr (by rw [stJ_I]) (stJ_ne μ j v hi)
/-- locals: what is known of them -/
def LR (L : Nat → Nat) (nL : Nat) (pl : List Value) (ls : Array Slot) : Prop := pl.length = nL ∧ ls.size = nL ∧ lv_wf ls ∧ ∀ (i : Nat) (v : Value), pl[i]? = some v → (∀ n, v ≠ .retAddr n) → ls[i]? = some (.val (lf L v))
def isRA_ (v : Value) : Bool := match v with
  | .retAddr _ => true
  | _ => false
theorem isRA_f {v : Value} (h : isRA_ v = false) : ∀ n, v ≠ .retAddr n := by intro n e; subst e; cases h
def prs (L : Nat → Nat) (pl : List Value) : List (Nat × Value) := pl.zipIdx.filterMap (fun q => if isRA_ q.1 then none else some (q.2, lf L q.1))
theorem prs_mem {L : Nat → Nat} {pl : List Value} {q : Nat × Value} : q ∈ prs L pl ↔ ∃ v, pl[q.1]? = some v ∧ isRA_ v = false ∧ q.2 = lf L v := by
  unfold prs
  rw [List.mem_filterMap]
  constructor
  · rintro ⟨⟨v, i⟩, h1, h2⟩
    have h3 := List.mk_mem_zipIdx_iff_getElem?.mp h1
    cases hv : isRA_ v
    · simp only [hv] at h2
      cases h2
      exact ⟨v, h3, hv, rfl⟩
    · simp only [hv] at h2
      cases h2
  · rintro ⟨v, h1, h2, h3⟩
    refine ⟨(v, q.1), List.mk_mem_zipIdx_iff_getElem?.mpr h1, ?_⟩
    simp only [h2, ← h3]; rfl
theorem LR.has {L : Nat → Nat} {nL : Nat} {pl : List Value} {ls : Array Slot} (h : LR L nL pl ls) : lv_has ls nL (prs L pl) := by
  obtain ⟨h0, h1, h2, h3⟩ := h
  refine ⟨h1, h2, fun q hq => ?_⟩
  obtain ⟨v, e1, e2, e3⟩ := prs_mem.mp hq
  rw [e3]
  exact h3 _ _ e1 (isRA_f e2)
theorem LR.at {L : Nat → Nat} {nL : Nat} {pl : List Value} {ls : Array Slot} (h : LR L nL pl ls) {i : Nat} {v : Value} (hi : pl[i]? = some v) (hv : ∀ n, v ≠ .retAddr n) : ls[i]? = some (.val (lf L v)) := h.2.2.2 i v hi hv
/-- behind a store of a word -/
theorem LR.st1 {L : Nat → Nat} {nL : Nat} {pl : List Value} {ls ls' : Array Slot} {i : Nat} {v w : Value} (h : LR L nL pl ls) (hi : i < pl.length) (hk : okS pl i = true) (hw : (∀ n, v ≠ .retAddr n) → w = lf L v)
    (h' : lv_has ls' nL ((i, w) :: (prs L pl).filter (fun q => !(q.1 == i) && !(q.1 + 1 == i && q.2.category == 2)))) : LR L nL (pl.set i v) ls' := by
  obtain ⟨h0, h1, h2, h3⟩ := h
  obtain ⟨g1, g2, g3⟩ := h'
  refine ⟨by rw [List.length_set]; exact h0, g1, g2, fun j u hj hu => ?_⟩
  by_cases hji : j = i
  · subst hji
    rw [List.getElem?_set_self hi] at hj
    cases hj
    have := g3 (j, w) List.mem_cons_self
    rw [hw hu] at this
    exact this
  · rw [List.getElem?_set_ne (Ne.symm hji)] at hj
    have hr : isRA_ u = false := by
      cases u <;> first | rfl | exact absurd rfl (hu _)
    refine g3 (j, lf L u) (List.mem_cons_of_mem _ (List.mem_filter.mpr ⟨prs_mem.mpr ⟨u, hj, hr, rfl⟩, ?_⟩))
    have e1 : (j == i) = false := by simpa using hji
    simp only [e1, Bool.not_false, Bool.true_and]
    by_cases hj1 : j + 1 = i
    · subst hj1
      simp only [okS, hj] at hk
      have : (lf L u).category ≠ 2 := by
        cases u <;> simp_all [lf, Value.category]
      simp [this]
    · simp [hj1]
theorem LR.st2 {L : Nat → Nat} {nL : Nat} {pl : List Value} {ls ls' : Array Slot} {i : Nat} {v : Value} (h : LR L nL pl ls) (hi : i + 1 < pl.length) (hk : okS pl i = true)
    (h' : lv_has ls' nL ((i, lf L v) :: (prs L pl).filter (fun q => !(q.1 == i) && (!(q.1 == i + 1) && !(q.1 + 1 == i && q.2.category == 2))))) : LR L nL ((pl.set i v).set (i + 1) pU) ls' := by
  obtain ⟨h0, h1, h2, h3⟩ := h
  obtain ⟨g1, g2, g3⟩ := h'
  refine ⟨by rw [List.length_set, List.length_set]; exact h0, g1, g2, fun j u hj hu => ?_⟩
  by_cases hj1 : j = i + 1
  · subst hj1
    rw [List.getElem?_set_self (by rw [List.length_set]; exact hi)] at hj
    cases hj
    exact absurd rfl (hu 0)
  · rw [List.getElem?_set_ne (Ne.symm hj1)] at hj
    by_cases hji : j = i
    · subst hji
      rw [List.getElem?_set_self (by omega)] at hj
      cases hj
      exact g3 (j, lf L v) List.mem_cons_self
    · rw [List.getElem?_set_ne (Ne.symm hji)] at hj
      have hr : isRA_ u = false := by
        cases u <;> first | rfl | exact absurd rfl (hu _)
      refine g3 (j, lf L u) (List.mem_cons_of_mem _ (List.mem_filter.mpr ⟨prs_mem.mpr ⟨u, hj, hr, rfl⟩, ?_⟩))
      have e1 : (j == i) = false := by simpa using hji
      have e2 : (j == i + 1) = false := by simpa using hj1
      simp only [e1, e2, Bool.not_false, Bool.true_and]
      by_cases hj1 : j + 1 = i
      · subst hj1
        simp only [okS, hj] at hk
        have : (lf L u).category ≠ 2 := by
          cases u <;> simp_all [lf, Value.category]
        simp [this]
      · simp [hj1]
end WORLD
end
section
/-! ONE STEP OF THE PURE INTERPRETER IS A STEP OF THE MACHINE (laid by wip/whole/gensim.py) -/
section SIM1
variable {p : Program} {l : Launch} {e : Env} {R : Room} {s : State} {m : MethodId} {args : Array Value} {below : List Frame} {meth : Method} {c : Code} {H H0 : Heap} {locs : List Loc} {cells slots : Nat} {Q : State → Prop} {cc : ByteArray} {nL : Nat}
variable {L : Nat → Nat} {D : va_G} {cA : Nat → ClassId} {A : Nat → Prop} {pc pc' : Nat} {ls : Array Slot} {pl pl' st st' : List Value} {μ μ' : PM}
/-- what is to be shown behind the step -/
def Kt (p : Program) (l : Launch) (e : Env) (R : Room) (s : State) (m : MethodId) (args : Array Value) (below : List Frame) (meth : Method) (c : Code) (H0 : Heap) (cells slots : Nat) (Q : State → Prop) (L : Nat → Nat) (D : va_G) (cA : Nat → ClassId) (A : Nat → Prop) (nL pc' : Nat) (pl' st' : List Value) (μ' : PM) : Prop :=
  ∀ (ls' : Array Slot) (H' : Heap) (locs' : List Loc), LR L nL pl' ls' → va_P D vwCl (WS L cA μ') H' → va_D A (WS L cA μ') → va_S A H0 H' locs' → W p l e R s m args below meth c H' locs' cells slots Q (F0 m pc' ls' (st'.map (lf L)))
/-- where the machine stands -/
def At_ (H0 : Heap) (L : Nat → Nat) (D : va_G) (cA : Nat → ClassId) (A : Nat → Prop) (nL : Nat) (H : Heap) (locs : List Loc) (ls : Array Slot) (pl : List Value) (μ : PM) : Prop :=
  LR L nL pl ls ∧ va_P D vwCl (WS L cA μ) H ∧ va_D A (WS L cA μ) ∧ va_S A H0 H locs
abbrev Wg (p : Program) (l : Launch) (e : Env) (R : Room) (s : State) (m : MethodId) (args : Array Value) (below : List Frame) (meth : Method) (c : Code) (H : Heap) (locs : List Loc) (cells slots : Nat) (Q : State → Prop) (L : Nat → Nat) (pc : Nat) (ls : Array Slot) (st : List Value) : Prop := W p l e R s m args below meth c H locs cells slots Q (F0 m pc ls (st.map (lf L)))
theorem Kt.go (h : Kt p l e R s m args below meth c H0 cells slots Q L D cA A nL pc' pl' st' μ') (ha : At_ H0 L D cA A nL H locs ls pl' μ') : Wg p l e R s m args below meth c H locs cells slots Q L pc' ls st' := h _ _ _ ha.1 ha.2.1 ha.2.2.1 ha.2.2.2
theorem nx_inv (h : nx pc pl st μ = some (.inl (pc', pl', st', μ'))) : pc = pc' ∧ pl = pl' ∧ st = st' ∧ μ = μ' := by
  simp only [nx, Option.some.injEq, Sum.inl.injEq, Prod.mk.injEq] at h
  exact h
theorem jp_inv {off : Int} (h : jp pc off pl st μ = some (.inl (pc', pl', st', μ'))) : (pc : Int) + off = (pc' : Int) ∧ pl = pl' ∧ st = st' ∧ μ = μ' := by
  unfold jp at h
  split at h
  · rename_i t ht
    obtain ⟨rfl, h2⟩ := nx_inv h
    exact ⟨ht, h2⟩
  · cases h
theorem noNaN_n {r : UInt64} (h : noNaN r = true) : vf_n64 r := by
  unfold noNaN at h
  exact (of_decide_eq_true h : r &&& 0x7fffffffffffffff ≤ 0x7ff0000000000000)
theorem cat1_lf {L : Nat → Nat} {v : Value} (h : cat1 v = true) : (lf L v).category = 1 := by
  cases v <;> first | rfl | cases h
theorem lv_if_eq_f (hexec : p.tables.exec = Jvm.exec) (hb : c.code = cc) {rest : List Value} {x : Int32} {off : Int} (hdg : decode cc pc = .ok (.ifCond .eq off, 3)) (hc : ¬ (x = 0)) (kf : W p l e R s m args below meth c H locs cells slots Q (F0 m (pc + 3) ls rest)) : W p l e R s m args below meth c H locs cells slots Q (F0 m pc ls (.int x :: rest)) := by
  intro T hT X
  obtain ⟨t, a, b⟩ := kf T hT X
  refine ⟨t, ?_, b⟩
  jvm_step X.here [X.here.top, hexec, hb, hdg, Op.ifCond.holds, hc]
  exact a
theorem lv_icmp_eq_f (hexec : p.tables.exec = Jvm.exec) (hb : c.code = cc) {rest : List Value} {x y : Int32} {off : Int} (hdg : decode cc pc = .ok (.if_icmp .eq off, 3)) (hc : ¬ (x = y)) (kf : W p l e R s m args below meth c H locs cells slots Q (F0 m (pc + 3) ls rest)) : W p l e R s m args below meth c H locs cells slots Q (F0 m pc ls (.int y :: .int x :: rest)) := by
  intro T hT X
  obtain ⟨t, a, b⟩ := kf T hT X
  refine ⟨t, ?_, b⟩
  jvm_step X.here [X.here.top, hexec, hb, hdg, Op.if_icmp.holds, hc]
  exact a
theorem lv_if_ne_f (hexec : p.tables.exec = Jvm.exec) (hb : c.code = cc) {rest : List Value} {x : Int32} {off : Int} (hdg : decode cc pc = .ok (.ifCond .ne off, 3)) (hc : ¬ (¬ x = 0)) (kf : W p l e R s m args below meth c H locs cells slots Q (F0 m (pc + 3) ls rest)) : W p l e R s m args below meth c H locs cells slots Q (F0 m pc ls (.int x :: rest)) := by
  intro T hT X
  obtain ⟨t, a, b⟩ := kf T hT X
  refine ⟨t, ?_, b⟩
  have hc := Classical.not_not.mp hc
  jvm_step X.here [X.here.top, hexec, hb, hdg, Op.ifCond.holds, hc]
  exact a
theorem lv_icmp_ne_f (hexec : p.tables.exec = Jvm.exec) (hb : c.code = cc) {rest : List Value} {x y : Int32} {off : Int} (hdg : decode cc pc = .ok (.if_icmp .ne off, 3)) (hc : ¬ (¬ x = y)) (kf : W p l e R s m args below meth c H locs cells slots Q (F0 m (pc + 3) ls rest)) : W p l e R s m args below meth c H locs cells slots Q (F0 m pc ls (.int y :: .int x :: rest)) := by
  intro T hT X
  obtain ⟨t, a, b⟩ := kf T hT X
  refine ⟨t, ?_, b⟩
  have hc := Classical.not_not.mp hc
  jvm_step X.here [X.here.top, hexec, hb, hdg, Op.if_icmp.holds, hc]
  exact a
theorem lv_if_lt_f (hexec : p.tables.exec = Jvm.exec) (hb : c.code = cc) {rest : List Value} {x : Int32} {off : Int} (hdg : decode cc pc = .ok (.ifCond .lt off, 3)) (hc : ¬ (x < 0)) (kf : W p l e R s m args below meth c H locs cells slots Q (F0 m (pc + 3) ls rest)) : W p l e R s m args below meth c H locs cells slots Q (F0 m pc ls (.int x :: rest)) := by
  intro T hT X
  obtain ⟨t, a, b⟩ := kf T hT X
  refine ⟨t, ?_, b⟩
  jvm_step X.here [X.here.top, hexec, hb, hdg, Op.ifCond.holds, hc]
  exact a
theorem lv_icmp_lt_f (hexec : p.tables.exec = Jvm.exec) (hb : c.code = cc) {rest : List Value} {x y : Int32} {off : Int} (hdg : decode cc pc = .ok (.if_icmp .lt off, 3)) (hc : ¬ (x < y)) (kf : W p l e R s m args below meth c H locs cells slots Q (F0 m (pc + 3) ls rest)) : W p l e R s m args below meth c H locs cells slots Q (F0 m pc ls (.int y :: .int x :: rest)) := by
  intro T hT X
  obtain ⟨t, a, b⟩ := kf T hT X
  refine ⟨t, ?_, b⟩
  jvm_step X.here [X.here.top, hexec, hb, hdg, Op.if_icmp.holds, hc]
  exact a
theorem lv_if_ge_f (hexec : p.tables.exec = Jvm.exec) (hb : c.code = cc) {rest : List Value} {x : Int32} {off : Int} (hdg : decode cc pc = .ok (.ifCond .ge off, 3)) (hc : ¬ (0 ≤ x)) (kf : W p l e R s m args below meth c H locs cells slots Q (F0 m (pc + 3) ls rest)) : W p l e R s m args below meth c H locs cells slots Q (F0 m pc ls (.int x :: rest)) := by
  intro T hT X
  obtain ⟨t, a, b⟩ := kf T hT X
  refine ⟨t, ?_, b⟩
  jvm_step X.here [X.here.top, hexec, hb, hdg, Op.ifCond.holds, hc]
  exact a
theorem lv_icmp_ge_f (hexec : p.tables.exec = Jvm.exec) (hb : c.code = cc) {rest : List Value} {x y : Int32} {off : Int} (hdg : decode cc pc = .ok (.if_icmp .ge off, 3)) (hc : ¬ (y ≤ x)) (kf : W p l e R s m args below meth c H locs cells slots Q (F0 m (pc + 3) ls rest)) : W p l e R s m args below meth c H locs cells slots Q (F0 m pc ls (.int y :: .int x :: rest)) := by
  intro T hT X
  obtain ⟨t, a, b⟩ := kf T hT X
  refine ⟨t, ?_, b⟩
  jvm_step X.here [X.here.top, hexec, hb, hdg, Op.if_icmp.holds, hc]
  exact a
theorem lv_if_gt_f (hexec : p.tables.exec = Jvm.exec) (hb : c.code = cc) {rest : List Value} {x : Int32} {off : Int} (hdg : decode cc pc = .ok (.ifCond .gt off, 3)) (hc : ¬ (0 < x)) (kf : W p l e R s m args below meth c H locs cells slots Q (F0 m (pc + 3) ls rest)) : W p l e R s m args below meth c H locs cells slots Q (F0 m pc ls (.int x :: rest)) := by
  intro T hT X
  obtain ⟨t, a, b⟩ := kf T hT X
  refine ⟨t, ?_, b⟩
  jvm_step X.here [X.here.top, hexec, hb, hdg, Op.ifCond.holds, hc]
  exact a
theorem lv_icmp_gt_f (hexec : p.tables.exec = Jvm.exec) (hb : c.code = cc) {rest : List Value} {x y : Int32} {off : Int} (hdg : decode cc pc = .ok (.if_icmp .gt off, 3)) (hc : ¬ (y < x)) (kf : W p l e R s m args below meth c H locs cells slots Q (F0 m (pc + 3) ls rest)) : W p l e R s m args below meth c H locs cells slots Q (F0 m pc ls (.int y :: .int x :: rest)) := by
  intro T hT X
  obtain ⟨t, a, b⟩ := kf T hT X
  refine ⟨t, ?_, b⟩
  jvm_step X.here [X.here.top, hexec, hb, hdg, Op.if_icmp.holds, hc]
  exact a
theorem lv_if_le_f (hexec : p.tables.exec = Jvm.exec) (hb : c.code = cc) {rest : List Value} {x : Int32} {off : Int} (hdg : decode cc pc = .ok (.ifCond .le off, 3)) (hc : ¬ (x ≤ 0)) (kf : W p l e R s m args below meth c H locs cells slots Q (F0 m (pc + 3) ls rest)) : W p l e R s m args below meth c H locs cells slots Q (F0 m pc ls (.int x :: rest)) := by
  intro T hT X
  obtain ⟨t, a, b⟩ := kf T hT X
  refine ⟨t, ?_, b⟩
  jvm_step X.here [X.here.top, hexec, hb, hdg, Op.ifCond.holds, hc]
  exact a
theorem lv_icmp_le_f (hexec : p.tables.exec = Jvm.exec) (hb : c.code = cc) {rest : List Value} {x y : Int32} {off : Int} (hdg : decode cc pc = .ok (.if_icmp .le off, 3)) (hc : ¬ (x ≤ y)) (kf : W p l e R s m args below meth c H locs cells slots Q (F0 m (pc + 3) ls rest)) : W p l e R s m args below meth c H locs cells slots Q (F0 m pc ls (.int y :: .int x :: rest)) := by
  intro T hT X
  obtain ⟨t, a, b⟩ := kf T hT X
  refine ⟨t, ?_, b⟩
  jvm_step X.here [X.here.top, hexec, hb, hdg, Op.if_icmp.holds, hc]
  exact a

theorem sn_aconst_null (hx : p.tables.exec = Jvm.exec) (hb : c.code = cc) (ha : At_ H0 L D cA A nL H locs ls pl μ)  (hdg : decode cc pc = .ok (.aconst_null, 1)) (h : nx (pc + 1) pl (.null :: st) μ = some (.inl (pc', pl', st', μ'))) (k : Kt p l e R s m args below meth c H0 cells slots Q L D cA A nL pc' pl' st' μ') : Wg p l e R s m args below meth c H locs cells slots Q L pc ls st := by
  obtain ⟨rfl, rfl, rfl, rfl⟩ := nx_inv h
  exact lv_null hx hb hdg (k.go ha)
theorem sn_bipush (hx : p.tables.exec = Jvm.exec) (hb : c.code = cc) (ha : At_ H0 L D cA A nL H locs ls pl μ) {n : Int} (hdg : decode cc pc = .ok (.bipush n, 2)) (h : nx (pc + 2) pl (.int (Int8.ofInt n).toInt32 :: st) μ = some (.inl (pc', pl', st', μ'))) (k : Kt p l e R s m args below meth c H0 cells slots Q L D cA A nL pc' pl' st' μ') : Wg p l e R s m args below meth c H locs cells slots Q L pc ls st := by
  obtain ⟨rfl, rfl, rfl, rfl⟩ := nx_inv h
  exact lv_bipush hx hb hdg rfl (k.go ha)
theorem sn_sipush (hx : p.tables.exec = Jvm.exec) (hb : c.code = cc) (ha : At_ H0 L D cA A nL H locs ls pl μ) {n : Int} (hdg : decode cc pc = .ok (.sipush n, 3)) (h : nx (pc + 3) pl (.int (Int16.ofInt n).toInt32 :: st) μ = some (.inl (pc', pl', st', μ'))) (k : Kt p l e R s m args below meth c H0 cells slots Q L D cA A nL pc' pl' st' μ') : Wg p l e R s m args below meth c H locs cells slots Q L pc ls st := by
  obtain ⟨rfl, rfl, rfl, rfl⟩ := nx_inv h
  exact lv_sipush hx hb hdg rfl (k.go ha)
theorem sn_iconst (hx : p.tables.exec = Jvm.exec) (hb : c.code = cc) (ha : At_ H0 L D cA A nL H locs ls pl μ) {n : Int} (hdg : decode cc pc = .ok (.iconst n, 1)) (h : nx (pc + 1) pl (.int (Int32.ofInt n) :: st) μ = some (.inl (pc', pl', st', μ'))) (k : Kt p l e R s m args below meth c H0 cells slots Q L D cA A nL pc' pl' st' μ') : Wg p l e R s m args below meth c H locs cells slots Q L pc ls st := by
  obtain ⟨rfl, rfl, rfl, rfl⟩ := nx_inv h
  exact lv_iconst hx hb hdg rfl (k.go ha)
theorem sn_lconst (hx : p.tables.exec = Jvm.exec) (hb : c.code = cc) (ha : At_ H0 L D cA A nL H locs ls pl μ) {n : Fin 2} (hdg : decode cc pc = .ok (.lconst n, 1)) (h : nx (pc + 1) pl (.long (Int64.ofNat (n : Nat)) :: st) μ = some (.inl (pc', pl', st', μ'))) (k : Kt p l e R s m args below meth c H0 cells slots Q L D cA A nL pc' pl' st' μ') : Wg p l e R s m args below meth c H locs cells slots Q L pc ls st := by
  obtain ⟨rfl, rfl, rfl, rfl⟩ := nx_inv h
  exact lv_lconst hx hb hdg rfl (k.go ha)
theorem sn_dconst0 (hx : p.tables.exec = Jvm.exec) (hb : c.code = cc) (ha : At_ H0 L D cA A nL H locs ls pl μ)  (hdg : decode cc pc = .ok (.dconst 0, 1)) (h : nx (pc + 1) pl (.double FP.dconst0 :: st) μ = some (.inl (pc', pl', st', μ'))) (k : Kt p l e R s m args below meth c H0 cells slots Q L D cA A nL pc' pl' st' μ') : Wg p l e R s m args below meth c H locs cells slots Q L pc ls st := by
  obtain ⟨rfl, rfl, rfl, rfl⟩ := nx_inv h
  exact lv_dconst0 hx hb hdg (k.go ha)
theorem sn_dconst1 (hx : p.tables.exec = Jvm.exec) (hb : c.code = cc) (ha : At_ H0 L D cA A nL H locs ls pl μ)  (hdg : decode cc pc = .ok (.dconst 1, 1)) (h : nx (pc + 1) pl (.double FP.dconst1 :: st) μ = some (.inl (pc', pl', st', μ'))) (k : Kt p l e R s m args below meth c H0 cells slots Q L D cA A nL pc' pl' st' μ') : Wg p l e R s m args below meth c H locs cells slots Q L pc ls st := by
  obtain ⟨rfl, rfl, rfl, rfl⟩ := nx_inv h
  exact lv_dconst1 hx hb hdg (k.go ha)
theorem sn_iload_n (hx : p.tables.exec = Jvm.exec) (hb : c.code = cc) (ha : At_ H0 L D cA A nL H locs ls pl μ) {i : Fin 4} (hdg : decode cc pc = .ok (.iload_n i, 1)) (h : ldI pc 1 i pl st μ = some (.inl (pc', pl', st', μ'))) (k : Kt p l e R s m args below meth c H0 cells slots Q L D cA A nL pc' pl' st' μ') : Wg p l e R s m args below meth c H locs cells slots Q L pc ls st := by
  unfold ldI at h
  split at h
  · rename_i x hi
    obtain ⟨rfl, rfl, rfl, rfl⟩ := nx_inv h
    exact lv_iload_n hx hb hdg rfl (ha.1.at hi (fun _ q => nomatch q)) (k.go ha)
  · cases h
theorem sn_iload (hx : p.tables.exec = Jvm.exec) (hb : c.code = cc) (ha : At_ H0 L D cA A nL H locs ls pl μ) {i : Nat} (hdg : decode cc pc = .ok (.iload i, 2)) (h : ldI pc 2 i pl st μ = some (.inl (pc', pl', st', μ'))) (k : Kt p l e R s m args below meth c H0 cells slots Q L D cA A nL pc' pl' st' μ') : Wg p l e R s m args below meth c H locs cells slots Q L pc ls st := by
  unfold ldI at h
  split at h
  · rename_i x hi
    obtain ⟨rfl, rfl, rfl, rfl⟩ := nx_inv h
    exact lv_iload hx hb hdg (ha.1.at hi (fun _ q => nomatch q)) (k.go ha)
  · cases h
theorem sn_lload_n (hx : p.tables.exec = Jvm.exec) (hb : c.code = cc) (ha : At_ H0 L D cA A nL H locs ls pl μ) {i : Fin 4} (hdg : decode cc pc = .ok (.lload_n i, 1)) (h : ldJ pc 1 i pl st μ = some (.inl (pc', pl', st', μ'))) (k : Kt p l e R s m args below meth c H0 cells slots Q L D cA A nL pc' pl' st' μ') : Wg p l e R s m args below meth c H locs cells slots Q L pc ls st := by
  unfold ldJ at h
  split at h
  · rename_i x hi
    obtain ⟨rfl, rfl, rfl, rfl⟩ := nx_inv h
    exact lv_lload_n hx hb hdg rfl (ha.1.at hi (fun _ q => nomatch q)) (k.go ha)
  · cases h
theorem sn_lload (hx : p.tables.exec = Jvm.exec) (hb : c.code = cc) (ha : At_ H0 L D cA A nL H locs ls pl μ) {i : Nat} (hdg : decode cc pc = .ok (.lload i, 2)) (h : ldJ pc 2 i pl st μ = some (.inl (pc', pl', st', μ'))) (k : Kt p l e R s m args below meth c H0 cells slots Q L D cA A nL pc' pl' st' μ') : Wg p l e R s m args below meth c H locs cells slots Q L pc ls st := by
  unfold ldJ at h
  split at h
  · rename_i x hi
    obtain ⟨rfl, rfl, rfl, rfl⟩ := nx_inv h
    exact lv_lload hx hb hdg (ha.1.at hi (fun _ q => nomatch q)) (k.go ha)
  · cases h
theorem sn_dload_n (hx : p.tables.exec = Jvm.exec) (hb : c.code = cc) (ha : At_ H0 L D cA A nL H locs ls pl μ) {i : Fin 4} (hdg : decode cc pc = .ok (.dload_n i, 1)) (h : ldD pc 1 i pl st μ = some (.inl (pc', pl', st', μ'))) (k : Kt p l e R s m args below meth c H0 cells slots Q L D cA A nL pc' pl' st' μ') : Wg p l e R s m args below meth c H locs cells slots Q L pc ls st := by
  unfold ldD at h
  split at h
  · rename_i x hi
    obtain ⟨rfl, rfl, rfl, rfl⟩ := nx_inv h
    exact lv_dload_n hx hb hdg rfl (ha.1.at hi (fun _ q => nomatch q)) (k.go ha)
  · cases h
theorem sn_dload (hx : p.tables.exec = Jvm.exec) (hb : c.code = cc) (ha : At_ H0 L D cA A nL H locs ls pl μ) {i : Nat} (hdg : decode cc pc = .ok (.dload i, 2)) (h : ldD pc 2 i pl st μ = some (.inl (pc', pl', st', μ'))) (k : Kt p l e R s m args below meth c H0 cells slots Q L D cA A nL pc' pl' st' μ') : Wg p l e R s m args below meth c H locs cells slots Q L pc ls st := by
  unfold ldD at h
  split at h
  · rename_i x hi
    obtain ⟨rfl, rfl, rfl, rfl⟩ := nx_inv h
    exact lv_dload hx hb hdg (ha.1.at hi (fun _ q => nomatch q)) (k.go ha)
  · cases h
theorem sn_aload_n (hx : p.tables.exec = Jvm.exec) (hb : c.code = cc) (ha : At_ H0 L D cA A nL H locs ls pl μ) {i : Fin 4} (hdg : decode cc pc = .ok (.aload_n i, 1)) (h : ldA pc 1 i pl st μ = some (.inl (pc', pl', st', μ'))) (k : Kt p l e R s m args below meth c H0 cells slots Q L D cA A nL pc' pl' st' μ') : Wg p l e R s m args below meth c H locs cells slots Q L pc ls st := by
  unfold ldA at h
  split at h
  · rename_i x hi
    obtain ⟨rfl, rfl, rfl, rfl⟩ := nx_inv h
    exact lv_aload_n hx hb hdg rfl (ha.1.at hi (fun _ q => nomatch q)) (k.go ha)
  · rename_i hi
    obtain ⟨rfl, rfl, rfl, rfl⟩ := nx_inv h
    exact lv_aload_nN hx hb hdg rfl (ha.1.at hi (fun _ q => nomatch q)) (k.go ha)
  · cases h
theorem sn_aload (hx : p.tables.exec = Jvm.exec) (hb : c.code = cc) (ha : At_ H0 L D cA A nL H locs ls pl μ) {i : Nat} (hdg : decode cc pc = .ok (.aload i, 2)) (h : ldA pc 2 i pl st μ = some (.inl (pc', pl', st', μ'))) (k : Kt p l e R s m args below meth c H0 cells slots Q L D cA A nL pc' pl' st' μ') : Wg p l e R s m args below meth c H locs cells slots Q L pc ls st := by
  unfold ldA at h
  split at h
  · rename_i x hi
    obtain ⟨rfl, rfl, rfl, rfl⟩ := nx_inv h
    exact lv_aload hx hb hdg (ha.1.at hi (fun _ q => nomatch q)) (k.go ha)
  · rename_i hi
    obtain ⟨rfl, rfl, rfl, rfl⟩ := nx_inv h
    exact lv_aloadN hx hb hdg (ha.1.at hi (fun _ q => nomatch q)) (k.go ha)
  · cases h
theorem sn_istore_n (hx : p.tables.exec = Jvm.exec) (hb : c.code = cc) (ha : At_ H0 L D cA A nL H locs ls pl μ) {i : Fin 4} (hdg : decode cc pc = .ok (.istore_n i, 1)) (h : stoI pc 1 i pl st μ = some (.inl (pc', pl', st', μ'))) (k : Kt p l e R s m args below meth c H0 cells slots Q L D cA A nL pc' pl' st' μ') : Wg p l e R s m args below meth c H locs cells slots Q L pc ls st := by
  unfold stoI at h
  split at h
  · rename_i x r
    unfold st1 at h
    cases hq : Nat.blt (i : Nat) pl.length && okS pl i
    · rw [hq] at h; cases h
    · rw [hq] at h
      rw [Bool.and_eq_true] at hq
      have hlt := Nat.blt_eq.mp hq.1
      obtain ⟨rfl, rfl, rfl, rfl⟩ := nx_inv h
      exact lv_istore_n (x := x) hx hb hdg rfl ha.1.has (by rw [← ha.1.1]; exact hlt) rfl (fun ls' hl' => k.go ⟨ha.1.st1 hlt hq.2 (fun _ => rfl) hl', ha.2⟩)
  · cases h
theorem sn_istore (hx : p.tables.exec = Jvm.exec) (hb : c.code = cc) (ha : At_ H0 L D cA A nL H locs ls pl μ) {i : Nat} (hdg : decode cc pc = .ok (.istore i, 2)) (h : stoI pc 2 i pl st μ = some (.inl (pc', pl', st', μ'))) (k : Kt p l e R s m args below meth c H0 cells slots Q L D cA A nL pc' pl' st' μ') : Wg p l e R s m args below meth c H locs cells slots Q L pc ls st := by
  unfold stoI at h
  split at h
  · rename_i x r
    unfold st1 at h
    cases hq : Nat.blt (i : Nat) pl.length && okS pl i
    · rw [hq] at h; cases h
    · rw [hq] at h
      rw [Bool.and_eq_true] at hq
      have hlt := Nat.blt_eq.mp hq.1
      obtain ⟨rfl, rfl, rfl, rfl⟩ := nx_inv h
      exact lv_istore (x := x) hx hb hdg ha.1.has (by rw [← ha.1.1]; exact hlt) rfl (fun ls' hl' => k.go ⟨ha.1.st1 hlt hq.2 (fun _ => rfl) hl', ha.2⟩)
  · cases h
theorem sn_lstore_n (hx : p.tables.exec = Jvm.exec) (hb : c.code = cc) (ha : At_ H0 L D cA A nL H locs ls pl μ) {i : Fin 4} (hdg : decode cc pc = .ok (.lstore_n i, 1)) (h : stoJ pc 1 i pl st μ = some (.inl (pc', pl', st', μ'))) (k : Kt p l e R s m args below meth c H0 cells slots Q L D cA A nL pc' pl' st' μ') : Wg p l e R s m args below meth c H locs cells slots Q L pc ls st := by
  unfold stoJ at h
  split at h
  · rename_i x r
    unfold st2 at h
    cases hq : Nat.blt ((i : Nat) + 1) pl.length && okS pl i
    · rw [hq] at h; cases h
    · rw [hq] at h
      rw [Bool.and_eq_true] at hq
      have hlt := Nat.blt_eq.mp hq.1
      obtain ⟨rfl, rfl, rfl, rfl⟩ := nx_inv h
      exact lv_lstore_n (x := x) hx hb hdg rfl ha.1.has (by rw [← ha.1.1]; exact hlt) rfl (fun ls' hl' => k.go ⟨ha.1.st2 (v := .long x) hlt hq.2 hl', ha.2⟩)
  · cases h
theorem sn_lstore (hx : p.tables.exec = Jvm.exec) (hb : c.code = cc) (ha : At_ H0 L D cA A nL H locs ls pl μ) {i : Nat} (hdg : decode cc pc = .ok (.lstore i, 2)) (h : stoJ pc 2 i pl st μ = some (.inl (pc', pl', st', μ'))) (k : Kt p l e R s m args below meth c H0 cells slots Q L D cA A nL pc' pl' st' μ') : Wg p l e R s m args below meth c H locs cells slots Q L pc ls st := by
  unfold stoJ at h
  split at h
  · rename_i x r
    unfold st2 at h
    cases hq : Nat.blt ((i : Nat) + 1) pl.length && okS pl i
    · rw [hq] at h; cases h
    · rw [hq] at h
      rw [Bool.and_eq_true] at hq
      have hlt := Nat.blt_eq.mp hq.1
      obtain ⟨rfl, rfl, rfl, rfl⟩ := nx_inv h
      exact lv_lstore (x := x) hx hb hdg ha.1.has (by rw [← ha.1.1]; exact hlt) rfl (fun ls' hl' => k.go ⟨ha.1.st2 (v := .long x) hlt hq.2 hl', ha.2⟩)
  · cases h
theorem sn_dstore_n (hx : p.tables.exec = Jvm.exec) (hb : c.code = cc) (ha : At_ H0 L D cA A nL H locs ls pl μ) {i : Fin 4} (hdg : decode cc pc = .ok (.dstore_n i, 1)) (h : stoD pc 1 i pl st μ = some (.inl (pc', pl', st', μ'))) (k : Kt p l e R s m args below meth c H0 cells slots Q L D cA A nL pc' pl' st' μ') : Wg p l e R s m args below meth c H locs cells slots Q L pc ls st := by
  unfold stoD at h
  split at h
  · rename_i x r
    unfold st2 at h
    cases hq : Nat.blt ((i : Nat) + 1) pl.length && okS pl i
    · rw [hq] at h; cases h
    · rw [hq] at h
      rw [Bool.and_eq_true] at hq
      have hlt := Nat.blt_eq.mp hq.1
      obtain ⟨rfl, rfl, rfl, rfl⟩ := nx_inv h
      exact lv_dstore_n (x := x) hx hb hdg rfl ha.1.has (by rw [← ha.1.1]; exact hlt) rfl (fun ls' hl' => k.go ⟨ha.1.st2 (v := .double x) hlt hq.2 hl', ha.2⟩)
  · cases h
theorem sn_dstore (hx : p.tables.exec = Jvm.exec) (hb : c.code = cc) (ha : At_ H0 L D cA A nL H locs ls pl μ) {i : Nat} (hdg : decode cc pc = .ok (.dstore i, 2)) (h : stoD pc 2 i pl st μ = some (.inl (pc', pl', st', μ'))) (k : Kt p l e R s m args below meth c H0 cells slots Q L D cA A nL pc' pl' st' μ') : Wg p l e R s m args below meth c H locs cells slots Q L pc ls st := by
  unfold stoD at h
  split at h
  · rename_i x r
    unfold st2 at h
    cases hq : Nat.blt ((i : Nat) + 1) pl.length && okS pl i
    · rw [hq] at h; cases h
    · rw [hq] at h
      rw [Bool.and_eq_true] at hq
      have hlt := Nat.blt_eq.mp hq.1
      obtain ⟨rfl, rfl, rfl, rfl⟩ := nx_inv h
      exact lv_dstore (x := x) hx hb hdg ha.1.has (by rw [← ha.1.1]; exact hlt) rfl (fun ls' hl' => k.go ⟨ha.1.st2 (v := .double x) hlt hq.2 hl', ha.2⟩)
  · cases h
theorem sn_astore_n (hx : p.tables.exec = Jvm.exec) (hb : c.code = cc) (ha : At_ H0 L D cA A nL H locs ls pl μ) {i : Fin 4} (hdg : decode cc pc = .ok (.astore_n i, 1)) (h : stoA pc 1 i pl st μ = some (.inl (pc', pl', st', μ'))) (k : Kt p l e R s m args below meth c H0 cells slots Q L D cA A nL pc' pl' st' μ') : Wg p l e R s m args below meth c H locs cells slots Q L pc ls st := by
  unfold stoA at h
  split at h
  · rename_i x r
    unfold st1 at h
    cases hq : Nat.blt (i : Nat) pl.length && okS pl i
    · rw [hq] at h; cases h
    · rw [hq] at h
      rw [Bool.and_eq_true] at hq
      have hlt := Nat.blt_eq.mp hq.1
      obtain ⟨rfl, rfl, rfl, rfl⟩ := nx_inv h
      exact lv_astore_n (x := L x) hx hb hdg rfl ha.1.has (by rw [← ha.1.1]; exact hlt) rfl (fun ls' hl' => k.go ⟨ha.1.st1 hlt hq.2 (fun _ => rfl) hl', ha.2⟩)
  · rename_i r
    unfold st1 at h
    cases hq : Nat.blt (i : Nat) pl.length && okS pl i
    · rw [hq] at h; cases h
    · rw [hq] at h
      rw [Bool.and_eq_true] at hq
      have hlt := Nat.blt_eq.mp hq.1
      obtain ⟨rfl, rfl, rfl, rfl⟩ := nx_inv h
      exact lv_astore_nN hx hb hdg rfl ha.1.has (by rw [← ha.1.1]; exact hlt) rfl (fun ls' hl' => k.go ⟨ha.1.st1 hlt hq.2 (fun _ => rfl) hl', ha.2⟩)
  · cases h
theorem sn_astore (hx : p.tables.exec = Jvm.exec) (hb : c.code = cc) (ha : At_ H0 L D cA A nL H locs ls pl μ) {i : Nat} (hdg : decode cc pc = .ok (.astore i, 2)) (h : stoA pc 2 i pl st μ = some (.inl (pc', pl', st', μ'))) (k : Kt p l e R s m args below meth c H0 cells slots Q L D cA A nL pc' pl' st' μ') : Wg p l e R s m args below meth c H locs cells slots Q L pc ls st := by
  unfold stoA at h
  split at h
  · rename_i x r
    unfold st1 at h
    cases hq : Nat.blt (i : Nat) pl.length && okS pl i
    · rw [hq] at h; cases h
    · rw [hq] at h
      rw [Bool.and_eq_true] at hq
      have hlt := Nat.blt_eq.mp hq.1
      obtain ⟨rfl, rfl, rfl, rfl⟩ := nx_inv h
      exact lv_astore (x := L x) hx hb hdg ha.1.has (by rw [← ha.1.1]; exact hlt) rfl (fun ls' hl' => k.go ⟨ha.1.st1 hlt hq.2 (fun _ => rfl) hl', ha.2⟩)
  · rename_i r
    unfold st1 at h
    cases hq : Nat.blt (i : Nat) pl.length && okS pl i
    · rw [hq] at h; cases h
    · rw [hq] at h
      rw [Bool.and_eq_true] at hq
      have hlt := Nat.blt_eq.mp hq.1
      obtain ⟨rfl, rfl, rfl, rfl⟩ := nx_inv h
      exact lv_astoreN hx hb hdg ha.1.has (by rw [← ha.1.1]; exact hlt) rfl (fun ls' hl' => k.go ⟨ha.1.st1 hlt hq.2 (fun _ => rfl) hl', ha.2⟩)
  · cases h
theorem sn_iinc (hx : p.tables.exec = Jvm.exec) (hb : c.code = cc) (ha : At_ H0 L D cA A nL H locs ls pl μ) {i : Nat} {n : Int} (hdg : decode cc pc = .ok (.iinc i n, 3)) (h : incI pc i n pl st μ = some (.inl (pc', pl', st', μ'))) (k : Kt p l e R s m args below meth c H0 cells slots Q L D cA A nL pc' pl' st' μ') : Wg p l e R s m args below meth c H locs cells slots Q L pc ls st := by
  unfold incI at h
  split at h
  · rename_i x hi
    unfold st1 at h
    cases hq : Nat.blt i pl.length && okS pl i
    · rw [hq] at h; cases h
    · rw [hq] at h
      rw [Bool.and_eq_true] at hq
      have hlt := Nat.blt_eq.mp hq.1
      obtain ⟨rfl, rfl, rfl, rfl⟩ := nx_inv h
      have hm : (i, Value.int x) ∈ prs L pl := prs_mem.mpr ⟨.int x, hi, rfl, rfl⟩
      obtain ⟨kk, hkk⟩ := List.getElem?_of_mem hm
      exact lv_iinc hx hb hdg ha.1.has hkk rfl (by rw [← ha.1.1]; exact hlt) rfl (fun ls' hl' => k.go ⟨ha.1.st1 hlt hq.2 (fun _ => rfl) hl', ha.2⟩)
  · cases h
theorem sn_iadd (hx : p.tables.exec = Jvm.exec) (hb : c.code = cc) (ha : At_ H0 L D cA A nL H locs ls pl μ)  (hdg : decode cc pc = .ok (.iadd, 1)) (h : b32 (fun x y => x + y) pc pl st μ = some (.inl (pc', pl', st', μ'))) (k : Kt p l e R s m args below meth c H0 cells slots Q L D cA A nL pc' pl' st' μ') : Wg p l e R s m args below meth c H locs cells slots Q L pc ls st := by
  unfold b32 at h
  split at h
  · obtain ⟨rfl, rfl, rfl, rfl⟩ := nx_inv h
    exact lv_iadd hx hb hdg (k.go ha)
  · cases h
theorem sn_isub (hx : p.tables.exec = Jvm.exec) (hb : c.code = cc) (ha : At_ H0 L D cA A nL H locs ls pl μ)  (hdg : decode cc pc = .ok (.isub, 1)) (h : b32 (fun x y => x - y) pc pl st μ = some (.inl (pc', pl', st', μ'))) (k : Kt p l e R s m args below meth c H0 cells slots Q L D cA A nL pc' pl' st' μ') : Wg p l e R s m args below meth c H locs cells slots Q L pc ls st := by
  unfold b32 at h
  split at h
  · obtain ⟨rfl, rfl, rfl, rfl⟩ := nx_inv h
    exact lv_isub hx hb hdg (k.go ha)
  · cases h
theorem sn_imul (hx : p.tables.exec = Jvm.exec) (hb : c.code = cc) (ha : At_ H0 L D cA A nL H locs ls pl μ)  (hdg : decode cc pc = .ok (.imul, 1)) (h : b32 (fun x y => x * y) pc pl st μ = some (.inl (pc', pl', st', μ'))) (k : Kt p l e R s m args below meth c H0 cells slots Q L D cA A nL pc' pl' st' μ') : Wg p l e R s m args below meth c H locs cells slots Q L pc ls st := by
  unfold b32 at h
  split at h
  · obtain ⟨rfl, rfl, rfl, rfl⟩ := nx_inv h
    exact lv_imul hx hb hdg (k.go ha)
  · cases h
theorem sn_iand (hx : p.tables.exec = Jvm.exec) (hb : c.code = cc) (ha : At_ H0 L D cA A nL H locs ls pl μ)  (hdg : decode cc pc = .ok (.iand, 1)) (h : b32 (fun x y => x &&& y) pc pl st μ = some (.inl (pc', pl', st', μ'))) (k : Kt p l e R s m args below meth c H0 cells slots Q L D cA A nL pc' pl' st' μ') : Wg p l e R s m args below meth c H locs cells slots Q L pc ls st := by
  unfold b32 at h
  split at h
  · obtain ⟨rfl, rfl, rfl, rfl⟩ := nx_inv h
    exact lv_iand hx hb hdg (k.go ha)
  · cases h
theorem sn_ior (hx : p.tables.exec = Jvm.exec) (hb : c.code = cc) (ha : At_ H0 L D cA A nL H locs ls pl μ)  (hdg : decode cc pc = .ok (.ior, 1)) (h : b32 (fun x y => x ||| y) pc pl st μ = some (.inl (pc', pl', st', μ'))) (k : Kt p l e R s m args below meth c H0 cells slots Q L D cA A nL pc' pl' st' μ') : Wg p l e R s m args below meth c H locs cells slots Q L pc ls st := by
  unfold b32 at h
  split at h
  · obtain ⟨rfl, rfl, rfl, rfl⟩ := nx_inv h
    exact lv_ior hx hb hdg (k.go ha)
  · cases h
theorem sn_ixor (hx : p.tables.exec = Jvm.exec) (hb : c.code = cc) (ha : At_ H0 L D cA A nL H locs ls pl μ)  (hdg : decode cc pc = .ok (.ixor, 1)) (h : b32 (fun x y => x ^^^ y) pc pl st μ = some (.inl (pc', pl', st', μ'))) (k : Kt p l e R s m args below meth c H0 cells slots Q L D cA A nL pc' pl' st' μ') : Wg p l e R s m args below meth c H locs cells slots Q L pc ls st := by
  unfold b32 at h
  split at h
  · obtain ⟨rfl, rfl, rfl, rfl⟩ := nx_inv h
    exact lv_ixor hx hb hdg (k.go ha)
  · cases h
theorem sn_ishl (hx : p.tables.exec = Jvm.exec) (hb : c.code = cc) (ha : At_ H0 L D cA A nL H locs ls pl μ)  (hdg : decode cc pc = .ok (.ishl, 1)) (h : b32 (fun x y => x <<< (y &&& 31)) pc pl st μ = some (.inl (pc', pl', st', μ'))) (k : Kt p l e R s m args below meth c H0 cells slots Q L D cA A nL pc' pl' st' μ') : Wg p l e R s m args below meth c H locs cells slots Q L pc ls st := by
  unfold b32 at h
  split at h
  · obtain ⟨rfl, rfl, rfl, rfl⟩ := nx_inv h
    exact lv_ishl hx hb hdg (k.go ha)
  · cases h
theorem sn_ishr (hx : p.tables.exec = Jvm.exec) (hb : c.code = cc) (ha : At_ H0 L D cA A nL H locs ls pl μ)  (hdg : decode cc pc = .ok (.ishr, 1)) (h : b32 (fun x y => x >>> (y &&& 31)) pc pl st μ = some (.inl (pc', pl', st', μ'))) (k : Kt p l e R s m args below meth c H0 cells slots Q L D cA A nL pc' pl' st' μ') : Wg p l e R s m args below meth c H locs cells slots Q L pc ls st := by
  unfold b32 at h
  split at h
  · obtain ⟨rfl, rfl, rfl, rfl⟩ := nx_inv h
    exact lv_ishr hx hb hdg (k.go ha)
  · cases h
theorem sn_idiv (hx : p.tables.exec = Jvm.exec) (hb : c.code = cc) (ha : At_ H0 L D cA A nL H locs ls pl μ)  (hdg : decode cc pc = .ok (.idiv, 1)) (h : b32n (fun x y => x / y) pc pl st μ = some (.inl (pc', pl', st', μ'))) (k : Kt p l e R s m args below meth c H0 cells slots Q L D cA A nL pc' pl' st' μ') : Wg p l e R s m args below meth c H locs cells slots Q L pc ls st := by
  unfold b32n at h
  split at h
  · split at h
    · rename_i hy
      obtain ⟨rfl, rfl, rfl, rfl⟩ := nx_inv h
      exact lv_idiv hx hb hdg hy (k.go ha)
    · cases h
  · cases h
theorem sn_irem (hx : p.tables.exec = Jvm.exec) (hb : c.code = cc) (ha : At_ H0 L D cA A nL H locs ls pl μ)  (hdg : decode cc pc = .ok (.irem, 1)) (h : b32n (fun x y => x - x / y * y) pc pl st μ = some (.inl (pc', pl', st', μ'))) (k : Kt p l e R s m args below meth c H0 cells slots Q L D cA A nL pc' pl' st' μ') : Wg p l e R s m args below meth c H locs cells slots Q L pc ls st := by
  unfold b32n at h
  split at h
  · split at h
    · rename_i hy
      obtain ⟨rfl, rfl, rfl, rfl⟩ := nx_inv h
      exact lv_irem hx hb hdg hy (k.go ha)
    · cases h
  · cases h
theorem sn_ladd (hx : p.tables.exec = Jvm.exec) (hb : c.code = cc) (ha : At_ H0 L D cA A nL H locs ls pl μ)  (hdg : decode cc pc = .ok (.ladd, 1)) (h : b64 (fun x y => .long (x + y)) pc pl st μ = some (.inl (pc', pl', st', μ'))) (k : Kt p l e R s m args below meth c H0 cells slots Q L D cA A nL pc' pl' st' μ') : Wg p l e R s m args below meth c H locs cells slots Q L pc ls st := by
  unfold b64 at h
  split at h
  · obtain ⟨rfl, rfl, rfl, rfl⟩ := nx_inv h
    exact lv_ladd hx hb hdg (k.go ha)
  · cases h
theorem sn_lsub (hx : p.tables.exec = Jvm.exec) (hb : c.code = cc) (ha : At_ H0 L D cA A nL H locs ls pl μ)  (hdg : decode cc pc = .ok (.lsub, 1)) (h : b64 (fun x y => .long (x - y)) pc pl st μ = some (.inl (pc', pl', st', μ'))) (k : Kt p l e R s m args below meth c H0 cells slots Q L D cA A nL pc' pl' st' μ') : Wg p l e R s m args below meth c H locs cells slots Q L pc ls st := by
  unfold b64 at h
  split at h
  · obtain ⟨rfl, rfl, rfl, rfl⟩ := nx_inv h
    exact lv_lsub hx hb hdg (k.go ha)
  · cases h
theorem sn_lmul (hx : p.tables.exec = Jvm.exec) (hb : c.code = cc) (ha : At_ H0 L D cA A nL H locs ls pl μ)  (hdg : decode cc pc = .ok (.lmul, 1)) (h : b64 (fun x y => .long (x * y)) pc pl st μ = some (.inl (pc', pl', st', μ'))) (k : Kt p l e R s m args below meth c H0 cells slots Q L D cA A nL pc' pl' st' μ') : Wg p l e R s m args below meth c H locs cells slots Q L pc ls st := by
  unfold b64 at h
  split at h
  · obtain ⟨rfl, rfl, rfl, rfl⟩ := nx_inv h
    exact lv_lmul hx hb hdg (k.go ha)
  · cases h
theorem sn_lcmp (hx : p.tables.exec = Jvm.exec) (hb : c.code = cc) (ha : At_ H0 L D cA A nL H locs ls pl μ)  (hdg : decode cc pc = .ok (.lcmp, 1)) (h : b64 (fun x y => .int (lg_cmp x y)) pc pl st μ = some (.inl (pc', pl', st', μ'))) (k : Kt p l e R s m args below meth c H0 cells slots Q L D cA A nL pc' pl' st' μ') : Wg p l e R s m args below meth c H locs cells slots Q L pc ls st := by
  unfold b64 at h
  split at h
  · obtain ⟨rfl, rfl, rfl, rfl⟩ := nx_inv h
    exact W.lcmp hx hb hdg (k.go ha)
  · cases h
theorem sn_lrem (hx : p.tables.exec = Jvm.exec) (hb : c.code = cc) (ha : At_ H0 L D cA A nL H locs ls pl μ)  (hdg : decode cc pc = .ok (.lrem, 1)) (h : b64n (fun x y => .long (x - x / y * y)) pc pl st μ = some (.inl (pc', pl', st', μ'))) (k : Kt p l e R s m args below meth c H0 cells slots Q L D cA A nL pc' pl' st' μ') : Wg p l e R s m args below meth c H locs cells slots Q L pc ls st := by
  unfold b64n at h
  split at h
  · split at h
    · rename_i hy
      obtain ⟨rfl, rfl, rfl, rfl⟩ := nx_inv h
      exact lv_lrem hx hb hdg hy (k.go ha)
    · cases h
  · cases h
theorem sn_ddiv (hx : p.tables.exec = Jvm.exec) (hb : c.code = cc) (ha : At_ H0 L D cA A nL H locs ls pl μ)  (hdg : decode cc pc = .ok (.ddiv, 1)) (h : bD FP.ddiv pc pl st μ = some (.inl (pc', pl', st', μ'))) (k : Kt p l e R s m args below meth c H0 cells slots Q L D cA A nL pc' pl' st' μ') : Wg p l e R s m args below meth c H locs cells slots Q L pc ls st := by
  unfold bD at h
  split at h
  · split at h
    · rename_i hy
      obtain ⟨rfl, rfl, rfl, rfl⟩ := nx_inv h
      exact lv_ddiv hx hb hdg (noNaN_n hy) (k.go ha)
    · cases h
  · cases h
theorem sn_dmul (hx : p.tables.exec = Jvm.exec) (hb : c.code = cc) (ha : At_ H0 L D cA A nL H locs ls pl μ)  (hdg : decode cc pc = .ok (.dmul, 1)) (h : bD FP.dmul pc pl st μ = some (.inl (pc', pl', st', μ'))) (k : Kt p l e R s m args below meth c H0 cells slots Q L D cA A nL pc' pl' st' μ') : Wg p l e R s m args below meth c H locs cells slots Q L pc ls st := by
  unfold bD at h
  split at h
  · split at h
    · rename_i hy
      obtain ⟨rfl, rfl, rfl, rfl⟩ := nx_inv h
      exact lv_dmul hx hb hdg (noNaN_n hy) (k.go ha)
    · cases h
  · cases h
theorem sn_dsub (hx : p.tables.exec = Jvm.exec) (hb : c.code = cc) (ha : At_ H0 L D cA A nL H locs ls pl μ)  (hdg : decode cc pc = .ok (.dsub, 1)) (h : bD FP.dsub pc pl st μ = some (.inl (pc', pl', st', μ'))) (k : Kt p l e R s m args below meth c H0 cells slots Q L D cA A nL pc' pl' st' μ') : Wg p l e R s m args below meth c H locs cells slots Q L pc ls st := by
  unfold bD at h
  split at h
  · split at h
    · rename_i hy
      obtain ⟨rfl, rfl, rfl, rfl⟩ := nx_inv h
      exact lv_dsub hx hb hdg (noNaN_n hy) (k.go ha)
    · cases h
  · cases h
theorem sn_i2d (hx : p.tables.exec = Jvm.exec) (hb : c.code = cc) (ha : At_ H0 L D cA A nL H locs ls pl μ)  (hdg : decode cc pc = .ok (.i2d, 1)) (h : un32 (fun x => .double (FP.i2d x)) pc pl st μ = some (.inl (pc', pl', st', μ'))) (k : Kt p l e R s m args below meth c H0 cells slots Q L D cA A nL pc' pl' st' μ') : Wg p l e R s m args below meth c H locs cells slots Q L pc ls st := by
  unfold un32 at h
  split at h
  · obtain ⟨rfl, rfl, rfl, rfl⟩ := nx_inv h
    exact lv_i2d hx hb hdg (k.go ha)
  · cases h
theorem sn_i2l (hx : p.tables.exec = Jvm.exec) (hb : c.code = cc) (ha : At_ H0 L D cA A nL H locs ls pl μ)  (hdg : decode cc pc = .ok (.i2l, 1)) (h : un32 (fun x => .long x.toInt64) pc pl st μ = some (.inl (pc', pl', st', μ'))) (k : Kt p l e R s m args below meth c H0 cells slots Q L D cA A nL pc' pl' st' μ') : Wg p l e R s m args below meth c H locs cells slots Q L pc ls st := by
  unfold un32 at h
  split at h
  · obtain ⟨rfl, rfl, rfl, rfl⟩ := nx_inv h
    exact lv_i2l hx hb hdg rfl (k.go ha)
  · cases h
theorem sn_ineg (hx : p.tables.exec = Jvm.exec) (hb : c.code = cc) (ha : At_ H0 L D cA A nL H locs ls pl μ)  (hdg : decode cc pc = .ok (.ineg, 1)) (h : un32 (fun x => .int (-x)) pc pl st μ = some (.inl (pc', pl', st', μ'))) (k : Kt p l e R s m args below meth c H0 cells slots Q L D cA A nL pc' pl' st' μ') : Wg p l e R s m args below meth c H locs cells slots Q L pc ls st := by
  unfold un32 at h
  split at h
  · obtain ⟨rfl, rfl, rfl, rfl⟩ := nx_inv h
    exact lv_ineg hx hb hdg (k.go ha)
  · cases h
theorem sn_l2d (hx : p.tables.exec = Jvm.exec) (hb : c.code = cc) (ha : At_ H0 L D cA A nL H locs ls pl μ)  (hdg : decode cc pc = .ok (.l2d, 1)) (h : un64 (fun x => .double (FP.l2d x)) pc pl st μ = some (.inl (pc', pl', st', μ'))) (k : Kt p l e R s m args below meth c H0 cells slots Q L D cA A nL pc' pl' st' μ') : Wg p l e R s m args below meth c H locs cells slots Q L pc ls st := by
  unfold un64 at h
  split at h
  · obtain ⟨rfl, rfl, rfl, rfl⟩ := nx_inv h
    exact lv_l2d hx hb hdg (k.go ha)
  · cases h
theorem sn_l2i (hx : p.tables.exec = Jvm.exec) (hb : c.code = cc) (ha : At_ H0 L D cA A nL H locs ls pl μ)  (hdg : decode cc pc = .ok (.l2i, 1)) (h : un64 (fun x => .int x.toInt32) pc pl st μ = some (.inl (pc', pl', st', μ'))) (k : Kt p l e R s m args below meth c H0 cells slots Q L D cA A nL pc' pl' st' μ') : Wg p l e R s m args below meth c H locs cells slots Q L pc ls st := by
  unfold un64 at h
  split at h
  · obtain ⟨rfl, rfl, rfl, rfl⟩ := nx_inv h
    exact lv_l2i hx hb hdg rfl (k.go ha)
  · cases h
theorem sn_d2l (hx : p.tables.exec = Jvm.exec) (hb : c.code = cc) (ha : At_ H0 L D cA A nL H locs ls pl μ)  (hdg : decode cc pc = .ok (.d2l, 1)) (h : (match st with | .double x :: r => nx (pc + 1) pl (.long (FP.d2l x) :: r) μ | _ => none) = some (.inl (pc', pl', st', μ'))) (k : Kt p l e R s m args below meth c H0 cells slots Q L D cA A nL pc' pl' st' μ') : Wg p l e R s m args below meth c H locs cells slots Q L pc ls st := by
  split at h
  · obtain ⟨rfl, rfl, rfl, rfl⟩ := nx_inv h
    exact lv_d2l hx hb hdg (k.go ha)
  · cases h
theorem sn_dcmp (hx : p.tables.exec = Jvm.exec) (hb : c.code = cc) (ha : At_ H0 L D cA A nL H locs ls pl μ) {op : CmpOp} (hdg : decode cc pc = .ok (.dcmp op, 1)) (h : (match st with | .double y :: .double x :: r => nx (pc + 1) pl (.int (Op.cmpValue (FP.dcmp x y) op) :: r) μ | _ => none) = some (.inl (pc', pl', st', μ'))) (k : Kt p l e R s m args below meth c H0 cells slots Q L D cA A nL pc' pl' st' μ') : Wg p l e R s m args below meth c H locs cells slots Q L pc ls st := by
  split at h
  · obtain ⟨rfl, rfl, rfl, rfl⟩ := nx_inv h
    exact lv_dcmp hx hb hdg (k.go ha)
  · cases h
theorem sn_lshl (hx : p.tables.exec = Jvm.exec) (hb : c.code = cc) (ha : At_ H0 L D cA A nL H locs ls pl μ)  (hdg : decode cc pc = .ok (.lshl, 1)) (h : (match st with | .int y :: .long x :: r => nx (pc + 1) pl (.long (x <<< (y.toInt64 &&& 63)) :: r) μ | _ => none) = some (.inl (pc', pl', st', μ'))) (k : Kt p l e R s m args below meth c H0 cells slots Q L D cA A nL pc' pl' st' μ') : Wg p l e R s m args below meth c H locs cells slots Q L pc ls st := by
  split at h
  · obtain ⟨rfl, rfl, rfl, rfl⟩ := nx_inv h
    exact lv_lshl hx hb hdg rfl (k.go ha)
  · cases h
theorem sn_goto (hx : p.tables.exec = Jvm.exec) (hb : c.code = cc) (ha : At_ H0 L D cA A nL H locs ls pl μ) {off : Int} (hdg : decode cc pc = .ok (.goto off, 3)) (h : jp pc off pl st μ = some (.inl (pc', pl', st', μ'))) (k : Kt p l e R s m args below meth c H0 cells slots Q L D cA A nL pc' pl' st' μ') : Wg p l e R s m args below meth c H locs cells slots Q L pc ls st := by
  obtain ⟨ht, rfl, rfl, rfl⟩ := jp_inv h
  exact lv_goto hx hb hdg ht (k.go ha)
theorem sn_if_eq (hx : p.tables.exec = Jvm.exec) (hb : c.code = cc) (ha : At_ H0 L D cA A nL H locs ls pl μ) {off : Int} (hdg : decode cc pc = .ok (.ifCond .eq off, 3)) (h : if1 .eq pc off pl st μ = some (.inl (pc', pl', st', μ'))) (k : Kt p l e R s m args below meth c H0 cells slots Q L D cA A nL pc' pl' st' μ') : Wg p l e R s m args below meth c H locs cells slots Q L pc ls st := by
  unfold if1 at h
  split at h
  · simp only at h
    split at h
    · rename_i hc
      obtain ⟨ht, rfl, rfl, rfl⟩ := jp_inv h
      exact lv_if_eq hx hb hdg ht (fun _ => k.go ha) (fun q => absurd hc q)
    · rename_i hc
      obtain ⟨rfl, rfl, rfl, rfl⟩ := nx_inv h
      exact lv_if_eq_f hx hb hdg hc (k.go ha)
  · cases h
theorem sn_icmp_eq (hx : p.tables.exec = Jvm.exec) (hb : c.code = cc) (ha : At_ H0 L D cA A nL H locs ls pl μ) {off : Int} (hdg : decode cc pc = .ok (.if_icmp .eq off, 3)) (h : if2 .eq pc off pl st μ = some (.inl (pc', pl', st', μ'))) (k : Kt p l e R s m args below meth c H0 cells slots Q L D cA A nL pc' pl' st' μ') : Wg p l e R s m args below meth c H locs cells slots Q L pc ls st := by
  unfold if2 at h
  split at h
  · simp only at h
    split at h
    · rename_i hc
      obtain ⟨ht, rfl, rfl, rfl⟩ := jp_inv h
      exact lv_icmp_eq hx hb hdg ht (fun _ => k.go ha) (fun q => absurd hc q)
    · rename_i hc
      obtain ⟨rfl, rfl, rfl, rfl⟩ := nx_inv h
      exact lv_icmp_eq_f hx hb hdg hc (k.go ha)
  · cases h
theorem sn_if_ne (hx : p.tables.exec = Jvm.exec) (hb : c.code = cc) (ha : At_ H0 L D cA A nL H locs ls pl μ) {off : Int} (hdg : decode cc pc = .ok (.ifCond .ne off, 3)) (h : if1 .ne pc off pl st μ = some (.inl (pc', pl', st', μ'))) (k : Kt p l e R s m args below meth c H0 cells slots Q L D cA A nL pc' pl' st' μ') : Wg p l e R s m args below meth c H locs cells slots Q L pc ls st := by
  unfold if1 at h
  split at h
  · simp only at h
    split at h
    · rename_i hc
      obtain ⟨ht, rfl, rfl, rfl⟩ := jp_inv h
      exact lv_if_ne hx hb hdg ht (fun _ => k.go ha) (fun q => absurd q hc)
    · rename_i hc
      obtain ⟨rfl, rfl, rfl, rfl⟩ := nx_inv h
      exact lv_if_ne_f hx hb hdg hc (k.go ha)
  · cases h
theorem sn_icmp_ne (hx : p.tables.exec = Jvm.exec) (hb : c.code = cc) (ha : At_ H0 L D cA A nL H locs ls pl μ) {off : Int} (hdg : decode cc pc = .ok (.if_icmp .ne off, 3)) (h : if2 .ne pc off pl st μ = some (.inl (pc', pl', st', μ'))) (k : Kt p l e R s m args below meth c H0 cells slots Q L D cA A nL pc' pl' st' μ') : Wg p l e R s m args below meth c H locs cells slots Q L pc ls st := by
  unfold if2 at h
  split at h
  · simp only at h
    split at h
    · rename_i hc
      obtain ⟨ht, rfl, rfl, rfl⟩ := jp_inv h
      exact lv_icmp_ne hx hb hdg ht (fun _ => k.go ha) (fun q => absurd q hc)
    · rename_i hc
      obtain ⟨rfl, rfl, rfl, rfl⟩ := nx_inv h
      exact lv_icmp_ne_f hx hb hdg hc (k.go ha)
  · cases h
theorem sn_if_lt (hx : p.tables.exec = Jvm.exec) (hb : c.code = cc) (ha : At_ H0 L D cA A nL H locs ls pl μ) {off : Int} (hdg : decode cc pc = .ok (.ifCond .lt off, 3)) (h : if1 .lt pc off pl st μ = some (.inl (pc', pl', st', μ'))) (k : Kt p l e R s m args below meth c H0 cells slots Q L D cA A nL pc' pl' st' μ') : Wg p l e R s m args below meth c H locs cells slots Q L pc ls st := by
  unfold if1 at h
  split at h
  · simp only at h
    split at h
    · rename_i hc
      obtain ⟨ht, rfl, rfl, rfl⟩ := jp_inv h
      exact lv_if_lt hx hb hdg ht (fun _ => k.go ha) (fun q => absurd hc q)
    · rename_i hc
      obtain ⟨rfl, rfl, rfl, rfl⟩ := nx_inv h
      exact lv_if_lt_f hx hb hdg hc (k.go ha)
  · cases h
theorem sn_icmp_lt (hx : p.tables.exec = Jvm.exec) (hb : c.code = cc) (ha : At_ H0 L D cA A nL H locs ls pl μ) {off : Int} (hdg : decode cc pc = .ok (.if_icmp .lt off, 3)) (h : if2 .lt pc off pl st μ = some (.inl (pc', pl', st', μ'))) (k : Kt p l e R s m args below meth c H0 cells slots Q L D cA A nL pc' pl' st' μ') : Wg p l e R s m args below meth c H locs cells slots Q L pc ls st := by
  unfold if2 at h
  split at h
  · simp only at h
    split at h
    · rename_i hc
      obtain ⟨ht, rfl, rfl, rfl⟩ := jp_inv h
      exact lv_icmp_lt hx hb hdg ht (fun _ => k.go ha) (fun q => absurd hc q)
    · rename_i hc
      obtain ⟨rfl, rfl, rfl, rfl⟩ := nx_inv h
      exact lv_icmp_lt_f hx hb hdg hc (k.go ha)
  · cases h
theorem sn_if_ge (hx : p.tables.exec = Jvm.exec) (hb : c.code = cc) (ha : At_ H0 L D cA A nL H locs ls pl μ) {off : Int} (hdg : decode cc pc = .ok (.ifCond .ge off, 3)) (h : if1 .ge pc off pl st μ = some (.inl (pc', pl', st', μ'))) (k : Kt p l e R s m args below meth c H0 cells slots Q L D cA A nL pc' pl' st' μ') : Wg p l e R s m args below meth c H locs cells slots Q L pc ls st := by
  unfold if1 at h
  split at h
  · simp only at h
    split at h
    · rename_i hc
      obtain ⟨ht, rfl, rfl, rfl⟩ := jp_inv h
      exact lv_if_ge hx hb hdg ht (fun _ => k.go ha) (fun q => absurd hc q)
    · rename_i hc
      obtain ⟨rfl, rfl, rfl, rfl⟩ := nx_inv h
      exact lv_if_ge_f hx hb hdg hc (k.go ha)
  · cases h
theorem sn_icmp_ge (hx : p.tables.exec = Jvm.exec) (hb : c.code = cc) (ha : At_ H0 L D cA A nL H locs ls pl μ) {off : Int} (hdg : decode cc pc = .ok (.if_icmp .ge off, 3)) (h : if2 .ge pc off pl st μ = some (.inl (pc', pl', st', μ'))) (k : Kt p l e R s m args below meth c H0 cells slots Q L D cA A nL pc' pl' st' μ') : Wg p l e R s m args below meth c H locs cells slots Q L pc ls st := by
  unfold if2 at h
  split at h
  · simp only at h
    split at h
    · rename_i hc
      obtain ⟨ht, rfl, rfl, rfl⟩ := jp_inv h
      exact lv_icmp_ge hx hb hdg ht (fun _ => k.go ha) (fun q => absurd hc q)
    · rename_i hc
      obtain ⟨rfl, rfl, rfl, rfl⟩ := nx_inv h
      exact lv_icmp_ge_f hx hb hdg hc (k.go ha)
  · cases h
theorem sn_if_gt (hx : p.tables.exec = Jvm.exec) (hb : c.code = cc) (ha : At_ H0 L D cA A nL H locs ls pl μ) {off : Int} (hdg : decode cc pc = .ok (.ifCond .gt off, 3)) (h : if1 .gt pc off pl st μ = some (.inl (pc', pl', st', μ'))) (k : Kt p l e R s m args below meth c H0 cells slots Q L D cA A nL pc' pl' st' μ') : Wg p l e R s m args below meth c H locs cells slots Q L pc ls st := by
  unfold if1 at h
  split at h
  · simp only at h
    split at h
    · rename_i hc
      obtain ⟨ht, rfl, rfl, rfl⟩ := jp_inv h
      exact lv_if_gt hx hb hdg ht (fun _ => k.go ha) (fun q => absurd hc q)
    · rename_i hc
      obtain ⟨rfl, rfl, rfl, rfl⟩ := nx_inv h
      exact lv_if_gt_f hx hb hdg hc (k.go ha)
  · cases h
theorem sn_icmp_gt (hx : p.tables.exec = Jvm.exec) (hb : c.code = cc) (ha : At_ H0 L D cA A nL H locs ls pl μ) {off : Int} (hdg : decode cc pc = .ok (.if_icmp .gt off, 3)) (h : if2 .gt pc off pl st μ = some (.inl (pc', pl', st', μ'))) (k : Kt p l e R s m args below meth c H0 cells slots Q L D cA A nL pc' pl' st' μ') : Wg p l e R s m args below meth c H locs cells slots Q L pc ls st := by
  unfold if2 at h
  split at h
  · simp only at h
    split at h
    · rename_i hc
      obtain ⟨ht, rfl, rfl, rfl⟩ := jp_inv h
      exact lv_icmp_gt hx hb hdg ht (fun _ => k.go ha) (fun q => absurd hc q)
    · rename_i hc
      obtain ⟨rfl, rfl, rfl, rfl⟩ := nx_inv h
      exact lv_icmp_gt_f hx hb hdg hc (k.go ha)
  · cases h
theorem sn_if_le (hx : p.tables.exec = Jvm.exec) (hb : c.code = cc) (ha : At_ H0 L D cA A nL H locs ls pl μ) {off : Int} (hdg : decode cc pc = .ok (.ifCond .le off, 3)) (h : if1 .le pc off pl st μ = some (.inl (pc', pl', st', μ'))) (k : Kt p l e R s m args below meth c H0 cells slots Q L D cA A nL pc' pl' st' μ') : Wg p l e R s m args below meth c H locs cells slots Q L pc ls st := by
  unfold if1 at h
  split at h
  · simp only at h
    split at h
    · rename_i hc
      obtain ⟨ht, rfl, rfl, rfl⟩ := jp_inv h
      exact lv_if_le hx hb hdg ht (fun _ => k.go ha) (fun q => absurd hc q)
    · rename_i hc
      obtain ⟨rfl, rfl, rfl, rfl⟩ := nx_inv h
      exact lv_if_le_f hx hb hdg hc (k.go ha)
  · cases h
theorem sn_icmp_le (hx : p.tables.exec = Jvm.exec) (hb : c.code = cc) (ha : At_ H0 L D cA A nL H locs ls pl μ) {off : Int} (hdg : decode cc pc = .ok (.if_icmp .le off, 3)) (h : if2 .le pc off pl st μ = some (.inl (pc', pl', st', μ'))) (k : Kt p l e R s m args below meth c H0 cells slots Q L D cA A nL pc' pl' st' μ') : Wg p l e R s m args below meth c H locs cells slots Q L pc ls st := by
  unfold if2 at h
  split at h
  · simp only at h
    split at h
    · rename_i hc
      obtain ⟨ht, rfl, rfl, rfl⟩ := jp_inv h
      exact lv_icmp_le hx hb hdg ht (fun _ => k.go ha) (fun q => absurd hc q)
    · rename_i hc
      obtain ⟨rfl, rfl, rfl, rfl⟩ := nx_inv h
      exact lv_icmp_le_f hx hb hdg hc (k.go ha)
  · cases h
theorem sn_ifnull (hx : p.tables.exec = Jvm.exec) (hb : c.code = cc) (ha : At_ H0 L D cA A nL H locs ls pl μ) {off : Int} (hdg : decode cc pc = .ok (.ifnull off, 3)) (h : ifn false pc off pl st μ = some (.inl (pc', pl', st', μ'))) (k : Kt p l e R s m args below meth c H0 cells slots Q L D cA A nL pc' pl' st' μ') : Wg p l e R s m args below meth c H locs cells slots Q L pc ls st := by
  unfold ifn at h
  split at h
  · simp only [cond_false] at h
    obtain ⟨rfl, rfl, rfl, rfl⟩ := nx_inv h
    exact lv_ifnull hx hb hdg (k.go ha)
  · simp only [cond_false] at h
    obtain ⟨ht, rfl, rfl, rfl⟩ := jp_inv h
    exact lv_ifnullN hx hb hdg ht (k.go ha)
  · cases h
theorem sn_ifnonnull (hx : p.tables.exec = Jvm.exec) (hb : c.code = cc) (ha : At_ H0 L D cA A nL H locs ls pl μ) {off : Int} (hdg : decode cc pc = .ok (.ifnonnull off, 3)) (h : ifn true pc off pl st μ = some (.inl (pc', pl', st', μ'))) (k : Kt p l e R s m args below meth c H0 cells slots Q L D cA A nL pc' pl' st' μ') : Wg p l e R s m args below meth c H locs cells slots Q L pc ls st := by
  unfold ifn at h
  split at h
  · simp only [cond_true] at h
    obtain ⟨ht, rfl, rfl, rfl⟩ := jp_inv h
    exact lv_ifnonnull hx hb hdg ht (k.go ha)
  · simp only [cond_true] at h
    obtain ⟨rfl, rfl, rfl, rfl⟩ := nx_inv h
    exact lv_ifnonnullN hx hb hdg (k.go ha)
  · cases h
theorem sn_dup (hx : p.tables.exec = Jvm.exec) (hb : c.code = cc) (ha : At_ H0 L D cA A nL H locs ls pl μ)  (hdg : decode cc pc = .ok (.dup, 1)) (h : dp pc pl st μ = some (.inl (pc', pl', st', μ'))) (k : Kt p l e R s m args below meth c H0 cells slots Q L D cA A nL pc' pl' st' μ') : Wg p l e R s m args below meth c H locs cells slots Q L pc ls st := by
  unfold dp at h
  split at h
  · rename_i a r
    cases hq : cat1 a
    · rw [hq] at h; cases h
    · rw [hq] at h
      simp only [cond_true] at h
      obtain ⟨rfl, rfl, rfl, rfl⟩ := nx_inv h
      exact lv_dup hx hb hdg (cat1_lf hq) (k.go ha)
  · cases h
theorem sn_dup2 (hx : p.tables.exec = Jvm.exec) (hb : c.code = cc) (ha : At_ H0 L D cA A nL H locs ls pl μ)  (hdg : decode cc pc = .ok (.dup2, 1)) (h : dp2 pc pl st μ = some (.inl (pc', pl', st', μ'))) (k : Kt p l e R s m args below meth c H0 cells slots Q L D cA A nL pc' pl' st' μ') : Wg p l e R s m args below meth c H locs cells slots Q L pc ls st := by
  unfold dp2 at h
  split at h
  · rename_i a b r
    cases hq : cat1 a && cat1 b
    · rw [hq] at h; cases h
    · rw [hq] at h
      simp only [cond_true] at h
      rw [Bool.and_eq_true] at hq
      obtain ⟨rfl, rfl, rfl, rfl⟩ := nx_inv h
      exact lv_dup2_11 hx hb hdg (cat1_lf hq.1) (cat1_lf hq.2) (k.go ha)
  · cases h
theorem sn_pop (hx : p.tables.exec = Jvm.exec) (hb : c.code = cc) (ha : At_ H0 L D cA A nL H locs ls pl μ)  (hdg : decode cc pc = .ok (.pop, 1)) (h : pp pc pl st μ = some (.inl (pc', pl', st', μ'))) (k : Kt p l e R s m args below meth c H0 cells slots Q L D cA A nL pc' pl' st' μ') : Wg p l e R s m args below meth c H locs cells slots Q L pc ls st := by
  unfold pp at h
  split at h
  · rename_i a r
    cases hq : cat1 a
    · rw [hq] at h; cases h
    · rw [hq] at h
      simp only [cond_true] at h
      obtain ⟨rfl, rfl, rfl, rfl⟩ := nx_inv h
      exact lv_pop hx hb hdg (cat1_lf hq) (k.go ha)
  · cases h
theorem sn_tsw (hx : p.tables.exec = Jvm.exec) (hb : c.code = cc) (ha : At_ H0 L D cA A nL H locs ls pl μ) {d lo hi : Int} {os : Array Int} {ln : Nat} (hdg : decode cc pc = .ok (.tableswitch d lo hi os, ln)) (h : tsw pc d lo hi os pl st μ = some (.inl (pc', pl', st', μ'))) (k : Kt p l e R s m args below meth c H0 cells slots Q L D cA A nL pc' pl' st' μ') : Wg p l e R s m args below meth c H locs cells slots Q L pc ls st := by
  unfold tsw at h
  split at h
  · rename_i x r
    split at h
    · rename_i hq
      obtain ⟨ht, rfl, rfl, rfl⟩ := jp_inv h
      exact lv_tableOut hx hb hdg hq ht (k.go ha)
    · rename_i hq
      split at h
      · rename_i off ho
        obtain ⟨ht, rfl, rfl, rfl⟩ := jp_inv h
        rw [Array.getElem?_toList] at ho
        exact lv_tableIn hx hb hdg (fun z => hq (Or.inl z)) (fun z => hq (Or.inr z)) ho ht (k.go ha)
      · cases h
  · cases h
theorem sn_lsw (hx : p.tables.exec = Jvm.exec) (hb : c.code = cc) (ha : At_ H0 L D cA A nL H locs ls pl μ)  {d : Int} {ps : Array (Int × Int)} {ln : Nat} (hdg : decode cc pc = .ok (.lookupswitch d ps, ln)) (h : lsw pc d ps pl st μ = some (.inl (pc', pl', st', μ'))) (k : Kt p l e R s m args below meth c H0 cells slots Q L D cA A nL pc' pl' st' μ') : Wg p l e R s m args below meth c H locs cells slots Q L pc ls st := by
  unfold lsw at h
  split at h
  · cases hp : (ps.toList.zip (ps.toList.drop 1)).all (fun (a, next) => a.1 < next.1)
    · rw [hp] at h; cases h
    · rw [hp] at h
      simp only [cond_true] at h
      obtain ⟨ht, rfl, rfl, rfl⟩ := jp_inv h
      exact lv_lookup hx hb hdg hp rfl ht (k.go ha)
  · cases h
end SIM1
end
section
/-! FIELDS OF THE CLASSES: their words, by program (wip/whole/gen.py) -/
section FLD
theorem uw_X1 : wsX10 = ([(1, 63), (1, 65), (1, 67), (1, 69), (1, 71)] : List (Nat × Nat)).filterMap tix := rfl
theorem ug_X1 : (wsX10).all goodWord = true := rfl
theorem uw_X3 : wsX30 = ([(2, 18), (2, 20)] : List (Nat × Nat)).filterMap tix := rfl
theorem ug_X3 : (wsX30).all goodWord = true := rfl
theorem uw_X4 : wsX40 = ([(1, 105), (1, 107), (1, 109), (1, 111), (1, 113), (1, 115), (1, 117), (1, 119)] : List (Nat × Nat)).filterMap tix := rfl
theorem ug_X4 : (wsX40).all goodWord = true := rfl
theorem uw_X5 : wsX50 = ([(2, 55), (2, 57), (2, 59), (2, 61)] : List (Nat × Nat)).filterMap tix := rfl
theorem ug_X5 : (wsX50).all goodWord = true := rfl
theorem uw_X6 : wsX60 = ([(2, 36), (2, 38), (2, 40)] : List (Nat × Nat)).filterMap tix := rfl
theorem ug_X6 : (wsX60).all goodWord = true := rfl
theorem uw_X7 : wsX70 = ([(1, 143), (1, 145), (1, 147), (1, 149), (1, 151)] : List (Nat × Nat)).filterMap tix := rfl
theorem ug_X7 : (wsX70).all goodWord = true := rfl
theorem uw_X8 : wsX80 = ([(2, 1), (2, 3), (2, 5)] : List (Nat × Nat)).filterMap tix := rfl
theorem ug_X8 : (wsX80).all goodWord = true := rfl
theorem uw_X9 : wsX90 = ([(1, 197), (1, 199), (1, 201), (1, 203), (1, 205), (1, 207), (1, 209), (1, 211), (1, 213), (1, 215), (1, 217), (1, 219), (1, 221), (1, 223), (1, 225)] : List (Nat × Nat)).filterMap tix := rfl
theorem ug_X9 : (wsX90).all goodWord = true := rfl
theorem uw_X10 : wsX100 = ([(2, 69), (2, 71), (2, 73), (2, 75), (2, 77)] : List (Nat × Nat)).filterMap tix := rfl
theorem ug_X10 : (wsX100).all goodWord = true := rfl
theorem uw_X11 : wsX110 = ([(5, 69), (5, 71), (5, 73), (5, 75), (5, 77), (5, 79), (5, 81), (5, 83), (5, 85), (5, 87), (5, 89), (5, 91), (5, 93), (5, 95), (5, 97), (5, 99), (5, 101), (5, 103)] : List (Nat × Nat)).filterMap tix := rfl
theorem ug_X11 : (wsX110).all goodWord = true := rfl
end FLD
end
section
section FLD2
/-- the tables' words that stay -/
def lwG : List Cond := lw_tbl.filter goodWord
theorem tix_mem {q : Nat × Nat} {w : Cond} (h : tix q = some w) : w ∈ lw_tbl := by
  unfold tix at h
  have h1 : w ∈ tch.getD q.1 [] := List.mem_of_getElem? h
  have key : ∀ l ∈ tch, w ∈ l → w ∈ lw_tbl := by
    intro l hl hw
    simp only [tch, List.mem_cons, List.not_mem_nil, or_false] at hl
    unfold lw_tbl tables_1
    simp only [List.mem_append]
    rcases hl with rfl | rfl | rfl | rfl | rfl | rfl | rfl | rfl
    · exact Or.inl hw
    · exact Or.inr (Or.inl hw)
    · exact Or.inr (Or.inr (Or.inl hw))
    · exact Or.inr (Or.inr (Or.inr (Or.inl hw)))
    · exact Or.inr (Or.inr (Or.inr (Or.inr (Or.inl hw))))
    · exact Or.inr (Or.inr (Or.inr (Or.inr (Or.inr (Or.inl hw)))))
    · exact Or.inr (Or.inr (Or.inr (Or.inr (Or.inr (Or.inr (Or.inl hw))))))
    · exact Or.inr (Or.inr (Or.inr (Or.inr (Or.inr (Or.inr (Or.inr hw))))))
  by_cases hq : q.1 < tch.length
  · rw [List.getD_eq_getElem?_getD, List.getElem?_eq_getElem hq] at h1
    exact key _ (List.getElem_mem hq) h1
  · rw [List.getD_eq_getElem?_getD, List.getElem?_eq_none (Nat.le_of_not_lt hq)] at h1
    exact absurd h1 List.not_mem_nil
theorem tix_all {ws : List Cond} {ix : List (Nat × Nat)} (h : ws = ix.filterMap tix) (hg : ws.all goodWord = true) : ∀ w ∈ ws, w ∈ lwG := by
  intro w hw
  refine List.mem_filter.mpr ⟨?_, List.all_eq_true.mp hg w hw⟩
  rw [h] at hw
  obtain ⟨q, -, hq⟩ := List.mem_filterMap.mp hw
  exact tix_mem hq
theorem cl_in : ∀ (ci : Nat) (q : vw_C), vwCl[ci]? = some q → ∀ w ∈ u_ws q.1 q.2.1 q.2.2, w ∈ lwG := by
  intro ci q h
  match ci, h with
  | 0, h => cases h; exact tix_all uw_X1 ug_X1
  | 1, h => cases h; exact tix_all uw_X3 ug_X3
  | 2, h => cases h; exact tix_all uw_X4 ug_X4
  | 3, h => cases h; exact tix_all uw_X5 ug_X5
  | 4, h => cases h; exact tix_all uw_X6 ug_X6
  | 5, h => cases h; exact tix_all uw_X7 ug_X7
  | 6, h => cases h; exact tix_all uw_X8 ug_X8
  | 7, h => cases h; exact tix_all uw_X9 ug_X9
  | 8, h => cases h; exact tix_all uw_X10 ug_X10
  | 9, h => cases h; exact tix_all uw_X11 ug_X11
  | n + 10, h => simp [vwCl] at h
theorem cl_get {ci : Nat} (h : ci < 10) : vwCl[ci]? = some (clT ci) := by
  match ci, h with
  | 0, _ => rfl
  | 1, _ => rfl
  | 2, _ => rfl
  | 3, _ => rfl
  | 4, _ => rfl
  | 5, _ => rfl
  | 6, _ => rfl
  | 7, _ => rfl
  | 8, _ => rfl
  | 9, _ => rfl
  | n + 10, h => omega
def tyK (q : Nat) : String := match q with
  | 0 => "I"
  | 1 => "Z"
  | _ => "J"
theorem fc_N : ∀ ci, ci < 10 → (fcode ci).length = (clT ci).2.2 := by decide +kernel
theorem fc_decl : ∀ ci, ci < 10 → ∀ j, j < 18 → j < (clT ci).2.2 → ((clT ci).2.1 j).1 = (clT ci).1 := by decide +kernel
theorem fc_desc : ∀ ci, ci < 10 → ∀ j, j < 18 → j < (clT ci).2.2 → ((fcode ci).getD j (9, 0)).1 < 3 → ((clT ci).2.1 j).2.2.1 = tyK ((fcode ci).getD j (9, 0)).1 ∧ ((clT ci).2.1 j).2.2.2 = false := by decide +kernel
theorem fc_max : ∀ ci, ci < 10 → (clT ci).2.2 ≤ 18 := by decide +kernel
theorem nm_all : ∀ ci, ci < 10 → ∀ a, a < (clT ci).2.2 → ∀ b, b < (clT ci).2.2 → a ≠ b → ((clT ci).2.1 a).2.1 ≠ ((clT ci).2.1 b).2.1 := by
  intro ci h
  match ci, h with
  | 0, _ => exact nmX1
  | 1, _ => exact nmX3
  | 2, _ => exact nmX4
  | 3, _ => exact nmX5
  | 4, _ => exact nmX6
  | 5, _ => exact nmX7
  | 6, _ => exact nmX8
  | 7, _ => exact nmX9
  | 8, _ => exact nmX10
  | 9, _ => exact nmX11
  | n + 10, h => omega
def tyA (ci : Nat) : Nat → FieldType := ([tyX1, tyX3, tyX4, tyX5, tyX6, tyX7, tyX8, tyX9, tyX10, tyX11] : List (Nat → FieldType)).getD ci tyX0
theorem ty_all : ∀ ci, ci < 10 → ∀ k, k < (clT ci).2.2 → parseFieldDescriptor ((clT ci).2.1 k).2.2.1 = some (tyA ci k) := by
  intro ci h
  match ci, h with
  | 0, _ => exact tyX1_ok
  | 1, _ => exact tyX3_ok
  | 2, _ => exact tyX4_ok
  | 3, _ => exact tyX5_ok
  | 4, _ => exact tyX6_ok
  | 5, _ => exact tyX7_ok
  | 6, _ => exact tyX8_ok
  | 7, _ => exact tyX9_ok
  | 8, _ => exact tyX10_ok
  | 9, _ => exact tyX11_ok
  | n + 10, h => omega
/-- a pool's entry fits the layout -/
def entOK (e : Ent) : Bool := match e with
  | (0, ci, j, _) => Nat.blt ci 10 && decide ((fcode ci)[j]? = some (0, 0))
  | (1, ci, j, _) => Nat.blt ci 10 && decide ((fcode ci)[j]? = some (1, 0))
  | (2, ci, j, _) => Nat.blt ci 10 && decide ((fcode ci)[j]? = some (2, 0))
  | (3, ci, j, .ref o) => Nat.blt ci 10 && decide ((fcode ci)[j]? = some (3, o))
  | (3, _, _, _) => false
  | (4, n, na, .ref _) => Nat.blt n 222 && Nat.blt 0 na && decide ((parseMethodDescriptor (yN n).desc).map (fun d => d.parameters.length + 1) = some na) && (mrec n).2.2.2.isEmpty
  | (9, n, na, _) => Nat.blt n 222 && decide ((parseMethodDescriptor (yN n).desc).map (fun d => d.parameters.length) = some na)
  | (10, n, na, _) => Nat.blt n 222 && decide ((parseMethodDescriptor (yN n).desc).map (fun d => d.parameters.length) = some na) && (mrec n).2.2.2.isEmpty
  | (7, k, _, _) => decide (k = 1 ∨ k = 2 ∨ k = 3)
  | (8, ci, j, _) => decide (ci = 29 ∧ (j = 0 ∨ j = 1))
  | (12, k, _, _) => decide (k = 400 ∨ k = 402 ∨ k = 411)
  | _ => true
/-- entries that link a nest mate's private member -/
def entNest (own : String) (ix : Nat) (e : Ent) : Prop := (e.1 = 11 → own = "OrganCorners$OrderText" ∧ ix = 19 ∧ e.2.1 = 401) ∧ (e.1 = 10 → (own = "OrganCorners$Outlook" ∧ ix = 28 ∨ own = "OrganCorners$Town" ∧ ix = 162) ∧ e.2.1 = nX10_holds)
/-- what is known of a pool -/
def PF (own : String) (pl : Nat → Ent) : Prop := ∀ ix, entOK (pl ix) = true ∧ (∀ w ∈ entWs own ix (pl ix), w ∈ lwG) ∧ entNest own ix (pl ix)
theorem plk_or {l : List (Nat × Ent)} {ix : Nat} : plk l ix = (99, 0, 0, .null) ∨ (ix, plk l ix) ∈ l := by
  induction l with
  | nil => exact Or.inl rfl
  | cons a l ih =>
    obtain ⟨i, e⟩ := a
    unfold plk
    cases h : Nat.beq i ix
    · rcases ih with h1 | h1
      · exact Or.inl h1
      · exact Or.inr (List.mem_cons_of_mem _ h1)
    · have := Nat.eq_of_beq_eq_true h
      subst this
      exact Or.inr List.mem_cons_self
theorem PF_of {own : String} {l : List (Nat × Ent)} {ixs : List (List (Nat × Nat))} (hk : l.map (fun q => entWs own q.1 q.2) = ixs.map (fun is => is.filterMap tix)) (hg : (l.map (fun q => entWs own q.1 q.2)).all (fun l => l.all goodWord) = true) (he : l.all (fun q => entOK q.2) = true) (hn : ∀ q ∈ l, entNest own q.1 q.2) : PF own (plk l) := by
  intro ix
  rcases plk_or (l := l) (ix := ix) with h | h
  · rw [h]
    exact ⟨rfl, fun w hw => absurd hw List.not_mem_nil, (⟨fun h => absurd h (by decide), fun h => absurd h (by decide)⟩ : entNest own ix (99, 0, 0, .null))⟩
  · refine ⟨List.all_eq_true.mp he _ h, ?_⟩
    have h1 : entWs own ix (plk l ix) ∈ l.map (fun q => entWs own q.1 q.2) := List.mem_map.mpr ⟨_, h, rfl⟩
    have h2 := List.all_eq_true.mp hg _ h1
    rw [hk] at h1
    obtain ⟨is, -, hi⟩ := List.mem_map.mp h1
    exact ⟨tix_all hi.symm h2, hn _ h⟩
theorem pf_L : PF RL pl_L := PF_of ek_L eg_L (by decide +kernel) (by unfold entNest; decide +kernel)
theorem pf_X1 : PF RX1 pl_X1 := PF_of ek_X1 eg_X1 (by decide +kernel) (by unfold entNest; decide +kernel)
theorem pf_X2 : PF RX2 pl_X2 := PF_of ek_X2 eg_X2 (by decide +kernel) (by unfold entNest; decide +kernel)
theorem pf_X3 : PF RX3 pl_X3 := PF_of ek_X3 eg_X3 (by decide +kernel) (by unfold entNest; decide +kernel)
theorem pf_X4 : PF RX4 pl_X4 := PF_of ek_X4 eg_X4 (by decide +kernel) (by unfold entNest; decide +kernel)
theorem pf_X5 : PF RX5 pl_X5 := PF_of ek_X5 eg_X5 (by decide +kernel) (by unfold entNest; decide +kernel)
theorem pf_X6 : PF RX6 pl_X6 := PF_of ek_X6 eg_X6 (by decide +kernel) (by unfold entNest; decide +kernel)
theorem pf_X7 : PF RX7 pl_X7 := PF_of ek_X7 eg_X7 (by decide +kernel) (by unfold entNest; decide +kernel)
theorem pf_X8 : PF RX8 pl_X8 := PF_of ek_X8 eg_X8 (by decide +kernel) (by unfold entNest; decide +kernel)
theorem pf_X9 : PF RX9 pl_X9 := PF_of ek_X9 eg_X9 (by decide +kernel) (by unfold entNest; decide +kernel)
theorem pf_X10 : PF RX10 pl_X10 := PF_of ek_X10 eg_X10 (by decide +kernel) (by unfold entNest; decide +kernel)
theorem pf_X11 : PF RX11 pl_X11 := PF_of ek_X11 eg_X11 (by decide +kernel) (by unfold entNest; decide +kernel)
end FLD2
end
section
/-! STEPS THAT READ AND WRITE THE HEAP -/
section SIM2
variable {p : Program} {l : Launch} {e : Env} {R : Room} {s : State} {m : MethodId} {args : Array Value} {below : List Frame} {meth : Method} {c : Code} {H H0 : Heap} {locs : List Loc} {cells slots : Nat} {Q : State → Prop} {cc : ByteArray} {nL : Nat}
variable {L : Nat → Nat} {D : va_G} {cA : Nat → ClassId} {A : Nat → Prop} {pc pc' : Nat} {ls : Array Slot} {pl pl' st st' : List Value} {μ μ' : PM} {own : String} {pool : Nat → Ent}
/-- the classes of the arrays -/
def tyL (cA : Nat → ClassId) : List (ClassId × FieldType) := [(cA 20, .int), (cA 21, .long), (cA 22, .object "OrganCorners$Corner"), (cA 23, .object "OrganCorners$Organ"), (cA 24, .object "OrganCorners$Player"), (cA 26, .object "OrganCorners$Town")]
theorem inb_in {i : Int32} {n : Nat} (h : inb i n = true) : vp_in i n := by
  unfold inb at h
  unfold vp_in
  simp only [Bool.not_eq_true', Bool.or_eq_false_iff, decide_eq_false_iff_not] at h
  rintro (q | q)
  · exact h.1 q
  · have := Nat.ble_eq.mpr q
    rw [h.2] at this
    cases this
theorem sn_iast (hx : p.tables.exec = Jvm.exec) (hb : c.code = cc) (ha : At_ H0 L D cA A nL H locs ls pl μ) (hK : va_K D vwCl (tyL cA) s) (hdg : decode cc pc = .ok (.iastore, 1)) (h : asI pc pl st μ = some (.inl (pc', pl', st', μ'))) (k : Kt p l e R s m args below meth c H0 cells slots Q L D cA A nL pc' pl' st' μ') : Wg p l e R s m args below meth c H locs cells slots Q L pc ls st := by
  unfold asI at h
  split at h
  · rename_i v i kk r
    split at h
    · rename_i hc
      obtain ⟨rfl, rfl, rfl, rfl⟩ := nx_inv h
      have hlt := cls_lt (k := kk) (Or.inl (by rw [hc.1]; decide))
      refine va_iast (f := mI μ kk) hx hb hK ha.2.1 ha.2.2.1 ha.2.2.2 kk 0 ((WS_get hlt).trans (congrArg _ (congrArg _ (entW_ints hc.1)))) rfl (inb_in hc.2) hdg (fun H1 locs1 hP hD hS => ?_)
      rw [WS_setI (by rw [entW_ints hc.1, stI_self])] at hP hD
      exact k _ _ _ ha.1 hP hD hS
    · cases h
  · cases h
theorem sn_last (hx : p.tables.exec = Jvm.exec) (hb : c.code = cc) (ha : At_ H0 L D cA A nL H locs ls pl μ) (hK : va_K D vwCl (tyL cA) s) (hdg : decode cc pc = .ok (.lastore, 1)) (h : asJ pc pl st μ = some (.inl (pc', pl', st', μ'))) (k : Kt p l e R s m args below meth c H0 cells slots Q L D cA A nL pc' pl' st' μ') : Wg p l e R s m args below meth c H locs cells slots Q L pc ls st := by
  unfold asJ at h
  split at h
  · rename_i v i kk r
    split at h
    · rename_i hc
      obtain ⟨rfl, rfl, rfl, rfl⟩ := nx_inv h
      have hlt := cls_lt (k := kk) (Or.inl (by rw [hc.1]; decide))
      refine va_last (f := mJ μ kk) hx hb hK ha.2.1 ha.2.2.1 ha.2.2.2 kk 1 ((WS_get hlt).trans (congrArg _ (congrArg _ (entW_longs hc.1)))) rfl (inb_in hc.2) hdg (fun H1 locs1 hP hD hS => ?_)
      rw [WS_setJ (by rw [entW_longs hc.1, stJ_self])] at hP hD
      exact k _ _ _ ha.1 hP hD hS
    · cases h
  · cases h
theorem sn_lald (hx : p.tables.exec = Jvm.exec) (hb : c.code = cc) (ha : At_ H0 L D cA A nL H locs ls pl μ) (hK : va_K D vwCl (tyL cA) s) (hdg : decode cc pc = .ok (.laload, 1)) (h : alJ pc pl st μ = some (.inl (pc', pl', st', μ'))) (k : Kt p l e R s m args below meth c H0 cells slots Q L D cA A nL pc' pl' st' μ') : Wg p l e R s m args below meth c H locs cells slots Q L pc ls st := by
  unfold alJ at h
  split at h
  · rename_i i kk r
    split at h
    · rename_i hc
      obtain ⟨rfl, rfl, rfl, rfl⟩ := nx_inv h
      have hlt := cls_lt (k := kk) (Or.inl (by rw [hc.1]; decide))
      exact va_lald (f := mJ μ kk) hx hb hK ha.2.1 kk 1 ((WS_get hlt).trans (congrArg _ (congrArg _ (entW_longs hc.1)))) rfl (inb_in hc.2) hdg (k.go ha)
    · cases h
  · cases h
/-- fixed objects: arrays of the classes' statics, the kinds, their texts -/
def SF1 (L : Nat → Nat) (A : Nat → Prop) (U : State) (H : Heap) : Prop :=
  (va_Z "OrganCorners" "GREATEST_SETTINGS" "[I" (.ref (L 400)) A U H ∧ va_T .int (L 400) 5 (fun j => .int (cst 400 j)) A U H) ∧
  (va_Z "OrganCorners$1" "$SwitchMap$OrganCorners$OrderKind" "[I" (.ref (L 402)) A U H ∧ va_T .int (L 402) 5 (fun j => .int (cst 402 j)) A U H) ∧
  (va_Z "OrganCorners" "ORDER_KINDS" "[LOrganCorners$OrderKind;" (.ref (L 401)) A U H ∧ va_T (.object "OrganCorners$OrderKind") (L 401) 5 (fun j => .ref (L (410 + j))) A U H) ∧
  va_Z "OrganCorners$OrderKind" "WET" "LOrganCorners$OrderKind;" (.ref (L 411)) A U H
def SF2 (L : Nat → Nat) (A : Nat → Prop) (U : State) (H : Heap) : Prop :=
  (∀ j, j < 5 → va_O "OrganCorners$OrderKind" (L (410 + j)) A U H ∧ va_OF "OrganCorners$OrderKind" "least" "Ljava/lang/String;" (.ref (L (420 + 2 * j))) (L (410 + j)) A U H ∧ va_OF "OrganCorners$OrderKind" "greatest" "Ljava/lang/String;" (.ref (L (421 + 2 * j))) (L (410 + j)) A U H ∧ va_OF "java/lang/Enum" "ordinal" "I" (.int (Int32.ofNat j)) (L (410 + j)) A U H) ∧
  (∀ i, i < 10 → ∃ v, va_O "java/lang/String" (L (420 + i)) A U H ∧ va_OF "java/lang/String" "coder" "B" (.int 0) (L (420 + i)) A U H ∧ va_OF "java/lang/String" "value" "[B" (.ref v) (L (420 + i)) A U H ∧ va_T .byte v (strs.getD i []).length (fun j => .int ((strs.getD i []).getD j 0)) A U H) ∧
  va_Z "java/lang/String" "COMPACT_STRINGS" "Z" (.int 1) A U H ∧
  vx_Zq Bundle.tN "UNASSIGNED_STACK" Bundle.steD A U H ∧ vx_Zq Bundle.tN "SUPPRESSED_SENTINEL" Bundle.listD A U H
/-- what the tables say beside the words that stay -/
def SF3 (U : State) : Prop :=
  va_Nw (.methodLinkNest "OrganCorners$Outlook" 28 (yN nX10_holds) "OrganCorners") U ∧ va_Nw (.methodLinkNest "OrganCorners$Town" 162 (yN nX10_holds) "OrganCorners") U ∧ va_Nw (.fieldLinkNest "OrganCorners$OrderText" 19 "OrganCorners" "ORDER_KINDS" "[LOrganCorners$OrderKind;" "OrganCorners") U ∧
  (∀ i, 1 ≤ i → i ≤ 3 → va_Nw (.castable (exn i) (exn i)) U) ∧ (∀ i j, 1 ≤ i → i ≤ 3 → 1 ≤ j → j ≤ 3 → i ≠ j → va_Nc (exn i) (exn j) U) ∧
  (∃ sa, vk_R "OrganCorners" 173 "no complete row of orders" sa U) ∧ (∃ sa, vk_R "OrganCorners" 346 "no such number" sa U) ∧ (∃ sa, vk_R "OrganCorners" 349 "out of range" sa U) ∧ (∃ sa, vk_R "OrganCorners" 353 "not now" sa U)
def SF (L : Nat → Nat) (A : Nat → Prop) (U : State) (H : Heap) : Prop := SF1 L A U H ∧ SF2 L A U H ∧ SF3 U ∧ (∀ i j, i < 5 → j < 5 → L (410 + i) = L (410 + j) → i = j)
theorem SF.kept {U : State} {H1 : Heap} (h : SF L A U H) (hq : ∀ a : Nat, a < H.size → ¬ A a → H1[a]? = H[a]?) : SF L A U H1 := by
  obtain ⟨h1, h2, h3, h4⟩ := h
  refine ⟨⟨⟨h1.1.1.kept hq, h1.1.2.kept hq⟩, ⟨h1.2.1.1.kept hq, h1.2.1.2.kept hq⟩, ⟨h1.2.2.1.1.kept hq, h1.2.2.1.2.kept hq⟩, h1.2.2.2.kept hq⟩, ⟨fun j hj => ?_, fun i hi => ?_, h2.2.2.1.kept hq, h2.2.2.2.1.kept hq, h2.2.2.2.2.kept hq⟩, h3, h4⟩
  · obtain ⟨a1, a2, a3, a4⟩ := h2.1 j hj
    exact ⟨a1.kept hq, a2.kept hq, a3.kept hq, a4.kept hq⟩
  · obtain ⟨v, a1, a2, a3, a4⟩ := h2.2.1 i hi
    exact ⟨v, a1.kept hq, a2.kept hq, a3.kept hq, a4.kept hq⟩
theorem SF.moved {u U : State} (hW : u.WarmedH U.vm) (h : SF L A u H) : SF L A U H := by
  obtain ⟨h1, h2, h3, h4⟩ := h
  have hvm := hW.alike
  refine ⟨⟨⟨h1.1.1.moved hvm, h1.1.2.moved hvm⟩, ⟨h1.2.1.1.moved hvm, h1.2.1.2.moved hvm⟩, ⟨h1.2.2.1.1.moved hvm, h1.2.2.1.2.moved hvm⟩, h1.2.2.2.moved hvm⟩, ⟨fun j hj => ?_, fun i hi => ?_, h2.2.2.1.moved hvm, h2.2.2.2.1.moved hvm, h2.2.2.2.2.moved hvm⟩, ?_, h4⟩
  · obtain ⟨a1, a2, a3, a4⟩ := h2.1 j hj
    exact ⟨a1.moved hvm, a2.moved hvm, a3.moved hvm, a4.moved hvm⟩
  · obtain ⟨v, a1, a2, a3, a4⟩ := h2.2.1 i hi
    exact ⟨v, a1.moved hvm, a2.moved hvm, a3.moved hvm, a4.moved hvm⟩
  · obtain ⟨b1, b2, b3, b4, b5, ⟨s1, b6⟩, ⟨s2, b7⟩, ⟨s3, b8⟩, ⟨s4, b9⟩⟩ := h3
    exact ⟨va_Nw.warmM hW b1, va_Nw.warmM hW b2, va_Nw.warmF hW b3, fun i p1 p2 => va_Nw.warmC hW (b4 i p1 p2), fun i j p1 p2 p3 p4 p5 => va_Nc.moved hvm (b5 i j p1 p2 p3 p4 p5), ⟨s1, vk_R.warm hW b6⟩, ⟨s2, vk_R.warm hW b7⟩, ⟨s3, vk_R.warm hW b8⟩, ⟨s4, vk_R.warm hW b9⟩⟩
theorem cls27 {k : Nat} (h : cls k = 27) : k = 400 ∨ k = 402 := by
  by_cases hk : k < 345
  · exfalso
    have key : ∀ k, k < 345 → cls k ≠ 27 := by decide +kernel
    exact key k hk h
  · have h1 : Nat.blt k 23 = false := by
      cases hb : Nat.blt k 23
      · rfl
      · have := Nat.blt_eq.mp hb; omega
    have h2 : Nat.blt k 345 = false := by
      cases hb : Nat.blt k 345
      · rfl
      · have := Nat.blt_eq.mp hb; omega
    have h3 : cls k = (lyTop k).1 := by unfold cls ly; rw [h1, h2]; rfl
    by_cases q1 : k = 400
    · exact Or.inl q1
    · by_cases q2 : k = 402
      · exact Or.inr q2
      · exfalso
        have e1 : Nat.beq k 400 = false := by
          cases hb : Nat.beq k 400
          · rfl
          · exact absurd (Nat.eq_of_beq_eq_true hb) q1
        have e2 : Nat.beq k 402 = false := by
          cases hb : Nat.beq k 402
          · rfl
          · exact absurd (Nat.eq_of_beq_eq_true hb) q2
        rw [h3] at h
        unfold lyTop at h
        rw [e1, e2] at h
        simp only [cond_false] at h
        revert h
        cases Nat.beq k 390
        · cases Nat.beq k 401
          · cases Nat.blt k 410
            · cases Nat.blt k 415
              · cases Nat.blt k 420
                · cases Nat.blt k 430 <;> simp
                · simp
              · simp
            · simp
          · simp
        · simp
theorem cls25 {k : Nat} (h : cls k = 25) : k = 390 := by
  by_cases hk : k < 345
  · exfalso
    have key : ∀ k, k < 345 → cls k ≠ 25 := by decide +kernel
    exact key k hk h
  · have h1 : Nat.blt k 23 = false := by
      cases hb : Nat.blt k 23
      · rfl
      · have := Nat.blt_eq.mp hb; omega
    have h2 : Nat.blt k 345 = false := by
      cases hb : Nat.blt k 345
      · rfl
      · have := Nat.blt_eq.mp hb; omega
    have h3 : cls k = (lyTop k).1 := by unfold cls ly; rw [h1, h2]; rfl
    by_cases q1 : k = 390
    · exact q1
    · exfalso
      have e1 : Nat.beq k 390 = false := by
        cases hb : Nat.beq k 390
        · rfl
        · exact absurd (Nat.eq_of_beq_eq_true hb) q1
      rw [h3] at h
      unfold lyTop at h
      rw [e1] at h
      simp only [cond_false] at h
      revert h
      cases Nat.beq k 400
      · cases Nat.beq k 402
        · cases Nat.beq k 401
          · cases Nat.blt k 410
            · cases Nat.blt k 415
              · cases Nat.blt k 420
                · cases Nat.blt k 430 <;> simp
                · simp
              · simp
            · simp
          · simp
        · simp
      · simp
theorem cls28 {k : Nat} (h : cls k = 28) : k = 401 := by
  by_cases hk : k < 345
  · exfalso
    have key : ∀ k, k < 345 → cls k ≠ 28 := by decide +kernel
    exact key k hk h
  · have h1 : Nat.blt k 23 = false := by
      cases hb : Nat.blt k 23
      · rfl
      · have := Nat.blt_eq.mp hb; omega
    have h2 : Nat.blt k 345 = false := by
      cases hb : Nat.blt k 345
      · rfl
      · have := Nat.blt_eq.mp hb; omega
    have h3 : cls k = (lyTop k).1 := by unfold cls ly; rw [h1, h2]; rfl
    by_cases q1 : k = 401
    · exact q1
    · exfalso
      have e1 : Nat.beq k 401 = false := by
        cases hb : Nat.beq k 401
        · rfl
        · exact absurd (Nat.eq_of_beq_eq_true hb) q1
      rw [h3] at h
      unfold lyTop at h
      rw [e1] at h
      simp only [cond_false] at h
      revert h
      cases Nat.beq k 390
      · cases Nat.beq k 400
        · cases Nat.beq k 402
          · cases Nat.blt k 410
            · cases Nat.blt k 415
              · cases Nat.blt k 420
                · cases Nat.blt k 430 <;> simp
                · simp
              · simp
            · simp
          · simp
        · simp
      · simp
theorem sn_iald (hx : p.tables.exec = Jvm.exec) (hb : c.code = cc) (ha : At_ s.heap L D cA A nL H locs ls pl μ) (hK : va_K D vwCl (tyL cA) s) (hF : SF L A s s.heap) (hX : va_X (L 390) μ.2.2.1 (mI μ 390) s s.heap) (hXA : ¬ A (L 390)) (hdg : decode cc pc = .ok (.iaload, 1)) (h : alI pc pl st μ = some (.inl (pc', pl', st', μ'))) (k : Kt p l e R s m args below meth c s.heap cells slots Q L D cA A nL pc' pl' st' μ') : Wg p l e R s m args below meth c H locs cells slots Q L pc ls st := by
  unfold alI at h
  split at h
  · rename_i i kk r
    split at h
    · rename_i hc
      obtain ⟨rfl, rfl, rfl, rfl⟩ := nx_inv h
      have hlt := cls_lt (k := kk) (Or.inl (by rw [hc.1]; decide))
      exact va_iald (f := mI μ kk) hx hb hK ha.2.1 kk 0 ((WS_get hlt).trans (congrArg _ (congrArg _ (entW_ints hc.1)))) rfl (inb_in hc.2) hdg (k.go ha)
    · split at h
      · rename_i hc
        have e9 := cls25 hc.1
        subst e9
        obtain ⟨rfl, rfl, rfl, rfl⟩ := nx_inv h
        exact va_sld hx hb hX (by obtain ⟨scr, h1, -⟩ := hX; exact (Array.getElem?_eq_some_iff.mp h1).1) hXA ha.2.2.2 (inb_in hc.2) hdg (k.go ha)
      · split at h
        · rename_i hc
          rcases cls27 hc.1 with e9 | e9
          · subst e9
            obtain ⟨rfl, rfl, rfl, rfl⟩ := nx_inv h
            exact va_ti hx hb hF.1.1.2 ha.2.2.2 (inb_in hc.2) rfl hdg (k.go ha)
          · subst e9
            obtain ⟨rfl, rfl, rfl, rfl⟩ := nx_inv h
            exact va_ti hx hb hF.1.2.1.2 ha.2.2.2 (inb_in hc.2) rfl hdg (k.go ha)
        · cases h
  · cases h
theorem isRA_cases {c : Nat} (h : isRA c = true) : c = 22 ∨ c = 23 ∨ c = 24 ∨ c = 26 ∨ c = 28 := by
  simp only [isRA, Bool.or_eq_true] at h
  rcases h with ((((h | h) | h) | h) | h)
  · exact Or.inl (Nat.eq_of_beq_eq_true h)
  · exact Or.inr (Or.inl (Nat.eq_of_beq_eq_true h))
  · exact Or.inr (Or.inr (Or.inl (Nat.eq_of_beq_eq_true h)))
  · exact Or.inr (Or.inr (Or.inr (Or.inl (Nat.eq_of_beq_eq_true h))))
  · exact Or.inr (Or.inr (Or.inr (Or.inr (Nat.eq_of_beq_eq_true h))))
theorem sn_aald (hx : p.tables.exec = Jvm.exec) (hb : c.code = cc) (ha : At_ s.heap L D cA A nL H locs ls pl μ) (hK : va_K D vwCl (tyL cA) s) (hF : SF L A s s.heap) (hdg : decode cc pc = .ok (.aaload, 1)) (h : alA pc pl st μ = some (.inl (pc', pl', st', μ'))) (k : Kt p l e R s m args below meth c s.heap cells slots Q L D cA A nL pc' pl' st' μ') : Wg p l e R s m args below meth c H locs cells slots Q L pc ls st := by
  unfold alA at h
  split at h
  · rename_i i kk r
    split at h
    · rename_i hc
      obtain ⟨rfl, rfl, rfl, rfl⟩ := nx_inv h
      rcases isRA_cases hc.1 with e | e | e | e | e
      · have hlt := cls_lt (k := kk) (Or.inl (by rw [e]; decide))
        exact va_aldq (f := fun i => some (L (eN kk i))) hx hb hK ha.2.1 kk 2 ((WS_get hlt).trans (congrArg _ (congrArg _ (entW_refs e (by decide))))) rfl (inb_in hc.2) hdg (k.go ha)
      · have hlt := cls_lt (k := kk) (Or.inl (by rw [e]; decide))
        exact va_aldq (f := fun i => some (L (eN kk i))) hx hb hK ha.2.1 kk 3 ((WS_get hlt).trans (congrArg _ (congrArg _ (entW_refs e (by decide))))) rfl (inb_in hc.2) hdg (k.go ha)
      · have hlt := cls_lt (k := kk) (Or.inl (by rw [e]; decide))
        exact va_aldq (f := fun i => some (L (eN kk i))) hx hb hK ha.2.1 kk 4 ((WS_get hlt).trans (congrArg _ (congrArg _ (entW_refs e (by decide))))) rfl (inb_in hc.2) hdg (k.go ha)
      · have hlt := cls_lt (k := kk) (Or.inr e)
        exact va_aldq (f := fun i => some (L (eN kk i))) hx hb hK ha.2.1 kk 5 ((WS_get hlt).trans (congrArg _ (congrArg _ (entW_refs e (by decide))))) rfl (inb_in hc.2) hdg (k.go ha)
      · have e9 := cls28 e
        subst e9
        exact vb_tq hx hb hF.1.2.2.1.2 ha.2.2.2 (inb_in hc.2) (show _ = Value.ref (L (410 + i.toNatClampNeg)) from rfl) hdg (k.go ha)
    · cases h
  · cases h
theorem sn_alen (hx : p.tables.exec = Jvm.exec) (hb : c.code = cc) (ha : At_ s.heap L D cA A nL H locs ls pl μ) (hF : SF L A s s.heap) (hX : va_X (L 390) μ.2.2.1 (mI μ 390) s s.heap) (hXA : ¬ A (L 390)) (hdg : decode cc pc = .ok (.arraylength, 1)) (h : arl pc pl st μ = some (.inl (pc', pl', st', μ'))) (k : Kt p l e R s m args below meth c s.heap cells slots Q L D cA A nL pc' pl' st' μ') : Wg p l e R s m args below meth c H locs cells slots Q L pc ls st := by
  unfold arl at h
  split at h
  · rename_i kk r
    split at h
    · rename_i hc
      have e9 := cls25 hc
      subst e9
      obtain ⟨rfl, rfl, rfl, rfl⟩ := nx_inv h
      exact va_slen hx hb hX (by obtain ⟨scr, h1, -⟩ := hX; exact (Array.getElem?_eq_some_iff.mp h1).1) hXA ha.2.2.2 hdg (k.go ha)
    · split at h
      · rename_i hc
        have e9 := cls28 hc
        subst e9
        obtain ⟨rfl, rfl, rfl, rfl⟩ := nx_inv h
        exact va_tlen hx hb hF.1.2.2.1.2 ha.2.2.2 rfl hdg (k.go ha)
      · cases h
  · cases h
theorem get_obj (hx : p.tables.exec = Jvm.exec) (hb : c.code = cc) (hown : s.vm.findClass own = some m.cls) (hts : ∀ w ∈ lwG, w.before args s = true) (hK : va_K D vwCl (tyL cA) s) (ha : At_ H0 L D cA A nL H locs ls pl μ) {ix k ci j : Nat} {q : Nat × Nat} {rest : List Value} (hci : ci < 10) (hc : cls k = ci) (hq : (fcode ci)[j]? = some q) (hw : Cond.fieldLink own ix (clT ci).1 ((clT ci).2.1 j).2.1 ((clT ci).2.1 j).2.2.1 ∈ lwG) (hdg : decode cc pc = .ok (.getfield ix, 3))
    (kk : W p l e R s m args below meth c H locs cells slots Q (F0 m (pc + 3) ls (fval L μ k j q :: rest))) : W p l e R s m args below meth c H locs cells slots Q (F0 m pc ls (.ref (L k) :: rest)) := by
  have hjl : j < (clT ci).2.2 := by rw [← fc_N ci hci]; exact (List.getElem?_eq_some_iff.mp hq).1
  have hd : ((clT ci).2.1 j).1 = (clT ci).1 := fc_decl ci hci j (Nat.lt_of_lt_of_le hjl (fc_max ci hci)) hjl
  have hlt := cls_lt (k := k) (Or.inl (by rw [hc]; omega))
  exact va_get (C := (clT ci).1) (T := (clT ci).2.1) (N := (clT ci).2.2) hx hb hts (cl_in ci _ (cl_get hci)) hown hK ha.2.1 k ((WS_get hlt).trans (congrArg _ (congrArg _ (entW_obj hc hci)))) (cl_get hci) j hjl (hts _ hw) (fun x h9 => by rw [hd] at h9; exact h9) (flds_get hq) hdg kk
theorem put_obj (hx : p.tables.exec = Jvm.exec) (hb : c.code = cc) (hown : s.vm.findClass own = some m.cls) (hts : ∀ w ∈ lwG, w.before args s = true) (hK : va_K D vwCl (tyL cA) s) (ha : At_ H0 L D cA A nL H locs ls pl μ) {ix k ci j : Nat} {q : Nat × Nat} {rest : List Value} {v : Value} {ty : FieldType} (hci : ci < 10) (hc : cls k = ci) (hq : (fcode ci)[j]? = some q) (hq3 : q.1 < 3) (hw : Cond.fieldLink own ix (clT ci).1 ((clT ci).2.1 j).2.1 ((clT ci).2.1 j).2.2.1 ∈ lwG) (hdg : decode cc pc = .ok (.putfield ix, 3))
    (hty : parseFieldDescriptor (tyK q.1) = some ty) (hn : narrow ty v = v) (hfit : fits ty v = true)
    (kk : ∀ (H1 : Heap) (locs1 : List Loc), va_P D vwCl ((WS L cA μ).set k (L k, .inr (ci, (flds L μ k ci).set j v))) H1 → va_D A ((WS L cA μ).set k (L k, .inr (ci, (flds L μ k ci).set j v))) → va_S A H0 H1 locs1 → W p l e R s m args below meth c H1 locs1 cells slots Q (F0 m (pc + 3) ls rest)) : W p l e R s m args below meth c H locs cells slots Q (F0 m pc ls (v :: .ref (L k) :: rest)) := by
  have hjl0 : j < (fcode ci).length := (List.getElem?_eq_some_iff.mp hq).1
  have hjl : j < (clT ci).2.2 := by rw [← fc_N ci hci]; exact hjl0
  have hj18 : j < 18 := Nat.lt_of_lt_of_le hjl (fc_max ci hci)
  have hd : ((clT ci).2.1 j).1 = (clT ci).1 := fc_decl ci hci j hj18 hjl
  have hqd : (fcode ci).getD j (9, 0) = q := by rw [List.getD_eq_getElem?_getD, hq]; rfl
  obtain ⟨e1, e2⟩ := fc_desc ci hci j hj18 hjl (by rw [hqd]; exact hq3)
  rw [hqd] at e1
  have hlt := cls_lt (k := k) (Or.inl (by rw [hc]; omega))
  exact va_put (C := (clT ci).1) (T := (clT ci).2.1) (N := (clT ci).2.2) hx hb hts (cl_in ci _ (cl_get hci)) (tyA ci) (ty_all ci hci) (nm_all ci hci) hown hK ha.2.1 ha.2.2.1 ha.2.2.2 k ((WS_get hlt).trans (congrArg _ (congrArg _ (entW_obj hc hci)))) (cl_get hci) j hjl (hts _ hw) (fun x h9 => by rw [hd] at h9; exact h9) e2 (by rw [e1]; exact hty) hn hfit (by rw [flds_len]; exact hjl0) hdg kk
theorem nar_Z {v : Int32} (h : v = 0 ∨ v = 1) : narrow .boolean (.int v) = .int v := by
  rcases h with rfl | rfl <;> rfl
theorem sn_put (hx : p.tables.exec = Jvm.exec) (hb : c.code = cc) (ha : At_ H0 L D cA A nL H locs ls pl μ) (hown : s.vm.findClass own = some m.cls) (hts : ∀ w ∈ lwG, w.before args s = true) (hK : va_K D vwCl (tyL cA) s) (hpf : PF own pool) {ix : Nat} (hdg : decode cc pc = .ok (.putfield ix, 3)) (h : ptf pool pc ix pl st μ = some (.inl (pc', pl', st', μ'))) (k : Kt p l e R s m args below meth c H0 cells slots Q L D cA A nL pc' pl' st' μ') : Wg p l e R s m args below meth c H locs cells slots Q L pc ls st := by
  obtain ⟨hok, hw, -⟩ := hpf ix
  unfold ptf at h
  split at h
  · rename_i v kk r
    split at h
    · rename_i ci j z he
      rw [he] at hok hw
      simp only [entOK, Bool.and_eq_true, decide_eq_true_eq] at hok
      have hci := Nat.blt_eq.mp hok.1
      rw [hok.1] at h
      simp only [cond_true] at h
      split at h
      · rename_i hc
        obtain ⟨rfl, rfl, rfl, rfl⟩ := nx_inv h
        refine put_obj (v := .int v) (ty := .int) hx hb hown hts hK ha hci hc hok.2 (by decide) (hw _ List.mem_cons_self) hdg rfl rfl rfl (fun H1 locs1 hP hD hS => ?_)
        have e9 : entW L cA (stI μ kk j v) kk = .inr (ci, (flds L μ kk ci).set j (.int v)) := by rw [entW_obj hc hci, flds_setI hok.2 (Or.inl rfl)]
        rw [WS_setI e9] at hP hD
        exact k _ _ _ ha.1 hP hD hS
      · cases h
    · rename_i ci j z he
      rw [he] at hok hw
      simp only [entOK, Bool.and_eq_true, decide_eq_true_eq] at hok
      have hci := Nat.blt_eq.mp hok.1
      rw [hok.1] at h
      simp only [cond_true] at h
      split at h
      · rename_i hc
        obtain ⟨rfl, rfl, rfl, rfl⟩ := nx_inv h
        refine put_obj (v := .int v) (ty := .boolean) hx hb hown hts hK ha hci hc.1 hok.2 (by decide) (hw _ List.mem_cons_self) hdg rfl (nar_Z hc.2) (by rcases hc.2 with e | e <;> rw [e] <;> rfl) (fun H1 locs1 hP hD hS => ?_)
        have e9 : entW L cA (stI μ kk j v) kk = .inr (ci, (flds L μ kk ci).set j (.int v)) := by rw [entW_obj hc.1 hci, flds_setI hok.2 (Or.inr rfl)]
        rw [WS_setI e9] at hP hD
        exact k _ _ _ ha.1 hP hD hS
      · cases h
    · cases h
  · rename_i v kk r
    split at h
    · rename_i ci j z he
      rw [he] at hok hw
      simp only [entOK, Bool.and_eq_true, decide_eq_true_eq] at hok
      have hci := Nat.blt_eq.mp hok.1
      split at h
      · rename_i hc
        obtain ⟨rfl, rfl, rfl, rfl⟩ := nx_inv h
        refine put_obj (v := .long v) (ty := .long) hx hb hown hts hK ha hci hc hok.2 (by decide) (hw _ List.mem_cons_self) hdg rfl rfl rfl (fun H1 locs1 hP hD hS => ?_)
        have e9 : entW L cA (stJ μ kk j v) kk = .inr (ci, (flds L μ kk ci).set j (.long v)) := by rw [entW_obj hc hci, flds_setJ hok.2 rfl]
        rw [WS_setJ e9] at hP hD
        exact k _ _ _ ha.1 hP hD hS
      · cases h
    · cases h
  · cases h
end SIM2
end
section
/-! STEPS BY THE POOL: fields, constants, statics, the JDK's small methods -/
section SIM3
variable {p : Program} {l : Launch} {e : Env} {R : Room} {s : State} {m : MethodId} {args : Array Value} {below : List Frame} {meth : Method} {c : Code} {H H0 : Heap} {locs : List Loc} {cells slots : Nat} {Q : State → Prop} {cc : ByteArray} {nL : Nat}
variable {L : Nat → Nat} {D : va_G} {cA : Nat → ClassId} {A : Nat → Prop} {pc pc' : Nat} {ls : Array Slot} {pl pl' st st' : List Value} {μ μ' : PM} {own : String} {pool : Nat → Ent}
theorem cls29 {k : Nat} (h : cls k = 29) : ∃ j, j < 5 ∧ k = 410 + j := by
  by_cases hk : k < 430
  · have key : ∀ k, k < 430 → cls k = 29 → 410 ≤ k ∧ k < 415 := by decide +kernel
    obtain ⟨h1, h2⟩ := key k hk h
    exact ⟨k - 410, by omega, by omega⟩
  · exfalso
    have bl : ∀ n, n ≤ 430 → Nat.blt k n = false := by
      intro n hn
      cases hb : Nat.blt k n
      · rfl
      · have := Nat.blt_eq.mp hb; omega
    have be : ∀ n, n < 430 → Nat.beq k n = false := by
      intro n hn
      cases hb : Nat.beq k n
      · rfl
      · have := Nat.eq_of_beq_eq_true hb; omega
    unfold cls ly lyTop at h
    rw [bl 23 (by decide), bl 345 (by decide), be 390 (by decide), be 400 (by decide), be 402 (by decide), be 401 (by decide), bl 410 (by decide), bl 415 (by decide), bl 420 (by decide), bl 430 (by decide)] at h
    simp at h
theorem cls30 {k : Nat} (h : cls k = 30) : ∃ j, j < 10 ∧ k = 420 + j := by
  by_cases hk : k < 430
  · have key : ∀ k, k < 430 → cls k = 30 → 420 ≤ k := by decide +kernel
    have h1 := key k hk h
    exact ⟨k - 420, by omega, by omega⟩
  · exfalso
    have bl : ∀ n, n ≤ 430 → Nat.blt k n = false := by
      intro n hn
      cases hb : Nat.blt k n
      · rfl
      · have := Nat.blt_eq.mp hb; omega
    have be : ∀ n, n < 430 → Nat.beq k n = false := by
      intro n hn
      cases hb : Nat.beq k n
      · rfl
      · have := Nat.eq_of_beq_eq_true hb; omega
    unfold cls ly lyTop at h
    rw [bl 23 (by decide), bl 345 (by decide), be 390 (by decide), be 400 (by decide), be 402 (by decide), be 401 (by decide), bl 410 (by decide), bl 415 (by decide), bl 420 (by decide), bl 430 (by decide)] at h
    simp at h
theorem sn_get (hx : p.tables.exec = Jvm.exec) (hb : c.code = cc) (ha : At_ s.heap L D cA A nL H locs ls pl μ) (hown : s.vm.findClass own = some m.cls) (hts : ∀ w ∈ lwG, w.before args s = true) (hK : va_K D vwCl (tyL cA) s) (hF : SF L A s s.heap) (hpf : PF own pool) {ix : Nat} (hdg : decode cc pc = .ok (.getfield ix, 3)) (h : gtf pool pc ix pl st μ = some (.inl (pc', pl', st', μ'))) (k : Kt p l e R s m args below meth c s.heap cells slots Q L D cA A nL pc' pl' st' μ') : Wg p l e R s m args below meth c H locs cells slots Q L pc ls st := by
  obtain ⟨hok, hw, -⟩ := hpf ix
  unfold gtf at h
  split at h
  · rename_i kk r
    split at h
    · rename_i ci j z he
      rw [he] at hok hw
      simp only [entOK, Bool.and_eq_true, decide_eq_true_eq] at hok
      split at h
      · rename_i hc
        obtain ⟨rfl, rfl, rfl, rfl⟩ := nx_inv h
        exact get_obj hx hb hown hts hK ha (Nat.blt_eq.mp hok.1) hc hok.2 (hw _ List.mem_cons_self) hdg (k.go ha)
      · cases h
    · rename_i ci j z he
      rw [he] at hok hw
      simp only [entOK, Bool.and_eq_true, decide_eq_true_eq] at hok
      split at h
      · rename_i hc
        obtain ⟨rfl, rfl, rfl, rfl⟩ := nx_inv h
        exact get_obj hx hb hown hts hK ha (Nat.blt_eq.mp hok.1) hc hok.2 (hw _ List.mem_cons_self) hdg (k.go ha)
      · cases h
    · rename_i ci j z he
      rw [he] at hok hw
      simp only [entOK, Bool.and_eq_true, decide_eq_true_eq] at hok
      split at h
      · rename_i hc
        obtain ⟨rfl, rfl, rfl, rfl⟩ := nx_inv h
        exact get_obj hx hb hown hts hK ha (Nat.blt_eq.mp hok.1) hc hok.2 (hw _ List.mem_cons_self) hdg (k.go ha)
      · cases h
    · rename_i ci j o he
      rw [he] at hok hw
      simp only [entOK, Bool.and_eq_true, decide_eq_true_eq] at hok
      split at h
      · rename_i hc
        obtain ⟨rfl, rfl, rfl, rfl⟩ := nx_inv h
        exact get_obj hx hb hown hts hK ha (Nat.blt_eq.mp hok.1) hc hok.2 (hw _ List.mem_cons_self) hdg (k.go ha)
      · cases h
    · rename_i ci j z he
      rw [he] at hok hw
      simp only [entOK, decide_eq_true_eq] at hok
      obtain ⟨rfl, hj⟩ := hok
      split at h
      · rename_i hc
        obtain ⟨rfl, rfl, rfl, rfl⟩ := nx_inv h
        obtain ⟨i, hi, rfl⟩ := cls29 hc
        obtain ⟨f1, f2, f3, f4⟩ := hF.2.1.1 i hi
        rcases hj with rfl | rfl
        · have e1 : 420 + 2 * (410 + i - 410) + 0 = 420 + 2 * i := by omega
          rw [e1] at k
          exact vk_getf hx hb f2 ha.2.2.2 hown (hts _ (hw _ List.mem_cons_self)) (fun _ h9 => h9) hdg (k.go ha)
        · have e1 : 420 + 2 * (410 + i - 410) + 1 = 421 + 2 * i := by omega
          rw [e1] at k
          exact vk_getf hx hb f3 ha.2.2.2 hown (hts _ (hw _ List.mem_cons_self)) (fun _ h9 => h9) hdg (k.go ha)
      · cases h
    · cases h
  · cases h
theorem sn_ldcI2 (hx : p.tables.exec = Jvm.exec) (hb : c.code = cc) (ha : At_ s.heap L D cA A nL H locs ls pl μ) (hown : s.vm.findClass own = some m.cls) (hts : ∀ w ∈ lwG, w.before args s = true) (hpf : PF own pool) {ix : Nat} (hdg : decode cc pc = .ok (.ldc ix, 2)) (h : ldcI pool pc 2 ix pl st μ = some (.inl (pc', pl', st', μ'))) (k : Kt p l e R s m args below meth c s.heap cells slots Q L D cA A nL pc' pl' st' μ') : Wg p l e R s m args below meth c H locs cells slots Q L pc ls st := by
  obtain ⟨hok, hw, -⟩ := hpf ix
  unfold ldcI at h
  split at h
  · rename_i v he
    rw [he] at hw
    obtain ⟨rfl, rfl, rfl, rfl⟩ := nx_inv h
    exact lv_ldc hx hb hown (hts _ (hw _ List.mem_cons_self)) hdg (k.go ha)
  · cases h
theorem sn_ldcI3 (hx : p.tables.exec = Jvm.exec) (hb : c.code = cc) (ha : At_ s.heap L D cA A nL H locs ls pl μ) (hown : s.vm.findClass own = some m.cls) (hts : ∀ w ∈ lwG, w.before args s = true) (hpf : PF own pool) {ix : Nat} (hdg : decode cc pc = .ok (.ldc_w ix, 3)) (h : ldcI pool pc 3 ix pl st μ = some (.inl (pc', pl', st', μ'))) (k : Kt p l e R s m args below meth c s.heap cells slots Q L D cA A nL pc' pl' st' μ') : Wg p l e R s m args below meth c H locs cells slots Q L pc ls st := by
  obtain ⟨hok, hw, -⟩ := hpf ix
  unfold ldcI at h
  split at h
  · rename_i v he
    rw [he] at hw
    obtain ⟨rfl, rfl, rfl, rfl⟩ := nx_inv h
    exact lv_ldcw hx hb hown (hts _ (hw _ List.mem_cons_self)) hdg (k.go ha)
  · cases h
theorem sn_ldc2 (hx : p.tables.exec = Jvm.exec) (hb : c.code = cc) (ha : At_ s.heap L D cA A nL H locs ls pl μ) (hown : s.vm.findClass own = some m.cls) (hts : ∀ w ∈ lwG, w.before args s = true) (hpf : PF own pool) {ix : Nat} (hdg : decode cc pc = .ok (.ldc2_w ix, 3)) (h : ldc2 pool pc ix pl st μ = some (.inl (pc', pl', st', μ'))) (k : Kt p l e R s m args below meth c s.heap cells slots Q L D cA A nL pc' pl' st' μ') : Wg p l e R s m args below meth c H locs cells slots Q L pc ls st := by
  obtain ⟨hok, hw, -⟩ := hpf ix
  unfold ldc2 at h
  split at h
  · rename_i v he
    rw [he] at hw
    obtain ⟨rfl, rfl, rfl, rfl⟩ := nx_inv h
    exact lv_ldc2 hx hb hown (hts _ (hw _ List.mem_cons_self)) hdg (k.go ha)
  · rename_i v he
    rw [he] at hw
    obtain ⟨rfl, rfl, rfl, rfl⟩ := nx_inv h
    exact lv_ldc2d hx hb hown (hts _ (hw _ List.mem_cons_self)) hdg (k.go ha)
  · cases h
theorem sn_gst (hx : p.tables.exec = Jvm.exec) (hb : c.code = cc) (ha : At_ s.heap L D cA A nL H locs ls pl μ) (hown : s.vm.findClass own = some m.cls) (hts : ∀ w ∈ lwG, w.before args s = true) (hF : SF L A s s.heap) (hpf : PF own pool) {ix : Nat} (hdg : decode cc pc = .ok (.getstatic ix, 3)) (h : gst pool pc ix pl st μ = some (.inl (pc', pl', st', μ'))) (k : Kt p l e R s m args below meth c s.heap cells slots Q L D cA A nL pc' pl' st' μ') : Wg p l e R s m args below meth c H locs cells slots Q L pc ls st := by
  obtain ⟨hok, hw, hn⟩ := hpf ix
  unfold gst at h
  split at h
  · rename_i kk a b he
    rw [he] at hok hw
    simp only [entOK, decide_eq_true_eq] at hok
    obtain ⟨rfl, rfl, rfl, rfl⟩ := nx_inv h
    rcases hok with rfl | rfl | rfl
    · exact va_gets hx hb hF.1.1.1 ha.2.2.2 hown (hts _ (hw _ List.mem_cons_self)) (fun _ h9 => h9) hdg (k.go ha)
    · exact va_gets hx hb hF.1.2.1.1 ha.2.2.2 hown (hts _ (hw _ List.mem_cons_self)) (fun _ h9 => h9) hdg (k.go ha)
    · exact va_gets hx hb hF.1.2.2.2 ha.2.2.2 hown (hts _ (hw _ List.mem_cons_self)) (fun _ h9 => h9) hdg (k.go ha)
  · rename_i kk a b he
    rw [he] at hn
    obtain ⟨e1, e2, e3⟩ := hn.1 rfl
    simp only at e3
    subst e1; subst e2; subst e3
    obtain ⟨rfl, rfl, rfl, rfl⟩ := nx_inv h
    exact va_getsN hx hb hF.1.2.2.1.1 ha.2.2.2 hown (va_Nw.use rfl hF.2.2.1.2.2.1) (fun _ h9 => h9) hdg (k.go ha)
  · cases h
theorem sn_ifa (hx : p.tables.exec = Jvm.exec) (hb : c.code = cc) (ha : At_ s.heap L D cA A nL H locs ls pl μ) (hF : SF L A s s.heap) {off : Int} (hdg : decode cc pc = .ok (.if_acmp .ne off, 3)) (h : ifa pc off pl st μ = some (.inl (pc', pl', st', μ'))) (k : Kt p l e R s m args below meth c s.heap cells slots Q L D cA A nL pc' pl' st' μ') : Wg p l e R s m args below meth c H locs cells slots Q L pc ls st := by
  unfold ifa at h
  split at h
  · rename_i y x r
    split at h
    · rename_i hc
      obtain ⟨i, hi, rfl⟩ := cls29 hc.1
      obtain ⟨j, hj, rfl⟩ := cls29 hc.2
      split at h
      · rename_i hne
        obtain ⟨ht, rfl, rfl, rfl⟩ := jp_inv h
        refine lv_acmp_ne (rx := some (L (410 + i))) (ry := some (L (410 + j))) hx hb hdg ht (fun _ => k.go ha) (fun q => ?_)
        exact absurd (congrArg (410 + ·) (hF.2.2.2 i j hi hj (Option.some.inj q))) hne
      · rename_i hne
        have he := Classical.not_not.mp hne
        obtain ⟨rfl, rfl, rfl, rfl⟩ := nx_inv h
        intro T hT X
        obtain ⟨t, a, b⟩ := k.go ha T hT X
        refine ⟨t, ?_, b⟩
        rw [he]
        show Steps p.tables e below (T.setTop (F0 m pc ls (.ref (L (410 + j)) :: .ref (L (410 + j)) :: r.map (lf L)))) t
        jvm_step X.here [X.here.top, hx, hb, hdg, Op.if_acmp.holds]
        exact ⟨_, rfl, _, rfl, by rw [if_pos rfl]; exact a⟩
    · cases h
  · cases h
theorem catS_lf (st : List Value) : ((st.map (lf L)).map fun v => v.category).sum = catS st := by
  unfold catS
  rw [List.map_map]
  congr 1
  apply List.map_congr_left
  intro v _
  cases v <;> rfl
theorem catS_cons (v : Value) (st : List Value) : catS (v :: st) = v.category + catS st := by simp [catS]
theorem nfw_ok : nativeFrameWords "java/lang/System" "arraycopy" 5 + 11 ≤ 60 := by decide +kernel
theorem sn_jdkS (hx : p.tables.exec = Jvm.exec) (hb : c.code = cc) (hml : c.maxLocals = nL) (ha : At_ s.heap L D cA A nL H locs ls pl μ) (hown : s.vm.findClass own = some m.cls) (hts : ∀ w ∈ lwG, w.before args s = true) (hK : va_K D vwCl (tyL cA) s) (hF : SF L A s s.heap) (hpf : PF own pool) (hRf : 8 ≤ R.frames) (hRl : 100 ≤ R.locals) (hcl : cells ≤ R.cells) (hsl : slots ≤ R.slots) {ix id : Nat} {z : Nat × Value} (he : pool ix = (5, id, z)) (hdg : decode cc pc = .ok (.invokestatic ix, 3)) (h : jdk id pc pl st μ = some (.inl (pc', pl', st', μ'))) (hid : id < 5) (k : Kt p l e R s m args below meth c s.heap cells slots Q L D cA A nL pc' pl' st' μ') : Wg p l e R s m args below meth c H locs cells slots Q L pc ls st := by
  obtain ⟨hok, hw, -⟩ := hpf ix
  rw [he] at hw
  obtain ⟨z1, z2⟩ := z
  have hml' : c.maxLocals = ls.size := by rw [hml]; exact ha.1.2.1.symm
  unfold jdk at h
  cases hcat : Nat.ble (catS st) 16
  · rw [hcat] at h; cases h
  · rw [hcat] at h
    simp only [cond_true] at h
    have hcat := Nat.ble_eq.mp hcat
    match id, hid, hw, h with
    | 0, _, hw, h =>
      unfold jdk0 at h
      simp only at h
      split at h
      · rename_i y x r
        obtain ⟨rfl, rfl, rfl, rfl⟩ := nx_inv h
        rw [catS_cons, catS_cons] at hcat
        exact va_mmax hx hb hml' hown (hts _ (hw _ List.mem_cons_self)) (hts _ (hw _ (List.mem_cons_of_mem _ List.mem_cons_self))) (hts _ (hw _ (List.mem_cons_of_mem _ (List.mem_cons_of_mem _ List.mem_cons_self)))) (hts _ (hw _ (List.mem_cons_of_mem _ (List.mem_cons_of_mem _ (List.mem_cons_of_mem _ List.mem_cons_self))))) (by omega) (by rw [catS_lf]; omega) hcl hsl hdg (k.go ha)
      · cases h
    | 1, _, hw, h =>
      unfold jdk0 at h
      simp only at h
      split at h
      · rename_i y x r
        obtain ⟨rfl, rfl, rfl, rfl⟩ := nx_inv h
        rw [catS_cons, catS_cons] at hcat
        exact va_mmin hx hb hml' hown (hts _ (hw _ List.mem_cons_self)) (hts _ (hw _ (List.mem_cons_of_mem _ List.mem_cons_self))) (hts _ (hw _ (List.mem_cons_of_mem _ (List.mem_cons_of_mem _ List.mem_cons_self)))) (hts _ (hw _ (List.mem_cons_of_mem _ (List.mem_cons_of_mem _ (List.mem_cons_of_mem _ List.mem_cons_self))))) (by omega) (by rw [catS_lf]; omega) hcl hsl hdg (k.go ha)
      · cases h
    | 2, _, hw, h =>
      unfold jdk0 at h
      simp only at h
      split at h
      · rename_i x r
        obtain ⟨rfl, rfl, rfl, rfl⟩ := nx_inv h
        rw [catS_cons] at hcat
        exact va_mabs hx hb hml' hown (hts _ (hw _ List.mem_cons_self)) (hts _ (hw _ (List.mem_cons_of_mem _ List.mem_cons_self))) (hts _ (hw _ (List.mem_cons_of_mem _ (List.mem_cons_of_mem _ List.mem_cons_self)))) (hts _ (hw _ (List.mem_cons_of_mem _ (List.mem_cons_of_mem _ (List.mem_cons_of_mem _ List.mem_cons_self))))) (by omega) (by rw [catS_lf]; omega) hcl hsl hdg (k.go ha)
      · cases h
    | 3, _, hw, h =>
      unfold jdk0 at h
      simp only at h
      split at h
      · rename_i n j bb i aa r _ _
        split at h
        · rename_i hc
          obtain ⟨c1, c2, c3, rfl, rfl, c4, c5, c6⟩ := hc
          have h9 : nx (pc + 3) pl r (cpI μ aa 0 bb 0 n.toNatClampNeg) = some (.inl (pc', pl', st', μ')) := by assumption
          obtain ⟨rfl, rfl, rfl, rfl⟩ := nx_inv h9
          rw [catS_cons, catS_cons, catS_cons, catS_cons, catS_cons] at hcat
          have h1 := cls_lt (k := aa) (Or.inl (by rw [c1]; decide))
          have h2 := cls_lt (k := bb) (Or.inl (by rw [c2]; decide))
          have hnf := nfw_ok
          refine va_copyi (f := mI μ aa) (g := mI μ bb) hx hb hml' hown (hts _ (hw _ List.mem_cons_self)) (hts _ (hw _ (List.mem_cons_of_mem _ List.mem_cons_self))) (hts _ (hw _ (List.mem_cons_of_mem _ (List.mem_cons_of_mem _ List.mem_cons_self)))) (hts _ (hw _ (List.mem_cons_of_mem _ (List.mem_cons_of_mem _ (List.mem_cons_of_mem _ List.mem_cons_self))))) hK ha.2.1 ha.2.2.1 ha.2.2.2 aa bb 0 0 ((WS_get h1).trans (congrArg _ (congrArg _ (entW_ints c1)))) ((WS_get h2).trans (congrArg _ (congrArg _ (entW_ints c2)))) rfl rfl rfl (by decide) (by decide) c4 (by show 0 + _ ≤ _; omega) (by show 0 + _ ≤ _; omega) (fun _ _ => rfl) (by omega) (by rw [catS_lf]; omega) hdg (fun H1 locs1 hP hD hS => ?_)
          have eI : mI (cpI μ aa 0 bb 0 n.toNatClampNeg) bb = va_cpy (mI μ aa) (mI μ bb) 0 0 n.toNatClampNeg := by
            funext q
            have e1 : Nat.beq bb bb = true := Nat.beq_refl bb
            simp only [mI, cpI, va_cpy, e1, Bool.true_and]
            by_cases hq : q < n.toNatClampNeg
            · have e2 : Nat.ble 0 q = true := Nat.ble_eq.mpr (Nat.zero_le q)
              have e3 : Nat.blt q (0 + n.toNatClampNeg) = true := Nat.blt_eq.mpr (by omega)
              rw [e2, e3]
              simp [hq]
            · have e3 : Nat.blt q (0 + n.toNatClampNeg) = false := by
                cases hb : Nat.blt q (0 + n.toNatClampNeg)
                · rfl
                · have := Nat.blt_eq.mp hb; omega
              rw [e3]
              simp [hq]
          have eO : ∀ i, i ≠ bb → mI (cpI μ aa 0 bb 0 n.toNatClampNeg) i = mI μ i := by
            intro i hi
            funext q
            have e1 : Nat.beq i bb = false := by
              cases hb : Nat.beq i bb
              · rfl
              · exact absurd (Nat.eq_of_beq_eq_true hb) hi
            simp only [mI, cpI, e1, Bool.false_and, cond_false]
          have e9 : (WS L cA μ).set bb (L bb, .inl (cA 20, len bb, .inl (va_cpy (mI μ aa) (mI μ bb) 0 0 n.toNatClampNeg))) = WS L cA (cpI μ aa 0 bb 0 n.toNatClampNeg) :=
            WS_set (by rw [entW_ints c2, eI]) (fun i hi => entW_congr (eO i hi) rfl)
          change va_P D vwCl ((WS L cA μ).set bb (L bb, .inl (cA 20, len bb, .inl (va_cpy (mI μ aa) (mI μ bb) 0 0 n.toNatClampNeg)))) H1 at hP
          change va_D A ((WS L cA μ).set bb (L bb, .inl (cA 20, len bb, .inl (va_cpy (mI μ aa) (mI μ bb) 0 0 n.toNatClampNeg)))) at hD
          rw [e9] at hP hD
          exact k _ _ _ ha.1 hP hD hS
        · cases h
      · cases h
    | 4, _, hw, h => sorry
theorem sn_jdkV (hx : p.tables.exec = Jvm.exec) (hb : c.code = cc) (hml : c.maxLocals = nL) (ha : At_ s.heap L D cA A nL H locs ls pl μ) (hown : s.vm.findClass own = some m.cls) (hts : ∀ w ∈ lwG, w.before args s = true) (hK : va_K D vwCl (tyL cA) s) (hF : SF L A s s.heap) (hpf : PF own pool) (hRf : 8 ≤ R.frames) (hRl : 100 ≤ R.locals) (hcl : cells ≤ R.cells) (hsl : slots ≤ R.slots) {ix id : Nat} {z : Nat × Value} (he : pool ix = (13, id, z)) (hdg : decode cc pc = .ok (.invokevirtual ix, 3)) (h : jdk id pc pl st μ = some (.inl (pc', pl', st', μ'))) (hid : 5 ≤ id) (k : Kt p l e R s m args below meth c s.heap cells slots Q L D cA A nL pc' pl' st' μ') : Wg p l e R s m args below meth c H locs cells slots Q L pc ls st := by
  sorry
end SIM3
end
section
/-! WHAT A RUN NEVER CHANGES -/
section PURE
variable {pc pc' i l : Nat} {ls ls' st st' : List Value} {μ μ' : PM} {M : MI}
/-- the script stays, exceptions are only made -/
def Sc (μ μ' : PM) : Prop := μ'.2.2.1 = μ.2.2.1 ∧ mI μ' 390 = mI μ 390
theorem Sc.rf : Sc μ μ := ⟨rfl, rfl⟩
theorem Sc.tr {a b c : PM} (h : Sc a b) (h' : Sc b c) : Sc a c := ⟨h'.1.trans h.1, h'.2.trans h.2⟩
theorem ne390 {k c : Nat} (h : cls k = c) (hc : c ≠ 25) : (390 : Nat) ≠ k := by
  intro q
  subst q
  exact hc (h.symm.trans rfl)
def Kp (μ μ' : PM) : Prop := Sc μ μ' ∧ μ'.2.2.2 = μ.2.2.2
theorem nx_sc (h : nx pc ls st μ = some (.inl (pc', ls', st', μ'))) : Kp μ μ' := by
  obtain ⟨-, -, -, rfl⟩ := nx_inv h
  exact ⟨Sc.rf, rfl⟩
theorem jp_sc {off : Int} (h : jp pc off ls st μ = some (.inl (pc', ls', st', μ'))) : Kp μ μ' := by
  obtain ⟨-, -, -, rfl⟩ := jp_inv h
  exact ⟨Sc.rf, rfl⟩
theorem nxI_sc {k j c : Nat} {v : Int32} (hk : cls k = c) (hc : c ≠ 25) (h : nx pc ls st (stI μ k j v) = some (.inl (pc', ls', st', μ'))) : Kp μ μ' := by
  obtain ⟨-, -, -, rfl⟩ := nx_inv h
  exact ⟨⟨rfl, stI_ne μ j v (ne390 hk hc)⟩, rfl⟩
theorem nxJ_sc {k j : Nat} {v : Int64} (h : nx pc ls st (stJ μ k j v) = some (.inl (pc', ls', st', μ'))) : Kp μ μ' := by
  obtain ⟨-, -, -, rfl⟩ := nx_inv h
  exact ⟨⟨rfl, rfl⟩, rfl⟩
theorem st1_sc {v : Value} (h : st1 pc l i v ls st μ = some (.inl (pc', ls', st', μ'))) : Kp μ μ' := by
  unfold st1 at h
  cases hq : Nat.blt i ls.length && okS ls i <;> rw [hq] at h
  · cases h
  · exact nx_sc h
theorem st2_sc {v : Value} (h : st2 pc l i v ls st μ = some (.inl (pc', ls', st', μ'))) : Kp μ μ' := by
  unfold st2 at h
  cases hq : Nat.blt (i + 1) ls.length && okS ls i <;> rw [hq] at h
  · cases h
  · exact nx_sc h
theorem asI_sc (h : asI pc ls st μ = some (.inl (pc', ls', st', μ'))) : Kp μ μ' := by
  unfold asI at h
  split at h
  · split at h
    · rename_i hc
      exact nxI_sc hc.1 (by decide) h
    · cases h
  · cases h
theorem asJ_sc (h : asJ pc ls st μ = some (.inl (pc', ls', st', μ'))) : Kp μ μ' := by
  unfold asJ at h
  split at h
  · split at h
    · exact nxJ_sc h
    · cases h
  · cases h
theorem ptf_sc {pl : Nat → Ent} {ix : Nat} (h : ptf pl pc ix ls st μ = some (.inl (pc', ls', st', μ'))) : Kp μ μ' := by
  unfold ptf at h
  split at h
  · split at h
    · rename_i ci j z he
      cases hq : Nat.blt ci 10 <;> rw [hq] at h
      · cases h
      · simp only [cond_true] at h
        have hq := Nat.blt_eq.mp hq
        split at h
        · rename_i hc
          exact nxI_sc hc (by omega) h
        · cases h
    · rename_i ci j z he
      cases hq : Nat.blt ci 10 <;> rw [hq] at h
      · cases h
      · simp only [cond_true] at h
        have hq := Nat.blt_eq.mp hq
        split at h
        · rename_i hc
          exact nxI_sc hc.1 (by omega) h
        · cases h
    · cases h
  · split at h
    · split at h
      · exact nxJ_sc h
      · cases h
    · cases h
  · cases h
theorem jdk_sc {id : Nat} (h : jdk id pc ls st μ = some (.inl (pc', ls', st', μ'))) : Kp μ μ' := by
  unfold jdk at h
  cases hq : Nat.ble (catS st) 16 <;> rw [hq] at h
  · cases h
  · simp only [cond_true] at h
    unfold jdk0 at h
    split at h
    · split at h
      · exact nx_sc h
      · cases h
    · split at h
      · exact nx_sc h
      · cases h
    · split at h
      · exact nx_sc h
      · cases h
    · split at h
      · rename_i n j b i a r
        split at h
        · rename_i hc
          have h9 : nx (pc + 3) ls r (cpI μ a 0 b 0 n.toNatClampNeg) = some (.inl (pc', ls', st', μ')) := h
          obtain ⟨-, -, -, rfl⟩ := nx_inv h9
          refine ⟨⟨rfl, ?_⟩, rfl⟩
          funext q
          have e1 : Nat.beq 390 b = false := by
            cases hb : Nat.beq 390 b
            · rfl
            · exact absurd (Nat.eq_of_beq_eq_true hb) (ne390 hc.2.1 (by decide))
          simp only [mI, cpI, e1, Bool.false_and, cond_false]
        · cases h
      · cases h
    · split at h
      · split at h
        · exact nx_sc h
        · cases h
      · cases h
    · split at h
      · split at h
        · exact nx_sc h
        · cases h
      · cases h
    · split at h
      · split at h
        · exact nx_sc h
        · cases h
      · cases h
    · split at h
      · split at h
        · exact nx_sc h
        · cases h
      · cases h
    · cases h
theorem ivV_sc {pl : Nat → Ent} {ix : Nat} (h : ivV pl pc ix ls st μ = some (.inl (pc', ls', st', μ'))) : Kp μ μ' := by
  unfold ivV at h
  split at h
  · split at h
    · rename_i n na ci _ _ k _
      cases hq : Nat.ble (catS (st.drop na)) 8 <;> rw [hq] at h
      · cases h
      · simp only [cond_true] at h
        split at h <;> cases h
    · cases h
  · rename_i id _ _ _
    cases hq : Nat.ble 5 id <;> rw [hq] at h
    · cases h
    · exact jdk_sc h
  · cases h
theorem ivS_sc {pl : Nat → Ent} {ix : Nat} (h : ivS pl pc ix ls st μ = some (.inl (pc', ls', st', μ'))) : Kp μ μ' := by
  unfold ivS at h
  split at h
  · rename_i n na _ _
    cases hq : Nat.ble na st.length && Nat.ble (catS (st.drop na)) 8 <;> rw [hq] at h <;> cases h
  · rename_i n na _ _
    cases hq : Nat.ble na st.length && Nat.ble (catS (st.drop na)) 8 <;> rw [hq] at h <;> cases h
  · rename_i id _ _ _
    cases hq : Nat.blt id 5 <;> rw [hq] at h
    · cases h
    · exact jdk_sc h
  · cases h
theorem thr_sc {cs : Chunks} {pl : Nat → Ent} {ix : Nat} (h : thr cs pl pc ix st μ = some (.inl (pc', ls', st', μ'))) : False := by
  unfold thr at h
  repeat' (split at h)
  all_goals (first | cases h | (cases hq : st.isEmpty <;> rw [hq] at h <;> cases h))
theorem pex_sc {ins : Instr} (h : pex M ins l pc ls st μ = some (.inl (pc', ls', st', μ'))) : Kp μ μ' := by
  unfold pex at h
  split at h
  all_goals first
    | cases h; done
    | exact nx_sc h
    | exact jp_sc h
    | exact asI_sc h
    | exact asJ_sc h
    | exact ptf_sc h
    | exact ivV_sc h
    | exact ivS_sc h
    | exact (thr_sc h).elim
    | (simp only [alA, ldA, art, arl, stoA, bD, ldD, drt, stoD, dp, dp2, gtf, gst, un32, b32, alI, b32n, ifa, if1, if2, ifn, incI, ldI, irt, stoI, un64, b64, alJ, ldcI, ldc2, ldJ, lsw, b64n, jrt, stoJ, pp, vrt, tsw, dn, Bool.cond_eq_ite] at h
       repeat' (split at h)
       all_goals first
         | cases h; done
         | exact nx_sc h
         | exact jp_sc h
         | exact st1_sc h
         | exact st2_sc h)
    | (split at h <;> first
         | cases h; done
         | exact nx_sc h)
theorem pstep_sc {s s' : PS} (h : pstep M s = some (.inl s')) : Kp s.2.2.2 s'.2.2.2 := by
  obtain ⟨pc, ls, st, μ⟩ := s
  obtain ⟨pc', ls', st', μ'⟩ := s'
  unfold pstep at h
  simp only at h
  split at h
  · cases h
  · exact pex_sc h
theorem nx_no {x : PCl ⊕ PO} (h : nx pc ls st μ = some (.inr x)) : False := by unfold nx at h; cases h
theorem jp_no {off : Int} {x : PCl ⊕ PO} (h : jp pc off ls st μ = some (.inr x)) : False := by
  unfold jp at h
  split at h
  · exact nx_no h
  · cases h
theorem st1_no {v : Value} {x : PCl ⊕ PO} (h : st1 pc l i v ls st μ = some (.inr x)) : False := by
  unfold st1 at h
  cases hq : Nat.blt i ls.length && okS ls i <;> rw [hq] at h
  · cases h
  · exact nx_no h
theorem st2_no {v : Value} {x : PCl ⊕ PO} (h : st2 pc l i v ls st μ = some (.inr x)) : False := by
  unfold st2 at h
  cases hq : Nat.blt (i + 1) ls.length && okS ls i <;> rw [hq] at h
  · cases h
  · exact nx_no h
theorem jdk_no {id : Nat} {x : PCl ⊕ PO} (h : jdk id pc ls st μ = some (.inr x)) : False := by
  unfold jdk at h
  cases hq : Nat.ble (catS st) 16 <;> rw [hq] at h
  · cases h
  · simp only [cond_true] at h
    unfold jdk0 at h
    repeat' (split at h)
    all_goals first
      | cases h; done
      | exact nx_no h
/-- which instructions call, return, throw -/
theorem pex_inr {ins : Instr} {x : PCl ⊕ PO} (h : pex M ins l pc ls st μ = some (.inr x)) : (∃ ix, ins = .invokevirtual ix ∧ ivV M.2.1 pc ix ls st μ = some (.inr x)) ∨ (∃ ix, ins = .invokestatic ix ∧ ivS M.2.1 pc ix ls st μ = some (.inr x)) ∨ (∃ ix, ins = .new ix ∧ thr M.1 M.2.1 pc ix st μ = some (.inr x)) ∨
    (ins = .areturn ∧ art M.2.2.1 st μ = some (.inr x)) ∨ (ins = .dreturn ∧ drt M.2.2.1 st μ = some (.inr x)) ∨ (ins = .ireturn ∧ irt M.2.2.1 st μ = some (.inr x)) ∨ (ins = .lreturn ∧ jrt M.2.2.1 st μ = some (.inr x)) ∨ (ins = .return_ ∧ vrt M.2.2.1 st μ = some (.inr x)) := by
  unfold pex at h
  split at h
  all_goals first
    | exact Or.inl ⟨_, rfl, h⟩
    | exact Or.inr (Or.inl ⟨_, rfl, h⟩)
    | exact Or.inr (Or.inr (Or.inl ⟨_, rfl, h⟩))
    | exact Or.inr (Or.inr (Or.inr (Or.inl ⟨rfl, h⟩)))
    | exact Or.inr (Or.inr (Or.inr (Or.inr (Or.inl ⟨rfl, h⟩))))
    | exact Or.inr (Or.inr (Or.inr (Or.inr (Or.inr (Or.inl ⟨rfl, h⟩)))))
    | exact Or.inr (Or.inr (Or.inr (Or.inr (Or.inr (Or.inr (Or.inl ⟨rfl, h⟩))))))
    | exact Or.inr (Or.inr (Or.inr (Or.inr (Or.inr (Or.inr (Or.inr ⟨rfl, h⟩))))))
    | cases h; done
    | exact (nx_no h).elim
    | exact (jp_no h).elim
    | (simp only [alA, ldA, arl, stoA, bD, ldD, stoD, dp, dp2, gtf, gst, un32, b32, alI, b32n, ifa, if1, if2, ifn, incI, ldI, stoI, un64, b64, alJ, ldcI, ldc2, ldJ, lsw, b64n, stoJ, pp, tsw, asI, asJ, ptf, Bool.cond_eq_ite] at h
       repeat' (split at h)
       all_goals first
         | cases h; done
         | exact (nx_no h).elim
         | exact (jp_no h).elim
         | exact (st1_no h).elim
         | exact (st2_no h).elim)
    | (split at h <;> first
         | cases h; done
         | exact (nx_no h).elim)
end PURE
end
