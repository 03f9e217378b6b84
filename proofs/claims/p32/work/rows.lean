section
-- ===== PART A: goes FIRST, ahead of the names: the tables' words, and 'selects' of the private methods out of them =====
/-- a private method of a class that the tables say can be made, by its rows of tables_1 -/
def lw_okq (q : MethodName × Nat) : Prop := (q.1.cls ≠ "java/lang/invoke/MethodHandle" ∧ q.1.cls ≠ "java/lang/invoke/VarHandle") ∧ Cond.instantiable q.1.cls q.2 ∈ tables_1 ∧ Cond.privateMethod q.1 ∈ tables_1 ∧ Cond.instanceMethod q.1 ∈ tables_1
theorem lw_p0 : lw_okq (⟨"java/lang/Throwable", "fillInStackTrace", "(I)Ljava/lang/Throwable;"⟩, 6) := ⟨⟨by decide +kernel, by decide +kernel⟩, List.mem_of_getElem? (i := 364) (by decide +kernel), List.mem_of_getElem? (i := 362) (by decide +kernel), List.mem_of_getElem? (i := 363) (by decide +kernel)⟩
theorem lw_p1 : lw_okq (⟨"OrganCorners$Town", "reasonAgainstAll", "(I)I"⟩, 15) := ⟨⟨by decide +kernel, by decide +kernel⟩, List.mem_of_getElem? (i := 34) (by decide +kernel), List.mem_of_getElem? (i := 539) (by decide +kernel), List.mem_of_getElem? (i := 540) (by decide +kernel)⟩
theorem lw_p2 : lw_okq (⟨"OrganCorners$Outlook", "hinderedPairs", "(LOrganCorners$Town;II)I"⟩, 4) := ⟨⟨by decide +kernel, by decide +kernel⟩, List.mem_of_getElem? (i := 282) (by decide +kernel), List.mem_of_getElem? (i := 573) (by decide +kernel), List.mem_of_getElem? (i := 574) (by decide +kernel)⟩
theorem lw_p3 : lw_okq (⟨"OrganCorners$Payout", "sharePot", "(LOrganCorners$Town;I)V"⟩, 3) := ⟨⟨by decide +kernel, by decide +kernel⟩, List.mem_of_getElem? (i := 262) (by decide +kernel), List.mem_of_getElem? (i := 632) (by decide +kernel), List.mem_of_getElem? (i := 633) (by decide +kernel)⟩
theorem lw_p4 : lw_okq (⟨"OrganCorners$Payout", "giveUnits", "(II)V"⟩, 3) := ⟨⟨by decide +kernel, by decide +kernel⟩, List.mem_of_getElem? (i := 262) (by decide +kernel), List.mem_of_getElem? (i := 636) (by decide +kernel), List.mem_of_getElem? (i := 637) (by decide +kernel)⟩
theorem lw_p5 : lw_okq (⟨"OrganCorners$Payout", "giveAllowances", "(LOrganCorners$Town;)V"⟩, 3) := ⟨⟨by decide +kernel, by decide +kernel⟩, List.mem_of_getElem? (i := 262) (by decide +kernel), List.mem_of_getElem? (i := 640) (by decide +kernel), List.mem_of_getElem? (i := 641) (by decide +kernel)⟩
theorem lw_p6 : lw_okq (⟨"OrganCorners$Town", "takeCornersBack", "()V"⟩, 15) := ⟨⟨by decide +kernel, by decide +kernel⟩, List.mem_of_getElem? (i := 34) (by decide +kernel), List.mem_of_getElem? (i := 742) (by decide +kernel), List.mem_of_getElem? (i := 743) (by decide +kernel)⟩
theorem lw_p7 : lw_okq (⟨"OrganCorners$Town", "draw", "(I)I"⟩, 15) := ⟨⟨by decide +kernel, by decide +kernel⟩, List.mem_of_getElem? (i := 34) (by decide +kernel), List.mem_of_getElem? (i := 746) (by decide +kernel), List.mem_of_getElem? (i := 747) (by decide +kernel)⟩
theorem lw_p8 : lw_okq (⟨"OrganCorners$Town", "freeCorner", "(I)I"⟩, 15) := ⟨⟨by decide +kernel, by decide +kernel⟩, List.mem_of_getElem? (i := 34) (by decide +kernel), List.mem_of_getElem? (i := 754) (by decide +kernel), List.mem_of_getElem? (i := 755) (by decide +kernel)⟩
theorem lw_p9 : lw_okq (⟨"OrganCorners$Town", "divideTakings", "(LOrganCorners$Organ;I)V"⟩, 15) := ⟨⟨by decide +kernel, by decide +kernel⟩, List.mem_of_getElem? (i := 34) (by decide +kernel), List.mem_of_getElem? (i := 787) (by decide +kernel), List.mem_of_getElem? (i := 788) (by decide +kernel)⟩
theorem lw_p10 : lw_okq (⟨"OrganCorners$Town", "addHourOfCrew", "(I)V"⟩, 15) := ⟨⟨by decide +kernel, by decide +kernel⟩, List.mem_of_getElem? (i := 34) (by decide +kernel), List.mem_of_getElem? (i := 791) (by decide +kernel), List.mem_of_getElem? (i := 792) (by decide +kernel)⟩
theorem lw_p11 : lw_okq (⟨"OrganCorners$Town", "payOut", "(LOrganCorners$Payout;)V"⟩, 15) := ⟨⟨by decide +kernel, by decide +kernel⟩, List.mem_of_getElem? (i := 34) (by decide +kernel), List.mem_of_getElem? (i := 814) (by decide +kernel), List.mem_of_getElem? (i := 815) (by decide +kernel)⟩
theorem lw_p12 : lw_okq (⟨"OrganCorners$Town", "beginDay", "()V"⟩, 15) := ⟨⟨by decide +kernel, by decide +kernel⟩, List.mem_of_getElem? (i := 34) (by decide +kernel), List.mem_of_getElem? (i := 818) (by decide +kernel), List.mem_of_getElem? (i := 819) (by decide +kernel)⟩
theorem lw_p13 : lw_okq (⟨"OrganCorners", "obey", "(LOrganCorners$OrderKind;I)Z"⟩, 5) := ⟨⟨by decide +kernel, by decide +kernel⟩, List.mem_of_getElem? (i := 26) (by decide +kernel), List.mem_of_getElem? (i := 920) (by decide +kernel), List.mem_of_getElem? (i := 921) (by decide +kernel)⟩
theorem lw_p14 : lw_okq (⟨"OrganCorners", "obeyPlay", "(II)Z"⟩, 5) := ⟨⟨by decide +kernel, by decide +kernel⟩, List.mem_of_getElem? (i := 26) (by decide +kernel), List.mem_of_getElem? (i := 942) (by decide +kernel), List.mem_of_getElem? (i := 943) (by decide +kernel)⟩
def lw_privs_1 : List (MethodName × Nat) := [(⟨"java/lang/Throwable", "fillInStackTrace", "(I)Ljava/lang/Throwable;"⟩, 6), (⟨"OrganCorners$Town", "reasonAgainstAll", "(I)I"⟩, 15), (⟨"OrganCorners$Outlook", "hinderedPairs", "(LOrganCorners$Town;II)I"⟩, 4), (⟨"OrganCorners$Payout", "sharePot", "(LOrganCorners$Town;I)V"⟩, 3), (⟨"OrganCorners$Payout", "giveUnits", "(II)V"⟩, 3), (⟨"OrganCorners$Payout", "giveAllowances", "(LOrganCorners$Town;)V"⟩, 3), (⟨"OrganCorners$Town", "takeCornersBack", "()V"⟩, 15), (⟨"OrganCorners$Town", "draw", "(I)I"⟩, 15), (⟨"OrganCorners$Town", "freeCorner", "(I)I"⟩, 15), (⟨"OrganCorners$Town", "divideTakings", "(LOrganCorners$Organ;I)V"⟩, 15), (⟨"OrganCorners$Town", "addHourOfCrew", "(I)V"⟩, 15), (⟨"OrganCorners$Town", "payOut", "(LOrganCorners$Payout;)V"⟩, 15), (⟨"OrganCorners$Town", "beginDay", "()V"⟩, 15), (⟨"OrganCorners", "obey", "(LOrganCorners$OrderKind;I)Z"⟩, 5), (⟨"OrganCorners", "obeyPlay", "(II)Z"⟩, 5)]
theorem lw_r1 : ∀ q ∈ lw_privs_1, lw_okq q := List.forall_mem_cons.mpr ⟨lw_p0, List.forall_mem_cons.mpr ⟨lw_p1, List.forall_mem_cons.mpr ⟨lw_p2, List.forall_mem_cons.mpr ⟨lw_p3, List.forall_mem_cons.mpr ⟨lw_p4, List.forall_mem_cons.mpr ⟨lw_p5, List.forall_mem_cons.mpr ⟨lw_p6, List.forall_mem_cons.mpr ⟨lw_p7, List.forall_mem_cons.mpr ⟨lw_p8, List.forall_mem_cons.mpr ⟨lw_p9, List.forall_mem_cons.mpr ⟨lw_p10, List.forall_mem_cons.mpr ⟨lw_p11, List.forall_mem_cons.mpr ⟨lw_p12, List.forall_mem_cons.mpr ⟨lw_p13, List.forall_mem_cons.mpr ⟨lw_p14, fun _ h => absurd h List.not_mem_nil⟩⟩⟩⟩⟩⟩⟩⟩⟩⟩⟩⟩⟩⟩⟩
def lw_privs : List (MethodName × Nat) := lw_privs_1
def lw_tbl : List Cond := k2_sels lw_privs ++ tables_1
theorem lw_privs_ok : ∀ q ∈ lw_privs, lw_okq q := lw_r1
/-- the streams that the claim lets the run draw from -/
abbrev lw_cs : List Choice := [Jvm.Choice.named "NaN.bits"]
theorem lw_bits : nanBits ∈ lw_cs := by first | decide | exact List.mem_cons_self | simp [lw_cs, nanBits]
end
section
section NM
def RX0 : String := "OrganCorners$1"
def TX0 : u_T := fun k => match k with
  | _ => ("", "", "", false)
def tyX0 : Nat → FieldType := fun k => match k with
  | _ => .int
abbrev wsX00 : List Cond := u_ws RX0 TX0 0
theorem nmX0 : ∀ a, a < 0 → ∀ b, b < 0 → a ≠ b → (TX0 a).2.1 ≠ (TX0 b).2.1 := by decide +kernel
theorem tyX0_ok : ∀ k, k < 0 → parseFieldDescriptor (TX0 k).2.2.1 = some (tyX0 k) := by decide +kernel
def RX1 : String := "OrganCorners$Corner"
def TX1 : u_T := fun k => match k with
  | 0 => ("OrganCorners$Corner", "place", "I", false)
  | 1 => ("OrganCorners$Corner", "crowd", "I", false)
  | 2 => ("OrganCorners$Corner", "firstQuiet", "I", false)
  | 3 => ("OrganCorners$Corner", "quietHours", "I", false)
  | _ => ("OrganCorners$Corner", "tunesByHour", "[I", true)
def tyX1 : Nat → FieldType := fun k => match k with
  | 0 => .int
  | 1 => .int
  | 2 => .int
  | 3 => .int
  | _ => .array .int
abbrev wsX10 : List Cond := u_ws RX1 TX1 5
theorem nmX1 : ∀ a, a < 5 → ∀ b, b < 5 → a ≠ b → (TX1 a).2.1 ≠ (TX1 b).2.1 := by decide +kernel
theorem tyX1_ok : ∀ k, k < 5 → parseFieldDescriptor (TX1 k).2.2.1 = some (tyX1 k) := by decide +kernel
abbrev cX1_init : ByteArray := prog_3_method_1_code
def yX1_init : MethodName := ⟨RX1, "<init>", "()V"⟩
abbrev cX1_copyFrom : ByteArray := prog_3_method_2_code
def yX1_copyFrom : MethodName := ⟨RX1, "copyFrom", "(LOrganCorners$Corner;)V"⟩
abbrev cX1_isQuietAt : ByteArray := prog_3_method_3_code
def yX1_isQuietAt : MethodName := ⟨RX1, "isQuietAt", "(I)Z"⟩
abbrev cX1_distanceTo : ByteArray := prog_3_method_4_code
def yX1_distanceTo : MethodName := ⟨RX1, "distanceTo", "(LOrganCorners$Corner;)I"⟩
abbrev cX1_tunesPlayed : ByteArray := prog_3_method_5_code
def yX1_tunesPlayed : MethodName := ⟨RX1, "tunesPlayed", "(II)I"⟩
abbrev cX1_noteTune : ByteArray := prog_3_method_6_code
def yX1_noteTune : MethodName := ⟨RX1, "noteTune", "(II)V"⟩
abbrev cX1_forgetDay : ByteArray := prog_3_method_7_code
def yX1_forgetDay : MethodName := ⟨RX1, "forgetDay", "()V"⟩
def RX2 : String := "OrganCorners$OrderKind"
def TX2 : u_T := fun k => match k with
  | _ => ("", "", "", false)
def tyX2 : Nat → FieldType := fun k => match k with
  | _ => .int
abbrev wsX20 : List Cond := u_ws RX2 TX2 0
theorem nmX2 : ∀ a, a < 0 → ∀ b, b < 0 → a ≠ b → (TX2 a).2.1 ≠ (TX2 b).2.1 := by decide +kernel
theorem tyX2_ok : ∀ k, k < 0 → parseFieldDescriptor (TX2 k).2.2.1 = some (tyX2 k) := by decide +kernel
abbrev cX2_signCount : ByteArray := prog_4_method_4_code
def yX2_signCount : MethodName := ⟨RX2, "signCount", "()I"⟩
abbrev cX2_fits : ByteArray := prog_4_method_5_code
def yX2_fits : MethodName := ⟨RX2, "fits", "(II)Z"⟩
def RX3 : String := "OrganCorners$OrderText"
def TX3 : u_T := fun k => match k with
  | 0 => ("OrganCorners$OrderText", "signs", "[I", true)
  | _ => ("OrganCorners$OrderText", "length", "I", false)
def tyX3 : Nat → FieldType := fun k => match k with
  | 0 => .array .int
  | _ => .int
abbrev wsX30 : List Cond := u_ws RX3 TX3 2
theorem nmX3 : ∀ a, a < 2 → ∀ b, b < 2 → a ≠ b → (TX3 a).2.1 ≠ (TX3 b).2.1 := by decide +kernel
theorem tyX3_ok : ∀ k, k < 2 → parseFieldDescriptor (TX3 k).2.2.1 = some (tyX3 k) := by decide +kernel
abbrev cX3_init : ByteArray := prog_5_method_1_code
def yX3_init : MethodName := ⟨RX3, "<init>", "()V"⟩
abbrev cX3_kindAt : ByteArray := prog_5_method_2_code
def yX3_kindAt : MethodName := ⟨RX3, "kindAt", "(I)LOrganCorners$OrderKind;"⟩
abbrev cX3_errorIndex : ByteArray := prog_5_method_3_code
def yX3_errorIndex : MethodName := ⟨RX3, "errorIndex", "()I"⟩
abbrev cX3_isWholeRow : ByteArray := prog_5_method_4_code
def yX3_isWholeRow : MethodName := ⟨RX3, "isWholeRow", "()Z"⟩
abbrev cX3_organAt : ByteArray := prog_5_method_5_code
def yX3_organAt : MethodName := ⟨RX3, "organAt", "(I)I"⟩
abbrev cX3_tuneAt : ByteArray := prog_5_method_6_code
def yX3_tuneAt : MethodName := ⟨RX3, "tuneAt", "(I)I"⟩
def RX4 : String := "OrganCorners$Organ"
def TX4 : u_T := fun k => match k with
  | 0 => ("OrganCorners$Organ", "ownerPercent", "I", false)
  | 1 => ("OrganCorners$Organ", "hasPermit", "Z", false)
  | 2 => ("OrganCorners$Organ", "tunes", "I", false)
  | 3 => ("OrganCorners$Organ", "corner", "I", false)
  | 4 => ("OrganCorners$Organ", "pot", "I", false)
  | 5 => ("OrganCorners$Organ", "cameToOwner", "I", false)
  | 6 => ("OrganCorners$Organ", "takings", "I", false)
  | _ => ("OrganCorners$Organ", "tuneOfHour", "I", false)
def tyX4 : Nat → FieldType := fun k => match k with
  | 0 => .int
  | 1 => .boolean
  | 2 => .int
  | 3 => .int
  | 4 => .int
  | 5 => .int
  | 6 => .int
  | _ => .int
abbrev wsX40 : List Cond := u_ws RX4 TX4 8
theorem nmX4 : ∀ a, a < 8 → ∀ b, b < 8 → a ≠ b → (TX4 a).2.1 ≠ (TX4 b).2.1 := by decide +kernel
theorem tyX4_ok : ∀ k, k < 8 → parseFieldDescriptor (TX4 k).2.2.1 = some (tyX4 k) := by decide +kernel
abbrev cX4_init : ByteArray := prog_6_method_1_code
def yX4_init : MethodName := ⟨RX4, "<init>", "()V"⟩
abbrev cX4_copyFrom : ByteArray := prog_6_method_2_code
def yX4_copyFrom : MethodName := ⟨RX4, "copyFrom", "(LOrganCorners$Organ;)V"⟩
def RX5 : String := "OrganCorners$Outlook"
def TX5 : u_T := fun k => match k with
  | 0 => ("OrganCorners$Outlook", "playable", "[I", true)
  | 1 => ("OrganCorners$Outlook", "chosen", "[I", true)
  | 2 => ("OrganCorners$Outlook", "mostTakings", "I", false)
  | _ => ("OrganCorners$Outlook", "mostOrgans", "I", false)
def tyX5 : Nat → FieldType := fun k => match k with
  | 0 => .array .int
  | 1 => .array .int
  | 2 => .int
  | _ => .int
abbrev wsX50 : List Cond := u_ws RX5 TX5 4
theorem nmX5 : ∀ a, a < 4 → ∀ b, b < 4 → a ≠ b → (TX5 a).2.1 ≠ (TX5 b).2.1 := by decide +kernel
theorem tyX5_ok : ∀ k, k < 4 → parseFieldDescriptor (TX5 k).2.2.1 = some (tyX5 k) := by decide +kernel
abbrev cX5_init : ByteArray := prog_7_method_1_code
def yX5_init : MethodName := ⟨RX5, "<init>", "()V"⟩
abbrev cX5_lookAt : ByteArray := prog_7_method_2_code
def yX5_lookAt : MethodName := ⟨RX5, "lookAt", "(LOrganCorners$Town;)V"⟩
abbrev cX5_leastHindering : ByteArray := prog_7_method_3_code
def yX5_leastHindering : MethodName := ⟨RX5, "leastHindering", "(LOrganCorners$Town;I)I"⟩
abbrev cX5_hinderedPairs : ByteArray := prog_7_method_4_code
def yX5_hinderedPairs : MethodName := ⟨RX5, "hinderedPairs", "(LOrganCorners$Town;II)I"⟩
abbrev cX5_findMost : ByteArray := prog_7_method_5_code
def yX5_findMost : MethodName := ⟨RX5, "findMost", "(LOrganCorners$Town;)V"⟩
abbrev cX5_takingsOf : ByteArray := prog_7_method_6_code
def yX5_takingsOf : MethodName := ⟨RX5, "takingsOf", "(LOrganCorners$Town;I)I"⟩
abbrev cX5_nearAhead : ByteArray := prog_7_method_7_code
def yX5_nearAhead : MethodName := ⟨RX5, "nearAhead", "(LOrganCorners$Town;II)I"⟩
abbrev cX5_findTunes : ByteArray := prog_7_method_8_code
def yX5_findTunes : MethodName := ⟨RX5, "findTunes", "(LOrganCorners$Town;[I[III)Z"⟩
abbrev cX5_isFree : ByteArray := prog_7_method_9_code
def yX5_isFree : MethodName := ⟨RX5, "isFree", "(LOrganCorners$Town;[IIII)Z"⟩
def RX6 : String := "OrganCorners$Payout"
def TX6 : u_T := fun k => match k with
  | 0 => ("OrganCorners$Payout", "fromPots", "[I", true)
  | 1 => ("OrganCorners$Payout", "fromFund", "[I", true)
  | _ => ("OrganCorners$Payout", "remainders", "[I", true)
def tyX6 : Nat → FieldType := fun k => match k with
  | 0 => .array .int
  | 1 => .array .int
  | _ => .array .int
abbrev wsX60 : List Cond := u_ws RX6 TX6 3
theorem nmX6 : ∀ a, a < 3 → ∀ b, b < 3 → a ≠ b → (TX6 a).2.1 ≠ (TX6 b).2.1 := by decide +kernel
theorem tyX6_ok : ∀ k, k < 3 → parseFieldDescriptor (TX6 k).2.2.1 = some (tyX6 k) := by decide +kernel
abbrev cX6_init : ByteArray := prog_8_method_1_code
def yX6_init : MethodName := ⟨RX6, "<init>", "()V"⟩
abbrev cX6_reckon : ByteArray := prog_8_method_2_code
def yX6_reckon : MethodName := ⟨RX6, "reckon", "(LOrganCorners$Town;)V"⟩
abbrev cX6_sharePot : ByteArray := prog_8_method_3_code
def yX6_sharePot : MethodName := ⟨RX6, "sharePot", "(LOrganCorners$Town;I)V"⟩
abbrev cX6_giveUnits : ByteArray := prog_8_method_4_code
def yX6_giveUnits : MethodName := ⟨RX6, "giveUnits", "(II)V"⟩
abbrev cX6_giveAllowances : ByteArray := prog_8_method_5_code
def yX6_giveAllowances : MethodName := ⟨RX6, "giveAllowances", "(LOrganCorners$Town;)V"⟩
def RX7 : String := "OrganCorners$Player"
def TX7 : u_T := fun k => match k with
  | 0 => ("OrganCorners$Player", "crewOf", "I", false)
  | 1 => ("OrganCorners$Player", "got", "I", false)
  | 2 => ("OrganCorners$Player", "gotFromFund", "I", false)
  | 3 => ("OrganCorners$Player", "hoursSoFar", "I", false)
  | _ => ("OrganCorners$Player", "hoursAt", "[I", true)
def tyX7 : Nat → FieldType := fun k => match k with
  | 0 => .int
  | 1 => .int
  | 2 => .int
  | 3 => .int
  | _ => .array .int
abbrev wsX70 : List Cond := u_ws RX7 TX7 5
theorem nmX7 : ∀ a, a < 5 → ∀ b, b < 5 → a ≠ b → (TX7 a).2.1 ≠ (TX7 b).2.1 := by decide +kernel
theorem tyX7_ok : ∀ k, k < 5 → parseFieldDescriptor (TX7 k).2.2.1 = some (tyX7 k) := by decide +kernel
abbrev cX7_init : ByteArray := prog_9_method_1_code
def yX7_init : MethodName := ⟨RX7, "<init>", "()V"⟩
abbrev cX7_copyFrom : ByteArray := prog_9_method_2_code
def yX7_copyFrom : MethodName := ⟨RX7, "copyFrom", "(LOrganCorners$Player;)V"⟩
abbrev cX7_hoursOfDay : ByteArray := prog_9_method_3_code
def yX7_hoursOfDay : MethodName := ⟨RX7, "hoursOfDay", "()I"⟩
abbrev cX7_forgetDay : ByteArray := prog_9_method_4_code
def yX7_forgetDay : MethodName := ⟨RX7, "forgetDay", "()V"⟩
def RX8 : String := "OrganCorners$SavedTowns"
def TX8 : u_T := fun k => match k with
  | 0 => ("OrganCorners$SavedTowns", "ring", "[LOrganCorners$Town;", true)
  | 1 => ("OrganCorners$SavedTowns", "oldest", "I", false)
  | _ => ("OrganCorners$SavedTowns", "count", "I", false)
def tyX8 : Nat → FieldType := fun k => match k with
  | 0 => .array (.object "OrganCorners$Town")
  | 1 => .int
  | _ => .int
abbrev wsX80 : List Cond := u_ws RX8 TX8 3
theorem nmX8 : ∀ a, a < 3 → ∀ b, b < 3 → a ≠ b → (TX8 a).2.1 ≠ (TX8 b).2.1 := by decide +kernel
theorem tyX8_ok : ∀ k, k < 3 → parseFieldDescriptor (TX8 k).2.2.1 = some (tyX8 k) := by decide +kernel
abbrev cX8_init : ByteArray := prog_10_method_1_code
def yX8_init : MethodName := ⟨RX8, "<init>", "()V"⟩
abbrev cX8_save : ByteArray := prog_10_method_2_code
def yX8_save : MethodName := ⟨RX8, "save", "(LOrganCorners$Town;)V"⟩
def RX9 : String := "OrganCorners$Town"
def TX9 : u_T := fun k => match k with
  | 0 => ("OrganCorners$Town", "corners", "[LOrganCorners$Corner;", true)
  | 1 => ("OrganCorners$Town", "organs", "[LOrganCorners$Organ;", true)
  | 2 => ("OrganCorners$Town", "players", "[LOrganCorners$Player;", true)
  | 3 => ("OrganCorners$Town", "settings", "[I", true)
  | 4 => ("OrganCorners$Town", "cornerCount", "I", false)
  | 5 => ("OrganCorners$Town", "organCount", "I", false)
  | 6 => ("OrganCorners$Town", "playerCount", "I", false)
  | 7 => ("OrganCorners$Town", "day", "I", false)
  | 8 => ("OrganCorners$Town", "hour", "I", false)
  | 9 => ("OrganCorners$Town", "wet", "Z", false)
  | 10 => ("OrganCorners$Town", "seed", "I", false)
  | 11 => ("OrganCorners$Town", "playedOnDay", "I", false)
  | 12 => ("OrganCorners$Town", "playedSoFar", "I", false)
  | 13 => ("OrganCorners$Town", "treasury", "I", false)
  | _ => ("OrganCorners$Town", "fund", "I", false)
def tyX9 : Nat → FieldType := fun k => match k with
  | 0 => .array (.object "OrganCorners$Corner")
  | 1 => .array (.object "OrganCorners$Organ")
  | 2 => .array (.object "OrganCorners$Player")
  | 3 => .array .int
  | 4 => .int
  | 5 => .int
  | 6 => .int
  | 7 => .int
  | 8 => .int
  | 9 => .boolean
  | 10 => .int
  | 11 => .int
  | 12 => .int
  | 13 => .int
  | _ => .int
abbrev wsX90 : List Cond := u_ws RX9 TX9 15
theorem nmX9 : ∀ a, a < 15 → ∀ b, b < 15 → a ≠ b → (TX9 a).2.1 ≠ (TX9 b).2.1 := by decide +kernel
theorem tyX9_ok : ∀ k, k < 15 → parseFieldDescriptor (TX9 k).2.2.1 = some (tyX9 k) := by decide +kernel
abbrev cX9_init : ByteArray := prog_11_method_1_code
def yX9_init : MethodName := ⟨RX9, "<init>", "()V"⟩
abbrev cX9_copyFrom : ByteArray := prog_11_method_2_code
def yX9_copyFrom : MethodName := ⟨RX9, "copyFrom", "(LOrganCorners$Town;)V"⟩
abbrev cX9_hasCornerAt : ByteArray := prog_11_method_3_code
def yX9_hasCornerAt : MethodName := ⟨RX9, "hasCornerAt", "(I)Z"⟩
abbrev cX9_permits : ByteArray := prog_11_method_4_code
def yX9_permits : MethodName := ⟨RX9, "permits", "()I"⟩
abbrev cX9_crewSize : ByteArray := prog_11_method_5_code
def yX9_crewSize : MethodName := ⟨RX9, "crewSize", "(I)I"⟩
abbrev cX9_organAt : ByteArray := prog_11_method_6_code
def yX9_organAt : MethodName := ⟨RX9, "organAt", "(I)I"⟩
abbrev cX9_cornerOf : ByteArray := prog_11_method_7_code
def yX9_cornerOf : MethodName := ⟨RX9, "cornerOf", "(I)LOrganCorners$Corner;"⟩
abbrev cX9_takingsSoFar : ByteArray := prog_11_method_8_code
def yX9_takingsSoFar : MethodName := ⟨RX9, "takingsSoFar", "()I"⟩
abbrev cX9_ownersSoFar : ByteArray := prog_11_method_9_code
def yX9_ownersSoFar : MethodName := ⟨RX9, "ownersSoFar", "()I"⟩
abbrev cX9_inAllPots : ByteArray := prog_11_method_10_code
def yX9_inAllPots : MethodName := ⟨RX9, "inAllPots", "()I"⟩
abbrev cX9_playersSoFar : ByteArray := prog_11_method_11_code
def yX9_playersSoFar : MethodName := ⟨RX9, "playersSoFar", "()I"⟩
abbrev cX9_weatherMayChange : ByteArray := prog_11_method_12_code
def yX9_weatherMayChange : MethodName := ⟨RX9, "weatherMayChange", "()Z"⟩
abbrev cX9_lotsMayBeDrawn : ByteArray := prog_11_method_13_code
def yX9_lotsMayBeDrawn : MethodName := ⟨RX9, "lotsMayBeDrawn", "()Z"⟩
abbrev cX9_drawLots : ByteArray := prog_11_method_14_code
def yX9_drawLots : MethodName := ⟨RX9, "drawLots", "()I"⟩
abbrev cX9_takeCornersBack : ByteArray := prog_11_method_15_code
def yX9_takeCornersBack : MethodName := ⟨RX9, "takeCornersBack", "()V"⟩
abbrev cX9_draw : ByteArray := prog_11_method_16_code
def yX9_draw : MethodName := ⟨RX9, "draw", "(I)I"⟩
abbrev cX9_freeCorner : ByteArray := prog_11_method_17_code
def yX9_freeCorner : MethodName := ⟨RX9, "freeCorner", "(I)I"⟩
abbrev cX9_areNear : ByteArray := prog_11_method_18_code
def yX9_areNear : MethodName := ⟨RX9, "areNear", "(II)Z"⟩
abbrev cX9_tunesHeardAt : ByteArray := prog_11_method_19_code
def yX9_tunesHeardAt : MethodName := ⟨RX9, "tunesHeardAt", "(LOrganCorners$Corner;)I"⟩
abbrev cX9_reasonAgainstAll : ByteArray := prog_11_method_20_code
def yX9_reasonAgainstAll : MethodName := ⟨RX9, "reasonAgainstAll", "(I)I"⟩
abbrev cX9_reasonAgainst : ByteArray := prog_11_method_21_code
def yX9_reasonAgainst : MethodName := ⟨RX9, "reasonAgainst", "(II)I"⟩
abbrev cX9_playableTunes : ByteArray := prog_11_method_22_code
def yX9_playableTunes : MethodName := ⟨RX9, "playableTunes", "(I)I"⟩
abbrev cX9_playedNear : ByteArray := prog_11_method_23_code
def yX9_playedNear : MethodName := ⟨RX9, "playedNear", "(I)I"⟩
abbrev cX9_takingsFor : ByteArray := prog_11_method_24_code
def yX9_takingsFor : MethodName := ⟨RX9, "takingsFor", "(II)I"⟩
abbrev cX9_playTune : ByteArray := prog_11_method_25_code
def yX9_playTune : MethodName := ⟨RX9, "playTune", "(II)I"⟩
abbrev cX9_divideTakings : ByteArray := prog_11_method_26_code
def yX9_divideTakings : MethodName := ⟨RX9, "divideTakings", "(LOrganCorners$Organ;I)V"⟩
abbrev cX9_addHourOfCrew : ByteArray := prog_11_method_27_code
def yX9_addHourOfCrew : MethodName := ⟨RX9, "addHourOfCrew", "(I)V"⟩
abbrev cX9_endHour : ByteArray := prog_11_method_28_code
def yX9_endHour : MethodName := ⟨RX9, "endHour", "(LOrganCorners$Payout;)V"⟩
abbrev cX9_payOut : ByteArray := prog_11_method_29_code
def yX9_payOut : MethodName := ⟨RX9, "payOut", "(LOrganCorners$Payout;)V"⟩
abbrev cX9_beginDay : ByteArray := prog_11_method_30_code
def yX9_beginDay : MethodName := ⟨RX9, "beginDay", "()V"⟩
def RX10 : String := "OrganCorners"
def TX10 : u_T := fun k => match k with
  | 0 => ("OrganCorners", "town", "LOrganCorners$Town;", true)
  | 1 => ("OrganCorners", "savedTowns", "LOrganCorners$SavedTowns;", true)
  | 2 => ("OrganCorners", "text", "LOrganCorners$OrderText;", true)
  | 3 => ("OrganCorners", "payout", "LOrganCorners$Payout;", true)
  | _ => ("OrganCorners", "outlook", "LOrganCorners$Outlook;", true)
def tyX10 : Nat → FieldType := fun k => match k with
  | 0 => .object "OrganCorners$Town"
  | 1 => .object "OrganCorners$SavedTowns"
  | 2 => .object "OrganCorners$OrderText"
  | 3 => .object "OrganCorners$Payout"
  | _ => .object "OrganCorners$Outlook"
abbrev wsX100 : List Cond := u_ws RX10 TX10 5
theorem nmX10 : ∀ a, a < 5 → ∀ b, b < 5 → a ≠ b → (TX10 a).2.1 ≠ (TX10 b).2.1 := by decide +kernel
theorem tyX10_ok : ∀ k, k < 5 → parseFieldDescriptor (TX10 k).2.2.1 = some (tyX10 k) := by decide +kernel
abbrev cX10_init : ByteArray := prog_1_method_1_code
def yX10_init : MethodName := ⟨RX10, "<init>", "()V"⟩
abbrev cX10_addCorner : ByteArray := prog_1_method_2_code
def yX10_addCorner : MethodName := ⟨RX10, "addCorner", "(IIII)I"⟩
abbrev cX10_addOrgan : ByteArray := prog_1_method_3_code
def yX10_addOrgan : MethodName := ⟨RX10, "addOrgan", "(I)I"⟩
abbrev cX10_addPlayer : ByteArray := prog_1_method_4_code
def yX10_addPlayer : MethodName := ⟨RX10, "addPlayer", "()I"⟩
abbrev cX10_permit : ByteArray := prog_1_method_5_code
def yX10_permit : MethodName := ⟨RX10, "permit", "(IZ)I"⟩
abbrev cX10_barrel : ByteArray := prog_1_method_6_code
def yX10_barrel : MethodName := ⟨RX10, "barrel", "(II)I"⟩
abbrev cX10_assign : ByteArray := prog_1_method_7_code
def yX10_assign : MethodName := ⟨RX10, "assign", "(II)I"⟩
abbrev cX10_set : ByteArray := prog_1_method_8_code
def yX10_set : MethodName := ⟨RX10, "set", "(II)I"⟩
abbrev cX10_lots : ByteArray := prog_1_method_9_code
def yX10_lots : MethodName := ⟨RX10, "lots", "()I"⟩
abbrev cX10_weather : ByteArray := prog_1_method_10_code
def yX10_weather : MethodName := ⟨RX10, "weather", "(Z)I"⟩
abbrev cX10_play : ByteArray := prog_1_method_11_code
def yX10_play : MethodName := ⟨RX10, "play", "(II)I"⟩
abbrev cX10_next : ByteArray := prog_1_method_12_code
def yX10_next : MethodName := ⟨RX10, "next", "()I"⟩
abbrev cX10_append : ByteArray := prog_1_method_13_code
def yX10_append : MethodName := ⟨RX10, "append", "(I)I"⟩
abbrev cX10_clearBuffer : ByteArray := prog_1_method_14_code
def yX10_clearBuffer : MethodName := ⟨RX10, "clearBuffer", "()I"⟩
abbrev cX10_run : ByteArray := prog_1_method_16_code
def yX10_run : MethodName := ⟨RX10, "run", "()I"⟩
abbrev cX10_corner : ByteArray := prog_1_method_18_code
def yX10_corner : MethodName := ⟨RX10, "corner", "(II)I"⟩
abbrev cX10_organ : ByteArray := prog_1_method_19_code
def yX10_organ : MethodName := ⟨RX10, "organ", "(II)I"⟩
abbrev cX10_player : ByteArray := prog_1_method_20_code
def yX10_player : MethodName := ⟨RX10, "player", "(II)I"⟩
abbrev cX10_hours : ByteArray := prog_1_method_21_code
def yX10_hours : MethodName := ⟨RX10, "hours", "(II)I"⟩
abbrev cX10_count : ByteArray := prog_1_method_22_code
def yX10_count : MethodName := ⟨RX10, "count", "(I)I"⟩
abbrev cX10_setting : ByteArray := prog_1_method_23_code
def yX10_setting : MethodName := ⟨RX10, "setting", "(I)I"⟩
abbrev cX10_whyNot : ByteArray := prog_1_method_24_code
def yX10_whyNot : MethodName := ⟨RX10, "whyNot", "(II)I"⟩
abbrev cX10_ifPlayed : ByteArray := prog_1_method_25_code
def yX10_ifPlayed : MethodName := ⟨RX10, "ifPlayed", "(I)I"⟩
abbrev cX10_kindestTune : ByteArray := prog_1_method_26_code
def yX10_kindestTune : MethodName := ⟨RX10, "kindestTune", "(I)I"⟩
abbrev cX10_most : ByteArray := prog_1_method_27_code
def yX10_most : MethodName := ⟨RX10, "most", "(I)I"⟩
abbrev cX10_ifEnded : ByteArray := prog_1_method_28_code
def yX10_ifEnded : MethodName := ⟨RX10, "ifEnded", "(I)I"⟩
abbrev cX10_playersShare : ByteArray := prog_1_method_29_code
def yX10_playersShare : MethodName := ⟨RX10, "playersShare", "()D"⟩
abbrev cX10_requireIndex : ByteArray := prog_1_method_31_code
def yX10_requireIndex : MethodName := ⟨RX10, "requireIndex", "(II)V"⟩
abbrev cX10_requireInRange : ByteArray := prog_1_method_32_code
def yX10_requireInRange : MethodName := ⟨RX10, "requireInRange", "(III)V"⟩
abbrev cX10_requireState : ByteArray := prog_1_method_33_code
def yX10_requireState : MethodName := ⟨RX10, "requireState", "(Z)V"⟩
abbrev cX10_asNumber : ByteArray := prog_1_method_34_code
def yX10_asNumber : MethodName := ⟨RX10, "asNumber", "(Z)I"⟩
abbrev cX10_holds : ByteArray := prog_1_method_35_code
def yX10_holds : MethodName := ⟨RX10, "holds", "(II)Z"⟩
abbrev cX10_obey : ByteArray := prog_1_method_36_code
def yX10_obey : MethodName := ⟨RX10, "obey", "(LOrganCorners$OrderKind;I)Z"⟩
abbrev cX10_obeyPlay : ByteArray := prog_1_method_37_code
def yX10_obeyPlay : MethodName := ⟨RX10, "obeyPlay", "(II)Z"⟩
def RJx29ce0 : String := "java/lang/Enum"
abbrev cJx29ce0_ordinal_8abf5 : ByteArray := prog_14_method_2_code
def yJx29ce0_ordinal_8abf5 : MethodName := ⟨RJx29ce0, "ordinal", "()I"⟩
def RJ9 : String := "java/lang/Math"
abbrev cJ9_abs_0f7a4 : ByteArray := prog_19_method_59_code
def yJ9_abs_0f7a4 : MethodName := ⟨RJ9, "abs", "(I)I"⟩
abbrev cJ9_max_7cf53 : ByteArray := prog_19_method_65_code
def yJ9_max_7cf53 : MethodName := ⟨RJ9, "max", "(II)I"⟩
abbrev cJ9_min_7cf53 : ByteArray := prog_19_method_69_code
def yJ9_min_7cf53 : MethodName := ⟨RJ9, "min", "(II)I"⟩
def RJ0 : String := "java/lang/String"
abbrev cJ0_length_8abf5 : ByteArray := prog_21_method_54_code
def yJ0_length_8abf5 : MethodName := ⟨RJ0, "length", "()I"⟩
abbrev cJ0_charAt_5068e : ByteArray := prog_21_method_56_code
def yJ0_charAt_5068e : MethodName := ⟨RJ0, "charAt", "(I)C"⟩
abbrev cJ0_coder_7d493 : ByteArray := prog_21_method_152_code
def yJ0_coder_7d493 : MethodName := ⟨RJ0, "coder", "()B"⟩
abbrev cJ0_isLatin1_aae02 : ByteArray := prog_21_method_154_code
def yJ0_isLatin1_aae02 : MethodName := ⟨RJ0, "isLatin1", "()Z"⟩
abbrev cJ0_checkIndex_df160 : ByteArray := prog_21_method_155_code
def yJ0_checkIndex_df160 : MethodName := ⟨RJ0, "checkIndex", "(II)V"⟩
def RJ1 : String := "java/lang/StringLatin1"
abbrev cJ1_charAt_3b067 : ByteArray := prog_22_method_2_code
def yJ1_charAt_3b067 : MethodName := ⟨RJ1, "charAt", "([BI)C"⟩
def RJ2 : String := "java/lang/StringUTF16"
abbrev cJ2_getChar_3b067 : ByteArray := prog_23_method_5_code
def yJ2_getChar_3b067 : MethodName := ⟨RJ2, "getChar", "([BI)C"⟩
abbrev cJ2_length_9d52b : ByteArray := prog_23_method_6_code
def yJ2_length_9d52b : MethodName := ⟨RJ2, "length", "([B)I"⟩
abbrev cJ2_charAt_3b067 : ByteArray := prog_23_method_83_code
def yJ2_charAt_3b067 : MethodName := ⟨RJ2, "charAt", "([BI)C"⟩
abbrev cJ2_checkIndex_2214a : ByteArray := prog_23_method_91_code
def yJ2_checkIndex_2214a : MethodName := ⟨RJ2, "checkIndex", "(I[B)V"⟩
def RJ10 : String := "java/lang/System"
def RJ3 : String := "jdk/internal/util/Preconditions"
abbrev cJ3_checkIndex_8e157 : ByteArray := prog_26_method_11_code
def yJ3_checkIndex_8e157 : MethodName := ⟨RJ3, "checkIndex", "(IILjava/util/function/BiFunction;)I"⟩
def RL : String := "OrganCornersLaw"
abbrev cL_cell : ByteArray := method_2_code
def yL_cell : MethodName := ⟨RL, "cell", "([II)I"⟩
abbrev cL_at : ByteArray := method_3_code
def yL_at : MethodName := ⟨RL, "at", "(II)I"⟩
abbrev cL_abs : ByteArray := method_4_code
def yL_abs : MethodName := ⟨RL, "abs", "(I)I"⟩
abbrev cL_draw : ByteArray := method_5_code
def yL_draw : MethodName := ⟨RL, "draw", "(I[I)I"⟩
abbrev cL_holder : ByteArray := method_6_code
def yL_holder : MethodName := ⟨RL, "holder", "(I[I[I)I"⟩
abbrev cL_today : ByteArray := method_7_code
def yL_today : MethodName := ⟨RL, "today", "([I)I"⟩
abbrev cL_drawn : ByteArray := method_8_code
def yL_drawn : MethodName := ⟨RL, "drawn", "([I[I)I"⟩
abbrev cL_near : ByteArray := method_9_code
def yL_near : MethodName := ⟨RL, "near", "(II[I[I)Z"⟩
abbrev cL_quiet : ByteArray := method_10_code
def yL_quiet : MethodName := ⟨RL, "quiet", "(I[I[I)Z"⟩
abbrev cL_heard : ByteArray := method_11_code
def yL_heard : MethodName := ⟨RL, "heard", "(I[I[I[I[I[I)I"⟩
abbrev cL_crew : ByteArray := method_12_code
def yL_crew : MethodName := ⟨RL, "crew", "(I[I[I)I"⟩
abbrev cL_why : ByteArray := method_13_code
def yL_why : MethodName := ⟨RL, "why", "(II[I[I[I[I[I[I)I"⟩
abbrev cL_takes : ByteArray := method_14_code
def yL_takes : MethodName := ⟨RL, "takes", "(I[I[I[I[I[I)I"⟩
abbrev cL_play : ByteArray := method_15_code
def yL_play : MethodName := ⟨RL, "play", "(II[I[I[I[I[I[I[I)I"⟩
abbrev cL_ends : ByteArray := method_16_code
def yL_ends : MethodName := ⟨RL, "ends", "([I[I[I[I[I)V"⟩
abbrev cL_next : ByteArray := method_17_code
def yL_next : MethodName := ⟨RL, "next", "([I[I[I[I[I[I)V"⟩
abbrev cL_told : ByteArray := method_18_code
def yL_told : MethodName := ⟨RL, "told", "(LOrganCorners;[I[I[I[I[I[I[I)Z"⟩
abbrev cL_same : ByteArray := method_19_code
def yL_same : MethodName := ⟨RL, "same", "([I[I)V"⟩
abbrev cL_pairs : ByteArray := method_20_code
def yL_pairs : MethodName := ⟨RL, "pairs", "(I[I[I[I[I[I[I)I"⟩
abbrev cL_ahead : ByteArray := method_21_code
def yL_ahead : MethodName := ⟨RL, "ahead", "(LOrganCorners;[I[I[I[I[I[I[I)Z"⟩
abbrev cL_letters : ByteArray := method_22_code
def yL_letters : MethodName := ⟨RL, "letters", "(LOrganCorners;IIII)Z"⟩
abbrev cL_runs : ByteArray := method_23_code
def yL_runs : MethodName := ⟨RL, "runs", "(LOrganCorners;II[I[I[I[I[I[I[I)Z"⟩
abbrev cL_act : ByteArray := method_24_code
def yL_act : MethodName := ⟨RL, "act", "(LOrganCorners;III[I[I[I[I[I[I[I)Z"⟩
abbrev cL_law : ByteArray := code
def yL_law : MethodName := ⟨RL, "law", "([I)Z"⟩
abbrev vwCl : List vw_C := [(RX1, TX1, 5), (RX3, TX3, 2), (RX4, TX4, 8), (RX5, TX5, 4), (RX6, TX6, 3), (RX7, TX7, 5), (RX8, TX8, 3), (RX9, TX9, 15), (RX10, TX10, 5)]
end NM
end
section
/-! THE CODE, DECODED, by program (wip/p32/gen.py) -/
section CD
def cd_X1_copyFrom_0 : List (Nat × Instr × Nat) := [(0, .aload_n 0, 1), (1, .aload_n 1, 1), (2, .getfield 15, 3), (5, .putfield 15, 3), (8, .aload_n 0, 1), (9, .aload_n 1, 1), (10, .getfield 19, 3), (13, .putfield 19, 3), (16, .aload_n 0, 1), (17, .aload_n 1, 1), (18, .getfield 22, 3), (21, .putfield 22, 3), (24, .aload_n 0, 1), (25, .aload_n 1, 1), (26, .getfield 25, 3), (29, .putfield 25, 3)]
def cd_X1_copyFrom_1 : List (Nat × Instr × Nat) := [(32, .aload_n 1, 1), (33, .getfield 9, 3), (36, .iconst 0, 1), (37, .aload_n 0, 1), (38, .getfield 9, 3), (41, .iconst 0, 1), (42, .bipush 10, 2), (44, .invokestatic 28, 3), (47, .return_, 1)]
def cd_X1_isQuietAt_0 : List (Nat × Instr × Nat) := [(0, .iload_n 1, 1), (1, .aload_n 0, 1), (2, .getfield 22, 3), (5, .isub, 1), (6, .bipush 10, 2), (8, .iadd, 1), (9, .bipush 10, 2), (11, .irem, 1), (12, .aload_n 0, 1), (13, .getfield 25, 3), (16, .if_icmp .ge 7, 3), (19, .iconst 1, 1), (20, .goto 4, 3), (23, .iconst 0, 1), (24, .ireturn, 1)]
def cd_X1_distanceTo_0 : List (Nat × Instr × Nat) := [(0, .aload_n 0, 1), (1, .getfield 15, 3), (4, .aload_n 1, 1), (5, .getfield 15, 3), (8, .isub, 1), (9, .invokestatic 34, 3), (12, .ireturn, 1)]
def cd_X1_tunesPlayed_0 : List (Nat × Instr × Nat) := [(0, .iconst 0, 1), (1, .istore_n 3, 1), (2, .iload_n 1, 1), (3, .iconst 0, 1), (4, .invokestatic 40, 3), (7, .istore 4, 2), (9, .iload 4, 2), (11, .iload_n 2, 1), (12, .if_icmp .gt 26, 3), (15, .iload 4, 2), (17, .bipush 10, 2), (19, .if_icmp .ge 19, 3), (22, .iload_n 3, 1), (23, .aload_n 0, 1), (24, .getfield 9, 3), (27, .iload 4, 2), (29, .iaload, 1), (30, .ior, 1), (31, .istore_n 3, 1)]
def cd_X1_tunesPlayed_1 : List (Nat × Instr × Nat) := [(32, .iinc 4 1, 3), (35, .goto (-26), 3), (38, .iload_n 3, 1), (39, .ireturn, 1)]
def cd_X1_noteTune_0 : List (Nat × Instr × Nat) := [(0, .iload_n 1, 1), (1, .ifCond .lt 21, 3), (4, .iload_n 1, 1), (5, .bipush 10, 2), (7, .if_icmp .ge 15, 3), (10, .aload_n 0, 1), (11, .getfield 9, 3), (14, .iload_n 1, 1), (15, .dup2, 1), (16, .iaload, 1), (17, .iconst 1, 1), (18, .iload_n 2, 1), (19, .ishl, 1), (20, .ior, 1), (21, .iastore, 1), (22, .return_, 1)]
def cd_X1_forgetDay_0 : List (Nat × Instr × Nat) := [(0, .iconst 0, 1), (1, .istore_n 1, 1), (2, .iload_n 1, 1), (3, .bipush 10, 2), (5, .if_icmp .ge 16, 3), (8, .aload_n 0, 1), (9, .getfield 9, 3), (12, .iload_n 1, 1), (13, .iconst 0, 1), (14, .iastore, 1), (15, .iinc 1 1, 3), (18, .goto (-16), 3), (21, .return_, 1)]
def cd_X2_signCount_0 : List (Nat × Instr × Nat) := [(0, .aload_n 0, 1), (1, .getfield 38, 3), (4, .invokevirtual 45, 3), (7, .ireturn, 1)]
def cd_X2_fits_0 : List (Nat × Instr × Nat) := [(0, .iload_n 1, 1), (1, .ifCond .lt 53, 3), (4, .iload_n 1, 1), (5, .aload_n 0, 1), (6, .getfield 38, 3), (9, .invokevirtual 45, 3), (12, .if_icmp .ge 42, 3), (15, .iload_n 1, 1), (16, .aload_n 0, 1), (17, .getfield 42, 3), (20, .invokevirtual 45, 3), (23, .if_icmp .ge 31, 3), (26, .iload_n 2, 1), (27, .aload_n 0, 1), (28, .getfield 38, 3), (31, .iload_n 1, 1)]
def cd_X2_fits_1 : List (Nat × Instr × Nat) := [(32, .invokevirtual 51, 3), (35, .if_icmp .lt 19, 3), (38, .iload_n 2, 1), (39, .aload_n 0, 1), (40, .getfield 42, 3), (43, .iload_n 1, 1), (44, .invokevirtual 51, 3), (47, .if_icmp .gt 7, 3), (50, .iconst 1, 1), (51, .goto 4, 3), (54, .iconst 0, 1), (55, .ireturn, 1)]
def cd_X3_kindAt_0 : List (Nat × Instr × Nat) := [(0, .iload_n 1, 1), (1, .ifCond .lt 11, 3), (4, .iload_n 1, 1), (5, .aload_n 0, 1), (6, .getfield 15, 3), (9, .if_icmp .lt 5, 3), (12, .aconst_null, 1), (13, .areturn, 1), (14, .iconst 0, 1), (15, .istore_n 2, 1), (16, .iload_n 2, 1), (17, .getstatic 19, 3), (20, .arraylength, 1), (21, .if_icmp .ge 33, 3), (24, .getstatic 19, 3), (27, .iload_n 2, 1), (28, .aaload, 1), (29, .iconst 0, 1), (30, .aload_n 0, 1), (31, .getfield 9, 3)]
def cd_X3_kindAt_1 : List (Nat × Instr × Nat) := [(34, .iload_n 1, 1), (35, .iaload, 1), (36, .invokevirtual 23, 3), (39, .ifCond .eq 9, 3), (42, .getstatic 19, 3), (45, .iload_n 2, 1), (46, .aaload, 1), (47, .areturn, 1), (48, .iinc 2 1, 3), (51, .goto (-35), 3), (54, .aconst_null, 1), (55, .areturn, 1)]
def cd_X3_errorIndex_0 : List (Nat × Instr × Nat) := [(0, .iconst 0, 1), (1, .istore_n 1, 1), (2, .iload_n 1, 1), (3, .aload_n 0, 1), (4, .getfield 15, 3), (7, .if_icmp .ge 95, 3), (10, .aload_n 0, 1), (11, .iload_n 1, 1), (12, .invokevirtual 29, 3), (15, .astore_n 2, 1), (16, .aload_n 2, 1), (17, .ifnonnull 5, 3), (20, .iload_n 1, 1), (21, .ireturn, 1), (22, .iload_n 1, 1), (23, .aload_n 2, 1), (24, .invokevirtual 33, 3), (27, .iadd, 1), (28, .istore_n 3, 1), (29, .iload_n 1, 1), (30, .istore 4, 2)]
def cd_X3_errorIndex_1 : List (Nat × Instr × Nat) := [(32, .iload 4, 2), (34, .iload_n 3, 1), (35, .if_icmp .ge 39, 3), (38, .iload 4, 2), (40, .aload_n 0, 1), (41, .getfield 15, 3), (44, .if_icmp .ge 30, 3), (47, .aload_n 2, 1), (48, .iload 4, 2), (50, .iload_n 1, 1), (51, .isub, 1), (52, .aload_n 0, 1), (53, .getfield 9, 3), (56, .iload 4, 2), (58, .iaload, 1), (59, .invokevirtual 23, 3), (62, .ifCond .ne 6, 3)]
def cd_X3_errorIndex_2 : List (Nat × Instr × Nat) := [(65, .iload 4, 2), (67, .ireturn, 1), (68, .iinc 4 1, 3), (71, .goto (-39), 3), (74, .iload_n 3, 1), (75, .aload_n 0, 1), (76, .getfield 15, 3), (79, .if_icmp .ge 16, 3), (82, .aload_n 0, 1), (83, .getfield 9, 3), (86, .iload_n 3, 1), (87, .iaload, 1), (88, .bipush 59, 2), (90, .if_icmp .eq 5, 3), (93, .iload_n 3, 1), (94, .ireturn, 1), (95, .iload_n 3, 1)]
def cd_X3_errorIndex_3 : List (Nat × Instr × Nat) := [(96, .iconst 1, 1), (97, .iadd, 1), (98, .istore_n 1, 1), (99, .goto (-97), 3), (102, .aload_n 0, 1), (103, .getfield 15, 3), (106, .ireturn, 1)]
def cd_X3_isWholeRow_0 : List (Nat × Instr × Nat) := [(0, .aload_n 0, 1), (1, .invokevirtual 37, 3), (4, .aload_n 0, 1), (5, .getfield 15, 3), (8, .if_icmp .ge 5, 3), (11, .iconst 0, 1), (12, .ireturn, 1), (13, .iconst 0, 1), (14, .istore_n 1, 1), (15, .iload_n 1, 1), (16, .aload_n 0, 1), (17, .getfield 15, 3), (20, .if_icmp .ge 27, 3), (23, .aload_n 0, 1), (24, .iload_n 1, 1), (25, .invokevirtual 29, 3), (28, .astore_n 2, 1), (29, .aload_n 2, 1), (30, .ifnonnull 5, 3)]
def cd_X3_isWholeRow_1 : List (Nat × Instr × Nat) := [(33, .iconst 0, 1), (34, .ireturn, 1), (35, .iload_n 1, 1), (36, .aload_n 2, 1), (37, .invokevirtual 33, 3), (40, .iconst 1, 1), (41, .iadd, 1), (42, .iadd, 1), (43, .istore_n 1, 1), (44, .goto (-29), 3), (47, .iload_n 1, 1), (48, .aload_n 0, 1), (49, .getfield 15, 3), (52, .iconst 1, 1), (53, .iadd, 1), (54, .if_icmp .ne 7, 3), (57, .iconst 1, 1), (58, .goto 4, 3), (61, .iconst 0, 1), (62, .ireturn, 1)]
def cd_X3_organAt_0 : List (Nat × Instr × Nat) := [(0, .iload_n 1, 1), (1, .ifCond .lt 23, 3), (4, .iload_n 1, 1), (5, .aload_n 0, 1), (6, .getfield 15, 3), (9, .if_icmp .ge 15, 3), (12, .aload_n 0, 1), (13, .getfield 9, 3), (16, .iload_n 1, 1), (17, .iaload, 1), (18, .bipush 48, 2), (20, .isub, 1), (21, .goto 4, 3), (24, .iconst (-1), 1), (25, .ireturn, 1)]
def cd_X3_tuneAt_0 : List (Nat × Instr × Nat) := [(0, .iload_n 1, 1), (1, .ifCond .lt 27, 3), (4, .iload_n 1, 1), (5, .iconst 2, 1), (6, .iadd, 1), (7, .aload_n 0, 1), (8, .getfield 15, 3), (11, .if_icmp .ge 17, 3), (14, .aload_n 0, 1), (15, .getfield 9, 3), (18, .iload_n 1, 1), (19, .iconst 2, 1), (20, .iadd, 1), (21, .iaload, 1), (22, .bipush 97, 2), (24, .isub, 1), (25, .goto 4, 3), (28, .iconst (-1), 1), (29, .ireturn, 1)]
def cd_X4_copyFrom_0 : List (Nat × Instr × Nat) := [(0, .aload_n 0, 1), (1, .aload_n 1, 1), (2, .getfield 18, 3), (5, .putfield 18, 3), (8, .aload_n 0, 1), (9, .aload_n 1, 1), (10, .getfield 21, 3), (13, .putfield 21, 3), (16, .aload_n 0, 1), (17, .aload_n 1, 1), (18, .getfield 25, 3), (21, .putfield 25, 3), (24, .aload_n 0, 1), (25, .aload_n 1, 1), (26, .getfield 9, 3), (29, .putfield 9, 3)]
def cd_X4_copyFrom_1 : List (Nat × Instr × Nat) := [(32, .aload_n 0, 1), (33, .aload_n 1, 1), (34, .getfield 28, 3), (37, .putfield 28, 3), (40, .aload_n 0, 1), (41, .aload_n 1, 1), (42, .getfield 31, 3), (45, .putfield 31, 3), (48, .aload_n 0, 1), (49, .aload_n 1, 1), (50, .getfield 34, 3), (53, .putfield 34, 3), (56, .aload_n 0, 1), (57, .aload_n 1, 1), (58, .getfield 15, 3), (61, .putfield 15, 3)]
def cd_X4_copyFrom_2 : List (Nat × Instr × Nat) := [(64, .return_, 1)]
def cd_X5_lookAt_0 : List (Nat × Instr × Nat) := [(0, .iconst 0, 1), (1, .istore_n 2, 1), (2, .iload_n 2, 1), (3, .aload_n 1, 1), (4, .getfield 18, 3), (7, .if_icmp .ge 20, 3), (10, .aload_n 0, 1), (11, .getfield 9, 3), (14, .iload_n 2, 1), (15, .aload_n 1, 1), (16, .iload_n 2, 1), (17, .invokevirtual 24, 3), (20, .iastore, 1), (21, .iinc 2 1, 3), (24, .goto (-22), 3), (27, .return_, 1)]
def cd_X5_leastHindering_0 : List (Nat × Instr × Nat) := [(0, .iconst (-1), 1), (1, .istore_n 3, 1), (2, .iconst 5, 1), (3, .istore 4, 2), (5, .iconst 0, 1), (6, .istore 5, 2), (8, .iload 5, 2), (10, .bipush 10, 2), (12, .if_icmp .ge 47, 3), (15, .aload_n 0, 1), (16, .getfield 9, 3), (19, .iload_n 2, 1), (20, .iaload, 1), (21, .iload 5, 2), (23, .invokestatic 28, 3), (26, .ifCond .eq 27, 3), (29, .aload_n 0, 1), (30, .aload_n 1, 1), (31, .iload_n 2, 1)]
def cd_X5_leastHindering_1 : List (Nat × Instr × Nat) := [(32, .iload 5, 2), (34, .invokevirtual 32, 3), (37, .istore 6, 2), (39, .iload 6, 2), (41, .iload 4, 2), (43, .if_icmp .ge 10, 3), (46, .iload 6, 2), (48, .istore 4, 2), (50, .iload 5, 2), (52, .istore_n 3, 1), (53, .iinc 5 1, 3), (56, .goto (-48), 3), (59, .iload_n 3, 1), (60, .ireturn, 1)]
def cd_X5_hinderedPairs_0 : List (Nat × Instr × Nat) := [(0, .iconst 0, 1), (1, .istore 4, 2), (3, .iconst 0, 1), (4, .istore 5, 2), (6, .iload 5, 2), (8, .aload_n 1, 1), (9, .getfield 18, 3), (12, .if_icmp .ge 42, 3), (15, .iload 5, 2), (17, .iload_n 2, 1), (18, .if_icmp .eq 30, 3), (21, .aload_n 0, 1), (22, .getfield 9, 3), (25, .iload 5, 2), (27, .iaload, 1), (28, .iload_n 3, 1), (29, .invokestatic 28, 3)]
def cd_X5_hinderedPairs_1 : List (Nat × Instr × Nat) := [(32, .ifCond .eq 16, 3), (35, .aload_n 1, 1), (36, .iload_n 2, 1), (37, .iload 5, 2), (39, .invokevirtual 36, 3), (42, .ifCond .eq 6, 3), (45, .iinc 4 1, 3), (48, .iinc 5 1, 3), (51, .goto (-45), 3), (54, .iload 4, 2), (56, .ireturn, 1)]
def cd_X5_findMost_0 : List (Nat × Instr × Nat) := [(0, .aload_n 0, 1), (1, .iconst 0, 1), (2, .putfield 39, 3), (5, .aload_n 0, 1), (6, .iconst 0, 1), (7, .putfield 42, 3), (10, .iconst 1, 1), (11, .istore_n 2, 1), (12, .iload_n 2, 1), (13, .iconst 1, 1), (14, .aload_n 1, 1), (15, .getfield 18, 3), (18, .ishl, 1), (19, .if_icmp .ge 50, 3), (22, .aload_n 1, 1), (23, .iload_n 2, 1), (24, .invokestatic 45, 3), (27, .istore_n 3, 1), (28, .iload_n 3, 1), (29, .aload_n 0, 1), (30, .getfield 39, 3)]
def cd_X5_findMost_1 : List (Nat × Instr × Nat) := [(33, .if_icmp .le 30, 3), (36, .aload_n 1, 1), (37, .aload_n 0, 1), (38, .getfield 9, 3), (41, .aload_n 0, 1), (42, .getfield 15, 3), (45, .iload_n 2, 1), (46, .iconst 0, 1), (47, .invokestatic 49, 3), (50, .ifCond .eq 13, 3), (53, .aload_n 0, 1), (54, .iload_n 3, 1), (55, .putfield 39, 3), (58, .aload_n 0, 1), (59, .iload_n 2, 1), (60, .putfield 42, 3), (63, .iinc 2 1, 3)]
def cd_X5_findMost_2 : List (Nat × Instr × Nat) := [(66, .goto (-54), 3), (69, .return_, 1)]
def cd_X5_takingsOf_0 : List (Nat × Instr × Nat) := [(0, .iconst 0, 1), (1, .istore_n 2, 1), (2, .iconst 0, 1), (3, .istore_n 3, 1), (4, .iload_n 3, 1), (5, .aload_n 0, 1), (6, .getfield 18, 3), (9, .if_icmp .ge 41, 3), (12, .iload_n 1, 1), (13, .iload_n 3, 1), (14, .invokestatic 28, 3), (17, .ifCond .eq 27, 3), (20, .aload_n 0, 1), (21, .iload_n 3, 1), (22, .invokevirtual 53, 3), (25, .aload_n 0, 1), (26, .iload_n 1, 1), (27, .iload_n 3, 1), (28, .invokestatic 56, 3), (31, .iadd, 1)]
def cd_X5_takingsOf_1 : List (Nat × Instr × Nat) := [(32, .istore 4, 2), (34, .iload_n 2, 1), (35, .aload_n 0, 1), (36, .iload_n 3, 1), (37, .iload 4, 2), (39, .invokevirtual 59, 3), (42, .iadd, 1), (43, .istore_n 2, 1), (44, .iinc 3 1, 3), (47, .goto (-43), 3), (50, .iload_n 2, 1), (51, .ireturn, 1)]
def cd_X5_nearAhead_0 : List (Nat × Instr × Nat) := [(0, .iconst 0, 1), (1, .istore_n 3, 1), (2, .iconst 0, 1), (3, .istore 4, 2), (5, .iload 4, 2), (7, .iload_n 2, 1), (8, .if_icmp .ge 31, 3), (11, .iload_n 1, 1), (12, .iload 4, 2), (14, .invokestatic 28, 3), (17, .ifCond .eq 16, 3), (20, .aload_n 0, 1), (21, .iload_n 2, 1), (22, .iload 4, 2), (24, .invokevirtual 36, 3), (27, .ifCond .eq 6, 3), (30, .iinc 3 1, 3)]
def cd_X5_nearAhead_1 : List (Nat × Instr × Nat) := [(33, .iinc 4 1, 3), (36, .goto (-31), 3), (39, .iload_n 3, 1), (40, .ireturn, 1)]
def cd_X5_findTunes_0 : List (Nat × Instr × Nat) := [(0, .iload 4, 2), (2, .aload_n 0, 1), (3, .getfield 18, 3), (6, .if_icmp .ge 9, 3), (9, .iload 4, 2), (11, .iconst 5, 1), (12, .if_icmp .lt 5, 3), (15, .iconst 1, 1), (16, .ireturn, 1), (17, .iload_n 3, 1), (18, .iload 4, 2), (20, .invokestatic 28, 3), (23, .ifCond .ne 15, 3), (26, .aload_n 0, 1), (27, .aload_n 1, 1), (28, .aload_n 2, 1), (29, .iload_n 3, 1), (30, .iload 4, 2)]
def cd_X5_findTunes_1 : List (Nat × Instr × Nat) := [(32, .iconst 1, 1), (33, .iadd, 1), (34, .invokestatic 49, 3), (37, .ireturn, 1), (38, .iconst 0, 1), (39, .istore 5, 2), (41, .iload 5, 2), (43, .bipush 10, 2), (45, .if_icmp .ge 56, 3), (48, .aload_n 1, 1), (49, .iload 4, 2), (51, .iaload, 1), (52, .iload 5, 2), (54, .invokestatic 28, 3), (57, .ifCond .eq 38, 3), (60, .aload_n 0, 1), (61, .aload_n 2, 1), (62, .iload_n 3, 1), (63, .iload 4, 2)]
def cd_X5_findTunes_2 : List (Nat × Instr × Nat) := [(65, .iload 5, 2), (67, .invokestatic 63, 3), (70, .ifCond .eq 25, 3), (73, .aload_n 2, 1), (74, .iload 4, 2), (76, .iload 5, 2), (78, .iastore, 1), (79, .aload_n 0, 1), (80, .aload_n 1, 1), (81, .aload_n 2, 1), (82, .iload_n 3, 1), (83, .iload 4, 2), (85, .iconst 1, 1), (86, .iadd, 1), (87, .invokestatic 49, 3), (90, .ifCond .eq 5, 3), (93, .iconst 1, 1), (94, .ireturn, 1), (95, .iinc 5 1, 3)]
def cd_X5_findTunes_3 : List (Nat × Instr × Nat) := [(98, .goto (-57), 3), (101, .iconst 0, 1), (102, .ireturn, 1)]
def cd_X5_isFree_0 : List (Nat × Instr × Nat) := [(0, .iconst 0, 1), (1, .istore 5, 2), (3, .iload 5, 2), (5, .iload_n 3, 1), (6, .if_icmp .ge 39, 3), (9, .iload_n 2, 1), (10, .iload 5, 2), (12, .invokestatic 28, 3), (15, .ifCond .eq 24, 3), (18, .aload_n 1, 1), (19, .iload 5, 2), (21, .iaload, 1), (22, .iload 4, 2), (24, .if_icmp .ne 15, 3), (27, .aload_n 0, 1), (28, .iload_n 3, 1), (29, .iload 5, 2), (31, .invokevirtual 36, 3)]
def cd_X5_isFree_1 : List (Nat × Instr × Nat) := [(34, .ifCond .eq 5, 3), (37, .iconst 0, 1), (38, .ireturn, 1), (39, .iinc 5 1, 3), (42, .goto (-39), 3), (45, .iconst 1, 1), (46, .ireturn, 1)]
def cd_X6_reckon_0 : List (Nat × Instr × Nat) := [(0, .iconst 0, 1), (1, .istore_n 2, 1), (2, .iload_n 2, 1), (3, .bipush 8, 2), (5, .if_icmp .ge 23, 3), (8, .aload_n 0, 1), (9, .getfield 9, 3), (12, .iload_n 2, 1), (13, .iconst 0, 1), (14, .iastore, 1), (15, .aload_n 0, 1), (16, .getfield 15, 3), (19, .iload_n 2, 1), (20, .iconst 0, 1), (21, .iastore, 1), (22, .iinc 2 1, 3), (25, .goto (-23), 3), (28, .iconst 0, 1), (29, .istore_n 2, 1), (30, .iload_n 2, 1), (31, .aload_n 1, 1)]
def cd_X6_reckon_1 : List (Nat × Instr × Nat) := [(32, .getfield 21, 3), (35, .if_icmp .ge 15, 3), (38, .aload_n 0, 1), (39, .aload_n 1, 1), (40, .iload_n 2, 1), (41, .invokevirtual 27, 3), (44, .iinc 2 1, 3), (47, .goto (-17), 3), (50, .aload_n 1, 1), (51, .getfield 31, 3), (54, .ifCond .eq 8, 3), (57, .aload_n 0, 1), (58, .aload_n 1, 1), (59, .invokevirtual 35, 3), (62, .return_, 1)]
def cd_X6_sharePot_0 : List (Nat × Instr × Nat) := [(0, .aload_n 1, 1), (1, .getfield 39, 3), (4, .iload_n 2, 1), (5, .aaload, 1), (6, .getfield 43, 3), (9, .istore_n 3, 1), (10, .iconst 0, 1), (11, .istore 4, 2), (13, .iconst 0, 1), (14, .istore 5, 2), (16, .iload 5, 2), (18, .aload_n 1, 1), (19, .getfield 48, 3), (22, .if_icmp .ge 26, 3), (25, .iload 4, 2), (27, .aload_n 1, 1), (28, .getfield 51, 3), (31, .iload 5, 2)]
def cd_X6_sharePot_1 : List (Nat × Instr × Nat) := [(33, .aaload, 1), (34, .getfield 55, 3), (37, .iload_n 2, 1), (38, .iaload, 1), (39, .iadd, 1), (40, .istore 4, 2), (42, .iinc 5 1, 3), (45, .goto (-29), 3), (48, .iload_n 3, 1), (49, .ifCond .eq 8, 3), (52, .iload 4, 2), (54, .ifCond .ne 4, 3), (57, .return_, 1), (58, .iload_n 3, 1), (59, .istore 5, 2), (61, .iconst 0, 1), (62, .istore 6, 2)]
def cd_X6_sharePot_2 : List (Nat × Instr × Nat) := [(64, .iload 6, 2), (66, .aload_n 1, 1), (67, .getfield 48, 3), (70, .if_icmp .ge 62, 3), (73, .iload_n 3, 1), (74, .aload_n 1, 1), (75, .getfield 51, 3), (78, .iload 6, 2), (80, .aaload, 1), (81, .getfield 55, 3), (84, .iload_n 2, 1), (85, .iaload, 1), (86, .imul, 1), (87, .istore 7, 2), (89, .aload_n 0, 1), (90, .getfield 9, 3), (93, .iload 6, 2), (95, .dup2, 1)]
def cd_X6_sharePot_3 : List (Nat × Instr × Nat) := [(96, .iaload, 1), (97, .iload 7, 2), (99, .iload 4, 2), (101, .idiv, 1), (102, .iadd, 1), (103, .iastore, 1), (104, .aload_n 0, 1), (105, .getfield 18, 3), (108, .iload 6, 2), (110, .iload 7, 2), (112, .iload 4, 2), (114, .irem, 1), (115, .iastore, 1), (116, .iload 5, 2), (118, .iload 7, 2), (120, .iload 4, 2), (122, .idiv, 1), (123, .isub, 1), (124, .istore 5, 2), (126, .iinc 6 1, 3)]
def cd_X6_sharePot_4 : List (Nat × Instr × Nat) := [(129, .goto (-65), 3), (132, .aload_n 0, 1), (133, .iload 5, 2), (135, .aload_n 1, 1), (136, .getfield 48, 3), (139, .invokevirtual 60, 3), (142, .return_, 1)]
def cd_X6_giveUnits_0 : List (Nat × Instr × Nat) := [(0, .iconst 0, 1), (1, .istore_n 3, 1), (2, .iload_n 3, 1), (3, .iload_n 1, 1), (4, .if_icmp .ge 72, 3), (7, .iload_n 3, 1), (8, .iload_n 2, 1), (9, .if_icmp .ge 67, 3), (12, .iconst 0, 1), (13, .istore 4, 2), (15, .iconst 1, 1), (16, .istore 5, 2), (18, .iload 5, 2), (20, .iload_n 2, 1), (21, .if_icmp .ge 30, 3), (24, .aload_n 0, 1), (25, .getfield 18, 3), (28, .iload 5, 2), (30, .iaload, 1), (31, .aload_n 0, 1)]
def cd_X6_giveUnits_1 : List (Nat × Instr × Nat) := [(32, .getfield 18, 3), (35, .iload 4, 2), (37, .iaload, 1), (38, .if_icmp .le 7, 3), (41, .iload 5, 2), (43, .istore 4, 2), (45, .iinc 5 1, 3), (48, .goto (-30), 3), (51, .aload_n 0, 1), (52, .getfield 9, 3), (55, .iload 4, 2), (57, .dup2, 1), (58, .iaload, 1), (59, .iconst 1, 1), (60, .iadd, 1), (61, .iastore, 1), (62, .aload_n 0, 1), (63, .getfield 18, 3)]
def cd_X6_giveUnits_2 : List (Nat × Instr × Nat) := [(66, .iload 4, 2), (68, .iconst (-1), 1), (69, .iastore, 1), (70, .iinc 3 1, 3), (73, .goto (-71), 3), (76, .return_, 1)]
def cd_X6_giveAllowances_0 : List (Nat × Instr × Nat) := [(0, .aload_n 1, 1), (1, .getfield 64, 3), (4, .istore_n 2, 1), (5, .iconst 0, 1), (6, .istore_n 3, 1), (7, .iload_n 3, 1), (8, .aload_n 1, 1), (9, .getfield 48, 3), (12, .if_icmp .ge 47, 3), (15, .aload_n 1, 1), (16, .getfield 51, 3), (19, .iload_n 3, 1), (20, .aaload, 1), (21, .invokevirtual 67, 3), (24, .iconst 3, 1), (25, .if_icmp .ge 28, 3), (28, .aload_n 0, 1), (29, .getfield 15, 3)]
def cd_X6_giveAllowances_1 : List (Nat × Instr × Nat) := [(32, .iload_n 3, 1), (33, .aload_n 1, 1), (34, .getfield 71, 3), (37, .iconst 4, 1), (38, .iaload, 1), (39, .iload_n 2, 1), (40, .invokestatic 74, 3), (43, .iastore, 1), (44, .iload_n 2, 1), (45, .aload_n 0, 1), (46, .getfield 15, 3), (49, .iload_n 3, 1), (50, .iaload, 1), (51, .isub, 1), (52, .istore_n 2, 1), (53, .iinc 3 1, 3), (56, .goto (-49), 3), (59, .return_, 1)]
def cd_X7_copyFrom_0 : List (Nat × Instr × Nat) := [(0, .aload_n 0, 1), (1, .aload_n 1, 1), (2, .getfield 9, 3), (5, .putfield 9, 3), (8, .aload_n 0, 1), (9, .aload_n 1, 1), (10, .getfield 19, 3), (13, .putfield 19, 3), (16, .aload_n 0, 1), (17, .aload_n 1, 1), (18, .getfield 22, 3), (21, .putfield 22, 3), (24, .aload_n 0, 1), (25, .aload_n 1, 1), (26, .getfield 25, 3), (29, .putfield 25, 3)]
def cd_X7_copyFrom_1 : List (Nat × Instr × Nat) := [(32, .aload_n 1, 1), (33, .getfield 15, 3), (36, .iconst 0, 1), (37, .aload_n 0, 1), (38, .getfield 15, 3), (41, .iconst 0, 1), (42, .iconst 5, 1), (43, .invokestatic 28, 3), (46, .return_, 1)]
def cd_X7_hoursOfDay_0 : List (Nat × Instr × Nat) := [(0, .iconst 0, 1), (1, .istore_n 1, 1), (2, .iconst 0, 1), (3, .istore_n 2, 1), (4, .iload_n 2, 1), (5, .iconst 5, 1), (6, .if_icmp .ge 18, 3), (9, .iload_n 1, 1), (10, .aload_n 0, 1), (11, .getfield 15, 3), (14, .iload_n 2, 1), (15, .iaload, 1), (16, .iadd, 1), (17, .istore_n 1, 1), (18, .iinc 2 1, 3), (21, .goto (-17), 3), (24, .iload_n 1, 1), (25, .ireturn, 1)]
def cd_X7_forgetDay_0 : List (Nat × Instr × Nat) := [(0, .iconst 0, 1), (1, .istore_n 1, 1), (2, .iload_n 1, 1), (3, .iconst 5, 1), (4, .if_icmp .ge 16, 3), (7, .aload_n 0, 1), (8, .getfield 15, 3), (11, .iload_n 1, 1), (12, .iconst 0, 1), (13, .iastore, 1), (14, .iinc 1 1, 3), (17, .goto (-15), 3), (20, .return_, 1)]
def cd_X8_save_0 : List (Nat × Instr × Nat) := [(0, .aload_n 0, 1), (1, .getfield 11, 3), (4, .aload_n 0, 1), (5, .getfield 18, 3), (8, .aload_n 0, 1), (9, .getfield 22, 3), (12, .iadd, 1), (13, .bipush 6, 2), (15, .irem, 1), (16, .aaload, 1), (17, .aload_n 1, 1), (18, .invokevirtual 25, 3), (21, .aload_n 0, 1), (22, .getfield 22, 3), (25, .bipush 6, 2), (27, .if_icmp .ge 16, 3), (30, .aload_n 0, 1), (31, .dup, 1)]
def cd_X8_save_1 : List (Nat × Instr × Nat) := [(32, .getfield 22, 3), (35, .iconst 1, 1), (36, .iadd, 1), (37, .putfield 22, 3), (40, .goto 16, 3), (43, .aload_n 0, 1), (44, .aload_n 0, 1), (45, .getfield 18, 3), (48, .iconst 1, 1), (49, .iadd, 1), (50, .bipush 6, 2), (52, .irem, 1), (53, .putfield 18, 3), (56, .return_, 1)]
def cd_X9_copyFrom_0 : List (Nat × Instr × Nat) := [(0, .iconst 0, 1), (1, .istore_n 2, 1), (2, .iload_n 2, 1), (3, .bipush 10, 2), (5, .if_icmp .ge 24, 3), (8, .aload_n 0, 1), (9, .getfield 11, 3), (12, .iload_n 2, 1), (13, .aaload, 1), (14, .aload_n 1, 1), (15, .getfield 11, 3), (18, .iload_n 2, 1), (19, .aaload, 1), (20, .invokevirtual 49, 3), (23, .iinc 2 1, 3), (26, .goto (-24), 3), (29, .iconst 0, 1), (30, .istore_n 2, 1), (31, .iload_n 2, 1)]
def cd_X9_copyFrom_1 : List (Nat × Instr × Nat) := [(32, .iconst 5, 1), (33, .if_icmp .ge 24, 3), (36, .aload_n 0, 1), (37, .getfield 19, 3), (40, .iload_n 2, 1), (41, .aaload, 1), (42, .aload_n 1, 1), (43, .getfield 19, 3), (46, .iload_n 2, 1), (47, .aaload, 1), (48, .invokevirtual 53, 3), (51, .iinc 2 1, 3), (54, .goto (-23), 3), (57, .iconst 0, 1), (58, .istore_n 2, 1), (59, .iload_n 2, 1), (60, .bipush 8, 2), (62, .if_icmp .ge 24, 3)]
def cd_X9_copyFrom_2 : List (Nat × Instr × Nat) := [(65, .aload_n 0, 1), (66, .getfield 25, 3), (69, .iload_n 2, 1), (70, .aaload, 1), (71, .aload_n 1, 1), (72, .getfield 25, 3), (75, .iload_n 2, 1), (76, .aaload, 1), (77, .invokevirtual 56, 3), (80, .iinc 2 1, 3), (83, .goto (-24), 3), (86, .aload_n 1, 1), (87, .getfield 29, 3), (90, .iconst 0, 1), (91, .aload_n 0, 1), (92, .getfield 29, 3), (95, .iconst 0, 1)]
def cd_X9_copyFrom_3 : List (Nat × Instr × Nat) := [(96, .iconst 5, 1), (97, .invokestatic 43, 3), (100, .aload_n 0, 1), (101, .aload_n 1, 1), (102, .getfield 59, 3), (105, .putfield 59, 3), (108, .aload_n 0, 1), (109, .aload_n 1, 1), (110, .getfield 62, 3), (113, .putfield 62, 3), (116, .aload_n 0, 1), (117, .aload_n 1, 1), (118, .getfield 65, 3), (121, .putfield 65, 3), (124, .aload_n 0, 1), (125, .aload_n 1, 1), (126, .getfield 68, 3)]
def cd_X9_copyFrom_4 : List (Nat × Instr × Nat) := [(129, .putfield 68, 3), (132, .aload_n 0, 1), (133, .aload_n 1, 1), (134, .getfield 71, 3), (137, .putfield 71, 3), (140, .aload_n 0, 1), (141, .aload_n 1, 1), (142, .getfield 74, 3), (145, .putfield 74, 3), (148, .aload_n 0, 1), (149, .aload_n 1, 1), (150, .getfield 33, 3), (153, .putfield 33, 3), (156, .aload_n 0, 1), (157, .aload_n 1, 1), (158, .getfield 78, 3)]
def cd_X9_copyFrom_5 : List (Nat × Instr × Nat) := [(161, .putfield 78, 3), (164, .aload_n 0, 1), (165, .aload_n 1, 1), (166, .getfield 81, 3), (169, .putfield 81, 3), (172, .aload_n 0, 1), (173, .aload_n 1, 1), (174, .getfield 84, 3), (177, .putfield 84, 3), (180, .aload_n 0, 1), (181, .aload_n 1, 1), (182, .getfield 87, 3), (185, .putfield 87, 3), (188, .return_, 1)]
def cd_X9_hasCornerAt_0 : List (Nat × Instr × Nat) := [(0, .iconst 0, 1), (1, .istore_n 2, 1), (2, .iload_n 2, 1), (3, .aload_n 0, 1), (4, .getfield 59, 3), (7, .if_icmp .ge 24, 3), (10, .aload_n 0, 1), (11, .getfield 11, 3), (14, .iload_n 2, 1), (15, .aaload, 1), (16, .getfield 90, 3), (19, .iload_n 1, 1), (20, .if_icmp .ne 5, 3), (23, .iconst 1, 1), (24, .ireturn, 1), (25, .iinc 2 1, 3), (28, .goto (-26), 3), (31, .iconst 0, 1)]
def cd_X9_hasCornerAt_1 : List (Nat × Instr × Nat) := [(32, .ireturn, 1)]
def cd_X9_permits_0 : List (Nat × Instr × Nat) := [(0, .iconst 0, 1), (1, .istore_n 1, 1), (2, .iconst 0, 1), (3, .istore_n 2, 1), (4, .iload_n 2, 1), (5, .aload_n 0, 1), (6, .getfield 62, 3), (9, .if_icmp .ge 24, 3), (12, .aload_n 0, 1), (13, .getfield 19, 3), (16, .iload_n 2, 1), (17, .aaload, 1), (18, .getfield 93, 3), (21, .ifCond .eq 6, 3), (24, .iinc 1 1, 3), (27, .iinc 2 1, 3), (30, .goto (-26), 3)]
def cd_X9_permits_1 : List (Nat × Instr × Nat) := [(33, .iload_n 1, 1), (34, .ireturn, 1)]
def cd_X9_crewSize_0 : List (Nat × Instr × Nat) := [(0, .iconst 0, 1), (1, .istore_n 2, 1), (2, .iconst 0, 1), (3, .istore_n 3, 1), (4, .iload_n 3, 1), (5, .aload_n 0, 1), (6, .getfield 65, 3), (9, .if_icmp .ge 25, 3), (12, .aload_n 0, 1), (13, .getfield 25, 3), (16, .iload_n 3, 1), (17, .aaload, 1), (18, .getfield 96, 3), (21, .iload_n 1, 1), (22, .if_icmp .ne 6, 3), (25, .iinc 2 1, 3), (28, .iinc 3 1, 3), (31, .goto (-27), 3)]
def cd_X9_crewSize_1 : List (Nat × Instr × Nat) := [(34, .iload_n 2, 1), (35, .ireturn, 1)]
def cd_X9_organAt_0 : List (Nat × Instr × Nat) := [(0, .iconst 0, 1), (1, .istore_n 2, 1), (2, .iload_n 2, 1), (3, .aload_n 0, 1), (4, .getfield 62, 3), (7, .if_icmp .ge 24, 3), (10, .aload_n 0, 1), (11, .getfield 19, 3), (14, .iload_n 2, 1), (15, .aaload, 1), (16, .getfield 99, 3), (19, .iload_n 1, 1), (20, .if_icmp .ne 5, 3), (23, .iload_n 2, 1), (24, .ireturn, 1), (25, .iinc 2 1, 3), (28, .goto (-26), 3), (31, .iconst (-1), 1)]
def cd_X9_organAt_1 : List (Nat × Instr × Nat) := [(32, .ireturn, 1)]
def cd_X9_cornerOf_0 : List (Nat × Instr × Nat) := [(0, .aload_n 0, 1), (1, .getfield 19, 3), (4, .iload_n 1, 1), (5, .aaload, 1), (6, .getfield 99, 3), (9, .istore_n 2, 1), (10, .iload_n 2, 1), (11, .ifCond .lt 20, 3), (14, .iload_n 2, 1), (15, .aload_n 0, 1), (16, .getfield 59, 3), (19, .if_icmp .ge 12, 3), (22, .aload_n 0, 1), (23, .getfield 11, 3), (26, .iload_n 2, 1), (27, .aaload, 1), (28, .goto 4, 3), (31, .aconst_null, 1)]
def cd_X9_cornerOf_1 : List (Nat × Instr × Nat) := [(32, .areturn, 1)]
def cd_X9_takingsSoFar_0 : List (Nat × Instr × Nat) := [(0, .iconst 0, 1), (1, .istore_n 1, 1), (2, .iconst 0, 1), (3, .istore_n 2, 1), (4, .iload_n 2, 1), (5, .aload_n 0, 1), (6, .getfield 62, 3), (9, .if_icmp .ge 21, 3), (12, .iload_n 1, 1), (13, .aload_n 0, 1), (14, .getfield 19, 3), (17, .iload_n 2, 1), (18, .aaload, 1), (19, .getfield 102, 3), (22, .iadd, 1), (23, .istore_n 1, 1), (24, .iinc 2 1, 3), (27, .goto (-23), 3), (30, .iload_n 1, 1), (31, .ireturn, 1)]
def cd_X9_ownersSoFar_0 : List (Nat × Instr × Nat) := [(0, .iconst 0, 1), (1, .istore_n 1, 1), (2, .iconst 0, 1), (3, .istore_n 2, 1), (4, .iload_n 2, 1), (5, .aload_n 0, 1), (6, .getfield 62, 3), (9, .if_icmp .ge 21, 3), (12, .iload_n 1, 1), (13, .aload_n 0, 1), (14, .getfield 19, 3), (17, .iload_n 2, 1), (18, .aaload, 1), (19, .getfield 105, 3), (22, .iadd, 1), (23, .istore_n 1, 1), (24, .iinc 2 1, 3), (27, .goto (-23), 3), (30, .iload_n 1, 1), (31, .ireturn, 1)]
def cd_X9_inAllPots_0 : List (Nat × Instr × Nat) := [(0, .iconst 0, 1), (1, .istore_n 1, 1), (2, .iconst 0, 1), (3, .istore_n 2, 1), (4, .iload_n 2, 1), (5, .aload_n 0, 1), (6, .getfield 62, 3), (9, .if_icmp .ge 21, 3), (12, .iload_n 1, 1), (13, .aload_n 0, 1), (14, .getfield 19, 3), (17, .iload_n 2, 1), (18, .aaload, 1), (19, .getfield 108, 3), (22, .iadd, 1), (23, .istore_n 1, 1), (24, .iinc 2 1, 3), (27, .goto (-23), 3), (30, .iload_n 1, 1), (31, .ireturn, 1)]
def cd_X9_playersSoFar_0 : List (Nat × Instr × Nat) := [(0, .iconst 0, 1), (1, .istore_n 1, 1), (2, .iconst 0, 1), (3, .istore_n 2, 1), (4, .iload_n 2, 1), (5, .aload_n 0, 1), (6, .getfield 65, 3), (9, .if_icmp .ge 21, 3), (12, .iload_n 1, 1), (13, .aload_n 0, 1), (14, .getfield 25, 3), (17, .iload_n 2, 1), (18, .aaload, 1), (19, .getfield 111, 3), (22, .iadd, 1), (23, .istore_n 1, 1), (24, .iinc 2 1, 3), (27, .goto (-23), 3), (30, .iload_n 1, 1), (31, .ireturn, 1)]
def cd_X9_weatherMayChange_0 : List (Nat × Instr × Nat) := [(0, .aload_n 0, 1), (1, .getfield 78, 3), (4, .ifCond .ne 7, 3), (7, .iconst 1, 1), (8, .goto 4, 3), (11, .iconst 0, 1), (12, .ireturn, 1)]
def cd_X9_lotsMayBeDrawn_0 : List (Nat × Instr × Nat) := [(0, .aload_n 0, 1), (1, .getfield 71, 3), (4, .ifCond .ne 14, 3), (7, .aload_n 0, 1), (8, .getfield 78, 3), (11, .ifCond .ne 7, 3), (14, .iconst 1, 1), (15, .goto 4, 3), (18, .iconst 0, 1), (19, .ireturn, 1)]
def cd_X9_drawLots_0 : List (Nat × Instr × Nat) := [(0, .aload_n 0, 1), (1, .invokevirtual 114, 3), (4, .iconst 0, 1), (5, .istore_n 1, 1), (6, .iconst 0, 1), (7, .istore_n 2, 1), (8, .iload_n 2, 1), (9, .aload_n 0, 1), (10, .getfield 62, 3), (13, .if_icmp .ge 53, 3), (16, .aload_n 0, 1), (17, .getfield 59, 3), (20, .iload_n 1, 1), (21, .isub, 1), (22, .istore_n 3, 1), (23, .aload_n 0, 1), (24, .getfield 19, 3), (27, .iload_n 2, 1), (28, .aaload, 1), (29, .getfield 93, 3)]
def cd_X9_drawLots_1 : List (Nat × Instr × Nat) := [(32, .ifCond .eq 28, 3), (35, .iload_n 3, 1), (36, .ifCond .le 24, 3), (39, .aload_n 0, 1), (40, .getfield 19, 3), (43, .iload_n 2, 1), (44, .aaload, 1), (45, .aload_n 0, 1), (46, .aload_n 0, 1), (47, .iload_n 3, 1), (48, .invokevirtual 117, 3), (51, .invokevirtual 121, 3), (54, .putfield 99, 3), (57, .iinc 1 1, 3), (60, .iinc 2 1, 3), (63, .goto (-55), 3)]
def cd_X9_drawLots_2 : List (Nat × Instr × Nat) := [(66, .iload_n 1, 1), (67, .ireturn, 1)]
def cd_X9_takeCornersBack_0 : List (Nat × Instr × Nat) := [(0, .iconst 0, 1), (1, .istore_n 1, 1), (2, .iload_n 1, 1), (3, .aload_n 0, 1), (4, .getfield 62, 3), (7, .if_icmp .ge 19, 3), (10, .aload_n 0, 1), (11, .getfield 19, 3), (14, .iload_n 1, 1), (15, .aaload, 1), (16, .iconst (-1), 1), (17, .putfield 99, 3), (20, .iinc 1 1, 3), (23, .goto (-21), 3), (26, .return_, 1)]
def cd_X9_draw_0 : List (Nat × Instr × Nat) := [(0, .aload_n 0, 1), (1, .ldc2_w 124, 3), (4, .aload_n 0, 1), (5, .getfield 33, 3), (8, .i2l, 1), (9, .lmul, 1), (10, .ldc2_w 126, 3), (13, .ladd, 1), (14, .ldc2_w 128, 3), (17, .lrem, 1), (18, .l2i, 1), (19, .putfield 33, 3), (22, .iload_n 1, 1), (23, .ifCond .le 15, 3), (26, .aload_n 0, 1), (27, .getfield 33, 3), (30, .ldc 130, 2)]
def cd_X9_draw_1 : List (Nat × Instr × Nat) := [(32, .idiv, 1), (33, .iload_n 1, 1), (34, .irem, 1), (35, .goto 4, 3), (38, .iconst 0, 1), (39, .ireturn, 1)]
def cd_X9_freeCorner_0 : List (Nat × Instr × Nat) := [(0, .iload_n 1, 1), (1, .istore_n 2, 1), (2, .iconst 0, 1), (3, .istore_n 3, 1), (4, .iload_n 3, 1), (5, .aload_n 0, 1), (6, .getfield 59, 3), (9, .if_icmp .ge 27, 3), (12, .aload_n 0, 1), (13, .iload_n 3, 1), (14, .invokevirtual 131, 3), (17, .iconst (-1), 1), (18, .if_icmp .ne 12, 3), (21, .iload_n 2, 1), (22, .ifCond .ne 5, 3), (25, .iload_n 3, 1), (26, .ireturn, 1), (27, .iinc 2 (-1), 3), (30, .iinc 3 1, 3)]
def cd_X9_freeCorner_1 : List (Nat × Instr × Nat) := [(33, .goto (-29), 3), (36, .iconst (-1), 1), (37, .ireturn, 1)]
def cd_X9_areNear_0 : List (Nat × Instr × Nat) := [(0, .aload_n 0, 1), (1, .iload_n 1, 1), (2, .invokevirtual 134, 3), (5, .astore_n 3, 1), (6, .aload_n 0, 1), (7, .iload_n 2, 1), (8, .invokevirtual 134, 3), (11, .astore 4, 2), (13, .aload_n 3, 1), (14, .ifnull 27, 3), (17, .aload 4, 2), (19, .ifnull 22, 3), (22, .aload_n 3, 1), (23, .aload 4, 2), (25, .invokevirtual 138, 3), (28, .aload_n 0, 1), (29, .getfield 29, 3)]
def cd_X9_areNear_1 : List (Nat × Instr × Nat) := [(32, .iconst 0, 1), (33, .iaload, 1), (34, .if_icmp .gt 7, 3), (37, .iconst 1, 1), (38, .goto 4, 3), (41, .iconst 0, 1), (42, .ireturn, 1)]
def cd_X9_tunesHeardAt_0 : List (Nat × Instr × Nat) := [(0, .iconst 0, 1), (1, .istore_n 2, 1), (2, .iconst 0, 1), (3, .istore_n 3, 1), (4, .iload_n 3, 1), (5, .aload_n 0, 1), (6, .getfield 59, 3), (9, .if_icmp .ge 55, 3), (12, .aload_n 0, 1), (13, .getfield 11, 3), (16, .iload_n 3, 1), (17, .aaload, 1), (18, .astore 4, 2), (20, .aload_n 1, 1), (21, .aload 4, 2), (23, .invokevirtual 138, 3), (26, .aload_n 0, 1), (27, .getfield 29, 3), (30, .iconst 0, 1), (31, .iaload, 1)]
def cd_X9_tunesHeardAt_1 : List (Nat × Instr × Nat) := [(32, .if_icmp .gt 26, 3), (35, .iload_n 2, 1), (36, .aload 4, 2), (38, .aload_n 0, 1), (39, .getfield 71, 3), (42, .aload_n 0, 1), (43, .getfield 29, 3), (46, .iconst 1, 1), (47, .iaload, 1), (48, .isub, 1), (49, .aload_n 0, 1), (50, .getfield 71, 3), (53, .invokevirtual 142, 3), (56, .ior, 1), (57, .istore_n 2, 1), (58, .iinc 3 1, 3), (61, .goto (-57), 3)]
def cd_X9_tunesHeardAt_2 : List (Nat × Instr × Nat) := [(64, .iload_n 2, 1), (65, .ireturn, 1)]
def cd_X9_reasonAgainstAll_0 : List (Nat × Instr × Nat) := [(0, .aload_n 0, 1), (1, .iload_n 1, 1), (2, .invokevirtual 134, 3), (5, .astore_n 2, 1), (6, .aload_n 2, 1), (7, .ifnonnull 5, 3), (10, .iconst 1, 1), (11, .ireturn, 1), (12, .aload_n 0, 1), (13, .iload_n 1, 1), (14, .invokevirtual 146, 3), (17, .ifCond .ne 5, 3), (20, .iconst 2, 1), (21, .ireturn, 1), (22, .aload_n 0, 1), (23, .getfield 19, 3), (26, .iload_n 1, 1), (27, .aaload, 1), (28, .getfield 149, 3), (31, .iconst (-1), 1)]
def cd_X9_reasonAgainstAll_1 : List (Nat × Instr × Nat) := [(32, .if_icmp .eq 5, 3), (35, .iconst 4, 1), (36, .ireturn, 1), (37, .aload_n 2, 1), (38, .aload_n 0, 1), (39, .getfield 71, 3), (42, .invokevirtual 152, 3), (45, .ifCond .eq 7, 3), (48, .iconst 5, 1), (49, .goto 4, 3), (52, .iconst 0, 1), (53, .ireturn, 1)]
def cd_X9_reasonAgainst_0 : List (Nat × Instr × Nat) := [(0, .aload_n 0, 1), (1, .iload_n 1, 1), (2, .invokevirtual 156, 3), (5, .istore_n 3, 1), (6, .aload_n 0, 1), (7, .getfield 19, 3), (10, .iload_n 1, 1), (11, .aaload, 1), (12, .getfield 159, 3), (15, .iload_n 2, 1), (16, .invokestatic 162, 3), (19, .istore 4, 2), (21, .iload 4, 2), (23, .ifCond .ne 15, 3), (26, .iload_n 3, 1), (27, .iconst 1, 1), (28, .if_icmp .eq 10, 3), (31, .iload_n 3, 1)]
def cd_X9_reasonAgainst_1 : List (Nat × Instr × Nat) := [(32, .iconst 2, 1), (33, .if_icmp .eq 5, 3), (36, .iconst 3, 1), (37, .ireturn, 1), (38, .aload_n 0, 1), (39, .iload_n 1, 1), (40, .invokevirtual 134, 3), (43, .astore 5, 2), (45, .iload_n 3, 1), (46, .ifCond .ne 24, 3), (49, .aload 5, 2), (51, .ifnull 19, 3), (54, .aload_n 0, 1), (55, .aload 5, 2), (57, .invokevirtual 166, 3), (60, .iload_n 2, 1), (61, .invokestatic 162, 3)]
def cd_X9_reasonAgainst_2 : List (Nat × Instr × Nat) := [(64, .ifCond .eq 6, 3), (67, .bipush 6, 2), (69, .ireturn, 1), (70, .iload_n 3, 1), (71, .ireturn, 1)]
def cd_X9_playableTunes_0 : List (Nat × Instr × Nat) := [(0, .aload_n 0, 1), (1, .iload_n 1, 1), (2, .invokevirtual 134, 3), (5, .astore_n 2, 1), (6, .aload_n 2, 1), (7, .ifnull 11, 3), (10, .aload_n 0, 1), (11, .iload_n 1, 1), (12, .invokevirtual 156, 3), (15, .ifCond .eq 5, 3), (18, .iconst 0, 1), (19, .ireturn, 1), (20, .aload_n 0, 1), (21, .getfield 19, 3), (24, .iload_n 1, 1), (25, .aaload, 1), (26, .getfield 159, 3), (29, .aload_n 0, 1), (30, .aload_n 2, 1), (31, .invokevirtual 166, 3)]
def cd_X9_playableTunes_1 : List (Nat × Instr × Nat) := [(34, .iconst (-1), 1), (35, .ixor, 1), (36, .iand, 1), (37, .ireturn, 1)]
def cd_X9_playedNear_0 : List (Nat × Instr × Nat) := [(0, .iconst 0, 1), (1, .istore_n 2, 1), (2, .iconst 0, 1), (3, .istore_n 3, 1), (4, .iload_n 3, 1), (5, .aload_n 0, 1), (6, .getfield 62, 3), (9, .if_icmp .ge 39, 3), (12, .iload_n 3, 1), (13, .iload_n 1, 1), (14, .if_icmp .eq 28, 3), (17, .aload_n 0, 1), (18, .getfield 19, 3), (21, .iload_n 3, 1), (22, .aaload, 1), (23, .getfield 149, 3), (26, .iconst (-1), 1), (27, .if_icmp .eq 15, 3), (30, .aload_n 0, 1), (31, .iload_n 1, 1)]
def cd_X9_playedNear_1 : List (Nat × Instr × Nat) := [(32, .iload_n 3, 1), (33, .invokevirtual 169, 3), (36, .ifCond .eq 6, 3), (39, .iinc 2 1, 3), (42, .iinc 3 1, 3), (45, .goto (-41), 3), (48, .iload_n 2, 1), (49, .ireturn, 1)]
def cd_X9_takingsFor_0 : List (Nat × Instr × Nat) := [(0, .aload_n 0, 1), (1, .iload_n 1, 1), (2, .invokevirtual 134, 3), (5, .astore_n 3, 1), (6, .aload_n 3, 1), (7, .ifnonnull 5, 3), (10, .iconst 0, 1), (11, .ireturn, 1), (12, .aload_n 3, 1), (13, .getfield 172, 3), (16, .bipush 10, 2), (18, .iconst 2, 1), (19, .iload_n 2, 1), (20, .imul, 1), (21, .isub, 1), (22, .imul, 1), (23, .bipush 10, 2), (25, .idiv, 1), (26, .iconst 0, 1), (27, .invokestatic 175, 3), (30, .istore 4, 2)]
def cd_X9_takingsFor_1 : List (Nat × Instr × Nat) := [(32, .aload_n 0, 1), (33, .getfield 74, 3), (36, .ifCond .eq 10, 3), (39, .iload 4, 2), (41, .iconst 2, 1), (42, .idiv, 1), (43, .goto 5, 3), (46, .iload 4, 2), (48, .ireturn, 1)]
def cd_X9_playTune_0 : List (Nat × Instr × Nat) := [(0, .aload_n 0, 1), (1, .iload_n 1, 1), (2, .invokevirtual 134, 3), (5, .astore_n 3, 1), (6, .aload_n 3, 1), (7, .ifnonnull 5, 3), (10, .iconst 0, 1), (11, .ireturn, 1), (12, .aload_n 0, 1), (13, .iload_n 1, 1), (14, .aload_n 0, 1), (15, .iload_n 1, 1), (16, .invokevirtual 180, 3), (19, .invokevirtual 183, 3), (22, .istore 4, 2), (24, .aload_n 0, 1), (25, .aload_n 0, 1), (26, .getfield 19, 3), (29, .iload_n 1, 1), (30, .aaload, 1), (31, .iload 4, 2)]
def cd_X9_playTune_1 : List (Nat × Instr × Nat) := [(33, .invokevirtual 186, 3), (36, .aload_n 0, 1), (37, .iload_n 1, 1), (38, .invokevirtual 190, 3), (41, .aload_n 3, 1), (42, .aload_n 0, 1), (43, .getfield 71, 3), (46, .iload_n 2, 1), (47, .invokevirtual 194, 3), (50, .aload_n 0, 1), (51, .getfield 19, 3), (54, .iload_n 1, 1), (55, .aaload, 1), (56, .iload_n 2, 1), (57, .putfield 149, 3), (60, .aload_n 0, 1), (61, .dup, 1), (62, .getfield 78, 3)]
def cd_X9_playTune_2 : List (Nat × Instr × Nat) := [(65, .iconst 1, 1), (66, .iadd, 1), (67, .putfield 78, 3), (70, .aload_n 0, 1), (71, .dup, 1), (72, .getfield 81, 3), (75, .iconst 1, 1), (76, .iadd, 1), (77, .putfield 81, 3), (80, .iload 4, 2), (82, .ireturn, 1)]
def cd_X9_divideTakings_0 : List (Nat × Instr × Nat) := [(0, .iload_n 2, 1), (1, .aload_n 0, 1), (2, .getfield 29, 3), (5, .iconst 2, 1), (6, .iaload, 1), (7, .imul, 1), (8, .bipush 100, 2), (10, .idiv, 1), (11, .istore_n 3, 1), (12, .iload_n 3, 1), (13, .aload_n 0, 1), (14, .getfield 29, 3), (17, .iconst 3, 1), (18, .iaload, 1), (19, .imul, 1), (20, .bipush 100, 2), (22, .idiv, 1), (23, .istore 4, 2), (25, .iload_n 2, 1), (26, .iload_n 3, 1), (27, .isub, 1), (28, .istore 5, 2), (30, .iload 5, 2)]
def cd_X9_divideTakings_1 : List (Nat × Instr × Nat) := [(32, .aload_n 1, 1), (33, .getfield 198, 3), (36, .imul, 1), (37, .bipush 100, 2), (39, .idiv, 1), (40, .istore 6, 2), (42, .aload_n 0, 1), (43, .dup, 1), (44, .getfield 87, 3), (47, .iload 4, 2), (49, .iadd, 1), (50, .putfield 87, 3), (53, .aload_n 0, 1), (54, .dup, 1), (55, .getfield 84, 3), (58, .iload_n 3, 1), (59, .iload 4, 2), (61, .isub, 1), (62, .iadd, 1), (63, .putfield 84, 3)]
def cd_X9_divideTakings_2 : List (Nat × Instr × Nat) := [(66, .aload_n 1, 1), (67, .dup, 1), (68, .getfield 105, 3), (71, .iload 6, 2), (73, .iadd, 1), (74, .putfield 105, 3), (77, .aload_n 1, 1), (78, .dup, 1), (79, .getfield 108, 3), (82, .iload 5, 2), (84, .iload 6, 2), (86, .isub, 1), (87, .iadd, 1), (88, .putfield 108, 3), (91, .aload_n 1, 1), (92, .dup, 1), (93, .getfield 102, 3)]
def cd_X9_divideTakings_3 : List (Nat × Instr × Nat) := [(96, .iload_n 2, 1), (97, .iadd, 1), (98, .putfield 102, 3), (101, .return_, 1)]
def cd_X9_addHourOfCrew_0 : List (Nat × Instr × Nat) := [(0, .iconst 0, 1), (1, .istore_n 2, 1), (2, .iload_n 2, 1), (3, .aload_n 0, 1), (4, .getfield 65, 3), (7, .if_icmp .ge 52, 3), (10, .aload_n 0, 1), (11, .getfield 25, 3), (14, .iload_n 2, 1), (15, .aaload, 1), (16, .getfield 96, 3), (19, .iload_n 1, 1), (20, .if_icmp .ne 33, 3), (23, .aload_n 0, 1), (24, .getfield 25, 3), (27, .iload_n 2, 1), (28, .aaload, 1), (29, .getfield 201, 3)]
def cd_X9_addHourOfCrew_1 : List (Nat × Instr × Nat) := [(32, .iload_n 1, 1), (33, .dup2, 1), (34, .iaload, 1), (35, .iconst 1, 1), (36, .iadd, 1), (37, .iastore, 1), (38, .aload_n 0, 1), (39, .getfield 25, 3), (42, .iload_n 2, 1), (43, .aaload, 1), (44, .dup, 1), (45, .getfield 204, 3), (48, .iconst 1, 1), (49, .iadd, 1), (50, .putfield 204, 3), (53, .iinc 2 1, 3), (56, .goto (-54), 3), (59, .return_, 1)]
def cd_X9_endHour_0 : List (Nat × Instr × Nat) := [(0, .iconst 0, 1), (1, .istore_n 2, 1), (2, .iload_n 2, 1), (3, .aload_n 0, 1), (4, .getfield 62, 3), (7, .if_icmp .ge 19, 3), (10, .aload_n 0, 1), (11, .getfield 19, 3), (14, .iload_n 2, 1), (15, .aaload, 1), (16, .iconst (-1), 1), (17, .putfield 149, 3), (20, .iinc 2 1, 3), (23, .goto (-21), 3), (26, .aload_n 0, 1), (27, .dup, 1), (28, .getfield 71, 3), (31, .iconst 1, 1)]
def cd_X9_endHour_1 : List (Nat × Instr × Nat) := [(32, .iadd, 1), (33, .putfield 71, 3), (36, .aload_n 0, 1), (37, .getfield 71, 3), (40, .bipush 10, 2), (42, .if_icmp .lt 17, 3), (45, .aload_n 1, 1), (46, .aload_n 0, 1), (47, .invokevirtual 207, 3), (50, .aload_n 0, 1), (51, .aload_n 1, 1), (52, .invokevirtual 213, 3), (55, .aload_n 0, 1), (56, .invokevirtual 217, 3), (59, .return_, 1)]
def cd_X9_payOut_0 : List (Nat × Instr × Nat) := [(0, .iconst 0, 1), (1, .istore_n 2, 1), (2, .iload_n 2, 1), (3, .aload_n 0, 1), (4, .getfield 65, 3), (7, .if_icmp .ge 63, 3), (10, .aload_n 1, 1), (11, .getfield 220, 3), (14, .iload_n 2, 1), (15, .iaload, 1), (16, .istore_n 3, 1), (17, .aload_n 0, 1), (18, .getfield 25, 3), (21, .iload_n 2, 1), (22, .aaload, 1), (23, .dup, 1), (24, .getfield 111, 3), (27, .aload_n 1, 1), (28, .getfield 223, 3), (31, .iload_n 2, 1)]
def cd_X9_payOut_1 : List (Nat × Instr × Nat) := [(32, .iaload, 1), (33, .iload_n 3, 1), (34, .iadd, 1), (35, .iadd, 1), (36, .putfield 111, 3), (39, .aload_n 0, 1), (40, .getfield 25, 3), (43, .iload_n 2, 1), (44, .aaload, 1), (45, .dup, 1), (46, .getfield 226, 3), (49, .iload_n 3, 1), (50, .iadd, 1), (51, .putfield 226, 3), (54, .aload_n 0, 1), (55, .dup, 1), (56, .getfield 87, 3), (59, .iload_n 3, 1), (60, .isub, 1), (61, .putfield 87, 3)]
def cd_X9_payOut_2 : List (Nat × Instr × Nat) := [(64, .iinc 2 1, 3), (67, .goto (-65), 3), (70, .iconst 0, 1), (71, .istore_n 2, 1), (72, .iload_n 2, 1), (73, .aload_n 0, 1), (74, .getfield 62, 3), (77, .if_icmp .ge 19, 3), (80, .aload_n 0, 1), (81, .getfield 19, 3), (84, .iload_n 2, 1), (85, .aaload, 1), (86, .iconst 0, 1), (87, .putfield 108, 3), (90, .iinc 2 1, 3), (93, .goto (-21), 3)]
def cd_X9_payOut_3 : List (Nat × Instr × Nat) := [(96, .return_, 1)]
def cd_X9_beginDay_0 : List (Nat × Instr × Nat) := [(0, .aload_n 0, 1), (1, .dup, 1), (2, .getfield 68, 3), (5, .iconst 1, 1), (6, .iadd, 1), (7, .putfield 68, 3), (10, .aload_n 0, 1), (11, .iconst 0, 1), (12, .putfield 71, 3), (15, .aload_n 0, 1), (16, .iconst 0, 1), (17, .putfield 74, 3), (20, .aload_n 0, 1), (21, .iconst 0, 1), (22, .putfield 78, 3), (25, .aload_n 0, 1), (26, .invokevirtual 114, 3), (29, .iconst 0, 1), (30, .istore_n 1, 1), (31, .iload_n 1, 1)]
def cd_X9_beginDay_1 : List (Nat × Instr × Nat) := [(32, .aload_n 0, 1), (33, .getfield 59, 3), (36, .if_icmp .ge 18, 3), (39, .aload_n 0, 1), (40, .getfield 11, 3), (43, .iload_n 1, 1), (44, .aaload, 1), (45, .invokevirtual 229, 3), (48, .iinc 1 1, 3), (51, .goto (-20), 3), (54, .iconst 0, 1), (55, .istore_n 1, 1), (56, .iload_n 1, 1), (57, .aload_n 0, 1), (58, .getfield 65, 3), (61, .if_icmp .ge 18, 3)]
def cd_X9_beginDay_2 : List (Nat × Instr × Nat) := [(64, .aload_n 0, 1), (65, .getfield 25, 3), (68, .iload_n 1, 1), (69, .aaload, 1), (70, .invokevirtual 232, 3), (73, .iinc 1 1, 3), (76, .goto (-20), 3), (79, .return_, 1)]
def cd_X10_addCorner_0 : List (Nat × Instr × Nat) := [(0, .iload_n 1, 1), (1, .iconst 0, 1), (2, .bipush 99, 2), (4, .invokestatic 44, 3), (7, .iload_n 2, 1), (8, .iconst 1, 1), (9, .bipush 90, 2), (11, .invokestatic 44, 3), (14, .iload_n 3, 1), (15, .iconst 0, 1), (16, .bipush 9, 2), (18, .invokestatic 44, 3), (21, .iload 4, 2), (23, .iconst 0, 1), (24, .bipush 9, 2), (26, .invokestatic 44, 3), (29, .aload_n 0, 1), (30, .getfield 10, 3)]
def cd_X10_addCorner_1 : List (Nat × Instr × Nat) := [(33, .getfield 48, 3), (36, .bipush 10, 2), (38, .if_icmp .ge 18, 3), (41, .aload_n 0, 1), (42, .getfield 10, 3), (45, .iload_n 1, 1), (46, .invokevirtual 52, 3), (49, .ifCond .ne 7, 3), (52, .iconst 1, 1), (53, .goto 4, 3), (56, .iconst 0, 1), (57, .invokestatic 56, 3), (60, .aload_n 0, 1), (61, .getfield 19, 3)]
def cd_X10_addCorner_2 : List (Nat × Instr × Nat) := [(64, .aload_n 0, 1), (65, .getfield 10, 3), (68, .invokevirtual 60, 3), (71, .aload_n 0, 1), (72, .getfield 10, 3), (75, .getfield 64, 3), (78, .aload_n 0, 1), (79, .getfield 10, 3), (82, .getfield 48, 3), (85, .aaload, 1), (86, .astore 5, 2), (88, .aload 5, 2), (90, .iload_n 1, 1), (91, .putfield 68, 3), (94, .aload 5, 2)]
def cd_X10_addCorner_3 : List (Nat × Instr × Nat) := [(96, .iload_n 2, 1), (97, .putfield 73, 3), (100, .aload 5, 2), (102, .iload_n 3, 1), (103, .putfield 76, 3), (106, .aload 5, 2), (108, .iload 4, 2), (110, .putfield 79, 3), (113, .aload_n 0, 1), (114, .getfield 10, 3), (117, .dup, 1), (118, .getfield 48, 3), (121, .iconst 1, 1), (122, .iadd, 1), (123, .putfield 48, 3), (126, .aload_n 0, 1), (127, .getfield 10, 3)]
def cd_X10_addCorner_4 : List (Nat × Instr × Nat) := [(130, .getfield 48, 3), (133, .iconst 1, 1), (134, .isub, 1), (135, .ireturn, 1)]
def cd_X10_addOrgan_0 : List (Nat × Instr × Nat) := [(0, .iload_n 1, 1), (1, .iconst 0, 1), (2, .bipush 50, 2), (4, .invokestatic 44, 3), (7, .aload_n 0, 1), (8, .getfield 10, 3), (11, .getfield 82, 3), (14, .iconst 5, 1), (15, .if_icmp .ge 7, 3), (18, .iconst 1, 1), (19, .goto 4, 3), (22, .iconst 0, 1), (23, .invokestatic 56, 3), (26, .aload_n 0, 1), (27, .getfield 19, 3), (30, .aload_n 0, 1), (31, .getfield 10, 3)]
def cd_X10_addOrgan_1 : List (Nat × Instr × Nat) := [(34, .invokevirtual 60, 3), (37, .aload_n 0, 1), (38, .getfield 10, 3), (41, .getfield 85, 3), (44, .aload_n 0, 1), (45, .getfield 10, 3), (48, .getfield 82, 3), (51, .aaload, 1), (52, .iload_n 1, 1), (53, .putfield 89, 3), (56, .aload_n 0, 1), (57, .getfield 10, 3), (60, .dup, 1), (61, .getfield 82, 3)]
def cd_X10_addOrgan_2 : List (Nat × Instr × Nat) := [(64, .iconst 1, 1), (65, .iadd, 1), (66, .putfield 82, 3), (69, .aload_n 0, 1), (70, .getfield 10, 3), (73, .getfield 82, 3), (76, .iconst 1, 1), (77, .isub, 1), (78, .ireturn, 1)]
def cd_X10_addPlayer_0 : List (Nat × Instr × Nat) := [(0, .aload_n 0, 1), (1, .getfield 10, 3), (4, .getfield 94, 3), (7, .bipush 8, 2), (9, .if_icmp .ge 7, 3), (12, .iconst 1, 1), (13, .goto 4, 3), (16, .iconst 0, 1), (17, .invokestatic 56, 3), (20, .aload_n 0, 1), (21, .getfield 19, 3), (24, .aload_n 0, 1), (25, .getfield 10, 3), (28, .invokevirtual 60, 3), (31, .aload_n 0, 1)]
def cd_X10_addPlayer_1 : List (Nat × Instr × Nat) := [(32, .getfield 10, 3), (35, .dup, 1), (36, .getfield 94, 3), (39, .iconst 1, 1), (40, .iadd, 1), (41, .putfield 94, 3), (44, .aload_n 0, 1), (45, .getfield 10, 3), (48, .getfield 94, 3), (51, .iconst 1, 1), (52, .isub, 1), (53, .ireturn, 1)]
def cd_X10_permit_0 : List (Nat × Instr × Nat) := [(0, .iload_n 1, 1), (1, .aload_n 0, 1), (2, .getfield 10, 3), (5, .getfield 82, 3), (8, .invokestatic 97, 3), (11, .aload_n 0, 1), (12, .getfield 19, 3), (15, .aload_n 0, 1), (16, .getfield 10, 3), (19, .invokevirtual 60, 3), (22, .aload_n 0, 1), (23, .getfield 10, 3), (26, .getfield 85, 3), (29, .iload_n 1, 1), (30, .aaload, 1), (31, .iload_n 2, 1)]
def cd_X10_permit_1 : List (Nat × Instr × Nat) := [(32, .putfield 101, 3), (35, .aload_n 0, 1), (36, .getfield 10, 3), (39, .invokevirtual 105, 3), (42, .ireturn, 1)]
def cd_X10_barrel_0 : List (Nat × Instr × Nat) := [(0, .iload_n 1, 1), (1, .aload_n 0, 1), (2, .getfield 10, 3), (5, .getfield 82, 3), (8, .invokestatic 97, 3), (11, .iload_n 2, 1), (12, .iconst 0, 1), (13, .sipush 1023, 3), (16, .invokestatic 44, 3), (19, .aload_n 0, 1), (20, .getfield 19, 3), (23, .aload_n 0, 1), (24, .getfield 10, 3), (27, .invokevirtual 60, 3), (30, .aload_n 0, 1), (31, .getfield 10, 3)]
def cd_X10_barrel_1 : List (Nat × Instr × Nat) := [(34, .getfield 85, 3), (37, .iload_n 1, 1), (38, .aaload, 1), (39, .getfield 109, 3), (42, .istore_n 3, 1), (43, .aload_n 0, 1), (44, .getfield 10, 3), (47, .getfield 85, 3), (50, .iload_n 1, 1), (51, .aaload, 1), (52, .iload_n 2, 1), (53, .putfield 109, 3), (56, .iload_n 3, 1), (57, .ireturn, 1)]
def cd_X10_assign_0 : List (Nat × Instr × Nat) := [(0, .iload_n 1, 1), (1, .aload_n 0, 1), (2, .getfield 10, 3), (5, .getfield 94, 3), (8, .invokestatic 97, 3), (11, .iload_n 2, 1), (12, .iconst (-1), 1), (13, .if_icmp .eq 14, 3), (16, .iload_n 2, 1), (17, .aload_n 0, 1), (18, .getfield 10, 3), (21, .getfield 82, 3), (24, .invokestatic 97, 3), (27, .aload_n 0, 1), (28, .getfield 19, 3), (31, .aload_n 0, 1)]
def cd_X10_assign_1 : List (Nat × Instr × Nat) := [(32, .getfield 10, 3), (35, .invokevirtual 60, 3), (38, .aload_n 0, 1), (39, .getfield 10, 3), (42, .getfield 112, 3), (45, .iload_n 1, 1), (46, .aaload, 1), (47, .getfield 116, 3), (50, .istore_n 3, 1), (51, .aload_n 0, 1), (52, .getfield 10, 3), (55, .getfield 112, 3), (58, .iload_n 1, 1), (59, .aaload, 1), (60, .iload_n 2, 1), (61, .putfield 116, 3)]
def cd_X10_assign_2 : List (Nat × Instr × Nat) := [(64, .iload_n 3, 1), (65, .ireturn, 1)]
def cd_X10_set_0 : List (Nat × Instr × Nat) := [(0, .iload_n 1, 1), (1, .iconst 5, 1), (2, .invokestatic 97, 3), (5, .iload_n 2, 1), (6, .iconst 0, 1), (7, .getstatic 121, 3), (10, .iload_n 1, 1), (11, .iaload, 1), (12, .invokestatic 44, 3), (15, .aload_n 0, 1), (16, .getfield 19, 3), (19, .aload_n 0, 1), (20, .getfield 10, 3), (23, .invokevirtual 60, 3), (26, .aload_n 0, 1), (27, .getfield 10, 3), (30, .getfield 125, 3)]
def cd_X10_set_1 : List (Nat × Instr × Nat) := [(33, .iload_n 1, 1), (34, .iaload, 1), (35, .istore_n 3, 1), (36, .aload_n 0, 1), (37, .getfield 10, 3), (40, .getfield 125, 3), (43, .iload_n 1, 1), (44, .iload_n 2, 1), (45, .iastore, 1), (46, .iload_n 3, 1), (47, .ireturn, 1)]
def cd_X10_lots_0 : List (Nat × Instr × Nat) := [(0, .aload_n 0, 1), (1, .getfield 10, 3), (4, .invokevirtual 128, 3), (7, .invokestatic 56, 3), (10, .aload_n 0, 1), (11, .getfield 19, 3), (14, .aload_n 0, 1), (15, .getfield 10, 3), (18, .invokevirtual 60, 3), (21, .aload_n 0, 1), (22, .getfield 10, 3), (25, .invokevirtual 132, 3), (28, .ireturn, 1)]
def cd_X10_weather_0 : List (Nat × Instr × Nat) := [(0, .aload_n 0, 1), (1, .getfield 10, 3), (4, .invokevirtual 135, 3), (7, .invokestatic 56, 3), (10, .aload_n 0, 1), (11, .getfield 19, 3), (14, .aload_n 0, 1), (15, .getfield 10, 3), (18, .invokevirtual 60, 3), (21, .aload_n 0, 1), (22, .getfield 10, 3), (25, .getfield 138, 3), (28, .invokestatic 141, 3), (31, .istore_n 2, 1)]
def cd_X10_weather_1 : List (Nat × Instr × Nat) := [(32, .aload_n 0, 1), (33, .getfield 10, 3), (36, .iload_n 1, 1), (37, .putfield 138, 3), (40, .iload_n 2, 1), (41, .ireturn, 1)]
def cd_X10_play_0 : List (Nat × Instr × Nat) := [(0, .iload_n 1, 1), (1, .aload_n 0, 1), (2, .getfield 10, 3), (5, .getfield 82, 3), (8, .invokestatic 97, 3), (11, .iload_n 2, 1), (12, .iconst 0, 1), (13, .bipush 9, 2), (15, .invokestatic 44, 3), (18, .aload_n 0, 1), (19, .getfield 10, 3), (22, .iload_n 1, 1), (23, .iload_n 2, 1), (24, .invokevirtual 145, 3), (27, .ifCond .ne 7, 3), (30, .iconst 1, 1), (31, .goto 4, 3)]
def cd_X10_play_1 : List (Nat × Instr × Nat) := [(34, .iconst 0, 1), (35, .invokestatic 56, 3), (38, .aload_n 0, 1), (39, .getfield 19, 3), (42, .aload_n 0, 1), (43, .getfield 10, 3), (46, .invokevirtual 60, 3), (49, .aload_n 0, 1), (50, .getfield 10, 3), (53, .iload_n 1, 1), (54, .iload_n 2, 1), (55, .invokevirtual 149, 3), (58, .ireturn, 1)]
def cd_X10_next_0 : List (Nat × Instr × Nat) := [(0, .aload_n 0, 1), (1, .getfield 19, 3), (4, .aload_n 0, 1), (5, .getfield 10, 3), (8, .invokevirtual 60, 3), (11, .aload_n 0, 1), (12, .getfield 10, 3), (15, .aload_n 0, 1), (16, .getfield 33, 3), (19, .invokevirtual 152, 3), (22, .aload_n 0, 1), (23, .getfield 10, 3), (26, .getfield 156, 3), (29, .ireturn, 1)]
def cd_X10_append_0 : List (Nat × Instr × Nat) := [(0, .iload_n 1, 1), (1, .bipush 33, 2), (3, .bipush 126, 2), (5, .invokestatic 44, 3), (8, .aload_n 0, 1), (9, .getfield 26, 3), (12, .getfield 159, 3), (15, .bipush 60, 2), (17, .if_icmp .ge 7, 3), (20, .iconst 1, 1), (21, .goto 4, 3), (24, .iconst 0, 1), (25, .invokestatic 56, 3), (28, .aload_n 0, 1), (29, .getfield 26, 3)]
def cd_X10_append_1 : List (Nat × Instr × Nat) := [(32, .getfield 162, 3), (35, .aload_n 0, 1), (36, .getfield 26, 3), (39, .getfield 159, 3), (42, .iload_n 1, 1), (43, .iastore, 1), (44, .aload_n 0, 1), (45, .getfield 26, 3), (48, .dup, 1), (49, .getfield 159, 3), (52, .iconst 1, 1), (53, .iadd, 1), (54, .putfield 159, 3), (57, .aload_n 0, 1), (58, .getfield 26, 3), (61, .getfield 159, 3)]
def cd_X10_append_2 : List (Nat × Instr × Nat) := [(64, .ireturn, 1)]
def cd_X10_clearBuffer_0 : List (Nat × Instr × Nat) := [(0, .aload_n 0, 1), (1, .getfield 26, 3), (4, .getfield 159, 3), (7, .istore_n 1, 1), (8, .aload_n 0, 1), (9, .getfield 26, 3), (12, .iconst 0, 1), (13, .putfield 159, 3), (16, .iload_n 1, 1), (17, .ireturn, 1)]
def cd_X10_run_0 : List (Nat × Instr × Nat) := [(0, .aload_n 0, 1), (1, .getfield 26, 3), (4, .invokevirtual 168, 3), (7, .ifCond .ne 13, 3), (10, .new 171, 3), (13, .dup, 1), (14, .ldc 173, 2), (16, .invokespecial 175, 3), (19, .athrow, 1), (20, .aload_n 0, 1), (21, .getfield 19, 3), (24, .aload_n 0, 1), (25, .getfield 10, 3), (28, .invokevirtual 60, 3), (31, .iconst 0, 1)]
def cd_X10_run_1 : List (Nat × Instr × Nat) := [(32, .istore_n 1, 1), (33, .iconst 0, 1), (34, .istore_n 2, 1), (35, .iload_n 2, 1), (36, .aload_n 0, 1), (37, .getfield 26, 3), (40, .getfield 159, 3), (43, .if_icmp .ge 43, 3), (46, .aload_n 0, 1), (47, .getfield 26, 3), (50, .iload_n 2, 1), (51, .invokevirtual 178, 3), (54, .astore_n 3, 1), (55, .aload_n 3, 1), (56, .ifnull 30, 3), (59, .aload_n 0, 1), (60, .aload_n 3, 1), (61, .iload_n 2, 1), (62, .invokevirtual 182, 3)]
def cd_X10_run_2 : List (Nat × Instr × Nat) := [(65, .ifCond .ne 6, 3), (68, .goto 18, 3), (71, .iinc 1 1, 3), (74, .iload_n 2, 1), (75, .aload_n 3, 1), (76, .invokevirtual 186, 3), (79, .iconst 1, 1), (80, .iadd, 1), (81, .iadd, 1), (82, .istore_n 2, 1), (83, .goto (-48), 3), (86, .aload_n 0, 1), (87, .getfield 26, 3), (90, .iconst 0, 1), (91, .putfield 159, 3), (94, .iload_n 1, 1), (95, .ireturn, 1)]
def cd_X10_corner_0 : List (Nat × Instr × Nat) := [(0, .iload_n 1, 1), (1, .aload_n 0, 1), (2, .getfield 10, 3), (5, .getfield 48, 3), (8, .invokestatic 97, 3), (11, .iload_n 2, 1), (12, .iconst 0, 1), (13, .iconst 5, 1), (14, .invokestatic 44, 3), (17, .aload_n 0, 1), (18, .getfield 10, 3), (21, .getfield 64, 3), (24, .iload_n 1, 1), (25, .aaload, 1), (26, .astore_n 3, 1), (27, .iload_n 2, 1), (28, .tableswitch 78 0 4 #[36, 41, 46, 61, 70], 36)]
def cd_X10_corner_1 : List (Nat × Instr × Nat) := []
def cd_X10_corner_2 : List (Nat × Instr × Nat) := [(64, .aload_n 3, 1), (65, .getfield 68, 3), (68, .ireturn, 1), (69, .aload_n 3, 1), (70, .getfield 73, 3), (73, .ireturn, 1), (74, .aload_n 3, 1), (75, .aload_n 0, 1), (76, .getfield 10, 3), (79, .getfield 156, 3), (82, .invokevirtual 197, 3), (85, .invokestatic 141, 3), (88, .ireturn, 1), (89, .aload_n 0, 1), (90, .getfield 10, 3), (93, .iload_n 1, 1), (94, .invokevirtual 200, 3)]
def cd_X10_corner_3 : List (Nat × Instr × Nat) := [(97, .ireturn, 1), (98, .aload_n 3, 1), (99, .iconst 0, 1), (100, .bipush 9, 2), (102, .invokevirtual 204, 3), (105, .ireturn, 1), (106, .aload_n 0, 1), (107, .getfield 10, 3), (110, .aload_n 3, 1), (111, .invokevirtual 207, 3), (114, .ireturn, 1)]
def cd_X10_organ_0 : List (Nat × Instr × Nat) := [(0, .iload_n 1, 1), (1, .aload_n 0, 1), (2, .getfield 10, 3), (5, .getfield 82, 3), (8, .invokestatic 97, 3), (11, .iload_n 2, 1), (12, .iconst 0, 1), (13, .bipush 8, 2), (15, .invokestatic 44, 3), (18, .aload_n 0, 1), (19, .getfield 10, 3), (22, .getfield 85, 3), (25, .iload_n 1, 1), (26, .aaload, 1), (27, .astore_n 3, 1), (28, .iload_n 2, 1), (29, .tableswitch 94 0 7 #[47, 52, 60, 65, 70, 79, 84, 89], 47)]
def cd_X10_organ_1 : List (Nat × Instr × Nat) := []
def cd_X10_organ_2 : List (Nat × Instr × Nat) := [(76, .aload_n 3, 1), (77, .getfield 89, 3), (80, .ireturn, 1), (81, .aload_n 3, 1), (82, .getfield 101, 3), (85, .invokestatic 141, 3), (88, .ireturn, 1), (89, .aload_n 3, 1), (90, .getfield 109, 3), (93, .ireturn, 1), (94, .aload_n 3, 1), (95, .getfield 211, 3)]
def cd_X10_organ_3 : List (Nat × Instr × Nat) := [(98, .ireturn, 1), (99, .aload_n 0, 1), (100, .getfield 10, 3), (103, .iload_n 1, 1), (104, .invokevirtual 214, 3), (107, .ireturn, 1), (108, .aload_n 3, 1), (109, .getfield 217, 3), (112, .ireturn, 1), (113, .aload_n 3, 1), (114, .getfield 220, 3), (117, .ireturn, 1), (118, .aload_n 3, 1), (119, .getfield 223, 3), (122, .ireturn, 1), (123, .aload_n 3, 1), (124, .getfield 226, 3), (127, .ireturn, 1)]
def cd_X10_player_0 : List (Nat × Instr × Nat) := [(0, .iload_n 1, 1), (1, .aload_n 0, 1), (2, .getfield 10, 3), (5, .getfield 94, 3), (8, .invokestatic 97, 3), (11, .iload_n 2, 1), (12, .iconst 0, 1), (13, .iconst 4, 1), (14, .invokestatic 44, 3), (17, .aload_n 0, 1), (18, .getfield 10, 3), (21, .getfield 112, 3), (24, .iload_n 1, 1), (25, .aaload, 1), (26, .astore_n 3, 1), (27, .iload_n 2, 1), (28, .tableswitch 52 0 3 #[32, 37, 42, 47], 32)]
def cd_X10_player_1 : List (Nat × Instr × Nat) := [(60, .aload_n 3, 1), (61, .getfield 116, 3)]
def cd_X10_player_2 : List (Nat × Instr × Nat) := [(64, .ireturn, 1), (65, .aload_n 3, 1), (66, .invokevirtual 229, 3), (69, .ireturn, 1), (70, .aload_n 3, 1), (71, .getfield 232, 3), (74, .ireturn, 1), (75, .aload_n 3, 1), (76, .getfield 235, 3), (79, .ireturn, 1), (80, .aload_n 3, 1), (81, .getfield 238, 3), (84, .ireturn, 1)]
def cd_X10_hours_0 : List (Nat × Instr × Nat) := [(0, .iload_n 1, 1), (1, .aload_n 0, 1), (2, .getfield 10, 3), (5, .getfield 94, 3), (8, .invokestatic 97, 3), (11, .iload_n 2, 1), (12, .aload_n 0, 1), (13, .getfield 10, 3), (16, .getfield 82, 3), (19, .invokestatic 97, 3), (22, .aload_n 0, 1), (23, .getfield 10, 3), (26, .getfield 112, 3), (29, .iload_n 1, 1), (30, .aaload, 1), (31, .getfield 241, 3)]
def cd_X10_hours_1 : List (Nat × Instr × Nat) := [(34, .iload_n 2, 1), (35, .iaload, 1), (36, .ireturn, 1)]
def cd_X10_count_0 : List (Nat × Instr × Nat) := [(0, .iload_n 1, 1), (1, .iconst 0, 1), (2, .bipush 15, 2), (4, .invokestatic 44, 3), (7, .iload_n 1, 1), (8, .tableswitch 199 0 14 #[76, 84, 92, 100, 108, 116, 127, 135, 143, 151, 159, 167, 175, 183, 191], 76)]
def cd_X10_count_1 : List (Nat × Instr × Nat) := []
def cd_X10_count_2 : List (Nat × Instr × Nat) := [(84, .aload_n 0, 1), (85, .getfield 10, 3), (88, .getfield 48, 3), (91, .ireturn, 1), (92, .aload_n 0, 1), (93, .getfield 10, 3)]
def cd_X10_count_3 : List (Nat × Instr × Nat) := [(96, .getfield 82, 3), (99, .ireturn, 1), (100, .aload_n 0, 1), (101, .getfield 10, 3), (104, .getfield 94, 3), (107, .ireturn, 1), (108, .aload_n 0, 1), (109, .getfield 10, 3), (112, .getfield 244, 3), (115, .ireturn, 1), (116, .aload_n 0, 1), (117, .getfield 10, 3), (120, .getfield 156, 3), (123, .ireturn, 1), (124, .aload_n 0, 1), (125, .getfield 10, 3)]
def cd_X10_count_4 : List (Nat × Instr × Nat) := [(128, .getfield 138, 3), (131, .invokestatic 141, 3), (134, .ireturn, 1), (135, .aload_n 0, 1), (136, .getfield 10, 3), (139, .getfield 247, 3), (142, .ireturn, 1), (143, .aload_n 0, 1), (144, .getfield 10, 3), (147, .getfield 250, 3), (150, .ireturn, 1), (151, .aload_n 0, 1), (152, .getfield 10, 3), (155, .getfield 253, 3), (158, .ireturn, 1), (159, .aload_n 0, 1)]
def cd_X10_count_5 : List (Nat × Instr × Nat) := [(160, .getfield 10, 3), (163, .invokevirtual 256, 3), (166, .ireturn, 1), (167, .aload_n 0, 1), (168, .getfield 10, 3), (171, .getfield 259, 3), (174, .ireturn, 1), (175, .aload_n 0, 1), (176, .getfield 10, 3), (179, .getfield 262, 3), (182, .ireturn, 1), (183, .aload_n 0, 1), (184, .getfield 10, 3), (187, .invokevirtual 265, 3), (190, .ireturn, 1), (191, .aload_n 0, 1)]
def cd_X10_count_6 : List (Nat × Instr × Nat) := [(192, .getfield 10, 3), (195, .invokevirtual 268, 3), (198, .ireturn, 1), (199, .aload_n 0, 1), (200, .getfield 10, 3), (203, .invokevirtual 271, 3), (206, .ireturn, 1), (207, .aload_n 0, 1), (208, .getfield 19, 3), (211, .getfield 191, 3), (214, .ireturn, 1)]
def cd_X10_setting_0 : List (Nat × Instr × Nat) := [(0, .iload_n 1, 1), (1, .iconst 5, 1), (2, .invokestatic 97, 3), (5, .aload_n 0, 1), (6, .getfield 10, 3), (9, .getfield 125, 3), (12, .iload_n 1, 1), (13, .iaload, 1), (14, .ireturn, 1)]
def cd_X10_whyNot_0 : List (Nat × Instr × Nat) := [(0, .iload_n 1, 1), (1, .aload_n 0, 1), (2, .getfield 10, 3), (5, .getfield 82, 3), (8, .invokestatic 97, 3), (11, .iload_n 2, 1), (12, .iconst 0, 1), (13, .bipush 9, 2), (15, .invokestatic 44, 3), (18, .aload_n 0, 1), (19, .getfield 10, 3), (22, .iload_n 1, 1), (23, .iload_n 2, 1), (24, .invokevirtual 145, 3), (27, .ireturn, 1)]
def cd_X10_ifPlayed_0 : List (Nat × Instr × Nat) := [(0, .iload_n 1, 1), (1, .aload_n 0, 1), (2, .getfield 10, 3), (5, .getfield 82, 3), (8, .invokestatic 97, 3), (11, .aload_n 0, 1), (12, .getfield 10, 3), (15, .iload_n 1, 1), (16, .invokevirtual 274, 3), (19, .ifCond .ne 5, 3), (22, .iconst (-1), 1), (23, .ireturn, 1), (24, .aload_n 0, 1), (25, .getfield 10, 3), (28, .iload_n 1, 1), (29, .aload_n 0, 1), (30, .getfield 10, 3)]
def cd_X10_ifPlayed_1 : List (Nat × Instr × Nat) := [(33, .iload_n 1, 1), (34, .invokevirtual 277, 3), (37, .invokevirtual 280, 3), (40, .ireturn, 1)]
def cd_X10_kindestTune_0 : List (Nat × Instr × Nat) := [(0, .iload_n 1, 1), (1, .aload_n 0, 1), (2, .getfield 10, 3), (5, .getfield 82, 3), (8, .invokestatic 97, 3), (11, .aload_n 0, 1), (12, .getfield 40, 3), (15, .aload_n 0, 1), (16, .getfield 10, 3), (19, .invokevirtual 283, 3), (22, .aload_n 0, 1), (23, .getfield 40, 3), (26, .aload_n 0, 1), (27, .getfield 10, 3), (30, .iload_n 1, 1), (31, .invokevirtual 286, 3)]
def cd_X10_kindestTune_1 : List (Nat × Instr × Nat) := [(34, .ireturn, 1)]
def cd_X10_most_0 : List (Nat × Instr × Nat) := [(0, .iload_n 1, 1), (1, .iconst 0, 1), (2, .iconst 1, 1), (3, .invokestatic 44, 3), (6, .aload_n 0, 1), (7, .getfield 40, 3), (10, .aload_n 0, 1), (11, .getfield 10, 3), (14, .invokevirtual 283, 3), (17, .aload_n 0, 1), (18, .getfield 40, 3), (21, .aload_n 0, 1), (22, .getfield 10, 3), (25, .invokevirtual 290, 3), (28, .iload_n 1, 1), (29, .ifCond .ne 13, 3)]
def cd_X10_most_1 : List (Nat × Instr × Nat) := [(32, .aload_n 0, 1), (33, .getfield 40, 3), (36, .getfield 293, 3), (39, .goto 10, 3), (42, .aload_n 0, 1), (43, .getfield 40, 3), (46, .getfield 296, 3), (49, .ireturn, 1)]
def cd_X10_ifEnded_0 : List (Nat × Instr × Nat) := [(0, .iload_n 1, 1), (1, .aload_n 0, 1), (2, .getfield 10, 3), (5, .getfield 94, 3), (8, .invokestatic 97, 3), (11, .aload_n 0, 1), (12, .getfield 33, 3), (15, .aload_n 0, 1), (16, .getfield 10, 3), (19, .invokevirtual 299, 3), (22, .aload_n 0, 1), (23, .getfield 33, 3), (26, .getfield 302, 3), (29, .iload_n 1, 1), (30, .iaload, 1), (31, .aload_n 0, 1)]
def cd_X10_ifEnded_1 : List (Nat × Instr × Nat) := [(32, .getfield 33, 3), (35, .getfield 305, 3), (38, .iload_n 1, 1), (39, .iaload, 1), (40, .iadd, 1), (41, .ireturn, 1)]
def cd_X10_playersShare_0 : List (Nat × Instr × Nat) := [(0, .aload_n 0, 1), (1, .getfield 10, 3), (4, .invokevirtual 256, 3), (7, .istore_n 1, 1), (8, .iload_n 1, 1), (9, .ifCond .ne 5, 3), (12, .dconst 0, 1), (13, .dreturn, 1), (14, .aload_n 0, 1), (15, .getfield 10, 3), (18, .invokevirtual 271, 3), (21, .i2d, 1), (22, .iload_n 1, 1), (23, .i2d, 1), (24, .ddiv, 1), (25, .dreturn, 1)]
def cd_X10_requireIndex_0 : List (Nat × Instr × Nat) := [(0, .iload_n 0, 1), (1, .ifCond .lt 8, 3), (4, .iload_n 0, 1), (5, .iload_n 1, 1), (6, .if_icmp .lt 14, 3), (9, .new 344, 3), (12, .dup, 1), (13, .ldc_w 346, 3), (16, .invokespecial 348, 3), (19, .athrow, 1), (20, .return_, 1)]
def cd_X10_requireInRange_0 : List (Nat × Instr × Nat) := [(0, .iload_n 0, 1), (1, .iload_n 1, 1), (2, .if_icmp .lt 8, 3), (5, .iload_n 0, 1), (6, .iload_n 2, 1), (7, .if_icmp .le 14, 3), (10, .new 171, 3), (13, .dup, 1), (14, .ldc_w 349, 3), (17, .invokespecial 175, 3), (20, .athrow, 1), (21, .return_, 1)]
def cd_X10_requireState_0 : List (Nat × Instr × Nat) := [(0, .iload_n 0, 1), (1, .ifCond .ne 14, 3), (4, .new 351, 3), (7, .dup, 1), (8, .ldc_w 353, 3), (11, .invokespecial 355, 3), (14, .athrow, 1), (15, .return_, 1)]
def cd_X10_asNumber_0 : List (Nat × Instr × Nat) := [(0, .iload_n 0, 1), (1, .ifCond .eq 7, 3), (4, .iconst 1, 1), (5, .goto 4, 3), (8, .iconst 0, 1), (9, .ireturn, 1)]
def cd_X10_holds_0 : List (Nat × Instr × Nat) := [(0, .iload_n 0, 1), (1, .iload_n 1, 1), (2, .ishr, 1), (3, .iconst 1, 1), (4, .iand, 1), (5, .iconst 1, 1), (6, .if_icmp .ne 7, 3), (9, .iconst 1, 1), (10, .goto 4, 3), (13, .iconst 0, 1), (14, .ireturn, 1)]
def cd_X10_obey_0 : List (Nat × Instr × Nat) := [(0, .getstatic 356, 3), (3, .aload_n 1, 1), (4, .invokevirtual 361, 3), (7, .iaload, 1), (8, .tableswitch 100 1 4 #[32, 54, 54, 87], 32)]
def cd_X10_obey_1 : List (Nat × Instr × Nat) := [(40, .aload_n 0, 1), (41, .getfield 10, 3), (44, .invokevirtual 128, 3), (47, .ifCond .ne 5, 3), (50, .iconst 0, 1), (51, .ireturn, 1), (52, .aload_n 0, 1), (53, .getfield 10, 3), (56, .invokevirtual 132, 3), (59, .pop, 1), (60, .iconst 1, 1), (61, .ireturn, 1), (62, .aload_n 0, 1), (63, .getfield 10, 3)]
def cd_X10_obey_2 : List (Nat × Instr × Nat) := [(66, .invokevirtual 135, 3), (69, .ifCond .ne 5, 3), (72, .iconst 0, 1), (73, .ireturn, 1), (74, .aload_n 0, 1), (75, .getfield 10, 3), (78, .aload_n 1, 1), (79, .getstatic 364, 3), (82, .if_acmp .ne 7, 3), (85, .iconst 1, 1), (86, .goto 4, 3), (89, .iconst 0, 1), (90, .putfield 138, 3), (93, .iconst 1, 1), (94, .ireturn, 1), (95, .aload_n 0, 1)]
def cd_X10_obey_3 : List (Nat × Instr × Nat) := [(96, .getfield 10, 3), (99, .aload_n 0, 1), (100, .getfield 33, 3), (103, .invokevirtual 152, 3), (106, .iconst 1, 1), (107, .ireturn, 1), (108, .aload_n 0, 1), (109, .aload_n 0, 1), (110, .getfield 26, 3), (113, .iload_n 2, 1), (114, .invokevirtual 368, 3), (117, .aload_n 0, 1), (118, .getfield 26, 3), (121, .iload_n 2, 1), (122, .invokevirtual 369, 3), (125, .invokevirtual 372, 3)]
def cd_X10_obey_4 : List (Nat × Instr × Nat) := [(128, .ireturn, 1)]
def cd_X10_obeyPlay_0 : List (Nat × Instr × Nat) := [(0, .iload_n 1, 1), (1, .ifCond .lt 36, 3), (4, .iload_n 1, 1), (5, .aload_n 0, 1), (6, .getfield 10, 3), (9, .getfield 82, 3), (12, .if_icmp .ge 25, 3), (15, .iload_n 2, 1), (16, .ifCond .lt 21, 3), (19, .iload_n 2, 1), (20, .bipush 10, 2), (22, .if_icmp .ge 15, 3), (25, .aload_n 0, 1), (26, .getfield 10, 3), (29, .iload_n 1, 1), (30, .iload_n 2, 1), (31, .invokevirtual 145, 3)]
def cd_X10_obeyPlay_1 : List (Nat × Instr × Nat) := [(34, .ifCond .eq 5, 3), (37, .iconst 0, 1), (38, .ireturn, 1), (39, .aload_n 0, 1), (40, .getfield 10, 3), (43, .iload_n 1, 1), (44, .iload_n 2, 1), (45, .invokevirtual 149, 3), (48, .pop, 1), (49, .iconst 1, 1), (50, .ireturn, 1)]
def cd_L_cell_0 : List (Nat × Instr × Nat) := [(0, .iload_n 1, 1), (1, .aload_n 0, 1), (2, .arraylength, 1), (3, .if_icmp .ge 9, 3), (6, .aload_n 0, 1), (7, .iload_n 1, 1), (8, .iaload, 1), (9, .goto 9, 3), (12, .ldc 7, 2), (14, .iload_n 1, 1), (15, .iconst 1, 1), (16, .iadd, 1), (17, .imul, 1), (18, .ireturn, 1)]
def cd_L_at_0 : List (Nat × Instr × Nat) := [(0, .iload_n 0, 1), (1, .iconst 1, 1), (2, .iushr, 1), (3, .iload_n 1, 1), (4, .irem, 1), (5, .ireturn, 1)]
def cd_L_abs_0 : List (Nat × Instr × Nat) := [(0, .iload_n 0, 1), (1, .ifCond .ge 8, 3), (4, .iload_n 0, 1), (5, .ineg, 1), (6, .goto 4, 3), (9, .iload_n 0, 1), (10, .ireturn, 1)]
def cd_L_draw_0 : List (Nat × Instr × Nat) := [(0, .aload_n 1, 1), (1, .bipush 6, 2), (3, .ldc2_w 8, 3), (6, .aload_n 1, 1), (7, .bipush 6, 2), (9, .iaload, 1), (10, .i2l, 1), (11, .lmul, 1), (12, .ldc2_w 10, 3), (15, .ladd, 1), (16, .ldc2_w 12, 3), (19, .lrem, 1), (20, .l2i, 1), (21, .iastore, 1), (22, .aload_n 1, 1), (23, .bipush 6, 2), (25, .iaload, 1), (26, .ldc 14, 2), (28, .idiv, 1), (29, .iload_n 0, 1), (30, .irem, 1), (31, .ireturn, 1)]
def cd_L_holder_0 : List (Nat × Instr × Nat) := [(0, .iconst 0, 1), (1, .istore_n 3, 1), (2, .iload_n 3, 1), (3, .aload_n 2, 1), (4, .iconst 1, 1), (5, .iaload, 1), (6, .if_icmp .ge 23, 3), (9, .aload_n 1, 1), (10, .bipush 7, 2), (12, .iload_n 3, 1), (13, .imul, 1), (14, .iconst 3, 1), (15, .iadd, 1), (16, .iaload, 1), (17, .iload_n 0, 1), (18, .if_icmp .ne 5, 3), (21, .iload_n 3, 1), (22, .ireturn, 1), (23, .iinc 3 1, 3), (26, .goto (-24), 3), (29, .iconst (-1), 1), (30, .ireturn, 1)]
def cd_L_today_0 : List (Nat × Instr × Nat) := [(0, .iconst 0, 1), (1, .istore_n 1, 1), (2, .iconst 0, 1), (3, .istore_n 2, 1), (4, .iload_n 2, 1), (5, .bipush 30, 2), (7, .if_icmp .ge 23, 3), (10, .iload_n 1, 1), (11, .aload_n 0, 1), (12, .iload_n 2, 1), (13, .iaload, 1), (14, .ifCond .ge 7, 3), (17, .iconst 0, 1), (18, .goto 4, 3), (21, .iconst 1, 1), (22, .iadd, 1), (23, .istore_n 1, 1), (24, .iinc 2 1, 3), (27, .goto (-23), 3), (30, .iload_n 1, 1), (31, .ireturn, 1)]
def cd_L_drawn_0 : List (Nat × Instr × Nat) := [(0, .iconst 0, 1), (1, .istore_n 2, 1), (2, .iconst 0, 1), (3, .istore_n 3, 1), (4, .iload_n 3, 1), (5, .aload_n 1, 1), (6, .iconst 1, 1), (7, .iaload, 1), (8, .if_icmp .ge 18, 3), (11, .aload_n 0, 1), (12, .bipush 7, 2), (14, .iload_n 3, 1), (15, .imul, 1), (16, .iconst 3, 1), (17, .iadd, 1), (18, .iconst (-1), 1), (19, .iastore, 1), (20, .iinc 3 1, 3), (23, .goto (-19), 3), (26, .iconst 0, 1), (27, .istore_n 3, 1), (28, .iload_n 3, 1), (29, .aload_n 1, 1), (30, .iconst 1, 1), (31, .iaload, 1)]
def cd_L_drawn_1 : List (Nat × Instr × Nat) := [(32, .if_icmp .ge 133, 3), (35, .iconst 0, 1), (36, .istore 4, 2), (38, .iconst 0, 1), (39, .istore 5, 2), (41, .iload 5, 2), (43, .aload_n 1, 1), (44, .iconst 0, 1), (45, .iaload, 1), (46, .if_icmp .ge 29, 3), (49, .iload 4, 2), (51, .iload 5, 2), (53, .aload_n 0, 1), (54, .aload_n 1, 1), (55, .invokestatic 15, 3), (58, .ifCond .ge 7, 3), (61, .iconst 1, 1), (62, .goto 4, 3)]
def cd_L_drawn_2 : List (Nat × Instr × Nat) := [(65, .iconst 0, 1), (66, .iadd, 1), (67, .istore 4, 2), (69, .iinc 5 1, 3), (72, .goto (-31), 3), (75, .aload_n 0, 1), (76, .bipush 7, 2), (78, .iload_n 3, 1), (79, .imul, 1), (80, .iconst 1, 1), (81, .iadd, 1), (82, .iaload, 1), (83, .ifCond .eq 76, 3), (86, .iload 4, 2), (88, .ifCond .ne 6, 3), (91, .goto 68, 3), (94, .iload 4, 2)]
def cd_L_drawn_3 : List (Nat × Instr × Nat) := [(96, .aload_n 1, 1), (97, .invokestatic 21, 3), (100, .istore 5, 2), (102, .iconst 0, 1), (103, .istore 6, 2), (105, .iload 6, 2), (107, .aload_n 0, 1), (108, .aload_n 1, 1), (109, .invokestatic 15, 3), (112, .ifCond .ge 8, 3), (115, .iload 5, 2), (117, .ifCond .le 29, 3), (120, .iload 5, 2), (122, .iload 6, 2), (124, .aload_n 0, 1), (125, .aload_n 1, 1), (126, .invokestatic 15, 3)]
def cd_L_drawn_4 : List (Nat × Instr × Nat) := [(129, .ifCond .ge 7, 3), (132, .iconst 1, 1), (133, .goto 4, 3), (136, .iconst 0, 1), (137, .isub, 1), (138, .istore 5, 2), (140, .iinc 6 1, 3), (143, .goto (-38), 3), (146, .aload_n 0, 1), (147, .bipush 7, 2), (149, .iload_n 3, 1), (150, .imul, 1), (151, .iconst 3, 1), (152, .iadd, 1), (153, .iload 6, 2), (155, .iastore, 1), (156, .iinc 2 1, 3), (159, .iinc 3 1, 3)]
def cd_L_drawn_5 : List (Nat × Instr × Nat) := [(162, .goto (-134), 3), (165, .iload_n 2, 1), (166, .ireturn, 1)]
def cd_L_near_0 : List (Nat × Instr × Nat) := [(0, .aload_n 2, 1), (1, .iconst 4, 1), (2, .iload_n 0, 1), (3, .imul, 1), (4, .iaload, 1), (5, .aload_n 2, 1), (6, .iconst 4, 1), (7, .iload_n 1, 1), (8, .imul, 1), (9, .iaload, 1), (10, .isub, 1), (11, .invokestatic 25, 3), (14, .aload_n 3, 1), (15, .iconst 0, 1), (16, .iaload, 1), (17, .if_icmp .gt 7, 3), (20, .iconst 1, 1), (21, .goto 4, 3), (24, .iconst 0, 1), (25, .ireturn, 1)]
def cd_L_quiet_0 : List (Nat × Instr × Nat) := [(0, .iconst 0, 1), (1, .istore_n 3, 1), (2, .iload_n 3, 1), (3, .aload_n 1, 1), (4, .iconst 4, 1), (5, .iload_n 0, 1), (6, .imul, 1), (7, .iconst 3, 1), (8, .iadd, 1), (9, .iaload, 1), (10, .if_icmp .ge 29, 3), (13, .aload_n 1, 1), (14, .iconst 4, 1), (15, .iload_n 0, 1), (16, .imul, 1), (17, .iconst 2, 1), (18, .iadd, 1), (19, .iaload, 1), (20, .iload_n 3, 1), (21, .iadd, 1), (22, .bipush 10, 2), (24, .irem, 1), (25, .aload_n 2, 1), (26, .iconst 4, 1), (27, .iaload, 1), (28, .if_icmp .ne 5, 3), (31, .iconst 1, 1)]
def cd_L_quiet_1 : List (Nat × Instr × Nat) := [(32, .ireturn, 1), (33, .iinc 3 1, 3), (36, .goto (-34), 3), (39, .iconst 0, 1), (40, .ireturn, 1)]
def cd_L_heard_0 : List (Nat × Instr × Nat) := [(0, .iconst 0, 1), (1, .istore 6, 2), (3, .iconst 0, 1), (4, .istore 7, 2), (6, .iload 7, 2), (8, .aload 5, 2), (10, .iconst 1, 1), (11, .iaload, 1), (12, .if_icmp .ge 102, 3), (15, .iconst 0, 1), (16, .istore 8, 2), (18, .iload 8, 2), (20, .aload 5, 2), (22, .iconst 4, 1), (23, .iaload, 1), (24, .if_icmp .gt 84, 3), (27, .aload_n 2, 1), (28, .bipush 7, 2), (30, .iload 7, 2)]
def cd_L_heard_1 : List (Nat × Instr × Nat) := [(32, .imul, 1), (33, .iconst 3, 1), (34, .iadd, 1), (35, .iaload, 1), (36, .ifCond .lt 66, 3), (39, .iload_n 0, 1), (40, .aload_n 2, 1), (41, .bipush 7, 2), (43, .iload 7, 2), (45, .imul, 1), (46, .iconst 3, 1), (47, .iadd, 1), (48, .iaload, 1), (49, .aload_n 1, 1), (50, .aload 4, 2), (52, .invokestatic 29, 3), (55, .ifCond .eq 47, 3), (58, .aload 5, 2), (60, .iconst 4, 1), (61, .iaload, 1), (62, .iload 8, 2)]
def cd_L_heard_2 : List (Nat × Instr × Nat) := [(64, .isub, 1), (65, .aload 4, 2), (67, .iconst 1, 1), (68, .iaload, 1), (69, .if_icmp .gt 33, 3), (72, .aload_n 3, 1), (73, .bipush 10, 2), (75, .iload 7, 2), (77, .imul, 1), (78, .iload 8, 2), (80, .iadd, 1), (81, .iaload, 1), (82, .ifCond .lt 20, 3), (85, .iload 6, 2), (87, .iconst 1, 1), (88, .aload_n 3, 1), (89, .bipush 10, 2), (91, .iload 7, 2), (93, .imul, 1), (94, .iload 8, 2)]
def cd_L_heard_3 : List (Nat × Instr × Nat) := [(96, .iadd, 1), (97, .iaload, 1), (98, .ishl, 1), (99, .ior, 1), (100, .istore 6, 2), (102, .iinc 8 1, 3), (105, .goto (-87), 3), (108, .iinc 7 1, 3), (111, .goto (-105), 3), (114, .iload 6, 2), (116, .ireturn, 1)]
def cd_L_crew_0 : List (Nat × Instr × Nat) := [(0, .iconst 0, 1), (1, .istore_n 3, 1), (2, .iconst 0, 1), (3, .istore 4, 2), (5, .iload 4, 2), (7, .aload_n 2, 1), (8, .iconst 2, 1), (9, .iaload, 1), (10, .if_icmp .ge 27, 3), (13, .iload_n 3, 1), (14, .aload_n 1, 1), (15, .iconst 4, 1), (16, .iload 4, 2), (18, .imul, 1), (19, .iaload, 1), (20, .iload_n 0, 1), (21, .if_icmp .ne 7, 3), (24, .iconst 1, 1), (25, .goto 4, 3), (28, .iconst 0, 1), (29, .iadd, 1), (30, .istore_n 3, 1), (31, .iinc 4 1, 3)]
def cd_L_crew_1 : List (Nat × Instr × Nat) := [(34, .goto (-29), 3), (37, .iload_n 3, 1), (38, .ireturn, 1)]
def cd_L_why_0 : List (Nat × Instr × Nat) := [(0, .aload_n 3, 1), (1, .bipush 7, 2), (3, .iload_n 0, 1), (4, .imul, 1), (5, .iconst 3, 1), (6, .iadd, 1), (7, .iaload, 1), (8, .istore 8, 2), (10, .iload 8, 2), (12, .ifCond .ge 5, 3), (15, .iconst 1, 1), (16, .ireturn, 1), (17, .iload_n 0, 1), (18, .aload 4, 2), (20, .aload 7, 2), (22, .invokestatic 33, 3), (25, .ifCond .ne 5, 3), (28, .iconst 2, 1), (29, .ireturn, 1), (30, .aload_n 3, 1), (31, .bipush 7, 2)]
def cd_L_why_1 : List (Nat × Instr × Nat) := [(33, .iload_n 0, 1), (34, .imul, 1), (35, .iconst 2, 1), (36, .iadd, 1), (37, .iaload, 1), (38, .iconst 1, 1), (39, .iload_n 1, 1), (40, .ishl, 1), (41, .iand, 1), (42, .ifCond .ne 5, 3), (45, .iconst 3, 1), (46, .ireturn, 1), (47, .aload 5, 2), (49, .bipush 10, 2), (51, .iload_n 0, 1), (52, .imul, 1), (53, .aload 7, 2), (55, .iconst 4, 1), (56, .iaload, 1), (57, .iadd, 1), (58, .iaload, 1), (59, .ifCond .lt 5, 3), (62, .iconst 4, 1), (63, .ireturn, 1)]
def cd_L_why_2 : List (Nat × Instr × Nat) := [(64, .iload 8, 2), (66, .aload_n 2, 1), (67, .aload 7, 2), (69, .invokestatic 36, 3), (72, .ifCond .eq 5, 3), (75, .iconst 5, 1), (76, .ireturn, 1), (77, .iload 8, 2), (79, .aload_n 2, 1), (80, .aload_n 3, 1), (81, .aload 5, 2), (83, .aload 6, 2), (85, .aload 7, 2), (87, .invokestatic 40, 3), (90, .iconst 1, 1), (91, .iload_n 1, 1), (92, .ishl, 1), (93, .iand, 1), (94, .ifCond .eq 8, 3)]
def cd_L_why_3 : List (Nat × Instr × Nat) := [(97, .bipush 6, 2), (99, .goto 4, 3), (102, .iconst 0, 1), (103, .ireturn, 1)]
def cd_L_takes_0 : List (Nat × Instr × Nat) := [(0, .bipush 10, 2), (2, .istore 6, 2), (4, .iconst 0, 1), (5, .istore 7, 2), (7, .iload 7, 2), (9, .aload 5, 2), (11, .iconst 1, 1), (12, .iaload, 1), (13, .if_icmp .ge 66, 3), (16, .iload 6, 2), (18, .iload 7, 2), (20, .iload_n 0, 1), (21, .if_icmp .eq 48, 3), (24, .aload_n 3, 1), (25, .bipush 10, 2), (27, .iload 7, 2), (29, .imul, 1), (30, .aload 5, 2)]
def cd_L_takes_1 : List (Nat × Instr × Nat) := [(32, .iconst 4, 1), (33, .iaload, 1), (34, .iadd, 1), (35, .iaload, 1), (36, .ifCond .lt 33, 3), (39, .aload_n 2, 1), (40, .bipush 7, 2), (42, .iload_n 0, 1), (43, .imul, 1), (44, .iconst 3, 1), (45, .iadd, 1), (46, .iaload, 1), (47, .aload_n 2, 1), (48, .bipush 7, 2), (50, .iload 7, 2), (52, .imul, 1), (53, .iconst 3, 1), (54, .iadd, 1), (55, .iaload, 1), (56, .aload_n 1, 1), (57, .aload 4, 2), (59, .invokestatic 29, 3), (62, .ifCond .eq 7, 3)]
def cd_L_takes_2 : List (Nat × Instr × Nat) := [(65, .iconst 2, 1), (66, .goto 4, 3), (69, .iconst 0, 1), (70, .isub, 1), (71, .istore 6, 2), (73, .iinc 7 1, 3), (76, .goto (-69), 3), (79, .iload 6, 2), (81, .ifCond .gt 7, 3), (84, .iconst 0, 1), (85, .goto 23, 3), (88, .aload_n 1, 1), (89, .iconst 4, 1), (90, .aload_n 2, 1), (91, .bipush 7, 2), (93, .iload_n 0, 1), (94, .imul, 1), (95, .iconst 3, 1)]
def cd_L_takes_3 : List (Nat × Instr × Nat) := [(96, .iadd, 1), (97, .iaload, 1), (98, .imul, 1), (99, .iconst 1, 1), (100, .iadd, 1), (101, .iaload, 1), (102, .iload 6, 2), (104, .imul, 1), (105, .bipush 10, 2), (107, .idiv, 1), (108, .istore 7, 2), (110, .aload 5, 2), (112, .iconst 5, 1), (113, .iaload, 1), (114, .ifCond .le 10, 3), (117, .iload 7, 2), (119, .iconst 2, 1), (120, .idiv, 1), (121, .goto 5, 3), (124, .iload 7, 2), (126, .ireturn, 1)]
def cd_L_play_0 : List (Nat × Instr × Nat) := [(0, .iload_n 0, 1), (1, .aload_n 2, 1), (2, .aload_n 3, 1), (3, .aload 6, 2), (5, .aload 7, 2), (7, .aload 8, 2), (9, .invokestatic 44, 3), (12, .istore 9, 2), (14, .iload 9, 2), (16, .aload 7, 2), (18, .iconst 2, 1), (19, .iaload, 1), (20, .imul, 1), (21, .bipush 100, 2), (23, .idiv, 1), (24, .istore 10, 2), (26, .iload 9, 2), (28, .iload 10, 2), (30, .isub, 1), (31, .aload_n 3, 1)]
def cd_L_play_1 : List (Nat × Instr × Nat) := [(32, .bipush 7, 2), (34, .iload_n 0, 1), (35, .imul, 1), (36, .iaload, 1), (37, .imul, 1), (38, .bipush 100, 2), (40, .idiv, 1), (41, .istore 11, 2), (43, .aload 8, 2), (45, .bipush 10, 2), (47, .dup2, 1), (48, .iaload, 1), (49, .iload 10, 2), (51, .aload 7, 2), (53, .iconst 3, 1), (54, .iaload, 1), (55, .imul, 1), (56, .bipush 100, 2), (58, .idiv, 1), (59, .iadd, 1), (60, .iastore, 1), (61, .aload 8, 2), (63, .bipush 9, 2)]
def cd_L_play_2 : List (Nat × Instr × Nat) := [(65, .dup2, 1), (66, .iaload, 1), (67, .iload 10, 2), (69, .iload 10, 2), (71, .aload 7, 2), (73, .iconst 3, 1), (74, .iaload, 1), (75, .imul, 1), (76, .bipush 100, 2), (78, .idiv, 1), (79, .isub, 1), (80, .iadd, 1), (81, .iastore, 1), (82, .aload_n 3, 1), (83, .bipush 7, 2), (85, .iload_n 0, 1), (86, .imul, 1), (87, .iconst 5, 1), (88, .iadd, 1), (89, .dup2, 1), (90, .iaload, 1), (91, .iload 11, 2), (93, .iadd, 1), (94, .iastore, 1), (95, .aload_n 3, 1)]
def cd_L_play_3 : List (Nat × Instr × Nat) := [(96, .bipush 7, 2), (98, .iload_n 0, 1), (99, .imul, 1), (100, .iconst 4, 1), (101, .iadd, 1), (102, .dup2, 1), (103, .iaload, 1), (104, .iload 9, 2), (106, .iload 10, 2), (108, .isub, 1), (109, .iload 11, 2), (111, .isub, 1), (112, .iadd, 1), (113, .iastore, 1), (114, .aload_n 3, 1), (115, .bipush 7, 2), (117, .iload_n 0, 1), (118, .imul, 1), (119, .bipush 6, 2), (121, .iadd, 1), (122, .dup2, 1), (123, .iaload, 1), (124, .iload 9, 2), (126, .iadd, 1), (127, .iastore, 1)]
def cd_L_play_4 : List (Nat × Instr × Nat) := [(128, .aload 8, 2), (130, .bipush 8, 2), (132, .dup2, 1), (133, .iaload, 1), (134, .iload 9, 2), (136, .iadd, 1), (137, .iastore, 1), (138, .aload 8, 2), (140, .bipush 7, 2), (142, .dup2, 1), (143, .iaload, 1), (144, .iconst 1, 1), (145, .iadd, 1), (146, .iastore, 1), (147, .aload 6, 2), (149, .bipush 10, 2), (151, .iload_n 0, 1), (152, .imul, 1), (153, .aload 8, 2), (155, .iconst 4, 1), (156, .iaload, 1), (157, .iadd, 1), (158, .iload_n 1, 1), (159, .iastore, 1)]
def cd_L_play_5 : List (Nat × Instr × Nat) := [(160, .iconst 0, 1), (161, .istore 12, 2), (163, .iload 12, 2), (165, .aload 8, 2), (167, .iconst 2, 1), (168, .iaload, 1), (169, .if_icmp .ge 49, 3), (172, .aload 4, 2), (174, .iconst 4, 1), (175, .iload 12, 2), (177, .imul, 1), (178, .iaload, 1), (179, .iload_n 0, 1), (180, .if_icmp .eq 6, 3), (183, .goto 29, 3), (186, .aload 5, 2), (188, .iconst 3, 1), (189, .iload 12, 2), (191, .imul, 1)]
def cd_L_play_6 : List (Nat × Instr × Nat) := [(192, .iload_n 0, 1), (193, .iadd, 1), (194, .dup2, 1), (195, .iaload, 1), (196, .iconst 1, 1), (197, .iadd, 1), (198, .iastore, 1), (199, .aload 4, 2), (201, .iconst 4, 1), (202, .iload 12, 2), (204, .imul, 1), (205, .iconst 3, 1), (206, .iadd, 1), (207, .dup2, 1), (208, .iaload, 1), (209, .iconst 1, 1), (210, .iadd, 1), (211, .iastore, 1), (212, .iinc 12 1, 3), (215, .goto (-52), 3), (218, .iload 9, 2), (220, .ireturn, 1)]
def cd_L_ends_0 : List (Nat × Instr × Nat) := [(0, .iconst 0, 1), (1, .istore 5, 2), (3, .iload 5, 2), (5, .aload 4, 2), (7, .iconst 1, 1), (8, .iaload, 1), (9, .if_icmp .ge 258, 3), (12, .aload_n 0, 1), (13, .bipush 7, 2), (15, .iload 5, 2), (17, .imul, 1), (18, .iconst 4, 1), (19, .iadd, 1), (20, .iaload, 1), (21, .istore 6, 2), (23, .iconst 0, 1), (24, .istore 7, 2), (26, .iconst 0, 1), (27, .istore 8, 2), (29, .iload 8, 2), (31, .aload 4, 2)]
def cd_L_ends_1 : List (Nat × Instr × Nat) := [(33, .iconst 2, 1), (34, .iaload, 1), (35, .if_icmp .ge 23, 3), (38, .iload 7, 2), (40, .aload_n 2, 1), (41, .iconst 3, 1), (42, .iload 8, 2), (44, .imul, 1), (45, .iload 5, 2), (47, .iadd, 1), (48, .iaload, 1), (49, .iadd, 1), (50, .istore 7, 2), (52, .iinc 8 1, 3), (55, .goto (-26), 3), (58, .iload 6, 2), (60, .ifCond .eq 201, 3), (63, .iload 7, 2)]
def cd_L_ends_2 : List (Nat × Instr × Nat) := [(65, .ifCond .ne 6, 3), (68, .goto 193, 3), (71, .iload 6, 2), (73, .istore 8, 2), (75, .iconst 0, 1), (76, .istore 9, 2), (78, .iload 9, 2), (80, .aload 4, 2), (82, .iconst 2, 1), (83, .iaload, 1), (84, .if_icmp .ge 29, 3), (87, .iload 8, 2), (89, .iload 6, 2), (91, .aload_n 2, 1), (92, .iconst 3, 1), (93, .iload 9, 2), (95, .imul, 1)]
def cd_L_ends_3 : List (Nat × Instr × Nat) := [(96, .iload 5, 2), (98, .iadd, 1), (99, .iaload, 1), (100, .imul, 1), (101, .iload 7, 2), (103, .idiv, 1), (104, .isub, 1), (105, .istore 8, 2), (107, .iinc 9 1, 3), (110, .goto (-32), 3), (113, .iconst 0, 1), (114, .istore 9, 2), (116, .iload 9, 2), (118, .aload 4, 2), (120, .iconst 2, 1), (121, .iaload, 1), (122, .if_icmp .ge 129, 3), (125, .iconst 0, 1), (126, .istore 10, 2)]
def cd_L_ends_4 : List (Nat × Instr × Nat) := [(128, .iconst 0, 1), (129, .istore 11, 2), (131, .iload 11, 2), (133, .aload 4, 2), (135, .iconst 2, 1), (136, .iaload, 1), (137, .if_icmp .ge 69, 3), (140, .iload 6, 2), (142, .aload_n 2, 1), (143, .iconst 3, 1), (144, .iload 11, 2), (146, .imul, 1), (147, .iload 5, 2), (149, .iadd, 1), (150, .iaload, 1), (151, .imul, 1), (152, .iload 7, 2), (154, .irem, 1), (155, .iload 6, 2), (157, .aload_n 2, 1), (158, .iconst 3, 1), (159, .iload 9, 2)]
def cd_L_ends_5 : List (Nat × Instr × Nat) := [(161, .imul, 1), (162, .iload 5, 2), (164, .iadd, 1), (165, .iaload, 1), (166, .imul, 1), (167, .iload 7, 2), (169, .irem, 1), (170, .isub, 1), (171, .istore 12, 2), (173, .iload 10, 2), (175, .iload 12, 2), (177, .ifCond .gt 15, 3), (180, .iload 12, 2), (182, .ifCond .ne 14, 3), (185, .iload 11, 2), (187, .iload 9, 2), (189, .if_icmp .ge 7, 3)]
def cd_L_ends_6 : List (Nat × Instr × Nat) := [(192, .iconst 1, 1), (193, .goto 4, 3), (196, .iconst 0, 1), (197, .iadd, 1), (198, .istore 10, 2), (200, .iinc 11 1, 3), (203, .goto (-72), 3), (206, .aload_n 1, 1), (207, .iconst 4, 1), (208, .iload 9, 2), (210, .imul, 1), (211, .iconst 1, 1), (212, .iadd, 1), (213, .dup2, 1), (214, .iaload, 1), (215, .iload 6, 2), (217, .aload_n 2, 1), (218, .iconst 3, 1), (219, .iload 9, 2), (221, .imul, 1), (222, .iload 5, 2)]
def cd_L_ends_7 : List (Nat × Instr × Nat) := [(224, .iadd, 1), (225, .iaload, 1), (226, .imul, 1), (227, .iload 7, 2), (229, .idiv, 1), (230, .iload 10, 2), (232, .iload 8, 2), (234, .if_icmp .ge 7, 3), (237, .iconst 1, 1), (238, .goto 4, 3), (241, .iconst 0, 1), (242, .iadd, 1), (243, .iadd, 1), (244, .iastore, 1), (245, .iinc 9 1, 3), (248, .goto (-132), 3), (251, .aload_n 0, 1), (252, .bipush 7, 2), (254, .iload 5, 2)]
def cd_L_ends_8 : List (Nat × Instr × Nat) := [(256, .imul, 1), (257, .iconst 4, 1), (258, .iadd, 1), (259, .iconst 0, 1), (260, .iastore, 1), (261, .iinc 5 1, 3), (264, .goto (-261), 3), (267, .iconst 0, 1), (268, .istore 5, 2), (270, .iload 5, 2), (272, .aload 4, 2), (274, .iconst 2, 1), (275, .iaload, 1), (276, .if_icmp .ge 107, 3), (279, .aload 4, 2), (281, .iconst 5, 1), (282, .iaload, 1), (283, .ifCond .le 100, 3), (286, .aload_n 2, 1), (287, .iconst 3, 1)]
def cd_L_ends_9 : List (Nat × Instr × Nat) := [(288, .iload 5, 2), (290, .imul, 1), (291, .iaload, 1), (292, .aload_n 2, 1), (293, .iconst 3, 1), (294, .iload 5, 2), (296, .imul, 1), (297, .iconst 1, 1), (298, .iadd, 1), (299, .iaload, 1), (300, .iadd, 1), (301, .aload_n 2, 1), (302, .iconst 3, 1), (303, .iload 5, 2), (305, .imul, 1), (306, .iconst 2, 1), (307, .iadd, 1), (308, .iaload, 1), (309, .iadd, 1), (310, .iconst 2, 1), (311, .if_icmp .le 6, 3), (314, .goto 63, 3), (317, .aload_n 3, 1), (318, .iconst 4, 1), (319, .iaload, 1)]
def cd_L_ends_10 : List (Nat × Instr × Nat) := [(320, .aload 4, 2), (322, .bipush 10, 2), (324, .iaload, 1), (325, .if_icmp .ge 9, 3), (328, .aload_n 3, 1), (329, .iconst 4, 1), (330, .iaload, 1), (331, .goto 8, 3), (334, .aload 4, 2), (336, .bipush 10, 2), (338, .iaload, 1), (339, .istore 6, 2), (341, .aload_n 1, 1), (342, .iconst 4, 1), (343, .iload 5, 2), (345, .imul, 1), (346, .iconst 1, 1), (347, .iadd, 1), (348, .dup2, 1), (349, .iaload, 1), (350, .iload 6, 2)]
def cd_L_ends_11 : List (Nat × Instr × Nat) := [(352, .iadd, 1), (353, .iastore, 1), (354, .aload_n 1, 1), (355, .iconst 4, 1), (356, .iload 5, 2), (358, .imul, 1), (359, .iconst 2, 1), (360, .iadd, 1), (361, .dup2, 1), (362, .iaload, 1), (363, .iload 6, 2), (365, .iadd, 1), (366, .iastore, 1), (367, .aload 4, 2), (369, .bipush 10, 2), (371, .dup2, 1), (372, .iaload, 1), (373, .iload 6, 2), (375, .isub, 1), (376, .iastore, 1), (377, .iinc 5 1, 3), (380, .goto (-110), 3), (383, .return_, 1)]
def cd_L_next_0 : List (Nat × Instr × Nat) := [(0, .aload 5, 2), (2, .iconst 4, 1), (3, .dup2, 1), (4, .iaload, 1), (5, .iconst 1, 1), (6, .iadd, 1), (7, .iastore, 1), (8, .aload 5, 2), (10, .iconst 4, 1), (11, .iaload, 1), (12, .bipush 10, 2), (14, .if_icmp .ge 4, 3), (17, .return_, 1), (18, .aload_n 0, 1), (19, .aload_n 1, 1), (20, .aload_n 2, 1), (21, .aload 4, 2), (23, .aload 5, 2), (25, .invokestatic 47, 3), (28, .aload 5, 2), (30, .iconst 3, 1), (31, .dup2, 1)]
def cd_L_next_1 : List (Nat × Instr × Nat) := [(32, .iaload, 1), (33, .iconst 1, 1), (34, .iadd, 1), (35, .iastore, 1), (36, .aload 5, 2), (38, .iconst 4, 1), (39, .iconst 0, 1), (40, .iastore, 1), (41, .aload 5, 2), (43, .iconst 5, 1), (44, .iconst 0, 1), (45, .iastore, 1), (46, .iconst 0, 1), (47, .istore 6, 2), (49, .iload 6, 2), (51, .bipush 12, 2), (53, .if_icmp .ge 14, 3), (56, .aload_n 2, 1), (57, .iload 6, 2), (59, .iconst 0, 1), (60, .iastore, 1), (61, .iinc 6 1, 3)]
def cd_L_next_2 : List (Nat × Instr × Nat) := [(64, .goto (-15), 3), (67, .iconst 0, 1), (68, .istore 6, 2), (70, .iload 6, 2), (72, .bipush 30, 2), (74, .if_icmp .ge 14, 3), (77, .aload_n 3, 1), (78, .iload 6, 2), (80, .iconst (-1), 1), (81, .iastore, 1), (82, .iinc 6 1, 3), (85, .goto (-15), 3), (88, .iconst 0, 1), (89, .istore 6, 2), (91, .iload 6, 2), (93, .iconst 3, 1), (94, .if_icmp .ge 19, 3)]
def cd_L_next_3 : List (Nat × Instr × Nat) := [(97, .aload_n 0, 1), (98, .bipush 7, 2), (100, .iload 6, 2), (102, .imul, 1), (103, .iconst 3, 1), (104, .iadd, 1), (105, .iconst (-1), 1), (106, .iastore, 1), (107, .iinc 6 1, 3), (110, .goto (-19), 3), (113, .return_, 1)]
def cd_L_told_0 : List (Nat × Instr × Nat) := [(0, .iconst 0, 1), (1, .istore 8, 2), (3, .iconst 0, 1), (4, .istore 9, 2), (6, .iconst 0, 1), (7, .istore 10, 2), (9, .iconst 0, 1), (10, .istore 11, 2), (12, .iload 11, 2), (14, .aload 7, 2), (16, .iconst 0, 1), (17, .iaload, 1), (18, .if_icmp .ge 188, 3), (21, .iload 11, 2), (23, .aload_n 2, 1), (24, .aload 7, 2), (26, .invokestatic 15, 3), (29, .istore 12, 2), (31, .iconst 0, 1)]
def cd_L_told_1 : List (Nat × Instr × Nat) := [(32, .istore 13, 2), (34, .iconst 0, 1), (35, .istore 14, 2), (37, .iload 14, 2), (39, .bipush 10, 2), (41, .if_icmp .ge 50, 3), (44, .iload 12, 2), (46, .ifCond .lt 45, 3), (49, .iload 13, 2), (51, .aload 5, 2), (53, .bipush 10, 2), (55, .iload 12, 2), (57, .imul, 1), (58, .iload 14, 2), (60, .iadd, 1), (61, .iaload, 1), (62, .ifCond .ge 7, 3)]
def cd_L_told_2 : List (Nat × Instr × Nat) := [(65, .iconst 0, 1), (66, .goto 16, 3), (69, .iconst 1, 1), (70, .aload 5, 2), (72, .bipush 10, 2), (74, .iload 12, 2), (76, .imul, 1), (77, .iload 14, 2), (79, .iadd, 1), (80, .iaload, 1), (81, .ishl, 1), (82, .ior, 1), (83, .istore 13, 2), (85, .iinc 14 1, 3), (88, .goto (-51), 3), (91, .aload_n 0, 1), (92, .iload 11, 2), (94, .iconst 0, 1), (95, .invokevirtual 51, 3)]
def cd_L_told_3 : List (Nat × Instr × Nat) := [(98, .aload_n 1, 1), (99, .iconst 4, 1), (100, .iload 11, 2), (102, .imul, 1), (103, .iaload, 1), (104, .if_icmp .ne 94, 3), (107, .aload_n 0, 1), (108, .iload 11, 2), (110, .iconst 1, 1), (111, .invokevirtual 51, 3), (114, .aload_n 1, 1), (115, .iconst 4, 1), (116, .iload 11, 2), (118, .imul, 1), (119, .iconst 1, 1), (120, .iadd, 1), (121, .iaload, 1), (122, .if_icmp .ne 76, 3), (125, .aload_n 0, 1), (126, .iload 11, 2)]
def cd_L_told_4 : List (Nat × Instr × Nat) := [(128, .iconst 2, 1), (129, .invokevirtual 51, 3), (132, .iload 11, 2), (134, .aload_n 1, 1), (135, .aload 7, 2), (137, .invokestatic 36, 3), (140, .ifCond .eq 7, 3), (143, .iconst 1, 1), (144, .goto 4, 3), (147, .iconst 0, 1), (148, .if_icmp .ne 50, 3), (151, .aload_n 0, 1), (152, .iload 11, 2), (154, .iconst 3, 1), (155, .invokevirtual 51, 3), (158, .iload 12, 2)]
def cd_L_told_5 : List (Nat × Instr × Nat) := [(160, .if_icmp .ne 38, 3), (163, .aload_n 0, 1), (164, .iload 11, 2), (166, .iconst 4, 1), (167, .invokevirtual 51, 3), (170, .iload 13, 2), (172, .if_icmp .ne 26, 3), (175, .aload_n 0, 1), (176, .iload 11, 2), (178, .iconst 5, 1), (179, .invokevirtual 51, 3), (182, .iload 11, 2), (184, .aload_n 1, 1), (185, .aload_n 2, 1), (186, .aload 5, 2), (188, .aload 6, 2), (190, .aload 7, 2)]
def cd_L_told_6 : List (Nat × Instr × Nat) := [(192, .invokestatic 40, 3), (195, .if_icmp .eq 5, 3), (198, .iconst 0, 1), (199, .ireturn, 1), (200, .iinc 11 1, 3), (203, .goto (-191), 3), (206, .iconst 0, 1), (207, .istore 11, 2), (209, .iload 11, 2), (211, .aload 7, 2), (213, .iconst 1, 1), (214, .iaload, 1), (215, .if_icmp .ge 168, 3), (218, .bipush 7, 2), (220, .iload 11, 2), (222, .imul, 1), (223, .istore 12, 2)]
def cd_L_told_7 : List (Nat × Instr × Nat) := [(225, .iload 8, 2), (227, .aload_n 2, 1), (228, .iload 12, 2), (230, .iconst 5, 1), (231, .iadd, 1), (232, .iaload, 1), (233, .iadd, 1), (234, .istore 8, 2), (236, .iload 9, 2), (238, .aload_n 2, 1), (239, .iload 12, 2), (241, .iconst 4, 1), (242, .iadd, 1), (243, .iaload, 1), (244, .iadd, 1), (245, .istore 9, 2), (247, .iconst 0, 1), (248, .istore 13, 2), (250, .iload 13, 2), (252, .iconst 4, 1), (253, .if_icmp .ge 29, 3)]
def cd_L_told_8 : List (Nat × Instr × Nat) := [(256, .aload_n 0, 1), (257, .iload 11, 2), (259, .iload 13, 2), (261, .invokevirtual 57, 3), (264, .aload_n 2, 1), (265, .iload 12, 2), (267, .iload 13, 2), (269, .iadd, 1), (270, .iaload, 1), (271, .if_icmp .eq 5, 3), (274, .iconst 0, 1), (275, .ireturn, 1), (276, .iinc 13 1, 3), (279, .goto (-29), 3), (282, .aload_n 0, 1), (283, .iload 11, 2), (285, .iconst 4, 1), (286, .invokevirtual 57, 3)]
def cd_L_told_9 : List (Nat × Instr × Nat) := [(289, .iload 11, 2), (291, .aload_n 3, 1), (292, .aload 7, 2), (294, .invokestatic 33, 3), (297, .if_icmp .ne 78, 3), (300, .aload_n 0, 1), (301, .iload 11, 2), (303, .iconst 5, 1), (304, .invokevirtual 57, 3), (307, .aload_n 2, 1), (308, .iload 12, 2), (310, .iconst 4, 1), (311, .iadd, 1), (312, .iaload, 1), (313, .if_icmp .ne 62, 3), (316, .aload_n 0, 1), (317, .iload 11, 2), (319, .bipush 6, 2)]
def cd_L_told_10 : List (Nat × Instr × Nat) := [(321, .invokevirtual 57, 3), (324, .aload_n 2, 1), (325, .iload 12, 2), (327, .iconst 5, 1), (328, .iadd, 1), (329, .iaload, 1), (330, .if_icmp .ne 45, 3), (333, .aload_n 0, 1), (334, .iload 11, 2), (336, .bipush 7, 2), (338, .invokevirtual 57, 3), (341, .aload_n 2, 1), (342, .iload 12, 2), (344, .bipush 6, 2), (346, .iadd, 1), (347, .iaload, 1), (348, .if_icmp .ne 27, 3), (351, .aload_n 0, 1)]
def cd_L_told_11 : List (Nat × Instr × Nat) := [(352, .iload 11, 2), (354, .bipush 8, 2), (356, .invokevirtual 57, 3), (359, .aload 5, 2), (361, .bipush 10, 2), (363, .iload 11, 2), (365, .imul, 1), (366, .aload 7, 2), (368, .iconst 4, 1), (369, .iaload, 1), (370, .iadd, 1), (371, .iaload, 1), (372, .if_icmp .eq 5, 3), (375, .iconst 0, 1), (376, .ireturn, 1), (377, .iinc 11 1, 3), (380, .goto (-171), 3), (383, .iconst 0, 1)]
def cd_L_told_12 : List (Nat × Instr × Nat) := [(384, .istore 11, 2), (386, .iload 11, 2), (388, .aload 7, 2), (390, .iconst 2, 1), (391, .iaload, 1), (392, .if_icmp .ge 172, 3), (395, .iload 10, 2), (397, .aload_n 3, 1), (398, .iconst 4, 1), (399, .iload 11, 2), (401, .imul, 1), (402, .iconst 1, 1), (403, .iadd, 1), (404, .iaload, 1), (405, .iadd, 1), (406, .istore 10, 2), (408, .aload_n 0, 1), (409, .iload 11, 2), (411, .iconst 0, 1), (412, .invokevirtual 60, 3), (415, .aload_n 3, 1)]
def cd_L_told_13 : List (Nat × Instr × Nat) := [(416, .iconst 4, 1), (417, .iload 11, 2), (419, .imul, 1), (420, .iaload, 1), (421, .if_icmp .ne 94, 3), (424, .aload_n 0, 1), (425, .iload 11, 2), (427, .iconst 1, 1), (428, .invokevirtual 60, 3), (431, .aload 4, 2), (433, .iconst 3, 1), (434, .iload 11, 2), (436, .imul, 1), (437, .iaload, 1), (438, .aload 4, 2), (440, .iconst 3, 1), (441, .iload 11, 2), (443, .imul, 1), (444, .iconst 1, 1), (445, .iadd, 1), (446, .iaload, 1), (447, .iadd, 1)]
def cd_L_told_14 : List (Nat × Instr × Nat) := [(448, .aload 4, 2), (450, .iconst 3, 1), (451, .iload 11, 2), (453, .imul, 1), (454, .iconst 2, 1), (455, .iadd, 1), (456, .iaload, 1), (457, .iadd, 1), (458, .if_icmp .ne 57, 3), (461, .aload_n 0, 1), (462, .iload 11, 2), (464, .iconst 2, 1), (465, .invokevirtual 60, 3), (468, .aload_n 3, 1), (469, .iconst 4, 1), (470, .iload 11, 2), (472, .imul, 1), (473, .iconst 1, 1), (474, .iadd, 1), (475, .iaload, 1), (476, .if_icmp .ne 39, 3), (479, .aload_n 0, 1)]
def cd_L_told_15 : List (Nat × Instr × Nat) := [(480, .iload 11, 2), (482, .iconst 3, 1), (483, .invokevirtual 60, 3), (486, .aload_n 3, 1), (487, .iconst 4, 1), (488, .iload 11, 2), (490, .imul, 1), (491, .iconst 2, 1), (492, .iadd, 1), (493, .iaload, 1), (494, .if_icmp .ne 21, 3), (497, .aload_n 0, 1), (498, .iload 11, 2), (500, .iconst 4, 1), (501, .invokevirtual 60, 3), (504, .aload_n 3, 1), (505, .iconst 4, 1), (506, .iload 11, 2), (508, .imul, 1), (509, .iconst 3, 1), (510, .iadd, 1), (511, .iaload, 1)]
def cd_L_told_16 : List (Nat × Instr × Nat) := [(512, .if_icmp .eq 5, 3), (515, .iconst 0, 1), (516, .ireturn, 1), (517, .iconst 0, 1), (518, .istore 12, 2), (520, .iload 12, 2), (522, .aload 7, 2), (524, .iconst 1, 1), (525, .iaload, 1), (526, .if_icmp .ge 32, 3), (529, .aload_n 0, 1), (530, .iload 11, 2), (532, .iload 12, 2), (534, .invokevirtual 63, 3), (537, .aload 4, 2), (539, .iconst 3, 1), (540, .iload 11, 2), (542, .imul, 1), (543, .iload 12, 2)]
def cd_L_told_17 : List (Nat × Instr × Nat) := [(545, .iadd, 1), (546, .iaload, 1), (547, .if_icmp .eq 5, 3), (550, .iconst 0, 1), (551, .ireturn, 1), (552, .iinc 12 1, 3), (555, .goto (-35), 3), (558, .iinc 11 1, 3), (561, .goto (-175), 3), (564, .iconst 0, 1), (565, .istore 11, 2), (567, .iload 11, 2), (569, .bipush 7, 2), (571, .if_icmp .ge 25, 3), (574, .aload_n 0, 1), (575, .iload 11, 2)]
def cd_L_told_18 : List (Nat × Instr × Nat) := [(577, .invokevirtual 66, 3), (580, .aload 7, 2), (582, .iload 11, 2), (584, .iaload, 1), (585, .if_icmp .eq 5, 3), (588, .iconst 0, 1), (589, .ireturn, 1), (590, .iinc 11 1, 3), (593, .goto (-26), 3), (596, .iconst 0, 1), (597, .istore 11, 2), (599, .iload 11, 2), (601, .iconst 5, 1), (602, .if_icmp .ge 25, 3), (605, .aload_n 0, 1), (606, .iload 11, 2)]
def cd_L_told_19 : List (Nat × Instr × Nat) := [(608, .invokevirtual 69, 3), (611, .aload 6, 2), (613, .iload 11, 2), (615, .iaload, 1), (616, .if_icmp .eq 5, 3), (619, .iconst 0, 1), (620, .ireturn, 1), (621, .iinc 11 1, 3), (624, .goto (-25), 3), (627, .aload_n 0, 1), (628, .bipush 7, 2), (630, .invokevirtual 66, 3), (633, .aload 5, 2), (635, .invokestatic 72, 3), (638, .if_icmp .ne 92, 3)]
def cd_L_told_20 : List (Nat × Instr × Nat) := [(641, .aload_n 0, 1), (642, .bipush 8, 2), (644, .invokevirtual 66, 3), (647, .aload 7, 2), (649, .bipush 7, 2), (651, .iaload, 1), (652, .if_icmp .ne 78, 3), (655, .aload_n 0, 1), (656, .bipush 9, 2), (658, .invokevirtual 66, 3), (661, .aload 7, 2), (663, .bipush 8, 2), (665, .iaload, 1), (666, .if_icmp .ne 64, 3), (669, .aload_n 0, 1), (670, .bipush 10, 2)]
def cd_L_told_21 : List (Nat × Instr × Nat) := [(672, .invokevirtual 66, 3), (675, .aload 7, 2), (677, .bipush 9, 2), (679, .iaload, 1), (680, .if_icmp .ne 50, 3), (683, .aload_n 0, 1), (684, .bipush 11, 2), (686, .invokevirtual 66, 3), (689, .aload 7, 2), (691, .bipush 10, 2), (693, .iaload, 1), (694, .if_icmp .ne 36, 3), (697, .aload_n 0, 1), (698, .bipush 12, 2), (700, .invokevirtual 66, 3), (703, .iload 8, 2)]
def cd_L_told_22 : List (Nat × Instr × Nat) := [(705, .if_icmp .ne 25, 3), (708, .aload_n 0, 1), (709, .bipush 13, 2), (711, .invokevirtual 66, 3), (714, .iload 9, 2), (716, .if_icmp .ne 14, 3), (719, .aload_n 0, 1), (720, .bipush 14, 2), (722, .invokevirtual 66, 3), (725, .iload 10, 2), (727, .if_icmp .eq 5, 3), (730, .iconst 0, 1), (731, .ireturn, 1), (732, .aload_n 0, 1), (733, .invokevirtual 76, 3)]
def cd_L_told_23 : List (Nat × Instr × Nat) := [(736, .aload 7, 2), (738, .bipush 8, 2), (740, .iaload, 1), (741, .ifCond .ne 7, 3), (744, .dconst 0, 1), (745, .goto 15, 3), (748, .dconst 1, 1), (749, .iload 10, 2), (751, .i2d, 1), (752, .dmul, 1), (753, .aload 7, 2), (755, .bipush 8, 2), (757, .iaload, 1), (758, .i2d, 1), (759, .ddiv, 1), (760, .dcmp .l, 1), (761, .ifCond .ne 7, 3), (764, .iconst 1, 1), (765, .goto 4, 3)]
def cd_L_told_24 : List (Nat × Instr × Nat) := [(768, .iconst 0, 1), (769, .ireturn, 1)]
def cd_L_same_0 : List (Nat × Instr × Nat) := [(0, .iconst 0, 1), (1, .istore_n 2, 1), (2, .iload_n 2, 1), (3, .aload_n 1, 1), (4, .arraylength, 1), (5, .if_icmp .ge 15, 3), (8, .aload_n 0, 1), (9, .iload_n 2, 1), (10, .aload_n 1, 1), (11, .iload_n 2, 1), (12, .iaload, 1), (13, .iastore, 1), (14, .iinc 2 1, 3), (17, .goto (-15), 3), (20, .return_, 1)]
def cd_L_pairs_0 : List (Nat × Instr × Nat) := [(0, .iconst 0, 1), (1, .istore 7, 2), (3, .iconst 0, 1), (4, .istore 8, 2), (6, .iload 8, 2), (8, .aload 6, 2), (10, .iconst 1, 1), (11, .iaload, 1), (12, .if_icmp .ge 60, 3), (15, .iconst 0, 1), (16, .istore 9, 2), (18, .iload 9, 2), (20, .bipush 10, 2), (22, .if_icmp .ge 44, 3), (25, .iload 8, 2), (27, .iload_n 0, 1), (28, .if_icmp .eq 38, 3), (31, .iload 7, 2)]
def cd_L_pairs_1 : List (Nat × Instr × Nat) := [(33, .iload 8, 2), (35, .iload 9, 2), (37, .aload_n 1, 1), (38, .aload_n 2, 1), (39, .aload_n 3, 1), (40, .aload 4, 2), (42, .aload 5, 2), (44, .aload 6, 2), (46, .invokestatic 80, 3), (49, .ifCond .ne 7, 3), (52, .iconst 1, 1), (53, .goto 4, 3), (56, .iconst 0, 1), (57, .iadd, 1), (58, .istore 7, 2), (60, .iinc 9 1, 3), (63, .goto (-45), 3)]
def cd_L_pairs_2 : List (Nat × Instr × Nat) := [(66, .iinc 8 1, 3), (69, .goto (-63), 3), (72, .iload 7, 2), (74, .ireturn, 1)]
def cd_L_ahead_0 : List (Nat × Instr × Nat) := [(0, .bipush 30, 2), (2, .newarray .int, 2), (4, .astore 8, 2), (6, .iconst 0, 1), (7, .istore 9, 2), (9, .iload 9, 2), (11, .aload 7, 2), (13, .iconst 1, 1), (14, .iaload, 1), (15, .if_icmp .ge 200, 3), (18, .iconst (-1), 1), (19, .istore 10, 2), (21, .iconst (-1), 1), (22, .istore 11, 2), (24, .aload 8, 2), (26, .aload 5, 2), (28, .invokestatic 84, 3), (31, .iconst 0, 1)]
def cd_L_ahead_1 : List (Nat × Instr × Nat) := [(32, .istore 12, 2), (34, .iload 12, 2), (36, .bipush 10, 2), (38, .if_icmp .ge 127, 3), (41, .iload 9, 2), (43, .iload 12, 2), (45, .aload_n 1, 1), (46, .aload_n 2, 1), (47, .aload_n 3, 1), (48, .aload 5, 2), (50, .aload 6, 2), (52, .aload 7, 2), (54, .invokestatic 80, 3), (57, .istore 13, 2), (59, .aload_n 0, 1), (60, .iload 9, 2), (62, .iload 12, 2)]
def cd_L_ahead_2 : List (Nat × Instr × Nat) := [(64, .invokevirtual 88, 3), (67, .iload 13, 2), (69, .if_icmp .eq 5, 3), (72, .iconst 0, 1), (73, .ireturn, 1), (74, .iload 13, 2), (76, .ifCond .le 6, 3), (79, .goto 80, 3), (82, .aload 8, 2), (84, .bipush 10, 2), (86, .iload 9, 2), (88, .imul, 1), (89, .aload 7, 2), (91, .iconst 4, 1), (92, .iaload, 1), (93, .iadd, 1), (94, .iload 12, 2)]
def cd_L_ahead_3 : List (Nat × Instr × Nat) := [(96, .iastore, 1), (97, .iload 9, 2), (99, .aload_n 1, 1), (100, .aload_n 2, 1), (101, .aload_n 3, 1), (102, .aload 8, 2), (104, .aload 6, 2), (106, .aload 7, 2), (108, .invokestatic 91, 3), (111, .istore 14, 2), (113, .aload 8, 2), (115, .bipush 10, 2), (117, .iload 9, 2), (119, .imul, 1), (120, .aload 7, 2), (122, .iconst 4, 1), (123, .iaload, 1), (124, .iadd, 1), (125, .iconst (-1), 1), (126, .iastore, 1), (127, .iload 14, 2)]
def cd_L_ahead_4 : List (Nat × Instr × Nat) := [(129, .iload 11, 2), (131, .if_icmp .le 8, 3), (134, .iload 12, 2), (136, .goto 5, 3), (139, .iload 10, 2), (141, .istore 10, 2), (143, .iload 14, 2), (145, .iload 11, 2), (147, .if_icmp .le 8, 3), (150, .iload 14, 2), (152, .goto 5, 3), (155, .iload 11, 2), (157, .istore 11, 2), (159, .iinc 12 1, 3)]
def cd_L_ahead_5 : List (Nat × Instr × Nat) := [(162, .goto (-128), 3), (165, .aload_n 0, 1), (166, .iload 9, 2), (168, .invokevirtual 95, 3), (171, .iload 10, 2), (173, .if_icmp .ne 34, 3), (176, .aload_n 0, 1), (177, .iload 9, 2), (179, .invokevirtual 98, 3), (182, .iload 10, 2), (184, .ifCond .ge 7, 3), (187, .iconst (-1), 1), (188, .goto 16, 3), (191, .iload 9, 2)]
def cd_L_ahead_6 : List (Nat × Instr × Nat) := [(193, .aload_n 1, 1), (194, .aload_n 2, 1), (195, .aload 5, 2), (197, .aload 6, 2), (199, .aload 7, 2), (201, .invokestatic 44, 3), (204, .if_icmp .eq 5, 3), (207, .iconst 0, 1), (208, .ireturn, 1), (209, .iinc 9 1, 3), (212, .goto (-203), 3), (215, .iconst 0, 1), (216, .istore 9, 2), (218, .iconst 0, 1), (219, .istore 10, 2), (221, .iconst 0, 1), (222, .istore 11, 2)]
def cd_L_ahead_7 : List (Nat × Instr × Nat) := [(224, .iload 11, 2), (226, .sipush 1331, 3), (229, .if_icmp .ge 195, 3), (232, .iload 11, 2), (234, .istore 12, 2), (236, .iconst 0, 1), (237, .istore 13, 2), (239, .iconst 0, 1), (240, .istore 14, 2), (242, .iconst 1, 1), (243, .istore 15, 2), (245, .aload 8, 2), (247, .aload 5, 2), (249, .invokestatic 84, 3), (252, .iconst 0, 1), (253, .istore 16, 2), (255, .iload 16, 2)]
def cd_L_ahead_8 : List (Nat × Instr × Nat) := [(257, .iconst 3, 1), (258, .if_icmp .ge 123, 3), (261, .iload 15, 2), (263, .ifCond .eq 118, 3), (266, .iload 12, 2), (268, .bipush 11, 2), (270, .irem, 1), (271, .iconst 1, 1), (272, .isub, 1), (273, .istore 17, 2), (275, .iload 12, 2), (277, .bipush 11, 2), (279, .idiv, 1), (280, .istore 12, 2), (282, .iload 17, 2), (284, .ifCond .ge 6, 3), (287, .goto 88, 3)]
def cd_L_ahead_9 : List (Nat × Instr × Nat) := [(290, .iload 16, 2), (292, .aload 7, 2), (294, .iconst 1, 1), (295, .iaload, 1), (296, .if_icmp .ge 26, 3), (299, .iload 16, 2), (301, .iload 17, 2), (303, .aload_n 1, 1), (304, .aload_n 2, 1), (305, .aload_n 3, 1), (306, .aload 8, 2), (308, .aload 6, 2), (310, .aload 7, 2), (312, .invokestatic 80, 3), (315, .ifCond .ne 7, 3), (318, .iconst 1, 1), (319, .goto 4, 3)]
def cd_L_ahead_10 : List (Nat × Instr × Nat) := [(322, .iconst 0, 1), (323, .istore 15, 2), (325, .iload 15, 2), (327, .ifCond .ne 6, 3), (330, .goto 45, 3), (333, .iload 13, 2), (335, .iload 16, 2), (337, .aload_n 1, 1), (338, .aload_n 2, 1), (339, .aload 8, 2), (341, .aload 6, 2), (343, .aload 7, 2), (345, .invokestatic 44, 3), (348, .iadd, 1), (349, .istore 13, 2), (351, .aload 8, 2)]
def cd_L_ahead_11 : List (Nat × Instr × Nat) := [(353, .bipush 10, 2), (355, .iload 16, 2), (357, .imul, 1), (358, .aload 7, 2), (360, .iconst 4, 1), (361, .iaload, 1), (362, .iadd, 1), (363, .iload 17, 2), (365, .iastore, 1), (366, .iload 14, 2), (368, .iconst 1, 1), (369, .iload 16, 2), (371, .ishl, 1), (372, .ior, 1), (373, .istore 14, 2), (375, .iinc 16 1, 3), (378, .goto (-123), 3), (381, .iload 15, 2), (383, .ifCond .eq 35, 3)]
def cd_L_ahead_12 : List (Nat × Instr × Nat) := [(386, .iload 13, 2), (388, .iload 9, 2), (390, .if_icmp .lt 28, 3), (393, .iload 13, 2), (395, .iload 9, 2), (397, .if_icmp .ne 13, 3), (400, .iload 14, 2), (402, .iload 10, 2), (404, .if_icmp .lt 6, 3), (407, .goto 11, 3), (410, .iload 13, 2), (412, .istore 9, 2), (414, .iload 14, 2)]
def cd_L_ahead_13 : List (Nat × Instr × Nat) := [(416, .istore 10, 2), (418, .iinc 11 1, 3), (421, .goto (-197), 3), (424, .aload_n 0, 1), (425, .iconst 0, 1), (426, .invokevirtual 101, 3), (429, .iload 9, 2), (431, .if_icmp .ne 13, 3), (434, .aload_n 0, 1), (435, .iconst 1, 1), (436, .invokevirtual 101, 3), (439, .iload 10, 2), (441, .if_icmp .eq 5, 3), (444, .iconst 0, 1), (445, .ireturn, 1), (446, .bipush 21, 2)]
def cd_L_ahead_14 : List (Nat × Instr × Nat) := [(448, .newarray .int, 2), (450, .astore 11, 2), (452, .bipush 16, 2), (454, .newarray .int, 2), (456, .astore 12, 2), (458, .bipush 11, 2), (460, .newarray .int, 2), (462, .astore 13, 2), (464, .aload 11, 2), (466, .aload_n 2, 1), (467, .invokestatic 84, 3), (470, .aload 12, 2), (472, .aload_n 3, 1), (473, .invokestatic 84, 3), (476, .aload 13, 2), (478, .aload 7, 2)]
def cd_L_ahead_15 : List (Nat × Instr × Nat) := [(480, .invokestatic 84, 3), (483, .aload 11, 2), (485, .aload 12, 2), (487, .aload 4, 2), (489, .aload 6, 2), (491, .aload 13, 2), (493, .invokestatic 47, 3), (496, .iconst 0, 1), (497, .istore 14, 2), (499, .iload 14, 2), (501, .aload 7, 2), (503, .iconst 2, 1), (504, .iaload, 1), (505, .if_icmp .ge 38, 3), (508, .aload_n 0, 1), (509, .iload 14, 2), (511, .invokevirtual 104, 3)]
def cd_L_ahead_16 : List (Nat × Instr × Nat) := [(514, .aload 12, 2), (516, .iconst 4, 1), (517, .iload 14, 2), (519, .imul, 1), (520, .iconst 1, 1), (521, .iadd, 1), (522, .iaload, 1), (523, .aload_n 3, 1), (524, .iconst 4, 1), (525, .iload 14, 2), (527, .imul, 1), (528, .iconst 1, 1), (529, .iadd, 1), (530, .iaload, 1), (531, .isub, 1), (532, .if_icmp .eq 5, 3), (535, .iconst 0, 1), (536, .ireturn, 1), (537, .iinc 14 1, 3), (540, .goto (-41), 3), (543, .iconst 1, 1)]
def cd_L_ahead_17 : List (Nat × Instr × Nat) := [(544, .ireturn, 1)]
def cd_L_letters_0 : List (Nat × Instr × Nat) := [(0, .aload_n 0, 1), (1, .iload_n 1, 1), (2, .invokevirtual 107, 3), (5, .ifCond .le 37, 3), (8, .aload_n 0, 1), (9, .iload_n 2, 1), (10, .invokevirtual 107, 3), (13, .ifCond .le 29, 3), (16, .aload_n 0, 1), (17, .iload_n 3, 1), (18, .invokevirtual 107, 3), (21, .ifCond .le 21, 3), (24, .iload 4, 2), (26, .ifCond .eq 12, 3), (29, .aload_n 0, 1), (30, .iload 4, 2)]
def cd_L_letters_1 : List (Nat × Instr × Nat) := [(32, .invokevirtual 107, 3), (35, .ifCond .le 7, 3), (38, .iconst 1, 1), (39, .goto 4, 3), (42, .iconst 0, 1), (43, .ireturn, 1)]
def cd_L_runs_0 : List (Nat × Instr × Nat) := [(0, .iconst 0, 1), (1, .istore 10, 2), (3, .iconst 1, 1), (4, .istore 11, 2), (6, .aload_n 0, 1), (7, .invokevirtual 110, 3), (10, .pop, 1), (11, .iconst 0, 1), (12, .istore 12, 2), (14, .iload 12, 2), (16, .bipush 9, 2), (18, .if_icmp .ge 392, 3), (21, .iload_n 1, 1), (22, .iconst 2, 1), (23, .iload 12, 2), (25, .imul, 1), (26, .ishr, 1), (27, .iload 12, 2), (29, .iadd, 1), (30, .bipush 7, 2)]
def cd_L_runs_1 : List (Nat × Instr × Nat) := [(32, .invokestatic 114, 3), (35, .istore 13, 2), (37, .iload_n 2, 1), (38, .iload 12, 2), (40, .ishr, 1), (41, .iload 12, 2), (43, .iadd, 1), (44, .iconst 4, 1), (45, .invokestatic 114, 3), (48, .istore 14, 2), (50, .iload_n 2, 1), (51, .iconst 2, 1), (52, .iload 12, 2), (54, .imul, 1), (55, .ishr, 1), (56, .iconst 3, 1), (57, .iload 12, 2), (59, .imul, 1), (60, .iadd, 1), (61, .bipush 10, 2), (63, .invokestatic 114, 3)]
def cd_L_runs_2 : List (Nat × Instr × Nat) := [(66, .istore 15, 2), (68, .iload 12, 2), (70, .ifCond .le 15, 3), (73, .aload_n 0, 1), (74, .bipush 59, 2), (76, .invokevirtual 107, 3), (79, .iconst 1, 1), (80, .if_icmp .ge 5, 3), (83, .iconst 0, 1), (84, .ireturn, 1), (85, .iload 13, 2), (87, .ifCond .ne 21, 3), (90, .aload_n 0, 1), (91, .bipush 108, 2), (93, .bipush 111, 2), (95, .bipush 116, 2)]
def cd_L_runs_3 : List (Nat × Instr × Nat) := [(97, .bipush 115, 2), (99, .invokestatic 117, 3), (102, .ifCond .ne 98, 3), (105, .goto 93, 3), (108, .iload 13, 2), (110, .iconst 1, 1), (111, .if_icmp .ne 20, 3), (114, .aload_n 0, 1), (115, .bipush 119, 2), (117, .bipush 101, 2), (119, .bipush 116, 2), (121, .iconst 0, 1), (122, .invokestatic 117, 3), (125, .ifCond .ne 75, 3)]
def cd_L_runs_4 : List (Nat × Instr × Nat) := [(128, .goto 70, 3), (131, .iload 13, 2), (133, .iconst 2, 1), (134, .if_icmp .ne 20, 3), (137, .aload_n 0, 1), (138, .bipush 100, 2), (140, .bipush 114, 2), (142, .bipush 121, 2), (144, .iconst 0, 1), (145, .invokestatic 117, 3), (148, .ifCond .ne 52, 3), (151, .goto 47, 3), (154, .iload 13, 2), (156, .iconst 3, 1), (157, .if_icmp .ne 21, 3)]
def cd_L_runs_5 : List (Nat × Instr × Nat) := [(160, .aload_n 0, 1), (161, .bipush 110, 2), (163, .bipush 101, 2), (165, .bipush 120, 2), (167, .bipush 116, 2), (169, .invokestatic 117, 3), (172, .ifCond .ne 28, 3), (175, .goto 23, 3), (178, .aload_n 0, 1), (179, .bipush 48, 2), (181, .iload 14, 2), (183, .iadd, 1), (184, .bipush 58, 2), (186, .bipush 97, 2), (188, .iload 15, 2), (190, .iadd, 1), (191, .iconst 0, 1)]
def cd_L_runs_6 : List (Nat × Instr × Nat) := [(192, .invokestatic 117, 3), (195, .ifCond .ne 5, 3), (198, .iconst 0, 1), (199, .ireturn, 1), (200, .iload 13, 2), (202, .ifCond .ne 30, 3), (205, .iload 11, 2), (207, .ifCond .eq 22, 3), (210, .aload 9, 2), (212, .iconst 4, 1), (213, .iaload, 1), (214, .ifCond .ne 15, 3), (217, .aload 7, 2), (219, .invokestatic 72, 3), (222, .ifCond .ne 7, 3)]
def cd_L_runs_7 : List (Nat × Instr × Nat) := [(225, .iconst 1, 1), (226, .goto 4, 3), (229, .iconst 0, 1), (230, .istore 11, 2), (232, .iload 13, 2), (234, .iconst 1, 1), (235, .if_icmp .eq 9, 3), (238, .iload 13, 2), (240, .iconst 2, 1), (241, .if_icmp .ne 23, 3), (244, .iload 11, 2), (246, .ifCond .eq 15, 3), (249, .aload 7, 2), (251, .invokestatic 72, 3), (254, .ifCond .ne 7, 3)]
def cd_L_runs_8 : List (Nat × Instr × Nat) := [(257, .iconst 1, 1), (258, .goto 4, 3), (261, .iconst 0, 1), (262, .istore 11, 2), (264, .iload 13, 2), (266, .iconst 3, 1), (267, .if_icmp .le 45, 3), (270, .iload 11, 2), (272, .ifCond .eq 37, 3), (275, .iload 14, 2), (277, .aload 9, 2), (279, .iconst 1, 1), (280, .iaload, 1), (281, .if_icmp .ge 28, 3), (284, .iload 14, 2), (286, .iload 15, 2)]
def cd_L_runs_9 : List (Nat × Instr × Nat) := [(288, .aload_n 3, 1), (289, .aload 4, 2), (291, .aload 5, 2), (293, .aload 7, 2), (295, .aload 8, 2), (297, .aload 9, 2), (299, .invokestatic 80, 3), (302, .ifCond .ne 7, 3), (305, .iconst 1, 1), (306, .goto 4, 3), (309, .iconst 0, 1), (310, .istore 11, 2), (312, .iload 11, 2), (314, .ifCond .ne 6, 3), (317, .goto 87, 3)]
def cd_L_runs_10 : List (Nat × Instr × Nat) := [(320, .iinc 10 1, 3), (323, .iload 13, 2), (325, .ifCond .ne 11, 3), (328, .aload 4, 2), (330, .aload 9, 2), (332, .invokestatic 121, 3), (335, .pop, 1), (336, .iload 13, 2), (338, .iconst 1, 1), (339, .if_icmp .eq 9, 3), (342, .iload 13, 2), (344, .iconst 2, 1), (345, .if_icmp .ne 11, 3), (348, .aload 9, 2), (350, .iconst 5, 1), (351, .iconst 2, 1)]
def cd_L_runs_11 : List (Nat × Instr × Nat) := [(352, .iload 13, 2), (354, .isub, 1), (355, .iastore, 1), (356, .iload 13, 2), (358, .iconst 3, 1), (359, .if_icmp .ne 18, 3), (362, .aload 4, 2), (364, .aload 5, 2), (366, .aload 6, 2), (368, .aload 7, 2), (370, .aload 8, 2), (372, .aload 9, 2), (374, .invokestatic 125, 3), (377, .iload 13, 2), (379, .iconst 3, 1), (380, .if_icmp .le 24, 3), (383, .iload 14, 2)]
def cd_L_runs_12 : List (Nat × Instr × Nat) := [(385, .iload 15, 2), (387, .aload_n 3, 1), (388, .aload 4, 2), (390, .aload 5, 2), (392, .aload 6, 2), (394, .aload 7, 2), (396, .aload 8, 2), (398, .aload 9, 2), (400, .invokestatic 129, 3), (403, .pop, 1), (404, .iinc 12 1, 3), (407, .goto (-393), 3), (410, .aload_n 0, 1), (411, .invokevirtual 133, 3), (414, .iload 10, 2)]
def cd_L_runs_13 : List (Nat × Instr × Nat) := [(416, .if_icmp .ne 7, 3), (419, .iconst 1, 1), (420, .goto 4, 3), (423, .iconst 0, 1), (424, .ireturn, 1)]
def cd_L_act_0 : List (Nat × Instr × Nat) := [(0, .iload_n 1, 1), (1, .ifCond .ne 165, 3), (4, .iload_n 2, 1), (5, .bipush 100, 2), (7, .invokestatic 114, 3), (10, .istore 11, 2), (12, .iconst 0, 1), (13, .istore 12, 2), (15, .iload 12, 2), (17, .aload 10, 2), (19, .iconst 0, 1), (20, .iaload, 1), (21, .if_icmp .ge 23, 3), (24, .aload 4, 2), (26, .iconst 4, 1), (27, .iload 12, 2), (29, .imul, 1), (30, .iaload, 1), (31, .iload 11, 2)]
def cd_L_act_1 : List (Nat × Instr × Nat) := [(33, .if_icmp .ne 5, 3), (36, .iconst 1, 1), (37, .ireturn, 1), (38, .iinc 12 1, 3), (41, .goto (-26), 3), (44, .aload 10, 2), (46, .iconst 0, 1), (47, .iaload, 1), (48, .bipush 6, 2), (50, .if_icmp .ne 5, 3), (53, .iconst 1, 1), (54, .ireturn, 1), (55, .iconst 4, 1), (56, .aload 10, 2), (58, .iconst 0, 1), (59, .iaload, 1), (60, .imul, 1), (61, .istore 12, 2), (63, .aload 4, 2)]
def cd_L_act_2 : List (Nat × Instr × Nat) := [(65, .iload 12, 2), (67, .iload 11, 2), (69, .iastore, 1), (70, .aload 4, 2), (72, .iload 12, 2), (74, .iconst 1, 1), (75, .iadd, 1), (76, .iconst 1, 1), (77, .iload_n 3, 1), (78, .bipush 90, 2), (80, .invokestatic 114, 3), (83, .iadd, 1), (84, .iastore, 1), (85, .aload 4, 2), (87, .iload 12, 2), (89, .iconst 2, 1), (90, .iadd, 1), (91, .iload_n 3, 1), (92, .bipush 7, 2), (94, .ishr, 1), (95, .bipush 10, 2)]
def cd_L_act_3 : List (Nat × Instr × Nat) := [(97, .invokestatic 114, 3), (100, .iastore, 1), (101, .aload 4, 2), (103, .iload 12, 2), (105, .iconst 3, 1), (106, .iadd, 1), (107, .iload_n 3, 1), (108, .bipush 11, 2), (110, .ishr, 1), (111, .iconst 4, 1), (112, .invokestatic 114, 3), (115, .iastore, 1), (116, .aload 10, 2), (118, .iconst 0, 1), (119, .dup2, 1), (120, .iaload, 1), (121, .iconst 1, 1), (122, .iadd, 1), (123, .iastore, 1), (124, .aload_n 0, 1), (125, .iload 11, 2), (127, .aload 4, 2)]
def cd_L_act_4 : List (Nat × Instr × Nat) := [(129, .iload 12, 2), (131, .iconst 1, 1), (132, .iadd, 1), (133, .iaload, 1), (134, .aload 4, 2), (136, .iload 12, 2), (138, .iconst 2, 1), (139, .iadd, 1), (140, .iaload, 1), (141, .aload 4, 2), (143, .iload 12, 2), (145, .iconst 3, 1), (146, .iadd, 1), (147, .iaload, 1), (148, .invokevirtual 136, 3), (151, .aload 10, 2), (153, .iconst 0, 1), (154, .iaload, 1), (155, .iconst 1, 1), (156, .isub, 1), (157, .if_icmp .ne 7, 3)]
def cd_L_act_5 : List (Nat × Instr × Nat) := [(160, .iconst 1, 1), (161, .goto 4, 3), (164, .iconst 0, 1), (165, .ireturn, 1), (166, .iload_n 1, 1), (167, .iconst 1, 1), (168, .if_icmp .eq 10, 3), (171, .aload 10, 2), (173, .iconst 1, 1), (174, .iaload, 1), (175, .ifCond .ne 82, 3), (178, .aload 10, 2), (180, .iconst 1, 1), (181, .iaload, 1), (182, .iconst 3, 1), (183, .if_icmp .ne 5, 3), (186, .iconst 1, 1), (187, .ireturn, 1), (188, .aload 5, 2), (190, .bipush 7, 2)]
def cd_L_act_6 : List (Nat × Instr × Nat) := [(192, .aload 10, 2), (194, .iconst 1, 1), (195, .iaload, 1), (196, .imul, 1), (197, .iload_n 3, 1), (198, .bipush 51, 2), (200, .invokestatic 114, 3), (203, .iastore, 1), (204, .aload 5, 2), (206, .bipush 7, 2), (208, .aload 10, 2), (210, .iconst 1, 1), (211, .iaload, 1), (212, .imul, 1), (213, .iconst 3, 1), (214, .iadd, 1), (215, .iconst (-1), 1), (216, .iastore, 1), (217, .aload 10, 2), (219, .iconst 1, 1), (220, .dup2, 1), (221, .iaload, 1), (222, .iconst 1, 1), (223, .iadd, 1)]
def cd_L_act_7 : List (Nat × Instr × Nat) := [(224, .iastore, 1), (225, .aload_n 0, 1), (226, .aload 5, 2), (228, .bipush 7, 2), (230, .aload 10, 2), (232, .iconst 1, 1), (233, .iaload, 1), (234, .imul, 1), (235, .bipush 7, 2), (237, .isub, 1), (238, .iaload, 1), (239, .invokevirtual 140, 3), (242, .aload 10, 2), (244, .iconst 1, 1), (245, .iaload, 1), (246, .iconst 1, 1), (247, .isub, 1), (248, .if_icmp .ne 7, 3), (251, .iconst 1, 1), (252, .goto 4, 3), (255, .iconst 0, 1)]
def cd_L_act_8 : List (Nat × Instr × Nat) := [(256, .ireturn, 1), (257, .iload_n 2, 1), (258, .iconst 3, 1), (259, .ishr, 1), (260, .aload 10, 2), (262, .iconst 1, 1), (263, .iaload, 1), (264, .invokestatic 114, 3), (267, .istore 11, 2), (269, .iload_n 1, 1), (270, .iconst 2, 1), (271, .if_icmp .eq 10, 3), (274, .aload 10, 2), (276, .iconst 2, 1), (277, .iaload, 1), (278, .ifCond .ne 50, 3), (281, .aload 10, 2), (283, .iconst 2, 1), (284, .iaload, 1), (285, .iconst 4, 1), (286, .if_icmp .ne 5, 3)]
def cd_L_act_9 : List (Nat × Instr × Nat) := [(289, .iconst 1, 1), (290, .ireturn, 1), (291, .aload 6, 2), (293, .iconst 4, 1), (294, .aload 10, 2), (296, .iconst 2, 1), (297, .iaload, 1), (298, .imul, 1), (299, .iconst (-1), 1), (300, .iastore, 1), (301, .aload 10, 2), (303, .iconst 2, 1), (304, .dup2, 1), (305, .iaload, 1), (306, .iconst 1, 1), (307, .iadd, 1), (308, .iastore, 1), (309, .aload_n 0, 1), (310, .invokevirtual 143, 3), (313, .aload 10, 2), (315, .iconst 2, 1), (316, .iaload, 1), (317, .iconst 1, 1), (318, .isub, 1), (319, .if_icmp .ne 7, 3)]
def cd_L_act_10 : List (Nat × Instr × Nat) := [(322, .iconst 1, 1), (323, .goto 4, 3), (326, .iconst 0, 1), (327, .ireturn, 1), (328, .iload_n 1, 1), (329, .iconst 3, 1), (330, .if_icmp .ne 76, 3), (333, .aload 5, 2), (335, .bipush 7, 2), (337, .iload 11, 2), (339, .imul, 1), (340, .iconst 1, 1), (341, .iadd, 1), (342, .iload_n 3, 1), (343, .iconst 4, 1), (344, .invokestatic 114, 3), (347, .ifCond .le 7, 3), (350, .iconst 1, 1), (351, .goto 4, 3)]
def cd_L_act_11 : List (Nat × Instr × Nat) := [(354, .iconst 0, 1), (355, .iastore, 1), (356, .aload_n 0, 1), (357, .iload 11, 2), (359, .aload 5, 2), (361, .bipush 7, 2), (363, .iload 11, 2), (365, .imul, 1), (366, .iconst 1, 1), (367, .iadd, 1), (368, .iaload, 1), (369, .iconst 1, 1), (370, .if_icmp .ne 7, 3), (373, .iconst 1, 1), (374, .goto 4, 3), (377, .iconst 0, 1), (378, .invokevirtual 146, 3), (381, .aload 5, 2), (383, .iconst 1, 1)]
def cd_L_act_12 : List (Nat × Instr × Nat) := [(384, .iaload, 1), (385, .aload 5, 2), (387, .bipush 8, 2), (389, .iaload, 1), (390, .iadd, 1), (391, .aload 5, 2), (393, .bipush 15, 2), (395, .iaload, 1), (396, .iadd, 1), (397, .if_icmp .ne 7, 3), (400, .iconst 1, 1), (401, .goto 4, 3), (404, .iconst 0, 1), (405, .ireturn, 1), (406, .iload_n 1, 1), (407, .iconst 4, 1), (408, .if_icmp .ne 59, 3), (411, .aload 5, 2), (413, .bipush 7, 2), (415, .iload 11, 2)]
def cd_L_act_13 : List (Nat × Instr × Nat) := [(417, .imul, 1), (418, .iconst 2, 1), (419, .iadd, 1), (420, .iaload, 1), (421, .istore 12, 2), (423, .aload 5, 2), (425, .bipush 7, 2), (427, .iload 11, 2), (429, .imul, 1), (430, .iconst 2, 1), (431, .iadd, 1), (432, .iload_n 3, 1), (433, .sipush 1024, 3), (436, .invokestatic 114, 3), (439, .iastore, 1), (440, .aload_n 0, 1), (441, .iload 11, 2), (443, .aload 5, 2), (445, .bipush 7, 2), (447, .iload 11, 2)]
def cd_L_act_14 : List (Nat × Instr × Nat) := [(449, .imul, 1), (450, .iconst 2, 1), (451, .iadd, 1), (452, .iaload, 1), (453, .invokevirtual 150, 3), (456, .iload 12, 2), (458, .if_icmp .ne 7, 3), (461, .iconst 1, 1), (462, .goto 4, 3), (465, .iconst 0, 1), (466, .ireturn, 1), (467, .iload_n 1, 1), (468, .bipush 7, 2), (470, .if_icmp .ge 104, 3), (473, .iload_n 3, 1), (474, .aload 10, 2), (476, .iconst 2, 1), (477, .iaload, 1), (478, .invokestatic 114, 3)]
def cd_L_act_15 : List (Nat × Instr × Nat) := [(481, .istore 12, 2), (483, .aload 6, 2), (485, .iconst 4, 1), (486, .iload 12, 2), (488, .imul, 1), (489, .iaload, 1), (490, .istore 13, 2), (492, .aload 6, 2), (494, .iconst 4, 1), (495, .iload 12, 2), (497, .imul, 1), (498, .iload_n 2, 1), (499, .iconst 5, 1), (500, .ishr, 1), (501, .aload 10, 2), (503, .iconst 1, 1), (504, .iaload, 1), (505, .iconst 1, 1), (506, .iadd, 1), (507, .invokestatic 114, 3), (510, .iload_n 2, 1), (511, .bipush 9, 2)]
def cd_L_act_16 : List (Nat × Instr × Nat) := [(513, .ishr, 1), (514, .iconst 4, 1), (515, .invokestatic 114, 3), (518, .ifCond .ne 7, 3), (521, .iconst 1, 1), (522, .goto 4, 3), (525, .iconst 0, 1), (526, .isub, 1), (527, .iastore, 1), (528, .aload 6, 2), (530, .iconst 4, 1), (531, .iload 12, 2), (533, .imul, 1), (534, .iaload, 1), (535, .aload 10, 2), (537, .iconst 1, 1), (538, .iaload, 1), (539, .if_icmp .ne 11, 3), (542, .aload 6, 2)]
def cd_L_act_17 : List (Nat × Instr × Nat) := [(544, .iconst 4, 1), (545, .iload 12, 2), (547, .imul, 1), (548, .iconst 0, 1), (549, .iastore, 1), (550, .aload_n 0, 1), (551, .iload 12, 2), (553, .aload 6, 2), (555, .iconst 4, 1), (556, .iload 12, 2), (558, .imul, 1), (559, .iaload, 1), (560, .invokevirtual 153, 3), (563, .iload 13, 2), (565, .if_icmp .ne 7, 3), (568, .iconst 1, 1), (569, .goto 4, 3), (572, .iconst 0, 1), (573, .ireturn, 1), (574, .iload_n 1, 1), (575, .bipush 7, 2)]
def cd_L_act_18 : List (Nat × Instr × Nat) := [(577, .if_icmp .ne 82, 3), (580, .iload_n 2, 1), (581, .iconst 5, 1), (582, .invokestatic 114, 3), (585, .istore 12, 2), (587, .aload 9, 2), (589, .iload 12, 2), (591, .iaload, 1), (592, .istore 13, 2), (594, .aload 9, 2), (596, .iload 12, 2), (598, .iload_n 3, 1), (599, .iload 12, 2), (601, .ifCond .ne 8, 3), (604, .bipush 100, 2), (606, .goto 27, 3)]
def cd_L_act_19 : List (Nat × Instr × Nat) := [(609, .iload 12, 2), (611, .iconst 1, 1), (612, .if_icmp .ne 8, 3), (615, .bipush 10, 2), (617, .goto 16, 3), (620, .iload 12, 2), (622, .iconst 3, 1), (623, .if_icmp .ne 8, 3), (626, .bipush 101, 2), (628, .goto 5, 3), (631, .bipush 51, 2), (633, .invokestatic 114, 3), (636, .iastore, 1), (637, .aload_n 0, 1), (638, .iload 12, 2)]
def cd_L_act_20 : List (Nat × Instr × Nat) := [(640, .aload 9, 2), (642, .iload 12, 2), (644, .iaload, 1), (645, .invokevirtual 156, 3), (648, .iload 13, 2), (650, .if_icmp .ne 7, 3), (653, .iconst 1, 1), (654, .goto 4, 3), (657, .iconst 0, 1), (658, .ireturn, 1), (659, .iload_n 1, 1), (660, .bipush 10, 2), (662, .if_icmp .ge 38, 3), (665, .aload 10, 2), (667, .iconst 4, 1), (668, .iaload, 1), (669, .ifCond .gt 25, 3)]
def cd_L_act_21 : List (Nat × Instr × Nat) := [(672, .aload 8, 2), (674, .invokestatic 72, 3), (677, .ifCond .gt 17, 3), (680, .aload_n 0, 1), (681, .invokevirtual 159, 3), (684, .aload 5, 2), (686, .aload 10, 2), (688, .invokestatic 121, 3), (691, .if_icmp .ne 7, 3), (694, .iconst 1, 1), (695, .goto 4, 3), (698, .iconst 0, 1), (699, .ireturn, 1), (700, .iload_n 1, 1), (701, .bipush 10, 2), (703, .if_icmp .ne 56, 3)]
def cd_L_act_22 : List (Nat × Instr × Nat) := [(706, .aload 10, 2), (708, .iconst 5, 1), (709, .iaload, 1), (710, .istore 12, 2), (712, .aload 8, 2), (714, .invokestatic 72, 3), (717, .ifCond .le 5, 3), (720, .iconst 1, 1), (721, .ireturn, 1), (722, .aload 10, 2), (724, .iconst 5, 1), (725, .iload_n 3, 1), (726, .iconst 2, 1), (727, .invokestatic 114, 3), (730, .iastore, 1), (731, .aload_n 0, 1), (732, .aload 10, 2), (734, .iconst 5, 1), (735, .iaload, 1)]
def cd_L_act_23 : List (Nat × Instr × Nat) := [(736, .iconst 1, 1), (737, .if_icmp .ne 7, 3), (740, .iconst 1, 1), (741, .goto 4, 3), (744, .iconst 0, 1), (745, .invokevirtual 162, 3), (748, .iload 12, 2), (750, .if_icmp .ne 7, 3), (753, .iconst 1, 1), (754, .goto 4, 3), (757, .iconst 0, 1), (758, .ireturn, 1), (759, .iload_n 1, 1), (760, .bipush 17, 2), (762, .if_icmp .ge 73, 3), (765, .iload_n 3, 1), (766, .bipush 10, 2)]
def cd_L_act_24 : List (Nat × Instr × Nat) := [(768, .invokestatic 114, 3), (771, .istore 12, 2), (773, .iload 11, 2), (775, .iload 12, 2), (777, .aload 4, 2), (779, .aload 5, 2), (781, .aload 6, 2), (783, .aload 8, 2), (785, .aload 9, 2), (787, .aload 10, 2), (789, .invokestatic 80, 3), (792, .ifCond .le 5, 3), (795, .iconst 1, 1), (796, .ireturn, 1), (797, .aload_n 0, 1), (798, .iload 11, 2)]
def cd_L_act_25 : List (Nat × Instr × Nat) := [(800, .iload 12, 2), (802, .invokevirtual 166, 3), (805, .iload 11, 2), (807, .iload 12, 2), (809, .aload 4, 2), (811, .aload 5, 2), (813, .aload 6, 2), (815, .aload 7, 2), (817, .aload 8, 2), (819, .aload 9, 2), (821, .aload 10, 2), (823, .invokestatic 129, 3), (826, .if_icmp .ne 7, 3), (829, .iconst 1, 1), (830, .goto 4, 3)]
def cd_L_act_26 : List (Nat × Instr × Nat) := [(833, .iconst 0, 1), (834, .ireturn, 1), (835, .iload_n 1, 1), (836, .bipush 21, 2), (838, .if_icmp .ge 35, 3), (841, .aload 5, 2), (843, .aload 6, 2), (845, .aload 7, 2), (847, .aload 8, 2), (849, .aload 9, 2), (851, .aload 10, 2), (853, .invokestatic 125, 3), (856, .aload_n 0, 1), (857, .invokevirtual 168, 3), (860, .aload 10, 2), (862, .iconst 4, 1), (863, .iaload, 1)]
def cd_L_act_27 : List (Nat × Instr × Nat) := [(864, .if_icmp .ne 7, 3), (867, .iconst 1, 1), (868, .goto 4, 3), (871, .iconst 0, 1), (872, .ireturn, 1), (873, .aload_n 0, 1), (874, .iload_n 2, 1), (875, .iload_n 3, 1), (876, .aload 4, 2), (878, .aload 5, 2), (880, .aload 6, 2), (882, .aload 7, 2), (884, .aload 8, 2), (886, .aload 9, 2), (888, .aload 10, 2), (890, .invokestatic 170, 3), (893, .ireturn, 1)]
def cd_L_law_0 : List (Nat × Instr × Nat) := [(0, .new 52, 3), (3, .dup, 1), (4, .invokespecial 174, 3), (7, .astore_n 1, 1), (8, .bipush 24, 2), (10, .newarray .int, 2), (12, .astore_n 2, 1), (13, .bipush 21, 2), (15, .newarray .int, 2), (17, .astore_n 3, 1), (18, .bipush 16, 2), (20, .newarray .int, 2), (22, .astore 4, 2), (24, .bipush 12, 2), (26, .newarray .int, 2), (28, .astore 5, 2), (30, .bipush 30, 2)]
def cd_L_law_1 : List (Nat × Instr × Nat) := [(32, .newarray .int, 2), (34, .astore 6, 2), (36, .iconst 5, 1), (37, .newarray .int, 2), (39, .astore 7, 2), (41, .bipush 11, 2), (43, .newarray .int, 2), (45, .astore 8, 2), (47, .iconst 0, 1), (48, .istore 9, 2), (50, .iload 9, 2), (52, .bipush 30, 2), (54, .if_icmp .ge 15, 3), (57, .aload 6, 2), (59, .iload 9, 2), (61, .iconst (-1), 1), (62, .iastore, 1), (63, .iinc 9 1, 3)]
def cd_L_law_2 : List (Nat × Instr × Nat) := [(66, .goto (-16), 3), (69, .iconst 0, 1), (70, .istore 9, 2), (72, .iload 9, 2), (74, .iconst 3, 1), (75, .if_icmp .ge 19, 3), (78, .aload_n 3, 1), (79, .bipush 7, 2), (81, .iload 9, 2), (83, .imul, 1), (84, .iconst 3, 1), (85, .iadd, 1), (86, .iconst (-1), 1), (87, .iastore, 1), (88, .iinc 9 1, 3), (91, .goto (-19), 3), (94, .aload 8, 2)]
def cd_L_law_3 : List (Nat × Instr × Nat) := [(96, .bipush 6, 2), (98, .iconst 1, 1), (99, .iastore, 1), (100, .aload 7, 2), (102, .iconst 0, 1), (103, .bipush 20, 2), (105, .iastore, 1), (106, .aload 7, 2), (108, .iconst 1, 1), (109, .iconst 2, 1), (110, .iastore, 1), (111, .aload 7, 2), (113, .iconst 2, 1), (114, .bipush 20, 2), (116, .iastore, 1), (117, .aload 7, 2), (119, .iconst 3, 1), (120, .bipush 25, 2), (122, .iastore, 1), (123, .aload 7, 2), (125, .iconst 4, 1), (126, .iconst 5, 1), (127, .iastore, 1)]
def cd_L_law_4 : List (Nat × Instr × Nat) := [(128, .aload_n 1, 1), (129, .aload_n 2, 1), (130, .aload_n 3, 1), (131, .aload 4, 2), (133, .aload 5, 2), (135, .aload 6, 2), (137, .aload 7, 2), (139, .aload 8, 2), (141, .invokestatic 175, 3), (144, .ifCond .eq 22, 3), (147, .aload_n 1, 1), (148, .aload_n 2, 1), (149, .aload_n 3, 1), (150, .aload 4, 2), (152, .aload 5, 2), (154, .aload 6, 2), (156, .aload 7, 2), (158, .aload 8, 2)]
def cd_L_law_5 : List (Nat × Instr × Nat) := [(160, .invokestatic 179, 3), (163, .ifCond .ne 5, 3), (166, .iconst 0, 1), (167, .ireturn, 1), (168, .iconst 0, 1), (169, .istore 9, 2), (171, .iload 9, 2), (173, .bipush 40, 2), (175, .if_icmp .ge 208, 3), (178, .aload_n 0, 1), (179, .iconst 2, 1), (180, .iload 9, 2), (182, .imul, 1), (183, .invokestatic 182, 3), (186, .ldc 186, 2), (188, .iand, 1), (189, .istore 10, 2), (191, .aload_n 0, 1)]
def cd_L_law_6 : List (Nat × Instr × Nat) := [(192, .iconst 2, 1), (193, .iload 9, 2), (195, .imul, 1), (196, .iconst 1, 1), (197, .iadd, 1), (198, .invokestatic 182, 3), (201, .ldc 186, 2), (203, .iand, 1), (204, .istore 11, 2), (206, .iload 9, 2), (208, .iconst 4, 1), (209, .if_icmp .ge 7, 3), (212, .iconst 0, 1), (213, .goto 80, 3), (216, .iload 9, 2), (218, .bipush 6, 2), (220, .if_icmp .ge 7, 3), (223, .iconst 1, 1)]
def cd_L_law_7 : List (Nat × Instr × Nat) := [(224, .goto 69, 3), (227, .iload 9, 2), (229, .bipush 9, 2), (231, .if_icmp .ge 7, 3), (234, .iconst 2, 1), (235, .goto 58, 3), (238, .iload 9, 2), (240, .bipush 11, 2), (242, .if_icmp .ge 7, 3), (245, .iconst 3, 1), (246, .goto 47, 3), (249, .iload 9, 2), (251, .bipush 13, 2), (253, .if_icmp .ge 7, 3)]
def cd_L_law_8 : List (Nat × Instr × Nat) := [(256, .iconst 4, 1), (257, .goto 36, 3), (260, .iload 9, 2), (262, .bipush 16, 2), (264, .if_icmp .ge 7, 3), (267, .iconst 5, 1), (268, .goto 25, 3), (271, .iload 9, 2), (273, .bipush 16, 2), (275, .if_icmp .ne 8, 3), (278, .bipush 8, 2), (280, .goto 13, 3), (283, .iload 10, 2), (285, .bipush 13, 2), (287, .ishr, 1)]
def cd_L_law_9 : List (Nat × Instr × Nat) := [(288, .bipush 23, 2), (290, .invokestatic 114, 3), (293, .istore 12, 2), (295, .aload_n 1, 1), (296, .iload 12, 2), (298, .iload 10, 2), (300, .iload 11, 2), (302, .aload_n 2, 1), (303, .aload_n 3, 1), (304, .aload 4, 2), (306, .aload 5, 2), (308, .aload 6, 2), (310, .aload 7, 2), (312, .aload 8, 2), (314, .invokestatic 187, 3), (317, .ifCond .eq 22, 3)]
def cd_L_law_10 : List (Nat × Instr × Nat) := [(320, .aload_n 1, 1), (321, .aload_n 2, 1), (322, .aload_n 3, 1), (323, .aload 4, 2), (325, .aload 5, 2), (327, .aload 6, 2), (329, .aload 7, 2), (331, .aload 8, 2), (333, .invokestatic 175, 3), (336, .ifCond .ne 5, 3), (339, .iconst 0, 1), (340, .ireturn, 1), (341, .iload 9, 2), (343, .iconst 5, 1), (344, .irem, 1), (345, .iconst 4, 1), (346, .if_icmp .ne 31, 3), (349, .iload 9, 2), (351, .bipush 10, 2)]
def cd_L_law_11 : List (Nat × Instr × Nat) := [(353, .if_icmp .le 24, 3), (356, .aload_n 1, 1), (357, .aload_n 2, 1), (358, .aload_n 3, 1), (359, .aload 4, 2), (361, .aload 5, 2), (363, .aload 6, 2), (365, .aload 7, 2), (367, .aload 8, 2), (369, .invokestatic 179, 3), (372, .ifCond .ne 5, 3), (375, .iconst 0, 1), (376, .ireturn, 1), (377, .iinc 9 1, 3), (380, .goto (-209), 3), (383, .aload_n 1, 1)]
def cd_L_law_12 : List (Nat × Instr × Nat) := [(384, .bipush 15, 2), (386, .invokevirtual 66, 3), (389, .ifCond .le 7, 3), (392, .iconst 1, 1), (393, .goto 4, 3), (396, .iconst 0, 1), (397, .ireturn, 1)]
end CD
end
section
/-! THE DECODED CODE IS THE CODE, by program (wip/p32/gen.py) -/
section DEC
theorem dk_X1_copyFrom_0 : ∀ z ∈ cd_X1_copyFrom_0, decode cX1_copyFrom z.1 = .ok (z.2.1, z.2.2) := by decide +kernel
theorem dk_X1_copyFrom_1 : ∀ z ∈ cd_X1_copyFrom_1, decode cX1_copyFrom z.1 = .ok (z.2.1, z.2.2) := by decide +kernel
theorem dk_X1_isQuietAt_0 : ∀ z ∈ cd_X1_isQuietAt_0, decode cX1_isQuietAt z.1 = .ok (z.2.1, z.2.2) := by decide +kernel
theorem dk_X1_distanceTo_0 : ∀ z ∈ cd_X1_distanceTo_0, decode cX1_distanceTo z.1 = .ok (z.2.1, z.2.2) := by decide +kernel
theorem dk_X1_tunesPlayed_0 : ∀ z ∈ cd_X1_tunesPlayed_0, decode cX1_tunesPlayed z.1 = .ok (z.2.1, z.2.2) := by decide +kernel
theorem dk_X1_tunesPlayed_1 : ∀ z ∈ cd_X1_tunesPlayed_1, decode cX1_tunesPlayed z.1 = .ok (z.2.1, z.2.2) := by decide +kernel
theorem dk_X1_noteTune_0 : ∀ z ∈ cd_X1_noteTune_0, decode cX1_noteTune z.1 = .ok (z.2.1, z.2.2) := by decide +kernel
theorem dk_X1_forgetDay_0 : ∀ z ∈ cd_X1_forgetDay_0, decode cX1_forgetDay z.1 = .ok (z.2.1, z.2.2) := by decide +kernel
theorem dk_X2_signCount_0 : ∀ z ∈ cd_X2_signCount_0, decode cX2_signCount z.1 = .ok (z.2.1, z.2.2) := by decide +kernel
theorem dk_X2_fits_0 : ∀ z ∈ cd_X2_fits_0, decode cX2_fits z.1 = .ok (z.2.1, z.2.2) := by decide +kernel
theorem dk_X2_fits_1 : ∀ z ∈ cd_X2_fits_1, decode cX2_fits z.1 = .ok (z.2.1, z.2.2) := by decide +kernel
theorem dk_X3_kindAt_0 : ∀ z ∈ cd_X3_kindAt_0, decode cX3_kindAt z.1 = .ok (z.2.1, z.2.2) := by decide +kernel
theorem dk_X3_kindAt_1 : ∀ z ∈ cd_X3_kindAt_1, decode cX3_kindAt z.1 = .ok (z.2.1, z.2.2) := by decide +kernel
theorem dk_X3_errorIndex_0 : ∀ z ∈ cd_X3_errorIndex_0, decode cX3_errorIndex z.1 = .ok (z.2.1, z.2.2) := by decide +kernel
theorem dk_X3_errorIndex_1 : ∀ z ∈ cd_X3_errorIndex_1, decode cX3_errorIndex z.1 = .ok (z.2.1, z.2.2) := by decide +kernel
theorem dk_X3_errorIndex_2 : ∀ z ∈ cd_X3_errorIndex_2, decode cX3_errorIndex z.1 = .ok (z.2.1, z.2.2) := by decide +kernel
theorem dk_X3_errorIndex_3 : ∀ z ∈ cd_X3_errorIndex_3, decode cX3_errorIndex z.1 = .ok (z.2.1, z.2.2) := by decide +kernel
theorem dk_X3_isWholeRow_0 : ∀ z ∈ cd_X3_isWholeRow_0, decode cX3_isWholeRow z.1 = .ok (z.2.1, z.2.2) := by decide +kernel
theorem dk_X3_isWholeRow_1 : ∀ z ∈ cd_X3_isWholeRow_1, decode cX3_isWholeRow z.1 = .ok (z.2.1, z.2.2) := by decide +kernel
theorem dk_X3_organAt_0 : ∀ z ∈ cd_X3_organAt_0, decode cX3_organAt z.1 = .ok (z.2.1, z.2.2) := by decide +kernel
theorem dk_X3_tuneAt_0 : ∀ z ∈ cd_X3_tuneAt_0, decode cX3_tuneAt z.1 = .ok (z.2.1, z.2.2) := by decide +kernel
theorem dk_X4_copyFrom_0 : ∀ z ∈ cd_X4_copyFrom_0, decode cX4_copyFrom z.1 = .ok (z.2.1, z.2.2) := by decide +kernel
theorem dk_X4_copyFrom_1 : ∀ z ∈ cd_X4_copyFrom_1, decode cX4_copyFrom z.1 = .ok (z.2.1, z.2.2) := by decide +kernel
theorem dk_X4_copyFrom_2 : ∀ z ∈ cd_X4_copyFrom_2, decode cX4_copyFrom z.1 = .ok (z.2.1, z.2.2) := by decide +kernel
theorem dk_X5_lookAt_0 : ∀ z ∈ cd_X5_lookAt_0, decode cX5_lookAt z.1 = .ok (z.2.1, z.2.2) := by decide +kernel
theorem dk_X5_leastHindering_0 : ∀ z ∈ cd_X5_leastHindering_0, decode cX5_leastHindering z.1 = .ok (z.2.1, z.2.2) := by decide +kernel
theorem dk_X5_leastHindering_1 : ∀ z ∈ cd_X5_leastHindering_1, decode cX5_leastHindering z.1 = .ok (z.2.1, z.2.2) := by decide +kernel
theorem dk_X5_hinderedPairs_0 : ∀ z ∈ cd_X5_hinderedPairs_0, decode cX5_hinderedPairs z.1 = .ok (z.2.1, z.2.2) := by decide +kernel
theorem dk_X5_hinderedPairs_1 : ∀ z ∈ cd_X5_hinderedPairs_1, decode cX5_hinderedPairs z.1 = .ok (z.2.1, z.2.2) := by decide +kernel
theorem dk_X5_findMost_0 : ∀ z ∈ cd_X5_findMost_0, decode cX5_findMost z.1 = .ok (z.2.1, z.2.2) := by decide +kernel
theorem dk_X5_findMost_1 : ∀ z ∈ cd_X5_findMost_1, decode cX5_findMost z.1 = .ok (z.2.1, z.2.2) := by decide +kernel
theorem dk_X5_findMost_2 : ∀ z ∈ cd_X5_findMost_2, decode cX5_findMost z.1 = .ok (z.2.1, z.2.2) := by decide +kernel
theorem dk_X5_takingsOf_0 : ∀ z ∈ cd_X5_takingsOf_0, decode cX5_takingsOf z.1 = .ok (z.2.1, z.2.2) := by decide +kernel
theorem dk_X5_takingsOf_1 : ∀ z ∈ cd_X5_takingsOf_1, decode cX5_takingsOf z.1 = .ok (z.2.1, z.2.2) := by decide +kernel
theorem dk_X5_nearAhead_0 : ∀ z ∈ cd_X5_nearAhead_0, decode cX5_nearAhead z.1 = .ok (z.2.1, z.2.2) := by decide +kernel
theorem dk_X5_nearAhead_1 : ∀ z ∈ cd_X5_nearAhead_1, decode cX5_nearAhead z.1 = .ok (z.2.1, z.2.2) := by decide +kernel
theorem dk_X5_findTunes_0 : ∀ z ∈ cd_X5_findTunes_0, decode cX5_findTunes z.1 = .ok (z.2.1, z.2.2) := by decide +kernel
theorem dk_X5_findTunes_1 : ∀ z ∈ cd_X5_findTunes_1, decode cX5_findTunes z.1 = .ok (z.2.1, z.2.2) := by decide +kernel
theorem dk_X5_findTunes_2 : ∀ z ∈ cd_X5_findTunes_2, decode cX5_findTunes z.1 = .ok (z.2.1, z.2.2) := by decide +kernel
theorem dk_X5_findTunes_3 : ∀ z ∈ cd_X5_findTunes_3, decode cX5_findTunes z.1 = .ok (z.2.1, z.2.2) := by decide +kernel
theorem dk_X5_isFree_0 : ∀ z ∈ cd_X5_isFree_0, decode cX5_isFree z.1 = .ok (z.2.1, z.2.2) := by decide +kernel
theorem dk_X5_isFree_1 : ∀ z ∈ cd_X5_isFree_1, decode cX5_isFree z.1 = .ok (z.2.1, z.2.2) := by decide +kernel
theorem dk_X6_reckon_0 : ∀ z ∈ cd_X6_reckon_0, decode cX6_reckon z.1 = .ok (z.2.1, z.2.2) := by decide +kernel
theorem dk_X6_reckon_1 : ∀ z ∈ cd_X6_reckon_1, decode cX6_reckon z.1 = .ok (z.2.1, z.2.2) := by decide +kernel
theorem dk_X6_sharePot_0 : ∀ z ∈ cd_X6_sharePot_0, decode cX6_sharePot z.1 = .ok (z.2.1, z.2.2) := by decide +kernel
theorem dk_X6_sharePot_1 : ∀ z ∈ cd_X6_sharePot_1, decode cX6_sharePot z.1 = .ok (z.2.1, z.2.2) := by decide +kernel
theorem dk_X6_sharePot_2 : ∀ z ∈ cd_X6_sharePot_2, decode cX6_sharePot z.1 = .ok (z.2.1, z.2.2) := by decide +kernel
theorem dk_X6_sharePot_3 : ∀ z ∈ cd_X6_sharePot_3, decode cX6_sharePot z.1 = .ok (z.2.1, z.2.2) := by decide +kernel
theorem dk_X6_sharePot_4 : ∀ z ∈ cd_X6_sharePot_4, decode cX6_sharePot z.1 = .ok (z.2.1, z.2.2) := by decide +kernel
theorem dk_X6_giveUnits_0 : ∀ z ∈ cd_X6_giveUnits_0, decode cX6_giveUnits z.1 = .ok (z.2.1, z.2.2) := by decide +kernel
theorem dk_X6_giveUnits_1 : ∀ z ∈ cd_X6_giveUnits_1, decode cX6_giveUnits z.1 = .ok (z.2.1, z.2.2) := by decide +kernel
theorem dk_X6_giveUnits_2 : ∀ z ∈ cd_X6_giveUnits_2, decode cX6_giveUnits z.1 = .ok (z.2.1, z.2.2) := by decide +kernel
theorem dk_X6_giveAllowances_0 : ∀ z ∈ cd_X6_giveAllowances_0, decode cX6_giveAllowances z.1 = .ok (z.2.1, z.2.2) := by decide +kernel
theorem dk_X6_giveAllowances_1 : ∀ z ∈ cd_X6_giveAllowances_1, decode cX6_giveAllowances z.1 = .ok (z.2.1, z.2.2) := by decide +kernel
theorem dk_X7_copyFrom_0 : ∀ z ∈ cd_X7_copyFrom_0, decode cX7_copyFrom z.1 = .ok (z.2.1, z.2.2) := by decide +kernel
theorem dk_X7_copyFrom_1 : ∀ z ∈ cd_X7_copyFrom_1, decode cX7_copyFrom z.1 = .ok (z.2.1, z.2.2) := by decide +kernel
theorem dk_X7_hoursOfDay_0 : ∀ z ∈ cd_X7_hoursOfDay_0, decode cX7_hoursOfDay z.1 = .ok (z.2.1, z.2.2) := by decide +kernel
theorem dk_X7_forgetDay_0 : ∀ z ∈ cd_X7_forgetDay_0, decode cX7_forgetDay z.1 = .ok (z.2.1, z.2.2) := by decide +kernel
theorem dk_X8_save_0 : ∀ z ∈ cd_X8_save_0, decode cX8_save z.1 = .ok (z.2.1, z.2.2) := by decide +kernel
theorem dk_X8_save_1 : ∀ z ∈ cd_X8_save_1, decode cX8_save z.1 = .ok (z.2.1, z.2.2) := by decide +kernel
theorem dk_X9_copyFrom_0 : ∀ z ∈ cd_X9_copyFrom_0, decode cX9_copyFrom z.1 = .ok (z.2.1, z.2.2) := by decide +kernel
theorem dk_X9_copyFrom_1 : ∀ z ∈ cd_X9_copyFrom_1, decode cX9_copyFrom z.1 = .ok (z.2.1, z.2.2) := by decide +kernel
theorem dk_X9_copyFrom_2 : ∀ z ∈ cd_X9_copyFrom_2, decode cX9_copyFrom z.1 = .ok (z.2.1, z.2.2) := by decide +kernel
theorem dk_X9_copyFrom_3 : ∀ z ∈ cd_X9_copyFrom_3, decode cX9_copyFrom z.1 = .ok (z.2.1, z.2.2) := by decide +kernel
theorem dk_X9_copyFrom_4 : ∀ z ∈ cd_X9_copyFrom_4, decode cX9_copyFrom z.1 = .ok (z.2.1, z.2.2) := by decide +kernel
theorem dk_X9_copyFrom_5 : ∀ z ∈ cd_X9_copyFrom_5, decode cX9_copyFrom z.1 = .ok (z.2.1, z.2.2) := by decide +kernel
theorem dk_X9_hasCornerAt_0 : ∀ z ∈ cd_X9_hasCornerAt_0, decode cX9_hasCornerAt z.1 = .ok (z.2.1, z.2.2) := by decide +kernel
theorem dk_X9_hasCornerAt_1 : ∀ z ∈ cd_X9_hasCornerAt_1, decode cX9_hasCornerAt z.1 = .ok (z.2.1, z.2.2) := by decide +kernel
theorem dk_X9_permits_0 : ∀ z ∈ cd_X9_permits_0, decode cX9_permits z.1 = .ok (z.2.1, z.2.2) := by decide +kernel
theorem dk_X9_permits_1 : ∀ z ∈ cd_X9_permits_1, decode cX9_permits z.1 = .ok (z.2.1, z.2.2) := by decide +kernel
theorem dk_X9_crewSize_0 : ∀ z ∈ cd_X9_crewSize_0, decode cX9_crewSize z.1 = .ok (z.2.1, z.2.2) := by decide +kernel
theorem dk_X9_crewSize_1 : ∀ z ∈ cd_X9_crewSize_1, decode cX9_crewSize z.1 = .ok (z.2.1, z.2.2) := by decide +kernel
theorem dk_X9_organAt_0 : ∀ z ∈ cd_X9_organAt_0, decode cX9_organAt z.1 = .ok (z.2.1, z.2.2) := by decide +kernel
theorem dk_X9_organAt_1 : ∀ z ∈ cd_X9_organAt_1, decode cX9_organAt z.1 = .ok (z.2.1, z.2.2) := by decide +kernel
theorem dk_X9_cornerOf_0 : ∀ z ∈ cd_X9_cornerOf_0, decode cX9_cornerOf z.1 = .ok (z.2.1, z.2.2) := by decide +kernel
theorem dk_X9_cornerOf_1 : ∀ z ∈ cd_X9_cornerOf_1, decode cX9_cornerOf z.1 = .ok (z.2.1, z.2.2) := by decide +kernel
theorem dk_X9_takingsSoFar_0 : ∀ z ∈ cd_X9_takingsSoFar_0, decode cX9_takingsSoFar z.1 = .ok (z.2.1, z.2.2) := by decide +kernel
theorem dk_X9_ownersSoFar_0 : ∀ z ∈ cd_X9_ownersSoFar_0, decode cX9_ownersSoFar z.1 = .ok (z.2.1, z.2.2) := by decide +kernel
theorem dk_X9_inAllPots_0 : ∀ z ∈ cd_X9_inAllPots_0, decode cX9_inAllPots z.1 = .ok (z.2.1, z.2.2) := by decide +kernel
theorem dk_X9_playersSoFar_0 : ∀ z ∈ cd_X9_playersSoFar_0, decode cX9_playersSoFar z.1 = .ok (z.2.1, z.2.2) := by decide +kernel
theorem dk_X9_weatherMayChange_0 : ∀ z ∈ cd_X9_weatherMayChange_0, decode cX9_weatherMayChange z.1 = .ok (z.2.1, z.2.2) := by decide +kernel
theorem dk_X9_lotsMayBeDrawn_0 : ∀ z ∈ cd_X9_lotsMayBeDrawn_0, decode cX9_lotsMayBeDrawn z.1 = .ok (z.2.1, z.2.2) := by decide +kernel
theorem dk_X9_drawLots_0 : ∀ z ∈ cd_X9_drawLots_0, decode cX9_drawLots z.1 = .ok (z.2.1, z.2.2) := by decide +kernel
theorem dk_X9_drawLots_1 : ∀ z ∈ cd_X9_drawLots_1, decode cX9_drawLots z.1 = .ok (z.2.1, z.2.2) := by decide +kernel
theorem dk_X9_drawLots_2 : ∀ z ∈ cd_X9_drawLots_2, decode cX9_drawLots z.1 = .ok (z.2.1, z.2.2) := by decide +kernel
theorem dk_X9_takeCornersBack_0 : ∀ z ∈ cd_X9_takeCornersBack_0, decode cX9_takeCornersBack z.1 = .ok (z.2.1, z.2.2) := by decide +kernel
theorem dk_X9_draw_0 : ∀ z ∈ cd_X9_draw_0, decode cX9_draw z.1 = .ok (z.2.1, z.2.2) := by decide +kernel
theorem dk_X9_draw_1 : ∀ z ∈ cd_X9_draw_1, decode cX9_draw z.1 = .ok (z.2.1, z.2.2) := by decide +kernel
theorem dk_X9_freeCorner_0 : ∀ z ∈ cd_X9_freeCorner_0, decode cX9_freeCorner z.1 = .ok (z.2.1, z.2.2) := by decide +kernel
theorem dk_X9_freeCorner_1 : ∀ z ∈ cd_X9_freeCorner_1, decode cX9_freeCorner z.1 = .ok (z.2.1, z.2.2) := by decide +kernel
theorem dk_X9_areNear_0 : ∀ z ∈ cd_X9_areNear_0, decode cX9_areNear z.1 = .ok (z.2.1, z.2.2) := by decide +kernel
theorem dk_X9_areNear_1 : ∀ z ∈ cd_X9_areNear_1, decode cX9_areNear z.1 = .ok (z.2.1, z.2.2) := by decide +kernel
theorem dk_X9_tunesHeardAt_0 : ∀ z ∈ cd_X9_tunesHeardAt_0, decode cX9_tunesHeardAt z.1 = .ok (z.2.1, z.2.2) := by decide +kernel
theorem dk_X9_tunesHeardAt_1 : ∀ z ∈ cd_X9_tunesHeardAt_1, decode cX9_tunesHeardAt z.1 = .ok (z.2.1, z.2.2) := by decide +kernel
theorem dk_X9_tunesHeardAt_2 : ∀ z ∈ cd_X9_tunesHeardAt_2, decode cX9_tunesHeardAt z.1 = .ok (z.2.1, z.2.2) := by decide +kernel
theorem dk_X9_reasonAgainstAll_0 : ∀ z ∈ cd_X9_reasonAgainstAll_0, decode cX9_reasonAgainstAll z.1 = .ok (z.2.1, z.2.2) := by decide +kernel
theorem dk_X9_reasonAgainstAll_1 : ∀ z ∈ cd_X9_reasonAgainstAll_1, decode cX9_reasonAgainstAll z.1 = .ok (z.2.1, z.2.2) := by decide +kernel
theorem dk_X9_reasonAgainst_0 : ∀ z ∈ cd_X9_reasonAgainst_0, decode cX9_reasonAgainst z.1 = .ok (z.2.1, z.2.2) := by decide +kernel
theorem dk_X9_reasonAgainst_1 : ∀ z ∈ cd_X9_reasonAgainst_1, decode cX9_reasonAgainst z.1 = .ok (z.2.1, z.2.2) := by decide +kernel
theorem dk_X9_reasonAgainst_2 : ∀ z ∈ cd_X9_reasonAgainst_2, decode cX9_reasonAgainst z.1 = .ok (z.2.1, z.2.2) := by decide +kernel
theorem dk_X9_playableTunes_0 : ∀ z ∈ cd_X9_playableTunes_0, decode cX9_playableTunes z.1 = .ok (z.2.1, z.2.2) := by decide +kernel
theorem dk_X9_playableTunes_1 : ∀ z ∈ cd_X9_playableTunes_1, decode cX9_playableTunes z.1 = .ok (z.2.1, z.2.2) := by decide +kernel
theorem dk_X9_playedNear_0 : ∀ z ∈ cd_X9_playedNear_0, decode cX9_playedNear z.1 = .ok (z.2.1, z.2.2) := by decide +kernel
theorem dk_X9_playedNear_1 : ∀ z ∈ cd_X9_playedNear_1, decode cX9_playedNear z.1 = .ok (z.2.1, z.2.2) := by decide +kernel
theorem dk_X9_takingsFor_0 : ∀ z ∈ cd_X9_takingsFor_0, decode cX9_takingsFor z.1 = .ok (z.2.1, z.2.2) := by decide +kernel
theorem dk_X9_takingsFor_1 : ∀ z ∈ cd_X9_takingsFor_1, decode cX9_takingsFor z.1 = .ok (z.2.1, z.2.2) := by decide +kernel
theorem dk_X9_playTune_0 : ∀ z ∈ cd_X9_playTune_0, decode cX9_playTune z.1 = .ok (z.2.1, z.2.2) := by decide +kernel
theorem dk_X9_playTune_1 : ∀ z ∈ cd_X9_playTune_1, decode cX9_playTune z.1 = .ok (z.2.1, z.2.2) := by decide +kernel
theorem dk_X9_playTune_2 : ∀ z ∈ cd_X9_playTune_2, decode cX9_playTune z.1 = .ok (z.2.1, z.2.2) := by decide +kernel
theorem dk_X9_divideTakings_0 : ∀ z ∈ cd_X9_divideTakings_0, decode cX9_divideTakings z.1 = .ok (z.2.1, z.2.2) := by decide +kernel
theorem dk_X9_divideTakings_1 : ∀ z ∈ cd_X9_divideTakings_1, decode cX9_divideTakings z.1 = .ok (z.2.1, z.2.2) := by decide +kernel
theorem dk_X9_divideTakings_2 : ∀ z ∈ cd_X9_divideTakings_2, decode cX9_divideTakings z.1 = .ok (z.2.1, z.2.2) := by decide +kernel
theorem dk_X9_divideTakings_3 : ∀ z ∈ cd_X9_divideTakings_3, decode cX9_divideTakings z.1 = .ok (z.2.1, z.2.2) := by decide +kernel
theorem dk_X9_addHourOfCrew_0 : ∀ z ∈ cd_X9_addHourOfCrew_0, decode cX9_addHourOfCrew z.1 = .ok (z.2.1, z.2.2) := by decide +kernel
theorem dk_X9_addHourOfCrew_1 : ∀ z ∈ cd_X9_addHourOfCrew_1, decode cX9_addHourOfCrew z.1 = .ok (z.2.1, z.2.2) := by decide +kernel
theorem dk_X9_endHour_0 : ∀ z ∈ cd_X9_endHour_0, decode cX9_endHour z.1 = .ok (z.2.1, z.2.2) := by decide +kernel
theorem dk_X9_endHour_1 : ∀ z ∈ cd_X9_endHour_1, decode cX9_endHour z.1 = .ok (z.2.1, z.2.2) := by decide +kernel
theorem dk_X9_payOut_0 : ∀ z ∈ cd_X9_payOut_0, decode cX9_payOut z.1 = .ok (z.2.1, z.2.2) := by decide +kernel
theorem dk_X9_payOut_1 : ∀ z ∈ cd_X9_payOut_1, decode cX9_payOut z.1 = .ok (z.2.1, z.2.2) := by decide +kernel
theorem dk_X9_payOut_2 : ∀ z ∈ cd_X9_payOut_2, decode cX9_payOut z.1 = .ok (z.2.1, z.2.2) := by decide +kernel
theorem dk_X9_payOut_3 : ∀ z ∈ cd_X9_payOut_3, decode cX9_payOut z.1 = .ok (z.2.1, z.2.2) := by decide +kernel
theorem dk_X9_beginDay_0 : ∀ z ∈ cd_X9_beginDay_0, decode cX9_beginDay z.1 = .ok (z.2.1, z.2.2) := by decide +kernel
theorem dk_X9_beginDay_1 : ∀ z ∈ cd_X9_beginDay_1, decode cX9_beginDay z.1 = .ok (z.2.1, z.2.2) := by decide +kernel
theorem dk_X9_beginDay_2 : ∀ z ∈ cd_X9_beginDay_2, decode cX9_beginDay z.1 = .ok (z.2.1, z.2.2) := by decide +kernel
theorem dk_X10_addCorner_0 : ∀ z ∈ cd_X10_addCorner_0, decode cX10_addCorner z.1 = .ok (z.2.1, z.2.2) := by decide +kernel
theorem dk_X10_addCorner_1 : ∀ z ∈ cd_X10_addCorner_1, decode cX10_addCorner z.1 = .ok (z.2.1, z.2.2) := by decide +kernel
theorem dk_X10_addCorner_2 : ∀ z ∈ cd_X10_addCorner_2, decode cX10_addCorner z.1 = .ok (z.2.1, z.2.2) := by decide +kernel
theorem dk_X10_addCorner_3 : ∀ z ∈ cd_X10_addCorner_3, decode cX10_addCorner z.1 = .ok (z.2.1, z.2.2) := by decide +kernel
theorem dk_X10_addCorner_4 : ∀ z ∈ cd_X10_addCorner_4, decode cX10_addCorner z.1 = .ok (z.2.1, z.2.2) := by decide +kernel
theorem dk_X10_addOrgan_0 : ∀ z ∈ cd_X10_addOrgan_0, decode cX10_addOrgan z.1 = .ok (z.2.1, z.2.2) := by decide +kernel
theorem dk_X10_addOrgan_1 : ∀ z ∈ cd_X10_addOrgan_1, decode cX10_addOrgan z.1 = .ok (z.2.1, z.2.2) := by decide +kernel
theorem dk_X10_addOrgan_2 : ∀ z ∈ cd_X10_addOrgan_2, decode cX10_addOrgan z.1 = .ok (z.2.1, z.2.2) := by decide +kernel
theorem dk_X10_addPlayer_0 : ∀ z ∈ cd_X10_addPlayer_0, decode cX10_addPlayer z.1 = .ok (z.2.1, z.2.2) := by decide +kernel
theorem dk_X10_addPlayer_1 : ∀ z ∈ cd_X10_addPlayer_1, decode cX10_addPlayer z.1 = .ok (z.2.1, z.2.2) := by decide +kernel
theorem dk_X10_permit_0 : ∀ z ∈ cd_X10_permit_0, decode cX10_permit z.1 = .ok (z.2.1, z.2.2) := by decide +kernel
theorem dk_X10_permit_1 : ∀ z ∈ cd_X10_permit_1, decode cX10_permit z.1 = .ok (z.2.1, z.2.2) := by decide +kernel
theorem dk_X10_barrel_0 : ∀ z ∈ cd_X10_barrel_0, decode cX10_barrel z.1 = .ok (z.2.1, z.2.2) := by decide +kernel
theorem dk_X10_barrel_1 : ∀ z ∈ cd_X10_barrel_1, decode cX10_barrel z.1 = .ok (z.2.1, z.2.2) := by decide +kernel
theorem dk_X10_assign_0 : ∀ z ∈ cd_X10_assign_0, decode cX10_assign z.1 = .ok (z.2.1, z.2.2) := by decide +kernel
theorem dk_X10_assign_1 : ∀ z ∈ cd_X10_assign_1, decode cX10_assign z.1 = .ok (z.2.1, z.2.2) := by decide +kernel
theorem dk_X10_assign_2 : ∀ z ∈ cd_X10_assign_2, decode cX10_assign z.1 = .ok (z.2.1, z.2.2) := by decide +kernel
theorem dk_X10_set_0 : ∀ z ∈ cd_X10_set_0, decode cX10_set z.1 = .ok (z.2.1, z.2.2) := by decide +kernel
theorem dk_X10_set_1 : ∀ z ∈ cd_X10_set_1, decode cX10_set z.1 = .ok (z.2.1, z.2.2) := by decide +kernel
theorem dk_X10_lots_0 : ∀ z ∈ cd_X10_lots_0, decode cX10_lots z.1 = .ok (z.2.1, z.2.2) := by decide +kernel
theorem dk_X10_weather_0 : ∀ z ∈ cd_X10_weather_0, decode cX10_weather z.1 = .ok (z.2.1, z.2.2) := by decide +kernel
theorem dk_X10_weather_1 : ∀ z ∈ cd_X10_weather_1, decode cX10_weather z.1 = .ok (z.2.1, z.2.2) := by decide +kernel
theorem dk_X10_play_0 : ∀ z ∈ cd_X10_play_0, decode cX10_play z.1 = .ok (z.2.1, z.2.2) := by decide +kernel
theorem dk_X10_play_1 : ∀ z ∈ cd_X10_play_1, decode cX10_play z.1 = .ok (z.2.1, z.2.2) := by decide +kernel
theorem dk_X10_next_0 : ∀ z ∈ cd_X10_next_0, decode cX10_next z.1 = .ok (z.2.1, z.2.2) := by decide +kernel
theorem dk_X10_append_0 : ∀ z ∈ cd_X10_append_0, decode cX10_append z.1 = .ok (z.2.1, z.2.2) := by decide +kernel
theorem dk_X10_append_1 : ∀ z ∈ cd_X10_append_1, decode cX10_append z.1 = .ok (z.2.1, z.2.2) := by decide +kernel
theorem dk_X10_append_2 : ∀ z ∈ cd_X10_append_2, decode cX10_append z.1 = .ok (z.2.1, z.2.2) := by decide +kernel
theorem dk_X10_clearBuffer_0 : ∀ z ∈ cd_X10_clearBuffer_0, decode cX10_clearBuffer z.1 = .ok (z.2.1, z.2.2) := by decide +kernel
theorem dk_X10_run_0 : ∀ z ∈ cd_X10_run_0, decode cX10_run z.1 = .ok (z.2.1, z.2.2) := by decide +kernel
theorem dk_X10_run_1 : ∀ z ∈ cd_X10_run_1, decode cX10_run z.1 = .ok (z.2.1, z.2.2) := by decide +kernel
theorem dk_X10_run_2 : ∀ z ∈ cd_X10_run_2, decode cX10_run z.1 = .ok (z.2.1, z.2.2) := by decide +kernel
theorem dk_X10_corner_0 : ∀ z ∈ cd_X10_corner_0, decode cX10_corner z.1 = .ok (z.2.1, z.2.2) := by decide +kernel
theorem dk_X10_corner_1 : ∀ z ∈ cd_X10_corner_1, decode cX10_corner z.1 = .ok (z.2.1, z.2.2) := by decide +kernel
theorem dk_X10_corner_2 : ∀ z ∈ cd_X10_corner_2, decode cX10_corner z.1 = .ok (z.2.1, z.2.2) := by decide +kernel
theorem dk_X10_corner_3 : ∀ z ∈ cd_X10_corner_3, decode cX10_corner z.1 = .ok (z.2.1, z.2.2) := by decide +kernel
theorem dk_X10_organ_0 : ∀ z ∈ cd_X10_organ_0, decode cX10_organ z.1 = .ok (z.2.1, z.2.2) := by decide +kernel
theorem dk_X10_organ_1 : ∀ z ∈ cd_X10_organ_1, decode cX10_organ z.1 = .ok (z.2.1, z.2.2) := by decide +kernel
theorem dk_X10_organ_2 : ∀ z ∈ cd_X10_organ_2, decode cX10_organ z.1 = .ok (z.2.1, z.2.2) := by decide +kernel
theorem dk_X10_organ_3 : ∀ z ∈ cd_X10_organ_3, decode cX10_organ z.1 = .ok (z.2.1, z.2.2) := by decide +kernel
theorem dk_X10_player_0 : ∀ z ∈ cd_X10_player_0, decode cX10_player z.1 = .ok (z.2.1, z.2.2) := by decide +kernel
theorem dk_X10_player_1 : ∀ z ∈ cd_X10_player_1, decode cX10_player z.1 = .ok (z.2.1, z.2.2) := by decide +kernel
theorem dk_X10_player_2 : ∀ z ∈ cd_X10_player_2, decode cX10_player z.1 = .ok (z.2.1, z.2.2) := by decide +kernel
theorem dk_X10_hours_0 : ∀ z ∈ cd_X10_hours_0, decode cX10_hours z.1 = .ok (z.2.1, z.2.2) := by decide +kernel
theorem dk_X10_hours_1 : ∀ z ∈ cd_X10_hours_1, decode cX10_hours z.1 = .ok (z.2.1, z.2.2) := by decide +kernel
theorem dk_X10_count_0 : ∀ z ∈ cd_X10_count_0, decode cX10_count z.1 = .ok (z.2.1, z.2.2) := by decide +kernel
theorem dk_X10_count_1 : ∀ z ∈ cd_X10_count_1, decode cX10_count z.1 = .ok (z.2.1, z.2.2) := by decide +kernel
theorem dk_X10_count_2 : ∀ z ∈ cd_X10_count_2, decode cX10_count z.1 = .ok (z.2.1, z.2.2) := by decide +kernel
theorem dk_X10_count_3 : ∀ z ∈ cd_X10_count_3, decode cX10_count z.1 = .ok (z.2.1, z.2.2) := by decide +kernel
theorem dk_X10_count_4 : ∀ z ∈ cd_X10_count_4, decode cX10_count z.1 = .ok (z.2.1, z.2.2) := by decide +kernel
theorem dk_X10_count_5 : ∀ z ∈ cd_X10_count_5, decode cX10_count z.1 = .ok (z.2.1, z.2.2) := by decide +kernel
theorem dk_X10_count_6 : ∀ z ∈ cd_X10_count_6, decode cX10_count z.1 = .ok (z.2.1, z.2.2) := by decide +kernel
theorem dk_X10_setting_0 : ∀ z ∈ cd_X10_setting_0, decode cX10_setting z.1 = .ok (z.2.1, z.2.2) := by decide +kernel
theorem dk_X10_whyNot_0 : ∀ z ∈ cd_X10_whyNot_0, decode cX10_whyNot z.1 = .ok (z.2.1, z.2.2) := by decide +kernel
theorem dk_X10_ifPlayed_0 : ∀ z ∈ cd_X10_ifPlayed_0, decode cX10_ifPlayed z.1 = .ok (z.2.1, z.2.2) := by decide +kernel
theorem dk_X10_ifPlayed_1 : ∀ z ∈ cd_X10_ifPlayed_1, decode cX10_ifPlayed z.1 = .ok (z.2.1, z.2.2) := by decide +kernel
theorem dk_X10_kindestTune_0 : ∀ z ∈ cd_X10_kindestTune_0, decode cX10_kindestTune z.1 = .ok (z.2.1, z.2.2) := by decide +kernel
theorem dk_X10_kindestTune_1 : ∀ z ∈ cd_X10_kindestTune_1, decode cX10_kindestTune z.1 = .ok (z.2.1, z.2.2) := by decide +kernel
theorem dk_X10_most_0 : ∀ z ∈ cd_X10_most_0, decode cX10_most z.1 = .ok (z.2.1, z.2.2) := by decide +kernel
theorem dk_X10_most_1 : ∀ z ∈ cd_X10_most_1, decode cX10_most z.1 = .ok (z.2.1, z.2.2) := by decide +kernel
theorem dk_X10_ifEnded_0 : ∀ z ∈ cd_X10_ifEnded_0, decode cX10_ifEnded z.1 = .ok (z.2.1, z.2.2) := by decide +kernel
theorem dk_X10_ifEnded_1 : ∀ z ∈ cd_X10_ifEnded_1, decode cX10_ifEnded z.1 = .ok (z.2.1, z.2.2) := by decide +kernel
theorem dk_X10_playersShare_0 : ∀ z ∈ cd_X10_playersShare_0, decode cX10_playersShare z.1 = .ok (z.2.1, z.2.2) := by decide +kernel
theorem dk_X10_requireIndex_0 : ∀ z ∈ cd_X10_requireIndex_0, decode cX10_requireIndex z.1 = .ok (z.2.1, z.2.2) := by decide +kernel
theorem dk_X10_requireInRange_0 : ∀ z ∈ cd_X10_requireInRange_0, decode cX10_requireInRange z.1 = .ok (z.2.1, z.2.2) := by decide +kernel
theorem dk_X10_requireState_0 : ∀ z ∈ cd_X10_requireState_0, decode cX10_requireState z.1 = .ok (z.2.1, z.2.2) := by decide +kernel
theorem dk_X10_asNumber_0 : ∀ z ∈ cd_X10_asNumber_0, decode cX10_asNumber z.1 = .ok (z.2.1, z.2.2) := by decide +kernel
theorem dk_X10_holds_0 : ∀ z ∈ cd_X10_holds_0, decode cX10_holds z.1 = .ok (z.2.1, z.2.2) := by decide +kernel
theorem dk_X10_obey_0 : ∀ z ∈ cd_X10_obey_0, decode cX10_obey z.1 = .ok (z.2.1, z.2.2) := by decide +kernel
theorem dk_X10_obey_1 : ∀ z ∈ cd_X10_obey_1, decode cX10_obey z.1 = .ok (z.2.1, z.2.2) := by decide +kernel
theorem dk_X10_obey_2 : ∀ z ∈ cd_X10_obey_2, decode cX10_obey z.1 = .ok (z.2.1, z.2.2) := by decide +kernel
theorem dk_X10_obey_3 : ∀ z ∈ cd_X10_obey_3, decode cX10_obey z.1 = .ok (z.2.1, z.2.2) := by decide +kernel
theorem dk_X10_obey_4 : ∀ z ∈ cd_X10_obey_4, decode cX10_obey z.1 = .ok (z.2.1, z.2.2) := by decide +kernel
theorem dk_X10_obeyPlay_0 : ∀ z ∈ cd_X10_obeyPlay_0, decode cX10_obeyPlay z.1 = .ok (z.2.1, z.2.2) := by decide +kernel
theorem dk_X10_obeyPlay_1 : ∀ z ∈ cd_X10_obeyPlay_1, decode cX10_obeyPlay z.1 = .ok (z.2.1, z.2.2) := by decide +kernel
theorem dk_L_cell_0 : ∀ z ∈ cd_L_cell_0, decode cL_cell z.1 = .ok (z.2.1, z.2.2) := by decide +kernel
theorem dk_L_at_0 : ∀ z ∈ cd_L_at_0, decode cL_at z.1 = .ok (z.2.1, z.2.2) := by decide +kernel
theorem dk_L_abs_0 : ∀ z ∈ cd_L_abs_0, decode cL_abs z.1 = .ok (z.2.1, z.2.2) := by decide +kernel
theorem dk_L_draw_0 : ∀ z ∈ cd_L_draw_0, decode cL_draw z.1 = .ok (z.2.1, z.2.2) := by decide +kernel
theorem dk_L_holder_0 : ∀ z ∈ cd_L_holder_0, decode cL_holder z.1 = .ok (z.2.1, z.2.2) := by decide +kernel
theorem dk_L_today_0 : ∀ z ∈ cd_L_today_0, decode cL_today z.1 = .ok (z.2.1, z.2.2) := by decide +kernel
theorem dk_L_drawn_0 : ∀ z ∈ cd_L_drawn_0, decode cL_drawn z.1 = .ok (z.2.1, z.2.2) := by decide +kernel
theorem dk_L_drawn_1 : ∀ z ∈ cd_L_drawn_1, decode cL_drawn z.1 = .ok (z.2.1, z.2.2) := by decide +kernel
theorem dk_L_drawn_2 : ∀ z ∈ cd_L_drawn_2, decode cL_drawn z.1 = .ok (z.2.1, z.2.2) := by decide +kernel
theorem dk_L_drawn_3 : ∀ z ∈ cd_L_drawn_3, decode cL_drawn z.1 = .ok (z.2.1, z.2.2) := by decide +kernel
theorem dk_L_drawn_4 : ∀ z ∈ cd_L_drawn_4, decode cL_drawn z.1 = .ok (z.2.1, z.2.2) := by decide +kernel
theorem dk_L_drawn_5 : ∀ z ∈ cd_L_drawn_5, decode cL_drawn z.1 = .ok (z.2.1, z.2.2) := by decide +kernel
theorem dk_L_near_0 : ∀ z ∈ cd_L_near_0, decode cL_near z.1 = .ok (z.2.1, z.2.2) := by decide +kernel
theorem dk_L_quiet_0 : ∀ z ∈ cd_L_quiet_0, decode cL_quiet z.1 = .ok (z.2.1, z.2.2) := by decide +kernel
theorem dk_L_quiet_1 : ∀ z ∈ cd_L_quiet_1, decode cL_quiet z.1 = .ok (z.2.1, z.2.2) := by decide +kernel
theorem dk_L_heard_0 : ∀ z ∈ cd_L_heard_0, decode cL_heard z.1 = .ok (z.2.1, z.2.2) := by decide +kernel
theorem dk_L_heard_1 : ∀ z ∈ cd_L_heard_1, decode cL_heard z.1 = .ok (z.2.1, z.2.2) := by decide +kernel
theorem dk_L_heard_2 : ∀ z ∈ cd_L_heard_2, decode cL_heard z.1 = .ok (z.2.1, z.2.2) := by decide +kernel
theorem dk_L_heard_3 : ∀ z ∈ cd_L_heard_3, decode cL_heard z.1 = .ok (z.2.1, z.2.2) := by decide +kernel
theorem dk_L_crew_0 : ∀ z ∈ cd_L_crew_0, decode cL_crew z.1 = .ok (z.2.1, z.2.2) := by decide +kernel
theorem dk_L_crew_1 : ∀ z ∈ cd_L_crew_1, decode cL_crew z.1 = .ok (z.2.1, z.2.2) := by decide +kernel
theorem dk_L_why_0 : ∀ z ∈ cd_L_why_0, decode cL_why z.1 = .ok (z.2.1, z.2.2) := by decide +kernel
theorem dk_L_why_1 : ∀ z ∈ cd_L_why_1, decode cL_why z.1 = .ok (z.2.1, z.2.2) := by decide +kernel
theorem dk_L_why_2 : ∀ z ∈ cd_L_why_2, decode cL_why z.1 = .ok (z.2.1, z.2.2) := by decide +kernel
theorem dk_L_why_3 : ∀ z ∈ cd_L_why_3, decode cL_why z.1 = .ok (z.2.1, z.2.2) := by decide +kernel
theorem dk_L_takes_0 : ∀ z ∈ cd_L_takes_0, decode cL_takes z.1 = .ok (z.2.1, z.2.2) := by decide +kernel
theorem dk_L_takes_1 : ∀ z ∈ cd_L_takes_1, decode cL_takes z.1 = .ok (z.2.1, z.2.2) := by decide +kernel
theorem dk_L_takes_2 : ∀ z ∈ cd_L_takes_2, decode cL_takes z.1 = .ok (z.2.1, z.2.2) := by decide +kernel
theorem dk_L_takes_3 : ∀ z ∈ cd_L_takes_3, decode cL_takes z.1 = .ok (z.2.1, z.2.2) := by decide +kernel
theorem dk_L_play_0 : ∀ z ∈ cd_L_play_0, decode cL_play z.1 = .ok (z.2.1, z.2.2) := by decide +kernel
theorem dk_L_play_1 : ∀ z ∈ cd_L_play_1, decode cL_play z.1 = .ok (z.2.1, z.2.2) := by decide +kernel
theorem dk_L_play_2 : ∀ z ∈ cd_L_play_2, decode cL_play z.1 = .ok (z.2.1, z.2.2) := by decide +kernel
theorem dk_L_play_3 : ∀ z ∈ cd_L_play_3, decode cL_play z.1 = .ok (z.2.1, z.2.2) := by decide +kernel
theorem dk_L_play_4 : ∀ z ∈ cd_L_play_4, decode cL_play z.1 = .ok (z.2.1, z.2.2) := by decide +kernel
theorem dk_L_play_5 : ∀ z ∈ cd_L_play_5, decode cL_play z.1 = .ok (z.2.1, z.2.2) := by decide +kernel
theorem dk_L_play_6 : ∀ z ∈ cd_L_play_6, decode cL_play z.1 = .ok (z.2.1, z.2.2) := by decide +kernel
theorem dk_L_ends_0 : ∀ z ∈ cd_L_ends_0, decode cL_ends z.1 = .ok (z.2.1, z.2.2) := by decide +kernel
theorem dk_L_ends_1 : ∀ z ∈ cd_L_ends_1, decode cL_ends z.1 = .ok (z.2.1, z.2.2) := by decide +kernel
theorem dk_L_ends_2 : ∀ z ∈ cd_L_ends_2, decode cL_ends z.1 = .ok (z.2.1, z.2.2) := by decide +kernel
theorem dk_L_ends_3 : ∀ z ∈ cd_L_ends_3, decode cL_ends z.1 = .ok (z.2.1, z.2.2) := by decide +kernel
theorem dk_L_ends_4 : ∀ z ∈ cd_L_ends_4, decode cL_ends z.1 = .ok (z.2.1, z.2.2) := by decide +kernel
theorem dk_L_ends_5 : ∀ z ∈ cd_L_ends_5, decode cL_ends z.1 = .ok (z.2.1, z.2.2) := by decide +kernel
theorem dk_L_ends_6 : ∀ z ∈ cd_L_ends_6, decode cL_ends z.1 = .ok (z.2.1, z.2.2) := by decide +kernel
theorem dk_L_ends_7 : ∀ z ∈ cd_L_ends_7, decode cL_ends z.1 = .ok (z.2.1, z.2.2) := by decide +kernel
theorem dk_L_ends_8 : ∀ z ∈ cd_L_ends_8, decode cL_ends z.1 = .ok (z.2.1, z.2.2) := by decide +kernel
theorem dk_L_ends_9 : ∀ z ∈ cd_L_ends_9, decode cL_ends z.1 = .ok (z.2.1, z.2.2) := by decide +kernel
theorem dk_L_ends_10 : ∀ z ∈ cd_L_ends_10, decode cL_ends z.1 = .ok (z.2.1, z.2.2) := by decide +kernel
theorem dk_L_ends_11 : ∀ z ∈ cd_L_ends_11, decode cL_ends z.1 = .ok (z.2.1, z.2.2) := by decide +kernel
theorem dk_L_next_0 : ∀ z ∈ cd_L_next_0, decode cL_next z.1 = .ok (z.2.1, z.2.2) := by decide +kernel
theorem dk_L_next_1 : ∀ z ∈ cd_L_next_1, decode cL_next z.1 = .ok (z.2.1, z.2.2) := by decide +kernel
theorem dk_L_next_2 : ∀ z ∈ cd_L_next_2, decode cL_next z.1 = .ok (z.2.1, z.2.2) := by decide +kernel
theorem dk_L_next_3 : ∀ z ∈ cd_L_next_3, decode cL_next z.1 = .ok (z.2.1, z.2.2) := by decide +kernel
theorem dk_L_told_0 : ∀ z ∈ cd_L_told_0, decode cL_told z.1 = .ok (z.2.1, z.2.2) := by decide +kernel
theorem dk_L_told_1 : ∀ z ∈ cd_L_told_1, decode cL_told z.1 = .ok (z.2.1, z.2.2) := by decide +kernel
theorem dk_L_told_2 : ∀ z ∈ cd_L_told_2, decode cL_told z.1 = .ok (z.2.1, z.2.2) := by decide +kernel
theorem dk_L_told_3 : ∀ z ∈ cd_L_told_3, decode cL_told z.1 = .ok (z.2.1, z.2.2) := by decide +kernel
theorem dk_L_told_4 : ∀ z ∈ cd_L_told_4, decode cL_told z.1 = .ok (z.2.1, z.2.2) := by decide +kernel
theorem dk_L_told_5 : ∀ z ∈ cd_L_told_5, decode cL_told z.1 = .ok (z.2.1, z.2.2) := by decide +kernel
theorem dk_L_told_6 : ∀ z ∈ cd_L_told_6, decode cL_told z.1 = .ok (z.2.1, z.2.2) := by decide +kernel
theorem dk_L_told_7 : ∀ z ∈ cd_L_told_7, decode cL_told z.1 = .ok (z.2.1, z.2.2) := by decide +kernel
theorem dk_L_told_8 : ∀ z ∈ cd_L_told_8, decode cL_told z.1 = .ok (z.2.1, z.2.2) := by decide +kernel
theorem dk_L_told_9 : ∀ z ∈ cd_L_told_9, decode cL_told z.1 = .ok (z.2.1, z.2.2) := by decide +kernel
theorem dk_L_told_10 : ∀ z ∈ cd_L_told_10, decode cL_told z.1 = .ok (z.2.1, z.2.2) := by decide +kernel
theorem dk_L_told_11 : ∀ z ∈ cd_L_told_11, decode cL_told z.1 = .ok (z.2.1, z.2.2) := by decide +kernel
theorem dk_L_told_12 : ∀ z ∈ cd_L_told_12, decode cL_told z.1 = .ok (z.2.1, z.2.2) := by decide +kernel
theorem dk_L_told_13 : ∀ z ∈ cd_L_told_13, decode cL_told z.1 = .ok (z.2.1, z.2.2) := by decide +kernel
theorem dk_L_told_14 : ∀ z ∈ cd_L_told_14, decode cL_told z.1 = .ok (z.2.1, z.2.2) := by decide +kernel
theorem dk_L_told_15 : ∀ z ∈ cd_L_told_15, decode cL_told z.1 = .ok (z.2.1, z.2.2) := by decide +kernel
theorem dk_L_told_16 : ∀ z ∈ cd_L_told_16, decode cL_told z.1 = .ok (z.2.1, z.2.2) := by decide +kernel
theorem dk_L_told_17 : ∀ z ∈ cd_L_told_17, decode cL_told z.1 = .ok (z.2.1, z.2.2) := by decide +kernel
theorem dk_L_told_18 : ∀ z ∈ cd_L_told_18, decode cL_told z.1 = .ok (z.2.1, z.2.2) := by decide +kernel
theorem dk_L_told_19 : ∀ z ∈ cd_L_told_19, decode cL_told z.1 = .ok (z.2.1, z.2.2) := by decide +kernel
theorem dk_L_told_20 : ∀ z ∈ cd_L_told_20, decode cL_told z.1 = .ok (z.2.1, z.2.2) := by decide +kernel
theorem dk_L_told_21 : ∀ z ∈ cd_L_told_21, decode cL_told z.1 = .ok (z.2.1, z.2.2) := by decide +kernel
theorem dk_L_told_22 : ∀ z ∈ cd_L_told_22, decode cL_told z.1 = .ok (z.2.1, z.2.2) := by decide +kernel
theorem dk_L_told_23 : ∀ z ∈ cd_L_told_23, decode cL_told z.1 = .ok (z.2.1, z.2.2) := by decide +kernel
theorem dk_L_told_24 : ∀ z ∈ cd_L_told_24, decode cL_told z.1 = .ok (z.2.1, z.2.2) := by decide +kernel
theorem dk_L_same_0 : ∀ z ∈ cd_L_same_0, decode cL_same z.1 = .ok (z.2.1, z.2.2) := by decide +kernel
theorem dk_L_pairs_0 : ∀ z ∈ cd_L_pairs_0, decode cL_pairs z.1 = .ok (z.2.1, z.2.2) := by decide +kernel
theorem dk_L_pairs_1 : ∀ z ∈ cd_L_pairs_1, decode cL_pairs z.1 = .ok (z.2.1, z.2.2) := by decide +kernel
theorem dk_L_pairs_2 : ∀ z ∈ cd_L_pairs_2, decode cL_pairs z.1 = .ok (z.2.1, z.2.2) := by decide +kernel
theorem dk_L_ahead_0 : ∀ z ∈ cd_L_ahead_0, decode cL_ahead z.1 = .ok (z.2.1, z.2.2) := by decide +kernel
theorem dk_L_ahead_1 : ∀ z ∈ cd_L_ahead_1, decode cL_ahead z.1 = .ok (z.2.1, z.2.2) := by decide +kernel
theorem dk_L_ahead_2 : ∀ z ∈ cd_L_ahead_2, decode cL_ahead z.1 = .ok (z.2.1, z.2.2) := by decide +kernel
theorem dk_L_ahead_3 : ∀ z ∈ cd_L_ahead_3, decode cL_ahead z.1 = .ok (z.2.1, z.2.2) := by decide +kernel
theorem dk_L_ahead_4 : ∀ z ∈ cd_L_ahead_4, decode cL_ahead z.1 = .ok (z.2.1, z.2.2) := by decide +kernel
theorem dk_L_ahead_5 : ∀ z ∈ cd_L_ahead_5, decode cL_ahead z.1 = .ok (z.2.1, z.2.2) := by decide +kernel
theorem dk_L_ahead_6 : ∀ z ∈ cd_L_ahead_6, decode cL_ahead z.1 = .ok (z.2.1, z.2.2) := by decide +kernel
theorem dk_L_ahead_7 : ∀ z ∈ cd_L_ahead_7, decode cL_ahead z.1 = .ok (z.2.1, z.2.2) := by decide +kernel
theorem dk_L_ahead_8 : ∀ z ∈ cd_L_ahead_8, decode cL_ahead z.1 = .ok (z.2.1, z.2.2) := by decide +kernel
theorem dk_L_ahead_9 : ∀ z ∈ cd_L_ahead_9, decode cL_ahead z.1 = .ok (z.2.1, z.2.2) := by decide +kernel
theorem dk_L_ahead_10 : ∀ z ∈ cd_L_ahead_10, decode cL_ahead z.1 = .ok (z.2.1, z.2.2) := by decide +kernel
theorem dk_L_ahead_11 : ∀ z ∈ cd_L_ahead_11, decode cL_ahead z.1 = .ok (z.2.1, z.2.2) := by decide +kernel
theorem dk_L_ahead_12 : ∀ z ∈ cd_L_ahead_12, decode cL_ahead z.1 = .ok (z.2.1, z.2.2) := by decide +kernel
theorem dk_L_ahead_13 : ∀ z ∈ cd_L_ahead_13, decode cL_ahead z.1 = .ok (z.2.1, z.2.2) := by decide +kernel
theorem dk_L_ahead_14 : ∀ z ∈ cd_L_ahead_14, decode cL_ahead z.1 = .ok (z.2.1, z.2.2) := by decide +kernel
theorem dk_L_ahead_15 : ∀ z ∈ cd_L_ahead_15, decode cL_ahead z.1 = .ok (z.2.1, z.2.2) := by decide +kernel
theorem dk_L_ahead_16 : ∀ z ∈ cd_L_ahead_16, decode cL_ahead z.1 = .ok (z.2.1, z.2.2) := by decide +kernel
theorem dk_L_ahead_17 : ∀ z ∈ cd_L_ahead_17, decode cL_ahead z.1 = .ok (z.2.1, z.2.2) := by decide +kernel
theorem dk_L_letters_0 : ∀ z ∈ cd_L_letters_0, decode cL_letters z.1 = .ok (z.2.1, z.2.2) := by decide +kernel
theorem dk_L_letters_1 : ∀ z ∈ cd_L_letters_1, decode cL_letters z.1 = .ok (z.2.1, z.2.2) := by decide +kernel
theorem dk_L_runs_0 : ∀ z ∈ cd_L_runs_0, decode cL_runs z.1 = .ok (z.2.1, z.2.2) := by decide +kernel
theorem dk_L_runs_1 : ∀ z ∈ cd_L_runs_1, decode cL_runs z.1 = .ok (z.2.1, z.2.2) := by decide +kernel
theorem dk_L_runs_2 : ∀ z ∈ cd_L_runs_2, decode cL_runs z.1 = .ok (z.2.1, z.2.2) := by decide +kernel
theorem dk_L_runs_3 : ∀ z ∈ cd_L_runs_3, decode cL_runs z.1 = .ok (z.2.1, z.2.2) := by decide +kernel
theorem dk_L_runs_4 : ∀ z ∈ cd_L_runs_4, decode cL_runs z.1 = .ok (z.2.1, z.2.2) := by decide +kernel
theorem dk_L_runs_5 : ∀ z ∈ cd_L_runs_5, decode cL_runs z.1 = .ok (z.2.1, z.2.2) := by decide +kernel
theorem dk_L_runs_6 : ∀ z ∈ cd_L_runs_6, decode cL_runs z.1 = .ok (z.2.1, z.2.2) := by decide +kernel
theorem dk_L_runs_7 : ∀ z ∈ cd_L_runs_7, decode cL_runs z.1 = .ok (z.2.1, z.2.2) := by decide +kernel
theorem dk_L_runs_8 : ∀ z ∈ cd_L_runs_8, decode cL_runs z.1 = .ok (z.2.1, z.2.2) := by decide +kernel
theorem dk_L_runs_9 : ∀ z ∈ cd_L_runs_9, decode cL_runs z.1 = .ok (z.2.1, z.2.2) := by decide +kernel
theorem dk_L_runs_10 : ∀ z ∈ cd_L_runs_10, decode cL_runs z.1 = .ok (z.2.1, z.2.2) := by decide +kernel
theorem dk_L_runs_11 : ∀ z ∈ cd_L_runs_11, decode cL_runs z.1 = .ok (z.2.1, z.2.2) := by decide +kernel
theorem dk_L_runs_12 : ∀ z ∈ cd_L_runs_12, decode cL_runs z.1 = .ok (z.2.1, z.2.2) := by decide +kernel
theorem dk_L_runs_13 : ∀ z ∈ cd_L_runs_13, decode cL_runs z.1 = .ok (z.2.1, z.2.2) := by decide +kernel
theorem dk_L_act_0 : ∀ z ∈ cd_L_act_0, decode cL_act z.1 = .ok (z.2.1, z.2.2) := by decide +kernel
theorem dk_L_act_1 : ∀ z ∈ cd_L_act_1, decode cL_act z.1 = .ok (z.2.1, z.2.2) := by decide +kernel
theorem dk_L_act_2 : ∀ z ∈ cd_L_act_2, decode cL_act z.1 = .ok (z.2.1, z.2.2) := by decide +kernel
theorem dk_L_act_3 : ∀ z ∈ cd_L_act_3, decode cL_act z.1 = .ok (z.2.1, z.2.2) := by decide +kernel
theorem dk_L_act_4 : ∀ z ∈ cd_L_act_4, decode cL_act z.1 = .ok (z.2.1, z.2.2) := by decide +kernel
theorem dk_L_act_5 : ∀ z ∈ cd_L_act_5, decode cL_act z.1 = .ok (z.2.1, z.2.2) := by decide +kernel
theorem dk_L_act_6 : ∀ z ∈ cd_L_act_6, decode cL_act z.1 = .ok (z.2.1, z.2.2) := by decide +kernel
theorem dk_L_act_7 : ∀ z ∈ cd_L_act_7, decode cL_act z.1 = .ok (z.2.1, z.2.2) := by decide +kernel
theorem dk_L_act_8 : ∀ z ∈ cd_L_act_8, decode cL_act z.1 = .ok (z.2.1, z.2.2) := by decide +kernel
theorem dk_L_act_9 : ∀ z ∈ cd_L_act_9, decode cL_act z.1 = .ok (z.2.1, z.2.2) := by decide +kernel
theorem dk_L_act_10 : ∀ z ∈ cd_L_act_10, decode cL_act z.1 = .ok (z.2.1, z.2.2) := by decide +kernel
theorem dk_L_act_11 : ∀ z ∈ cd_L_act_11, decode cL_act z.1 = .ok (z.2.1, z.2.2) := by decide +kernel
theorem dk_L_act_12 : ∀ z ∈ cd_L_act_12, decode cL_act z.1 = .ok (z.2.1, z.2.2) := by decide +kernel
theorem dk_L_act_13 : ∀ z ∈ cd_L_act_13, decode cL_act z.1 = .ok (z.2.1, z.2.2) := by decide +kernel
theorem dk_L_act_14 : ∀ z ∈ cd_L_act_14, decode cL_act z.1 = .ok (z.2.1, z.2.2) := by decide +kernel
theorem dk_L_act_15 : ∀ z ∈ cd_L_act_15, decode cL_act z.1 = .ok (z.2.1, z.2.2) := by decide +kernel
theorem dk_L_act_16 : ∀ z ∈ cd_L_act_16, decode cL_act z.1 = .ok (z.2.1, z.2.2) := by decide +kernel
theorem dk_L_act_17 : ∀ z ∈ cd_L_act_17, decode cL_act z.1 = .ok (z.2.1, z.2.2) := by decide +kernel
theorem dk_L_act_18 : ∀ z ∈ cd_L_act_18, decode cL_act z.1 = .ok (z.2.1, z.2.2) := by decide +kernel
theorem dk_L_act_19 : ∀ z ∈ cd_L_act_19, decode cL_act z.1 = .ok (z.2.1, z.2.2) := by decide +kernel
theorem dk_L_act_20 : ∀ z ∈ cd_L_act_20, decode cL_act z.1 = .ok (z.2.1, z.2.2) := by decide +kernel
theorem dk_L_act_21 : ∀ z ∈ cd_L_act_21, decode cL_act z.1 = .ok (z.2.1, z.2.2) := by decide +kernel
theorem dk_L_act_22 : ∀ z ∈ cd_L_act_22, decode cL_act z.1 = .ok (z.2.1, z.2.2) := by decide +kernel
theorem dk_L_act_23 : ∀ z ∈ cd_L_act_23, decode cL_act z.1 = .ok (z.2.1, z.2.2) := by decide +kernel
theorem dk_L_act_24 : ∀ z ∈ cd_L_act_24, decode cL_act z.1 = .ok (z.2.1, z.2.2) := by decide +kernel
theorem dk_L_act_25 : ∀ z ∈ cd_L_act_25, decode cL_act z.1 = .ok (z.2.1, z.2.2) := by decide +kernel
theorem dk_L_act_26 : ∀ z ∈ cd_L_act_26, decode cL_act z.1 = .ok (z.2.1, z.2.2) := by decide +kernel
theorem dk_L_act_27 : ∀ z ∈ cd_L_act_27, decode cL_act z.1 = .ok (z.2.1, z.2.2) := by decide +kernel
theorem dk_L_law_0 : ∀ z ∈ cd_L_law_0, decode cL_law z.1 = .ok (z.2.1, z.2.2) := by decide +kernel
theorem dk_L_law_1 : ∀ z ∈ cd_L_law_1, decode cL_law z.1 = .ok (z.2.1, z.2.2) := by decide +kernel
theorem dk_L_law_2 : ∀ z ∈ cd_L_law_2, decode cL_law z.1 = .ok (z.2.1, z.2.2) := by decide +kernel
theorem dk_L_law_3 : ∀ z ∈ cd_L_law_3, decode cL_law z.1 = .ok (z.2.1, z.2.2) := by decide +kernel
theorem dk_L_law_4 : ∀ z ∈ cd_L_law_4, decode cL_law z.1 = .ok (z.2.1, z.2.2) := by decide +kernel
theorem dk_L_law_5 : ∀ z ∈ cd_L_law_5, decode cL_law z.1 = .ok (z.2.1, z.2.2) := by decide +kernel
theorem dk_L_law_6 : ∀ z ∈ cd_L_law_6, decode cL_law z.1 = .ok (z.2.1, z.2.2) := by decide +kernel
theorem dk_L_law_7 : ∀ z ∈ cd_L_law_7, decode cL_law z.1 = .ok (z.2.1, z.2.2) := by decide +kernel
theorem dk_L_law_8 : ∀ z ∈ cd_L_law_8, decode cL_law z.1 = .ok (z.2.1, z.2.2) := by decide +kernel
theorem dk_L_law_9 : ∀ z ∈ cd_L_law_9, decode cL_law z.1 = .ok (z.2.1, z.2.2) := by decide +kernel
theorem dk_L_law_10 : ∀ z ∈ cd_L_law_10, decode cL_law z.1 = .ok (z.2.1, z.2.2) := by decide +kernel
theorem dk_L_law_11 : ∀ z ∈ cd_L_law_11, decode cL_law z.1 = .ok (z.2.1, z.2.2) := by decide +kernel
theorem dk_L_law_12 : ∀ z ∈ cd_L_law_12, decode cL_law z.1 = .ok (z.2.1, z.2.2) := by decide +kernel
end DEC
end
section
/-! THE PURE INTERPRETER. The system's own bytecode over a pure memory: objects are logical numbers, whole numbers lie in a function of (object, slot), references between objects are fixed by the layout. -/
section PINT
/-- memory: ints, longs, the script's length, how many exceptions were made -/
abbrev PM : Type := (Nat → Nat → Int32) × (Nat → Nat → Int64) × Nat × Nat
/-- pc, locals (retAddr: not known), stack, memory -/
abbrev PS : Type := Nat × List Value × List Value × PM
abbrev PO : Type := ((Option Value) ⊕ Nat) × PM
/-- a call: method, arguments, its pc, locals, stack below, memory -/
abbrev PCl : Type := Nat × List Value × Nat × List Value × List Value × PM
abbrev SR : Type := PS ⊕ (PCl ⊕ PO)
abbrev Ent : Type := Nat × Nat × Nat × Value
abbrev Chunks : Type := List (List (Nat × Instr × Nat))
/-- code, constant pool, return type (0 void, 1 int, 2 boolean, 3 long, 4 double, 5 reference), maxLocals, exception table -/
abbrev MI : Type := Chunks × (Nat → Ent) × Nat × Nat × List (Nat × Nat × Nat × Nat)
abbrev pU : Value := .retAddr 0
def mI (μ : PM) (k j : Nat) : Int32 := μ.1 k j
def mJ (μ : PM) (k j : Nat) : Int64 := μ.2.1 k j
def stI (μ : PM) (k j : Nat) (v : Int32) : PM := (fun a b => bif Nat.beq a k && Nat.beq b j then v else μ.1 a b, μ.2)
def stJ (μ : PM) (k j : Nat) (v : Int64) : PM := (μ.1, fun a b => bif Nat.beq a k && Nat.beq b j then v else μ.2.1 a b, μ.2.2)
/-- the layout: what kind of thing a logical number is. 0..9: objects of the classes of vwCl; 20 int array; 21 long array; 22, 23, 24, 26: arrays of corners, organs, players, towns; 25 the script; 27 fixed ints; 28 the kinds; 29 a kind; 30 a text -/
def lyLow : List (Nat × Nat) := [(8, 0), (6, 0), (26, 6), (1, 0), (20, 60), (4, 0), (20, 8), (20, 8), (20, 8), (3, 0), (20, 5), (20, 5), (20, 24), (20, 21), (20, 16), (20, 12), (20, 30), (20, 5), (20, 11), (99, 0), (99, 0), (99, 0), (99, 0)]
/-- arrays made on the way: their lengths, by their order -/
def dl (i : Nat) : Nat := [30, 21, 16, 11].getD (i % 4) 0
def lyTown (r : Nat) : Nat × Nat :=
  bif Nat.beq r 0 then (7, 0) else bif Nat.beq r 1 then (22, 10) else bif Nat.beq r 2 then (23, 5) else bif Nat.beq r 3 then (24, 8) else bif Nat.beq r 4 then (20, 5)
  else bif Nat.blt r 25 then (bif Nat.beq (r % 2) 1 then (0, 0) else (20, 10)) else bif Nat.blt r 30 then (2, 0) else bif Nat.beq (r % 2) 0 then (5, 0) else (20, 5)
def lyTop (k : Nat) : Nat × Nat :=
  bif Nat.beq k 390 then (25, 0) else bif Nat.beq k 400 then (27, 5) else bif Nat.beq k 402 then (27, 5) else bif Nat.beq k 401 then (28, 5)
  else bif Nat.blt k 410 then (99, 0) else bif Nat.blt k 415 then (29, 0) else bif Nat.blt k 420 then (99, 0) else bif Nat.blt k 430 then (30, 0) else (31, dl (k - 430))
def ly (k : Nat) : Nat × Nat := bif Nat.blt k 23 then lyLow.getD k (99, 0) else bif Nat.blt k 345 then lyTown ((k - 23) % 46) else lyTop k
def cls (k : Nat) : Nat := (ly k).1
def len (k : Nat) : Nat := (ly k).2
def cst (k i : Nat) : Int32 := (bif Nat.beq k 400 then [99, 9, 50, 100, 50] else [1, 2, 3, 4, 0]).getD i 0
/-- what lies at place i of an array of references -/
def eN (k i : Nat) : Nat :=
  bif Nat.beq (cls k) 22 then k + 4 + 2 * i else bif Nat.beq (cls k) 23 then k + 23 + i else bif Nat.beq (cls k) 24 then k + 27 + 2 * i
  else bif Nat.beq (cls k) 26 then k + 67 + 46 * i else k + 9 + i
def elr (k i : Nat) : Value := .ref (eN k i)
/-- an index within -/
def inb (i : Int32) (n : Nat) : Bool := !(decide (i < 0) || Nat.ble n i.toNatClampNeg)
def strs : List (List Int32) := [[108, 111, 116, 115], [108, 111, 116, 115], [119, 101, 116], [119, 101, 116], [100, 114, 121], [100, 114, 121], [110, 101, 120, 116], [110, 101, 120, 116], [48, 58, 97], [52, 58, 106]]
def strLen (k : Nat) : Int32 := Int32.ofNat (strs.getD (k - 420) []).length
def strAt (k i : Nat) : Int32 := (strs.getD (k - 420) []).getD i 0
def noNaN (r : UInt64) : Bool := decide (r &&& 0x7fffffffffffffff ≤ 0x7ff0000000000000)
def lk : List (Nat × Instr × Nat) → Nat → Option (Instr × Nat)
  | [], _ => none
  | (p, i, l) :: r, pc => bif Nat.beq p pc then some (i, l) else lk r pc
def lk2 (cs : Chunks) (pc : Nat) : Option (Instr × Nat) := lk (cs.getD (pc / 32) []) pc
def nx (pc : Nat) (ls st : List Value) (μ : PM) : Option SR := some (.inl (pc, ls, st, μ))
def jp (pc : Nat) (off : Int) (ls st : List Value) (μ : PM) : Option SR := match (pc : Int) + off with
  | .ofNat t => nx t ls st μ
  | .negSucc _ => none
def un32 (f : Int32 → Value) (pc : Nat) (ls st : List Value) (μ : PM) : Option SR := match st with
  | .int x :: r => nx (pc + 1) ls (f x :: r) μ
  | _ => none
def un64 (f : Int64 → Value) (pc : Nat) (ls st : List Value) (μ : PM) : Option SR := match st with
  | .long x :: r => nx (pc + 1) ls (f x :: r) μ
  | _ => none
def b32 (f : Int32 → Int32 → Int32) (pc : Nat) (ls st : List Value) (μ : PM) : Option SR := match st with
  | .int y :: .int x :: r => nx (pc + 1) ls (.int (f x y) :: r) μ
  | _ => none
def b32n (f : Int32 → Int32 → Int32) (pc : Nat) (ls st : List Value) (μ : PM) : Option SR := match st with
  | .int y :: .int x :: r => if ¬ y = 0 then nx (pc + 1) ls (.int (f x y) :: r) μ else none
  | _ => none
def b64 (f : Int64 → Int64 → Value) (pc : Nat) (ls st : List Value) (μ : PM) : Option SR := match st with
  | .long y :: .long x :: r => nx (pc + 1) ls (f x y :: r) μ
  | _ => none
def b64n (f : Int64 → Int64 → Value) (pc : Nat) (ls st : List Value) (μ : PM) : Option SR := match st with
  | .long y :: .long x :: r => if ¬ y = 0 then nx (pc + 1) ls (f x y :: r) μ else none
  | _ => none
def bD (f : UInt64 → UInt64 → UInt64) (pc : Nat) (ls st : List Value) (μ : PM) : Option SR := match st with
  | .double y :: .double x :: r => if noNaN (f x y) = true then nx (pc + 1) ls (.double (f x y) :: r) μ else none
  | _ => none
def if1 (c : ClassFile.Cond) (pc : Nat) (off : Int) (ls st : List Value) (μ : PM) : Option SR := match st with
  | .int x :: r => (match c with
    | .eq => if x = 0 then jp pc off ls r μ else nx (pc + 3) ls r μ
    | .ne => if ¬ x = 0 then jp pc off ls r μ else nx (pc + 3) ls r μ
    | .lt => if x < 0 then jp pc off ls r μ else nx (pc + 3) ls r μ
    | .ge => if 0 ≤ x then jp pc off ls r μ else nx (pc + 3) ls r μ
    | .gt => if 0 < x then jp pc off ls r μ else nx (pc + 3) ls r μ
    | .le => if x ≤ 0 then jp pc off ls r μ else nx (pc + 3) ls r μ)
  | _ => none
def if2 (c : ClassFile.Cond) (pc : Nat) (off : Int) (ls st : List Value) (μ : PM) : Option SR := match st with
  | .int y :: .int x :: r => (match c with
    | .eq => if x = y then jp pc off ls r μ else nx (pc + 3) ls r μ
    | .ne => if ¬ x = y then jp pc off ls r μ else nx (pc + 3) ls r μ
    | .lt => if x < y then jp pc off ls r μ else nx (pc + 3) ls r μ
    | .ge => if y ≤ x then jp pc off ls r μ else nx (pc + 3) ls r μ
    | .gt => if y < x then jp pc off ls r μ else nx (pc + 3) ls r μ
    | .le => if x ≤ y then jp pc off ls r μ else nx (pc + 3) ls r μ)
  | _ => none
def ifn (neg : Bool) (pc : Nat) (off : Int) (ls st : List Value) (μ : PM) : Option SR := match st with
  | .ref _ :: r => bif neg then jp pc off ls r μ else nx (pc + 3) ls r μ
  | .null :: r => bif neg then nx (pc + 3) ls r μ else jp pc off ls r μ
  | _ => none
/-- references are compared where both are kinds -/
def ifa (pc : Nat) (off : Int) (ls st : List Value) (μ : PM) : Option SR := match st with
  | .ref y :: .ref x :: r => if cls x = 29 ∧ cls y = 29 then (if ¬ x = y then jp pc off ls r μ else nx (pc + 3) ls r μ) else none
  | _ => none
def ldI (pc l i : Nat) (ls st : List Value) (μ : PM) : Option SR := match ls[i]? with
  | some (.int x) => nx (pc + l) ls (.int x :: st) μ
  | _ => none
def ldJ (pc l i : Nat) (ls st : List Value) (μ : PM) : Option SR := match ls[i]? with
  | some (.long x) => nx (pc + l) ls (.long x :: st) μ
  | _ => none
def ldD (pc l i : Nat) (ls st : List Value) (μ : PM) : Option SR := match ls[i]? with
  | some (.double x) => nx (pc + l) ls (.double x :: st) μ
  | _ => none
def ldA (pc l i : Nat) (ls st : List Value) (μ : PM) : Option SR := match ls[i]? with
  | some (.ref x) => nx (pc + l) ls (.ref x :: st) μ
  | some .null => nx (pc + l) ls (.null :: st) μ
  | _ => none
/-- the local ahead holds no long or double -/
def okS (ls : List Value) (i : Nat) : Bool := match i with
  | 0 => true
  | j + 1 => match ls[j]? with
    | some (.long _) => false
    | some (.double _) => false
    | _ => true
def st1 (pc l i : Nat) (v : Value) (ls st : List Value) (μ : PM) : Option SR := bif Nat.blt i ls.length && okS ls i then nx (pc + l) (ls.set i v) st μ else none
def st2 (pc l i : Nat) (v : Value) (ls st : List Value) (μ : PM) : Option SR := bif Nat.blt (i + 1) ls.length && okS ls i then nx (pc + l) ((ls.set i v).set (i + 1) pU) st μ else none
def stoI (pc l i : Nat) (ls st : List Value) (μ : PM) : Option SR := match st with
  | .int x :: r => st1 pc l i (.int x) ls r μ
  | _ => none
def stoA (pc l i : Nat) (ls st : List Value) (μ : PM) : Option SR := match st with
  | .ref x :: r => st1 pc l i (.ref x) ls r μ
  | .null :: r => st1 pc l i .null ls r μ
  | _ => none
def stoJ (pc l i : Nat) (ls st : List Value) (μ : PM) : Option SR := match st with
  | .long x :: r => st2 pc l i (.long x) ls r μ
  | _ => none
def stoD (pc l i : Nat) (ls st : List Value) (μ : PM) : Option SR := match st with
  | .double x :: r => st2 pc l i (.double x) ls r μ
  | _ => none
def incI (pc i : Nat) (n : Int) (ls st : List Value) (μ : PM) : Option SR := match ls[i]? with
  | some (.int x) => st1 pc 3 i (.int (x + Int32.ofInt n)) ls st μ
  | _ => none
/-- an int array that is there -/
def okA (μ : PM) (k : Nat) : Bool := Nat.beq (cls k) 20 || (Nat.beq (cls k) 31 && Nat.blt k (430 + μ.2.2.2))
def alI (pc : Nat) (ls st : List Value) (μ : PM) : Option SR := match st with
  | .int i :: .ref k :: r =>
    if okA μ k = true ∧ inb i (len k) = true then nx (pc + 1) ls (.int (mI μ k i.toNatClampNeg) :: r) μ
    else if cls k = 25 ∧ inb i μ.2.2.1 = true then nx (pc + 1) ls (.int (mI μ k i.toNatClampNeg) :: r) μ
    else if cls k = 27 ∧ inb i (len k) = true then nx (pc + 1) ls (.int (cst k i.toNatClampNeg) :: r) μ else none
  | _ => none
def alJ (pc : Nat) (ls st : List Value) (μ : PM) : Option SR := match st with
  | .int i :: .ref k :: r => if cls k = 21 ∧ inb i (len k) = true then nx (pc + 1) ls (.long (mJ μ k i.toNatClampNeg) :: r) μ else none
  | _ => none
def isRA (c : Nat) : Bool := Nat.beq c 22 || Nat.beq c 23 || Nat.beq c 24 || Nat.beq c 26 || Nat.beq c 28
def alA (pc : Nat) (ls st : List Value) (μ : PM) : Option SR := match st with
  | .int i :: .ref k :: r => if isRA (cls k) = true ∧ inb i (len k) = true then nx (pc + 1) ls (elr k i.toNatClampNeg :: r) μ else none
  | _ => none
def asI (pc : Nat) (ls st : List Value) (μ : PM) : Option SR := match st with
  | .int v :: .int i :: .ref k :: r => if okA μ k = true ∧ inb i (len k) = true then nx (pc + 1) ls r (stI μ k i.toNatClampNeg v) else none
  | _ => none
def asJ (pc : Nat) (ls st : List Value) (μ : PM) : Option SR := match st with
  | .long v :: .int i :: .ref k :: r => if cls k = 21 ∧ inb i (len k) = true then nx (pc + 1) ls r (stJ μ k i.toNatClampNeg v) else none
  | _ => none
def arl (pc : Nat) (ls st : List Value) (μ : PM) : Option SR := match st with
  | .ref k :: r => if cls k = 25 then nx (pc + 1) ls (.int (Int32.ofNat μ.2.2.1) :: r) μ else if cls k = 28 then nx (pc + 1) ls (.int (Int32.ofNat (len k)) :: r) μ else if okA μ k = true then nx (pc + 1) ls (.int (Int32.ofNat (len k)) :: r) μ else none
  | _ => none
/-- pool entries: (0, class, slot): an int field; 1: a boolean one; 2: a long one; 3: a reference, at so far behind; 8: a text of a kind; 6: a constant; 7: an exception's class; 4: an instance method (number, arguments, class of the receiver); 9: a static one; 5: a method of the JDK's -/
def gtf (pl : Nat → Ent) (pc ix : Nat) (ls st : List Value) (μ : PM) : Option SR := match st with
  | .ref k :: r => (match pl ix with
    | (0, ci, j, _) => if cls k = ci then nx (pc + 3) ls (.int (mI μ k j) :: r) μ else none
    | (1, ci, j, _) => if cls k = ci then nx (pc + 3) ls (.int (mI μ k j) :: r) μ else none
    | (2, ci, j, _) => if cls k = ci then nx (pc + 3) ls (.long (mJ μ k j) :: r) μ else none
    | (3, ci, _, .ref o) => if cls k = ci then nx (pc + 3) ls (.ref (k + o) :: r) μ else none
    | (8, ci, j, _) => if cls k = ci then nx (pc + 3) ls (.ref (420 + 2 * (k - 410) + j) :: r) μ else none
    | _ => none)
  | _ => none
def ptf (pl : Nat → Ent) (pc ix : Nat) (ls st : List Value) (μ : PM) : Option SR := match st with
  | .int v :: .ref k :: r => (match pl ix with
    | (0, ci, j, _) => bif Nat.blt ci 9 then (if cls k = ci then nx (pc + 3) ls r (stI μ k j v) else none) else none
    | (1, ci, j, _) => bif Nat.blt ci 9 then (if cls k = ci ∧ (v = 0 ∨ v = 1) then nx (pc + 3) ls r (stI μ k j v) else none) else none
    | _ => none)
  | .long v :: .ref k :: r => (match pl ix with
    | (2, ci, j, _) => if cls k = ci then nx (pc + 3) ls r (stJ μ k j v) else none
    | _ => none)
  | _ => none
/-- arraycopy between int arrays -/
def cpI (μ : PM) (a i b j n : Nat) : PM := (fun x y => bif Nat.beq x b && Nat.ble j y && Nat.blt y (j + n) then μ.1 a (i + (y - j)) else μ.1 x y, μ.2)
def catS (st : List Value) : Nat := (st.map fun v => v.category).sum
def jdk0 (id pc : Nat) (ls st : List Value) (μ : PM) : Option SR := match id with
  | 0 => (match st with | .int y :: .int x :: r => nx (pc + 3) ls (.int (if x < y then y else x) :: r) μ | _ => none)
  | 1 => (match st with | .int y :: .int x :: r => nx (pc + 3) ls (.int (if y < x then y else x) :: r) μ | _ => none)
  | 2 => (match st with | .int x :: r => nx (pc + 3) ls (.int (if 0 ≤ x then x else 0 - x) :: r) μ | _ => none)
  | 3 => (match st with
    | .int n :: .int j :: .ref b :: .int i :: .ref a :: r => if cls a = 20 ∧ cls b = 20 ∧ ¬ a = b ∧ i = 0 ∧ j = 0 ∧ ¬ n < 0 ∧ n.toNatClampNeg ≤ len a ∧ n.toNatClampNeg ≤ len b then nx (pc + 3) ls r (cpI μ a 0 b 0 n.toNatClampNeg) else none
    | _ => none)
  | 4 => (match st with | .double x :: r => if noNaN x = true then nx (pc + 3) ls (.long x.toInt64 :: r) μ else none | _ => none)
  | 5 => (match st with | .ref k :: r => if cls k = 30 then nx (pc + 3) ls (.int (strLen k) :: r) μ else none | _ => none)
  | 6 => (match st with | .int i :: .ref k :: r => if cls k = 30 ∧ inb i (strs.getD (k - 420) []).length = true then nx (pc + 3) ls (.int (strAt k i.toNatClampNeg) :: r) μ else none | _ => none)
  | 7 => (match st with | .ref k :: r => if cls k = 29 then nx (pc + 3) ls (.int (Int32.ofNat (k - 410)) :: r) μ else none | _ => none)
  | _ => none
def jdk (id pc : Nat) (ls st : List Value) (μ : PM) : Option SR := bif Nat.ble (catS st) 8 then jdk0 id pc ls st μ else none
def ivV (pl : Nat → Ent) (pc ix : Nat) (ls st : List Value) (μ : PM) : Option SR := match pl ix with
  | (4, n, na, .ref ci) => (match st[na - 1]? with
    | some (.ref k) => bif Nat.ble (catS (st.drop na)) 8 then (if cls k = ci then some (.inr (.inl (n, (st.take na).reverse, pc, ls, st.drop na, μ))) else none) else none
    | _ => none)
  | (13, id, _, _) => bif Nat.ble 5 id then jdk id pc ls st μ else none
  | _ => none
def ivS (pl : Nat → Ent) (pc ix : Nat) (ls st : List Value) (μ : PM) : Option SR := match pl ix with
  | (9, n, na, _) => bif Nat.ble na st.length && Nat.ble (catS (st.drop na)) 8 then some (.inr (.inl (n, (st.take na).reverse, pc, ls, st.drop na, μ))) else none
  | (10, n, na, _) => bif Nat.ble na st.length && Nat.ble (catS (st.drop na)) 8 then some (.inr (.inl (n, (st.take na).reverse, pc, ls, st.drop na, μ))) else none
  | (5, id, _, _) => bif Nat.blt id 5 then jdk id pc ls st μ else none
  | _ => none
/-- a new int array: the next number -/
def newM (μ : PM) : PM := (fun a b => bif Nat.beq a (430 + μ.2.2.2) then 0 else μ.1 a b, μ.2.1, μ.2.2.1, μ.2.2.2 + 1)
def nwA (pc : Nat) (ls st : List Value) (μ : PM) : Option SR := match st with
  | .int n :: r => if n = Int32.ofNat (dl μ.2.2.2) then nx (pc + 2) ls (.ref (430 + μ.2.2.2) :: r) (newM μ) else none
  | _ => none
/-- new E("..") and its throw, at one go; no run that counts throws: it would be far too dear -/
def thr (cs : Chunks) (pl : Nat → Ent) (pc ix : Nat) (st : List Value) (μ : PM) : Option SR := match pl ix with
  | (7, kind, _, _) => (match lk2 cs (pc + 3) with
    | some (.dup, 1) => (match lk2 cs (pc + 4) with
      | some (.ldc _, 2) => (match lk2 cs (pc + 6), lk2 cs (pc + 9) with
        | some (.invokespecial _, 3), some (.athrow, 1) => bif st.isEmpty then some (.inr (.inr (.inr kind, (μ.1, μ.2.1, μ.2.2.1, μ.2.2.2 + 1000000)))) else none
        | _, _ => none)
      | some (.ldc_w _, 3) => (match lk2 cs (pc + 7), lk2 cs (pc + 10) with
        | some (.invokespecial _, 3), some (.athrow, 1) => bif st.isEmpty then some (.inr (.inr (.inr kind, (μ.1, μ.2.1, μ.2.2.1, μ.2.2.2 + 1000000)))) else none
        | _, _ => none)
      | _ => none)
    | _ => none)
  | _ => none
def ldcI (pl : Nat → Ent) (pc l ix : Nat) (ls st : List Value) (μ : PM) : Option SR := match pl ix with
  | (6, _, _, .int v) => nx (pc + l) ls (.int v :: st) μ
  | _ => none
def ldc2 (pl : Nat → Ent) (pc ix : Nat) (ls st : List Value) (μ : PM) : Option SR := match pl ix with
  | (6, _, _, .long v) => nx (pc + 3) ls (.long v :: st) μ
  | (6, _, _, .double v) => nx (pc + 3) ls (.double v :: st) μ
  | _ => none
def gst (pl : Nat → Ent) (pc ix : Nat) (ls st : List Value) (μ : PM) : Option SR := match pl ix with
  | (12, k, _, _) => nx (pc + 3) ls (.ref k :: st) μ
  | (11, k, _, _) => nx (pc + 3) ls (.ref k :: st) μ
  | _ => none
def dn (v : Option Value) (μ : PM) : Option SR := some (.inr (.inr (.inl v, μ)))
def irt (rt : Nat) (st : List Value) (μ : PM) : Option SR := match st with
  | .int x :: [] => (match rt with
    | 1 => dn (some (.int x)) μ
    | 2 => if x = 0 ∨ x = 1 then dn (some (.int x)) μ else none
    | _ => none)
  | _ => none
def jrt (rt : Nat) (st : List Value) (μ : PM) : Option SR := match rt, st with
  | 3, .long x :: [] => dn (some (.long x)) μ
  | _, _ => none
def drt (rt : Nat) (st : List Value) (μ : PM) : Option SR := match rt, st with
  | 4, .double x :: [] => dn (some (.double x)) μ
  | _, _ => none
def art (rt : Nat) (st : List Value) (μ : PM) : Option SR := match rt, st with
  | 5, .ref x :: [] => dn (some (.ref x)) μ
  | 5, .null :: [] => dn (some .null) μ
  | _, _ => none
def vrt (rt : Nat) (st : List Value) (μ : PM) : Option SR := match rt, st with
  | 0, [] => dn none μ
  | _, _ => none
def tsw (pc : Nat) (d lo hi : Int) (os : Array Int) (ls st : List Value) (μ : PM) : Option SR := match st with
  | .int x :: r => if x.toInt < lo ∨ hi < x.toInt then jp pc d ls r μ else (match os.toList[(x.toInt - lo).toNat]? with
    | some o => jp pc o ls r μ
    | none => none)
  | _ => none
def lsw (pc : Nat) (d : Int) (ps : Array (Int × Int)) (ls st : List Value) (μ : PM) : Option SR := match st with
  | .int x :: r => bif (ps.toList.zip (ps.toList.drop 1)).all (fun (a, next) => a.1 < next.1) then jp pc (Op.lookupswitch.offset ps.toList d x.toInt) ls r μ else none
  | _ => none
def cat1 (v : Value) : Bool := match v with
  | .long _ => false
  | .double _ => false
  | _ => true
def dp (pc : Nat) (ls st : List Value) (μ : PM) : Option SR := match st with
  | a :: r => bif cat1 a then nx (pc + 1) ls (a :: a :: r) μ else none
  | _ => none
def dp2 (pc : Nat) (ls st : List Value) (μ : PM) : Option SR := match st with
  | a :: b :: r => bif cat1 a && cat1 b then nx (pc + 1) ls (a :: b :: a :: b :: r) μ else none
  | _ => none
def pp (pc : Nat) (ls st : List Value) (μ : PM) : Option SR := match st with
  | a :: r => bif cat1 a then nx (pc + 1) ls r μ else none
  | _ => none
def pex (M : MI) (i : Instr) (l pc : Nat) (ls st : List Value) (μ : PM) : Option SR := match i with
  | .aaload => alA pc ls st μ
  | .aconst_null => nx (pc + 1) ls (.null :: st) μ
  | .aload k => ldA pc 2 k ls st μ
  | .aload_n k => ldA pc 1 k ls st μ
  | .areturn => art M.2.2.1 st μ
  | .arraylength => arl pc ls st μ
  | .astore k => stoA pc 2 k ls st μ
  | .astore_n k => stoA pc 1 k ls st μ
  | .bipush n => nx (pc + 2) ls (.int (Int8.ofInt n).toInt32 :: st) μ
  | .d2l => (match st with | .double x :: r => nx (pc + 1) ls (.long (FP.d2l x) :: r) μ | _ => none)
  | .dcmp op => (match st with | .double y :: .double x :: r => nx (pc + 1) ls (.int (Op.cmpValue (FP.dcmp x y) op) :: r) μ | _ => none)
  | .dconst 0 => nx (pc + 1) ls (.double FP.dconst0 :: st) μ
  | .dconst 1 => nx (pc + 1) ls (.double FP.dconst1 :: st) μ
  | .ddiv => bD FP.ddiv pc ls st μ
  | .dload k => ldD pc 2 k ls st μ
  | .dload_n k => ldD pc 1 k ls st μ
  | .dmul => bD FP.dmul pc ls st μ
  | .dreturn => drt M.2.2.1 st μ
  | .dstore k => stoD pc 2 k ls st μ
  | .dstore_n k => stoD pc 1 k ls st μ
  | .dsub => bD FP.dsub pc ls st μ
  | .dup => dp pc ls st μ
  | .dup2 => dp2 pc ls st μ
  | .getfield ix => gtf M.2.1 pc ix ls st μ
  | .getstatic ix => gst M.2.1 pc ix ls st μ
  | .goto off => jp pc off ls st μ
  | .i2d => un32 (fun x => .double (FP.i2d x)) pc ls st μ
  | .i2l => un32 (fun x => .long x.toInt64) pc ls st μ
  | .iadd => b32 (fun x y => x + y) pc ls st μ
  | .iaload => alI pc ls st μ
  | .iand => b32 (fun x y => x &&& y) pc ls st μ
  | .iastore => asI pc ls st μ
  | .iconst n => nx (pc + 1) ls (.int (Int32.ofInt n) :: st) μ
  | .idiv => b32n (fun x y => x / y) pc ls st μ
  | .if_acmp .ne off => ifa pc off ls st μ
  | .if_icmp c off => if2 c pc off ls st μ
  | .ifCond c off => if1 c pc off ls st μ
  | .ifnonnull off => ifn true pc off ls st μ
  | .ifnull off => ifn false pc off ls st μ
  | .iinc k n => bif Nat.beq l 3 then incI pc k n ls st μ else none
  | .iload k => ldI pc 2 k ls st μ
  | .iload_n k => ldI pc 1 k ls st μ
  | .imul => b32 (fun x y => x * y) pc ls st μ
  | .ineg => un32 (fun x => .int (-x)) pc ls st μ
  | .invokestatic ix => ivS M.2.1 pc ix ls st μ
  | .invokevirtual ix => ivV M.2.1 pc ix ls st μ
  | .ior => b32 (fun x y => x ||| y) pc ls st μ
  | .irem => b32n (fun x y => x - x / y * y) pc ls st μ
  | .ireturn => irt M.2.2.1 st μ
  | .ishl => b32 (fun x y => x <<< (y &&& 31)) pc ls st μ
  | .ishr => b32 (fun x y => x >>> (y &&& 31)) pc ls st μ
  | .istore k => stoI pc 2 k ls st μ
  | .istore_n k => stoI pc 1 k ls st μ
  | .isub => b32 (fun x y => x - y) pc ls st μ
  | .iushr => b32 (fun x y => (x.toUInt32 >>> (y.toUInt32 &&& Int32.toUInt32 31)).toInt32) pc ls st μ
  | .ixor => b32 (fun x y => x ^^^ y) pc ls st μ
  | .l2d => un64 (fun x => .double (FP.l2d x)) pc ls st μ
  | .l2i => un64 (fun x => .int x.toInt32) pc ls st μ
  | .ladd => b64 (fun x y => .long (x + y)) pc ls st μ
  | .laload => alJ pc ls st μ
  | .lastore => asJ pc ls st μ
  | .lcmp => b64 (fun x y => .int (lg_cmp x y)) pc ls st μ
  | .lconst k => nx (pc + 1) ls (.long (Int64.ofNat (k : Nat)) :: st) μ
  | .ldc ix => ldcI M.2.1 pc 2 ix ls st μ
  | .ldc_w ix => ldcI M.2.1 pc 3 ix ls st μ
  | .ldc2_w ix => ldc2 M.2.1 pc ix ls st μ
  | .lload k => ldJ pc 2 k ls st μ
  | .lload_n k => ldJ pc 1 k ls st μ
  | .lmul => b64 (fun x y => .long (x * y)) pc ls st μ
  | .lookupswitch d ps => lsw pc d ps ls st μ
  | .lrem => b64n (fun x y => .long (x - x / y * y)) pc ls st μ
  | .lreturn => jrt M.2.2.1 st μ
  | .lshl => (match st with | .int y :: .long x :: r => nx (pc + 1) ls (.long (x <<< (y.toInt64 &&& 63)) :: r) μ | _ => none)
  | .lstore k => stoJ pc 2 k ls st μ
  | .lstore_n k => stoJ pc 1 k ls st μ
  | .lsub => b64 (fun x y => .long (x - y)) pc ls st μ
  | .new ix => thr M.1 M.2.1 pc ix st μ
  | .newarray .int => nwA pc ls st μ
  | .pop => pp pc ls st μ
  | .putfield ix => ptf M.2.1 pc ix ls st μ
  | .return_ => vrt M.2.2.1 st μ
  | .sipush n => nx (pc + 3) ls (.int (Int16.ofInt n).toInt32 :: st) μ
  | .tableswitch d lo hi os => tsw pc d lo hi os ls st μ
  | _ => none
def pstep (M : MI) (s : PS) : Option SR := match s with
  | (pc, ls, st, μ) => match lk2 M.1 pc with
    | none => none
    | some (i, l) => pex M i l pc ls st μ
def pblk (M : MI) : Nat → PS → Option SR
  | 0, s => pstep M s
  | n + 1, s => match pstep M s with
    | some (.inl s') => pblk M n s'
    | r => r
def hfind : List (Nat × Nat × Nat × Nat) → Nat → Nat → Option Nat
  | [], _, _ => none
  | (a, b, h, k) :: r, pc, kind => bif Nat.ble a pc && Nat.blt pc b && Nat.beq k kind then some h else hfind r pc kind
/-- behind a call -/
def aft (M : MI) (pc : Nat) (ls st : List Value) (o : PO) : Option SR := match o with
  | (.inl (some v), μ) => nx (pc + 3) ls (v :: st) μ
  | (.inl none, μ) => nx (pc + 3) ls st μ
  | (.inr k, μ) => match hfind M.2.2.2.2 pc k with
    | none => some (.inr (.inr (.inr k, μ)))
    | some h => match lk2 M.1 h with
      | some (.astore n, _) => st1 h 2 n pU ls [] μ
      | some (.astore_n n, _) => st1 h 1 n pU ls [] μ
      | _ => none
/-- the arguments as locals -/
def layA : List Value → List Value
  | [] => []
  | v :: vs => bif cat1 v then v :: layA vs else v :: pU :: layA vs
def entryL (n : Nat) (as : List Value) : List Value := layA as ++ List.replicate (n - (layA as).length) pU
end PINT
end
section
/-! THE CODE TABLES, by program (wip/p32/gen.py) out of the names and the listing -/
section CODE
def plk : List (Nat × Ent) → Nat → Ent
  | [], _ => (99, 0, 0, .null)
  | (i, e) :: r, j => bif Nat.beq i j then e else plk r j
abbrev nX1_copyFrom : Nat := 0
abbrev nX1_isQuietAt : Nat := 1
abbrev nX1_distanceTo : Nat := 2
abbrev nX1_tunesPlayed : Nat := 3
abbrev nX1_noteTune : Nat := 4
abbrev nX1_forgetDay : Nat := 5
abbrev nX2_signCount : Nat := 6
abbrev nX2_fits : Nat := 7
abbrev nX3_kindAt : Nat := 8
abbrev nX3_errorIndex : Nat := 9
abbrev nX3_isWholeRow : Nat := 10
abbrev nX3_organAt : Nat := 11
abbrev nX3_tuneAt : Nat := 12
abbrev nX4_copyFrom : Nat := 13
abbrev nX5_lookAt : Nat := 14
abbrev nX5_leastHindering : Nat := 15
abbrev nX5_hinderedPairs : Nat := 16
abbrev nX5_findMost : Nat := 17
abbrev nX5_takingsOf : Nat := 18
abbrev nX5_nearAhead : Nat := 19
abbrev nX5_findTunes : Nat := 20
abbrev nX5_isFree : Nat := 21
abbrev nX6_reckon : Nat := 22
abbrev nX6_sharePot : Nat := 23
abbrev nX6_giveUnits : Nat := 24
abbrev nX6_giveAllowances : Nat := 25
abbrev nX7_copyFrom : Nat := 26
abbrev nX7_hoursOfDay : Nat := 27
abbrev nX7_forgetDay : Nat := 28
abbrev nX8_save : Nat := 29
abbrev nX9_copyFrom : Nat := 30
abbrev nX9_hasCornerAt : Nat := 31
abbrev nX9_permits : Nat := 32
abbrev nX9_crewSize : Nat := 33
abbrev nX9_organAt : Nat := 34
abbrev nX9_cornerOf : Nat := 35
abbrev nX9_takingsSoFar : Nat := 36
abbrev nX9_ownersSoFar : Nat := 37
abbrev nX9_inAllPots : Nat := 38
abbrev nX9_playersSoFar : Nat := 39
abbrev nX9_weatherMayChange : Nat := 40
abbrev nX9_lotsMayBeDrawn : Nat := 41
abbrev nX9_drawLots : Nat := 42
abbrev nX9_takeCornersBack : Nat := 43
abbrev nX9_draw : Nat := 44
abbrev nX9_freeCorner : Nat := 45
abbrev nX9_areNear : Nat := 46
abbrev nX9_tunesHeardAt : Nat := 47
abbrev nX9_reasonAgainstAll : Nat := 48
abbrev nX9_reasonAgainst : Nat := 49
abbrev nX9_playableTunes : Nat := 50
abbrev nX9_playedNear : Nat := 51
abbrev nX9_takingsFor : Nat := 52
abbrev nX9_playTune : Nat := 53
abbrev nX9_divideTakings : Nat := 54
abbrev nX9_addHourOfCrew : Nat := 55
abbrev nX9_endHour : Nat := 56
abbrev nX9_payOut : Nat := 57
abbrev nX9_beginDay : Nat := 58
abbrev nX10_addCorner : Nat := 59
abbrev nX10_addOrgan : Nat := 60
abbrev nX10_addPlayer : Nat := 61
abbrev nX10_permit : Nat := 62
abbrev nX10_barrel : Nat := 63
abbrev nX10_assign : Nat := 64
abbrev nX10_set : Nat := 65
abbrev nX10_lots : Nat := 66
abbrev nX10_weather : Nat := 67
abbrev nX10_play : Nat := 68
abbrev nX10_next : Nat := 69
abbrev nX10_append : Nat := 70
abbrev nX10_clearBuffer : Nat := 71
abbrev nX10_run : Nat := 72
abbrev nX10_corner : Nat := 73
abbrev nX10_organ : Nat := 74
abbrev nX10_player : Nat := 75
abbrev nX10_hours : Nat := 76
abbrev nX10_count : Nat := 77
abbrev nX10_setting : Nat := 78
abbrev nX10_whyNot : Nat := 79
abbrev nX10_ifPlayed : Nat := 80
abbrev nX10_kindestTune : Nat := 81
abbrev nX10_most : Nat := 82
abbrev nX10_ifEnded : Nat := 83
abbrev nX10_playersShare : Nat := 84
abbrev nX10_requireIndex : Nat := 85
abbrev nX10_requireInRange : Nat := 86
abbrev nX10_requireState : Nat := 87
abbrev nX10_asNumber : Nat := 88
abbrev nX10_holds : Nat := 89
abbrev nX10_obey : Nat := 90
abbrev nX10_obeyPlay : Nat := 91
abbrev nL_cell : Nat := 92
abbrev nL_at : Nat := 93
abbrev nL_abs : Nat := 94
abbrev nL_draw : Nat := 95
abbrev nL_holder : Nat := 96
abbrev nL_today : Nat := 97
abbrev nL_drawn : Nat := 98
abbrev nL_near : Nat := 99
abbrev nL_quiet : Nat := 100
abbrev nL_heard : Nat := 101
abbrev nL_crew : Nat := 102
abbrev nL_why : Nat := 103
abbrev nL_takes : Nat := 104
abbrev nL_play : Nat := 105
abbrev nL_ends : Nat := 106
abbrev nL_next : Nat := 107
abbrev nL_told : Nat := 108
abbrev nL_same : Nat := 109
abbrev nL_pairs : Nat := 110
abbrev nL_ahead : Nat := 111
abbrev nL_letters : Nat := 112
abbrev nL_runs : Nat := 113
abbrev nL_act : Nat := 114
abbrev nL_law : Nat := 115
def plL_L : List (Nat × Ent) := [(7, (6, 0, 0, .int 487263383)), (8, (6, 0, 0, .long 1103515245)), (10, (6, 0, 0, .long 12345)), (12, (6, 0, 0, .long 2147483648)), (14, (6, 0, 0, .int 65536)), (15, (9, 96, 3, .null)), (21, (9, 95, 2, .null)), (25, (9, 94, 1, .null)), (29, (9, 99, 4, .null)), (33, (9, 102, 3, .null)), (36, (9, 100, 3, .null)), (40, (9, 101, 6, .null)), (44, (9, 104, 6, .null)), (47, (9, 106, 5, .null)), (51, (4, 73, 3, .ref 8)), (57, (4, 74, 3, .ref 8)), (60, (4, 75, 3, .ref 8)), (63, (4, 76, 3, .ref 8)), (66, (4, 77, 2, .ref 8)), (69, (4, 78, 2, .ref 8)), (72, (9, 97, 1, .null)), (76, (4, 84, 1, .ref 8)), (80, (9, 103, 8, .null)), (84, (9, 109, 2, .null)), (88, (4, 79, 3, .ref 8)), (91, (9, 110, 7, .null)), (95, (4, 81, 2, .ref 8)), (98, (4, 80, 2, .ref 8)), (101, (4, 82, 2, .ref 8)), (104, (4, 83, 2, .ref 8)), (107, (4, 70, 2, .ref 8)), (110, (4, 71, 1, .ref 8)), (114, (9, 93, 2, .null)), (117, (9, 112, 5, .null)), (121, (9, 98, 2, .null)), (125, (9, 107, 6, .null)), (129, (9, 105, 9, .null)), (133, (4, 72, 1, .ref 8)), (136, (4, 59, 5, .ref 8)), (140, (4, 60, 2, .ref 8)), (143, (4, 61, 1, .ref 8)), (146, (4, 62, 3, .ref 8)), (150, (4, 63, 3, .ref 8)), (153, (4, 64, 3, .ref 8)), (156, (4, 65, 3, .ref 8)), (159, (4, 66, 1, .ref 8)), (162, (4, 67, 2, .ref 8)), (166, (4, 68, 3, .ref 8)), (168, (4, 69, 1, .ref 8)), (170, (9, 113, 10, .null)), (175, (9, 108, 8, .null)), (179, (9, 111, 8, .null)), (182, (9, 92, 2, .null)), (186, (6, 0, 0, .int 2147483647)), (187, (9, 114, 11, .null))]
def pl_L (i : Nat) : Ent := plk plL_L i
def plL_X1 : List (Nat × Ent) := [(9, (3, 0, 4, .ref 1)), (15, (0, 0, 0, .null)), (19, (0, 0, 1, .null)), (22, (0, 0, 2, .null)), (25, (0, 0, 3, .null)), (28, (5, 3, 0, .null)), (34, (5, 2, 0, .null)), (40, (5, 0, 0, .null))]
def pl_X1 (i : Nat) : Ent := plk plL_X1 i
def plL_X10 : List (Nat × Ent) := [(10, (3, 8, 0, .ref 23)), (19, (3, 8, 1, .ref 1)), (26, (3, 8, 2, .ref 3)), (33, (3, 8, 3, .ref 5)), (40, (3, 8, 4, .ref 9)), (44, (9, 86, 3, .null)), (48, (0, 7, 4, .null)), (52, (4, 31, 2, .ref 7)), (56, (9, 87, 1, .null)), (60, (4, 29, 2, .ref 6)), (64, (3, 7, 0, .ref 1)), (68, (0, 0, 0, .null)), (73, (0, 0, 1, .null)), (76, (0, 0, 2, .null)), (79, (0, 0, 3, .null)), (82, (0, 7, 5, .null)), (85, (3, 7, 1, .ref 2)), (89, (0, 2, 0, .null)), (94, (0, 7, 6, .null)), (97, (9, 85, 2, .null)), (101, (1, 2, 1, .null)), (105, (4, 32, 1, .ref 7)), (109, (0, 2, 2, .null)), (112, (3, 7, 2, .ref 3)), (116, (0, 5, 0, .null)), (121, (12, 400, 0, .null)), (125, (3, 7, 3, .ref 4)), (128, (4, 41, 1, .ref 7)), (132, (4, 42, 1, .ref 7)), (135, (4, 40, 1, .ref 7)), (138, (1, 7, 9, .null)), (141, (9, 88, 1, .null)), (145, (4, 49, 3, .ref 7)), (149, (4, 53, 3, .ref 7)), (152, (4, 56, 2, .ref 7)), (156, (0, 7, 8, .null)), (159, (0, 1, 1, .null)), (162, (3, 1, 0, .ref 1)), (168, (4, 10, 1, .ref 1)), (171, (7, 1, 0, .null)), (178, (4, 8, 2, .ref 1)), (182, (4, 90, 3, .ref 8)), (186, (4, 6, 1, .ref 29)), (191, (0, 6, 2, .null)), (197, (4, 1, 2, .ref 0)), (200, (4, 34, 2, .ref 7)), (204, (4, 3, 3, .ref 0)), (207, (4, 47, 2, .ref 7)), (211, (0, 2, 3, .null)), (214, (4, 33, 2, .ref 7)), (217, (0, 2, 4, .null)), (220, (0, 2, 5, .null)), (223, (0, 2, 6, .null)), (226, (0, 2, 7, .null)), (229, (4, 27, 1, .ref 5)), (232, (0, 5, 1, .null)), (235, (0, 5, 2, .null)), (238, (0, 5, 3, .null)), (241, (3, 5, 4, .ref 1)), (244, (0, 7, 7, .null)), (247, (0, 7, 10, .null)), (250, (0, 7, 11, .null)), (253, (0, 7, 12, .null)), (256, (4, 36, 1, .ref 7)), (259, (0, 7, 13, .null)), (262, (0, 7, 14, .null)), (265, (4, 37, 1, .ref 7)), (268, (4, 38, 1, .ref 7)), (271, (4, 39, 1, .ref 7)), (274, (4, 50, 2, .ref 7)), (277, (4, 51, 2, .ref 7)), (280, (4, 52, 3, .ref 7)), (283, (4, 14, 2, .ref 3)), (286, (4, 15, 3, .ref 3)), (290, (4, 17, 2, .ref 3)), (293, (0, 3, 2, .null)), (296, (0, 3, 3, .null)), (299, (4, 22, 2, .ref 4)), (302, (3, 4, 0, .ref 1)), (305, (3, 4, 1, .ref 2)), (344, (7, 3, 0, .null)), (351, (7, 2, 0, .null)), (356, (12, 402, 0, .null)), (361, (13, 7, 0, .null)), (364, (12, 411, 0, .null)), (368, (4, 11, 2, .ref 1)), (369, (4, 12, 2, .ref 1)), (372, (4, 91, 3, .ref 8))]
def pl_X10 (i : Nat) : Ent := plk plL_X10 i
def plL_X2 : List (Nat × Ent) := [(38, (8, 29, 0, .null)), (42, (8, 29, 1, .null)), (45, (13, 5, 0, .null)), (51, (13, 6, 0, .null))]
def pl_X2 (i : Nat) : Ent := plk plL_X2 i
def plL_X3 : List (Nat × Ent) := [(9, (3, 1, 0, .ref 1)), (15, (0, 1, 1, .null)), (19, (11, 401, 0, .null)), (23, (4, 7, 3, .ref 29)), (29, (4, 8, 2, .ref 1)), (33, (4, 6, 1, .ref 29)), (37, (4, 9, 1, .ref 1))]
def pl_X3 (i : Nat) : Ent := plk plL_X3 i
def plL_X4 : List (Nat × Ent) := [(9, (0, 2, 3, .null)), (15, (0, 2, 7, .null)), (18, (0, 2, 0, .null)), (21, (1, 2, 1, .null)), (25, (0, 2, 2, .null)), (28, (0, 2, 4, .null)), (31, (0, 2, 5, .null)), (34, (0, 2, 6, .null))]
def pl_X4 (i : Nat) : Ent := plk plL_X4 i
def plL_X5 : List (Nat × Ent) := [(9, (3, 3, 0, .ref 1)), (15, (3, 3, 1, .ref 2)), (18, (0, 7, 5, .null)), (24, (4, 50, 2, .ref 7)), (28, (10, 89, 2, .null)), (32, (4, 16, 4, .ref 3)), (36, (4, 46, 3, .ref 7)), (39, (0, 3, 2, .null)), (42, (0, 3, 3, .null)), (45, (9, 18, 2, .null)), (49, (9, 20, 5, .null)), (53, (4, 51, 2, .ref 7)), (56, (9, 19, 3, .null)), (59, (4, 52, 3, .ref 7)), (63, (9, 21, 5, .null))]
def pl_X5 (i : Nat) : Ent := plk plL_X5 i
def plL_X6 : List (Nat × Ent) := [(9, (3, 4, 0, .ref 1)), (15, (3, 4, 1, .ref 2)), (18, (3, 4, 2, .ref 3)), (21, (0, 7, 5, .null)), (27, (4, 23, 3, .ref 4)), (31, (1, 7, 9, .null)), (35, (4, 25, 2, .ref 4)), (39, (3, 7, 1, .ref 2)), (43, (0, 2, 4, .null)), (48, (0, 7, 6, .null)), (51, (3, 7, 2, .ref 3)), (55, (3, 5, 4, .ref 1)), (60, (4, 24, 3, .ref 4)), (64, (0, 7, 14, .null)), (67, (4, 27, 1, .ref 5)), (71, (3, 7, 3, .ref 4)), (74, (5, 1, 0, .null))]
def pl_X6 (i : Nat) : Ent := plk plL_X6 i
def plL_X7 : List (Nat × Ent) := [(9, (0, 5, 0, .null)), (15, (3, 5, 4, .ref 1)), (19, (0, 5, 1, .null)), (22, (0, 5, 2, .null)), (25, (0, 5, 3, .null)), (28, (5, 3, 0, .null))]
def pl_X7 (i : Nat) : Ent := plk plL_X7 i
def plL_X8 : List (Nat × Ent) := [(11, (3, 6, 0, .ref 1)), (18, (0, 6, 1, .null)), (22, (0, 6, 2, .null)), (25, (4, 30, 2, .ref 7))]
def pl_X8 (i : Nat) : Ent := plk plL_X8 i
def plL_X9 : List (Nat × Ent) := [(11, (3, 7, 0, .ref 1)), (19, (3, 7, 1, .ref 2)), (25, (3, 7, 2, .ref 3)), (29, (3, 7, 3, .ref 4)), (33, (0, 7, 10, .null)), (43, (5, 3, 0, .null)), (49, (4, 0, 2, .ref 0)), (53, (4, 13, 2, .ref 2)), (56, (4, 26, 2, .ref 5)), (59, (0, 7, 4, .null)), (62, (0, 7, 5, .null)), (65, (0, 7, 6, .null)), (68, (0, 7, 7, .null)), (71, (0, 7, 8, .null)), (74, (1, 7, 9, .null)), (78, (0, 7, 11, .null)), (81, (0, 7, 12, .null)), (84, (0, 7, 13, .null)), (87, (0, 7, 14, .null)), (90, (0, 0, 0, .null)), (93, (1, 2, 1, .null)), (96, (0, 5, 0, .null)), (99, (0, 2, 3, .null)), (102, (0, 2, 6, .null)), (105, (0, 2, 5, .null)), (108, (0, 2, 4, .null)), (111, (0, 5, 1, .null)), (114, (4, 43, 1, .ref 7)), (117, (4, 44, 2, .ref 7)), (121, (4, 45, 2, .ref 7)), (124, (6, 0, 0, .long 1103515245)), (126, (6, 0, 0, .long 12345)), (128, (6, 0, 0, .long 2147483648)), (130, (6, 0, 0, .int 65536)), (131, (4, 34, 2, .ref 7)), (134, (4, 35, 2, .ref 7)), (138, (4, 2, 2, .ref 0)), (142, (4, 3, 3, .ref 0)), (146, (4, 33, 2, .ref 7)), (149, (0, 2, 7, .null)), (152, (4, 1, 2, .ref 0)), (156, (4, 48, 2, .ref 7)), (159, (0, 2, 2, .null)), (162, (10, 89, 2, .null)), (166, (4, 47, 2, .ref 7)), (169, (4, 46, 3, .ref 7)), (172, (0, 0, 1, .null)), (175, (5, 0, 0, .null)), (180, (4, 51, 2, .ref 7)), (183, (4, 52, 3, .ref 7)), (186, (4, 54, 3, .ref 7)), (190, (4, 55, 2, .ref 7)), (194, (4, 4, 3, .ref 0)), (198, (0, 2, 0, .null)), (201, (3, 5, 4, .ref 1)), (204, (0, 5, 3, .null)), (207, (4, 22, 2, .ref 4)), (213, (4, 57, 2, .ref 7)), (217, (4, 58, 1, .ref 7)), (220, (3, 4, 1, .ref 2)), (223, (3, 4, 0, .ref 1)), (226, (0, 5, 2, .null)), (229, (4, 5, 1, .ref 0)), (232, (4, 28, 1, .ref 5))]
def pl_X9 (i : Nat) : Ent := plk plL_X9 i
def cd_X1_copyFrom : Chunks := [cd_X1_copyFrom_0, cd_X1_copyFrom_1]
def mi_X1_copyFrom : MI := (cd_X1_copyFrom, pl_X1, 0, 2, [])
def cd_X1_isQuietAt : Chunks := [cd_X1_isQuietAt_0]
def mi_X1_isQuietAt : MI := (cd_X1_isQuietAt, pl_X1, 2, 2, [])
def cd_X1_distanceTo : Chunks := [cd_X1_distanceTo_0]
def mi_X1_distanceTo : MI := (cd_X1_distanceTo, pl_X1, 1, 2, [])
def cd_X1_tunesPlayed : Chunks := [cd_X1_tunesPlayed_0, cd_X1_tunesPlayed_1]
def mi_X1_tunesPlayed : MI := (cd_X1_tunesPlayed, pl_X1, 1, 5, [])
def cd_X1_noteTune : Chunks := [cd_X1_noteTune_0]
def mi_X1_noteTune : MI := (cd_X1_noteTune, pl_X1, 0, 3, [])
def cd_X1_forgetDay : Chunks := [cd_X1_forgetDay_0]
def mi_X1_forgetDay : MI := (cd_X1_forgetDay, pl_X1, 0, 2, [])
def cd_X2_signCount : Chunks := [cd_X2_signCount_0]
def mi_X2_signCount : MI := (cd_X2_signCount, pl_X2, 1, 1, [])
def cd_X2_fits : Chunks := [cd_X2_fits_0, cd_X2_fits_1]
def mi_X2_fits : MI := (cd_X2_fits, pl_X2, 2, 3, [])
def cd_X3_kindAt : Chunks := [cd_X3_kindAt_0, cd_X3_kindAt_1]
def mi_X3_kindAt : MI := (cd_X3_kindAt, pl_X3, 5, 3, [])
def cd_X3_errorIndex : Chunks := [cd_X3_errorIndex_0, cd_X3_errorIndex_1, cd_X3_errorIndex_2, cd_X3_errorIndex_3]
def mi_X3_errorIndex : MI := (cd_X3_errorIndex, pl_X3, 1, 5, [])
def cd_X3_isWholeRow : Chunks := [cd_X3_isWholeRow_0, cd_X3_isWholeRow_1]
def mi_X3_isWholeRow : MI := (cd_X3_isWholeRow, pl_X3, 2, 3, [])
def cd_X3_organAt : Chunks := [cd_X3_organAt_0]
def mi_X3_organAt : MI := (cd_X3_organAt, pl_X3, 1, 2, [])
def cd_X3_tuneAt : Chunks := [cd_X3_tuneAt_0]
def mi_X3_tuneAt : MI := (cd_X3_tuneAt, pl_X3, 1, 2, [])
def cd_X4_copyFrom : Chunks := [cd_X4_copyFrom_0, cd_X4_copyFrom_1, cd_X4_copyFrom_2]
def mi_X4_copyFrom : MI := (cd_X4_copyFrom, pl_X4, 0, 2, [])
def cd_X5_lookAt : Chunks := [cd_X5_lookAt_0]
def mi_X5_lookAt : MI := (cd_X5_lookAt, pl_X5, 0, 3, [])
def cd_X5_leastHindering : Chunks := [cd_X5_leastHindering_0, cd_X5_leastHindering_1]
def mi_X5_leastHindering : MI := (cd_X5_leastHindering, pl_X5, 1, 7, [])
def cd_X5_hinderedPairs : Chunks := [cd_X5_hinderedPairs_0, cd_X5_hinderedPairs_1]
def mi_X5_hinderedPairs : MI := (cd_X5_hinderedPairs, pl_X5, 1, 6, [])
def cd_X5_findMost : Chunks := [cd_X5_findMost_0, cd_X5_findMost_1, cd_X5_findMost_2]
def mi_X5_findMost : MI := (cd_X5_findMost, pl_X5, 0, 4, [])
def cd_X5_takingsOf : Chunks := [cd_X5_takingsOf_0, cd_X5_takingsOf_1]
def mi_X5_takingsOf : MI := (cd_X5_takingsOf, pl_X5, 1, 5, [])
def cd_X5_nearAhead : Chunks := [cd_X5_nearAhead_0, cd_X5_nearAhead_1]
def mi_X5_nearAhead : MI := (cd_X5_nearAhead, pl_X5, 1, 5, [])
def cd_X5_findTunes : Chunks := [cd_X5_findTunes_0, cd_X5_findTunes_1, cd_X5_findTunes_2, cd_X5_findTunes_3]
def mi_X5_findTunes : MI := (cd_X5_findTunes, pl_X5, 2, 6, [])
def cd_X5_isFree : Chunks := [cd_X5_isFree_0, cd_X5_isFree_1]
def mi_X5_isFree : MI := (cd_X5_isFree, pl_X5, 2, 6, [])
def cd_X6_reckon : Chunks := [cd_X6_reckon_0, cd_X6_reckon_1]
def mi_X6_reckon : MI := (cd_X6_reckon, pl_X6, 0, 3, [])
def cd_X6_sharePot : Chunks := [cd_X6_sharePot_0, cd_X6_sharePot_1, cd_X6_sharePot_2, cd_X6_sharePot_3, cd_X6_sharePot_4]
def mi_X6_sharePot : MI := (cd_X6_sharePot, pl_X6, 0, 8, [])
def cd_X6_giveUnits : Chunks := [cd_X6_giveUnits_0, cd_X6_giveUnits_1, cd_X6_giveUnits_2]
def mi_X6_giveUnits : MI := (cd_X6_giveUnits, pl_X6, 0, 6, [])
def cd_X6_giveAllowances : Chunks := [cd_X6_giveAllowances_0, cd_X6_giveAllowances_1]
def mi_X6_giveAllowances : MI := (cd_X6_giveAllowances, pl_X6, 0, 4, [])
def cd_X7_copyFrom : Chunks := [cd_X7_copyFrom_0, cd_X7_copyFrom_1]
def mi_X7_copyFrom : MI := (cd_X7_copyFrom, pl_X7, 0, 2, [])
def cd_X7_hoursOfDay : Chunks := [cd_X7_hoursOfDay_0]
def mi_X7_hoursOfDay : MI := (cd_X7_hoursOfDay, pl_X7, 1, 3, [])
def cd_X7_forgetDay : Chunks := [cd_X7_forgetDay_0]
def mi_X7_forgetDay : MI := (cd_X7_forgetDay, pl_X7, 0, 2, [])
def cd_X8_save : Chunks := [cd_X8_save_0, cd_X8_save_1]
def mi_X8_save : MI := (cd_X8_save, pl_X8, 0, 2, [])
def cd_X9_copyFrom : Chunks := [cd_X9_copyFrom_0, cd_X9_copyFrom_1, cd_X9_copyFrom_2, cd_X9_copyFrom_3, cd_X9_copyFrom_4, cd_X9_copyFrom_5]
def mi_X9_copyFrom : MI := (cd_X9_copyFrom, pl_X9, 0, 3, [])
def cd_X9_hasCornerAt : Chunks := [cd_X9_hasCornerAt_0, cd_X9_hasCornerAt_1]
def mi_X9_hasCornerAt : MI := (cd_X9_hasCornerAt, pl_X9, 2, 3, [])
def cd_X9_permits : Chunks := [cd_X9_permits_0, cd_X9_permits_1]
def mi_X9_permits : MI := (cd_X9_permits, pl_X9, 1, 3, [])
def cd_X9_crewSize : Chunks := [cd_X9_crewSize_0, cd_X9_crewSize_1]
def mi_X9_crewSize : MI := (cd_X9_crewSize, pl_X9, 1, 4, [])
def cd_X9_organAt : Chunks := [cd_X9_organAt_0, cd_X9_organAt_1]
def mi_X9_organAt : MI := (cd_X9_organAt, pl_X9, 1, 3, [])
def cd_X9_cornerOf : Chunks := [cd_X9_cornerOf_0, cd_X9_cornerOf_1]
def mi_X9_cornerOf : MI := (cd_X9_cornerOf, pl_X9, 5, 3, [])
def cd_X9_takingsSoFar : Chunks := [cd_X9_takingsSoFar_0]
def mi_X9_takingsSoFar : MI := (cd_X9_takingsSoFar, pl_X9, 1, 3, [])
def cd_X9_ownersSoFar : Chunks := [cd_X9_ownersSoFar_0]
def mi_X9_ownersSoFar : MI := (cd_X9_ownersSoFar, pl_X9, 1, 3, [])
def cd_X9_inAllPots : Chunks := [cd_X9_inAllPots_0]
def mi_X9_inAllPots : MI := (cd_X9_inAllPots, pl_X9, 1, 3, [])
def cd_X9_playersSoFar : Chunks := [cd_X9_playersSoFar_0]
def mi_X9_playersSoFar : MI := (cd_X9_playersSoFar, pl_X9, 1, 3, [])
def cd_X9_weatherMayChange : Chunks := [cd_X9_weatherMayChange_0]
def mi_X9_weatherMayChange : MI := (cd_X9_weatherMayChange, pl_X9, 2, 1, [])
def cd_X9_lotsMayBeDrawn : Chunks := [cd_X9_lotsMayBeDrawn_0]
def mi_X9_lotsMayBeDrawn : MI := (cd_X9_lotsMayBeDrawn, pl_X9, 2, 1, [])
def cd_X9_drawLots : Chunks := [cd_X9_drawLots_0, cd_X9_drawLots_1, cd_X9_drawLots_2]
def mi_X9_drawLots : MI := (cd_X9_drawLots, pl_X9, 1, 4, [])
def cd_X9_takeCornersBack : Chunks := [cd_X9_takeCornersBack_0]
def mi_X9_takeCornersBack : MI := (cd_X9_takeCornersBack, pl_X9, 0, 2, [])
def cd_X9_draw : Chunks := [cd_X9_draw_0, cd_X9_draw_1]
def mi_X9_draw : MI := (cd_X9_draw, pl_X9, 1, 2, [])
def cd_X9_freeCorner : Chunks := [cd_X9_freeCorner_0, cd_X9_freeCorner_1]
def mi_X9_freeCorner : MI := (cd_X9_freeCorner, pl_X9, 1, 4, [])
def cd_X9_areNear : Chunks := [cd_X9_areNear_0, cd_X9_areNear_1]
def mi_X9_areNear : MI := (cd_X9_areNear, pl_X9, 2, 5, [])
def cd_X9_tunesHeardAt : Chunks := [cd_X9_tunesHeardAt_0, cd_X9_tunesHeardAt_1, cd_X9_tunesHeardAt_2]
def mi_X9_tunesHeardAt : MI := (cd_X9_tunesHeardAt, pl_X9, 1, 5, [])
def cd_X9_reasonAgainstAll : Chunks := [cd_X9_reasonAgainstAll_0, cd_X9_reasonAgainstAll_1]
def mi_X9_reasonAgainstAll : MI := (cd_X9_reasonAgainstAll, pl_X9, 1, 3, [])
def cd_X9_reasonAgainst : Chunks := [cd_X9_reasonAgainst_0, cd_X9_reasonAgainst_1, cd_X9_reasonAgainst_2]
def mi_X9_reasonAgainst : MI := (cd_X9_reasonAgainst, pl_X9, 1, 6, [])
def cd_X9_playableTunes : Chunks := [cd_X9_playableTunes_0, cd_X9_playableTunes_1]
def mi_X9_playableTunes : MI := (cd_X9_playableTunes, pl_X9, 1, 3, [])
def cd_X9_playedNear : Chunks := [cd_X9_playedNear_0, cd_X9_playedNear_1]
def mi_X9_playedNear : MI := (cd_X9_playedNear, pl_X9, 1, 4, [])
def cd_X9_takingsFor : Chunks := [cd_X9_takingsFor_0, cd_X9_takingsFor_1]
def mi_X9_takingsFor : MI := (cd_X9_takingsFor, pl_X9, 1, 5, [])
def cd_X9_playTune : Chunks := [cd_X9_playTune_0, cd_X9_playTune_1, cd_X9_playTune_2]
def mi_X9_playTune : MI := (cd_X9_playTune, pl_X9, 1, 5, [])
def cd_X9_divideTakings : Chunks := [cd_X9_divideTakings_0, cd_X9_divideTakings_1, cd_X9_divideTakings_2, cd_X9_divideTakings_3]
def mi_X9_divideTakings : MI := (cd_X9_divideTakings, pl_X9, 0, 7, [])
def cd_X9_addHourOfCrew : Chunks := [cd_X9_addHourOfCrew_0, cd_X9_addHourOfCrew_1]
def mi_X9_addHourOfCrew : MI := (cd_X9_addHourOfCrew, pl_X9, 0, 3, [])
def cd_X9_endHour : Chunks := [cd_X9_endHour_0, cd_X9_endHour_1]
def mi_X9_endHour : MI := (cd_X9_endHour, pl_X9, 0, 3, [])
def cd_X9_payOut : Chunks := [cd_X9_payOut_0, cd_X9_payOut_1, cd_X9_payOut_2, cd_X9_payOut_3]
def mi_X9_payOut : MI := (cd_X9_payOut, pl_X9, 0, 4, [])
def cd_X9_beginDay : Chunks := [cd_X9_beginDay_0, cd_X9_beginDay_1, cd_X9_beginDay_2]
def mi_X9_beginDay : MI := (cd_X9_beginDay, pl_X9, 0, 2, [])
def cd_X10_addCorner : Chunks := [cd_X10_addCorner_0, cd_X10_addCorner_1, cd_X10_addCorner_2, cd_X10_addCorner_3, cd_X10_addCorner_4]
def mi_X10_addCorner : MI := (cd_X10_addCorner, pl_X10, 1, 6, [])
def cd_X10_addOrgan : Chunks := [cd_X10_addOrgan_0, cd_X10_addOrgan_1, cd_X10_addOrgan_2]
def mi_X10_addOrgan : MI := (cd_X10_addOrgan, pl_X10, 1, 2, [])
def cd_X10_addPlayer : Chunks := [cd_X10_addPlayer_0, cd_X10_addPlayer_1]
def mi_X10_addPlayer : MI := (cd_X10_addPlayer, pl_X10, 1, 1, [])
def cd_X10_permit : Chunks := [cd_X10_permit_0, cd_X10_permit_1]
def mi_X10_permit : MI := (cd_X10_permit, pl_X10, 1, 3, [])
def cd_X10_barrel : Chunks := [cd_X10_barrel_0, cd_X10_barrel_1]
def mi_X10_barrel : MI := (cd_X10_barrel, pl_X10, 1, 4, [])
def cd_X10_assign : Chunks := [cd_X10_assign_0, cd_X10_assign_1, cd_X10_assign_2]
def mi_X10_assign : MI := (cd_X10_assign, pl_X10, 1, 4, [])
def cd_X10_set : Chunks := [cd_X10_set_0, cd_X10_set_1]
def mi_X10_set : MI := (cd_X10_set, pl_X10, 1, 4, [])
def cd_X10_lots : Chunks := [cd_X10_lots_0]
def mi_X10_lots : MI := (cd_X10_lots, pl_X10, 1, 1, [])
def cd_X10_weather : Chunks := [cd_X10_weather_0, cd_X10_weather_1]
def mi_X10_weather : MI := (cd_X10_weather, pl_X10, 1, 3, [])
def cd_X10_play : Chunks := [cd_X10_play_0, cd_X10_play_1]
def mi_X10_play : MI := (cd_X10_play, pl_X10, 1, 3, [])
def cd_X10_next : Chunks := [cd_X10_next_0]
def mi_X10_next : MI := (cd_X10_next, pl_X10, 1, 1, [])
def cd_X10_append : Chunks := [cd_X10_append_0, cd_X10_append_1, cd_X10_append_2]
def mi_X10_append : MI := (cd_X10_append, pl_X10, 1, 2, [])
def cd_X10_clearBuffer : Chunks := [cd_X10_clearBuffer_0]
def mi_X10_clearBuffer : MI := (cd_X10_clearBuffer, pl_X10, 1, 2, [])
def cd_X10_run : Chunks := [cd_X10_run_0, cd_X10_run_1, cd_X10_run_2]
def mi_X10_run : MI := (cd_X10_run, pl_X10, 1, 4, [])
def cd_X10_corner : Chunks := [cd_X10_corner_0, cd_X10_corner_1, cd_X10_corner_2, cd_X10_corner_3]
def mi_X10_corner : MI := (cd_X10_corner, pl_X10, 1, 4, [])
def cd_X10_organ : Chunks := [cd_X10_organ_0, cd_X10_organ_1, cd_X10_organ_2, cd_X10_organ_3]
def mi_X10_organ : MI := (cd_X10_organ, pl_X10, 1, 4, [])
def cd_X10_player : Chunks := [cd_X10_player_0, cd_X10_player_1, cd_X10_player_2]
def mi_X10_player : MI := (cd_X10_player, pl_X10, 1, 4, [])
def cd_X10_hours : Chunks := [cd_X10_hours_0, cd_X10_hours_1]
def mi_X10_hours : MI := (cd_X10_hours, pl_X10, 1, 3, [])
def cd_X10_count : Chunks := [cd_X10_count_0, cd_X10_count_1, cd_X10_count_2, cd_X10_count_3, cd_X10_count_4, cd_X10_count_5, cd_X10_count_6]
def mi_X10_count : MI := (cd_X10_count, pl_X10, 1, 2, [])
def cd_X10_setting : Chunks := [cd_X10_setting_0]
def mi_X10_setting : MI := (cd_X10_setting, pl_X10, 1, 2, [])
def cd_X10_whyNot : Chunks := [cd_X10_whyNot_0]
def mi_X10_whyNot : MI := (cd_X10_whyNot, pl_X10, 1, 3, [])
def cd_X10_ifPlayed : Chunks := [cd_X10_ifPlayed_0, cd_X10_ifPlayed_1]
def mi_X10_ifPlayed : MI := (cd_X10_ifPlayed, pl_X10, 1, 2, [])
def cd_X10_kindestTune : Chunks := [cd_X10_kindestTune_0, cd_X10_kindestTune_1]
def mi_X10_kindestTune : MI := (cd_X10_kindestTune, pl_X10, 1, 2, [])
def cd_X10_most : Chunks := [cd_X10_most_0, cd_X10_most_1]
def mi_X10_most : MI := (cd_X10_most, pl_X10, 1, 2, [])
def cd_X10_ifEnded : Chunks := [cd_X10_ifEnded_0, cd_X10_ifEnded_1]
def mi_X10_ifEnded : MI := (cd_X10_ifEnded, pl_X10, 1, 2, [])
def cd_X10_playersShare : Chunks := [cd_X10_playersShare_0]
def mi_X10_playersShare : MI := (cd_X10_playersShare, pl_X10, 4, 2, [])
def cd_X10_requireIndex : Chunks := [cd_X10_requireIndex_0]
def mi_X10_requireIndex : MI := (cd_X10_requireIndex, pl_X10, 0, 2, [])
def cd_X10_requireInRange : Chunks := [cd_X10_requireInRange_0]
def mi_X10_requireInRange : MI := (cd_X10_requireInRange, pl_X10, 0, 3, [])
def cd_X10_requireState : Chunks := [cd_X10_requireState_0]
def mi_X10_requireState : MI := (cd_X10_requireState, pl_X10, 0, 1, [])
def cd_X10_asNumber : Chunks := [cd_X10_asNumber_0]
def mi_X10_asNumber : MI := (cd_X10_asNumber, pl_X10, 1, 1, [])
def cd_X10_holds : Chunks := [cd_X10_holds_0]
def mi_X10_holds : MI := (cd_X10_holds, pl_X10, 2, 2, [])
def cd_X10_obey : Chunks := [cd_X10_obey_0, cd_X10_obey_1, cd_X10_obey_2, cd_X10_obey_3, cd_X10_obey_4]
def mi_X10_obey : MI := (cd_X10_obey, pl_X10, 2, 3, [])
def cd_X10_obeyPlay : Chunks := [cd_X10_obeyPlay_0, cd_X10_obeyPlay_1]
def mi_X10_obeyPlay : MI := (cd_X10_obeyPlay, pl_X10, 2, 3, [])
def cd_L_cell : Chunks := [cd_L_cell_0]
def mi_L_cell : MI := (cd_L_cell, pl_L, 1, 2, [])
def cd_L_at : Chunks := [cd_L_at_0]
def mi_L_at : MI := (cd_L_at, pl_L, 1, 2, [])
def cd_L_abs : Chunks := [cd_L_abs_0]
def mi_L_abs : MI := (cd_L_abs, pl_L, 1, 1, [])
def cd_L_draw : Chunks := [cd_L_draw_0]
def mi_L_draw : MI := (cd_L_draw, pl_L, 1, 2, [])
def cd_L_holder : Chunks := [cd_L_holder_0]
def mi_L_holder : MI := (cd_L_holder, pl_L, 1, 4, [])
def cd_L_today : Chunks := [cd_L_today_0]
def mi_L_today : MI := (cd_L_today, pl_L, 1, 3, [])
def cd_L_drawn : Chunks := [cd_L_drawn_0, cd_L_drawn_1, cd_L_drawn_2, cd_L_drawn_3, cd_L_drawn_4, cd_L_drawn_5]
def mi_L_drawn : MI := (cd_L_drawn, pl_L, 1, 7, [])
def cd_L_near : Chunks := [cd_L_near_0]
def mi_L_near : MI := (cd_L_near, pl_L, 2, 4, [])
def cd_L_quiet : Chunks := [cd_L_quiet_0, cd_L_quiet_1]
def mi_L_quiet : MI := (cd_L_quiet, pl_L, 2, 4, [])
def cd_L_heard : Chunks := [cd_L_heard_0, cd_L_heard_1, cd_L_heard_2, cd_L_heard_3]
def mi_L_heard : MI := (cd_L_heard, pl_L, 1, 9, [])
def cd_L_crew : Chunks := [cd_L_crew_0, cd_L_crew_1]
def mi_L_crew : MI := (cd_L_crew, pl_L, 1, 5, [])
def cd_L_why : Chunks := [cd_L_why_0, cd_L_why_1, cd_L_why_2, cd_L_why_3]
def mi_L_why : MI := (cd_L_why, pl_L, 1, 9, [])
def cd_L_takes : Chunks := [cd_L_takes_0, cd_L_takes_1, cd_L_takes_2, cd_L_takes_3]
def mi_L_takes : MI := (cd_L_takes, pl_L, 1, 8, [])
def cd_L_play : Chunks := [cd_L_play_0, cd_L_play_1, cd_L_play_2, cd_L_play_3, cd_L_play_4, cd_L_play_5, cd_L_play_6]
def mi_L_play : MI := (cd_L_play, pl_L, 1, 13, [])
def cd_L_ends : Chunks := [cd_L_ends_0, cd_L_ends_1, cd_L_ends_2, cd_L_ends_3, cd_L_ends_4, cd_L_ends_5, cd_L_ends_6, cd_L_ends_7, cd_L_ends_8, cd_L_ends_9, cd_L_ends_10, cd_L_ends_11]
def mi_L_ends : MI := (cd_L_ends, pl_L, 0, 13, [])
def cd_L_next : Chunks := [cd_L_next_0, cd_L_next_1, cd_L_next_2, cd_L_next_3]
def mi_L_next : MI := (cd_L_next, pl_L, 0, 7, [])
def cd_L_told : Chunks := [cd_L_told_0, cd_L_told_1, cd_L_told_2, cd_L_told_3, cd_L_told_4, cd_L_told_5, cd_L_told_6, cd_L_told_7, cd_L_told_8, cd_L_told_9, cd_L_told_10, cd_L_told_11, cd_L_told_12, cd_L_told_13, cd_L_told_14, cd_L_told_15, cd_L_told_16, cd_L_told_17, cd_L_told_18, cd_L_told_19, cd_L_told_20, cd_L_told_21, cd_L_told_22, cd_L_told_23, cd_L_told_24]
def mi_L_told : MI := (cd_L_told, pl_L, 2, 15, [])
def cd_L_same : Chunks := [cd_L_same_0]
def mi_L_same : MI := (cd_L_same, pl_L, 0, 3, [])
def cd_L_pairs : Chunks := [cd_L_pairs_0, cd_L_pairs_1, cd_L_pairs_2]
def mi_L_pairs : MI := (cd_L_pairs, pl_L, 1, 10, [])
def cd_L_ahead : Chunks := [cd_L_ahead_0, cd_L_ahead_1, cd_L_ahead_2, cd_L_ahead_3, cd_L_ahead_4, cd_L_ahead_5, cd_L_ahead_6, cd_L_ahead_7, cd_L_ahead_8, cd_L_ahead_9, cd_L_ahead_10, cd_L_ahead_11, cd_L_ahead_12, cd_L_ahead_13, cd_L_ahead_14, cd_L_ahead_15, cd_L_ahead_16, cd_L_ahead_17]
def mi_L_ahead : MI := (cd_L_ahead, pl_L, 2, 18, [])
def cd_L_letters : Chunks := [cd_L_letters_0, cd_L_letters_1]
def mi_L_letters : MI := (cd_L_letters, pl_L, 2, 5, [])
def cd_L_runs : Chunks := [cd_L_runs_0, cd_L_runs_1, cd_L_runs_2, cd_L_runs_3, cd_L_runs_4, cd_L_runs_5, cd_L_runs_6, cd_L_runs_7, cd_L_runs_8, cd_L_runs_9, cd_L_runs_10, cd_L_runs_11, cd_L_runs_12, cd_L_runs_13]
def mi_L_runs : MI := (cd_L_runs, pl_L, 2, 16, [])
def cd_L_act : Chunks := [cd_L_act_0, cd_L_act_1, cd_L_act_2, cd_L_act_3, cd_L_act_4, cd_L_act_5, cd_L_act_6, cd_L_act_7, cd_L_act_8, cd_L_act_9, cd_L_act_10, cd_L_act_11, cd_L_act_12, cd_L_act_13, cd_L_act_14, cd_L_act_15, cd_L_act_16, cd_L_act_17, cd_L_act_18, cd_L_act_19, cd_L_act_20, cd_L_act_21, cd_L_act_22, cd_L_act_23, cd_L_act_24, cd_L_act_25, cd_L_act_26, cd_L_act_27]
def mi_L_act : MI := (cd_L_act, pl_L, 2, 14, [])
def cd_L_law : Chunks := [cd_L_law_0, cd_L_law_1, cd_L_law_2, cd_L_law_3, cd_L_law_4, cd_L_law_5, cd_L_law_6, cd_L_law_7, cd_L_law_8, cd_L_law_9, cd_L_law_10, cd_L_law_11, cd_L_law_12]
def mi_L_law : MI := (cd_L_law, pl_L, 2, 13, [])
def mtab_0 : List MI := [mi_X1_copyFrom, mi_X1_isQuietAt, mi_X1_distanceTo, mi_X1_tunesPlayed, mi_X1_noteTune, mi_X1_forgetDay, mi_X2_signCount, mi_X2_fits, mi_X3_kindAt, mi_X3_errorIndex, mi_X3_isWholeRow, mi_X3_organAt, mi_X3_tuneAt, mi_X4_copyFrom, mi_X5_lookAt, mi_X5_leastHindering]
def mtab_1 : List MI := [mi_X5_hinderedPairs, mi_X5_findMost, mi_X5_takingsOf, mi_X5_nearAhead, mi_X5_findTunes, mi_X5_isFree, mi_X6_reckon, mi_X6_sharePot, mi_X6_giveUnits, mi_X6_giveAllowances, mi_X7_copyFrom, mi_X7_hoursOfDay, mi_X7_forgetDay, mi_X8_save, mi_X9_copyFrom, mi_X9_hasCornerAt]
def mtab_2 : List MI := [mi_X9_permits, mi_X9_crewSize, mi_X9_organAt, mi_X9_cornerOf, mi_X9_takingsSoFar, mi_X9_ownersSoFar, mi_X9_inAllPots, mi_X9_playersSoFar, mi_X9_weatherMayChange, mi_X9_lotsMayBeDrawn, mi_X9_drawLots, mi_X9_takeCornersBack, mi_X9_draw, mi_X9_freeCorner, mi_X9_areNear, mi_X9_tunesHeardAt]
def mtab_3 : List MI := [mi_X9_reasonAgainstAll, mi_X9_reasonAgainst, mi_X9_playableTunes, mi_X9_playedNear, mi_X9_takingsFor, mi_X9_playTune, mi_X9_divideTakings, mi_X9_addHourOfCrew, mi_X9_endHour, mi_X9_payOut, mi_X9_beginDay, mi_X10_addCorner, mi_X10_addOrgan, mi_X10_addPlayer, mi_X10_permit, mi_X10_barrel]
def mtab_4 : List MI := [mi_X10_assign, mi_X10_set, mi_X10_lots, mi_X10_weather, mi_X10_play, mi_X10_next, mi_X10_append, mi_X10_clearBuffer, mi_X10_run, mi_X10_corner, mi_X10_organ, mi_X10_player, mi_X10_hours, mi_X10_count, mi_X10_setting, mi_X10_whyNot]
def mtab_5 : List MI := [mi_X10_ifPlayed, mi_X10_kindestTune, mi_X10_most, mi_X10_ifEnded, mi_X10_playersShare, mi_X10_requireIndex, mi_X10_requireInRange, mi_X10_requireState, mi_X10_asNumber, mi_X10_holds, mi_X10_obey, mi_X10_obeyPlay, mi_L_cell, mi_L_at, mi_L_abs, mi_L_draw]
def mtab_6 : List MI := [mi_L_holder, mi_L_today, mi_L_drawn, mi_L_near, mi_L_quiet, mi_L_heard, mi_L_crew, mi_L_why, mi_L_takes, mi_L_play, mi_L_ends, mi_L_next, mi_L_told, mi_L_same, mi_L_pairs, mi_L_ahead]
def mtab_7 : List MI := [mi_L_letters, mi_L_runs, mi_L_act, mi_L_law]
def mtabs : List (List MI) := [mtab_0, mtab_1, mtab_2, mtab_3, mtab_4, mtab_5, mtab_6, mtab_7]
def mtab (n : Nat) : Option MI := (mtabs.getD (n / 16) [])[n % 16]?
def levs : List Nat := [1, 1, 1, 1, 1, 1, 1, 1, 2, 3, 4, 1, 1, 1, 4, 4, 3, 10, 4, 3, 9, 3, 3, 2, 1, 2, 1, 1, 1, 3, 2, 1, 1, 1, 1, 1, 1, 1, 1, 1, 1, 1, 3, 1, 1, 2, 2, 2, 2, 3, 3, 3, 2, 4, 1, 1, 4, 1, 2, 4, 4, 4, 4, 4, 4, 4, 4, 4, 5, 5, 2, 1, 7, 3, 2, 2, 2, 2, 2, 4, 4, 5, 11, 4, 2, 1, 1, 1, 1, 1, 6, 5, 1, 1, 1, 1, 1, 1, 2, 2, 1, 3, 1, 4, 3, 4, 1, 2, 4, 1, 5, 12, 3, 8, 9, 13]
def orgArg (as : List Value) : Nat := match (as[4]? : Option Value) with
  | some (Value.int x) => min 5 x.toNatClampNeg
  | _ => 0
def mxl (m : Nat) : Nat := match mtab m with | some M => M.2.2.2.1 | none => 0
/-- how many frames a call needs at most -/
def lvl0 (m : Nat) (as : List Value) : Nat := bif Nat.beq m 20 then 9 - orgArg as else levs.getD m 0
/-- .. where its arguments find room -/
def lvl (m : Nat) (as : List Value) : Nat := bif Nat.ble (layA as).length (mxl m) then lvl0 m as else 1000000
end CODE
end
section
/-! WHAT A RUN OF THE PURE INTERPRETER COMES TO: fuel, and its limit -/
section EXEC
def prun : Nat → Nat → Nat → PS → Option PO
  | 0, _, _, _ => none
  | n + 1, m, lv, s => match mtab m with
    | none => none
    | some M => match pstep M s with
      | none => none
      | some (.inl s') => prun n m lv s'
      | some (.inr (.inr o)) => some o
      | some (.inr (.inl (c, as, pc, ls, st, μ))) =>
        if lvl c as < lv then (match prun n c (lvl c as) (0, entryL (mxl c) as, [], μ) with
          | none => none
          | some o => match aft M pc ls st o with
            | some (.inl s') => prun n m lv s'
            | some (.inr (.inr o2)) => some o2
            | _ => none)
        else none
theorem prun_mono : ∀ (n m lv : Nat) (s : PS) (o : PO), prun n m lv s = some o → prun (n + 1) m lv s = some o := by
  intro n
  induction n with
  | zero => intro m lv s o h; simp [prun] at h
  | succ n ih =>
    intro m lv s o h
    rw [prun] at h ⊢
    cases hM : mtab m with
    | none => rw [hM] at h; cases h
    | some M =>
      rw [hM] at h
      simp only at h ⊢
      cases hs : pstep M s with
      | none => rw [hs] at h; cases h
      | some r =>
        rw [hs] at h
        match r, h with
        | .inl s', h => exact ih _ _ _ _ h
        | .inr (.inr o'), h => exact h
        | .inr (.inl (c, as, pc, ls, st, μ)), h =>
          simp only at h ⊢
          by_cases hl : lvl c as < lv
          · rw [if_pos hl] at h ⊢
            cases ho : prun n c (lvl c as) (0, entryL (mxl c) as, [], μ) with
            | none => rw [ho] at h; cases h
            | some o1 =>
              rw [ho] at h
              rw [ih _ _ _ _ ho]
              simp only at h ⊢
              cases ha : aft M pc ls st o1 with
              | none => rw [ha] at h; cases h
              | some r2 =>
                rw [ha] at h
                match r2, h with
                | .inl s', h => exact ih _ _ _ _ h
                | .inr (.inr o2), h => exact h
                | .inr (.inl x), h => cases h
          · rw [if_neg hl] at h; cases h
theorem prun_le {n k m lv : Nat} {s : PS} {o : PO} (h : prun n m lv s = some o) (hk : n ≤ k) : prun k m lv s = some o := by
  induction hk with
  | refl => exact h
  | step _ ih => exact prun_mono _ _ _ _ _ ih
theorem prun_det {n k m lv : Nat} {s : PS} {o o' : PO} (h : prun n m lv s = some o) (h' : prun k m lv s = some o') : o = o' := by
  have h1 := prun_le h (Nat.le_max_left n k)
  have h2 := prun_le h' (Nat.le_max_right n k)
  rw [h1] at h2
  exact Option.some.inj h2
/-- the run's outcome, from a state of method m at level lv -/
noncomputable def Exec (m lv : Nat) (s : PS) : Option PO := @dite (Option PO) (∃ o n, prun n m lv s = some o) (Classical.propDecidable _) (fun h => some h.choose) (fun _ => none)
theorem Exec_of {n m lv : Nat} {s : PS} {o : PO} (h : prun n m lv s = some o) : Exec m lv s = some o := by
  have hx : ∃ o n, prun n m lv s = some o := ⟨o, n, h⟩
  rw [Exec, dif_pos hx]
  obtain ⟨k, hk⟩ := hx.choose_spec
  exact congrArg some (prun_det hk h)
theorem Exec_iff {m lv : Nat} {s : PS} {o : PO} : Exec m lv s = some o ↔ ∃ n, prun n m lv s = some o := by
  constructor
  · intro h
    unfold Exec at h
    split at h
    · rename_i hx
      obtain ⟨k, hk⟩ := hx.choose_spec
      rw [Option.some.inj h] at hk
      exact ⟨k, hk⟩
    · cases h
  · rintro ⟨n, h⟩; exact Exec_of h
theorem Exec_ext {m lv m' lv' : Nat} {s s' : PS} (h : ∀ o, (∃ n, prun n m lv s = some o) ↔ ∃ n, prun n m' lv' s' = some o) : Exec m lv s = Exec m' lv' s' := by
  have key : ∀ o, Exec m lv s = some o ↔ Exec m' lv' s' = some o := fun o => by rw [Exec_iff, Exec_iff]; exact h o
  cases h1 : Exec m lv s with
  | none =>
    cases h2 : Exec m' lv' s' with
    | none => rfl
    | some o => rw [(key o).mpr h2] at h1; cases h1
  | some o => exact ((key o).mp h1).symm
theorem Exec_step1 {m lv : Nat} {M : MI} {s s' : PS} (hM : mtab m = some M) (h : pstep M s = some (.inl s')) : Exec m lv s = Exec m lv s' := by
  refine Exec_ext fun o => ⟨?_, ?_⟩
  · rintro ⟨n, hn⟩
    cases n with
    | zero => simp [prun] at hn
    | succ n => rw [prun, hM] at hn; simp only [h] at hn; exact ⟨n, hn⟩
  · rintro ⟨n, hn⟩
    exact ⟨n + 1, by rw [prun, hM]; simp only [h]; exact hn⟩
theorem Exec_done1 {m lv : Nat} {M : MI} {s : PS} {o : PO} (hM : mtab m = some M) (h : pstep M s = some (.inr (.inr o))) : Exec m lv s = some o :=
  Exec_of (n := 1) (by rw [prun, hM]; simp only [h])
/-- a method's call -/
noncomputable def Den (m : Nat) (as : List Value) (μ : PM) : Option PO := Exec m (lvl m as) (0, entryL (mxl m) as, [], μ)
theorem Exec_call1 {m lv c pc : Nat} {as ls st : List Value} {μ : PM} {M : MI} {s s' : PS} {o : PO} (hM : mtab m = some M) (h : pstep M s = some (.inr (.inl (c, as, pc, ls, st, μ)))) (hl : lvl c as < lv) (hd : Den c as μ = some o) (ha : aft M pc ls st o = some (.inl s')) : Exec m lv s = Exec m lv s' := by
  obtain ⟨k, hk⟩ := Exec_iff.mp hd
  refine Exec_ext fun o2 => ⟨?_, ?_⟩
  · rintro ⟨n, hn⟩
    cases n with
    | zero => simp [prun] at hn
    | succ n =>
      rw [prun, hM] at hn
      simp only [h, if_pos hl] at hn
      split at hn
      · cases hn
      · rename_i o1 ho
        cases prun_det ho hk
        rw [ha] at hn
        exact ⟨n, hn⟩
  · rintro ⟨n, hn⟩
    refine ⟨max n k + 1, ?_⟩
    rw [prun, hM]
    simp only [h, if_pos hl, prun_le hk (Nat.le_max_right n k), ha]
    exact prun_le hn (Nat.le_max_left n k)
theorem Exec_callT1 {m lv c pc : Nat} {as ls st : List Value} {μ : PM} {M : MI} {s : PS} {o o2 : PO} (hM : mtab m = some M) (h : pstep M s = some (.inr (.inl (c, as, pc, ls, st, μ)))) (hl : lvl c as < lv) (hd : Den c as μ = some o) (ha : aft M pc ls st o = some (.inr (.inr o2))) : Exec m lv s = some o2 := by
  obtain ⟨k, hk⟩ := Exec_iff.mp hd
  refine Exec_of (n := k + 1) ?_
  rw [prun, hM]
  simp only [h, if_pos hl, hk, ha]
theorem pblk_run {m lv : Nat} {M : MI} (hM : mtab m = some M) : ∀ (n : Nat) (s : PS) (r : Option SR), pblk M n s = r → ∃ s', Exec m lv s = Exec m lv s' ∧ pstep M s' = r := by
  intro n
  induction n with
  | zero => intro s r h; exact ⟨s, rfl, h⟩
  | succ n ih =>
    intro s r h
    rw [pblk] at h
    split at h
    · rename_i s1 h1
      obtain ⟨s', e, h'⟩ := ih _ _ h
      exact ⟨s', (Exec_step1 hM h1).trans e, h'⟩
    · exact ⟨s, rfl, h⟩
/-- straight on -/
theorem xN {m lv : Nat} {M : MI} (n : Nat) {s s' : PS} (hM : mtab m = some M) (h : pblk M n s = some (.inl s')) : Exec m lv s = Exec m lv s' := by
  obtain ⟨t, e, h'⟩ := pblk_run (lv := lv) hM _ _ _ h
  exact e.trans (Exec_step1 hM h')
/-- the end -/
theorem xD {m lv : Nat} {M : MI} (n : Nat) {s : PS} {o : PO} (hM : mtab m = some M) (h : pblk M n s = some (.inr (.inr o))) : Exec m lv s = some o := by
  obtain ⟨t, e, h'⟩ := pblk_run (lv := lv) hM _ _ _ h
  exact e.trans (Exec_done1 hM h')
/-- a branch -/
theorem xB {m lv : Nat} {M : MI} (n : Nat) {s a b : PS} {c : Prop} [Decidable c] (hM : mtab m = some M) (h : pblk M n s = if c then some (.inl a) else some (.inl b)) : Exec m lv s = if c then Exec m lv a else Exec m lv b := by
  obtain ⟨t, e, h'⟩ := pblk_run (lv := lv) hM _ _ _ h
  rw [e]
  by_cases hc : c
  · rw [if_pos hc] at h' ⊢; exact Exec_step1 hM h'
  · rw [if_neg hc] at h' ⊢; exact Exec_step1 hM h'
/-- a check that holds, straight on -/
theorem xC {m lv : Nat} {M : MI} (n : Nat) {s s' : PS} {r : Option SR} {c : Prop} [Decidable c] (hc : c) (hM : mtab m = some M) (h : pblk M n s = if c then some (.inl s') else r) : Exec m lv s = Exec m lv s' := by
  rw [if_pos hc] at h
  exact xN n hM h
theorem xCD {m lv : Nat} {M : MI} (n : Nat) {s : PS} {o : PO} {r : Option SR} {c : Prop} [Decidable c] (hc : c) (hM : mtab m = some M) (h : pblk M n s = if c then some (.inr (.inr o)) else r) : Exec m lv s = some o := by
  rw [if_pos hc] at h
  exact xD n hM h
/-- a call -/
theorem xI {m lv c pc : Nat} {as ls st : List Value} {μ : PM} {M : MI} (n : Nat) {s s' : PS} {o : PO} (hM : mtab m = some M) (h : pblk M n s = some (.inr (.inl (c, as, pc, ls, st, μ)))) (hl : lvl c as < lv) (hd : Den c as μ = some o) (ha : aft M pc ls st o = some (.inl s')) : Exec m lv s = Exec m lv s' := by
  obtain ⟨t, e, h'⟩ := pblk_run (lv := lv) hM _ _ _ h
  exact e.trans (Exec_call1 hM h' hl hd ha)
theorem xIC {m lv c pc : Nat} {as ls st : List Value} {μ : PM} {M : MI} (n : Nat) {s s' : PS} {o : PO} {r : Option SR} {q : Prop} [Decidable q] (hc : q) (hM : mtab m = some M) (h : pblk M n s = if q then some (.inr (.inl (c, as, pc, ls, st, μ))) else r) (hl : lvl c as < lv) (hd : Den c as μ = some o) (ha : aft M pc ls st o = some (.inl s')) : Exec m lv s = Exec m lv s' := by
  rw [if_pos hc] at h
  exact xI n hM h hl hd ha
/-- a call that throws on -/
theorem xT {m lv c pc : Nat} {as ls st : List Value} {μ : PM} {M : MI} (n : Nat) {s : PS} {o o2 : PO} (hM : mtab m = some M) (h : pblk M n s = some (.inr (.inl (c, as, pc, ls, st, μ)))) (hl : lvl c as < lv) (hd : Den c as μ = some o) (ha : aft M pc ls st o = some (.inr (.inr o2))) : Exec m lv s = some o2 := by
  obtain ⟨t, e, h'⟩ := pblk_run (lv := lv) hM _ _ _ h
  exact e.trans (Exec_callT1 hM h' hl hd ha)
theorem xTC {m lv c pc : Nat} {as ls st : List Value} {μ : PM} {M : MI} (n : Nat) {s : PS} {o o2 : PO} {r : Option SR} {q : Prop} [Decidable q] (hc : q) (hM : mtab m = some M) (h : pblk M n s = if q then some (.inr (.inl (c, as, pc, ls, st, μ))) else r) (hl : lvl c as < lv) (hd : Den c as μ = some o) (ha : aft M pc ls st o = some (.inr (.inr o2))) : Exec m lv s = some o2 := by
  rw [if_pos hc] at h
  exact xT n hM h hl hd ha
end EXEC
end
section
/-! WHAT A RUN NEVER CHANGES -/
section PURE
theorem lyTop_ok (k : Nat) : 25 ≤ (lyTop k).1 ∧ (lyTop k).1 ≠ 26 := by
  unfold lyTop
  cases Nat.beq k 390
  · cases Nat.beq k 400
    · cases Nat.beq k 402
      · cases Nat.beq k 401
        · cases Nat.blt k 410
          · cases Nat.blt k 415
            · cases Nat.blt k 420
              · cases Nat.blt k 430 <;> simp
              · simp
            · simp
          · simp
        · simp
      · simp
    · simp
  · simp
theorem cls_lt {k : Nat} (h : cls k < 25 ∨ cls k = 26) : k < 345 := by
  by_cases hk : k < 345
  · exact hk
  · exfalso
    have h1 : Nat.blt k 23 = false := by
      cases hb : Nat.blt k 23
      · rfl
      · have := Nat.blt_eq.mp hb; omega
    have h2 : Nat.blt k 345 = false := by
      cases hb : Nat.blt k 345
      · rfl
      · have := Nat.blt_eq.mp hb; omega
    have h3 : cls k = (lyTop k).1 := by unfold cls ly; rw [h1, h2]; rfl
    have h4 := lyTop_ok k
    omega
theorem stI_self (μ : PM) (k j : Nat) (v : Int32) : mI (stI μ k j v) k = upd (mI μ k) j v := by
  funext b
  simp only [mI, stI, upd]
  by_cases h : b = j
  · subst h; simp
  · have : Nat.beq b j = false := by
      cases hb : Nat.beq b j
      · rfl
      · exact absurd (Nat.eq_of_beq_eq_true hb) h
    simp [this, h]
theorem stI_ne (μ : PM) {k i : Nat} (j : Nat) (v : Int32) (h : i ≠ k) : mI (stI μ k j v) i = mI μ i := by
  funext b
  have : Nat.beq i k = false := by
    cases hb : Nat.beq i k
    · rfl
    · exact absurd (Nat.eq_of_beq_eq_true hb) h
  simp only [mI, stI, this, Bool.false_and, cond_false]
theorem stI_J (μ : PM) (k j : Nat) (v : Int32) : mJ (stI μ k j v) = mJ μ := rfl
theorem stJ_I (μ : PM) (k j : Nat) (v : Int64) : mI (stJ μ k j v) = mI μ := rfl
theorem stJ_self (μ : PM) (k j : Nat) (v : Int64) : mJ (stJ μ k j v) k = vp_updL (mJ μ k) j v := by
  funext b
  simp only [mJ, stJ, vp_updL]
  by_cases h : b = j
  · subst h; simp
  · have : Nat.beq b j = false := by
      cases hb : Nat.beq b j
      · rfl
      · exact absurd (Nat.eq_of_beq_eq_true hb) h
    simp [this, h]
theorem stJ_ne (μ : PM) {k i : Nat} (j : Nat) (v : Int64) (h : i ≠ k) : mJ (stJ μ k j v) i = mJ μ i := by
  funext b
  have : Nat.beq i k = false := by
    cases hb : Nat.beq i k
    · rfl
    · exact absurd (Nat.eq_of_beq_eq_true hb) h
  simp only [mJ, stJ, this, Bool.false_and, cond_false]
variable {pc pc' i l : Nat} {ls ls' st st' : List Value} {μ μ' : PM} {M : MI}
theorem nx_inv (h : nx pc ls st μ = some (.inl (pc', ls', st', μ'))) : pc = pc' ∧ ls = ls' ∧ st = st' ∧ μ = μ' := by
  simp only [nx, Option.some.injEq, Sum.inl.injEq, Prod.mk.injEq] at h
  exact h
theorem jp_inv {off : Int} (h : jp pc off ls st μ = some (.inl (pc', ls', st', μ'))) : (pc : Int) + off = (pc' : Int) ∧ ls = ls' ∧ st = st' ∧ μ = μ' := by
  unfold jp at h
  split at h
  · rename_i t ht
    obtain ⟨rfl, h2⟩ := nx_inv h
    exact ⟨ht, h2⟩
  · cases h
/-- the script stays, exceptions are only made -/
def Sc (μ μ' : PM) : Prop := μ'.2.2.1 = μ.2.2.1 ∧ mI μ' 390 = mI μ 390
theorem Sc.rf : Sc μ μ := ⟨rfl, rfl⟩
theorem Sc.tr {a b c : PM} (h : Sc a b) (h' : Sc b c) : Sc a c := ⟨h'.1.trans h.1, h'.2.trans h.2⟩
theorem ne390 {k c : Nat} (h : cls k = c) (hc : c ≠ 25) : (390 : Nat) ≠ k := by
  intro q
  subst q
  exact hc (h.symm.trans rfl)
def Kp (μ μ' : PM) : Prop := Sc μ μ' ∧ μ'.2.2.2 = μ.2.2.2
theorem nx_sc (h : nx pc ls st μ = some (.inl (pc', ls', st', μ'))) : Kp μ μ' := by
  obtain ⟨-, -, -, rfl⟩ := nx_inv h
  exact ⟨Sc.rf, rfl⟩
theorem jp_sc {off : Int} (h : jp pc off ls st μ = some (.inl (pc', ls', st', μ'))) : Kp μ μ' := by
  obtain ⟨-, -, -, rfl⟩ := jp_inv h
  exact ⟨Sc.rf, rfl⟩
theorem nxI_sc {k j c : Nat} {v : Int32} (hk : cls k = c) (hc : c ≠ 25) (h : nx pc ls st (stI μ k j v) = some (.inl (pc', ls', st', μ'))) : Kp μ μ' := by
  obtain ⟨-, -, -, rfl⟩ := nx_inv h
  exact ⟨⟨rfl, stI_ne μ j v (ne390 hk hc)⟩, rfl⟩
theorem nxJ_sc {k j : Nat} {v : Int64} (h : nx pc ls st (stJ μ k j v) = some (.inl (pc', ls', st', μ'))) : Kp μ μ' := by
  obtain ⟨-, -, -, rfl⟩ := nx_inv h
  exact ⟨⟨rfl, rfl⟩, rfl⟩
theorem st1_sc {v : Value} (h : st1 pc l i v ls st μ = some (.inl (pc', ls', st', μ'))) : Kp μ μ' := by
  unfold st1 at h
  cases hq : Nat.blt i ls.length && okS ls i <;> rw [hq] at h
  · cases h
  · exact nx_sc h
theorem st2_sc {v : Value} (h : st2 pc l i v ls st μ = some (.inl (pc', ls', st', μ'))) : Kp μ μ' := by
  unfold st2 at h
  cases hq : Nat.blt (i + 1) ls.length && okS ls i <;> rw [hq] at h
  · cases h
  · exact nx_sc h
theorem okA_c {k : Nat} (h : okA μ k = true) : cls k = 20 ∨ (cls k = 31 ∧ k < 430 + μ.2.2.2) := by
  unfold okA at h
  rw [Bool.or_eq_true] at h
  rcases h with h | h
  · exact Or.inl (Nat.eq_of_beq_eq_true h)
  · rw [Bool.and_eq_true] at h
    exact Or.inr ⟨Nat.eq_of_beq_eq_true h.1, Nat.blt_eq.mp h.2⟩
theorem okA_20 {k : Nat} (h : cls k = 20) : okA μ k = true := by unfold okA; rw [h]; rfl
theorem okA_31 {k : Nat} (h : cls k = 31) (h2 : k < 430 + μ.2.2.2) : okA μ k = true := by unfold okA; rw [h, Nat.blt_eq.mpr h2]; rfl
theorem okA_sc {k j : Nat} {v : Int32} (hk : okA μ k = true) (h : nx pc ls st (stI μ k j v) = some (.inl (pc', ls', st', μ'))) : Kp μ μ' := by
  rcases okA_c hk with h2 | h2
  · exact nxI_sc h2 (by decide) h
  · exact nxI_sc h2.1 (by decide) h
theorem newM_sc : Sc μ (newM μ) := ⟨rfl, by
  funext b
  have e1 : Nat.beq 390 (430 + μ.2.2.2) = false := by
    cases hb : Nat.beq 390 (430 + μ.2.2.2)
    · rfl
    · have := Nat.eq_of_beq_eq_true hb; omega
  simp only [mI, newM, e1, cond_false]⟩
theorem nwA_inv (h : nwA pc ls st μ = some (.inl (pc', ls', st', μ'))) : ∃ r, st = .int (Int32.ofNat (dl μ.2.2.2)) :: r ∧ pc' = pc + 2 ∧ ls' = ls ∧ st' = .ref (430 + μ.2.2.2) :: r ∧ μ' = newM μ := by
  unfold nwA at h
  split at h
  · split at h
    · rename_i hn
      obtain ⟨rfl, rfl, rfl, rfl⟩ := nx_inv h
      exact ⟨_, by rw [hn], rfl, rfl, rfl, rfl⟩
    · cases h
  · cases h
theorem nwA_no {x : PCl ⊕ PO} (h : nwA pc ls st μ = some (.inr x)) : False := by
  unfold nwA at h
  split at h
  · split at h
    · unfold nx at h; cases h
    · cases h
  · cases h
theorem asI_sc (h : asI pc ls st μ = some (.inl (pc', ls', st', μ'))) : Kp μ μ' := by
  unfold asI at h
  split at h
  · split at h
    · rename_i hc
      exact okA_sc hc.1 h
    · cases h
  · cases h
theorem asJ_sc (h : asJ pc ls st μ = some (.inl (pc', ls', st', μ'))) : Kp μ μ' := by
  unfold asJ at h
  split at h
  · split at h
    · exact nxJ_sc h
    · cases h
  · cases h
theorem ptf_sc {pl : Nat → Ent} {ix : Nat} (h : ptf pl pc ix ls st μ = some (.inl (pc', ls', st', μ'))) : Kp μ μ' := by
  unfold ptf at h
  split at h
  · split at h
    · rename_i ci j z he
      cases hq : Nat.blt ci 9 <;> rw [hq] at h
      · cases h
      · simp only [cond_true] at h
        have hq := Nat.blt_eq.mp hq
        split at h
        · rename_i hc
          exact nxI_sc hc (by omega) h
        · cases h
    · rename_i ci j z he
      cases hq : Nat.blt ci 9 <;> rw [hq] at h
      · cases h
      · simp only [cond_true] at h
        have hq := Nat.blt_eq.mp hq
        split at h
        · rename_i hc
          exact nxI_sc hc.1 (by omega) h
        · cases h
    · cases h
  · split at h
    · split at h
      · exact nxJ_sc h
      · cases h
    · cases h
  · cases h
theorem jdk_sc {id : Nat} (h : jdk id pc ls st μ = some (.inl (pc', ls', st', μ'))) : Kp μ μ' := by
  unfold jdk at h
  cases hq : Nat.ble (catS st) 8 <;> rw [hq] at h
  · cases h
  · simp only [cond_true] at h
    unfold jdk0 at h
    split at h
    · split at h
      · exact nx_sc h
      · cases h
    · split at h
      · exact nx_sc h
      · cases h
    · split at h
      · exact nx_sc h
      · cases h
    · split at h
      · rename_i n j b i a r
        split at h
        · rename_i hc
          have h9 : nx (pc + 3) ls r (cpI μ a 0 b 0 n.toNatClampNeg) = some (.inl (pc', ls', st', μ')) := h
          obtain ⟨-, -, -, rfl⟩ := nx_inv h9
          refine ⟨⟨rfl, ?_⟩, rfl⟩
          funext q
          have e1 : Nat.beq 390 b = false := by
            cases hb : Nat.beq 390 b
            · rfl
            · exact absurd (Nat.eq_of_beq_eq_true hb) (ne390 hc.2.1 (by decide))
          simp only [mI, cpI, e1, Bool.false_and, cond_false]
        · cases h
      · cases h
    · split at h
      · split at h
        · exact nx_sc h
        · cases h
      · cases h
    · split at h
      · split at h
        · exact nx_sc h
        · cases h
      · cases h
    · split at h
      · split at h
        · exact nx_sc h
        · cases h
      · cases h
    · split at h
      · split at h
        · exact nx_sc h
        · cases h
      · cases h
    · cases h
theorem ivV_sc {pl : Nat → Ent} {ix : Nat} (h : ivV pl pc ix ls st μ = some (.inl (pc', ls', st', μ'))) : Kp μ μ' := by
  unfold ivV at h
  split at h
  · split at h
    · rename_i n na ci _ _ k _
      cases hq : Nat.ble (catS (st.drop na)) 8 <;> rw [hq] at h
      · cases h
      · simp only [cond_true] at h
        split at h <;> cases h
    · cases h
  · rename_i id _ _ _
    cases hq : Nat.ble 5 id <;> rw [hq] at h
    · cases h
    · exact jdk_sc h
  · cases h
theorem ivS_sc {pl : Nat → Ent} {ix : Nat} (h : ivS pl pc ix ls st μ = some (.inl (pc', ls', st', μ'))) : Kp μ μ' := by
  unfold ivS at h
  split at h
  · rename_i n na _ _
    cases hq : Nat.ble na st.length && Nat.ble (catS (st.drop na)) 8 <;> rw [hq] at h <;> cases h
  · rename_i n na _ _
    cases hq : Nat.ble na st.length && Nat.ble (catS (st.drop na)) 8 <;> rw [hq] at h <;> cases h
  · rename_i id _ _ _
    cases hq : Nat.blt id 5 <;> rw [hq] at h
    · cases h
    · exact jdk_sc h
  · cases h
theorem thr_sc {cs : Chunks} {pl : Nat → Ent} {ix : Nat} (h : thr cs pl pc ix st μ = some (.inl (pc', ls', st', μ'))) : False := by
  unfold thr at h
  repeat' (split at h)
  all_goals (first | cases h | (cases hq : st.isEmpty <;> rw [hq] at h <;> cases h))
theorem pex_sc {ins : Instr} (hn : ins ≠ .newarray .int) (h : pex M ins l pc ls st μ = some (.inl (pc', ls', st', μ'))) : Kp μ μ' := by
  unfold pex at h
  split at h
  all_goals first
    | cases h; done
    | exact nx_sc h
    | exact jp_sc h
    | exact asI_sc h
    | exact asJ_sc h
    | exact ptf_sc h
    | exact ivV_sc h
    | exact ivS_sc h
    | exact (thr_sc h).elim
    | exact absurd rfl hn
    | (simp only [alA, ldA, art, arl, stoA, bD, ldD, drt, stoD, dp, dp2, gtf, gst, un32, b32, alI, b32n, ifa, if1, if2, ifn, incI, ldI, irt, stoI, un64, b64, alJ, ldcI, ldc2, ldJ, lsw, b64n, jrt, stoJ, pp, vrt, tsw, dn, Bool.cond_eq_ite] at h
       repeat' (split at h)
       all_goals first
         | cases h; done
         | exact nx_sc h
         | exact jp_sc h
         | exact st1_sc h
         | exact st2_sc h)
    | (split at h <;> first
         | cases h; done
         | exact nx_sc h)
theorem pstep_sc {s s' : PS} (h : pstep M s = some (.inl s')) : Sc s.2.2.2 s'.2.2.2 ∧ s.2.2.2.2.2.2 ≤ s'.2.2.2.2.2.2 := by
  obtain ⟨pc, ls, st, μ⟩ := s
  obtain ⟨pc', ls', st', μ'⟩ := s'
  unfold pstep at h
  simp only at h
  split at h
  · cases h
  · rename_i i l _
    by_cases hn : i = .newarray .int
    · subst hn
      obtain ⟨r, -, -, -, -, rfl⟩ := nwA_inv (show nwA pc ls st μ = some (.inl (pc', ls', st', μ')) from h)
      exact ⟨newM_sc, Nat.le_succ _⟩
    · obtain ⟨h1, h2⟩ := pex_sc hn h
      exact ⟨h1, Nat.le_of_eq h2.symm⟩
theorem nx_no {x : PCl ⊕ PO} (h : nx pc ls st μ = some (.inr x)) : False := by unfold nx at h; cases h
theorem jp_no {off : Int} {x : PCl ⊕ PO} (h : jp pc off ls st μ = some (.inr x)) : False := by
  unfold jp at h
  split at h
  · exact nx_no h
  · cases h
theorem st1_no {v : Value} {x : PCl ⊕ PO} (h : st1 pc l i v ls st μ = some (.inr x)) : False := by
  unfold st1 at h
  cases hq : Nat.blt i ls.length && okS ls i <;> rw [hq] at h
  · cases h
  · exact nx_no h
theorem st2_no {v : Value} {x : PCl ⊕ PO} (h : st2 pc l i v ls st μ = some (.inr x)) : False := by
  unfold st2 at h
  cases hq : Nat.blt (i + 1) ls.length && okS ls i <;> rw [hq] at h
  · cases h
  · exact nx_no h
theorem jdk_no {id : Nat} {x : PCl ⊕ PO} (h : jdk id pc ls st μ = some (.inr x)) : False := by
  unfold jdk at h
  cases hq : Nat.ble (catS st) 8 <;> rw [hq] at h
  · cases h
  · simp only [cond_true] at h
    unfold jdk0 at h
    repeat' (split at h)
    all_goals first
      | cases h; done
      | exact nx_no h
/-- which instructions call, return, throw -/
theorem pex_inr {ins : Instr} {x : PCl ⊕ PO} (h : pex M ins l pc ls st μ = some (.inr x)) : (∃ ix, ins = .invokevirtual ix ∧ ivV M.2.1 pc ix ls st μ = some (.inr x)) ∨ (∃ ix, ins = .invokestatic ix ∧ ivS M.2.1 pc ix ls st μ = some (.inr x)) ∨ (∃ ix, ins = .new ix ∧ thr M.1 M.2.1 pc ix st μ = some (.inr x)) ∨
    (ins = .areturn ∧ art M.2.2.1 st μ = some (.inr x)) ∨ (ins = .dreturn ∧ drt M.2.2.1 st μ = some (.inr x)) ∨ (ins = .ireturn ∧ irt M.2.2.1 st μ = some (.inr x)) ∨ (ins = .lreturn ∧ jrt M.2.2.1 st μ = some (.inr x)) ∨ (ins = .return_ ∧ vrt M.2.2.1 st μ = some (.inr x)) := by
  unfold pex at h
  split at h
  all_goals first
    | exact Or.inl ⟨_, rfl, h⟩
    | exact Or.inr (Or.inl ⟨_, rfl, h⟩)
    | exact Or.inr (Or.inr (Or.inl ⟨_, rfl, h⟩))
    | exact Or.inr (Or.inr (Or.inr (Or.inl ⟨rfl, h⟩)))
    | exact Or.inr (Or.inr (Or.inr (Or.inr (Or.inl ⟨rfl, h⟩))))
    | exact Or.inr (Or.inr (Or.inr (Or.inr (Or.inr (Or.inl ⟨rfl, h⟩)))))
    | exact Or.inr (Or.inr (Or.inr (Or.inr (Or.inr (Or.inr (Or.inl ⟨rfl, h⟩))))))
    | exact Or.inr (Or.inr (Or.inr (Or.inr (Or.inr (Or.inr (Or.inr ⟨rfl, h⟩))))))
    | cases h; done
    | exact (nx_no h).elim
    | exact (jp_no h).elim
    | exact (nwA_no h).elim
    | (simp only [alA, ldA, arl, stoA, bD, ldD, stoD, dp, dp2, gtf, gst, un32, b32, alI, b32n, ifa, if1, if2, ifn, incI, ldI, stoI, un64, b64, alJ, ldcI, ldc2, ldJ, lsw, b64n, stoJ, pp, tsw, asI, asJ, ptf, Bool.cond_eq_ite] at h
       repeat' (split at h)
       all_goals first
         | cases h; done
         | exact (nx_no h).elim
         | exact (jp_no h).elim
         | exact (st1_no h).elim
         | exact (st2_no h).elim)
    | (split at h <;> first
         | cases h; done
         | exact (nx_no h).elim)
end PURE
end
section
/-! EQUATIONS OVER Exec: the combinators, and the rows that lay them -/
section DK
variable {m lv : Nat} {M : MI} {s s' a b : PS} {x y : Option PO}
def chk (c : Prop) [Decidable c] (x : Option PO) : Option PO := if c then x else none
def exM (μ : PM) : PM := (μ.1, μ.2.1, μ.2.2.1, μ.2.2.2 + 1000000)
/-- a memory by name -/
def lt (μ : PM) (f : PM → Option PO) : Option PO := f μ
def bI (d : Option PO) (f : Int32 → PM → Option PO) : Option PO := match d with
  | some (.inl (some (.int v)), μ) => f v μ
  | some (.inr k, μ) => some (.inr k, μ)
  | _ => none
def bJ (d : Option PO) (f : Int64 → PM → Option PO) : Option PO := match d with
  | some (.inl (some (.long v)), μ) => f v μ
  | some (.inr k, μ) => some (.inr k, μ)
  | _ => none
def bDb (d : Option PO) (f : UInt64 → PM → Option PO) : Option PO := match d with
  | some (.inl (some (.double v)), μ) => f v μ
  | some (.inr k, μ) => some (.inr k, μ)
  | _ => none
def bV (d : Option PO) (f : PM → Option PO) : Option PO := match d with
  | some (.inl none, μ) => f μ
  | some (.inr k, μ) => some (.inr k, μ)
  | _ => none
def bR (d : Option PO) (f : Nat → PM → Option PO) (g : PM → Option PO) : Option PO := match d with
  | some (.inl (some (.ref k)), μ) => f k μ
  | some (.inl (some .null), μ) => g μ
  | some (.inr k, μ) => some (.inr k, μ)
  | _ => none
def bH (d : Option PO) (f : Int32 → PM → Option PO) (g : Nat → PM → Option PO) : Option PO := match d with
  | some (.inl (some (.int v)), μ) => f v μ
  | some (.inr k, μ) => g k μ
  | _ => none
theorem Exec_no (h : ∀ n o, prun n m lv s ≠ some o) : Exec m lv s = none := by
  cases he : Exec m lv s with
  | none => rfl
  | some o => obtain ⟨n, hn⟩ := Exec_iff.mp he; exact absurd hn (h n o)
theorem Exec_stuck (hM : mtab m = some M) (h : pstep M s = none) : Exec m lv s = none := Exec_no fun n o hn => by
  cases n with
  | zero => cases hn
  | succ n => rw [prun, hM] at hn; simp only [h] at hn; cases hn
theorem stuck_run (n : Nat) (hM : mtab m = some M) (h : pblk M n s = none) : Exec m lv s = none := by
  obtain ⟨t, e, h'⟩ := pblk_run (lv := lv) hM _ _ _ h
  exact e.trans (Exec_stuck hM h')
noncomputable def aftE (m lv : Nat) (M : MI) (pc : Nat) (ls st : List Value) (o : PO) : Option PO := match aft M pc ls st o with
  | some (.inl s') => Exec m lv s'
  | some (.inr (.inr o2)) => some o2
  | _ => none
theorem Exec_callG {c pc : Nat} {as ls st : List Value} {μ : PM} (hM : mtab m = some M) (h : pstep M s = some (.inr (.inl (c, as, pc, ls, st, μ)))) (hl : lvl c as < lv) :
    Exec m lv s = match Den c as μ with
      | none => none
      | some o => aftE m lv M pc ls st o := by
  cases hd : Den c as μ with
  | none =>
    refine Exec_no fun n o hn => ?_
    cases n with
    | zero => cases hn
    | succ n =>
      rw [prun, hM] at hn
      simp only [h, if_pos hl] at hn
      split at hn
      · cases hn
      · rename_i o1 ho
        have := Exec_of ho
        unfold Den at hd
        rw [hd] at this
        cases this
  | some o =>
    show _ = aftE m lv M pc ls st o
    unfold aftE
    cases ha : aft M pc ls st o with
    | some r =>
      match r, ha with
      | .inl s', ha => exact Exec_call1 hM h hl hd ha
      | .inr (.inr o2), ha => exact Exec_callT1 hM h hl hd ha
      | .inr (.inl z), ha =>
        refine Exec_no fun n o2 hn => ?_
        cases n with
        | zero => cases hn
        | succ n =>
          rw [prun, hM] at hn
          simp only [h, if_pos hl] at hn
          split at hn
          · cases hn
          · rename_i o1 ho
            obtain ⟨k, hk⟩ := Exec_iff.mp hd
            cases prun_det ho hk
            rw [ha] at hn
            cases hn
    | none =>
      refine Exec_no fun n o2 hn => ?_
      cases n with
      | zero => cases hn
      | succ n =>
        rw [prun, hM] at hn
        simp only [h, if_pos hl] at hn
        split at hn
        · cases hn
        · rename_i o1 ho
          obtain ⟨k, hk⟩ := Exec_iff.mp hd
          cases prun_det ho hk
          rw [ha] at hn
          cases hn
/-- what a method's type says of its answer -/
def shp (r : Nat) (v : Option Value) : Prop := match r with
  | 0 => v = none
  | 1 => ∃ q, v = some (.int q)
  | 2 => ∃ q, v = some (.int q)
  | 3 => ∃ q, v = some (.long q)
  | 4 => ∃ q, v = some (.double q)
  | 5 => v = some .null ∨ ∃ q, v = some (.ref q)
  | _ => False
theorem irt_shp {rt : Nat} {st : List Value} {μ μ' : PM} {v : Option Value} (h : irt rt st μ = some (.inr (.inr (.inl v, μ')))) : shp rt v := by
  unfold irt at h
  split at h
  · split at h
    · cases h; exact ⟨_, rfl⟩
    · split at h
      · cases h; exact ⟨_, rfl⟩
      · cases h
    · cases h
  · cases h
theorem jrt_shp {rt : Nat} {st : List Value} {μ μ' : PM} {v : Option Value} (h : jrt rt st μ = some (.inr (.inr (.inl v, μ')))) : shp rt v := by
  unfold jrt at h
  split at h
  · cases h; exact ⟨_, rfl⟩
  · cases h
theorem drt_shp {rt : Nat} {st : List Value} {μ μ' : PM} {v : Option Value} (h : drt rt st μ = some (.inr (.inr (.inl v, μ')))) : shp rt v := by
  unfold drt at h
  split at h
  · cases h; exact ⟨_, rfl⟩
  · cases h
theorem art_shp {rt : Nat} {st : List Value} {μ μ' : PM} {v : Option Value} (h : art rt st μ = some (.inr (.inr (.inl v, μ')))) : shp rt v := by
  unfold art at h
  split at h
  · cases h; exact Or.inr ⟨_, rfl⟩
  · cases h; exact Or.inl rfl
  · cases h
theorem vrt_shp {rt : Nat} {st : List Value} {μ μ' : PM} {v : Option Value} (h : vrt rt st μ = some (.inr (.inr (.inl v, μ')))) : shp rt v := by
  unfold vrt at h
  split at h
  · cases h; rfl
  · cases h
theorem ivV_ret {pl : Nat → Ent} {pc ix : Nat} {ls st : List Value} {μ : PM} {o : PO} (h : ivV pl pc ix ls st μ = some (.inr (.inr o))) : False := by
  unfold ivV at h
  split at h
  · split at h
    · rename_i n na ci _ _ k _
      cases hq : Nat.ble (catS (st.drop na)) 8 <;> rw [hq] at h
      · cases h
      · simp only [cond_true] at h
        split at h <;> cases h
    · cases h
  · rename_i id _ _ _
    cases hq : Nat.ble 5 id <;> rw [hq] at h
    · cases h
    · exact jdk_no h
  · cases h
theorem ivS_ret {pl : Nat → Ent} {pc ix : Nat} {ls st : List Value} {μ : PM} {o : PO} (h : ivS pl pc ix ls st μ = some (.inr (.inr o))) : False := by
  unfold ivS at h
  split at h
  · rename_i n na _ _
    cases hq : Nat.ble na st.length && Nat.ble (catS (st.drop na)) 8 <;> rw [hq] at h <;> cases h
  · rename_i n na _ _
    cases hq : Nat.ble na st.length && Nat.ble (catS (st.drop na)) 8 <;> rw [hq] at h <;> cases h
  · rename_i id _ _ _
    cases hq : Nat.blt id 5 <;> rw [hq] at h
    · cases h
    · exact jdk_no h
  · cases h
theorem thr_ret {cs : Chunks} {pl : Nat → Ent} {pc ix : Nat} {st : List Value} {μ μ' : PM} {v : Option Value} (h : thr cs pl pc ix st μ = some (.inr (.inr (.inl v, μ')))) : False := by
  unfold thr at h
  repeat' (split at h)
  all_goals (first | cases h | (cases hq : st.isEmpty <;> rw [hq] at h <;> cases h))
theorem pstep_shp {v : Option Value} {μ' : PM} (h : pstep M s = some (.inr (.inr (.inl v, μ')))) : shp M.2.2.1 v := by
  obtain ⟨pc, ls, st, μ⟩ := s
  unfold pstep at h
  simp only at h
  split at h
  · cases h
  · rcases pex_inr h with ⟨ix, -, h⟩ | ⟨ix, -, h⟩ | ⟨ix, -, h⟩ | ⟨-, h⟩ | ⟨-, h⟩ | ⟨-, h⟩ | ⟨-, h⟩ | ⟨-, h⟩
    · exact (ivV_ret h).elim
    · exact (ivS_ret h).elim
    · exact (thr_ret h).elim
    · exact art_shp h
    · exact drt_shp h
    · exact irt_shp h
    · exact jrt_shp h
    · exact vrt_shp h
theorem nx_inl {pc : Nat} {ls st : List Value} {μ : PM} : nx pc ls st μ = some (.inl (pc, ls, st, μ)) := rfl
theorem aft_inr {pc : Nat} {ls st : List Value} {o o2 : PO} (h : aft M pc ls st o = some (.inr (.inr o2))) : ∃ k, o2.1 = .inr k := by
  unfold aft at h
  split at h
  · cases h
  · cases h
  · split at h
    · cases h; exact ⟨_, rfl⟩
    · split at h
      · exact (st1_no h).elim
      · exact (st1_no h).elim
      · cases h
theorem prun_shp : ∀ (n m lv : Nat) (s : PS) (v : Option Value) (μ : PM) (M : MI), mtab m = some M → prun n m lv s = some (.inl v, μ) → shp M.2.2.1 v := by
  intro n
  induction n with
  | zero => intro m lv s v μ M _ h; cases h
  | succ n ih =>
    intro m lv s v μ M hM h
    rw [prun, hM] at h
    simp only at h
    split at h
    · cases h
    · exact ih _ _ _ _ _ _ hM h
    · rename_i o he
      cases h
      exact pstep_shp he
    · split at h
      · split at h
        · cases h
        · rename_i o ho
          split at h
          · exact ih _ _ _ _ _ _ hM h
          · rename_i o2 ha
            cases h
            obtain ⟨k, hk⟩ := aft_inr ha
            cases hk
          · cases h
      · cases h
def rtN (d : Nat) : Nat := match mtab d with
  | some M => M.2.2.1
  | none => 9
theorem Den_shp {d : Nat} {as : List Value} {μ μ' : PM} {v : Option Value} (h : Den d as μ = some (.inl v, μ')) : shp (rtN d) v := by
  obtain ⟨n, hn⟩ := Exec_iff.mp h
  cases hM : mtab d with
  | none =>
    cases n with
    | zero => cases hn
    | succ n => rw [prun, hM] at hn; cases hn
  | some M =>
    have := prun_shp n d _ _ v μ' M hM hn
    unfold rtN
    rw [hM]
    exact this
theorem t_N (n : Nat) (hM : mtab m = some M) (h : pblk M n s = some (.inl s')) (k : Exec m lv s' = x) : Exec m lv s = x := (xN n hM h).trans k
theorem t_D {o : PO} (n : Nat) (hM : mtab m = some M) (h : pblk M n s = some (.inr (.inr o))) : Exec m lv s = some o := xD n hM h
theorem t_B {c : Prop} [Decidable c] (n : Nat) (hM : mtab m = some M) (h : pblk M n s = if c then some (.inl a) else some (.inl b)) (k1 : c → Exec m lv a = x) (k2 : ¬ c → Exec m lv b = y) : Exec m lv s = if c then x else y := by
  rw [xB n hM h]
  by_cases hc : c
  · rw [if_pos hc, if_pos hc]; exact k1 hc
  · rw [if_neg hc, if_neg hc]; exact k2 hc
theorem t_BA {q c : Prop} [Decidable q] [Decidable c] (n : Nat) (hM : mtab m = some M) (h : pblk M n s = if q then (if c then some (.inl a) else some (.inl b)) else none) (hq : q) (k1 : c → Exec m lv a = x) (k2 : ¬ c → Exec m lv b = y) : Exec m lv s = if c then x else y := by
  rw [if_pos hq] at h
  exact t_B n hM h k1 k2
theorem t_chk {c : Prop} [Decidable c] {r : Option SR} (n : Nat) (hM : mtab m = some M) (h : pblk M n s = if c then r else none) (k : c → Exec m lv s = x) : Exec m lv s = chk c x := by
  unfold chk
  by_cases hc : c
  · rw [if_pos hc]; exact k hc
  · rw [if_neg hc] at h ⊢
    exact stuck_run n hM h
theorem t_chkO {c d : Prop} [Decidable c] [Decidable d] {r : Option SR} (n : Nat) (hM : mtab m = some M) (h : pblk M n s = if d then r else none) (f : d → c) (k : c → Exec m lv s = x) : Exec m lv s = chk c x := by
  unfold chk
  by_cases hc : c
  · rw [if_pos hc]; exact k hc
  · rw [if_neg hc]
    rw [if_neg (fun hd => hc (f hd))] at h
    exact stuck_run n hM h
theorem t_KT {c : Prop} [Decidable c] (n : Nat) (hM : mtab m = some M) (hc : c) (h : pblk M n s = if c then some (.inl s') else none) (k : Exec m lv s' = x) : Exec m lv s = x := by
  rw [if_pos hc] at h
  exact t_N n hM h k
theorem t_KD {c : Prop} [Decidable c] {o : PO} (n : Nat) (hM : mtab m = some M) (h : pblk M n s = if c then some (.inr (.inr o)) else none) : Exec m lv s = chk c (some o) := by
  unfold chk
  by_cases hc : c
  · rw [if_pos hc] at h ⊢; exact xD n hM h
  · rw [if_neg hc] at h ⊢; exact stuck_run n hM h
theorem alI_20 {pc k : Nat} {i : Int32} {ls r : List Value} {μ : PM} (hk : cls k = 20) : alI pc ls (.int i :: .ref k :: r) μ = if inb i (len k) = true then some (.inl (pc + 1, ls, .int (mI μ k i.toNatClampNeg) :: r, μ)) else none := by
  simp only [alI, okA_20 hk, hk, true_and, nx]
  split
  · rfl
  · simp
theorem alI_g {pc k : Nat} {i : Int32} {ls r : List Value} {μ : PM} (hk : okA μ k = true) : alI pc ls (.int i :: .ref k :: r) μ = if inb i (len k) = true then some (.inl (pc + 1, ls, .int (mI μ k i.toNatClampNeg) :: r, μ)) else none := by
  rcases okA_c hk with h | h
  · exact alI_20 h
  · simp [alI, hk, h.1, nx]
theorem asI_g {pc k : Nat} {i v : Int32} {ls r : List Value} {μ : PM} (hk : okA μ k = true) : asI pc ls (.int v :: .int i :: .ref k :: r) μ = if inb i (len k) = true then some (.inl (pc + 1, ls, r, stI μ k i.toNatClampNeg v)) else none := by
  simp [asI, hk, nx]
theorem alI_25 {pc k : Nat} {i : Int32} {ls r : List Value} {μ : PM} (hk : cls k = 25) : alI pc ls (.int i :: .ref k :: r) μ = if inb i μ.2.2.1 = true then some (.inl (pc + 1, ls, .int (mI μ k i.toNatClampNeg) :: r, μ)) else none := by
  simp [alI, okA, hk, nx]
theorem alI_27 {pc k : Nat} {i : Int32} {ls r : List Value} {μ : PM} (hk : cls k = 27) : alI pc ls (.int i :: .ref k :: r) μ = if inb i (len k) = true then some (.inl (pc + 1, ls, .int (cst k i.toNatClampNeg) :: r, μ)) else none := by
  simp [alI, okA, hk, nx]
theorem alJ_21 {pc k : Nat} {i : Int32} {ls r : List Value} {μ : PM} (hk : cls k = 21) : alJ pc ls (.int i :: .ref k :: r) μ = if inb i (len k) = true then some (.inl (pc + 1, ls, .long (mJ μ k i.toNatClampNeg) :: r, μ)) else none := by
  simp [alJ, hk, nx]
theorem alA_r {pc k : Nat} {i : Int32} {ls r : List Value} {μ : PM} (hk : isRA (cls k) = true) : alA pc ls (.int i :: .ref k :: r) μ = if inb i (len k) = true then some (.inl (pc + 1, ls, elr k i.toNatClampNeg :: r, μ)) else none := by
  simp [alA, hk, nx]
theorem asI_20 {pc k : Nat} {i v : Int32} {ls r : List Value} {μ : PM} (hk : cls k = 20) : asI pc ls (.int v :: .int i :: .ref k :: r) μ = if inb i (len k) = true then some (.inl (pc + 1, ls, r, stI μ k i.toNatClampNeg v)) else none := by
  simp [asI, okA_20 hk, nx]
theorem asJ_21 {pc k : Nat} {i : Int32} {v : Int64} {ls r : List Value} {μ : PM} (hk : cls k = 21) : asJ pc ls (.long v :: .int i :: .ref k :: r) μ = if inb i (len k) = true then some (.inl (pc + 1, ls, r, stJ μ k i.toNatClampNeg v)) else none := by
  simp [asJ, hk, nx]
theorem t_chkF {c : Prop} [Decidable c] (n : Nat) (hM : mtab m = some M) (h : pblk M n s = if c then some (.inl s') else none) (k : c → Exec m lv s' = x) : Exec m lv s = chk c x := by
  unfold chk
  by_cases hc : c
  · rw [if_pos hc] at h ⊢; exact t_N n hM h (k hc)
  · rw [if_neg hc] at h ⊢; exact stuck_run n hM h
variable {pc k q C : Nat} {i v : Int32} {w : Int64} {ls r st as : List Value} {μ : PM}
theorem t_ALI (n : Nat) (hM : mtab m = some M) (h : pblk M n s = alI pc ls (.int i :: .ref k :: r) μ) (hk : cls k = 20) (hl : len k = q) (kk : inb i q = true → Exec m lv (pc + 1, ls, .int (mI μ k i.toNatClampNeg) :: r, μ) = x) : Exec m lv s = chk (inb i q = true) x := by
  subst hl; exact t_chkF n hM (h.trans (alI_20 hk)) kk
theorem t_ALIT (n : Nat) (hM : mtab m = some M) (h : pblk M n s = alI pc ls (.int i :: .ref k :: r) μ) (hk : cls k = 20) (hl : len k = q) (hi : inb i q = true) (kk : Exec m lv (pc + 1, ls, .int (mI μ k i.toNatClampNeg) :: r, μ) = x) : Exec m lv s = x := by
  subst hl; exact t_N n hM ((h.trans (alI_20 hk)).trans (if_pos hi)) kk
theorem t_ALS (n : Nat) (hM : mtab m = some M) (h : pblk M n s = alI pc ls (.int i :: .ref k :: r) μ) (hk : cls k = 25) (hl : μ.2.2.1 = q) (kk : inb i q = true → Exec m lv (pc + 1, ls, .int (mI μ k i.toNatClampNeg) :: r, μ) = x) : Exec m lv s = chk (inb i q = true) x := by
  subst hl; exact t_chkF n hM (h.trans (alI_25 hk)) kk
theorem t_ALST (n : Nat) (hM : mtab m = some M) (h : pblk M n s = alI pc ls (.int i :: .ref k :: r) μ) (hk : cls k = 25) (hl : μ.2.2.1 = q) (hi : inb i q = true) (kk : Exec m lv (pc + 1, ls, .int (mI μ k i.toNatClampNeg) :: r, μ) = x) : Exec m lv s = x := by
  subst hl; exact t_N n hM ((h.trans (alI_25 hk)).trans (if_pos hi)) kk
theorem t_ALC (n : Nat) (hM : mtab m = some M) (h : pblk M n s = alI pc ls (.int i :: .ref k :: r) μ) (hk : cls k = 27) (hl : len k = q) (kk : inb i q = true → Exec m lv (pc + 1, ls, .int (cst k i.toNatClampNeg) :: r, μ) = x) : Exec m lv s = chk (inb i q = true) x := by
  subst hl; exact t_chkF n hM (h.trans (alI_27 hk)) kk
theorem t_ALJ (n : Nat) (hM : mtab m = some M) (h : pblk M n s = alJ pc ls (.int i :: .ref k :: r) μ) (hk : cls k = 21) (hl : len k = q) (kk : inb i q = true → Exec m lv (pc + 1, ls, .long (mJ μ k i.toNatClampNeg) :: r, μ) = x) : Exec m lv s = chk (inb i q = true) x := by
  subst hl; exact t_chkF n hM (h.trans (alJ_21 hk)) kk
theorem t_ALJT (n : Nat) (hM : mtab m = some M) (h : pblk M n s = alJ pc ls (.int i :: .ref k :: r) μ) (hk : cls k = 21) (hl : len k = q) (hi : inb i q = true) (kk : Exec m lv (pc + 1, ls, .long (mJ μ k i.toNatClampNeg) :: r, μ) = x) : Exec m lv s = x := by
  subst hl; exact t_N n hM ((h.trans (alJ_21 hk)).trans (if_pos hi)) kk
theorem t_ALA (n : Nat) (hM : mtab m = some M) (h : pblk M n s = alA pc ls (.int i :: .ref k :: r) μ) (hk : cls k = C) (hl : len k = q) (hC : isRA C = true) (kk : inb i q = true → Exec m lv (pc + 1, ls, .ref (eN k i.toNatClampNeg) :: r, μ) = x) : Exec m lv s = chk (inb i q = true) x := by
  subst hl; subst hk; exact t_chkF n hM (h.trans (alA_r hC)) kk
theorem t_ALAT (n : Nat) (hM : mtab m = some M) (h : pblk M n s = alA pc ls (.int i :: .ref k :: r) μ) (hk : cls k = C) (hl : len k = q) (hC : isRA C = true) (hi : inb i q = true) (kk : Exec m lv (pc + 1, ls, .ref (eN k i.toNatClampNeg) :: r, μ) = x) : Exec m lv s = x := by
  subst hl; subst hk; exact t_N n hM ((h.trans (alA_r hC)).trans (if_pos hi)) kk
theorem t_ASI (n : Nat) (hM : mtab m = some M) (h : pblk M n s = asI pc ls (.int v :: .int i :: .ref k :: r) μ) (hk : cls k = 20) (hl : len k = q) (kk : inb i q = true → Exec m lv (pc + 1, ls, r, stI μ k i.toNatClampNeg v) = x) : Exec m lv s = chk (inb i q = true) x := by
  subst hl; exact t_chkF n hM (h.trans (asI_20 hk)) kk
theorem t_ASIT (n : Nat) (hM : mtab m = some M) (h : pblk M n s = asI pc ls (.int v :: .int i :: .ref k :: r) μ) (hk : cls k = 20) (hl : len k = q) (hi : inb i q = true) (kk : Exec m lv (pc + 1, ls, r, stI μ k i.toNatClampNeg v) = x) : Exec m lv s = x := by
  subst hl; exact t_N n hM ((h.trans (asI_20 hk)).trans (if_pos hi)) kk
theorem t_ASJ (n : Nat) (hM : mtab m = some M) (h : pblk M n s = asJ pc ls (.long w :: .int i :: .ref k :: r) μ) (hk : cls k = 21) (hl : len k = q) (kk : inb i q = true → Exec m lv (pc + 1, ls, r, stJ μ k i.toNatClampNeg w) = x) : Exec m lv s = chk (inb i q = true) x := by
  subst hl; exact t_chkF n hM (h.trans (asJ_21 hk)) kk
theorem t_ASJT (n : Nat) (hM : mtab m = some M) (h : pblk M n s = asJ pc ls (.long w :: .int i :: .ref k :: r) μ) (hk : cls k = 21) (hl : len k = q) (hi : inb i q = true) (kk : Exec m lv (pc + 1, ls, r, stJ μ k i.toNatClampNeg w) = x) : Exec m lv s = x := by
  subst hl; exact t_N n hM ((h.trans (asJ_21 hk)).trans (if_pos hi)) kk
theorem t_LT {f : PM → Option PO} (h : ∀ μ', Exec m lv (pc, ls, st, μ') = f μ') : Exec m lv (pc, ls, st, μ) = lt μ f := h μ
theorem t_call {c : Prop} [Decidable c] {d : Nat} (n : Nat) (hM : mtab m = some M) (hc : c) (h : pblk M n s = if c then some (.inr (.inl (d, as, pc, ls, st, μ))) else none) (hl : lvl d as < lv) :
    Exec m lv s = match Den d as μ with
      | none => none
      | some o => aftE m lv M pc ls st o := by
  rw [if_pos hc] at h
  obtain ⟨t, e, h'⟩ := pblk_run (lv := lv) hM _ _ _ h
  exact e.trans (Exec_callG hM h' hl)
theorem aftE_inl {v : Option Value} : aftE m lv M pc ls st (.inl v, μ) = Exec m lv (pc + 3, ls, v.toList ++ st, μ) := by
  cases v <;> rfl
theorem aftE_inr {k : Nat} (hh : M.2.2.2.2 = []) : aftE m lv M pc ls st (.inr k, μ) = some (.inr k, μ) := by
  unfold aftE aft
  simp only [hh, hfind]
theorem t_CI {c : Prop} [Decidable c] {d : Nat} {f : Int32 → PM → Option PO} (n : Nat) (hM : mtab m = some M) (hc : c) (h : pblk M n s = if c then some (.inr (.inl (d, as, pc, ls, st, μ))) else none) (hl : lvl d as < lv) (hh : M.2.2.2.2 = []) (hr : (Nat.beq (rtN d) 1 || Nat.beq (rtN d) 2) = true)
    (k : ∀ v μ', Exec m lv (pc + 3, ls, .int v :: st, μ') = f v μ') : Exec m lv s = bI (Den d as μ) f := by
  rw [t_call n hM hc h hl]
  cases hd : Den d as μ with
  | none => rfl
  | some o =>
    obtain ⟨o, μ'⟩ := o
    cases o with
    | inl v =>
      have h1 := Den_shp hd
      have : ∃ q, v = some (.int q) := by
        rw [Bool.or_eq_true] at hr
        rcases hr with hr | hr <;> rw [Nat.eq_of_beq_eq_true hr] at h1 <;> exact h1
      obtain ⟨q, rfl⟩ := this
      show aftE m lv M pc ls st (.inl (some (.int q)), μ') = f q μ'
      rw [aftE_inl]; exact k q μ'
    | inr e => exact aftE_inr hh
theorem t_CV {c : Prop} [Decidable c] {d : Nat} {f : PM → Option PO} (n : Nat) (hM : mtab m = some M) (hc : c) (h : pblk M n s = if c then some (.inr (.inl (d, as, pc, ls, st, μ))) else none) (hl : lvl d as < lv) (hh : M.2.2.2.2 = []) (hr : Nat.beq (rtN d) 0 = true)
    (k : ∀ μ', Exec m lv (pc + 3, ls, st, μ') = f μ') : Exec m lv s = bV (Den d as μ) f := by
  rw [t_call n hM hc h hl]
  cases hd : Den d as μ with
  | none => rfl
  | some o =>
    obtain ⟨o, μ'⟩ := o
    cases o with
    | inl v =>
      have h1 := Den_shp hd
      have : v = none := by rw [Nat.eq_of_beq_eq_true hr] at h1; exact h1
      subst this
      show aftE m lv M pc ls st (.inl none, μ') = f μ'
      rw [aftE_inl]; exact k μ'
    | inr e => exact aftE_inr hh
theorem t_CJ {c : Prop} [Decidable c] {d : Nat} {f : Int64 → PM → Option PO} (n : Nat) (hM : mtab m = some M) (hc : c) (h : pblk M n s = if c then some (.inr (.inl (d, as, pc, ls, st, μ))) else none) (hl : lvl d as < lv) (hh : M.2.2.2.2 = []) (hr : Nat.beq (rtN d) 3 = true)
    (k : ∀ v μ', Exec m lv (pc + 3, ls, .long v :: st, μ') = f v μ') : Exec m lv s = bJ (Den d as μ) f := by
  rw [t_call n hM hc h hl]
  cases hd : Den d as μ with
  | none => rfl
  | some o =>
    obtain ⟨o, μ'⟩ := o
    cases o with
    | inl v =>
      have h1 := Den_shp hd
      have : ∃ q, v = some (.long q) := by rw [Nat.eq_of_beq_eq_true hr] at h1; exact h1
      obtain ⟨q, rfl⟩ := this
      show aftE m lv M pc ls st (.inl (some (.long q)), μ') = f q μ'
      rw [aftE_inl]; exact k q μ'
    | inr e => exact aftE_inr hh
theorem t_CD {c : Prop} [Decidable c] {d : Nat} {f : UInt64 → PM → Option PO} (n : Nat) (hM : mtab m = some M) (hc : c) (h : pblk M n s = if c then some (.inr (.inl (d, as, pc, ls, st, μ))) else none) (hl : lvl d as < lv) (hh : M.2.2.2.2 = []) (hr : Nat.beq (rtN d) 4 = true)
    (k : ∀ v μ', Exec m lv (pc + 3, ls, .double v :: st, μ') = f v μ') : Exec m lv s = bDb (Den d as μ) f := by
  rw [t_call n hM hc h hl]
  cases hd : Den d as μ with
  | none => rfl
  | some o =>
    obtain ⟨o, μ'⟩ := o
    cases o with
    | inl v =>
      have h1 := Den_shp hd
      have : ∃ q, v = some (.double q) := by rw [Nat.eq_of_beq_eq_true hr] at h1; exact h1
      obtain ⟨q, rfl⟩ := this
      show aftE m lv M pc ls st (.inl (some (.double q)), μ') = f q μ'
      rw [aftE_inl]; exact k q μ'
    | inr e => exact aftE_inr hh
theorem t_CR {c : Prop} [Decidable c] {d : Nat} {f : Nat → PM → Option PO} {g : PM → Option PO} (n : Nat) (hM : mtab m = some M) (hc : c) (h : pblk M n s = if c then some (.inr (.inl (d, as, pc, ls, st, μ))) else none) (hl : lvl d as < lv) (hh : M.2.2.2.2 = []) (hr : Nat.beq (rtN d) 5 = true)
    (k : ∀ v μ', Exec m lv (pc + 3, ls, .ref v :: st, μ') = f v μ') (k2 : ∀ μ', Exec m lv (pc + 3, ls, .null :: st, μ') = g μ') : Exec m lv s = bR (Den d as μ) f g := by
  rw [t_call n hM hc h hl]
  cases hd : Den d as μ with
  | none => rfl
  | some o =>
    obtain ⟨o, μ'⟩ := o
    cases o with
    | inl v =>
      have h1 := Den_shp hd
      have : v = some .null ∨ ∃ q, v = some (.ref q) := by rw [Nat.eq_of_beq_eq_true hr] at h1; exact h1
      rcases this with rfl | ⟨q, rfl⟩
      · show aftE m lv M pc ls st (.inl (some .null), μ') = g μ'
        rw [aftE_inl]; exact k2 μ'
      · show aftE m lv M pc ls st (.inl (some (.ref q)), μ') = f q μ'
        rw [aftE_inl]; exact k q μ'
    | inr e => exact aftE_inr hh
theorem t_CH {c : Prop} [Decidable c] {d : Nat} {f : Int32 → PM → Option PO} {g : Nat → PM → Option PO} (n : Nat) (hM : mtab m = some M) (hc : c) (h : pblk M n s = if c then some (.inr (.inl (d, as, pc, ls, st, μ))) else none) (hl : lvl d as < lv) (hr : (Nat.beq (rtN d) 1 || Nat.beq (rtN d) 2) = true)
    (k : ∀ v μ', Exec m lv (pc + 3, ls, .int v :: st, μ') = f v μ') (k2 : ∀ k μ', aftE m lv M pc ls st (.inr k, μ') = g k μ') : Exec m lv s = bH (Den d as μ) f g := by
  rw [t_call n hM hc h hl]
  cases hd : Den d as μ with
  | none => rfl
  | some o =>
    obtain ⟨o, μ'⟩ := o
    cases o with
    | inl v =>
      have h1 := Den_shp hd
      have : ∃ q, v = some (.int q) := by
        rw [Bool.or_eq_true] at hr
        rcases hr with hr | hr <;> rw [Nat.eq_of_beq_eq_true hr] at h1 <;> exact h1
      obtain ⟨q, rfl⟩ := this
      show aftE m lv M pc ls st (.inl (some (.int q)), μ') = f q μ'
      rw [aftE_inl]; exact k q μ'
    | inr e => exact k2 e μ'
theorem t_H {c : Prop} [Decidable c] {z : Option PO} (h1 : c → z = x) (h2 : ¬ c → z = y) : z = if c then x else y := by
  by_cases hc : c
  · rw [if_pos hc]; exact h1 hc
  · rw [if_neg hc]; exact h2 hc
theorem t_HH {o : PO} (h : aft M pc ls st o = some (.inl s')) (k : Exec m lv s' = x) : aftE m lv M pc ls st o = x := by
  unfold aftE; rw [h]; exact k
theorem t_HN {k : Nat} (h : hfind M.2.2.2.2 pc k = none) : aftE m lv M pc ls st (.inr k, μ) = some (.inr k, μ) := by
  unfold aftE aft; simp only [h]
theorem hf_c {a b h j k : Nat} {r : List (Nat × Nat × Nat × Nat)} (hne : ¬ k = j) : hfind ((a, b, h, j) :: r) pc k = hfind r pc k := by
  have : Nat.beq j k = false := by
    cases hb : Nat.beq j k
    · rfl
    · exact absurd (Nat.eq_of_beq_eq_true hb).symm hne
  simp only [hfind, this, Bool.and_false, cond_false]
theorem t_ST {z u : Int32} {d lo hi : Int} {os : Array Int} {ln : Nat} (hM : mtab m = some M) (hd : lk2 M.1 pc = some (.tableswitch d lo hi os, ln)) (hy : tsw pc d lo hi os ls (.int u :: r) μ = some (.inl s')) (k1 : Exec m lv s' = x) (k2 : ¬ z = u → Exec m lv (pc, ls, .int z :: r, μ) = y) : Exec m lv (pc, ls, .int z :: r, μ) = if z = u then x else y := by
  by_cases h : z = u
  · rw [if_pos h]
    refine t_N 0 hM ?_ k1
    rw [h]
    show (match lk2 M.1 pc with | none => none | some (i, l) => pex M i l pc ls (.int u :: r) μ) = _
    rw [hd]; exact hy
  · rw [if_neg h]; exact k2 h
theorem t_STD {z : Int32} {d lo hi : Int} {os : Array Int} {ln : Nat} (hM : mtab m = some M) (hd : lk2 M.1 pc = some (.tableswitch d lo hi os, ln)) (ho : z.toInt < lo ∨ hi < z.toInt) (hj : jp pc d ls r μ = some (.inl s')) (k : Exec m lv s' = x) : Exec m lv (pc, ls, .int z :: r, μ) = x := by
  refine t_N 0 hM ?_ k
  show (match lk2 M.1 pc with | none => none | some (i, l) => pex M i l pc ls (.int z :: r) μ) = _
  rw [hd]
  show tsw pc d lo hi os ls (.int z :: r) μ = _
  simp only [tsw]
  rw [if_pos ho]; exact hj
theorem t_SL {z u : Int32} {d : Int} {ps : Array (Int × Int)} {ln : Nat} (hM : mtab m = some M) (hd : lk2 M.1 pc = some (.lookupswitch d ps, ln)) (hy : lsw pc d ps ls (.int u :: r) μ = some (.inl s')) (k1 : Exec m lv s' = x) (k2 : ¬ z = u → Exec m lv (pc, ls, .int z :: r, μ) = y) : Exec m lv (pc, ls, .int z :: r, μ) = if z = u then x else y := by
  by_cases h : z = u
  · rw [if_pos h]
    refine t_N 0 hM ?_ k1
    rw [h]
    show (match lk2 M.1 pc with | none => none | some (i, l) => pex M i l pc ls (.int u :: r) μ) = _
    rw [hd]; exact hy
  · rw [if_neg h]; exact k2 h
theorem t_SLD {z : Int32} {d : Int} {ps : Array (Int × Int)} {ln : Nat} (hM : mtab m = some M) (hd : lk2 M.1 pc = some (.lookupswitch d ps, ln)) (hs : (ps.toList.zip (ps.toList.drop 1)).all (fun (a, next) => a.1 < next.1) = true) (ho : Op.lookupswitch.offset ps.toList d z.toInt = d) (hj : jp pc d ls r μ = some (.inl s')) (k : Exec m lv s' = x) : Exec m lv (pc, ls, .int z :: r, μ) = x := by
  refine t_N 0 hM ?_ k
  show (match lk2 M.1 pc with | none => none | some (i, l) => pex M i l pc ls (.int z :: r) μ) = _
  rw [hd]
  show lsw pc d ps ls (.int z :: r) μ = _
  simp only [lsw]
  rw [hs, ho]; exact hj
theorem sw_n (n : Int) {z u : Int32} (h : ¬ z = u) (hu : u.toInt = n) : z.toInt ≠ n := fun q => h (Int32.toInt_inj.mp (q.trans hu.symm))
theorem lo_nil {d k : Int} : Op.lookupswitch.offset [] d k = d := rfl
theorem lo_c {d k a o : Int} {l : List (Int × Int)} (h : k ≠ a) (h2 : Op.lookupswitch.offset l d k = d) : Op.lookupswitch.offset ((a, o) :: l) d k = d := by
  rw [Op.lookupswitch.offset_cons, if_neg (fun q => h q.symm)]; exact h2
theorem ft_lv3 {a x : Int32} : 3 < lvl 20 [.ref 23, .ref 10, .ref 11, .int a, .int x] := by
  show 3 < 9 - min 5 x.toNatClampNeg
  omega
theorem ft_lvl {a x : Int32} (h0 : 0 ≤ x) (h5 : ¬ 5 ≤ x) : lvl 20 [.ref 23, .ref 10, .ref 11, .int a, .int (x + 1)] < lvl 20 [.ref 23, .ref 10, .ref 11, .int a, .int x] := by
  show 9 - min 5 (x + 1).toNatClampNeg < 9 - min 5 x.toNatClampNeg
  have e1 : (x + 1).toInt = x.toInt + 1 := by
    rw [Int32.toInt_add]
    have a1 := Int32.le_iff_toInt_le.mp h0
    have a2 : x.toInt < 5 := by
      have : ¬ (5 : Int32).toInt ≤ x.toInt := fun q => h5 (Int32.le_iff_toInt_le.mpr q)
      have e5 : (5 : Int32).toInt = 5 := by decide
      rw [e5] at this
      omega
    have e0 : (0 : Int32).toInt = 0 := by decide
    have e11 : (1 : Int32).toInt = 1 := by decide
    rw [e0] at a1
    rw [e11]
    simp only [Int.bmod]
    omega
  have a1 := Int32.le_iff_toInt_le.mp h0
  have a2 : x.toInt < 5 := by
    have : ¬ (5 : Int32).toInt ≤ x.toInt := fun q => h5 (Int32.le_iff_toInt_le.mpr q)
    have e5 : (5 : Int32).toInt = 5 := by decide
    rw [e5] at this
    omega
  have e0 : (0 : Int32).toInt = 0 := by decide
  rw [e0] at a1
  have b1 : x.toNatClampNeg = x.toInt.toNat := rfl
  have b2 : (x + 1).toNatClampNeg = (x + 1).toInt.toNat := rfl
  rw [b1, b2, e1]
  omega
theorem i_nle {x y : Int32} (h : x < y) : ¬ y ≤ x := fun q => by
  have a := Int32.lt_iff_toInt_lt.mp h
  have b := Int32.le_iff_toInt_le.mp q
  omega
/-! where objects lie -/
theorem inb_lt {i : Int32} {n : Nat} (h : inb i n = true) : i.toNatClampNeg < n := by
  unfold inb at h
  simp only [Bool.not_eq_true', Bool.or_eq_false_iff] at h
  have h2 := h.2
  rcases Nat.lt_or_ge i.toNatClampNeg n with h3 | h3
  · exact h3
  · rw [Nat.ble_eq.mpr h3] at h2; cases h2
theorem fc_c1 {i : Int32} (h : inb i 10 = true) : cls (28 + 2 * i.toNatClampNeg) = 0 := (by decide +kernel : ∀ n, n < 10 → cls (28 + 2 * n) = 0) _ (inb_lt h)
theorem fc_c2 {i : Int32} (h : inb i 10 = true) : cls (28 + 2 * i.toNatClampNeg + 1) = 20 := (by decide +kernel : ∀ n, n < 10 → cls (28 + 2 * n + 1) = 20) _ (inb_lt h)
theorem fc_c3 {i : Int32} (h : inb i 10 = true) : len (28 + 2 * i.toNatClampNeg + 1) = 10 := (by decide +kernel : ∀ n, n < 10 → len (28 + 2 * n + 1) = 10) _ (inb_lt h)
theorem fc_o1 {i : Int32} (h : inb i 5 = true) : cls (48 + i.toNatClampNeg) = 2 := (by decide +kernel : ∀ n, n < 5 → cls (48 + n) = 2) _ (inb_lt h)
theorem fc_p1 {i : Int32} (h : inb i 8 = true) : cls (53 + 2 * i.toNatClampNeg) = 5 := (by decide +kernel : ∀ n, n < 8 → cls (53 + 2 * n) = 5) _ (inb_lt h)
theorem fc_p2 {i : Int32} (h : inb i 8 = true) : cls (53 + 2 * i.toNatClampNeg + 1) = 20 := (by decide +kernel : ∀ n, n < 8 → cls (53 + 2 * n + 1) = 20) _ (inb_lt h)
theorem fc_p3 {i : Int32} (h : inb i 8 = true) : len (53 + 2 * i.toNatClampNeg + 1) = 5 := (by decide +kernel : ∀ n, n < 8 → len (53 + 2 * n + 1) = 5) _ (inb_lt h)
theorem fc_t1 {i : Int32} (h : inb i 6 = true) : cls (69 + 46 * i.toNatClampNeg) = 7 := (by decide +kernel : ∀ n, n < 6 → cls (69 + 46 * n) = 7) _ (inb_lt h)
theorem fc_k1 {i : Int32} (h : inb i 5 = true) : cls (410 + i.toNatClampNeg) = 29 := (by decide +kernel : ∀ n, n < 5 → cls (410 + n) = 29) _ (inb_lt h)
def isT (t : Nat) : Prop := ∃ j, j < 7 ∧ t = 23 + 46 * j
theorem ft_t {t : Nat} (h : isT t) : cls t = 7 := by obtain ⟨j, hj, rfl⟩ := h; exact (by decide +kernel : ∀ j, j < 7 → cls (23 + 46 * j) = 7) j hj
theorem ft_1 {t : Nat} (h : isT t) : cls (t + 1) = 22 := by obtain ⟨j, hj, rfl⟩ := h; exact (by decide +kernel : ∀ j, j < 7 → cls (23 + 46 * j + 1) = 22) j hj
theorem ft_2 {t : Nat} (h : isT t) : cls (t + 2) = 23 := by obtain ⟨j, hj, rfl⟩ := h; exact (by decide +kernel : ∀ j, j < 7 → cls (23 + 46 * j + 2) = 23) j hj
theorem ft_3 {t : Nat} (h : isT t) : cls (t + 3) = 24 := by obtain ⟨j, hj, rfl⟩ := h; exact (by decide +kernel : ∀ j, j < 7 → cls (23 + 46 * j + 3) = 24) j hj
theorem ft_4 {t : Nat} (h : isT t) : cls (t + 4) = 20 := by obtain ⟨j, hj, rfl⟩ := h; exact (by decide +kernel : ∀ j, j < 7 → cls (23 + 46 * j + 4) = 20) j hj
theorem fl_1 {t : Nat} (h : isT t) : len (t + 1) = 10 := by obtain ⟨j, hj, rfl⟩ := h; exact (by decide +kernel : ∀ j, j < 7 → len (23 + 46 * j + 1) = 10) j hj
theorem fl_2 {t : Nat} (h : isT t) : len (t + 2) = 5 := by obtain ⟨j, hj, rfl⟩ := h; exact (by decide +kernel : ∀ j, j < 7 → len (23 + 46 * j + 2) = 5) j hj
theorem fl_3 {t : Nat} (h : isT t) : len (t + 3) = 8 := by obtain ⟨j, hj, rfl⟩ := h; exact (by decide +kernel : ∀ j, j < 7 → len (23 + 46 * j + 3) = 8) j hj
theorem fl_4 {t : Nat} (h : isT t) : len (t + 4) = 5 := by obtain ⟨j, hj, rfl⟩ := h; exact (by decide +kernel : ∀ j, j < 7 → len (23 + 46 * j + 4) = 5) j hj
theorem ft_c1 {t : Nat} {i : Int32} (h : isT t) (hi : inb i 10 = true) : cls (eN (t + 1) i.toNatClampNeg) = 0 := by obtain ⟨j, hj, rfl⟩ := h; exact (by decide +kernel : ∀ j, j < 7 → ∀ n, n < 10 → cls (eN (23 + 46 * j + 1) n) = 0) j hj _ (inb_lt hi)
theorem ft_o1 {t : Nat} {i : Int32} (h : isT t) (hi : inb i 5 = true) : cls (eN (t + 2) i.toNatClampNeg) = 2 := by obtain ⟨j, hj, rfl⟩ := h; exact (by decide +kernel : ∀ j, j < 7 → ∀ n, n < 5 → cls (eN (23 + 46 * j + 2) n) = 2) j hj _ (inb_lt hi)
theorem ft_p1 {t : Nat} {i : Int32} (h : isT t) (hi : inb i 8 = true) : cls (eN (t + 3) i.toNatClampNeg) = 5 := by obtain ⟨j, hj, rfl⟩ := h; exact (by decide +kernel : ∀ j, j < 7 → ∀ n, n < 8 → cls (eN (23 + 46 * j + 3) n) = 5) j hj _ (inb_lt hi)
theorem cl_in1_0 {k : Nat} (h : cls k = 0) : cls (k + 1) = 20 := (by decide +kernel : ∀ k, k < 345 → cls k = 0 → cls (k + 1) = 20) k (cls_lt (Or.inl (by rw [h]; decide))) h
theorem cl_in2_0 {k : Nat} (h : cls k = 0) : len (k + 1) = 10 := (by decide +kernel : ∀ k, k < 345 → cls k = 0 → len (k + 1) = 10) k (cls_lt (Or.inl (by rw [h]; decide))) h
theorem cl_in1_5 {k : Nat} (h : cls k = 5) : cls (k + 1) = 20 := (by decide +kernel : ∀ k, k < 345 → cls k = 5 → cls (k + 1) = 20) k (cls_lt (Or.inl (by rw [h]; decide))) h
theorem cl_in2_5 {k : Nat} (h : cls k = 5) : len (k + 1) = 5 := (by decide +kernel : ∀ k, k < 345 → cls k = 5 → len (k + 1) = 5) k (cls_lt (Or.inl (by rw [h]; decide))) h
end DK
end
section
/-! ===== BEGIN words of one list among another's, by their places ===== -/
theorem goodIn_r {big : List Cond} (ws : List Cond) (ps : List Nat) (hp : ws = ps.filterMap (fun i => big[i]?)) (h : ws.all goodWord = true) : GoodIn big ws := by
  intro w hw
  have h1 := List.all_eq_true.mp h w hw
  rw [hp] at hw
  obtain ⟨i, -, hi⟩ := List.mem_filterMap.mp hw
  have hm : w ∈ big := by first | exact List.mem_of_getElem? hi | exact List.getElem?_mem hi
  exact ⟨hm, good_of_word h1⟩
theorem goodIn_app {big a b : List Cond} (ha : GoodIn big a) (hb : GoodIn big b) : GoodIn big (a ++ b) := fun w h => (List.mem_append.mp h).elim (ha w) (hb w)
theorem goodIn_ca {big a b : List Cond} {c : Cond} (ha : GoodIn big (c :: a)) (hb : GoodIn big b) : GoodIn big (c :: (a ++ b)) := fun w h => (List.mem_cons.mp h).elim (fun e => ha w (List.mem_cons.mpr (Or.inl e))) (fun h => (List.mem_append.mp h).elim (fun h => ha w (List.mem_cons.mpr (Or.inr h))) (hb w))
theorem goodIn_sub {big ws : List Cond} (hm : ∀ w ∈ ws, w ∈ big) (h : ws.all goodWord = true) : GoodIn big ws := fun w hw => ⟨hm w hw, good_of_word (List.all_eq_true.mp h w hw)⟩
/-! ===== END ===== -/

/-! ===== BEGIN exceptions that leave a method, and their catching by the caller (launches without stack traces) ===== -/
section VXA
/-! The laws vx_back, vx_callV, vx_callS, vx_callSW, vx_throw0, vx_throwS follow proofs of the library, with one case more: JvmDerived/Free/Laws.lean (Back.of_free), Shelf42/LK1.lean (callV, callS), Shelf/KitTraced.lean (throwNew0V, throwNewS). -/
/-- where a method has thrown q: the class by its name, the cell, what was written, the world -/
def vx_T (XC : String → State → State → Prop) (st : State) (q : Addr) (t : State) (mc ms : Nat) (free : Addr → Prop) : Prop :=
  ∃ (E : String) (ce : Cell) (L : List Loc), XC E st t ∧ t.heap[q]? = some ce ∧ ce.vm = .none ∧ st.vm.findClass E = some ce.cls ∧ st.WarmedH t.vm ∧ st.sameButNew ({ t with vm := st.vm } : State) L mc ms ∧ ∀ z ∈ L, free z.base
def vx_Q (Qc : Array Value → State → Outcome → State → Prop) (XC : String → State → State → Prop) (mc ms : Nat) (free : Addr → Prop) : Array Value → State → Outcome → State → Prop := fun a st o t =>
  (Qc a st o t ∧ ∃ L, FrameEnd st o t L mc ms ∧ ∀ q ∈ L, free q.base) ∨ ∃ q, o = .threw q ∧ vx_T XC st q t mc ms free
/-- a callee that returns or throws -/
def vx_Met (l : Launch) (y : MethodName) (ws : List Cond) (rm : Room) (Pc : Array Value → State → Prop) (Qc : Array Value → State → Outcome → State → Prop) (XC : String → State → State → Prop) (mc ms : Nat) (free : Addr → Prop) : Prop :=
  MetFree l y (headSpec ws rm) Pc (fun _ _ _ _ _ => True) (vx_Q Qc XC mc ms free)
def vx_Post (XC : String → State → State → Prop) (mc ms : Nat) (free : Addr → Prop) : Pt → Array Value → Addr → Pt → Prop := fun A a q B =>
  ∃ (g : JFrame) (mk : MethodId) (t : State) (L : List Loc) (E : String) (ce : Cell), B.U.heap = t.heap ∧ B.U.vm = t.vm ∧ XC E (A.U.calling g mk a) t ∧ t.heap[q]? = some ce ∧ ce.vm = .none ∧ A.U.vm.findClass E = some ce.cls ∧ B.locs = A.locs ++ L ∧ (∀ z ∈ L, free z.base) ∧ B.cells = A.cells + mc ∧ B.slots = A.slots + ms
def vx_Back (l : Launch) (R : Room) (p : Program) (e : Env) (below : List Frame) (s : State) (sargs : Array Value) (y : MethodName) (len W9 : Nat)
    (Pre : Pt → Array Value → Prop) (Post : Pt → Array Value → Option Value → Pt → Prop) (PostX : Pt → Array Value → Addr → Pt → Prop) : Prop :=
  ∀ (m : MethodId) (meth : Method) (c : Code) (A : Pt) (g : JFrame) (ig : Instr) (mk : MethodId) (a : Array Value),
    Stand p l e R s m sargs below meth c A.U A.locs A.cells A.slots → g.method = m → g.locals.size = c.maxLocals → decode c.code g.pc = .ok (ig, len) →
    2 * g.monitorRoom + (g.stack.map fun v => v.category).sum ≤ W9 → A.U.methodNamed? y = some mk → Pre A a →
    (∃ (v : Option Value) (B : Pt), Stand p l e R s m sargs below meth c B.U B.locs B.cells B.slots ∧ Post A a v B ∧
      Steps p.tables e below (doInvoke e (A.U.setTop g) [] mk a).1 (B.U.setTop { g with pc := g.pc + len, stack := v.toList ++ g.stack })) ∨
    (∃ (q : Addr) (B : Pt), Stand p l e R s m sargs below meth c B.U B.locs B.cells B.slots ∧ PostX A a q B ∧
      Steps p.tables e below (doInvoke e (A.U.setTop g) [] mk a).1 ((B.U.setTop g).pushFrame (.throwing q)))
section Payer
variable {l : Launch} {R : Room} {p : Program} {e : Env} {below : List Frame} {s : State} {sargs : Array Value} {y : MethodName} {len W9 : Nat}
theorem vx_back {ws : List Cond} {rm : Room} {Pc : Array Value → State → Prop} {Qc : Array Value → State → Outcome → State → Prop} {XC : String → State → State → Prop} {mc ms : Nat} {free : Addr → Prop} {bytes : ByteArray} {maxL : Nat} {ret : Option FieldType}
    (hM : vx_Met l y ws rm Pc Qc XC mc ms free) (hblind : FrameBlind Pc) (hrc : rm.cells = mc) (hrs : rm.slots = ms)
    (hframes : rm.frames + 1 ≤ R.frames) (hlocals : W9 + (maxL + 11) + rm.locals ≤ R.locals)
    (hws : ∀ w ∈ ws, ∀ a' U, s.WarmedH U.vm → w.before a' U = true) (hcode : Cond.code y bytes maxL ret ∈ ws) (hinit : ∀ a' U, s.WarmedH U.vm → (Cond.initialized y.cls).before a' U = true) :
    vx_Back l R p e below s sargs y len W9 (PreOf R mc ms Pc) (PostOf Qc mc ms free) (vx_Post XC mc ms free) := by
  intro m meth c A g ig mk a X hg hsize hdg hW hn hp
  have h1 : (headSpec ws rm).pre.before a A.U = true := atoms_intro fun w hw => hws w hw _ _ X.warmed
  have h2 : (Cond.code y bytes maxL ret).before a A.U = true := hws _ hcode _ _ X.warmed
  have h3 : (Cond.initialized y.cls).before a A.U = true := hinit _ _ X.warmed
  have h4 : A.cells + (headSpec ws rm).room.cells ≤ R.cells := by rw [show (headSpec ws rm).room.cells = mc from hrc]; exact hp.1
  have h5 : A.slots + (headSpec ws rm).room.slots ≤ R.slots := by rw [show (headSpec ws rm).room.slots = ms from hrs]; exact hp.2.1
  have hPc : Pc a (A.U.calling g mk a) := hblind _ _ _ _ hp.2.2
  obtain ⟨U, Ls, c0, s0⟩ := A
  dsimp only [Pt.U, Pt.locs, Pt.cells, Pt.slots] at h1 h2 h3 h4 h5 X hn hPc ⊢
  obtain ⟨methY, cY, hmY, hcY, -, hlY, -, -, -, -⟩ := Cond.code_spec hn h2
  obtain ⟨kY, hkY, -⟩ := className_of_methodNamed hn
  have hinitY : kY.init = .initialized := Cond.initialized_spec (findClass_of_methodNamed hn) hkY h3
  have h : At U g.method c below := by rw [hg]; exact X.here
  have hlocals9 : W9 + (maxL + 11) + (headSpec ws rm).room.locals ≤ R.locals := hlocals
  have happ : (headSpec ws rm).appliesLoose y e.platform (U.calling g mk a) = true :=
    Spec.appliesLoose_calling (g := g) h hdg hn hkY hinitY
      (X.room_calling (g := g) (R' := (headSpec ws rm).room) hsize hmY hcY hframes (by rw [hlY]; omega) h4 h5) h1
  obtain ⟨mid, hmid⟩ := h.above
  have hfr : (U.setTop g).frames = (.java g :: mid) ++ below := by rw [State.frames_setTop' g h.top, hmid]; rfl
  obtain ⟨o, s₂, hsteps, -, hend, hq⟩ := Steps.callFree hM p X.admits X.cas X.clock (acts := []) hfr happ hPc trivial
  have hq' : vx_Q Qc XC mc ms free a (U.calling g mk a) o s₂ := hq
  rw [State.frames_setTop' g h.top] at hend
  obtain ⟨g₀, hg0⟩ := Option.isSome_iff_exists.mp h.top
  obtain ⟨r, hr⟩ := State.topJava?_eq_some.mp hg0
  have hr' : (({ U with heap := s₂.heap, slotsUsed := s₂.slotsUsed } : State).setVm s₂.vm).frames = .java g₀ :: r := hr
  rcases hq' with ⟨hqc, L, hfe, hL⟩ | ⟨q, rfl, E, ce, L, hx, hce, hcv, hcl, hW₂, hsm, hL⟩
  · obtain ⟨⟨v, rfl⟩, hW₂, e2, q2, q3, q4, q5, q6⟩ := id hfe
    have e3 : s₂ = ({ (U.calling g mk a).setFrames s₂.frames with heap := s₂.heap, slotsUsed := s₂.slotsUsed } : State).setVm s₂.vm := by
      have : s₂ = ({ s₂ with vm := (U.calling g mk a).vm } : State).setVm s₂.vm := rfl
      rw [e2] at this
      exact this
    obtain ⟨c₂, i₂, len₂, hc₂, hd₂, hf₂⟩ := hend
    have hW' : U.WarmedH s₂.vm := hW₂
    have hcc : c₂ = c := by
      have h1 : s₂.code? g.method = U.code? g.method := by
        rw [State.code?_eq, State.code?_eq, hW'.alike.method?]
      exact Option.some.inj (hc₂.symm.trans (h1.trans h.code))
    subst hcc
    have hlen : len₂ = len := by rw [hdg] at hd₂; cases hd₂; rfl
    subst hlen
    have hs₂ : s₂ = (({ U with heap := s₂.heap, slotsUsed := s₂.slotsUsed } : State).setVm s₂.vm).setTop { g with pc := g.pc + len₂, stack := v.toList ++ g.stack } := by
      refine e3.trans ?_
      rw [hf₂, State.calling_eq h.top, State.setFrames_setFrames, State.setTop_of_frames _ hr', hr]
      rfl
    have hsame : U.sameButNew ({ U with heap := s₂.heap, slotsUsed := s₂.slotsUsed } : State) L mc ms := by
      refine ⟨?_, q2, q3, q4, q5, q6⟩
      obtain ⟨t, ht, -⟩ := State.frames_cons hr
      show ({ U with heap := s₂.heap, slotsUsed := s₂.slotsUsed } : State) = { U.setFrames U.frames with heap := s₂.heap, slotsUsed := s₂.slotsUsed }
      rw [State.setFrames_self ht]
    subst hg
    refine Or.inl ⟨v, ⟨(({ U with heap := s₂.heap, slotsUsed := s₂.slotsUsed } : State).setVm s₂.vm), Ls ++ L, c0 + mc, s0 + ms⟩,
      ⟨X.admits, X.cas, X.clock, X.frames, X.room, X.hears, X.method, X.code, (X.here.setHeapUsed s₂.heap s₂.slotsUsed).setVm hW'.alike, X.tail, State.WarmedH.trans X.warmed hW', X.limits, X.bytes, X.same.trans (hsame.setVm s.vm)⟩,
      ⟨g, mk, s₂, L, rfl, rfl, hqc, rfl, hL, rfl, rfl⟩, ?_⟩
    show Steps p.tables e below _ ((({ U with heap := s₂.heap, slotsUsed := s₂.slotsUsed } : State).setVm s₂.vm).setTop { g with pc := g.pc + len₂, stack := v.toList ++ g.stack })
    rw [← hs₂]
    exact hsteps
  · obtain ⟨e2, q2, q3, q4, q5, q6⟩ := id hsm
    have e3 : s₂ = ({ (U.calling g mk a).setFrames s₂.frames with heap := s₂.heap, slotsUsed := s₂.slotsUsed } : State).setVm s₂.vm := by
      have : s₂ = ({ s₂ with vm := (U.calling g mk a).vm } : State).setVm s₂.vm := rfl
      rw [e2] at this
      exact this
    have hf₂ : s₂.frames = .throwing q :: .java g :: U.frames.tail := hend
    have hW' : U.WarmedH s₂.vm := hW₂
    have hs₂ : s₂ = ((({ U with heap := s₂.heap, slotsUsed := s₂.slotsUsed } : State).setVm s₂.vm).setTop g).pushFrame (.throwing q) := by
      refine e3.trans ?_
      rw [hf₂, State.calling_eq h.top, State.setFrames_setFrames, State.pushFrame, State.frames_setTop _ hr', State.setTop_of_frames _ hr', State.setFrames_setFrames, hr]
      rfl
    have hsame : U.sameButNew ({ U with heap := s₂.heap, slotsUsed := s₂.slotsUsed } : State) L mc ms := by
      refine ⟨?_, q2, q3, q4, q5, q6⟩
      obtain ⟨t, ht, -⟩ := State.frames_cons hr
      show ({ U with heap := s₂.heap, slotsUsed := s₂.slotsUsed } : State) = { U.setFrames U.frames with heap := s₂.heap, slotsUsed := s₂.slotsUsed }
      rw [State.setFrames_self ht]
    subst hg
    refine Or.inr ⟨q, ⟨(({ U with heap := s₂.heap, slotsUsed := s₂.slotsUsed } : State).setVm s₂.vm), Ls ++ L, c0 + mc, s0 + ms⟩,
      ⟨X.admits, X.cas, X.clock, X.frames, X.room, X.hears, X.method, X.code, (X.here.setHeapUsed s₂.heap s₂.slotsUsed).setVm hW'.alike, X.tail, State.WarmedH.trans X.warmed hW', X.limits, X.bytes, X.same.trans (hsame.setVm s.vm)⟩,
      ⟨g, mk, s₂, L, E, ce, rfl, rfl, hx, hce, hcv, hcl, rfl, hL, rfl, rfl⟩, ?_⟩
    show Steps p.tables e below _ (((({ U with heap := s₂.heap, slotsUsed := s₂.slotsUsed } : State).setVm s₂.vm).setTop g).pushFrame (.throwing q))
    rw [← hs₂]
    exact hsteps
end Payer
section Calls
variable {p : Program} {l : Launch} {e : Env} {R : Room} {s : State} {m : MethodId} {args : Array Value} {below : List Frame} {meth : Method} {c : Code} {T : State} {locs : List Loc} {cells slots : Nat}
theorem vx_callV (X : Stand p l e R s m args below meth c T locs cells slots) (hexec : p.tables.exec = Jvm.exec) {own C : String} {index : Nat} {y : MethodName} {bytes : ByteArray} {maxL : Nat} {ret : Option FieldType}
    (hown : s.vm.findClass own = some m.cls) (hlink : (Cond.methodLink own index y).before args s = true) (hinst : (Cond.instanceMethod y).before args s = true) (hsel : (Cond.selects C y y).before args s = true)
    (hcode : (Cond.code y bytes maxL ret).before args s = true) (hy : y.cls ≠ "java/lang/invoke/MethodHandle" ∧ y.cls ≠ "java/lang/invoke/VarHandle")
    {W9 : Nat} {Pre : Pt → Array Value → Prop} {Post : Pt → Array Value → Option Value → Pt → Prop} {PostX : Pt → Array Value → Addr → Pt → Prop} (hK : vx_Back l R p e below s args y 3 W9 Pre Post PostX)
    {b : Addr} {cellB : Cell} (hcell : T.heap[b]? = some cellB) (hobj : cellB.vm.isStatics = false) (hcls : s.vm.findClass C = some cellB.cls)
    {g : JFrame} (hg : g.method = m) (hsize : g.locals.size = c.maxLocals) {argsL rest : List Value} (hlen : ∀ sig, parseMethodDescriptor y.desc = some sig → argsL.length = sig.parameters.length)
    (hstack : g.stack = argsL.reverse ++ .ref b :: rest) (hW : 2 * g.monitorRoom + (rest.map fun v => v.category).sum ≤ W9) (hdg : decode c.code g.pc = .ok (.invokevirtual index, 3))
    (hpre : ∀ vm₁, s.WarmedH vm₁ → Pre ⟨T.setVm vm₁, locs, cells, slots⟩ (Value.ref b :: argsL).toArray) :
    (∃ (v : Option Value) (vm₁ : Vm) (B : Pt), s.WarmedH vm₁ ∧ Stand p l e R s m args below meth c B.U B.locs B.cells B.slots ∧ Post ⟨T.setVm vm₁, locs, cells, slots⟩ (Value.ref b :: argsL).toArray v B ∧
      ∀ target, Steps p.tables e below (B.U.setTop { g with pc := g.pc + 3, stack := v.toList ++ rest }) target → Steps p.tables e below (T.setTop g) target) ∨
    (∃ (q : Addr) (vm₁ : Vm) (B : Pt), s.WarmedH vm₁ ∧ Stand p l e R s m args below meth c B.U B.locs B.cells B.slots ∧ PostX ⟨T.setVm vm₁, locs, cells, slots⟩ (Value.ref b :: argsL).toArray q B ∧
      Steps p.tables e below (T.setTop g) ((B.U.setTop { g with stack := rest }).pushFrame (.throwing q))) := by
  obtain ⟨mk, methM, hnamed, hmethM, hstM, habM⟩ := Cond.instanceMethod_spec hinst
  obtain ⟨methM', cM, hmethM', -, -, -, -, -, -, hsigM⟩ := Cond.code_spec hnamed hcode
  cases hmethM.symm.trans hmethM'
  obtain ⟨c2, r2, m2, q1, q2, q3, q4, kP, hkP, hkPi⟩ := Cond.selects_spec hsel
  cases hcls.symm.trans q1
  cases (State.methodFound?_of_named hnamed hy).symm.trans q2
  cases hnamed.symm.trans q3
  have hselP : selectMethod e.platform s.vm cellB.cls mk = .method mk := by rw [Launch.admits_selectMethod X.admits]; exact q4
  obtain ⟨vm₁, X₁, hstep₁⟩ := X.invokevirtual hexec hown hlink hnamed hmethM hstM hkP hkPi hy (a := b) (cell := cellB) hcell
    (fun z h => by rw [h] at hobj; cases hobj) hselP hmethM habM hkP hkPi (g := g) hg (argsL := argsL) (rest := rest) (hlen _ hsigM) hstack hdg
  rcases hK m meth c ⟨T.setVm vm₁, locs, cells, slots⟩ { g with stack := rest } (.invokevirtual index) mk (Value.ref b :: argsL).toArray X₁ hg hsize hdg hW (X₁.named hnamed) (hpre vm₁ X₁.warmed) with ⟨v, B, X', hpost, hsteps⟩ | ⟨q, B, X', hpost, hsteps⟩
  · exact Or.inl ⟨v, vm₁, B, X₁.warmed, X', hpost, fun target h => hstep₁ _ fun acts => by rw [doInvoke_state]; exact hsteps.trans h⟩
  · exact Or.inr ⟨q, vm₁, B, X₁.warmed, X', hpost, hstep₁ _ fun acts => by rw [doInvoke_state]; exact hsteps⟩
theorem vx_callS (X : Stand p l e R s m args below meth c T locs cells slots) (hexec : p.tables.exec = Jvm.exec) {own : String} {index : Nat} {y : MethodName} {bytes : ByteArray} {maxL : Nat} {ret : Option FieldType}
    (hown : s.vm.findClass own = some m.cls) (hlink : (Cond.methodLink own index y).before args s = true) (hstat : (Cond.static y).before args s = true) (hinit : (Cond.initialized y.cls).before args s = true)
    (hcode : (Cond.code y bytes maxL ret).before args s = true) (hy : y.cls ≠ "java/lang/invoke/MethodHandle" ∧ y.cls ≠ "java/lang/invoke/VarHandle")
    {W9 : Nat} {Pre : Pt → Array Value → Prop} {Post : Pt → Array Value → Option Value → Pt → Prop} {PostX : Pt → Array Value → Addr → Pt → Prop} (hK : vx_Back l R p e below s args y 3 W9 Pre Post PostX)
    {g : JFrame} (hg : g.method = m) (hsize : g.locals.size = c.maxLocals) {argsL rest : List Value} (hlen : ∀ sig, parseMethodDescriptor y.desc = some sig → argsL.length = sig.parameters.length)
    (hstack : g.stack = argsL.reverse ++ rest) (hW : 2 * g.monitorRoom + (rest.map fun v => v.category).sum ≤ W9) (hdg : decode c.code g.pc = .ok (.invokestatic index, 3))
    (hpre : ∀ vm₁, s.WarmedH vm₁ → Pre ⟨T.setVm vm₁, locs, cells, slots⟩ argsL.toArray) :
    (∃ (v : Option Value) (vm₁ : Vm) (B : Pt), s.WarmedH vm₁ ∧ Stand p l e R s m args below meth c B.U B.locs B.cells B.slots ∧ Post ⟨T.setVm vm₁, locs, cells, slots⟩ argsL.toArray v B ∧
      ∀ target, Steps p.tables e below (B.U.setTop { g with pc := g.pc + 3, stack := v.toList ++ rest }) target → Steps p.tables e below (T.setTop g) target) ∨
    (∃ (q : Addr) (vm₁ : Vm) (B : Pt), s.WarmedH vm₁ ∧ Stand p l e R s m args below meth c B.U B.locs B.cells B.slots ∧ PostX ⟨T.setVm vm₁, locs, cells, slots⟩ argsL.toArray q B ∧
      Steps p.tables e below (T.setTop g) ((B.U.setTop { g with stack := rest }).pushFrame (.throwing q))) := by
  obtain ⟨mk, hnamed⟩ := Cond.code_named hcode
  obtain ⟨methM, cM, hmethM, -, -, -, -, -, -, hsigM⟩ := Cond.code_spec hnamed hcode
  have hstatic : methM.isStatic = true := Cond.static_spec hnamed hmethM hstat
  obtain ⟨kP, hkP, -⟩ := className_of_methodNamed hnamed
  have hinitP : kP.init = .initialized := Cond.initialized_spec (findClass_of_methodNamed hnamed) hkP hinit
  obtain ⟨vm₁, X₁, hstep₁⟩ := X.invokestatic hexec hown hlink hnamed hmethM hstatic hkP hinitP hy (g := g) hg (argsL := argsL) (rest := rest) (hlen _ hsigM) hstack hdg
  rcases hK m meth c ⟨T.setVm vm₁, locs, cells, slots⟩ { g with stack := rest } (.invokestatic index) mk argsL.toArray X₁ hg hsize hdg hW (X₁.named hnamed) (hpre vm₁ X₁.warmed) with ⟨v, B, X', hpost, hsteps⟩ | ⟨q, B, X', hpost, hsteps⟩
  · exact Or.inl ⟨v, vm₁, B, X₁.warmed, X', hpost, fun target h => hstep₁ _ fun acts => by rw [doInvoke_state]; exact hsteps.trans h⟩
  · exact Or.inr ⟨q, vm₁, B, X₁.warmed, X', hpost, hstep₁ _ fun acts => by rw [doInvoke_state]; exact hsteps⟩
end Calls
theorem vx_cls {s : State} {T : State} {vm₁ : Vm} {E : String} {k : ClassId} (hW : s.WarmedH vm₁) (h : (T.setVm vm₁).vm.findClass E = some k) : s.vm.findClass E = some k := by
  have h1 : vm₁.findClass E = some k := h
  rw [hW.alike.findClass] at h1
  exact h1
/-- the method's frame g, with q thrown over it -/
def vx_W (p : Program) (l : Launch) (e : Env) (R : Room) (s : State) (m : MethodId) (args : Array Value) (below : List Frame) (meth : Method) (c : Code) (H : Heap) (locs : List Loc) (cells slots : Nat) (Q : State → Prop) (g : JFrame) (q : Addr) : Prop :=
  ∀ T : State, T.heap = H → Stand p l e R s m args below meth c T locs cells slots → ∃ t, Steps p.tables e below ((T.setTop g).pushFrame (.throwing q)) t ∧ Q t
def vx_Run (p : Program) (l : Launch) (e : Env) (R : Room) (s : State) (m : MethodId) (args : Array Value) (below : List Frame) (meth : Method) (c : Code) (H : Heap) (locs : List Loc) (cells slots mc ms : Nat) (g : JFrame) (rest : List Value) (Qa : State → Outcome → State → Prop) (XC : String → State → State → Prop) (free : Addr → Prop) : Prop :=
  ∀ T : State, T.heap = H → Stand p l e R s m args below meth c T locs cells slots →
    (∃ (v : Option Value) (st₀ t T' : State) (L : List Loc), st₀.heap = H ∧ Stand p l e R s m args below meth c T' (locs ++ L) (cells + mc) (slots + ms) ∧ (∀ q ∈ L, free q.base) ∧ T'.heap = t.heap ∧ T'.vm = t.vm ∧ Qa st₀ (.returned v) t ∧
      Goes p e below T g T' { g with pc := g.pc + 3, stack := v.toList ++ rest }) ∨
    (∃ (q : Addr) (st₀ t T' : State) (L : List Loc) (E : String) (ce : Cell), st₀.heap = H ∧ Stand p l e R s m args below meth c T' (locs ++ L) (cells + mc) (slots + ms) ∧ (∀ z ∈ L, free z.base) ∧ T'.heap = t.heap ∧ T'.vm = t.vm ∧ XC E st₀ t ∧ t.heap[q]? = some ce ∧ ce.vm = .none ∧ s.vm.findClass E = some ce.cls ∧
      Steps p.tables e below (T.setTop g) ((T'.setTop { g with stack := rest }).pushFrame (.throwing q)))
def vx_X {S : Type} (px : S → Prop) (B : String → S → State → Prop) (A : Nat → Prop) : String → State → State → Prop := fun E st t => ∃ u : S, px u ∧ B E u t ∧ va_F A st t
section Runs
variable {p : Program} {l : Launch} {e : Env} {R : Room} {s : State} {m : MethodId} {args : Array Value} {below : List Frame} {meth : Method} {c : Code} {H : Heap} {locs : List Loc} {cells slots : Nat}
variable {y : MethodName} {bytes cc : ByteArray} {maxL nL mc ms n index : Nat} {ret : Option FieldType} {ws : List Cond} {rm : Room} {Pc : Array Value → State → Prop} {Qc : Array Value → State → Outcome → State → Prop} {XC : String → State → State → Prop} {free : Addr → Prop} {Ts : List Cond} {own C : String} {b : Addr} {As rest : List Value} {g : JFrame}
theorem vx_callBack (cb : CallB R s args own index y bytes maxL ret ws rm mc ms n) (hM : vx_Met l y ws rm Pc Qc XC mc ms free) (hbl : FrameBlind Pc) : vx_Back l R p e below s args y 3 8 (PreOf R mc ms Pc) (PostOf Qc mc ms free) (vx_Post XC mc ms free) := by
  obtain ⟨hrc, hrs, hfr, hlo, hws, hcw, -, hini, -⟩ := cb
  exact vx_back (bytes := bytes) (maxL := maxL) (ret := ret) hM hbl hrc hrs hfr hlo hws hcw (fun a' U hW => word_at hW (Or.inl (by first | rfl | simp [Cond.onTables, Cond.keeps, Cond.steady])) hini)
theorem vx_runV (S : CallFix p m c cc nL s args Ts own) (hM : vx_Met l y ws rm Pc Qc XC mc ms free) (cw : CallW R s args own C index y bytes maxL ret ws rm mc ms n) (hp : PreV s H C b Pc As)
    (hg : g.method = m) (hn : As.length = n) (hsize : g.locals.size = nL) (hstack : g.stack = As.reverse ++ .ref b :: rest) (hW : 2 * g.monitorRoom + (rest.map fun v => v.category).sum ≤ 8) (hdg : decode cc g.pc = .ok (.invokevirtual index, 3)) (hf : cells + mc ≤ R.cells ∧ slots + ms ≤ R.slots) :
    vx_Run p l e R s m args below meth c H locs cells slots mc ms g rest (Qc (Value.ref b :: As).toArray) XC free := by
  have hK : vx_Back l R p e below s args y 3 8 (PreOf R mc ms Pc) (PostOf Qc mc ms free) (vx_Post XC mc ms free) := vx_callBack cw.1 hM hp.1
  obtain ⟨⟨-, -, -, -, -, -, hcode, -, hy, hlen, hl⟩, hin, hse⟩ := cw
  obtain ⟨hx, hb, hml, ho, -⟩ := S
  obtain ⟨-, ⟨cellB, hcB, hoB, hclB⟩, hPc⟩ := hp
  intro T hT X
  rcases vx_callV X hx (C := C) (bytes := bytes) (maxL := maxL) (ret := ret) ho hl hin hse hcode hy hK (by rw [hT]; exact hcB) hoB hclB hg (hsize.trans hml.symm) (argsL := As) (rest := rest) (fun sig h => hn.trans (hlen sig h)) hstack hW (by rw [hb]; exact hdg)
    (fun vm₁ hW₁ => ⟨hf.1, hf.2, hPc (T.setVm vm₁) hT hW₁⟩) with ⟨v, vm₁, ⟨U', l2, c2, s2⟩, hW₁, X', ⟨g', mk, t, L, e1, e2, hq, h1, hL, h2, h3⟩, st⟩ | ⟨q, vm₁, ⟨U', l2, c2, s2⟩, hW₁, X', ⟨g', mk, t, L, E, ce, e1, e2, hq, hce, hcv, hcl, h1, hL, h2, h3⟩, st⟩
  · dsimp only [Pt.U, Pt.locs, Pt.cells, Pt.slots] at X' e1 e2 h1 h2 h3 st
    subst h1; subst h2; subst h3
    exact Or.inl ⟨v, (T.setVm vm₁).calling g' mk (Value.ref b :: As).toArray, t, U', L, hT, X', hL, e1, e2, hq, st⟩
  · dsimp only [Pt.U, Pt.locs, Pt.cells, Pt.slots] at X' e1 e2 h1 h2 h3 st hcl
    subst h1; subst h2; subst h3
    exact Or.inr ⟨q, (T.setVm vm₁).calling g' mk (Value.ref b :: As).toArray, t, U', L, E, ce, hT, X', hL, e1, e2, hq, hce, hcv, vx_cls hW₁ hcl, st⟩
theorem vx_runS (S : CallFix p m c cc nL s args Ts own) (hM : vx_Met l y ws rm Pc Qc XC mc ms free) (cw : CallB R s args own index y bytes maxL ret ws rm mc ms n ∧ (Cond.static y).before args s = true) (hp : PreS s H Pc As)
    (hg : g.method = m) (hn : As.length = n) (hsize : g.locals.size = nL) (hstack : g.stack = As.reverse ++ rest) (hW : 2 * g.monitorRoom + (rest.map fun v => v.category).sum ≤ 8) (hdg : decode cc g.pc = .ok (.invokestatic index, 3)) (hf : cells + mc ≤ R.cells ∧ slots + ms ≤ R.slots) :
    vx_Run p l e R s m args below meth c H locs cells slots mc ms g rest (Qc As.toArray) XC free := by
  have hK : vx_Back l R p e below s args y 3 8 (PreOf R mc ms Pc) (PostOf Qc mc ms free) (vx_Post XC mc ms free) := vx_callBack cw.1 hM hp.1
  obtain ⟨⟨-, -, -, -, -, -, hcode, hini, hy, hlen, hl⟩, hstt⟩ := cw
  obtain ⟨hx, hb, hml, ho, -⟩ := S
  intro T hT X
  rcases vx_callS X hx (bytes := bytes) (maxL := maxL) (ret := ret) ho hl hstt hini hcode hy hK hg (hsize.trans hml.symm) (argsL := As) (rest := rest) (fun sig h => hn.trans (hlen sig h)) hstack hW (by rw [hb]; exact hdg)
    (fun vm₁ hW₁ => ⟨hf.1, hf.2, hp.2 (T.setVm vm₁) hT hW₁⟩) with ⟨v, vm₁, ⟨U', l2, c2, s2⟩, hW₁, X', ⟨g', mk, t, L, e1, e2, hq, h1, hL, h2, h3⟩, st⟩ | ⟨q, vm₁, ⟨U', l2, c2, s2⟩, hW₁, X', ⟨g', mk, t, L, E, ce, e1, e2, hq, hce, hcv, hcl, h1, hL, h2, h3⟩, st⟩
  · dsimp only [Pt.U, Pt.locs, Pt.cells, Pt.slots] at X' e1 e2 h1 h2 h3 st
    subst h1; subst h2; subst h3
    exact Or.inl ⟨v, (T.setVm vm₁).calling g' mk As.toArray, t, U', L, hT, X', hL, e1, e2, hq, st⟩
  · dsimp only [Pt.U, Pt.locs, Pt.cells, Pt.slots] at X' e1 e2 h1 h2 h3 st hcl
    subst h1; subst h2; subst h3
    exact Or.inr ⟨q, (T.setVm vm₁).calling g' mk As.toArray, t, U', L, E, ce, hT, X', hL, e1, e2, hq, hce, hcv, vx_cls hW₁ hcl, st⟩
end Runs
section Rows
variable {p : Program} {l : Launch} {e : Env} {R : Room} {s : State} {m : MethodId} {args : Array Value} {below : List Frame} {meth : Method} {c : Code} {H : Heap} {locs : List Loc} {cells slots : Nat} {Q : State → Prop}
variable {mc ms : Nat} {free : Addr → Prop} {A0 A1 : Nat → Prop} {H0 : Heap} {a : Array Value} {pc : Nat} {ls : Array Slot} {st0 rest : List Value}
theorem vx_keep {st₀ t T' : State} {L : List Loc} (h0 : st₀.heap = H) (e1 : T'.heap = t.heap) (hS : va_S A0 H0 H locs) (hA : ∀ q, q < H.size → A1 q → A0 q) (hf : ∀ q, free q → A0 q) (hL : ∀ q ∈ L, free q.base) (hF : va_F A1 st₀ t) :
    H.size ≤ T'.heap.size ∧ (∀ q : Nat, q < H.size → ¬ A1 q → T'.heap[q]? = H[q]?) ∧ va_S A0 H0 T'.heap (locs ++ L) := by
  obtain ⟨hz, hk⟩ := hF
  rw [h0] at hz hk
  exact ⟨by rw [e1]; exact hz, fun q h1 h2 => by rw [e1]; exact hk q h1 h2,
    ⟨Nat.le_trans hS.1 (by rw [e1]; exact hz), fun q h1 h2 => by rw [e1, hk q (Nat.lt_of_lt_of_le h1 hS.1) (fun z => h2 (hA q (Nat.lt_of_lt_of_le h1 hS.1) z))]; exact hS.2.1 q h1 h2, fun q hq => by
      rcases List.mem_append.mp hq with h | h
      · exact hS.2.2 q h
      · exact hf _ (hL q h)⟩⟩
theorem vx_calli {S SX : Type} {post : Int32 → S → Prop} {px : SX → Prop} {B : S → State → Prop} {BX : String → SX → State → Prop} {AX : Nat → Prop} (hr : vx_Run p l e R s m args below meth c H locs cells slots mc ms (F0 m pc ls st0) rest (va_Qi post B A1 a) (vx_X px BX AX) free) (hS : va_S A0 H0 H locs) (hA : ∀ q, q < H.size → A1 q → A0 q) (hf : ∀ q, free q → A0 q) (hAX : ∀ q, q < H.size → AX q → A0 q)
    (kx : ∀ (E : String) (ce : Cell) (q9 : Addr) (u : SX) (t : State) (H1 : Heap) (locs1 : List Loc), t.heap = H1 → s.vm.Alike t.vm → px u → BX E u t → H.size ≤ H1.size → (∀ q : Nat, q < H.size → ¬ AX q → H1[q]? = H[q]?) → va_S A0 H0 H1 locs1 → H1[q9]? = some ce → ce.vm = .none → s.vm.findClass E = some ce.cls → vx_W p l e R s m args below meth c H1 locs1 (cells + mc) (slots + ms) Q (F0 m pc ls rest) q9)
    (kk : ∀ (r : Int32) (u : S) (t : State) (H1 : Heap) (locs1 : List Loc), t.heap = H1 → s.vm.Alike t.vm → post r u → B u t → H.size ≤ H1.size → (∀ q : Nat, q < H.size → ¬ A1 q → H1[q]? = H[q]?) → va_S A0 H0 H1 locs1 → W p l e R s m args below meth c H1 locs1 (cells + mc) (slots + ms) Q (F0 m (pc + 3) ls (.int r :: rest))) : W p l e R s m args below meth c H locs cells slots Q (F0 m pc ls st0) := by
  intro T hT X
  rcases hr T hT X with ⟨v, st₀, t, T', L, h0, X', hL, e1, e2, ⟨⟨r, u, hv, hp, hb⟩, hF⟩, st⟩ | ⟨q, st₀, t, T', L, E, ce, h0, X', hL, e1, e2, ⟨u, hp, hb, hF⟩, hce, hcv, hcl, st⟩
  · cases hv
    obtain ⟨k1, k2, k3⟩ := vx_keep h0 e1 hS hA hf hL hF
    obtain ⟨t2, a1, b1⟩ := kk r u t T'.heap (locs ++ L) e1.symm (by rw [← e2]; exact X'.warmed.alike) hp hb k1 k2 k3 T' rfl X'
    exact ⟨t2, st t2 a1, b1⟩
  · obtain ⟨k1, k2, k3⟩ := vx_keep h0 e1 hS hAX hf hL hF
    obtain ⟨t2, a1, b1⟩ := kx E ce q u t T'.heap (locs ++ L) e1.symm (by rw [← e2]; exact X'.warmed.alike) hp hb k1 k2 k3 (by rw [e1]; exact hce) hcv hcl T' rfl X'
    exact ⟨t2, st.trans a1, b1⟩
theorem vx_calll {S SX : Type} {post : Int64 → S → Prop} {px : SX → Prop} {B : S → State → Prop} {BX : String → SX → State → Prop} {AX : Nat → Prop} (hr : vx_Run p l e R s m args below meth c H locs cells slots mc ms (F0 m pc ls st0) rest (va_Ql post B A1 a) (vx_X px BX AX) free) (hS : va_S A0 H0 H locs) (hA : ∀ q, q < H.size → A1 q → A0 q) (hf : ∀ q, free q → A0 q) (hAX : ∀ q, q < H.size → AX q → A0 q)
    (kx : ∀ (E : String) (ce : Cell) (q9 : Addr) (u : SX) (t : State) (H1 : Heap) (locs1 : List Loc), t.heap = H1 → s.vm.Alike t.vm → px u → BX E u t → H.size ≤ H1.size → (∀ q : Nat, q < H.size → ¬ AX q → H1[q]? = H[q]?) → va_S A0 H0 H1 locs1 → H1[q9]? = some ce → ce.vm = .none → s.vm.findClass E = some ce.cls → vx_W p l e R s m args below meth c H1 locs1 (cells + mc) (slots + ms) Q (F0 m pc ls rest) q9)
    (kk : ∀ (r : Int64) (u : S) (t : State) (H1 : Heap) (locs1 : List Loc), t.heap = H1 → s.vm.Alike t.vm → post r u → B u t → H.size ≤ H1.size → (∀ q : Nat, q < H.size → ¬ A1 q → H1[q]? = H[q]?) → va_S A0 H0 H1 locs1 → W p l e R s m args below meth c H1 locs1 (cells + mc) (slots + ms) Q (F0 m (pc + 3) ls (.long r :: rest))) : W p l e R s m args below meth c H locs cells slots Q (F0 m pc ls st0) := by
  intro T hT X
  rcases hr T hT X with ⟨v, st₀, t, T', L, h0, X', hL, e1, e2, ⟨⟨r, u, hv, hp, hb⟩, hF⟩, st⟩ | ⟨q, st₀, t, T', L, E, ce, h0, X', hL, e1, e2, ⟨u, hp, hb, hF⟩, hce, hcv, hcl, st⟩
  · cases hv
    obtain ⟨k1, k2, k3⟩ := vx_keep h0 e1 hS hA hf hL hF
    obtain ⟨t2, a1, b1⟩ := kk r u t T'.heap (locs ++ L) e1.symm (by rw [← e2]; exact X'.warmed.alike) hp hb k1 k2 k3 T' rfl X'
    exact ⟨t2, st t2 a1, b1⟩
  · obtain ⟨k1, k2, k3⟩ := vx_keep h0 e1 hS hAX hf hL hF
    obtain ⟨t2, a1, b1⟩ := kx E ce q u t T'.heap (locs ++ L) e1.symm (by rw [← e2]; exact X'.warmed.alike) hp hb k1 k2 k3 (by rw [e1]; exact hce) hcv hcl T' rfl X'
    exact ⟨t2, st.trans a1, b1⟩
theorem vx_callf {S SX : Type} {post : UInt32 → S → Prop} {px : SX → Prop} {B : S → State → Prop} {BX : String → SX → State → Prop} {AX : Nat → Prop} (hr : vx_Run p l e R s m args below meth c H locs cells slots mc ms (F0 m pc ls st0) rest (va_Qf post B A1 a) (vx_X px BX AX) free) (hS : va_S A0 H0 H locs) (hA : ∀ q, q < H.size → A1 q → A0 q) (hf : ∀ q, free q → A0 q) (hAX : ∀ q, q < H.size → AX q → A0 q)
    (kx : ∀ (E : String) (ce : Cell) (q9 : Addr) (u : SX) (t : State) (H1 : Heap) (locs1 : List Loc), t.heap = H1 → s.vm.Alike t.vm → px u → BX E u t → H.size ≤ H1.size → (∀ q : Nat, q < H.size → ¬ AX q → H1[q]? = H[q]?) → va_S A0 H0 H1 locs1 → H1[q9]? = some ce → ce.vm = .none → s.vm.findClass E = some ce.cls → vx_W p l e R s m args below meth c H1 locs1 (cells + mc) (slots + ms) Q (F0 m pc ls rest) q9)
    (kk : ∀ (r : UInt32) (u : S) (t : State) (H1 : Heap) (locs1 : List Loc), t.heap = H1 → s.vm.Alike t.vm → post r u → B u t → H.size ≤ H1.size → (∀ q : Nat, q < H.size → ¬ A1 q → H1[q]? = H[q]?) → va_S A0 H0 H1 locs1 → W p l e R s m args below meth c H1 locs1 (cells + mc) (slots + ms) Q (F0 m (pc + 3) ls (.float r :: rest))) : W p l e R s m args below meth c H locs cells slots Q (F0 m pc ls st0) := by
  intro T hT X
  rcases hr T hT X with ⟨v, st₀, t, T', L, h0, X', hL, e1, e2, ⟨⟨r, u, hv, hp, hb⟩, hF⟩, st⟩ | ⟨q, st₀, t, T', L, E, ce, h0, X', hL, e1, e2, ⟨u, hp, hb, hF⟩, hce, hcv, hcl, st⟩
  · cases hv
    obtain ⟨k1, k2, k3⟩ := vx_keep h0 e1 hS hA hf hL hF
    obtain ⟨t2, a1, b1⟩ := kk r u t T'.heap (locs ++ L) e1.symm (by rw [← e2]; exact X'.warmed.alike) hp hb k1 k2 k3 T' rfl X'
    exact ⟨t2, st t2 a1, b1⟩
  · obtain ⟨k1, k2, k3⟩ := vx_keep h0 e1 hS hAX hf hL hF
    obtain ⟨t2, a1, b1⟩ := kx E ce q u t T'.heap (locs ++ L) e1.symm (by rw [← e2]; exact X'.warmed.alike) hp hb k1 k2 k3 (by rw [e1]; exact hce) hcv hcl T' rfl X'
    exact ⟨t2, st.trans a1, b1⟩
theorem vx_calld {S SX : Type} {post : UInt64 → S → Prop} {px : SX → Prop} {B : S → State → Prop} {BX : String → SX → State → Prop} {AX : Nat → Prop} (hr : vx_Run p l e R s m args below meth c H locs cells slots mc ms (F0 m pc ls st0) rest (va_Qd post B A1 a) (vx_X px BX AX) free) (hS : va_S A0 H0 H locs) (hA : ∀ q, q < H.size → A1 q → A0 q) (hf : ∀ q, free q → A0 q) (hAX : ∀ q, q < H.size → AX q → A0 q)
    (kx : ∀ (E : String) (ce : Cell) (q9 : Addr) (u : SX) (t : State) (H1 : Heap) (locs1 : List Loc), t.heap = H1 → s.vm.Alike t.vm → px u → BX E u t → H.size ≤ H1.size → (∀ q : Nat, q < H.size → ¬ AX q → H1[q]? = H[q]?) → va_S A0 H0 H1 locs1 → H1[q9]? = some ce → ce.vm = .none → s.vm.findClass E = some ce.cls → vx_W p l e R s m args below meth c H1 locs1 (cells + mc) (slots + ms) Q (F0 m pc ls rest) q9)
    (kk : ∀ (r : UInt64) (u : S) (t : State) (H1 : Heap) (locs1 : List Loc), t.heap = H1 → s.vm.Alike t.vm → post r u → B u t → H.size ≤ H1.size → (∀ q : Nat, q < H.size → ¬ A1 q → H1[q]? = H[q]?) → va_S A0 H0 H1 locs1 → W p l e R s m args below meth c H1 locs1 (cells + mc) (slots + ms) Q (F0 m (pc + 3) ls (.double r :: rest))) : W p l e R s m args below meth c H locs cells slots Q (F0 m pc ls st0) := by
  intro T hT X
  rcases hr T hT X with ⟨v, st₀, t, T', L, h0, X', hL, e1, e2, ⟨⟨r, u, hv, hp, hb⟩, hF⟩, st⟩ | ⟨q, st₀, t, T', L, E, ce, h0, X', hL, e1, e2, ⟨u, hp, hb, hF⟩, hce, hcv, hcl, st⟩
  · cases hv
    obtain ⟨k1, k2, k3⟩ := vx_keep h0 e1 hS hA hf hL hF
    obtain ⟨t2, a1, b1⟩ := kk r u t T'.heap (locs ++ L) e1.symm (by rw [← e2]; exact X'.warmed.alike) hp hb k1 k2 k3 T' rfl X'
    exact ⟨t2, st t2 a1, b1⟩
  · obtain ⟨k1, k2, k3⟩ := vx_keep h0 e1 hS hAX hf hL hF
    obtain ⟨t2, a1, b1⟩ := kx E ce q u t T'.heap (locs ++ L) e1.symm (by rw [← e2]; exact X'.warmed.alike) hp hb k1 k2 k3 (by rw [e1]; exact hce) hcv hcl T' rfl X'
    exact ⟨t2, st.trans a1, b1⟩
theorem vx_callv {S SX : Type} {post : S → Prop} {px : SX → Prop} {B : S → State → Prop} {BX : String → SX → State → Prop} {AX : Nat → Prop} (hr : vx_Run p l e R s m args below meth c H locs cells slots mc ms (F0 m pc ls st0) rest (va_Qv post B A1 a) (vx_X px BX AX) free) (hS : va_S A0 H0 H locs) (hA : ∀ q, q < H.size → A1 q → A0 q) (hf : ∀ q, free q → A0 q) (hAX : ∀ q, q < H.size → AX q → A0 q)
    (kx : ∀ (E : String) (ce : Cell) (q9 : Addr) (u : SX) (t : State) (H1 : Heap) (locs1 : List Loc), t.heap = H1 → s.vm.Alike t.vm → px u → BX E u t → H.size ≤ H1.size → (∀ q : Nat, q < H.size → ¬ AX q → H1[q]? = H[q]?) → va_S A0 H0 H1 locs1 → H1[q9]? = some ce → ce.vm = .none → s.vm.findClass E = some ce.cls → vx_W p l e R s m args below meth c H1 locs1 (cells + mc) (slots + ms) Q (F0 m pc ls rest) q9)
    (kk : ∀ (u : S) (t : State) (H1 : Heap) (locs1 : List Loc), t.heap = H1 → s.vm.Alike t.vm → post u → B u t → H.size ≤ H1.size → (∀ q : Nat, q < H.size → ¬ A1 q → H1[q]? = H[q]?) → va_S A0 H0 H1 locs1 → W p l e R s m args below meth c H1 locs1 (cells + mc) (slots + ms) Q (F0 m (pc + 3) ls (rest))) : W p l e R s m args below meth c H locs cells slots Q (F0 m pc ls st0) := by
  intro T hT X
  rcases hr T hT X with ⟨v, st₀, t, T', L, h0, X', hL, e1, e2, ⟨⟨u, hv, hp, hb⟩, hF⟩, st⟩ | ⟨q, st₀, t, T', L, E, ce, h0, X', hL, e1, e2, ⟨u, hp, hb, hF⟩, hce, hcv, hcl, st⟩
  · cases hv
    obtain ⟨k1, k2, k3⟩ := vx_keep h0 e1 hS hA hf hL hF
    obtain ⟨t2, a1, b1⟩ := kk u t T'.heap (locs ++ L) e1.symm (by rw [← e2]; exact X'.warmed.alike) hp hb k1 k2 k3 T' rfl X'
    exact ⟨t2, st t2 a1, b1⟩
  · obtain ⟨k1, k2, k3⟩ := vx_keep h0 e1 hS hAX hf hL hF
    obtain ⟨t2, a1, b1⟩ := kx E ce q u t T'.heap (locs ++ L) e1.symm (by rw [← e2]; exact X'.warmed.alike) hp hb k1 k2 k3 (by rw [e1]; exact hce) hcv hcl T' rfl X'
    exact ⟨t2, st.trans a1, b1⟩
/-- caught by the row x of this method's table; the rows ahead don't take it -/
theorem vx_catch {own name : String} {E : String} {ce : Cell} {q : Addr} (hown : s.vm.findClass own = some m.cls) (pre : List ExceptionTableEntry) (x : ExceptionTableEntry) (suf : List ExceptionTableEntry) (hsplit : c.exceptionTable.toList = pre ++ x :: suf)
    (hpass : ∀ z ∈ pre, covers z pc = false ∨ (z.catchType ≠ 0 ∧ ∃ nm : String, (Cond.classLink own z.catchType nm).before args s = true ∧ va_Nc E nm s)) (hx : covers x pc = true) (h0 : x.catchType ≠ 0)
    (hlink : (Cond.classLink own x.catchType name).before args s = true) (hcast : (Cond.castable E name).before args s = true) (hcell : H[q]? = some ce) (hv : ce.vm = .none) (hcl : s.vm.findClass E = some ce.cls)
    (kk : W p l e R s m args below meth c H locs cells slots Q (F0 m x.handlerPc ls [.ref q])) : vx_W p l e R s m args below meth c H locs cells slots Q (F0 m pc ls rest) q := by
  intro T hT X
  have hpl : e.platform.magicAccessors = ({} : Platform).magicAccessors := by rw [X.admits.platform]
  obtain ⟨c3, c4, hc3, hc4, hasg⟩ := Cond.castable_spec hcast
  cases Option.some.inj (hc3.symm.trans hcl)
  obtain ⟨c5, hc5, hcl5⟩ := Cond.classLink_spec hown hlink e.platform hpl
  cases Option.some.inj (hc4.symm.trans hc5)
  obtain ⟨vm', X', st⟩ := X.thenCaughtThrough q (g := F0 m pc ls rest) rfl (Steps.refl _) (by rw [hT]; exact hcell) (by rw [hv]; rfl) (by obtain ⟨k9, h9, -⟩ := Vm.findClass_spec hcl; exact ⟨k9, h9⟩) pre x suf hsplit
    (fun z hz => by
      rcases hpass z hz with h | ⟨hz0, nm, hl1, hn1⟩
      · exact Or.inl h
      · obtain ⟨c6, hc6, hcl6⟩ := Cond.classLink_spec hown hl1 e.platform hpl
        obtain ⟨a8, b8, h1, h2, h3⟩ := hn1
        cases Option.some.inj (h1.symm.trans hcl)
        cases Option.some.inj (h2.symm.trans hc6)
        exact Or.inr ⟨hz0, _, hcl6, h3⟩) hx (Or.inr ⟨h0, c4, hcl5, hasg⟩)
  obtain ⟨t, a1, b1⟩ := kk (T.setVm vm') hT X'
  exact ⟨t, st.trans a1, b1⟩
end Rows
section Ends
variable {p : Program} {l : Launch} {e : Env} {R : Room} {s : State} {m : MethodId} {args : Array Value} {below : List Frame} {meth : Method} {c : Code} {H : Heap} {locs : List Loc} {cells slots : Nat} {Q : State → Prop}
variable {mc ms : Nat} {free : Addr → Prop} {A0 A1 : Nat → Prop} {H0 : Heap} {a : Array Value} {ls : Array Slot} {st0 rest : List Value}
variable {Qc : Array Value → State → Outcome → State → Prop} {XC : String → State → State → Prop}
/-- what a body that may throw owes at its end -/
def vx_MQ (below : List Frame) (Qc : Array Value → State → Outcome → State → Prop) (XC : String → State → State → Prop) (a : Array Value) (s : State) (mc ms : Nat) (free : Addr → Prop) : State → Prop := fun t =>
  ∃ o, t.status = .running ∧ Ended t below o ∧ vx_Q Qc XC mc ms free a s o t
theorem vx_ret {g : JFrame} {mc ms : Nat} (k : W p l e R s m args below meth c H locs cells slots (MQ below Qc args s mc ms free) g) : W p l e R s m args below meth c H locs cells slots (vx_MQ below Qc XC args s mc ms free) g := by
  intro T hT X
  obtain ⟨t, a1, o, b1, b2, b3, b4⟩ := k T hT X
  exact ⟨t, a1, o, b1, b2, Or.inl ⟨b3, b4⟩⟩
/-- not caught here: it goes on to the caller -/
theorem vx_widen {g : JFrame} {q : Addr} {k n : Nat} (h1 : cells ≤ k) (h2 : slots ≤ n) (kk : vx_W p l e R s m args below meth c H locs k n Q g q) : vx_W p l e R s m args below meth c H locs cells slots Q g q := fun T hT X => kk T hT (stand_widen X h1 h2)
theorem vx_out {pc : Nat} {E : String} {ce : Cell} {q : Addr} {mc ms : Nat} (hout : ∀ x ∈ c.exceptionTable.toList, covers x pc = false) (hlocks : meth.locks = false) (hcell : H[q]? = some ce) (hv : ce.vm = .none) (hcl : s.vm.findClass E = some ce.cls)
    (hx : ∀ t : State, t.heap = H → s.vm.Alike t.vm → XC E s t) (hf : ∀ z ∈ locs, free z.base) (hc : cells ≤ mc) (hs : slots ≤ ms) :
    vx_W p l e R s m args below meth c H locs cells slots (vx_MQ below Qc XC args s mc ms free) (F0 m pc ls rest) q := by
  intro T hT X
  obtain ⟨st1, hrun, hend, hW, hsm⟩ := X.leaveThrown q (g := F0 m pc ls rest) rfl rfl rfl hout hlocks
  have hcell9 : (T.setFrames (.throwing q :: below)).heap[q]? = some ce := by
    show T.heap[q]? = some ce
    rw [hT]; exact hcell
  exact ⟨_, st1, .threw q, hrun, hend, Or.inr ⟨q, rfl, E, ce, locs, hx _ hT hW.alike, hcell9, hv, hcl, hW, hsm.mono hc hs, hf⟩⟩
theorem vx_frame {U : State} {k n : Nat} (h : s.sameButNew ({ U with vm := s.vm } : State) locs k n) : s.heap.size ≤ U.heap.size ∧ ∀ q : Nat, q < s.heap.size → (∀ z ∈ locs, z.base ≠ q) → U.heap[q]? = s.heap[q]? := by
  obtain ⟨-, h2, -, -, -, h6⟩ := h
  refine ⟨h2, fun q hq hz => ?_⟩
  obtain ⟨c9, e1, e2, e3, e4⟩ := h6 q _ (Array.getElem?_eq_getElem hq)
  have hs : c9.slots = (s.heap[q]).slots := Array.ext_getElem? fun i => e4 i fun hm => hz _ hm rfl
  have h9 : c9 = s.heap[q] := by
    rw [hs] at e2
    exact e2
  have e5 : U.heap[q]? = some c9 := e1
  rw [e5, h9, Array.getElem?_eq_getElem hq]
/-- the words of a throw but the four that speak of the heap -/
def vx_no (w : Cond) : Bool := decide (w ≠ .isRef (.static Bundle.tN "UNASSIGNED_STACK" Bundle.steD)) && decide (w ≠ .isRef (.static Bundle.tN "SUPPRESSED_SENTINEL" Bundle.listD)) && decide (w ≠ .laysStatic Bundle.tN "UNASSIGNED_STACK" Bundle.steD) && decide (w ≠ .laysStatic Bundle.tN "SUPPRESSED_SENTINEL" Bundle.listD)
def vx_at0 (own : String) (ic : Nat) (X : String) (names : List String) : List Cond := (Bundle.ownAtoms0 own ic X names).filter vx_no
def vx_atS (own : String) (ic : Nat) (X : String) (names : List String) : List Cond := (Bundle.ownAtoms own ic X names).filter vx_no
/-- a word that the tables alone decide, or a good one -/
def vx_ot (w : Cond) : Bool := w.onTables || goodWord w
theorem vx_ot_at {args a' : Array Value} {s U : State} {w : Cond} (hW : s.WarmedH U.vm) (hvm : s.vm = U.vm) (hg : vx_ot w = true) (h : w.before args s = true) : w.before a' U = true := by
  simp only [vx_ot, Bool.or_eq_true] at hg
  rcases hg with hg | hg
  · exact va_tabs hg hvm h
  · exact word_at hW (good_of_word hg) h
/-- a list's words: the good ones out of the method's own list, the others by premises of their own -/
theorem vx_hat {args : Array Value} {s : State} {L B : List Cond} (h1 : ∀ w ∈ L.filter goodWord, w.before args s = true) (h2 : ∀ w ∈ L.filter (fun w => !goodWord w), w ∈ B) (h3 : ∀ w ∈ B, w.before args s = true) : ∀ w ∈ L, w.before args s = true := by
  intro w hw
  by_cases g : goodWord w = true
  · exact h1 w (List.mem_filter.mpr ⟨hw, g⟩)
  · refine h3 w (h2 w (List.mem_filter.mpr ⟨hw, ?_⟩))
    show (!goodWord w) = true
    cases hgw : goodWord w
    · rfl
    · exact absurd hgw g
theorem vx_c {args : Array Value} {s : State} {w : Cond} {B : List Cond} (h : w.before args s = true) (t : ∀ w ∈ B, w.before args s = true) : ∀ w' ∈ w :: B, w'.before args s = true := fun w' h' => (List.mem_cons.mp h').elim (fun e => by rw [e]; exact h) (t w')
theorem vx_n {args : Array Value} {s : State} : ∀ w ∈ ([] : List Cond), w.before args s = true := fun _ h => nomatch h
theorem vx_own {args : Array Value} {s : State} {L : List Cond} (h1 : ∀ w ∈ L.filter vx_no, w.before args s = true)
    (hU : (Cond.isRef (.static Bundle.tN "UNASSIGNED_STACK" Bundle.steD)).before args s = true) (hN : (Cond.isRef (.static Bundle.tN "SUPPRESSED_SENTINEL" Bundle.listD)).before args s = true)
    (lU : (Cond.laysStatic Bundle.tN "UNASSIGNED_STACK" Bundle.steD).before args s = true) (lN : (Cond.laysStatic Bundle.tN "SUPPRESSED_SENTINEL" Bundle.listD).before args s = true) : ∀ w ∈ L, w.before args s = true := by
  intro w hw
  by_cases e1 : w = .isRef (.static Bundle.tN "UNASSIGNED_STACK" Bundle.steD)
  · rw [e1]; exact hU
  · by_cases e2 : w = .isRef (.static Bundle.tN "SUPPRESSED_SENTINEL" Bundle.listD)
    · rw [e2]; exact hN
    · by_cases e3 : w = .laysStatic Bundle.tN "UNASSIGNED_STACK" Bundle.steD
      · rw [e3]; exact lU
      · by_cases e4 : w = .laysStatic Bundle.tN "SUPPRESSED_SENTINEL" Bundle.listD
        · rw [e4]; exact lN
        · exact h1 w (List.mem_filter.mpr ⟨hw, by unfold vx_no; rw [decide_eq_true e1, decide_eq_true e2, decide_eq_true e3, decide_eq_true e4]; rfl⟩)
/-- where a static field lies, its class's statics cell in H -/
def vx_L (C n d : String) (A : Nat → Prop) (U : State) (H : Heap) : Prop := ∃ (c : ClassId) (k : Class) (i : Nat) (f : Field) (a : Nat) (cell : Cell), U.vm.findClass C = some c ∧ U.fieldFound? C n d = some (c, k, i, f) ∧ f.isStatic = true ∧ k.statics = some a ∧ H[a]? = some cell ∧ cell.vm.isStatics = true ∧ cell.cls = c ∧ f.slot < cell.slots.size ∧ k.staticTypes[f.slot]? = some f.type ∧ ¬ A a
theorem vx_L.moved {C n d : String} {A : Nat → Prop} {u U : State} {H : Heap} (hvm : u.vm.Alike U.vm) (h : vx_L C n d A u H) : vx_L C n d A U H := by
  obtain ⟨c, k, i, f, a, cell, h1, h2, h3, h4, h5, h6, h7, h8, h9, h10⟩ := h
  obtain ⟨k', hi', he⟩ := State.fieldFound?_setVm hvm h2
  exact ⟨c, k', i, f, a, cell, by rw [hvm.findClass]; exact h1, hi', h3, by rw [he]; exact h4, h5, h6, h7, h8, by rw [he]; exact h9, h10⟩
theorem vx_L.kept {C n d : String} {A : Nat → Prop} {U : State} {H H1 : Heap} (h : vx_L C n d A U H) (hq : ∀ a : Nat, a < H.size → ¬ A a → H1[a]? = H[a]?) : vx_L C n d A U H1 := by
  obtain ⟨c, k, i, f, a, cell, h1, h2, h3, h4, h5, h6, h7, h8, h9, h10⟩ := h
  exact ⟨c, k, i, f, a, cell, h1, h2, h3, h4, by rw [hq a (Array.getElem?_eq_some_iff.mp h5).1 h10]; exact h5, h6, h7, h8, h9, h10⟩
theorem vx_L.narrow {C n d : String} {A B : Nat → Prop} {U : State} {H : Heap} (h : vx_L C n d A U H) (hAB : ∀ q, B q → A q) : vx_L C n d B U H := by
  obtain ⟨c, k, i, f, a, cell, h1, h2, h3, h4, h5, h6, h7, h8, h9, h10⟩ := h
  exact ⟨c, k, i, f, a, cell, h1, h2, h3, h4, h5, h6, h7, h8, h9, fun z => h10 (hAB _ z)⟩
theorem vx_L.word {C n d : String} {A : Nat → Prop} {s : State} {args : Array Value} (h : vx_L C n d A s s.heap) : (Cond.laysStatic C n d).before args s = true := by
  obtain ⟨c, k, i, f, a, cell, h1, h2, h3, h4, h5, h6, h7, h8, h9, -⟩ := h
  show (Cond.laysStatic C n d).holds args s none s [] = true
  exact Cond.laysStatic_of h1 h2 h3 h4 h5 h6 h7 h8 h9
/-- .. and what it holds: null or some reference -/
def vx_Zq (C n d : String) (A : Nat → Prop) (U : State) (H : Heap) : Prop := va_Zq C n d A U H ∧ vx_L C n d A U H
theorem vx_Zq.moved {C n d : String} {A : Nat → Prop} {u U : State} {H : Heap} (hvm : u.vm.Alike U.vm) (h : vx_Zq C n d A u H) : vx_Zq C n d A U H := ⟨va_Zq.moved hvm h.1, vx_L.moved hvm h.2⟩
theorem vx_Zq.kept {C n d : String} {A : Nat → Prop} {U : State} {H H1 : Heap} (h : vx_Zq C n d A U H) (hq : ∀ a : Nat, a < H.size → ¬ A a → H1[a]? = H[a]?) : vx_Zq C n d A U H1 := ⟨va_Zq.kept h.1 hq, vx_L.kept h.2 hq⟩
theorem vx_Zq.narrow {C n d : String} {A B : Nat → Prop} {U : State} {H : Heap} (h : vx_Zq C n d A U H) (hAB : ∀ q, B q → A q) : vx_Zq C n d B U H := ⟨va_Zq.narrow h.1 hAB, vx_L.narrow h.2 hAB⟩
theorem vx_Zqof {args : Array Value} {s : State} {C n d : String} {A : Nat → Prop} (hl : (Cond.laysStatic C n d).before args s = true) (hini : (Cond.initialized C).before args s = true) (h : (Cond.isRef (.static C n d)).before args s = true) (hA : ∀ a : Nat, a < s.heap.size → ¬ A a) : vx_Zq C n d A s s.heap := by
  refine ⟨va_Zqof hl hini h hA, ?_⟩
  obtain ⟨c, k, i, f, a, cell, h1, h2, h3, h4, h5, h6, h7, h8, h9⟩ := Cond.laysStatic_spec hl
  exact ⟨c, k, i, f, a, cell, h1, h2, h3, h4, h5, h6, h7, h8, h9, hA a (Array.getElem?_eq_some_iff.mp h5).1⟩
theorem vx_isRef {C n d : String} {v : Value} {A : Nat → Prop} {s : State} {args : Array Value} (h : va_Z C n d v A s s.heap) (hv : v.isRef = true) : (Cond.isRef (.static C n d)).before args s = true := by
  obtain ⟨cf, kf, fi, f, a, cell, h1, h2, h3, h4, h5, h6, h7, -⟩ := h
  have he : (Term.static C n d).eval args s none [] s = some v := by
    simp [Term.eval, State.fieldNamed?, h1, h2, h4, h5, h6, h7]
  simp only [Cond.before, Cond.holds, Cond.value, he]
  cases v <;> simp_all [Value.isRef]
theorem vx_isRefq {C n d : String} {A : Nat → Prop} {s : State} {args : Array Value} (h : va_Zq C n d A s s.heap) : (Cond.isRef (.static C n d)).before args s = true := by
  rcases h with h | ⟨t, h⟩
  · exact vx_isRef h rfl
  · exact vx_isRef h rfl
/-- the same frame, seen from here: as if the method were called anew in this heap -/
theorem vx_rebase {T : State} (X : Stand p l e R s m args below meth c T locs cells slots) {R' : Room} (hf : R'.frames ≤ R.frames) (hl : R'.locals ≤ R.locals) (hc : cells + R'.cells ≤ R.cells) (hs : slots + R'.slots ≤ R.slots) :
    Stand p l e R' ((T.setVm s.vm).setFrames (.invoking m args :: below)) m args below meth c T [] 0 0 := by
  have htop : (T.setVm s.vm).topJava?.isSome := X.here.top
  have hF : ((T.setVm s.vm).setFrames (.invoking m args :: below)).frames = .invoking m args :: below := State.frames_setFrames _ (State.cur_lt_of_top htop)
  obtain ⟨g₀, hg0⟩ := Option.isSome_iff_exists.mp htop
  obtain ⟨r, hr⟩ := State.topJava?_eq_some.mp hg0
  have hl9 : e.platform.stackLimits (T.setVm s.vm).me = e.platform.stackLimits s.me := X.limits
  have hb9 : (T.setVm s.vm).me.stackBytes = s.me.stackBytes := X.bytes
  refine ⟨X.admits, X.cas, X.clock, hF, ?_, X.hears, X.method, X.code, X.here, X.tail, X.warmed, ?_, ?_, ?_⟩
  · have h := X.room
    have hU : ((T.setVm s.vm).setFrames (.invoking m args :: below)).localsInUse = s.localsInUse := by
      rw [State.localsInUse_invoking hF (meth := meth) (c := c) X.method X.code, State.localsInUse_invoking X.frames X.method X.code]
    simp only [State.hasRoom, Bool.and_eq_true, decide_eq_true_eq] at h ⊢
    obtain ⟨⟨⟨⟨h1, h2, h3, h4, h5, h6⟩, h7⟩, h8⟩, h9⟩ := h
    rw [X.frames, List.length_cons] at h2 h3
    have q1 := X.heapSize
    have q2 := X.used
    simp only [hF, hU, List.length_cons, State.stackLimits_setFrames, State.stackBytes_setFrames, hl9, hb9]
    refine ⟨⟨⟨⟨by omega, by omega, by omega, by omega, by omega, h6⟩, ?_⟩, ?_⟩, X.book⟩
    · show T.heap.size + R'.cells ≤ e.platform.maxCells
      omega
    · show T.slotsUsed + R'.slots ≤ e.platform.maxSlots
      omega
  · rw [State.stackLimits_setFrames]; rfl
  · rw [State.stackBytes_setFrames]; rfl
  · refine ⟨?_, Nat.le_refl _, Nat.le_refl _, ?_, ?_, fun a c9 h9 => ⟨c9, h9, rfl, rfl, fun _ _ => rfl⟩⟩
    · obtain ⟨t, ht, -⟩ := State.frames_cons hr
      show T.setVm s.vm = { ((T.setVm s.vm).setFrames (.invoking m args :: below)).setFrames (T.setVm s.vm).frames with heap := T.heap, slotsUsed := T.slotsUsed }
      rw [State.setFrames_setFrames, State.setFrames_self ht]
      rfl
    · show T.slotsUsed = T.slotsUsed + ((T.heap.toList.drop T.heap.size).map (·.slots.size)).sum
      rw [List.drop_eq_nil_of_le (Nat.le_of_eq Array.length_toList)]
      rfl
    · show ((T.heap.toList.drop T.heap.size).map (·.slots.size)).sum ≤ 0
      rw [List.drop_eq_nil_of_le (Nat.le_of_eq Array.length_toList)]
      exact Nat.le_refl _
/-- 'throw new E()': new; dup; invokespecial; athrow -/
theorem vx_throw0 {cc : ByteArray} {pc : Nat} (hexec : p.tables.exec = Jvm.exec) (hb : c.code = cc) (hl : l.stackTraces = false) {own cls : String} {names : List String} {ik ic mc ms : Nat} {A : Nat → Prop}
    (hown : s.vm.findClass own = some m.cls) (hcls : Bundle.fit cls = true) (hnames : ∀ n ∈ names, Bundle.fit n = true)
    (hk : (Cond.classLink own ik cls).before args s = true) (hini : (Cond.initialized cls).before args s = true) (hat : ∀ w ∈ vx_at0 own ic cls names, w.before args s = true)
    (hgood : ∀ w ∈ Cond.classLink own ik cls :: Cond.initialized cls :: vx_at0 own ic cls names, vx_ot w = true)
    (hU : vx_Zq Bundle.tN "UNASSIGNED_STACK" Bundle.steD A s s.heap) (hN : vx_Zq Bundle.tN "SUPPRESSED_SENTINEL" Bundle.listD A s s.heap) (hS : va_S A s.heap H locs) (hsize : ls.size = c.maxLocals)
    (d0 : decode cc pc = .ok (.new ik, 3)) (d3 : decode cc (pc + 3) = .ok (.dup, 1)) (d4 : decode cc (pc + 4) = .ok (.invokespecial ic, 3)) (d7 : decode cc (pc + 7) = .ok (.athrow, 1))
    (hout : ∀ x ∈ c.exceptionTable.toList, covers x (pc + 7) = false)
    (hRframes : names.length + 3 < R.frames) (hRlocals : (rest.map fun v => v.category).sum + (13 * (names.length + 1) + 42) ≤ R.locals) (hRcells : cells + 1 ≤ R.cells) (hRslots : slots + 6 ≤ R.slots) (hlocks : meth.locks = false)
    (hx : ∀ t : State, s.vm.Alike t.vm → H.size ≤ t.heap.size → (∀ q : Nat, q < H.size → t.heap[q]? = H[q]?) → XC cls s t)
    (hf : ∀ z ∈ locs, free z.base) (hc : cells + 1 ≤ mc) (hs : slots + 6 ≤ ms) :
    W p l e R s m args below meth c H locs cells slots (vx_MQ below Qc XC args s mc ms free) (F0 m pc ls rest) := by
  intro T hT X
  have htr : e.platform.stackTraces = false := (show e.platform.stackTraces = l.stackTraces by rw [X.admits.platform]).trans hl
  have Y := vx_rebase X (R' := { frames := R.frames, locals := R.locals, cells := 1, slots := 6 }) (Nat.le_refl _) (Nat.le_refl _) hRcells hRslots
  obtain ⟨s', hA⟩ : ∃ z, z = (T.setVm s.vm).setFrames (.invoking m args :: below) := ⟨_, rfl⟩
  rw [← hA] at Y
  have hvm : s'.vm = s.vm := by rw [hA]; rfl
  have hhp : s'.heap = H := by rw [hA]; exact hT
  have hW0 : s.WarmedH s'.vm := by rw [hvm]; exact State.WarmedH.refl s
  have hat' : ∀ w ∈ vx_at0 own ic cls names, w.before args s' = true := fun w hw => vx_ot_at hW0 hvm.symm (hgood w (List.mem_cons_of_mem _ (List.mem_cons_of_mem _ hw))) (hat w hw)
  have hk' : (Cond.classLink own ik cls).before args s' = true := vx_ot_at hW0 hvm.symm (hgood _ List.mem_cons_self) hk
  have hini' : (Cond.initialized cls).before args s' = true := vx_ot_at hW0 hvm.symm (hgood _ (List.mem_cons_of_mem _ List.mem_cons_self)) hini
  have hU' : vx_Zq Bundle.tN "UNASSIGNED_STACK" Bundle.steD A s' s'.heap := by rw [hhp]; exact vx_Zq.moved hW0.alike (hU.kept hS.2.1)
  have hN' : vx_Zq Bundle.tN "SUPPRESSED_SENTINEL" Bundle.listD A s' s'.heap := by rw [hhp]; exact vx_Zq.moved hW0.alike (hN.kept hS.2.1)
  have h : ∀ w ∈ Bundle.ownAtoms0 own ic cls names, w.before args s' = true := vx_own hat' (vx_isRefq hU'.1) (vx_isRefq hN'.1) hU'.2.word hN'.2.word
  have hown' : s'.vm.findClass own = some m.cls := by rw [hvm]; exact hown
  have hins : (Cond.instantiable cls 6).before args s' = true := h _ (by simp [Bundle.ownAtoms0])
  obtain ⟨vm₁, cX, kX, hfX, hkX, -, -, X₁, st1⟩ := Y.newCold hexec (own := own) (C := cls) (index := ik) (n := 6) hown' hk' hins hini'
    (g := F0 m pc ls rest) rfl (by rw [hb]; exact d0) (Nat.le_refl _) (Nat.le_refl _)
  generalize hT1 : (T.setVm vm₁).pushCell { cls := cX, slots := kX.instanceTypes.map defaultValue, vm := .none } = T1 at X₁ st1
  have hcat : (Value.ref T.heap.size).category = 1 := rfl
  have hcellA : T1.heap[T.heap.size]? = some (freshCell cX kX) := by rw [← hT1]; exact State.heap_pushCell_size _ _
  have d3' : decode c.code (pc + 3) = .ok (.dup, 1) := by rw [hb]; exact d3
  obtain ⟨U, hsteps, hrun, hend, hW, hsame, ce, hce, hO⟩ := X₁.ctorThrow0 hexec htr (own := own) (cls := cls) (names := names) (ic := ic) hown' hcls hnames h (fun x hx => nomatch hx) hfX hkX hcellA (by rw [hhp, hT]; exact Nat.le_refl _)
    (g := { method := m, pc := pc + 4, locals := ls, stack := .ref T.heap.size :: .ref T.heap.size :: rest, locked := none }) rfl hsize rfl rfl (rest := rest) rfl
    (by rw [hb]; exact d4) (by rw [hb]; exact d7) hout hRframes (by simp only [List.map_cons, List.sum_cons, hcat]; omega) hlocks
  obtain ⟨f1, f2⟩ := vx_frame hsame
  rw [hhp] at f1 f2
  have hWs : s.WarmedH U.vm := State.WarmedH.trans hW0 hW
  have hcl : s.vm.findClass cls = some ce.cls := by
    have h9 := hO.cls
    rw [hvm] at h9
    exact h9
  have hall : s.sameButNew ({ U with vm := s.vm } : State) locs mc ms := by
    subst hA
    obtain ⟨e1, e2⟩ := hsame
    rw [State.setFrames_setFrames] at e1
    have h2 : (T.setVm s.vm).sameButNew ({ U with vm := s.vm } : State) [] (0 + 1) (0 + 6) := ⟨e1, e2⟩
    have h3 := X.same.trans h2
    rw [List.append_nil] at h3
    exact h3.mono hc hs
  refine ⟨U, ?_, .threw T.heap.size, hrun, hend, Or.inr ⟨T.heap.size, rfl, cls, ce, locs, hx U hWs.alike f1 (fun q hq => f2 q hq (fun z hz => nomatch hz)), hce, hO.vm, hcl, hWs, hall, hf⟩⟩
  refine st1 _ ?_
  show Steps p.tables e below (T1.setTop { method := m, pc := pc + 3, locals := ls, stack := .ref T.heap.size :: rest, locked := none }) _
  jvm_step X₁.here [X₁.here.top, hexec, d3', Value.category]
  exact hsteps
/-- 'throw new E("text")': new; dup; ldc; invokespecial; athrow -/
theorem vx_throwS {cc : ByteArray} {pc : Nat} (hexec : p.tables.exec = Jvm.exec) (hb : c.code = cc) (hl : l.stackTraces = false) {own cls text : String} {names : List String} {ik is ic mc ms sa : Nat} {A : Nat → Prop}
    (hown : s.vm.findClass own = some m.cls) (hcls : Bundle.fit cls = true) (hnames : ∀ n ∈ names, Bundle.fit n = true)
    (hk : (Cond.classLink own ik cls).before args s = true) (hini : (Cond.initialized cls).before args s = true) (hstr : vk_R own is text sa s) (hat : ∀ w ∈ vx_atS own ic cls names, w.before args s = true)
    (hgood : ∀ w ∈ Cond.classLink own ik cls :: Cond.initialized cls :: vx_atS own ic cls names, vx_ot w = true)
    (hU : vx_Zq Bundle.tN "UNASSIGNED_STACK" Bundle.steD A s s.heap) (hN : vx_Zq Bundle.tN "SUPPRESSED_SENTINEL" Bundle.listD A s s.heap) (hS : va_S A s.heap H locs) (hsize : ls.size = c.maxLocals)
    (d0 : decode cc pc = .ok (.new ik, 3)) (d3 : decode cc (pc + 3) = .ok (.dup, 1)) (d4 : decode cc (pc + 4) = .ok (.ldc is, 2)) (d6 : decode cc (pc + 6) = .ok (.invokespecial ic, 3)) (d9 : decode cc (pc + 9) = .ok (.athrow, 1))
    (hout : ∀ x ∈ c.exceptionTable.toList, covers x (pc + 9) = false)
    (hRframes : names.length + 3 < R.frames) (hRlocals : (rest.map fun v => v.category).sum + (13 * (names.length + 1) + 43) ≤ R.locals) (hRcells : cells + 1 ≤ R.cells) (hRslots : slots + 6 ≤ R.slots) (hlocks : meth.locks = false)
    (hx : ∀ t : State, s.vm.Alike t.vm → H.size ≤ t.heap.size → (∀ q : Nat, q < H.size → t.heap[q]? = H[q]?) → XC cls s t)
    (hf : ∀ z ∈ locs, free z.base) (hc : cells + 1 ≤ mc) (hs : slots + 6 ≤ ms) :
    W p l e R s m args below meth c H locs cells slots (vx_MQ below Qc XC args s mc ms free) (F0 m pc ls rest) := by
  intro T hT X
  have htr : e.platform.stackTraces = false := (show e.platform.stackTraces = l.stackTraces by rw [X.admits.platform]).trans hl
  have Y := vx_rebase X (R' := { frames := R.frames, locals := R.locals, cells := 1, slots := 6 }) (Nat.le_refl _) (Nat.le_refl _) hRcells hRslots
  obtain ⟨s', hA⟩ : ∃ z, z = (T.setVm s.vm).setFrames (.invoking m args :: below) := ⟨_, rfl⟩
  rw [← hA] at Y
  have hvm : s'.vm = s.vm := by rw [hA]; rfl
  have hhp : s'.heap = H := by rw [hA]; exact hT
  have hW0 : s.WarmedH s'.vm := by rw [hvm]; exact State.WarmedH.refl s
  have hat' : ∀ w ∈ vx_atS own ic cls names, w.before args s' = true := fun w hw => vx_ot_at hW0 hvm.symm (hgood w (List.mem_cons_of_mem _ (List.mem_cons_of_mem _ hw))) (hat w hw)
  have hk' : (Cond.classLink own ik cls).before args s' = true := vx_ot_at hW0 hvm.symm (hgood _ List.mem_cons_self) hk
  have hini' : (Cond.initialized cls).before args s' = true := vx_ot_at hW0 hvm.symm (hgood _ (List.mem_cons_of_mem _ List.mem_cons_self)) hini
  have hU' : vx_Zq Bundle.tN "UNASSIGNED_STACK" Bundle.steD A s' s'.heap := by rw [hhp]; exact vx_Zq.moved hW0.alike (hU.kept hS.2.1)
  have hN' : vx_Zq Bundle.tN "SUPPRESSED_SENTINEL" Bundle.listD A s' s'.heap := by rw [hhp]; exact vx_Zq.moved hW0.alike (hN.kept hS.2.1)
  have h : ∀ w ∈ Bundle.ownAtoms own ic cls names, w.before args s' = true := vx_own hat' (vx_isRefq hU'.1) (vx_isRefq hN'.1) hU'.2.word hN'.2.word
  have hown' : s'.vm.findClass own = some m.cls := by rw [hvm]; exact hown
  have hins : (Cond.instantiable cls 6).before args s' = true := h _ (by simp [Bundle.ownAtoms])
  obtain ⟨vm₁, cX, kX, hfX, hkX, -, -, X₁, st1⟩ := Y.newCold hexec (own := own) (C := cls) (index := ik) (n := 6) hown' hk' hins hini'
    (g := F0 m pc ls rest) rfl (by rw [hb]; exact d0) (Nat.le_refl _) (Nat.le_refl _)
  generalize hT1 : (T.setVm vm₁).pushCell { cls := cX, slots := kX.instanceTypes.map defaultValue, vm := .none } = T1 at X₁ st1
  have hcat : (Value.ref T.heap.size).category = 1 := rfl
  have hcellA : T1.heap[T.heap.size]? = some (freshCell cX kX) := by rw [← hT1]; exact State.heap_pushCell_size _ _
  have d3' : decode c.code (pc + 3) = .ok (.dup, 1) := by rw [hb]; exact d3
  have d4' : decode c.code (pc + 4) = .ok (.ldc is, 2) := by rw [hb]; exact d4
  have hstr' : vk_R own is text sa s' := vk_R.warm hW0 hstr
  obtain ⟨U, hsteps, hrun, hend, hW, hsame, ce, hce, hO⟩ := X₁.ctorThrowS hexec htr (own := own) (cls := cls) (names := names) (ic := ic) hown' hcls hnames h (fun x hx => nomatch hx) hfX hkX hcellA (by rw [hhp, hT]; exact Nat.le_refl _) (msg := .ref sa) rfl
    (g := { method := m, pc := pc + 6, locals := ls, stack := .ref sa :: .ref T.heap.size :: .ref T.heap.size :: rest, locked := none }) rfl hsize rfl rfl (rest := rest) rfl
    (by rw [hb]; exact d6) (by rw [hb]; exact d9) hout hRframes (by simp only [List.map_cons, List.sum_cons, hcat]; omega) hlocks
  obtain ⟨f1, f2⟩ := vx_frame hsame
  rw [hhp] at f1 f2
  have hWs : s.WarmedH U.vm := State.WarmedH.trans hW0 hW
  have hcl : s.vm.findClass cls = some ce.cls := by
    have h9 := hO.cls
    rw [hvm] at h9
    exact h9
  have hall : s.sameButNew ({ U with vm := s.vm } : State) locs mc ms := by
    subst hA
    obtain ⟨e1, e2⟩ := hsame
    rw [State.setFrames_setFrames] at e1
    have h2 : (T.setVm s.vm).sameButNew ({ U with vm := s.vm } : State) [] (0 + 1) (0 + 6) := ⟨e1, e2⟩
    have h3 := X.same.trans h2
    rw [List.append_nil] at h3
    exact h3.mono hc hs
  refine ⟨U, ?_, .threw T.heap.size, hrun, hend, Or.inr ⟨T.heap.size, rfl, cls, ce, locs, hx U hWs.alike f1 (fun q hq => f2 q hq (fun z hz => nomatch hz)), hce, hO.vm, hcl, hWs, hall, hf⟩⟩
  refine st1 _ ?_
  show Steps p.tables e below (T1.setTop { method := m, pc := pc + 3, locals := ls, stack := .ref T.heap.size :: rest, locked := none }) _
  jvm_step X₁.here [X₁.here.top, hexec, d3', Value.category]
  exact X₁.ldcString hexec (own := own) (text := text) (index := is) (a := sa) hown' hstr'.1 hstr'.2
    (g := { method := m, pc := pc + 4, locals := ls, stack := .ref T.heap.size :: .ref T.heap.size :: rest, locked := none }) rfl d4' _ hsteps
/-- 'throw new E("text")', the text by a wide index -/
theorem vx_throwSW {cc : ByteArray} {pc : Nat} (hexec : p.tables.exec = Jvm.exec) (hb : c.code = cc) (hl : l.stackTraces = false) {own cls text : String} {names : List String} {ik is ic mc ms sa : Nat} {A : Nat → Prop}
    (hown : s.vm.findClass own = some m.cls) (hcls : Bundle.fit cls = true) (hnames : ∀ n ∈ names, Bundle.fit n = true)
    (hk : (Cond.classLink own ik cls).before args s = true) (hini : (Cond.initialized cls).before args s = true) (hstr : vk_R own is text sa s) (hat : ∀ w ∈ vx_atS own ic cls names, w.before args s = true)
    (hgood : ∀ w ∈ Cond.classLink own ik cls :: Cond.initialized cls :: vx_atS own ic cls names, vx_ot w = true)
    (hU : vx_Zq Bundle.tN "UNASSIGNED_STACK" Bundle.steD A s s.heap) (hN : vx_Zq Bundle.tN "SUPPRESSED_SENTINEL" Bundle.listD A s s.heap) (hS : va_S A s.heap H locs) (hsize : ls.size = c.maxLocals)
    (d0 : decode cc pc = .ok (.new ik, 3)) (d3 : decode cc (pc + 3) = .ok (.dup, 1)) (d4 : decode cc (pc + 4) = .ok (.ldc_w is, 3)) (d7 : decode cc (pc + 7) = .ok (.invokespecial ic, 3)) (d10 : decode cc (pc + 10) = .ok (.athrow, 1))
    (hout : ∀ x ∈ c.exceptionTable.toList, covers x (pc + 10) = false)
    (hRframes : names.length + 3 < R.frames) (hRlocals : (rest.map fun v => v.category).sum + (13 * (names.length + 1) + 43) ≤ R.locals) (hRcells : cells + 1 ≤ R.cells) (hRslots : slots + 6 ≤ R.slots) (hlocks : meth.locks = false)
    (hx : ∀ t : State, s.vm.Alike t.vm → H.size ≤ t.heap.size → (∀ q : Nat, q < H.size → t.heap[q]? = H[q]?) → XC cls s t)
    (hf : ∀ z ∈ locs, free z.base) (hc : cells + 1 ≤ mc) (hs : slots + 6 ≤ ms) :
    W p l e R s m args below meth c H locs cells slots (vx_MQ below Qc XC args s mc ms free) (F0 m pc ls rest) := by
  intro T hT X
  have htr : e.platform.stackTraces = false := (show e.platform.stackTraces = l.stackTraces by rw [X.admits.platform]).trans hl
  have Y := vx_rebase X (R' := { frames := R.frames, locals := R.locals, cells := 1, slots := 6 }) (Nat.le_refl _) (Nat.le_refl _) hRcells hRslots
  obtain ⟨s', hA⟩ : ∃ z, z = (T.setVm s.vm).setFrames (.invoking m args :: below) := ⟨_, rfl⟩
  rw [← hA] at Y
  have hvm : s'.vm = s.vm := by rw [hA]; rfl
  have hhp : s'.heap = H := by rw [hA]; exact hT
  have hW0 : s.WarmedH s'.vm := by rw [hvm]; exact State.WarmedH.refl s
  have hat' : ∀ w ∈ vx_atS own ic cls names, w.before args s' = true := fun w hw => vx_ot_at hW0 hvm.symm (hgood w (List.mem_cons_of_mem _ (List.mem_cons_of_mem _ hw))) (hat w hw)
  have hk' : (Cond.classLink own ik cls).before args s' = true := vx_ot_at hW0 hvm.symm (hgood _ List.mem_cons_self) hk
  have hini' : (Cond.initialized cls).before args s' = true := vx_ot_at hW0 hvm.symm (hgood _ (List.mem_cons_of_mem _ List.mem_cons_self)) hini
  have hU' : vx_Zq Bundle.tN "UNASSIGNED_STACK" Bundle.steD A s' s'.heap := by rw [hhp]; exact vx_Zq.moved hW0.alike (hU.kept hS.2.1)
  have hN' : vx_Zq Bundle.tN "SUPPRESSED_SENTINEL" Bundle.listD A s' s'.heap := by rw [hhp]; exact vx_Zq.moved hW0.alike (hN.kept hS.2.1)
  have h : ∀ w ∈ Bundle.ownAtoms own ic cls names, w.before args s' = true := vx_own hat' (vx_isRefq hU'.1) (vx_isRefq hN'.1) hU'.2.word hN'.2.word
  have hown' : s'.vm.findClass own = some m.cls := by rw [hvm]; exact hown
  have hins : (Cond.instantiable cls 6).before args s' = true := h _ (by simp [Bundle.ownAtoms])
  obtain ⟨vm₁, cX, kX, hfX, hkX, -, -, X₁, st1⟩ := Y.newCold hexec (own := own) (C := cls) (index := ik) (n := 6) hown' hk' hins hini'
    (g := F0 m pc ls rest) rfl (by rw [hb]; exact d0) (Nat.le_refl _) (Nat.le_refl _)
  generalize hT1 : (T.setVm vm₁).pushCell { cls := cX, slots := kX.instanceTypes.map defaultValue, vm := .none } = T1 at X₁ st1
  have hcat : (Value.ref T.heap.size).category = 1 := rfl
  have hcellA : T1.heap[T.heap.size]? = some (freshCell cX kX) := by rw [← hT1]; exact State.heap_pushCell_size _ _
  have d3' : decode c.code (pc + 3) = .ok (.dup, 1) := by rw [hb]; exact d3
  have d4' : decode c.code (pc + 4) = .ok (.ldc_w is, 3) := by rw [hb]; exact d4
  have hstr' : vk_R own is text sa s' := vk_R.warm hW0 hstr
  obtain ⟨U, hsteps, hrun, hend, hW, hsame, ce, hce, hO⟩ := X₁.ctorThrowS hexec htr (own := own) (cls := cls) (names := names) (ic := ic) hown' hcls hnames h (fun x hx => nomatch hx) hfX hkX hcellA (by rw [hhp, hT]; exact Nat.le_refl _) (msg := .ref sa) rfl
    (g := { method := m, pc := pc + 7, locals := ls, stack := .ref sa :: .ref T.heap.size :: .ref T.heap.size :: rest, locked := none }) rfl hsize rfl rfl (rest := rest) rfl
    (by rw [hb]; exact d7) (by rw [hb]; exact d10) hout hRframes (by simp only [List.map_cons, List.sum_cons, hcat]; omega) hlocks
  obtain ⟨f1, f2⟩ := vx_frame hsame
  rw [hhp] at f1 f2
  have hWs : s.WarmedH U.vm := State.WarmedH.trans hW0 hW
  have hcl : s.vm.findClass cls = some ce.cls := by
    have h9 := hO.cls
    rw [hvm] at h9
    exact h9
  have hall : s.sameButNew ({ U with vm := s.vm } : State) locs mc ms := by
    subst hA
    obtain ⟨e1, e2⟩ := hsame
    rw [State.setFrames_setFrames] at e1
    have h2 : (T.setVm s.vm).sameButNew ({ U with vm := s.vm } : State) [] (0 + 1) (0 + 6) := ⟨e1, e2⟩
    have h3 := X.same.trans h2
    rw [List.append_nil] at h3
    exact h3.mono hc hs
  refine ⟨U, ?_, .threw T.heap.size, hrun, hend, Or.inr ⟨T.heap.size, rfl, cls, ce, locs, hx U hWs.alike f1 (fun q hq => f2 q hq (fun z hz => nomatch hz)), hce, hO.vm, hcl, hWs, hall, hf⟩⟩
  refine st1 _ ?_
  show Steps p.tables e below (T1.setTop { method := m, pc := pc + 3, locals := ls, stack := .ref T.heap.size :: rest, locked := none }) _
  jvm_step X₁.here [X₁.here.top, hexec, d3', Value.category]
  exact X₁.ldcStringW hexec (own := own) (text := text) (index := is) (a := sa) hown' hstr'.1 hstr'.2
    (g := { method := m, pc := pc + 4, locals := ls, stack := .ref T.heap.size :: .ref T.heap.size :: rest, locked := none }) rfl d4' _ hsteps
end Ends
section Bodies
variable {l : Launch}
theorem vx_ofW {y : MethodName} {ws ws' : List Cond} {rm : Room} {Pc : Array Value → State → Prop} {Qc : Array Value → State → Outcome → State → Prop} {XC : String → State → State → Prop} {mc ms : Nat} {free : Addr → Prop} {cc : ByteArray} {maxL : Nat} {ret : Option FieldType}
    (hy : plainName y.cls = true) (hw : ws = Cond.code y cc maxL ret :: ws')
    (body : ∀ p e s m args below meth c s₁, BodyLoose p l y (headSpec ws rm) cc maxL ret e s m args below meth c s₁ → c.maxLocals = maxL → (∀ x ∈ c.exceptionTable.toList, False) → Pc args s →
      W p l e (headSpec ws rm).room s m args below meth c s.heap [] 0 0 (vx_MQ below Qc XC args s mc ms free) (entryFrame m args maxL)) : vx_Met l y ws rm Pc Qc XC mc ms free := by
  refine MetFree.of_bodyS (code := cc) (maxLocals := maxL) (ret := ret) hy ?_ ?_
  · intro args s m h hn
    obtain ⟨meth, c, h1, h2, h3, h4, h5, h6, -, -⟩ := Cond.code_spec hn (atoms_spec (ws := ws) h _ (by rw [hw]; exact List.mem_cons_self))
    exact ⟨meth, c, h1, h2, h3, h4, h5, h6⟩
  · intro p e s m args below meth c s₁ B hml hP _
    have hh0 : s₁.heap = s.heap := by rw [B.state]; rfl
    have ht : ∀ x ∈ c.exceptionTable.toList, False := by
      obtain ⟨meth9, c9, h1, h2, -, -, -, -, h7, -⟩ := Cond.code_spec B.named (atoms_spec (ws := ws) B.pre _ (by rw [hw]; exact List.mem_cons_self))
      cases Option.some.inj (h1.symm.trans B.method)
      cases Option.some.inj (h2.symm.trans (Stand.of_body B).code)
      intro x hx
      rw [Array.isEmpty_iff.mp h7] at hx
      cases hx
    obtain ⟨t, a1, o, b1, b2, b3⟩ := body p e s m args below meth c s₁ B hml ht hP s₁ hh0 (Stand.of_body B)
    exact ⟨t, o, a1, b1, b2, b3⟩
/-- the table of a body with handlers -/
theorem vx_table {p : Program} {x y : MethodName} {S : Spec} {cc bytes : ByteArray} {maxL maxL' : Nat} {ret ret' : Option FieldType} {e : Env} {s s₁ : State} {m : MethodId} {args : Array Value} {below : List Frame} {meth : Method} {c : Code} {hh : List (Nat × Nat × Nat × Nat)}
    (B : BodyLoose p l y S cc maxL ret e s m args below meth c s₁) (h : (Cond.codeWith y bytes maxL' ret' hh).before args s = true) : c.exceptionTable.toList = tableOf hh := by
  obtain ⟨m9, meth9, c9, hn9, h1, h2, -, -, h6, -⟩ := Cond.codeWith_spec h
  cases Option.some.inj (hn9.symm.trans B.named)
  cases Option.some.inj (h1.symm.trans B.method)
  cases Option.some.inj (h2.symm.trans (Stand.of_body B).code)
  rw [← h6, table_eq]
end Bodies
end VXA
/-! ===== END ===== -/
/-! ===== BEGIN a static call of a method with an exception table ===== -/
section VXS
variable {p : Program} {l : Launch} {e : Env} {R : Room} {s : State} {m : MethodId} {args : Array Value} {below : List Frame} {meth : Method} {c : Code} {T : State} {H : Heap} {locs : List Loc} {cells slots : Nat}
abbrev vx_CSW (R : Room) (s : State) (args : Array Value) (own : String) (index : Nat) (y : MethodName) (bytes : ByteArray) (maxL : Nat) (ret : Option FieldType) (hh : List (Nat × Nat × Nat × Nat)) (ws : List Cond) (rm : Room) (mc ms n : Nat) : Prop :=
  (rm.cells = mc ∧ rm.slots = ms ∧ rm.frames + 1 ≤ R.frames ∧ 8 + (maxL + 11) + rm.locals ≤ R.locals ∧ (∀ w ∈ ws, ∀ (a' : Array Value) (U : State), s.WarmedH U.vm → w.before a' U = true) ∧ Cond.codeWith y bytes maxL ret hh ∈ ws) ∧
  (Cond.codeWith y bytes maxL ret hh).before args s = true ∧ (Cond.initialized y.cls).before args s = true ∧ (y.cls ≠ "java/lang/invoke/MethodHandle" ∧ y.cls ≠ "java/lang/invoke/VarHandle") ∧
  (∀ sig, parseMethodDescriptor y.desc = some sig → n = sig.parameters.length) ∧ (Cond.methodLink own index y).before args s = true ∧ (Cond.static y).before args s = true
theorem vx_cwSW {own : String} {index maxL mc ms : Nat} {y : MethodName} {bytes : ByteArray} {ret : Option FieldType} {hh : List (Nat × Nat × Nat × Nat)} {Ts ws ws' : List Cond} {rm : Room} (n : Nat) (ht : ∀ w ∈ Ts, w.before args s = true) (hT : GoodIn Ts (va_wsS own index y ws)) (hw : ws = Cond.codeWith y bytes maxL ret hh :: ws') (hrc : rm.cells = mc) (hrs : rm.slots = ms)
    (hd : y.cls ≠ "java/lang/invoke/MethodHandle" ∧ y.cls ≠ "java/lang/invoke/VarHandle" ∧ (parseMethodDescriptor y.desc).map (fun d => d.parameters.length) = some n) (hR : rm.frames + 1 ≤ R.frames ∧ 8 + (maxL + 11) + rm.locals ≤ R.locals) :
    vx_CSW R s args own index y bytes maxL ret hh ws rm mc ms n := by
  have ok : ∀ w ∈ va_wsS own index y ws, w.before args s = true := fun w h => ht w (hT w h).1
  have hG : GoodIn Ts ws := fun w h => hT w (by unfold va_wsS; exact List.mem_append_right _ h)
  have hc : Cond.codeWith y bytes maxL ret hh ∈ ws := by rw [hw]; exact List.mem_cons_self
  refine ⟨⟨hrc, hrs, hR.1, hR.2, pay_in ht hG, hc⟩, ht _ (hG _ hc).1, ok _ (by simp [va_wsS]), ⟨hd.1, hd.2.1⟩, fun sig h => ?_, ok _ (by simp [va_wsS]), ok _ (by simp [va_wsS])⟩
  have h2 := hd.2.2
  rw [h] at h2
  exact (Option.some.inj h2).symm
theorem vx_callSW (X : Stand p l e R s m args below meth c T locs cells slots) (hexec : p.tables.exec = Jvm.exec) {own : String} {index : Nat} {y : MethodName} {bytes : ByteArray} {maxL : Nat} {ret : Option FieldType} {hh : List (Nat × Nat × Nat × Nat)}
    (hown : s.vm.findClass own = some m.cls) (hlink : (Cond.methodLink own index y).before args s = true) (hstat : (Cond.static y).before args s = true) (hinit : (Cond.initialized y.cls).before args s = true)
    (hcode : (Cond.codeWith y bytes maxL ret hh).before args s = true) (hy : y.cls ≠ "java/lang/invoke/MethodHandle" ∧ y.cls ≠ "java/lang/invoke/VarHandle")
    {W9 : Nat} {Pre : Pt → Array Value → Prop} {Post : Pt → Array Value → Option Value → Pt → Prop} (hK : Back l R p e below s args y 3 W9 Pre Post)
    {g : JFrame} (hg : g.method = m) (hsize : g.locals.size = c.maxLocals) {argsL rest : List Value} (hlen : ∀ sig, parseMethodDescriptor y.desc = some sig → argsL.length = sig.parameters.length)
    (hstack : g.stack = argsL.reverse ++ rest) (hW : 2 * g.monitorRoom + (rest.map fun v => v.category).sum ≤ W9) (hdg : decode c.code g.pc = .ok (.invokestatic index, 3))
    (hpre : ∀ vm₁, s.WarmedH vm₁ → Pre ⟨T.setVm vm₁, locs, cells, slots⟩ argsL.toArray) :
    ∃ (v : Option Value) (vm₁ : Vm) (B : Pt), s.WarmedH vm₁ ∧ Stand p l e R s m args below meth c B.U B.locs B.cells B.slots ∧ Post ⟨T.setVm vm₁, locs, cells, slots⟩ argsL.toArray v B ∧
      ∀ target, Steps p.tables e below (B.U.setTop { g with pc := g.pc + 3, stack := v.toList ++ rest }) target → Steps p.tables e below (T.setTop g) target := by
  obtain ⟨mk, methM, cM, hnamed, hmethM, -, -, -, -, -, -, hsigM⟩ := Cond.codeWith_spec hcode
  have hstatic : methM.isStatic = true := Cond.static_spec hnamed hmethM hstat
  obtain ⟨kP, hkP, -⟩ := className_of_methodNamed hnamed
  have hinitP : kP.init = .initialized := Cond.initialized_spec (findClass_of_methodNamed hnamed) hkP hinit
  obtain ⟨vm₁, X₁, hstep₁⟩ := X.invokestatic hexec hown hlink hnamed hmethM hstatic hkP hinitP hy (g := g) hg (argsL := argsL) (rest := rest) (hlen _ hsigM) hstack hdg
  obtain ⟨v, B, X', hpost, hsteps⟩ := hK m meth c ⟨T.setVm vm₁, locs, cells, slots⟩ { g with stack := rest } (.invokestatic index) mk argsL.toArray X₁ hg hsize hdg hW (X₁.named hnamed) (hpre vm₁ X₁.warmed)
  exact ⟨v, vm₁, B, X₁.warmed, X', hpost, fun target h => hstep₁ _ fun acts => by rw [doInvoke_state]; exact hsteps.trans h⟩
theorem vx_runSW {y : MethodName} {bytes cc : ByteArray} {maxL nL mc ms n index : Nat} {ret : Option FieldType} {hh : List (Nat × Nat × Nat × Nat)} {ws : List Cond} {rm : Room} {Pc : Array Value → State → Prop} {Qc : Array Value → State → Outcome → State → Prop} {free : Addr → Prop} {Ts : List Cond} {own : String} {As rest : List Value} {g : JFrame}
    (S : CallFix p m c cc nL s args Ts own) (hM : Met l y ws rm Pc Qc mc ms free) (cw : vx_CSW R s args own index y bytes maxL ret hh ws rm mc ms n) (hp : PreS s H Pc As)
    (hg : g.method = m) (hn : As.length = n) (hsize : g.locals.size = nL) (hstack : g.stack = As.reverse ++ rest) (hW : 2 * g.monitorRoom + (rest.map fun v => v.category).sum ≤ 8) (hdg : decode cc g.pc = .ok (.invokestatic index, 3)) (hf : cells + mc ≤ R.cells ∧ slots + ms ≤ R.slots) :
    va_Run p l e R s m args below meth c H locs cells slots mc ms g rest (Qc As.toArray) (free) := by
  obtain ⟨⟨hrc, hrs, hfr, hlo, hws, hcw⟩, hcode, hini, hy, hlen, hl, hstt⟩ := cw
  have hK : Back l R p e below s args y 3 8 (PreOf R mc ms Pc) (PostOf Qc mc ms free) := va_backW (hh := hh) (bytes := bytes) (maxL := maxL) (ret := ret) hM hp.1 hrc hrs hfr hlo hws hcw (fun a' U hW => word_at hW (Or.inl (by first | rfl | simp [Cond.onTables, Cond.keeps, Cond.steady])) hini)
  obtain ⟨hx, hb, hml, ho, -⟩ := S
  intro T hT X
  obtain ⟨v, vm₁, ⟨U', l2, c2, s2⟩, hW₁, X', ⟨g', mk, t, L, e1, e2, hq, h1, hL, h2, h3⟩, st⟩ := vx_callSW X hx (hh := hh) (bytes := bytes) (maxL := maxL) (ret := ret) ho hl hstt hini hcode hy hK hg (hsize.trans hml.symm) (argsL := As) (rest := rest) (fun sig h => hn.trans (hlen sig h)) hstack hW (by rw [hb]; exact hdg)
    (fun vm₁ hW₁ => ⟨hf.1, hf.2, hp.2 (T.setVm vm₁) hT hW₁⟩)
  dsimp only [Pt.U, Pt.locs, Pt.cells, Pt.slots] at X' e1 e2 h1 h2 h3 st
  subst h1; subst h2; subst h3
  exact ⟨v, (T.setVm vm₁).calling g' mk As.toArray, t, U', L, hT, X', hL, e1, e2, hq, st⟩
/-- not caught here, past rows that name other classes: it goes on to the caller -/
theorem vx_outP {p : Program} {l : Launch} {e : Env} {R : Room} {s : State} {m : MethodId} {args : Array Value} {below : List Frame} {meth : Method} {c : Code} {H : Heap} {locs : List Loc} {cells slots : Nat} {free : Addr → Prop} {ls : Array Slot} {rest : List Value} {Qc : Array Value → State → Outcome → State → Prop} {XC : String → State → State → Prop}
    {pc : Nat} {own E : String} {ce : Cell} {q : Addr} {mc ms : Nat} (hown : s.vm.findClass own = some m.cls) (hlocks : meth.locks = false)
    (hpass : ∀ z ∈ c.exceptionTable.toList, covers z pc = false ∨ (z.catchType ≠ 0 ∧ ∃ nm : String, (Cond.classLink own z.catchType nm).before args s = true ∧ va_Nc E nm s)) (hcell : H[q]? = some ce) (hv : ce.vm = .none) (hcl : s.vm.findClass E = some ce.cls)
    (hx : ∀ t : State, t.heap = H → s.vm.Alike t.vm → XC E s t) (hf : ∀ z ∈ locs, free z.base) (hc : cells ≤ mc) (hs : slots ≤ ms) :
    vx_W p l e R s m args below meth c H locs cells slots (vx_MQ below Qc XC args s mc ms free) (F0 m pc ls rest) q := by
  intro T hT X
  have hpl : e.platform.magicAccessors = ({} : Platform).magicAccessors := by rw [X.admits.platform]
  obtain ⟨vm', hW', X', st⟩ := X.outThrough hlocks q (g := F0 m pc ls rest) rfl rfl rfl (cell := ce) (by rw [hT]; exact hcell) (by rw [hv]; rfl)
    (by obtain ⟨k9, h9, -⟩ := Vm.findClass_spec hcl; exact ⟨k9, h9⟩) (fun z hz => by
      rcases hpass z hz with h | ⟨hz0, nm, hl1, hn1⟩
      · exact Or.inl h
      · obtain ⟨c6, hc6, hcl6⟩ := Cond.classLink_spec hown hl1 e.platform hpl
        obtain ⟨a8, b8, h1, h2, h3⟩ := hn1
        cases Option.some.inj (h1.symm.trans hcl)
        cases Option.some.inj (h2.symm.trans hc6)
        exact Or.inr ⟨hz0, _, hcl6, h3⟩)
  obtain ⟨g₀, hfr⟩ := X'.frames_eq
  have hcell9 : ((T.setVm vm').setFrames (.throwing q :: below)).heap[q]? = some ce := by
    show T.heap[q]? = some ce
    rw [hT]; exact hcell
  have hend : Ended ((T.setVm vm').setFrames (.throwing q :: below)) below (.threw q) := State.frames_setFrames _ (State.cur_lt_of_frames hfr)
  refine ⟨(T.setVm vm').setFrames (.throwing q :: below), ?_, .threw q, X'.here.running, hend, Or.inr ⟨q, rfl, E, ce, locs, hx _ hT (X'.ends _).1.alike, hcell9, hv, hcl, (X'.ends _).1, (X'.ends _).2.mono hc hs, hf⟩⟩
  rw [X.pushThrowing_eq]
  exact st
/-- a thing of a world lies in the heap -/
theorem vx_lt {D : va_G} {cl : List vw_C} {ws : va_W} {H1 : Heap} (h : va_P D cl ws H1) {k : Nat} {q : Nat × va_E} (hk : ws[k]? = some q) : q.1 < H1.size := (h k q hk).lt
end VXS
/-! ===== END ===== -/
/-! ===== BEGIN methods with a table of their own: called by a name, returning or throwing ===== -/
section VXH
/-! vx_backW, vx_callVX, vx_callSX, vx_callVW, vx_runVW, vx_runVX, vx_runSX, vx_ofWH follow the same proofs as their sisters above (Free/Laws.lean, Shelf42/LK1.lean); vx_outP calls Shelf42/NT130.lean (outThrough). -/
section
variable {l : Launch} {R : Room} {p : Program} {e : Env} {below : List Frame} {s : State} {sargs : Array Value} {y : MethodName} {len W9 : Nat}
theorem vx_backW {ws : List Cond} {rm : Room} {Pc : Array Value → State → Prop} {Qc : Array Value → State → Outcome → State → Prop} {XC : String → State → State → Prop} {mc ms : Nat} {free : Addr → Prop} {bytes : ByteArray} {maxL : Nat} {ret : Option FieldType} {hh : List (Nat × Nat × Nat × Nat)}
    (hM : vx_Met l y ws rm Pc Qc XC mc ms free) (hblind : FrameBlind Pc) (hrc : rm.cells = mc) (hrs : rm.slots = ms)
    (hframes : rm.frames + 1 ≤ R.frames) (hlocals : W9 + (maxL + 11) + rm.locals ≤ R.locals)
    (hws : ∀ w ∈ ws, ∀ a' U, s.WarmedH U.vm → w.before a' U = true) (hcode : Cond.codeWith y bytes maxL ret hh ∈ ws) (hinit : ∀ a' U, s.WarmedH U.vm → (Cond.initialized y.cls).before a' U = true) :
    vx_Back l R p e below s sargs y len W9 (PreOf R mc ms Pc) (PostOf Qc mc ms free) (vx_Post XC mc ms free) := by
  intro m meth c A g ig mk a X hg hsize hdg hW hn hp
  have h1 : (headSpec ws rm).pre.before a A.U = true := atoms_intro fun w hw => hws w hw _ _ X.warmed
  have h2 : (Cond.codeWith y bytes maxL ret hh).before a A.U = true := hws _ hcode _ _ X.warmed
  have h3 : (Cond.initialized y.cls).before a A.U = true := hinit _ _ X.warmed
  have h4 : A.cells + (headSpec ws rm).room.cells ≤ R.cells := by rw [show (headSpec ws rm).room.cells = mc from hrc]; exact hp.1
  have h5 : A.slots + (headSpec ws rm).room.slots ≤ R.slots := by rw [show (headSpec ws rm).room.slots = ms from hrs]; exact hp.2.1
  have hPc : Pc a (A.U.calling g mk a) := hblind _ _ _ _ hp.2.2
  obtain ⟨U, Ls, c0, s0⟩ := A
  dsimp only [Pt.U, Pt.locs, Pt.cells, Pt.slots] at h1 h2 h3 h4 h5 X hn hPc ⊢
  obtain ⟨m9, methY, cY, hn9, hmY, hcY, -, hlY, -⟩ := Cond.codeWith_spec h2
  cases Option.some.inj (hn9.symm.trans hn)
  obtain ⟨kY, hkY, -⟩ := className_of_methodNamed hn
  have hinitY : kY.init = .initialized := Cond.initialized_spec (findClass_of_methodNamed hn) hkY h3
  have h : At U g.method c below := by rw [hg]; exact X.here
  have hlocals9 : W9 + (maxL + 11) + (headSpec ws rm).room.locals ≤ R.locals := hlocals
  have happ : (headSpec ws rm).appliesLoose y e.platform (U.calling g mk a) = true :=
    Spec.appliesLoose_calling (g := g) h hdg hn hkY hinitY
      (X.room_calling (g := g) (R' := (headSpec ws rm).room) hsize hmY hcY hframes (by rw [hlY]; omega) h4 h5) h1
  obtain ⟨mid, hmid⟩ := h.above
  have hfr : (U.setTop g).frames = (.java g :: mid) ++ below := by rw [State.frames_setTop' g h.top, hmid]; rfl
  obtain ⟨o, s₂, hsteps, -, hend, hq⟩ := Steps.callFree hM p X.admits X.cas X.clock (acts := []) hfr happ hPc trivial
  have hq' : vx_Q Qc XC mc ms free a (U.calling g mk a) o s₂ := hq
  rw [State.frames_setTop' g h.top] at hend
  obtain ⟨g₀, hg0⟩ := Option.isSome_iff_exists.mp h.top
  obtain ⟨r, hr⟩ := State.topJava?_eq_some.mp hg0
  have hr' : (({ U with heap := s₂.heap, slotsUsed := s₂.slotsUsed } : State).setVm s₂.vm).frames = .java g₀ :: r := hr
  rcases hq' with ⟨hqc, L, hfe, hL⟩ | ⟨q, rfl, E, ce, L, hx, hce, hcv, hcl, hW₂, hsm, hL⟩
  · obtain ⟨⟨v, rfl⟩, hW₂, e2, q2, q3, q4, q5, q6⟩ := id hfe
    have e3 : s₂ = ({ (U.calling g mk a).setFrames s₂.frames with heap := s₂.heap, slotsUsed := s₂.slotsUsed } : State).setVm s₂.vm := by
      have : s₂ = ({ s₂ with vm := (U.calling g mk a).vm } : State).setVm s₂.vm := rfl
      rw [e2] at this
      exact this
    obtain ⟨c₂, i₂, len₂, hc₂, hd₂, hf₂⟩ := hend
    have hW' : U.WarmedH s₂.vm := hW₂
    have hcc : c₂ = c := by
      have h1 : s₂.code? g.method = U.code? g.method := by
        rw [State.code?_eq, State.code?_eq, hW'.alike.method?]
      exact Option.some.inj (hc₂.symm.trans (h1.trans h.code))
    subst hcc
    have hlen : len₂ = len := by rw [hdg] at hd₂; cases hd₂; rfl
    subst hlen
    have hs₂ : s₂ = (({ U with heap := s₂.heap, slotsUsed := s₂.slotsUsed } : State).setVm s₂.vm).setTop { g with pc := g.pc + len₂, stack := v.toList ++ g.stack } := by
      refine e3.trans ?_
      rw [hf₂, State.calling_eq h.top, State.setFrames_setFrames, State.setTop_of_frames _ hr', hr]
      rfl
    have hsame : U.sameButNew ({ U with heap := s₂.heap, slotsUsed := s₂.slotsUsed } : State) L mc ms := by
      refine ⟨?_, q2, q3, q4, q5, q6⟩
      obtain ⟨t, ht, -⟩ := State.frames_cons hr
      show ({ U with heap := s₂.heap, slotsUsed := s₂.slotsUsed } : State) = { U.setFrames U.frames with heap := s₂.heap, slotsUsed := s₂.slotsUsed }
      rw [State.setFrames_self ht]
    subst hg
    refine Or.inl ⟨v, ⟨(({ U with heap := s₂.heap, slotsUsed := s₂.slotsUsed } : State).setVm s₂.vm), Ls ++ L, c0 + mc, s0 + ms⟩,
      ⟨X.admits, X.cas, X.clock, X.frames, X.room, X.hears, X.method, X.code, (X.here.setHeapUsed s₂.heap s₂.slotsUsed).setVm hW'.alike, X.tail, State.WarmedH.trans X.warmed hW', X.limits, X.bytes, X.same.trans (hsame.setVm s.vm)⟩,
      ⟨g, mk, s₂, L, rfl, rfl, hqc, rfl, hL, rfl, rfl⟩, ?_⟩
    show Steps p.tables e below _ ((({ U with heap := s₂.heap, slotsUsed := s₂.slotsUsed } : State).setVm s₂.vm).setTop { g with pc := g.pc + len₂, stack := v.toList ++ g.stack })
    rw [← hs₂]
    exact hsteps
  · obtain ⟨e2, q2, q3, q4, q5, q6⟩ := id hsm
    have e3 : s₂ = ({ (U.calling g mk a).setFrames s₂.frames with heap := s₂.heap, slotsUsed := s₂.slotsUsed } : State).setVm s₂.vm := by
      have : s₂ = ({ s₂ with vm := (U.calling g mk a).vm } : State).setVm s₂.vm := rfl
      rw [e2] at this
      exact this
    have hf₂ : s₂.frames = .throwing q :: .java g :: U.frames.tail := hend
    have hW' : U.WarmedH s₂.vm := hW₂
    have hs₂ : s₂ = ((({ U with heap := s₂.heap, slotsUsed := s₂.slotsUsed } : State).setVm s₂.vm).setTop g).pushFrame (.throwing q) := by
      refine e3.trans ?_
      rw [hf₂, State.calling_eq h.top, State.setFrames_setFrames, State.pushFrame, State.frames_setTop _ hr', State.setTop_of_frames _ hr', State.setFrames_setFrames, hr]
      rfl
    have hsame : U.sameButNew ({ U with heap := s₂.heap, slotsUsed := s₂.slotsUsed } : State) L mc ms := by
      refine ⟨?_, q2, q3, q4, q5, q6⟩
      obtain ⟨t, ht, -⟩ := State.frames_cons hr
      show ({ U with heap := s₂.heap, slotsUsed := s₂.slotsUsed } : State) = { U.setFrames U.frames with heap := s₂.heap, slotsUsed := s₂.slotsUsed }
      rw [State.setFrames_self ht]
    subst hg
    refine Or.inr ⟨q, ⟨(({ U with heap := s₂.heap, slotsUsed := s₂.slotsUsed } : State).setVm s₂.vm), Ls ++ L, c0 + mc, s0 + ms⟩,
      ⟨X.admits, X.cas, X.clock, X.frames, X.room, X.hears, X.method, X.code, (X.here.setHeapUsed s₂.heap s₂.slotsUsed).setVm hW'.alike, X.tail, State.WarmedH.trans X.warmed hW', X.limits, X.bytes, X.same.trans (hsame.setVm s.vm)⟩,
      ⟨g, mk, s₂, L, E, ce, rfl, rfl, hx, hce, hcv, hcl, rfl, hL, rfl, rfl⟩, ?_⟩
    show Steps p.tables e below _ (((({ U with heap := s₂.heap, slotsUsed := s₂.slotsUsed } : State).setVm s₂.vm).setTop g).pushFrame (.throwing q))
    rw [← hs₂]
    exact hsteps
end
variable {p : Program} {l : Launch} {e : Env} {R : Room} {s : State} {m : MethodId} {args : Array Value} {below : List Frame} {meth : Method} {c : Code} {T : State} {H : Heap} {locs : List Loc} {cells slots : Nat}
theorem vx_callVX (X : Stand p l e R s m args below meth c T locs cells slots) (hexec : p.tables.exec = Jvm.exec) {own C : String} {index : Nat} {y : MethodName} {bytes : ByteArray} {maxL : Nat} {ret : Option FieldType} {hh : List (Nat × Nat × Nat × Nat)}
    (hown : s.vm.findClass own = some m.cls) (hlink : (Cond.methodLink own index y).before args s = true) (hinst : (Cond.instanceMethod y).before args s = true) (hsel : (Cond.selects C y y).before args s = true)
    (hcode : (Cond.codeWith y bytes maxL ret hh).before args s = true) (hy : y.cls ≠ "java/lang/invoke/MethodHandle" ∧ y.cls ≠ "java/lang/invoke/VarHandle")
    {W9 : Nat} {Pre : Pt → Array Value → Prop} {Post : Pt → Array Value → Option Value → Pt → Prop} {PostX : Pt → Array Value → Addr → Pt → Prop} (hK : vx_Back l R p e below s args y 3 W9 Pre Post PostX)
    {b : Addr} {cellB : Cell} (hcell : T.heap[b]? = some cellB) (hobj : cellB.vm.isStatics = false) (hcls : s.vm.findClass C = some cellB.cls)
    {g : JFrame} (hg : g.method = m) (hsize : g.locals.size = c.maxLocals) {argsL rest : List Value} (hlen : ∀ sig, parseMethodDescriptor y.desc = some sig → argsL.length = sig.parameters.length)
    (hstack : g.stack = argsL.reverse ++ .ref b :: rest) (hW : 2 * g.monitorRoom + (rest.map fun v => v.category).sum ≤ W9) (hdg : decode c.code g.pc = .ok (.invokevirtual index, 3))
    (hpre : ∀ vm₁, s.WarmedH vm₁ → Pre ⟨T.setVm vm₁, locs, cells, slots⟩ (Value.ref b :: argsL).toArray) :
    (∃ (v : Option Value) (vm₁ : Vm) (B : Pt), s.WarmedH vm₁ ∧ Stand p l e R s m args below meth c B.U B.locs B.cells B.slots ∧ Post ⟨T.setVm vm₁, locs, cells, slots⟩ (Value.ref b :: argsL).toArray v B ∧
      ∀ target, Steps p.tables e below (B.U.setTop { g with pc := g.pc + 3, stack := v.toList ++ rest }) target → Steps p.tables e below (T.setTop g) target) ∨
    (∃ (q : Addr) (vm₁ : Vm) (B : Pt), s.WarmedH vm₁ ∧ Stand p l e R s m args below meth c B.U B.locs B.cells B.slots ∧ PostX ⟨T.setVm vm₁, locs, cells, slots⟩ (Value.ref b :: argsL).toArray q B ∧
      Steps p.tables e below (T.setTop g) ((B.U.setTop { g with stack := rest }).pushFrame (.throwing q))) := by
  obtain ⟨mk, methM, hnamed, hmethM, hstM, habM⟩ := Cond.instanceMethod_spec hinst
  obtain ⟨m8, methM', cM, hn8, hmethM', -, -, -, -, -, -, hsigM⟩ := Cond.codeWith_spec hcode
  cases Option.some.inj (hn8.symm.trans hnamed)
  cases hmethM.symm.trans hmethM'
  obtain ⟨c2, r2, m2, q1, q2, q3, q4, kP, hkP, hkPi⟩ := Cond.selects_spec hsel
  cases hcls.symm.trans q1
  cases (State.methodFound?_of_named hnamed hy).symm.trans q2
  cases hnamed.symm.trans q3
  have hselP : selectMethod e.platform s.vm cellB.cls mk = .method mk := by rw [Launch.admits_selectMethod X.admits]; exact q4
  obtain ⟨vm₁, X₁, hstep₁⟩ := X.invokevirtual hexec hown hlink hnamed hmethM hstM hkP hkPi hy (a := b) (cell := cellB) hcell
    (fun z h => by rw [h] at hobj; cases hobj) hselP hmethM habM hkP hkPi (g := g) hg (argsL := argsL) (rest := rest) (hlen _ hsigM) hstack hdg
  rcases hK m meth c ⟨T.setVm vm₁, locs, cells, slots⟩ { g with stack := rest } (.invokevirtual index) mk (Value.ref b :: argsL).toArray X₁ hg hsize hdg hW (X₁.named hnamed) (hpre vm₁ X₁.warmed) with ⟨v, B, X', hpost, hsteps⟩ | ⟨q, B, X', hpost, hsteps⟩
  · exact Or.inl ⟨v, vm₁, B, X₁.warmed, X', hpost, fun target h => hstep₁ _ fun acts => by rw [doInvoke_state]; exact hsteps.trans h⟩
  · exact Or.inr ⟨q, vm₁, B, X₁.warmed, X', hpost, hstep₁ _ fun acts => by rw [doInvoke_state]; exact hsteps⟩
theorem vx_callSX (X : Stand p l e R s m args below meth c T locs cells slots) (hexec : p.tables.exec = Jvm.exec) {own : String} {index : Nat} {y : MethodName} {bytes : ByteArray} {maxL : Nat} {ret : Option FieldType} {hh : List (Nat × Nat × Nat × Nat)}
    (hown : s.vm.findClass own = some m.cls) (hlink : (Cond.methodLink own index y).before args s = true) (hstat : (Cond.static y).before args s = true) (hinit : (Cond.initialized y.cls).before args s = true)
    (hcode : (Cond.codeWith y bytes maxL ret hh).before args s = true) (hy : y.cls ≠ "java/lang/invoke/MethodHandle" ∧ y.cls ≠ "java/lang/invoke/VarHandle")
    {W9 : Nat} {Pre : Pt → Array Value → Prop} {Post : Pt → Array Value → Option Value → Pt → Prop} {PostX : Pt → Array Value → Addr → Pt → Prop} (hK : vx_Back l R p e below s args y 3 W9 Pre Post PostX)
    {g : JFrame} (hg : g.method = m) (hsize : g.locals.size = c.maxLocals) {argsL rest : List Value} (hlen : ∀ sig, parseMethodDescriptor y.desc = some sig → argsL.length = sig.parameters.length)
    (hstack : g.stack = argsL.reverse ++ rest) (hW : 2 * g.monitorRoom + (rest.map fun v => v.category).sum ≤ W9) (hdg : decode c.code g.pc = .ok (.invokestatic index, 3))
    (hpre : ∀ vm₁, s.WarmedH vm₁ → Pre ⟨T.setVm vm₁, locs, cells, slots⟩ argsL.toArray) :
    (∃ (v : Option Value) (vm₁ : Vm) (B : Pt), s.WarmedH vm₁ ∧ Stand p l e R s m args below meth c B.U B.locs B.cells B.slots ∧ Post ⟨T.setVm vm₁, locs, cells, slots⟩ argsL.toArray v B ∧
      ∀ target, Steps p.tables e below (B.U.setTop { g with pc := g.pc + 3, stack := v.toList ++ rest }) target → Steps p.tables e below (T.setTop g) target) ∨
    (∃ (q : Addr) (vm₁ : Vm) (B : Pt), s.WarmedH vm₁ ∧ Stand p l e R s m args below meth c B.U B.locs B.cells B.slots ∧ PostX ⟨T.setVm vm₁, locs, cells, slots⟩ argsL.toArray q B ∧
      Steps p.tables e below (T.setTop g) ((B.U.setTop { g with stack := rest }).pushFrame (.throwing q))) := by
  obtain ⟨mk, methM, cM, hnamed, hmethM, -, -, -, -, -, -, hsigM⟩ := Cond.codeWith_spec hcode
  have hstatic : methM.isStatic = true := Cond.static_spec hnamed hmethM hstat
  obtain ⟨kP, hkP, -⟩ := className_of_methodNamed hnamed
  have hinitP : kP.init = .initialized := Cond.initialized_spec (findClass_of_methodNamed hnamed) hkP hinit
  obtain ⟨vm₁, X₁, hstep₁⟩ := X.invokestatic hexec hown hlink hnamed hmethM hstatic hkP hinitP hy (g := g) hg (argsL := argsL) (rest := rest) (hlen _ hsigM) hstack hdg
  rcases hK m meth c ⟨T.setVm vm₁, locs, cells, slots⟩ { g with stack := rest } (.invokestatic index) mk argsL.toArray X₁ hg hsize hdg hW (X₁.named hnamed) (hpre vm₁ X₁.warmed) with ⟨v, B, X', hpost, hsteps⟩ | ⟨q, B, X', hpost, hsteps⟩
  · exact Or.inl ⟨v, vm₁, B, X₁.warmed, X', hpost, fun target h => hstep₁ _ fun acts => by rw [doInvoke_state]; exact hsteps.trans h⟩
  · exact Or.inr ⟨q, vm₁, B, X₁.warmed, X', hpost, hstep₁ _ fun acts => by rw [doInvoke_state]; exact hsteps⟩
theorem vx_callVW (X : Stand p l e R s m args below meth c T locs cells slots) (hexec : p.tables.exec = Jvm.exec) {own C : String} {index : Nat} {y : MethodName} {bytes : ByteArray} {maxL : Nat} {ret : Option FieldType} {hh : List (Nat × Nat × Nat × Nat)}
    (hown : s.vm.findClass own = some m.cls) (hlink : (Cond.methodLink own index y).before args s = true) (hinst : (Cond.instanceMethod y).before args s = true) (hsel : (Cond.selects C y y).before args s = true)
    (hcode : (Cond.codeWith y bytes maxL ret hh).before args s = true) (hy : y.cls ≠ "java/lang/invoke/MethodHandle" ∧ y.cls ≠ "java/lang/invoke/VarHandle")
    {W9 : Nat} {Pre : Pt → Array Value → Prop} {Post : Pt → Array Value → Option Value → Pt → Prop} (hK : Back l R p e below s args y 3 W9 Pre Post)
    {b : Addr} {cellB : Cell} (hcell : T.heap[b]? = some cellB) (hobj : cellB.vm.isStatics = false) (hcls : s.vm.findClass C = some cellB.cls)
    {g : JFrame} (hg : g.method = m) (hsize : g.locals.size = c.maxLocals) {argsL rest : List Value} (hlen : ∀ sig, parseMethodDescriptor y.desc = some sig → argsL.length = sig.parameters.length)
    (hstack : g.stack = argsL.reverse ++ .ref b :: rest) (hW : 2 * g.monitorRoom + (rest.map fun v => v.category).sum ≤ W9) (hdg : decode c.code g.pc = .ok (.invokevirtual index, 3))
    (hpre : ∀ vm₁, s.WarmedH vm₁ → Pre ⟨T.setVm vm₁, locs, cells, slots⟩ (Value.ref b :: argsL).toArray) :
    ∃ (v : Option Value) (vm₁ : Vm) (B : Pt), s.WarmedH vm₁ ∧ Stand p l e R s m args below meth c B.U B.locs B.cells B.slots ∧ Post ⟨T.setVm vm₁, locs, cells, slots⟩ (Value.ref b :: argsL).toArray v B ∧
      ∀ target, Steps p.tables e below (B.U.setTop { g with pc := g.pc + 3, stack := v.toList ++ rest }) target → Steps p.tables e below (T.setTop g) target := by
  obtain ⟨mk, methM, hnamed, hmethM, hstM, habM⟩ := Cond.instanceMethod_spec hinst
  obtain ⟨m8, methM', cM, hn8, hmethM', -, -, -, -, -, -, hsigM⟩ := Cond.codeWith_spec hcode
  cases Option.some.inj (hn8.symm.trans hnamed)
  cases hmethM.symm.trans hmethM'
  obtain ⟨c2, r2, m2, q1, q2, q3, q4, kP, hkP, hkPi⟩ := Cond.selects_spec hsel
  cases hcls.symm.trans q1
  cases (State.methodFound?_of_named hnamed hy).symm.trans q2
  cases hnamed.symm.trans q3
  have hselP : selectMethod e.platform s.vm cellB.cls mk = .method mk := by rw [Launch.admits_selectMethod X.admits]; exact q4
  obtain ⟨vm₁, X₁, hstep₁⟩ := X.invokevirtual hexec hown hlink hnamed hmethM hstM hkP hkPi hy (a := b) (cell := cellB) hcell
    (fun z h => by rw [h] at hobj; cases hobj) hselP hmethM habM hkP hkPi (g := g) hg (argsL := argsL) (rest := rest) (hlen _ hsigM) hstack hdg
  obtain ⟨v, B, X', hpost, hsteps⟩ := hK m meth c ⟨T.setVm vm₁, locs, cells, slots⟩ { g with stack := rest } (.invokevirtual index) mk (Value.ref b :: argsL).toArray X₁ hg hsize hdg hW (X₁.named hnamed) (hpre vm₁ X₁.warmed)
  exact ⟨v, vm₁, B, X₁.warmed, X', hpost, fun target h => hstep₁ _ fun acts => by rw [doInvoke_state]; exact hsteps.trans h⟩
abbrev vx_CVW (R : Room) (s : State) (args : Array Value) (own C : String) (index : Nat) (y : MethodName) (bytes : ByteArray) (maxL : Nat) (ret : Option FieldType) (hh : List (Nat × Nat × Nat × Nat)) (ws : List Cond) (rm : Room) (mc ms n : Nat) : Prop :=
  (rm.cells = mc ∧ rm.slots = ms ∧ rm.frames + 1 ≤ R.frames ∧ 8 + (maxL + 11) + rm.locals ≤ R.locals ∧ (∀ w ∈ ws, ∀ (a' : Array Value) (U : State), s.WarmedH U.vm → w.before a' U = true) ∧ Cond.codeWith y bytes maxL ret hh ∈ ws) ∧
  (Cond.codeWith y bytes maxL ret hh).before args s = true ∧ (Cond.initialized y.cls).before args s = true ∧ (y.cls ≠ "java/lang/invoke/MethodHandle" ∧ y.cls ≠ "java/lang/invoke/VarHandle") ∧
  (∀ sig, parseMethodDescriptor y.desc = some sig → n = sig.parameters.length) ∧ (Cond.methodLink own index y).before args s = true ∧ (Cond.instanceMethod y).before args s = true ∧ (Cond.selects C y y).before args s = true
theorem vx_cwVW {own C : String} {index maxL mc ms : Nat} {y : MethodName} {bytes : ByteArray} {ret : Option FieldType} {hh : List (Nat × Nat × Nat × Nat)} {Ts ws ws' : List Cond} {rm : Room} (n : Nat) (ht : ∀ w ∈ Ts, w.before args s = true) (hT : GoodIn Ts (wsV own index C y ws)) (hw : ws = Cond.codeWith y bytes maxL ret hh :: ws') (hrc : rm.cells = mc) (hrs : rm.slots = ms)
    (hd : y.cls = C ∧ y.cls ≠ "java/lang/invoke/MethodHandle" ∧ y.cls ≠ "java/lang/invoke/VarHandle" ∧ (parseMethodDescriptor y.desc).map (fun d => d.parameters.length) = some n) (hR : rm.frames + 1 ≤ R.frames ∧ 8 + (maxL + 11) + rm.locals ≤ R.locals) :
    vx_CVW R s args own C index y bytes maxL ret hh ws rm mc ms n := by
  obtain ⟨hC, hd⟩ := hd
  subst hC
  have ok : ∀ w ∈ wsV own index y.cls y ws, w.before args s = true := fun w h => ht w (hT w h).1
  have hG : GoodIn Ts ws := fun w h => hT w (by unfold wsV; exact List.mem_append_right _ h)
  have hc : Cond.codeWith y bytes maxL ret hh ∈ ws := by rw [hw]; exact List.mem_cons_self
  refine ⟨⟨hrc, hrs, hR.1, hR.2, pay_in ht hG, hc⟩, ht _ (hG _ hc).1, ok _ (by simp [wsV]), ⟨hd.1, hd.2.1⟩, fun sig h => ?_, ok _ (by simp [wsV]), ok _ (by simp [wsV]), ok _ (by simp [wsV])⟩
  have h2 := hd.2.2
  rw [h] at h2
  exact (Option.some.inj h2).symm
theorem vx_runVW {y : MethodName} {bytes cc : ByteArray} {maxL nL mc ms n index : Nat} {ret : Option FieldType} {hh : List (Nat × Nat × Nat × Nat)} {ws : List Cond} {rm : Room} {Pc : Array Value → State → Prop} {Qc : Array Value → State → Outcome → State → Prop} {free : Addr → Prop} {Ts : List Cond} {own C : String} {b : Addr} {As rest : List Value} {g : JFrame}
    (S : CallFix p m c cc nL s args Ts own) (hM : Met l y ws rm Pc Qc mc ms free) (cw : vx_CVW R s args own C index y bytes maxL ret hh ws rm mc ms n) (hp : PreV s H C b Pc As)
    (hg : g.method = m) (hn : As.length = n) (hsize : g.locals.size = nL) (hstack : g.stack = As.reverse ++ .ref b :: rest) (hW : 2 * g.monitorRoom + (rest.map fun v => v.category).sum ≤ 8) (hdg : decode cc g.pc = .ok (.invokevirtual index, 3)) (hf : cells + mc ≤ R.cells ∧ slots + ms ≤ R.slots) :
    va_Run p l e R s m args below meth c H locs cells slots mc ms g rest (Qc (Value.ref b :: As).toArray) free := by
  obtain ⟨⟨hrc, hrs, hfr, hlo, hws, hcw⟩, hcode, hini, hy, hlen, hl, hin, hse⟩ := cw
  have hK : Back l R p e below s args y 3 8 (PreOf R mc ms Pc) (PostOf Qc mc ms free) := va_backW (hh := hh) (bytes := bytes) (maxL := maxL) (ret := ret) hM hp.1 hrc hrs hfr hlo hws hcw (fun a' U hW => word_at hW (Or.inl (by first | rfl | simp [Cond.onTables, Cond.keeps, Cond.steady])) hini)
  obtain ⟨hx, hb, hml, ho, -⟩ := S
  obtain ⟨-, ⟨cellB, hcB, hoB, hclB⟩, hPc⟩ := hp
  intro T hT X
  obtain ⟨v, vm₁, ⟨U', l2, c2, s2⟩, hW₁, X', ⟨g', mk, t, L, e1, e2, hq, h1, hL, h2, h3⟩, st⟩ := vx_callVW X hx (C := C) (hh := hh) (bytes := bytes) (maxL := maxL) (ret := ret) ho hl hin hse hcode hy hK (by rw [hT]; exact hcB) hoB hclB hg (hsize.trans hml.symm) (argsL := As) (rest := rest) (fun sig h => hn.trans (hlen sig h)) hstack hW (by rw [hb]; exact hdg)
    (fun vm₁ hW₁ => ⟨hf.1, hf.2, hPc (T.setVm vm₁) hT hW₁⟩)
  dsimp only [Pt.U, Pt.locs, Pt.cells, Pt.slots] at X' e1 e2 h1 h2 h3 st
  subst h1; subst h2; subst h3
  exact ⟨v, (T.setVm vm₁).calling g' mk (Value.ref b :: As).toArray, t, U', L, hT, X', hL, e1, e2, hq, st⟩
section
variable {y : MethodName} {bytes cc : ByteArray} {maxL nL mc ms n index : Nat} {ret : Option FieldType} {ws : List Cond} {rm : Room} {Pc : Array Value → State → Prop} {Qc : Array Value → State → Outcome → State → Prop} {XC : String → State → State → Prop} {free : Addr → Prop} {Ts : List Cond} {own C : String} {b : Addr} {As rest : List Value} {g : JFrame}
theorem vx_runVX {hh : List (Nat × Nat × Nat × Nat)} (S : CallFix p m c cc nL s args Ts own) (hM : vx_Met l y ws rm Pc Qc XC mc ms free) (cw : vx_CVW R s args own C index y bytes maxL ret hh ws rm mc ms n) (hp : PreV s H C b Pc As)
    (hg : g.method = m) (hn : As.length = n) (hsize : g.locals.size = nL) (hstack : g.stack = As.reverse ++ .ref b :: rest) (hW : 2 * g.monitorRoom + (rest.map fun v => v.category).sum ≤ 8) (hdg : decode cc g.pc = .ok (.invokevirtual index, 3)) (hf : cells + mc ≤ R.cells ∧ slots + ms ≤ R.slots) :
    vx_Run p l e R s m args below meth c H locs cells slots mc ms g rest (Qc (Value.ref b :: As).toArray) XC free := by
  obtain ⟨⟨hrc, hrs, hfr, hlo, hws, hcw⟩, hcode, hini, hy, hlen, hl, hin, hse⟩ := cw
  have hK : vx_Back l R p e below s args y 3 8 (PreOf R mc ms Pc) (PostOf Qc mc ms free) (vx_Post XC mc ms free) := vx_backW (hh := hh) (bytes := bytes) (maxL := maxL) (ret := ret) hM hp.1 hrc hrs hfr hlo hws hcw (fun a' U hW => word_at hW (Or.inl (by first | rfl | simp [Cond.onTables, Cond.keeps, Cond.steady])) hini)
  obtain ⟨hx, hb, hml, ho, -⟩ := S
  obtain ⟨-, ⟨cellB, hcB, hoB, hclB⟩, hPc⟩ := hp
  intro T hT X
  rcases vx_callVX X hx (C := C) (hh := hh) (bytes := bytes) (maxL := maxL) (ret := ret) ho hl hin hse hcode hy hK (by rw [hT]; exact hcB) hoB hclB hg (hsize.trans hml.symm) (argsL := As) (rest := rest) (fun sig h => hn.trans (hlen sig h)) hstack hW (by rw [hb]; exact hdg)
    (fun vm₁ hW₁ => ⟨hf.1, hf.2, hPc (T.setVm vm₁) hT hW₁⟩) with ⟨v, vm₁, ⟨U', l2, c2, s2⟩, hW₁, X', ⟨g', mk, t, L, e1, e2, hq, h1, hL, h2, h3⟩, st⟩ | ⟨q, vm₁, ⟨U', l2, c2, s2⟩, hW₁, X', ⟨g', mk, t, L, E, ce, e1, e2, hq, hce, hcv, hcl, h1, hL, h2, h3⟩, st⟩
  · dsimp only [Pt.U, Pt.locs, Pt.cells, Pt.slots] at X' e1 e2 h1 h2 h3 st
    subst h1; subst h2; subst h3
    exact Or.inl ⟨v, (T.setVm vm₁).calling g' mk (Value.ref b :: As).toArray, t, U', L, hT, X', hL, e1, e2, hq, st⟩
  · dsimp only [Pt.U, Pt.locs, Pt.cells, Pt.slots] at X' e1 e2 h1 h2 h3 st hcl
    subst h1; subst h2; subst h3
    exact Or.inr ⟨q, (T.setVm vm₁).calling g' mk (Value.ref b :: As).toArray, t, U', L, E, ce, hT, X', hL, e1, e2, hq, hce, hcv, vx_cls hW₁ hcl, st⟩
theorem vx_runSX {hh : List (Nat × Nat × Nat × Nat)} (S : CallFix p m c cc nL s args Ts own) (hM : vx_Met l y ws rm Pc Qc XC mc ms free) (cw : vx_CSW R s args own index y bytes maxL ret hh ws rm mc ms n) (hp : PreS s H Pc As)
    (hg : g.method = m) (hn : As.length = n) (hsize : g.locals.size = nL) (hstack : g.stack = As.reverse ++ rest) (hW : 2 * g.monitorRoom + (rest.map fun v => v.category).sum ≤ 8) (hdg : decode cc g.pc = .ok (.invokestatic index, 3)) (hf : cells + mc ≤ R.cells ∧ slots + ms ≤ R.slots) :
    vx_Run p l e R s m args below meth c H locs cells slots mc ms g rest (Qc As.toArray) XC free := by
  obtain ⟨⟨hrc, hrs, hfr, hlo, hws, hcw⟩, hcode, hini, hy, hlen, hl, hstt⟩ := cw
  have hK : vx_Back l R p e below s args y 3 8 (PreOf R mc ms Pc) (PostOf Qc mc ms free) (vx_Post XC mc ms free) := vx_backW (hh := hh) (bytes := bytes) (maxL := maxL) (ret := ret) hM hp.1 hrc hrs hfr hlo hws hcw (fun a' U hW => word_at hW (Or.inl (by first | rfl | simp [Cond.onTables, Cond.keeps, Cond.steady])) hini)
  obtain ⟨hx, hb, hml, ho, -⟩ := S
  intro T hT X
  rcases vx_callSX X hx (hh := hh) (bytes := bytes) (maxL := maxL) (ret := ret) ho hl hstt hini hcode hy hK hg (hsize.trans hml.symm) (argsL := As) (rest := rest) (fun sig h => hn.trans (hlen sig h)) hstack hW (by rw [hb]; exact hdg)
    (fun vm₁ hW₁ => ⟨hf.1, hf.2, hp.2 (T.setVm vm₁) hT hW₁⟩) with ⟨v, vm₁, ⟨U', l2, c2, s2⟩, hW₁, X', ⟨g', mk, t, L, e1, e2, hq, h1, hL, h2, h3⟩, st⟩ | ⟨q, vm₁, ⟨U', l2, c2, s2⟩, hW₁, X', ⟨g', mk, t, L, E, ce, e1, e2, hq, hce, hcv, hcl, h1, hL, h2, h3⟩, st⟩
  · dsimp only [Pt.U, Pt.locs, Pt.cells, Pt.slots] at X' e1 e2 h1 h2 h3 st
    subst h1; subst h2; subst h3
    exact Or.inl ⟨v, (T.setVm vm₁).calling g' mk As.toArray, t, U', L, hT, X', hL, e1, e2, hq, st⟩
  · dsimp only [Pt.U, Pt.locs, Pt.cells, Pt.slots] at X' e1 e2 h1 h2 h3 st hcl
    subst h1; subst h2; subst h3
    exact Or.inr ⟨q, (T.setVm vm₁).calling g' mk As.toArray, t, U', L, E, ce, hT, X', hL, e1, e2, hq, hce, hcv, vx_cls hW₁ hcl, st⟩
end
end VXH
theorem vx_ofWH {l : Launch} {y : MethodName} {ws ws' : List Cond} {rm : Room} {Pc : Array Value → State → Prop} {Qc : Array Value → State → Outcome → State → Prop} {XC : String → State → State → Prop} {mc ms : Nat} {free : Addr → Prop} {cc : ByteArray} {maxL : Nat} {ret : Option FieldType} {hh : List (Nat × Nat × Nat × Nat)}
    (hy : plainName y.cls = true) (hw : ws = Cond.codeWith y cc maxL ret hh :: ws')
    (body : ∀ p e s m args below meth c s₁, BodyLoose p l y (headSpec ws rm) cc maxL ret e s m args below meth c s₁ → c.maxLocals = maxL → Pc args s →
      W p l e (headSpec ws rm).room s m args below meth c s.heap [] 0 0 (vx_MQ below Qc XC args s mc ms free) (entryFrame m args maxL)) : vx_Met l y ws rm Pc Qc XC mc ms free := by
  refine MetFree.of_bodyS (code := cc) (maxLocals := maxL) (ret := ret) hy ?_ ?_
  · intro args s m h hn
    obtain ⟨m9, meth, c, hn9, h1, h2, h3, h4, -, h5, h6, -⟩ := Cond.codeWith_spec (atoms_spec (ws := ws) h _ (by rw [hw]; exact List.mem_cons_self))
    cases hn.symm.trans hn9
    exact ⟨meth, c, h1, h2, h3, h4, h5, h6⟩
  · intro p e s m args below meth c s₁ B hml hP _
    have hh0 : s₁.heap = s.heap := by rw [B.state]; rfl
    obtain ⟨t, a1, o, b1, b2, b3⟩ := body p e s m args below meth c s₁ B hml hP s₁ hh0 (Stand.of_body B)
    exact ⟨t, o, a1, b1, b2, b3⟩
/-! ===== END ===== -/
end
section
/-! RECORDS OF THE METHODS, AND WHERE THEIR WORDS STAND, by program (wip/p32/gen.py) -/
section REC
abbrev MR : Type := MethodName × ByteArray × Option FieldType × List (Nat × Nat × Nat × Nat)
def mr_X1_copyFrom : MR := (yX1_copyFrom, cX1_copyFrom, none, [])
def mr_X1_isQuietAt : MR := (yX1_isQuietAt, cX1_isQuietAt, (some .boolean), [])
def mr_X1_distanceTo : MR := (yX1_distanceTo, cX1_distanceTo, (some .int), [])
def mr_X1_tunesPlayed : MR := (yX1_tunesPlayed, cX1_tunesPlayed, (some .int), [])
def mr_X1_noteTune : MR := (yX1_noteTune, cX1_noteTune, none, [])
def mr_X1_forgetDay : MR := (yX1_forgetDay, cX1_forgetDay, none, [])
def mr_X2_signCount : MR := (yX2_signCount, cX2_signCount, (some .int), [])
def mr_X2_fits : MR := (yX2_fits, cX2_fits, (some .boolean), [])
def mr_X3_kindAt : MR := (yX3_kindAt, cX3_kindAt, (some (.object "OrganCorners$OrderKind")), [])
def mr_X3_errorIndex : MR := (yX3_errorIndex, cX3_errorIndex, (some .int), [])
def mr_X3_isWholeRow : MR := (yX3_isWholeRow, cX3_isWholeRow, (some .boolean), [])
def mr_X3_organAt : MR := (yX3_organAt, cX3_organAt, (some .int), [])
def mr_X3_tuneAt : MR := (yX3_tuneAt, cX3_tuneAt, (some .int), [])
def mr_X4_copyFrom : MR := (yX4_copyFrom, cX4_copyFrom, none, [])
def mr_X5_lookAt : MR := (yX5_lookAt, cX5_lookAt, none, [])
def mr_X5_leastHindering : MR := (yX5_leastHindering, cX5_leastHindering, (some .int), [])
def mr_X5_hinderedPairs : MR := (yX5_hinderedPairs, cX5_hinderedPairs, (some .int), [])
def mr_X5_findMost : MR := (yX5_findMost, cX5_findMost, none, [])
def mr_X5_takingsOf : MR := (yX5_takingsOf, cX5_takingsOf, (some .int), [])
def mr_X5_nearAhead : MR := (yX5_nearAhead, cX5_nearAhead, (some .int), [])
def mr_X5_findTunes : MR := (yX5_findTunes, cX5_findTunes, (some .boolean), [])
def mr_X5_isFree : MR := (yX5_isFree, cX5_isFree, (some .boolean), [])
def mr_X6_reckon : MR := (yX6_reckon, cX6_reckon, none, [])
def mr_X6_sharePot : MR := (yX6_sharePot, cX6_sharePot, none, [])
def mr_X6_giveUnits : MR := (yX6_giveUnits, cX6_giveUnits, none, [])
def mr_X6_giveAllowances : MR := (yX6_giveAllowances, cX6_giveAllowances, none, [])
def mr_X7_copyFrom : MR := (yX7_copyFrom, cX7_copyFrom, none, [])
def mr_X7_hoursOfDay : MR := (yX7_hoursOfDay, cX7_hoursOfDay, (some .int), [])
def mr_X7_forgetDay : MR := (yX7_forgetDay, cX7_forgetDay, none, [])
def mr_X8_save : MR := (yX8_save, cX8_save, none, [])
def mr_X9_copyFrom : MR := (yX9_copyFrom, cX9_copyFrom, none, [])
def mr_X9_hasCornerAt : MR := (yX9_hasCornerAt, cX9_hasCornerAt, (some .boolean), [])
def mr_X9_permits : MR := (yX9_permits, cX9_permits, (some .int), [])
def mr_X9_crewSize : MR := (yX9_crewSize, cX9_crewSize, (some .int), [])
def mr_X9_organAt : MR := (yX9_organAt, cX9_organAt, (some .int), [])
def mr_X9_cornerOf : MR := (yX9_cornerOf, cX9_cornerOf, (some (.object "OrganCorners$Corner")), [])
def mr_X9_takingsSoFar : MR := (yX9_takingsSoFar, cX9_takingsSoFar, (some .int), [])
def mr_X9_ownersSoFar : MR := (yX9_ownersSoFar, cX9_ownersSoFar, (some .int), [])
def mr_X9_inAllPots : MR := (yX9_inAllPots, cX9_inAllPots, (some .int), [])
def mr_X9_playersSoFar : MR := (yX9_playersSoFar, cX9_playersSoFar, (some .int), [])
def mr_X9_weatherMayChange : MR := (yX9_weatherMayChange, cX9_weatherMayChange, (some .boolean), [])
def mr_X9_lotsMayBeDrawn : MR := (yX9_lotsMayBeDrawn, cX9_lotsMayBeDrawn, (some .boolean), [])
def mr_X9_drawLots : MR := (yX9_drawLots, cX9_drawLots, (some .int), [])
def mr_X9_takeCornersBack : MR := (yX9_takeCornersBack, cX9_takeCornersBack, none, [])
def mr_X9_draw : MR := (yX9_draw, cX9_draw, (some .int), [])
def mr_X9_freeCorner : MR := (yX9_freeCorner, cX9_freeCorner, (some .int), [])
def mr_X9_areNear : MR := (yX9_areNear, cX9_areNear, (some .boolean), [])
def mr_X9_tunesHeardAt : MR := (yX9_tunesHeardAt, cX9_tunesHeardAt, (some .int), [])
def mr_X9_reasonAgainstAll : MR := (yX9_reasonAgainstAll, cX9_reasonAgainstAll, (some .int), [])
def mr_X9_reasonAgainst : MR := (yX9_reasonAgainst, cX9_reasonAgainst, (some .int), [])
def mr_X9_playableTunes : MR := (yX9_playableTunes, cX9_playableTunes, (some .int), [])
def mr_X9_playedNear : MR := (yX9_playedNear, cX9_playedNear, (some .int), [])
def mr_X9_takingsFor : MR := (yX9_takingsFor, cX9_takingsFor, (some .int), [])
def mr_X9_playTune : MR := (yX9_playTune, cX9_playTune, (some .int), [])
def mr_X9_divideTakings : MR := (yX9_divideTakings, cX9_divideTakings, none, [])
def mr_X9_addHourOfCrew : MR := (yX9_addHourOfCrew, cX9_addHourOfCrew, none, [])
def mr_X9_endHour : MR := (yX9_endHour, cX9_endHour, none, [])
def mr_X9_payOut : MR := (yX9_payOut, cX9_payOut, none, [])
def mr_X9_beginDay : MR := (yX9_beginDay, cX9_beginDay, none, [])
def mr_X10_addCorner : MR := (yX10_addCorner, cX10_addCorner, (some .int), [])
def mr_X10_addOrgan : MR := (yX10_addOrgan, cX10_addOrgan, (some .int), [])
def mr_X10_addPlayer : MR := (yX10_addPlayer, cX10_addPlayer, (some .int), [])
def mr_X10_permit : MR := (yX10_permit, cX10_permit, (some .int), [])
def mr_X10_barrel : MR := (yX10_barrel, cX10_barrel, (some .int), [])
def mr_X10_assign : MR := (yX10_assign, cX10_assign, (some .int), [])
def mr_X10_set : MR := (yX10_set, cX10_set, (some .int), [])
def mr_X10_lots : MR := (yX10_lots, cX10_lots, (some .int), [])
def mr_X10_weather : MR := (yX10_weather, cX10_weather, (some .int), [])
def mr_X10_play : MR := (yX10_play, cX10_play, (some .int), [])
def mr_X10_next : MR := (yX10_next, cX10_next, (some .int), [])
def mr_X10_append : MR := (yX10_append, cX10_append, (some .int), [])
def mr_X10_clearBuffer : MR := (yX10_clearBuffer, cX10_clearBuffer, (some .int), [])
def mr_X10_run : MR := (yX10_run, cX10_run, (some .int), [])
def mr_X10_corner : MR := (yX10_corner, cX10_corner, (some .int), [])
def mr_X10_organ : MR := (yX10_organ, cX10_organ, (some .int), [])
def mr_X10_player : MR := (yX10_player, cX10_player, (some .int), [])
def mr_X10_hours : MR := (yX10_hours, cX10_hours, (some .int), [])
def mr_X10_count : MR := (yX10_count, cX10_count, (some .int), [])
def mr_X10_setting : MR := (yX10_setting, cX10_setting, (some .int), [])
def mr_X10_whyNot : MR := (yX10_whyNot, cX10_whyNot, (some .int), [])
def mr_X10_ifPlayed : MR := (yX10_ifPlayed, cX10_ifPlayed, (some .int), [])
def mr_X10_kindestTune : MR := (yX10_kindestTune, cX10_kindestTune, (some .int), [])
def mr_X10_most : MR := (yX10_most, cX10_most, (some .int), [])
def mr_X10_ifEnded : MR := (yX10_ifEnded, cX10_ifEnded, (some .int), [])
def mr_X10_playersShare : MR := (yX10_playersShare, cX10_playersShare, (some .double), [])
def mr_X10_requireIndex : MR := (yX10_requireIndex, cX10_requireIndex, none, [])
def mr_X10_requireInRange : MR := (yX10_requireInRange, cX10_requireInRange, none, [])
def mr_X10_requireState : MR := (yX10_requireState, cX10_requireState, none, [])
def mr_X10_asNumber : MR := (yX10_asNumber, cX10_asNumber, (some .int), [])
def mr_X10_holds : MR := (yX10_holds, cX10_holds, (some .boolean), [])
def mr_X10_obey : MR := (yX10_obey, cX10_obey, (some .boolean), [])
def mr_X10_obeyPlay : MR := (yX10_obeyPlay, cX10_obeyPlay, (some .boolean), [])
def mr_L_cell : MR := (yL_cell, cL_cell, (some .int), [])
def mr_L_at : MR := (yL_at, cL_at, (some .int), [])
def mr_L_abs : MR := (yL_abs, cL_abs, (some .int), [])
def mr_L_draw : MR := (yL_draw, cL_draw, (some .int), [])
def mr_L_holder : MR := (yL_holder, cL_holder, (some .int), [])
def mr_L_today : MR := (yL_today, cL_today, (some .int), [])
def mr_L_drawn : MR := (yL_drawn, cL_drawn, (some .int), [])
def mr_L_near : MR := (yL_near, cL_near, (some .boolean), [])
def mr_L_quiet : MR := (yL_quiet, cL_quiet, (some .boolean), [])
def mr_L_heard : MR := (yL_heard, cL_heard, (some .int), [])
def mr_L_crew : MR := (yL_crew, cL_crew, (some .int), [])
def mr_L_why : MR := (yL_why, cL_why, (some .int), [])
def mr_L_takes : MR := (yL_takes, cL_takes, (some .int), [])
def mr_L_play : MR := (yL_play, cL_play, (some .int), [])
def mr_L_ends : MR := (yL_ends, cL_ends, none, [])
def mr_L_next : MR := (yL_next, cL_next, none, [])
def mr_L_told : MR := (yL_told, cL_told, (some .boolean), [])
def mr_L_same : MR := (yL_same, cL_same, none, [])
def mr_L_pairs : MR := (yL_pairs, cL_pairs, (some .int), [])
def mr_L_ahead : MR := (yL_ahead, cL_ahead, (some .boolean), [])
def mr_L_letters : MR := (yL_letters, cL_letters, (some .boolean), [])
def mr_L_runs : MR := (yL_runs, cL_runs, (some .boolean), [])
def mr_L_act : MR := (yL_act, cL_act, (some .boolean), [])
def mr_L_law : MR := (yL_law, cL_law, (some .boolean), [])
def mrt_0 : List MR := [mr_X1_copyFrom, mr_X1_isQuietAt, mr_X1_distanceTo, mr_X1_tunesPlayed, mr_X1_noteTune, mr_X1_forgetDay, mr_X2_signCount, mr_X2_fits, mr_X3_kindAt, mr_X3_errorIndex, mr_X3_isWholeRow, mr_X3_organAt, mr_X3_tuneAt, mr_X4_copyFrom, mr_X5_lookAt, mr_X5_leastHindering]
def mrt_1 : List MR := [mr_X5_hinderedPairs, mr_X5_findMost, mr_X5_takingsOf, mr_X5_nearAhead, mr_X5_findTunes, mr_X5_isFree, mr_X6_reckon, mr_X6_sharePot, mr_X6_giveUnits, mr_X6_giveAllowances, mr_X7_copyFrom, mr_X7_hoursOfDay, mr_X7_forgetDay, mr_X8_save, mr_X9_copyFrom, mr_X9_hasCornerAt]
def mrt_2 : List MR := [mr_X9_permits, mr_X9_crewSize, mr_X9_organAt, mr_X9_cornerOf, mr_X9_takingsSoFar, mr_X9_ownersSoFar, mr_X9_inAllPots, mr_X9_playersSoFar, mr_X9_weatherMayChange, mr_X9_lotsMayBeDrawn, mr_X9_drawLots, mr_X9_takeCornersBack, mr_X9_draw, mr_X9_freeCorner, mr_X9_areNear, mr_X9_tunesHeardAt]
def mrt_3 : List MR := [mr_X9_reasonAgainstAll, mr_X9_reasonAgainst, mr_X9_playableTunes, mr_X9_playedNear, mr_X9_takingsFor, mr_X9_playTune, mr_X9_divideTakings, mr_X9_addHourOfCrew, mr_X9_endHour, mr_X9_payOut, mr_X9_beginDay, mr_X10_addCorner, mr_X10_addOrgan, mr_X10_addPlayer, mr_X10_permit, mr_X10_barrel]
def mrt_4 : List MR := [mr_X10_assign, mr_X10_set, mr_X10_lots, mr_X10_weather, mr_X10_play, mr_X10_next, mr_X10_append, mr_X10_clearBuffer, mr_X10_run, mr_X10_corner, mr_X10_organ, mr_X10_player, mr_X10_hours, mr_X10_count, mr_X10_setting, mr_X10_whyNot]
def mrt_5 : List MR := [mr_X10_ifPlayed, mr_X10_kindestTune, mr_X10_most, mr_X10_ifEnded, mr_X10_playersShare, mr_X10_requireIndex, mr_X10_requireInRange, mr_X10_requireState, mr_X10_asNumber, mr_X10_holds, mr_X10_obey, mr_X10_obeyPlay, mr_L_cell, mr_L_at, mr_L_abs, mr_L_draw]
def mrt_6 : List MR := [mr_L_holder, mr_L_today, mr_L_drawn, mr_L_near, mr_L_quiet, mr_L_heard, mr_L_crew, mr_L_why, mr_L_takes, mr_L_play, mr_L_ends, mr_L_next, mr_L_told, mr_L_same, mr_L_pairs, mr_L_ahead]
def mrt_7 : List MR := [mr_L_letters, mr_L_runs, mr_L_act, mr_L_law]
def mrts : List (List MR) := [mrt_0, mrt_1, mrt_2, mrt_3, mrt_4, mrt_5, mrt_6, mrt_7]
def mr0 : MR := (⟨"", "", ""⟩, ⟨#[]⟩, none, [])
def mrec (n : Nat) : MR := (mrts.getD (n / 16) []).getD (n % 16) mr0
def yN (n : Nat) : MethodName := (mrec n).1
def cw_ (M : MI) (r : MR) : Cond := bif r.2.2.2.isEmpty then Cond.code r.1 r.2.1 M.2.2.2.1 r.2.2.1 else Cond.codeWith r.1 r.2.1 M.2.2.2.1 r.2.2.1 r.2.2.2
def cwN (n : Nat) : Cond := match mtab n with
  | some M => cw_ M (mrec n)
  | none => .initialized ""
def clT (ci : Nat) : vw_C := bif Nat.beq ci 29 then (RX2, TX2, 0) else vwCl.getD ci ("", TX0, 0)
def exn (k : Nat) : String := match k with
  | 1 => "java/lang/IllegalArgumentException"
  | 2 => "java/lang/IllegalStateException"
  | _ => "java/lang/IndexOutOfBoundsException"
def entWs (own : String) (ix : Nat) (e : Ent) : List Cond := match e with
  | (0, ci, j, _) => [.fieldLink own ix (clT ci).1 ((clT ci).2.1 j).2.1 ((clT ci).2.1 j).2.2.1]
  | (1, ci, j, _) => [.fieldLink own ix (clT ci).1 ((clT ci).2.1 j).2.1 ((clT ci).2.1 j).2.2.1]
  | (2, ci, j, _) => [.fieldLink own ix (clT ci).1 ((clT ci).2.1 j).2.1 ((clT ci).2.1 j).2.2.1]
  | (3, ci, j, _) => [.fieldLink own ix (clT ci).1 ((clT ci).2.1 j).2.1 ((clT ci).2.1 j).2.2.1]
  | (4, n, _, .ref ci) => [.methodLink own ix (yN n), .instanceMethod (yN n), .selects (clT ci).1 (yN n) (yN n), .initialized (yN n).cls, cwN n]
  | (9, n, _, _) => [.methodLink own ix (yN n), .static (yN n), .initialized (yN n).cls, cwN n]
  | (10, n, _, _) => [.static (yN n), .initialized (yN n).cls, cwN n]
  | (6, _, _, .int v) => [.constant own ix v]
  | (6, _, _, .long v) => [.constantLong own ix v]
  | (6, _, _, .double v) => [.constantDouble own ix v]
  | (7, k, _, _) => [.classLink own ix (exn k)]
  | (8, 29, 0, _) => [.fieldLink own ix "OrganCorners$OrderKind" "least" "Ljava/lang/String;"]
  | (8, 29, 1, _) => [.fieldLink own ix "OrganCorners$OrderKind" "greatest" "Ljava/lang/String;"]
  | (12, 400, _, _) => [.fieldLink own ix "OrganCorners" "GREATEST_SETTINGS" "[I"]
  | (12, 402, _, _) => [.fieldLink own ix "OrganCorners$1" "$SwitchMap$OrganCorners$OrderKind" "[I"]
  | (12, 411, _, _) => [.fieldLink own ix "OrganCorners$OrderKind" "WET" "LOrganCorners$OrderKind;"]
  | (5, 0, _, _) => [.methodLink own ix Lib.Math.max.name, .static Lib.Math.max.name, .initialized "java/lang/Math", .code Lib.Math.max.name Lib.Math.max.code 2 (some .int)]
  | (5, 1, _, _) => [.methodLink own ix Lib.Math.min.name, .static Lib.Math.min.name, .initialized "java/lang/Math", .code Lib.Math.min.name Lib.Math.min.code 2 (some .int)]
  | (5, 2, _, _) => [.methodLink own ix Lib.Math.abs.name, .static Lib.Math.abs.name, .initialized "java/lang/Math", .code Lib.Math.abs.name Lib.Math.abs.code 1 (some .int)]
  | (5, 4, _, _) => [.methodLink own ix ⟨"java/lang/Double", "doubleToLongBits", "(D)J"⟩]
  | (13, 5, _, _) => [.methodLink own ix ⟨"java/lang/String", "length", "()I"⟩]
  | (13, 6, _, _) => [.methodLink own ix ⟨"java/lang/String", "charAt", "(I)C"⟩]
  | (13, 7, _, _) => [.methodLink own ix ⟨"OrganCorners$OrderKind", "ordinal", "()I"⟩]
  | (5, 3, _, _) => [.methodLink own ix arraycopyName, .native arraycopyName, .static arraycopyName, .initialized "java/lang/System"]
  | _ => []
def tch : List (List Cond) := [k2_sels lw_privs, tables_1_1, tables_1_2, tables_1_3, tables_1_4, tables_1_5]
def tix (q : Nat × Nat) : Option Cond := (tch.getD q.1 [])[q.2]?
def ixL_L : List (List (Nat × Nat)) := [[(2, 175)], [(4, 44)], [(4, 45)], [(4, 46)], [(4, 47)], [(2, 182), (2, 183), (1, 0), (2, 184)], [(4, 41), (4, 42), (1, 0), (4, 43)], [(3, 4), (3, 5), (1, 0), (3, 6)], [(3, 1), (3, 2), (1, 0), (3, 3)], [(3, 15), (3, 16), (1, 0), (3, 17)], [(2, 235), (2, 236), (1, 0), (2, 237)], [(2, 238), (2, 239), (1, 0), (3, 0)], [(3, 115), (3, 116), (1, 0), (3, 117)], [(3, 140), (3, 141), (1, 0), (3, 142)], [(2, 185), (2, 186), (2, 187), (1, 1), (2, 188)], [(3, 7), (3, 8), (3, 9), (1, 1), (3, 10)], [(3, 18), (3, 19), (3, 20), (1, 1), (3, 21)], [(3, 26), (3, 27), (3, 28), (1, 1), (3, 29)], [(2, 78), (2, 79), (2, 80), (1, 1), (2, 81)], [(3, 30), (3, 31), (3, 32), (1, 1), (3, 33)], [(3, 34), (3, 35), (1, 0), (3, 36)], [(3, 37), (3, 38), (3, 39), (1, 1), (3, 40)], [(3, 47), (3, 48), (1, 0), (3, 49)], [(3, 44), (3, 45), (1, 0), (3, 46)], [(3, 50), (3, 51), (3, 52), (1, 1), (3, 53)], [(3, 72), (3, 73), (1, 0), (3, 74)], [(3, 75), (3, 76), (3, 77), (1, 1), (3, 78)], [(3, 100), (3, 101), (3, 102), (1, 1), (3, 103)], [(3, 118), (3, 119), (3, 120), (1, 1), (3, 121)], [(3, 143), (3, 144), (3, 145), (1, 1), (3, 146)], [(4, 116), (4, 117), (4, 118), (1, 1), (4, 119)], [(4, 112), (4, 113), (4, 114), (1, 1), (4, 115)], [(2, 176), (2, 177), (1, 0), (2, 178)], [(4, 120), (4, 121), (1, 0), (4, 122)], [(4, 38), (4, 39), (1, 0), (4, 40)], [(4, 81), (4, 82), (1, 0), (4, 83)], [(4, 78), (4, 79), (1, 0), (4, 80)], [(4, 123), (4, 124), (4, 125), (1, 1), (4, 126)], [(3, 170), (3, 171), (3, 172), (1, 1), (3, 173)], [(3, 219), (3, 220), (3, 221), (1, 1), (3, 222)], [(3, 223), (3, 224), (3, 225), (1, 1), (3, 226)], [(3, 227), (3, 228), (3, 229), (1, 1), (3, 230)], [(3, 235), (3, 236), (3, 237), (1, 1), (3, 238)], [(3, 239), (4, 0), (4, 1), (1, 1), (4, 2)], [(4, 3), (4, 4), (4, 5), (1, 1), (4, 6)], [(4, 9), (4, 10), (4, 11), (1, 1), (4, 12)], [(4, 48), (4, 49), (4, 50), (1, 1), (4, 51)], [(4, 56), (4, 57), (4, 58), (1, 1), (4, 59)], [(4, 84), (4, 85), (4, 86), (1, 1), (4, 87)], [(4, 109), (4, 110), (1, 0), (4, 111)], [(2, 179), (2, 180), (1, 0), (2, 181)], [(3, 41), (3, 42), (1, 0), (3, 43)], [(2, 172), (2, 173), (1, 0), (2, 174)], [(4, 226)], [(3, 167), (3, 168), (1, 0), (3, 169)]]
set_option maxRecDepth 100000 in
theorem ek_L : plL_L.map (fun q => entWs RL q.1 q.2) = ixL_L.map (fun is => is.filterMap tix) := rfl
set_option maxRecDepth 100000 in
theorem eg_L : (plL_L.map (fun q => entWs RL q.1 q.2)).all (fun l => l.all goodWord) = true := rfl
def ixL_X1 : List (List (Nat × Nat)) := [[(1, 60)], [(1, 50)], [(1, 53)], [(1, 56)], [(1, 58)], [(3, 209), (1, 156), (1, 155), (1, 6)], [(2, 231), (2, 232), (1, 16), (2, 233)], [(2, 220), (2, 221), (1, 16), (2, 222)]]
set_option maxRecDepth 100000 in
theorem ek_X1 : plL_X1.map (fun q => entWs RX1 q.1 q.2) = ixL_X1.map (fun is => is.filterMap tix) := rfl
set_option maxRecDepth 100000 in
theorem eg_X1 : (plL_X1.map (fun q => entWs RX1 q.1 q.2)).all (fun l => l.all goodWord) = true := rfl
def ixL_X10 : List (List (Nat × Nat)) := [[(2, 62)], [(2, 63)], [(2, 64)], [(2, 65)], [(2, 66)], [(2, 82), (2, 83), (1, 1), (2, 84)], [(1, 168)], [(3, 174), (3, 175), (3, 176), (1, 2), (3, 177)], [(3, 178), (3, 179), (1, 1), (3, 180)], [(3, 197), (3, 198), (3, 199), (1, 7), (3, 200)], [(1, 158)], [(1, 51)], [(1, 54)], [(1, 57)], [(1, 59)], [(1, 173)], [(1, 161)], [(1, 79)], [(1, 176)], [(2, 189), (2, 190), (1, 1), (2, 191)], [(1, 83)], [(3, 231), (3, 232), (3, 233), (1, 2), (3, 234)], [(1, 85)], [(1, 164)], [(1, 127)], [(4, 7)], [(1, 167)], [(4, 13), (4, 14), (4, 15), (1, 2), (4, 16)], [(4, 17), (4, 18), (4, 19), (1, 2), (4, 20)], [(4, 52), (4, 53), (4, 54), (1, 2), (4, 55)], [(1, 183)], [(2, 153), (2, 154), (1, 1), (2, 155)], [(3, 54), (3, 55), (3, 56), (1, 2), (3, 57)], [(4, 60), (4, 61), (4, 62), (1, 2), (4, 63)], [(4, 88), (4, 89), (4, 90), (1, 2), (4, 91)], [(1, 180)], [(2, 15)], [(2, 13)], [(4, 127), (4, 128), (4, 129), (1, 8), (4, 130)], [(2, 85)], [(4, 198), (4, 136), (4, 137), (1, 8), (4, 138)], [(4, 199), (4, 201), (0, 13), (1, 1), (4, 202)], [(4, 225), (4, 194), (4, 195), (1, 24), (4, 196)], [(1, 238)], [(2, 208), (2, 209), (2, 210), (1, 3), (2, 211)], [(2, 212), (2, 213), (2, 214), (1, 2), (2, 215)], [(2, 216), (2, 217), (2, 218), (1, 3), (2, 219)], [(2, 223), (2, 224), (2, 225), (1, 2), (2, 226)], [(1, 89)], [(3, 11), (3, 12), (3, 13), (1, 2), (3, 14)], [(1, 93)], [(1, 96)], [(1, 99)], [(1, 101)], [(3, 22), (3, 23), (3, 24), (1, 5), (3, 25)], [(1, 130)], [(1, 132)], [(1, 135)], [(1, 139)], [(1, 178)], [(1, 185)], [(1, 187)], [(1, 189)], [(2, 156), (2, 157), (2, 158), (1, 2), (2, 159)], [(1, 191)], [(1, 194)], [(2, 160), (2, 161), (2, 162), (1, 2), (2, 163)], [(2, 164), (2, 165), (2, 166), (1, 2), (2, 167)], [(2, 168), (2, 169), (2, 170), (1, 2), (2, 171)], [(3, 104), (3, 84), (3, 85), (1, 2), (3, 86)], [(3, 105), (3, 106), (3, 107), (1, 2), (3, 108)], [(3, 110), (3, 111), (3, 112), (1, 2), (3, 113)], [(3, 79), (3, 80), (3, 81), (1, 10), (3, 82)], [(3, 87), (3, 88), (3, 89), (1, 10), (3, 90)], [(3, 122), (3, 123), (3, 124), (1, 10), (3, 125)], [(2, 50)], [(2, 52)], [(3, 147), (3, 148), (3, 149), (1, 9), (3, 150)], [(2, 28)], [(2, 31)], [(2, 192)], [(3, 181)], [(4, 203)], [(4, 205)], [(4, 211)], [(4, 213), (4, 214), (4, 215), (1, 8), (4, 216)], [(4, 217), (4, 218), (4, 219), (1, 8), (4, 220)], [(4, 221), (4, 223), (0, 14), (1, 1), (4, 224)]]
set_option maxRecDepth 100000 in
theorem ek_X10 : plL_X10.map (fun q => entWs RX10 q.1 q.2) = ixL_X10.map (fun is => is.filterMap tix) := rfl
set_option maxRecDepth 100000 in
theorem eg_X10 : (plL_X10.map (fun q => entWs RX10 q.1 q.2)).all (fun l => l.all goodWord) = true := rfl
def ixL_X2 : List (List (Nat × Nat)) := [[(4, 228)], [(4, 231)], [(4, 145)], [(4, 155)]]
set_option maxRecDepth 100000 in
theorem ek_X2 : plL_X2.map (fun q => entWs RX2 q.1 q.2) = ixL_X2.map (fun is => is.filterMap tix) := rfl
set_option maxRecDepth 100000 in
theorem eg_X2 : (plL_X2.map (fun q => entWs RX2 q.1 q.2)).all (fun l => l.all goodWord) = true := rfl
def ixL_X3 : List (List (Nat × Nat)) := [[(2, 12)], [(2, 14)], [], [(4, 141), (4, 142), (4, 143), (1, 24), (4, 144)], [(4, 135), (4, 136), (4, 137), (1, 8), (4, 138)], [(4, 193), (4, 194), (4, 195), (1, 24), (4, 196)], [(4, 131), (4, 132), (4, 133), (1, 8), (4, 134)]]
set_option maxRecDepth 100000 in
theorem ek_X3 : plL_X3.map (fun q => entWs RX3 q.1 q.2) = ixL_X3.map (fun is => is.filterMap tix) := rfl
set_option maxRecDepth 100000 in
theorem eg_X3 : (plL_X3.map (fun q => entWs RX3 q.1 q.2)).all (fun l => l.all goodWord) = true := rfl
def ixL_X4 : List (List (Nat × Nat)) := [[(1, 87)], [(1, 100)], [(1, 78)], [(1, 81)], [(1, 84)], [(1, 90)], [(1, 94)], [(1, 97)]]
set_option maxRecDepth 100000 in
theorem ek_X4 : plL_X4.map (fun q => entWs RX4 q.1 q.2) = ixL_X4.map (fun is => is.filterMap tix) := rfl
set_option maxRecDepth 100000 in
theorem eg_X4 : (plL_X4.map (fun q => entWs RX4 q.1 q.2)).all (fun l => l.all goodWord) = true := rfl
def ixL_X5 : List (List (Nat × Nat)) := [[(2, 47)], [(2, 48)], [(1, 170)], [(3, 83), (3, 84), (3, 85), (1, 2), (3, 86)], [(3, 69), (1, 1), (3, 70)], [(3, 92), (3, 94), (0, 2), (1, 10), (3, 95)], [(3, 96), (3, 97), (3, 98), (1, 2), (3, 99)], [(2, 49)], [(2, 51)], [(3, 126), (3, 127), (1, 10), (3, 128)], [(3, 134), (3, 135), (1, 10), (3, 136)], [(3, 129), (3, 106), (3, 107), (1, 2), (3, 108)], [(3, 130), (3, 131), (1, 10), (3, 132)], [(3, 133), (3, 111), (3, 112), (1, 2), (3, 113)], [(3, 137), (3, 138), (1, 10), (3, 139)]]
set_option maxRecDepth 100000 in
theorem ek_X5 : plL_X5.map (fun q => entWs RX5 q.1 q.2) = ixL_X5.map (fun is => is.filterMap tix) := rfl
set_option maxRecDepth 100000 in
theorem eg_X5 : (plL_X5.map (fun q => entWs RX5 q.1 q.2)).all (fun l => l.all goodWord) = true := rfl
def ixL_X6 : List (List (Nat × Nat)) := [[(2, 27)], [(2, 30)], [(2, 33)], [(1, 171)], [(3, 151), (3, 153), (0, 3), (1, 9), (3, 154)], [(1, 181)], [(3, 159), (3, 161), (0, 5), (1, 9), (3, 162)], [(1, 160)], [(1, 91)], [(1, 175)], [(1, 163)], [(1, 138)], [(3, 155), (3, 157), (0, 4), (1, 9), (3, 158)], [(1, 193)], [(3, 163), (3, 23), (3, 24), (1, 5), (3, 25)], [(1, 166)], [(3, 164), (3, 165), (1, 16), (3, 166)]]
set_option maxRecDepth 100000 in
theorem ek_X6 : plL_X6.map (fun q => entWs RX6 q.1 q.2) = ixL_X6.map (fun is => is.filterMap tix) := rfl
set_option maxRecDepth 100000 in
theorem eg_X6 : (plL_X6.map (fun q => entWs RX6 q.1 q.2)).all (fun l => l.all goodWord) = true := rfl
def ixL_X7 : List (List (Nat × Nat)) := [[(1, 125)], [(1, 137)], [(1, 128)], [(1, 131)], [(1, 134)], [(3, 218), (1, 156), (1, 155), (1, 6)]]
set_option maxRecDepth 100000 in
theorem ek_X7 : plL_X7.map (fun q => entWs RX7 q.1 q.2) = ixL_X7.map (fun is => is.filterMap tix) := rfl
set_option maxRecDepth 100000 in
theorem eg_X7 : (plL_X7.map (fun q => entWs RX7 q.1 q.2)).all (fun l => l.all goodWord) = true := rfl
def ixL_X8 : List (List (Nat × Nat)) := [[(1, 235)], [(1, 236)], [(1, 237)], [(3, 201), (3, 202), (3, 203), (1, 2), (3, 204)]]
set_option maxRecDepth 100000 in
theorem ek_X8 : plL_X8.map (fun q => entWs RX8 q.1 q.2) = ixL_X8.map (fun is => is.filterMap tix) := rfl
set_option maxRecDepth 100000 in
theorem eg_X8 : (plL_X8.map (fun q => entWs RX8 q.1 q.2)).all (fun l => l.all goodWord) = true := rfl
def ixL_X9 : List (List (Nat × Nat)) := [[(1, 157)], [(1, 159)], [(1, 162)], [(1, 165)], [(1, 184)], [(1, 154), (1, 156), (1, 155), (1, 6)], [(3, 205), (3, 206), (3, 207), (1, 3), (3, 208)], [(3, 210), (3, 211), (3, 212), (1, 4), (3, 213)], [(3, 214), (3, 215), (3, 216), (1, 5), (3, 217)], [(1, 169)], [(1, 172)], [(1, 174)], [(1, 177)], [(1, 179)], [(1, 182)], [(1, 186)], [(1, 188)], [(1, 190)], [(1, 192)], [(1, 52)], [(1, 82)], [(1, 126)], [(1, 88)], [(1, 98)], [(1, 95)], [(1, 92)], [(1, 129)], [(4, 21), (4, 23), (0, 6), (1, 2), (4, 24)], [(4, 25), (4, 27), (0, 7), (1, 2), (4, 28)], [(4, 33), (4, 35), (0, 8), (1, 2), (4, 36)], [(4, 29)], [(4, 30)], [(4, 31)], [(4, 32)], [(4, 37), (2, 213), (2, 214), (1, 2), (2, 215)], [(3, 62), (3, 63), (3, 64), (1, 2), (3, 65)], [(2, 227), (2, 228), (2, 229), (1, 3), (2, 230)], [(2, 234), (2, 217), (2, 218), (1, 3), (2, 219)], [(3, 66), (3, 12), (3, 13), (1, 2), (3, 14)], [(1, 102)], [(3, 67), (2, 209), (2, 210), (1, 3), (2, 211)], [(3, 58), (3, 60), (0, 1), (1, 2), (3, 61)], [(1, 86)], [(3, 69), (1, 1), (3, 70)], [(3, 71), (2, 224), (2, 225), (1, 2), (2, 226)], [(3, 109), (3, 97), (3, 98), (1, 2), (3, 99)], [(1, 55)], [(3, 114), (2, 221), (1, 16), (2, 222)], [(4, 64), (3, 106), (3, 107), (1, 2), (3, 108)], [(4, 65), (3, 111), (3, 112), (1, 2), (3, 113)], [(4, 66), (4, 68), (0, 9), (1, 2), (4, 69)], [(4, 70), (4, 72), (0, 10), (1, 2), (4, 73)], [(4, 74), (4, 75), (4, 76), (1, 3), (4, 77)], [(1, 80)], [(1, 140)], [(1, 136)], [(4, 92), (3, 148), (3, 149), (1, 9), (3, 150)], [(4, 93), (4, 95), (0, 11), (1, 2), (4, 96)], [(4, 97), (4, 99), (0, 12), (1, 2), (4, 100)], [(2, 32)], [(2, 29)], [(1, 133)], [(4, 101), (4, 102), (4, 103), (1, 3), (4, 104)], [(4, 105), (4, 106), (4, 107), (1, 5), (4, 108)]]
set_option maxRecDepth 100000 in
theorem ek_X9 : plL_X9.map (fun q => entWs RX9 q.1 q.2) = ixL_X9.map (fun is => is.filterMap tix) := rfl
set_option maxRecDepth 100000 in
theorem eg_X9 : (plL_X9.map (fun q => entWs RX9 q.1 q.2)).all (fun l => l.all goodWord) = true := rfl
end REC
end
section
/-! THE WORLD OF THE MACHINE THAT A PURE MEMORY STANDS FOR -/
section WORLD
/-- a value, its reference moved to the machine's address -/
def lf (L : Nat → Nat) (v : Value) : Value := match v with
  | .ref k => .ref (L k)
  | v => v
/-- fields of a class: kind (0 int, 1 boolean, 2 long, 3 reference), and how far behind -/
def fcode : Nat → List (Nat × Nat)
  | 0 => [(0, 0), (0, 0), (0, 0), (0, 0), (3, 1)]
  | 1 => [(3, 1), (0, 0)]
  | 2 => [(0, 0), (1, 0), (0, 0), (0, 0), (0, 0), (0, 0), (0, 0), (0, 0)]
  | 3 => [(3, 1), (3, 2), (0, 0), (0, 0)]
  | 4 => [(3, 1), (3, 2), (3, 3)]
  | 5 => [(0, 0), (0, 0), (0, 0), (0, 0), (3, 1)]
  | 6 => [(3, 1), (0, 0), (0, 0)]
  | 7 => [(3, 1), (3, 2), (3, 3), (3, 4), (0, 0), (0, 0), (0, 0), (0, 0), (0, 0), (1, 0), (0, 0), (0, 0), (0, 0), (0, 0), (0, 0)]
  | 8 => [(3, 23), (3, 1), (3, 3), (3, 5), (3, 9)]
  | 9 => [(3, 1), (3, 2), (3, 3), (3, 4), (3, 5), (3, 6), (3, 7), (3, 8), (3, 9), (0, 0), (0, 0), (0, 0), (0, 0), (0, 0), (0, 0), (0, 0), (0, 0), (2, 0)]
  | _ => []
def fval (L : Nat → Nat) (μ : PM) (k j : Nat) (q : Nat × Nat) : Value := match q.1 with
  | 2 => .long (mJ μ k j)
  | 3 => .ref (L (k + q.2))
  | _ => .int (mI μ k j)
def flds (L : Nat → Nat) (μ : PM) (k c : Nat) : List Value := (fcode c).mapIdx (fun j q => fval L μ k j q)
def entW (L : Nat → Nat) (cA : Nat → ClassId) (μ : PM) (k : Nat) : va_E :=
  if cls k < 9 then .inr (cls k, flds L μ k (cls k))
  else if cls k = 20 ∨ cls k = 31 then .inl (cA 20, len k, .inl (mI μ k))
  else if cls k = 21 then .inl (cA 21, len k, .inr (.inl (mJ μ k)))
  else .inl (cA (cls k), len k, .inr (.inr (.inr (.inr (fun i => some (L (eN k i)))))))
/-- the numbers of the things in a world, by their places -/
def nm (i : Nat) : Nat := if i < 19 then i else if i < 341 then i + 4 else i + 89
def ixN (k : Nat) : Nat := if k < 19 then k else if k < 345 then k - 4 else k - 89
/-- numbers that have a place -/
def Fx (k : Nat) : Prop := k < 19 ∨ (23 ≤ k ∧ k < 345) ∨ 430 ≤ k
def Inn (μ : PM) (k : Nat) : Prop := k < 19 ∨ (23 ≤ k ∧ k < 345) ∨ (430 ≤ k ∧ k < 430 + μ.2.2.2)
theorem Inn.fx {μ : PM} {k : Nat} (h : Inn μ k) : Fx k := by
  rcases h with h | h | h
  · exact Or.inl h
  · exact Or.inr (Or.inl h)
  · exact Or.inr (Or.inr h.1)
theorem nm_ix {k : Nat} (h : Fx k) : nm (ixN k) = k := by
  unfold nm ixN
  rcases h with h | h | h
  · rw [if_pos h, if_pos h]
  · rw [if_neg (show ¬ k < 19 by omega), if_pos h.2, if_neg (show ¬ k - 4 < 19 by omega), if_pos (show k - 4 < 341 by omega)]; omega
  · rw [if_neg (show ¬ k < 19 by omega), if_neg (show ¬ k < 345 by omega), if_neg (show ¬ k - 89 < 19 by omega), if_neg (show ¬ k - 89 < 341 by omega)]; omega
theorem nm_fx (i : Nat) : Fx (nm i) := by
  unfold nm Fx
  split
  · exact Or.inl (by assumption)
  · split
    · right; left; omega
    · right; right; omega
theorem ix_nm (i : Nat) : ixN (nm i) = i := by
  unfold nm ixN
  split
  · rfl
  · split
    · rw [if_neg (by omega), if_pos (by omega)]; omega
    · rw [if_neg (by omega), if_neg (by omega)]; omega
theorem nm_inj {i j : Nat} (h : nm i = nm j) : i = j := by rw [← ix_nm i, h, ix_nm]
theorem ix_lt {μ : PM} {k : Nat} (h : Inn μ k) : ixN k < 341 + μ.2.2.2 := by
  unfold ixN
  rcases h with h | h | h
  · rw [if_pos h]; omega
  · rw [if_neg (show ¬ k < 19 by omega), if_pos h.2]; omega
  · rw [if_neg (show ¬ k < 19 by omega), if_neg (show ¬ k < 345 by omega)]; omega
theorem nm_in {μ : PM} {i : Nat} (h : i < 341 + μ.2.2.2) : Inn μ (nm i) := by
  unfold nm Inn
  split
  · exact Or.inl (by assumption)
  · split
    · right; left; omega
    · right; right; omega
def WS (L : Nat → Nat) (cA : Nat → ClassId) (μ : PM) : va_W := (List.range (341 + μ.2.2.2)).map (fun i => (L (nm i), entW L cA μ (nm i)))
theorem WS_at {L : Nat → Nat} {cA : Nat → ClassId} {μ : PM} {i : Nat} (h : i < 341 + μ.2.2.2) : (WS L cA μ)[i]? = some (L (nm i), entW L cA μ (nm i)) := by
  simp [WS, h]
theorem WS_get {L : Nat → Nat} {cA : Nat → ClassId} {μ : PM} {k : Nat} (h : Inn μ k) : (WS L cA μ)[ixN k]? = some (L k, entW L cA μ k) := by
  rw [WS_at (ix_lt h), nm_ix h.fx]
theorem WS_len {L : Nat → Nat} {cA : Nat → ClassId} {μ : PM} : (WS L cA μ).length = 341 + μ.2.2.2 := by simp [WS]
theorem WS_inv {L : Nat → Nat} {cA : Nat → ClassId} {μ : PM} {i : Nat} {q : Nat × va_E} (h : (WS L cA μ)[i]? = some q) : Inn μ (nm i) ∧ q = (L (nm i), entW L cA μ (nm i)) := by
  have hk : i < 341 + μ.2.2.2 := by
    have := (List.getElem?_eq_some_iff.mp h).1
    rwa [WS_len] at this
  rw [WS_at hk] at h
  exact ⟨nm_in hk, (Option.some.inj h).symm⟩
theorem WS_set {L : Nat → Nat} {cA : Nat → ClassId} {μ μ' : PM} {k : Nat} {e : va_E} (hk0 : Fx k) (hm : μ'.2.2.2 = μ.2.2.2) (he : entW L cA μ' k = e) (ho : ∀ j, j ≠ k → entW L cA μ' j = entW L cA μ j) : (WS L cA μ).set (ixN k) (L k, e) = WS L cA μ' := by
  apply List.ext_getElem?
  intro i
  by_cases hi : i = ixN k
  · subst hi
    by_cases hk : ixN k < 341 + μ.2.2.2
    · rw [List.getElem?_set_self (by rw [WS_len]; exact hk), WS_at (by rw [hm]; exact hk), nm_ix hk0, he]
    · rw [List.getElem?_eq_none (by rw [List.length_set, WS_len]; omega), List.getElem?_eq_none (by rw [WS_len]; omega)]
  · rw [List.getElem?_set_ne (Ne.symm hi)]
    by_cases hk : i < 341 + μ.2.2.2
    · rw [WS_at hk, WS_at (by rw [hm]; exact hk), ho (nm i) (fun q => hi (by rw [← ix_nm i, q]))]
    · rw [List.getElem?_eq_none (by rw [WS_len]; omega), List.getElem?_eq_none (by rw [WS_len]; omega)]
theorem fval_congr {L : Nat → Nat} {μ μ' : PM} {k : Nat} (h1 : mI μ' k = mI μ k) (h2 : mJ μ' k = mJ μ k) (j : Nat) (q : Nat × Nat) : fval L μ' k j q = fval L μ k j q := by
  unfold fval; rw [h1, h2]
theorem entW_congr {L : Nat → Nat} {cA : Nat → ClassId} {μ μ' : PM} {k : Nat} (h1 : mI μ' k = mI μ k) (h2 : mJ μ' k = mJ μ k) : entW L cA μ' k = entW L cA μ k := by
  unfold entW flds; rw [h1, h2]
  simp only [fval_congr h1 h2]
theorem entW_obj {L : Nat → Nat} {cA : Nat → ClassId} {μ : PM} {k ci : Nat} (h : cls k = ci) (hc : ci < 9) : entW L cA μ k = .inr (ci, flds L μ k ci) := by
  unfold entW; rw [h, if_pos hc]
theorem entW_ints {L : Nat → Nat} {cA : Nat → ClassId} {μ : PM} {k : Nat} (h : cls k = 20 ∨ cls k = 31) : entW L cA μ k = .inl (cA 20, len k, .inl (mI μ k)) := by
  unfold entW; rw [if_neg (by omega), if_pos h]
theorem entW_longs {L : Nat → Nat} {cA : Nat → ClassId} {μ : PM} {k : Nat} (h : cls k = 21) : entW L cA μ k = .inl (cA 21, len k, .inr (.inl (mJ μ k))) := by
  unfold entW; rw [h, if_neg (by decide), if_neg (by decide), if_pos rfl]
theorem entW_refs {L : Nat → Nat} {cA : Nat → ClassId} {μ : PM} {k c : Nat} (h : cls k = c) (hc : 22 ≤ c ∧ c ≠ 31) : entW L cA μ k = .inl (cA c, len k, .inr (.inr (.inr (.inr (fun i => some (L (eN k i))))))) := by
  unfold entW; rw [h, if_neg (by omega), if_neg (by omega), if_neg (by omega)]
theorem cls_in {μ : PM} {k : Nat} (h : cls k < 25 ∨ cls k = 26) : Inn μ k := by
  have h1 := cls_lt h
  by_cases h2 : k < 19
  · exact Or.inl h2
  · by_cases h3 : 23 ≤ k
    · exact Or.inr (Or.inl ⟨h3, h1⟩)
    · exfalso
      have key : ∀ k, k < 23 → 19 ≤ k → cls k = 99 := by decide +kernel
      have := key k (by omega) (by omega)
      omega
theorem ly_dyn (i : Nat) : ly (430 + i) = (31, dl i) := by
  have bl : ∀ n, n ≤ 430 → Nat.blt (430 + i) n = false := fun n hn => by
    cases hb : Nat.blt (430 + i) n
    · rfl
    · have := Nat.blt_eq.mp hb; omega
  have be : ∀ n, n < 430 → Nat.beq (430 + i) n = false := fun n hn => by
    cases hb : Nat.beq (430 + i) n
    · rfl
    · have := Nat.eq_of_beq_eq_true hb; omega
  unfold ly lyTop
  rw [bl 23 (by decide), bl 345 (by decide), be 390 (by decide), be 400 (by decide), be 402 (by decide), be 401 (by decide), bl 410 (by decide), bl 415 (by decide), bl 420 (by decide), bl 430 (by decide)]
  simp only [cond_false]
  rw [Nat.add_sub_cancel_left]
theorem cls_31 {k : Nat} (h : cls k = 31) : 430 ≤ k := by
  by_cases hk : 430 ≤ k
  · exact hk
  · exfalso
    have key : ∀ k, k < 430 → cls k ≠ 31 := by decide +kernel
    exact key k (by omega) h
theorem okA_in {μ : PM} {k : Nat} (h : okA μ k = true) : Inn μ k := by
  rcases okA_c h with h | h
  · exact cls_in (by omega)
  · exact Or.inr (Or.inr ⟨cls_31 h.1, h.2⟩)
theorem okA_or {μ : PM} {k : Nat} (h : okA μ k = true) : cls k = 20 ∨ cls k = 31 := by
  rcases okA_c h with h | h
  · exact Or.inl h
  · exact Or.inr h.1
theorem flds_get {L : Nat → Nat} {μ : PM} {k c j : Nat} {q : Nat × Nat} (h : (fcode c)[j]? = some q) : (flds L μ k c)[j]? = some (fval L μ k j q) := by
  unfold flds; rw [List.getElem?_mapIdx, h]; rfl
theorem flds_len {L : Nat → Nat} {μ : PM} {k c : Nat} : (flds L μ k c).length = (fcode c).length := by unfold flds; rw [List.length_mapIdx]
theorem flds_setI {L : Nat → Nat} {μ : PM} {k c j : Nat} {q : Nat × Nat} {v : Int32} (h : (fcode c)[j]? = some q) (hq : q.1 = 0 ∨ q.1 = 1) : flds L (stI μ k j v) k c = (flds L μ k c).set j (.int v) := by
  apply List.ext_getElem?
  intro i
  unfold flds
  by_cases hi : i = j
  · subst hi
    have hl : i < (fcode c).length := (List.getElem?_eq_some_iff.mp h).1
    rw [List.getElem?_set_self (by rw [List.length_mapIdx]; exact hl), List.getElem?_mapIdx, h]
    simp only [Option.map_some]
    have e : mI (stI μ k i v) k i = v := by rw [stI_self]; simp [upd]
    unfold fval
    rcases hq with hq | hq <;> rw [hq] <;> simp only [e]
  · rw [List.getElem?_set_ne (Ne.symm hi), List.getElem?_mapIdx, List.getElem?_mapIdx]
    congr 1
    funext x
    have e : mI (stI μ k j v) k i = mI μ k i := by rw [stI_self]; simp [upd, hi]
    unfold fval
    rw [e, stI_J]
theorem flds_setJ {L : Nat → Nat} {μ : PM} {k c j : Nat} {q : Nat × Nat} {v : Int64} (h : (fcode c)[j]? = some q) (hq : q.1 = 2) : flds L (stJ μ k j v) k c = (flds L μ k c).set j (.long v) := by
  apply List.ext_getElem?
  intro i
  unfold flds
  by_cases hi : i = j
  · subst hi
    have hl : i < (fcode c).length := (List.getElem?_eq_some_iff.mp h).1
    rw [List.getElem?_set_self (by rw [List.length_mapIdx]; exact hl), List.getElem?_mapIdx, h]
    simp only [Option.map_some]
    have e : mJ (stJ μ k i v) k i = v := by rw [stJ_self]; simp [vp_updL]
    unfold fval
    rw [hq]; simp only [e]
  · rw [List.getElem?_set_ne (Ne.symm hi), List.getElem?_mapIdx, List.getElem?_mapIdx]
    congr 1
    funext x
    have e : mJ (stJ μ k j v) k i = mJ μ k i := by rw [stJ_self]; simp [vp_updL, hi]
    unfold fval
    rw [e, stJ_I]
theorem WS_setI {L : Nat → Nat} {cA : Nat → ClassId} {μ : PM} {k j : Nat} {v : Int32} {e : va_E} (hk0 : Fx k) (he : entW L cA (stI μ k j v) k = e) : (WS L cA μ).set (ixN k) (L k, e) = WS L cA (stI μ k j v) :=
  WS_set hk0 rfl he fun i hi => entW_congr (stI_ne μ j v hi) (by rw [stI_J])
theorem WS_setJ {L : Nat → Nat} {cA : Nat → ClassId} {μ : PM} {k j : Nat} {v : Int64} {e : va_E} (hk0 : Fx k) (he : entW L cA (stJ μ k j v) k = e) : (WS L cA μ).set (ixN k) (L k, e) = WS L cA (stJ μ k j v) :=
  WS_set hk0 rfl he fun i hi => entW_congr (by rw [stJ_I]) (stJ_ne μ j v hi)
/-- locals: what is known of them -/
def LR (L : Nat → Nat) (nL : Nat) (pl : List Value) (ls : Array Slot) : Prop := pl.length = nL ∧ ls.size = nL ∧ lv_wf ls ∧ ∀ (i : Nat) (v : Value), pl[i]? = some v → (∀ n, v ≠ .retAddr n) → ls[i]? = some (.val (lf L v))
def isRA_ (v : Value) : Bool := match v with
  | .retAddr _ => true
  | _ => false
theorem isRA_f {v : Value} (h : isRA_ v = false) : ∀ n, v ≠ .retAddr n := by intro n e; subst e; cases h
def prs (L : Nat → Nat) (pl : List Value) : List (Nat × Value) := pl.zipIdx.filterMap (fun q => if isRA_ q.1 then none else some (q.2, lf L q.1))
theorem prs_mem {L : Nat → Nat} {pl : List Value} {q : Nat × Value} : q ∈ prs L pl ↔ ∃ v, pl[q.1]? = some v ∧ isRA_ v = false ∧ q.2 = lf L v := by
  unfold prs
  rw [List.mem_filterMap]
  constructor
  · rintro ⟨⟨v, i⟩, h1, h2⟩
    have h3 := List.mk_mem_zipIdx_iff_getElem?.mp h1
    cases hv : isRA_ v
    · simp only [hv] at h2
      cases h2
      exact ⟨v, h3, hv, rfl⟩
    · simp only [hv] at h2
      cases h2
  · rintro ⟨v, h1, h2, h3⟩
    refine ⟨(v, q.1), List.mk_mem_zipIdx_iff_getElem?.mpr h1, ?_⟩
    simp only [h2, ← h3]; rfl
theorem LR.has {L : Nat → Nat} {nL : Nat} {pl : List Value} {ls : Array Slot} (h : LR L nL pl ls) : lv_has ls nL (prs L pl) := by
  obtain ⟨h0, h1, h2, h3⟩ := h
  refine ⟨h1, h2, fun q hq => ?_⟩
  obtain ⟨v, e1, e2, e3⟩ := prs_mem.mp hq
  rw [e3]
  exact h3 _ _ e1 (isRA_f e2)
theorem LR.at {L : Nat → Nat} {nL : Nat} {pl : List Value} {ls : Array Slot} (h : LR L nL pl ls) {i : Nat} {v : Value} (hi : pl[i]? = some v) (hv : ∀ n, v ≠ .retAddr n) : ls[i]? = some (.val (lf L v)) := h.2.2.2 i v hi hv
/-- behind a store of a word -/
theorem LR.st1 {L : Nat → Nat} {nL : Nat} {pl : List Value} {ls ls' : Array Slot} {i : Nat} {v w : Value} (h : LR L nL pl ls) (hi : i < pl.length) (hk : okS pl i = true) (hw : (∀ n, v ≠ .retAddr n) → w = lf L v)
    (h' : lv_has ls' nL ((i, w) :: (prs L pl).filter (fun q => !(q.1 == i) && !(q.1 + 1 == i && q.2.category == 2)))) : LR L nL (pl.set i v) ls' := by
  obtain ⟨h0, h1, h2, h3⟩ := h
  obtain ⟨g1, g2, g3⟩ := h'
  refine ⟨by rw [List.length_set]; exact h0, g1, g2, fun j u hj hu => ?_⟩
  by_cases hji : j = i
  · subst hji
    rw [List.getElem?_set_self hi] at hj
    cases hj
    have := g3 (j, w) List.mem_cons_self
    rw [hw hu] at this
    exact this
  · rw [List.getElem?_set_ne (Ne.symm hji)] at hj
    have hr : isRA_ u = false := by
      cases u <;> first | rfl | exact absurd rfl (hu _)
    refine g3 (j, lf L u) (List.mem_cons_of_mem _ (List.mem_filter.mpr ⟨prs_mem.mpr ⟨u, hj, hr, rfl⟩, ?_⟩))
    have e1 : (j == i) = false := by simpa using hji
    simp only [e1, Bool.not_false, Bool.true_and]
    by_cases hj1 : j + 1 = i
    · subst hj1
      simp only [okS, hj] at hk
      have : (lf L u).category ≠ 2 := by
        cases u <;> simp_all [lf, Value.category]
      simp [this]
    · simp [hj1]
theorem LR.st2 {L : Nat → Nat} {nL : Nat} {pl : List Value} {ls ls' : Array Slot} {i : Nat} {v : Value} (h : LR L nL pl ls) (hi : i + 1 < pl.length) (hk : okS pl i = true)
    (h' : lv_has ls' nL ((i, lf L v) :: (prs L pl).filter (fun q => !(q.1 == i) && (!(q.1 == i + 1) && !(q.1 + 1 == i && q.2.category == 2))))) : LR L nL ((pl.set i v).set (i + 1) pU) ls' := by
  obtain ⟨h0, h1, h2, h3⟩ := h
  obtain ⟨g1, g2, g3⟩ := h'
  refine ⟨by rw [List.length_set, List.length_set]; exact h0, g1, g2, fun j u hj hu => ?_⟩
  by_cases hj1 : j = i + 1
  · subst hj1
    rw [List.getElem?_set_self (by rw [List.length_set]; exact hi)] at hj
    cases hj
    exact absurd rfl (hu 0)
  · rw [List.getElem?_set_ne (Ne.symm hj1)] at hj
    by_cases hji : j = i
    · subst hji
      rw [List.getElem?_set_self (by omega)] at hj
      cases hj
      exact g3 (j, lf L v) List.mem_cons_self
    · rw [List.getElem?_set_ne (Ne.symm hji)] at hj
      have hr : isRA_ u = false := by
        cases u <;> first | rfl | exact absurd rfl (hu _)
      refine g3 (j, lf L u) (List.mem_cons_of_mem _ (List.mem_filter.mpr ⟨prs_mem.mpr ⟨u, hj, hr, rfl⟩, ?_⟩))
      have e1 : (j == i) = false := by simpa using hji
      have e2 : (j == i + 1) = false := by simpa using hj1
      simp only [e1, e2, Bool.not_false, Bool.true_and]
      by_cases hj1 : j + 1 = i
      · subst hj1
        simp only [okS, hj] at hk
        have : (lf L u).category ≠ 2 := by
          cases u <;> simp_all [lf, Value.category]
        simp [this]
      · simp [hj1]
end WORLD
end
section
/-! ONE STEP OF THE PURE INTERPRETER IS A STEP OF THE MACHINE (laid by wip/p32/gensim.py) -/
section SIM1
variable {p : Program} {l : Launch} {e : Env} {R : Room} {s : State} {m : MethodId} {args : Array Value} {below : List Frame} {meth : Method} {c : Code} {H H0 : Heap} {locs : List Loc} {cells slots : Nat} {Q : State → Prop} {cc : ByteArray} {nL : Nat}
variable {L : Nat → Nat} {D : va_G} {cA : Nat → ClassId} {A : Nat → Prop} {pc pc' : Nat} {ls : Array Slot} {pl pl' st st' : List Value} {μ μ' : PM}
/-- what is to be shown behind the step -/
def Kt (p : Program) (l : Launch) (e : Env) (R : Room) (s : State) (m : MethodId) (args : Array Value) (below : List Frame) (meth : Method) (c : Code) (H0 : Heap) (cells slots : Nat) (Q : State → Prop) (L : Nat → Nat) (D : va_G) (cA : Nat → ClassId) (A : Nat → Prop) (nL pc' : Nat) (pl' st' : List Value) (μ' : PM) : Prop :=
  ∀ (ls' : Array Slot) (H' : Heap) (locs' : List Loc), LR L nL pl' ls' → va_P D vwCl (WS L cA μ') H' → va_D A (WS L cA μ') → va_S A H0 H' locs' → W p l e R s m args below meth c H' locs' cells slots Q (F0 m pc' ls' (st'.map (lf L)))
/-- where the machine stands -/
def At_ (H0 : Heap) (L : Nat → Nat) (D : va_G) (cA : Nat → ClassId) (A : Nat → Prop) (nL : Nat) (H : Heap) (locs : List Loc) (ls : Array Slot) (pl : List Value) (μ : PM) : Prop :=
  LR L nL pl ls ∧ va_P D vwCl (WS L cA μ) H ∧ va_D A (WS L cA μ) ∧ va_S A H0 H locs
abbrev Wg (p : Program) (l : Launch) (e : Env) (R : Room) (s : State) (m : MethodId) (args : Array Value) (below : List Frame) (meth : Method) (c : Code) (H : Heap) (locs : List Loc) (cells slots : Nat) (Q : State → Prop) (L : Nat → Nat) (pc : Nat) (ls : Array Slot) (st : List Value) : Prop := W p l e R s m args below meth c H locs cells slots Q (F0 m pc ls (st.map (lf L)))
theorem Kt.go (h : Kt p l e R s m args below meth c H0 cells slots Q L D cA A nL pc' pl' st' μ') (ha : At_ H0 L D cA A nL H locs ls pl' μ') : Wg p l e R s m args below meth c H locs cells slots Q L pc' ls st' := h _ _ _ ha.1 ha.2.1 ha.2.2.1 ha.2.2.2
theorem noNaN_n {r : UInt64} (h : noNaN r = true) : vf_n64 r := by
  unfold noNaN at h
  exact (of_decide_eq_true h : r &&& 0x7fffffffffffffff ≤ 0x7ff0000000000000)
theorem cat1_lf {L : Nat → Nat} {v : Value} (h : cat1 v = true) : (lf L v).category = 1 := by
  cases v <;> first | rfl | cases h
theorem lv_if_eq_f (hexec : p.tables.exec = Jvm.exec) (hb : c.code = cc) {rest : List Value} {x : Int32} {off : Int} (hdg : decode cc pc = .ok (.ifCond .eq off, 3)) (hc : ¬ (x = 0)) (kf : W p l e R s m args below meth c H locs cells slots Q (F0 m (pc + 3) ls rest)) : W p l e R s m args below meth c H locs cells slots Q (F0 m pc ls (.int x :: rest)) := by
  intro T hT X
  obtain ⟨t, a, b⟩ := kf T hT X
  refine ⟨t, ?_, b⟩
  jvm_step X.here [X.here.top, hexec, hb, hdg, Op.ifCond.holds, hc]
  exact a
theorem lv_icmp_eq_f (hexec : p.tables.exec = Jvm.exec) (hb : c.code = cc) {rest : List Value} {x y : Int32} {off : Int} (hdg : decode cc pc = .ok (.if_icmp .eq off, 3)) (hc : ¬ (x = y)) (kf : W p l e R s m args below meth c H locs cells slots Q (F0 m (pc + 3) ls rest)) : W p l e R s m args below meth c H locs cells slots Q (F0 m pc ls (.int y :: .int x :: rest)) := by
  intro T hT X
  obtain ⟨t, a, b⟩ := kf T hT X
  refine ⟨t, ?_, b⟩
  jvm_step X.here [X.here.top, hexec, hb, hdg, Op.if_icmp.holds, hc]
  exact a
theorem lv_if_ne_f (hexec : p.tables.exec = Jvm.exec) (hb : c.code = cc) {rest : List Value} {x : Int32} {off : Int} (hdg : decode cc pc = .ok (.ifCond .ne off, 3)) (hc : ¬ (¬ x = 0)) (kf : W p l e R s m args below meth c H locs cells slots Q (F0 m (pc + 3) ls rest)) : W p l e R s m args below meth c H locs cells slots Q (F0 m pc ls (.int x :: rest)) := by
  intro T hT X
  obtain ⟨t, a, b⟩ := kf T hT X
  refine ⟨t, ?_, b⟩
  have hc := Classical.not_not.mp hc
  jvm_step X.here [X.here.top, hexec, hb, hdg, Op.ifCond.holds, hc]
  exact a
theorem lv_icmp_ne_f (hexec : p.tables.exec = Jvm.exec) (hb : c.code = cc) {rest : List Value} {x y : Int32} {off : Int} (hdg : decode cc pc = .ok (.if_icmp .ne off, 3)) (hc : ¬ (¬ x = y)) (kf : W p l e R s m args below meth c H locs cells slots Q (F0 m (pc + 3) ls rest)) : W p l e R s m args below meth c H locs cells slots Q (F0 m pc ls (.int y :: .int x :: rest)) := by
  intro T hT X
  obtain ⟨t, a, b⟩ := kf T hT X
  refine ⟨t, ?_, b⟩
  have hc := Classical.not_not.mp hc
  jvm_step X.here [X.here.top, hexec, hb, hdg, Op.if_icmp.holds, hc]
  exact a
theorem lv_if_lt_f (hexec : p.tables.exec = Jvm.exec) (hb : c.code = cc) {rest : List Value} {x : Int32} {off : Int} (hdg : decode cc pc = .ok (.ifCond .lt off, 3)) (hc : ¬ (x < 0)) (kf : W p l e R s m args below meth c H locs cells slots Q (F0 m (pc + 3) ls rest)) : W p l e R s m args below meth c H locs cells slots Q (F0 m pc ls (.int x :: rest)) := by
  intro T hT X
  obtain ⟨t, a, b⟩ := kf T hT X
  refine ⟨t, ?_, b⟩
  jvm_step X.here [X.here.top, hexec, hb, hdg, Op.ifCond.holds, hc]
  exact a
theorem lv_icmp_lt_f (hexec : p.tables.exec = Jvm.exec) (hb : c.code = cc) {rest : List Value} {x y : Int32} {off : Int} (hdg : decode cc pc = .ok (.if_icmp .lt off, 3)) (hc : ¬ (x < y)) (kf : W p l e R s m args below meth c H locs cells slots Q (F0 m (pc + 3) ls rest)) : W p l e R s m args below meth c H locs cells slots Q (F0 m pc ls (.int y :: .int x :: rest)) := by
  intro T hT X
  obtain ⟨t, a, b⟩ := kf T hT X
  refine ⟨t, ?_, b⟩
  jvm_step X.here [X.here.top, hexec, hb, hdg, Op.if_icmp.holds, hc]
  exact a
theorem lv_if_ge_f (hexec : p.tables.exec = Jvm.exec) (hb : c.code = cc) {rest : List Value} {x : Int32} {off : Int} (hdg : decode cc pc = .ok (.ifCond .ge off, 3)) (hc : ¬ (0 ≤ x)) (kf : W p l e R s m args below meth c H locs cells slots Q (F0 m (pc + 3) ls rest)) : W p l e R s m args below meth c H locs cells slots Q (F0 m pc ls (.int x :: rest)) := by
  intro T hT X
  obtain ⟨t, a, b⟩ := kf T hT X
  refine ⟨t, ?_, b⟩
  jvm_step X.here [X.here.top, hexec, hb, hdg, Op.ifCond.holds, hc]
  exact a
theorem lv_icmp_ge_f (hexec : p.tables.exec = Jvm.exec) (hb : c.code = cc) {rest : List Value} {x y : Int32} {off : Int} (hdg : decode cc pc = .ok (.if_icmp .ge off, 3)) (hc : ¬ (y ≤ x)) (kf : W p l e R s m args below meth c H locs cells slots Q (F0 m (pc + 3) ls rest)) : W p l e R s m args below meth c H locs cells slots Q (F0 m pc ls (.int y :: .int x :: rest)) := by
  intro T hT X
  obtain ⟨t, a, b⟩ := kf T hT X
  refine ⟨t, ?_, b⟩
  jvm_step X.here [X.here.top, hexec, hb, hdg, Op.if_icmp.holds, hc]
  exact a
theorem lv_if_gt_f (hexec : p.tables.exec = Jvm.exec) (hb : c.code = cc) {rest : List Value} {x : Int32} {off : Int} (hdg : decode cc pc = .ok (.ifCond .gt off, 3)) (hc : ¬ (0 < x)) (kf : W p l e R s m args below meth c H locs cells slots Q (F0 m (pc + 3) ls rest)) : W p l e R s m args below meth c H locs cells slots Q (F0 m pc ls (.int x :: rest)) := by
  intro T hT X
  obtain ⟨t, a, b⟩ := kf T hT X
  refine ⟨t, ?_, b⟩
  jvm_step X.here [X.here.top, hexec, hb, hdg, Op.ifCond.holds, hc]
  exact a
theorem lv_icmp_gt_f (hexec : p.tables.exec = Jvm.exec) (hb : c.code = cc) {rest : List Value} {x y : Int32} {off : Int} (hdg : decode cc pc = .ok (.if_icmp .gt off, 3)) (hc : ¬ (y < x)) (kf : W p l e R s m args below meth c H locs cells slots Q (F0 m (pc + 3) ls rest)) : W p l e R s m args below meth c H locs cells slots Q (F0 m pc ls (.int y :: .int x :: rest)) := by
  intro T hT X
  obtain ⟨t, a, b⟩ := kf T hT X
  refine ⟨t, ?_, b⟩
  jvm_step X.here [X.here.top, hexec, hb, hdg, Op.if_icmp.holds, hc]
  exact a
theorem lv_if_le_f (hexec : p.tables.exec = Jvm.exec) (hb : c.code = cc) {rest : List Value} {x : Int32} {off : Int} (hdg : decode cc pc = .ok (.ifCond .le off, 3)) (hc : ¬ (x ≤ 0)) (kf : W p l e R s m args below meth c H locs cells slots Q (F0 m (pc + 3) ls rest)) : W p l e R s m args below meth c H locs cells slots Q (F0 m pc ls (.int x :: rest)) := by
  intro T hT X
  obtain ⟨t, a, b⟩ := kf T hT X
  refine ⟨t, ?_, b⟩
  jvm_step X.here [X.here.top, hexec, hb, hdg, Op.ifCond.holds, hc]
  exact a
theorem lv_icmp_le_f (hexec : p.tables.exec = Jvm.exec) (hb : c.code = cc) {rest : List Value} {x y : Int32} {off : Int} (hdg : decode cc pc = .ok (.if_icmp .le off, 3)) (hc : ¬ (x ≤ y)) (kf : W p l e R s m args below meth c H locs cells slots Q (F0 m (pc + 3) ls rest)) : W p l e R s m args below meth c H locs cells slots Q (F0 m pc ls (.int y :: .int x :: rest)) := by
  intro T hT X
  obtain ⟨t, a, b⟩ := kf T hT X
  refine ⟨t, ?_, b⟩
  jvm_step X.here [X.here.top, hexec, hb, hdg, Op.if_icmp.holds, hc]
  exact a

theorem sn_aconst_null (hx : p.tables.exec = Jvm.exec) (hb : c.code = cc) (ha : At_ H0 L D cA A nL H locs ls pl μ)  (hdg : decode cc pc = .ok (.aconst_null, 1)) (h : nx (pc + 1) pl (.null :: st) μ = some (.inl (pc', pl', st', μ'))) (k : Kt p l e R s m args below meth c H0 cells slots Q L D cA A nL pc' pl' st' μ') : Wg p l e R s m args below meth c H locs cells slots Q L pc ls st := by
  obtain ⟨rfl, rfl, rfl, rfl⟩ := nx_inv h
  exact lv_null hx hb hdg (k.go ha)
theorem sn_bipush (hx : p.tables.exec = Jvm.exec) (hb : c.code = cc) (ha : At_ H0 L D cA A nL H locs ls pl μ) {n : Int} (hdg : decode cc pc = .ok (.bipush n, 2)) (h : nx (pc + 2) pl (.int (Int8.ofInt n).toInt32 :: st) μ = some (.inl (pc', pl', st', μ'))) (k : Kt p l e R s m args below meth c H0 cells slots Q L D cA A nL pc' pl' st' μ') : Wg p l e R s m args below meth c H locs cells slots Q L pc ls st := by
  obtain ⟨rfl, rfl, rfl, rfl⟩ := nx_inv h
  exact lv_bipush hx hb hdg rfl (k.go ha)
theorem sn_sipush (hx : p.tables.exec = Jvm.exec) (hb : c.code = cc) (ha : At_ H0 L D cA A nL H locs ls pl μ) {n : Int} (hdg : decode cc pc = .ok (.sipush n, 3)) (h : nx (pc + 3) pl (.int (Int16.ofInt n).toInt32 :: st) μ = some (.inl (pc', pl', st', μ'))) (k : Kt p l e R s m args below meth c H0 cells slots Q L D cA A nL pc' pl' st' μ') : Wg p l e R s m args below meth c H locs cells slots Q L pc ls st := by
  obtain ⟨rfl, rfl, rfl, rfl⟩ := nx_inv h
  exact lv_sipush hx hb hdg rfl (k.go ha)
theorem sn_iconst (hx : p.tables.exec = Jvm.exec) (hb : c.code = cc) (ha : At_ H0 L D cA A nL H locs ls pl μ) {n : Int} (hdg : decode cc pc = .ok (.iconst n, 1)) (h : nx (pc + 1) pl (.int (Int32.ofInt n) :: st) μ = some (.inl (pc', pl', st', μ'))) (k : Kt p l e R s m args below meth c H0 cells slots Q L D cA A nL pc' pl' st' μ') : Wg p l e R s m args below meth c H locs cells slots Q L pc ls st := by
  obtain ⟨rfl, rfl, rfl, rfl⟩ := nx_inv h
  exact lv_iconst hx hb hdg rfl (k.go ha)
theorem sn_lconst (hx : p.tables.exec = Jvm.exec) (hb : c.code = cc) (ha : At_ H0 L D cA A nL H locs ls pl μ) {n : Fin 2} (hdg : decode cc pc = .ok (.lconst n, 1)) (h : nx (pc + 1) pl (.long (Int64.ofNat (n : Nat)) :: st) μ = some (.inl (pc', pl', st', μ'))) (k : Kt p l e R s m args below meth c H0 cells slots Q L D cA A nL pc' pl' st' μ') : Wg p l e R s m args below meth c H locs cells slots Q L pc ls st := by
  obtain ⟨rfl, rfl, rfl, rfl⟩ := nx_inv h
  exact lv_lconst hx hb hdg rfl (k.go ha)
theorem sn_dconst0 (hx : p.tables.exec = Jvm.exec) (hb : c.code = cc) (ha : At_ H0 L D cA A nL H locs ls pl μ)  (hdg : decode cc pc = .ok (.dconst 0, 1)) (h : nx (pc + 1) pl (.double FP.dconst0 :: st) μ = some (.inl (pc', pl', st', μ'))) (k : Kt p l e R s m args below meth c H0 cells slots Q L D cA A nL pc' pl' st' μ') : Wg p l e R s m args below meth c H locs cells slots Q L pc ls st := by
  obtain ⟨rfl, rfl, rfl, rfl⟩ := nx_inv h
  exact lv_dconst0 hx hb hdg (k.go ha)
theorem sn_dconst1 (hx : p.tables.exec = Jvm.exec) (hb : c.code = cc) (ha : At_ H0 L D cA A nL H locs ls pl μ)  (hdg : decode cc pc = .ok (.dconst 1, 1)) (h : nx (pc + 1) pl (.double FP.dconst1 :: st) μ = some (.inl (pc', pl', st', μ'))) (k : Kt p l e R s m args below meth c H0 cells slots Q L D cA A nL pc' pl' st' μ') : Wg p l e R s m args below meth c H locs cells slots Q L pc ls st := by
  obtain ⟨rfl, rfl, rfl, rfl⟩ := nx_inv h
  exact lv_dconst1 hx hb hdg (k.go ha)
theorem sn_iload_n (hx : p.tables.exec = Jvm.exec) (hb : c.code = cc) (ha : At_ H0 L D cA A nL H locs ls pl μ) {i : Fin 4} (hdg : decode cc pc = .ok (.iload_n i, 1)) (h : ldI pc 1 i pl st μ = some (.inl (pc', pl', st', μ'))) (k : Kt p l e R s m args below meth c H0 cells slots Q L D cA A nL pc' pl' st' μ') : Wg p l e R s m args below meth c H locs cells slots Q L pc ls st := by
  unfold ldI at h
  split at h
  · rename_i x hi
    obtain ⟨rfl, rfl, rfl, rfl⟩ := nx_inv h
    exact lv_iload_n hx hb hdg rfl (ha.1.at hi (fun _ q => nomatch q)) (k.go ha)
  · cases h
theorem sn_iload (hx : p.tables.exec = Jvm.exec) (hb : c.code = cc) (ha : At_ H0 L D cA A nL H locs ls pl μ) {i : Nat} (hdg : decode cc pc = .ok (.iload i, 2)) (h : ldI pc 2 i pl st μ = some (.inl (pc', pl', st', μ'))) (k : Kt p l e R s m args below meth c H0 cells slots Q L D cA A nL pc' pl' st' μ') : Wg p l e R s m args below meth c H locs cells slots Q L pc ls st := by
  unfold ldI at h
  split at h
  · rename_i x hi
    obtain ⟨rfl, rfl, rfl, rfl⟩ := nx_inv h
    exact lv_iload hx hb hdg (ha.1.at hi (fun _ q => nomatch q)) (k.go ha)
  · cases h
theorem sn_lload_n (hx : p.tables.exec = Jvm.exec) (hb : c.code = cc) (ha : At_ H0 L D cA A nL H locs ls pl μ) {i : Fin 4} (hdg : decode cc pc = .ok (.lload_n i, 1)) (h : ldJ pc 1 i pl st μ = some (.inl (pc', pl', st', μ'))) (k : Kt p l e R s m args below meth c H0 cells slots Q L D cA A nL pc' pl' st' μ') : Wg p l e R s m args below meth c H locs cells slots Q L pc ls st := by
  unfold ldJ at h
  split at h
  · rename_i x hi
    obtain ⟨rfl, rfl, rfl, rfl⟩ := nx_inv h
    exact lv_lload_n hx hb hdg rfl (ha.1.at hi (fun _ q => nomatch q)) (k.go ha)
  · cases h
theorem sn_lload (hx : p.tables.exec = Jvm.exec) (hb : c.code = cc) (ha : At_ H0 L D cA A nL H locs ls pl μ) {i : Nat} (hdg : decode cc pc = .ok (.lload i, 2)) (h : ldJ pc 2 i pl st μ = some (.inl (pc', pl', st', μ'))) (k : Kt p l e R s m args below meth c H0 cells slots Q L D cA A nL pc' pl' st' μ') : Wg p l e R s m args below meth c H locs cells slots Q L pc ls st := by
  unfold ldJ at h
  split at h
  · rename_i x hi
    obtain ⟨rfl, rfl, rfl, rfl⟩ := nx_inv h
    exact lv_lload hx hb hdg (ha.1.at hi (fun _ q => nomatch q)) (k.go ha)
  · cases h
theorem sn_dload_n (hx : p.tables.exec = Jvm.exec) (hb : c.code = cc) (ha : At_ H0 L D cA A nL H locs ls pl μ) {i : Fin 4} (hdg : decode cc pc = .ok (.dload_n i, 1)) (h : ldD pc 1 i pl st μ = some (.inl (pc', pl', st', μ'))) (k : Kt p l e R s m args below meth c H0 cells slots Q L D cA A nL pc' pl' st' μ') : Wg p l e R s m args below meth c H locs cells slots Q L pc ls st := by
  unfold ldD at h
  split at h
  · rename_i x hi
    obtain ⟨rfl, rfl, rfl, rfl⟩ := nx_inv h
    exact lv_dload_n hx hb hdg rfl (ha.1.at hi (fun _ q => nomatch q)) (k.go ha)
  · cases h
theorem sn_dload (hx : p.tables.exec = Jvm.exec) (hb : c.code = cc) (ha : At_ H0 L D cA A nL H locs ls pl μ) {i : Nat} (hdg : decode cc pc = .ok (.dload i, 2)) (h : ldD pc 2 i pl st μ = some (.inl (pc', pl', st', μ'))) (k : Kt p l e R s m args below meth c H0 cells slots Q L D cA A nL pc' pl' st' μ') : Wg p l e R s m args below meth c H locs cells slots Q L pc ls st := by
  unfold ldD at h
  split at h
  · rename_i x hi
    obtain ⟨rfl, rfl, rfl, rfl⟩ := nx_inv h
    exact lv_dload hx hb hdg (ha.1.at hi (fun _ q => nomatch q)) (k.go ha)
  · cases h
theorem sn_aload_n (hx : p.tables.exec = Jvm.exec) (hb : c.code = cc) (ha : At_ H0 L D cA A nL H locs ls pl μ) {i : Fin 4} (hdg : decode cc pc = .ok (.aload_n i, 1)) (h : ldA pc 1 i pl st μ = some (.inl (pc', pl', st', μ'))) (k : Kt p l e R s m args below meth c H0 cells slots Q L D cA A nL pc' pl' st' μ') : Wg p l e R s m args below meth c H locs cells slots Q L pc ls st := by
  unfold ldA at h
  split at h
  · rename_i x hi
    obtain ⟨rfl, rfl, rfl, rfl⟩ := nx_inv h
    exact lv_aload_n hx hb hdg rfl (ha.1.at hi (fun _ q => nomatch q)) (k.go ha)
  · rename_i hi
    obtain ⟨rfl, rfl, rfl, rfl⟩ := nx_inv h
    exact lv_aload_nN hx hb hdg rfl (ha.1.at hi (fun _ q => nomatch q)) (k.go ha)
  · cases h
theorem sn_aload (hx : p.tables.exec = Jvm.exec) (hb : c.code = cc) (ha : At_ H0 L D cA A nL H locs ls pl μ) {i : Nat} (hdg : decode cc pc = .ok (.aload i, 2)) (h : ldA pc 2 i pl st μ = some (.inl (pc', pl', st', μ'))) (k : Kt p l e R s m args below meth c H0 cells slots Q L D cA A nL pc' pl' st' μ') : Wg p l e R s m args below meth c H locs cells slots Q L pc ls st := by
  unfold ldA at h
  split at h
  · rename_i x hi
    obtain ⟨rfl, rfl, rfl, rfl⟩ := nx_inv h
    exact lv_aload hx hb hdg (ha.1.at hi (fun _ q => nomatch q)) (k.go ha)
  · rename_i hi
    obtain ⟨rfl, rfl, rfl, rfl⟩ := nx_inv h
    exact lv_aloadN hx hb hdg (ha.1.at hi (fun _ q => nomatch q)) (k.go ha)
  · cases h
theorem sn_istore_n (hx : p.tables.exec = Jvm.exec) (hb : c.code = cc) (ha : At_ H0 L D cA A nL H locs ls pl μ) {i : Fin 4} (hdg : decode cc pc = .ok (.istore_n i, 1)) (h : stoI pc 1 i pl st μ = some (.inl (pc', pl', st', μ'))) (k : Kt p l e R s m args below meth c H0 cells slots Q L D cA A nL pc' pl' st' μ') : Wg p l e R s m args below meth c H locs cells slots Q L pc ls st := by
  unfold stoI at h
  split at h
  · rename_i x r
    unfold st1 at h
    cases hq : Nat.blt (i : Nat) pl.length && okS pl i
    · rw [hq] at h; cases h
    · rw [hq] at h
      rw [Bool.and_eq_true] at hq
      have hlt := Nat.blt_eq.mp hq.1
      obtain ⟨rfl, rfl, rfl, rfl⟩ := nx_inv h
      exact lv_istore_n (x := x) hx hb hdg rfl ha.1.has (by rw [← ha.1.1]; exact hlt) rfl (fun ls' hl' => k.go ⟨ha.1.st1 hlt hq.2 (fun _ => rfl) hl', ha.2⟩)
  · cases h
theorem sn_istore (hx : p.tables.exec = Jvm.exec) (hb : c.code = cc) (ha : At_ H0 L D cA A nL H locs ls pl μ) {i : Nat} (hdg : decode cc pc = .ok (.istore i, 2)) (h : stoI pc 2 i pl st μ = some (.inl (pc', pl', st', μ'))) (k : Kt p l e R s m args below meth c H0 cells slots Q L D cA A nL pc' pl' st' μ') : Wg p l e R s m args below meth c H locs cells slots Q L pc ls st := by
  unfold stoI at h
  split at h
  · rename_i x r
    unfold st1 at h
    cases hq : Nat.blt (i : Nat) pl.length && okS pl i
    · rw [hq] at h; cases h
    · rw [hq] at h
      rw [Bool.and_eq_true] at hq
      have hlt := Nat.blt_eq.mp hq.1
      obtain ⟨rfl, rfl, rfl, rfl⟩ := nx_inv h
      exact lv_istore (x := x) hx hb hdg ha.1.has (by rw [← ha.1.1]; exact hlt) rfl (fun ls' hl' => k.go ⟨ha.1.st1 hlt hq.2 (fun _ => rfl) hl', ha.2⟩)
  · cases h
theorem sn_lstore_n (hx : p.tables.exec = Jvm.exec) (hb : c.code = cc) (ha : At_ H0 L D cA A nL H locs ls pl μ) {i : Fin 4} (hdg : decode cc pc = .ok (.lstore_n i, 1)) (h : stoJ pc 1 i pl st μ = some (.inl (pc', pl', st', μ'))) (k : Kt p l e R s m args below meth c H0 cells slots Q L D cA A nL pc' pl' st' μ') : Wg p l e R s m args below meth c H locs cells slots Q L pc ls st := by
  unfold stoJ at h
  split at h
  · rename_i x r
    unfold st2 at h
    cases hq : Nat.blt ((i : Nat) + 1) pl.length && okS pl i
    · rw [hq] at h; cases h
    · rw [hq] at h
      rw [Bool.and_eq_true] at hq
      have hlt := Nat.blt_eq.mp hq.1
      obtain ⟨rfl, rfl, rfl, rfl⟩ := nx_inv h
      exact lv_lstore_n (x := x) hx hb hdg rfl ha.1.has (by rw [← ha.1.1]; exact hlt) rfl (fun ls' hl' => k.go ⟨ha.1.st2 (v := .long x) hlt hq.2 hl', ha.2⟩)
  · cases h
theorem sn_lstore (hx : p.tables.exec = Jvm.exec) (hb : c.code = cc) (ha : At_ H0 L D cA A nL H locs ls pl μ) {i : Nat} (hdg : decode cc pc = .ok (.lstore i, 2)) (h : stoJ pc 2 i pl st μ = some (.inl (pc', pl', st', μ'))) (k : Kt p l e R s m args below meth c H0 cells slots Q L D cA A nL pc' pl' st' μ') : Wg p l e R s m args below meth c H locs cells slots Q L pc ls st := by
  unfold stoJ at h
  split at h
  · rename_i x r
    unfold st2 at h
    cases hq : Nat.blt ((i : Nat) + 1) pl.length && okS pl i
    · rw [hq] at h; cases h
    · rw [hq] at h
      rw [Bool.and_eq_true] at hq
      have hlt := Nat.blt_eq.mp hq.1
      obtain ⟨rfl, rfl, rfl, rfl⟩ := nx_inv h
      exact lv_lstore (x := x) hx hb hdg ha.1.has (by rw [← ha.1.1]; exact hlt) rfl (fun ls' hl' => k.go ⟨ha.1.st2 (v := .long x) hlt hq.2 hl', ha.2⟩)
  · cases h
theorem sn_dstore_n (hx : p.tables.exec = Jvm.exec) (hb : c.code = cc) (ha : At_ H0 L D cA A nL H locs ls pl μ) {i : Fin 4} (hdg : decode cc pc = .ok (.dstore_n i, 1)) (h : stoD pc 1 i pl st μ = some (.inl (pc', pl', st', μ'))) (k : Kt p l e R s m args below meth c H0 cells slots Q L D cA A nL pc' pl' st' μ') : Wg p l e R s m args below meth c H locs cells slots Q L pc ls st := by
  unfold stoD at h
  split at h
  · rename_i x r
    unfold st2 at h
    cases hq : Nat.blt ((i : Nat) + 1) pl.length && okS pl i
    · rw [hq] at h; cases h
    · rw [hq] at h
      rw [Bool.and_eq_true] at hq
      have hlt := Nat.blt_eq.mp hq.1
      obtain ⟨rfl, rfl, rfl, rfl⟩ := nx_inv h
      exact lv_dstore_n (x := x) hx hb hdg rfl ha.1.has (by rw [← ha.1.1]; exact hlt) rfl (fun ls' hl' => k.go ⟨ha.1.st2 (v := .double x) hlt hq.2 hl', ha.2⟩)
  · cases h
theorem sn_dstore (hx : p.tables.exec = Jvm.exec) (hb : c.code = cc) (ha : At_ H0 L D cA A nL H locs ls pl μ) {i : Nat} (hdg : decode cc pc = .ok (.dstore i, 2)) (h : stoD pc 2 i pl st μ = some (.inl (pc', pl', st', μ'))) (k : Kt p l e R s m args below meth c H0 cells slots Q L D cA A nL pc' pl' st' μ') : Wg p l e R s m args below meth c H locs cells slots Q L pc ls st := by
  unfold stoD at h
  split at h
  · rename_i x r
    unfold st2 at h
    cases hq : Nat.blt ((i : Nat) + 1) pl.length && okS pl i
    · rw [hq] at h; cases h
    · rw [hq] at h
      rw [Bool.and_eq_true] at hq
      have hlt := Nat.blt_eq.mp hq.1
      obtain ⟨rfl, rfl, rfl, rfl⟩ := nx_inv h
      exact lv_dstore (x := x) hx hb hdg ha.1.has (by rw [← ha.1.1]; exact hlt) rfl (fun ls' hl' => k.go ⟨ha.1.st2 (v := .double x) hlt hq.2 hl', ha.2⟩)
  · cases h
theorem sn_astore_n (hx : p.tables.exec = Jvm.exec) (hb : c.code = cc) (ha : At_ H0 L D cA A nL H locs ls pl μ) {i : Fin 4} (hdg : decode cc pc = .ok (.astore_n i, 1)) (h : stoA pc 1 i pl st μ = some (.inl (pc', pl', st', μ'))) (k : Kt p l e R s m args below meth c H0 cells slots Q L D cA A nL pc' pl' st' μ') : Wg p l e R s m args below meth c H locs cells slots Q L pc ls st := by
  unfold stoA at h
  split at h
  · rename_i x r
    unfold st1 at h
    cases hq : Nat.blt (i : Nat) pl.length && okS pl i
    · rw [hq] at h; cases h
    · rw [hq] at h
      rw [Bool.and_eq_true] at hq
      have hlt := Nat.blt_eq.mp hq.1
      obtain ⟨rfl, rfl, rfl, rfl⟩ := nx_inv h
      exact lv_astore_n (x := L x) hx hb hdg rfl ha.1.has (by rw [← ha.1.1]; exact hlt) rfl (fun ls' hl' => k.go ⟨ha.1.st1 hlt hq.2 (fun _ => rfl) hl', ha.2⟩)
  · rename_i r
    unfold st1 at h
    cases hq : Nat.blt (i : Nat) pl.length && okS pl i
    · rw [hq] at h; cases h
    · rw [hq] at h
      rw [Bool.and_eq_true] at hq
      have hlt := Nat.blt_eq.mp hq.1
      obtain ⟨rfl, rfl, rfl, rfl⟩ := nx_inv h
      exact lv_astore_nN hx hb hdg rfl ha.1.has (by rw [← ha.1.1]; exact hlt) rfl (fun ls' hl' => k.go ⟨ha.1.st1 hlt hq.2 (fun _ => rfl) hl', ha.2⟩)
  · cases h
theorem sn_astore (hx : p.tables.exec = Jvm.exec) (hb : c.code = cc) (ha : At_ H0 L D cA A nL H locs ls pl μ) {i : Nat} (hdg : decode cc pc = .ok (.astore i, 2)) (h : stoA pc 2 i pl st μ = some (.inl (pc', pl', st', μ'))) (k : Kt p l e R s m args below meth c H0 cells slots Q L D cA A nL pc' pl' st' μ') : Wg p l e R s m args below meth c H locs cells slots Q L pc ls st := by
  unfold stoA at h
  split at h
  · rename_i x r
    unfold st1 at h
    cases hq : Nat.blt (i : Nat) pl.length && okS pl i
    · rw [hq] at h; cases h
    · rw [hq] at h
      rw [Bool.and_eq_true] at hq
      have hlt := Nat.blt_eq.mp hq.1
      obtain ⟨rfl, rfl, rfl, rfl⟩ := nx_inv h
      exact lv_astore (x := L x) hx hb hdg ha.1.has (by rw [← ha.1.1]; exact hlt) rfl (fun ls' hl' => k.go ⟨ha.1.st1 hlt hq.2 (fun _ => rfl) hl', ha.2⟩)
  · rename_i r
    unfold st1 at h
    cases hq : Nat.blt (i : Nat) pl.length && okS pl i
    · rw [hq] at h; cases h
    · rw [hq] at h
      rw [Bool.and_eq_true] at hq
      have hlt := Nat.blt_eq.mp hq.1
      obtain ⟨rfl, rfl, rfl, rfl⟩ := nx_inv h
      exact lv_astoreN hx hb hdg ha.1.has (by rw [← ha.1.1]; exact hlt) rfl (fun ls' hl' => k.go ⟨ha.1.st1 hlt hq.2 (fun _ => rfl) hl', ha.2⟩)
  · cases h
theorem sn_iinc (hx : p.tables.exec = Jvm.exec) (hb : c.code = cc) (ha : At_ H0 L D cA A nL H locs ls pl μ) {i : Nat} {n : Int} (hdg : decode cc pc = .ok (.iinc i n, 3)) (h : incI pc i n pl st μ = some (.inl (pc', pl', st', μ'))) (k : Kt p l e R s m args below meth c H0 cells slots Q L D cA A nL pc' pl' st' μ') : Wg p l e R s m args below meth c H locs cells slots Q L pc ls st := by
  unfold incI at h
  split at h
  · rename_i x hi
    unfold st1 at h
    cases hq : Nat.blt i pl.length && okS pl i
    · rw [hq] at h; cases h
    · rw [hq] at h
      rw [Bool.and_eq_true] at hq
      have hlt := Nat.blt_eq.mp hq.1
      obtain ⟨rfl, rfl, rfl, rfl⟩ := nx_inv h
      have hm : (i, Value.int x) ∈ prs L pl := prs_mem.mpr ⟨.int x, hi, rfl, rfl⟩
      obtain ⟨kk, hkk⟩ := List.getElem?_of_mem hm
      exact lv_iinc hx hb hdg ha.1.has hkk rfl (by rw [← ha.1.1]; exact hlt) rfl (fun ls' hl' => k.go ⟨ha.1.st1 hlt hq.2 (fun _ => rfl) hl', ha.2⟩)
  · cases h
theorem sn_iadd (hx : p.tables.exec = Jvm.exec) (hb : c.code = cc) (ha : At_ H0 L D cA A nL H locs ls pl μ)  (hdg : decode cc pc = .ok (.iadd, 1)) (h : b32 (fun x y => x + y) pc pl st μ = some (.inl (pc', pl', st', μ'))) (k : Kt p l e R s m args below meth c H0 cells slots Q L D cA A nL pc' pl' st' μ') : Wg p l e R s m args below meth c H locs cells slots Q L pc ls st := by
  unfold b32 at h
  split at h
  · obtain ⟨rfl, rfl, rfl, rfl⟩ := nx_inv h
    exact lv_iadd hx hb hdg (k.go ha)
  · cases h
theorem sn_isub (hx : p.tables.exec = Jvm.exec) (hb : c.code = cc) (ha : At_ H0 L D cA A nL H locs ls pl μ)  (hdg : decode cc pc = .ok (.isub, 1)) (h : b32 (fun x y => x - y) pc pl st μ = some (.inl (pc', pl', st', μ'))) (k : Kt p l e R s m args below meth c H0 cells slots Q L D cA A nL pc' pl' st' μ') : Wg p l e R s m args below meth c H locs cells slots Q L pc ls st := by
  unfold b32 at h
  split at h
  · obtain ⟨rfl, rfl, rfl, rfl⟩ := nx_inv h
    exact lv_isub hx hb hdg (k.go ha)
  · cases h
theorem sn_imul (hx : p.tables.exec = Jvm.exec) (hb : c.code = cc) (ha : At_ H0 L D cA A nL H locs ls pl μ)  (hdg : decode cc pc = .ok (.imul, 1)) (h : b32 (fun x y => x * y) pc pl st μ = some (.inl (pc', pl', st', μ'))) (k : Kt p l e R s m args below meth c H0 cells slots Q L D cA A nL pc' pl' st' μ') : Wg p l e R s m args below meth c H locs cells slots Q L pc ls st := by
  unfold b32 at h
  split at h
  · obtain ⟨rfl, rfl, rfl, rfl⟩ := nx_inv h
    exact lv_imul hx hb hdg (k.go ha)
  · cases h
theorem sn_iand (hx : p.tables.exec = Jvm.exec) (hb : c.code = cc) (ha : At_ H0 L D cA A nL H locs ls pl μ)  (hdg : decode cc pc = .ok (.iand, 1)) (h : b32 (fun x y => x &&& y) pc pl st μ = some (.inl (pc', pl', st', μ'))) (k : Kt p l e R s m args below meth c H0 cells slots Q L D cA A nL pc' pl' st' μ') : Wg p l e R s m args below meth c H locs cells slots Q L pc ls st := by
  unfold b32 at h
  split at h
  · obtain ⟨rfl, rfl, rfl, rfl⟩ := nx_inv h
    exact lv_iand hx hb hdg (k.go ha)
  · cases h
theorem sn_ior (hx : p.tables.exec = Jvm.exec) (hb : c.code = cc) (ha : At_ H0 L D cA A nL H locs ls pl μ)  (hdg : decode cc pc = .ok (.ior, 1)) (h : b32 (fun x y => x ||| y) pc pl st μ = some (.inl (pc', pl', st', μ'))) (k : Kt p l e R s m args below meth c H0 cells slots Q L D cA A nL pc' pl' st' μ') : Wg p l e R s m args below meth c H locs cells slots Q L pc ls st := by
  unfold b32 at h
  split at h
  · obtain ⟨rfl, rfl, rfl, rfl⟩ := nx_inv h
    exact lv_ior hx hb hdg (k.go ha)
  · cases h
theorem sn_ixor (hx : p.tables.exec = Jvm.exec) (hb : c.code = cc) (ha : At_ H0 L D cA A nL H locs ls pl μ)  (hdg : decode cc pc = .ok (.ixor, 1)) (h : b32 (fun x y => x ^^^ y) pc pl st μ = some (.inl (pc', pl', st', μ'))) (k : Kt p l e R s m args below meth c H0 cells slots Q L D cA A nL pc' pl' st' μ') : Wg p l e R s m args below meth c H locs cells slots Q L pc ls st := by
  unfold b32 at h
  split at h
  · obtain ⟨rfl, rfl, rfl, rfl⟩ := nx_inv h
    exact lv_ixor hx hb hdg (k.go ha)
  · cases h
theorem sn_ishl (hx : p.tables.exec = Jvm.exec) (hb : c.code = cc) (ha : At_ H0 L D cA A nL H locs ls pl μ)  (hdg : decode cc pc = .ok (.ishl, 1)) (h : b32 (fun x y => x <<< (y &&& 31)) pc pl st μ = some (.inl (pc', pl', st', μ'))) (k : Kt p l e R s m args below meth c H0 cells slots Q L D cA A nL pc' pl' st' μ') : Wg p l e R s m args below meth c H locs cells slots Q L pc ls st := by
  unfold b32 at h
  split at h
  · obtain ⟨rfl, rfl, rfl, rfl⟩ := nx_inv h
    exact lv_ishl hx hb hdg (k.go ha)
  · cases h
theorem sn_ishr (hx : p.tables.exec = Jvm.exec) (hb : c.code = cc) (ha : At_ H0 L D cA A nL H locs ls pl μ)  (hdg : decode cc pc = .ok (.ishr, 1)) (h : b32 (fun x y => x >>> (y &&& 31)) pc pl st μ = some (.inl (pc', pl', st', μ'))) (k : Kt p l e R s m args below meth c H0 cells slots Q L D cA A nL pc' pl' st' μ') : Wg p l e R s m args below meth c H locs cells slots Q L pc ls st := by
  unfold b32 at h
  split at h
  · obtain ⟨rfl, rfl, rfl, rfl⟩ := nx_inv h
    exact lv_ishr hx hb hdg (k.go ha)
  · cases h
theorem sn_iushr (hx : p.tables.exec = Jvm.exec) (hb : c.code = cc) (ha : At_ H0 L D cA A nL H locs ls pl μ)  (hdg : decode cc pc = .ok (.iushr, 1)) (h : b32 (fun x y => (x.toUInt32 >>> (y.toUInt32 &&& Int32.toUInt32 31)).toInt32) pc pl st μ = some (.inl (pc', pl', st', μ'))) (k : Kt p l e R s m args below meth c H0 cells slots Q L D cA A nL pc' pl' st' μ') : Wg p l e R s m args below meth c H locs cells slots Q L pc ls st := by
  unfold b32 at h
  split at h
  · obtain ⟨rfl, rfl, rfl, rfl⟩ := nx_inv h
    exact lv_iushr hx hb hdg rfl (k.go ha)
  · cases h
theorem sn_idiv (hx : p.tables.exec = Jvm.exec) (hb : c.code = cc) (ha : At_ H0 L D cA A nL H locs ls pl μ)  (hdg : decode cc pc = .ok (.idiv, 1)) (h : b32n (fun x y => x / y) pc pl st μ = some (.inl (pc', pl', st', μ'))) (k : Kt p l e R s m args below meth c H0 cells slots Q L D cA A nL pc' pl' st' μ') : Wg p l e R s m args below meth c H locs cells slots Q L pc ls st := by
  unfold b32n at h
  split at h
  · split at h
    · rename_i hy
      obtain ⟨rfl, rfl, rfl, rfl⟩ := nx_inv h
      exact lv_idiv hx hb hdg hy (k.go ha)
    · cases h
  · cases h
theorem sn_irem (hx : p.tables.exec = Jvm.exec) (hb : c.code = cc) (ha : At_ H0 L D cA A nL H locs ls pl μ)  (hdg : decode cc pc = .ok (.irem, 1)) (h : b32n (fun x y => x - x / y * y) pc pl st μ = some (.inl (pc', pl', st', μ'))) (k : Kt p l e R s m args below meth c H0 cells slots Q L D cA A nL pc' pl' st' μ') : Wg p l e R s m args below meth c H locs cells slots Q L pc ls st := by
  unfold b32n at h
  split at h
  · split at h
    · rename_i hy
      obtain ⟨rfl, rfl, rfl, rfl⟩ := nx_inv h
      exact lv_irem hx hb hdg hy (k.go ha)
    · cases h
  · cases h
theorem sn_ladd (hx : p.tables.exec = Jvm.exec) (hb : c.code = cc) (ha : At_ H0 L D cA A nL H locs ls pl μ)  (hdg : decode cc pc = .ok (.ladd, 1)) (h : b64 (fun x y => .long (x + y)) pc pl st μ = some (.inl (pc', pl', st', μ'))) (k : Kt p l e R s m args below meth c H0 cells slots Q L D cA A nL pc' pl' st' μ') : Wg p l e R s m args below meth c H locs cells slots Q L pc ls st := by
  unfold b64 at h
  split at h
  · obtain ⟨rfl, rfl, rfl, rfl⟩ := nx_inv h
    exact lv_ladd hx hb hdg (k.go ha)
  · cases h
theorem sn_lsub (hx : p.tables.exec = Jvm.exec) (hb : c.code = cc) (ha : At_ H0 L D cA A nL H locs ls pl μ)  (hdg : decode cc pc = .ok (.lsub, 1)) (h : b64 (fun x y => .long (x - y)) pc pl st μ = some (.inl (pc', pl', st', μ'))) (k : Kt p l e R s m args below meth c H0 cells slots Q L D cA A nL pc' pl' st' μ') : Wg p l e R s m args below meth c H locs cells slots Q L pc ls st := by
  unfold b64 at h
  split at h
  · obtain ⟨rfl, rfl, rfl, rfl⟩ := nx_inv h
    exact lv_lsub hx hb hdg (k.go ha)
  · cases h
theorem sn_lmul (hx : p.tables.exec = Jvm.exec) (hb : c.code = cc) (ha : At_ H0 L D cA A nL H locs ls pl μ)  (hdg : decode cc pc = .ok (.lmul, 1)) (h : b64 (fun x y => .long (x * y)) pc pl st μ = some (.inl (pc', pl', st', μ'))) (k : Kt p l e R s m args below meth c H0 cells slots Q L D cA A nL pc' pl' st' μ') : Wg p l e R s m args below meth c H locs cells slots Q L pc ls st := by
  unfold b64 at h
  split at h
  · obtain ⟨rfl, rfl, rfl, rfl⟩ := nx_inv h
    exact lv_lmul hx hb hdg (k.go ha)
  · cases h
theorem sn_lcmp (hx : p.tables.exec = Jvm.exec) (hb : c.code = cc) (ha : At_ H0 L D cA A nL H locs ls pl μ)  (hdg : decode cc pc = .ok (.lcmp, 1)) (h : b64 (fun x y => .int (lg_cmp x y)) pc pl st μ = some (.inl (pc', pl', st', μ'))) (k : Kt p l e R s m args below meth c H0 cells slots Q L D cA A nL pc' pl' st' μ') : Wg p l e R s m args below meth c H locs cells slots Q L pc ls st := by
  unfold b64 at h
  split at h
  · obtain ⟨rfl, rfl, rfl, rfl⟩ := nx_inv h
    exact W.lcmp hx hb hdg (k.go ha)
  · cases h
theorem sn_lrem (hx : p.tables.exec = Jvm.exec) (hb : c.code = cc) (ha : At_ H0 L D cA A nL H locs ls pl μ)  (hdg : decode cc pc = .ok (.lrem, 1)) (h : b64n (fun x y => .long (x - x / y * y)) pc pl st μ = some (.inl (pc', pl', st', μ'))) (k : Kt p l e R s m args below meth c H0 cells slots Q L D cA A nL pc' pl' st' μ') : Wg p l e R s m args below meth c H locs cells slots Q L pc ls st := by
  unfold b64n at h
  split at h
  · split at h
    · rename_i hy
      obtain ⟨rfl, rfl, rfl, rfl⟩ := nx_inv h
      exact lv_lrem hx hb hdg hy (k.go ha)
    · cases h
  · cases h
theorem sn_ddiv (hx : p.tables.exec = Jvm.exec) (hb : c.code = cc) (ha : At_ H0 L D cA A nL H locs ls pl μ)  (hdg : decode cc pc = .ok (.ddiv, 1)) (h : bD FP.ddiv pc pl st μ = some (.inl (pc', pl', st', μ'))) (k : Kt p l e R s m args below meth c H0 cells slots Q L D cA A nL pc' pl' st' μ') : Wg p l e R s m args below meth c H locs cells slots Q L pc ls st := by
  unfold bD at h
  split at h
  · split at h
    · rename_i hy
      obtain ⟨rfl, rfl, rfl, rfl⟩ := nx_inv h
      exact lv_ddiv hx hb hdg (noNaN_n hy) (k.go ha)
    · cases h
  · cases h
theorem sn_dmul (hx : p.tables.exec = Jvm.exec) (hb : c.code = cc) (ha : At_ H0 L D cA A nL H locs ls pl μ)  (hdg : decode cc pc = .ok (.dmul, 1)) (h : bD FP.dmul pc pl st μ = some (.inl (pc', pl', st', μ'))) (k : Kt p l e R s m args below meth c H0 cells slots Q L D cA A nL pc' pl' st' μ') : Wg p l e R s m args below meth c H locs cells slots Q L pc ls st := by
  unfold bD at h
  split at h
  · split at h
    · rename_i hy
      obtain ⟨rfl, rfl, rfl, rfl⟩ := nx_inv h
      exact lv_dmul hx hb hdg (noNaN_n hy) (k.go ha)
    · cases h
  · cases h
theorem sn_dsub (hx : p.tables.exec = Jvm.exec) (hb : c.code = cc) (ha : At_ H0 L D cA A nL H locs ls pl μ)  (hdg : decode cc pc = .ok (.dsub, 1)) (h : bD FP.dsub pc pl st μ = some (.inl (pc', pl', st', μ'))) (k : Kt p l e R s m args below meth c H0 cells slots Q L D cA A nL pc' pl' st' μ') : Wg p l e R s m args below meth c H locs cells slots Q L pc ls st := by
  unfold bD at h
  split at h
  · split at h
    · rename_i hy
      obtain ⟨rfl, rfl, rfl, rfl⟩ := nx_inv h
      exact lv_dsub hx hb hdg (noNaN_n hy) (k.go ha)
    · cases h
  · cases h
theorem sn_i2d (hx : p.tables.exec = Jvm.exec) (hb : c.code = cc) (ha : At_ H0 L D cA A nL H locs ls pl μ)  (hdg : decode cc pc = .ok (.i2d, 1)) (h : un32 (fun x => .double (FP.i2d x)) pc pl st μ = some (.inl (pc', pl', st', μ'))) (k : Kt p l e R s m args below meth c H0 cells slots Q L D cA A nL pc' pl' st' μ') : Wg p l e R s m args below meth c H locs cells slots Q L pc ls st := by
  unfold un32 at h
  split at h
  · obtain ⟨rfl, rfl, rfl, rfl⟩ := nx_inv h
    exact lv_i2d hx hb hdg (k.go ha)
  · cases h
theorem sn_i2l (hx : p.tables.exec = Jvm.exec) (hb : c.code = cc) (ha : At_ H0 L D cA A nL H locs ls pl μ)  (hdg : decode cc pc = .ok (.i2l, 1)) (h : un32 (fun x => .long x.toInt64) pc pl st μ = some (.inl (pc', pl', st', μ'))) (k : Kt p l e R s m args below meth c H0 cells slots Q L D cA A nL pc' pl' st' μ') : Wg p l e R s m args below meth c H locs cells slots Q L pc ls st := by
  unfold un32 at h
  split at h
  · obtain ⟨rfl, rfl, rfl, rfl⟩ := nx_inv h
    exact lv_i2l hx hb hdg rfl (k.go ha)
  · cases h
theorem sn_ineg (hx : p.tables.exec = Jvm.exec) (hb : c.code = cc) (ha : At_ H0 L D cA A nL H locs ls pl μ)  (hdg : decode cc pc = .ok (.ineg, 1)) (h : un32 (fun x => .int (-x)) pc pl st μ = some (.inl (pc', pl', st', μ'))) (k : Kt p l e R s m args below meth c H0 cells slots Q L D cA A nL pc' pl' st' μ') : Wg p l e R s m args below meth c H locs cells slots Q L pc ls st := by
  unfold un32 at h
  split at h
  · obtain ⟨rfl, rfl, rfl, rfl⟩ := nx_inv h
    exact lv_ineg hx hb hdg (k.go ha)
  · cases h
theorem sn_l2d (hx : p.tables.exec = Jvm.exec) (hb : c.code = cc) (ha : At_ H0 L D cA A nL H locs ls pl μ)  (hdg : decode cc pc = .ok (.l2d, 1)) (h : un64 (fun x => .double (FP.l2d x)) pc pl st μ = some (.inl (pc', pl', st', μ'))) (k : Kt p l e R s m args below meth c H0 cells slots Q L D cA A nL pc' pl' st' μ') : Wg p l e R s m args below meth c H locs cells slots Q L pc ls st := by
  unfold un64 at h
  split at h
  · obtain ⟨rfl, rfl, rfl, rfl⟩ := nx_inv h
    exact lv_l2d hx hb hdg (k.go ha)
  · cases h
theorem sn_l2i (hx : p.tables.exec = Jvm.exec) (hb : c.code = cc) (ha : At_ H0 L D cA A nL H locs ls pl μ)  (hdg : decode cc pc = .ok (.l2i, 1)) (h : un64 (fun x => .int x.toInt32) pc pl st μ = some (.inl (pc', pl', st', μ'))) (k : Kt p l e R s m args below meth c H0 cells slots Q L D cA A nL pc' pl' st' μ') : Wg p l e R s m args below meth c H locs cells slots Q L pc ls st := by
  unfold un64 at h
  split at h
  · obtain ⟨rfl, rfl, rfl, rfl⟩ := nx_inv h
    exact lv_l2i hx hb hdg rfl (k.go ha)
  · cases h
theorem sn_d2l (hx : p.tables.exec = Jvm.exec) (hb : c.code = cc) (ha : At_ H0 L D cA A nL H locs ls pl μ)  (hdg : decode cc pc = .ok (.d2l, 1)) (h : (match st with | .double x :: r => nx (pc + 1) pl (.long (FP.d2l x) :: r) μ | _ => none) = some (.inl (pc', pl', st', μ'))) (k : Kt p l e R s m args below meth c H0 cells slots Q L D cA A nL pc' pl' st' μ') : Wg p l e R s m args below meth c H locs cells slots Q L pc ls st := by
  split at h
  · obtain ⟨rfl, rfl, rfl, rfl⟩ := nx_inv h
    exact lv_d2l hx hb hdg (k.go ha)
  · cases h
theorem sn_dcmp (hx : p.tables.exec = Jvm.exec) (hb : c.code = cc) (ha : At_ H0 L D cA A nL H locs ls pl μ) {op : CmpOp} (hdg : decode cc pc = .ok (.dcmp op, 1)) (h : (match st with | .double y :: .double x :: r => nx (pc + 1) pl (.int (Op.cmpValue (FP.dcmp x y) op) :: r) μ | _ => none) = some (.inl (pc', pl', st', μ'))) (k : Kt p l e R s m args below meth c H0 cells slots Q L D cA A nL pc' pl' st' μ') : Wg p l e R s m args below meth c H locs cells slots Q L pc ls st := by
  split at h
  · obtain ⟨rfl, rfl, rfl, rfl⟩ := nx_inv h
    exact lv_dcmp hx hb hdg (k.go ha)
  · cases h
theorem sn_lshl (hx : p.tables.exec = Jvm.exec) (hb : c.code = cc) (ha : At_ H0 L D cA A nL H locs ls pl μ)  (hdg : decode cc pc = .ok (.lshl, 1)) (h : (match st with | .int y :: .long x :: r => nx (pc + 1) pl (.long (x <<< (y.toInt64 &&& 63)) :: r) μ | _ => none) = some (.inl (pc', pl', st', μ'))) (k : Kt p l e R s m args below meth c H0 cells slots Q L D cA A nL pc' pl' st' μ') : Wg p l e R s m args below meth c H locs cells slots Q L pc ls st := by
  split at h
  · obtain ⟨rfl, rfl, rfl, rfl⟩ := nx_inv h
    exact lv_lshl hx hb hdg rfl (k.go ha)
  · cases h
theorem sn_goto (hx : p.tables.exec = Jvm.exec) (hb : c.code = cc) (ha : At_ H0 L D cA A nL H locs ls pl μ) {off : Int} (hdg : decode cc pc = .ok (.goto off, 3)) (h : jp pc off pl st μ = some (.inl (pc', pl', st', μ'))) (k : Kt p l e R s m args below meth c H0 cells slots Q L D cA A nL pc' pl' st' μ') : Wg p l e R s m args below meth c H locs cells slots Q L pc ls st := by
  obtain ⟨ht, rfl, rfl, rfl⟩ := jp_inv h
  exact lv_goto hx hb hdg ht (k.go ha)
theorem sn_if_eq (hx : p.tables.exec = Jvm.exec) (hb : c.code = cc) (ha : At_ H0 L D cA A nL H locs ls pl μ) {off : Int} (hdg : decode cc pc = .ok (.ifCond .eq off, 3)) (h : if1 .eq pc off pl st μ = some (.inl (pc', pl', st', μ'))) (k : Kt p l e R s m args below meth c H0 cells slots Q L D cA A nL pc' pl' st' μ') : Wg p l e R s m args below meth c H locs cells slots Q L pc ls st := by
  unfold if1 at h
  split at h
  · simp only at h
    split at h
    · rename_i hc
      obtain ⟨ht, rfl, rfl, rfl⟩ := jp_inv h
      exact lv_if_eq hx hb hdg ht (fun _ => k.go ha) (fun q => absurd hc q)
    · rename_i hc
      obtain ⟨rfl, rfl, rfl, rfl⟩ := nx_inv h
      exact lv_if_eq_f hx hb hdg hc (k.go ha)
  · cases h
theorem sn_icmp_eq (hx : p.tables.exec = Jvm.exec) (hb : c.code = cc) (ha : At_ H0 L D cA A nL H locs ls pl μ) {off : Int} (hdg : decode cc pc = .ok (.if_icmp .eq off, 3)) (h : if2 .eq pc off pl st μ = some (.inl (pc', pl', st', μ'))) (k : Kt p l e R s m args below meth c H0 cells slots Q L D cA A nL pc' pl' st' μ') : Wg p l e R s m args below meth c H locs cells slots Q L pc ls st := by
  unfold if2 at h
  split at h
  · simp only at h
    split at h
    · rename_i hc
      obtain ⟨ht, rfl, rfl, rfl⟩ := jp_inv h
      exact lv_icmp_eq hx hb hdg ht (fun _ => k.go ha) (fun q => absurd hc q)
    · rename_i hc
      obtain ⟨rfl, rfl, rfl, rfl⟩ := nx_inv h
      exact lv_icmp_eq_f hx hb hdg hc (k.go ha)
  · cases h
theorem sn_if_ne (hx : p.tables.exec = Jvm.exec) (hb : c.code = cc) (ha : At_ H0 L D cA A nL H locs ls pl μ) {off : Int} (hdg : decode cc pc = .ok (.ifCond .ne off, 3)) (h : if1 .ne pc off pl st μ = some (.inl (pc', pl', st', μ'))) (k : Kt p l e R s m args below meth c H0 cells slots Q L D cA A nL pc' pl' st' μ') : Wg p l e R s m args below meth c H locs cells slots Q L pc ls st := by
  unfold if1 at h
  split at h
  · simp only at h
    split at h
    · rename_i hc
      obtain ⟨ht, rfl, rfl, rfl⟩ := jp_inv h
      exact lv_if_ne hx hb hdg ht (fun _ => k.go ha) (fun q => absurd q hc)
    · rename_i hc
      obtain ⟨rfl, rfl, rfl, rfl⟩ := nx_inv h
      exact lv_if_ne_f hx hb hdg hc (k.go ha)
  · cases h
theorem sn_icmp_ne (hx : p.tables.exec = Jvm.exec) (hb : c.code = cc) (ha : At_ H0 L D cA A nL H locs ls pl μ) {off : Int} (hdg : decode cc pc = .ok (.if_icmp .ne off, 3)) (h : if2 .ne pc off pl st μ = some (.inl (pc', pl', st', μ'))) (k : Kt p l e R s m args below meth c H0 cells slots Q L D cA A nL pc' pl' st' μ') : Wg p l e R s m args below meth c H locs cells slots Q L pc ls st := by
  unfold if2 at h
  split at h
  · simp only at h
    split at h
    · rename_i hc
      obtain ⟨ht, rfl, rfl, rfl⟩ := jp_inv h
      exact lv_icmp_ne hx hb hdg ht (fun _ => k.go ha) (fun q => absurd q hc)
    · rename_i hc
      obtain ⟨rfl, rfl, rfl, rfl⟩ := nx_inv h
      exact lv_icmp_ne_f hx hb hdg hc (k.go ha)
  · cases h
theorem sn_if_lt (hx : p.tables.exec = Jvm.exec) (hb : c.code = cc) (ha : At_ H0 L D cA A nL H locs ls pl μ) {off : Int} (hdg : decode cc pc = .ok (.ifCond .lt off, 3)) (h : if1 .lt pc off pl st μ = some (.inl (pc', pl', st', μ'))) (k : Kt p l e R s m args below meth c H0 cells slots Q L D cA A nL pc' pl' st' μ') : Wg p l e R s m args below meth c H locs cells slots Q L pc ls st := by
  unfold if1 at h
  split at h
  · simp only at h
    split at h
    · rename_i hc
      obtain ⟨ht, rfl, rfl, rfl⟩ := jp_inv h
      exact lv_if_lt hx hb hdg ht (fun _ => k.go ha) (fun q => absurd hc q)
    · rename_i hc
      obtain ⟨rfl, rfl, rfl, rfl⟩ := nx_inv h
      exact lv_if_lt_f hx hb hdg hc (k.go ha)
  · cases h
theorem sn_icmp_lt (hx : p.tables.exec = Jvm.exec) (hb : c.code = cc) (ha : At_ H0 L D cA A nL H locs ls pl μ) {off : Int} (hdg : decode cc pc = .ok (.if_icmp .lt off, 3)) (h : if2 .lt pc off pl st μ = some (.inl (pc', pl', st', μ'))) (k : Kt p l e R s m args below meth c H0 cells slots Q L D cA A nL pc' pl' st' μ') : Wg p l e R s m args below meth c H locs cells slots Q L pc ls st := by
  unfold if2 at h
  split at h
  · simp only at h
    split at h
    · rename_i hc
      obtain ⟨ht, rfl, rfl, rfl⟩ := jp_inv h
      exact lv_icmp_lt hx hb hdg ht (fun _ => k.go ha) (fun q => absurd hc q)
    · rename_i hc
      obtain ⟨rfl, rfl, rfl, rfl⟩ := nx_inv h
      exact lv_icmp_lt_f hx hb hdg hc (k.go ha)
  · cases h
theorem sn_if_ge (hx : p.tables.exec = Jvm.exec) (hb : c.code = cc) (ha : At_ H0 L D cA A nL H locs ls pl μ) {off : Int} (hdg : decode cc pc = .ok (.ifCond .ge off, 3)) (h : if1 .ge pc off pl st μ = some (.inl (pc', pl', st', μ'))) (k : Kt p l e R s m args below meth c H0 cells slots Q L D cA A nL pc' pl' st' μ') : Wg p l e R s m args below meth c H locs cells slots Q L pc ls st := by
  unfold if1 at h
  split at h
  · simp only at h
    split at h
    · rename_i hc
      obtain ⟨ht, rfl, rfl, rfl⟩ := jp_inv h
      exact lv_if_ge hx hb hdg ht (fun _ => k.go ha) (fun q => absurd hc q)
    · rename_i hc
      obtain ⟨rfl, rfl, rfl, rfl⟩ := nx_inv h
      exact lv_if_ge_f hx hb hdg hc (k.go ha)
  · cases h
theorem sn_icmp_ge (hx : p.tables.exec = Jvm.exec) (hb : c.code = cc) (ha : At_ H0 L D cA A nL H locs ls pl μ) {off : Int} (hdg : decode cc pc = .ok (.if_icmp .ge off, 3)) (h : if2 .ge pc off pl st μ = some (.inl (pc', pl', st', μ'))) (k : Kt p l e R s m args below meth c H0 cells slots Q L D cA A nL pc' pl' st' μ') : Wg p l e R s m args below meth c H locs cells slots Q L pc ls st := by
  unfold if2 at h
  split at h
  · simp only at h
    split at h
    · rename_i hc
      obtain ⟨ht, rfl, rfl, rfl⟩ := jp_inv h
      exact lv_icmp_ge hx hb hdg ht (fun _ => k.go ha) (fun q => absurd hc q)
    · rename_i hc
      obtain ⟨rfl, rfl, rfl, rfl⟩ := nx_inv h
      exact lv_icmp_ge_f hx hb hdg hc (k.go ha)
  · cases h
theorem sn_if_gt (hx : p.tables.exec = Jvm.exec) (hb : c.code = cc) (ha : At_ H0 L D cA A nL H locs ls pl μ) {off : Int} (hdg : decode cc pc = .ok (.ifCond .gt off, 3)) (h : if1 .gt pc off pl st μ = some (.inl (pc', pl', st', μ'))) (k : Kt p l e R s m args below meth c H0 cells slots Q L D cA A nL pc' pl' st' μ') : Wg p l e R s m args below meth c H locs cells slots Q L pc ls st := by
  unfold if1 at h
  split at h
  · simp only at h
    split at h
    · rename_i hc
      obtain ⟨ht, rfl, rfl, rfl⟩ := jp_inv h
      exact lv_if_gt hx hb hdg ht (fun _ => k.go ha) (fun q => absurd hc q)
    · rename_i hc
      obtain ⟨rfl, rfl, rfl, rfl⟩ := nx_inv h
      exact lv_if_gt_f hx hb hdg hc (k.go ha)
  · cases h
theorem sn_icmp_gt (hx : p.tables.exec = Jvm.exec) (hb : c.code = cc) (ha : At_ H0 L D cA A nL H locs ls pl μ) {off : Int} (hdg : decode cc pc = .ok (.if_icmp .gt off, 3)) (h : if2 .gt pc off pl st μ = some (.inl (pc', pl', st', μ'))) (k : Kt p l e R s m args below meth c H0 cells slots Q L D cA A nL pc' pl' st' μ') : Wg p l e R s m args below meth c H locs cells slots Q L pc ls st := by
  unfold if2 at h
  split at h
  · simp only at h
    split at h
    · rename_i hc
      obtain ⟨ht, rfl, rfl, rfl⟩ := jp_inv h
      exact lv_icmp_gt hx hb hdg ht (fun _ => k.go ha) (fun q => absurd hc q)
    · rename_i hc
      obtain ⟨rfl, rfl, rfl, rfl⟩ := nx_inv h
      exact lv_icmp_gt_f hx hb hdg hc (k.go ha)
  · cases h
theorem sn_if_le (hx : p.tables.exec = Jvm.exec) (hb : c.code = cc) (ha : At_ H0 L D cA A nL H locs ls pl μ) {off : Int} (hdg : decode cc pc = .ok (.ifCond .le off, 3)) (h : if1 .le pc off pl st μ = some (.inl (pc', pl', st', μ'))) (k : Kt p l e R s m args below meth c H0 cells slots Q L D cA A nL pc' pl' st' μ') : Wg p l e R s m args below meth c H locs cells slots Q L pc ls st := by
  unfold if1 at h
  split at h
  · simp only at h
    split at h
    · rename_i hc
      obtain ⟨ht, rfl, rfl, rfl⟩ := jp_inv h
      exact lv_if_le hx hb hdg ht (fun _ => k.go ha) (fun q => absurd hc q)
    · rename_i hc
      obtain ⟨rfl, rfl, rfl, rfl⟩ := nx_inv h
      exact lv_if_le_f hx hb hdg hc (k.go ha)
  · cases h
theorem sn_icmp_le (hx : p.tables.exec = Jvm.exec) (hb : c.code = cc) (ha : At_ H0 L D cA A nL H locs ls pl μ) {off : Int} (hdg : decode cc pc = .ok (.if_icmp .le off, 3)) (h : if2 .le pc off pl st μ = some (.inl (pc', pl', st', μ'))) (k : Kt p l e R s m args below meth c H0 cells slots Q L D cA A nL pc' pl' st' μ') : Wg p l e R s m args below meth c H locs cells slots Q L pc ls st := by
  unfold if2 at h
  split at h
  · simp only at h
    split at h
    · rename_i hc
      obtain ⟨ht, rfl, rfl, rfl⟩ := jp_inv h
      exact lv_icmp_le hx hb hdg ht (fun _ => k.go ha) (fun q => absurd hc q)
    · rename_i hc
      obtain ⟨rfl, rfl, rfl, rfl⟩ := nx_inv h
      exact lv_icmp_le_f hx hb hdg hc (k.go ha)
  · cases h
theorem sn_ifnull (hx : p.tables.exec = Jvm.exec) (hb : c.code = cc) (ha : At_ H0 L D cA A nL H locs ls pl μ) {off : Int} (hdg : decode cc pc = .ok (.ifnull off, 3)) (h : ifn false pc off pl st μ = some (.inl (pc', pl', st', μ'))) (k : Kt p l e R s m args below meth c H0 cells slots Q L D cA A nL pc' pl' st' μ') : Wg p l e R s m args below meth c H locs cells slots Q L pc ls st := by
  unfold ifn at h
  split at h
  · simp only [cond_false] at h
    obtain ⟨rfl, rfl, rfl, rfl⟩ := nx_inv h
    exact lv_ifnull hx hb hdg (k.go ha)
  · simp only [cond_false] at h
    obtain ⟨ht, rfl, rfl, rfl⟩ := jp_inv h
    exact lv_ifnullN hx hb hdg ht (k.go ha)
  · cases h
theorem sn_ifnonnull (hx : p.tables.exec = Jvm.exec) (hb : c.code = cc) (ha : At_ H0 L D cA A nL H locs ls pl μ) {off : Int} (hdg : decode cc pc = .ok (.ifnonnull off, 3)) (h : ifn true pc off pl st μ = some (.inl (pc', pl', st', μ'))) (k : Kt p l e R s m args below meth c H0 cells slots Q L D cA A nL pc' pl' st' μ') : Wg p l e R s m args below meth c H locs cells slots Q L pc ls st := by
  unfold ifn at h
  split at h
  · simp only [cond_true] at h
    obtain ⟨ht, rfl, rfl, rfl⟩ := jp_inv h
    exact lv_ifnonnull hx hb hdg ht (k.go ha)
  · simp only [cond_true] at h
    obtain ⟨rfl, rfl, rfl, rfl⟩ := nx_inv h
    exact lv_ifnonnullN hx hb hdg (k.go ha)
  · cases h
theorem sn_dup (hx : p.tables.exec = Jvm.exec) (hb : c.code = cc) (ha : At_ H0 L D cA A nL H locs ls pl μ)  (hdg : decode cc pc = .ok (.dup, 1)) (h : dp pc pl st μ = some (.inl (pc', pl', st', μ'))) (k : Kt p l e R s m args below meth c H0 cells slots Q L D cA A nL pc' pl' st' μ') : Wg p l e R s m args below meth c H locs cells slots Q L pc ls st := by
  unfold dp at h
  split at h
  · rename_i a r
    cases hq : cat1 a
    · rw [hq] at h; cases h
    · rw [hq] at h
      simp only [cond_true] at h
      obtain ⟨rfl, rfl, rfl, rfl⟩ := nx_inv h
      exact lv_dup hx hb hdg (cat1_lf hq) (k.go ha)
  · cases h
theorem sn_dup2 (hx : p.tables.exec = Jvm.exec) (hb : c.code = cc) (ha : At_ H0 L D cA A nL H locs ls pl μ)  (hdg : decode cc pc = .ok (.dup2, 1)) (h : dp2 pc pl st μ = some (.inl (pc', pl', st', μ'))) (k : Kt p l e R s m args below meth c H0 cells slots Q L D cA A nL pc' pl' st' μ') : Wg p l e R s m args below meth c H locs cells slots Q L pc ls st := by
  unfold dp2 at h
  split at h
  · rename_i a b r
    cases hq : cat1 a && cat1 b
    · rw [hq] at h; cases h
    · rw [hq] at h
      simp only [cond_true] at h
      rw [Bool.and_eq_true] at hq
      obtain ⟨rfl, rfl, rfl, rfl⟩ := nx_inv h
      exact lv_dup2_11 hx hb hdg (cat1_lf hq.1) (cat1_lf hq.2) (k.go ha)
  · cases h
theorem sn_pop (hx : p.tables.exec = Jvm.exec) (hb : c.code = cc) (ha : At_ H0 L D cA A nL H locs ls pl μ)  (hdg : decode cc pc = .ok (.pop, 1)) (h : pp pc pl st μ = some (.inl (pc', pl', st', μ'))) (k : Kt p l e R s m args below meth c H0 cells slots Q L D cA A nL pc' pl' st' μ') : Wg p l e R s m args below meth c H locs cells slots Q L pc ls st := by
  unfold pp at h
  split at h
  · rename_i a r
    cases hq : cat1 a
    · rw [hq] at h; cases h
    · rw [hq] at h
      simp only [cond_true] at h
      obtain ⟨rfl, rfl, rfl, rfl⟩ := nx_inv h
      exact lv_pop hx hb hdg (cat1_lf hq) (k.go ha)
  · cases h
theorem sn_tsw (hx : p.tables.exec = Jvm.exec) (hb : c.code = cc) (ha : At_ H0 L D cA A nL H locs ls pl μ) {d lo hi : Int} {os : Array Int} {ln : Nat} (hdg : decode cc pc = .ok (.tableswitch d lo hi os, ln)) (h : tsw pc d lo hi os pl st μ = some (.inl (pc', pl', st', μ'))) (k : Kt p l e R s m args below meth c H0 cells slots Q L D cA A nL pc' pl' st' μ') : Wg p l e R s m args below meth c H locs cells slots Q L pc ls st := by
  unfold tsw at h
  split at h
  · rename_i x r
    split at h
    · rename_i hq
      obtain ⟨ht, rfl, rfl, rfl⟩ := jp_inv h
      exact lv_tableOut hx hb hdg hq ht (k.go ha)
    · rename_i hq
      split at h
      · rename_i off ho
        obtain ⟨ht, rfl, rfl, rfl⟩ := jp_inv h
        rw [Array.getElem?_toList] at ho
        exact lv_tableIn hx hb hdg (fun z => hq (Or.inl z)) (fun z => hq (Or.inr z)) ho ht (k.go ha)
      · cases h
  · cases h
theorem sn_lsw (hx : p.tables.exec = Jvm.exec) (hb : c.code = cc) (ha : At_ H0 L D cA A nL H locs ls pl μ)  {d : Int} {ps : Array (Int × Int)} {ln : Nat} (hdg : decode cc pc = .ok (.lookupswitch d ps, ln)) (h : lsw pc d ps pl st μ = some (.inl (pc', pl', st', μ'))) (k : Kt p l e R s m args below meth c H0 cells slots Q L D cA A nL pc' pl' st' μ') : Wg p l e R s m args below meth c H locs cells slots Q L pc ls st := by
  unfold lsw at h
  split at h
  · cases hp : (ps.toList.zip (ps.toList.drop 1)).all (fun (a, next) => a.1 < next.1)
    · rw [hp] at h; cases h
    · rw [hp] at h
      simp only [cond_true] at h
      obtain ⟨ht, rfl, rfl, rfl⟩ := jp_inv h
      exact lv_lookup hx hb hdg hp rfl ht (k.go ha)
  · cases h
end SIM1
end
section
/-! FIELDS OF THE CLASSES: their words, by program (wip/p32/gen.py) -/
section FLD
theorem uw_X1 : wsX10 = ([(1, 61), (1, 63), (1, 65), (1, 67), (1, 69)] : List (Nat × Nat)).filterMap tix := rfl
theorem ug_X1 : (wsX10).all goodWord = true := rfl
theorem uw_X3 : wsX30 = ([(2, 16), (2, 18)] : List (Nat × Nat)).filterMap tix := rfl
theorem ug_X3 : (wsX30).all goodWord = true := rfl
theorem uw_X4 : wsX40 = ([(1, 103), (1, 105), (1, 107), (1, 109), (1, 111), (1, 113), (1, 115), (1, 117)] : List (Nat × Nat)).filterMap tix := rfl
theorem ug_X4 : (wsX40).all goodWord = true := rfl
theorem uw_X5 : wsX50 = ([(2, 53), (2, 55), (2, 57), (2, 59)] : List (Nat × Nat)).filterMap tix := rfl
theorem ug_X5 : (wsX50).all goodWord = true := rfl
theorem uw_X6 : wsX60 = ([(2, 34), (2, 36), (2, 38)] : List (Nat × Nat)).filterMap tix := rfl
theorem ug_X6 : (wsX60).all goodWord = true := rfl
theorem uw_X7 : wsX70 = ([(1, 141), (1, 143), (1, 145), (1, 147), (1, 149)] : List (Nat × Nat)).filterMap tix := rfl
theorem ug_X7 : (wsX70).all goodWord = true := rfl
theorem uw_X8 : wsX80 = ([(1, 239), (2, 1), (2, 3)] : List (Nat × Nat)).filterMap tix := rfl
theorem ug_X8 : (wsX80).all goodWord = true := rfl
theorem uw_X9 : wsX90 = ([(1, 195), (1, 197), (1, 199), (1, 201), (1, 203), (1, 205), (1, 207), (1, 209), (1, 211), (1, 213), (1, 215), (1, 217), (1, 219), (1, 221), (1, 223)] : List (Nat × Nat)).filterMap tix := rfl
theorem ug_X9 : (wsX90).all goodWord = true := rfl
theorem uw_X10 : wsX100 = ([(2, 67), (2, 69), (2, 71), (2, 73), (2, 75)] : List (Nat × Nat)).filterMap tix := rfl
theorem ug_X10 : (wsX100).all goodWord = true := rfl
end FLD
end
section
section FLD2
/-- the tables' words that stay -/
def lwG : List Cond := lw_tbl.filter goodWord
theorem tix_mem {q : Nat × Nat} {w : Cond} (h : tix q = some w) : w ∈ lw_tbl := by
  unfold tix at h
  have h1 : w ∈ tch.getD q.1 [] := List.mem_of_getElem? h
  have key : ∀ l ∈ tch, w ∈ l → w ∈ lw_tbl := by
    intro l hl hw
    simp only [tch, List.mem_cons, List.not_mem_nil, or_false] at hl
    unfold lw_tbl tables_1
    simp only [List.mem_append]
    rcases hl with rfl | rfl | rfl | rfl | rfl | rfl
    · exact Or.inl hw
    · exact Or.inr (Or.inl hw)
    · exact Or.inr (Or.inr (Or.inl hw))
    · exact Or.inr (Or.inr (Or.inr (Or.inl hw)))
    · exact Or.inr (Or.inr (Or.inr (Or.inr (Or.inl hw))))
    · exact Or.inr (Or.inr (Or.inr (Or.inr (Or.inr hw))))
  by_cases hq : q.1 < tch.length
  · rw [List.getD_eq_getElem?_getD, List.getElem?_eq_getElem hq] at h1
    exact key _ (List.getElem_mem hq) h1
  · rw [List.getD_eq_getElem?_getD, List.getElem?_eq_none (Nat.le_of_not_lt hq)] at h1
    exact absurd h1 List.not_mem_nil
theorem tix_all {ws : List Cond} {ix : List (Nat × Nat)} (h : ws = ix.filterMap tix) (hg : ws.all goodWord = true) : ∀ w ∈ ws, w ∈ lwG := by
  intro w hw
  refine List.mem_filter.mpr ⟨?_, List.all_eq_true.mp hg w hw⟩
  rw [h] at hw
  obtain ⟨q, -, hq⟩ := List.mem_filterMap.mp hw
  exact tix_mem hq
theorem cl_in : ∀ (ci : Nat) (q : vw_C), vwCl[ci]? = some q → ∀ w ∈ u_ws q.1 q.2.1 q.2.2, w ∈ lwG := by
  intro ci q h
  match ci, h with
  | 0, h => cases h; exact tix_all uw_X1 ug_X1
  | 1, h => cases h; exact tix_all uw_X3 ug_X3
  | 2, h => cases h; exact tix_all uw_X4 ug_X4
  | 3, h => cases h; exact tix_all uw_X5 ug_X5
  | 4, h => cases h; exact tix_all uw_X6 ug_X6
  | 5, h => cases h; exact tix_all uw_X7 ug_X7
  | 6, h => cases h; exact tix_all uw_X8 ug_X8
  | 7, h => cases h; exact tix_all uw_X9 ug_X9
  | 8, h => cases h; exact tix_all uw_X10 ug_X10
  | n + 9, h => simp [vwCl] at h
theorem cl_get {ci : Nat} (h : ci < 9) : vwCl[ci]? = some (clT ci) := by
  match ci, h with
  | 0, _ => rfl
  | 1, _ => rfl
  | 2, _ => rfl
  | 3, _ => rfl
  | 4, _ => rfl
  | 5, _ => rfl
  | 6, _ => rfl
  | 7, _ => rfl
  | 8, _ => rfl
  | n + 9, h => omega
def tyK (q : Nat) : String := match q with
  | 0 => "I"
  | 1 => "Z"
  | _ => "J"
theorem fc_N : ∀ ci, ci < 9 → (fcode ci).length = (clT ci).2.2 := by decide +kernel
theorem fc_decl : ∀ ci, ci < 9 → ∀ j, j < 18 → j < (clT ci).2.2 → ((clT ci).2.1 j).1 = (clT ci).1 := by decide +kernel
theorem fc_desc : ∀ ci, ci < 9 → ∀ j, j < 18 → j < (clT ci).2.2 → ((fcode ci).getD j (9, 0)).1 < 3 → ((clT ci).2.1 j).2.2.1 = tyK ((fcode ci).getD j (9, 0)).1 ∧ ((clT ci).2.1 j).2.2.2 = false := by decide +kernel
theorem fc_max : ∀ ci, ci < 9 → (clT ci).2.2 ≤ 18 := by decide +kernel
theorem nm_all : ∀ ci, ci < 9 → ∀ a, a < (clT ci).2.2 → ∀ b, b < (clT ci).2.2 → a ≠ b → ((clT ci).2.1 a).2.1 ≠ ((clT ci).2.1 b).2.1 := by
  intro ci h
  match ci, h with
  | 0, _ => exact nmX1
  | 1, _ => exact nmX3
  | 2, _ => exact nmX4
  | 3, _ => exact nmX5
  | 4, _ => exact nmX6
  | 5, _ => exact nmX7
  | 6, _ => exact nmX8
  | 7, _ => exact nmX9
  | 8, _ => exact nmX10
  | n + 9, h => omega
def tyA (ci : Nat) : Nat → FieldType := ([tyX1, tyX3, tyX4, tyX5, tyX6, tyX7, tyX8, tyX9, tyX10] : List (Nat → FieldType)).getD ci tyX0
theorem ty_all : ∀ ci, ci < 9 → ∀ k, k < (clT ci).2.2 → parseFieldDescriptor ((clT ci).2.1 k).2.2.1 = some (tyA ci k) := by
  intro ci h
  match ci, h with
  | 0, _ => exact tyX1_ok
  | 1, _ => exact tyX3_ok
  | 2, _ => exact tyX4_ok
  | 3, _ => exact tyX5_ok
  | 4, _ => exact tyX6_ok
  | 5, _ => exact tyX7_ok
  | 6, _ => exact tyX8_ok
  | 7, _ => exact tyX9_ok
  | 8, _ => exact tyX10_ok
  | n + 9, h => omega
/-- a pool's entry fits the layout -/
def entOK (e : Ent) : Bool := match e with
  | (0, ci, j, _) => Nat.blt ci 9 && decide ((fcode ci)[j]? = some (0, 0))
  | (1, ci, j, _) => Nat.blt ci 9 && decide ((fcode ci)[j]? = some (1, 0))
  | (2, ci, j, _) => Nat.blt ci 9 && decide ((fcode ci)[j]? = some (2, 0))
  | (3, ci, j, .ref o) => Nat.blt ci 9 && decide ((fcode ci)[j]? = some (3, o))
  | (3, _, _, _) => false
  | (4, n, na, .ref ci) => (Nat.blt ci 9 || Nat.beq ci 29) && Nat.blt n 116 && Nat.blt 0 na && decide ((parseMethodDescriptor (yN n).desc).map (fun d => d.parameters.length + 1) = some na) && (mrec n).2.2.2.isEmpty
  | (9, n, na, _) => Nat.blt n 116 && decide ((parseMethodDescriptor (yN n).desc).map (fun d => d.parameters.length) = some na)
  | (10, n, na, _) => Nat.blt n 116 && decide ((parseMethodDescriptor (yN n).desc).map (fun d => d.parameters.length) = some na) && (mrec n).2.2.2.isEmpty
  | (5, id, _, _) => Nat.blt id 4
  | (7, k, _, _) => decide (k = 1 ∨ k = 2 ∨ k = 3)
  | (8, ci, j, _) => decide (ci = 29 ∧ (j = 0 ∨ j = 1))
  | (12, k, _, _) => decide (k = 400 ∨ k = 402 ∨ k = 411)
  | _ => true
/-- entries that link a nest mate's private member -/
def entNest (own : String) (ix : Nat) (e : Ent) : Prop := (e.1 = 11 → own = "OrganCorners$OrderText" ∧ ix = 19 ∧ e.2.1 = 401) ∧ (e.1 = 10 → (own = "OrganCorners$Outlook" ∧ ix = 28 ∨ own = "OrganCorners$Town" ∧ ix = 162) ∧ e.2.1 = nX10_holds)
/-- what is known of a pool -/
def PF (own : String) (pl : Nat → Ent) : Prop := ∀ ix, entOK (pl ix) = true ∧ (∀ w ∈ entWs own ix (pl ix), w ∈ lwG) ∧ entNest own ix (pl ix)
theorem plk_or {l : List (Nat × Ent)} {ix : Nat} : plk l ix = (99, 0, 0, .null) ∨ (ix, plk l ix) ∈ l := by
  induction l with
  | nil => exact Or.inl rfl
  | cons a l ih =>
    obtain ⟨i, e⟩ := a
    unfold plk
    cases h : Nat.beq i ix
    · rcases ih with h1 | h1
      · exact Or.inl h1
      · exact Or.inr (List.mem_cons_of_mem _ h1)
    · have := Nat.eq_of_beq_eq_true h
      subst this
      exact Or.inr List.mem_cons_self
theorem PF_of {own : String} {l : List (Nat × Ent)} {ixs : List (List (Nat × Nat))} (hk : l.map (fun q => entWs own q.1 q.2) = ixs.map (fun is => is.filterMap tix)) (hg : (l.map (fun q => entWs own q.1 q.2)).all (fun l => l.all goodWord) = true) (he : l.all (fun q => entOK q.2) = true) (hn : ∀ q ∈ l, entNest own q.1 q.2) : PF own (plk l) := by
  intro ix
  rcases plk_or (l := l) (ix := ix) with h | h
  · rw [h]
    exact ⟨rfl, fun w hw => absurd hw List.not_mem_nil, (⟨fun h => absurd h (by decide), fun h => absurd h (by decide)⟩ : entNest own ix (99, 0, 0, .null))⟩
  · refine ⟨List.all_eq_true.mp he _ h, ?_⟩
    have h1 : entWs own ix (plk l ix) ∈ l.map (fun q => entWs own q.1 q.2) := List.mem_map.mpr ⟨_, h, rfl⟩
    have h2 := List.all_eq_true.mp hg _ h1
    rw [hk] at h1
    obtain ⟨is, -, hi⟩ := List.mem_map.mp h1
    exact ⟨tix_all hi.symm h2, hn _ h⟩
theorem pf_L : PF RL pl_L := PF_of ek_L eg_L (by decide +kernel) (by unfold entNest; decide +kernel)
theorem pf_X1 : PF RX1 pl_X1 := PF_of ek_X1 eg_X1 (by decide +kernel) (by unfold entNest; decide +kernel)
theorem pf_X2 : PF RX2 pl_X2 := PF_of ek_X2 eg_X2 (by decide +kernel) (by unfold entNest; decide +kernel)
theorem pf_X3 : PF RX3 pl_X3 := PF_of ek_X3 eg_X3 (by decide +kernel) (by unfold entNest; decide +kernel)
theorem pf_X4 : PF RX4 pl_X4 := PF_of ek_X4 eg_X4 (by decide +kernel) (by unfold entNest; decide +kernel)
theorem pf_X5 : PF RX5 pl_X5 := PF_of ek_X5 eg_X5 (by decide +kernel) (by unfold entNest; decide +kernel)
theorem pf_X6 : PF RX6 pl_X6 := PF_of ek_X6 eg_X6 (by decide +kernel) (by unfold entNest; decide +kernel)
theorem pf_X7 : PF RX7 pl_X7 := PF_of ek_X7 eg_X7 (by decide +kernel) (by unfold entNest; decide +kernel)
theorem pf_X8 : PF RX8 pl_X8 := PF_of ek_X8 eg_X8 (by decide +kernel) (by unfold entNest; decide +kernel)
theorem pf_X9 : PF RX9 pl_X9 := PF_of ek_X9 eg_X9 (by decide +kernel) (by unfold entNest; decide +kernel)
theorem pf_X10 : PF RX10 pl_X10 := PF_of ek_X10 eg_X10 (by decide +kernel) (by unfold entNest; decide +kernel)
end FLD2
end
section
/-! STEPS THAT READ AND WRITE THE HEAP -/
section SIM2
variable {p : Program} {l : Launch} {e : Env} {R : Room} {s : State} {m : MethodId} {args : Array Value} {below : List Frame} {meth : Method} {c : Code} {H H0 : Heap} {locs : List Loc} {cells slots : Nat} {Q : State → Prop} {cc : ByteArray} {nL : Nat}
variable {L : Nat → Nat} {D : va_G} {cA : Nat → ClassId} {A : Nat → Prop} {pc pc' : Nat} {ls : Array Slot} {pl pl' st st' : List Value} {μ μ' : PM} {own : String} {pool : Nat → Ent}
/-- the classes of the arrays -/
def tyL (cA : Nat → ClassId) : List (ClassId × FieldType) := [(cA 20, .int), (cA 20, .int), (cA 22, .object "OrganCorners$Corner"), (cA 23, .object "OrganCorners$Organ"), (cA 24, .object "OrganCorners$Player"), (cA 26, .object "OrganCorners$Town")]
theorem inb_in {i : Int32} {n : Nat} (h : inb i n = true) : vp_in i n := by
  unfold inb at h
  unfold vp_in
  simp only [Bool.not_eq_true', Bool.or_eq_false_iff, decide_eq_false_iff_not] at h
  rintro (q | q)
  · exact h.1 q
  · have := Nat.ble_eq.mpr q
    rw [h.2] at this
    cases this
theorem sn_iast (hx : p.tables.exec = Jvm.exec) (hb : c.code = cc) (ha : At_ H0 L D cA A nL H locs ls pl μ) (hK : va_K D vwCl (tyL cA) s) (hdg : decode cc pc = .ok (.iastore, 1)) (h : asI pc pl st μ = some (.inl (pc', pl', st', μ'))) (k : Kt p l e R s m args below meth c H0 cells slots Q L D cA A nL pc' pl' st' μ') : Wg p l e R s m args below meth c H locs cells slots Q L pc ls st := by
  unfold asI at h
  split at h
  · rename_i v i kk r
    split at h
    · rename_i hc
      obtain ⟨rfl, rfl, rfl, rfl⟩ := nx_inv h
      have hlt := okA_in hc.1
      have hor := okA_or hc.1
      refine va_iast (f := mI μ kk) hx hb hK ha.2.1 ha.2.2.1 ha.2.2.2 (ixN kk) 0 ((WS_get hlt).trans (congrArg _ (congrArg _ (entW_ints hor)))) rfl (inb_in hc.2) hdg (fun H1 locs1 hP hD hS => ?_)
      rw [WS_setI hlt.fx (by rw [entW_ints hor, stI_self])] at hP hD
      exact k _ _ _ ha.1 hP hD hS
    · cases h
  · cases h
theorem cls21 {k : Nat} (h : cls k = 21) : False := by
  by_cases hk : k < 430
  · have key : ∀ k, k < 430 → cls k ≠ 21 := by decide +kernel
    exact key k hk h
  · have := ly_dyn (k - 430)
    rw [show 430 + (k - 430) = k by omega] at this
    unfold cls at h
    rw [this] at h
    cases h
theorem no21L (h : alJ pc pl st μ = some (.inl (pc', pl', st', μ'))) : False := by
  unfold alJ at h
  split at h
  · split at h
    · rename_i hc; exact cls21 hc.1
    · cases h
  · cases h
theorem no21S (h : asJ pc pl st μ = some (.inl (pc', pl', st', μ'))) : False := by
  unfold asJ at h
  split at h
  · split at h
    · rename_i hc; exact cls21 hc.1
    · cases h
  · cases h
/-- fixed objects: arrays of the classes' statics, the kinds, their texts -/
def SF1 (L : Nat → Nat) (A : Nat → Prop) (U : State) (H : Heap) : Prop :=
  (va_Z "OrganCorners" "GREATEST_SETTINGS" "[I" (.ref (L 400)) A U H ∧ va_T .int (L 400) 5 (fun j => .int (cst 400 j)) A U H) ∧
  (va_Z "OrganCorners$1" "$SwitchMap$OrganCorners$OrderKind" "[I" (.ref (L 402)) A U H ∧ va_T .int (L 402) 5 (fun j => .int (cst 402 j)) A U H) ∧
  (va_Z "OrganCorners" "ORDER_KINDS" "[LOrganCorners$OrderKind;" (.ref (L 401)) A U H ∧ va_T (.object "OrganCorners$OrderKind") (L 401) 5 (fun j => .ref (L (410 + j))) A U H) ∧
  va_Z "OrganCorners$OrderKind" "WET" "LOrganCorners$OrderKind;" (.ref (L 411)) A U H
def SF2 (L : Nat → Nat) (A : Nat → Prop) (U : State) (H : Heap) : Prop :=
  (∀ j, j < 5 → va_O "OrganCorners$OrderKind" (L (410 + j)) A U H ∧ va_OF "OrganCorners$OrderKind" "least" "Ljava/lang/String;" (.ref (L (420 + 2 * j))) (L (410 + j)) A U H ∧ va_OF "OrganCorners$OrderKind" "greatest" "Ljava/lang/String;" (.ref (L (421 + 2 * j))) (L (410 + j)) A U H ∧ va_OF "java/lang/Enum" "ordinal" "I" (.int (Int32.ofNat j)) (L (410 + j)) A U H) ∧
  (∀ i, i < 10 → ∃ v, va_O "java/lang/String" (L (420 + i)) A U H ∧ va_OF "java/lang/String" "coder" "B" (.int 0) (L (420 + i)) A U H ∧ va_OF "java/lang/String" "value" "[B" (.ref v) (L (420 + i)) A U H ∧ va_T .byte v (strs.getD i []).length (fun j => .int ((strs.getD i []).getD j 0)) A U H) ∧
  va_Z "java/lang/String" "COMPACT_STRINGS" "Z" (.int 1) A U H ∧
  va_Zq "jdk/internal/util/Preconditions" "SIOOBE_FORMATTER" "Ljava/util/function/BiFunction;" A U H
/-- what the tables say beside the words that stay -/
def SF3 (U : State) : Prop :=
  va_Nw (.methodLinkNest "OrganCorners$Outlook" 28 (yN nX10_holds) "OrganCorners") U ∧ va_Nw (.methodLinkNest "OrganCorners$Town" 162 (yN nX10_holds) "OrganCorners") U ∧ va_Nw (.fieldLinkNest "OrganCorners$OrderText" 19 "OrganCorners" "ORDER_KINDS" "[LOrganCorners$OrderKind;" "OrganCorners") U
def SF (L : Nat → Nat) (A : Nat → Prop) (U : State) (H : Heap) : Prop := SF1 L A U H ∧ SF2 L A U H ∧ SF3 U ∧ (∀ i j, i < 5 → j < 5 → L (410 + i) = L (410 + j) → i = j)
theorem SF.kept {U : State} {H1 : Heap} (h : SF L A U H) (hq : ∀ a : Nat, a < H.size → ¬ A a → H1[a]? = H[a]?) : SF L A U H1 := by
  obtain ⟨h1, h2, h3, h4⟩ := h
  refine ⟨⟨⟨h1.1.1.kept hq, h1.1.2.kept hq⟩, ⟨h1.2.1.1.kept hq, h1.2.1.2.kept hq⟩, ⟨h1.2.2.1.1.kept hq, h1.2.2.1.2.kept hq⟩, h1.2.2.2.kept hq⟩, ⟨fun j hj => ?_, fun i hi => ?_, h2.2.2.1.kept hq, h2.2.2.2.kept hq⟩, h3, h4⟩
  · obtain ⟨a1, a2, a3, a4⟩ := h2.1 j hj
    exact ⟨a1.kept hq, a2.kept hq, a3.kept hq, a4.kept hq⟩
  · obtain ⟨v, a1, a2, a3, a4⟩ := h2.2.1 i hi
    exact ⟨v, a1.kept hq, a2.kept hq, a3.kept hq, a4.kept hq⟩
theorem SF.moved {u U : State} (hW : u.WarmedH U.vm) (h : SF L A u H) : SF L A U H := by
  obtain ⟨h1, h2, h3, h4⟩ := h
  have hvm := hW.alike
  refine ⟨⟨⟨h1.1.1.moved hvm, h1.1.2.moved hvm⟩, ⟨h1.2.1.1.moved hvm, h1.2.1.2.moved hvm⟩, ⟨h1.2.2.1.1.moved hvm, h1.2.2.1.2.moved hvm⟩, h1.2.2.2.moved hvm⟩, ⟨fun j hj => ?_, fun i hi => ?_, h2.2.2.1.moved hvm, h2.2.2.2.moved hvm⟩, ?_, h4⟩
  · obtain ⟨a1, a2, a3, a4⟩ := h2.1 j hj
    exact ⟨a1.moved hvm, a2.moved hvm, a3.moved hvm, a4.moved hvm⟩
  · obtain ⟨v, a1, a2, a3, a4⟩ := h2.2.1 i hi
    exact ⟨v, a1.moved hvm, a2.moved hvm, a3.moved hvm, a4.moved hvm⟩
  · obtain ⟨b1, b2, b3⟩ := h3
    exact ⟨va_Nw.warmM hW b1, va_Nw.warmM hW b2, va_Nw.warmF hW b3⟩
theorem cls27 {k : Nat} (h : cls k = 27) : k = 400 ∨ k = 402 := by
  by_cases hk : k < 345
  · exfalso
    have key : ∀ k, k < 345 → cls k ≠ 27 := by decide +kernel
    exact key k hk h
  · have h1 : Nat.blt k 23 = false := by
      cases hb : Nat.blt k 23
      · rfl
      · have := Nat.blt_eq.mp hb; omega
    have h2 : Nat.blt k 345 = false := by
      cases hb : Nat.blt k 345
      · rfl
      · have := Nat.blt_eq.mp hb; omega
    have h3 : cls k = (lyTop k).1 := by unfold cls ly; rw [h1, h2]; rfl
    by_cases q1 : k = 400
    · exact Or.inl q1
    · by_cases q2 : k = 402
      · exact Or.inr q2
      · exfalso
        have e1 : Nat.beq k 400 = false := by
          cases hb : Nat.beq k 400
          · rfl
          · exact absurd (Nat.eq_of_beq_eq_true hb) q1
        have e2 : Nat.beq k 402 = false := by
          cases hb : Nat.beq k 402
          · rfl
          · exact absurd (Nat.eq_of_beq_eq_true hb) q2
        rw [h3] at h
        unfold lyTop at h
        rw [e1, e2] at h
        simp only [cond_false] at h
        revert h
        cases Nat.beq k 390
        · cases Nat.beq k 401
          · cases Nat.blt k 410
            · cases Nat.blt k 415
              · cases Nat.blt k 420
                · cases Nat.blt k 430 <;> simp
                · simp
              · simp
            · simp
          · simp
        · simp
theorem cls25 {k : Nat} (h : cls k = 25) : k = 390 := by
  by_cases hk : k < 345
  · exfalso
    have key : ∀ k, k < 345 → cls k ≠ 25 := by decide +kernel
    exact key k hk h
  · have h1 : Nat.blt k 23 = false := by
      cases hb : Nat.blt k 23
      · rfl
      · have := Nat.blt_eq.mp hb; omega
    have h2 : Nat.blt k 345 = false := by
      cases hb : Nat.blt k 345
      · rfl
      · have := Nat.blt_eq.mp hb; omega
    have h3 : cls k = (lyTop k).1 := by unfold cls ly; rw [h1, h2]; rfl
    by_cases q1 : k = 390
    · exact q1
    · exfalso
      have e1 : Nat.beq k 390 = false := by
        cases hb : Nat.beq k 390
        · rfl
        · exact absurd (Nat.eq_of_beq_eq_true hb) q1
      rw [h3] at h
      unfold lyTop at h
      rw [e1] at h
      simp only [cond_false] at h
      revert h
      cases Nat.beq k 400
      · cases Nat.beq k 402
        · cases Nat.beq k 401
          · cases Nat.blt k 410
            · cases Nat.blt k 415
              · cases Nat.blt k 420
                · cases Nat.blt k 430 <;> simp
                · simp
              · simp
            · simp
          · simp
        · simp
      · simp
theorem cls28 {k : Nat} (h : cls k = 28) : k = 401 := by
  by_cases hk : k < 345
  · exfalso
    have key : ∀ k, k < 345 → cls k ≠ 28 := by decide +kernel
    exact key k hk h
  · have h1 : Nat.blt k 23 = false := by
      cases hb : Nat.blt k 23
      · rfl
      · have := Nat.blt_eq.mp hb; omega
    have h2 : Nat.blt k 345 = false := by
      cases hb : Nat.blt k 345
      · rfl
      · have := Nat.blt_eq.mp hb; omega
    have h3 : cls k = (lyTop k).1 := by unfold cls ly; rw [h1, h2]; rfl
    by_cases q1 : k = 401
    · exact q1
    · exfalso
      have e1 : Nat.beq k 401 = false := by
        cases hb : Nat.beq k 401
        · rfl
        · exact absurd (Nat.eq_of_beq_eq_true hb) q1
      rw [h3] at h
      unfold lyTop at h
      rw [e1] at h
      simp only [cond_false] at h
      revert h
      cases Nat.beq k 390
      · cases Nat.beq k 400
        · cases Nat.beq k 402
          · cases Nat.blt k 410
            · cases Nat.blt k 415
              · cases Nat.blt k 420
                · cases Nat.blt k 430 <;> simp
                · simp
              · simp
            · simp
          · simp
        · simp
      · simp
theorem sn_iald (hx : p.tables.exec = Jvm.exec) (hb : c.code = cc) (ha : At_ s.heap L D cA A nL H locs ls pl μ) (hK : va_K D vwCl (tyL cA) s) (hF : SF L A s s.heap) (hX : va_X (L 390) μ.2.2.1 (mI μ 390) s s.heap) (hXA : ¬ A (L 390)) (hdg : decode cc pc = .ok (.iaload, 1)) (h : alI pc pl st μ = some (.inl (pc', pl', st', μ'))) (k : Kt p l e R s m args below meth c s.heap cells slots Q L D cA A nL pc' pl' st' μ') : Wg p l e R s m args below meth c H locs cells slots Q L pc ls st := by
  unfold alI at h
  split at h
  · rename_i i kk r
    split at h
    · rename_i hc
      obtain ⟨rfl, rfl, rfl, rfl⟩ := nx_inv h
      have hlt := okA_in hc.1
      exact va_iald (f := mI μ kk) hx hb hK ha.2.1 (ixN kk) 0 ((WS_get hlt).trans (congrArg _ (congrArg _ (entW_ints (okA_or hc.1))))) rfl (inb_in hc.2) hdg (k.go ha)
    · split at h
      · rename_i hc
        have e9 := cls25 hc.1
        subst e9
        obtain ⟨rfl, rfl, rfl, rfl⟩ := nx_inv h
        exact va_sld hx hb hX (by obtain ⟨scr, h1, -⟩ := hX; exact (Array.getElem?_eq_some_iff.mp h1).1) hXA ha.2.2.2 (inb_in hc.2) hdg (k.go ha)
      · split at h
        · rename_i hc
          rcases cls27 hc.1 with e9 | e9
          · subst e9
            obtain ⟨rfl, rfl, rfl, rfl⟩ := nx_inv h
            exact va_ti hx hb hF.1.1.2 ha.2.2.2 (inb_in hc.2) rfl hdg (k.go ha)
          · subst e9
            obtain ⟨rfl, rfl, rfl, rfl⟩ := nx_inv h
            exact va_ti hx hb hF.1.2.1.2 ha.2.2.2 (inb_in hc.2) rfl hdg (k.go ha)
        · cases h
  · cases h
theorem isRA_cases {c : Nat} (h : isRA c = true) : c = 22 ∨ c = 23 ∨ c = 24 ∨ c = 26 ∨ c = 28 := by
  simp only [isRA, Bool.or_eq_true] at h
  rcases h with ((((h | h) | h) | h) | h)
  · exact Or.inl (Nat.eq_of_beq_eq_true h)
  · exact Or.inr (Or.inl (Nat.eq_of_beq_eq_true h))
  · exact Or.inr (Or.inr (Or.inl (Nat.eq_of_beq_eq_true h)))
  · exact Or.inr (Or.inr (Or.inr (Or.inl (Nat.eq_of_beq_eq_true h))))
  · exact Or.inr (Or.inr (Or.inr (Or.inr (Nat.eq_of_beq_eq_true h))))
theorem sn_aald (hx : p.tables.exec = Jvm.exec) (hb : c.code = cc) (ha : At_ s.heap L D cA A nL H locs ls pl μ) (hK : va_K D vwCl (tyL cA) s) (hF : SF L A s s.heap) (hdg : decode cc pc = .ok (.aaload, 1)) (h : alA pc pl st μ = some (.inl (pc', pl', st', μ'))) (k : Kt p l e R s m args below meth c s.heap cells slots Q L D cA A nL pc' pl' st' μ') : Wg p l e R s m args below meth c H locs cells slots Q L pc ls st := by
  unfold alA at h
  split at h
  · rename_i i kk r
    split at h
    · rename_i hc
      obtain ⟨rfl, rfl, rfl, rfl⟩ := nx_inv h
      rcases isRA_cases hc.1 with e | e | e | e | e
      · have hlt := cls_in (μ := μ) (k := kk) (Or.inl (by rw [e]; decide))
        exact va_aldq (f := fun i => some (L (eN kk i))) hx hb hK ha.2.1 (ixN kk) 2 ((WS_get hlt).trans (congrArg _ (congrArg _ (entW_refs e (by decide))))) rfl (inb_in hc.2) hdg (k.go ha)
      · have hlt := cls_in (μ := μ) (k := kk) (Or.inl (by rw [e]; decide))
        exact va_aldq (f := fun i => some (L (eN kk i))) hx hb hK ha.2.1 (ixN kk) 3 ((WS_get hlt).trans (congrArg _ (congrArg _ (entW_refs e (by decide))))) rfl (inb_in hc.2) hdg (k.go ha)
      · have hlt := cls_in (μ := μ) (k := kk) (Or.inl (by rw [e]; decide))
        exact va_aldq (f := fun i => some (L (eN kk i))) hx hb hK ha.2.1 (ixN kk) 4 ((WS_get hlt).trans (congrArg _ (congrArg _ (entW_refs e (by decide))))) rfl (inb_in hc.2) hdg (k.go ha)
      · have hlt := cls_in (μ := μ) (k := kk) (Or.inr e)
        exact va_aldq (f := fun i => some (L (eN kk i))) hx hb hK ha.2.1 (ixN kk) 5 ((WS_get hlt).trans (congrArg _ (congrArg _ (entW_refs e (by decide))))) rfl (inb_in hc.2) hdg (k.go ha)
      · have e9 := cls28 e
        subst e9
        exact vb_tq hx hb hF.1.2.2.1.2 ha.2.2.2 (inb_in hc.2) (show _ = Value.ref (L (410 + i.toNatClampNeg)) from rfl) hdg (k.go ha)
    · cases h
  · cases h
theorem sn_alen (hx : p.tables.exec = Jvm.exec) (hb : c.code = cc) (ha : At_ s.heap L D cA A nL H locs ls pl μ) (hK : va_K D vwCl (tyL cA) s) (hF : SF L A s s.heap) (hX : va_X (L 390) μ.2.2.1 (mI μ 390) s s.heap) (hXA : ¬ A (L 390)) (hdg : decode cc pc = .ok (.arraylength, 1)) (h : arl pc pl st μ = some (.inl (pc', pl', st', μ'))) (k : Kt p l e R s m args below meth c s.heap cells slots Q L D cA A nL pc' pl' st' μ') : Wg p l e R s m args below meth c H locs cells slots Q L pc ls st := by
  unfold arl at h
  split at h
  · rename_i kk r
    split at h
    · rename_i hc
      have e9 := cls25 hc
      subst e9
      obtain ⟨rfl, rfl, rfl, rfl⟩ := nx_inv h
      exact va_slen hx hb hX (by obtain ⟨scr, h1, -⟩ := hX; exact (Array.getElem?_eq_some_iff.mp h1).1) hXA ha.2.2.2 hdg (k.go ha)
    · split at h
      · rename_i hc
        have e9 := cls28 hc
        subst e9
        obtain ⟨rfl, rfl, rfl, rfl⟩ := nx_inv h
        exact va_tlen hx hb hF.1.2.2.1.2 ha.2.2.2 rfl hdg (k.go ha)
      · split at h
        · rename_i hc
          have hlt := okA_in hc
          obtain ⟨rfl, rfl, rfl, rfl⟩ := nx_inv h
          exact va_alen hx hb hK ha.2.1 (ixN kk) 0 ((WS_get hlt).trans (congrArg _ (congrArg _ (entW_ints (okA_or hc))))) rfl rfl hdg (k.go ha)
        · cases h
  · cases h
theorem get_obj (hx : p.tables.exec = Jvm.exec) (hb : c.code = cc) (hown : s.vm.findClass own = some m.cls) (hts : ∀ w ∈ lwG, w.before args s = true) (hK : va_K D vwCl (tyL cA) s) (ha : At_ H0 L D cA A nL H locs ls pl μ) {ix k ci j : Nat} {q : Nat × Nat} {rest : List Value} (hci : ci < 9) (hc : cls k = ci) (hq : (fcode ci)[j]? = some q) (hw : Cond.fieldLink own ix (clT ci).1 ((clT ci).2.1 j).2.1 ((clT ci).2.1 j).2.2.1 ∈ lwG) (hdg : decode cc pc = .ok (.getfield ix, 3))
    (kk : W p l e R s m args below meth c H locs cells slots Q (F0 m (pc + 3) ls (fval L μ k j q :: rest))) : W p l e R s m args below meth c H locs cells slots Q (F0 m pc ls (.ref (L k) :: rest)) := by
  have hjl : j < (clT ci).2.2 := by rw [← fc_N ci hci]; exact (List.getElem?_eq_some_iff.mp hq).1
  have hd : ((clT ci).2.1 j).1 = (clT ci).1 := fc_decl ci hci j (Nat.lt_of_lt_of_le hjl (fc_max ci hci)) hjl
  have hlt := cls_in (μ := μ) (k := k) (Or.inl (by rw [hc]; omega))
  exact va_get (C := (clT ci).1) (T := (clT ci).2.1) (N := (clT ci).2.2) hx hb hts (cl_in ci _ (cl_get hci)) hown hK ha.2.1 (ixN k) ((WS_get hlt).trans (congrArg _ (congrArg _ (entW_obj hc hci)))) (cl_get hci) j hjl (hts _ hw) (fun x h9 => by rw [hd] at h9; exact h9) (flds_get hq) hdg kk
theorem put_obj (hx : p.tables.exec = Jvm.exec) (hb : c.code = cc) (hown : s.vm.findClass own = some m.cls) (hts : ∀ w ∈ lwG, w.before args s = true) (hK : va_K D vwCl (tyL cA) s) (ha : At_ H0 L D cA A nL H locs ls pl μ) {ix k ci j : Nat} {q : Nat × Nat} {rest : List Value} {v : Value} {ty : FieldType} (hci : ci < 9) (hc : cls k = ci) (hq : (fcode ci)[j]? = some q) (hq3 : q.1 < 3) (hw : Cond.fieldLink own ix (clT ci).1 ((clT ci).2.1 j).2.1 ((clT ci).2.1 j).2.2.1 ∈ lwG) (hdg : decode cc pc = .ok (.putfield ix, 3))
    (hty : parseFieldDescriptor (tyK q.1) = some ty) (hn : narrow ty v = v) (hfit : fits ty v = true)
    (kk : ∀ (H1 : Heap) (locs1 : List Loc), va_P D vwCl ((WS L cA μ).set (ixN k) (L k, .inr (ci, (flds L μ k ci).set j v))) H1 → va_D A ((WS L cA μ).set (ixN k) (L k, .inr (ci, (flds L μ k ci).set j v))) → va_S A H0 H1 locs1 → W p l e R s m args below meth c H1 locs1 cells slots Q (F0 m (pc + 3) ls rest)) : W p l e R s m args below meth c H locs cells slots Q (F0 m pc ls (v :: .ref (L k) :: rest)) := by
  have hjl0 : j < (fcode ci).length := (List.getElem?_eq_some_iff.mp hq).1
  have hjl : j < (clT ci).2.2 := by rw [← fc_N ci hci]; exact hjl0
  have hj18 : j < 18 := Nat.lt_of_lt_of_le hjl (fc_max ci hci)
  have hd : ((clT ci).2.1 j).1 = (clT ci).1 := fc_decl ci hci j hj18 hjl
  have hqd : (fcode ci).getD j (9, 0) = q := by rw [List.getD_eq_getElem?_getD, hq]; rfl
  obtain ⟨e1, e2⟩ := fc_desc ci hci j hj18 hjl (by rw [hqd]; exact hq3)
  rw [hqd] at e1
  have hlt := cls_in (μ := μ) (k := k) (Or.inl (by rw [hc]; omega))
  exact va_put (C := (clT ci).1) (T := (clT ci).2.1) (N := (clT ci).2.2) hx hb hts (cl_in ci _ (cl_get hci)) (tyA ci) (ty_all ci hci) (nm_all ci hci) hown hK ha.2.1 ha.2.2.1 ha.2.2.2 (ixN k) ((WS_get hlt).trans (congrArg _ (congrArg _ (entW_obj hc hci)))) (cl_get hci) j hjl (hts _ hw) (fun x h9 => by rw [hd] at h9; exact h9) e2 (by rw [e1]; exact hty) hn hfit (by rw [flds_len]; exact hjl0) hdg kk
theorem nar_Z {v : Int32} (h : v = 0 ∨ v = 1) : narrow .boolean (.int v) = .int v := by
  rcases h with rfl | rfl <;> rfl
theorem sn_put (hx : p.tables.exec = Jvm.exec) (hb : c.code = cc) (ha : At_ H0 L D cA A nL H locs ls pl μ) (hown : s.vm.findClass own = some m.cls) (hts : ∀ w ∈ lwG, w.before args s = true) (hK : va_K D vwCl (tyL cA) s) (hpf : PF own pool) {ix : Nat} (hdg : decode cc pc = .ok (.putfield ix, 3)) (h : ptf pool pc ix pl st μ = some (.inl (pc', pl', st', μ'))) (k : Kt p l e R s m args below meth c H0 cells slots Q L D cA A nL pc' pl' st' μ') : Wg p l e R s m args below meth c H locs cells slots Q L pc ls st := by
  obtain ⟨hok, hw, -⟩ := hpf ix
  unfold ptf at h
  split at h
  · rename_i v kk r
    split at h
    · rename_i ci j z he
      rw [he] at hok hw
      simp only [entOK, Bool.and_eq_true, decide_eq_true_eq] at hok
      have hci := Nat.blt_eq.mp hok.1
      rw [hok.1] at h
      simp only [cond_true] at h
      split at h
      · rename_i hc
        obtain ⟨rfl, rfl, rfl, rfl⟩ := nx_inv h
        refine put_obj (v := .int v) (ty := .int) hx hb hown hts hK ha hci hc hok.2 (by decide) (hw _ List.mem_cons_self) hdg rfl rfl rfl (fun H1 locs1 hP hD hS => ?_)
        have e9 : entW L cA (stI μ kk j v) kk = .inr (ci, (flds L μ kk ci).set j (.int v)) := by rw [entW_obj hc hci, flds_setI hok.2 (Or.inl rfl)]
        rw [WS_setI (cls_in (μ := μ) (k := kk) (Or.inl (by rw [hc]; omega))).fx e9] at hP hD
        exact k _ _ _ ha.1 hP hD hS
      · cases h
    · rename_i ci j z he
      rw [he] at hok hw
      simp only [entOK, Bool.and_eq_true, decide_eq_true_eq] at hok
      have hci := Nat.blt_eq.mp hok.1
      rw [hok.1] at h
      simp only [cond_true] at h
      split at h
      · rename_i hc
        obtain ⟨rfl, rfl, rfl, rfl⟩ := nx_inv h
        refine put_obj (v := .int v) (ty := .boolean) hx hb hown hts hK ha hci hc.1 hok.2 (by decide) (hw _ List.mem_cons_self) hdg rfl (nar_Z hc.2) (by rcases hc.2 with e | e <;> rw [e] <;> rfl) (fun H1 locs1 hP hD hS => ?_)
        have e9 : entW L cA (stI μ kk j v) kk = .inr (ci, (flds L μ kk ci).set j (.int v)) := by rw [entW_obj hc.1 hci, flds_setI hok.2 (Or.inr rfl)]
        rw [WS_setI (cls_in (μ := μ) (k := kk) (Or.inl (by rw [hc.1]; omega))).fx e9] at hP hD
        exact k _ _ _ ha.1 hP hD hS
      · cases h
    · cases h
  · rename_i v kk r
    split at h
    · rename_i ci j z he
      rw [he] at hok hw
      simp only [entOK, Bool.and_eq_true, decide_eq_true_eq] at hok
      have hci := Nat.blt_eq.mp hok.1
      split at h
      · rename_i hc
        obtain ⟨rfl, rfl, rfl, rfl⟩ := nx_inv h
        refine put_obj (v := .long v) (ty := .long) hx hb hown hts hK ha hci hc hok.2 (by decide) (hw _ List.mem_cons_self) hdg rfl rfl rfl (fun H1 locs1 hP hD hS => ?_)
        have e9 : entW L cA (stJ μ kk j v) kk = .inr (ci, (flds L μ kk ci).set j (.long v)) := by rw [entW_obj hc hci, flds_setJ hok.2 rfl]
        rw [WS_setJ (cls_in (μ := μ) (k := kk) (Or.inl (by rw [hc]; omega))).fx e9] at hP hD
        exact k _ _ _ ha.1 hP hD hS
      · cases h
    · cases h
  · cases h
end SIM2
end
section
/-! WHAT IS KNOWN OF EACH METHOD, by program (wip/p32/genmok.py) -/
section MOK
def lnOK (i : Instr) (l : Nat) : Bool := match i with
  | .aaload => Nat.beq l 1
  | .aconst_null => Nat.beq l 1
  | .aload _ => Nat.beq l 2
  | .aload_n _ => Nat.beq l 1
  | .areturn => Nat.beq l 1
  | .arraylength => Nat.beq l 1
  | .astore _ => Nat.beq l 2
  | .astore_n _ => Nat.beq l 1
  | .bipush _ => Nat.beq l 2
  | .d2l => Nat.beq l 1
  | .dcmp _ => Nat.beq l 1
  | .dconst _ => Nat.beq l 1
  | .ddiv => Nat.beq l 1
  | .dload _ => Nat.beq l 2
  | .dload_n _ => Nat.beq l 1
  | .dmul => Nat.beq l 1
  | .dreturn => Nat.beq l 1
  | .dstore _ => Nat.beq l 2
  | .dstore_n _ => Nat.beq l 1
  | .dsub => Nat.beq l 1
  | .dup => Nat.beq l 1
  | .dup2 => Nat.beq l 1
  | .getfield _ => Nat.beq l 3
  | .getstatic _ => Nat.beq l 3
  | .goto _ => Nat.beq l 3
  | .i2d => Nat.beq l 1
  | .i2l => Nat.beq l 1
  | .iadd => Nat.beq l 1
  | .iaload => Nat.beq l 1
  | .iand => Nat.beq l 1
  | .iastore => Nat.beq l 1
  | .iconst _ => Nat.beq l 1
  | .idiv => Nat.beq l 1
  | .ifCond _ _ => Nat.beq l 3
  | .if_acmp _ _ => Nat.beq l 3
  | .if_icmp _ _ => Nat.beq l 3
  | .ifnonnull _ => Nat.beq l 3
  | .ifnull _ => Nat.beq l 3
  | .iinc _ _ => Nat.beq l 3
  | .iload _ => Nat.beq l 2
  | .iload_n _ => Nat.beq l 1
  | .imul => Nat.beq l 1
  | .ineg => Nat.beq l 1
  | .invokestatic _ => Nat.beq l 3
  | .invokevirtual _ => Nat.beq l 3
  | .ior => Nat.beq l 1
  | .irem => Nat.beq l 1
  | .ireturn => Nat.beq l 1
  | .ishl => Nat.beq l 1
  | .ishr => Nat.beq l 1
  | .istore _ => Nat.beq l 2
  | .istore_n _ => Nat.beq l 1
  | .isub => Nat.beq l 1
  | .iushr => Nat.beq l 1
  | .ixor => Nat.beq l 1
  | .l2d => Nat.beq l 1
  | .l2i => Nat.beq l 1
  | .ladd => Nat.beq l 1
  | .laload => Nat.beq l 1
  | .lastore => Nat.beq l 1
  | .lcmp => Nat.beq l 1
  | .lconst _ => Nat.beq l 1
  | .ldc _ => Nat.beq l 2
  | .ldc2_w _ => Nat.beq l 3
  | .ldc_w _ => Nat.beq l 3
  | .lload _ => Nat.beq l 2
  | .lload_n _ => Nat.beq l 1
  | .lmul => Nat.beq l 1
  | .lookupswitch _ _ => true
  | .lrem => Nat.beq l 1
  | .lreturn => Nat.beq l 1
  | .lshl => Nat.beq l 1
  | .lstore _ => Nat.beq l 2
  | .lstore_n _ => Nat.beq l 1
  | .lsub => Nat.beq l 1
  | .newarray _ => Nat.beq l 2
  | .pop => Nat.beq l 1
  | .putfield _ => Nat.beq l 3
  | .return_ => Nat.beq l 1
  | .sipush _ => Nat.beq l 3
  | .tableswitch _ _ _ _ => true
  | _ => true
def DC (cs : Chunks) (b : ByteArray) : Prop := ∀ c ∈ cs, ∀ z ∈ c, decode b z.1 = .ok (z.2.1, z.2.2) ∧ lnOK z.2.1 z.2.2 = true
theorem DC_nil {b : ByteArray} : DC [] b := fun c h => absurd h List.not_mem_nil
theorem DC_cons {b : ByteArray} {c : List (Nat × Instr × Nat)} {cs : Chunks} (h : ∀ z ∈ c, decode b z.1 = .ok (z.2.1, z.2.2)) (hl : c.all (fun z => lnOK z.2.1 z.2.2) = true) (h2 : DC cs b) : DC (c :: cs) b := by
  intro d hd z hz
  rcases List.mem_cons.mp hd with rfl | hd
  · exact ⟨h z hz, List.all_eq_true.mp hl z hz⟩
  · exact h2 d hd z hz
theorem lk_mem {c : List (Nat × Instr × Nat)} {pc : Nat} {i : Instr} {l : Nat} (h : lk c pc = some (i, l)) : (pc, i, l) ∈ c := by
  induction c with
  | nil => cases h
  | cons a r ih =>
    obtain ⟨p, j, n⟩ := a
    unfold lk at h
    cases hb : Nat.beq p pc
    · rw [hb] at h; exact List.mem_cons_of_mem _ (ih h)
    · rw [hb] at h
      simp only [cond_true, Option.some.injEq, Prod.mk.injEq] at h
      obtain ⟨rfl, rfl⟩ := h
      rw [Nat.eq_of_beq_eq_true hb]
      exact List.mem_cons_self
theorem DC.at {cs : Chunks} {b : ByteArray} (h : DC cs b) {pc : Nat} {i : Instr} {l : Nat} (hk : lk2 cs pc = some (i, l)) : decode b pc = .ok (i, l) ∧ lnOK i l = true := by
  unfold lk2 at hk
  have hm := lk_mem hk
  by_cases hq : pc / 32 < cs.length
  · rw [List.getD_eq_getElem?_getD, List.getElem?_eq_getElem hq, Option.getD_some] at hm
    have h2 := h cs[pc / 32] (List.getElem_mem hq) (pc, i, l) hm
    exact h2
  · rw [List.getD_eq_getElem?_getD, List.getElem?_eq_none (Nat.le_of_not_lt hq)] at hm
    exact absurd hm List.not_mem_nil
/-- the type of the answer -/
def rtO (r : Nat) (t : Option FieldType) : Prop := match r, t with
  | 0, none => True
  | 1, some .int => True
  | 2, some .boolean => True
  | 3, some .long => True
  | 4, some .double => True
  | 5, some (.object _) => True
  | _, _ => False
/-- the handlers -/
def HOK (own : String) : List (Nat × Nat × Nat × Nat) → List (Nat × Nat × Nat × Nat) → Prop
  | [], [] => True
  | (a, b, h, k) :: r, (a', b', h', ct) :: r' => (a = a' ∧ b = b' ∧ h = h') ∧ ct ≠ 0 ∧ (1 ≤ k ∧ k ≤ 3) ∧ Cond.classLink own ct (exn k) ∈ lwG ∧ HOK own r r'
  | _, _ => False
def MOK (n : Nat) (M : MI) : Prop := DC M.1 (mrec n).2.1 ∧ PF (yN n).cls M.2.1 ∧ rtO M.2.2.1 (mrec n).2.2.1 ∧ HOK (yN n).cls M.2.2.2.2 (mrec n).2.2.2 ∧ (plainName (yN n).cls = true ∧ (yN n).cls ≠ "java/lang/invoke/MethodHandle" ∧ (yN n).cls ≠ "java/lang/invoke/VarHandle")
theorem tix_in {q : Nat × Nat} {w : Cond} (h : tix q = some w) (hg : goodWord w = true) : w ∈ lwG := List.mem_filter.mpr ⟨tix_mem h, hg⟩
theorem aw_int : Cond.arrayClass .int ∈ lwG := tix_in (q := (1, 72)) rfl rfl
theorem mok_0 : MOK 0 mi_X1_copyFrom := ⟨(DC_cons dk_X1_copyFrom_0 (by decide +kernel) (DC_cons dk_X1_copyFrom_1 (by decide +kernel) DC_nil)), pf_X1, trivial, trivial, by decide +kernel⟩
theorem mok_1 : MOK 1 mi_X1_isQuietAt := ⟨(DC_cons dk_X1_isQuietAt_0 (by decide +kernel) DC_nil), pf_X1, trivial, trivial, by decide +kernel⟩
theorem mok_2 : MOK 2 mi_X1_distanceTo := ⟨(DC_cons dk_X1_distanceTo_0 (by decide +kernel) DC_nil), pf_X1, trivial, trivial, by decide +kernel⟩
theorem mok_3 : MOK 3 mi_X1_tunesPlayed := ⟨(DC_cons dk_X1_tunesPlayed_0 (by decide +kernel) (DC_cons dk_X1_tunesPlayed_1 (by decide +kernel) DC_nil)), pf_X1, trivial, trivial, by decide +kernel⟩
theorem mok_4 : MOK 4 mi_X1_noteTune := ⟨(DC_cons dk_X1_noteTune_0 (by decide +kernel) DC_nil), pf_X1, trivial, trivial, by decide +kernel⟩
theorem mok_5 : MOK 5 mi_X1_forgetDay := ⟨(DC_cons dk_X1_forgetDay_0 (by decide +kernel) DC_nil), pf_X1, trivial, trivial, by decide +kernel⟩
theorem mok_6 : MOK 6 mi_X2_signCount := ⟨(DC_cons dk_X2_signCount_0 (by decide +kernel) DC_nil), pf_X2, trivial, trivial, by decide +kernel⟩
theorem mok_7 : MOK 7 mi_X2_fits := ⟨(DC_cons dk_X2_fits_0 (by decide +kernel) (DC_cons dk_X2_fits_1 (by decide +kernel) DC_nil)), pf_X2, trivial, trivial, by decide +kernel⟩
theorem mok_8 : MOK 8 mi_X3_kindAt := ⟨(DC_cons dk_X3_kindAt_0 (by decide +kernel) (DC_cons dk_X3_kindAt_1 (by decide +kernel) DC_nil)), pf_X3, trivial, trivial, by decide +kernel⟩
theorem mok_9 : MOK 9 mi_X3_errorIndex := ⟨(DC_cons dk_X3_errorIndex_0 (by decide +kernel) (DC_cons dk_X3_errorIndex_1 (by decide +kernel) (DC_cons dk_X3_errorIndex_2 (by decide +kernel) (DC_cons dk_X3_errorIndex_3 (by decide +kernel) DC_nil)))), pf_X3, trivial, trivial, by decide +kernel⟩
theorem mok_10 : MOK 10 mi_X3_isWholeRow := ⟨(DC_cons dk_X3_isWholeRow_0 (by decide +kernel) (DC_cons dk_X3_isWholeRow_1 (by decide +kernel) DC_nil)), pf_X3, trivial, trivial, by decide +kernel⟩
theorem mok_11 : MOK 11 mi_X3_organAt := ⟨(DC_cons dk_X3_organAt_0 (by decide +kernel) DC_nil), pf_X3, trivial, trivial, by decide +kernel⟩
theorem mok_12 : MOK 12 mi_X3_tuneAt := ⟨(DC_cons dk_X3_tuneAt_0 (by decide +kernel) DC_nil), pf_X3, trivial, trivial, by decide +kernel⟩
theorem mok_13 : MOK 13 mi_X4_copyFrom := ⟨(DC_cons dk_X4_copyFrom_0 (by decide +kernel) (DC_cons dk_X4_copyFrom_1 (by decide +kernel) (DC_cons dk_X4_copyFrom_2 (by decide +kernel) DC_nil))), pf_X4, trivial, trivial, by decide +kernel⟩
theorem mok_14 : MOK 14 mi_X5_lookAt := ⟨(DC_cons dk_X5_lookAt_0 (by decide +kernel) DC_nil), pf_X5, trivial, trivial, by decide +kernel⟩
theorem mok_15 : MOK 15 mi_X5_leastHindering := ⟨(DC_cons dk_X5_leastHindering_0 (by decide +kernel) (DC_cons dk_X5_leastHindering_1 (by decide +kernel) DC_nil)), pf_X5, trivial, trivial, by decide +kernel⟩
theorem mok_16 : MOK 16 mi_X5_hinderedPairs := ⟨(DC_cons dk_X5_hinderedPairs_0 (by decide +kernel) (DC_cons dk_X5_hinderedPairs_1 (by decide +kernel) DC_nil)), pf_X5, trivial, trivial, by decide +kernel⟩
theorem mok_17 : MOK 17 mi_X5_findMost := ⟨(DC_cons dk_X5_findMost_0 (by decide +kernel) (DC_cons dk_X5_findMost_1 (by decide +kernel) (DC_cons dk_X5_findMost_2 (by decide +kernel) DC_nil))), pf_X5, trivial, trivial, by decide +kernel⟩
theorem mok_18 : MOK 18 mi_X5_takingsOf := ⟨(DC_cons dk_X5_takingsOf_0 (by decide +kernel) (DC_cons dk_X5_takingsOf_1 (by decide +kernel) DC_nil)), pf_X5, trivial, trivial, by decide +kernel⟩
theorem mok_19 : MOK 19 mi_X5_nearAhead := ⟨(DC_cons dk_X5_nearAhead_0 (by decide +kernel) (DC_cons dk_X5_nearAhead_1 (by decide +kernel) DC_nil)), pf_X5, trivial, trivial, by decide +kernel⟩
theorem mok_20 : MOK 20 mi_X5_findTunes := ⟨(DC_cons dk_X5_findTunes_0 (by decide +kernel) (DC_cons dk_X5_findTunes_1 (by decide +kernel) (DC_cons dk_X5_findTunes_2 (by decide +kernel) (DC_cons dk_X5_findTunes_3 (by decide +kernel) DC_nil)))), pf_X5, trivial, trivial, by decide +kernel⟩
theorem mok_21 : MOK 21 mi_X5_isFree := ⟨(DC_cons dk_X5_isFree_0 (by decide +kernel) (DC_cons dk_X5_isFree_1 (by decide +kernel) DC_nil)), pf_X5, trivial, trivial, by decide +kernel⟩
theorem mok_22 : MOK 22 mi_X6_reckon := ⟨(DC_cons dk_X6_reckon_0 (by decide +kernel) (DC_cons dk_X6_reckon_1 (by decide +kernel) DC_nil)), pf_X6, trivial, trivial, by decide +kernel⟩
theorem mok_23 : MOK 23 mi_X6_sharePot := ⟨(DC_cons dk_X6_sharePot_0 (by decide +kernel) (DC_cons dk_X6_sharePot_1 (by decide +kernel) (DC_cons dk_X6_sharePot_2 (by decide +kernel) (DC_cons dk_X6_sharePot_3 (by decide +kernel) (DC_cons dk_X6_sharePot_4 (by decide +kernel) DC_nil))))), pf_X6, trivial, trivial, by decide +kernel⟩
theorem mok_24 : MOK 24 mi_X6_giveUnits := ⟨(DC_cons dk_X6_giveUnits_0 (by decide +kernel) (DC_cons dk_X6_giveUnits_1 (by decide +kernel) (DC_cons dk_X6_giveUnits_2 (by decide +kernel) DC_nil))), pf_X6, trivial, trivial, by decide +kernel⟩
theorem mok_25 : MOK 25 mi_X6_giveAllowances := ⟨(DC_cons dk_X6_giveAllowances_0 (by decide +kernel) (DC_cons dk_X6_giveAllowances_1 (by decide +kernel) DC_nil)), pf_X6, trivial, trivial, by decide +kernel⟩
theorem mok_26 : MOK 26 mi_X7_copyFrom := ⟨(DC_cons dk_X7_copyFrom_0 (by decide +kernel) (DC_cons dk_X7_copyFrom_1 (by decide +kernel) DC_nil)), pf_X7, trivial, trivial, by decide +kernel⟩
theorem mok_27 : MOK 27 mi_X7_hoursOfDay := ⟨(DC_cons dk_X7_hoursOfDay_0 (by decide +kernel) DC_nil), pf_X7, trivial, trivial, by decide +kernel⟩
theorem mok_28 : MOK 28 mi_X7_forgetDay := ⟨(DC_cons dk_X7_forgetDay_0 (by decide +kernel) DC_nil), pf_X7, trivial, trivial, by decide +kernel⟩
theorem mok_29 : MOK 29 mi_X8_save := ⟨(DC_cons dk_X8_save_0 (by decide +kernel) (DC_cons dk_X8_save_1 (by decide +kernel) DC_nil)), pf_X8, trivial, trivial, by decide +kernel⟩
theorem mok_30 : MOK 30 mi_X9_copyFrom := ⟨(DC_cons dk_X9_copyFrom_0 (by decide +kernel) (DC_cons dk_X9_copyFrom_1 (by decide +kernel) (DC_cons dk_X9_copyFrom_2 (by decide +kernel) (DC_cons dk_X9_copyFrom_3 (by decide +kernel) (DC_cons dk_X9_copyFrom_4 (by decide +kernel) (DC_cons dk_X9_copyFrom_5 (by decide +kernel) DC_nil)))))), pf_X9, trivial, trivial, by decide +kernel⟩
theorem mok_31 : MOK 31 mi_X9_hasCornerAt := ⟨(DC_cons dk_X9_hasCornerAt_0 (by decide +kernel) (DC_cons dk_X9_hasCornerAt_1 (by decide +kernel) DC_nil)), pf_X9, trivial, trivial, by decide +kernel⟩
theorem mok_32 : MOK 32 mi_X9_permits := ⟨(DC_cons dk_X9_permits_0 (by decide +kernel) (DC_cons dk_X9_permits_1 (by decide +kernel) DC_nil)), pf_X9, trivial, trivial, by decide +kernel⟩
theorem mok_33 : MOK 33 mi_X9_crewSize := ⟨(DC_cons dk_X9_crewSize_0 (by decide +kernel) (DC_cons dk_X9_crewSize_1 (by decide +kernel) DC_nil)), pf_X9, trivial, trivial, by decide +kernel⟩
theorem mok_34 : MOK 34 mi_X9_organAt := ⟨(DC_cons dk_X9_organAt_0 (by decide +kernel) (DC_cons dk_X9_organAt_1 (by decide +kernel) DC_nil)), pf_X9, trivial, trivial, by decide +kernel⟩
theorem mok_35 : MOK 35 mi_X9_cornerOf := ⟨(DC_cons dk_X9_cornerOf_0 (by decide +kernel) (DC_cons dk_X9_cornerOf_1 (by decide +kernel) DC_nil)), pf_X9, trivial, trivial, by decide +kernel⟩
theorem mok_36 : MOK 36 mi_X9_takingsSoFar := ⟨(DC_cons dk_X9_takingsSoFar_0 (by decide +kernel) DC_nil), pf_X9, trivial, trivial, by decide +kernel⟩
theorem mok_37 : MOK 37 mi_X9_ownersSoFar := ⟨(DC_cons dk_X9_ownersSoFar_0 (by decide +kernel) DC_nil), pf_X9, trivial, trivial, by decide +kernel⟩
theorem mok_38 : MOK 38 mi_X9_inAllPots := ⟨(DC_cons dk_X9_inAllPots_0 (by decide +kernel) DC_nil), pf_X9, trivial, trivial, by decide +kernel⟩
theorem mok_39 : MOK 39 mi_X9_playersSoFar := ⟨(DC_cons dk_X9_playersSoFar_0 (by decide +kernel) DC_nil), pf_X9, trivial, trivial, by decide +kernel⟩
theorem mok_40 : MOK 40 mi_X9_weatherMayChange := ⟨(DC_cons dk_X9_weatherMayChange_0 (by decide +kernel) DC_nil), pf_X9, trivial, trivial, by decide +kernel⟩
theorem mok_41 : MOK 41 mi_X9_lotsMayBeDrawn := ⟨(DC_cons dk_X9_lotsMayBeDrawn_0 (by decide +kernel) DC_nil), pf_X9, trivial, trivial, by decide +kernel⟩
theorem mok_42 : MOK 42 mi_X9_drawLots := ⟨(DC_cons dk_X9_drawLots_0 (by decide +kernel) (DC_cons dk_X9_drawLots_1 (by decide +kernel) (DC_cons dk_X9_drawLots_2 (by decide +kernel) DC_nil))), pf_X9, trivial, trivial, by decide +kernel⟩
theorem mok_43 : MOK 43 mi_X9_takeCornersBack := ⟨(DC_cons dk_X9_takeCornersBack_0 (by decide +kernel) DC_nil), pf_X9, trivial, trivial, by decide +kernel⟩
theorem mok_44 : MOK 44 mi_X9_draw := ⟨(DC_cons dk_X9_draw_0 (by decide +kernel) (DC_cons dk_X9_draw_1 (by decide +kernel) DC_nil)), pf_X9, trivial, trivial, by decide +kernel⟩
theorem mok_45 : MOK 45 mi_X9_freeCorner := ⟨(DC_cons dk_X9_freeCorner_0 (by decide +kernel) (DC_cons dk_X9_freeCorner_1 (by decide +kernel) DC_nil)), pf_X9, trivial, trivial, by decide +kernel⟩
theorem mok_46 : MOK 46 mi_X9_areNear := ⟨(DC_cons dk_X9_areNear_0 (by decide +kernel) (DC_cons dk_X9_areNear_1 (by decide +kernel) DC_nil)), pf_X9, trivial, trivial, by decide +kernel⟩
theorem mok_47 : MOK 47 mi_X9_tunesHeardAt := ⟨(DC_cons dk_X9_tunesHeardAt_0 (by decide +kernel) (DC_cons dk_X9_tunesHeardAt_1 (by decide +kernel) (DC_cons dk_X9_tunesHeardAt_2 (by decide +kernel) DC_nil))), pf_X9, trivial, trivial, by decide +kernel⟩
theorem mok_48 : MOK 48 mi_X9_reasonAgainstAll := ⟨(DC_cons dk_X9_reasonAgainstAll_0 (by decide +kernel) (DC_cons dk_X9_reasonAgainstAll_1 (by decide +kernel) DC_nil)), pf_X9, trivial, trivial, by decide +kernel⟩
theorem mok_49 : MOK 49 mi_X9_reasonAgainst := ⟨(DC_cons dk_X9_reasonAgainst_0 (by decide +kernel) (DC_cons dk_X9_reasonAgainst_1 (by decide +kernel) (DC_cons dk_X9_reasonAgainst_2 (by decide +kernel) DC_nil))), pf_X9, trivial, trivial, by decide +kernel⟩
theorem mok_50 : MOK 50 mi_X9_playableTunes := ⟨(DC_cons dk_X9_playableTunes_0 (by decide +kernel) (DC_cons dk_X9_playableTunes_1 (by decide +kernel) DC_nil)), pf_X9, trivial, trivial, by decide +kernel⟩
theorem mok_51 : MOK 51 mi_X9_playedNear := ⟨(DC_cons dk_X9_playedNear_0 (by decide +kernel) (DC_cons dk_X9_playedNear_1 (by decide +kernel) DC_nil)), pf_X9, trivial, trivial, by decide +kernel⟩
theorem mok_52 : MOK 52 mi_X9_takingsFor := ⟨(DC_cons dk_X9_takingsFor_0 (by decide +kernel) (DC_cons dk_X9_takingsFor_1 (by decide +kernel) DC_nil)), pf_X9, trivial, trivial, by decide +kernel⟩
theorem mok_53 : MOK 53 mi_X9_playTune := ⟨(DC_cons dk_X9_playTune_0 (by decide +kernel) (DC_cons dk_X9_playTune_1 (by decide +kernel) (DC_cons dk_X9_playTune_2 (by decide +kernel) DC_nil))), pf_X9, trivial, trivial, by decide +kernel⟩
theorem mok_54 : MOK 54 mi_X9_divideTakings := ⟨(DC_cons dk_X9_divideTakings_0 (by decide +kernel) (DC_cons dk_X9_divideTakings_1 (by decide +kernel) (DC_cons dk_X9_divideTakings_2 (by decide +kernel) (DC_cons dk_X9_divideTakings_3 (by decide +kernel) DC_nil)))), pf_X9, trivial, trivial, by decide +kernel⟩
theorem mok_55 : MOK 55 mi_X9_addHourOfCrew := ⟨(DC_cons dk_X9_addHourOfCrew_0 (by decide +kernel) (DC_cons dk_X9_addHourOfCrew_1 (by decide +kernel) DC_nil)), pf_X9, trivial, trivial, by decide +kernel⟩
theorem mok_56 : MOK 56 mi_X9_endHour := ⟨(DC_cons dk_X9_endHour_0 (by decide +kernel) (DC_cons dk_X9_endHour_1 (by decide +kernel) DC_nil)), pf_X9, trivial, trivial, by decide +kernel⟩
theorem mok_57 : MOK 57 mi_X9_payOut := ⟨(DC_cons dk_X9_payOut_0 (by decide +kernel) (DC_cons dk_X9_payOut_1 (by decide +kernel) (DC_cons dk_X9_payOut_2 (by decide +kernel) (DC_cons dk_X9_payOut_3 (by decide +kernel) DC_nil)))), pf_X9, trivial, trivial, by decide +kernel⟩
theorem mok_58 : MOK 58 mi_X9_beginDay := ⟨(DC_cons dk_X9_beginDay_0 (by decide +kernel) (DC_cons dk_X9_beginDay_1 (by decide +kernel) (DC_cons dk_X9_beginDay_2 (by decide +kernel) DC_nil))), pf_X9, trivial, trivial, by decide +kernel⟩
theorem mok_59 : MOK 59 mi_X10_addCorner := ⟨(DC_cons dk_X10_addCorner_0 (by decide +kernel) (DC_cons dk_X10_addCorner_1 (by decide +kernel) (DC_cons dk_X10_addCorner_2 (by decide +kernel) (DC_cons dk_X10_addCorner_3 (by decide +kernel) (DC_cons dk_X10_addCorner_4 (by decide +kernel) DC_nil))))), pf_X10, trivial, trivial, by decide +kernel⟩
theorem mok_60 : MOK 60 mi_X10_addOrgan := ⟨(DC_cons dk_X10_addOrgan_0 (by decide +kernel) (DC_cons dk_X10_addOrgan_1 (by decide +kernel) (DC_cons dk_X10_addOrgan_2 (by decide +kernel) DC_nil))), pf_X10, trivial, trivial, by decide +kernel⟩
theorem mok_61 : MOK 61 mi_X10_addPlayer := ⟨(DC_cons dk_X10_addPlayer_0 (by decide +kernel) (DC_cons dk_X10_addPlayer_1 (by decide +kernel) DC_nil)), pf_X10, trivial, trivial, by decide +kernel⟩
theorem mok_62 : MOK 62 mi_X10_permit := ⟨(DC_cons dk_X10_permit_0 (by decide +kernel) (DC_cons dk_X10_permit_1 (by decide +kernel) DC_nil)), pf_X10, trivial, trivial, by decide +kernel⟩
theorem mok_63 : MOK 63 mi_X10_barrel := ⟨(DC_cons dk_X10_barrel_0 (by decide +kernel) (DC_cons dk_X10_barrel_1 (by decide +kernel) DC_nil)), pf_X10, trivial, trivial, by decide +kernel⟩
theorem mok_64 : MOK 64 mi_X10_assign := ⟨(DC_cons dk_X10_assign_0 (by decide +kernel) (DC_cons dk_X10_assign_1 (by decide +kernel) (DC_cons dk_X10_assign_2 (by decide +kernel) DC_nil))), pf_X10, trivial, trivial, by decide +kernel⟩
theorem mok_65 : MOK 65 mi_X10_set := ⟨(DC_cons dk_X10_set_0 (by decide +kernel) (DC_cons dk_X10_set_1 (by decide +kernel) DC_nil)), pf_X10, trivial, trivial, by decide +kernel⟩
theorem mok_66 : MOK 66 mi_X10_lots := ⟨(DC_cons dk_X10_lots_0 (by decide +kernel) DC_nil), pf_X10, trivial, trivial, by decide +kernel⟩
theorem mok_67 : MOK 67 mi_X10_weather := ⟨(DC_cons dk_X10_weather_0 (by decide +kernel) (DC_cons dk_X10_weather_1 (by decide +kernel) DC_nil)), pf_X10, trivial, trivial, by decide +kernel⟩
theorem mok_68 : MOK 68 mi_X10_play := ⟨(DC_cons dk_X10_play_0 (by decide +kernel) (DC_cons dk_X10_play_1 (by decide +kernel) DC_nil)), pf_X10, trivial, trivial, by decide +kernel⟩
theorem mok_69 : MOK 69 mi_X10_next := ⟨(DC_cons dk_X10_next_0 (by decide +kernel) DC_nil), pf_X10, trivial, trivial, by decide +kernel⟩
theorem mok_70 : MOK 70 mi_X10_append := ⟨(DC_cons dk_X10_append_0 (by decide +kernel) (DC_cons dk_X10_append_1 (by decide +kernel) (DC_cons dk_X10_append_2 (by decide +kernel) DC_nil))), pf_X10, trivial, trivial, by decide +kernel⟩
theorem mok_71 : MOK 71 mi_X10_clearBuffer := ⟨(DC_cons dk_X10_clearBuffer_0 (by decide +kernel) DC_nil), pf_X10, trivial, trivial, by decide +kernel⟩
theorem mok_72 : MOK 72 mi_X10_run := ⟨(DC_cons dk_X10_run_0 (by decide +kernel) (DC_cons dk_X10_run_1 (by decide +kernel) (DC_cons dk_X10_run_2 (by decide +kernel) DC_nil))), pf_X10, trivial, trivial, by decide +kernel⟩
theorem mok_73 : MOK 73 mi_X10_corner := ⟨(DC_cons dk_X10_corner_0 (by decide +kernel) (DC_cons dk_X10_corner_1 (by decide +kernel) (DC_cons dk_X10_corner_2 (by decide +kernel) (DC_cons dk_X10_corner_3 (by decide +kernel) DC_nil)))), pf_X10, trivial, trivial, by decide +kernel⟩
theorem mok_74 : MOK 74 mi_X10_organ := ⟨(DC_cons dk_X10_organ_0 (by decide +kernel) (DC_cons dk_X10_organ_1 (by decide +kernel) (DC_cons dk_X10_organ_2 (by decide +kernel) (DC_cons dk_X10_organ_3 (by decide +kernel) DC_nil)))), pf_X10, trivial, trivial, by decide +kernel⟩
theorem mok_75 : MOK 75 mi_X10_player := ⟨(DC_cons dk_X10_player_0 (by decide +kernel) (DC_cons dk_X10_player_1 (by decide +kernel) (DC_cons dk_X10_player_2 (by decide +kernel) DC_nil))), pf_X10, trivial, trivial, by decide +kernel⟩
theorem mok_76 : MOK 76 mi_X10_hours := ⟨(DC_cons dk_X10_hours_0 (by decide +kernel) (DC_cons dk_X10_hours_1 (by decide +kernel) DC_nil)), pf_X10, trivial, trivial, by decide +kernel⟩
theorem mok_77 : MOK 77 mi_X10_count := ⟨(DC_cons dk_X10_count_0 (by decide +kernel) (DC_cons dk_X10_count_1 (by decide +kernel) (DC_cons dk_X10_count_2 (by decide +kernel) (DC_cons dk_X10_count_3 (by decide +kernel) (DC_cons dk_X10_count_4 (by decide +kernel) (DC_cons dk_X10_count_5 (by decide +kernel) (DC_cons dk_X10_count_6 (by decide +kernel) DC_nil))))))), pf_X10, trivial, trivial, by decide +kernel⟩
theorem mok_78 : MOK 78 mi_X10_setting := ⟨(DC_cons dk_X10_setting_0 (by decide +kernel) DC_nil), pf_X10, trivial, trivial, by decide +kernel⟩
theorem mok_79 : MOK 79 mi_X10_whyNot := ⟨(DC_cons dk_X10_whyNot_0 (by decide +kernel) DC_nil), pf_X10, trivial, trivial, by decide +kernel⟩
theorem mok_80 : MOK 80 mi_X10_ifPlayed := ⟨(DC_cons dk_X10_ifPlayed_0 (by decide +kernel) (DC_cons dk_X10_ifPlayed_1 (by decide +kernel) DC_nil)), pf_X10, trivial, trivial, by decide +kernel⟩
theorem mok_81 : MOK 81 mi_X10_kindestTune := ⟨(DC_cons dk_X10_kindestTune_0 (by decide +kernel) (DC_cons dk_X10_kindestTune_1 (by decide +kernel) DC_nil)), pf_X10, trivial, trivial, by decide +kernel⟩
theorem mok_82 : MOK 82 mi_X10_most := ⟨(DC_cons dk_X10_most_0 (by decide +kernel) (DC_cons dk_X10_most_1 (by decide +kernel) DC_nil)), pf_X10, trivial, trivial, by decide +kernel⟩
theorem mok_83 : MOK 83 mi_X10_ifEnded := ⟨(DC_cons dk_X10_ifEnded_0 (by decide +kernel) (DC_cons dk_X10_ifEnded_1 (by decide +kernel) DC_nil)), pf_X10, trivial, trivial, by decide +kernel⟩
theorem mok_84 : MOK 84 mi_X10_playersShare := ⟨(DC_cons dk_X10_playersShare_0 (by decide +kernel) DC_nil), pf_X10, trivial, trivial, by decide +kernel⟩
theorem mok_85 : MOK 85 mi_X10_requireIndex := ⟨(DC_cons dk_X10_requireIndex_0 (by decide +kernel) DC_nil), pf_X10, trivial, trivial, by decide +kernel⟩
theorem mok_86 : MOK 86 mi_X10_requireInRange := ⟨(DC_cons dk_X10_requireInRange_0 (by decide +kernel) DC_nil), pf_X10, trivial, trivial, by decide +kernel⟩
theorem mok_87 : MOK 87 mi_X10_requireState := ⟨(DC_cons dk_X10_requireState_0 (by decide +kernel) DC_nil), pf_X10, trivial, trivial, by decide +kernel⟩
theorem mok_88 : MOK 88 mi_X10_asNumber := ⟨(DC_cons dk_X10_asNumber_0 (by decide +kernel) DC_nil), pf_X10, trivial, trivial, by decide +kernel⟩
theorem mok_89 : MOK 89 mi_X10_holds := ⟨(DC_cons dk_X10_holds_0 (by decide +kernel) DC_nil), pf_X10, trivial, trivial, by decide +kernel⟩
theorem mok_90 : MOK 90 mi_X10_obey := ⟨(DC_cons dk_X10_obey_0 (by decide +kernel) (DC_cons dk_X10_obey_1 (by decide +kernel) (DC_cons dk_X10_obey_2 (by decide +kernel) (DC_cons dk_X10_obey_3 (by decide +kernel) (DC_cons dk_X10_obey_4 (by decide +kernel) DC_nil))))), pf_X10, trivial, trivial, by decide +kernel⟩
theorem mok_91 : MOK 91 mi_X10_obeyPlay := ⟨(DC_cons dk_X10_obeyPlay_0 (by decide +kernel) (DC_cons dk_X10_obeyPlay_1 (by decide +kernel) DC_nil)), pf_X10, trivial, trivial, by decide +kernel⟩
theorem mok_92 : MOK 92 mi_L_cell := ⟨(DC_cons dk_L_cell_0 (by decide +kernel) DC_nil), pf_L, trivial, trivial, by decide +kernel⟩
theorem mok_93 : MOK 93 mi_L_at := ⟨(DC_cons dk_L_at_0 (by decide +kernel) DC_nil), pf_L, trivial, trivial, by decide +kernel⟩
theorem mok_94 : MOK 94 mi_L_abs := ⟨(DC_cons dk_L_abs_0 (by decide +kernel) DC_nil), pf_L, trivial, trivial, by decide +kernel⟩
theorem mok_95 : MOK 95 mi_L_draw := ⟨(DC_cons dk_L_draw_0 (by decide +kernel) DC_nil), pf_L, trivial, trivial, by decide +kernel⟩
theorem mok_96 : MOK 96 mi_L_holder := ⟨(DC_cons dk_L_holder_0 (by decide +kernel) DC_nil), pf_L, trivial, trivial, by decide +kernel⟩
theorem mok_97 : MOK 97 mi_L_today := ⟨(DC_cons dk_L_today_0 (by decide +kernel) DC_nil), pf_L, trivial, trivial, by decide +kernel⟩
theorem mok_98 : MOK 98 mi_L_drawn := ⟨(DC_cons dk_L_drawn_0 (by decide +kernel) (DC_cons dk_L_drawn_1 (by decide +kernel) (DC_cons dk_L_drawn_2 (by decide +kernel) (DC_cons dk_L_drawn_3 (by decide +kernel) (DC_cons dk_L_drawn_4 (by decide +kernel) (DC_cons dk_L_drawn_5 (by decide +kernel) DC_nil)))))), pf_L, trivial, trivial, by decide +kernel⟩
theorem mok_99 : MOK 99 mi_L_near := ⟨(DC_cons dk_L_near_0 (by decide +kernel) DC_nil), pf_L, trivial, trivial, by decide +kernel⟩
theorem mok_100 : MOK 100 mi_L_quiet := ⟨(DC_cons dk_L_quiet_0 (by decide +kernel) (DC_cons dk_L_quiet_1 (by decide +kernel) DC_nil)), pf_L, trivial, trivial, by decide +kernel⟩
theorem mok_101 : MOK 101 mi_L_heard := ⟨(DC_cons dk_L_heard_0 (by decide +kernel) (DC_cons dk_L_heard_1 (by decide +kernel) (DC_cons dk_L_heard_2 (by decide +kernel) (DC_cons dk_L_heard_3 (by decide +kernel) DC_nil)))), pf_L, trivial, trivial, by decide +kernel⟩
theorem mok_102 : MOK 102 mi_L_crew := ⟨(DC_cons dk_L_crew_0 (by decide +kernel) (DC_cons dk_L_crew_1 (by decide +kernel) DC_nil)), pf_L, trivial, trivial, by decide +kernel⟩
theorem mok_103 : MOK 103 mi_L_why := ⟨(DC_cons dk_L_why_0 (by decide +kernel) (DC_cons dk_L_why_1 (by decide +kernel) (DC_cons dk_L_why_2 (by decide +kernel) (DC_cons dk_L_why_3 (by decide +kernel) DC_nil)))), pf_L, trivial, trivial, by decide +kernel⟩
theorem mok_104 : MOK 104 mi_L_takes := ⟨(DC_cons dk_L_takes_0 (by decide +kernel) (DC_cons dk_L_takes_1 (by decide +kernel) (DC_cons dk_L_takes_2 (by decide +kernel) (DC_cons dk_L_takes_3 (by decide +kernel) DC_nil)))), pf_L, trivial, trivial, by decide +kernel⟩
theorem mok_105 : MOK 105 mi_L_play := ⟨(DC_cons dk_L_play_0 (by decide +kernel) (DC_cons dk_L_play_1 (by decide +kernel) (DC_cons dk_L_play_2 (by decide +kernel) (DC_cons dk_L_play_3 (by decide +kernel) (DC_cons dk_L_play_4 (by decide +kernel) (DC_cons dk_L_play_5 (by decide +kernel) (DC_cons dk_L_play_6 (by decide +kernel) DC_nil))))))), pf_L, trivial, trivial, by decide +kernel⟩
theorem mok_106 : MOK 106 mi_L_ends := ⟨(DC_cons dk_L_ends_0 (by decide +kernel) (DC_cons dk_L_ends_1 (by decide +kernel) (DC_cons dk_L_ends_2 (by decide +kernel) (DC_cons dk_L_ends_3 (by decide +kernel) (DC_cons dk_L_ends_4 (by decide +kernel) (DC_cons dk_L_ends_5 (by decide +kernel) (DC_cons dk_L_ends_6 (by decide +kernel) (DC_cons dk_L_ends_7 (by decide +kernel) (DC_cons dk_L_ends_8 (by decide +kernel) (DC_cons dk_L_ends_9 (by decide +kernel) (DC_cons dk_L_ends_10 (by decide +kernel) (DC_cons dk_L_ends_11 (by decide +kernel) DC_nil)))))))))))), pf_L, trivial, trivial, by decide +kernel⟩
theorem mok_107 : MOK 107 mi_L_next := ⟨(DC_cons dk_L_next_0 (by decide +kernel) (DC_cons dk_L_next_1 (by decide +kernel) (DC_cons dk_L_next_2 (by decide +kernel) (DC_cons dk_L_next_3 (by decide +kernel) DC_nil)))), pf_L, trivial, trivial, by decide +kernel⟩
theorem mok_108 : MOK 108 mi_L_told := ⟨(DC_cons dk_L_told_0 (by decide +kernel) (DC_cons dk_L_told_1 (by decide +kernel) (DC_cons dk_L_told_2 (by decide +kernel) (DC_cons dk_L_told_3 (by decide +kernel) (DC_cons dk_L_told_4 (by decide +kernel) (DC_cons dk_L_told_5 (by decide +kernel) (DC_cons dk_L_told_6 (by decide +kernel) (DC_cons dk_L_told_7 (by decide +kernel) (DC_cons dk_L_told_8 (by decide +kernel) (DC_cons dk_L_told_9 (by decide +kernel) (DC_cons dk_L_told_10 (by decide +kernel) (DC_cons dk_L_told_11 (by decide +kernel) (DC_cons dk_L_told_12 (by decide +kernel) (DC_cons dk_L_told_13 (by decide +kernel) (DC_cons dk_L_told_14 (by decide +kernel) (DC_cons dk_L_told_15 (by decide +kernel) (DC_cons dk_L_told_16 (by decide +kernel) (DC_cons dk_L_told_17 (by decide +kernel) (DC_cons dk_L_told_18 (by decide +kernel) (DC_cons dk_L_told_19 (by decide +kernel) (DC_cons dk_L_told_20 (by decide +kernel) (DC_cons dk_L_told_21 (by decide +kernel) (DC_cons dk_L_told_22 (by decide +kernel) (DC_cons dk_L_told_23 (by decide +kernel) (DC_cons dk_L_told_24 (by decide +kernel) DC_nil))))))))))))))))))))))))), pf_L, trivial, trivial, by decide +kernel⟩
theorem mok_109 : MOK 109 mi_L_same := ⟨(DC_cons dk_L_same_0 (by decide +kernel) DC_nil), pf_L, trivial, trivial, by decide +kernel⟩
theorem mok_110 : MOK 110 mi_L_pairs := ⟨(DC_cons dk_L_pairs_0 (by decide +kernel) (DC_cons dk_L_pairs_1 (by decide +kernel) (DC_cons dk_L_pairs_2 (by decide +kernel) DC_nil))), pf_L, trivial, trivial, by decide +kernel⟩
theorem mok_111 : MOK 111 mi_L_ahead := ⟨(DC_cons dk_L_ahead_0 (by decide +kernel) (DC_cons dk_L_ahead_1 (by decide +kernel) (DC_cons dk_L_ahead_2 (by decide +kernel) (DC_cons dk_L_ahead_3 (by decide +kernel) (DC_cons dk_L_ahead_4 (by decide +kernel) (DC_cons dk_L_ahead_5 (by decide +kernel) (DC_cons dk_L_ahead_6 (by decide +kernel) (DC_cons dk_L_ahead_7 (by decide +kernel) (DC_cons dk_L_ahead_8 (by decide +kernel) (DC_cons dk_L_ahead_9 (by decide +kernel) (DC_cons dk_L_ahead_10 (by decide +kernel) (DC_cons dk_L_ahead_11 (by decide +kernel) (DC_cons dk_L_ahead_12 (by decide +kernel) (DC_cons dk_L_ahead_13 (by decide +kernel) (DC_cons dk_L_ahead_14 (by decide +kernel) (DC_cons dk_L_ahead_15 (by decide +kernel) (DC_cons dk_L_ahead_16 (by decide +kernel) (DC_cons dk_L_ahead_17 (by decide +kernel) DC_nil)))))))))))))))))), pf_L, trivial, trivial, by decide +kernel⟩
theorem mok_112 : MOK 112 mi_L_letters := ⟨(DC_cons dk_L_letters_0 (by decide +kernel) (DC_cons dk_L_letters_1 (by decide +kernel) DC_nil)), pf_L, trivial, trivial, by decide +kernel⟩
theorem mok_113 : MOK 113 mi_L_runs := ⟨(DC_cons dk_L_runs_0 (by decide +kernel) (DC_cons dk_L_runs_1 (by decide +kernel) (DC_cons dk_L_runs_2 (by decide +kernel) (DC_cons dk_L_runs_3 (by decide +kernel) (DC_cons dk_L_runs_4 (by decide +kernel) (DC_cons dk_L_runs_5 (by decide +kernel) (DC_cons dk_L_runs_6 (by decide +kernel) (DC_cons dk_L_runs_7 (by decide +kernel) (DC_cons dk_L_runs_8 (by decide +kernel) (DC_cons dk_L_runs_9 (by decide +kernel) (DC_cons dk_L_runs_10 (by decide +kernel) (DC_cons dk_L_runs_11 (by decide +kernel) (DC_cons dk_L_runs_12 (by decide +kernel) (DC_cons dk_L_runs_13 (by decide +kernel) DC_nil)))))))))))))), pf_L, trivial, trivial, by decide +kernel⟩
theorem mok_114 : MOK 114 mi_L_act := ⟨(DC_cons dk_L_act_0 (by decide +kernel) (DC_cons dk_L_act_1 (by decide +kernel) (DC_cons dk_L_act_2 (by decide +kernel) (DC_cons dk_L_act_3 (by decide +kernel) (DC_cons dk_L_act_4 (by decide +kernel) (DC_cons dk_L_act_5 (by decide +kernel) (DC_cons dk_L_act_6 (by decide +kernel) (DC_cons dk_L_act_7 (by decide +kernel) (DC_cons dk_L_act_8 (by decide +kernel) (DC_cons dk_L_act_9 (by decide +kernel) (DC_cons dk_L_act_10 (by decide +kernel) (DC_cons dk_L_act_11 (by decide +kernel) (DC_cons dk_L_act_12 (by decide +kernel) (DC_cons dk_L_act_13 (by decide +kernel) (DC_cons dk_L_act_14 (by decide +kernel) (DC_cons dk_L_act_15 (by decide +kernel) (DC_cons dk_L_act_16 (by decide +kernel) (DC_cons dk_L_act_17 (by decide +kernel) (DC_cons dk_L_act_18 (by decide +kernel) (DC_cons dk_L_act_19 (by decide +kernel) (DC_cons dk_L_act_20 (by decide +kernel) (DC_cons dk_L_act_21 (by decide +kernel) (DC_cons dk_L_act_22 (by decide +kernel) (DC_cons dk_L_act_23 (by decide +kernel) (DC_cons dk_L_act_24 (by decide +kernel) (DC_cons dk_L_act_25 (by decide +kernel) (DC_cons dk_L_act_26 (by decide +kernel) (DC_cons dk_L_act_27 (by decide +kernel) DC_nil)))))))))))))))))))))))))))), pf_L, trivial, trivial, by decide +kernel⟩
theorem mok_115 : MOK 115 mi_L_law := ⟨(DC_cons dk_L_law_0 (by decide +kernel) (DC_cons dk_L_law_1 (by decide +kernel) (DC_cons dk_L_law_2 (by decide +kernel) (DC_cons dk_L_law_3 (by decide +kernel) (DC_cons dk_L_law_4 (by decide +kernel) (DC_cons dk_L_law_5 (by decide +kernel) (DC_cons dk_L_law_6 (by decide +kernel) (DC_cons dk_L_law_7 (by decide +kernel) (DC_cons dk_L_law_8 (by decide +kernel) (DC_cons dk_L_law_9 (by decide +kernel) (DC_cons dk_L_law_10 (by decide +kernel) (DC_cons dk_L_law_11 (by decide +kernel) (DC_cons dk_L_law_12 (by decide +kernel) DC_nil))))))))))))), pf_L, trivial, trivial, by decide +kernel⟩
theorem mokb_0 : ∀ (j : Nat) (M : MI), mtab_0[j]? = some M → MOK (16 * 0 + j) M := by
  intro j M h
  match j, h with
  | 0, h => cases h; exact mok_0
  | 1, h => cases h; exact mok_1
  | 2, h => cases h; exact mok_2
  | 3, h => cases h; exact mok_3
  | 4, h => cases h; exact mok_4
  | 5, h => cases h; exact mok_5
  | 6, h => cases h; exact mok_6
  | 7, h => cases h; exact mok_7
  | 8, h => cases h; exact mok_8
  | 9, h => cases h; exact mok_9
  | 10, h => cases h; exact mok_10
  | 11, h => cases h; exact mok_11
  | 12, h => cases h; exact mok_12
  | 13, h => cases h; exact mok_13
  | 14, h => cases h; exact mok_14
  | 15, h => cases h; exact mok_15
  | n + 16, h => cases h
theorem mokb_1 : ∀ (j : Nat) (M : MI), mtab_1[j]? = some M → MOK (16 * 1 + j) M := by
  intro j M h
  match j, h with
  | 0, h => cases h; exact mok_16
  | 1, h => cases h; exact mok_17
  | 2, h => cases h; exact mok_18
  | 3, h => cases h; exact mok_19
  | 4, h => cases h; exact mok_20
  | 5, h => cases h; exact mok_21
  | 6, h => cases h; exact mok_22
  | 7, h => cases h; exact mok_23
  | 8, h => cases h; exact mok_24
  | 9, h => cases h; exact mok_25
  | 10, h => cases h; exact mok_26
  | 11, h => cases h; exact mok_27
  | 12, h => cases h; exact mok_28
  | 13, h => cases h; exact mok_29
  | 14, h => cases h; exact mok_30
  | 15, h => cases h; exact mok_31
  | n + 16, h => cases h
theorem mokb_2 : ∀ (j : Nat) (M : MI), mtab_2[j]? = some M → MOK (16 * 2 + j) M := by
  intro j M h
  match j, h with
  | 0, h => cases h; exact mok_32
  | 1, h => cases h; exact mok_33
  | 2, h => cases h; exact mok_34
  | 3, h => cases h; exact mok_35
  | 4, h => cases h; exact mok_36
  | 5, h => cases h; exact mok_37
  | 6, h => cases h; exact mok_38
  | 7, h => cases h; exact mok_39
  | 8, h => cases h; exact mok_40
  | 9, h => cases h; exact mok_41
  | 10, h => cases h; exact mok_42
  | 11, h => cases h; exact mok_43
  | 12, h => cases h; exact mok_44
  | 13, h => cases h; exact mok_45
  | 14, h => cases h; exact mok_46
  | 15, h => cases h; exact mok_47
  | n + 16, h => cases h
theorem mokb_3 : ∀ (j : Nat) (M : MI), mtab_3[j]? = some M → MOK (16 * 3 + j) M := by
  intro j M h
  match j, h with
  | 0, h => cases h; exact mok_48
  | 1, h => cases h; exact mok_49
  | 2, h => cases h; exact mok_50
  | 3, h => cases h; exact mok_51
  | 4, h => cases h; exact mok_52
  | 5, h => cases h; exact mok_53
  | 6, h => cases h; exact mok_54
  | 7, h => cases h; exact mok_55
  | 8, h => cases h; exact mok_56
  | 9, h => cases h; exact mok_57
  | 10, h => cases h; exact mok_58
  | 11, h => cases h; exact mok_59
  | 12, h => cases h; exact mok_60
  | 13, h => cases h; exact mok_61
  | 14, h => cases h; exact mok_62
  | 15, h => cases h; exact mok_63
  | n + 16, h => cases h
theorem mokb_4 : ∀ (j : Nat) (M : MI), mtab_4[j]? = some M → MOK (16 * 4 + j) M := by
  intro j M h
  match j, h with
  | 0, h => cases h; exact mok_64
  | 1, h => cases h; exact mok_65
  | 2, h => cases h; exact mok_66
  | 3, h => cases h; exact mok_67
  | 4, h => cases h; exact mok_68
  | 5, h => cases h; exact mok_69
  | 6, h => cases h; exact mok_70
  | 7, h => cases h; exact mok_71
  | 8, h => cases h; exact mok_72
  | 9, h => cases h; exact mok_73
  | 10, h => cases h; exact mok_74
  | 11, h => cases h; exact mok_75
  | 12, h => cases h; exact mok_76
  | 13, h => cases h; exact mok_77
  | 14, h => cases h; exact mok_78
  | 15, h => cases h; exact mok_79
  | n + 16, h => cases h
theorem mokb_5 : ∀ (j : Nat) (M : MI), mtab_5[j]? = some M → MOK (16 * 5 + j) M := by
  intro j M h
  match j, h with
  | 0, h => cases h; exact mok_80
  | 1, h => cases h; exact mok_81
  | 2, h => cases h; exact mok_82
  | 3, h => cases h; exact mok_83
  | 4, h => cases h; exact mok_84
  | 5, h => cases h; exact mok_85
  | 6, h => cases h; exact mok_86
  | 7, h => cases h; exact mok_87
  | 8, h => cases h; exact mok_88
  | 9, h => cases h; exact mok_89
  | 10, h => cases h; exact mok_90
  | 11, h => cases h; exact mok_91
  | 12, h => cases h; exact mok_92
  | 13, h => cases h; exact mok_93
  | 14, h => cases h; exact mok_94
  | 15, h => cases h; exact mok_95
  | n + 16, h => cases h
theorem mokb_6 : ∀ (j : Nat) (M : MI), mtab_6[j]? = some M → MOK (16 * 6 + j) M := by
  intro j M h
  match j, h with
  | 0, h => cases h; exact mok_96
  | 1, h => cases h; exact mok_97
  | 2, h => cases h; exact mok_98
  | 3, h => cases h; exact mok_99
  | 4, h => cases h; exact mok_100
  | 5, h => cases h; exact mok_101
  | 6, h => cases h; exact mok_102
  | 7, h => cases h; exact mok_103
  | 8, h => cases h; exact mok_104
  | 9, h => cases h; exact mok_105
  | 10, h => cases h; exact mok_106
  | 11, h => cases h; exact mok_107
  | 12, h => cases h; exact mok_108
  | 13, h => cases h; exact mok_109
  | 14, h => cases h; exact mok_110
  | 15, h => cases h; exact mok_111
  | n + 16, h => cases h
theorem mokb_7 : ∀ (j : Nat) (M : MI), mtab_7[j]? = some M → MOK (16 * 7 + j) M := by
  intro j M h
  match j, h with
  | 0, h => cases h; exact mok_112
  | 1, h => cases h; exact mok_113
  | 2, h => cases h; exact mok_114
  | 3, h => cases h; exact mok_115
  | n + 4, h => cases h
theorem mok {n : Nat} {M : MI} (h : mtab n = some M) : MOK n M := by
  unfold mtab at h
  have hn : n = 16 * (n / 16) + n % 16 := (Nat.div_add_mod n 16).symm
  generalize n / 16 = q at h hn
  generalize n % 16 = r at h hn
  subst hn
  match q, h with
  | 0, h => exact mokb_0 r M h
  | 1, h => exact mokb_1 r M h
  | 2, h => exact mokb_2 r M h
  | 3, h => exact mokb_3 r M h
  | 4, h => exact mokb_4 r M h
  | 5, h => exact mokb_5 r M h
  | 6, h => exact mokb_6 r M h
  | 7, h => exact mokb_7 r M h
  | q + 8, h => cases h
end MOK
end
section
/-! SMALL METHODS OF THE JDK, by contract (words by wip/p32/genjdk.py) -/
section JDK
def jy_coder : MethodName := ⟨"java/lang/String", "coder", "()B"⟩
def jy_length : MethodName := ⟨"java/lang/String", "length", "()I"⟩
def jy_isLatin1 : MethodName := ⟨"java/lang/String", "isLatin1", "()Z"⟩
def jy_checkIndex : MethodName := ⟨"java/lang/String", "checkIndex", "(II)V"⟩
def jy_charAt : MethodName := ⟨"java/lang/String", "charAt", "(I)C"⟩
def jy_lcharAt : MethodName := ⟨"java/lang/StringLatin1", "charAt", "([BI)C"⟩
def jy_pcheck : MethodName := ⟨"jdk/internal/util/Preconditions", "checkIndex", "(IILjava/util/function/BiFunction;)I"⟩
def jy_isNaN : MethodName := ⟨"java/lang/Double", "isNaN", "(D)Z"⟩
def jy_dtl : MethodName := ⟨"java/lang/Double", "doubleToLongBits", "(D)J"⟩
def jy_raw : MethodName := ⟨"java/lang/Double", "doubleToRawLongBits", "(D)J"⟩
def jy_ordinal : MethodName := ⟨"java/lang/Enum", "ordinal", "()I"⟩
def jy_kord : MethodName := ⟨"OrganCorners$OrderKind", "ordinal", "()I"⟩
abbrev jc_coder : ByteArray := prog_21_method_152_code
abbrev jc_length : ByteArray := prog_21_method_54_code
abbrev jc_isLatin1 : ByteArray := prog_21_method_154_code
abbrev jc_checkIndex : ByteArray := prog_21_method_155_code
abbrev jc_charAt : ByteArray := prog_21_method_56_code
abbrev jc_lcharAt : ByteArray := prog_22_method_2_code
abbrev jc_pcheck : ByteArray := prog_26_method_11_code
abbrev jc_ordinal : ByteArray := prog_14_method_2_code
theorem jd_ordinal_0 : decode jc_ordinal 0 = .ok (.aload_n 0, 1) := by decide +kernel
theorem jd_ordinal_1 : decode jc_ordinal 1 = .ok (.getfield 7, 3) := by decide +kernel
theorem jd_ordinal_4 : decode jc_ordinal 4 = .ok (.ireturn, 1) := by decide +kernel
theorem jd_length_0 : decode jc_length 0 = .ok (.aload_n 0, 1) := by decide +kernel
theorem jd_length_1 : decode jc_length 1 = .ok (.getfield 9, 3) := by decide +kernel
theorem jd_length_4 : decode jc_length 4 = .ok (.arraylength, 1) := by decide +kernel
theorem jd_length_5 : decode jc_length 5 = .ok (.aload_n 0, 1) := by decide +kernel
theorem jd_length_6 : decode jc_length 6 = .ok (.invokevirtual 335, 3) := by decide +kernel
theorem jd_length_9 : decode jc_length 9 = .ok (.ishr, 1) := by decide +kernel
theorem jd_length_10 : decode jc_length 10 = .ok (.ireturn, 1) := by decide +kernel
theorem jd_charAt_0 : decode jc_charAt 0 = .ok (.aload_n 0, 1) := by decide +kernel
theorem jd_charAt_1 : decode jc_charAt 1 = .ok (.invokevirtual 492, 3) := by decide +kernel
theorem jd_charAt_4 : decode jc_charAt 4 = .ok (.ifCond .eq 12, 3) := by decide +kernel
theorem jd_charAt_7 : decode jc_charAt 7 = .ok (.aload_n 0, 1) := by decide +kernel
theorem jd_charAt_8 : decode jc_charAt 8 = .ok (.getfield 9, 3) := by decide +kernel
theorem jd_charAt_11 : decode jc_charAt 11 = .ok (.iload_n 1, 1) := by decide +kernel
theorem jd_charAt_12 : decode jc_charAt 12 = .ok (.invokestatic 495, 3) := by decide +kernel
theorem jd_charAt_15 : decode jc_charAt 15 = .ok (.ireturn, 1) := by decide +kernel
theorem jd_charAt_16 : decode jc_charAt 16 = .ok (.aload_n 0, 1) := by decide +kernel
theorem jd_charAt_17 : decode jc_charAt 17 = .ok (.getfield 9, 3) := by decide +kernel
theorem jd_charAt_20 : decode jc_charAt 20 = .ok (.iload_n 1, 1) := by decide +kernel
theorem jd_charAt_21 : decode jc_charAt 21 = .ok (.invokestatic 498, 3) := by decide +kernel
theorem jd_charAt_24 : decode jc_charAt 24 = .ok (.ireturn, 1) := by decide +kernel
theorem jd_coder_0 : decode jc_coder 0 = .ok (.getstatic 38, 3) := by decide +kernel
theorem jd_coder_3 : decode jc_coder 3 = .ok (.ifCond .eq 10, 3) := by decide +kernel
theorem jd_coder_6 : decode jc_coder 6 = .ok (.aload_n 0, 1) := by decide +kernel
theorem jd_coder_7 : decode jc_coder 7 = .ok (.getfield 15, 3) := by decide +kernel
theorem jd_coder_10 : decode jc_coder 10 = .ok (.goto 4, 3) := by decide +kernel
theorem jd_coder_13 : decode jc_coder 13 = .ok (.iconst 1, 1) := by decide +kernel
theorem jd_coder_14 : decode jc_coder 14 = .ok (.ireturn, 1) := by decide +kernel
theorem jd_isLatin1_0 : decode jc_isLatin1 0 = .ok (.getstatic 38, 3) := by decide +kernel
theorem jd_isLatin1_3 : decode jc_isLatin1 3 = .ok (.ifCond .eq 14, 3) := by decide +kernel
theorem jd_isLatin1_6 : decode jc_isLatin1 6 = .ok (.aload_n 0, 1) := by decide +kernel
theorem jd_isLatin1_7 : decode jc_isLatin1 7 = .ok (.getfield 15, 3) := by decide +kernel
theorem jd_isLatin1_10 : decode jc_isLatin1 10 = .ok (.ifCond .ne 7, 3) := by decide +kernel
theorem jd_isLatin1_13 : decode jc_isLatin1 13 = .ok (.iconst 1, 1) := by decide +kernel
theorem jd_isLatin1_14 : decode jc_isLatin1 14 = .ok (.goto 4, 3) := by decide +kernel
theorem jd_isLatin1_17 : decode jc_isLatin1 17 = .ok (.iconst 0, 1) := by decide +kernel
theorem jd_isLatin1_18 : decode jc_isLatin1 18 = .ok (.ireturn, 1) := by decide +kernel
theorem jd_checkIndex_0 : decode jc_checkIndex 0 = .ok (.iload_n 0, 1) := by decide +kernel
theorem jd_checkIndex_1 : decode jc_checkIndex 1 = .ok (.iload_n 1, 1) := by decide +kernel
theorem jd_checkIndex_2 : decode jc_checkIndex 2 = .ok (.getstatic 1053, 3) := by decide +kernel
theorem jd_checkIndex_5 : decode jc_checkIndex 5 = .ok (.invokestatic 1059, 3) := by decide +kernel
theorem jd_checkIndex_8 : decode jc_checkIndex 8 = .ok (.pop, 1) := by decide +kernel
theorem jd_checkIndex_9 : decode jc_checkIndex 9 = .ok (.return_, 1) := by decide +kernel
theorem jd_lcharAt_0 : decode jc_lcharAt 0 = .ok (.iload_n 1, 1) := by decide +kernel
theorem jd_lcharAt_1 : decode jc_lcharAt 1 = .ok (.aload_n 0, 1) := by decide +kernel
theorem jd_lcharAt_2 : decode jc_lcharAt 2 = .ok (.arraylength, 1) := by decide +kernel
theorem jd_lcharAt_3 : decode jc_lcharAt 3 = .ok (.invokestatic 9, 3) := by decide +kernel
theorem jd_lcharAt_6 : decode jc_lcharAt 6 = .ok (.aload_n 0, 1) := by decide +kernel
theorem jd_lcharAt_7 : decode jc_lcharAt 7 = .ok (.iload_n 1, 1) := by decide +kernel
theorem jd_lcharAt_8 : decode jc_lcharAt 8 = .ok (.baload, 1) := by decide +kernel
theorem jd_lcharAt_9 : decode jc_lcharAt 9 = .ok (.sipush 255, 3) := by decide +kernel
theorem jd_lcharAt_12 : decode jc_lcharAt 12 = .ok (.iand, 1) := by decide +kernel
theorem jd_lcharAt_13 : decode jc_lcharAt 13 = .ok (.i2c, 1) := by decide +kernel
theorem jd_lcharAt_14 : decode jc_lcharAt 14 = .ok (.ireturn, 1) := by decide +kernel
theorem jd_pcheck_0 : decode jc_pcheck 0 = .ok (.iload_n 0, 1) := by decide +kernel
theorem jd_pcheck_1 : decode jc_pcheck 1 = .ok (.ifCond .lt 8, 3) := by decide +kernel
theorem jd_pcheck_4 : decode jc_pcheck 4 = .ok (.iload_n 0, 1) := by decide +kernel
theorem jd_pcheck_5 : decode jc_pcheck 5 = .ok (.iload_n 1, 1) := by decide +kernel
theorem jd_pcheck_6 : decode jc_pcheck 6 = .ok (.if_icmp .lt 10, 3) := by decide +kernel
theorem jd_pcheck_9 : decode jc_pcheck 9 = .ok (.aload_n 2, 1) := by decide +kernel
theorem jd_pcheck_10 : decode jc_pcheck 10 = .ok (.iload_n 0, 1) := by decide +kernel
theorem jd_pcheck_11 : decode jc_pcheck 11 = .ok (.iload_n 1, 1) := by decide +kernel
theorem jd_pcheck_12 : decode jc_pcheck 12 = .ok (.invokestatic 95, 3) := by decide +kernel
theorem jd_pcheck_15 : decode jc_pcheck 15 = .ok (.athrow, 1) := by decide +kernel
theorem jd_pcheck_16 : decode jc_pcheck 16 = .ok (.iload_n 0, 1) := by decide +kernel
theorem jd_pcheck_17 : decode jc_pcheck 17 = .ok (.ireturn, 1) := by decide +kernel
theorem jw_code_coder : (Cond.code jy_coder jc_coder 1 (some .byte)) ∈ lwG := tix_in (q := (4, 152)) rfl rfl
theorem jw_code_length : (Cond.code jy_length jc_length 1 (some .int)) ∈ lwG := tix_in (q := (4, 148)) rfl rfl
theorem jw_code_isLatin1 : (Cond.code jy_isLatin1 jc_isLatin1 1 (some .boolean)) ∈ lwG := tix_in (q := (4, 162)) rfl rfl
theorem jw_code_checkIndex : (Cond.code jy_checkIndex jc_checkIndex 2 none) ∈ lwG := tix_in (q := (4, 168)) rfl rfl
theorem jw_code_charAt : (Cond.code jy_charAt jc_charAt 2 (some .char)) ∈ lwG := tix_in (q := (4, 158)) rfl rfl
theorem jw_code_lcharAt : (Cond.code jy_lcharAt jc_lcharAt 2 (some .char)) ∈ lwG := tix_in (q := (4, 165)) rfl rfl
theorem jw_code_pcheck : (Cond.code jy_pcheck jc_pcheck 3 (some .int)) ∈ lwG := tix_in (q := (4, 173)) rfl rfl
theorem jw_code_ordinal : (Cond.code jy_ordinal jc_ordinal 1 (some .int)) ∈ lwG := tix_in (q := (4, 210)) rfl rfl
theorem jw_inst_coder : (Cond.instanceMethod jy_coder) ∈ lwG := tix_in (q := (4, 150)) rfl rfl
theorem jw_inst_length : (Cond.instanceMethod jy_length) ∈ lwG := tix_in (q := (4, 146)) rfl rfl
theorem jw_inst_isLatin1 : (Cond.instanceMethod jy_isLatin1) ∈ lwG := tix_in (q := (4, 160)) rfl rfl
theorem jw_inst_charAt : (Cond.instanceMethod jy_charAt) ∈ lwG := tix_in (q := (4, 156)) rfl rfl
theorem jw_inst_ordinal : (Cond.instanceMethod jy_ordinal) ∈ lwG := tix_in (q := (4, 209)) rfl rfl
theorem jw_sel_coder : (Cond.selects "java/lang/String" jy_coder jy_coder) ∈ lwG := tix_in (q := (4, 151)) rfl rfl
theorem jw_sel_length : (Cond.selects "java/lang/String" jy_length jy_length) ∈ lwG := tix_in (q := (4, 147)) rfl rfl
theorem jw_sel_isLatin1 : (Cond.selects "java/lang/String" jy_isLatin1 jy_isLatin1) ∈ lwG := tix_in (q := (4, 161)) rfl rfl
theorem jw_sel_charAt : (Cond.selects "java/lang/String" jy_charAt jy_charAt) ∈ lwG := tix_in (q := (4, 157)) rfl rfl
theorem jw_stat_checkIndex : (Cond.static jy_checkIndex) ∈ lwG := tix_in (q := (4, 167)) rfl rfl
theorem jw_stat_lcharAt : (Cond.static jy_lcharAt) ∈ lwG := tix_in (q := (4, 164)) rfl rfl
theorem jw_stat_pcheck : (Cond.static jy_pcheck) ∈ lwG := tix_in (q := (4, 172)) rfl rfl
theorem jw_ini_S : (Cond.initialized "java/lang/String") ∈ lwG := tix_in (q := (1, 18)) rfl rfl
theorem jw_ini_L1 : (Cond.initialized "java/lang/StringLatin1") ∈ lwG := tix_in (q := (1, 19)) rfl rfl
theorem jw_ini_PC : (Cond.initialized "jdk/internal/util/Preconditions") ∈ lwG := tix_in (q := (1, 20)) rfl rfl
theorem jw_ini_EN : (Cond.initialized "java/lang/Enum") ∈ lwG := tix_in (q := (1, 23)) rfl rfl
theorem jw_ml_coder : (Cond.methodLink "java/lang/String" 335 jy_coder) ∈ lwG := tix_in (q := (4, 149)) rfl rfl
theorem jw_ml_isLatin1 : (Cond.methodLink "java/lang/String" 492 jy_isLatin1) ∈ lwG := tix_in (q := (4, 159)) rfl rfl
theorem jw_ml_lcharAt : (Cond.methodLink "java/lang/String" 495 jy_lcharAt) ∈ lwG := tix_in (q := (4, 163)) rfl rfl
theorem jw_ml_checkIndex : (Cond.methodLink "java/lang/StringLatin1" 9 jy_checkIndex) ∈ lwG := tix_in (q := (4, 166)) rfl rfl
theorem jw_ml_pcheck : (Cond.methodLink "java/lang/String" 1059 jy_pcheck) ∈ lwG := tix_in (q := (4, 171)) rfl rfl
theorem jw_fl_cs : (Cond.fieldLink "java/lang/String" 38 "java/lang/String" "COMPACT_STRINGS" "Z") ∈ lwG := tix_in (q := (4, 153)) rfl rfl
theorem jw_fl_coderf : (Cond.fieldLink "java/lang/String" 15 "java/lang/String" "coder" "B") ∈ lwG := tix_in (q := (4, 230)) rfl rfl
theorem jw_fl_value : (Cond.fieldLink "java/lang/String" 9 "java/lang/String" "value" "[B") ∈ lwG := tix_in (q := (4, 229)) rfl rfl
theorem jw_fl_fmt : (Cond.fieldLink "java/lang/String" 1053 "jdk/internal/util/Preconditions" "SIOOBE_FORMATTER" "Ljava/util/function/BiFunction;") ∈ lwG := tix_in (q := (4, 169)) rfl rfl
theorem jw_fl_ordf : (Cond.fieldLink "java/lang/Enum" 7 "java/lang/Enum" "ordinal" "I") ∈ lwG := tix_in (q := (4, 232)) rfl rfl
theorem jw_ml_X10_361 : (Cond.methodLink "OrganCorners" 361 jy_kord) ∈ lwG := tix_in (q := (4, 205)) rfl rfl
theorem jw_ml_X2_45 : (Cond.methodLink "OrganCorners$OrderKind" 45 jy_length) ∈ lwG := tix_in (q := (4, 145)) rfl rfl
theorem jw_ml_X2_51 : (Cond.methodLink "OrganCorners$OrderKind" 51 jy_charAt) ∈ lwG := tix_in (q := (4, 155)) rfl rfl
theorem jw_same : (Cond.sameMethod "OrganCorners$OrderKind" "java/lang/Enum" "ordinal" "()I") ∈ lwG := tix_in (q := (4, 206)) rfl rfl
theorem jw_sel_ord : (Cond.selects "OrganCorners$OrderKind" jy_kord jy_ordinal) ∈ lwG := tix_in (q := (4, 208)) rfl rfl
end JDK
end
section
/-! SMALL METHODS OF THE JDK: their contracts -/
section JDKC
variable {p : Program} {l : Launch} {e : Env} {R : Room} {s : State} {m : MethodId} {args : Array Value} {below : List Frame} {meth : Method} {c : Code} {H : Heap} {locs : List Loc} {cells slots : Nat} {Q : State → Prop} {cc : ByteArray} {nL : Nat} {pc : Nat} {ls : Array Slot} {rest st0 : List Value} {a : Array Value}
variable {N0 : Nat} {L : Nat → Nat}
/-- what the law may write: what was made behind its start -/
abbrev jA (N0 : Nat) : Nat → Prop := fun q => N0 ≤ q
def rmJ (k : Nat) : Room := { frames := k, cells := 0, slots := 0, locals := 40 * k }
def jQ (v : Option Value) : Array Value → State → Outcome → State → Prop := fun _ st oc t => oc = .returned v ∧ va_F (fun _ => False) st t
def jB (N0 : Nat) (L : Nat → Nat) (B : State → Prop) : State → Prop := fun U => SF L (jA N0) U U.heap ∧ B U
abbrev jM (l : Launch) (N0 : Nat) (L : Nat → Nat) (y : MethodName) (b : ByteArray) (maxL : Nat) (ret : Option FieldType) (k : Nat) (B : State → Prop) (as : List Value) (v : Option Value) : Prop :=
  Met l y (.code y b maxL ret :: lwG) (rmJ k) (va_Pc as (jB N0 L B)) (jQ v) 0 0 (fun _ => False)
theorem lwG_good {w : Cond} (h : w ∈ lwG) : goodWord w = true := (List.mem_filter.mp h).2
theorem lwG_in {ws : List Cond} (h : ∀ w ∈ ws, w ∈ lwG) : GoodIn lwG ws := fun w hw => ⟨h w hw, good_of_word (lwG_good (h w hw))⟩
theorem SF.at (h : SF L (jA N0) s s.heap) (hS : va_S (jA N0) s.heap H locs) {U : State} (hU : U.heap = H) (hW : s.WarmedH U.vm) : SF L (jA N0) U U.heap := by
  rw [hU]
  exact (SF.moved hW h).kept hS.2.1
theorem SF.call {U : State} {g : JFrame} {mk : MethodId} {a : Array Value} (h : SF L (jA N0) U U.heap) : SF L (jA N0) (U.calling g mk a) (U.calling g mk a).heap :=
  SF.moved (U := U.calling g mk a) (State.WarmedH.refl U) h
theorem j_call {v : Option Value} (hr : va_Run p l e R s m args below meth c H locs cells slots 0 0 (F0 m pc ls st0) rest (jQ v a) (fun _ => False))
    (kk : ∀ H1 : Heap, H.size ≤ H1.size → (∀ q : Nat, q < H.size → H1[q]? = H[q]?) → W p l e R s m args below meth c H1 locs cells slots Q (F0 m (pc + 3) ls (v.toList ++ rest))) : W p l e R s m args below meth c H locs cells slots Q (F0 m pc ls st0) := by
  intro T hT X
  obtain ⟨v', st₀, t, T', L9, h0, X', hL, e1, e2, ⟨hv, hz, hk⟩, st⟩ := hr T hT X
  cases hv
  have : L9 = [] := by
    cases L9 with
    | nil => rfl
    | cons q r => exact (hL q List.mem_cons_self).elim
  subst this
  rw [List.append_nil] at X'
  rw [h0] at hz hk
  obtain ⟨t2, a1, b1⟩ := kk T'.heap (by rw [e1]; exact hz) (fun q hq => by rw [e1]; exact hk q hq (fun z => z)) T' rfl X'
  exact ⟨t2, st t2 a1, b1⟩
theorem jS (hS : va_S (jA N0) s.heap H locs) {H1 : Heap} (hz : H.size ≤ H1.size) (hk : ∀ q : Nat, q < H.size → H1[q]? = H[q]?) : va_S (jA N0) s.heap H1 locs :=
  ⟨Nat.le_trans hS.1 hz, fun q h1 h2 => (hk q (Nat.lt_of_lt_of_le h1 hS.1)).trans (hS.2.1 q h1 h2), hS.2.2⟩
theorem jwsV {own C : String} {ix maxL : Nat} {y : MethodName} {b : ByteArray} {ret : Option FieldType} (h1 : Cond.methodLink own ix y ∈ lwG) (h2 : Cond.instanceMethod y ∈ lwG) (h3 : Cond.selects C y y ∈ lwG) (h4 : Cond.initialized C ∈ lwG) (h5 : Cond.code y b maxL ret ∈ lwG) : GoodIn lwG (wsV own ix C y (.code y b maxL ret :: lwG)) := by
  refine lwG_in fun w hw => ?_
  unfold wsV at hw
  simp only [List.cons_append, List.nil_append, List.mem_cons] at hw
  rcases hw with rfl | rfl | rfl | rfl | rfl | h
  · exact h1
  · exact h2
  · exact h3
  · exact h4
  · exact h5
  · exact h
theorem jwsS {own : String} {ix maxL : Nat} {y : MethodName} {b : ByteArray} {ret : Option FieldType} (h1 : Cond.methodLink own ix y ∈ lwG) (h2 : Cond.static y ∈ lwG) (h4 : Cond.initialized y.cls ∈ lwG) (h5 : Cond.code y b maxL ret ∈ lwG) : GoodIn lwG (va_wsS own ix y (.code y b maxL ret :: lwG)) := by
  refine lwG_in fun w hw => ?_
  unfold va_wsS at hw
  simp only [List.cons_append, List.nil_append, List.mem_cons] at hw
  rcases hw with rfl | rfl | rfl | rfl | h
  · exact h1
  · exact h2
  · exact h4
  · exact h5
  · exact h
/-- an instance call of a small method, on a text -/
theorem j_V {own C : String} {ix maxL k n b : Nat} {y : MethodName} {bytes : ByteArray} {ret : Option FieldType} {As : List Value} {v : Option Value} {B : State → Prop} (hx : p.tables.exec = Jvm.exec) (hb : c.code = cc) (hml : c.maxLocals = ls.size) (hown : s.vm.findClass own = some m.cls) (hts : ∀ w ∈ lwG, w.before args s = true) (hF : SF L (jA N0) s s.heap) (hS : va_S (jA N0) s.heap H locs)
    (hM : jM l N0 L y bytes maxL ret k B (.ref b :: As) v) (hO : va_O C b (jA N0) s s.heap) (hBc : ∀ (U : State) (g : JFrame) (mk : MethodId) (a : Array Value), B U → B (U.calling g mk a)) (hBU : ∀ U : State, U.heap = H → s.WarmedH U.vm → B U)
    (h1 : Cond.methodLink own ix y ∈ lwG) (h2 : Cond.instanceMethod y ∈ lwG) (h3 : Cond.selects C y y ∈ lwG) (h4 : Cond.initialized C ∈ lwG) (h5 : Cond.code y bytes maxL ret ∈ lwG) (hd : y.cls = C ∧ y.cls ≠ "java/lang/invoke/MethodHandle" ∧ y.cls ≠ "java/lang/invoke/VarHandle" ∧ (parseMethodDescriptor y.desc).map (fun d => d.parameters.length) = some n) (hn : As.length = n)
    (hRf : k + 1 ≤ R.frames) (hRl : 19 + maxL + 40 * k ≤ R.locals) (hc : cells ≤ R.cells) (hs : slots ≤ R.slots) (hst : st0 = As.reverse ++ .ref b :: rest) (hW : (rest.map fun v => v.category).sum ≤ 8) (hdg : decode cc pc = .ok (.invokevirtual ix, 3))
    (kk : ∀ H1 : Heap, H.size ≤ H1.size → (∀ q : Nat, q < H.size → H1[q]? = H[q]?) → W p l e R s m args below meth c H1 locs cells slots Q (F0 m (pc + 3) ls (v.toList ++ rest))) : W p l e R s m args below meth c H locs cells slots Q (F0 m pc ls st0) := by
  refine j_call (rest := rest) (va_runV (Ts := lwG) (C := C) (b := b) (As := As) (n := n) ⟨hx, hb, hml, hown, hts⟩ hM (cwV n hts (jwsV h1 h2 h3 h4 h5) rfl rfl rfl hd ⟨hRf, by show 8 + (maxL + 11) + 40 * k ≤ _; omega⟩) ⟨?_, ?_, ?_⟩ rfl hn rfl hst (by show 2 * 0 + _ ≤ _; omega) hdg ⟨hc, hs⟩) kk
  · intro a U g mk ⟨h1, h2, h3⟩
    exact ⟨h1, SF.call h2, hBc _ _ _ _ h3⟩
  · obtain ⟨cell, g1, g2, g3, g4⟩ := hO
    refine ⟨cell, ?_, g2, g3⟩
    rw [hS.2.1 b (Array.getElem?_eq_some_iff.mp g1).1 g4]; exact g1
  · intro U hU hW
    exact ⟨rfl, hF.at hS hU hW, hBU U hU hW⟩
theorem j_S {own : String} {ix maxL k n : Nat} {y : MethodName} {bytes : ByteArray} {ret : Option FieldType} {As : List Value} {v : Option Value} {B : State → Prop} (hx : p.tables.exec = Jvm.exec) (hb : c.code = cc) (hml : c.maxLocals = ls.size) (hown : s.vm.findClass own = some m.cls) (hts : ∀ w ∈ lwG, w.before args s = true) (hF : SF L (jA N0) s s.heap) (hS : va_S (jA N0) s.heap H locs)
    (hM : jM l N0 L y bytes maxL ret k B As v) (hBc : ∀ (U : State) (g : JFrame) (mk : MethodId) (a : Array Value), B U → B (U.calling g mk a)) (hBU : ∀ U : State, U.heap = H → s.WarmedH U.vm → B U)
    (h1 : Cond.methodLink own ix y ∈ lwG) (h2 : Cond.static y ∈ lwG) (h4 : Cond.initialized y.cls ∈ lwG) (h5 : Cond.code y bytes maxL ret ∈ lwG) (hd : y.cls ≠ "java/lang/invoke/MethodHandle" ∧ y.cls ≠ "java/lang/invoke/VarHandle" ∧ (parseMethodDescriptor y.desc).map (fun d => d.parameters.length) = some n) (hn : As.length = n)
    (hRf : k + 1 ≤ R.frames) (hRl : 19 + maxL + 40 * k ≤ R.locals) (hc : cells ≤ R.cells) (hs : slots ≤ R.slots) (hst : st0 = As.reverse ++ rest) (hW : (rest.map fun v => v.category).sum ≤ 8) (hdg : decode cc pc = .ok (.invokestatic ix, 3))
    (kk : ∀ H1 : Heap, H.size ≤ H1.size → (∀ q : Nat, q < H.size → H1[q]? = H[q]?) → W p l e R s m args below meth c H1 locs cells slots Q (F0 m (pc + 3) ls (v.toList ++ rest))) : W p l e R s m args below meth c H locs cells slots Q (F0 m pc ls st0) := by
  refine j_call (rest := rest) (va_runS (Ts := lwG) (As := As) (n := n) ⟨hx, hb, hml, hown, hts⟩ hM (va_cwS n hts (jwsS h1 h2 h4 h5) rfl rfl rfl hd ⟨hRf, by show 8 + (maxL + 11) + 40 * k ≤ _; omega⟩) ⟨?_, ?_⟩ rfl hn rfl hst (by show 2 * 0 + _ ≤ _; omega) hdg ⟨hc, hs⟩) kk
  · intro a U g mk ⟨h1, h2, h3⟩
    exact ⟨h1, SF.call h2, hBc _ _ _ _ h3⟩
  · intro U hU hW
    exact ⟨rfl, hF.at hS hU hW, hBU U hU hW⟩
theorem jEnd {t : State} (ht : t.heap = s.heap) : va_F (fun _ => False) s t := ⟨by rw [ht]; exact Nat.le_refl _, fun q _ _ => by rw [ht]⟩
theorem jF0 {q : Loc} (h : q ∈ ([] : List Loc)) : False := by cases h
/-- from a start -/
theorem j_of {y : MethodName} {b : ByteArray} {maxL k : Nat} {ret : Option FieldType} {B : State → Prop} {as : List Value} {v : Option Value} (hy : plainName y.cls = true)
    (body : ∀ (p : Program) (e : Env) (s : State) (m : MethodId) (args : Array Value) (below : List Frame) (meth : Method) (c : Code), p.tables.exec = Jvm.exec → c.code = b → c.maxLocals = maxL → meth.sig.returnType = ret → meth.locks = false → s.vm.findClass y.cls = some m.cls → (∀ w ∈ lwG, w.before args s = true) → SF L (jA N0) s s.heap → B s → args = as.toArray →
      W p l e (rmJ k) s m args below meth c s.heap [] 0 0 (MQ below (jQ v) args s 0 0 (fun _ => False)) (entryFrame m as.toArray maxL)) : jM l N0 L y b maxL ret k B as v := by
  refine Met.ofW (cc := b) (maxL := maxL) (ret := ret) hy rfl ?_
  intro p e s m args below meth c s₁ B0 hml hv
  obtain ⟨hv, hF, hB⟩ := hv
  have hts0 := atoms_spec (ws := Cond.code y b maxL ret :: lwG) B0.pre
  have := body p e s m args below meth c B0.exec B0.bytes hml B0.returns B0.notSynchronized (findClass_of_methodNamed B0.named) (fun w hw => hts0 w (List.mem_cons_of_mem _ hw)) hF hB hv
  rw [← hv] at this
  exact this
end JDKC
end
section
/-! SMALL METHODS OF THE JDK: each -/
section JDKD
variable {l : Launch} {N0 : Nat} {L : Nat → Nat}
abbrev jT : State → Prop := fun _ => True
theorem jT_call (U : State) (g : JFrame) (mk : MethodId) (a : Array Value) (_ : jT U) : jT (U.calling g mk a) := trivial
theorem c_coder {i : Nat} (hi : i < 10) : jM l N0 L jy_coder jc_coder 1 (some .byte) 0 jT [.ref (L (420 + i))] (some (.int 0)) := by
  refine j_of (by decide) ?_
  intro p e s m args below meth c hx hb hml hr hlocks hown hts hF _ _
  obtain ⟨v, f1, f2, f3, f4⟩ := hF.2.1.2.1 i hi
  have hS : va_S (jA N0) s.heap s.heap [] := va_S.rf
  have hl := lv_entry ([.ref (L (420 + i))]) (n := 1) (Nat.le_of_ble_eq_true rfl)
  rw [lg_entry_eq]
  generalize (lg_sl ([.ref (L (420 + i))]) ++ List.replicate (1 - (lg_sl ([.ref (L (420 + i))])).length) Slot.unset).toArray = ls at hl ⊢
  have hl : lv_has ls 1 [(0, .ref (L (420 + i)))] := hl
  refine va_gets hx hb hF.2.1.2.2.1 hS hown (hts _ jw_fl_cs) (fun _ h9 => h9) jd_coder_0 ?_
  refine lv_if_eq_f hx hb jd_coder_3 (by decide) ?_
  refine lv_aload_n hx hb jd_coder_6 rfl (lv_at hl 0 rfl) ?_
  refine vk_getf hx hb f2 hS hown (hts _ jw_fl_coderf) (fun _ h9 => h9) jd_coder_7 ?_
  refine lv_goto (tgt := 14) hx hb jd_coder_10 (by decide) ?_
  exact W.zret hx hb hr (by decide) (fun t ht hW => ⟨rfl, jEnd ht⟩) (fun q h => jF0 h) jd_coder_14
theorem c_isLatin1 {i : Nat} (hi : i < 10) : jM l N0 L jy_isLatin1 jc_isLatin1 1 (some .boolean) 0 jT [.ref (L (420 + i))] (some (.int 1)) := by
  refine j_of (by decide) ?_
  intro p e s m args below meth c hx hb hml hr hlocks hown hts hF _ _
  obtain ⟨v, f1, f2, f3, f4⟩ := hF.2.1.2.1 i hi
  have hS : va_S (jA N0) s.heap s.heap [] := va_S.rf
  have hl := lv_entry ([.ref (L (420 + i))]) (n := 1) (Nat.le_of_ble_eq_true rfl)
  rw [lg_entry_eq]
  generalize (lg_sl ([.ref (L (420 + i))]) ++ List.replicate (1 - (lg_sl ([.ref (L (420 + i))])).length) Slot.unset).toArray = ls at hl ⊢
  have hl : lv_has ls 1 [(0, .ref (L (420 + i)))] := hl
  refine va_gets hx hb hF.2.1.2.2.1 hS hown (hts _ jw_fl_cs) (fun _ h9 => h9) jd_isLatin1_0 ?_
  refine lv_if_eq_f hx hb jd_isLatin1_3 (by decide) ?_
  refine lv_aload_n hx hb jd_isLatin1_6 rfl (lv_at hl 0 rfl) ?_
  refine vk_getf hx hb f2 hS hown (hts _ jw_fl_coderf) (fun _ h9 => h9) jd_isLatin1_7 ?_
  refine lv_if_ne_f hx hb jd_isLatin1_10 (by decide) ?_
  refine lv_iconst (v := 1) hx hb jd_isLatin1_13 (by decide) ?_
  refine lv_goto (tgt := 18) hx hb jd_isLatin1_14 (by decide) ?_
  exact W.zret hx hb hr (by decide) (fun t ht hW => ⟨rfl, jEnd ht⟩) (fun q h => jF0 h) jd_isLatin1_18
theorem c_length {i : Nat} (hi : i < 10) : jM l N0 L jy_length jc_length 1 (some .int) 1 jT [.ref (L (420 + i))] (some (.int (strLen (420 + i)))) := by
  refine j_of (by decide) ?_
  intro p e s m args below meth c hx hb hml hr hlocks hown hts hF _ _
  obtain ⟨v, f1, f2, f3, f4⟩ := hF.2.1.2.1 i hi
  have hS : va_S (jA N0) s.heap s.heap [] := va_S.rf
  have hl := lv_entry ([.ref (L (420 + i))]) (n := 1) (Nat.le_of_ble_eq_true rfl)
  rw [lg_entry_eq]
  generalize (lg_sl ([.ref (L (420 + i))]) ++ List.replicate (1 - (lg_sl ([.ref (L (420 + i))])).length) Slot.unset).toArray = ls at hl ⊢
  have hl : lv_has ls 1 [(0, .ref (L (420 + i)))] := hl
  have hsz : c.maxLocals = ls.size := by rw [hml]; exact hl.1.symm
  refine lv_aload_n hx hb jd_length_0 rfl (lv_at hl 0 rfl) ?_
  refine vk_getf hx hb f3 hS hown (hts _ jw_fl_value) (fun _ h9 => h9) jd_length_1 ?_
  refine va_tlen hx hb f4 hS rfl jd_length_4 ?_
  refine lv_aload_n hx hb jd_length_5 rfl (lv_at hl 0 rfl) ?_
  refine j_V (n := 0) (k := 0) (maxL := 1) (C := "java/lang/String") (As := []) (b := L (420 + i)) hx hb hsz hown hts hF hS (c_coder hi) f1 jT_call (fun _ _ _ => trivial) jw_ml_coder jw_inst_coder jw_sel_coder jw_ini_S jw_code_coder ⟨rfl, by decide, by decide, by decide +kernel⟩ rfl (Nat.le_refl _) (by decide) (Nat.le_refl _) (Nat.le_refl _) rfl (Nat.le_of_ble_eq_true rfl) jd_length_6 (fun H1 hz hk => ?_)
  refine lv_ishr hx hb jd_length_9 ?_
  have e9 : ((Int32.ofNat (strs.getD i []).length) >>> ((0 : Int32) &&& 31)) = strLen (420 + i) := by
    unfold strLen
    rw [show 420 + i - 420 = i by omega]
    exact (by decide +kernel : ∀ i, i < 10 → ((Int32.ofNat (strs.getD i []).length) >>> ((0 : Int32) &&& 31)) = Int32.ofNat (strs.getD i []).length) i hi
  rw [e9]
  exact W.iret hx hb hr (fun t ht hW => ⟨rfl, ⟨by rw [ht]; exact hz, fun q hq _ => by rw [ht]; exact hk q hq⟩⟩) (fun q h => jF0 h) jd_length_10
theorem c_pcheck {i n : Int32} {f : Value} (hf : f = .null ∨ ∃ t, f = .ref t) (h0 : ¬ i < 0) (hn : i < n) : jM l N0 L jy_pcheck jc_pcheck 3 (some .int) 0 jT [.int i, .int n, f] (some (.int i)) := by
  refine j_of (by decide) ?_
  intro p e s m args below meth c hx hb hml hr hlocks hown hts hF _ _
  have hw : (lg_sl ([.int i, .int n, f])).length ≤ 3 := by rcases hf with rfl | ⟨t, rfl⟩ <;> exact Nat.le_of_ble_eq_true rfl
  have hl := lv_entry ([.int i, .int n, f]) (n := 3) hw
  rw [lg_entry_eq]
  generalize (lg_sl ([.int i, .int n, f]) ++ List.replicate (3 - (lg_sl ([.int i, .int n, f])).length) Slot.unset).toArray = ls at hl ⊢
  have hl : lv_has ls 3 [(0, .int i), (1, .int n), (2, f)] := hl
  refine lv_iload_n hx hb jd_pcheck_0 rfl (lv_at hl 0 rfl) ?_
  refine lv_if_lt_f hx hb jd_pcheck_1 h0 ?_
  refine lv_iload_n hx hb jd_pcheck_4 rfl (lv_at hl 0 rfl) ?_
  refine lv_iload_n hx hb jd_pcheck_5 rfl (lv_at hl 1 rfl) ?_
  refine lv_icmp_lt (tgt := 16) hx hb jd_pcheck_6 (by decide) (fun _ => ?_) (fun q => absurd hn q)
  refine lv_iload_n hx hb jd_pcheck_16 rfl (lv_at hl 0 rfl) ?_
  exact W.iret hx hb hr (fun t ht hW => ⟨rfl, jEnd ht⟩) (fun q h => jF0 h) jd_pcheck_17
theorem c_checkIndex {i n : Int32} (h0 : ¬ i < 0) (hn : i < n) : jM l N0 L jy_checkIndex jc_checkIndex 2 none 1 jT [.int i, .int n] none := by
  refine j_of (by decide) ?_
  intro p e s m args below meth c hx hb hml hr hlocks hown hts hF _ _
  have hS : va_S (jA N0) s.heap s.heap [] := va_S.rf
  have hl := lv_entry ([.int i, .int n]) (n := 2) (Nat.le_of_ble_eq_true rfl)
  rw [lg_entry_eq]
  generalize (lg_sl ([.int i, .int n]) ++ List.replicate (2 - (lg_sl ([.int i, .int n])).length) Slot.unset).toArray = ls at hl ⊢
  have hl : lv_has ls 2 [(0, .int i), (1, .int n)] := hl
  have hsz : c.maxLocals = ls.size := by rw [hml]; exact hl.1.symm
  refine lv_iload_n hx hb jd_checkIndex_0 rfl (lv_at hl 0 rfl) ?_
  refine lv_iload_n hx hb jd_checkIndex_1 rfl (lv_at hl 1 rfl) ?_
  obtain ⟨f, hf, hZ⟩ : ∃ f : Value, (f = .null ∨ ∃ t, f = .ref t) ∧ va_Z "jdk/internal/util/Preconditions" "SIOOBE_FORMATTER" "Ljava/util/function/BiFunction;" f (jA N0) s s.heap := by
    rcases hF.2.1.2.2.2 with h | ⟨t, h⟩
    · exact ⟨_, Or.inl rfl, h⟩
    · exact ⟨_, Or.inr ⟨t, rfl⟩, h⟩
  refine va_gets hx hb hZ hS hown (hts _ jw_fl_fmt) (fun _ h9 => h9) jd_checkIndex_2 ?_
  refine j_S (n := 3) (k := 0) (maxL := 3) (As := [.int i, .int n, f]) (rest := []) hx hb hsz hown hts hF hS (c_pcheck hf h0 hn) jT_call (fun _ _ _ => trivial) jw_ml_pcheck jw_stat_pcheck jw_ini_PC jw_code_pcheck ⟨by decide, by decide, by decide +kernel⟩ rfl (Nat.le_refl _) (by decide) (Nat.le_refl _) (Nat.le_refl _) rfl (by decide) jd_checkIndex_5 (fun H1 hz hk => ?_)
  refine lv_pop hx hb jd_checkIndex_8 rfl ?_
  exact W.vret hx hb hr (fun t ht hW => ⟨rfl, ⟨by rw [ht]; exact hz, fun q hq _ => by rw [ht]; exact hk q hq⟩⟩) (fun q h => jF0 h) jd_checkIndex_9
/-- the bytes of a text are there -/
def jBy (N0 v i : Nat) : State → Prop := fun U => va_T .byte v (strs.getD i []).length (fun j => .int ((strs.getD i []).getD j 0)) (jA N0) U U.heap
theorem jBy_call {v i : Nat} (U : State) (g : JFrame) (mk : MethodId) (a : Array Value) (h : jBy N0 v i U) : jBy N0 v i (U.calling g mk a) := va_T.moved (U := U.calling g mk a) (State.WarmedH.refl U).alike h
theorem str_c : ∀ i, i < 10 → ∀ j, j < 4 → j < (strs.getD i []).length → (((strs.getD i []).getD j 0 &&& (Int16.ofInt 255).toInt32).toUInt32 % 65536).toInt32 = (strs.getD i []).getD j 0 ∧ narrow .char (.int ((strs.getD i []).getD j 0)) = .int ((strs.getD i []).getD j 0) := by decide +kernel
theorem str_l : ∀ i, i < 10 → (strs.getD i []).length ≤ 4 := by decide +kernel
theorem c_lcharAt {v i : Nat} (hi : i < 10) {k : Int32} (h0 : ¬ k < 0) (hk : k.toNatClampNeg < (strs.getD i []).length) : jM l N0 L jy_lcharAt jc_lcharAt 2 (some .char) 2 (jBy N0 v i) [.ref v, .int k] (some (.int (strAt (420 + i) k.toNatClampNeg))) := by
  refine j_of (by decide) ?_
  intro p e s m args below meth c hx hb hml hr hlocks hown hts hF f4 _
  have hS : va_S (jA N0) s.heap s.heap [] := va_S.rf
  have hl := lv_entry ([.ref v, .int k]) (n := 2) (Nat.le_of_ble_eq_true rfl)
  rw [lg_entry_eq]
  generalize (lg_sl ([.ref v, .int k]) ++ List.replicate (2 - (lg_sl ([.ref v, .int k])).length) Slot.unset).toArray = ls at hl ⊢
  have hl : lv_has ls 2 [(0, .ref v), (1, .int k)] := hl
  have hsz : c.maxLocals = ls.size := by rw [hml]; exact hl.1.symm
  have hlen := str_l i hi
  have hkl : k < Int32.ofNat (strs.getD i []).length := by
    rw [Int32.lt_iff_toInt_lt, show Int32.ofNat (strs.getD i []).length = nI (strs.getD i []).length from rfl, nI_toInt (by omega)]
    have : k.toNatClampNeg = k.toInt.toNat := rfl
    have h9 : ¬ k.toInt < 0 := fun q => h0 (Int32.lt_iff_toInt_lt.mpr q)
    omega
  refine lv_iload_n hx hb jd_lcharAt_0 rfl (lv_at hl 1 rfl) ?_
  refine lv_aload_n hx hb jd_lcharAt_1 rfl (lv_at hl 0 rfl) ?_
  refine va_tlen hx hb f4 hS rfl jd_lcharAt_2 ?_
  refine j_S (n := 2) (k := 1) (maxL := 2) (As := [.int k, .int (Int32.ofNat (strs.getD i []).length)]) (rest := []) hx hb hsz hown hts hF hS (c_checkIndex h0 hkl) jT_call (fun _ _ _ => trivial) jw_ml_checkIndex jw_stat_checkIndex jw_ini_S jw_code_checkIndex ⟨by decide, by decide, by decide +kernel⟩ rfl (Nat.le_refl _) (by decide) (Nat.le_refl _) (Nat.le_refl _) rfl (by decide) jd_lcharAt_3 (fun H1 hz hk1 => ?_)
  have hS1 := jS hS hz hk1
  refine lv_aload_n hx hb jd_lcharAt_6 rfl (lv_at hl 0 rfl) ?_
  refine lv_iload_n hx hb jd_lcharAt_7 rfl (lv_at hl 1 rfl) ?_
  refine va_tb hx hb f4 hS1 (fun q => by rcases q with q | q; exact h0 q; omega) rfl jd_lcharAt_8 ?_
  refine lv_sipush hx hb jd_lcharAt_9 rfl ?_
  refine lv_iand hx hb jd_lcharAt_12 ?_
  obtain ⟨g1, g2⟩ := str_c i hi k.toNatClampNeg (by omega) hk
  refine lv_i2c hx hb jd_lcharAt_13 g1 ?_
  have e9 : strAt (420 + i) k.toNatClampNeg = (strs.getD i []).getD k.toNatClampNeg 0 := by unfold strAt; rw [show 420 + i - 420 = i by omega]
  rw [e9]
  exact W.zret hx hb hr g2 (fun t ht hW => ⟨rfl, ⟨by rw [ht]; exact hz, fun q hq _ => by rw [ht]; exact hk1 q hq⟩⟩) (fun q h => jF0 h) jd_lcharAt_14
theorem c_charAt {i : Nat} (hi : i < 10) {k : Int32} (h0 : ¬ k < 0) (hk : k.toNatClampNeg < (strs.getD i []).length) : jM l N0 L jy_charAt jc_charAt 2 (some .char) 3 jT [.ref (L (420 + i)), .int k] (some (.int (strAt (420 + i) k.toNatClampNeg))) := by
  refine j_of (by decide) ?_
  intro p e s m args below meth c hx hb hml hr hlocks hown hts hF _ _
  obtain ⟨v, f1, f2, f3, f4⟩ := hF.2.1.2.1 i hi
  have hS : va_S (jA N0) s.heap s.heap [] := va_S.rf
  have hl := lv_entry ([.ref (L (420 + i)), .int k]) (n := 2) (Nat.le_of_ble_eq_true rfl)
  rw [lg_entry_eq]
  generalize (lg_sl ([.ref (L (420 + i)), .int k]) ++ List.replicate (2 - (lg_sl ([.ref (L (420 + i)), .int k])).length) Slot.unset).toArray = ls at hl ⊢
  have hl : lv_has ls 2 [(0, .ref (L (420 + i))), (1, .int k)] := hl
  have hsz : c.maxLocals = ls.size := by rw [hml]; exact hl.1.symm
  refine lv_aload_n hx hb jd_charAt_0 rfl (lv_at hl 0 rfl) ?_
  refine j_V (n := 0) (k := 0) (maxL := 1) (C := "java/lang/String") (As := []) (b := L (420 + i)) (rest := []) hx hb hsz hown hts hF hS (c_isLatin1 hi) f1 jT_call (fun _ _ _ => trivial) jw_ml_isLatin1 jw_inst_isLatin1 jw_sel_isLatin1 jw_ini_S jw_code_isLatin1 ⟨rfl, by decide, by decide, by decide +kernel⟩ rfl (by decide) (by decide) (Nat.le_refl _) (Nat.le_refl _) rfl (by decide) jd_charAt_1 (fun H1 hz hk1 => ?_)
  have hS1 := jS hS hz hk1
  refine lv_if_eq_f hx hb jd_charAt_4 (by decide) ?_
  refine lv_aload_n hx hb jd_charAt_7 rfl (lv_at hl 0 rfl) ?_
  refine vk_getf hx hb f3 hS1 hown (hts _ jw_fl_value) (fun _ h9 => h9) jd_charAt_8 ?_
  refine lv_iload_n hx hb jd_charAt_11 rfl (lv_at hl 1 rfl) ?_
  refine j_S (n := 2) (k := 2) (maxL := 2) (As := [.ref v, .int k]) (rest := []) hx hb hsz hown hts hF hS1 (c_lcharAt hi h0 hk) jBy_call (fun U hU hW => ?_) jw_ml_lcharAt jw_stat_lcharAt jw_ini_L1 jw_code_lcharAt ⟨by decide, by decide, by decide +kernel⟩ rfl (Nat.le_refl _) (by decide) (Nat.le_refl _) (Nat.le_refl _) rfl (by decide) jd_charAt_12 (fun H2 hz2 hk2 => ?_)
  · show va_T .byte v _ _ (jA N0) U U.heap
    rw [hU]
    exact (va_T.moved hW.alike f4).kept hS1.2.1
  obtain ⟨g1, g2⟩ := str_c i hi k.toNatClampNeg (by have := str_l i hi; omega) hk
  have e9 : strAt (420 + i) k.toNatClampNeg = (strs.getD i []).getD k.toNatClampNeg 0 := by unfold strAt; rw [show 420 + i - 420 = i by omega]
  refine W.zret hx hb hr (by rw [e9]; exact g2) (fun t ht hW => ⟨rfl, ⟨by rw [ht]; exact Nat.le_trans hz hz2, fun q hq _ => by rw [ht, hk2 q (Nat.lt_of_lt_of_le hq hz)]; exact hk1 q hq⟩⟩) (fun q h => jF0 h) jd_charAt_15
theorem c_ordinal {j : Nat} (hj : j < 5) : jM l N0 L jy_ordinal jc_ordinal 1 (some .int) 0 jT [.ref (L (410 + j))] (some (.int (Int32.ofNat j))) := by
  refine j_of (by decide) ?_
  intro p e s m args below meth c hx hb hml hr hlocks hown hts hF _ _
  obtain ⟨f1, f2, f3, f4⟩ := hF.2.1.1 j hj
  have hS : va_S (jA N0) s.heap s.heap [] := va_S.rf
  have hl := lv_entry ([.ref (L (410 + j))]) (n := 1) (Nat.le_of_ble_eq_true rfl)
  rw [lg_entry_eq]
  generalize (lg_sl ([.ref (L (410 + j))]) ++ List.replicate (1 - (lg_sl ([.ref (L (410 + j))])).length) Slot.unset).toArray = ls at hl ⊢
  have hl : lv_has ls 1 [(0, .ref (L (410 + j)))] := hl
  refine lv_aload_n hx hb jd_ordinal_0 rfl (lv_at hl 0 rfl) ?_
  refine vk_getf hx hb f4 hS hown (hts _ jw_fl_ordf) (fun _ h9 => h9) jd_ordinal_1 ?_
  exact W.iret hx hb hr (fun t ht hW => ⟨rfl, jEnd ht⟩) (fun q h => jF0 h) jd_ordinal_4
end JDKD
end
section
/-! STEPS BY THE POOL: fields, constants, statics, the JDK's small methods -/
section SIM3
variable {p : Program} {l : Launch} {e : Env} {R : Room} {s : State} {m : MethodId} {args : Array Value} {below : List Frame} {meth : Method} {c : Code} {H H0 : Heap} {locs : List Loc} {cells slots : Nat} {Q : State → Prop} {cc : ByteArray} {nL : Nat}
variable {L : Nat → Nat} {D : va_G} {cA : Nat → ClassId} {A : Nat → Prop} {pc pc' : Nat} {ls : Array Slot} {pl pl' st st' : List Value} {μ μ' : PM} {own : String} {pool : Nat → Ent}
theorem cls29 {k : Nat} (h : cls k = 29) : ∃ j, j < 5 ∧ k = 410 + j := by
  by_cases hk : k < 430
  · have key : ∀ k, k < 430 → cls k = 29 → 410 ≤ k ∧ k < 415 := by decide +kernel
    obtain ⟨h1, h2⟩ := key k hk h
    exact ⟨k - 410, by omega, by omega⟩
  · exfalso
    have bl : ∀ n, n ≤ 430 → Nat.blt k n = false := by
      intro n hn
      cases hb : Nat.blt k n
      · rfl
      · have := Nat.blt_eq.mp hb; omega
    have be : ∀ n, n < 430 → Nat.beq k n = false := by
      intro n hn
      cases hb : Nat.beq k n
      · rfl
      · have := Nat.eq_of_beq_eq_true hb; omega
    unfold cls ly lyTop at h
    rw [bl 23 (by decide), bl 345 (by decide), be 390 (by decide), be 400 (by decide), be 402 (by decide), be 401 (by decide), bl 410 (by decide), bl 415 (by decide), bl 420 (by decide), bl 430 (by decide)] at h
    simp at h
theorem cls30 {k : Nat} (h : cls k = 30) : ∃ j, j < 10 ∧ k = 420 + j := by
  by_cases hk : k < 430
  · have key : ∀ k, k < 430 → cls k = 30 → 420 ≤ k := by decide +kernel
    have h1 := key k hk h
    exact ⟨k - 420, by omega, by omega⟩
  · exfalso
    have bl : ∀ n, n ≤ 430 → Nat.blt k n = false := by
      intro n hn
      cases hb : Nat.blt k n
      · rfl
      · have := Nat.blt_eq.mp hb; omega
    have be : ∀ n, n < 430 → Nat.beq k n = false := by
      intro n hn
      cases hb : Nat.beq k n
      · rfl
      · have := Nat.eq_of_beq_eq_true hb; omega
    unfold cls ly lyTop at h
    rw [bl 23 (by decide), bl 345 (by decide), be 390 (by decide), be 400 (by decide), be 402 (by decide), be 401 (by decide), bl 410 (by decide), bl 415 (by decide), bl 420 (by decide), bl 430 (by decide)] at h
    simp at h
theorem sn_get (hx : p.tables.exec = Jvm.exec) (hb : c.code = cc) (ha : At_ s.heap L D cA A nL H locs ls pl μ) (hown : s.vm.findClass own = some m.cls) (hts : ∀ w ∈ lwG, w.before args s = true) (hK : va_K D vwCl (tyL cA) s) (hF : SF L A s s.heap) (hpf : PF own pool) {ix : Nat} (hdg : decode cc pc = .ok (.getfield ix, 3)) (h : gtf pool pc ix pl st μ = some (.inl (pc', pl', st', μ'))) (k : Kt p l e R s m args below meth c s.heap cells slots Q L D cA A nL pc' pl' st' μ') : Wg p l e R s m args below meth c H locs cells slots Q L pc ls st := by
  obtain ⟨hok, hw, -⟩ := hpf ix
  unfold gtf at h
  split at h
  · rename_i kk r
    split at h
    · rename_i ci j z he
      rw [he] at hok hw
      simp only [entOK, Bool.and_eq_true, decide_eq_true_eq] at hok
      split at h
      · rename_i hc
        obtain ⟨rfl, rfl, rfl, rfl⟩ := nx_inv h
        exact get_obj hx hb hown hts hK ha (Nat.blt_eq.mp hok.1) hc hok.2 (hw _ List.mem_cons_self) hdg (k.go ha)
      · cases h
    · rename_i ci j z he
      rw [he] at hok hw
      simp only [entOK, Bool.and_eq_true, decide_eq_true_eq] at hok
      split at h
      · rename_i hc
        obtain ⟨rfl, rfl, rfl, rfl⟩ := nx_inv h
        exact get_obj hx hb hown hts hK ha (Nat.blt_eq.mp hok.1) hc hok.2 (hw _ List.mem_cons_self) hdg (k.go ha)
      · cases h
    · rename_i ci j z he
      rw [he] at hok hw
      simp only [entOK, Bool.and_eq_true, decide_eq_true_eq] at hok
      split at h
      · rename_i hc
        obtain ⟨rfl, rfl, rfl, rfl⟩ := nx_inv h
        exact get_obj hx hb hown hts hK ha (Nat.blt_eq.mp hok.1) hc hok.2 (hw _ List.mem_cons_self) hdg (k.go ha)
      · cases h
    · rename_i ci j o he
      rw [he] at hok hw
      simp only [entOK, Bool.and_eq_true, decide_eq_true_eq] at hok
      split at h
      · rename_i hc
        obtain ⟨rfl, rfl, rfl, rfl⟩ := nx_inv h
        exact get_obj hx hb hown hts hK ha (Nat.blt_eq.mp hok.1) hc hok.2 (hw _ List.mem_cons_self) hdg (k.go ha)
      · cases h
    · rename_i ci j z he
      rw [he] at hok hw
      simp only [entOK, decide_eq_true_eq] at hok
      obtain ⟨rfl, hj⟩ := hok
      split at h
      · rename_i hc
        obtain ⟨rfl, rfl, rfl, rfl⟩ := nx_inv h
        obtain ⟨i, hi, rfl⟩ := cls29 hc
        obtain ⟨f1, f2, f3, f4⟩ := hF.2.1.1 i hi
        rcases hj with rfl | rfl
        · have e1 : 420 + 2 * (410 + i - 410) + 0 = 420 + 2 * i := by omega
          rw [e1] at k
          exact vk_getf hx hb f2 ha.2.2.2 hown (hts _ (hw _ List.mem_cons_self)) (fun _ h9 => h9) hdg (k.go ha)
        · have e1 : 420 + 2 * (410 + i - 410) + 1 = 421 + 2 * i := by omega
          rw [e1] at k
          exact vk_getf hx hb f3 ha.2.2.2 hown (hts _ (hw _ List.mem_cons_self)) (fun _ h9 => h9) hdg (k.go ha)
      · cases h
    · cases h
  · cases h
theorem sn_ldcI2 (hx : p.tables.exec = Jvm.exec) (hb : c.code = cc) (ha : At_ s.heap L D cA A nL H locs ls pl μ) (hown : s.vm.findClass own = some m.cls) (hts : ∀ w ∈ lwG, w.before args s = true) (hpf : PF own pool) {ix : Nat} (hdg : decode cc pc = .ok (.ldc ix, 2)) (h : ldcI pool pc 2 ix pl st μ = some (.inl (pc', pl', st', μ'))) (k : Kt p l e R s m args below meth c s.heap cells slots Q L D cA A nL pc' pl' st' μ') : Wg p l e R s m args below meth c H locs cells slots Q L pc ls st := by
  obtain ⟨hok, hw, -⟩ := hpf ix
  unfold ldcI at h
  split at h
  · rename_i v he
    rw [he] at hw
    obtain ⟨rfl, rfl, rfl, rfl⟩ := nx_inv h
    exact lv_ldc hx hb hown (hts _ (hw _ List.mem_cons_self)) hdg (k.go ha)
  · cases h
theorem sn_ldcI3 (hx : p.tables.exec = Jvm.exec) (hb : c.code = cc) (ha : At_ s.heap L D cA A nL H locs ls pl μ) (hown : s.vm.findClass own = some m.cls) (hts : ∀ w ∈ lwG, w.before args s = true) (hpf : PF own pool) {ix : Nat} (hdg : decode cc pc = .ok (.ldc_w ix, 3)) (h : ldcI pool pc 3 ix pl st μ = some (.inl (pc', pl', st', μ'))) (k : Kt p l e R s m args below meth c s.heap cells slots Q L D cA A nL pc' pl' st' μ') : Wg p l e R s m args below meth c H locs cells slots Q L pc ls st := by
  obtain ⟨hok, hw, -⟩ := hpf ix
  unfold ldcI at h
  split at h
  · rename_i v he
    rw [he] at hw
    obtain ⟨rfl, rfl, rfl, rfl⟩ := nx_inv h
    exact lv_ldcw hx hb hown (hts _ (hw _ List.mem_cons_self)) hdg (k.go ha)
  · cases h
theorem sn_ldc2 (hx : p.tables.exec = Jvm.exec) (hb : c.code = cc) (ha : At_ s.heap L D cA A nL H locs ls pl μ) (hown : s.vm.findClass own = some m.cls) (hts : ∀ w ∈ lwG, w.before args s = true) (hpf : PF own pool) {ix : Nat} (hdg : decode cc pc = .ok (.ldc2_w ix, 3)) (h : ldc2 pool pc ix pl st μ = some (.inl (pc', pl', st', μ'))) (k : Kt p l e R s m args below meth c s.heap cells slots Q L D cA A nL pc' pl' st' μ') : Wg p l e R s m args below meth c H locs cells slots Q L pc ls st := by
  obtain ⟨hok, hw, -⟩ := hpf ix
  unfold ldc2 at h
  split at h
  · rename_i v he
    rw [he] at hw
    obtain ⟨rfl, rfl, rfl, rfl⟩ := nx_inv h
    exact lv_ldc2 hx hb hown (hts _ (hw _ List.mem_cons_self)) hdg (k.go ha)
  · rename_i v he
    rw [he] at hw
    obtain ⟨rfl, rfl, rfl, rfl⟩ := nx_inv h
    exact lv_ldc2d hx hb hown (hts _ (hw _ List.mem_cons_self)) hdg (k.go ha)
  · cases h
theorem sn_gst (hx : p.tables.exec = Jvm.exec) (hb : c.code = cc) (ha : At_ s.heap L D cA A nL H locs ls pl μ) (hown : s.vm.findClass own = some m.cls) (hts : ∀ w ∈ lwG, w.before args s = true) (hF : SF L A s s.heap) (hpf : PF own pool) {ix : Nat} (hdg : decode cc pc = .ok (.getstatic ix, 3)) (h : gst pool pc ix pl st μ = some (.inl (pc', pl', st', μ'))) (k : Kt p l e R s m args below meth c s.heap cells slots Q L D cA A nL pc' pl' st' μ') : Wg p l e R s m args below meth c H locs cells slots Q L pc ls st := by
  obtain ⟨hok, hw, hn⟩ := hpf ix
  unfold gst at h
  split at h
  · rename_i kk a b he
    rw [he] at hok hw
    simp only [entOK, decide_eq_true_eq] at hok
    obtain ⟨rfl, rfl, rfl, rfl⟩ := nx_inv h
    rcases hok with rfl | rfl | rfl
    · exact va_gets hx hb hF.1.1.1 ha.2.2.2 hown (hts _ (hw _ List.mem_cons_self)) (fun _ h9 => h9) hdg (k.go ha)
    · exact va_gets hx hb hF.1.2.1.1 ha.2.2.2 hown (hts _ (hw _ List.mem_cons_self)) (fun _ h9 => h9) hdg (k.go ha)
    · exact va_gets hx hb hF.1.2.2.2 ha.2.2.2 hown (hts _ (hw _ List.mem_cons_self)) (fun _ h9 => h9) hdg (k.go ha)
  · rename_i kk a b he
    rw [he] at hn
    obtain ⟨e1, e2, e3⟩ := hn.1 rfl
    simp only at e3
    subst e1; subst e2; subst e3
    obtain ⟨rfl, rfl, rfl, rfl⟩ := nx_inv h
    exact va_getsN hx hb hF.1.2.2.1.1 ha.2.2.2 hown (va_Nw.use rfl hF.2.2.1.2.2) (fun _ h9 => h9) hdg (k.go ha)
  · cases h
theorem sn_ifa (hx : p.tables.exec = Jvm.exec) (hb : c.code = cc) (ha : At_ s.heap L D cA A nL H locs ls pl μ) (hF : SF L A s s.heap) {off : Int} (hdg : decode cc pc = .ok (.if_acmp .ne off, 3)) (h : ifa pc off pl st μ = some (.inl (pc', pl', st', μ'))) (k : Kt p l e R s m args below meth c s.heap cells slots Q L D cA A nL pc' pl' st' μ') : Wg p l e R s m args below meth c H locs cells slots Q L pc ls st := by
  unfold ifa at h
  split at h
  · rename_i y x r
    split at h
    · rename_i hc
      obtain ⟨i, hi, rfl⟩ := cls29 hc.1
      obtain ⟨j, hj, rfl⟩ := cls29 hc.2
      split at h
      · rename_i hne
        obtain ⟨ht, rfl, rfl, rfl⟩ := jp_inv h
        refine lv_acmp_ne (rx := some (L (410 + i))) (ry := some (L (410 + j))) hx hb hdg ht (fun _ => k.go ha) (fun q => ?_)
        exact absurd (congrArg (410 + ·) (hF.2.2.2 i j hi hj (Option.some.inj q))) hne
      · rename_i hne
        have he := Classical.not_not.mp hne
        obtain ⟨rfl, rfl, rfl, rfl⟩ := nx_inv h
        intro T hT X
        obtain ⟨t, a, b⟩ := k.go ha T hT X
        refine ⟨t, ?_, b⟩
        rw [he]
        show Steps p.tables e below (T.setTop (F0 m pc ls (.ref (L (410 + j)) :: .ref (L (410 + j)) :: r.map (lf L)))) t
        jvm_step X.here [X.here.top, hx, hb, hdg, Op.if_acmp.holds]
        exact ⟨_, rfl, _, rfl, by rw [if_pos rfl]; exact a⟩
    · cases h
  · cases h
theorem catS_lf (st : List Value) : ((st.map (lf L)).map fun v => v.category).sum = catS st := by
  unfold catS
  rw [List.map_map]
  congr 1
  apply List.map_congr_left
  intro v _
  cases v <;> rfl
theorem catS_cons (v : Value) (st : List Value) : catS (v :: st) = v.category + catS st := by simp [catS]
theorem nfw_ok : nativeFrameWords "java/lang/System" "arraycopy" 5 + 11 ≤ 60 := by decide +kernel
theorem sn_jdkS (hx : p.tables.exec = Jvm.exec) (hb : c.code = cc) (hml : c.maxLocals = nL) (ha : At_ s.heap L D cA A nL H locs ls pl μ) (hown : s.vm.findClass own = some m.cls) (hts : ∀ w ∈ lwG, w.before args s = true) (hK : va_K D vwCl (tyL cA) s) (hF : SF L A s s.heap) (hpf : PF own pool) (hRf : 8 ≤ R.frames) (hRl : 100 ≤ R.locals) (hcl : cells ≤ R.cells) (hsl : slots ≤ R.slots) {ix id : Nat} {z : Nat × Value} (he : pool ix = (5, id, z)) (hdg : decode cc pc = .ok (.invokestatic ix, 3)) (h : jdk id pc pl st μ = some (.inl (pc', pl', st', μ'))) (hid : id < 4) (k : Kt p l e R s m args below meth c s.heap cells slots Q L D cA A nL pc' pl' st' μ') : Wg p l e R s m args below meth c H locs cells slots Q L pc ls st := by
  obtain ⟨hok, hw, -⟩ := hpf ix
  rw [he] at hw
  obtain ⟨z1, z2⟩ := z
  have hml' : c.maxLocals = ls.size := by rw [hml]; exact ha.1.2.1.symm
  unfold jdk at h
  cases hcat : Nat.ble (catS st) 8
  · rw [hcat] at h; cases h
  · rw [hcat] at h
    simp only [cond_true] at h
    have hcat := Nat.ble_eq.mp hcat
    match id, hid, hw, h with
    | 0, _, hw, h =>
      unfold jdk0 at h
      simp only at h
      split at h
      · rename_i y x r
        obtain ⟨rfl, rfl, rfl, rfl⟩ := nx_inv h
        rw [catS_cons, catS_cons] at hcat
        exact va_mmax hx hb hml' hown (hts _ (hw _ List.mem_cons_self)) (hts _ (hw _ (List.mem_cons_of_mem _ List.mem_cons_self))) (hts _ (hw _ (List.mem_cons_of_mem _ (List.mem_cons_of_mem _ List.mem_cons_self)))) (hts _ (hw _ (List.mem_cons_of_mem _ (List.mem_cons_of_mem _ (List.mem_cons_of_mem _ List.mem_cons_self))))) (by omega) (by rw [catS_lf]; omega) hcl hsl hdg (k.go ha)
      · cases h
    | 1, _, hw, h =>
      unfold jdk0 at h
      simp only at h
      split at h
      · rename_i y x r
        obtain ⟨rfl, rfl, rfl, rfl⟩ := nx_inv h
        rw [catS_cons, catS_cons] at hcat
        exact va_mmin hx hb hml' hown (hts _ (hw _ List.mem_cons_self)) (hts _ (hw _ (List.mem_cons_of_mem _ List.mem_cons_self))) (hts _ (hw _ (List.mem_cons_of_mem _ (List.mem_cons_of_mem _ List.mem_cons_self)))) (hts _ (hw _ (List.mem_cons_of_mem _ (List.mem_cons_of_mem _ (List.mem_cons_of_mem _ List.mem_cons_self))))) (by omega) (by rw [catS_lf]; omega) hcl hsl hdg (k.go ha)
      · cases h
    | 2, _, hw, h =>
      unfold jdk0 at h
      simp only at h
      split at h
      · rename_i x r
        obtain ⟨rfl, rfl, rfl, rfl⟩ := nx_inv h
        rw [catS_cons] at hcat
        exact va_mabs hx hb hml' hown (hts _ (hw _ List.mem_cons_self)) (hts _ (hw _ (List.mem_cons_of_mem _ List.mem_cons_self))) (hts _ (hw _ (List.mem_cons_of_mem _ (List.mem_cons_of_mem _ List.mem_cons_self)))) (hts _ (hw _ (List.mem_cons_of_mem _ (List.mem_cons_of_mem _ (List.mem_cons_of_mem _ List.mem_cons_self))))) (by omega) (by rw [catS_lf]; omega) hcl hsl hdg (k.go ha)
      · cases h
    | 3, _, hw, h =>
      unfold jdk0 at h
      simp only at h
      split at h
      · rename_i n j bb i aa r _ _
        split at h
        · rename_i hc
          obtain ⟨c1, c2, c3, rfl, rfl, c4, c5, c6⟩ := hc
          have h9 : nx (pc + 3) pl r (cpI μ aa 0 bb 0 n.toNatClampNeg) = some (.inl (pc', pl', st', μ')) := by assumption
          obtain ⟨rfl, rfl, rfl, rfl⟩ := nx_inv h9
          rw [catS_cons, catS_cons, catS_cons, catS_cons, catS_cons] at hcat
          have h1 := cls_in (μ := μ) (k := aa) (Or.inl (by rw [c1]; decide))
          have h2 := cls_in (μ := μ) (k := bb) (Or.inl (by rw [c2]; decide))
          have hnf := nfw_ok
          refine va_copyi (f := mI μ aa) (g := mI μ bb) hx hb hml' hown (hts _ (hw _ List.mem_cons_self)) (hts _ (hw _ (List.mem_cons_of_mem _ List.mem_cons_self))) (hts _ (hw _ (List.mem_cons_of_mem _ (List.mem_cons_of_mem _ List.mem_cons_self)))) (hts _ (hw _ (List.mem_cons_of_mem _ (List.mem_cons_of_mem _ (List.mem_cons_of_mem _ List.mem_cons_self))))) hK ha.2.1 ha.2.2.1 ha.2.2.2 (ixN aa) (ixN bb) 0 0 ((WS_get h1).trans (congrArg _ (congrArg _ (entW_ints (Or.inl c1))))) ((WS_get h2).trans (congrArg _ (congrArg _ (entW_ints (Or.inl c2))))) rfl rfl rfl (by decide) (by decide) c4 (by show 0 + _ ≤ _; omega) (by show 0 + _ ≤ _; omega) (fun _ _ => rfl) (by omega) (by rw [catS_lf]; omega) hdg (fun H1 locs1 hP hD hS => ?_)
          have eI : mI (cpI μ aa 0 bb 0 n.toNatClampNeg) bb = va_cpy (mI μ aa) (mI μ bb) 0 0 n.toNatClampNeg := by
            funext q
            have e1 : Nat.beq bb bb = true := Nat.beq_refl bb
            simp only [mI, cpI, va_cpy, e1, Bool.true_and]
            by_cases hq : q < n.toNatClampNeg
            · have e2 : Nat.ble 0 q = true := Nat.ble_eq.mpr (Nat.zero_le q)
              have e3 : Nat.blt q (0 + n.toNatClampNeg) = true := Nat.blt_eq.mpr (by omega)
              rw [e2, e3]
              simp [hq]
            · have e3 : Nat.blt q (0 + n.toNatClampNeg) = false := by
                cases hb : Nat.blt q (0 + n.toNatClampNeg)
                · rfl
                · have := Nat.blt_eq.mp hb; omega
              rw [e3]
              simp [hq]
          have eO : ∀ i, i ≠ bb → mI (cpI μ aa 0 bb 0 n.toNatClampNeg) i = mI μ i := by
            intro i hi
            funext q
            have e1 : Nat.beq i bb = false := by
              cases hb : Nat.beq i bb
              · rfl
              · exact absurd (Nat.eq_of_beq_eq_true hb) hi
            simp only [mI, cpI, e1, Bool.false_and, cond_false]
          have e9 : (WS L cA μ).set (ixN bb) (L bb, .inl (cA 20, len bb, .inl (va_cpy (mI μ aa) (mI μ bb) 0 0 n.toNatClampNeg))) = WS L cA (cpI μ aa 0 bb 0 n.toNatClampNeg) :=
            WS_set h2.fx rfl (by rw [entW_ints (Or.inl c2), eI]) (fun i hi => entW_congr (eO i hi) rfl)
          change va_P D vwCl ((WS L cA μ).set (ixN bb) (L bb, .inl (cA 20, len bb, .inl (va_cpy (mI μ aa) (mI μ bb) 0 0 n.toNatClampNeg)))) H1 at hP
          change va_D A ((WS L cA μ).set (ixN bb) (L bb, .inl (cA 20, len bb, .inl (va_cpy (mI μ aa) (mI μ bb) 0 0 n.toNatClampNeg)))) at hD
          rw [e9] at hP hD
          exact k _ _ _ ha.1 hP hD hS
        · cases h
      · cases h
theorem P_keep {H1 : Heap} (hP : va_P D vwCl (WS L cA μ) H) (hk : ∀ q : Nat, q < H.size → H1[q]? = H[q]?) : va_P D vwCl (WS L cA μ) H1 := hP.kept fun k q hq => hk q.1 ((hP k q hq).lt)
theorem Kt.at1 {N0 : Nat} (k : Kt p l e R s m args below meth c s.heap cells slots Q L D cA (jA N0) nL pc' pl' st' μ') (ha : At_ s.heap L D cA (jA N0) nL H locs ls pl' μ') {H1 : Heap} (hz : H.size ≤ H1.size) (hk : ∀ q : Nat, q < H.size → H1[q]? = H[q]?) : W p l e R s m args below meth c H1 locs cells slots Q (F0 m pc' ls (st'.map (lf L))) :=
  k ls H1 locs ha.1 (P_keep ha.2.1 hk) ha.2.2.1 (jS ha.2.2.2 hz hk)
theorem sn_jdkV {N0 : Nat} (hx : p.tables.exec = Jvm.exec) (hb : c.code = cc) (hml : c.maxLocals = nL) (ha : At_ s.heap L D cA (jA N0) nL H locs ls pl μ) (hown : s.vm.findClass own = some m.cls) (hts : ∀ w ∈ lwG, w.before args s = true) (hF : SF L (jA N0) s s.heap) (hpf : PF own pool) (hRf : 8 ≤ R.frames) (hRl : 200 ≤ R.locals) (hcl : cells ≤ R.cells) (hsl : slots ≤ R.slots) {ix id : Nat} {z : Nat × Value} (he : pool ix = (13, id, z)) (hdg : decode cc pc = .ok (.invokevirtual ix, 3)) (h : jdk id pc pl st μ = some (.inl (pc', pl', st', μ'))) (hid : 5 ≤ id) (k : Kt p l e R s m args below meth c s.heap cells slots Q L D cA (jA N0) nL pc' pl' st' μ') : Wg p l e R s m args below meth c H locs cells slots Q L pc ls st := by
  obtain ⟨hok, hw, -⟩ := hpf ix
  rw [he] at hw
  obtain ⟨z1, z2⟩ := z
  have hml' : c.maxLocals = ls.size := by rw [hml]; exact ha.1.2.1.symm
  unfold jdk at h
  cases hcat : Nat.ble (catS st) 8
  · rw [hcat] at h; cases h
  · rw [hcat] at h
    simp only [cond_true] at h
    have hcat := Nat.ble_eq.mp hcat
    match id, hid, hw, h with
    | 5, _, hw, h =>
      unfold jdk0 at h
      simp only at h
      split at h
      · rename_i q r _ _
        split at h
        · rename_i hc
          obtain ⟨rfl, rfl, rfl, rfl⟩ := nx_inv h
          obtain ⟨i, hi, rfl⟩ := cls30 hc
          obtain ⟨v, f1, -⟩ := hF.2.1.2.1 i hi
          exact j_V (n := 0) (k := 1) (maxL := 1) (C := "java/lang/String") (As := []) (b := L (420 + i)) (rest := r.map (lf L)) hx hb hml' hown hts hF ha.2.2.2 (c_length hi) f1 jT_call (fun _ _ _ => trivial) (hw _ List.mem_cons_self) jw_inst_length jw_sel_length jw_ini_S jw_code_length ⟨rfl, by decide, by decide, by decide +kernel⟩ rfl (by omega) (by omega) hcl hsl rfl (by rw [catS_lf]; simp only [catS_cons] at hcat; omega) hdg (fun H1 hz hk => k.at1 ha hz hk)
        · cases h
      · cases h
    | 6, _, hw, h =>
      unfold jdk0 at h
      simp only at h
      split at h
      · rename_i x q r _ _
        split at h
        · rename_i hc
          obtain ⟨rfl, rfl, rfl, rfl⟩ := nx_inv h
          obtain ⟨i, hi, rfl⟩ := cls30 hc.1
          obtain ⟨v, f1, -⟩ := hF.2.1.2.1 i hi
          have hin := hc.2
          rw [show 420 + i - 420 = i by omega] at hin
          have hv := inb_in hin
          exact j_V (n := 1) (k := 3) (maxL := 2) (C := "java/lang/String") (As := [.int x]) (b := L (420 + i)) (rest := r.map (lf L)) hx hb hml' hown hts hF ha.2.2.2 (c_charAt hi (fun z => hv (Or.inl z)) (inb_lt hin)) f1 jT_call (fun _ _ _ => trivial) (hw _ List.mem_cons_self) jw_inst_charAt jw_sel_charAt jw_ini_S jw_code_charAt ⟨rfl, by decide, by decide, by decide +kernel⟩ rfl (by omega) (by omega) hcl hsl rfl (by rw [catS_lf]; simp only [catS_cons] at hcat; omega) hdg (fun H1 hz hk => k.at1 ha hz hk)
        · cases h
      · cases h
    | 7, _, hw, h =>
      unfold jdk0 at h
      simp only at h
      split at h
      · rename_i q r _ _
        split at h
        · rename_i hc
          obtain ⟨rfl, rfl, rfl, rfl⟩ := nx_inv h
          obtain ⟨j, hj, rfl⟩ := cls29 hc
          obtain ⟨f1, -, -, -⟩ := hF.2.1.1 j hj
          have e9 : Int32.ofNat (410 + j - 410) = Int32.ofNat j := by rw [show 410 + j - 410 = j by omega]
          rw [e9] at k
          refine j_call (v := some (.int (Int32.ofNat j))) (rest := r.map (lf L)) (va_runU (Ts := lwG) (x := jy_kord) (y := jy_ordinal) (owner := "java/lang/Enum") (C := "OrganCorners$OrderKind") (b := L (410 + j)) (As := []) (n := 0) ⟨hx, hb, hml', hown, hts⟩ (c_ordinal (l := l) (N0 := N0) (L := L) hj) (va_cwU 0 hts (lwG_in fun w hw9 => ?_) rfl rfl rfl rfl ⟨by decide, by decide, by decide +kernel⟩ ⟨by show 0 + 1 ≤ _; omega, by show 8 + (1 + 11) + 40 * 0 ≤ _; omega⟩) ⟨?_, ?_, ?_⟩ rfl rfl rfl rfl (by show 2 * 0 + _ ≤ _; rw [catS_lf]; simp only [catS_cons] at hcat; omega) hdg ⟨hcl, hsl⟩) (fun H1 hz hk => k.at1 ha hz hk)
          · unfold va_wsU at hw9
            simp only [List.cons_append, List.nil_append, List.mem_cons] at hw9
            rcases hw9 with rfl | rfl | rfl | rfl | rfl | rfl | h9
            · exact hw _ List.mem_cons_self
            · exact jw_same
            · exact jw_sel_ord
            · exact jw_inst_ordinal
            · exact jw_ini_EN
            · exact jw_code_ordinal
            · exact h9
          · intro a U g mk ⟨h1, h2, h3⟩
            exact ⟨h1, SF.call h2, trivial⟩
          · obtain ⟨cell, g1, g2, g3, g4⟩ := f1
            refine ⟨cell, ?_, g2, g3⟩
            rw [ha.2.2.2.2.1 _ (Array.getElem?_eq_some_iff.mp g1).1 g4]; exact g1
          · intro U hU hW
            exact ⟨rfl, hF.at ha.2.2.2 hU hW, trivial⟩
        · cases h
      · cases h
    | n + 8, _, hw, h => cases h
end SIM3
end
section
/-! EVERY STEP OF THE PURE INTERPRETER IS A STEP OF THE MACHINE (wip/p32/genstep.py) -/
section STEP
variable {p : Program} {l : Launch} {e : Env} {R : Room} {s : State} {m : MethodId} {args : Array Value} {below : List Frame} {meth : Method} {c : Code} {H H0 : Heap} {locs : List Loc} {cells slots : Nat} {Q : State → Prop} {nL : Nat}
variable {N0 : Nat} {L : Nat → Nat} {D : va_G} {cA : Nat → ClassId} {pc pc' : Nat} {ls : Array Slot} {pl pl' st st' : List Value} {μ μ' μ0 : PM}
/-- a method's body, from its start s on -/
def Ctx (p : Program) (s : State) (m : MethodId) (args : Array Value) (meth : Method) (c : Code) (N0 : Nat) (L : Nat → Nat) (D : va_G) (cA : Nat → ClassId) (n : Nat) (μ0 : PM) : Prop :=
  p.tables.exec = Jvm.exec ∧ c.code = (mrec n).2.1 ∧ c.maxLocals = mxl n ∧ meth.sig.returnType = (mrec n).2.2.1 ∧ meth.locks = false ∧ s.vm.findClass (yN n).cls = some m.cls ∧ (∀ w ∈ lwG, w.before args s = true) ∧ c.exceptionTable.toList = tableOf (mrec n).2.2.2 ∧
  va_K D vwCl (tyL cA) s ∧ SF L (jA N0) s s.heap ∧ va_X (L 390) μ0.2.2.1 (mI μ0 390) s s.heap ∧ L 390 < N0
theorem ivS_inl {pl : Nat → Ent} {ix : Nat} {ls st : List Value} {s' : PS} (h : ivS pl pc ix ls st μ = some (.inl s')) : ∃ id z, pl ix = (5, id, z) ∧ id < 5 ∧ jdk id pc ls st μ = some (.inl s') := by
  unfold ivS at h
  split at h
  · rename_i n na _ _
    cases hq : Nat.ble na st.length && Nat.ble (catS (st.drop na)) 8 <;> rw [hq] at h <;> cases h
  · rename_i n na _ _
    cases hq : Nat.ble na st.length && Nat.ble (catS (st.drop na)) 8 <;> rw [hq] at h <;> cases h
  · rename_i id a b he
    cases hq : Nat.blt id 5 <;> rw [hq] at h
    · cases h
    · exact ⟨id, (a, b), he, Nat.blt_eq.mp hq, h⟩
  · cases h
theorem ivV_inl {pl : Nat → Ent} {ix : Nat} {ls st : List Value} {s' : PS} (h : ivV pl pc ix ls st μ = some (.inl s')) : ∃ id z, pl ix = (13, id, z) ∧ 5 ≤ id ∧ jdk id pc ls st μ = some (.inl s') := by
  unfold ivV at h
  split at h
  · split at h
    · rename_i n na ci _ _ k _
      cases hq : Nat.ble (catS (st.drop na)) 8 <;> rw [hq] at h
      · cases h
      · simp only [cond_true] at h
        split at h <;> cases h
    · cases h
  · rename_i id a b he
    cases hq : Nat.ble 5 id <;> rw [hq] at h
    · cases h
    · exact ⟨id, (a, b), he, Nat.ble_eq.mp hq, h⟩
  · cases h
theorem irt_ni {rt : Nat} {s' : PS} (h : irt rt st μ = some (.inl s')) : False := by
  unfold irt at h
  split at h
  · split at h
    · cases h
    · split at h <;> cases h
    · cases h
  · cases h
theorem jrt_ni {rt : Nat} {s' : PS} (h : jrt rt st μ = some (.inl s')) : False := by
  unfold jrt at h
  split at h <;> cases h
theorem drt_ni {rt : Nat} {s' : PS} (h : drt rt st μ = some (.inl s')) : False := by
  unfold drt at h
  split at h <;> cases h
theorem art_ni {rt : Nat} {s' : PS} (h : art rt st μ = some (.inl s')) : False := by
  unfold art at h
  split at h <;> cases h
theorem vrt_ni {rt : Nat} {s' : PS} (h : vrt rt st μ = some (.inl s')) : False := by
  unfold vrt at h
  split at h <;> cases h
set_option maxHeartbeats 4000000 in
theorem sim_step {n : Nat} {M : MI} {i : Instr} {ln : Nat} (cx : Ctx p s m args meth c N0 L D cA n μ0) (hM : mtab n = some M) (hlk : lk2 M.1 pc = some (i, ln)) (h : pex M i ln pc pl st μ = some (.inl (pc', pl', st', μ'))) (hnw : i ≠ .newarray .int) (hsc : Sc μ0 μ) (hRf : 8 ≤ R.frames) (hRl : 200 ≤ R.locals) (hcl : cells ≤ R.cells) (hsl : slots ≤ R.slots) (hnL : nL = mxl n) (ha : At_ s.heap L D cA (jA N0) nL H locs ls pl μ)
    (k : Kt p l e R s m args below meth c s.heap cells slots Q L D cA (jA N0) nL pc' pl' st' μ') : Wg p l e R s m args below meth c H locs cells slots Q L pc ls st := by
  obtain ⟨hx, hb, hml, hr, hlocks, hown, hts, htab, hK, hF, hX, hXN⟩ := cx
  obtain ⟨hdc, hpf, -, -, -⟩ := mok hM
  obtain ⟨hdg, hl⟩ := hdc.at hlk
  have hml : c.maxLocals = nL := by rw [hml, hnL]
  have hX : va_X (L 390) μ.2.2.1 (mI μ 390) s s.heap := by rw [hsc.1, hsc.2]; exact hX
  have hXA : ¬ jA N0 (L 390) := Nat.not_le.mpr hXN
  cases i with
  | aaload => have q := Nat.eq_of_beq_eq_true hl; subst q; exact sn_aald hx hb ha hK hF hdg h k
  | aconst_null => have q := Nat.eq_of_beq_eq_true hl; subst q; exact sn_aconst_null hx hb ha hdg h k
  | aload a => have q := Nat.eq_of_beq_eq_true hl; subst q; exact sn_aload hx hb ha hdg h k
  | aload_n a => have q := Nat.eq_of_beq_eq_true hl; subst q; exact sn_aload_n hx hb ha hdg h k
  | astore a => have q := Nat.eq_of_beq_eq_true hl; subst q; exact sn_astore hx hb ha hdg h k
  | astore_n a => have q := Nat.eq_of_beq_eq_true hl; subst q; exact sn_astore_n hx hb ha hdg h k
  | bipush a => have q := Nat.eq_of_beq_eq_true hl; subst q; exact sn_bipush hx hb ha hdg h k
  | dload a => have q := Nat.eq_of_beq_eq_true hl; subst q; exact sn_dload hx hb ha hdg h k
  | dload_n a => have q := Nat.eq_of_beq_eq_true hl; subst q; exact sn_dload_n hx hb ha hdg h k
  | dstore a => have q := Nat.eq_of_beq_eq_true hl; subst q; exact sn_dstore hx hb ha hdg h k
  | dstore_n a => have q := Nat.eq_of_beq_eq_true hl; subst q; exact sn_dstore_n hx hb ha hdg h k
  | iconst a => have q := Nat.eq_of_beq_eq_true hl; subst q; exact sn_iconst hx hb ha hdg h k
  | iload a => have q := Nat.eq_of_beq_eq_true hl; subst q; exact sn_iload hx hb ha hdg h k
  | iload_n a => have q := Nat.eq_of_beq_eq_true hl; subst q; exact sn_iload_n hx hb ha hdg h k
  | istore a => have q := Nat.eq_of_beq_eq_true hl; subst q; exact sn_istore hx hb ha hdg h k
  | istore_n a => have q := Nat.eq_of_beq_eq_true hl; subst q; exact sn_istore_n hx hb ha hdg h k
  | lconst a => have q := Nat.eq_of_beq_eq_true hl; subst q; exact sn_lconst hx hb ha hdg h k
  | lload a => have q := Nat.eq_of_beq_eq_true hl; subst q; exact sn_lload hx hb ha hdg h k
  | lload_n a => have q := Nat.eq_of_beq_eq_true hl; subst q; exact sn_lload_n hx hb ha hdg h k
  | lstore a => have q := Nat.eq_of_beq_eq_true hl; subst q; exact sn_lstore hx hb ha hdg h k
  | lstore_n a => have q := Nat.eq_of_beq_eq_true hl; subst q; exact sn_lstore_n hx hb ha hdg h k
  | sipush a => have q := Nat.eq_of_beq_eq_true hl; subst q; exact sn_sipush hx hb ha hdg h k
  | goto a => have q := Nat.eq_of_beq_eq_true hl; subst q; exact sn_goto hx hb ha hdg h k
  | ifnonnull a => have q := Nat.eq_of_beq_eq_true hl; subst q; exact sn_ifnonnull hx hb ha hdg h k
  | ifnull a => have q := Nat.eq_of_beq_eq_true hl; subst q; exact sn_ifnull hx hb ha hdg h k
  | d2l => have q := Nat.eq_of_beq_eq_true hl; subst q; exact sn_d2l hx hb ha hdg h k
  | ddiv => have q := Nat.eq_of_beq_eq_true hl; subst q; exact sn_ddiv hx hb ha hdg h k
  | dmul => have q := Nat.eq_of_beq_eq_true hl; subst q; exact sn_dmul hx hb ha hdg h k
  | dsub => have q := Nat.eq_of_beq_eq_true hl; subst q; exact sn_dsub hx hb ha hdg h k
  | dup => have q := Nat.eq_of_beq_eq_true hl; subst q; exact sn_dup hx hb ha hdg h k
  | dup2 => have q := Nat.eq_of_beq_eq_true hl; subst q; exact sn_dup2 hx hb ha hdg h k
  | i2d => have q := Nat.eq_of_beq_eq_true hl; subst q; exact sn_i2d hx hb ha hdg h k
  | i2l => have q := Nat.eq_of_beq_eq_true hl; subst q; exact sn_i2l hx hb ha hdg h k
  | iadd => have q := Nat.eq_of_beq_eq_true hl; subst q; exact sn_iadd hx hb ha hdg h k
  | iand => have q := Nat.eq_of_beq_eq_true hl; subst q; exact sn_iand hx hb ha hdg h k
  | idiv => have q := Nat.eq_of_beq_eq_true hl; subst q; exact sn_idiv hx hb ha hdg h k
  | imul => have q := Nat.eq_of_beq_eq_true hl; subst q; exact sn_imul hx hb ha hdg h k
  | ineg => have q := Nat.eq_of_beq_eq_true hl; subst q; exact sn_ineg hx hb ha hdg h k
  | ior => have q := Nat.eq_of_beq_eq_true hl; subst q; exact sn_ior hx hb ha hdg h k
  | irem => have q := Nat.eq_of_beq_eq_true hl; subst q; exact sn_irem hx hb ha hdg h k
  | ishl => have q := Nat.eq_of_beq_eq_true hl; subst q; exact sn_ishl hx hb ha hdg h k
  | ishr => have q := Nat.eq_of_beq_eq_true hl; subst q; exact sn_ishr hx hb ha hdg h k
  | iushr => have q := Nat.eq_of_beq_eq_true hl; subst q; exact sn_iushr hx hb ha hdg h k
  | isub => have q := Nat.eq_of_beq_eq_true hl; subst q; exact sn_isub hx hb ha hdg h k
  | ixor => have q := Nat.eq_of_beq_eq_true hl; subst q; exact sn_ixor hx hb ha hdg h k
  | l2d => have q := Nat.eq_of_beq_eq_true hl; subst q; exact sn_l2d hx hb ha hdg h k
  | l2i => have q := Nat.eq_of_beq_eq_true hl; subst q; exact sn_l2i hx hb ha hdg h k
  | ladd => have q := Nat.eq_of_beq_eq_true hl; subst q; exact sn_ladd hx hb ha hdg h k
  | lcmp => have q := Nat.eq_of_beq_eq_true hl; subst q; exact sn_lcmp hx hb ha hdg h k
  | lmul => have q := Nat.eq_of_beq_eq_true hl; subst q; exact sn_lmul hx hb ha hdg h k
  | lrem => have q := Nat.eq_of_beq_eq_true hl; subst q; exact sn_lrem hx hb ha hdg h k
  | lshl => have q := Nat.eq_of_beq_eq_true hl; subst q; exact sn_lshl hx hb ha hdg h k
  | lsub => have q := Nat.eq_of_beq_eq_true hl; subst q; exact sn_lsub hx hb ha hdg h k
  | pop => have q := Nat.eq_of_beq_eq_true hl; subst q; exact sn_pop hx hb ha hdg h k
  | dcmp a => have q := Nat.eq_of_beq_eq_true hl; subst q; exact sn_dcmp hx hb ha hdg h k
  | dconst a =>
    have q := Nat.eq_of_beq_eq_true hl; subst q
    match a, hdg, h with
    | 0, hdg, h => exact sn_dconst0 hx hb ha hdg h k
    | 1, hdg, h => exact sn_dconst1 hx hb ha hdg h k
  | arraylength => have q := Nat.eq_of_beq_eq_true hl; subst q; exact sn_alen hx hb ha hK hF hX hXA hdg h k
  | iaload => have q := Nat.eq_of_beq_eq_true hl; subst q; exact sn_iald hx hb ha hK hF hX hXA hdg h k
  | iastore => have q := Nat.eq_of_beq_eq_true hl; subst q; exact sn_iast hx hb ha hK hdg h k
  | laload => have q := Nat.eq_of_beq_eq_true hl; subst q; exact (no21L h).elim
  | lastore => have q := Nat.eq_of_beq_eq_true hl; subst q; exact (no21S h).elim
  | getfield ix => have q := Nat.eq_of_beq_eq_true hl; subst q; exact sn_get hx hb ha hown hts hK hF hpf hdg h k
  | putfield ix => have q := Nat.eq_of_beq_eq_true hl; subst q; exact sn_put hx hb ha hown hts hK hpf hdg h k
  | getstatic ix => have q := Nat.eq_of_beq_eq_true hl; subst q; exact sn_gst hx hb ha hown hts hF hpf hdg h k
  | ldc ix => have q := Nat.eq_of_beq_eq_true hl; subst q; exact sn_ldcI2 hx hb ha hown hts hpf hdg h k
  | ldc_w ix => have q := Nat.eq_of_beq_eq_true hl; subst q; exact sn_ldcI3 hx hb ha hown hts hpf hdg h k
  | ldc2_w ix => have q := Nat.eq_of_beq_eq_true hl; subst q; exact sn_ldc2 hx hb ha hown hts hpf hdg h k
  | iinc a b => have q := Nat.eq_of_beq_eq_true hl; subst q; exact sn_iinc hx hb ha hdg h k
  | ifCond a off =>
    have q := Nat.eq_of_beq_eq_true hl; subst q
    cases a with
    | eq => exact sn_if_eq hx hb ha hdg h k
    | ne => exact sn_if_ne hx hb ha hdg h k
    | lt => exact sn_if_lt hx hb ha hdg h k
    | ge => exact sn_if_ge hx hb ha hdg h k
    | gt => exact sn_if_gt hx hb ha hdg h k
    | le => exact sn_if_le hx hb ha hdg h k
  | if_icmp a off =>
    have q := Nat.eq_of_beq_eq_true hl; subst q
    cases a with
    | eq => exact sn_icmp_eq hx hb ha hdg h k
    | ne => exact sn_icmp_ne hx hb ha hdg h k
    | lt => exact sn_icmp_lt hx hb ha hdg h k
    | ge => exact sn_icmp_ge hx hb ha hdg h k
    | gt => exact sn_icmp_gt hx hb ha hdg h k
    | le => exact sn_icmp_le hx hb ha hdg h k
  | if_acmp a off =>
    have q := Nat.eq_of_beq_eq_true hl; subst q
    cases a with
    | ne => exact sn_ifa hx hb ha hF hdg h k
    | _ => exact nomatch (show (none : Option SR) = some _ from h)
  | tableswitch a b d f => exact sn_tsw hx hb ha hdg h k
  | lookupswitch a b => exact sn_lsw hx hb ha hdg h k
  | invokestatic ix =>
    have q := Nat.eq_of_beq_eq_true hl; subst q
    obtain ⟨id, z, he, hid, hj⟩ := ivS_inl (show ivS M.2.1 pc ix pl st μ = some (.inl (pc', pl', st', μ')) from h)
    have h4 := (hpf ix).1
    rw [he] at h4
    have h4 := Nat.blt_eq.mp h4
    exact sn_jdkS hx hb hml ha hown hts hK hF hpf hRf (by omega) hcl hsl he hdg hj h4 k
  | invokevirtual ix =>
    have q := Nat.eq_of_beq_eq_true hl; subst q
    obtain ⟨id, z, he, hid, hj⟩ := ivV_inl (show ivV M.2.1 pc ix pl st μ = some (.inl (pc', pl', st', μ')) from h)
    exact sn_jdkV hx hb hml ha hown hts hF hpf hRf hRl hcl hsl he hdg hj hid k
  | new ix => exact (thr_sc (show thr M.1 M.2.1 pc ix st μ = some (.inl (pc', pl', st', μ')) from h)).elim
  | newarray a =>
    cases a with
    | int => exact absurd rfl hnw
    | _ => exact nomatch (show (none : Option SR) = some _ from h)
  | areturn => exact (art_ni (show art M.2.2.1 st μ = some (.inl (pc', pl', st', μ')) from h)).elim
  | dreturn => exact (drt_ni (show drt M.2.2.1 st μ = some (.inl (pc', pl', st', μ')) from h)).elim
  | ireturn => exact (irt_ni (show irt M.2.2.1 st μ = some (.inl (pc', pl', st', μ')) from h)).elim
  | lreturn => exact (jrt_ni (show jrt M.2.2.1 st μ = some (.inl (pc', pl', st', μ')) from h)).elim
  | return_ => exact (vrt_ni (show vrt M.2.2.1 st μ = some (.inl (pc', pl', st', μ')) from h)).elim
  | _ => exact nomatch (show (none : Option SR) = some _ from h)
end STEP
end
section
/-! CALLS AND ENDS: a run of the pure interpreter is a run of the machine -/
section MET
variable {p : Program} {l : Launch} {e : Env} {R : Room} {s : State} {m : MethodId} {args : Array Value} {below : List Frame} {meth : Method} {c : Code} {H H0 : Heap} {locs : List Loc} {cells slots : Nat} {Q : State → Prop} {nL : Nat}
variable {N0 : Nat} {L : Nat → Nat} {D : va_G} {cA : Nat → ClassId} {pc pc' : Nat} {ls : Array Slot} {pl pl' st st' : List Value} {μ μ' μ0 : PM} {n : Nat} {M : MI}
/-- where things lie: apart; arrays made on the way one behind another, behind the last that was there -/
def LD (N0 : Nat) (L : Nat → Nat) : Prop := (∀ i j, Fx i → Fx j → L i = L j → i = j) ∧ (∀ i, Fx i → N0 ≤ L i) ∧ (∀ i, L (430 + i) = L 430 + i) ∧ L 18 + 1 = L 430
theorem WS_D (h : LD N0 L) : va_D (jA N0) (WS L cA μ) := by
  refine ⟨fun i j x y hx hy hxy => ?_, fun k q hq => ?_⟩
  · obtain ⟨h1, rfl⟩ := WS_inv hx
    obtain ⟨h2, rfl⟩ := WS_inv hy
    exact nm_inj (h.1 _ _ h1.fx h2.fx hxy)
  · obtain ⟨h1, rfl⟩ := WS_inv hq
    exact h.2.1 _ h1.fx
def Wd (N0 : Nat) (L : Nat → Nat) (D : va_G) (cA : Nat → ClassId) (μ : PM) : State → Prop := fun U =>
  va_P D vwCl (WS L cA μ) U.heap ∧ va_K D vwCl (tyL cA) U ∧ SF L (jA N0) U U.heap ∧ va_X (L 390) μ.2.2.1 (mI μ 390) U U.heap ∧ U.heap.size ≤ L 430 + μ.2.2.2
theorem Wd.call {U : State} {g : JFrame} {mk : MethodId} {a : Array Value} (h : Wd N0 L D cA μ U) : Wd N0 L D cA μ (U.calling g mk a) :=
  ⟨h.1, va_K.moved (u := U) (U := U.calling g mk a) (Vm.Alike.refl U.vm) h.2.1, SF.call h.2.2.1, va_X.moved (u := U) (U := U.calling g mk a) (Vm.Alike.refl U.vm) h.2.2.2.1, h.2.2.2.2⟩
def QO (N0 : Nat) (L : Nat → Nat) (D : va_G) (cA : Nat → ClassId) (o : PO) : Array Value → State → Outcome → State → Prop := fun _ st oc t => (∃ v, o.1 = .inl v ∧ oc = .returned (v.map (lf L)) ∧ va_P D vwCl (WS L cA o.2) t.heap) ∧ va_F (jA N0) st t
def XO (N0 : Nat) (L : Nat → Nat) (D : va_G) (cA : Nat → ClassId) (o : PO) : String → State → State → Prop := fun E st t => (∃ k, o.1 = .inr k ∧ E = exn k ∧ va_P D vwCl (WS L cA o.2) t.heap) ∧ va_F (jA N0) st t
def rmL (lv d : Nat) : Room := { frames := 12 + lv, cells := d, slots := 30 * d, locals := 260 + 60 * lv }
abbrev MetO (l : Launch) (N0 : Nat) (L : Nat → Nat) (D : va_G) (cA : Nat → ClassId) (n lv : Nat) (as : List Value) (μ : PM) (o : PO) : Prop :=
  vx_Met l (yN n) (cwN n :: lwG) (rmL lv (o.2.2.2.2 - μ.2.2.2)) (va_Pc (as.map (lf L)) (Wd N0 L D cA μ)) (QO N0 L D cA o) (XO N0 L D cA o) (o.2.2.2.2 - μ.2.2.2) (30 * (o.2.2.2.2 - μ.2.2.2)) (jA N0)
/-- behind a call -/
theorem sim_call {o : PO} {a : Array Value} {st0 rest : List Value} {mc ms : Nat} (hr : vx_Run p l e R s m args below meth c H locs cells slots mc ms (F0 m pc ls st0) rest (QO N0 L D cA o a) (XO N0 L D cA o) (jA N0)) (hS : va_S (jA N0) s.heap H locs)
    (kI : ∀ (v : Option Value) (H1 : Heap) (locs1 : List Loc), o.1 = .inl v → va_P D vwCl (WS L cA o.2) H1 → va_S (jA N0) s.heap H1 locs1 → W p l e R s m args below meth c H1 locs1 (cells + mc) (slots + ms) Q (F0 m (pc + 3) ls ((v.map (lf L)).toList ++ rest)))
    (kX : ∀ (k : Nat) (H1 : Heap) (locs1 : List Loc) (q : Addr) (ce : Cell), o.1 = .inr k → va_P D vwCl (WS L cA o.2) H1 → va_S (jA N0) s.heap H1 locs1 → H1[q]? = some ce → ce.vm = .none → s.vm.findClass (exn k) = some ce.cls → vx_W p l e R s m args below meth c H1 locs1 (cells + mc) (slots + ms) Q (F0 m pc ls rest) q) :
    W p l e R s m args below meth c H locs cells slots Q (F0 m pc ls st0) := by
  intro T hT X
  rcases hr T hT X with ⟨v', st₀, t, T', L9, h0, X', hL, e1, e2, ⟨⟨v, ho, hv, hP⟩, hF⟩, st⟩ | ⟨q, st₀, t, T', L9, E, ce, h0, X', hL, e1, e2, ⟨⟨k, ho, hE, hP⟩, hF⟩, hc1, hc2, hc3, st⟩
  · obtain ⟨hz, hk, hS1⟩ := vx_keep (free := jA N0) h0 e1 hS (fun q _ h => h) (fun q h => h) hL hF
    cases hv
    obtain ⟨t2, a1, b1⟩ := kI v T'.heap (locs ++ L9) ho (by rw [e1]; exact hP) hS1 T' rfl X'
    exact ⟨t2, st t2 a1, b1⟩
  · obtain ⟨hz, hk, hS1⟩ := vx_keep (free := jA N0) h0 e1 hS (fun q _ h => h) (fun q h => h) hL hF
    subst hE
    obtain ⟨t2, a1, b1⟩ := kX k T'.heap (locs ++ L9) q ce ho (by rw [e1]; exact hP) hS1 (by rw [e1]; exact hc1) hc2 hc3 T' rfl X'
    exact ⟨t2, st.trans a1, b1⟩
theorem ivV_call {pl : Nat → Ent} {ix : Nat} {ls st as ls' st' : List Value} {d : Nat} (h : ivV pl pc ix ls st μ = some (.inr (.inl (d, as, pc', ls', st', μ')))) :
    ∃ na ci k, pl ix = (4, d, na, .ref ci) ∧ st[na - 1]? = some (.ref k) ∧ catS st' ≤ 8 ∧ cls k = ci ∧ as = (st.take na).reverse ∧ pc = pc' ∧ ls = ls' ∧ st' = st.drop na ∧ μ = μ' := by
  unfold ivV at h
  split at h
  · rename_i n na ci he
    split at h
    · rename_i k hk
      cases hq : Nat.ble (catS (st.drop na)) 8 <;> rw [hq] at h
      · cases h
      · simp only [cond_true] at h
        split at h
        · rename_i hc
          cases h
          exact ⟨na, ci, k, he, hk, Nat.ble_eq.mp hq, hc, rfl, rfl, rfl, rfl, rfl⟩
        · cases h
    · cases h
  · rename_i id _ _ _
    cases hq : Nat.ble 5 id <;> rw [hq] at h
    · cases h
    · exact (jdk_no h).elim
  · cases h
theorem ivS_call {pl : Nat → Ent} {ix : Nat} {ls st as ls' st' : List Value} {d : Nat} (h : ivS pl pc ix ls st μ = some (.inr (.inl (d, as, pc', ls', st', μ')))) :
    ∃ tg na z, (tg = 9 ∨ tg = 10) ∧ pl ix = (tg, d, na, z) ∧ na ≤ st.length ∧ catS st' ≤ 8 ∧ as = (st.take na).reverse ∧ pc = pc' ∧ ls = ls' ∧ st' = st.drop na ∧ μ = μ' := by
  unfold ivS at h
  split at h
  · rename_i n na z he
    cases hq : Nat.ble na st.length && Nat.ble (catS (st.drop na)) 8 <;> rw [hq] at h
    · cases h
    · rw [Bool.and_eq_true] at hq
      cases h
      exact ⟨9, na, z, Or.inl rfl, he, Nat.ble_eq.mp hq.1, Nat.ble_eq.mp hq.2, rfl, rfl, rfl, rfl, rfl⟩
  · rename_i n na z he
    cases hq : Nat.ble na st.length && Nat.ble (catS (st.drop na)) 8 <;> rw [hq] at h
    · cases h
    · rw [Bool.and_eq_true] at hq
      cases h
      exact ⟨10, na, z, Or.inr rfl, he, Nat.ble_eq.mp hq.1, Nat.ble_eq.mp hq.2, rfl, rfl, rfl, rfl, rfl⟩
  · rename_i id _ _ _
    cases hq : Nat.blt id 5 <;> rw [hq] at h
    · cases h
    · exact (jdk_no h).elim
  · cases h
theorem mxl_le : ∀ n, mxl n ≤ 20 := by
  intro n
  have key : (mtabs.all fun b => b.all fun M => Nat.ble M.2.2.2.1 20) = true := by decide +kernel
  unfold mxl
  cases h : mtab n with
  | none => exact Nat.zero_le _
  | some M =>
    show M.2.2.2.1 ≤ 20
    unfold mtab at h
    have h1 : M ∈ mtabs.getD (n / 16) [] := List.mem_of_getElem? h
    by_cases hq : n / 16 < mtabs.length
    · rw [List.getD_eq_getElem?_getD, List.getElem?_eq_getElem hq] at h1
      exact Nat.ble_eq.mp (List.all_eq_true.mp (List.all_eq_true.mp key _ (List.getElem_mem hq)) _ h1)
    · rw [List.getD_eq_getElem?_getD, List.getElem?_eq_none (Nat.le_of_not_lt hq)] at h1
      exact absurd h1 List.not_mem_nil
theorem cwN_code {d : Nat} {Md : MI} (h : mtab d = some Md) (ht : (mrec d).2.2.2.isEmpty = true) : cwN d = Cond.code (yN d) (mrec d).2.1 (mxl d) (mrec d).2.2.1 := by
  unfold cwN mxl
  rw [h]
  show cw_ Md (mrec d) = _
  unfold cw_
  rw [ht]; rfl
theorem cwN_with {d : Nat} {Md : MI} (h : mtab d = some Md) (ht : (mrec d).2.2.2.isEmpty = false) : cwN d = Cond.codeWith (yN d) (mrec d).2.1 (mxl d) (mrec d).2.2.1 (mrec d).2.2.2 := by
  unfold cwN mxl
  rw [h]
  show cw_ Md (mrec d) = _
  unfold cw_
  rw [ht]; rfl
theorem cw_in {d : Nat} (h : cwN d ∈ lwG) : GoodIn lwG (cwN d :: lwG) := lwG_in fun w hw => by
  rcases List.mem_cons.mp hw with rfl | h1
  · exact h
  · exact h1
theorem Wd.pre {U : State} (hK : va_K D vwCl (tyL cA) s) (hF : SF L (jA N0) s s.heap) (hX : va_X (L 390) μ.2.2.1 (mI μ 390) s s.heap) (hXN : L 390 < N0) (hP : va_P D vwCl (WS L cA μ) H) (hS : va_S (jA N0) s.heap H locs) (hz : H.size ≤ L 430 + μ.2.2.2) (hU : U.heap = H) (hW : s.WarmedH U.vm) : Wd N0 L D cA μ U := by
  refine ⟨by rw [hU]; exact hP, va_K.moved hW.alike hK, hF.at hS hU hW, ?_, by rw [hU]; exact hz⟩
  rw [hU]
  refine (va_X.moved hW.alike hX).kept (hS.2.1 _ ?_ (Nat.not_le.mpr hXN))
  obtain ⟨scr, h1, -⟩ := hX
  exact (Array.getElem?_eq_some_iff.mp h1).1
theorem map_rev {as st : List Value} {na : Nat} (h : as = (st.take na).reverse) : st.map (lf L) = (as.map (lf L)).reverse ++ (st.drop na).map (lf L) := by
  rw [h, List.map_reverse, List.reverse_reverse, ← List.map_append, List.take_append_drop]
theorem as_cons {as st : List Value} {na k : Nat} (h : as = (st.take na).reverse) (h0 : 0 < na) (hk : st[na - 1]? = some (.ref k)) : ∃ As, as = .ref k :: As ∧ As.length = na - 1 := by
  have hlen : na ≤ st.length := by have := (List.getElem?_eq_some_iff.mp hk).1; omega
  have hl : as.length = na := by rw [h, List.length_reverse, List.length_take]; omega
  have h0' : as[0]? = some (.ref k) := by
    rw [h, List.getElem?_reverse (by rw [List.length_take]; omega), List.length_take, List.getElem?_take, if_pos (by omega), ← hk]
    congr 1; omega
  cases as with
  | nil => cases h0'
  | cons a r =>
    simp only [List.getElem?_cons_zero, Option.some.injEq] at h0'
    exact ⟨r, by rw [h0'], by simp only [List.length_cons] at hl; omega⟩
theorem recv_ok {k ci : Nat} (hci : ci < 9 ∨ ci = 29) (hk : cls k = ci) (hK : va_K D vwCl (tyL cA) s) (hF : SF L (jA N0) s s.heap) (hP : va_P D vwCl (WS L cA μ) H) (hS : va_S (jA N0) s.heap H locs) : ∃ cellB : Cell, H[L k]? = some cellB ∧ cellB.vm.isStatics = false ∧ s.vm.findClass (clT ci).1 = some cellB.cls := by
  rcases hci with hci | rfl
  · have hlt := cls_in (μ := μ) (k := k) (Or.inl (by rw [hk]; omega))
    exact va_recv (ci := ci) (q0 := ixN k) hK hP (cl_get hci) ((WS_get hlt).trans (congrArg _ (congrArg _ (entW_obj hk hci))))
  · obtain ⟨j, hj, rfl⟩ := cls29 hk
    obtain ⟨⟨cell, g1, g2, g3, g4⟩, -⟩ := hF.2.1.1 j hj
    refine ⟨cell, ?_, g2, g3⟩
    rw [hS.2.1 _ (Array.getElem?_eq_some_iff.mp g1).1 g4]; exact g1
end MET
end
section
/-! A CALL, BY ITS LINK -/
section GO
variable {p : Program} {l : Launch} {e : Env} {R : Room} {s : State} {m : MethodId} {args : Array Value} {below : List Frame} {meth : Method} {c : Code} {H H0 : Heap} {locs : List Loc} {cells slots : Nat} {Q : State → Prop} {nL : Nat}
variable {N0 : Nat} {L : Nat → Nat} {D : va_G} {cA : Nat → ClassId} {pc pc' : Nat} {ls : Array Slot} {pl pl' st st' as : List Value} {μ μ' μ0 : PM} {n d lvd ix : Nat} {M Md : MI} {o : PO}
theorem go_V (cx : Ctx p s m args meth c N0 L D cA n μ0) (hM : mtab n = some M) (hMd : mtab d = some Md) (h : ivV M.2.1 pc ix pl st μ = some (.inr (.inl (d, as, pc', pl', st', μ')))) (hdg : decode (mrec n).2.1 pc = .ok (.invokevirtual ix, 3)) (hm : MetO l N0 L D cA d lvd as μ o) (hf : 13 + lvd ≤ R.frames) (hlo : 300 + 60 * lvd ≤ R.locals)
    (hc : cells + (o.2.2.2.2 - μ.2.2.2) ≤ R.cells) (hs : slots + 30 * (o.2.2.2.2 - μ.2.2.2) ≤ R.slots) (hsc : Sc μ0 μ) (hnL : nL = mxl n) (hz : H.size ≤ L 430 + μ.2.2.2) (ha : At_ s.heap L D cA (jA N0) nL H locs ls pl μ) :
    vx_Run p l e R s m args below meth c H locs cells slots (o.2.2.2.2 - μ.2.2.2) (30 * (o.2.2.2.2 - μ.2.2.2)) (F0 m pc ls (st.map (lf L))) (st'.map (lf L)) (QO N0 L D cA o (as.map (lf L)).toArray) (XO N0 L D cA o) (jA N0) := by
  obtain ⟨hx, hb, hml, hr, hlocks, hown, hts, htab, hK, hF, hX, hXN⟩ := cx
  obtain ⟨-, hpf, -, -, -⟩ := mok hM
  obtain ⟨-, -, -, -, -, hy1, hy2⟩ := mok hMd
  obtain ⟨na, ci, k, he, hk, hcat, hcls, has, rfl, rfl, rfl, rfl⟩ := ivV_call h
  obtain ⟨hok, hw, -⟩ := hpf ix
  rw [he] at hok hw
  simp only [entOK, Bool.and_eq_true, decide_eq_true_eq] at hok
  obtain ⟨⟨⟨⟨hci, hdl⟩, hna⟩, hpar⟩, hemp⟩ := hok
  have hci : ci < 9 ∨ ci = 29 := by
    rw [Bool.or_eq_true] at hci
    rcases hci with q | q
    · exact Or.inl (Nat.blt_eq.mp q)
    · exact Or.inr (Nat.eq_of_beq_eq_true q)
  have hna := Nat.blt_eq.mp hna
  obtain ⟨As, rfl, hAl⟩ := as_cons has hna hk
  have hX : va_X (L 390) μ.2.2.1 (mI μ 390) s s.heap := by rw [hsc.1, hsc.2]; exact hX
  have hw1 : Cond.methodLink (yN n).cls ix (yN d) ∈ lwG := hw _ List.mem_cons_self
  have hw2 : Cond.instanceMethod (yN d) ∈ lwG := hw _ (List.mem_cons_of_mem _ List.mem_cons_self)
  have hw3 : Cond.selects (clT ci).1 (yN d) (yN d) ∈ lwG := hw _ (List.mem_cons_of_mem _ (List.mem_cons_of_mem _ List.mem_cons_self))
  have hw4 : Cond.initialized (yN d).cls ∈ lwG := hw _ (List.mem_cons_of_mem _ (List.mem_cons_of_mem _ (List.mem_cons_of_mem _ List.mem_cons_self)))
  have hw5 : cwN d ∈ lwG := hw _ (List.mem_cons_of_mem _ (List.mem_cons_of_mem _ (List.mem_cons_of_mem _ (List.mem_cons_of_mem _ List.mem_cons_self))))
  have hcw := cwN_code hMd hemp
  have hpar2 : (parseMethodDescriptor (yN d).desc).map (fun d => d.parameters.length) = some (na - 1) := by
    cases hq : parseMethodDescriptor (yN d).desc with
    | none => rw [hq] at hpar; cases hpar
    | some g =>
      rw [hq] at hpar
      simp only [Option.map_some, Option.some.injEq] at hpar ⊢
      omega
  have hstk := map_rev (L := L) has
  have hxl := mxl_le d
  refine vx_runV (C := (clT ci).1) (b := L k) (As := As.map (lf L)) (n := na - 1) (Ts := lwG) (own := (yN n).cls) (nL := ls.size) (cc := (mrec n).2.1) (maxL := mxl d) ⟨hx, hb, by rw [hml, ha.1.2.1, hnL], hown, hts⟩ hm
    ⟨callB_of (na - 1) hts (cw_in hw5) (by rw [hcw]) rfl rfl (hts _ hw4) (hts _ hw1) ⟨hy1, hy2, hpar2⟩ ⟨by show 12 + lvd + 1 ≤ _; omega, by show 8 + (mxl d + 11) + (260 + 60 * lvd) ≤ _; omega⟩, hts _ hw2, hts _ hw3⟩
    ⟨fun a U g mk q => ⟨q.1, Wd.call q.2⟩, recv_ok hci hcls hK hF ha.2.1 ha.2.2.2, fun U hU hW => ⟨rfl, Wd.pre hK hF hX hXN ha.2.1 ha.2.2.2 hz hU hW⟩⟩ rfl (by rw [List.length_map]; exact hAl) rfl ?_ (by show 2 * 0 + _ ≤ _; rw [catS_lf]; omega) hdg ⟨hc, hs⟩
  rw [hstk]
  show ((lf L (.ref k) :: As.map (lf L))).reverse ++ _ = _
  rw [List.reverse_cons, List.append_assoc]; rfl
theorem go_S9 (cx : Ctx p s m args meth c N0 L D cA n μ0) (hM : mtab n = some M) (hMd : mtab d = some Md) {na : Nat} {z : Value} (he : M.2.1 ix = (9, d, na, z)) (hna : na ≤ st.length) (hcat : catS (st.drop na) ≤ 8) (has : as = (st.take na).reverse) (hdg : decode (mrec n).2.1 pc = .ok (.invokestatic ix, 3)) (hm : MetO l N0 L D cA d lvd as μ o) (hf : 13 + lvd ≤ R.frames) (hlo : 300 + 60 * lvd ≤ R.locals)
    (hc : cells + (o.2.2.2.2 - μ.2.2.2) ≤ R.cells) (hs : slots + 30 * (o.2.2.2.2 - μ.2.2.2) ≤ R.slots) (hsc : Sc μ0 μ) (hnL : nL = mxl n) (hz : H.size ≤ L 430 + μ.2.2.2) (ha : At_ s.heap L D cA (jA N0) nL H locs ls pl μ) :
    vx_Run p l e R s m args below meth c H locs cells slots (o.2.2.2.2 - μ.2.2.2) (30 * (o.2.2.2.2 - μ.2.2.2)) (F0 m pc ls (st.map (lf L))) ((st.drop na).map (lf L)) (QO N0 L D cA o (as.map (lf L)).toArray) (XO N0 L D cA o) (jA N0) := by
  obtain ⟨hx, hb, hml, hr, hlocks, hown, hts, htab, hK, hF, hX, hXN⟩ := cx
  obtain ⟨-, hpf, -, -, -⟩ := mok hM
  obtain ⟨-, -, -, -, -, hy1, hy2⟩ := mok hMd
  obtain ⟨hok, hw, -⟩ := hpf ix
  rw [he] at hok hw
  simp only [entOK, Bool.and_eq_true, decide_eq_true_eq] at hok
  obtain ⟨hdl, hpar⟩ := hok
  have hX : va_X (L 390) μ.2.2.1 (mI μ 390) s s.heap := by rw [hsc.1, hsc.2]; exact hX
  have hw1 : Cond.methodLink (yN n).cls ix (yN d) ∈ lwG := hw _ List.mem_cons_self
  have hw2 : Cond.static (yN d) ∈ lwG := hw _ (List.mem_cons_of_mem _ List.mem_cons_self)
  have hw4 : Cond.initialized (yN d).cls ∈ lwG := hw _ (List.mem_cons_of_mem _ (List.mem_cons_of_mem _ List.mem_cons_self))
  have hw5 : cwN d ∈ lwG := hw _ (List.mem_cons_of_mem _ (List.mem_cons_of_mem _ (List.mem_cons_of_mem _ List.mem_cons_self)))
  have hstk := map_rev (L := L) has
  have hxl := mxl_le d
  have hasl : (as.map (lf L)).length = na := by rw [List.length_map, has, List.length_reverse, List.length_take]; omega
  have hS : CallFix p m c (mrec n).2.1 ls.size s args lwG (yN n).cls := ⟨hx, hb, by rw [hml, ha.1.2.1, hnL], hown, hts⟩
  have hPS : PreS s H (va_Pc (as.map (lf L)) (Wd N0 L D cA μ)) (as.map (lf L)) := ⟨fun a U g mk q => ⟨q.1, Wd.call q.2⟩, fun U hU hW => ⟨rfl, Wd.pre hK hF hX hXN ha.2.1 ha.2.2.2 hz hU hW⟩⟩
  cases hemp : (mrec d).2.2.2.isEmpty
  · have hcw := cwN_with hMd hemp
    rw [hcw] at hw5
    have hp2 : ∀ sig, parseMethodDescriptor (yN d).desc = some sig → na = sig.parameters.length := fun sig hq => by
      rw [hq] at hpar
      simp only [Option.map_some, Option.some.injEq] at hpar
      exact hpar.symm
    exact vx_runSX (hh := (mrec d).2.2.2) (maxL := mxl d) hS hm ⟨⟨rfl, rfl, by show 12 + lvd + 1 ≤ _; omega, by show 8 + (mxl d + 11) + (260 + 60 * lvd) ≤ _; omega, pay_in hts (cw_in (by rw [hcw]; exact hw5)), by rw [hcw]; exact List.mem_cons_self⟩, hts _ hw5, hts _ hw4, ⟨hy1, hy2⟩, hp2, hts _ hw1, hts _ hw2⟩ hPS rfl hasl rfl hstk (by show 2 * 0 + _ ≤ _; rw [catS_lf]; omega) hdg ⟨hc, hs⟩
  · have hcw := cwN_code hMd hemp
    exact vx_runS (maxL := mxl d) hS hm ⟨callB_of na hts (cw_in hw5) (by rw [hcw]) rfl rfl (hts _ hw4) (hts _ hw1) ⟨hy1, hy2, hpar⟩ ⟨by show 12 + lvd + 1 ≤ _; omega, by show 8 + (mxl d + 11) + (260 + 60 * lvd) ≤ _; omega⟩, hts _ hw2⟩ hPS rfl hasl rfl hstk (by show 2 * 0 + _ ≤ _; rw [catS_lf]; omega) hdg ⟨hc, hs⟩
/-- a call that doesn't throw -/
theorem MetO.met {v : Option Value} {μ1 : PM} {as : List Value} (hm : MetO l N0 L D cA d lvd as μ (.inl v, μ1)) : Met l (yN d) (cwN d :: lwG) (rmL lvd (μ1.2.2.2 - μ.2.2.2)) (va_Pc (as.map (lf L)) (Wd N0 L D cA μ)) (QO N0 L D cA (.inl v, μ1)) (μ1.2.2.2 - μ.2.2.2) (30 * (μ1.2.2.2 - μ.2.2.2)) (jA N0) := by
  intro p e ha hc hk s m args below hf happ hP hK
  obtain ⟨n, o, h1, h2, h3, h4⟩ := hm p e ha hc hk s m args below hf happ hP hK
  refine ⟨n, o, h1, h2, h3, ?_⟩
  rcases h4 with h4 | ⟨q, -, E, ce, L9, ⟨⟨k, h5, -⟩, -⟩, -⟩
  · exact h4
  · cases h5
theorem go_S10 (cx : Ctx p s m args meth c N0 L D cA n μ0) (hM : mtab n = some M) (hMd : mtab d = some Md) {na : Nat} {z : Value} {v : Option Value} {μ1 : PM} (he : M.2.1 ix = (10, d, na, z)) (hna : na ≤ st.length) (hcat : catS (st.drop na) ≤ 8) (has : as = (st.take na).reverse) (hdg : decode (mrec n).2.1 pc = .ok (.invokestatic ix, 3)) (hm : MetO l N0 L D cA d lvd as μ (.inl v, μ1)) (hf : 13 + lvd ≤ R.frames) (hlo : 300 + 60 * lvd ≤ R.locals)
    (hc : cells + (μ1.2.2.2 - μ.2.2.2) ≤ R.cells) (hs : slots + 30 * (μ1.2.2.2 - μ.2.2.2) ≤ R.slots) (hsc : Sc μ0 μ) (hnL : nL = mxl n) (hz : H.size ≤ L 430 + μ.2.2.2) (ha : At_ s.heap L D cA (jA N0) nL H locs ls pl μ) :
    vx_Run p l e R s m args below meth c H locs cells slots (μ1.2.2.2 - μ.2.2.2) (30 * (μ1.2.2.2 - μ.2.2.2)) (F0 m pc ls (st.map (lf L))) ((st.drop na).map (lf L)) (QO N0 L D cA (.inl v, μ1) (as.map (lf L)).toArray) (XO N0 L D cA (.inl v, μ1)) (jA N0) := by
  obtain ⟨hx, hb, hml, hr, hlocks, hown, hts, htab, hK, hF, hX, hXN⟩ := cx
  obtain ⟨-, hpf, -, -, -⟩ := mok hM
  obtain ⟨-, -, -, -, -, hy1, hy2⟩ := mok hMd
  obtain ⟨hok, hw, hnest⟩ := hpf ix
  rw [he] at hok hw hnest
  simp only [entOK, Bool.and_eq_true, decide_eq_true_eq] at hok
  obtain ⟨⟨hdl, hpar⟩, hemp⟩ := hok
  have hX : va_X (L 390) μ.2.2.1 (mI μ 390) s s.heap := by rw [hsc.1, hsc.2]; exact hX
  have hw2 : Cond.static (yN d) ∈ lwG := hw _ List.mem_cons_self
  have hw4 : Cond.initialized (yN d).cls ∈ lwG := hw _ (List.mem_cons_of_mem _ List.mem_cons_self)
  have hw5 : cwN d ∈ lwG := hw _ (List.mem_cons_of_mem _ (List.mem_cons_of_mem _ List.mem_cons_self))
  have hl1 : va_Nw (.methodLinkNest (yN n).cls ix (yN d) "OrganCorners") s := by
    obtain ⟨h1, h2⟩ := hnest.2 rfl
    simp only at h2
    subst h2
    rcases h1 with ⟨e1, e2⟩ | ⟨e1, e2⟩
    · rw [e1, e2]; exact hF.2.2.1.1
    · rw [e1, e2]; exact hF.2.2.1.2.1
  have hstk := map_rev (L := L) has
  have hxl := mxl_le d
  have hasl : (as.map (lf L)).length = na := by rw [List.length_map, has, List.length_reverse, List.length_take]; omega
  have hcw := cwN_code hMd hemp
  have hr := va_runSN (maxL := mxl d) (host := "OrganCorners") (⟨hx, hb, by rw [hml, ha.1.2.1, hnL], hown, hts⟩ : CallFix p m c (mrec n).2.1 ls.size s args lwG (yN n).cls) hm.met ⟨va_cnB na hts (cw_in hw5) (by rw [hcw]) rfl rfl hl1 (hts _ hw4) ⟨hy1, hy2, hpar⟩ ⟨by show 12 + lvd + 1 ≤ R.frames; omega, by show 8 + (mxl d + 11) + (260 + 60 * lvd) ≤ R.locals; omega⟩, hts _ hw2, trivial⟩ ⟨fun a U g mk q => ⟨q.1, Wd.call q.2⟩, fun U hU hW => ⟨rfl, Wd.pre hK hF hX hXN ha.2.1 ha.2.2.2 hz hU hW⟩⟩ (g := F0 m pc ls (st.map (lf L))) (rest := (st.drop na).map (lf L)) (p := p) (e := e) (R := R) (below := below) (meth := meth) (locs := locs) (cells := cells) (slots := slots) (H := H) rfl hasl rfl hstk (by show 2 * 0 + _ ≤ _; rw [catS_lf]; omega) hdg ⟨hc, hs⟩
  intro T hT X
  exact Or.inl (hr T hT X)
end GO
end
section
/-! A RUN OF THE PURE INTERPRETER IS A RUN OF THE MACHINE -/
section SIMR
variable {p : Program} {l : Launch} {e : Env} {R : Room} {s : State} {m : MethodId} {args : Array Value} {below : List Frame} {meth : Method} {c : Code} {H H0 : Heap} {locs : List Loc} {cells slots : Nat} {Q : State → Prop} {nL : Nat}
variable {N0 : Nat} {L : Nat → Nat} {D : va_G} {cA : Nat → ClassId} {pc pc' : Nat} {ls : Array Slot} {pl pl' st st' as : List Value} {μ μ' μ0 : PM} {n d lvd ix : Nat} {M Md : MI} {o : PO}
/-- what an outcome says: the script stays, things are only made, a throw is dear -/
def Ok (μ : PM) (o : PO) : Prop := Sc μ o.2 ∧ μ.2.2.2 ≤ o.2.2.2.2 ∧ ∀ k, o.1 = .inr k → 1000000 ≤ o.2.2.2.2
theorem art_mu {rt : Nat} (h : art rt st μ = some (.inr (.inr o))) : ∃ v, o = (.inl v, μ) := by
  unfold art at h
  split at h
  · cases h; exact ⟨_, rfl⟩
  · cases h; exact ⟨_, rfl⟩
  · cases h
theorem drt_mu {rt : Nat} (h : drt rt st μ = some (.inr (.inr o))) : ∃ v, o = (.inl v, μ) := by
  unfold drt at h
  split at h
  · cases h; exact ⟨_, rfl⟩
  · cases h
theorem jrt_mu {rt : Nat} (h : jrt rt st μ = some (.inr (.inr o))) : ∃ v, o = (.inl v, μ) := by
  unfold jrt at h
  split at h
  · cases h; exact ⟨_, rfl⟩
  · cases h
theorem vrt_mu {rt : Nat} (h : vrt rt st μ = some (.inr (.inr o))) : ∃ v, o = (.inl v, μ) := by
  unfold vrt at h
  split at h
  · cases h; exact ⟨_, rfl⟩
  · cases h
theorem irt_mu {rt : Nat} (h : irt rt st μ = some (.inr (.inr o))) : ∃ v, o = (.inl v, μ) := by
  unfold irt at h
  split at h
  · split at h
    · cases h; exact ⟨_, rfl⟩
    · split at h
      · cases h; exact ⟨_, rfl⟩
      · cases h
    · cases h
  · cases h
theorem thr_inv {cs : Chunks} {pool : Nat → Ent} {x : PCl ⊕ PO} (h : thr cs pool pc ix st μ = some (.inr x)) : ∃ k z, pool ix = (7, k, z) ∧ st = [] ∧ x = .inr (.inr k, exM μ) := by
  unfold thr at h
  split at h
  · rename_i k a b he
    have key : (bif st.isEmpty then some (.inr (.inr (.inr k, (μ.1, μ.2.1, μ.2.2.1, μ.2.2.2 + 1000000)))) else none : Option SR) = some (.inr x) → st = [] ∧ x = .inr (.inr k, exM μ) := by
      intro h
      cases hq : st.isEmpty
      · rw [hq] at h; cases h
      · rw [hq] at h
        cases h
        exact ⟨List.isEmpty_iff.mp hq, rfl⟩
    split at h
    · split at h
      · split at h
        · exact ⟨k, (a, b), he, key h⟩
        · cases h
      · split at h
        · exact ⟨k, (a, b), he, key h⟩
        · cases h
      · cases h
    · cases h
  · cases h
theorem aft_mu {ls st : List Value} {o1 : PO} {s' : PS} (h : aft M pc ls st o1 = some (.inl s')) : s'.2.2.2 = o1.2 := by
  unfold aft at h
  split at h
  · cases h; rfl
  · cases h; rfl
  · split at h
    · cases h
    · split at h
      · rename_i n _ _
        unfold st1 at h
        cases hq : Nat.blt n ls.length && okS ls n <;> rw [hq] at h
        · cases h
        · cases h; rfl
      · rename_i n _ _
        unfold st1 at h
        cases hq : Nat.blt (n : Nat) ls.length && okS ls n <;> rw [hq] at h
        · cases h
        · cases h; rfl
      · cases h
theorem aft_end {ls st : List Value} {o1 o2 : PO} (h : aft M pc ls st o1 = some (.inr (.inr o2))) : ∃ k, o1.1 = .inr k ∧ o2 = (.inr k, o1.2) ∧ hfind M.2.2.2.2 pc k = none := by
  unfold aft at h
  split at h
  · cases h
  · cases h
  · split at h
    · rename_i hn
      cases h; exact ⟨_, rfl, rfl, hn⟩
    · split at h
      · exact (st1_no h).elim
      · exact (st1_no h).elim
      · cases h
theorem call_mu {i : Instr} {ln : Nat} {ls2 st2 as2 : List Value} {μ2 : PM} (h : pex M i ln pc pl st μ = some (.inr (.inl (d, as2, pc', ls2, st2, μ2)))) : μ2 = μ := by
  rcases pex_inr h with ⟨ix, -, h⟩ | ⟨ix, -, h⟩ | ⟨ix, -, h⟩ | ⟨-, h⟩ | ⟨-, h⟩ | ⟨-, h⟩ | ⟨-, h⟩ | ⟨-, h⟩
  · obtain ⟨_, _, _, _, _, _, _, _, _, _, _, q⟩ := ivV_call h; exact q.symm
  · obtain ⟨_, _, _, _, _, _, _, _, _, _, _, q⟩ := ivS_call h; exact q.symm
  · obtain ⟨_, _, _, _, q⟩ := thr_inv h; cases q
  · unfold art at h; split at h <;> cases h
  · unfold drt at h; split at h <;> cases h
  · unfold irt at h
    split at h
    · split at h
      · cases h
      · split at h <;> cases h
      · cases h
    · cases h
  · unfold jrt at h; split at h <;> cases h
  · unfold vrt at h; split at h <;> cases h
theorem end_ok {i : Instr} {ln : Nat} (hM : mtab n = some M) (h : pex M i ln pc pl st μ = some (.inr (.inr o))) : Ok μ o := by
  have key : (∃ v, o = (.inl v, μ)) → Ok μ o := by
    rintro ⟨v, rfl⟩
    exact ⟨Sc.rf, Nat.le_refl _, fun k hk => by cases hk⟩
  rcases pex_inr h with ⟨ix, -, h⟩ | ⟨ix, -, h⟩ | ⟨ix, -, h⟩ | ⟨-, h⟩ | ⟨-, h⟩ | ⟨-, h⟩ | ⟨-, h⟩ | ⟨-, h⟩
  · exact (ivV_ret h).elim
  · exact (ivS_ret h).elim
  · obtain ⟨k, z, he, -, hx⟩ := thr_inv h
    cases hx
    exact ⟨⟨rfl, rfl⟩, Nat.le_add_right _ _, fun j hj => Nat.le_add_left _ _⟩
  · exact key (art_mu h)
  · exact key (drt_mu h)
  · exact key (irt_mu h)
  · exact key (jrt_mu h)
  · exact key (vrt_mu h)
theorem prun_ok : ∀ (f n lv : Nat) (ps : PS) (o : PO), prun f n lv ps = some o → Ok ps.2.2.2 o := by
  intro f
  induction f with
  | zero => intro n lv ps o h; cases h
  | succ f ih =>
    intro n lv ps o h
    rw [prun] at h
    cases hM : mtab n with
    | none => rw [hM] at h; cases h
    | some M =>
      rw [hM] at h
      obtain ⟨pc, pl, st, μ⟩ := ps
      simp only at h
      have hstep : ∀ r, pstep M (pc, pl, st, μ) = some r → ∃ i ln, lk2 M.1 pc = some (i, ln) ∧ pex M i ln pc pl st μ = some r := by
        intro r hr
        unfold pstep at hr
        simp only at hr
        split at hr
        · cases hr
        · rename_i i ln hl
          exact ⟨i, ln, hl, hr⟩
      split at h
      · cases h
      · rename_i s' hs
        obtain ⟨h1, h2, h3⟩ := ih _ _ _ _ h
        obtain ⟨k1, k2⟩ := pstep_sc hs
        exact ⟨k1.tr h1, Nat.le_trans k2 h2, h3⟩
      · rename_i o1 hs
        cases h
        obtain ⟨i, ln, -, hp⟩ := hstep _ hs
        exact end_ok hM hp
      · rename_i d as pc1 ls1 st1 μ1 hs
        obtain ⟨i, ln, -, hp⟩ := hstep _ hs
        have hμ := call_mu hp
        subst hμ
        split at h
        · split at h
          · cases h
          · rename_i o1 ho
            obtain ⟨a1, a2, a3⟩ := ih _ _ _ _ ho
            split at h
            · rename_i s' ha
              obtain ⟨h1, h2, h3⟩ := ih _ _ _ _ h
              rw [aft_mu ha] at h1 h2
              exact ⟨a1.tr h1, Nat.le_trans a2 h2, h3⟩
            · rename_i o2 ha
              cases h
              obtain ⟨k, hk, rfl, -⟩ := aft_end ha
              exact ⟨a1, a2, fun j hj => a3 j (by rw [hk]; exact hj)⟩
            · cases h
        · cases h
/-! the entry -/
theorem lay_len : ∀ as : List Value, (lg_sl (as.map (lf L))).length = (layA as).length := by
  intro as
  induction as with
  | nil => rfl
  | cons v r ih =>
    unfold lg_sl at ih ⊢
    rw [List.map_cons, List.flatMap_cons, List.length_append, ih]
    cases v <;> simp [layA, cat1, lf, Value.category] <;> omega
theorem lay_get : ∀ (as : List Value) (i : Nat) (v : Value), (layA as)[i]? = some v → (∀ n, v ≠ .retAddr n) → (lg_sl (as.map (lf L)))[i]? = some (.val (lf L v)) := by
  intro as
  induction as with
  | nil => intro i v h; cases h
  | cons a r ih =>
    intro i v h hv
    unfold lg_sl at ih ⊢
    rw [List.map_cons, List.flatMap_cons]
    cases hc : cat1 a
    · rw [layA, hc] at h
      have hq : (lf L a).category = 2 := by cases a <;> first | rfl | cases hc
      rw [if_pos hq]
      match i, h with
      | 0, h => cases h; rfl
      | 1, h => cases h; exact absurd rfl (hv 0)
      | i + 2, h => exact ih i v h hv
    · rw [layA, hc] at h
      have hq : ¬ (lf L a).category = 2 := by cases a <;> first | (intro q; cases q; done) | cases hc
      rw [if_neg hq]
      match i, h with
      | 0, h => cases h; rfl
      | i + 1, h => exact ih i v h hv
theorem entry_LR (h : (layA as).length ≤ nL) : LR L nL (entryL nL as) ((lg_sl (as.map (lf L)) ++ List.replicate (nL - (lg_sl (as.map (lf L))).length) Slot.unset).toArray) := by
  have hl := lv_entry (as.map (lf L)) (n := nL) (by rw [lay_len]; exact h)
  refine ⟨?_, hl.1, hl.2.1, fun i v hi hv => ?_⟩
  · unfold entryL
    rw [List.length_append, List.length_replicate]; omega
  · unfold entryL at hi
    by_cases hq : i < (layA as).length
    · rw [List.getElem?_append_left hq] at hi
      rw [List.getElem?_toArray, List.getElem?_append_left (by rw [lay_len]; exact hq)]
      exact lay_get as i v hi hv
    · rw [List.getElem?_append_right (Nat.le_of_not_lt hq), List.getElem?_replicate] at hi
      split at hi
      · cases hi; exact absurd rfl (hv 0)
      · cases hi
end SIMR
end
section
/-! ENDS, CALLS, HANDLERS: the run -/
section RUN
variable {p : Program} {l : Launch} {e : Env} {R : Room} {s : State} {m : MethodId} {args : Array Value} {below : List Frame} {meth : Method} {c : Code} {H H0 : Heap} {locs : List Loc} {cells slots : Nat} {Q : State → Prop} {nL : Nat}
variable {N0 : Nat} {L : Nat → Nat} {D : va_G} {cA : Nat → ClassId} {pc pc' : Nat} {ls : Array Slot} {pl pl' st st' as : List Value} {μ μ' μ0 : PM} {n d lvd ix mc ms : Nat} {M Md : MI} {o : PO}
theorem rt5 {t : Option FieldType} (h : rtO 5 t) : ∃ n, t = some (.object n) := by
  unfold rtO at h
  split at h <;> first | exact ⟨_, rfl⟩ | exact h.elim | (rename_i q; cases q)
theorem rt4 {t : Option FieldType} (h : rtO 4 t) : t = some .double := by
  unfold rtO at h
  split at h <;> first | rfl | exact h.elim | (rename_i q; cases q)
theorem rt3 {t : Option FieldType} (h : rtO 3 t) : t = some .long := by
  unfold rtO at h
  split at h <;> first | rfl | exact h.elim | (rename_i q; cases q)
theorem rt2 {t : Option FieldType} (h : rtO 2 t) : t = some .boolean := by
  unfold rtO at h
  split at h <;> first | rfl | exact h.elim | (rename_i q; cases q)
theorem rt1 {t : Option FieldType} (h : rtO 1 t) : t = some .int := by
  unfold rtO at h
  split at h <;> first | rfl | exact h.elim | (rename_i q; cases q)
theorem rt0 {t : Option FieldType} (h : rtO 0 t) : t = none := by
  unfold rtO at h
  split at h <;> first | rfl | exact h.elim | (rename_i q; cases q)
/-- a method's end, with an answer -/
theorem sim_ret {i : Instr} {ln : Nat} (cx : Ctx p s m args meth c N0 L D cA n μ0) (hM : mtab n = some M) (hlk : lk2 M.1 pc = some (i, ln)) (h : pex M i ln pc pl st μ = some (.inr (.inr o))) {v : Option Value} (hv : o.1 = .inl v) (hc : cells ≤ mc) (hs : slots ≤ ms) (ha : At_ s.heap L D cA (jA N0) nL H locs ls pl μ) :
    W p l e R s m args below meth c H locs cells slots (vx_MQ below (QO N0 L D cA o) (XO N0 L D cA o) args s mc ms (jA N0)) (F0 m pc ls (st.map (lf L))) := by
  obtain ⟨hx, hb, hml, hr, hlocks, hown, hts, htab, hK, hF, hX, hXN⟩ := cx
  obtain ⟨hdc, hpf, hrt, -, -⟩ := mok hM
  obtain ⟨hdg, hl⟩ := hdc.at hlk
  obtain ⟨hLR, hP, hD, hS⟩ := ha
  have hq : ∀ (v : Option Value) (μ9 : PM), o = (.inl v, μ9) → μ9 = μ → ∀ t : State, t.heap = H → s.WarmedH t.vm → QO N0 L D cA o args s (.returned (v.map (lf L))) t := by
    intro v μ9 ho hm t ht hW
    subst hm
    exact ⟨⟨v, by rw [ho], rfl, by rw [ht, ho]; exact hP⟩, hS.F ht⟩
  have hf : ∀ q ∈ locs, jA N0 q.base := hS.2.2
  refine vx_ret (W.widen hc hs ?_)
  rcases pex_inr h with ⟨ix, -, hA⟩ | ⟨ix, -, hA⟩ | ⟨ix, -, hA⟩ | ⟨rfl, hA⟩ | ⟨rfl, hA⟩ | ⟨rfl, hA⟩ | ⟨rfl, hA⟩ | ⟨rfl, hA⟩
  · exact (ivV_ret hA).elim
  · exact (ivS_ret hA).elim
  · obtain ⟨k, z, -, -, q⟩ := thr_inv hA
    cases q
    cases hv
  · have q := Nat.eq_of_beq_eq_true hl; subst q
    clear h
    unfold art at hA
    split at hA
    · rename_i h5
      rw [h5] at hrt
      obtain ⟨nm, hn⟩ := rt5 hrt
      cases hA
      exact W.aret hx hb (hr.trans hn) (Or.inl ⟨_, rfl⟩) (Or.inr ⟨_, rfl⟩) (hq _ _ rfl rfl) hf hdg hlocks
    · rename_i h5
      rw [h5] at hrt
      obtain ⟨nm, hn⟩ := rt5 hrt
      cases hA
      exact W.aret hx hb (hr.trans hn) (Or.inl ⟨_, rfl⟩) (Or.inl rfl) (hq _ _ rfl rfl) hf hdg hlocks
    · cases hA
  · have q := Nat.eq_of_beq_eq_true hl; subst q
    clear h
    unfold drt at hA
    split at hA
    · rename_i h5
      rw [h5] at hrt
      cases hA
      exact W.dret hx hb (hr.trans (rt4 hrt)) (hq _ _ rfl rfl) hf hdg hlocks
    · cases hA
  · have q := Nat.eq_of_beq_eq_true hl; subst q
    clear h
    unfold irt at hA
    split at hA
    · split at hA
      · rename_i h5
        rw [h5] at hrt
        cases hA
        exact W.iret hx hb (hr.trans (rt1 hrt)) (hq _ _ rfl rfl) hf hdg hlocks
      · rename_i h5
        rw [h5] at hrt
        split at hA
        · rename_i h01
          cases hA
          exact W.zret hx hb (hr.trans (rt2 hrt)) (nar_Z h01) (hq _ _ rfl rfl) hf hdg hlocks
        · cases hA
      · cases hA
    · cases hA
  · have q := Nat.eq_of_beq_eq_true hl; subst q
    clear h
    unfold jrt at hA
    split at hA
    · rename_i h5
      rw [h5] at hrt
      cases hA
      exact W.lret hx hb (hr.trans (rt3 hrt)) (hq _ _ rfl rfl) hf hdg hlocks
    · cases hA
  · have q := Nat.eq_of_beq_eq_true hl; subst q
    clear h
    unfold vrt at hA
    split at hA
    · rename_i h5
      rw [h5] at hrt
      cases hA
      exact W.vret hx hb (hr.trans (rt0 hrt)) (hq _ _ rfl rfl) hf hdg hlocks
    · cases hA
end RUN
end
section
/-! THE RUN, BY INDUCTION ON ITS FUEL -/
section RUNP
variable {l : Launch} {N0 : Nat} {L : Nat → Nat} {D : va_G} {cA : Nat → ClassId}
def RunP (l : Launch) (N0 : Nat) (L : Nat → Nat) (D : va_G) (cA : Nat → ClassId) (f : Nat) : Prop :=
  ∀ (n lv pc : Nat) (pl st : List Value) (μ : PM) (o : PO) (M : MI), lv < 1000000 → mtab n = some M → prun f n lv (pc, pl, st, μ) = some o → o.2.2.2.2 < 1000000 →
  ∀ (p : Program) (e : Env) (R : Room) (s : State) (m : MethodId) (args : Array Value) (below : List Frame) (meth : Method) (c : Code) (H : Heap) (locs : List Loc) (Q : State → Prop) (c0 s0 b : Nat) (μ0 : PM) (ls : Array Slot),
  Ctx p s m args meth c N0 L D cA n μ0 → 12 + lv ≤ R.frames → 260 + 60 * lv ≤ R.locals → b ≤ μ.2.2.2 → c0 + (o.2.2.2.2 - b) ≤ R.cells → s0 + 30 * (o.2.2.2.2 - b) ≤ R.slots → s.heap.size + c0 ≤ L 430 + b → Sc μ0 μ → At_ s.heap L D cA (jA N0) (mxl n) H locs ls pl μ →
  (∀ (pc' : Nat) (pl' st' : List Value) (μ' : PM) (ls' : Array Slot) (H' : Heap) (locs' : List Loc) (i : Instr) (ln : Nat), lk2 M.1 pc' = some (i, ln) → pex M i ln pc' pl' st' μ' = some (.inr (.inr o)) → Sc μ0 μ' → b ≤ μ'.2.2.2 → At_ s.heap L D cA (jA N0) (mxl n) H' locs' ls' pl' μ' →
    W p l e R s m args below meth c H' locs' (c0 + (μ'.2.2.2 - b)) (s0 + 30 * (μ'.2.2.2 - b)) Q (F0 m pc' ls' (st'.map (lf L)))) →
  W p l e R s m args below meth c H locs (c0 + (μ.2.2.2 - b)) (s0 + 30 * (μ.2.2.2 - b)) Q (F0 m pc ls (st.map (lf L)))
/-- what is known of the heap's size -/
theorem W_size {p : Program} {e : Env} {R : Room} {s : State} {m : MethodId} {args : Array Value} {below : List Frame} {meth : Method} {c : Code} {H : Heap} {locs : List Loc} {cells slots : Nat} {Q : State → Prop} {g : JFrame} (k : H.size ≤ s.heap.size + cells → W p l e R s m args below meth c H locs cells slots Q g) : W p l e R s m args below meth c H locs cells slots Q g := by
  intro T hT X
  exact k (by rw [← hT]; exact X.heapSize) T hT X
theorem newM_ne {μ : PM} {k : Nat} (h : k ≠ 430 + μ.2.2.2) : mI (newM μ) k = mI μ k := by
  funext b
  have e1 : Nat.beq k (430 + μ.2.2.2) = false := by
    cases hb : Nat.beq k (430 + μ.2.2.2)
    · rfl
    · exact absurd (Nat.eq_of_beq_eq_true hb) h
  simp only [mI, newM, e1, cond_false]
theorem newM_self {μ : PM} : mI (newM μ) (430 + μ.2.2.2) = fun _ => 0 := by
  funext b
  simp only [mI, newM, Nat.beq_refl, cond_true]
theorem cls_dyn (i : Nat) : cls (430 + i) = 31 := by unfold cls; rw [ly_dyn]
theorem len_dyn (i : Nat) : len (430 + i) = dl i := by unfold len; rw [ly_dyn]
theorem dl_le (i : Nat) : dl i ≤ 30 := by
  have h : i % 4 < 4 := Nat.mod_lt _ (by decide)
  unfold dl
  generalize i % 4 = r at h
  match r, h with
  | 0, _ => decide
  | 1, _ => decide
  | 2, _ => decide
  | 3, _ => decide
/-- the last thing made lies at the heap's end -/
theorem last_sz {μ : PM} {H : Heap} (hL : LD N0 L) (hP : va_P D vwCl (WS L cA μ) H) : L 430 + μ.2.2.2 ≤ H.size := by
  by_cases h0 : μ.2.2.2 = 0
  · have h1 : L 18 < H.size := (hP _ _ (WS_get (k := 18) (Or.inl (by decide)))).lt
    have := hL.2.2.2
    omega
  · have h1 : L (430 + (μ.2.2.2 - 1)) < H.size := (hP _ _ (WS_get (k := 430 + (μ.2.2.2 - 1)) (Or.inr (Or.inr ⟨by omega, by omega⟩)))).lt
    have := hL.2.2.1 (μ.2.2.2 - 1)
    omega
theorem P_new {μ : PM} {H H1 : Heap} (hP : va_P D vwCl (WS L cA μ) H) (hL : LD N0 L) (hsz : H.size = L 430 + μ.2.2.2) (h1 : H1[H.size]? = some (vp_cell (cA 20) (dl μ.2.2.2, .inl (fun _ => 0)))) (hk : ∀ q : Nat, q < H.size → H1[q]? = H[q]?) : va_P D vwCl (WS L cA (newM μ)) H1 := by
  intro i q hq
  obtain ⟨hi, rfl⟩ := WS_inv hq
  by_cases hn : nm i = 430 + μ.2.2.2
  · rw [hn, entW_ints (Or.inr (cls_dyn _)), newM_self, len_dyn]
    show H1[L (430 + μ.2.2.2)]? = some (vp_cell _ _)
    rw [hL.2.2.1, ← hsz]
    exact h1
  · have hi' : Inn μ (nm i) := by
      rcases hi with h | h | h
      · exact Or.inl h
      · exact Or.inr (Or.inl h)
      · have e : (newM μ).2.2.2 = μ.2.2.2 + 1 := rfl
        exact Or.inr (Or.inr ⟨h.1, by omega⟩)
    rw [entW_congr (newM_ne hn) rfl]
    exact (hP.kept (H1 := H1) fun k q hq => hk q.1 ((hP k q hq).lt)) _ _ (WS_get hi')
/-- a new array -/
theorem sim_newa {p : Program} {e : Env} {R : Room} {s : State} {m : MethodId} {args : Array Value} {below : List Frame} {meth : Method} {c : Code} {H : Heap} {locs : List Loc} {cells slots : Nat} {Q : State → Prop} {n pc pc' ln nL : Nat} {M : MI} {μ0 μ μ' : PM} {pl st pl' st' : List Value} {ls : Array Slot}
    (cx : Ctx p s m args meth c N0 L D cA n μ0) (hM : mtab n = some M) (hlk : lk2 M.1 pc = some (.newarray .int, ln)) (h : nwA pc pl st μ = some (.inl (pc', pl', st', μ'))) (hL : LD N0 L) (hz : H.size ≤ L 430 + μ.2.2.2) (hc : cells + 1 ≤ R.cells) (hs : slots + 30 ≤ R.slots) (ha : At_ s.heap L D cA (jA N0) nL H locs ls pl μ)
    (k : Kt p l e R s m args below meth c s.heap (cells + 1) (slots + 30) Q L D cA (jA N0) nL pc' pl' st' μ') : Wg p l e R s m args below meth c H locs cells slots Q L pc ls st := by
  obtain ⟨hx, hb, hml, hr, hlocks, hown, hts, htab, hK, hF, hX, hXN⟩ := cx
  obtain ⟨hdc, -, -, -, -⟩ := mok hM
  obtain ⟨hdg, hl⟩ := hdc.at hlk
  have hq := Nat.eq_of_beq_eq_true hl
  subst hq
  obtain ⟨r, rfl, rfl, rfl, rfl, rfl⟩ := nwA_inv h
  have hsz : H.size = L 430 + μ.2.2.2 := Nat.le_antisymm hz (last_sz hL ha.2.1)
  have hd30 := dl_le μ.2.2.2
  have hn0 : ¬ Int32.ofNat (dl μ.2.2.2) < 0 := by
    generalize dl μ.2.2.2 = d at hd30
    exact (by decide +kernel : ∀ d, d < 31 → ¬ Int32.ofNat d < 0) d (by omega)
  have hnN : (Int32.ofNat (dl μ.2.2.2)).toNatClampNeg = dl μ.2.2.2 := by
    generalize dl μ.2.2.2 = d at hd30
    exact (by decide +kernel : ∀ d, d < 31 → (Int32.ofNat d).toNatClampNeg = d) d (by omega)
  show W p l e R s m args below meth c H locs cells slots Q (F0 m pc ls (.int (Int32.ofNat (dl μ.2.2.2)) :: r.map (lf L)))
  refine va_newaK (atype := .int) (N := dl μ.2.2.2) hx hb (hts _ aw_int) rfl hdg rfl hn0 hnN (by show _ * 4 ≤ _; omega) hc (by omega) rfl (fun H1 cA1 e1 z1 o1 hAr hNm => ?_)
  have ec : cA1 = cA 20 := Option.some.inj (Eq.trans (Eq.symm hNm) (hK.2 0 (cA 20, .int) rfl).2)
  subst ec
  have hP1 := P_new ha.2.1 hL hsz e1 o1
  have hS1 : va_S (jA N0) s.heap H1 locs := ⟨Nat.le_trans ha.2.2.2.1 (by omega), fun x h1 h2 => (o1 x (Nat.lt_of_lt_of_le h1 ha.2.2.2.1)).trans (ha.2.2.2.2.1 x h1 h2), ha.2.2.2.2.2⟩
  have key := k ls H1 locs ha.1 hP1 (WS_D hL) hS1
  rw [List.map_cons, show lf L (.ref (430 + μ.2.2.2)) = .ref H.size from by show Value.ref _ = _; rw [hL.2.2.1, hsz]] at key
  exact W.widen (Nat.le_refl _) (by omega) key
theorem metO_of {f d : Nat} {Md : MI} {as : List Value} {μ : PM} {o : PO} (hst : l.stackTraces = false) (hL : LD N0 L) (hXN : L 390 < N0) (ih : RunP l N0 L D cA f) (hMd : mtab d = some Md) (hlv : lvl d as < 1000000) (hoB : o.2.2.2.2 < 1000000) (h : prun f d (lvl d as) (0, entryL (mxl d) as, [], μ) = some o) : MetO l N0 L D cA d (lvl d as) as μ o := by
  have hlen : (layA as).length ≤ mxl d := by
    unfold lvl at hlv
    cases hq : Nat.ble (layA as).length (mxl d)
    · rw [hq] at hlv; exact absurd hlv (Nat.lt_irrefl _)
    · exact Nat.ble_eq.mp hq
  have hok := prun_ok _ _ _ _ _ h
  have body : ∀ (p : Program) (e : Env) (s : State) (m : MethodId) (args : Array Value) (below : List Frame) (meth : Method) (c : Code), p.tables.exec = Jvm.exec → c.code = (mrec d).2.1 → c.maxLocals = mxl d → meth.sig.returnType = (mrec d).2.2.1 → meth.locks = false → s.vm.findClass (yN d).cls = some m.cls → (∀ w ∈ lwG, w.before args s = true) → c.exceptionTable.toList = tableOf (mrec d).2.2.2 → args = (as.map (lf L)).toArray → Wd N0 L D cA μ s →
      W p l e (rmL (lvl d as) (o.2.2.2.2 - μ.2.2.2)) s m args below meth c s.heap [] 0 0 (vx_MQ below (QO N0 L D cA o) (XO N0 L D cA o) args s (o.2.2.2.2 - μ.2.2.2) (30 * (o.2.2.2.2 - μ.2.2.2)) (jA N0)) (entryFrame m args (mxl d)) := by
    intro p e s m args below meth c hx hb hml hr hlocks hown hts htab hv hW
    subst hv
    obtain ⟨hP, hK, hF, hX, hZ⟩ := hW
    have cx : Ctx p s m (as.map (lf L)).toArray meth c N0 L D cA d μ := ⟨hx, hb, hml, hr, hlocks, hown, hts, htab, hK, hF, hX, hXN⟩
    have hLR := entry_LR (L := L) hlen
    rw [lg_entry_eq]
    generalize (lg_sl (as.map (lf L)) ++ List.replicate (mxl d - (lg_sl (as.map (lf L))).length) Slot.unset).toArray = ls at hLR ⊢
    have ha : At_ s.heap L D cA (jA N0) (mxl d) s.heap [] ls (entryL (mxl d) as) μ := ⟨hLR, hP, WS_D hL, va_S.rf⟩
    have key := ih d (lvl d as) 0 (entryL (mxl d) as) [] μ o Md hlv hMd h hoB p e (rmL (lvl d as) (o.2.2.2.2 - μ.2.2.2)) s m (as.map (lf L)).toArray below meth c s.heap [] (vx_MQ below (QO N0 L D cA o) (XO N0 L D cA o) (as.map (lf L)).toArray s (o.2.2.2.2 - μ.2.2.2) (30 * (o.2.2.2.2 - μ.2.2.2)) (jA N0)) 0 0 μ.2.2.2 μ ls cx (Nat.le_refl _) (Nat.le_refl _) (Nat.le_refl _) (by show 0 + _ ≤ _; rw [Nat.zero_add]; exact Nat.le_refl _) (by show 0 + _ ≤ _; rw [Nat.zero_add]; exact Nat.le_refl _) (by rw [Nat.add_zero]; exact hZ) Sc.rf ha ?_
    · rw [Nat.sub_self] at key; exact key
    · intro pc' pl' st' μ' ls' H' locs' i ln hlk hp hsc hb' ha'
      have hle := (end_ok hMd hp).2.1
      cases ho : o.1 with
      | inl v => exact sim_ret cx hMd hlk hp ho (by omega) (by omega) ha'
      | inr k =>
        have := hok.2.2 k ho
        omega
  cases hemp : (mrec d).2.2.2.isEmpty
  · have hcw := cwN_with hMd hemp
    refine vx_ofWH (cc := (mrec d).2.1) (maxL := mxl d) (ret := (mrec d).2.2.1) (hh := (mrec d).2.2.2) (mok hMd).2.2.2.2.1 (by rw [hcw]) ?_
    intro p e s m args below meth c s₁ B hml hv
    have hts0 := atoms_spec (ws := cwN d :: lwG) B.pre
    have hcb : (Cond.codeWith (yN d) (mrec d).2.1 (mxl d) (mrec d).2.2.1 (mrec d).2.2.2).before args s = true := by
      rw [← hcw]; exact hts0 _ List.mem_cons_self
    exact body p e s m args below meth c B.exec B.bytes hml B.returns B.notSynchronized (findClass_of_methodNamed B.named) (fun w hw => hts0 w (List.mem_cons_of_mem _ hw)) (vx_table (x := yN d) B hcb) hv.1 hv.2
  · have hcw := cwN_code hMd hemp
    refine vx_ofW (cc := (mrec d).2.1) (maxL := mxl d) (ret := (mrec d).2.2.1) (mok hMd).2.2.2.2.1 (by rw [hcw]) ?_
    intro p e s m args below meth c s₁ B hml ht hv
    have hts0 := atoms_spec (ws := cwN d :: lwG) B.pre
    have htab : c.exceptionTable.toList = tableOf (mrec d).2.2.2 := by
      rw [List.isEmpty_iff.mp hemp]
      cases hq : c.exceptionTable.toList with
      | nil => rfl
      | cons x r => exact (ht x (by rw [hq]; exact List.mem_cons_self)).elim
    exact body p e s m args below meth c B.exec B.bytes hml B.returns B.notSynchronized (findClass_of_methodNamed B.named) (fun w hw => hts0 w (List.mem_cons_of_mem _ hw)) htab hv.1 hv.2
/-- methods without calls don't throw -/
def quiet (i : Instr) : Bool := match i with | .new _ => false | .invokestatic _ => false | .invokevirtual _ => false | _ => true
theorem holds_quiet : (mi_X10_holds.1.all fun c => c.all fun z => quiet z.2.1) = true := by decide +kernel
theorem holds_inl : ∀ (f lv : Nat) (ps : PS) (o : PO), prun f nX10_holds lv ps = some o → ∃ v, o.1 = .inl v := by
  intro f
  induction f with
  | zero => intro lv ps o h; cases h
  | succ f ih =>
    intro lv ps o h
    obtain ⟨pc, pl, st, μ⟩ := ps
    have hM : mtab nX10_holds = some mi_X10_holds := rfl
    rw [prun, hM] at h
    simp only at h
    have hstep : ∀ r, pstep mi_X10_holds (pc, pl, st, μ) = some (.inr r) → ∃ v, r = .inr (.inl v, μ) := by
      intro r hr
      unfold pstep at hr
      simp only at hr
      split at hr
      · cases hr
      · rename_i i ln hl
        have hq : quiet i = true := by
          unfold lk2 at hl
          have hm := lk_mem hl
          by_cases hq : pc / 32 < mi_X10_holds.1.length
          · rw [List.getD_eq_getElem?_getD, List.getElem?_eq_getElem hq, Option.getD_some] at hm
            exact List.all_eq_true.mp (List.all_eq_true.mp holds_quiet _ (List.getElem_mem hq)) _ hm
          · rw [List.getD_eq_getElem?_getD, List.getElem?_eq_none (Nat.le_of_not_lt hq)] at hm
            exact absurd hm List.not_mem_nil
        have fin : ∀ r2 : PCl ⊕ PO, r2 = r → (∀ o9 : PO, r2 = .inr o9 → ∃ v, o9 = (.inl v, μ)) → (∀ x, r2 = .inl x → False) → ∃ v, r = .inr (.inl v, μ) := by
          intro r2 e1 e2 e3
          subst e1
          cases r2 with
          | inl x => exact (e3 x rfl).elim
          | inr o9 => obtain ⟨v, rfl⟩ := e2 o9 rfl; exact ⟨v, rfl⟩
        rcases pex_inr hr with ⟨ix, rfl, hA⟩ | ⟨ix, rfl, hA⟩ | ⟨ix, rfl, hA⟩ | ⟨-, hA⟩ | ⟨-, hA⟩ | ⟨-, hA⟩ | ⟨-, hA⟩ | ⟨-, hA⟩
        · cases hq
        · cases hq
        · cases hq
        · refine fin r rfl (fun o9 q => art_mu (by rw [← q]; exact hA)) (fun x q => ?_)
          subst q
          unfold art at hA; split at hA <;> cases hA
        · refine fin r rfl (fun o9 q => drt_mu (by rw [← q]; exact hA)) (fun x q => ?_)
          subst q
          unfold drt at hA; split at hA <;> cases hA
        · refine fin r rfl (fun o9 q => irt_mu (by rw [← q]; exact hA)) (fun x q => ?_)
          subst q
          unfold irt at hA
          split at hA
          · split at hA
            · cases hA
            · split at hA <;> cases hA
            · cases hA
          · cases hA
        · refine fin r rfl (fun o9 q => jrt_mu (by rw [← q]; exact hA)) (fun x q => ?_)
          subst q
          unfold jrt at hA; split at hA <;> cases hA
        · refine fin r rfl (fun o9 q => vrt_mu (by rw [← q]; exact hA)) (fun x q => ?_)
          subst q
          unfold vrt at hA; split at hA <;> cases hA
    split at h
    · cases h
    · exact ih _ _ _ h
    · rename_i o1 hs
      obtain ⟨v, hv⟩ := hstep _ hs
      cases hv; cases h
      exact ⟨v, rfl⟩
    · rename_i hs
      obtain ⟨v, hv⟩ := hstep _ hs
      cases hv
theorem lvl_big {n lv : Nat} {as : List Value} (h : lvl n as < lv) (hb : lv ≤ 1000000) : lvl n as < 1000000 := Nat.lt_of_lt_of_le h hb
theorem runP (hst : l.stackTraces = false) (hL : LD N0 L) (hXN : L 390 < N0) : ∀ f, RunP l N0 L D cA f := by
  intro f
  induction f with
  | zero => intro n lv pc pl st μ o M _ hM h; cases h
  | succ f ih =>
    intro n lv pc pl st μ o M hlb hM h hoB p e R s m args below meth c H locs Q c0 s0 b μ0 ls cx hRf hRl hb hRc hRs hz0 hsc ha kE
    refine W_size (fun hzz => ?_)
    have hz : H.size ≤ L 430 + μ.2.2.2 := by omega
    have hok := prun_ok _ _ _ _ _ h
    rw [prun, hM] at h
    simp only at h
    have hstep : ∀ r, pstep M (pc, pl, st, μ) = some r → ∃ i ln, lk2 M.1 pc = some (i, ln) ∧ pex M i ln pc pl st μ = some r := by
      intro r hr
      unfold pstep at hr
      simp only at hr
      split at hr
      · cases hr
      · rename_i i ln hl
        exact ⟨i, ln, hl, hr⟩
    have hle : μ.2.2.2 ≤ o.2.2.2.2 := hok.2.1
    split at h
    · cases h
    · -- a step
      rename_i s' hs
      obtain ⟨pc1, pl1, st1, μ1⟩ := s'
      obtain ⟨i, ln, hlk, hp⟩ := hstep _ hs
      obtain ⟨k1, k2⟩ := pstep_sc hs
      simp only at k1 k2
      have hle1 := (prun_ok _ _ _ _ _ h).2.1
      simp only at hle1
      by_cases hnw : i = .newarray .int
      · subst hnw
        obtain ⟨r, e1, e2, e3, e4, e5⟩ := nwA_inv (show nwA pc pl st μ = some (.inl (pc1, pl1, st1, μ1)) from hp)
        have em : μ1.2.2.2 = μ.2.2.2 + 1 := by rw [e5]; rfl
        refine sim_newa cx hM hlk (show nwA pc pl st μ = some (.inl (pc1, pl1, st1, μ1)) from hp) hL hz (by omega) (by omega) ha (fun ls' H' locs' hLR hP hD hS => ?_)
        have := ih n lv pc1 pl1 st1 μ1 o M hlb hM h hoB p e R s m args below meth c H' locs' Q c0 s0 b μ0 ls' cx hRf hRl (by omega) hRc hRs hz0 (hsc.tr k1) ⟨hLR, hP, hD, hS⟩ kE
        have ec : c0 + (μ.2.2.2 - b) + 1 = c0 + (μ1.2.2.2 - b) := by omega
        have es : s0 + 30 * (μ.2.2.2 - b) + 30 = s0 + 30 * (μ1.2.2.2 - b) := by omega
        rw [ec, es]
        exact this
      · have k2 : μ1.2.2.2 = μ.2.2.2 := (pex_sc hnw hp).2
        refine sim_step cx hM hlk hp hnw hsc (by omega) (by omega) (by omega) (by omega) rfl ha (fun ls' H' locs' hLR hP hD hS => ?_)
        have := ih n lv pc1 pl1 st1 μ1 o M hlb hM h hoB p e R s m args below meth c H' locs' Q c0 s0 b μ0 ls' cx hRf hRl (by rw [k2]; exact hb) hRc hRs hz0 (hsc.tr k1) ⟨hLR, hP, hD, hS⟩ kE
        rw [k2] at this
        exact this
    · -- the end
      rename_i o1 hs
      cases h
      obtain ⟨i, ln, hlk, hp⟩ := hstep _ hs
      exact kE pc pl st μ ls H locs i ln hlk hp hsc hb ha
    · -- a call
      rename_i d as pc1 ls1 st1 μ1 hs
      obtain ⟨i, ln, hlk, hp⟩ := hstep _ hs
      have hμ := call_mu hp
      subst hμ
      by_cases hlv : lvl d as < lv
      · rw [if_pos hlv] at h
        split at h
        · cases h
        · rename_i o1 ho
          have hok1 := prun_ok _ _ _ _ _ ho
          obtain ⟨Md, hMd⟩ : ∃ Md, mtab d = some Md := by
            cases hq : mtab d with
            | some Md => exact ⟨Md, rfl⟩
            | none =>
              cases f with
              | zero => cases ho
              | succ f => rw [prun, hq] at ho; cases ho
          have hbig : lvl d as < 1000000 := Nat.lt_trans hlv hlb
          have hsc1 : Sc μ0 o1.2 := hsc.tr hok1.1
          have hex1 : μ1.2.2.2 ≤ o1.2.2.2.2 := hok1.2.1
          -- behind it
          have hend : o1.2.2.2.2 ≤ o.2.2.2.2 := by
            split at h
            · rename_i s' ha9
              have := (prun_ok _ _ _ _ _ h).2.1
              rw [aft_mu ha9] at this
              exact this
            · rename_i o2 ha9
              cases h
              obtain ⟨k, hk, rfl, -⟩ := aft_end ha9
              exact Nat.le_refl _
            · cases h
          have hoB1 : o1.2.2.2.2 < 1000000 := Nat.lt_of_le_of_lt hend hoB
          have hm := metO_of hst hL hXN ih hMd hbig hoB1 ho
          have hdlk := (mok hM).1.at hlk
          have fin : pc1 = pc → ls1 = pl → (hr : vx_Run p l e R s m args below meth c H locs (c0 + (μ1.2.2.2 - b)) (s0 + 30 * (μ1.2.2.2 - b)) (o1.2.2.2.2 - μ1.2.2.2) (30 * (o1.2.2.2.2 - μ1.2.2.2)) (F0 m pc ls (st.map (lf L))) (st1.map (lf L)) (QO N0 L D cA o1 (as.map (lf L)).toArray) (XO N0 L D cA o1) (jA N0)) →
              W p l e R s m args below meth c H locs (c0 + (μ1.2.2.2 - b)) (s0 + 30 * (μ1.2.2.2 - b)) Q (F0 m pc ls (st.map (lf L))) := by
            intro e1 e2 hr
            subst e1; subst e2
            have ec : c0 + (μ1.2.2.2 - b) + (o1.2.2.2.2 - μ1.2.2.2) = c0 + (o1.2.2.2.2 - b) := by omega
            have es : s0 + 30 * (μ1.2.2.2 - b) + 30 * (o1.2.2.2.2 - μ1.2.2.2) = s0 + 30 * (o1.2.2.2.2 - b) := by omega
            refine sim_call hr ha.2.2.2 ?_ ?_
            · intro v H1 locs1 hv hP1 hS1
              rw [ec, es]
              obtain ⟨o1a, μ2⟩ := o1
              simp only at hv
              subst hv
              have haft : aft M pc1 ls1 st1 (.inl v, μ2) = some (.inl (pc1 + 3, ls1, v.toList ++ st1, μ2)) := by cases v <;> rfl
              rw [haft] at h
              simp only at h
              have := ih n lv (pc1 + 3) ls1 (v.toList ++ st1) μ2 o M hlb hM h hoB p e R s m args below meth c H1 locs1 Q c0 s0 b μ0 ls cx hRf hRl (Nat.le_trans hb hex1) hRc hRs hz0 hsc1 ⟨ha.1, hP1, WS_D hL, hS1⟩ kE
              have e9 : (v.toList ++ st1).map (lf L) = (v.map (lf L)).toList ++ st1.map (lf L) := by cases v <;> simp
              rw [e9] at this
              exact this
            · intro k H1 locs1 q ce hk hP1 hS1 hc1 hc2 hc3
              have := hok1.2.2 k hk
              omega
          have c1 : c0 + (μ1.2.2.2 - b) + (o1.2.2.2.2 - μ1.2.2.2) ≤ R.cells := by omega
          have c2 : s0 + 30 * (μ1.2.2.2 - b) + 30 * (o1.2.2.2.2 - μ1.2.2.2) ≤ R.slots := by omega
          rcases pex_inr hp with ⟨ix, rfl, hA⟩ | ⟨ix, rfl, hA⟩ | ⟨ix, -, hA⟩ | ⟨-, hA⟩ | ⟨-, hA⟩ | ⟨-, hA⟩ | ⟨-, hA⟩ | ⟨-, hA⟩
          · have hq := Nat.eq_of_beq_eq_true hdlk.2
            subst hq
            obtain ⟨na, ci, k, he, hk, hcat, hcls, has, e1, e2, e3, -⟩ := ivV_call hA
            exact fin e1.symm e2.symm (go_V cx hM hMd hA hdlk.1 hm (by omega) (by omega) c1 c2 hsc rfl hz ha)
          · have hq := Nat.eq_of_beq_eq_true hdlk.2
            subst hq
            obtain ⟨tg, na, z, htg, he, hna, hcat, has, e1, e2, e3, -⟩ := ivS_call hA
            subst e3
            rcases htg with rfl | rfl
            · exact fin e1.symm e2.symm (go_S9 cx hM hMd he hna hcat has hdlk.1 hm (by omega) (by omega) c1 c2 hsc rfl hz ha)
            · have hd : d = nX10_holds := by
                have := ((mok hM).2.1 ix).2.2
                rw [he] at this
                exact (this.2 rfl).2
              subst hd
              obtain ⟨v, hv⟩ := holds_inl _ _ _ _ ho
              obtain ⟨o1a, μ2⟩ := o1
              simp only at hv
              subst hv
              exact fin e1.symm e2.symm (go_S10 cx hM hMd he hna hcat has hdlk.1 hm (by omega) (by omega) c1 c2 hsc rfl hz ha)
          · obtain ⟨_, _, _, _, q⟩ := thr_inv hA; cases q
          · unfold art at hA; split at hA <;> cases hA
          · unfold drt at hA; split at hA <;> cases hA
          · unfold irt at hA
            split at hA
            · split at hA
              · cases hA
              · split at hA <;> cases hA
              · cases hA
            · cases hA
          · unfold jrt at hA; split at hA <;> cases hA
          · unfold vrt at hA; split at hA <;> cases hA
      · rw [if_neg hlv] at h; cases h
end RUNP
end
