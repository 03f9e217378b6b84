/-! RECORDS OF THE METHODS, AND WHERE THEIR WORDS STAND, by program (wip/p32/gen.py) -/
section REC
abbrev MR : Type := MethodName × ByteArray × Option FieldType × List (Nat × Nat × Nat × Nat)
def mr_X1_copyFrom : MR := (yX1_copyFrom, cX1_copyFrom, none, [])
def mr_X1_isQuietAt : MR := (yX1_isQuietAt, cX1_isQuietAt, (some .boolean), [])
def mr_X1_distanceTo : MR := (yX1_distanceTo, cX1_distanceTo, (some .int), [])
def mr_X1_tunesPlayed : MR := (yX1_tunesPlayed, cX1_tunesPlayed, (some .int), [])
def mr_X1_noteTune : MR := (yX1_noteTune, cX1_noteTune, none, [])
def mr_X1_forgetDay : MR := (yX1_forgetDay, cX1_forgetDay, none, [])
def mr_X2_signCount : MR := (yX2_signCount, cX2_signCount, (some .int), [])
def mr_X2_fits : MR := (yX2_fits, cX2_fits, (some .boolean), [])
def mr_X3_kindAt : MR := (yX3_kindAt, cX3_kindAt, (some (.object "OrganCorners$OrderKind")), [])
def mr_X3_errorIndex : MR := (yX3_errorIndex, cX3_errorIndex, (some .int), [])
def mr_X3_isWholeRow : MR := (yX3_isWholeRow, cX3_isWholeRow, (some .boolean), [])
def mr_X3_organAt : MR := (yX3_organAt, cX3_organAt, (some .int), [])
def mr_X3_tuneAt : MR := (yX3_tuneAt, cX3_tuneAt, (some .int), [])
def mr_X4_copyFrom : MR := (yX4_copyFrom, cX4_copyFrom, none, [])
def mr_X5_lookAt : MR := (yX5_lookAt, cX5_lookAt, none, [])
def mr_X5_leastHindering : MR := (yX5_leastHindering, cX5_leastHindering, (some .int), [])
def mr_X5_hinderedPairs : MR := (yX5_hinderedPairs, cX5_hinderedPairs, (some .int), [])
def mr_X5_findMost : MR := (yX5_findMost, cX5_findMost, none, [])
def mr_X5_takingsOf : MR := (yX5_takingsOf, cX5_takingsOf, (some .int), [])
def mr_X5_nearAhead : MR := (yX5_nearAhead, cX5_nearAhead, (some .int), [])
def mr_X5_findTunes : MR := (yX5_findTunes, cX5_findTunes, (some .boolean), [])
def mr_X5_isFree : MR := (yX5_isFree, cX5_isFree, (some .boolean), [])
def mr_X6_reckon : MR := (yX6_reckon, cX6_reckon, none, [])
def mr_X6_sharePot : MR := (yX6_sharePot, cX6_sharePot, none, [])
def mr_X6_giveUnits : MR := (yX6_giveUnits, cX6_giveUnits, none, [])
def mr_X6_giveAllowances : MR := (yX6_giveAllowances, cX6_giveAllowances, none, [])
def mr_X7_copyFrom : MR := (yX7_copyFrom, cX7_copyFrom, none, [])
def mr_X7_hoursOfDay : MR := (yX7_hoursOfDay, cX7_hoursOfDay, (some .int), [])
def mr_X7_forgetDay : MR := (yX7_forgetDay, cX7_forgetDay, none, [])
def mr_X8_save : MR := (yX8_save, cX8_save, none, [])
def mr_X9_copyFrom : MR := (yX9_copyFrom, cX9_copyFrom, none, [])
def mr_X9_hasCornerAt : MR := (yX9_hasCornerAt, cX9_hasCornerAt, (some .boolean), [])
def mr_X9_permits : MR := (yX9_permits, cX9_permits, (some .int), [])
def mr_X9_crewSize : MR := (yX9_crewSize, cX9_crewSize, (some .int), [])
def mr_X9_organAt : MR := (yX9_organAt, cX9_organAt, (some .int), [])
def mr_X9_cornerOf : MR := (yX9_cornerOf, cX9_cornerOf, (some (.object "OrganCorners$Corner")), [])
def mr_X9_takingsSoFar : MR := (yX9_takingsSoFar, cX9_takingsSoFar, (some .int), [])
def mr_X9_ownersSoFar : MR := (yX9_ownersSoFar, cX9_ownersSoFar, (some .int), [])
def mr_X9_inAllPots : MR := (yX9_inAllPots, cX9_inAllPots, (some .int), [])
def mr_X9_playersSoFar : MR := (yX9_playersSoFar, cX9_playersSoFar, (some .int), [])
def mr_X9_weatherMayChange : MR := (yX9_weatherMayChange, cX9_weatherMayChange, (some .boolean), [])
def mr_X9_lotsMayBeDrawn : MR := (yX9_lotsMayBeDrawn, cX9_lotsMayBeDrawn, (some .boolean), [])
def mr_X9_drawLots : MR := (yX9_drawLots, cX9_drawLots, (some .int), [])
def mr_X9_takeCornersBack : MR := (yX9_takeCornersBack, cX9_takeCornersBack, none, [])
def mr_X9_draw : MR := (yX9_draw, cX9_draw, (some .int), [])
def mr_X9_freeCorner : MR := (yX9_freeCorner, cX9_freeCorner, (some .int), [])
def mr_X9_areNear : MR := (yX9_areNear, cX9_areNear, (some .boolean), [])
def mr_X9_tunesHeardAt : MR := (yX9_tunesHeardAt, cX9_tunesHeardAt, (some .int), [])
def mr_X9_reasonAgainstAll : MR := (yX9_reasonAgainstAll, cX9_reasonAgainstAll, (some .int), [])
def mr_X9_reasonAgainst : MR := (yX9_reasonAgainst, cX9_reasonAgainst, (some .int), [])
def mr_X9_playableTunes : MR := (yX9_playableTunes, cX9_playableTunes, (some .int), [])
def mr_X9_playedNear : MR := (yX9_playedNear, cX9_playedNear, (some .int), [])
def mr_X9_takingsFor : MR := (yX9_takingsFor, cX9_takingsFor, (some .int), [])
def mr_X9_playTune : MR := (yX9_playTune, cX9_playTune, (some .int), [])
def mr_X9_divideTakings : MR := (yX9_divideTakings, cX9_divideTakings, none, [])
def mr_X9_addHourOfCrew : MR := (yX9_addHourOfCrew, cX9_addHourOfCrew, none, [])
def mr_X9_endHour : MR := (yX9_endHour, cX9_endHour, none, [])
def mr_X9_payOut : MR := (yX9_payOut, cX9_payOut, none, [])
def mr_X9_beginDay : MR := (yX9_beginDay, cX9_beginDay, none, [])
def mr_X10_addCorner : MR := (yX10_addCorner, cX10_addCorner, (some .int), [])
def mr_X10_addOrgan : MR := (yX10_addOrgan, cX10_addOrgan, (some .int), [])
def mr_X10_addPlayer : MR := (yX10_addPlayer, cX10_addPlayer, (some .int), [])
def mr_X10_permit : MR := (yX10_permit, cX10_permit, (some .int), [])
def mr_X10_barrel : MR := (yX10_barrel, cX10_barrel, (some .int), [])
def mr_X10_assign : MR := (yX10_assign, cX10_assign, (some .int), [])
def mr_X10_set : MR := (yX10_set, cX10_set, (some .int), [])
def mr_X10_lots : MR := (yX10_lots, cX10_lots, (some .int), [])
def mr_X10_weather : MR := (yX10_weather, cX10_weather, (some .int), [])
def mr_X10_play : MR := (yX10_play, cX10_play, (some .int), [])
def mr_X10_next : MR := (yX10_next, cX10_next, (some .int), [])
def mr_X10_append : MR := (yX10_append, cX10_append, (some .int), [])
def mr_X10_clearBuffer : MR := (yX10_clearBuffer, cX10_clearBuffer, (some .int), [])
def mr_X10_run : MR := (yX10_run, cX10_run, (some .int), [])
def mr_X10_corner : MR := (yX10_corner, cX10_corner, (some .int), [])
def mr_X10_organ : MR := (yX10_organ, cX10_organ, (some .int), [])
def mr_X10_player : MR := (yX10_player, cX10_player, (some .int), [])
def mr_X10_hours : MR := (yX10_hours, cX10_hours, (some .int), [])
def mr_X10_count : MR := (yX10_count, cX10_count, (some .int), [])
def mr_X10_setting : MR := (yX10_setting, cX10_setting, (some .int), [])
def mr_X10_whyNot : MR := (yX10_whyNot, cX10_whyNot, (some .int), [])
def mr_X10_ifPlayed : MR := (yX10_ifPlayed, cX10_ifPlayed, (some .int), [])
def mr_X10_kindestTune : MR := (yX10_kindestTune, cX10_kindestTune, (some .int), [])
def mr_X10_most : MR := (yX10_most, cX10_most, (some .int), [])
def mr_X10_ifEnded : MR := (yX10_ifEnded, cX10_ifEnded, (some .int), [])
def mr_X10_playersShare : MR := (yX10_playersShare, cX10_playersShare, (some .double), [])
def mr_X10_requireIndex : MR := (yX10_requireIndex, cX10_requireIndex, none, [])
def mr_X10_requireInRange : MR := (yX10_requireInRange, cX10_requireInRange, none, [])
def mr_X10_requireState : MR := (yX10_requireState, cX10_requireState, none, [])
def mr_X10_asNumber : MR := (yX10_asNumber, cX10_asNumber, (some .int), [])
def mr_X10_holds : MR := (yX10_holds, cX10_holds, (some .boolean), [])
def mr_X10_obey : MR := (yX10_obey, cX10_obey, (some .boolean), [])
def mr_X10_obeyPlay : MR := (yX10_obeyPlay, cX10_obeyPlay, (some .boolean), [])
def mr_L_cell : MR := (yL_cell, cL_cell, (some .int), [])
def mr_L_at : MR := (yL_at, cL_at, (some .int), [])
def mr_L_abs : MR := (yL_abs, cL_abs, (some .int), [])
def mr_L_draw : MR := (yL_draw, cL_draw, (some .int), [])
def mr_L_holder : MR := (yL_holder, cL_holder, (some .int), [])
def mr_L_today : MR := (yL_today, cL_today, (some .int), [])
def mr_L_drawn : MR := (yL_drawn, cL_drawn, (some .int), [])
def mr_L_near : MR := (yL_near, cL_near, (some .boolean), [])
def mr_L_quiet : MR := (yL_quiet, cL_quiet, (some .boolean), [])
def mr_L_heard : MR := (yL_heard, cL_heard, (some .int), [])
def mr_L_crew : MR := (yL_crew, cL_crew, (some .int), [])
def mr_L_why : MR := (yL_why, cL_why, (some .int), [])
def mr_L_takes : MR := (yL_takes, cL_takes, (some .int), [])
def mr_L_play : MR := (yL_play, cL_play, (some .int), [])
def mr_L_ends : MR := (yL_ends, cL_ends, none, [])
def mr_L_next : MR := (yL_next, cL_next, none, [])
def mr_L_told : MR := (yL_told, cL_told, (some .boolean), [])
def mr_L_same : MR := (yL_same, cL_same, none, [])
def mr_L_pairs : MR := (yL_pairs, cL_pairs, (some .int), [])
def mr_L_ahead : MR := (yL_ahead, cL_ahead, (some .boolean), [])
def mr_L_letters : MR := (yL_letters, cL_letters, (some .boolean), [])
def mr_L_runs : MR := (yL_runs, cL_runs, (some .boolean), [])
def mr_L_act : MR := (yL_act, cL_act, (some .boolean), [])
def mr_L_law : MR := (yL_law, cL_law, (some .boolean), [])
def mrt_0 : List MR := [mr_X1_copyFrom, mr_X1_isQuietAt, mr_X1_distanceTo, mr_X1_tunesPlayed, mr_X1_noteTune, mr_X1_forgetDay, mr_X2_signCount, mr_X2_fits, mr_X3_kindAt, mr_X3_errorIndex, mr_X3_isWholeRow, mr_X3_organAt, mr_X3_tuneAt, mr_X4_copyFrom, mr_X5_lookAt, mr_X5_leastHindering]
def mrt_1 : List MR := [mr_X5_hinderedPairs, mr_X5_findMost, mr_X5_takingsOf, mr_X5_nearAhead, mr_X5_findTunes, mr_X5_isFree, mr_X6_reckon, mr_X6_sharePot, mr_X6_giveUnits, mr_X6_giveAllowances, mr_X7_copyFrom, mr_X7_hoursOfDay, mr_X7_forgetDay, mr_X8_save, mr_X9_copyFrom, mr_X9_hasCornerAt]
def mrt_2 : List MR := [mr_X9_permits, mr_X9_crewSize, mr_X9_organAt, mr_X9_cornerOf, mr_X9_takingsSoFar, mr_X9_ownersSoFar, mr_X9_inAllPots, mr_X9_playersSoFar, mr_X9_weatherMayChange, mr_X9_lotsMayBeDrawn, mr_X9_drawLots, mr_X9_takeCornersBack, mr_X9_draw, mr_X9_freeCorner, mr_X9_areNear, mr_X9_tunesHeardAt]
def mrt_3 : List MR := [mr_X9_reasonAgainstAll, mr_X9_reasonAgainst, mr_X9_playableTunes, mr_X9_playedNear, mr_X9_takingsFor, mr_X9_playTune, mr_X9_divideTakings, mr_X9_addHourOfCrew, mr_X9_endHour, mr_X9_payOut, mr_X9_beginDay, mr_X10_addCorner, mr_X10_addOrgan, mr_X10_addPlayer, mr_X10_permit, mr_X10_barrel]
def mrt_4 : List MR := [mr_X10_assign, mr_X10_set, mr_X10_lots, mr_X10_weather, mr_X10_play, mr_X10_next, mr_X10_append, mr_X10_clearBuffer, mr_X10_run, mr_X10_corner, mr_X10_organ, mr_X10_player, mr_X10_hours, mr_X10_count, mr_X10_setting, mr_X10_whyNot]
def mrt_5 : List MR := [mr_X10_ifPlayed, mr_X10_kindestTune, mr_X10_most, mr_X10_ifEnded, mr_X10_playersShare, mr_X10_requireIndex, mr_X10_requireInRange, mr_X10_requireState, mr_X10_asNumber, mr_X10_holds, mr_X10_obey, mr_X10_obeyPlay, mr_L_cell, mr_L_at, mr_L_abs, mr_L_draw]
def mrt_6 : List MR := [mr_L_holder, mr_L_today, mr_L_drawn, mr_L_near, mr_L_quiet, mr_L_heard, mr_L_crew, mr_L_why, mr_L_takes, mr_L_play, mr_L_ends, mr_L_next, mr_L_told, mr_L_same, mr_L_pairs, mr_L_ahead]
def mrt_7 : List MR := [mr_L_letters, mr_L_runs, mr_L_act, mr_L_law]
def mrts : List (List MR) := [mrt_0, mrt_1, mrt_2, mrt_3, mrt_4, mrt_5, mrt_6, mrt_7]
def mr0 : MR := (⟨"", "", ""⟩, ⟨#[]⟩, none, [])
def mrec (n : Nat) : MR := (mrts.getD (n / 16) []).getD (n % 16) mr0
def yN (n : Nat) : MethodName := (mrec n).1
def cw_ (M : MI) (r : MR) : Cond := bif r.2.2.2.isEmpty then Cond.code r.1 r.2.1 M.2.2.2.1 r.2.2.1 else Cond.codeWith r.1 r.2.1 M.2.2.2.1 r.2.2.1 r.2.2.2
def cwN (n : Nat) : Cond := match mtab n with
  | some M => cw_ M (mrec n)
  | none => .initialized ""
def clT (ci : Nat) : vw_C := bif Nat.beq ci 29 then (RX2, TX2, 0) else vwCl.getD ci ("", TX0, 0)
def exn (k : Nat) : String := match k with
  | 1 => "java/lang/IllegalArgumentException"
  | 2 => "java/lang/IllegalStateException"
  | _ => "java/lang/IndexOutOfBoundsException"
def entWs (own : String) (ix : Nat) (e : Ent) : List Cond := match e with
  | (0, ci, j, _) => [.fieldLink own ix (clT ci).1 ((clT ci).2.1 j).2.1 ((clT ci).2.1 j).2.2.1]
  | (1, ci, j, _) => [.fieldLink own ix (clT ci).1 ((clT ci).2.1 j).2.1 ((clT ci).2.1 j).2.2.1]
  | (2, ci, j, _) => [.fieldLink own ix (clT ci).1 ((clT ci).2.1 j).2.1 ((clT ci).2.1 j).2.2.1]
  | (3, ci, j, _) => [.fieldLink own ix (clT ci).1 ((clT ci).2.1 j).2.1 ((clT ci).2.1 j).2.2.1]
  | (4, n, _, .ref ci) => [.methodLink own ix (yN n), .instanceMethod (yN n), .selects (clT ci).1 (yN n) (yN n), .initialized (yN n).cls, cwN n]
  | (9, n, _, _) => [.methodLink own ix (yN n), .static (yN n), .initialized (yN n).cls, cwN n]
  | (10, n, _, _) => [.static (yN n), .initialized (yN n).cls, cwN n]
  | (6, _, _, .int v) => [.constant own ix v]
  | (6, _, _, .long v) => [.constantLong own ix v]
  | (6, _, _, .double v) => [.constantDouble own ix v]
  | (7, k, _, _) => [.classLink own ix (exn k)]
  | (8, 29, 0, _) => [.fieldLink own ix "OrganCorners$OrderKind" "least" "Ljava/lang/String;"]
  | (8, 29, 1, _) => [.fieldLink own ix "OrganCorners$OrderKind" "greatest" "Ljava/lang/String;"]
  | (12, 400, _, _) => [.fieldLink own ix "OrganCorners" "GREATEST_SETTINGS" "[I"]
  | (12, 402, _, _) => [.fieldLink own ix "OrganCorners$1" "$SwitchMap$OrganCorners$OrderKind" "[I"]
  | (12, 411, _, _) => [.fieldLink own ix "OrganCorners$OrderKind" "WET" "LOrganCorners$OrderKind;"]
  | (5, 0, _, _) => [.methodLink own ix Lib.Math.max.name, .static Lib.Math.max.name, .initialized "java/lang/Math", .code Lib.Math.max.name Lib.Math.max.code 2 (some .int)]
  | (5, 1, _, _) => [.methodLink own ix Lib.Math.min.name, .static Lib.Math.min.name, .initialized "java/lang/Math", .code Lib.Math.min.name Lib.Math.min.code 2 (some .int)]
  | (5, 2, _, _) => [.methodLink own ix Lib.Math.abs.name, .static Lib.Math.abs.name, .initialized "java/lang/Math", .code Lib.Math.abs.name Lib.Math.abs.code 1 (some .int)]
  | (5, 4, _, _) => [.methodLink own ix ⟨"java/lang/Double", "doubleToLongBits", "(D)J"⟩]
  | (13, 5, _, _) => [.methodLink own ix ⟨"java/lang/String", "length", "()I"⟩]
  | (13, 6, _, _) => [.methodLink own ix ⟨"java/lang/String", "charAt", "(I)C"⟩]
  | (13, 7, _, _) => [.methodLink own ix ⟨"OrganCorners$OrderKind", "ordinal", "()I"⟩]
  | (5, 3, _, _) => [.methodLink own ix arraycopyName, .native arraycopyName, .static arraycopyName, .initialized "java/lang/System"]
  | _ => []
def tch : List (List Cond) := [k2_sels lw_privs, tables_1_1, tables_1_2, tables_1_3, tables_1_4, tables_1_5]
def tix (q : Nat × Nat) : Option Cond := (tch.getD q.1 [])[q.2]?
def ixL_L : List (List (Nat × Nat)) := [[(2, 175)], [(4, 44)], [(4, 45)], [(4, 46)], [(4, 47)], [(2, 182), (2, 183), (1, 0), (2, 184)], [(4, 41), (4, 42), (1, 0), (4, 43)], [(3, 4), (3, 5), (1, 0), (3, 6)], [(3, 1), (3, 2), (1, 0), (3, 3)], [(3, 15), (3, 16), (1, 0), (3, 17)], [(2, 235), (2, 236), (1, 0), (2, 237)], [(2, 238), (2, 239), (1, 0), (3, 0)], [(3, 115), (3, 116), (1, 0), (3, 117)], [(3, 140), (3, 141), (1, 0), (3, 142)], [(2, 185), (2, 186), (2, 187), (1, 1), (2, 188)], [(3, 7), (3, 8), (3, 9), (1, 1), (3, 10)], [(3, 18), (3, 19), (3, 20), (1, 1), (3, 21)], [(3, 26), (3, 27), (3, 28), (1, 1), (3, 29)], [(2, 78), (2, 79), (2, 80), (1, 1), (2, 81)], [(3, 30), (3, 31), (3, 32), (1, 1), (3, 33)], [(3, 34), (3, 35), (1, 0), (3, 36)], [(3, 37), (3, 38), (3, 39), (1, 1), (3, 40)], [(3, 47), (3, 48), (1, 0), (3, 49)], [(3, 44), (3, 45), (1, 0), (3, 46)], [(3, 50), (3, 51), (3, 52), (1, 1), (3, 53)], [(3, 72), (3, 73), (1, 0), (3, 74)], [(3, 75), (3, 76), (3, 77), (1, 1), (3, 78)], [(3, 100), (3, 101), (3, 102), (1, 1), (3, 103)], [(3, 118), (3, 119), (3, 120), (1, 1), (3, 121)], [(3, 143), (3, 144), (3, 145), (1, 1), (3, 146)], [(4, 116), (4, 117), (4, 118), (1, 1), (4, 119)], [(4, 112), (4, 113), (4, 114), (1, 1), (4, 115)], [(2, 176), (2, 177), (1, 0), (2, 178)], [(4, 120), (4, 121), (1, 0), (4, 122)], [(4, 38), (4, 39), (1, 0), (4, 40)], [(4, 81), (4, 82), (1, 0), (4, 83)], [(4, 78), (4, 79), (1, 0), (4, 80)], [(4, 123), (4, 124), (4, 125), (1, 1), (4, 126)], [(3, 170), (3, 171), (3, 172), (1, 1), (3, 173)], [(3, 219), (3, 220), (3, 221), (1, 1), (3, 222)], [(3, 223), (3, 224), (3, 225), (1, 1), (3, 226)], [(3, 227), (3, 228), (3, 229), (1, 1), (3, 230)], [(3, 235), (3, 236), (3, 237), (1, 1), (3, 238)], [(3, 239), (4, 0), (4, 1), (1, 1), (4, 2)], [(4, 3), (4, 4), (4, 5), (1, 1), (4, 6)], [(4, 9), (4, 10), (4, 11), (1, 1), (4, 12)], [(4, 48), (4, 49), (4, 50), (1, 1), (4, 51)], [(4, 56), (4, 57), (4, 58), (1, 1), (4, 59)], [(4, 84), (4, 85), (4, 86), (1, 1), (4, 87)], [(4, 109), (4, 110), (1, 0), (4, 111)], [(2, 179), (2, 180), (1, 0), (2, 181)], [(3, 41), (3, 42), (1, 0), (3, 43)], [(2, 172), (2, 173), (1, 0), (2, 174)], [(4, 226)], [(3, 167), (3, 168), (1, 0), (3, 169)]]
set_option maxRecDepth 100000 in
theorem ek_L : plL_L.map (fun q => entWs RL q.1 q.2) = ixL_L.map (fun is => is.filterMap tix) := rfl
set_option maxRecDepth 100000 in
theorem eg_L : (plL_L.map (fun q => entWs RL q.1 q.2)).all (fun l => l.all goodWord) = true := rfl
def ixL_X1 : List (List (Nat × Nat)) := [[(1, 60)], [(1, 50)], [(1, 53)], [(1, 56)], [(1, 58)], [(3, 209), (1, 156), (1, 155), (1, 6)], [(2, 231), (2, 232), (1, 16), (2, 233)], [(2, 220), (2, 221), (1, 16), (2, 222)]]
set_option maxRecDepth 100000 in
theorem ek_X1 : plL_X1.map (fun q => entWs RX1 q.1 q.2) = ixL_X1.map (fun is => is.filterMap tix) := rfl
set_option maxRecDepth 100000 in
theorem eg_X1 : (plL_X1.map (fun q => entWs RX1 q.1 q.2)).all (fun l => l.all goodWord) = true := rfl
def ixL_X10 : List (List (Nat × Nat)) := [[(2, 62)], [(2, 63)], [(2, 64)], [(2, 65)], [(2, 66)], [(2, 82), (2, 83), (1, 1), (2, 84)], [(1, 168)], [(3, 174), (3, 175), (3, 176), (1, 2), (3, 177)], [(3, 178), (3, 179), (1, 1), (3, 180)], [(3, 197), (3, 198), (3, 199), (1, 7), (3, 200)], [(1, 158)], [(1, 51)], [(1, 54)], [(1, 57)], [(1, 59)], [(1, 173)], [(1, 161)], [(1, 79)], [(1, 176)], [(2, 189), (2, 190), (1, 1), (2, 191)], [(1, 83)], [(3, 231), (3, 232), (3, 233), (1, 2), (3, 234)], [(1, 85)], [(1, 164)], [(1, 127)], [(4, 7)], [(1, 167)], [(4, 13), (4, 14), (4, 15), (1, 2), (4, 16)], [(4, 17), (4, 18), (4, 19), (1, 2), (4, 20)], [(4, 52), (4, 53), (4, 54), (1, 2), (4, 55)], [(1, 183)], [(2, 153), (2, 154), (1, 1), (2, 155)], [(3, 54), (3, 55), (3, 56), (1, 2), (3, 57)], [(4, 60), (4, 61), (4, 62), (1, 2), (4, 63)], [(4, 88), (4, 89), (4, 90), (1, 2), (4, 91)], [(1, 180)], [(2, 15)], [(2, 13)], [(4, 127), (4, 128), (4, 129), (1, 8), (4, 130)], [(2, 85)], [(4, 198), (4, 136), (4, 137), (1, 8), (4, 138)], [(4, 199), (4, 201), (0, 13), (1, 1), (4, 202)], [(4, 225), (4, 194), (4, 195), (1, 24), (4, 196)], [(1, 238)], [(2, 208), (2, 209), (2, 210), (1, 3), (2, 211)], [(2, 212), (2, 213), (2, 214), (1, 2), (2, 215)], [(2, 216), (2, 217), (2, 218), (1, 3), (2, 219)], [(2, 223), (2, 224), (2, 225), (1, 2), (2, 226)], [(1, 89)], [(3, 11), (3, 12), (3, 13), (1, 2), (3, 14)], [(1, 93)], [(1, 96)], [(1, 99)], [(1, 101)], [(3, 22), (3, 23), (3, 24), (1, 5), (3, 25)], [(1, 130)], [(1, 132)], [(1, 135)], [(1, 139)], [(1, 178)], [(1, 185)], [(1, 187)], [(1, 189)], [(2, 156), (2, 157), (2, 158), (1, 2), (2, 159)], [(1, 191)], [(1, 194)], [(2, 160), (2, 161), (2, 162), (1, 2), (2, 163)], [(2, 164), (2, 165), (2, 166), (1, 2), (2, 167)], [(2, 168), (2, 169), (2, 170), (1, 2), (2, 171)], [(3, 104), (3, 84), (3, 85), (1, 2), (3, 86)], [(3, 105), (3, 106), (3, 107), (1, 2), (3, 108)], [(3, 110), (3, 111), (3, 112), (1, 2), (3, 113)], [(3, 79), (3, 80), (3, 81), (1, 10), (3, 82)], [(3, 87), (3, 88), (3, 89), (1, 10), (3, 90)], [(3, 122), (3, 123), (3, 124), (1, 10), (3, 125)], [(2, 50)], [(2, 52)], [(3, 147), (3, 148), (3, 149), (1, 9), (3, 150)], [(2, 28)], [(2, 31)], [(2, 192)], [(3, 181)], [(4, 203)], [(4, 205)], [(4, 211)], [(4, 213), (4, 214), (4, 215), (1, 8), (4, 216)], [(4, 217), (4, 218), (4, 219), (1, 8), (4, 220)], [(4, 221), (4, 223), (0, 14), (1, 1), (4, 224)]]
set_option maxRecDepth 100000 in
theorem ek_X10 : plL_X10.map (fun q => entWs RX10 q.1 q.2) = ixL_X10.map (fun is => is.filterMap tix) := rfl
set_option maxRecDepth 100000 in
theorem eg_X10 : (plL_X10.map (fun q => entWs RX10 q.1 q.2)).all (fun l => l.all goodWord) = true := rfl
def ixL_X2 : List (List (Nat × Nat)) := [[(4, 228)], [(4, 231)], [(4, 145)], [(4, 155)]]
set_option maxRecDepth 100000 in
theorem ek_X2 : plL_X2.map (fun q => entWs RX2 q.1 q.2) = ixL_X2.map (fun is => is.filterMap tix) := rfl
set_option maxRecDepth 100000 in
theorem eg_X2 : (plL_X2.map (fun q => entWs RX2 q.1 q.2)).all (fun l => l.all goodWord) = true := rfl
def ixL_X3 : List (List (Nat × Nat)) := [[(2, 12)], [(2, 14)], [], [(4, 141), (4, 142), (4, 143), (1, 24), (4, 144)], [(4, 135), (4, 136), (4, 137), (1, 8), (4, 138)], [(4, 193), (4, 194), (4, 195), (1, 24), (4, 196)], [(4, 131), (4, 132), (4, 133), (1, 8), (4, 134)]]
set_option maxRecDepth 100000 in
theorem ek_X3 : plL_X3.map (fun q => entWs RX3 q.1 q.2) = ixL_X3.map (fun is => is.filterMap tix) := rfl
set_option maxRecDepth 100000 in
theorem eg_X3 : (plL_X3.map (fun q => entWs RX3 q.1 q.2)).all (fun l => l.all goodWord) = true := rfl
def ixL_X4 : List (List (Nat × Nat)) := [[(1, 87)], [(1, 100)], [(1, 78)], [(1, 81)], [(1, 84)], [(1, 90)], [(1, 94)], [(1, 97)]]
set_option maxRecDepth 100000 in
theorem ek_X4 : plL_X4.map (fun q => entWs RX4 q.1 q.2) = ixL_X4.map (fun is => is.filterMap tix) := rfl
set_option maxRecDepth 100000 in
theorem eg_X4 : (plL_X4.map (fun q => entWs RX4 q.1 q.2)).all (fun l => l.all goodWord) = true := rfl
def ixL_X5 : List (List (Nat × Nat)) := [[(2, 47)], [(2, 48)], [(1, 170)], [(3, 83), (3, 84), (3, 85), (1, 2), (3, 86)], [(3, 69), (1, 1), (3, 70)], [(3, 92), (3, 94), (0, 2), (1, 10), (3, 95)], [(3, 96), (3, 97), (3, 98), (1, 2), (3, 99)], [(2, 49)], [(2, 51)], [(3, 126), (3, 127), (1, 10), (3, 128)], [(3, 134), (3, 135), (1, 10), (3, 136)], [(3, 129), (3, 106), (3, 107), (1, 2), (3, 108)], [(3, 130), (3, 131), (1, 10), (3, 132)], [(3, 133), (3, 111), (3, 112), (1, 2), (3, 113)], [(3, 137), (3, 138), (1, 10), (3, 139)]]
set_option maxRecDepth 100000 in
theorem ek_X5 : plL_X5.map (fun q => entWs RX5 q.1 q.2) = ixL_X5.map (fun is => is.filterMap tix) := rfl
set_option maxRecDepth 100000 in
theorem eg_X5 : (plL_X5.map (fun q => entWs RX5 q.1 q.2)).all (fun l => l.all goodWord) = true := rfl
def ixL_X6 : List (List (Nat × Nat)) := [[(2, 27)], [(2, 30)], [(2, 33)], [(1, 171)], [(3, 151), (3, 153), (0, 3), (1, 9), (3, 154)], [(1, 181)], [(3, 159), (3, 161), (0, 5), (1, 9), (3, 162)], [(1, 160)], [(1, 91)], [(1, 175)], [(1, 163)], [(1, 138)], [(3, 155), (3, 157), (0, 4), (1, 9), (3, 158)], [(1, 193)], [(3, 163), (3, 23), (3, 24), (1, 5), (3, 25)], [(1, 166)], [(3, 164), (3, 165), (1, 16), (3, 166)]]
set_option maxRecDepth 100000 in
theorem ek_X6 : plL_X6.map (fun q => entWs RX6 q.1 q.2) = ixL_X6.map (fun is => is.filterMap tix) := rfl
set_option maxRecDepth 100000 in
theorem eg_X6 : (plL_X6.map (fun q => entWs RX6 q.1 q.2)).all (fun l => l.all goodWord) = true := rfl
def ixL_X7 : List (List (Nat × Nat)) := [[(1, 125)], [(1, 137)], [(1, 128)], [(1, 131)], [(1, 134)], [(3, 218), (1, 156), (1, 155), (1, 6)]]
set_option maxRecDepth 100000 in
theorem ek_X7 : plL_X7.map (fun q => entWs RX7 q.1 q.2) = ixL_X7.map (fun is => is.filterMap tix) := rfl
set_option maxRecDepth 100000 in
theorem eg_X7 : (plL_X7.map (fun q => entWs RX7 q.1 q.2)).all (fun l => l.all goodWord) = true := rfl
def ixL_X8 : List (List (Nat × Nat)) := [[(1, 235)], [(1, 236)], [(1, 237)], [(3, 201), (3, 202), (3, 203), (1, 2), (3, 204)]]
set_option maxRecDepth 100000 in
theorem ek_X8 : plL_X8.map (fun q => entWs RX8 q.1 q.2) = ixL_X8.map (fun is => is.filterMap tix) := rfl
set_option maxRecDepth 100000 in
theorem eg_X8 : (plL_X8.map (fun q => entWs RX8 q.1 q.2)).all (fun l => l.all goodWord) = true := rfl
def ixL_X9 : List (List (Nat × Nat)) := [[(1, 157)], [(1, 159)], [(1, 162)], [(1, 165)], [(1, 184)], [(1, 154), (1, 156), (1, 155), (1, 6)], [(3, 205), (3, 206), (3, 207), (1, 3), (3, 208)], [(3, 210), (3, 211), (3, 212), (1, 4), (3, 213)], [(3, 214), (3, 215), (3, 216), (1, 5), (3, 217)], [(1, 169)], [(1, 172)], [(1, 174)], [(1, 177)], [(1, 179)], [(1, 182)], [(1, 186)], [(1, 188)], [(1, 190)], [(1, 192)], [(1, 52)], [(1, 82)], [(1, 126)], [(1, 88)], [(1, 98)], [(1, 95)], [(1, 92)], [(1, 129)], [(4, 21), (4, 23), (0, 6), (1, 2), (4, 24)], [(4, 25), (4, 27), (0, 7), (1, 2), (4, 28)], [(4, 33), (4, 35), (0, 8), (1, 2), (4, 36)], [(4, 29)], [(4, 30)], [(4, 31)], [(4, 32)], [(4, 37), (2, 213), (2, 214), (1, 2), (2, 215)], [(3, 62), (3, 63), (3, 64), (1, 2), (3, 65)], [(2, 227), (2, 228), (2, 229), (1, 3), (2, 230)], [(2, 234), (2, 217), (2, 218), (1, 3), (2, 219)], [(3, 66), (3, 12), (3, 13), (1, 2), (3, 14)], [(1, 102)], [(3, 67), (2, 209), (2, 210), (1, 3), (2, 211)], [(3, 58), (3, 60), (0, 1), (1, 2), (3, 61)], [(1, 86)], [(3, 69), (1, 1), (3, 70)], [(3, 71), (2, 224), (2, 225), (1, 2), (2, 226)], [(3, 109), (3, 97), (3, 98), (1, 2), (3, 99)], [(1, 55)], [(3, 114), (2, 221), (1, 16), (2, 222)], [(4, 64), (3, 106), (3, 107), (1, 2), (3, 108)], [(4, 65), (3, 111), (3, 112), (1, 2), (3, 113)], [(4, 66), (4, 68), (0, 9), (1, 2), (4, 69)], [(4, 70), (4, 72), (0, 10), (1, 2), (4, 73)], [(4, 74), (4, 75), (4, 76), (1, 3), (4, 77)], [(1, 80)], [(1, 140)], [(1, 136)], [(4, 92), (3, 148), (3, 149), (1, 9), (3, 150)], [(4, 93), (4, 95), (0, 11), (1, 2), (4, 96)], [(4, 97), (4, 99), (0, 12), (1, 2), (4, 100)], [(2, 32)], [(2, 29)], [(1, 133)], [(4, 101), (4, 102), (4, 103), (1, 3), (4, 104)], [(4, 105), (4, 106), (4, 107), (1, 5), (4, 108)]]
set_option maxRecDepth 100000 in
theorem ek_X9 : plL_X9.map (fun q => entWs RX9 q.1 q.2) = ixL_X9.map (fun is => is.filterMap tix) := rfl
set_option maxRecDepth 100000 in
theorem eg_X9 : (plL_X9.map (fun q => entWs RX9 q.1 q.2)).all (fun l => l.all goodWord) = true := rfl
end REC
