/-! RECORDS OF THE METHODS, AND WHERE THEIR WORDS STAND, by program (wip/whole/gen.py) -/
section REC
abbrev MR : Type := MethodName × ByteArray × Option FieldType × List (Nat × Nat × Nat × Nat)
def mr_X1_copyFrom : MR := (yX1_copyFrom, cX1_copyFrom, none, [])
def mr_X1_isQuietAt : MR := (yX1_isQuietAt, cX1_isQuietAt, (some .boolean), [])
def mr_X1_distanceTo : MR := (yX1_distanceTo, cX1_distanceTo, (some .int), [])
def mr_X1_tunesPlayed : MR := (yX1_tunesPlayed, cX1_tunesPlayed, (some .int), [])
def mr_X1_noteTune : MR := (yX1_noteTune, cX1_noteTune, none, [])
def mr_X1_forgetDay : MR := (yX1_forgetDay, cX1_forgetDay, none, [])
def mr_X2_signCount : MR := (yX2_signCount, cX2_signCount, (some .int), [])
def mr_X2_fits : MR := (yX2_fits, cX2_fits, (some .boolean), [])
def mr_X3_kindAt : MR := (yX3_kindAt, cX3_kindAt, (some (.object "OrganCorners$OrderKind")), [])
def mr_X3_errorIndex : MR := (yX3_errorIndex, cX3_errorIndex, (some .int), [])
def mr_X3_isWholeRow : MR := (yX3_isWholeRow, cX3_isWholeRow, (some .boolean), [])
def mr_X3_organAt : MR := (yX3_organAt, cX3_organAt, (some .int), [])
def mr_X3_tuneAt : MR := (yX3_tuneAt, cX3_tuneAt, (some .int), [])
def mr_X4_copyFrom : MR := (yX4_copyFrom, cX4_copyFrom, none, [])
def mr_X5_lookAt : MR := (yX5_lookAt, cX5_lookAt, none, [])
def mr_X5_leastHindering : MR := (yX5_leastHindering, cX5_leastHindering, (some .int), [])
def mr_X5_hinderedPairs : MR := (yX5_hinderedPairs, cX5_hinderedPairs, (some .int), [])
def mr_X5_findMost : MR := (yX5_findMost, cX5_findMost, none, [])
def mr_X5_takingsOf : MR := (yX5_takingsOf, cX5_takingsOf, (some .int), [])
def mr_X5_nearAhead : MR := (yX5_nearAhead, cX5_nearAhead, (some .int), [])
def mr_X5_findTunes : MR := (yX5_findTunes, cX5_findTunes, (some .boolean), [])
def mr_X5_isFree : MR := (yX5_isFree, cX5_isFree, (some .boolean), [])
def mr_X6_reckon : MR := (yX6_reckon, cX6_reckon, none, [])
def mr_X6_sharePot : MR := (yX6_sharePot, cX6_sharePot, none, [])
def mr_X6_giveUnits : MR := (yX6_giveUnits, cX6_giveUnits, none, [])
def mr_X6_giveAllowances : MR := (yX6_giveAllowances, cX6_giveAllowances, none, [])
def mr_X7_copyFrom : MR := (yX7_copyFrom, cX7_copyFrom, none, [])
def mr_X7_hoursOfDay : MR := (yX7_hoursOfDay, cX7_hoursOfDay, (some .int), [])
def mr_X7_forgetDay : MR := (yX7_forgetDay, cX7_forgetDay, none, [])
def mr_X8_save : MR := (yX8_save, cX8_save, none, [])
def mr_X8_restore : MR := (yX8_restore, cX8_restore, none, [])
def mr_X9_copyFrom : MR := (yX9_copyFrom, cX9_copyFrom, none, [])
def mr_X9_hasCornerAt : MR := (yX9_hasCornerAt, cX9_hasCornerAt, (some .boolean), [])
def mr_X9_permits : MR := (yX9_permits, cX9_permits, (some .int), [])
def mr_X9_crewSize : MR := (yX9_crewSize, cX9_crewSize, (some .int), [])
def mr_X9_organAt : MR := (yX9_organAt, cX9_organAt, (some .int), [])
def mr_X9_cornerOf : MR := (yX9_cornerOf, cX9_cornerOf, (some (.object "OrganCorners$Corner")), [])
def mr_X9_takingsSoFar : MR := (yX9_takingsSoFar, cX9_takingsSoFar, (some .int), [])
def mr_X9_ownersSoFar : MR := (yX9_ownersSoFar, cX9_ownersSoFar, (some .int), [])
def mr_X9_inAllPots : MR := (yX9_inAllPots, cX9_inAllPots, (some .int), [])
def mr_X9_playersSoFar : MR := (yX9_playersSoFar, cX9_playersSoFar, (some .int), [])
def mr_X9_weatherMayChange : MR := (yX9_weatherMayChange, cX9_weatherMayChange, (some .boolean), [])
def mr_X9_lotsMayBeDrawn : MR := (yX9_lotsMayBeDrawn, cX9_lotsMayBeDrawn, (some .boolean), [])
def mr_X9_drawLots : MR := (yX9_drawLots, cX9_drawLots, (some .int), [])
def mr_X9_takeCornersBack : MR := (yX9_takeCornersBack, cX9_takeCornersBack, none, [])
def mr_X9_draw : MR := (yX9_draw, cX9_draw, (some .int), [])
def mr_X9_freeCorner : MR := (yX9_freeCorner, cX9_freeCorner, (some .int), [])
def mr_X9_areNear : MR := (yX9_areNear, cX9_areNear, (some .boolean), [])
def mr_X9_tunesHeardAt : MR := (yX9_tunesHeardAt, cX9_tunesHeardAt, (some .int), [])
def mr_X9_reasonAgainstAll : MR := (yX9_reasonAgainstAll, cX9_reasonAgainstAll, (some .int), [])
def mr_X9_reasonAgainst : MR := (yX9_reasonAgainst, cX9_reasonAgainst, (some .int), [])
def mr_X9_playableTunes : MR := (yX9_playableTunes, cX9_playableTunes, (some .int), [])
def mr_X9_playedNear : MR := (yX9_playedNear, cX9_playedNear, (some .int), [])
def mr_X9_takingsFor : MR := (yX9_takingsFor, cX9_takingsFor, (some .int), [])
def mr_X9_playTune : MR := (yX9_playTune, cX9_playTune, (some .int), [])
def mr_X9_divideTakings : MR := (yX9_divideTakings, cX9_divideTakings, none, [])
def mr_X9_addHourOfCrew : MR := (yX9_addHourOfCrew, cX9_addHourOfCrew, none, [])
def mr_X9_endHour : MR := (yX9_endHour, cX9_endHour, none, [])
def mr_X9_payOut : MR := (yX9_payOut, cX9_payOut, none, [])
def mr_X9_beginDay : MR := (yX9_beginDay, cX9_beginDay, none, [])
def mr_X10_addCorner : MR := (yX10_addCorner, cX10_addCorner, (some .int), [])
def mr_X10_addOrgan : MR := (yX10_addOrgan, cX10_addOrgan, (some .int), [])
def mr_X10_addPlayer : MR := (yX10_addPlayer, cX10_addPlayer, (some .int), [])
def mr_X10_permit : MR := (yX10_permit, cX10_permit, (some .int), [])
def mr_X10_barrel : MR := (yX10_barrel, cX10_barrel, (some .int), [])
def mr_X10_assign : MR := (yX10_assign, cX10_assign, (some .int), [])
def mr_X10_set : MR := (yX10_set, cX10_set, (some .int), [])
def mr_X10_lots : MR := (yX10_lots, cX10_lots, (some .int), [])
def mr_X10_weather : MR := (yX10_weather, cX10_weather, (some .int), [])
def mr_X10_play : MR := (yX10_play, cX10_play, (some .int), [])
def mr_X10_next : MR := (yX10_next, cX10_next, (some .int), [])
def mr_X10_append : MR := (yX10_append, cX10_append, (some .int), [])
def mr_X10_clearBuffer : MR := (yX10_clearBuffer, cX10_clearBuffer, (some .int), [])
def mr_X10_firstError : MR := (yX10_firstError, cX10_firstError, (some .int), [])
def mr_X10_run : MR := (yX10_run, cX10_run, (some .int), [])
def mr_X10_undo : MR := (yX10_undo, cX10_undo, (some .int), [])
def mr_X10_corner : MR := (yX10_corner, cX10_corner, (some .int), [])
def mr_X10_organ : MR := (yX10_organ, cX10_organ, (some .int), [])
def mr_X10_player : MR := (yX10_player, cX10_player, (some .int), [])
def mr_X10_hours : MR := (yX10_hours, cX10_hours, (some .int), [])
def mr_X10_count : MR := (yX10_count, cX10_count, (some .int), [])
def mr_X10_setting : MR := (yX10_setting, cX10_setting, (some .int), [])
def mr_X10_whyNot : MR := (yX10_whyNot, cX10_whyNot, (some .int), [])
def mr_X10_ifPlayed : MR := (yX10_ifPlayed, cX10_ifPlayed, (some .int), [])
def mr_X10_kindestTune : MR := (yX10_kindestTune, cX10_kindestTune, (some .int), [])
def mr_X10_most : MR := (yX10_most, cX10_most, (some .int), [])
def mr_X10_ifEnded : MR := (yX10_ifEnded, cX10_ifEnded, (some .int), [])
def mr_X10_playersShare : MR := (yX10_playersShare, cX10_playersShare, (some .double), [])
def mr_X10_digest : MR := (yX10_digest, cX10_digest, (some .long), [])
def mr_X10_requireIndex : MR := (yX10_requireIndex, cX10_requireIndex, none, [])
def mr_X10_requireInRange : MR := (yX10_requireInRange, cX10_requireInRange, none, [])
def mr_X10_requireState : MR := (yX10_requireState, cX10_requireState, none, [])
def mr_X10_asNumber : MR := (yX10_asNumber, cX10_asNumber, (some .int), [])
def mr_X10_holds : MR := (yX10_holds, cX10_holds, (some .boolean), [])
def mr_X10_obey : MR := (yX10_obey, cX10_obey, (some .boolean), [])
def mr_X10_obeyPlay : MR := (yX10_obeyPlay, cX10_obeyPlay, (some .boolean), [])
def mr_X10_mixed : MR := (yX10_mixed, cX10_mixed, (some .long), [])
def mr_X10_withCorner : MR := (yX10_withCorner, cX10_withCorner, (some .long), [])
def mr_X10_withOrgan : MR := (yX10_withOrgan, cX10_withOrgan, (some .long), [])
def mr_X10_withPlayer : MR := (yX10_withPlayer, cX10_withPlayer, (some .long), [])
def mr_X10_withText : MR := (yX10_withText, cX10_withText, (some .long), [])
def mr_X10_bitsOfShare : MR := (yX10_bitsOfShare, cX10_bitsOfShare, (some .long), [])
def mr_X11_thrown : MR := (yX11_thrown, cX11_thrown, (some .int), [])
def mr_X11_fails : MR := (yX11_fails, cX11_fails, (some .int), [])
def mr_X11_within : MR := (yX11_within, cX11_within, (some .boolean), [])
def mr_X11_isCorner : MR := (yX11_isCorner, cX11_isCorner, (some .boolean), [])
def mr_X11_isOrgan : MR := (yX11_isOrgan, cX11_isOrgan, (some .boolean), [])
def mr_X11_isPlayer : MR := (yX11_isPlayer, cX11_isPlayer, (some .boolean), [])
def mr_X11_corner0 : MR := (yX11_corner0, cX11_corner0, (some .int), [])
def mr_X11_organ0 : MR := (yX11_organ0, cX11_organ0, (some .int), [])
def mr_X11_player0 : MR := (yX11_player0, cX11_player0, (some .int), [])
def mr_X11_cornerOf : MR := (yX11_cornerOf, cX11_cornerOf, (some .int), [])
def mr_X11_tuneIn : MR := (yX11_tuneIn, cX11_tuneIn, (some .int), [])
def mr_X11_save : MR := (yX11_save, cX11_save, none, [])
def mr_X11_keep : MR := (yX11_keep, cX11_keep, none, [])
def mr_X11_bring : MR := (yX11_bring, cX11_bring, none, [])
def mr_X11_addCorner : MR := (yX11_addCorner, cX11_addCorner, (some .int), [])
def mr_X11_addOrgan : MR := (yX11_addOrgan, cX11_addOrgan, (some .int), [])
def mr_X11_addPlayer : MR := (yX11_addPlayer, cX11_addPlayer, (some .int), [])
def mr_X11_permits : MR := (yX11_permits, cX11_permits, (some .int), [])
def mr_X11_permit : MR := (yX11_permit, cX11_permit, (some .int), [])
def mr_X11_barrel : MR := (yX11_barrel, cX11_barrel, (some .int), [])
def mr_X11_assign : MR := (yX11_assign, cX11_assign, (some .int), [])
def mr_X11_mostOf : MR := (yX11_mostOf, cX11_mostOf, (some .int), [])
def mr_X11_set : MR := (yX11_set, cX11_set, (some .int), [])
def mr_X11_playedToday : MR := (yX11_playedToday, cX11_playedToday, (some .int), [])
def mr_X11_draw : MR := (yX11_draw, cX11_draw, (some .int), [])
def mr_X11_whoHas : MR := (yX11_whoHas, cX11_whoHas, (some .int), [])
def mr_X11_freeCorners : MR := (yX11_freeCorners, cX11_freeCorners, (some .int), [])
def mr_X11_freeAt : MR := (yX11_freeAt, cX11_freeAt, (some .int), [])
def mr_X11_withCorner : MR := (yX11_withCorner, cX11_withCorner, (some .int), [])
def mr_X11_noCorners : MR := (yX11_noCorners, cX11_noCorners, none, [])
def mr_X11_mayDraw : MR := (yX11_mayDraw, cX11_mayDraw, (some .boolean), [])
def mr_X11_drawLots : MR := (yX11_drawLots, cX11_drawLots, none, [])
def mr_X11_lots : MR := (yX11_lots, cX11_lots, (some .int), [])
def mr_X11_weather : MR := (yX11_weather, cX11_weather, (some .int), [])
def mr_X11_isQuiet : MR := (yX11_isQuiet, cX11_isQuiet, (some .boolean), [])
def mr_X11_areNear : MR := (yX11_areNear, cX11_areNear, (some .boolean), [])
def mr_X11_heardAt : MR := (yX11_heardAt, cX11_heardAt, (some .int), [])
def mr_X11_crewOf : MR := (yX11_crewOf, cX11_crewOf, (some .int), [])
def mr_X11_reason : MR := (yX11_reason, cX11_reason, (some .int), [])
def mr_X11_othersNear : MR := (yX11_othersNear, cX11_othersNear, (some .int), [])
def mr_X11_takings : MR := (yX11_takings, cX11_takings, (some .int), [])
def mr_X11_plays : MR := (yX11_plays, cX11_plays, (some .int), [])
def mr_X11_play : MR := (yX11_play, cX11_play, (some .int), [])
def mr_X11_timeAt : MR := (yX11_timeAt, cX11_timeAt, (some .int), [])
def mr_X11_timeToday : MR := (yX11_timeToday, cX11_timeToday, (some .int), [])
def mr_X11_sharePot : MR := (yX11_sharePot, cX11_sharePot, none, [])
def mr_X11_endDay : MR := (yX11_endDay, cX11_endDay, none, [])
def mr_X11_goOn : MR := (yX11_goOn, cX11_goOn, none, [])
def mr_X11_next : MR := (yX11_next, cX11_next, (some .int), [])
def mr_X11_append : MR := (yX11_append, cX11_append, (some .int), [])
def mr_X11_clearBuffer : MR := (yX11_clearBuffer, cX11_clearBuffer, (some .int), [])
def mr_X11_goes : MR := (yX11_goes, cX11_goes, (some .boolean), [])
def mr_X11_ends : MR := (yX11_ends, cX11_ends, (some .boolean), [])
def mr_X11_begins : MR := (yX11_begins, cX11_begins, (some .boolean), [])
def mr_X11_takes : MR := (yX11_takes, cX11_takes, (some .boolean), [])
def mr_X11_read : MR := (yX11_read, cX11_read, (some .int), [])
def mr_X11_firstError : MR := (yX11_firstError, cX11_firstError, (some .int), [])
def mr_X11_mayDo : MR := (yX11_mayDo, cX11_mayDo, (some .boolean), [])
def mr_X11_does : MR := (yX11_does, cX11_does, none, [])
def mr_X11_run : MR := (yX11_run, cX11_run, (some .int), [])
def mr_X11_undo : MR := (yX11_undo, cX11_undo, (some .int), [])
def mr_X11_playedAt : MR := (yX11_playedAt, cX11_playedAt, (some .int), [])
def mr_X11_cornerNow : MR := (yX11_cornerNow, cX11_cornerNow, (some .int), [])
def mr_X11_corner : MR := (yX11_corner, cX11_corner, (some .int), [])
def mr_X11_organNow : MR := (yX11_organNow, cX11_organNow, (some .int), [])
def mr_X11_organ : MR := (yX11_organ, cX11_organ, (some .int), [])
def mr_X11_playerNow : MR := (yX11_playerNow, cX11_playerNow, (some .int), [])
def mr_X11_player : MR := (yX11_player, cX11_player, (some .int), [])
def mr_X11_hours : MR := (yX11_hours, cX11_hours, (some .int), [])
def mr_X11_ofOrgans : MR := (yX11_ofOrgans, cX11_ofOrgans, (some .int), [])
def mr_X11_playersGot : MR := (yX11_playersGot, cX11_playersGot, (some .int), [])
def mr_X11_counted : MR := (yX11_counted, cX11_counted, (some .int), [])
def mr_X11_count : MR := (yX11_count, cX11_count, (some .int), [])
def mr_X11_setting : MR := (yX11_setting, cX11_setting, (some .int), [])
def mr_X11_whyNot : MR := (yX11_whyNot, cX11_whyNot, (some .int), [])
def mr_X11_tunesOf : MR := (yX11_tunesOf, cX11_tunesOf, (some .int), [])
def mr_X11_playedNow : MR := (yX11_playedNow, cX11_playedNow, (some .int), [])
def mr_X11_ifPlayed : MR := (yX11_ifPlayed, cX11_ifPlayed, (some .int), [])
def mr_X11_size : MR := (yX11_size, cX11_size, (some .int), [])
def mr_X11_pairsBehind : MR := (yX11_pairsBehind, cX11_pairsBehind, (some .int), [])
def mr_X11_kindestNow : MR := (yX11_kindestNow, cX11_kindestNow, (some .int), [])
def mr_X11_kindestTune : MR := (yX11_kindestTune, cX11_kindestTune, (some .int), [])
def mr_X11_canPick : MR := (yX11_canPick, cX11_canPick, (some .boolean), [])
def mr_X11_pickTakings : MR := (yX11_pickTakings, cX11_pickTakings, (some .int), [])
def mr_X11_keepPicks : MR := (yX11_keepPicks, cX11_keepPicks, none, [])
def mr_X11_layMost : MR := (yX11_layMost, cX11_layMost, none, [])
def mr_X11_most : MR := (yX11_most, cX11_most, (some .int), [])
def mr_X11_endedNow : MR := (yX11_endedNow, cX11_endedNow, (some .int), [])
def mr_X11_ifEnded : MR := (yX11_ifEnded, cX11_ifEnded, (some .int), [])
def mr_X11_shareNow : MR := (yX11_shareNow, cX11_shareNow, (some .double), [])
def mr_X11_playersShare : MR := (yX11_playersShare, cX11_playersShare, (some .double), [])
def mr_X11_mix : MR := (yX11_mix, cX11_mix, none, [])
def mr_X11_mixOrgan : MR := (yX11_mixOrgan, cX11_mixOrgan, none, [])
def mr_X11_mixPlayer : MR := (yX11_mixPlayer, cX11_mixPlayer, none, [])
def mr_X11_digest : MR := (yX11_digest, cX11_digest, (some .long), [])
def mr_L_addCorner : MR := (yL_addCorner, cL_addCorner, (some .int), [(0, 14, 17, 13), (0, 14, 21, 15)])
def mr_L_addOrgan : MR := (yL_addOrgan, cL_addOrgan, (some .int), [(0, 9, 12, 13), (0, 9, 15, 15)])
def mr_L_addPlayer : MR := (yL_addPlayer, cL_addPlayer, (some .int), [(0, 8, 11, 15)])
def mr_L_permit : MR := (yL_permit, cL_permit, (some .int), [(0, 10, 13, 29)])
def mr_L_barrel : MR := (yL_barrel, cL_barrel, (some .int), [(0, 10, 13, 29), (0, 10, 17, 13)])
def mr_L_assign : MR := (yL_assign, cL_assign, (some .int), [(0, 10, 13, 29)])
def mr_L_set : MR := (yL_set, cL_set, (some .int), [(0, 10, 13, 29), (0, 10, 17, 13)])
def mr_L_lots : MR := (yL_lots, cL_lots, (some .int), [(0, 8, 11, 15)])
def mr_L_weather : MR := (yL_weather, cL_weather, (some .int), [(0, 9, 12, 15)])
def mr_L_play : MR := (yL_play, cL_play, (some .int), [(0, 10, 13, 29), (0, 10, 17, 13), (0, 10, 21, 15)])
def mr_L_append : MR := (yL_append, cL_append, (some .int), [(0, 9, 12, 13), (0, 9, 15, 15)])
def mr_L_run : MR := (yL_run, cL_run, (some .int), [(0, 8, 11, 13)])
def mr_L_undo : MR := (yL_undo, cL_undo, (some .int), [(0, 8, 11, 15)])
def mr_L_corner : MR := (yL_corner, cL_corner, (some .int), [(0, 10, 13, 29), (0, 10, 17, 13)])
def mr_L_organ : MR := (yL_organ, cL_organ, (some .int), [(0, 10, 13, 29), (0, 10, 17, 13)])
def mr_L_player : MR := (yL_player, cL_player, (some .int), [(0, 10, 13, 29), (0, 10, 17, 13)])
def mr_L_hours : MR := (yL_hours, cL_hours, (some .int), [(0, 10, 13, 29)])
def mr_L_count : MR := (yL_count, cL_count, (some .int), [(0, 9, 12, 13)])
def mr_L_setting : MR := (yL_setting, cL_setting, (some .int), [(0, 9, 12, 29)])
def mr_L_whyNot : MR := (yL_whyNot, cL_whyNot, (some .int), [(0, 10, 13, 29), (0, 10, 17, 13)])
def mr_L_ifPlayed : MR := (yL_ifPlayed, cL_ifPlayed, (some .int), [(0, 9, 12, 29)])
def mr_L_kindestTune : MR := (yL_kindestTune, cL_kindestTune, (some .int), [(0, 9, 12, 29)])
def mr_L_most : MR := (yL_most, cL_most, (some .int), [(0, 9, 12, 13)])
def mr_L_ifEnded : MR := (yL_ifEnded, cL_ifEnded, (some .int), [(0, 9, 12, 29)])
def mr_L_law : MR := (yL_law, cL_law, (some .boolean), [])
def mrt_0 : List MR := [mr_X1_copyFrom, mr_X1_isQuietAt, mr_X1_distanceTo, mr_X1_tunesPlayed, mr_X1_noteTune, mr_X1_forgetDay, mr_X2_signCount, mr_X2_fits, mr_X3_kindAt, mr_X3_errorIndex, mr_X3_isWholeRow, mr_X3_organAt, mr_X3_tuneAt, mr_X4_copyFrom, mr_X5_lookAt, mr_X5_leastHindering]
def mrt_1 : List MR := [mr_X5_hinderedPairs, mr_X5_findMost, mr_X5_takingsOf, mr_X5_nearAhead, mr_X5_findTunes, mr_X5_isFree, mr_X6_reckon, mr_X6_sharePot, mr_X6_giveUnits, mr_X6_giveAllowances, mr_X7_copyFrom, mr_X7_hoursOfDay, mr_X7_forgetDay, mr_X8_save, mr_X8_restore, mr_X9_copyFrom]
def mrt_2 : List MR := [mr_X9_hasCornerAt, mr_X9_permits, mr_X9_crewSize, mr_X9_organAt, mr_X9_cornerOf, mr_X9_takingsSoFar, mr_X9_ownersSoFar, mr_X9_inAllPots, mr_X9_playersSoFar, mr_X9_weatherMayChange, mr_X9_lotsMayBeDrawn, mr_X9_drawLots, mr_X9_takeCornersBack, mr_X9_draw, mr_X9_freeCorner, mr_X9_areNear]
def mrt_3 : List MR := [mr_X9_tunesHeardAt, mr_X9_reasonAgainstAll, mr_X9_reasonAgainst, mr_X9_playableTunes, mr_X9_playedNear, mr_X9_takingsFor, mr_X9_playTune, mr_X9_divideTakings, mr_X9_addHourOfCrew, mr_X9_endHour, mr_X9_payOut, mr_X9_beginDay, mr_X10_addCorner, mr_X10_addOrgan, mr_X10_addPlayer, mr_X10_permit]
def mrt_4 : List MR := [mr_X10_barrel, mr_X10_assign, mr_X10_set, mr_X10_lots, mr_X10_weather, mr_X10_play, mr_X10_next, mr_X10_append, mr_X10_clearBuffer, mr_X10_firstError, mr_X10_run, mr_X10_undo, mr_X10_corner, mr_X10_organ, mr_X10_player, mr_X10_hours]
def mrt_5 : List MR := [mr_X10_count, mr_X10_setting, mr_X10_whyNot, mr_X10_ifPlayed, mr_X10_kindestTune, mr_X10_most, mr_X10_ifEnded, mr_X10_playersShare, mr_X10_digest, mr_X10_requireIndex, mr_X10_requireInRange, mr_X10_requireState, mr_X10_asNumber, mr_X10_holds, mr_X10_obey, mr_X10_obeyPlay]
def mrt_6 : List MR := [mr_X10_mixed, mr_X10_withCorner, mr_X10_withOrgan, mr_X10_withPlayer, mr_X10_withText, mr_X10_bitsOfShare, mr_X11_thrown, mr_X11_fails, mr_X11_within, mr_X11_isCorner, mr_X11_isOrgan, mr_X11_isPlayer, mr_X11_corner0, mr_X11_organ0, mr_X11_player0, mr_X11_cornerOf]
def mrt_7 : List MR := [mr_X11_tuneIn, mr_X11_save, mr_X11_keep, mr_X11_bring, mr_X11_addCorner, mr_X11_addOrgan, mr_X11_addPlayer, mr_X11_permits, mr_X11_permit, mr_X11_barrel, mr_X11_assign, mr_X11_mostOf, mr_X11_set, mr_X11_playedToday, mr_X11_draw, mr_X11_whoHas]
def mrt_8 : List MR := [mr_X11_freeCorners, mr_X11_freeAt, mr_X11_withCorner, mr_X11_noCorners, mr_X11_mayDraw, mr_X11_drawLots, mr_X11_lots, mr_X11_weather, mr_X11_isQuiet, mr_X11_areNear, mr_X11_heardAt, mr_X11_crewOf, mr_X11_reason, mr_X11_othersNear, mr_X11_takings, mr_X11_plays]
def mrt_9 : List MR := [mr_X11_play, mr_X11_timeAt, mr_X11_timeToday, mr_X11_sharePot, mr_X11_endDay, mr_X11_goOn, mr_X11_next, mr_X11_append, mr_X11_clearBuffer, mr_X11_goes, mr_X11_ends, mr_X11_begins, mr_X11_takes, mr_X11_read, mr_X11_firstError, mr_X11_mayDo]
def mrt_10 : List MR := [mr_X11_does, mr_X11_run, mr_X11_undo, mr_X11_playedAt, mr_X11_cornerNow, mr_X11_corner, mr_X11_organNow, mr_X11_organ, mr_X11_playerNow, mr_X11_player, mr_X11_hours, mr_X11_ofOrgans, mr_X11_playersGot, mr_X11_counted, mr_X11_count, mr_X11_setting]
def mrt_11 : List MR := [mr_X11_whyNot, mr_X11_tunesOf, mr_X11_playedNow, mr_X11_ifPlayed, mr_X11_size, mr_X11_pairsBehind, mr_X11_kindestNow, mr_X11_kindestTune, mr_X11_canPick, mr_X11_pickTakings, mr_X11_keepPicks, mr_X11_layMost, mr_X11_most, mr_X11_endedNow, mr_X11_ifEnded, mr_X11_shareNow]
def mrt_12 : List MR := [mr_X11_playersShare, mr_X11_mix, mr_X11_mixOrgan, mr_X11_mixPlayer, mr_X11_digest, mr_L_addCorner, mr_L_addOrgan, mr_L_addPlayer, mr_L_permit, mr_L_barrel, mr_L_assign, mr_L_set, mr_L_lots, mr_L_weather, mr_L_play, mr_L_append]
def mrt_13 : List MR := [mr_L_run, mr_L_undo, mr_L_corner, mr_L_organ, mr_L_player, mr_L_hours, mr_L_count, mr_L_setting, mr_L_whyNot, mr_L_ifPlayed, mr_L_kindestTune, mr_L_most, mr_L_ifEnded, mr_L_law]
def mrts : List (List MR) := [mrt_0, mrt_1, mrt_2, mrt_3, mrt_4, mrt_5, mrt_6, mrt_7, mrt_8, mrt_9, mrt_10, mrt_11, mrt_12, mrt_13]
def mr0 : MR := (⟨"", "", ""⟩, ⟨#[]⟩, none, [])
def mrec (n : Nat) : MR := (mrts.getD (n / 16) []).getD (n % 16) mr0
def yN (n : Nat) : MethodName := (mrec n).1
def cw_ (M : MI) (r : MR) : Cond := bif r.2.2.2.isEmpty then Cond.code r.1 r.2.1 M.2.2.2.1 r.2.2.1 else Cond.codeWith r.1 r.2.1 M.2.2.2.1 r.2.2.1 r.2.2.2
def cwN (n : Nat) : Cond := match mtab n with
  | some M => cw_ M (mrec n)
  | none => .initialized ""
def clT (ci : Nat) : vw_C := bif Nat.beq ci 29 then (RX2, TX2, 0) else vwCl.getD ci ("", TX0, 0)
def exn (k : Nat) : String := match k with
  | 1 => "java/lang/IllegalArgumentException"
  | 2 => "java/lang/IllegalStateException"
  | _ => "java/lang/IndexOutOfBoundsException"
def entWs (own : String) (ix : Nat) (e : Ent) : List Cond := match e with
  | (0, ci, j, _) => [.fieldLink own ix (clT ci).1 ((clT ci).2.1 j).2.1 ((clT ci).2.1 j).2.2.1]
  | (1, ci, j, _) => [.fieldLink own ix (clT ci).1 ((clT ci).2.1 j).2.1 ((clT ci).2.1 j).2.2.1]
  | (2, ci, j, _) => [.fieldLink own ix (clT ci).1 ((clT ci).2.1 j).2.1 ((clT ci).2.1 j).2.2.1]
  | (3, ci, j, _) => [.fieldLink own ix (clT ci).1 ((clT ci).2.1 j).2.1 ((clT ci).2.1 j).2.2.1]
  | (4, n, _, .ref ci) => [.methodLink own ix (yN n), .instanceMethod (yN n), .selects (clT ci).1 (yN n) (yN n), .initialized (yN n).cls, cwN n]
  | (9, n, _, _) => [.methodLink own ix (yN n), .static (yN n), .initialized (yN n).cls, cwN n]
  | (10, n, _, _) => [.static (yN n), .initialized (yN n).cls, cwN n]
  | (6, _, _, .int v) => [.constant own ix v]
  | (6, _, _, .long v) => [.constantLong own ix v]
  | (6, _, _, .double v) => [.constantDouble own ix v]
  | (7, k, _, _) => [.classLink own ix (exn k)]
  | (8, 29, 0, _) => [.fieldLink own ix "OrganCorners$OrderKind" "least" "Ljava/lang/String;"]
  | (8, 29, 1, _) => [.fieldLink own ix "OrganCorners$OrderKind" "greatest" "Ljava/lang/String;"]
  | (12, 400, _, _) => [.fieldLink own ix "OrganCorners" "GREATEST_SETTINGS" "[I"]
  | (12, 402, _, _) => [.fieldLink own ix "OrganCorners$1" "$SwitchMap$OrganCorners$OrderKind" "[I"]
  | (12, 411, _, _) => [.fieldLink own ix "OrganCorners$OrderKind" "WET" "LOrganCorners$OrderKind;"]
  | (5, 0, _, _) => [.methodLink own ix Lib.Math.max.name, .static Lib.Math.max.name, .initialized "java/lang/Math", .code Lib.Math.max.name Lib.Math.max.code 2 (some .int)]
  | (5, 1, _, _) => [.methodLink own ix Lib.Math.min.name, .static Lib.Math.min.name, .initialized "java/lang/Math", .code Lib.Math.min.name Lib.Math.min.code 2 (some .int)]
  | (5, 2, _, _) => [.methodLink own ix Lib.Math.abs.name, .static Lib.Math.abs.name, .initialized "java/lang/Math", .code Lib.Math.abs.name Lib.Math.abs.code 1 (some .int)]
  | (5, 4, _, _) => [.methodLink own ix ⟨"java/lang/Double", "doubleToLongBits", "(D)J"⟩]
  | (13, 5, _, _) => [.methodLink own ix ⟨"java/lang/String", "length", "()I"⟩]
  | (13, 6, _, _) => [.methodLink own ix ⟨"java/lang/String", "charAt", "(I)C"⟩]
  | (13, 7, _, _) => [.methodLink own ix ⟨"OrganCorners$OrderKind", "ordinal", "()I"⟩]
  | (5, 3, _, _) => [.methodLink own ix arraycopyName, .native arraycopyName, .static arraycopyName, .initialized "java/lang/System"]
  | _ => []
def tch : List (List Cond) := [k2_sels lw_privs, tables_1_1, tables_1_2, tables_1_3, tables_1_4, tables_1_5, tables_1_6, tables_1_7]
def tix (q : Nat × Nat) : Option Cond := (tch.getD q.1 [])[q.2]?
def ixL_L : List (List (Nat × Nat)) := [[(4, 42), (4, 43), (4, 44), (1, 1), (4, 45)], [(4, 72), (4, 73), (4, 74), (1, 1), (4, 75)], [(4, 79), (4, 80), (4, 81), (1, 1), (4, 82)], [(4, 87), (4, 88), (4, 89), (1, 1), (4, 90)], [(4, 98), (4, 99), (4, 100), (1, 1), (4, 101)], [(4, 105), (4, 106), (4, 107), (1, 1), (4, 108)], [(4, 112), (4, 113), (4, 114), (1, 1), (4, 115)], [(4, 121), (4, 122), (4, 123), (1, 1), (4, 124)], [(4, 149), (4, 150), (4, 151), (1, 1), (4, 152)], [(4, 160), (4, 161), (4, 162), (1, 1), (4, 163)], [(4, 185), (4, 186), (4, 187), (1, 1), (4, 188)], [(4, 192), (4, 193), (4, 194), (1, 1), (4, 195)], [(4, 233), (4, 234), (4, 235), (1, 1), (4, 236)], [(5, 4), (3, 122), (3, 123), (1, 1), (3, 124)], [(5, 8), (3, 157), (3, 158), (1, 1), (3, 159)], [(5, 12), (3, 231), (3, 232), (1, 1), (3, 233)], [(5, 16), (3, 236), (3, 237), (1, 1), (3, 238)], [(5, 20), (3, 5), (3, 6), (1, 1), (3, 7)], [(5, 24), (3, 95), (3, 96), (1, 1), (3, 97)], [(5, 28), (3, 165), (3, 166), (1, 1), (3, 167)], [(5, 32), (3, 187), (3, 188), (1, 1), (3, 189)], [(5, 36), (3, 208), (3, 209), (1, 1), (3, 210)], [(5, 40), (4, 5), (4, 6), (1, 1), (4, 7)], [(5, 44), (4, 0), (4, 1), (1, 1), (4, 2)], [(4, 37), (4, 38), (1, 0), (4, 39)], [(5, 110), (5, 111), (5, 112), (1, 11), (5, 113)], [(5, 106), (5, 107), (5, 108), (1, 11), (5, 109)], [(4, 69), (4, 70), (1, 0), (4, 71)], [(5, 129), (5, 130), (5, 131), (1, 11), (5, 132)], [(4, 76), (4, 77), (1, 0), (4, 78)], [(5, 133), (5, 134), (5, 135), (1, 11), (5, 136)], [(4, 83), (4, 84), (1, 0), (4, 85)], [(5, 137), (5, 138), (5, 139), (1, 11), (5, 140)], [(4, 95), (4, 96), (1, 0), (4, 97)], [(5, 153), (5, 154), (5, 155), (1, 11), (5, 156)], [(4, 102), (4, 103), (1, 0), (4, 104)], [(5, 157), (5, 158), (5, 159), (1, 11), (5, 160)], [(4, 109), (4, 110), (1, 0), (4, 111)], [(5, 169), (5, 170), (5, 171), (1, 11), (5, 172)], [(4, 118), (4, 119), (1, 0), (4, 120)], [(5, 176), (5, 177), (5, 178), (1, 11), (5, 179)], [(4, 146), (4, 147), (1, 0), (4, 148)], [(5, 224), (5, 225), (5, 226), (1, 11), (5, 227)], [(4, 157), (4, 158), (1, 0), (4, 159)], [(5, 228), (5, 229), (5, 230), (1, 11), (5, 231)], [(2, 80), (2, 81), (2, 82), (1, 1), (2, 83)], [(6, 28), (6, 29), (6, 30), (1, 11), (6, 31)], [(4, 182), (4, 183), (1, 0), (4, 184)], [(6, 52), (6, 53), (6, 54), (1, 11), (6, 55)], [(2, 153), (2, 154), (2, 155), (1, 1), (2, 156)], [(6, 56), (6, 57), (6, 58), (1, 11), (6, 59)], [(2, 157), (2, 158), (2, 159), (1, 1), (2, 160)], [(6, 60), (6, 61), (6, 62), (1, 11), (6, 63)], [(4, 189), (4, 190), (1, 0), (4, 191)], [(6, 84), (6, 85), (6, 86), (1, 11), (6, 87)], [(4, 230), (4, 231), (1, 0), (4, 232)], [(6, 96), (6, 97), (6, 98), (1, 11), (6, 99)], [(5, 1), (5, 2), (1, 0), (5, 3)], [(6, 100), (6, 101), (6, 102), (1, 11), (6, 103)], [(5, 5), (5, 6), (1, 0), (5, 7)], [(6, 116), (6, 117), (6, 118), (1, 11), (6, 119)], [(5, 9), (5, 10), (1, 0), (5, 11)], [(6, 124), (6, 125), (6, 126), (1, 11), (6, 127)], [(5, 13), (5, 14), (1, 0), (5, 15)], [(6, 132), (6, 133), (6, 134), (1, 11), (6, 135)], [(5, 17), (5, 18), (1, 0), (5, 19)], [(6, 136), (6, 137), (6, 138), (1, 11), (6, 139)], [(5, 21), (5, 22), (1, 0), (5, 23)], [(6, 152), (6, 153), (6, 154), (1, 11), (6, 155)], [(5, 25), (5, 26), (1, 0), (5, 27)], [(6, 156), (6, 157), (6, 158), (1, 11), (6, 159)], [(5, 29), (5, 30), (1, 0), (5, 31)], [(6, 160), (6, 161), (6, 162), (1, 11), (6, 163)], [(5, 33), (5, 34), (1, 0), (5, 35)], [(6, 172), (6, 173), (6, 174), (1, 11), (6, 175)], [(5, 37), (5, 38), (1, 0), (5, 39)], [(6, 187), (6, 188), (6, 189), (1, 11), (6, 190)], [(5, 41), (5, 42), (1, 0), (5, 43)], [(6, 207), (6, 208), (6, 209), (1, 11), (6, 210)], [(2, 227), (2, 228), (2, 229), (1, 1), (2, 230)], [(6, 223), (6, 224), (6, 225), (1, 11), (6, 226)], [(2, 239), (3, 0), (3, 1), (1, 1), (3, 2)], [(6, 231), (6, 232), (6, 233), (1, 11), (6, 234)]]
set_option maxRecDepth 100000 in
theorem ek_L : plL_L.map (fun q => entWs RL q.1 q.2) = ixL_L.map (fun is => is.filterMap tix) := rfl
set_option maxRecDepth 100000 in
theorem eg_L : (plL_L.map (fun q => entWs RL q.1 q.2)).all (fun l => l.all goodWord) = true := rfl
def ixL_X1 : List (List (Nat × Nat)) := [[(1, 62)], [(1, 52)], [(1, 55)], [(1, 58)], [(1, 60)], [(2, 96), (1, 158), (1, 157), (1, 6)], [(3, 148), (3, 149), (1, 18), (3, 150)], [(3, 137), (3, 138), (1, 18), (3, 139)]]
set_option maxRecDepth 100000 in
theorem ek_X1 : plL_X1.map (fun q => entWs RX1 q.1 q.2) = ixL_X1.map (fun is => is.filterMap tix) := rfl
set_option maxRecDepth 100000 in
theorem eg_X1 : (plL_X1.map (fun q => entWs RX1 q.1 q.2)).all (fun l => l.all goodWord) = true := rfl
def ixL_X10 : List (List (Nat × Nat)) := [[(2, 64)], [(2, 65)], [(2, 66)], [(2, 67)], [(2, 68)], [(3, 8), (3, 9), (1, 1), (3, 10)], [(1, 170)], [(4, 46), (4, 47), (4, 48), (1, 2), (4, 49)], [(4, 50), (4, 51), (1, 1), (4, 52)], [(2, 84), (2, 85), (2, 86), (1, 7), (2, 87)], [(1, 160)], [(1, 53)], [(1, 56)], [(1, 59)], [(1, 61)], [(1, 175)], [(1, 163)], [(1, 81)], [(1, 178)], [(3, 98), (3, 99), (1, 1), (3, 100)], [(1, 85)], [(4, 91), (4, 92), (4, 93), (1, 2), (4, 94)], [(1, 87)], [(1, 166)], [(1, 129)], [(4, 116)], [(1, 169)], [(4, 125), (4, 126), (4, 127), (1, 2), (4, 128)], [(4, 129), (4, 130), (4, 131), (1, 2), (4, 132)], [(4, 153), (4, 154), (4, 155), (1, 2), (4, 156)], [(1, 185)], [(3, 79), (3, 80), (1, 1), (3, 81)], [(3, 168), (3, 169), (3, 170), (1, 2), (3, 171)], [(4, 164), (4, 165), (4, 166), (1, 2), (4, 167)], [(2, 106), (2, 107), (2, 108), (1, 2), (2, 109)], [(1, 182)], [(2, 17)], [(2, 15)], [(2, 161), (2, 162), (2, 163), (1, 8), (2, 164)], [(4, 196), (4, 197), (4, 198), (1, 8), (4, 199)], [(3, 11)], [(4, 202), (2, 166), (2, 167), (1, 8), (2, 168)], [(4, 203), (4, 205), (0, 17), (1, 1), (4, 206)], [(4, 229), (2, 224), (2, 225), (1, 25), (2, 226)], [(2, 0)], [(4, 237), (4, 238), (4, 239), (1, 7), (5, 0)], [(3, 125), (3, 126), (3, 127), (1, 3), (3, 128)], [(3, 129), (3, 130), (3, 131), (1, 2), (3, 132)], [(3, 133), (3, 134), (3, 135), (1, 3), (3, 136)], [(3, 140), (3, 141), (3, 142), (1, 2), (3, 143)], [(1, 91)], [(3, 160), (3, 161), (3, 162), (1, 2), (3, 163)], [(1, 95)], [(1, 98)], [(1, 101)], [(1, 103)], [(3, 234), (2, 127), (2, 128), (1, 5), (2, 129)], [(1, 132)], [(1, 134)], [(1, 137)], [(1, 141)], [(1, 180)], [(1, 187)], [(1, 189)], [(1, 191)], [(2, 231), (2, 232), (2, 233), (1, 2), (2, 234)], [(1, 193)], [(1, 196)], [(3, 82), (3, 83), (3, 84), (1, 2), (3, 85)], [(3, 86), (3, 87), (3, 88), (1, 2), (3, 89)], [(2, 235), (2, 236), (2, 237), (1, 2), (2, 238)], [(3, 190), (3, 191), (3, 192), (1, 2), (3, 193)], [(3, 194), (3, 195), (3, 196), (1, 2), (3, 197)], [(3, 202), (3, 203), (3, 204), (1, 2), (3, 205)], [(3, 211), (3, 212), (3, 213), (1, 10), (3, 214)], [(3, 216), (3, 217), (3, 218), (1, 10), (3, 219)], [(4, 8), (4, 9), (4, 10), (1, 10), (4, 11)], [(2, 52)], [(2, 54)], [(4, 3), (2, 111), (2, 112), (1, 9), (2, 113)], [(2, 30)], [(2, 33)], [(3, 3)], [(3, 4), (3, 5), (3, 6), (1, 1), (3, 7)], [(3, 90), (3, 91), (1, 1), (3, 92)], [(3, 94), (3, 95), (3, 96), (1, 1), (3, 97)], [(3, 117), (3, 119), (0, 7), (1, 1), (3, 120)], [(3, 152), (3, 154), (0, 8), (1, 1), (3, 155)], [(3, 226), (3, 228), (0, 11), (1, 1), (3, 229)], [(4, 4), (4, 5), (4, 6), (1, 1), (4, 7)], [(4, 26), (2, 228), (2, 229), (1, 1), (2, 230)], [(4, 27), (4, 28), (1, 1), (4, 29)], [(4, 33), (4, 35), (0, 12), (1, 1), (4, 36)], [(3, 101)], [(4, 53)], [(4, 207)], [(4, 209)], [(4, 215)], [(4, 217), (4, 218), (4, 219), (1, 8), (4, 220)], [(4, 221), (4, 222), (4, 223), (1, 8), (4, 224)], [(4, 225), (4, 227), (0, 18), (1, 1), (4, 228)], [(3, 93)], [(3, 121), (3, 122), (3, 123), (1, 1), (3, 124)], [(3, 156), (3, 157), (3, 158), (1, 1), (3, 159)], [(3, 164), (3, 165), (3, 166), (1, 1), (3, 167)], [(3, 186), (3, 187), (3, 188), (1, 1), (3, 189)], [(3, 207), (3, 208), (3, 209), (1, 1), (3, 210)], [(3, 230), (3, 231), (3, 232), (1, 1), (3, 233)], [(3, 235), (3, 236), (3, 237), (1, 1), (3, 238)], [(3, 239), (4, 0), (4, 1), (1, 1), (4, 2)], [(4, 30)], [(4, 31)], [(4, 32)]]
set_option maxRecDepth 100000 in
theorem ek_X10 : plL_X10.map (fun q => entWs RX10 q.1 q.2) = ixL_X10.map (fun is => is.filterMap tix) := rfl
set_option maxRecDepth 100000 in
theorem eg_X10 : (plL_X10.map (fun q => entWs RX10 q.1 q.2)).all (fun l => l.all goodWord) = true := rfl
def ixL_X11 : List (List (Nat × Nat)) := [[(5, 51)], [(5, 52)], [(5, 53)], [(5, 54)], [(5, 55)], [(5, 56)], [(5, 57)], [(5, 58)], [(5, 59)], [(5, 67)], [(5, 114), (5, 115), (1, 11), (5, 116)], [(5, 149), (5, 151), (0, 24), (1, 11), (5, 152)], [(5, 65)], [(5, 117), (5, 119), (0, 19), (1, 11), (5, 120)], [(5, 121), (5, 123), (0, 20), (1, 11), (5, 124)], [(5, 125), (5, 127), (0, 21), (1, 11), (5, 128)], [(5, 141), (5, 143), (0, 22), (1, 11), (5, 144)], [(5, 145), (5, 147), (0, 23), (1, 11), (5, 148)], [(5, 161), (5, 163), (0, 25), (1, 11), (5, 164)], [(5, 165), (5, 167), (0, 26), (1, 11), (5, 168)], [(5, 173), (5, 174), (1, 11), (5, 175)], [(5, 212)], [(5, 213)], [(5, 214)], [(5, 215)], [(5, 204), (5, 206), (0, 33), (1, 11), (5, 207)], [(5, 200), (5, 202), (0, 32), (1, 11), (5, 203)], [(5, 184), (5, 186), (0, 28), (1, 11), (5, 187)], [(5, 192), (5, 194), (0, 30), (1, 11), (5, 195)], [(5, 196), (5, 198), (0, 31), (1, 11), (5, 199)], [(5, 208), (5, 210), (0, 34), (1, 11), (5, 211)], [(5, 216), (5, 218), (0, 35), (1, 11), (5, 219)], [(5, 180), (5, 182), (0, 27), (1, 11), (5, 183)], [(5, 188), (5, 190), (0, 29), (1, 11), (5, 191)], [(5, 220), (5, 222), (0, 36), (1, 11), (5, 223)], [(6, 12), (6, 14), (0, 42), (1, 11), (6, 15)], [(6, 0), (6, 2), (0, 39), (1, 11), (6, 3)], [(5, 236), (5, 238), (0, 38), (1, 11), (5, 239)], [(6, 4), (6, 6), (0, 40), (1, 11), (6, 7)], [(6, 8), (6, 10), (0, 41), (1, 11), (6, 11)], [(6, 20), (6, 22), (0, 44), (1, 11), (6, 23)], [(6, 24), (6, 26), (0, 45), (1, 11), (6, 27)], [(5, 232), (5, 234), (0, 37), (1, 11), (5, 235)], [(6, 16), (6, 18), (0, 43), (1, 11), (6, 19)], [(6, 44), (6, 46), (0, 49), (1, 11), (6, 47)], [(6, 40), (6, 42), (0, 48), (1, 11), (6, 43)], [(6, 48), (6, 50), (0, 50), (1, 11), (6, 51)], [(6, 36), (6, 38), (0, 47), (1, 11), (6, 39)], [(6, 32), (6, 34), (0, 46), (1, 11), (6, 35)], [(5, 66)], [(5, 63)], [(5, 62)], [(6, 76), (6, 78), (0, 54), (1, 11), (6, 79)], [(5, 64)], [(6, 72), (6, 74), (0, 53), (1, 11), (6, 75)], [(6, 80), (6, 82), (0, 55), (1, 11), (6, 83)], [(6, 68), (6, 70), (0, 52), (1, 11), (6, 71)], [(6, 64), (6, 66), (0, 51), (1, 11), (6, 67)], [(6, 88), (6, 90), (0, 56), (1, 11), (6, 91)], [(6, 92), (6, 94), (0, 57), (1, 11), (6, 95)], [(6, 112), (6, 114), (0, 60), (1, 11), (6, 115)], [(6, 104), (6, 106), (0, 58), (1, 11), (6, 107)], [(6, 108), (6, 110), (0, 59), (1, 11), (6, 111)], [(6, 120), (6, 122), (0, 61), (1, 11), (6, 123)], [(6, 128), (6, 130), (0, 62), (1, 11), (6, 131)], [(6, 144), (6, 146), (0, 64), (1, 11), (6, 147)], [(6, 148), (6, 150), (0, 65), (1, 11), (6, 151)], [(6, 140), (6, 142), (0, 63), (1, 11), (6, 143)], [(6, 168), (6, 170), (0, 67), (1, 11), (6, 171)], [(6, 164), (6, 166), (0, 66), (1, 11), (6, 167)], [(6, 184), (6, 185), (1, 11), (6, 186)], [(6, 180), (6, 182), (0, 69), (1, 11), (6, 183)], [(6, 176), (6, 178), (0, 68), (1, 11), (6, 179)], [(5, 60)], [(5, 61)], [(6, 195), (6, 197), (0, 71), (1, 11), (6, 198)], [(6, 199), (6, 201), (0, 72), (1, 11), (6, 202)], [(6, 203), (6, 205), (0, 73), (1, 11), (6, 206)], [(6, 191), (6, 193), (0, 70), (1, 11), (6, 194)], [(6, 215), (6, 217), (0, 75), (1, 11), (6, 218)], [(6, 219), (6, 221), (0, 76), (1, 11), (6, 222)], [(6, 211), (6, 213), (0, 74), (1, 11), (6, 214)], [(6, 227), (6, 229), (0, 77), (1, 11), (6, 230)], [(7, 0)], [(5, 68)], [(6, 236), (6, 238), (0, 78), (1, 11), (6, 239)], [(6, 235)], [(7, 1), (7, 3), (0, 79), (1, 11), (7, 4)], [(7, 5), (7, 7), (0, 80), (1, 11), (7, 8)], [(7, 9)]]
set_option maxRecDepth 100000 in
theorem ek_X11 : plL_X11.map (fun q => entWs RX11 q.1 q.2) = ixL_X11.map (fun is => is.filterMap tix) := rfl
set_option maxRecDepth 100000 in
theorem eg_X11 : (plL_X11.map (fun q => entWs RX11 q.1 q.2)).all (fun l => l.all goodWord) = true := rfl
def ixL_X2 : List (List (Nat × Nat)) := [[(7, 21)], [(7, 24)], [(2, 175)], [(2, 185)]]
set_option maxRecDepth 100000 in
theorem ek_X2 : plL_X2.map (fun q => entWs RX2 q.1 q.2) = ixL_X2.map (fun is => is.filterMap tix) := rfl
set_option maxRecDepth 100000 in
theorem eg_X2 : (plL_X2.map (fun q => entWs RX2 q.1 q.2)).all (fun l => l.all goodWord) = true := rfl
def ixL_X3 : List (List (Nat × Nat)) := [[(2, 14)], [(2, 16)], [], [(2, 171), (2, 172), (2, 173), (1, 25), (2, 174)], [(2, 165), (2, 166), (2, 167), (1, 8), (2, 168)], [(2, 223), (2, 224), (2, 225), (1, 25), (2, 226)], [(4, 200), (2, 162), (2, 163), (1, 8), (2, 164)]]
set_option maxRecDepth 100000 in
theorem ek_X3 : plL_X3.map (fun q => entWs RX3 q.1 q.2) = ixL_X3.map (fun is => is.filterMap tix) := rfl
set_option maxRecDepth 100000 in
theorem eg_X3 : (plL_X3.map (fun q => entWs RX3 q.1 q.2)).all (fun l => l.all goodWord) = true := rfl
def ixL_X4 : List (List (Nat × Nat)) := [[(1, 89)], [(1, 102)], [(1, 80)], [(1, 83)], [(1, 86)], [(1, 92)], [(1, 96)], [(1, 99)]]
set_option maxRecDepth 100000 in
theorem ek_X4 : plL_X4.map (fun q => entWs RX4 q.1 q.2) = ixL_X4.map (fun is => is.filterMap tix) := rfl
set_option maxRecDepth 100000 in
theorem eg_X4 : (plL_X4.map (fun q => entWs RX4 q.1 q.2)).all (fun l => l.all goodWord) = true := rfl
def ixL_X5 : List (List (Nat × Nat)) := [[(2, 49)], [(2, 50)], [(1, 172)], [(3, 215), (3, 191), (3, 192), (1, 2), (3, 193)], [(3, 183), (1, 1), (3, 184)], [(3, 221), (3, 223), (0, 10), (1, 10), (3, 224)], [(3, 225), (3, 199), (3, 200), (1, 2), (3, 201)], [(2, 51)], [(2, 53)], [(4, 12), (4, 13), (1, 10), (4, 14)], [(4, 20), (4, 21), (1, 10), (4, 22)], [(4, 15), (3, 195), (3, 196), (1, 2), (3, 197)], [(4, 16), (4, 17), (1, 10), (4, 18)], [(4, 19), (3, 203), (3, 204), (1, 2), (3, 205)], [(4, 23), (4, 24), (1, 10), (4, 25)]]
set_option maxRecDepth 100000 in
theorem ek_X5 : plL_X5.map (fun q => entWs RX5 q.1 q.2) = ixL_X5.map (fun is => is.filterMap tix) := rfl
set_option maxRecDepth 100000 in
theorem eg_X5 : (plL_X5.map (fun q => entWs RX5 q.1 q.2)).all (fun l => l.all goodWord) = true := rfl
def ixL_X6 : List (List (Nat × Nat)) := [[(2, 29)], [(2, 32)], [(2, 35)], [(1, 173)], [(2, 114), (2, 116), (0, 0), (1, 9), (2, 117)], [(1, 183)], [(2, 122), (2, 124), (0, 2), (1, 9), (2, 125)], [(1, 162)], [(1, 93)], [(1, 177)], [(1, 165)], [(1, 140)], [(2, 118), (2, 120), (0, 1), (1, 9), (2, 121)], [(1, 195)], [(2, 126), (2, 127), (2, 128), (1, 5), (2, 129)], [(1, 168)], [(2, 130), (2, 131), (1, 18), (2, 132)]]
set_option maxRecDepth 100000 in
theorem ek_X6 : plL_X6.map (fun q => entWs RX6 q.1 q.2) = ixL_X6.map (fun is => is.filterMap tix) := rfl
set_option maxRecDepth 100000 in
theorem eg_X6 : (plL_X6.map (fun q => entWs RX6 q.1 q.2)).all (fun l => l.all goodWord) = true := rfl
def ixL_X7 : List (List (Nat × Nat)) := [[(1, 127)], [(1, 139)], [(1, 130)], [(1, 133)], [(1, 136)], [(2, 105), (1, 158), (1, 157), (1, 6)]]
set_option maxRecDepth 100000 in
theorem ek_X7 : plL_X7.map (fun q => entWs RX7 q.1 q.2) = ixL_X7.map (fun is => is.filterMap tix) := rfl
set_option maxRecDepth 100000 in
theorem eg_X7 : (plL_X7.map (fun q => entWs RX7 q.1 q.2)).all (fun l => l.all goodWord) = true := rfl
def ixL_X8 : List (List (Nat × Nat)) := [[(1, 237)], [(1, 238)], [(1, 239)], [(2, 88), (2, 89), (2, 90), (1, 2), (2, 91)]]
set_option maxRecDepth 100000 in
theorem ek_X8 : plL_X8.map (fun q => entWs RX8 q.1 q.2) = ixL_X8.map (fun is => is.filterMap tix) := rfl
set_option maxRecDepth 100000 in
theorem eg_X8 : (plL_X8.map (fun q => entWs RX8 q.1 q.2)).all (fun l => l.all goodWord) = true := rfl
def ixL_X9 : List (List (Nat × Nat)) := [[(1, 159)], [(1, 161)], [(1, 164)], [(1, 167)], [(1, 186)], [(1, 156), (1, 158), (1, 157), (1, 6)], [(2, 92), (2, 93), (2, 94), (1, 3), (2, 95)], [(2, 97), (2, 98), (2, 99), (1, 4), (2, 100)], [(2, 101), (2, 102), (2, 103), (1, 5), (2, 104)], [(1, 171)], [(1, 174)], [(1, 176)], [(1, 179)], [(1, 181)], [(1, 184)], [(1, 188)], [(1, 190)], [(1, 192)], [(1, 194)], [(1, 54)], [(1, 84)], [(1, 128)], [(1, 90)], [(1, 100)], [(1, 97)], [(1, 94)], [(1, 131)], [(2, 141), (2, 143), (0, 5), (1, 2), (2, 144)], [(4, 133), (4, 135), (0, 13), (1, 2), (4, 136)], [(4, 141), (4, 143), (0, 14), (1, 2), (4, 144)], [(4, 137)], [(4, 138)], [(4, 139)], [(4, 140)], [(4, 145), (3, 130), (3, 131), (1, 2), (3, 132)], [(3, 176), (3, 177), (3, 178), (1, 2), (3, 179)], [(3, 144), (3, 145), (3, 146), (1, 3), (3, 147)], [(3, 151), (3, 134), (3, 135), (1, 3), (3, 136)], [(3, 180), (3, 161), (3, 162), (1, 2), (3, 163)], [(1, 104)], [(3, 181), (3, 126), (3, 127), (1, 3), (3, 128)], [(3, 172), (3, 174), (0, 9), (1, 2), (3, 175)], [(1, 88)], [(3, 183), (1, 1), (3, 184)], [(3, 185), (3, 141), (3, 142), (1, 2), (3, 143)], [(3, 198), (3, 199), (3, 200), (1, 2), (3, 201)], [(1, 57)], [(3, 206), (3, 138), (1, 18), (3, 139)], [(4, 168), (3, 195), (3, 196), (1, 2), (3, 197)], [(4, 169), (3, 203), (3, 204), (1, 2), (3, 205)], [(4, 170), (4, 172), (0, 15), (1, 2), (4, 173)], [(4, 174), (4, 176), (0, 16), (1, 2), (4, 177)], [(4, 178), (4, 179), (4, 180), (1, 3), (4, 181)], [(1, 82)], [(1, 142)], [(1, 138)], [(2, 110), (2, 111), (2, 112), (1, 9), (2, 113)], [(2, 133), (2, 135), (0, 3), (1, 2), (2, 136)], [(2, 137), (2, 139), (0, 4), (1, 2), (2, 140)], [(2, 34)], [(2, 31)], [(1, 135)], [(2, 145), (2, 146), (2, 147), (1, 3), (2, 148)], [(2, 149), (2, 150), (2, 151), (1, 5), (2, 152)]]
set_option maxRecDepth 100000 in
theorem ek_X9 : plL_X9.map (fun q => entWs RX9 q.1 q.2) = ixL_X9.map (fun is => is.filterMap tix) := rfl
set_option maxRecDepth 100000 in
theorem eg_X9 : (plL_X9.map (fun q => entWs RX9 q.1 q.2)).all (fun l => l.all goodWord) = true := rfl
end REC
