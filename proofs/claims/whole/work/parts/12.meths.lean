theorem okc0 : mm_okc 0 (RX1, TX1, 1) := ⟨rfl, by decide, by decide +kernel, nmX1, tyX1, tyX1_ok, by decide +kernel⟩
theorem okc1 : mm_okc 1 (RX2, TX2, 2) := ⟨rfl, by decide, by decide +kernel, nmX2, tyX2, tyX2_ok, by decide +kernel⟩
theorem okc2 : mm_okc 2 (RX3, TX3, 10) := ⟨rfl, by decide, by decide +kernel, nmX3, tyX3, tyX3_ok, by decide +kernel⟩
theorem okc3 : mm_okc 3 (RX4, TX4, 2) := ⟨rfl, by decide, by decide +kernel, nmX4, tyX4, tyX4_ok, by decide +kernel⟩
theorem okc4 : mm_okc 4 (RX5, TX5, 6) := ⟨rfl, by decide, by decide +kernel, nmX5, tyX5, tyX5_ok, by decide +kernel⟩
theorem okc5 : mm_okc 5 (RX6, TX6, 9) := ⟨rfl, by decide, by decide +kernel, nmX6, tyX6, tyX6_ok, by decide +kernel⟩
theorem okc6 : mm_okc 6 (RX7, TX7, 4) := ⟨rfl, by decide, by decide +kernel, nmX7, tyX7, tyX7_ok, by decide +kernel⟩
theorem okc7 : mm_okc 7 (RX8, TX8, 7) := ⟨rfl, by decide, by decide +kernel, nmX8, tyX8, tyX8_ok, by decide +kernel⟩
abbrev MX0_isCode : mm_M := (yX0_isCode, cX0_isCode, 1, (some .boolean), { frames := 0, cells := 0, slots := 0, locals := 0 }, [], none)
abbrev MX0_ringCount : mm_M := (yX0_ringCount, cX0_ringCount, 2, (some .int), { frames := 0, cells := 0, slots := 0, locals := 0 }, [], none)
abbrev MX0_isLong : mm_M := (yX0_isLong, cX0_isLong, 3, (some .boolean), { frames := 1, cells := 0, slots := 0, locals := 21 }, [], none)
abbrev MX0_lengthOf : mm_M := (yX0_lengthOf, cX0_lengthOf, 4, (some .int), { frames := 1, cells := 0, slots := 0, locals := 21 }, [], none)
abbrev MX0_soundAt : mm_M := (yX0_soundAt, cX0_soundAt, 7, (some .int), { frames := 2, cells := 0, slots := 0, locals := 43 }, [], none)
abbrev MX0_byLength : mm_M := (yX0_byLength, cX0_byLength, 1, (some .int), { frames := 0, cells := 0, slots := 0, locals := 0 }, [], none)
abbrev MX1_init : mm_M := (yX1_init, cX1_init, 2, none, { frames := 1, cells := 0, slots := 0, locals := 24 }, [], none)
abbrev MX1_liftReceiver : mm_M := (yX1_liftReceiver, cX1_liftReceiver, 3, none, { frames := 4, cells := 0, slots := 0, locals := 86 }, [], none)
abbrev MX1_answerCall : mm_M := (yX1_answerCall, cX1_answerCall, 4, none, { frames := 2, cells := 0, slots := 0, locals := 43 }, [], none)
abbrev MX1_answerInLoop : mm_M := (yX1_answerInLoop, cX1_answerInLoop, 3, none, { frames := 1, cells := 0, slots := 0, locals := 21 }, [], none)
abbrev MX1_comeUpon : mm_M := (yX1_comeUpon, cX1_comeUpon, 3, none, { frames := 3, cells := 0, slots := 0, locals := 64 }, [], none)
abbrev MX1_isPrivateTalk : mm_M := (yX1_isPrivateTalk, cX1_isPrivateTalk, 2, (some .boolean), { frames := 2, cells := 0, slots := 0, locals := 43 }, [], none)
abbrev MX1_wantsPrivacy : mm_M := (yX1_wantsPrivacy, cX1_wantsPrivacy, 3, (some .boolean), { frames := 1, cells := 0, slots := 0, locals := 21 }, [], none)
abbrev MX1_hangUp : mm_M := (yX1_hangUp, cX1_hangUp, 4, none, { frames := 5, cells := 0, slots := 0, locals := 112 }, [], none)
abbrev MX1_endCall : mm_M := (yX1_endCall, cX1_endCall, 3, none, { frames := 4, cells := 0, slots := 0, locals := 90 }, [], none)
abbrev MX1_leave : mm_M := (yX1_leave, cX1_leave, 4, none, { frames := 3, cells := 0, slots := 0, locals := 67 }, [], none)
abbrev MX1_lowestOffHook : mm_M := (yX1_lowestOffHook, cX1_lowestOffHook, 4, (some .int), { frames := 2, cells := 0, slots := 0, locals := 44 }, [], none)
abbrev MX1_phaseByDialing : mm_M := (yX1_phaseByDialing, cX1_phaseByDialing, 5, (some .int), { frames := 3, cells := 0, slots := 0, locals := 63 }, [], none)
abbrev MX1_dialNumber : mm_M := (yX1_dialNumber, cX1_dialNumber, 5, none, { frames := 4, cells := 0, slots := 0, locals := 87 }, [], none)
abbrev MX1_ringFrom : mm_M := (yX1_ringFrom, cX1_ringFrom, 5, none, { frames := 2, cells := 0, slots := 0, locals := 43 }, [], none)
abbrev MX1_passOneTick : mm_M := (yX1_passOneTick, cX1_passOneTick, 3, none, { frames := 6, cells := 0, slots := 0, locals := 133 }, [], none)
abbrev MX1_takeTurn : mm_M := (yX1_takeTurn, cX1_takeTurn, 2, none, { frames := 5, cells := 0, slots := 0, locals := 112 }, [], none)
abbrev MX1_isLost : mm_M := (yX1_isLost, cX1_isLost, 3, (some .boolean), { frames := 4, cells := 0, slots := 0, locals := 87 }, [], none)
abbrev MX1_countUnits : mm_M := (yX1_countUnits, cX1_countUnits, 3, none, { frames := 1, cells := 0, slots := 0, locals := 21 }, [], none)
abbrev MX1_isOverLimit : mm_M := (yX1_isOverLimit, cX1_isOverLimit, 3, (some .boolean), { frames := 3, cells := 0, slots := 0, locals := 67 }, [], none)
abbrev MX1_locksSomeoneOut : mm_M := (yX1_locksSomeoneOut, cX1_locksSomeoneOut, 4, (some .boolean), { frames := 2, cells := 0, slots := 0, locals := 44 }, [], none)
abbrev MX1_breakSpan : mm_M := (yX1_breakSpan, cX1_breakSpan, 4, none, { frames := 5, cells := 0, slots := 0, locals := 112 }, [], none)
abbrev MX1_mendSpan : mm_M := (yX1_mendSpan, cX1_mendSpan, 3, none, { frames := 5, cells := 0, slots := 0, locals := 112 }, [], none)
abbrev MX1_hasCutOffReceiver : mm_M := (yX1_hasCutOffReceiver, cX1_hasCutOffReceiver, 4, (some .boolean), { frames := 2, cells := 0, slots := 0, locals := 44 }, [], none)
abbrev MX1_ticksOfRound : mm_M := (yX1_ticksOfRound, cX1_ticksOfRound, 2, (some .int), { frames := 3, cells := 0, slots := 0, locals := 66 }, [], none)
abbrev MX1_ticksOfCode : mm_M := (yX1_ticksOfCode, cX1_ticksOfCode, 3, (some .int), { frames := 2, cells := 0, slots := 0, locals := 44 }, [], none)
abbrev MX1_soundOf : mm_M := (yX1_soundOf, cX1_soundOf, 6, (some .int), { frames := 4, cells := 0, slots := 0, locals := 87 }, [], none)
abbrev MX2_init : mm_M := (yX2_init, cX2_init, 2, none, { frames := 3, cells := 121, slots := 1172, locals := 67 }, [], none)
abbrev MX2_save : mm_M := (yX2_save, cX2_save, 3, none, { frames := 2, cells := 0, slots := 0, locals := 46 }, [], none)
abbrev MX2_dropOldest : mm_M := (yX2_dropOldest, cX2_dropOldest, 3, none, { frames := 0, cells := 0, slots := 0, locals := 0 }, [], none)
abbrev MX2_restore : mm_M := (yX2_restore, cX2_restore, 3, none, { frames := 2, cells := 0, slots := 0, locals := 46 }, [], none)
abbrev MX2_savedAt : mm_M := (yX2_savedAt, cX2_savedAt, 2, (some (.object "PartyLines$State")), { frames := 0, cells := 0, slots := 0, locals := 0 }, [], none)
abbrev MX3_init : mm_M := (yX3_init, cX3_init, 2, none, { frames := 1, cells := 1, slots := 13, locals := 24 }, [], none)
abbrev MX3_begin : mm_M := (yX3_begin, cX3_begin, 2, none, { frames := 1, cells := 0, slots := 0, locals := 21 }, [], none)
abbrev MX3_comeTo : mm_M := (yX3_comeTo, cX3_comeTo, 2, none, { frames := 0, cells := 0, slots := 0, locals := 0 }, [], none)
abbrev MX3_comeToWith : mm_M := (yX3_comeToWith, cX3_comeToWith, 3, none, { frames := 1, cells := 0, slots := 0, locals := 21 }, [], none)
abbrev MX3_isRung : mm_M := (yX3_isRung, cX3_isRung, 1, (some .boolean), { frames := 0, cells := 0, slots := 0, locals := 0 }, [], none)
abbrev MX3_hasFault : mm_M := (yX3_hasFault, cX3_hasFault, 1, (some .boolean), { frames := 0, cells := 0, slots := 0, locals := 0 }, [], none)
abbrev MX3_clearFault : mm_M := (yX3_clearFault, cX3_clearFault, 1, none, { frames := 0, cells := 0, slots := 0, locals := 0 }, [], none)
abbrev MX3_cutsOff : mm_M := (yX3_cutsOff, cX3_cutsOff, 2, (some .boolean), { frames := 1, cells := 0, slots := 0, locals := 20 }, [], none)
abbrev MX3_copyFrom : mm_M := (yX3_copyFrom, cX3_copyFrom, 3, none, { frames := 0, cells := 0, slots := 0, locals := 0 }, [], none)
abbrev MX4_init : mm_M := (yX4_init, cX4_init, 1, none, { frames := 1, cells := 28, slots := 364, locals := 24 }, [], none)
abbrev MX4_plan : mm_M := (yX4_plan, cX4_plan, 6, none, { frames := 1, cells := 0, slots := 0, locals := 28 }, [], none)
abbrev MX4_planRun : mm_M := (yX4_planRun, cX4_planRun, 9, none, { frames := 0, cells := 0, slots := 0, locals := 0 }, [], none)
abbrev MX4_countUntilFound : mm_M := (yX4_countUntilFound, cX4_countUntilFound, 6, (some .int), { frames := 0, cells := 0, slots := 0, locals := 0 }, [], none)
abbrev MX5_init : mm_M := (yX5_init, cX5_init, 3, none, { frames := 2, cells := 29, slots := 286, locals := 45 }, [], none)
abbrev MX5_loopAt : mm_M := (yX5_loopAt, cX5_loopAt, 2, (some (.object "PartyLines$Loop")), { frames := 0, cells := 0, slots := 0, locals := 0 }, [], none)
abbrev MX5_subscriberAt : mm_M := (yX5_subscriberAt, cX5_subscriberAt, 2, (some (.object "PartyLines$Subscriber")), { frames := 0, cells := 0, slots := 0, locals := 0 }, [], none)
abbrev MX5_memberAt : mm_M := (yX5_memberAt, cX5_memberAt, 4, (some (.object "PartyLines$Subscriber")), { frames := 1, cells := 0, slots := 0, locals := 21 }, [], none)
abbrev MX5_openLoop : mm_M := (yX5_openLoop, cX5_openLoop, 3, (some .int), { frames := 2, cells := 0, slots := 0, locals := 42 }, [], none)
abbrev MX5_enroll : mm_M := (yX5_enroll, cX5_enroll, 6, (some .int), { frames := 1, cells := 0, slots := 0, locals := 23 }, [], none)
abbrev MX5_hasCode : mm_M := (yX5_hasCode, cX5_hasCode, 6, (some .boolean), { frames := 2, cells := 0, slots := 0, locals := 44 }, [], none)
abbrev MX5_countMembers : mm_M := (yX5_countMembers, cX5_countMembers, 4, (some .int), { frames := 2, cells := 0, slots := 0, locals := 44 }, [], none)
abbrev MX5_loopsInUse : mm_M := (yX5_loopsInUse, cX5_loopsInUse, 4, (some .int), { frames := 1, cells := 0, slots := 0, locals := 21 }, [], none)
abbrev MX5_isCutOff : mm_M := (yX5_isCutOff, cX5_isCutOff, 3, (some .boolean), { frames := 2, cells := 0, slots := 0, locals := 41 }, [], none)
abbrev MX5_countCutOff : mm_M := (yX5_countCutOff, cX5_countCutOff, 5, (some .int), { frames := 2, cells := 0, slots := 0, locals := 44 }, [], none)
abbrev MX5_standingOf : mm_M := (yX5_standingOf, cX5_standingOf, 2, (some .int), { frames := 3, cells := 0, slots := 0, locals := 63 }, [], none)
abbrev MX5_isParty : mm_M := (yX5_isParty, cX5_isParty, 3, (some .boolean), { frames := 2, cells := 0, slots := 0, locals := 41 }, [], none)
abbrev MX5_costOfCodes : mm_M := (yX5_costOfCodes, cX5_costOfCodes, 5, (some .int), { frames := 2, cells := 0, slots := 0, locals := 44 }, [], none)
abbrev MX5_leastCostOfCodes : mm_M := (yX5_leastCostOfCodes, cX5_leastCostOfCodes, 5, (some .int), { frames := 3, cells := 0, slots := 0, locals := 69 }, [], none)
abbrev MX5_giveBestCodes : mm_M := (yX5_giveBestCodes, cX5_giveBestCodes, 6, (some .int), { frames := 3, cells := 0, slots := 0, locals := 69 }, [], none)
abbrev MX5_bestCodeOf : mm_M := (yX5_bestCodeOf, cX5_bestCodeOf, 6, (some .int), { frames := 2, cells := 0, slots := 0, locals := 44 }, [], none)
abbrev MX5_copyFrom : mm_M := (yX5_copyFrom, cX5_copyFrom, 5, none, { frames := 1, cells := 0, slots := 0, locals := 22 }, [], none)
abbrev MX6_init : mm_M := (yX6_init, cX6_init, 2, none, { frames := 1, cells := 0, slots := 0, locals := 24 }, [], none)
abbrev MX6_begin : mm_M := (yX6_begin, cX6_begin, 4, none, { frames := 0, cells := 0, slots := 0, locals := 0 }, [], none)
abbrev MX6_comesBefore : mm_M := (yX6_comesBefore, cX6_comesBefore, 2, (some .boolean), { frames := 0, cells := 0, slots := 0, locals := 0 }, [], none)
abbrev MX6_copyFrom : mm_M := (yX6_copyFrom, cX6_copyFrom, 2, none, { frames := 0, cells := 0, slots := 0, locals := 0 }, [], none)
abbrev MX7_init : mm_M := (yX7_init, cX7_init, 1, none, { frames := 4, cells := 182, slots := 1833, locals := 88 }, [], none)
abbrev MX7_addLoop : mm_M := (yX7_addLoop, cX7_addLoop, 1, (some .int), { frames := 6, cells := 1, slots := 6, locals := 82 }, [], none)
abbrev MX7_addSubscriber : mm_M := (yX7_addSubscriber, cX7_addSubscriber, 5, (some .int), { frames := 7, cells := 2, slots := 12, locals := 104 }, [], none)
abbrev MX7_set : mm_M := (yX7_set, cX7_set, 6, (some .int), { frames := 7, cells := 2, slots := 12, locals := 106 }, [], none)
abbrev MX7_loops : mm_M := (yX7_loops, cX7_loops, 1, (some .int), { frames := 0, cells := 0, slots := 0, locals := 0 }, [], none)
abbrev MX7_subscribers : mm_M := (yX7_subscribers, cX7_subscribers, 1, (some .int), { frames := 0, cells := 0, slots := 0, locals := 0 }, [], none)
abbrev MX7_subscriber : mm_M := (yX7_subscriber, cX7_subscriber, 4, (some .int), { frames := 7, cells := 2, slots := 12, locals := 106 }, [], none)
abbrev MX7_loop : mm_M := (yX7_loop, cX7_loop, 4, (some .int), { frames := 7, cells := 2, slots := 12, locals := 104 }, [], none)
abbrev MX7_lift : mm_M := (yX7_lift, cX7_lift, 3, (some .int), { frames := 7, cells := 2, slots := 12, locals := 108 }, [], none)
abbrev MX7_hang : mm_M := (yX7_hang, cX7_hang, 3, (some .int), { frames := 7, cells := 2, slots := 12, locals := 135 }, [], none)
abbrev MX7_dial : mm_M := (yX7_dial, cX7_dial, 5, (some .int), { frames := 7, cells := 2, slots := 12, locals := 111 }, [], none)
abbrev MX7_tick : mm_M := (yX7_tick, cX7_tick, 3, (some .int), { frames := 7, cells := 1, slots := 6, locals := 155 }, [], none)
abbrev MX7_setLimit : mm_M := (yX7_setLimit, cX7_setLimit, 3, (some .int), { frames := 6, cells := 1, slots := 6, locals := 82 }, [], none)
abbrev MX7_rings : mm_M := (yX7_rings, cX7_rings, 2, (some .int), { frames := 7, cells := 1, slots := 6, locals := 112 }, [], none)
abbrev MX7_wouldDial : mm_M := (yX7_wouldDial, cX7_wouldDial, 3, (some .int), { frames := 7, cells := 1, slots := 6, locals := 104 }, [], none)
abbrev MX7_told : mm_M := (yX7_told, cX7_told, 2, (some .int), { frames := 6, cells := 1, slots := 6, locals := 82 }, [], none)
abbrev MX7_codeLength : mm_M := (yX7_codeLength, cX7_codeLength, 2, (some .int), { frames := 6, cells := 1, slots := 6, locals := 82 }, [], none)
abbrev MX7_codeRing : mm_M := (yX7_codeRing, cX7_codeRing, 3, (some .int), { frames := 6, cells := 1, slots := 6, locals := 82 }, [], none)
abbrev MX7_codeCost : mm_M := (yX7_codeCost, cX7_codeCost, 2, (some .int), { frames := 7, cells := 1, slots := 6, locals := 104 }, [], none)
abbrev MX7_bestCodes : mm_M := (yX7_bestCodes, cX7_bestCodes, 2, (some .int), { frames := 7, cells := 1, slots := 6, locals := 104 }, [], none)
abbrev MX7_assignCodes : mm_M := (yX7_assignCodes, cX7_assignCodes, 3, (some .int), { frames := 7, cells := 2, slots := 12, locals := 104 }, [], none)
abbrev MX7_fault : mm_M := (yX7_fault, cX7_fault, 5, (some .int), { frames := 7, cells := 2, slots := 12, locals := 135 }, [], none)
abbrev MX7_mend : mm_M := (yX7_mend, cX7_mend, 4, (some .int), { frames := 7, cells := 2, slots := 12, locals := 134 }, [], none)
abbrev MX7_isCut : mm_M := (yX7_isCut, cX7_isCut, 2, (some .boolean), { frames := 7, cells := 1, slots := 6, locals := 104 }, [], none)
abbrev MX7_setRisk : mm_M := (yX7_setRisk, cX7_setRisk, 6, (some .int), { frames := 7, cells := 2, slots := 12, locals := 104 }, [], none)
abbrev MX7_test : mm_M := (yX7_test, cX7_test, 4, (some .boolean), { frames := 7, cells := 2, slots := 12, locals := 104 }, [], none)
abbrev MX7_testCost : mm_M := (yX7_testCost, cX7_testCost, 4, (some .int), { frames := 8, cells := 2, slots := 12, locals := 128 }, [], none)
abbrev MX7_bestTest : mm_M := (yX7_bestTest, cX7_bestTest, 4, (some .int), { frames := 8, cells := 2, slots := 12, locals := 128 }, [], none)
abbrev MX7_testsNeeded : mm_M := (yX7_testsNeeded, cX7_testsNeeded, 3, (some .int), { frames := 7, cells := 2, slots := 12, locals := 104 }, [], none)
abbrev MX7_undo : mm_M := (yX7_undo, cX7_undo, 1, (some .int), { frames := 6, cells := 1, slots := 6, locals := 82 }, [], none)
abbrev MX7_digest : mm_M := (yX7_digest, cX7_digest, 5, (some .long), { frames := 6, cells := 0, slots := 0, locals := 138 }, [], none)
abbrev MX7_knownLoop : mm_M := (yX7_knownLoop, cX7_knownLoop, 3, (some (.object "PartyLines$Loop")), { frames := 6, cells := 1, slots := 6, locals := 82 }, [], none)
abbrev MX7_knownSubscriber : mm_M := (yX7_knownSubscriber, cX7_knownSubscriber, 3, (some (.object "PartyLines$Subscriber")), { frames := 6, cells := 1, slots := 6, locals := 82 }, [], none)
abbrev MX7_isSpan : mm_M := (yX7_isSpan, cX7_isSpan, 1, (some .boolean), { frames := 0, cells := 0, slots := 0, locals := 0 }, [], none)
abbrev MX7_isSettable : mm_M := (yX7_isSettable, cX7_isSettable, 2, (some .boolean), { frames := 1, cells := 0, slots := 0, locals := 20 }, [], none)
abbrev MX7_mayTakeCode : mm_M := (yX7_mayTakeCode, cX7_mayTakeCode, 4, (some .boolean), { frames := 3, cells := 0, slots := 0, locals := 69 }, [], none)
abbrev MX7_planTests : mm_M := (yX7_planTests, cX7_planTests, 5, none, { frames := 7, cells := 2, slots := 12, locals := 104 }, [], none)
abbrev MX7_phaseOfLoopOf : mm_M := (yX7_phaseOfLoopOf, cX7_phaseOfLoopOf, 3, (some .int), { frames := 1, cells := 0, slots := 0, locals := 21 }, [], none)
abbrev MX7_subscriberValue : mm_M := (yX7_subscriberValue, cX7_subscriberValue, 3, (some .int), { frames := 4, cells := 0, slots := 0, locals := 84 }, [], none)
abbrev MX7_loopValue : mm_M := (yX7_loopValue, cX7_loopValue, 3, (some .int), { frames := 3, cells := 0, slots := 0, locals := 67 }, [], none)
abbrev MX7_mix : mm_M := (yX7_mix, cX7_mix, 4, (some .long), { frames := 0, cells := 0, slots := 0, locals := 0 }, [], none)
abbrev MX7_mixLoop : mm_M := (yX7_mixLoop, cX7_mixLoop, 7, (some .long), { frames := 5, cells := 0, slots := 0, locals := 112 }, [], none)
abbrev MX7_mixSubscriber : mm_M := (yX7_mixSubscriber, cX7_mixSubscriber, 7, (some .long), { frames := 5, cells := 0, slots := 0, locals := 106 }, [], none)
abbrev MX8_init : mm_M := (yX8_init, cX8_init, 1, none, { frames := 2, cells := 4, slots := 1523, locals := 45 }, [], none)
abbrev MX8_thrown : mm_M := (yX8_thrown, cX8_thrown, 1, (some .int), { frames := 0, cells := 0, slots := 0, locals := 0 }, [], none)
abbrev MX8_refused : mm_M := (yX8_refused, cX8_refused, 2, (some .boolean), { frames := 0, cells := 0, slots := 0, locals := 0 }, [], none)
abbrev MX8_within : mm_M := (yX8_within, cX8_within, 3, (some .boolean), { frames := 0, cells := 0, slots := 0, locals := 0 }, [], none)
abbrev MX8_need : mm_M := (yX8_need, cX8_need, 2, (some .int), { frames := 0, cells := 0, slots := 0, locals := 0 }, [], none)
abbrev MX8_saves : mm_M := (yX8_saves, cX8_saves, 2, none, { frames := 0, cells := 0, slots := 0, locals := 0 }, [], none)
abbrev MX8_undo : mm_M := (yX8_undo, cX8_undo, 2, (some .int), { frames := 1, cells := 0, slots := 0, locals := 21 }, [], none)
abbrev MX8_of : mm_M := (yX8_of, cX8_of, 3, (some .int), { frames := 0, cells := 0, slots := 0, locals := 0 }, [], none)
abbrev MX8_put : mm_M := (yX8_put, cX8_put, 4, none, { frames := 0, cells := 0, slots := 0, locals := 0 }, [], none)
abbrev MX8_its : mm_M := (yX8_its, cX8_its, 3, (some .int), { frames := 0, cells := 0, slots := 0, locals := 0 }, [], none)
abbrev MX8_give : mm_M := (yX8_give, cX8_give, 4, none, { frames := 0, cells := 0, slots := 0, locals := 0 }, [], none)
abbrev MX8_isLoop : mm_M := (yX8_isLoop, cX8_isLoop, 2, (some .boolean), { frames := 1, cells := 0, slots := 0, locals := 22 }, [], none)
abbrev MX8_isOne : mm_M := (yX8_isOne, cX8_isOne, 2, (some .boolean), { frames := 1, cells := 0, slots := 0, locals := 22 }, [], none)
abbrev MX8_makesLoop : mm_M := (yX8_makesLoop, cX8_makesLoop, 3, none, { frames := 1, cells := 0, slots := 0, locals := 23 }, [], none)
abbrev MX8_addLoop : mm_M := (yX8_addLoop, cX8_addLoop, 1, (some .int), { frames := 2, cells := 0, slots := 0, locals := 45 }, [], none)
abbrev MX8_isTaken : mm_M := (yX8_isTaken, cX8_isTaken, 6, (some .boolean), { frames := 1, cells := 0, slots := 0, locals := 22 }, [], none)
abbrev MX8_addSubscriber : mm_M := (yX8_addSubscriber, cX8_addSubscriber, 6, (some .int), { frames := 2, cells := 0, slots := 0, locals := 47 }, [], none)
abbrev MX8_isRung : mm_M := (yX8_isRung, cX8_isRung, 2, (some .boolean), { frames := 1, cells := 0, slots := 0, locals := 22 }, [], none)
abbrev MX8_set : mm_M := (yX8_set, cX8_set, 7, (some .int), { frames := 2, cells := 0, slots := 0, locals := 47 }, [], none)
abbrev MX8_loops : mm_M := (yX8_loops, cX8_loops, 1, (some .int), { frames := 0, cells := 0, slots := 0, locals := 0 }, [], none)
abbrev MX8_subscribers : mm_M := (yX8_subscribers, cX8_subscribers, 1, (some .int), { frames := 0, cells := 0, slots := 0, locals := 0 }, [], none)
abbrev MX8_cut : mm_M := (yX8_cut, cX8_cut, 3, (some .boolean), { frames := 1, cells := 0, slots := 0, locals := 22 }, [], none)
abbrev MX8_state : mm_M := (yX8_state, cX8_state, 2, (some .int), { frames := 2, cells := 0, slots := 0, locals := 44 }, [], none)
abbrev MX8_told : mm_M := (yX8_told, cX8_told, 3, (some .int), { frames := 3, cells := 0, slots := 0, locals := 65 }, [], none)
abbrev MX8_subscriber : mm_M := (yX8_subscriber, cX8_subscriber, 3, (some .int), { frames := 4, cells := 0, slots := 0, locals := 87 }, [], none)
abbrev MX8_toldLoop : mm_M := (yX8_toldLoop, cX8_toldLoop, 5, (some .int), { frames := 1, cells := 0, slots := 0, locals := 22 }, [], none)
abbrev MX8_loop : mm_M := (yX8_loop, cX8_loop, 3, (some .int), { frames := 2, cells := 0, slots := 0, locals := 46 }, [], none)
abbrev MX8_comes : mm_M := (yX8_comes, cX8_comes, 6, none, { frames := 1, cells := 0, slots := 0, locals := 23 }, [], none)
abbrev MX8_isOn : mm_M := (yX8_isOn, cX8_isOn, 3, (some .boolean), { frames := 2, cells := 0, slots := 0, locals := 44 }, [], none)
abbrev MX8_leaves : mm_M := (yX8_leaves, cX8_leaves, 4, none, { frames := 3, cells := 0, slots := 0, locals := 66 }, [], none)
abbrev MX8_ends : mm_M := (yX8_ends, cX8_ends, 4, none, { frames := 4, cells := 0, slots := 0, locals := 89 }, [], none)
abbrev MX8_isPrivate : mm_M := (yX8_isPrivate, cX8_isPrivate, 2, (some .boolean), { frames := 1, cells := 0, slots := 0, locals := 22 }, [], none)
abbrev MX8_lifts : mm_M := (yX8_lifts, cX8_lifts, 6, none, { frames := 2, cells := 0, slots := 0, locals := 48 }, [], none)
abbrev MX8_lift : mm_M := (yX8_lift, cX8_lift, 3, (some .int), { frames := 3, cells := 0, slots := 0, locals := 73 }, [], none)
abbrev MX8_isAnyOn : mm_M := (yX8_isAnyOn, cX8_isAnyOn, 4, (some .boolean), { frames := 3, cells := 0, slots := 0, locals := 66 }, [], none)
abbrev MX8_hang : mm_M := (yX8_hang, cX8_hang, 6, (some .int), { frames := 5, cells := 0, slots := 0, locals := 112 }, [], none)
abbrev MX8_leadsTo : mm_M := (yX8_leadsTo, cX8_leadsTo, 4, (some .int), { frames := 2, cells := 0, slots := 0, locals := 44 }, [], none)
abbrev MX8_dial : mm_M := (yX8_dial, cX8_dial, 8, (some .int), { frames := 3, cells := 0, slots := 0, locals := 67 }, [], none)
abbrev MX8_wouldDial : mm_M := (yX8_wouldDial, cX8_wouldDial, 3, (some .int), { frames := 3, cells := 0, slots := 0, locals := 67 }, [], none)
abbrev MX8_isLocked : mm_M := (yX8_isLocked, cX8_isLocked, 4, (some .boolean), { frames := 3, cells := 0, slots := 0, locals := 65 }, [], none)
abbrev MX8_goesOn : mm_M := (yX8_goesOn, cX8_goesOn, 4, none, { frames := 5, cells := 0, slots := 0, locals := 112 }, [], none)
abbrev MX8_tick : mm_M := (yX8_tick, cX8_tick, 4, (some .int), { frames := 6, cells := 0, slots := 0, locals := 135 }, [], none)
abbrev MX8_setLimit : mm_M := (yX8_setLimit, cX8_setLimit, 3, (some .int), { frames := 1, cells := 0, slots := 0, locals := 22 }, [], none)
abbrev MX8_told_ : mm_M := (yX8_told_, cX8_told_, 2, (some .int), { frames := 1, cells := 0, slots := 0, locals := 22 }, [], none)
abbrev MX8_ringsOf : mm_M := (yX8_ringsOf, cX8_ringsOf, 3, (some .int), { frames := 0, cells := 0, slots := 0, locals := 0 }, [], none)
abbrev MX8_ringOf : mm_M := (yX8_ringOf, cX8_ringOf, 2, (some .int), { frames := 1, cells := 0, slots := 0, locals := 22 }, [], none)
abbrev MX8_lengthOf : mm_M := (yX8_lengthOf, cX8_lengthOf, 4, (some .int), { frames := 2, cells := 0, slots := 0, locals := 43 }, [], none)
abbrev MX8_bothLengths : mm_M := (yX8_bothLengths, cX8_bothLengths, 2, (some .int), { frames := 3, cells := 0, slots := 0, locals := 66 }, [], none)
abbrev MX8_heard : mm_M := (yX8_heard, cX8_heard, 5, (some .int), { frames := 2, cells := 0, slots := 0, locals := 43 }, [], none)
abbrev MX8_heardIn : mm_M := (yX8_heardIn, cX8_heardIn, 5, (some .int), { frames := 4, cells := 0, slots := 0, locals := 87 }, [], none)
abbrev MX8_rings : mm_M := (yX8_rings, cX8_rings, 2, (some .int), { frames := 5, cells := 0, slots := 0, locals := 111 }, [], none)
abbrev MX8_isCode : mm_M := (yX8_isCode, cX8_isCode, 1, (some .boolean), { frames := 1, cells := 0, slots := 0, locals := 22 }, [], none)
abbrev MX8_codeLength : mm_M := (yX8_codeLength, cX8_codeLength, 2, (some .int), { frames := 3, cells := 0, slots := 0, locals := 66 }, [], none)
abbrev MX8_codeRing : mm_M := (yX8_codeRing, cX8_codeRing, 3, (some .int), { frames := 2, cells := 0, slots := 0, locals := 43 }, [], none)
abbrev MX8_costOf : mm_M := (yX8_costOf, cX8_costOf, 4, (some .int), { frames := 3, cells := 0, slots := 0, locals := 66 }, [], none)
abbrev MX8_codeCost : mm_M := (yX8_codeCost, cX8_codeCost, 2, (some .int), { frames := 4, cells := 0, slots := 0, locals := 89 }, [], none)
abbrev MX8_codeAt : mm_M := (yX8_codeAt, cX8_codeAt, 4, (some .int), { frames := 3, cells := 0, slots := 0, locals := 66 }, [], none)
abbrev MX8_placeOf : mm_M := (yX8_placeOf, cX8_placeOf, 5, (some .int), { frames := 1, cells := 0, slots := 0, locals := 22 }, [], none)
abbrev MX8_bestCodes : mm_M := (yX8_bestCodes, cX8_bestCodes, 4, (some .int), { frames := 4, cells := 0, slots := 0, locals := 89 }, [], none)
abbrev MX8_assignCodes : mm_M := (yX8_assignCodes, cX8_assignCodes, 6, (some .int), { frames := 4, cells := 0, slots := 0, locals := 89 }, [], none)
abbrev MX8_fault : mm_M := (yX8_fault, cX8_fault, 7, (some .int), { frames := 5, cells := 0, slots := 0, locals := 112 }, [], none)
abbrev MX8_mend : mm_M := (yX8_mend, cX8_mend, 6, (some .int), { frames := 5, cells := 0, slots := 0, locals := 112 }, [], none)
abbrev MX8_isCut : mm_M := (yX8_isCut, cX8_isCut, 2, (some .boolean), { frames := 2, cells := 0, slots := 0, locals := 44 }, [], none)
abbrev MX8_setRisk : mm_M := (yX8_setRisk, cX8_setRisk, 6, (some .int), { frames := 2, cells := 0, slots := 0, locals := 43 }, [], none)
abbrev MX8_test : mm_M := (yX8_test, cX8_test, 4, (some .boolean), { frames := 2, cells := 0, slots := 0, locals := 43 }, [], none)
abbrev MX8_laysTests : mm_M := (yX8_laysTests, cX8_laysTests, 10, none, { frames := 1, cells := 0, slots := 0, locals := 22 }, [], none)
abbrev MX8_testRefusal : mm_M := (yX8_testRefusal, cX8_testRefusal, 4, (some .int), { frames := 2, cells := 0, slots := 0, locals := 43 }, [], none)
abbrev MX8_testCost : mm_M := (yX8_testCost, cX8_testCost, 4, (some .int), { frames := 3, cells := 0, slots := 0, locals := 66 }, [], none)
abbrev MX8_bestTest : mm_M := (yX8_bestTest, cX8_bestTest, 4, (some .int), { frames := 3, cells := 0, slots := 0, locals := 66 }, [], none)
abbrev MX8_testsNeeded : mm_M := (yX8_testsNeeded, cX8_testsNeeded, 7, (some .int), { frames := 2, cells := 0, slots := 0, locals := 51 }, [], none)
abbrev MX8_mix : mm_M := (yX8_mix, cX8_mix, 2, none, { frames := 0, cells := 0, slots := 0, locals := 0 }, [], none)
abbrev MX8_digest : mm_M := (yX8_digest, cX8_digest, 3, (some .long), { frames := 5, cells := 0, slots := 0, locals := 111 }, [], none)
abbrev ML_addLoop : mm_M := (yL_addLoop, cL_addLoop, 3, (some .int), { frames := 7, cells := 1, slots := 6, locals := 102 }, [(0, 8, 11, 13)], none)
abbrev ML_addSubscriber : mm_M := (yL_addSubscriber, cL_addSubscriber, 6, (some .int), { frames := 8, cells := 2, slots := 12, locals := 128 }, [(0, 12, 15, 19), (0, 12, 19, 21), (0, 12, 23, 13)], none)
abbrev ML_set : mm_M := (yL_set, cL_set, 6, (some .int), { frames := 8, cells := 2, slots := 12, locals := 131 }, [(0, 12, 15, 19), (0, 12, 19, 21), (0, 12, 23, 13)], none)
abbrev ML_subscriber : mm_M := (yL_subscriber, cL_subscriber, 5, (some .int), { frames := 8, cells := 2, slots := 12, locals := 129 }, [(0, 10, 13, 19), (0, 10, 17, 21)], none)
abbrev ML_loop : mm_M := (yL_loop, cL_loop, 5, (some .int), { frames := 8, cells := 2, slots := 12, locals := 127 }, [(0, 10, 13, 19), (0, 10, 17, 21)], none)
abbrev ML_lift : mm_M := (yL_lift, cL_lift, 4, (some .int), { frames := 8, cells := 2, slots := 12, locals := 130 }, [(0, 9, 12, 19), (0, 9, 15, 13)], none)
abbrev ML_hang : mm_M := (yL_hang, cL_hang, 4, (some .int), { frames := 8, cells := 2, slots := 12, locals := 157 }, [(0, 9, 12, 19), (0, 9, 15, 13)], none)
abbrev ML_dial : mm_M := (yL_dial, cL_dial, 5, (some .int), { frames := 8, cells := 2, slots := 12, locals := 135 }, [(0, 10, 13, 19), (0, 10, 17, 13)], none)
abbrev ML_tick : mm_M := (yL_tick, cL_tick, 4, (some .int), { frames := 8, cells := 1, slots := 6, locals := 177 }, [(0, 9, 12, 21)], none)
abbrev ML_setLimit : mm_M := (yL_setLimit, cL_setLimit, 4, (some .int), { frames := 7, cells := 1, slots := 6, locals := 104 }, [(0, 9, 12, 21)], none)
abbrev ML_rings : mm_M := (yL_rings, cL_rings, 4, (some .int), { frames := 8, cells := 1, slots := 6, locals := 133 }, [(0, 9, 12, 19)], none)
abbrev ML_wouldDial : mm_M := (yL_wouldDial, cL_wouldDial, 5, (some .int), { frames := 8, cells := 1, slots := 6, locals := 126 }, [(0, 10, 13, 19)], none)
abbrev ML_told : mm_M := (yL_told, cL_told, 4, (some .int), { frames := 7, cells := 1, slots := 6, locals := 103 }, [(0, 9, 12, 21)], none)
abbrev ML_codeLength : mm_M := (yL_codeLength, cL_codeLength, 4, (some .int), { frames := 7, cells := 1, slots := 6, locals := 103 }, [(0, 9, 12, 21)], none)
abbrev ML_codeRing : mm_M := (yL_codeRing, cL_codeRing, 5, (some .int), { frames := 7, cells := 1, slots := 6, locals := 104 }, [(0, 10, 13, 21)], none)
abbrev ML_codeCost : mm_M := (yL_codeCost, cL_codeCost, 4, (some .int), { frames := 8, cells := 1, slots := 6, locals := 125 }, [(0, 9, 12, 19)], none)
abbrev ML_bestCodes : mm_M := (yL_bestCodes, cL_bestCodes, 4, (some .int), { frames := 8, cells := 1, slots := 6, locals := 125 }, [(0, 9, 12, 19)], none)
abbrev ML_assignCodes : mm_M := (yL_assignCodes, cL_assignCodes, 4, (some .int), { frames := 8, cells := 2, slots := 12, locals := 126 }, [(0, 9, 12, 19), (0, 9, 15, 13)], none)
abbrev ML_fault : mm_M := (yL_fault, cL_fault, 6, (some .int), { frames := 8, cells := 2, slots := 12, locals := 159 }, [(0, 12, 15, 19), (0, 12, 19, 13)], none)
abbrev ML_mend : mm_M := (yL_mend, cL_mend, 4, (some .int), { frames := 8, cells := 2, slots := 12, locals := 157 }, [(0, 9, 12, 19), (0, 9, 15, 13)], none)
abbrev ML_isCut : mm_M := (yL_isCut, cL_isCut, 4, (some .int), { frames := 8, cells := 1, slots := 6, locals := 125 }, [(0, 16, 19, 19)], none)
abbrev ML_setRisk : mm_M := (yL_setRisk, cL_setRisk, 6, (some .int), { frames := 8, cells := 2, slots := 12, locals := 129 }, [(0, 12, 15, 19), (0, 12, 19, 21)], none)
abbrev ML_test : mm_M := (yL_test, cL_test, 5, (some .int), { frames := 8, cells := 2, slots := 12, locals := 127 }, [(0, 17, 20, 19), (0, 17, 24, 21), (0, 17, 28, 13)], none)
abbrev ML_testCost : mm_M := (yL_testCost, cL_testCost, 6, (some .int), { frames := 9, cells := 2, slots := 12, locals := 151 }, [(0, 12, 15, 19), (0, 12, 19, 21)], none)
abbrev ML_bestTest : mm_M := (yL_bestTest, cL_bestTest, 6, (some .int), { frames := 9, cells := 2, slots := 12, locals := 151 }, [(0, 12, 15, 19), (0, 12, 19, 21)], none)
abbrev ML_testsNeeded : mm_M := (yL_testsNeeded, cL_testsNeeded, 4, (some .int), { frames := 8, cells := 2, slots := 12, locals := 126 }, [(0, 9, 12, 19), (0, 9, 15, 13)], none)
abbrev ML_undo : mm_M := (yL_undo, cL_undo, 3, (some .int), { frames := 7, cells := 1, slots := 6, locals := 102 }, [(0, 8, 11, 13)], none)
abbrev ML_law (b n : Nat) (xs : Nat → Int32) : mm_M := (yL_law, cL_law, 7, some .boolean, room_1, [], some (b, n, xs))
def mm_cb (M2 : mm_M) (n : Nat) : Prop := (mm_my M2).cls ≠ "java/lang/invoke/MethodHandle" ∧ (mm_my M2).cls ≠ "java/lang/invoke/VarHandle" ∧ (parseMethodDescriptor (mm_my M2).desc).map (fun d => d.parameters.length) = some n ∧ mm_mh M2 = [] ∧ Cond.code (mm_my M2) (mm_mc M2) (mm_mx M2) (mm_mr M2) ∈ mm_B ∧ Cond.initialized (mm_my M2).cls ∈ mm_B
theorem mm_fit_of {M M2 : mm_M} {n : Nat} (h : mm_cb M2 n) (h1 : (mm_mo M2).frames + 1 ≤ (mm_mo M).frames) (h2 : 8 + (mm_mx M2 + 11) + (mm_mo M2).locals ≤ (mm_mo M).locals) : mm_fit M M2 n := ⟨h.1, h.2.1, h.2.2.1, h1, h2, h.2.2.2.1, h.2.2.2.2.1, h.2.2.2.2.2⟩
theorem cbX0_isCode : mm_cb MX0_isCode 1 := ⟨by decide, by decide, by decide +kernel, rfl, wq485, wq14⟩
theorem cbX0_ringCount : mm_cb MX0_ringCount 1 := ⟨by decide, by decide, by decide +kernel, rfl, wq305, wq14⟩
theorem cbX0_isLong : mm_cb MX0_isLong 2 := ⟨by decide, by decide, by decide +kernel, rfl, wq311, wq14⟩
theorem cbX0_lengthOf : mm_cb MX0_lengthOf 1 := ⟨by decide, by decide, by decide +kernel, rfl, wq302, wq14⟩
theorem cbX0_soundAt : mm_cb MX0_soundAt 2 := ⟨by decide, by decide, by decide +kernel, rfl, wq308, wq14⟩
theorem cbX0_byLength : mm_cb MX0_byLength 1 := ⟨by decide, by decide, by decide +kernel, rfl, wq754, wq14⟩
theorem cbX1_init : mm_cb MX1_init 1 := ⟨by decide, by decide, by decide +kernel, rfl, wq189, wq5⟩
theorem cbX1_liftReceiver : mm_cb MX1_liftReceiver 1 := ⟨by decide, by decide, by decide +kernel, rfl, wq563, wq5⟩
theorem cvX1_liftReceiver : cvo MX1_liftReceiver 0 := ⟨wq561, wq562, by decide, (RX1, TX1, 1), rfl, rfl⟩
theorem cbX1_answerCall : mm_cb MX1_answerCall 2 := ⟨by decide, by decide, by decide +kernel, rfl, wq573, wq5⟩
theorem cvX1_answerCall : cvo MX1_answerCall 0 := ⟨wq572, wqp12, by decide, (RX1, TX1, 1), rfl, rfl⟩
theorem cbX1_answerInLoop : mm_cb MX1_answerInLoop 2 := ⟨by decide, by decide, by decide +kernel, rfl, wq578, wq5⟩
theorem cvX1_answerInLoop : cvo MX1_answerInLoop 0 := ⟨wq577, wqp13, by decide, (RX1, TX1, 1), rfl, rfl⟩
theorem cbX1_comeUpon : mm_cb MX1_comeUpon 2 := ⟨by decide, by decide, by decide +kernel, rfl, wq582, wq5⟩
theorem cvX1_comeUpon : cvo MX1_comeUpon 0 := ⟨wq581, wqp14, by decide, (RX1, TX1, 1), rfl, rfl⟩
theorem cbX1_isPrivateTalk : mm_cb MX1_isPrivateTalk 1 := ⟨by decide, by decide, by decide +kernel, rfl, wq586, wq5⟩
theorem cvX1_isPrivateTalk : cvo MX1_isPrivateTalk 0 := ⟨wq585, wqp15, by decide, (RX1, TX1, 1), rfl, rfl⟩
theorem cbX1_wantsPrivacy : mm_cb MX1_wantsPrivacy 1 := ⟨by decide, by decide, by decide +kernel, rfl, wq590, wq5⟩
theorem cvX1_wantsPrivacy : cvo MX1_wantsPrivacy 0 := ⟨wq589, wqp16, by decide, (RX1, TX1, 1), rfl, rfl⟩
theorem cbX1_hangUp : mm_cb MX1_hangUp 1 := ⟨by decide, by decide, by decide +kernel, rfl, wq606, wq5⟩
theorem cvX1_hangUp : cvo MX1_hangUp 0 := ⟨wq604, wq605, by decide, (RX1, TX1, 1), rfl, rfl⟩
theorem cbX1_endCall : mm_cb MX1_endCall 1 := ⟨by decide, by decide, by decide +kernel, rfl, wq616, wq5⟩
theorem cvX1_endCall : cvo MX1_endCall 0 := ⟨wq615, wqp19, by decide, (RX1, TX1, 1), rfl, rfl⟩
theorem cbX1_leave : mm_cb MX1_leave 1 := ⟨by decide, by decide, by decide +kernel, rfl, wq620, wq5⟩
theorem cvX1_leave : cvo MX1_leave 0 := ⟨wq619, wqp20, by decide, (RX1, TX1, 1), rfl, rfl⟩
theorem cbX1_lowestOffHook : mm_cb MX1_lowestOffHook 1 := ⟨by decide, by decide, by decide +kernel, rfl, wq611, wq5⟩
theorem cvX1_lowestOffHook : cvo MX1_lowestOffHook 0 := ⟨wq610, wqp18, by decide, (RX1, TX1, 1), rfl, rfl⟩
theorem cbX1_phaseByDialing : mm_cb MX1_phaseByDialing 2 := ⟨by decide, by decide, by decide +kernel, rfl, wq636, wq5⟩
theorem cvX1_phaseByDialing : cvo MX1_phaseByDialing 0 := ⟨wq634, wq635, by decide, (RX1, TX1, 1), rfl, rfl⟩
theorem cbX1_dialNumber : mm_cb MX1_dialNumber 3 := ⟨by decide, by decide, by decide +kernel, rfl, wq632, wq5⟩
theorem cvX1_dialNumber : cvo MX1_dialNumber 0 := ⟨wq630, wq631, by decide, (RX1, TX1, 1), rfl, rfl⟩
theorem cbX1_ringFrom : mm_cb MX1_ringFrom 2 := ⟨by decide, by decide, by decide +kernel, rfl, wq641, wq5⟩
theorem cvX1_ringFrom : cvo MX1_ringFrom 0 := ⟨wq640, wqp21, by decide, (RX1, TX1, 1), rfl, rfl⟩
theorem cbX1_passOneTick : mm_cb MX1_passOneTick 0 := ⟨by decide, by decide, by decide +kernel, rfl, wq653, wq5⟩
theorem cvX1_passOneTick : cvo MX1_passOneTick 0 := ⟨wq651, wq652, by decide, (RX1, TX1, 1), rfl, rfl⟩
theorem cbX1_takeTurn : mm_cb MX1_takeTurn 1 := ⟨by decide, by decide, by decide +kernel, rfl, wq657, wq5⟩
theorem cvX1_takeTurn : cvo MX1_takeTurn 0 := ⟨wq656, wqp22, by decide, (RX1, TX1, 1), rfl, rfl⟩
theorem cbX1_isLost : mm_cb MX1_isLost 1 := ⟨by decide, by decide, by decide +kernel, rfl, wq661, wq5⟩
theorem cvX1_isLost : cvo MX1_isLost 0 := ⟨wq660, wqp23, by decide, (RX1, TX1, 1), rfl, rfl⟩
theorem cbX1_countUnits : mm_cb MX1_countUnits 1 := ⟨by decide, by decide, by decide +kernel, rfl, wq665, wq5⟩
theorem cvX1_countUnits : cvo MX1_countUnits 0 := ⟨wq664, wqp24, by decide, (RX1, TX1, 1), rfl, rfl⟩
theorem cbX1_isOverLimit : mm_cb MX1_isOverLimit 1 := ⟨by decide, by decide, by decide +kernel, rfl, wq669, wq5⟩
theorem cvX1_isOverLimit : cvo MX1_isOverLimit 0 := ⟨wq668, wqp25, by decide, (RX1, TX1, 1), rfl, rfl⟩
theorem cbX1_locksSomeoneOut : mm_cb MX1_locksSomeoneOut 1 := ⟨by decide, by decide, by decide +kernel, rfl, wq673, wq5⟩
theorem cvX1_locksSomeoneOut : cvo MX1_locksSomeoneOut 0 := ⟨wq672, wqp26, by decide, (RX1, TX1, 1), rfl, rfl⟩
theorem cbX1_breakSpan : mm_cb MX1_breakSpan 3 := ⟨by decide, by decide, by decide +kernel, rfl, wq782, wq5⟩
theorem cvX1_breakSpan : cvo MX1_breakSpan 0 := ⟨wq780, wq781, by decide, (RX1, TX1, 1), rfl, rfl⟩
theorem cbX1_mendSpan : mm_cb MX1_mendSpan 1 := ⟨by decide, by decide, by decide +kernel, rfl, wq798, wq5⟩
theorem cvX1_mendSpan : cvo MX1_mendSpan 0 := ⟨wq796, wq797, by decide, (RX1, TX1, 1), rfl, rfl⟩
theorem cbX1_hasCutOffReceiver : mm_cb MX1_hasCutOffReceiver 1 := ⟨by decide, by decide, by decide +kernel, rfl, wq802, wq5⟩
theorem cvX1_hasCutOffReceiver : cvo MX1_hasCutOffReceiver 0 := ⟨wq801, wqp28, by decide, (RX1, TX1, 1), rfl, rfl⟩
theorem cbX1_ticksOfRound : mm_cb MX1_ticksOfRound 1 := ⟨by decide, by decide, by decide +kernel, rfl, wq294, wq5⟩
theorem cvX1_ticksOfRound : cvo MX1_ticksOfRound 0 := ⟨wq293, wqp2, by decide, (RX1, TX1, 1), rfl, rfl⟩
theorem cbX1_ticksOfCode : mm_cb MX1_ticksOfCode 1 := ⟨by decide, by decide, by decide +kernel, rfl, wq298, wq5⟩
theorem cvX1_ticksOfCode : cvo MX1_ticksOfCode 0 := ⟨wq297, wqp3, by decide, (RX1, TX1, 1), rfl, rfl⟩
theorem cbX1_soundOf : mm_cb MX1_soundOf 1 := ⟨by decide, by decide, by decide +kernel, rfl, wq286, wq5⟩
theorem cvX1_soundOf : cvo MX1_soundOf 0 := ⟨wq284, wq285, by decide, (RX1, TX1, 1), rfl, rfl⟩
theorem cbX2_init : mm_cb MX2_init 0 := ⟨by decide, by decide, by decide +kernel, rfl, wq199, wq6⟩
theorem cbX2_save : mm_cb MX2_save 1 := ⟨by decide, by decide, by decide +kernel, rfl, wq426, wq6⟩
theorem cvX2_save : cvo MX2_save 1 := ⟨wq424, wq425, by decide, (RX2, TX2, 2), rfl, rfl⟩
theorem cbX2_dropOldest : mm_cb MX2_dropOldest 0 := ⟨by decide, by decide, by decide +kernel, rfl, wq430, wq6⟩
theorem cvX2_dropOldest : cvo MX2_dropOldest 1 := ⟨wq429, wqp7, by decide, (RX2, TX2, 2), rfl, rfl⟩
theorem cbX2_restore : mm_cb MX2_restore 1 := ⟨by decide, by decide, by decide +kernel, rfl, wq877, wq6⟩
theorem cvX2_restore : cvo MX2_restore 1 := ⟨wq875, wq876, by decide, (RX2, TX2, 2), rfl, rfl⟩
theorem cbX2_savedAt : mm_cb MX2_savedAt 1 := ⟨by decide, by decide, by decide +kernel, rfl, wq434, wq6⟩
theorem cvX2_savedAt : cvo MX2_savedAt 1 := ⟨wq433, wqp8, by decide, (RX2, TX2, 2), rfl, rfl⟩
theorem cbX3_init : mm_cb MX3_init 1 := ⟨by decide, by decide, by decide +kernel, rfl, wq37, wq3⟩
theorem cbX3_begin : mm_cb MX3_begin 0 := ⟨by decide, by decide, by decide +kernel, rfl, wq96, wq3⟩
theorem cvX3_begin : cvo MX3_begin 2 := ⟨wq94, wq95, by decide, (RX3, TX3, 10), rfl, rfl⟩
theorem cbX3_comeTo : mm_cb MX3_comeTo 1 := ⟨by decide, by decide, by decide +kernel, rfl, wq100, wq3⟩
theorem cvX3_comeTo : cvo MX3_comeTo 2 := ⟨wq98, wq99, by decide, (RX3, TX3, 10), rfl, rfl⟩
theorem cbX3_comeToWith : mm_cb MX3_comeToWith 2 := ⟨by decide, by decide, by decide +kernel, rfl, wq569, wq3⟩
theorem cvX3_comeToWith : cvo MX3_comeToWith 2 := ⟨wq567, wq568, by decide, (RX3, TX3, 10), rfl, rfl⟩
theorem cbX3_isRung : mm_cb MX3_isRung 0 := ⟨by decide, by decide, by decide +kernel, rfl, wq290, wq3⟩
theorem cvX3_isRung : cvo MX3_isRung 2 := ⟨wq288, wq289, by decide, (RX3, TX3, 10), rfl, rfl⟩
theorem cbX3_hasFault : mm_cb MX3_hasFault 0 := ⟨by decide, by decide, by decide +kernel, rfl, wq342, wq3⟩
theorem cvX3_hasFault : cvo MX3_hasFault 2 := ⟨wq340, wq341, by decide, (RX3, TX3, 10), rfl, rfl⟩
theorem cbX3_clearFault : mm_cb MX3_clearFault 0 := ⟨by decide, by decide, by decide +kernel, rfl, wq104, wq3⟩
theorem cvX3_clearFault : cvo MX3_clearFault 2 := ⟨wq102, wq103, by decide, (RX3, TX3, 10), rfl, rfl⟩
theorem cbX3_cutsOff : mm_cb MX3_cutsOff 1 := ⟨by decide, by decide, by decide +kernel, rfl, wq338, wq3⟩
theorem cvX3_cutsOff : cvo MX3_cutsOff 2 := ⟨wq336, wq337, by decide, (RX3, TX3, 10), rfl, rfl⟩
theorem cbX3_copyFrom : mm_cb MX3_copyFrom 1 := ⟨by decide, by decide, by decide +kernel, rfl, wq442, wq3⟩
theorem cvX3_copyFrom : cvo MX3_copyFrom 2 := ⟨wq440, wq441, by decide, (RX3, TX3, 10), rfl, rfl⟩
theorem cbX4_init : mm_cb MX4_init 0 := ⟨by decide, by decide, by decide +kernel, rfl, wq216, wq7⟩
theorem cbX4_plan : mm_cb MX4_plan 3 := ⟨by decide, by decide, by decide +kernel, rfl, wq843, wq7⟩
theorem cvX4_plan : cvo MX4_plan 3 := ⟨wq841, wq842, by decide, (RX4, TX4, 2), rfl, rfl⟩
theorem cbX4_planRun : mm_cb MX4_planRun 3 := ⟨by decide, by decide, by decide +kernel, rfl, wq847, wq7⟩
theorem cvX4_planRun : cvo MX4_planRun 3 := ⟨wq846, wqp30, by decide, (RX4, TX4, 2), rfl, rfl⟩
theorem cbX4_countUntilFound : mm_cb MX4_countUntilFound 1 := ⟨by decide, by decide, by decide +kernel, rfl, wq865, wq7⟩
theorem cvX4_countUntilFound : cvo MX4_countUntilFound 3 := ⟨wq863, wq864, by decide, (RX4, TX4, 2), rfl, rfl⟩
theorem cbX5_init : mm_cb MX5_init 0 := ⟨by decide, by decide, by decide +kernel, rfl, wq28, wq2⟩
theorem cbX5_loopAt : mm_cb MX5_loopAt 1 := ⟨by decide, by decide, by decide +kernel, rfl, wq262, wq2⟩
theorem cvX5_loopAt : cvo MX5_loopAt 4 := ⟨wq260, wq261, by decide, (RX5, TX5, 6), rfl, rfl⟩
theorem cbX5_subscriberAt : mm_cb MX5_subscriberAt 1 := ⟨by decide, by decide, by decide +kernel, rfl, wq282, wq2⟩
theorem cvX5_subscriberAt : cvo MX5_subscriberAt 4 := ⟨wq280, wq281, by decide, (RX5, TX5, 6), rfl, rfl⟩
theorem cbX5_memberAt : mm_cb MX5_memberAt 2 := ⟨by decide, by decide, by decide +kernel, rfl, wq278, wq2⟩
theorem cvX5_memberAt : cvo MX5_memberAt 4 := ⟨wq276, wq277, by decide, (RX5, TX5, 6), rfl, rfl⟩
theorem cbX5_openLoop : mm_cb MX5_openLoop 0 := ⟨by decide, by decide, by decide +kernel, rfl, wq450, wq2⟩
theorem cvX5_openLoop : cvo MX5_openLoop 4 := ⟨wq448, wq449, by decide, (RX5, TX5, 6), rfl, rfl⟩
theorem cbX5_enroll : mm_cb MX5_enroll 3 := ⟨by decide, by decide, by decide +kernel, rfl, wq510, wq2⟩
theorem cvX5_enroll : cvo MX5_enroll 4 := ⟨wq508, wq509, by decide, (RX5, TX5, 6), rfl, rfl⟩
theorem cbX5_hasCode : mm_cb MX5_hasCode 3 := ⟨by decide, by decide, by decide +kernel, rfl, wq505, wq2⟩
theorem cvX5_hasCode : cvo MX5_hasCode 4 := ⟨wq503, wq504, by decide, (RX5, TX5, 6), rfl, rfl⟩
theorem cbX5_countMembers : mm_cb MX5_countMembers 1 := ⟨by decide, by decide, by decide +kernel, rfl, wq274, wq2⟩
theorem cvX5_countMembers : cvo MX5_countMembers 4 := ⟨wq272, wq273, by decide, (RX5, TX5, 6), rfl, rfl⟩
theorem cbX5_loopsInUse : mm_cb MX5_loopsInUse 0 := ⟨by decide, by decide, by decide +kernel, rfl, wq677, wq2⟩
theorem cvX5_loopsInUse : cvo MX5_loopsInUse 4 := ⟨wq675, wq676, by decide, (RX5, TX5, 6), rfl, rfl⟩
theorem cbX5_isCutOff : mm_cb MX5_isCutOff 1 := ⟨by decide, by decide, by decide +kernel, rfl, wq333, wq2⟩
theorem cvX5_isCutOff : cvo MX5_isCutOff 4 := ⟨wq331, wq332, by decide, (RX5, TX5, 6), rfl, rfl⟩
theorem cbX5_countCutOff : mm_cb MX5_countCutOff 1 := ⟨by decide, by decide, by decide +kernel, rfl, wq786, wq2⟩
theorem cvX5_countCutOff : cvo MX5_countCutOff 4 := ⟨wq784, wq785, by decide, (RX5, TX5, 6), rfl, rfl⟩
theorem cbX5_standingOf : mm_cb MX5_standingOf 1 := ⟨by decide, by decide, by decide +kernel, rfl, wq329, wq2⟩
theorem cvX5_standingOf : cvo MX5_standingOf 4 := ⟨wq327, wq328, by decide, (RX5, TX5, 6), rfl, rfl⟩
theorem cbX5_isParty : mm_cb MX5_isParty 1 := ⟨by decide, by decide, by decide +kernel, rfl, wq346, wq2⟩
theorem cvX5_isParty : cvo MX5_isParty 4 := ⟨wq344, wq345, by decide, (RX5, TX5, 6), rfl, rfl⟩
theorem cbX5_costOfCodes : mm_cb MX5_costOfCodes 1 := ⟨by decide, by decide, by decide +kernel, rfl, wq315, wq2⟩
theorem cvX5_costOfCodes : cvo MX5_costOfCodes 4 := ⟨wq313, wq314, by decide, (RX5, TX5, 6), rfl, rfl⟩
theorem cbX5_leastCostOfCodes : mm_cb MX5_leastCostOfCodes 1 := ⟨by decide, by decide, by decide +kernel, rfl, wq743, wq2⟩
theorem cvX5_leastCostOfCodes : cvo MX5_leastCostOfCodes 4 := ⟨wq741, wq742, by decide, (RX5, TX5, 6), rfl, rfl⟩
theorem cbX5_giveBestCodes : mm_cb MX5_giveBestCodes 1 := ⟨by decide, by decide, by decide +kernel, rfl, wq768, wq2⟩
theorem cvX5_giveBestCodes : cvo MX5_giveBestCodes 4 := ⟨wq766, wq767, by decide, (RX5, TX5, 6), rfl, rfl⟩
theorem cbX5_bestCodeOf : mm_cb MX5_bestCodeOf 2 := ⟨by decide, by decide, by decide +kernel, rfl, wq747, wq2⟩
theorem cvX5_bestCodeOf : cvo MX5_bestCodeOf 4 := ⟨wq746, wqp27, by decide, (RX5, TX5, 6), rfl, rfl⟩
theorem cbX5_copyFrom : mm_cb MX5_copyFrom 1 := ⟨by decide, by decide, by decide +kernel, rfl, wq438, wq2⟩
theorem cvX5_copyFrom : cvo MX5_copyFrom 4 := ⟨wq436, wq437, by decide, (RX5, TX5, 6), rfl, rfl⟩
theorem cbX6_init : mm_cb MX6_init 1 := ⟨by decide, by decide, by decide +kernel, rfl, wq108, wq4⟩
theorem cbX6_begin : mm_cb MX6_begin 3 := ⟨by decide, by decide, by decide +kernel, rfl, wq514, wq4⟩
theorem cvX6_begin : cvo MX6_begin 5 := ⟨wq512, wq513, by decide, (RX6, TX6, 9), rfl, rfl⟩
theorem cbX6_comesBefore : mm_cb MX6_comesBefore 1 := ⟨by decide, by decide, by decide +kernel, rfl, wq751, wq4⟩
theorem cvX6_comesBefore : cvo MX6_comesBefore 5 := ⟨wq749, wq750, by decide, (RX6, TX6, 9), rfl, rfl⟩
theorem cbX6_copyFrom : mm_cb MX6_copyFrom 1 := ⟨by decide, by decide, by decide +kernel, rfl, wq446, wq4⟩
theorem cvX6_copyFrom : cvo MX6_copyFrom 5 := ⟨wq444, wq445, by decide, (RX6, TX6, 9), rfl, rfl⟩
theorem cbX7_init : mm_cb MX7_init 0 := ⟨by decide, by decide, by decide +kernel, rfl, wq20, wq1⟩
theorem cbX7_addLoop : mm_cb MX7_addLoop 0 := ⟨by decide, by decide, by decide +kernel, rfl, wq354, wq1⟩
theorem cvX7_addLoop : cvo MX7_addLoop 6 := ⟨wq352, wq353, by decide, (RX7, TX7, 4), rfl, rfl⟩
theorem cbX7_addSubscriber : mm_cb MX7_addSubscriber 3 := ⟨by decide, by decide, by decide +kernel, rfl, wq459, wq1⟩
theorem cvX7_addSubscriber : cvo MX7_addSubscriber 6 := ⟨wq457, wq458, by decide, (RX7, TX7, 4), rfl, rfl⟩
theorem cbX7_set : mm_cb MX7_set 3 := ⟨by decide, by decide, by decide +kernel, rfl, wq521, wq1⟩
theorem cvX7_set : cvo MX7_set 6 := ⟨wq519, wq520, by decide, (RX7, TX7, 4), rfl, rfl⟩
theorem cbX7_loops : mm_cb MX7_loops 0 := ⟨by decide, by decide, by decide +kernel, rfl, wq245, wq1⟩
theorem cvX7_loops : cvo MX7_loops 6 := ⟨wq243, wq244, by decide, (RX7, TX7, 4), rfl, rfl⟩
theorem cbX7_subscribers : mm_cb MX7_subscribers 0 := ⟨by decide, by decide, by decide +kernel, rfl, wq249, wq1⟩
theorem cvX7_subscribers : cvo MX7_subscribers 6 := ⟨wq247, wq248, by decide, (RX7, TX7, 4), rfl, rfl⟩
theorem cbX7_subscriber : mm_cb MX7_subscriber 2 := ⟨by decide, by decide, by decide +kernel, rfl, wq543, wq1⟩
theorem cvX7_subscriber : cvo MX7_subscriber 6 := ⟨wq541, wq542, by decide, (RX7, TX7, 4), rfl, rfl⟩
theorem cbX7_loop : mm_cb MX7_loop 2 := ⟨by decide, by decide, by decide +kernel, rfl, wq551, wq1⟩
theorem cvX7_loop : cvo MX7_loop 6 := ⟨wq549, wq550, by decide, (RX7, TX7, 4), rfl, rfl⟩
theorem cbX7_lift : mm_cb MX7_lift 1 := ⟨by decide, by decide, by decide +kernel, rfl, wq558, wq1⟩
theorem cvX7_lift : cvo MX7_lift 6 := ⟨wq556, wq557, by decide, (RX7, TX7, 4), rfl, rfl⟩
theorem cbX7_hang : mm_cb MX7_hang 1 := ⟨by decide, by decide, by decide +kernel, rfl, wq601, wq1⟩
theorem cvX7_hang : cvo MX7_hang 6 := ⟨wq599, wq600, by decide, (RX7, TX7, 4), rfl, rfl⟩
theorem cbX7_dial : mm_cb MX7_dial 2 := ⟨by decide, by decide, by decide +kernel, rfl, wq627, wq1⟩
theorem cvX7_dial : cvo MX7_dial 6 := ⟨wq625, wq626, by decide, (RX7, TX7, 4), rfl, rfl⟩
theorem cbX7_tick : mm_cb MX7_tick 1 := ⟨by decide, by decide, by decide +kernel, rfl, wq648, wq1⟩
theorem cvX7_tick : cvo MX7_tick 6 := ⟨wq646, wq647, by decide, (RX7, TX7, 4), rfl, rfl⟩
theorem cbX7_setLimit : mm_cb MX7_setLimit 1 := ⟨by decide, by decide, by decide +kernel, rfl, wq684, wq1⟩
theorem cvX7_setLimit : cvo MX7_setLimit 6 := ⟨wq682, wq683, by decide, (RX7, TX7, 4), rfl, rfl⟩
theorem cbX7_rings : mm_cb MX7_rings 1 := ⟨by decide, by decide, by decide +kernel, rfl, wq692, wq1⟩
theorem cvX7_rings : cvo MX7_rings 6 := ⟨wq690, wq691, by decide, (RX7, TX7, 4), rfl, rfl⟩
theorem cbX7_wouldDial : mm_cb MX7_wouldDial 2 := ⟨by decide, by decide, by decide +kernel, rfl, wq699, wq1⟩
theorem cvX7_wouldDial : cvo MX7_wouldDial 6 := ⟨wq697, wq698, by decide, (RX7, TX7, 4), rfl, rfl⟩
theorem cbX7_told : mm_cb MX7_told 1 := ⟨by decide, by decide, by decide +kernel, rfl, wq707, wq1⟩
theorem cvX7_told : cvo MX7_told 6 := ⟨wq705, wq706, by decide, (RX7, TX7, 4), rfl, rfl⟩
theorem cbX7_codeLength : mm_cb MX7_codeLength 1 := ⟨by decide, by decide, by decide +kernel, rfl, wq714, wq1⟩
theorem cvX7_codeLength : cvo MX7_codeLength 6 := ⟨wq712, wq713, by decide, (RX7, TX7, 4), rfl, rfl⟩
theorem cbX7_codeRing : mm_cb MX7_codeRing 2 := ⟨by decide, by decide, by decide +kernel, rfl, wq723, wq1⟩
theorem cvX7_codeRing : cvo MX7_codeRing 6 := ⟨wq721, wq722, by decide, (RX7, TX7, 4), rfl, rfl⟩
theorem cbX7_codeCost : mm_cb MX7_codeCost 1 := ⟨by decide, by decide, by decide +kernel, rfl, wq732, wq1⟩
theorem cvX7_codeCost : cvo MX7_codeCost 6 := ⟨wq730, wq731, by decide, (RX7, TX7, 4), rfl, rfl⟩
theorem cbX7_bestCodes : mm_cb MX7_bestCodes 1 := ⟨by decide, by decide, by decide +kernel, rfl, wq739, wq1⟩
theorem cvX7_bestCodes : cvo MX7_bestCodes 6 := ⟨wq737, wq738, by decide, (RX7, TX7, 4), rfl, rfl⟩
theorem cbX7_assignCodes : mm_cb MX7_assignCodes 1 := ⟨by decide, by decide, by decide +kernel, rfl, wq763, wq1⟩
theorem cvX7_assignCodes : cvo MX7_assignCodes 6 := ⟨wq761, wq762, by decide, (RX7, TX7, 4), rfl, rfl⟩
theorem cbX7_fault : mm_cb MX7_fault 3 := ⟨by decide, by decide, by decide +kernel, rfl, wq775, wq1⟩
theorem cvX7_fault : cvo MX7_fault 6 := ⟨wq773, wq774, by decide, (RX7, TX7, 4), rfl, rfl⟩
theorem cbX7_mend : mm_cb MX7_mend 1 := ⟨by decide, by decide, by decide +kernel, rfl, wq793, wq1⟩
theorem cvX7_mend : cvo MX7_mend 6 := ⟨wq791, wq792, by decide, (RX7, TX7, 4), rfl, rfl⟩
theorem cbX7_isCut : mm_cb MX7_isCut 1 := ⟨by decide, by decide, by decide +kernel, rfl, wq810, wq1⟩
theorem cvX7_isCut : cvo MX7_isCut 6 := ⟨wq808, wq809, by decide, (RX7, TX7, 4), rfl, rfl⟩
theorem cbX7_setRisk : mm_cb MX7_setRisk 3 := ⟨by decide, by decide, by decide +kernel, rfl, wq818, wq1⟩
theorem cvX7_setRisk : cvo MX7_setRisk 6 := ⟨wq816, wq817, by decide, (RX7, TX7, 4), rfl, rfl⟩
theorem cbX7_test : mm_cb MX7_test 2 := ⟨by decide, by decide, by decide +kernel, rfl, wq826, wq1⟩
theorem cvX7_test : cvo MX7_test 6 := ⟨wq824, wq825, by decide, (RX7, TX7, 4), rfl, rfl⟩
theorem cbX7_testCost : mm_cb MX7_testCost 3 := ⟨by decide, by decide, by decide +kernel, rfl, wq834, wq1⟩
theorem cvX7_testCost : cvo MX7_testCost 6 := ⟨wq832, wq833, by decide, (RX7, TX7, 4), rfl, rfl⟩
theorem cbX7_bestTest : mm_cb MX7_bestTest 3 := ⟨by decide, by decide, by decide +kernel, rfl, wq854, wq1⟩
theorem cvX7_bestTest : cvo MX7_bestTest 6 := ⟨wq852, wq853, by decide, (RX7, TX7, 4), rfl, rfl⟩
theorem cbX7_testsNeeded : mm_cb MX7_testsNeeded 1 := ⟨by decide, by decide, by decide +kernel, rfl, wq861, wq1⟩
theorem cvX7_testsNeeded : cvo MX7_testsNeeded 6 := ⟨wq859, wq860, by decide, (RX7, TX7, 4), rfl, rfl⟩
theorem cbX7_undo : mm_cb MX7_undo 0 := ⟨by decide, by decide, by decide +kernel, rfl, wq872, wq1⟩
theorem cvX7_undo : cvo MX7_undo 6 := ⟨wq870, wq871, by decide, (RX7, TX7, 4), rfl, rfl⟩
theorem cbX7_digest : mm_cb MX7_digest 0 := ⟨by decide, by decide, by decide +kernel, rfl, wq253, wq1⟩
theorem cvX7_digest : cvo MX7_digest 6 := ⟨wq251, wq252, by decide, (RX7, TX7, 4), rfl, rfl⟩
theorem cbX7_knownLoop : mm_cb MX7_knownLoop 1 := ⟨by decide, by decide, by decide +kernel, rfl, wq463, wq1⟩
theorem cvX7_knownLoop : cvo MX7_knownLoop 6 := ⟨wq462, wqp9, by decide, (RX7, TX7, 4), rfl, rfl⟩
theorem cbX7_knownSubscriber : mm_cb MX7_knownSubscriber 1 := ⟨by decide, by decide, by decide +kernel, rfl, wq525, wq1⟩
theorem cvX7_knownSubscriber : cvo MX7_knownSubscriber 6 := ⟨wq524, wqp10, by decide, (RX7, TX7, 4), rfl, rfl⟩
theorem cbX7_isSpan : mm_cb MX7_isSpan 1 := ⟨by decide, by decide, by decide +kernel, rfl, wq482, wq1⟩
theorem cbX7_isSettable : mm_cb MX7_isSettable 2 := ⟨by decide, by decide, by decide +kernel, rfl, wq529, wq1⟩
theorem cbX7_mayTakeCode : mm_cb MX7_mayTakeCode 2 := ⟨by decide, by decide, by decide +kernel, rfl, wq534, wq1⟩
theorem cvX7_mayTakeCode : cvo MX7_mayTakeCode 6 := ⟨wq533, wqp11, by decide, (RX7, TX7, 4), rfl, rfl⟩
theorem cbX7_planTests : mm_cb MX7_planTests 3 := ⟨by decide, by decide, by decide +kernel, rfl, wq838, wq1⟩
theorem cvX7_planTests : cvo MX7_planTests 6 := ⟨wq837, wqp29, by decide, (RX7, TX7, 4), rfl, rfl⟩
theorem cbX7_phaseOfLoopOf : mm_cb MX7_phaseOfLoopOf 1 := ⟨by decide, by decide, by decide +kernel, rfl, wq594, wq1⟩
theorem cvX7_phaseOfLoopOf : cvo MX7_phaseOfLoopOf 6 := ⟨wq593, wqp17, by decide, (RX7, TX7, 4), rfl, rfl⟩
theorem cbX7_subscriberValue : mm_cb MX7_subscriberValue 2 := ⟨by decide, by decide, by decide +kernel, rfl, wq325, wq1⟩
theorem cvX7_subscriberValue : cvo MX7_subscriberValue 6 := ⟨wq324, wqp5, by decide, (RX7, TX7, 4), rfl, rfl⟩
theorem cbX7_loopValue : mm_cb MX7_loopValue 2 := ⟨by decide, by decide, by decide +kernel, rfl, wq270, wq1⟩
theorem cvX7_loopValue : cvo MX7_loopValue 6 := ⟨wq269, wqp1, by decide, (RX7, TX7, 4), rfl, rfl⟩
theorem cbX7_mix : mm_cb MX7_mix 2 := ⟨by decide, by decide, by decide +kernel, rfl, wq257, wq1⟩
theorem cbX7_mixLoop : mm_cb MX7_mixLoop 2 := ⟨by decide, by decide, by decide +kernel, rfl, wq266, wq1⟩
theorem cvX7_mixLoop : cvo MX7_mixLoop 6 := ⟨wq265, wqp0, by decide, (RX7, TX7, 4), rfl, rfl⟩
theorem cbX7_mixSubscriber : mm_cb MX7_mixSubscriber 2 := ⟨by decide, by decide, by decide +kernel, rfl, wq321, wq1⟩
theorem cvX7_mixSubscriber : cvo MX7_mixSubscriber 6 := ⟨wq320, wqp4, by decide, (RX7, TX7, 4), rfl, rfl⟩
theorem cbX8_init : mm_cb MX8_init 0 := ⟨by decide, by decide, by decide +kernel, rfl, wq882, wq8⟩
theorem cbX8_thrown : mm_cb MX8_thrown 0 := ⟨by decide, by decide, by decide +kernel, rfl, wq917, wq8⟩
theorem cvX8_thrown : cvo MX8_thrown 7 := ⟨wq915, wq916, by decide, (RX8, TX8, 7), rfl, rfl⟩
theorem cbX8_refused : mm_cb MX8_refused 1 := ⟨by decide, by decide, by decide +kernel, rfl, wq925, wq8⟩
theorem cvX8_refused : cvo MX8_refused 7 := ⟨wq924, wqp33, by decide, (RX8, TX8, 7), rfl, rfl⟩
theorem cbX8_within : mm_cb MX8_within 3 := ⟨by decide, by decide, by decide +kernel, rfl, wq940, wq8⟩
theorem cbX8_need : mm_cb MX8_need 1 := ⟨by decide, by decide, by decide +kernel, rfl, wq1056, wq8⟩
theorem cvX8_need : cvo MX8_need 7 := ⟨wq1055, wqp54, by decide, (RX8, TX8, 7), rfl, rfl⟩
theorem cbX8_saves : mm_cb MX8_saves 0 := ⟨by decide, by decide, by decide +kernel, rfl, wq933, wq8⟩
theorem cvX8_saves : cvo MX8_saves 7 := ⟨wq932, wqp34, by decide, (RX8, TX8, 7), rfl, rfl⟩
theorem cbX8_undo : mm_cb MX8_undo 0 := ⟨by decide, by decide, by decide +kernel, rfl, wq921, wq8⟩
theorem cvX8_undo : cvo MX8_undo 7 := ⟨wq919, wq920, by decide, (RX8, TX8, 7), rfl, rfl⟩
theorem cbX8_of : mm_cb MX8_of 2 := ⟨by decide, by decide, by decide +kernel, rfl, wq972, wq8⟩
theorem cvX8_of : cvo MX8_of 7 := ⟨wq971, wqp41, by decide, (RX8, TX8, 7), rfl, rfl⟩
theorem cbX8_put : mm_cb MX8_put 3 := ⟨by decide, by decide, by decide +kernel, rfl, wq891, wq8⟩
theorem cvX8_put : cvo MX8_put 7 := ⟨wq890, wqp32, by decide, (RX8, TX8, 7), rfl, rfl⟩
theorem cbX8_its : mm_cb MX8_its 2 := ⟨by decide, by decide, by decide +kernel, rfl, wq952, wq8⟩
theorem cvX8_its : cvo MX8_its 7 := ⟨wq951, wqp37, by decide, (RX8, TX8, 7), rfl, rfl⟩
theorem cbX8_give : mm_cb MX8_give 3 := ⟨by decide, by decide, by decide +kernel, rfl, wq956, wq8⟩
theorem cvX8_give : cvo MX8_give 7 := ⟨wq955, wqp38, by decide, (RX8, TX8, 7), rfl, rfl⟩
theorem cbX8_isLoop : mm_cb MX8_isLoop 1 := ⟨by decide, by decide, by decide +kernel, rfl, wq944, wq8⟩
theorem cvX8_isLoop : cvo MX8_isLoop 7 := ⟨wq943, wqp35, by decide, (RX8, TX8, 7), rfl, rfl⟩
theorem cbX8_isOne : mm_cb MX8_isOne 1 := ⟨by decide, by decide, by decide +kernel, rfl, wq964, wq8⟩
theorem cvX8_isOne : cvo MX8_isOne 7 := ⟨wq963, wqp39, by decide, (RX8, TX8, 7), rfl, rfl⟩
theorem cbX8_makesLoop : mm_cb MX8_makesLoop 0 := ⟨by decide, by decide, by decide +kernel, rfl, wq887, wq8⟩
theorem cvX8_makesLoop : cvo MX8_makesLoop 7 := ⟨wq886, wqp31, by decide, (RX8, TX8, 7), rfl, rfl⟩
theorem cbX8_addLoop : mm_cb MX8_addLoop 0 := ⟨by decide, by decide, by decide +kernel, rfl, wq929, wq8⟩
theorem cvX8_addLoop : cvo MX8_addLoop 7 := ⟨wq927, wq928, by decide, (RX8, TX8, 7), rfl, rfl⟩
theorem cbX8_isTaken : mm_cb MX8_isTaken 3 := ⟨by decide, by decide, by decide +kernel, rfl, wq948, wq8⟩
theorem cvX8_isTaken : cvo MX8_isTaken 7 := ⟨wq947, wqp36, by decide, (RX8, TX8, 7), rfl, rfl⟩
theorem cbX8_addSubscriber : mm_cb MX8_addSubscriber 3 := ⟨by decide, by decide, by decide +kernel, rfl, wq937, wq8⟩
theorem cvX8_addSubscriber : cvo MX8_addSubscriber 7 := ⟨wq935, wq936, by decide, (RX8, TX8, 7), rfl, rfl⟩
theorem cbX8_isRung : mm_cb MX8_isRung 1 := ⟨by decide, by decide, by decide +kernel, rfl, wq968, wq8⟩
theorem cvX8_isRung : cvo MX8_isRung 7 := ⟨wq967, wqp40, by decide, (RX8, TX8, 7), rfl, rfl⟩
theorem cbX8_set : mm_cb MX8_set 3 := ⟨by decide, by decide, by decide +kernel, rfl, wq960, wq8⟩
theorem cvX8_set : cvo MX8_set 7 := ⟨wq958, wq959, by decide, (RX8, TX8, 7), rfl, rfl⟩
theorem cbX8_loops : mm_cb MX8_loops 0 := ⟨by decide, by decide, by decide +kernel, rfl, wq976, wq8⟩
theorem cvX8_loops : cvo MX8_loops 7 := ⟨wq974, wq975, by decide, (RX8, TX8, 7), rfl, rfl⟩
theorem cbX8_subscribers : mm_cb MX8_subscribers 0 := ⟨by decide, by decide, by decide +kernel, rfl, wq980, wq8⟩
theorem cvX8_subscribers : cvo MX8_subscribers 7 := ⟨wq978, wq979, by decide, (RX8, TX8, 7), rfl, rfl⟩
theorem cbX8_cut : mm_cb MX8_cut 1 := ⟨by decide, by decide, by decide +kernel, rfl, wq996, wq8⟩
theorem cvX8_cut : cvo MX8_cut 7 := ⟨wq995, wqp44, by decide, (RX8, TX8, 7), rfl, rfl⟩
theorem cbX8_state : mm_cb MX8_state 1 := ⟨by decide, by decide, by decide +kernel, rfl, wq992, wq8⟩
theorem cvX8_state : cvo MX8_state 7 := ⟨wq991, wqp43, by decide, (RX8, TX8, 7), rfl, rfl⟩
theorem cbX8_told : mm_cb MX8_told 2 := ⟨by decide, by decide, by decide +kernel, rfl, wq988, wq8⟩
theorem cvX8_told : cvo MX8_told 7 := ⟨wq987, wqp42, by decide, (RX8, TX8, 7), rfl, rfl⟩
theorem cbX8_subscriber : mm_cb MX8_subscriber 2 := ⟨by decide, by decide, by decide +kernel, rfl, wq984, wq8⟩
theorem cvX8_subscriber : cvo MX8_subscriber 7 := ⟨wq982, wq983, by decide, (RX8, TX8, 7), rfl, rfl⟩
theorem cbX8_toldLoop : mm_cb MX8_toldLoop 2 := ⟨by decide, by decide, by decide +kernel, rfl, wq1004, wq8⟩
theorem cvX8_toldLoop : cvo MX8_toldLoop 7 := ⟨wq1003, wqp45, by decide, (RX8, TX8, 7), rfl, rfl⟩
theorem cbX8_loop : mm_cb MX8_loop 2 := ⟨by decide, by decide, by decide +kernel, rfl, wq1000, wq8⟩
theorem cvX8_loop : cvo MX8_loop 7 := ⟨wq998, wq999, by decide, (RX8, TX8, 7), rfl, rfl⟩
theorem cbX8_comes : mm_cb MX8_comes 5 := ⟨by decide, by decide, by decide +kernel, rfl, wq1016, wq8⟩
theorem cvX8_comes : cvo MX8_comes 7 := ⟨wq1015, wqp47, by decide, (RX8, TX8, 7), rfl, rfl⟩
theorem cbX8_isOn : mm_cb MX8_isOn 2 := ⟨by decide, by decide, by decide +kernel, rfl, wq1032, wq8⟩
theorem cvX8_isOn : cvo MX8_isOn 7 := ⟨wq1031, wqp50, by decide, (RX8, TX8, 7), rfl, rfl⟩
theorem cbX8_leaves : mm_cb MX8_leaves 1 := ⟨by decide, by decide, by decide +kernel, rfl, wq1040, wq8⟩
theorem cvX8_leaves : cvo MX8_leaves 7 := ⟨wq1039, wqp52, by decide, (RX8, TX8, 7), rfl, rfl⟩
theorem cbX8_ends : mm_cb MX8_ends 1 := ⟨by decide, by decide, by decide +kernel, rfl, wq1036, wq8⟩
theorem cvX8_ends : cvo MX8_ends 7 := ⟨wq1035, wqp51, by decide, (RX8, TX8, 7), rfl, rfl⟩
theorem cbX8_isPrivate : mm_cb MX8_isPrivate 1 := ⟨by decide, by decide, by decide +kernel, rfl, wq1020, wq8⟩
theorem cvX8_isPrivate : cvo MX8_isPrivate 7 := ⟨wq1019, wqp48, by decide, (RX8, TX8, 7), rfl, rfl⟩
theorem cbX8_lifts : mm_cb MX8_lifts 1 := ⟨by decide, by decide, by decide +kernel, rfl, wq1012, wq8⟩
theorem cvX8_lifts : cvo MX8_lifts 7 := ⟨wq1011, wqp46, by decide, (RX8, TX8, 7), rfl, rfl⟩
theorem cbX8_lift : mm_cb MX8_lift 1 := ⟨by decide, by decide, by decide +kernel, rfl, wq1008, wq8⟩
theorem cvX8_lift : cvo MX8_lift 7 := ⟨wq1006, wq1007, by decide, (RX8, TX8, 7), rfl, rfl⟩
theorem cbX8_isAnyOn : mm_cb MX8_isAnyOn 1 := ⟨by decide, by decide, by decide +kernel, rfl, wq1028, wq8⟩
theorem cvX8_isAnyOn : cvo MX8_isAnyOn 7 := ⟨wq1027, wqp49, by decide, (RX8, TX8, 7), rfl, rfl⟩
theorem cbX8_hang : mm_cb MX8_hang 1 := ⟨by decide, by decide, by decide +kernel, rfl, wq1024, wq8⟩
theorem cvX8_hang : cvo MX8_hang 7 := ⟨wq1022, wq1023, by decide, (RX8, TX8, 7), rfl, rfl⟩
theorem cbX8_leadsTo : mm_cb MX8_leadsTo 2 := ⟨by decide, by decide, by decide +kernel, rfl, wq1048, wq8⟩
theorem cvX8_leadsTo : cvo MX8_leadsTo 7 := ⟨wq1047, wqp53, by decide, (RX8, TX8, 7), rfl, rfl⟩
theorem cbX8_dial : mm_cb MX8_dial 2 := ⟨by decide, by decide, by decide +kernel, rfl, wq1044, wq8⟩
theorem cvX8_dial : cvo MX8_dial 7 := ⟨wq1042, wq1043, by decide, (RX8, TX8, 7), rfl, rfl⟩
theorem cbX8_wouldDial : mm_cb MX8_wouldDial 2 := ⟨by decide, by decide, by decide +kernel, rfl, wq1052, wq8⟩
theorem cvX8_wouldDial : cvo MX8_wouldDial 7 := ⟨wq1050, wq1051, by decide, (RX8, TX8, 7), rfl, rfl⟩
theorem cbX8_isLocked : mm_cb MX8_isLocked 1 := ⟨by decide, by decide, by decide +kernel, rfl, wq1081, wq8⟩
theorem cvX8_isLocked : cvo MX8_isLocked 7 := ⟨wq1080, wqp57, by decide, (RX8, TX8, 7), rfl, rfl⟩
theorem cbX8_goesOn : mm_cb MX8_goesOn 1 := ⟨by decide, by decide, by decide +kernel, rfl, wq1064, wq8⟩
theorem cvX8_goesOn : cvo MX8_goesOn 7 := ⟨wq1063, wqp55, by decide, (RX8, TX8, 7), rfl, rfl⟩
theorem cbX8_tick : mm_cb MX8_tick 1 := ⟨by decide, by decide, by decide +kernel, rfl, wq1060, wq8⟩
theorem cvX8_tick : cvo MX8_tick 7 := ⟨wq1058, wq1059, by decide, (RX8, TX8, 7), rfl, rfl⟩
theorem cbX8_setLimit : mm_cb MX8_setLimit 1 := ⟨by decide, by decide, by decide +kernel, rfl, wq1085, wq8⟩
theorem cvX8_setLimit : cvo MX8_setLimit 7 := ⟨wq1083, wq1084, by decide, (RX8, TX8, 7), rfl, rfl⟩
theorem cbX8_told_ : mm_cb MX8_told_ 1 := ⟨by decide, by decide, by decide +kernel, rfl, wq1089, wq8⟩
theorem cvX8_told_ : cvo MX8_told_ 7 := ⟨wq1087, wq1088, by decide, (RX8, TX8, 7), rfl, rfl⟩
theorem cbX8_ringsOf : mm_cb MX8_ringsOf 1 := ⟨by decide, by decide, by decide +kernel, rfl, wq1070, wq8⟩
theorem cbX8_ringOf : mm_cb MX8_ringOf 2 := ⟨by decide, by decide, by decide +kernel, rfl, wq1073, wq8⟩
theorem cbX8_lengthOf : mm_cb MX8_lengthOf 1 := ⟨by decide, by decide, by decide +kernel, rfl, wq1067, wq8⟩
theorem cbX8_bothLengths : mm_cb MX8_bothLengths 1 := ⟨by decide, by decide, by decide +kernel, rfl, wq1077, wq8⟩
theorem cvX8_bothLengths : cvo MX8_bothLengths 7 := ⟨wq1076, wqp56, by decide, (RX8, TX8, 7), rfl, rfl⟩
theorem cbX8_heard : mm_cb MX8_heard 2 := ⟨by decide, by decide, by decide +kernel, rfl, wq1100, wq8⟩
theorem cbX8_heardIn : mm_cb MX8_heardIn 1 := ⟨by decide, by decide, by decide +kernel, rfl, wq1097, wq8⟩
theorem cvX8_heardIn : cvo MX8_heardIn 7 := ⟨wq1096, wqp58, by decide, (RX8, TX8, 7), rfl, rfl⟩
theorem cbX8_rings : mm_cb MX8_rings 1 := ⟨by decide, by decide, by decide +kernel, rfl, wq1093, wq8⟩
theorem cvX8_rings : cvo MX8_rings 7 := ⟨wq1091, wq1092, by decide, (RX8, TX8, 7), rfl, rfl⟩
theorem cbX8_isCode : mm_cb MX8_isCode 1 := ⟨by decide, by decide, by decide +kernel, rfl, wq1107, wq8⟩
theorem cbX8_codeLength : mm_cb MX8_codeLength 1 := ⟨by decide, by decide, by decide +kernel, rfl, wq1104, wq8⟩
theorem cvX8_codeLength : cvo MX8_codeLength 7 := ⟨wq1102, wq1103, by decide, (RX8, TX8, 7), rfl, rfl⟩
theorem cbX8_codeRing : mm_cb MX8_codeRing 2 := ⟨by decide, by decide, by decide +kernel, rfl, wq1111, wq8⟩
theorem cvX8_codeRing : cvo MX8_codeRing 7 := ⟨wq1109, wq1110, by decide, (RX8, TX8, 7), rfl, rfl⟩
theorem cbX8_costOf : mm_cb MX8_costOf 1 := ⟨by decide, by decide, by decide +kernel, rfl, wq1119, wq8⟩
theorem cvX8_costOf : cvo MX8_costOf 7 := ⟨wq1118, wqp59, by decide, (RX8, TX8, 7), rfl, rfl⟩
theorem cbX8_codeCost : mm_cb MX8_codeCost 1 := ⟨by decide, by decide, by decide +kernel, rfl, wq1115, wq8⟩
theorem cvX8_codeCost : cvo MX8_codeCost 7 := ⟨wq1113, wq1114, by decide, (RX8, TX8, 7), rfl, rfl⟩
theorem cbX8_codeAt : mm_cb MX8_codeAt 1 := ⟨by decide, by decide, by decide +kernel, rfl, wq1130, wq8⟩
theorem cbX8_placeOf : mm_cb MX8_placeOf 1 := ⟨by decide, by decide, by decide +kernel, rfl, wq1127, wq8⟩
theorem cvX8_placeOf : cvo MX8_placeOf 7 := ⟨wq1126, wqp60, by decide, (RX8, TX8, 7), rfl, rfl⟩
theorem cbX8_bestCodes : mm_cb MX8_bestCodes 1 := ⟨by decide, by decide, by decide +kernel, rfl, wq1123, wq8⟩
theorem cvX8_bestCodes : cvo MX8_bestCodes 7 := ⟨wq1121, wq1122, by decide, (RX8, TX8, 7), rfl, rfl⟩
theorem cbX8_assignCodes : mm_cb MX8_assignCodes 1 := ⟨by decide, by decide, by decide +kernel, rfl, wq1134, wq8⟩
theorem cvX8_assignCodes : cvo MX8_assignCodes 7 := ⟨wq1132, wq1133, by decide, (RX8, TX8, 7), rfl, rfl⟩
theorem cbX8_fault : mm_cb MX8_fault 3 := ⟨by decide, by decide, by decide +kernel, rfl, wq1138, wq8⟩
theorem cvX8_fault : cvo MX8_fault 7 := ⟨wq1136, wq1137, by decide, (RX8, TX8, 7), rfl, rfl⟩
theorem cbX8_mend : mm_cb MX8_mend 1 := ⟨by decide, by decide, by decide +kernel, rfl, wq1142, wq8⟩
theorem cvX8_mend : cvo MX8_mend 7 := ⟨wq1140, wq1141, by decide, (RX8, TX8, 7), rfl, rfl⟩
theorem cbX8_isCut : mm_cb MX8_isCut 1 := ⟨by decide, by decide, by decide +kernel, rfl, wq1146, wq8⟩
theorem cvX8_isCut : cvo MX8_isCut 7 := ⟨wq1144, wq1145, by decide, (RX8, TX8, 7), rfl, rfl⟩
theorem cbX8_setRisk : mm_cb MX8_setRisk 3 := ⟨by decide, by decide, by decide +kernel, rfl, wq1150, wq8⟩
theorem cvX8_setRisk : cvo MX8_setRisk 7 := ⟨wq1148, wq1149, by decide, (RX8, TX8, 7), rfl, rfl⟩
theorem cbX8_test : mm_cb MX8_test 2 := ⟨by decide, by decide, by decide +kernel, rfl, wq1154, wq8⟩
theorem cvX8_test : cvo MX8_test 7 := ⟨wq1152, wq1153, by decide, (RX8, TX8, 7), rfl, rfl⟩
theorem cbX8_laysTests : mm_cb MX8_laysTests 1 := ⟨by decide, by decide, by decide +kernel, rfl, wq1166, wq8⟩
theorem cvX8_laysTests : cvo MX8_laysTests 7 := ⟨wq1165, wqp62, by decide, (RX8, TX8, 7), rfl, rfl⟩
theorem cbX8_testRefusal : mm_cb MX8_testRefusal 3 := ⟨by decide, by decide, by decide +kernel, rfl, wq1162, wq8⟩
theorem cvX8_testRefusal : cvo MX8_testRefusal 7 := ⟨wq1161, wqp61, by decide, (RX8, TX8, 7), rfl, rfl⟩
theorem cbX8_testCost : mm_cb MX8_testCost 3 := ⟨by decide, by decide, by decide +kernel, rfl, wq1158, wq8⟩
theorem cvX8_testCost : cvo MX8_testCost 7 := ⟨wq1156, wq1157, by decide, (RX8, TX8, 7), rfl, rfl⟩
theorem cbX8_bestTest : mm_cb MX8_bestTest 3 := ⟨by decide, by decide, by decide +kernel, rfl, wq1170, wq8⟩
theorem cvX8_bestTest : cvo MX8_bestTest 7 := ⟨wq1168, wq1169, by decide, (RX8, TX8, 7), rfl, rfl⟩
theorem cbX8_testsNeeded : mm_cb MX8_testsNeeded 1 := ⟨by decide, by decide, by decide +kernel, rfl, wq1174, wq8⟩
theorem cvX8_testsNeeded : cvo MX8_testsNeeded 7 := ⟨wq1172, wq1173, by decide, (RX8, TX8, 7), rfl, rfl⟩
theorem cbX8_mix : mm_cb MX8_mix 1 := ⟨by decide, by decide, by decide +kernel, rfl, wq1183, wq8⟩
theorem cvX8_mix : cvo MX8_mix 7 := ⟨wq1182, wqp63, by decide, (RX8, TX8, 7), rfl, rfl⟩
theorem cbX8_digest : mm_cb MX8_digest 0 := ⟨by decide, by decide, by decide +kernel, rfl, wq1178, wq8⟩
theorem cvX8_digest : cvo MX8_digest 7 := ⟨wq1176, wq1177, by decide, (RX8, TX8, 7), rfl, rfl⟩
theorem flX3_15 : fl RX3 15 2 0 := ⟨(RX3, TX3, 10), okc2, by decide, wq39⟩
theorem flX5_51 : fl RX5 51 2 0 := ⟨(RX3, TX3, 10), okc2, by decide, wq40⟩
theorem flX1_124 : fl RX1 124 2 0 := ⟨(RX3, TX3, 10), okc2, by decide, wq41⟩
theorem flX1_37 : fl RX1 37 2 1 := ⟨(RX3, TX3, 10), okc2, by decide, wq42⟩
theorem fwX1_37 : flw RX1 37 2 1 .int := ⟨(RX3, TX3, 10), okc2, by decide, wq42, rfl, by decide +kernel⟩
theorem flX3_26 : fl RX3 26 2 1 := ⟨(RX3, TX3, 10), okc2, by decide, wq43⟩
theorem fwX3_26 : flw RX3 26 2 1 .int := ⟨(RX3, TX3, 10), okc2, by decide, wq43, rfl, by decide +kernel⟩
theorem flX5_68 : fl RX5 68 2 1 := ⟨(RX3, TX3, 10), okc2, by decide, wq44⟩
theorem fwX5_68 : flw RX5 68 2 1 .int := ⟨(RX3, TX3, 10), okc2, by decide, wq44, rfl, by decide +kernel⟩
theorem flX7_150 : fl RX7 150 2 1 := ⟨(RX3, TX3, 10), okc2, by decide, wq45⟩
theorem fwX7_150 : flw RX7 150 2 1 .int := ⟨(RX3, TX3, 10), okc2, by decide, wq45, rfl, by decide +kernel⟩
theorem flX3_29 : fl RX3 29 2 2 := ⟨(RX3, TX3, 10), okc2, by decide, wq46⟩
theorem fwX3_29 : flw RX3 29 2 2 .int := ⟨(RX3, TX3, 10), okc2, by decide, wq46, rfl, by decide +kernel⟩
theorem flX1_125 : fl RX1 125 2 2 := ⟨(RX3, TX3, 10), okc2, by decide, wq47⟩
theorem fwX1_125 : flw RX1 125 2 2 .int := ⟨(RX3, TX3, 10), okc2, by decide, wq47, rfl, by decide +kernel⟩
theorem flX7_313 : fl RX7 313 2 2 := ⟨(RX3, TX3, 10), okc2, by decide, wq48⟩
theorem fwX7_313 : flw RX7 313 2 2 .int := ⟨(RX3, TX3, 10), okc2, by decide, wq48, rfl, by decide +kernel⟩
theorem flX1_54 : fl RX1 54 2 3 := ⟨(RX3, TX3, 10), okc2, by decide, wq49⟩
theorem fwX1_54 : flw RX1 54 2 3 .int := ⟨(RX3, TX3, 10), okc2, by decide, wq49, rfl, by decide +kernel⟩
theorem flX3_36 : fl RX3 36 2 3 := ⟨(RX3, TX3, 10), okc2, by decide, wq50⟩
theorem fwX3_36 : flw RX3 36 2 3 .int := ⟨(RX3, TX3, 10), okc2, by decide, wq50, rfl, by decide +kernel⟩
theorem flX7_155 : fl RX7 155 2 3 := ⟨(RX3, TX3, 10), okc2, by decide, wq51⟩
theorem fwX7_155 : flw RX7 155 2 3 .int := ⟨(RX3, TX3, 10), okc2, by decide, wq51, rfl, by decide +kernel⟩
theorem flX5_89 : fl RX5 89 2 3 := ⟨(RX3, TX3, 10), okc2, by decide, wq52⟩
theorem fwX5_89 : flw RX5 89 2 3 .int := ⟨(RX3, TX3, 10), okc2, by decide, wq52, rfl, by decide +kernel⟩
theorem flX3_39 : fl RX3 39 2 4 := ⟨(RX3, TX3, 10), okc2, by decide, wq53⟩
theorem fwX3_39 : flw RX3 39 2 4 .int := ⟨(RX3, TX3, 10), okc2, by decide, wq53, rfl, by decide +kernel⟩
theorem flX1_74 : fl RX1 74 2 4 := ⟨(RX3, TX3, 10), okc2, by decide, wq54⟩
theorem fwX1_74 : flw RX1 74 2 4 .int := ⟨(RX3, TX3, 10), okc2, by decide, wq54, rfl, by decide +kernel⟩
theorem flX5_92 : fl RX5 92 2 4 := ⟨(RX3, TX3, 10), okc2, by decide, wq55⟩
theorem fwX5_92 : flw RX5 92 2 4 .int := ⟨(RX3, TX3, 10), okc2, by decide, wq55, rfl, by decide +kernel⟩
theorem flX7_316 : fl RX7 316 2 4 := ⟨(RX3, TX3, 10), okc2, by decide, wq56⟩
theorem fwX7_316 : flw RX7 316 2 4 .int := ⟨(RX3, TX3, 10), okc2, by decide, wq56, rfl, by decide +kernel⟩
theorem flX1_60 : fl RX1 60 2 5 := ⟨(RX3, TX3, 10), okc2, by decide, wq57⟩
theorem fwX1_60 : flw RX1 60 2 5 .int := ⟨(RX3, TX3, 10), okc2, by decide, wq57, rfl, by decide +kernel⟩
theorem flX3_42 : fl RX3 42 2 5 := ⟨(RX3, TX3, 10), okc2, by decide, wq58⟩
theorem fwX3_42 : flw RX3 42 2 5 .int := ⟨(RX3, TX3, 10), okc2, by decide, wq58, rfl, by decide +kernel⟩
theorem flX7_319 : fl RX7 319 2 5 := ⟨(RX3, TX3, 10), okc2, by decide, wq59⟩
theorem fwX7_319 : flw RX7 319 2 5 .int := ⟨(RX3, TX3, 10), okc2, by decide, wq59, rfl, by decide +kernel⟩
theorem flX3_32 : fl RX3 32 2 6 := ⟨(RX3, TX3, 10), okc2, by decide, wq60⟩
theorem fwX3_32 : flw RX3 32 2 6 .boolean := ⟨(RX3, TX3, 10), okc2, by decide, wq60, rfl, by decide +kernel⟩
theorem flX1_67 : fl RX1 67 2 6 := ⟨(RX3, TX3, 10), okc2, by decide, wq61⟩
theorem fwX1_67 : flw RX1 67 2 6 .boolean := ⟨(RX3, TX3, 10), okc2, by decide, wq61, rfl, by decide +kernel⟩
theorem flX7_322 : fl RX7 322 2 6 := ⟨(RX3, TX3, 10), okc2, by decide, wq62⟩
theorem fwX7_322 : flw RX7 322 2 6 .boolean := ⟨(RX3, TX3, 10), okc2, by decide, wq62, rfl, by decide +kernel⟩
theorem flX3_45 : fl RX3 45 2 7 := ⟨(RX3, TX3, 10), okc2, by decide, wq63⟩
theorem fwX3_45 : flw RX3 45 2 7 .int := ⟨(RX3, TX3, 10), okc2, by decide, wq63, rfl, by decide +kernel⟩
theorem flX1_156 : fl RX1 156 2 7 := ⟨(RX3, TX3, 10), okc2, by decide, wq64⟩
theorem fwX1_156 : flw RX1 156 2 7 .int := ⟨(RX3, TX3, 10), okc2, by decide, wq64, rfl, by decide +kernel⟩
theorem flX7_237 : fl RX7 237 2 7 := ⟨(RX3, TX3, 10), okc2, by decide, wq65⟩
theorem fwX7_237 : flw RX7 237 2 7 .int := ⟨(RX3, TX3, 10), okc2, by decide, wq65, rfl, by decide +kernel⟩
theorem flX3_48 : fl RX3 48 2 8 := ⟨(RX3, TX3, 10), okc2, by decide, wq66⟩
theorem fwX3_48 : flw RX3 48 2 8 .boolean := ⟨(RX3, TX3, 10), okc2, by decide, wq66, rfl, by decide +kernel⟩
theorem flX1_159 : fl RX1 159 2 8 := ⟨(RX3, TX3, 10), okc2, by decide, wq67⟩
theorem fwX1_159 : flw RX1 159 2 8 .boolean := ⟨(RX3, TX3, 10), okc2, by decide, wq67, rfl, by decide +kernel⟩
theorem flX7_325 : fl RX7 325 2 8 := ⟨(RX3, TX3, 10), okc2, by decide, wq68⟩
theorem fwX7_325 : flw RX7 325 2 8 .boolean := ⟨(RX3, TX3, 10), okc2, by decide, wq68, rfl, by decide +kernel⟩
theorem flX3_9 : fl RX3 9 2 9 := ⟨(RX3, TX3, 10), okc2, by decide, wq69⟩
theorem flX7_250 : fl RX7 250 2 9 := ⟨(RX3, TX3, 10), okc2, by decide, wq70⟩
theorem flX6_7 : fl RX6 7 5 0 := ⟨(RX6, TX6, 9), okc5, by decide, wq110⟩
theorem flX1_40 : fl RX1 40 5 0 := ⟨(RX6, TX6, 9), okc5, by decide, wq111⟩
theorem flX7_158 : fl RX7 158 5 0 := ⟨(RX6, TX6, 9), okc5, by decide, wq112⟩
theorem flX5_88 : fl RX5 88 5 0 := ⟨(RX6, TX6, 9), okc5, by decide, wq113⟩
theorem flX6_13 : fl RX6 13 5 1 := ⟨(RX6, TX6, 9), okc5, by decide, wq114⟩
theorem fwX6_13 : flw RX6 13 5 1 .int := ⟨(RX6, TX6, 9), okc5, by decide, wq114, rfl, by decide +kernel⟩
theorem flX1_21 : fl RX1 21 5 1 := ⟨(RX6, TX6, 9), okc5, by decide, wq115⟩
theorem fwX1_21 : flw RX1 21 5 1 .int := ⟨(RX6, TX6, 9), okc5, by decide, wq115, rfl, by decide +kernel⟩
theorem flX5_48 : fl RX5 48 5 1 := ⟨(RX6, TX6, 9), okc5, by decide, wq116⟩
theorem fwX5_48 : flw RX5 48 5 1 .int := ⟨(RX6, TX6, 9), okc5, by decide, wq116, rfl, by decide +kernel⟩
theorem flX7_144 : fl RX7 144 5 1 := ⟨(RX6, TX6, 9), okc5, by decide, wq117⟩
theorem fwX7_144 : flw RX7 144 5 1 .int := ⟨(RX6, TX6, 9), okc5, by decide, wq117, rfl, by decide +kernel⟩
theorem flX6_16 : fl RX6 16 5 2 := ⟨(RX6, TX6, 9), okc5, by decide, wq118⟩
theorem fwX6_16 : flw RX6 16 5 2 .int := ⟨(RX6, TX6, 9), okc5, by decide, wq118, rfl, by decide +kernel⟩
theorem flX3_55 : fl RX3 55 5 2 := ⟨(RX6, TX6, 9), okc5, by decide, wq119⟩
theorem fwX3_55 : flw RX3 55 5 2 .int := ⟨(RX6, TX6, 9), okc5, by decide, wq119, rfl, by decide +kernel⟩
theorem flX7_304 : fl RX7 304 5 2 := ⟨(RX6, TX6, 9), okc5, by decide, wq120⟩
theorem fwX7_304 : flw RX7 304 5 2 .int := ⟨(RX6, TX6, 9), okc5, by decide, wq120, rfl, by decide +kernel⟩
theorem flX6_19 : fl RX6 19 5 3 := ⟨(RX6, TX6, 9), okc5, by decide, wq121⟩
theorem fwX6_19 : flw RX6 19 5 3 .int := ⟨(RX6, TX6, 9), okc5, by decide, wq121, rfl, by decide +kernel⟩
theorem flX7_108 : fl RX7 108 5 3 := ⟨(RX6, TX6, 9), okc5, by decide, wq122⟩
theorem fwX7_108 : flw RX7 108 5 3 .int := ⟨(RX6, TX6, 9), okc5, by decide, wq122, rfl, by decide +kernel⟩
theorem flX5_65 : fl RX5 65 5 3 := ⟨(RX6, TX6, 9), okc5, by decide, wq123⟩
theorem fwX5_65 : flw RX5 65 5 3 .int := ⟨(RX6, TX6, 9), okc5, by decide, wq123, rfl, by decide +kernel⟩
theorem flX1_172 : fl RX1 172 5 3 := ⟨(RX6, TX6, 9), okc5, by decide, wq124⟩
theorem fwX1_172 : flw RX1 172 5 3 .int := ⟨(RX6, TX6, 9), okc5, by decide, wq124, rfl, by decide +kernel⟩
theorem flX6_22 : fl RX6 22 5 4 := ⟨(RX6, TX6, 9), okc5, by decide, wq125⟩
theorem fwX6_22 : flw RX6 22 5 4 .boolean := ⟨(RX6, TX6, 9), okc5, by decide, wq125, rfl, by decide +kernel⟩
theorem flX7_113 : fl RX7 113 5 4 := ⟨(RX6, TX6, 9), okc5, by decide, wq126⟩
theorem fwX7_113 : flw RX7 113 5 4 .boolean := ⟨(RX6, TX6, 9), okc5, by decide, wq126, rfl, by decide +kernel⟩
theorem flX1_92 : fl RX1 92 5 4 := ⟨(RX6, TX6, 9), okc5, by decide, wq127⟩
theorem fwX1_92 : flw RX1 92 5 4 .boolean := ⟨(RX6, TX6, 9), okc5, by decide, wq127, rfl, by decide +kernel⟩
theorem flX6_26 : fl RX6 26 5 5 := ⟨(RX6, TX6, 9), okc5, by decide, wq128⟩
theorem fwX6_26 : flw RX6 26 5 5 .int := ⟨(RX6, TX6, 9), okc5, by decide, wq128, rfl, by decide +kernel⟩
theorem flX7_117 : fl RX7 117 5 5 := ⟨(RX6, TX6, 9), okc5, by decide, wq129⟩
theorem fwX7_117 : flw RX7 117 5 5 .int := ⟨(RX6, TX6, 9), okc5, by decide, wq129, rfl, by decide +kernel⟩
theorem flX5_95 : fl RX5 95 5 5 := ⟨(RX6, TX6, 9), okc5, by decide, wq130⟩
theorem fwX5_95 : flw RX5 95 5 5 .int := ⟨(RX6, TX6, 9), okc5, by decide, wq130, rfl, by decide +kernel⟩
theorem flX1_15 : fl RX1 15 5 6 := ⟨(RX6, TX6, 9), okc5, by decide, wq131⟩
theorem fwX1_15 : flw RX1 15 5 6 .boolean := ⟨(RX6, TX6, 9), okc5, by decide, wq131, rfl, by decide +kernel⟩
theorem flX6_29 : fl RX6 29 5 6 := ⟨(RX6, TX6, 9), okc5, by decide, wq132⟩
theorem fwX6_29 : flw RX6 29 5 6 .boolean := ⟨(RX6, TX6, 9), okc5, by decide, wq132, rfl, by decide +kernel⟩
theorem flX7_126 : fl RX7 126 5 6 := ⟨(RX6, TX6, 9), okc5, by decide, wq133⟩
theorem fwX7_126 : flw RX7 126 5 6 .boolean := ⟨(RX6, TX6, 9), okc5, by decide, wq133, rfl, by decide +kernel⟩
theorem flX5_75 : fl RX5 75 5 6 := ⟨(RX6, TX6, 9), okc5, by decide, wq134⟩
theorem fwX5_75 : flw RX5 75 5 6 .boolean := ⟨(RX6, TX6, 9), okc5, by decide, wq134, rfl, by decide +kernel⟩
theorem flX6_32 : fl RX6 32 5 7 := ⟨(RX6, TX6, 9), okc5, by decide, wq135⟩
theorem fwX6_32 : flw RX6 32 5 7 .boolean := ⟨(RX6, TX6, 9), okc5, by decide, wq135, rfl, by decide +kernel⟩
theorem flX1_81 : fl RX1 81 5 7 := ⟨(RX6, TX6, 9), okc5, by decide, wq136⟩
theorem fwX1_81 : flw RX1 81 5 7 .boolean := ⟨(RX6, TX6, 9), okc5, by decide, wq136, rfl, by decide +kernel⟩
theorem flX5_85 : fl RX5 85 5 7 := ⟨(RX6, TX6, 9), okc5, by decide, wq137⟩
theorem fwX5_85 : flw RX5 85 5 7 .boolean := ⟨(RX6, TX6, 9), okc5, by decide, wq137, rfl, by decide +kernel⟩
theorem flX6_35 : fl RX6 35 5 8 := ⟨(RX6, TX6, 9), okc5, by decide, wq138⟩
theorem fwX6_35 : flw RX6 35 5 8 .int := ⟨(RX6, TX6, 9), okc5, by decide, wq138, rfl, by decide +kernel⟩
theorem flX1_147 : fl RX1 147 5 8 := ⟨(RX6, TX6, 9), okc5, by decide, wq139⟩
theorem fwX1_147 : flw RX1 147 5 8 .int := ⟨(RX6, TX6, 9), okc5, by decide, wq139, rfl, by decide +kernel⟩
theorem flX7_310 : fl RX7 310 5 8 := ⟨(RX6, TX6, 9), okc5, by decide, wq140⟩
theorem fwX7_310 : flw RX7 310 5 8 .int := ⟨(RX6, TX6, 9), okc5, by decide, wq140, rfl, by decide +kernel⟩
theorem flX5_11 : fl RX5 11 4 0 := ⟨(RX5, TX5, 6), okc4, by decide, wq160⟩
theorem flX5_19 : fl RX5 19 4 1 := ⟨(RX5, TX5, 6), okc4, by decide, wq161⟩
theorem flX5_23 : fl RX5 23 4 2 := ⟨(RX5, TX5, 6), okc4, by decide, wq162⟩
theorem flX1_70 : fl RX1 70 4 2 := ⟨(RX5, TX5, 6), okc4, by decide, wq163⟩
theorem flX7_187 : fl RX7 187 4 2 := ⟨(RX5, TX5, 6), okc4, by decide, wq164⟩
theorem flX5_27 : fl RX5 27 4 3 := ⟨(RX5, TX5, 6), okc4, by decide, wq165⟩
theorem fwX5_27 : flw RX5 27 4 3 .int := ⟨(RX5, TX5, 6), okc4, by decide, wq165, rfl, by decide +kernel⟩
theorem flX7_39 : fl RX7 39 4 3 := ⟨(RX5, TX5, 6), okc4, by decide, wq166⟩
theorem fwX7_39 : flw RX7 39 4 3 .int := ⟨(RX5, TX5, 6), okc4, by decide, wq166, rfl, by decide +kernel⟩
theorem flX5_31 : fl RX5 31 4 4 := ⟨(RX5, TX5, 6), okc4, by decide, wq167⟩
theorem fwX5_31 : flw RX5 31 4 4 .int := ⟨(RX5, TX5, 6), okc4, by decide, wq167, rfl, by decide +kernel⟩
theorem flX7_75 : fl RX7 75 4 4 := ⟨(RX5, TX5, 6), okc4, by decide, wq168⟩
theorem fwX7_75 : flw RX7 75 4 4 .int := ⟨(RX5, TX5, 6), okc4, by decide, wq168, rfl, by decide +kernel⟩
theorem flX5_34 : fl RX5 34 4 5 := ⟨(RX5, TX5, 6), okc4, by decide, wq169⟩
theorem fwX5_34 : flw RX5 34 4 5 .int := ⟨(RX5, TX5, 6), okc4, by decide, wq169, rfl, by decide +kernel⟩
theorem flX7_177 : fl RX7 177 4 5 := ⟨(RX5, TX5, 6), okc4, by decide, wq170⟩
theorem fwX7_177 : flw RX7 177 4 5 .int := ⟨(RX5, TX5, 6), okc4, by decide, wq170, rfl, by decide +kernel⟩
theorem flX1_150 : fl RX1 150 4 5 := ⟨(RX5, TX5, 6), okc4, by decide, wq171⟩
theorem fwX1_150 : flw RX1 150 4 5 .int := ⟨(RX5, TX5, 6), okc4, by decide, wq171, rfl, by decide +kernel⟩
theorem flX1_9 : fl RX1 9 0 0 := ⟨(RX1, TX1, 1), okc0, by decide, wq191⟩
theorem flX2_11 : fl RX2 11 1 0 := ⟨(RX2, TX2, 2), okc1, by decide, wq204⟩
theorem flX2_17 : fl RX2 17 1 1 := ⟨(RX2, TX2, 2), okc1, by decide, wq205⟩
theorem fwX2_17 : flw RX2 17 1 1 .int := ⟨(RX2, TX2, 2), okc1, by decide, wq205, rfl, by decide +kernel⟩
theorem flX7_273 : fl RX7 273 1 1 := ⟨(RX2, TX2, 2), okc1, by decide, wq206⟩
theorem fwX7_273 : flw RX7 273 1 1 .int := ⟨(RX2, TX2, 2), okc1, by decide, wq206, rfl, by decide +kernel⟩
theorem flX4_11 : fl RX4 11 3 0 := ⟨(RX4, TX4, 2), okc3, by decide, wq220⟩
theorem flX7_259 : fl RX7 259 3 0 := ⟨(RX4, TX4, 2), okc3, by decide, wq221⟩
theorem flX4_16 : fl RX4 16 3 1 := ⟨(RX4, TX4, 2), okc3, by decide, wq222⟩
theorem flX7_263 : fl RX7 263 3 1 := ⟨(RX4, TX4, 2), okc3, by decide, wq223⟩
theorem flX7_10 : fl RX7 10 6 0 := ⟨(RX7, TX7, 4), okc6, by decide, wq229⟩
theorem flX7_21 : fl RX7 21 6 1 := ⟨(RX7, TX7, 4), okc6, by decide, wq230⟩
theorem flX7_28 : fl RX7 28 6 2 := ⟨(RX7, TX7, 4), okc6, by decide, wq231⟩
theorem flX7_35 : fl RX7 35 6 3 := ⟨(RX7, TX7, 4), okc6, by decide, wq232⟩
theorem flX8_7 : fl RX8 7 7 0 := ⟨(RX8, TX8, 7), okc7, by decide, wq892⟩
theorem flX8_13 : fl RX8 13 7 1 := ⟨(RX8, TX8, 7), okc7, by decide, wq893⟩
theorem flX8_29 : fl RX8 29 7 2 := ⟨(RX8, TX8, 7), okc7, by decide, wq894⟩
theorem fwX8_29 : flw RX8 29 7 2 .int := ⟨(RX8, TX8, 7), okc7, by decide, wq894, rfl, by decide +kernel⟩
theorem flX8_25 : fl RX8 25 7 3 := ⟨(RX8, TX8, 7), okc7, by decide, wq895⟩
theorem fwX8_25 : flw RX8 25 7 3 .int := ⟨(RX8, TX8, 7), okc7, by decide, wq895, rfl, by decide +kernel⟩
theorem flX8_16 : fl RX8 16 7 4 := ⟨(RX8, TX8, 7), okc7, by decide, wq896⟩
theorem flX8_19 : fl RX8 19 7 5 := ⟨(RX8, TX8, 7), okc7, by decide, wq897⟩
theorem flX8_158 : fl RX8 158 7 6 := ⟨(RX8, TX8, 7), okc7, by decide, wq898⟩
theorem fwX8_158 : flw RX8 158 7 6 .long := ⟨(RX8, TX8, 7), okc7, by decide, wq898, rfl, by decide +kernel⟩
theorem th43_47 : mm_thr RX7 43 47 "java/lang/IllegalStateException" := ⟨by decide, wq355, wq12, by decide +kernel, by decide +kernel⟩
theorem th70_74 : mm_thr RX7 70 74 "java/lang/IllegalArgumentException" := ⟨by decide, wq486, wq15, by decide +kernel, by decide +kernel⟩
theorem th218_222 : mm_thr RX7 218 222 "java/lang/IndexOutOfBoundsException" := ⟨by decide, wq464, wq13, by decide +kernel, by decide +kernel⟩
