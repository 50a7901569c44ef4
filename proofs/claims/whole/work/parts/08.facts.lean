/-! methods: name, code, locals, return, depth, parameters; the words of each (printed by mkfacts.py) -/
abbrev mX0_init : xa_Y := (yX0_init, cX0_init, 1, none, 1, 0)
abbrev mX0_empty : xa_Y := (yX0_empty, cX0_empty, 1, none, 0, 0)
abbrev mX0_takesPart : xa_Y := (yX0_takesPart, cX0_takesPart, 5, (some .boolean), 1, 3)
abbrev mX0_takesBend : xa_Y := (yX0_takesBend, cX0_takesBend, 2, (some .boolean), 1, 1)
abbrev mX0_takesWag : xa_Y := (yX0_takesWag, cX0_takesWag, 4, (some .boolean), 1, 1)
abbrev mX0_takesJoint : xa_Y := (yX0_takesJoint, cX0_takesJoint, 2, (some .boolean), 0, 1)
abbrev mX0_takesPush : xa_Y := (yX0_takesPush, cX0_takesPush, 2, (some .boolean), 0, 1)
abbrev mX0_takesRight : xa_Y := (yX0_takesRight, cX0_takesRight, 2, (some .boolean), 1, 1)
abbrev mX0_isWhole : xa_Y := (yX0_isWhole, cX0_isWhole, 1, (some .boolean), 0, 0)
abbrev mX0_loadOf : xa_Y := (yX0_loadOf, cX0_loadOf, 4, (some .int), 0, 2)
abbrev mX0_loadAtRest : xa_Y := (yX0_loadAtRest, cX0_loadAtRest, 3, (some .int), 1, 0)
abbrev mX0_stepOf : xa_Y := (yX0_stepOf, cX0_stepOf, 2, (some .int), 0, 1)
abbrev mX0_isWagging : xa_Y := (yX0_isWagging, cX0_isWagging, 2, (some .boolean), 0, 1)
abbrev mX0_stepsOf : xa_Y := (yX0_stepsOf, cX0_stepsOf, 2, (some .int), 1, 1)
abbrev mX0_lowestOf : xa_Y := (yX0_lowestOf, cX0_lowestOf, 2, (some .int), 1, 1)
abbrev mX0_isAs : xa_Y := (yX0_isAs, cX0_isAs, 4, (some .boolean), 1, 1)
abbrev mX0_copyBody : xa_Y := (yX0_copyBody, cX0_copyBody, 3, none, 0, 1)
abbrev mX1_init : xa_Y := (yX1_init, cX1_init, 2, none, 2, 1)
abbrev mX1_turnsBy : xa_Y := (yX1_turnsBy, cX1_turnsBy, 4, (some .int), 4, 1)
abbrev mX1_measureWith : xa_Y := (yX1_measureWith, cX1_measureWith, 8, (some .int), 3, 2)
abbrev mX1_common : xa_Y := (yX1_common, cX1_common, 6, (some .int), 1, 2)
abbrev mX2_init : xa_Y := (yX2_init, cX2_init, 3, none, 1, 2)
abbrev mX2_firstFault : xa_Y := (yX2_firstFault, cX2_firstFault, 3, (some .int), 4, 0)
abbrev mX2_readsItem : xa_Y := (yX2_readsItem, cX2_readsItem, 4, (some .boolean), 3, 0)
abbrev mX2_readsNumber : xa_Y := (yX2_readsNumber, cX2_readsNumber, 5, (some .boolean), 1, 1)
abbrev mX2_takesItem : xa_Y := (yX2_takesItem, cX2_takesItem, 3, (some .boolean), 2, 2)
abbrev mX3_init : xa_Y := (yX3_init, cX3_init, 3, none, 3, 2)
abbrev mX3_forget : xa_Y := (yX3_forget, cX3_forget, 1, none, 0, 0)
abbrev mX3_ticksFrom : xa_Y := (yX3_ticksFrom, cX3_ticksFrom, 3, (some .int), 6, 1)
abbrev mX3_turnsWithin : xa_Y := (yX3_turnsWithin, cX3_turnsWithin, 4, (some .int), 6, 1)
abbrev mX3_moveFrom : xa_Y := (yX3_moveFrom, cX3_moveFrom, 8, (some .int), 6, 2)
abbrev mX3_prepare : xa_Y := (yX3_prepare, cX3_prepare, 2, none, 3, 0)
abbrev mX3_makeRoom : xa_Y := (yX3_makeRoom, cX3_makeRoom, 3, none, 0, 1)
abbrev mX3_expandFirst : xa_Y := (yX3_expandFirst, cX3_expandFirst, 8, none, 5, 0)
abbrev mX3_enqueue : xa_Y := (yX3_enqueue, cX3_enqueue, 2, none, 2, 1)
abbrev mX3_answer : xa_Y := (yX3_answer, cX3_answer, 6, none, 1, 3)
abbrev mX3_goOn : xa_Y := (yX3_goOn, cX3_goOn, 1, none, 0, 0)
abbrev mX4_init : xa_Y := (yX4_init, cX4_init, 2, none, 1, 1)
abbrev mX4_rest : xa_Y := (yX4_rest, cX4_rest, 1, none, 1, 0)
abbrev mX4_poseOf : xa_Y := (yX4_poseOf, cX4_poseOf, 2, (some .int), 0, 1)
abbrev mX4_takePose : xa_Y := (yX4_takePose, cX4_takePose, 3, none, 0, 2)
abbrev mX4_stepsAt : xa_Y := (yX4_stepsAt, cX4_stepsAt, 2, (some .int), 0, 1)
abbrev mX4_takeSteps : xa_Y := (yX4_takeSteps, cX4_takeSteps, 3, none, 0, 2)
abbrev mX4_isStraight : xa_Y := (yX4_isStraight, cX4_isStraight, 2, (some .boolean), 0, 0)
abbrev mX4_isAtRest : xa_Y := (yX4_isAtRest, cX4_isAtRest, 2, (some .boolean), 1, 0)
abbrev mX4_loadFrom : xa_Y := (yX4_loadFrom, cX4_loadFrom, 4, (some .int), 1, 1)
abbrev mX4_bentTo : xa_Y := (yX4_bentTo, cX4_bentTo, 4, (some .int), 1, 1)
abbrev mX4_lastTurn : xa_Y := (yX4_lastTurn, cX4_lastTurn, 1, (some .int), 2, 0)
abbrev mX4_makes : xa_Y := (yX4_makes, cX4_makes, 2, (some .boolean), 2, 1)
abbrev mX4_makesPose : xa_Y := (yX4_makesPose, cX4_makesPose, 3, (some .boolean), 0, 2)
abbrev mX4_makesStep : xa_Y := (yX4_makesStep, cX4_makesStep, 4, (some .boolean), 1, 2)
abbrev mX5_init : xa_Y := (yX5_init, cX5_init, 1, none, 1, 0)
abbrev mX5_clear : xa_Y := (yX5_clear, cX5_clear, 1, none, 1, 0)
abbrev mX5_copySheet : xa_Y := (yX5_copySheet, cX5_copySheet, 3, none, 0, 1)
abbrev mX5_lengthOf : xa_Y := (yX5_lengthOf, cX5_lengthOf, 2, (some .int), 0, 1)
abbrev mX5_allMoves : xa_Y := (yX5_allMoves, cX5_allMoves, 3, (some .int), 0, 0)
abbrev mX5_clearWay : xa_Y := (yX5_clearWay, cX5_clearWay, 3, (some .int), 1, 1)
abbrev mX5_addMove : xa_Y := (yX5_addMove, cX5_addMove, 4, (some .boolean), 0, 2)
abbrev mX5_moveAt : xa_Y := (yX5_moveAt, cX5_moveAt, 4, (some .int), 0, 2)
abbrev mX5_addPicture : xa_Y := (yX5_addPicture, cX5_addPicture, 6, (some .boolean), 0, 4)
abbrev mX5_pictureOf : xa_Y := (yX5_pictureOf, cX5_pictureOf, 4, (some .int), 0, 2)
abbrev mX6_init : xa_Y := (yX6_init, cX6_init, 3, none, 2, 2)
abbrev mX6_numberShapes : xa_Y := (yX6_numberShapes, cX6_numberShapes, 4, none, 2, 0)
abbrev mX6_numberAtRest : xa_Y := (yX6_numberAtRest, cX6_numberAtRest, 1, (some .int), 2, 0)
abbrev mX6_isStraightAt : xa_Y := (yX6_isStraightAt, cX6_isStraightAt, 2, (some .boolean), 0, 1)
abbrev mX6_numberNow : xa_Y := (yX6_numberNow, cX6_numberNow, 3, (some .int), 1, 0)
abbrev mX6_become : xa_Y := (yX6_become, cX6_become, 5, none, 1, 1)
abbrev mX6_branchesOf : xa_Y := (yX6_branchesOf, cX6_branchesOf, 2, (some .int), 4, 1)
abbrev mX6_findBranches : xa_Y := (yX6_findBranches, cX6_findBranches, 6, (some .int), 3, 1)
abbrev mX6_isStiff : xa_Y := (yX6_isStiff, cX6_isStiff, 2, (some .boolean), 0, 1)
abbrev mX6_branch : xa_Y := (yX6_branch, cX6_branch, 4, (some .int), 0, 2)
abbrev mX6_branchBetween : xa_Y := (yX6_branchBetween, cX6_branchBetween, 5, (some .int), 5, 2)
abbrev mX6_moveOf : xa_Y := (yX6_moveOf, cX6_moveOf, 1, (some .int), 0, 1)
abbrev mX6_shapeOf : xa_Y := (yX6_shapeOf, cX6_shapeOf, 1, (some .int), 0, 1)
abbrev mX6_angleOf : xa_Y := (yX6_angleOf, cX6_angleOf, 1, (some .int), 0, 1)
abbrev mX7_init : xa_Y := (yX7_init, cX7_init, 1, none, 1, 0)
abbrev mX7_takesBytes : xa_Y := (yX7_takesBytes, cX7_takesBytes, 5, (some .boolean), 0, 2)
abbrev mX7_byteAt : xa_Y := (yX7_byteAt, cX7_byteAt, 2, (some .int), 0, 1)
abbrev mX8_init : xa_Y := (yX8_init, cX8_init, 2, none, 2, 1)
abbrev mX8_follow : xa_Y := (yX8_follow, cX8_follow, 6, none, 3, 2)
abbrev mX8_note : xa_Y := (yX8_note, cX8_note, 4, none, 2, 1)
abbrev mX8_drift : xa_Y := (yX8_drift, cX8_drift, 4, none, 1, 1)
abbrev mX8_closes : xa_Y := (yX8_closes, cX8_closes, 1, (some .boolean), 2, 0)
abbrev mX8_turnOf : xa_Y := (yX8_turnOf, cX8_turnOf, 4, (some .int), 0, 2)
abbrev mX8_isFilmed : xa_Y := (yX8_isFilmed, cX8_isFilmed, 6, (some .boolean), 2, 2)
abbrev mX9_init : xa_Y := (yX9_init, cX9_init, 2, none, 4, 0)
abbrev mX9_write : xa_Y := (yX9_write, cX9_write, 4, (some .int), 1, 2)
abbrev mX9_wipe : xa_Y := (yX9_wipe, cX9_wipe, 2, (some .int), 0, 0)
abbrev mX9_fault : xa_Y := (yX9_fault, cX9_fault, 1, (some .int), 5, 0)
abbrev mX9_lay : xa_Y := (yX9_lay, cX9_lay, 1, (some .int), 5, 0)
abbrev mX9_load : xa_Y := (yX9_load, cX9_load, 3, (some .int), 2, 2)
abbrev mX9_joint : xa_Y := (yX9_joint, cX9_joint, 3, (some .int), 2, 2)
abbrev mX9_begun : xa_Y := (yX9_begun, cX9_begun, 2, (some .int), 1, 1)
abbrev mX9_move : xa_Y := (yX9_move, cX9_move, 3, (some .int), 2, 2)
abbrev mX9_noWay : xa_Y := (yX9_noWay, cX9_noWay, 2, (some .int), 2, 1)
abbrev mX9_turn : xa_Y := (yX9_turn, cX9_turn, 5, (some .int), 4, 4)
abbrev mX9_run : xa_Y := (yX9_run, cX9_run, 4, (some .int), 4, 2)
abbrev mX9_spun : xa_Y := (yX9_spun, cX9_spun, 2, (some .int), 4, 1)
abbrev mX9_times : xa_Y := (yX9_times, cX9_times, 3, (some .int), 4, 2)
abbrev mX9_soon : xa_Y := (yX9_soon, cX9_soon, 4, (some .int), 7, 2)
abbrev mX9_fall : xa_Y := (yX9_fall, cX9_fall, 2, (some .int), 1, 1)
abbrev mX9_saved : xa_Y := (yX9_saved, cX9_saved, 2, (some .int), 7, 1)
abbrev mX9_free : xa_Y := (yX9_free, cX9_free, 2, (some .int), 5, 1)
abbrev mX9_fewest : xa_Y := (yX9_fewest, cX9_fewest, 2, (some .int), 5, 0)
abbrev mX9_worth : xa_Y := (yX9_worth, cX9_worth, 5, (some .int), 7, 2)
abbrev mX9_picture : xa_Y := (yX9_picture, cX9_picture, 5, (some .int), 2, 4)
abbrev mX9_noFilm : xa_Y := (yX9_noFilm, cX9_noFilm, 2, (some .int), 0, 0)
abbrev mX9_may : xa_Y := (yX9_may, cX9_may, 3, (some .int), 4, 2)
abbrev mX9_looked : xa_Y := (yX9_looked, cX9_looked, 5, (some .int), 4, 2)
abbrev mX9_pushed : xa_Y := (yX9_pushed, cX9_pushed, 8, (some .int), 4, 4)
abbrev mX9_head : xa_Y := (yX9_head, cX9_head, 3, (some .int), 5, 2)
abbrev mX9_down : xa_Y := (yX9_down, cX9_down, 4, (some .int), 5, 1)
abbrev mX9_keep : xa_Y := (yX9_keep, cX9_keep, 1, (some .int), 1, 0)
abbrev mX9_back : xa_Y := (yX9_back, cX9_back, 2, (some .int), 1, 0)
abbrev mX9_count : xa_Y := (yX9_count, cX9_count, 2, (some .int), 1, 1)
abbrev mX9_isPart : xa_Y := (yX9_isPart, cX9_isPart, 2, (some .boolean), 1, 1)
abbrev mX9_isJoint : xa_Y := (yX9_isJoint, cX9_isJoint, 2, (some .boolean), 1, 1)
abbrev mX9_isWay : xa_Y := (yX9_isWay, cX9_isWay, 1, (some .boolean), 1, 1)
abbrev mX9_isTurn : xa_Y := (yX9_isTurn, cX9_isTurn, 1, (some .boolean), 1, 1)
abbrev mX9_isWithin : xa_Y := (yX9_isWithin, cX9_isWithin, 3, (some .boolean), 0, 3)
abbrev mX9_cut : xa_Y := (yX9_cut, cX9_cut, 2, (some .int), 0, 2)
abbrev mX9_off : xa_Y := (yX9_off, cX9_off, 3, (some .int), 1, 2)
abbrev mX9_ticksOfFall : xa_Y := (yX9_ticksOfFall, cX9_ticksOfFall, 2, (some .int), 0, 1)
abbrev mX9_findLandings : xa_Y := (yX9_findLandings, cX9_findLandings, 4, none, 4, 1)
abbrev mX9_firstHead : xa_Y := (yX9_firstHead, cX9_firstHead, 3, (some .int), 2, 1)
abbrev mX10_init : xa_Y := (yX10_init, cX10_init, 2, none, 1, 0)
abbrev mX10_in : xa_Y := (yX10_in, cX10_in, 6, (some .boolean), 0, 3)
abbrev mX10_write : xa_Y := (yX10_write, cX10_write, 5, (some .int), 1, 2)
abbrev mX10_wipe : xa_Y := (yX10_wipe, cX10_wipe, 2, (some .int), 0, 0)
abbrev mX10_byteAt : xa_Y := (yX10_byteAt, cX10_byteAt, 2, (some .int), 0, 1)
abbrev mX10_figures : xa_Y := (yX10_figures, cX10_figures, 6, (some .boolean), 1, 1)
abbrev mX10_partItem : xa_Y := (yX10_partItem, cX10_partItem, 2, (some .boolean), 2, 0)
abbrev mX10_jointItem : xa_Y := (yX10_jointItem, cX10_jointItem, 5, (some .boolean), 2, 1)
abbrev mX10_item : xa_Y := (yX10_item, cX10_item, 2, (some .boolean), 3, 0)
abbrev mX10_readAll : xa_Y := (yX10_readAll, cX10_readAll, 2, (some .int), 4, 0)
abbrev mX10_fault : xa_Y := (yX10_fault, cX10_fault, 1, (some .int), 5, 0)
abbrev mX10_lay : xa_Y := (yX10_lay, cX10_lay, 2, (some .int), 5, 0)
abbrev mX10_isPart : xa_Y := (yX10_isPart, cX10_isPart, 2, (some .boolean), 1, 1)
abbrev mX10_isJoint : xa_Y := (yX10_isJoint, cX10_isJoint, 2, (some .boolean), 1, 1)
abbrev mX10_load : xa_Y := (yX10_load, cX10_load, 3, (some .int), 2, 2)
abbrev mX10_joint : xa_Y := (yX10_joint, cX10_joint, 3, (some .int), 2, 2)
abbrev mX10_begun : xa_Y := (yX10_begun, cX10_begun, 2, (some .int), 0, 1)
abbrev mX10_stepMany : xa_Y := (yX10_stepMany, cX10_stepMany, 2, (some .int), 2, 1)
abbrev mX10_threes : xa_Y := (yX10_threes, cX10_threes, 1, (some .int), 0, 1)
abbrev mX10_shapeMany : xa_Y := (yX10_shapeMany, cX10_shapeMany, 1, (some .int), 3, 0)
abbrev mX10_poseOf : xa_Y := (yX10_poseOf, cX10_poseOf, 3, (some .int), 3, 2)
abbrev mX10_stepAt : xa_Y := (yX10_stepAt, cX10_stepAt, 3, (some .int), 3, 2)
abbrev mX10_straightAt : xa_Y := (yX10_straightAt, cX10_straightAt, 2, (some .int), 2, 1)
abbrev mX10_rest : xa_Y := (yX10_rest, cX10_rest, 2, (some .int), 3, 0)
abbrev mX10_isStraight : xa_Y := (yX10_isStraight, cX10_isStraight, 2, (some .boolean), 4, 1)
abbrev mX10_bent : xa_Y := (yX10_bent, cX10_bent, 7, (some .int), 4, 3)
abbrev mX10_posed : xa_Y := (yX10_posed, cX10_posed, 4, (some .int), 4, 3)
abbrev mX10_moved : xa_Y := (yX10_moved, cX10_moved, 4, (some .int), 5, 2)
abbrev mX10_loadsFrom : xa_Y := (yX10_loadsFrom, cX10_loadsFrom, 5, (some .int), 4, 2)
abbrev mX10_turnedBy : xa_Y := (yX10_turnedBy, cX10_turnedBy, 7, (some .int), 5, 2)
abbrev mX10_round : xa_Y := (yX10_round, cX10_round, 2, (some .int), 0, 1)
abbrev mX10_isRight : xa_Y := (yX10_isRight, cX10_isRight, 2, (some .boolean), 0, 1)
abbrev mX10_isTurn : xa_Y := (yX10_isTurn, cX10_isTurn, 1, (some .boolean), 1, 1)
abbrev mX10_isWay : xa_Y := (yX10_isWay, cX10_isWay, 1, (some .boolean), 1, 1)
abbrev mX10_move : xa_Y := (yX10_move, cX10_move, 3, (some .int), 2, 2)
abbrev mX10_noWay : xa_Y := (yX10_noWay, cX10_noWay, 3, (some .int), 2, 1)
abbrev mX10_go : xa_Y := (yX10_go, cX10_go, 7, none, 6, 3)
abbrev mX10_turnOf : xa_Y := (yX10_turnOf, cX10_turnOf, 4, (some .int), 4, 1)
abbrev mX10_turn : xa_Y := (yX10_turn, cX10_turn, 5, (some .int), 7, 4)
abbrev mX10_closes : xa_Y := (yX10_closes, cX10_closes, 2, (some .boolean), 4, 1)
abbrev mX10_run : xa_Y := (yX10_run, cX10_run, 3, (some .int), 7, 2)
abbrev mX10_spun : xa_Y := (yX10_spun, cX10_spun, 2, (some .int), 7, 1)
abbrev mX10_times : xa_Y := (yX10_times, cX10_times, 3, (some .int), 7, 2)
abbrev mX10_has : xa_Y := (yX10_has, cX10_has, 2, (some .boolean), 0, 2)
abbrev mX10_isBarred : xa_Y := (yX10_isBarred, cX10_isBarred, 2, (some .boolean), 1, 2)
abbrev mX10_meet : xa_Y := (yX10_meet, cX10_meet, 5, none, 1, 3)
abbrev mX10_meetAhead : xa_Y := (yX10_meetAhead, cX10_meetAhead, 8, none, 6, 4)
abbrev mX10_layTicks : xa_Y := (yX10_layTicks, cX10_layTicks, 5, none, 7, 1)
abbrev mX10_allJoints : xa_Y := (yX10_allJoints, cX10_allJoints, 1, (some .int), 0, 0)
abbrev mX10_soonBy : xa_Y := (yX10_soonBy, cX10_soonBy, 4, (some .int), 8, 2)
abbrev mX10_soon : xa_Y := (yX10_soon, cX10_soon, 11, (some .int), 9, 2)
abbrev mX10_fallOf : xa_Y := (yX10_fallOf, cX10_fallOf, 2, (some .int), 0, 1)
abbrev mX10_isHeight : xa_Y := (yX10_isHeight, cX10_isHeight, 1, (some .boolean), 1, 1)
abbrev mX10_fall : xa_Y := (yX10_fall, cX10_fall, 2, (some .int), 2, 1)
abbrev mX10_saved : xa_Y := (yX10_saved, cX10_saved, 5, (some .int), 9, 1)
abbrev mX10_freeBy : xa_Y := (yX10_freeBy, cX10_freeBy, 7, (some .int), 6, 1)
abbrev mX10_free : xa_Y := (yX10_free, cX10_free, 2, (some .int), 7, 1)
abbrev mX10_fewest : xa_Y := (yX10_fewest, cX10_fewest, 4, (some .int), 7, 0)
abbrev mX10_worth : xa_Y := (yX10_worth, cX10_worth, 5, (some .int), 9, 2)
abbrev mX10_picture : xa_Y := (yX10_picture, cX10_picture, 6, (some .int), 2, 4)
abbrev mX10_noFilm : xa_Y := (yX10_noFilm, cX10_noFilm, 2, (some .int), 0, 0)
abbrev mX10_off : xa_Y := (yX10_off, cX10_off, 3, (some .int), 0, 2)
abbrev mX10_mayBe : xa_Y := (yX10_mayBe, cX10_mayBe, 6, (some .boolean), 7, 2)
abbrev mX10_may : xa_Y := (yX10_may, cX10_may, 3, (some .int), 8, 2)
abbrev mX10_looked : xa_Y := (yX10_looked, cX10_looked, 6, (some .int), 8, 2)
abbrev mX10_pushed : xa_Y := (yX10_pushed, cX10_pushed, 9, (some .int), 8, 4)
abbrev mX10_headOf : xa_Y := (yX10_headOf, cX10_headOf, 5, (some .int), 7, 2)
abbrev mX10_head : xa_Y := (yX10_head, cX10_head, 3, (some .int), 8, 2)
abbrev mX10_down : xa_Y := (yX10_down, cX10_down, 4, (some .int), 8, 1)
abbrev mX10_copy : xa_Y := (yX10_copy, cX10_copy, 4, none, 0, 2)
abbrev mX10_keep : xa_Y := (yX10_keep, cX10_keep, 1, (some .int), 1, 0)
abbrev mX10_back : xa_Y := (yX10_back, cX10_back, 1, (some .int), 1, 0)
abbrev mX10_count : xa_Y := (yX10_count, cX10_count, 2, (some .int), 0, 1)
abbrev mJ9_floorMod_7cf53 : xa_Y := (yJ9_floorMod_7cf53, cJ9_floorMod_7cf53, 3, (some .int), 0, 2)
abbrev mJ9_abs_0f7a4 : xa_Y := (yJ9_abs_0f7a4, cJ9_abs_0f7a4, 1, (some .int), 0, 1)
abbrev mJ9_max_7cf53 : xa_Y := (yJ9_max_7cf53, cJ9_max_7cf53, 2, (some .int), 0, 2)
abbrev mJ9_min_7cf53 : xa_Y := (yJ9_min_7cf53, cJ9_min_7cf53, 2, (some .int), 0, 2)
abbrev mJ7_fill_53178 : xa_Y := (yJ7_fill_53178, cJ7_fill_53178, 4, none, 0, 2)
def mL_law : xa_Y := (⟨"CatThatTurnsLaw", "law", "([I)Z"⟩, code, 4, some .boolean, 10, 1)
theorem ziRX0 : Cond.initialized "CatThatTurns$Body" ∈ xa_gw := xa_gw_mem 58 (by decide +kernel) rfl
theorem ziRX1 : Cond.initialized "CatThatTurns$Loops" ∈ xa_gw := xa_gw_mem 63 (by decide +kernel) rfl
theorem ziRX2 : Cond.initialized "CatThatTurns$Reader" ∈ xa_gw := xa_gw_mem 59 (by decide +kernel) rfl
theorem ziRX3 : Cond.initialized "CatThatTurns$Search" ∈ xa_gw := xa_gw_mem 64 (by decide +kernel) rfl
theorem ziRX4 : Cond.initialized "CatThatTurns$Shape" ∈ xa_gw := xa_gw_mem 62 (by decide +kernel) rfl
theorem ziRX5 : Cond.initialized "CatThatTurns$Sheet" ∈ xa_gw := xa_gw_mem 60 (by decide +kernel) rfl
theorem ziRX6 : Cond.initialized "CatThatTurns$Table" ∈ xa_gw := xa_gw_mem 65 (by decide +kernel) rfl
theorem ziRX7 : Cond.initialized "CatThatTurns$Text" ∈ xa_gw := xa_gw_mem 57 (by decide +kernel) rfl
theorem ziRX8 : Cond.initialized "CatThatTurns$Trace" ∈ xa_gw := xa_gw_mem 61 (by decide +kernel) rfl
theorem ziRX9 : Cond.initialized "CatThatTurns" ∈ xa_gw := xa_gw_mem 56 (by decide +kernel) rfl
theorem ziRX10 : Cond.initialized "CatThatTurnsModel" ∈ xa_gw := xa_gw_mem 66 (by decide +kernel) rfl
theorem ziRJ9 : Cond.initialized "java/lang/Math" ∈ xa_gw := xa_gw_mem 68 (by decide +kernel) rfl
theorem ziRJ7 : Cond.initialized "java/util/Arrays" ∈ xa_gw := xa_gw_mem 67 (by decide +kernel) rfl
theorem ziRL : Cond.initialized "CatThatTurnsLaw" ∈ xa_gw := xa_gw_mem 55 (by decide +kernel) rfl
theorem zi_arr : Cond.arrayClass .int ∈ xa_gw := xa_gw_mem 92 (by decide +kernel) rfl
theorem zo_1 : Cond.instanceMethod objectInit ∈ xa_gw := xa_gw_mem 75 (by decide +kernel) rfl
theorem zo_2 : Cond.code objectInit ⟨#[0xb1]⟩ 1 none ∈ xa_gw := xa_gw_mem 76 (by decide +kernel) rfl
theorem qX0_init : Cond.code (xa_yn mX0_init) (xa_yc mX0_init) (xa_yl mX0_init) (xa_yr mX0_init) ∈ xa_gw ∧ Cond.initialized (xa_yn mX0_init).cls ∈ xa_gw ∧ ((xa_yn mX0_init).cls ≠ "java/lang/invoke/MethodHandle" ∧ (xa_yn mX0_init).cls ≠ "java/lang/invoke/VarHandle" ∧ (parseMethodDescriptor (xa_yn mX0_init).desc).map (fun d => d.parameters.length) = some (xa_yp mX0_init)) := ⟨xa_gw_mem 97 (by decide +kernel) rfl, ziRX0, by decide +kernel, by decide +kernel, by decide +kernel⟩
theorem imX0_init : Cond.instanceMethod (xa_yn mX0_init) ∈ xa_gw := xa_gw_mem 96 (by decide +kernel) rfl
theorem qX0_empty : Cond.code (xa_yn mX0_empty) (xa_yc mX0_empty) (xa_yl mX0_empty) (xa_yr mX0_empty) ∈ xa_gw ∧ Cond.initialized (xa_yn mX0_empty).cls ∈ xa_gw ∧ ((xa_yn mX0_empty).cls ≠ "java/lang/invoke/MethodHandle" ∧ (xa_yn mX0_empty).cls ≠ "java/lang/invoke/VarHandle" ∧ (parseMethodDescriptor (xa_yn mX0_empty).desc).map (fun d => d.parameters.length) = some (xa_yp mX0_empty)) := ⟨xa_gw_mem 408 (by decide +kernel) rfl, ziRX0, by decide +kernel, by decide +kernel, by decide +kernel⟩
theorem imX0_empty : Cond.instanceMethod (xa_yn mX0_empty) ∈ xa_gw := xa_gw_mem 406 (by decide +kernel) rfl
theorem seX0_empty : Cond.selects (xa_yn mX0_empty).cls (xa_yn mX0_empty) (xa_yn mX0_empty) ∈ xa_gw := xa_gw_mem 407 (by decide +kernel) rfl
theorem qX0_takesPart : Cond.code (xa_yn mX0_takesPart) (xa_yc mX0_takesPart) (xa_yl mX0_takesPart) (xa_yr mX0_takesPart) ∈ xa_gw ∧ Cond.initialized (xa_yn mX0_takesPart).cls ∈ xa_gw ∧ ((xa_yn mX0_takesPart).cls ≠ "java/lang/invoke/MethodHandle" ∧ (xa_yn mX0_takesPart).cls ≠ "java/lang/invoke/VarHandle" ∧ (parseMethodDescriptor (xa_yn mX0_takesPart).desc).map (fun d => d.parameters.length) = some (xa_yp mX0_takesPart)) := ⟨xa_gw_mem 332 (by decide +kernel) rfl, ziRX0, by decide +kernel, by decide +kernel, by decide +kernel⟩
theorem imX0_takesPart : Cond.instanceMethod (xa_yn mX0_takesPart) ∈ xa_gw := xa_gw_mem 330 (by decide +kernel) rfl
theorem seX0_takesPart : Cond.selects (xa_yn mX0_takesPart).cls (xa_yn mX0_takesPart) (xa_yn mX0_takesPart) ∈ xa_gw := xa_gw_mem 331 (by decide +kernel) rfl
theorem qX0_takesBend : Cond.code (xa_yn mX0_takesBend) (xa_yc mX0_takesBend) (xa_yl mX0_takesBend) (xa_yr mX0_takesBend) ∈ xa_gw ∧ Cond.initialized (xa_yn mX0_takesBend).cls ∈ xa_gw ∧ ((xa_yn mX0_takesBend).cls ≠ "java/lang/invoke/MethodHandle" ∧ (xa_yn mX0_takesBend).cls ≠ "java/lang/invoke/VarHandle" ∧ (parseMethodDescriptor (xa_yn mX0_takesBend).desc).map (fun d => d.parameters.length) = some (xa_yp mX0_takesBend)) := ⟨xa_gw_mem 339 (by decide +kernel) rfl, ziRX0, by decide +kernel, by decide +kernel, by decide +kernel⟩
theorem imX0_takesBend : Cond.instanceMethod (xa_yn mX0_takesBend) ∈ xa_gw := xa_gw_mem 337 (by decide +kernel) rfl
theorem seX0_takesBend : Cond.selects (xa_yn mX0_takesBend).cls (xa_yn mX0_takesBend) (xa_yn mX0_takesBend) ∈ xa_gw := xa_gw_mem 338 (by decide +kernel) rfl
theorem qX0_takesWag : Cond.code (xa_yn mX0_takesWag) (xa_yc mX0_takesWag) (xa_yl mX0_takesWag) (xa_yr mX0_takesWag) ∈ xa_gw ∧ Cond.initialized (xa_yn mX0_takesWag).cls ∈ xa_gw ∧ ((xa_yn mX0_takesWag).cls ≠ "java/lang/invoke/MethodHandle" ∧ (xa_yn mX0_takesWag).cls ≠ "java/lang/invoke/VarHandle" ∧ (parseMethodDescriptor (xa_yn mX0_takesWag).desc).map (fun d => d.parameters.length) = some (xa_yp mX0_takesWag)) := ⟨xa_gw_mem 431 (by decide +kernel) rfl, ziRX0, by decide +kernel, by decide +kernel, by decide +kernel⟩
theorem imX0_takesWag : Cond.instanceMethod (xa_yn mX0_takesWag) ∈ xa_gw := xa_gw_mem 429 (by decide +kernel) rfl
theorem seX0_takesWag : Cond.selects (xa_yn mX0_takesWag).cls (xa_yn mX0_takesWag) (xa_yn mX0_takesWag) ∈ xa_gw := xa_gw_mem 430 (by decide +kernel) rfl
theorem qX0_takesJoint : Cond.code (xa_yn mX0_takesJoint) (xa_yc mX0_takesJoint) (xa_yl mX0_takesJoint) (xa_yr mX0_takesJoint) ∈ xa_gw ∧ Cond.initialized (xa_yn mX0_takesJoint).cls ∈ xa_gw ∧ ((xa_yn mX0_takesJoint).cls ≠ "java/lang/invoke/MethodHandle" ∧ (xa_yn mX0_takesJoint).cls ≠ "java/lang/invoke/VarHandle" ∧ (parseMethodDescriptor (xa_yn mX0_takesJoint).desc).map (fun d => d.parameters.length) = some (xa_yp mX0_takesJoint)) := ⟨xa_gw_mem 343 (by decide +kernel) rfl, ziRX0, by decide +kernel, by decide +kernel, by decide +kernel⟩
theorem imX0_takesJoint : Cond.instanceMethod (xa_yn mX0_takesJoint) ∈ xa_gw := xa_gw_mem 342 (by decide +kernel) rfl
theorem seX0_takesJoint : Cond.selects (xa_yn mX0_takesJoint).cls (xa_yn mX0_takesJoint) (xa_yn mX0_takesJoint) ∈ xa_gw := xa_gw_mem 0 (by decide +kernel) rfl
theorem qX0_takesPush : Cond.code (xa_yn mX0_takesPush) (xa_yc mX0_takesPush) (xa_yl mX0_takesPush) (xa_yr mX0_takesPush) ∈ xa_gw ∧ Cond.initialized (xa_yn mX0_takesPush).cls ∈ xa_gw ∧ ((xa_yn mX0_takesPush).cls ≠ "java/lang/invoke/MethodHandle" ∧ (xa_yn mX0_takesPush).cls ≠ "java/lang/invoke/VarHandle" ∧ (parseMethodDescriptor (xa_yn mX0_takesPush).desc).map (fun d => d.parameters.length) = some (xa_yp mX0_takesPush)) := ⟨xa_gw_mem 440 (by decide +kernel) rfl, ziRX0, by decide +kernel, by decide +kernel, by decide +kernel⟩
theorem imX0_takesPush : Cond.instanceMethod (xa_yn mX0_takesPush) ∈ xa_gw := xa_gw_mem 438 (by decide +kernel) rfl
theorem seX0_takesPush : Cond.selects (xa_yn mX0_takesPush).cls (xa_yn mX0_takesPush) (xa_yn mX0_takesPush) ∈ xa_gw := xa_gw_mem 439 (by decide +kernel) rfl
theorem qX0_takesRight : Cond.code (xa_yn mX0_takesRight) (xa_yc mX0_takesRight) (xa_yl mX0_takesRight) (xa_yr mX0_takesRight) ∈ xa_gw ∧ Cond.initialized (xa_yn mX0_takesRight).cls ∈ xa_gw ∧ ((xa_yn mX0_takesRight).cls ≠ "java/lang/invoke/MethodHandle" ∧ (xa_yn mX0_takesRight).cls ≠ "java/lang/invoke/VarHandle" ∧ (parseMethodDescriptor (xa_yn mX0_takesRight).desc).map (fun d => d.parameters.length) = some (xa_yp mX0_takesRight)) := ⟨xa_gw_mem 444 (by decide +kernel) rfl, ziRX0, by decide +kernel, by decide +kernel, by decide +kernel⟩
theorem imX0_takesRight : Cond.instanceMethod (xa_yn mX0_takesRight) ∈ xa_gw := xa_gw_mem 442 (by decide +kernel) rfl
theorem seX0_takesRight : Cond.selects (xa_yn mX0_takesRight).cls (xa_yn mX0_takesRight) (xa_yn mX0_takesRight) ∈ xa_gw := xa_gw_mem 443 (by decide +kernel) rfl
theorem qX0_isWhole : Cond.code (xa_yn mX0_isWhole) (xa_yc mX0_isWhole) (xa_yl mX0_isWhole) (xa_yr mX0_isWhole) ∈ xa_gw ∧ Cond.initialized (xa_yn mX0_isWhole).cls ∈ xa_gw ∧ ((xa_yn mX0_isWhole).cls ≠ "java/lang/invoke/MethodHandle" ∧ (xa_yn mX0_isWhole).cls ≠ "java/lang/invoke/VarHandle" ∧ (parseMethodDescriptor (xa_yn mX0_isWhole).desc).map (fun d => d.parameters.length) = some (xa_yp mX0_isWhole)) := ⟨xa_gw_mem 452 (by decide +kernel) rfl, ziRX0, by decide +kernel, by decide +kernel, by decide +kernel⟩
theorem imX0_isWhole : Cond.instanceMethod (xa_yn mX0_isWhole) ∈ xa_gw := xa_gw_mem 450 (by decide +kernel) rfl
theorem seX0_isWhole : Cond.selects (xa_yn mX0_isWhole).cls (xa_yn mX0_isWhole) (xa_yn mX0_isWhole) ∈ xa_gw := xa_gw_mem 451 (by decide +kernel) rfl
theorem qX0_loadOf : Cond.code (xa_yn mX0_loadOf) (xa_yc mX0_loadOf) (xa_yl mX0_loadOf) (xa_yr mX0_loadOf) ∈ xa_gw ∧ Cond.initialized (xa_yn mX0_loadOf).cls ∈ xa_gw ∧ ((xa_yn mX0_loadOf).cls ≠ "java/lang/invoke/MethodHandle" ∧ (xa_yn mX0_loadOf).cls ≠ "java/lang/invoke/VarHandle" ∧ (parseMethodDescriptor (xa_yn mX0_loadOf).desc).map (fun d => d.parameters.length) = some (xa_yp mX0_loadOf)) := ⟨xa_gw_mem 487 (by decide +kernel) rfl, ziRX0, by decide +kernel, by decide +kernel, by decide +kernel⟩
theorem imX0_loadOf : Cond.instanceMethod (xa_yn mX0_loadOf) ∈ xa_gw := xa_gw_mem 485 (by decide +kernel) rfl
theorem seX0_loadOf : Cond.selects (xa_yn mX0_loadOf).cls (xa_yn mX0_loadOf) (xa_yn mX0_loadOf) ∈ xa_gw := xa_gw_mem 486 (by decide +kernel) rfl
theorem qX0_loadAtRest : Cond.code (xa_yn mX0_loadAtRest) (xa_yc mX0_loadAtRest) (xa_yl mX0_loadAtRest) (xa_yr mX0_loadAtRest) ∈ xa_gw ∧ Cond.initialized (xa_yn mX0_loadAtRest).cls ∈ xa_gw ∧ ((xa_yn mX0_loadAtRest).cls ≠ "java/lang/invoke/MethodHandle" ∧ (xa_yn mX0_loadAtRest).cls ≠ "java/lang/invoke/VarHandle" ∧ (parseMethodDescriptor (xa_yn mX0_loadAtRest).desc).map (fun d => d.parameters.length) = some (xa_yp mX0_loadAtRest)) := ⟨xa_gw_mem 855 (by decide +kernel) rfl, ziRX0, by decide +kernel, by decide +kernel, by decide +kernel⟩
theorem imX0_loadAtRest : Cond.instanceMethod (xa_yn mX0_loadAtRest) ∈ xa_gw := xa_gw_mem 853 (by decide +kernel) rfl
theorem seX0_loadAtRest : Cond.selects (xa_yn mX0_loadAtRest).cls (xa_yn mX0_loadAtRest) (xa_yn mX0_loadAtRest) ∈ xa_gw := xa_gw_mem 854 (by decide +kernel) rfl
theorem qX0_stepOf : Cond.code (xa_yn mX0_stepOf) (xa_yc mX0_stepOf) (xa_yl mX0_stepOf) (xa_yr mX0_stepOf) ∈ xa_gw ∧ Cond.initialized (xa_yn mX0_stepOf).cls ∈ xa_gw ∧ ((xa_yn mX0_stepOf).cls ≠ "java/lang/invoke/MethodHandle" ∧ (xa_yn mX0_stepOf).cls ≠ "java/lang/invoke/VarHandle" ∧ (parseMethodDescriptor (xa_yn mX0_stepOf).desc).map (fun d => d.parameters.length) = some (xa_yp mX0_stepOf)) := ⟨xa_gw_mem 460 (by decide +kernel) rfl, ziRX0, by decide +kernel, by decide +kernel, by decide +kernel⟩
theorem imX0_stepOf : Cond.instanceMethod (xa_yn mX0_stepOf) ∈ xa_gw := xa_gw_mem 458 (by decide +kernel) rfl
theorem seX0_stepOf : Cond.selects (xa_yn mX0_stepOf).cls (xa_yn mX0_stepOf) (xa_yn mX0_stepOf) ∈ xa_gw := xa_gw_mem 459 (by decide +kernel) rfl
theorem qX0_isWagging : Cond.code (xa_yn mX0_isWagging) (xa_yc mX0_isWagging) (xa_yl mX0_isWagging) (xa_yr mX0_isWagging) ∈ xa_gw ∧ Cond.initialized (xa_yn mX0_isWagging).cls ∈ xa_gw ∧ ((xa_yn mX0_isWagging).cls ≠ "java/lang/invoke/MethodHandle" ∧ (xa_yn mX0_isWagging).cls ≠ "java/lang/invoke/VarHandle" ∧ (parseMethodDescriptor (xa_yn mX0_isWagging).desc).map (fun d => d.parameters.length) = some (xa_yp mX0_isWagging)) := ⟨xa_gw_mem 500 (by decide +kernel) rfl, ziRX0, by decide +kernel, by decide +kernel, by decide +kernel⟩
theorem imX0_isWagging : Cond.instanceMethod (xa_yn mX0_isWagging) ∈ xa_gw := xa_gw_mem 498 (by decide +kernel) rfl
theorem seX0_isWagging : Cond.selects (xa_yn mX0_isWagging).cls (xa_yn mX0_isWagging) (xa_yn mX0_isWagging) ∈ xa_gw := xa_gw_mem 499 (by decide +kernel) rfl
theorem qX0_stepsOf : Cond.code (xa_yn mX0_stepsOf) (xa_yc mX0_stepsOf) (xa_yl mX0_stepsOf) (xa_yr mX0_stepsOf) ∈ xa_gw ∧ Cond.initialized (xa_yn mX0_stepsOf).cls ∈ xa_gw ∧ ((xa_yn mX0_stepsOf).cls ≠ "java/lang/invoke/MethodHandle" ∧ (xa_yn mX0_stepsOf).cls ≠ "java/lang/invoke/VarHandle" ∧ (parseMethodDescriptor (xa_yn mX0_stepsOf).desc).map (fun d => d.parameters.length) = some (xa_yp mX0_stepsOf)) := ⟨xa_gw_mem 647 (by decide +kernel) rfl, ziRX0, by decide +kernel, by decide +kernel, by decide +kernel⟩
theorem imX0_stepsOf : Cond.instanceMethod (xa_yn mX0_stepsOf) ∈ xa_gw := xa_gw_mem 645 (by decide +kernel) rfl
theorem seX0_stepsOf : Cond.selects (xa_yn mX0_stepsOf).cls (xa_yn mX0_stepsOf) (xa_yn mX0_stepsOf) ∈ xa_gw := xa_gw_mem 646 (by decide +kernel) rfl
theorem qX0_lowestOf : Cond.code (xa_yn mX0_lowestOf) (xa_yc mX0_lowestOf) (xa_yl mX0_lowestOf) (xa_yr mX0_lowestOf) ∈ xa_gw ∧ Cond.initialized (xa_yn mX0_lowestOf).cls ∈ xa_gw ∧ ((xa_yn mX0_lowestOf).cls ≠ "java/lang/invoke/MethodHandle" ∧ (xa_yn mX0_lowestOf).cls ≠ "java/lang/invoke/VarHandle" ∧ (parseMethodDescriptor (xa_yn mX0_lowestOf).desc).map (fun d => d.parameters.length) = some (xa_yp mX0_lowestOf)) := ⟨xa_gw_mem 653 (by decide +kernel) rfl, ziRX0, by decide +kernel, by decide +kernel, by decide +kernel⟩
theorem imX0_lowestOf : Cond.instanceMethod (xa_yn mX0_lowestOf) ∈ xa_gw := xa_gw_mem 651 (by decide +kernel) rfl
theorem seX0_lowestOf : Cond.selects (xa_yn mX0_lowestOf).cls (xa_yn mX0_lowestOf) (xa_yn mX0_lowestOf) ∈ xa_gw := xa_gw_mem 652 (by decide +kernel) rfl
theorem qX0_isAs : Cond.code (xa_yn mX0_isAs) (xa_yc mX0_isAs) (xa_yl mX0_isAs) (xa_yr mX0_isAs) ∈ xa_gw ∧ Cond.initialized (xa_yn mX0_isAs).cls ∈ xa_gw ∧ ((xa_yn mX0_isAs).cls ≠ "java/lang/invoke/MethodHandle" ∧ (xa_yn mX0_isAs).cls ≠ "java/lang/invoke/VarHandle" ∧ (parseMethodDescriptor (xa_yn mX0_isAs).desc).map (fun d => d.parameters.length) = some (xa_yp mX0_isAs)) := ⟨xa_gw_mem 456 (by decide +kernel) rfl, ziRX0, by decide +kernel, by decide +kernel, by decide +kernel⟩
theorem imX0_isAs : Cond.instanceMethod (xa_yn mX0_isAs) ∈ xa_gw := xa_gw_mem 454 (by decide +kernel) rfl
theorem seX0_isAs : Cond.selects (xa_yn mX0_isAs).cls (xa_yn mX0_isAs) (xa_yn mX0_isAs) ∈ xa_gw := xa_gw_mem 455 (by decide +kernel) rfl
theorem qX0_copyBody : Cond.code (xa_yn mX0_copyBody) (xa_yc mX0_copyBody) (xa_yl mX0_copyBody) (xa_yr mX0_copyBody) ∈ xa_gw ∧ Cond.initialized (xa_yn mX0_copyBody).cls ∈ xa_gw ∧ ((xa_yn mX0_copyBody).cls ≠ "java/lang/invoke/MethodHandle" ∧ (xa_yn mX0_copyBody).cls ≠ "java/lang/invoke/VarHandle" ∧ (parseMethodDescriptor (xa_yn mX0_copyBody).desc).map (fun d => d.parameters.length) = some (xa_yp mX0_copyBody)) := ⟨xa_gw_mem 464 (by decide +kernel) rfl, ziRX0, by decide +kernel, by decide +kernel, by decide +kernel⟩
theorem imX0_copyBody : Cond.instanceMethod (xa_yn mX0_copyBody) ∈ xa_gw := xa_gw_mem 462 (by decide +kernel) rfl
theorem seX0_copyBody : Cond.selects (xa_yn mX0_copyBody).cls (xa_yn mX0_copyBody) (xa_yn mX0_copyBody) ∈ xa_gw := xa_gw_mem 463 (by decide +kernel) rfl
theorem qX1_init : Cond.code (xa_yn mX1_init) (xa_yc mX1_init) (xa_yl mX1_init) (xa_yr mX1_init) ∈ xa_gw ∧ Cond.initialized (xa_yn mX1_init).cls ∈ xa_gw ∧ ((xa_yn mX1_init).cls ≠ "java/lang/invoke/MethodHandle" ∧ (xa_yn mX1_init).cls ≠ "java/lang/invoke/VarHandle" ∧ (parseMethodDescriptor (xa_yn mX1_init).desc).map (fun d => d.parameters.length) = some (xa_yp mX1_init)) := ⟨xa_gw_mem 235 (by decide +kernel) rfl, ziRX1, by decide +kernel, by decide +kernel, by decide +kernel⟩
theorem imX1_init : Cond.instanceMethod (xa_yn mX1_init) ∈ xa_gw := xa_gw_mem 234 (by decide +kernel) rfl
theorem qX1_turnsBy : Cond.code (xa_yn mX1_turnsBy) (xa_yc mX1_turnsBy) (xa_yl mX1_turnsBy) (xa_yr mX1_turnsBy) ∈ xa_gw ∧ Cond.initialized (xa_yn mX1_turnsBy).cls ∈ xa_gw ∧ ((xa_yn mX1_turnsBy).cls ≠ "java/lang/invoke/MethodHandle" ∧ (xa_yn mX1_turnsBy).cls ≠ "java/lang/invoke/VarHandle" ∧ (parseMethodDescriptor (xa_yn mX1_turnsBy).desc).map (fun d => d.parameters.length) = some (xa_yp mX1_turnsBy)) := ⟨xa_gw_mem 781 (by decide +kernel) rfl, ziRX1, by decide +kernel, by decide +kernel, by decide +kernel⟩
theorem imX1_turnsBy : Cond.instanceMethod (xa_yn mX1_turnsBy) ∈ xa_gw := xa_gw_mem 779 (by decide +kernel) rfl
theorem seX1_turnsBy : Cond.selects (xa_yn mX1_turnsBy).cls (xa_yn mX1_turnsBy) (xa_yn mX1_turnsBy) ∈ xa_gw := xa_gw_mem 780 (by decide +kernel) rfl
theorem qX1_measureWith : Cond.code (xa_yn mX1_measureWith) (xa_yc mX1_measureWith) (xa_yl mX1_measureWith) (xa_yr mX1_measureWith) ∈ xa_gw ∧ Cond.initialized (xa_yn mX1_measureWith).cls ∈ xa_gw ∧ ((xa_yn mX1_measureWith).cls ≠ "java/lang/invoke/MethodHandle" ∧ (xa_yn mX1_measureWith).cls ≠ "java/lang/invoke/VarHandle" ∧ (parseMethodDescriptor (xa_yn mX1_measureWith).desc).map (fun d => d.parameters.length) = some (xa_yp mX1_measureWith)) := ⟨xa_gw_mem 785 (by decide +kernel) rfl, ziRX1, by decide +kernel, by decide +kernel, by decide +kernel⟩
theorem imX1_measureWith : Cond.instanceMethod (xa_yn mX1_measureWith) ∈ xa_gw := xa_gw_mem 784 (by decide +kernel) rfl
theorem seX1_measureWith : Cond.selects (xa_yn mX1_measureWith).cls (xa_yn mX1_measureWith) (xa_yn mX1_measureWith) ∈ xa_gw := xa_gw_mem 19 (by decide +kernel) rfl
theorem qX1_common : Cond.code (xa_yn mX1_common) (xa_yc mX1_common) (xa_yl mX1_common) (xa_yr mX1_common) ∈ xa_gw ∧ Cond.initialized (xa_yn mX1_common).cls ∈ xa_gw ∧ ((xa_yn mX1_common).cls ≠ "java/lang/invoke/MethodHandle" ∧ (xa_yn mX1_common).cls ≠ "java/lang/invoke/VarHandle" ∧ (parseMethodDescriptor (xa_yn mX1_common).desc).map (fun d => d.parameters.length) = some (xa_yp mX1_common)) := ⟨xa_gw_mem 793 (by decide +kernel) rfl, ziRX1, by decide +kernel, by decide +kernel, by decide +kernel⟩
theorem smX1_common : Cond.static (xa_yn mX1_common) ∈ xa_gw := xa_gw_mem 792 (by decide +kernel) rfl
theorem qX2_init : Cond.code (xa_yn mX2_init) (xa_yc mX2_init) (xa_yl mX2_init) (xa_yr mX2_init) ∈ xa_gw ∧ Cond.initialized (xa_yn mX2_init).cls ∈ xa_gw ∧ ((xa_yn mX2_init).cls ≠ "java/lang/invoke/MethodHandle" ∧ (xa_yn mX2_init).cls ≠ "java/lang/invoke/VarHandle" ∧ (parseMethodDescriptor (xa_yn mX2_init).desc).map (fun d => d.parameters.length) = some (xa_yp mX2_init)) := ⟨xa_gw_mem 141 (by decide +kernel) rfl, ziRX2, by decide +kernel, by decide +kernel, by decide +kernel⟩
theorem imX2_init : Cond.instanceMethod (xa_yn mX2_init) ∈ xa_gw := xa_gw_mem 140 (by decide +kernel) rfl
theorem qX2_firstFault : Cond.code (xa_yn mX2_firstFault) (xa_yc mX2_firstFault) (xa_yl mX2_firstFault) (xa_yr mX2_firstFault) ∈ xa_gw ∧ Cond.initialized (xa_yn mX2_firstFault).cls ∈ xa_gw ∧ ((xa_yn mX2_firstFault).cls ≠ "java/lang/invoke/MethodHandle" ∧ (xa_yn mX2_firstFault).cls ≠ "java/lang/invoke/VarHandle" ∧ (parseMethodDescriptor (xa_yn mX2_firstFault).desc).map (fun d => d.parameters.length) = some (xa_yp mX2_firstFault)) := ⟨xa_gw_mem 404 (by decide +kernel) rfl, ziRX2, by decide +kernel, by decide +kernel, by decide +kernel⟩
theorem imX2_firstFault : Cond.instanceMethod (xa_yn mX2_firstFault) ∈ xa_gw := xa_gw_mem 402 (by decide +kernel) rfl
theorem seX2_firstFault : Cond.selects (xa_yn mX2_firstFault).cls (xa_yn mX2_firstFault) (xa_yn mX2_firstFault) ∈ xa_gw := xa_gw_mem 403 (by decide +kernel) rfl
theorem qX2_readsItem : Cond.code (xa_yn mX2_readsItem) (xa_yc mX2_readsItem) (xa_yl mX2_readsItem) (xa_yr mX2_readsItem) ∈ xa_gw ∧ Cond.initialized (xa_yn mX2_readsItem).cls ∈ xa_gw ∧ ((xa_yn mX2_readsItem).cls ≠ "java/lang/invoke/MethodHandle" ∧ (xa_yn mX2_readsItem).cls ≠ "java/lang/invoke/VarHandle" ∧ (parseMethodDescriptor (xa_yn mX2_readsItem).desc).map (fun d => d.parameters.length) = some (xa_yp mX2_readsItem)) := ⟨xa_gw_mem 412 (by decide +kernel) rfl, ziRX2, by decide +kernel, by decide +kernel, by decide +kernel⟩
theorem imX2_readsItem : Cond.instanceMethod (xa_yn mX2_readsItem) ∈ xa_gw := xa_gw_mem 411 (by decide +kernel) rfl
theorem seX2_readsItem : Cond.selects (xa_yn mX2_readsItem).cls (xa_yn mX2_readsItem) (xa_yn mX2_readsItem) ∈ xa_gw := xa_gw_mem 1 (by decide +kernel) rfl
theorem qX2_readsNumber : Cond.code (xa_yn mX2_readsNumber) (xa_yc mX2_readsNumber) (xa_yl mX2_readsNumber) (xa_yr mX2_readsNumber) ∈ xa_gw ∧ Cond.initialized (xa_yn mX2_readsNumber).cls ∈ xa_gw ∧ ((xa_yn mX2_readsNumber).cls ≠ "java/lang/invoke/MethodHandle" ∧ (xa_yn mX2_readsNumber).cls ≠ "java/lang/invoke/VarHandle" ∧ (parseMethodDescriptor (xa_yn mX2_readsNumber).desc).map (fun d => d.parameters.length) = some (xa_yp mX2_readsNumber)) := ⟨xa_gw_mem 420 (by decide +kernel) rfl, ziRX2, by decide +kernel, by decide +kernel, by decide +kernel⟩
theorem imX2_readsNumber : Cond.instanceMethod (xa_yn mX2_readsNumber) ∈ xa_gw := xa_gw_mem 419 (by decide +kernel) rfl
theorem seX2_readsNumber : Cond.selects (xa_yn mX2_readsNumber).cls (xa_yn mX2_readsNumber) (xa_yn mX2_readsNumber) ∈ xa_gw := xa_gw_mem 2 (by decide +kernel) rfl
theorem qX2_takesItem : Cond.code (xa_yn mX2_takesItem) (xa_yc mX2_takesItem) (xa_yl mX2_takesItem) (xa_yr mX2_takesItem) ∈ xa_gw ∧ Cond.initialized (xa_yn mX2_takesItem).cls ∈ xa_gw ∧ ((xa_yn mX2_takesItem).cls ≠ "java/lang/invoke/MethodHandle" ∧ (xa_yn mX2_takesItem).cls ≠ "java/lang/invoke/VarHandle" ∧ (parseMethodDescriptor (xa_yn mX2_takesItem).desc).map (fun d => d.parameters.length) = some (xa_yp mX2_takesItem)) := ⟨xa_gw_mem 425 (by decide +kernel) rfl, ziRX2, by decide +kernel, by decide +kernel, by decide +kernel⟩
theorem imX2_takesItem : Cond.instanceMethod (xa_yn mX2_takesItem) ∈ xa_gw := xa_gw_mem 424 (by decide +kernel) rfl
theorem seX2_takesItem : Cond.selects (xa_yn mX2_takesItem).cls (xa_yn mX2_takesItem) (xa_yn mX2_takesItem) ∈ xa_gw := xa_gw_mem 3 (by decide +kernel) rfl
theorem qX3_init : Cond.code (xa_yn mX3_init) (xa_yc mX3_init) (xa_yl mX3_init) (xa_yr mX3_init) ∈ xa_gw ∧ Cond.initialized (xa_yn mX3_init).cls ∈ xa_gw ∧ ((xa_yn mX3_init).cls ≠ "java/lang/invoke/MethodHandle" ∧ (xa_yn mX3_init).cls ≠ "java/lang/invoke/VarHandle" ∧ (parseMethodDescriptor (xa_yn mX3_init).desc).map (fun d => d.parameters.length) = some (xa_yp mX3_init)) := ⟨xa_gw_mem 250 (by decide +kernel) rfl, ziRX3, by decide +kernel, by decide +kernel, by decide +kernel⟩
theorem imX3_init : Cond.instanceMethod (xa_yn mX3_init) ∈ xa_gw := xa_gw_mem 249 (by decide +kernel) rfl
theorem qX3_forget : Cond.code (xa_yn mX3_forget) (xa_yc mX3_forget) (xa_yl mX3_forget) (xa_yr mX3_forget) ∈ xa_gw ∧ Cond.initialized (xa_yn mX3_forget).cls ∈ xa_gw ∧ ((xa_yn mX3_forget).cls ≠ "java/lang/invoke/MethodHandle" ∧ (xa_yn mX3_forget).cls ≠ "java/lang/invoke/VarHandle" ∧ (parseMethodDescriptor (xa_yn mX3_forget).desc).map (fun d => d.parameters.length) = some (xa_yp mX3_forget)) := ⟨xa_gw_mem 468 (by decide +kernel) rfl, ziRX3, by decide +kernel, by decide +kernel, by decide +kernel⟩
theorem imX3_forget : Cond.instanceMethod (xa_yn mX3_forget) ∈ xa_gw := xa_gw_mem 466 (by decide +kernel) rfl
theorem seX3_forget : Cond.selects (xa_yn mX3_forget).cls (xa_yn mX3_forget) (xa_yn mX3_forget) ∈ xa_gw := xa_gw_mem 467 (by decide +kernel) rfl
theorem qX3_ticksFrom : Cond.code (xa_yn mX3_ticksFrom) (xa_yc mX3_ticksFrom) (xa_yl mX3_ticksFrom) (xa_yr mX3_ticksFrom) ∈ xa_gw ∧ Cond.initialized (xa_yn mX3_ticksFrom).cls ∈ xa_gw ∧ ((xa_yn mX3_ticksFrom).cls ≠ "java/lang/invoke/MethodHandle" ∧ (xa_yn mX3_ticksFrom).cls ≠ "java/lang/invoke/VarHandle" ∧ (parseMethodDescriptor (xa_yn mX3_ticksFrom).desc).map (fun d => d.parameters.length) = some (xa_yp mX3_ticksFrom)) := ⟨xa_gw_mem 635 (by decide +kernel) rfl, ziRX3, by decide +kernel, by decide +kernel, by decide +kernel⟩
theorem imX3_ticksFrom : Cond.instanceMethod (xa_yn mX3_ticksFrom) ∈ xa_gw := xa_gw_mem 633 (by decide +kernel) rfl
theorem seX3_ticksFrom : Cond.selects (xa_yn mX3_ticksFrom).cls (xa_yn mX3_ticksFrom) (xa_yn mX3_ticksFrom) ∈ xa_gw := xa_gw_mem 634 (by decide +kernel) rfl
theorem qX3_turnsWithin : Cond.code (xa_yn mX3_turnsWithin) (xa_yc mX3_turnsWithin) (xa_yl mX3_turnsWithin) (xa_yr mX3_turnsWithin) ∈ xa_gw ∧ Cond.initialized (xa_yn mX3_turnsWithin).cls ∈ xa_gw ∧ ((xa_yn mX3_turnsWithin).cls ≠ "java/lang/invoke/MethodHandle" ∧ (xa_yn mX3_turnsWithin).cls ≠ "java/lang/invoke/VarHandle" ∧ (parseMethodDescriptor (xa_yn mX3_turnsWithin).desc).map (fun d => d.parameters.length) = some (xa_yp mX3_turnsWithin)) := ⟨xa_gw_mem 772 (by decide +kernel) rfl, ziRX3, by decide +kernel, by decide +kernel, by decide +kernel⟩
theorem imX3_turnsWithin : Cond.instanceMethod (xa_yn mX3_turnsWithin) ∈ xa_gw := xa_gw_mem 770 (by decide +kernel) rfl
theorem seX3_turnsWithin : Cond.selects (xa_yn mX3_turnsWithin).cls (xa_yn mX3_turnsWithin) (xa_yn mX3_turnsWithin) ∈ xa_gw := xa_gw_mem 771 (by decide +kernel) rfl
theorem qX3_moveFrom : Cond.code (xa_yn mX3_moveFrom) (xa_yc mX3_moveFrom) (xa_yl mX3_moveFrom) (xa_yr mX3_moveFrom) ∈ xa_gw ∧ Cond.initialized (xa_yn mX3_moveFrom).cls ∈ xa_gw ∧ ((xa_yn mX3_moveFrom).cls ≠ "java/lang/invoke/MethodHandle" ∧ (xa_yn mX3_moveFrom).cls ≠ "java/lang/invoke/VarHandle" ∧ (parseMethodDescriptor (xa_yn mX3_moveFrom).desc).map (fun d => d.parameters.length) = some (xa_yp mX3_moveFrom)) := ⟨xa_gw_mem 746 (by decide +kernel) rfl, ziRX3, by decide +kernel, by decide +kernel, by decide +kernel⟩
theorem imX3_moveFrom : Cond.instanceMethod (xa_yn mX3_moveFrom) ∈ xa_gw := xa_gw_mem 744 (by decide +kernel) rfl
theorem seX3_moveFrom : Cond.selects (xa_yn mX3_moveFrom).cls (xa_yn mX3_moveFrom) (xa_yn mX3_moveFrom) ∈ xa_gw := xa_gw_mem 745 (by decide +kernel) rfl
theorem qX3_prepare : Cond.code (xa_yn mX3_prepare) (xa_yc mX3_prepare) (xa_yl mX3_prepare) (xa_yr mX3_prepare) ∈ xa_gw ∧ Cond.initialized (xa_yn mX3_prepare).cls ∈ xa_gw ∧ ((xa_yn mX3_prepare).cls ≠ "java/lang/invoke/MethodHandle" ∧ (xa_yn mX3_prepare).cls ≠ "java/lang/invoke/VarHandle" ∧ (parseMethodDescriptor (xa_yn mX3_prepare).desc).map (fun d => d.parameters.length) = some (xa_yp mX3_prepare)) := ⟨xa_gw_mem 639 (by decide +kernel) rfl, ziRX3, by decide +kernel, by decide +kernel, by decide +kernel⟩
theorem imX3_prepare : Cond.instanceMethod (xa_yn mX3_prepare) ∈ xa_gw := xa_gw_mem 638 (by decide +kernel) rfl
theorem seX3_prepare : Cond.selects (xa_yn mX3_prepare).cls (xa_yn mX3_prepare) (xa_yn mX3_prepare) ∈ xa_gw := xa_gw_mem 9 (by decide +kernel) rfl
theorem qX3_makeRoom : Cond.code (xa_yn mX3_makeRoom) (xa_yc mX3_makeRoom) (xa_yl mX3_makeRoom) (xa_yr mX3_makeRoom) ∈ xa_gw ∧ Cond.initialized (xa_yn mX3_makeRoom).cls ∈ xa_gw ∧ ((xa_yn mX3_makeRoom).cls ≠ "java/lang/invoke/MethodHandle" ∧ (xa_yn mX3_makeRoom).cls ≠ "java/lang/invoke/VarHandle" ∧ (parseMethodDescriptor (xa_yn mX3_makeRoom).desc).map (fun d => d.parameters.length) = some (xa_yp mX3_makeRoom)) := ⟨xa_gw_mem 676 (by decide +kernel) rfl, ziRX3, by decide +kernel, by decide +kernel, by decide +kernel⟩
theorem imX3_makeRoom : Cond.instanceMethod (xa_yn mX3_makeRoom) ∈ xa_gw := xa_gw_mem 675 (by decide +kernel) rfl
theorem seX3_makeRoom : Cond.selects (xa_yn mX3_makeRoom).cls (xa_yn mX3_makeRoom) (xa_yn mX3_makeRoom) ∈ xa_gw := xa_gw_mem 11 (by decide +kernel) rfl
theorem qX3_expandFirst : Cond.code (xa_yn mX3_expandFirst) (xa_yc mX3_expandFirst) (xa_yl mX3_expandFirst) (xa_yr mX3_expandFirst) ∈ xa_gw ∧ Cond.initialized (xa_yn mX3_expandFirst).cls ∈ xa_gw ∧ ((xa_yn mX3_expandFirst).cls ≠ "java/lang/invoke/MethodHandle" ∧ (xa_yn mX3_expandFirst).cls ≠ "java/lang/invoke/VarHandle" ∧ (parseMethodDescriptor (xa_yn mX3_expandFirst).desc).map (fun d => d.parameters.length) = some (xa_yp mX3_expandFirst)) := ⟨xa_gw_mem 694 (by decide +kernel) rfl, ziRX3, by decide +kernel, by decide +kernel, by decide +kernel⟩
theorem imX3_expandFirst : Cond.instanceMethod (xa_yn mX3_expandFirst) ∈ xa_gw := xa_gw_mem 693 (by decide +kernel) rfl
theorem seX3_expandFirst : Cond.selects (xa_yn mX3_expandFirst).cls (xa_yn mX3_expandFirst) (xa_yn mX3_expandFirst) ∈ xa_gw := xa_gw_mem 13 (by decide +kernel) rfl
theorem qX3_enqueue : Cond.code (xa_yn mX3_enqueue) (xa_yc mX3_enqueue) (xa_yl mX3_enqueue) (xa_yr mX3_enqueue) ∈ xa_gw ∧ Cond.initialized (xa_yn mX3_enqueue).cls ∈ xa_gw ∧ ((xa_yn mX3_enqueue).cls ≠ "java/lang/invoke/MethodHandle" ∧ (xa_yn mX3_enqueue).cls ≠ "java/lang/invoke/VarHandle" ∧ (parseMethodDescriptor (xa_yn mX3_enqueue).desc).map (fun d => d.parameters.length) = some (xa_yp mX3_enqueue)) := ⟨xa_gw_mem 733 (by decide +kernel) rfl, ziRX3, by decide +kernel, by decide +kernel, by decide +kernel⟩
theorem imX3_enqueue : Cond.instanceMethod (xa_yn mX3_enqueue) ∈ xa_gw := xa_gw_mem 732 (by decide +kernel) rfl
theorem seX3_enqueue : Cond.selects (xa_yn mX3_enqueue).cls (xa_yn mX3_enqueue) (xa_yn mX3_enqueue) ∈ xa_gw := xa_gw_mem 17 (by decide +kernel) rfl
theorem qX3_answer : Cond.code (xa_yn mX3_answer) (xa_yc mX3_answer) (xa_yl mX3_answer) (xa_yr mX3_answer) ∈ xa_gw ∧ Cond.initialized (xa_yn mX3_answer).cls ∈ xa_gw ∧ ((xa_yn mX3_answer).cls ≠ "java/lang/invoke/MethodHandle" ∧ (xa_yn mX3_answer).cls ≠ "java/lang/invoke/VarHandle" ∧ (parseMethodDescriptor (xa_yn mX3_answer).desc).map (fun d => d.parameters.length) = some (xa_yp mX3_answer)) := ⟨xa_gw_mem 689 (by decide +kernel) rfl, ziRX3, by decide +kernel, by decide +kernel, by decide +kernel⟩
theorem imX3_answer : Cond.instanceMethod (xa_yn mX3_answer) ∈ xa_gw := xa_gw_mem 688 (by decide +kernel) rfl
theorem seX3_answer : Cond.selects (xa_yn mX3_answer).cls (xa_yn mX3_answer) (xa_yn mX3_answer) ∈ xa_gw := xa_gw_mem 12 (by decide +kernel) rfl
theorem qX3_goOn : Cond.code (xa_yn mX3_goOn) (xa_yc mX3_goOn) (xa_yl mX3_goOn) (xa_yr mX3_goOn) ∈ xa_gw ∧ Cond.initialized (xa_yn mX3_goOn).cls ∈ xa_gw ∧ ((xa_yn mX3_goOn).cls ≠ "java/lang/invoke/MethodHandle" ∧ (xa_yn mX3_goOn).cls ≠ "java/lang/invoke/VarHandle" ∧ (parseMethodDescriptor (xa_yn mX3_goOn).desc).map (fun d => d.parameters.length) = some (xa_yp mX3_goOn)) := ⟨xa_gw_mem 742 (by decide +kernel) rfl, ziRX3, by decide +kernel, by decide +kernel, by decide +kernel⟩
theorem imX3_goOn : Cond.instanceMethod (xa_yn mX3_goOn) ∈ xa_gw := xa_gw_mem 741 (by decide +kernel) rfl
theorem seX3_goOn : Cond.selects (xa_yn mX3_goOn).cls (xa_yn mX3_goOn) (xa_yn mX3_goOn) ∈ xa_gw := xa_gw_mem 18 (by decide +kernel) rfl
theorem qX4_init : Cond.code (xa_yn mX4_init) (xa_yc mX4_init) (xa_yl mX4_init) (xa_yr mX4_init) ∈ xa_gw ∧ Cond.initialized (xa_yn mX4_init).cls ∈ xa_gw ∧ ((xa_yn mX4_init).cls ≠ "java/lang/invoke/MethodHandle" ∧ (xa_yn mX4_init).cls ≠ "java/lang/invoke/VarHandle" ∧ (parseMethodDescriptor (xa_yn mX4_init).desc).map (fun d => d.parameters.length) = some (xa_yp mX4_init)) := ⟨xa_gw_mem 188 (by decide +kernel) rfl, ziRX4, by decide +kernel, by decide +kernel, by decide +kernel⟩
theorem imX4_init : Cond.instanceMethod (xa_yn mX4_init) ∈ xa_gw := xa_gw_mem 187 (by decide +kernel) rfl
theorem qX4_rest : Cond.code (xa_yn mX4_rest) (xa_yc mX4_rest) (xa_yl mX4_rest) (xa_yr mX4_rest) ∈ xa_gw ∧ Cond.initialized (xa_yn mX4_rest).cls ∈ xa_gw ∧ ((xa_yn mX4_rest).cls ≠ "java/lang/invoke/MethodHandle" ∧ (xa_yn mX4_rest).cls ≠ "java/lang/invoke/VarHandle" ∧ (parseMethodDescriptor (xa_yn mX4_rest).desc).map (fun d => d.parameters.length) = some (xa_yp mX4_rest)) := ⟨xa_gw_mem 543 (by decide +kernel) rfl, ziRX4, by decide +kernel, by decide +kernel, by decide +kernel⟩
theorem imX4_rest : Cond.instanceMethod (xa_yn mX4_rest) ∈ xa_gw := xa_gw_mem 541 (by decide +kernel) rfl
theorem seX4_rest : Cond.selects (xa_yn mX4_rest).cls (xa_yn mX4_rest) (xa_yn mX4_rest) ∈ xa_gw := xa_gw_mem 542 (by decide +kernel) rfl
theorem qX4_poseOf : Cond.code (xa_yn mX4_poseOf) (xa_yc mX4_poseOf) (xa_yl mX4_poseOf) (xa_yr mX4_poseOf) ∈ xa_gw ∧ Cond.initialized (xa_yn mX4_poseOf).cls ∈ xa_gw ∧ ((xa_yn mX4_poseOf).cls ≠ "java/lang/invoke/MethodHandle" ∧ (xa_yn mX4_poseOf).cls ≠ "java/lang/invoke/VarHandle" ∧ (parseMethodDescriptor (xa_yn mX4_poseOf).desc).map (fun d => d.parameters.length) = some (xa_yp mX4_poseOf)) := ⟨xa_gw_mem 672 (by decide +kernel) rfl, ziRX4, by decide +kernel, by decide +kernel, by decide +kernel⟩
theorem imX4_poseOf : Cond.instanceMethod (xa_yn mX4_poseOf) ∈ xa_gw := xa_gw_mem 670 (by decide +kernel) rfl
theorem seX4_poseOf : Cond.selects (xa_yn mX4_poseOf).cls (xa_yn mX4_poseOf) (xa_yn mX4_poseOf) ∈ xa_gw := xa_gw_mem 671 (by decide +kernel) rfl
theorem qX4_takePose : Cond.code (xa_yn mX4_takePose) (xa_yc mX4_takePose) (xa_yl mX4_takePose) (xa_yr mX4_takePose) ∈ xa_gw ∧ Cond.initialized (xa_yn mX4_takePose).cls ∈ xa_gw ∧ ((xa_yn mX4_takePose).cls ≠ "java/lang/invoke/MethodHandle" ∧ (xa_yn mX4_takePose).cls ≠ "java/lang/invoke/VarHandle" ∧ (parseMethodDescriptor (xa_yn mX4_takePose).desc).map (fun d => d.parameters.length) = some (xa_yp mX4_takePose)) := ⟨xa_gw_mem 659 (by decide +kernel) rfl, ziRX4, by decide +kernel, by decide +kernel, by decide +kernel⟩
theorem imX4_takePose : Cond.instanceMethod (xa_yn mX4_takePose) ∈ xa_gw := xa_gw_mem 657 (by decide +kernel) rfl
theorem seX4_takePose : Cond.selects (xa_yn mX4_takePose).cls (xa_yn mX4_takePose) (xa_yn mX4_takePose) ∈ xa_gw := xa_gw_mem 658 (by decide +kernel) rfl
theorem qX4_stepsAt : Cond.code (xa_yn mX4_stepsAt) (xa_yc mX4_stepsAt) (xa_yl mX4_stepsAt) (xa_yr mX4_stepsAt) ∈ xa_gw ∧ Cond.initialized (xa_yn mX4_stepsAt).cls ∈ xa_gw ∧ ((xa_yn mX4_stepsAt).cls ≠ "java/lang/invoke/MethodHandle" ∧ (xa_yn mX4_stepsAt).cls ≠ "java/lang/invoke/VarHandle" ∧ (parseMethodDescriptor (xa_yn mX4_stepsAt).desc).map (fun d => d.parameters.length) = some (xa_yp mX4_stepsAt)) := ⟨xa_gw_mem 668 (by decide +kernel) rfl, ziRX4, by decide +kernel, by decide +kernel, by decide +kernel⟩
theorem imX4_stepsAt : Cond.instanceMethod (xa_yn mX4_stepsAt) ∈ xa_gw := xa_gw_mem 666 (by decide +kernel) rfl
theorem seX4_stepsAt : Cond.selects (xa_yn mX4_stepsAt).cls (xa_yn mX4_stepsAt) (xa_yn mX4_stepsAt) ∈ xa_gw := xa_gw_mem 667 (by decide +kernel) rfl
theorem qX4_takeSteps : Cond.code (xa_yn mX4_takeSteps) (xa_yc mX4_takeSteps) (xa_yl mX4_takeSteps) (xa_yr mX4_takeSteps) ∈ xa_gw ∧ Cond.initialized (xa_yn mX4_takeSteps).cls ∈ xa_gw ∧ ((xa_yn mX4_takeSteps).cls ≠ "java/lang/invoke/MethodHandle" ∧ (xa_yn mX4_takeSteps).cls ≠ "java/lang/invoke/VarHandle" ∧ (parseMethodDescriptor (xa_yn mX4_takeSteps).desc).map (fun d => d.parameters.length) = some (xa_yp mX4_takeSteps)) := ⟨xa_gw_mem 710 (by decide +kernel) rfl, ziRX4, by decide +kernel, by decide +kernel, by decide +kernel⟩
theorem imX4_takeSteps : Cond.instanceMethod (xa_yn mX4_takeSteps) ∈ xa_gw := xa_gw_mem 708 (by decide +kernel) rfl
theorem seX4_takeSteps : Cond.selects (xa_yn mX4_takeSteps).cls (xa_yn mX4_takeSteps) (xa_yn mX4_takeSteps) ∈ xa_gw := xa_gw_mem 709 (by decide +kernel) rfl
theorem qX4_isStraight : Cond.code (xa_yn mX4_isStraight) (xa_yc mX4_isStraight) (xa_yl mX4_isStraight) (xa_yr mX4_isStraight) ∈ xa_gw ∧ Cond.initialized (xa_yn mX4_isStraight).cls ∈ xa_gw ∧ ((xa_yn mX4_isStraight).cls ≠ "java/lang/invoke/MethodHandle" ∧ (xa_yn mX4_isStraight).cls ≠ "java/lang/invoke/VarHandle" ∧ (parseMethodDescriptor (xa_yn mX4_isStraight).desc).map (fun d => d.parameters.length) = some (xa_yp mX4_isStraight)) := ⟨xa_gw_mem 618 (by decide +kernel) rfl, ziRX4, by decide +kernel, by decide +kernel, by decide +kernel⟩
theorem imX4_isStraight : Cond.instanceMethod (xa_yn mX4_isStraight) ∈ xa_gw := xa_gw_mem 616 (by decide +kernel) rfl
theorem seX4_isStraight : Cond.selects (xa_yn mX4_isStraight).cls (xa_yn mX4_isStraight) (xa_yn mX4_isStraight) ∈ xa_gw := xa_gw_mem 617 (by decide +kernel) rfl
theorem qX4_isAtRest : Cond.code (xa_yn mX4_isAtRest) (xa_yc mX4_isAtRest) (xa_yl mX4_isAtRest) (xa_yr mX4_isAtRest) ∈ xa_gw ∧ Cond.initialized (xa_yn mX4_isAtRest).cls ∈ xa_gw ∧ ((xa_yn mX4_isAtRest).cls ≠ "java/lang/invoke/MethodHandle" ∧ (xa_yn mX4_isAtRest).cls ≠ "java/lang/invoke/VarHandle" ∧ (parseMethodDescriptor (xa_yn mX4_isAtRest).desc).map (fun d => d.parameters.length) = some (xa_yp mX4_isAtRest)) := ⟨xa_gw_mem 614 (by decide +kernel) rfl, ziRX4, by decide +kernel, by decide +kernel, by decide +kernel⟩
theorem imX4_isAtRest : Cond.instanceMethod (xa_yn mX4_isAtRest) ∈ xa_gw := xa_gw_mem 612 (by decide +kernel) rfl
theorem seX4_isAtRest : Cond.selects (xa_yn mX4_isAtRest).cls (xa_yn mX4_isAtRest) (xa_yn mX4_isAtRest) ∈ xa_gw := xa_gw_mem 613 (by decide +kernel) rfl
theorem qX4_loadFrom : Cond.code (xa_yn mX4_loadFrom) (xa_yc mX4_loadFrom) (xa_yl mX4_loadFrom) (xa_yr mX4_loadFrom) ∈ xa_gw ∧ Cond.initialized (xa_yn mX4_loadFrom).cls ∈ xa_gw ∧ ((xa_yn mX4_loadFrom).cls ≠ "java/lang/invoke/MethodHandle" ∧ (xa_yn mX4_loadFrom).cls ≠ "java/lang/invoke/VarHandle" ∧ (parseMethodDescriptor (xa_yn mX4_loadFrom).desc).map (fun d => d.parameters.length) = some (xa_yp mX4_loadFrom)) := ⟨xa_gw_mem 552 (by decide +kernel) rfl, ziRX4, by decide +kernel, by decide +kernel, by decide +kernel⟩
theorem imX4_loadFrom : Cond.instanceMethod (xa_yn mX4_loadFrom) ∈ xa_gw := xa_gw_mem 550 (by decide +kernel) rfl
theorem seX4_loadFrom : Cond.selects (xa_yn mX4_loadFrom).cls (xa_yn mX4_loadFrom) (xa_yn mX4_loadFrom) ∈ xa_gw := xa_gw_mem 551 (by decide +kernel) rfl
theorem qX4_bentTo : Cond.code (xa_yn mX4_bentTo) (xa_yc mX4_bentTo) (xa_yl mX4_bentTo) (xa_yr mX4_bentTo) ∈ xa_gw ∧ Cond.initialized (xa_yn mX4_bentTo).cls ∈ xa_gw ∧ ((xa_yn mX4_bentTo).cls ≠ "java/lang/invoke/MethodHandle" ∧ (xa_yn mX4_bentTo).cls ≠ "java/lang/invoke/VarHandle" ∧ (parseMethodDescriptor (xa_yn mX4_bentTo).desc).map (fun d => d.parameters.length) = some (xa_yp mX4_bentTo)) := ⟨xa_gw_mem 560 (by decide +kernel) rfl, ziRX4, by decide +kernel, by decide +kernel, by decide +kernel⟩
theorem imX4_bentTo : Cond.instanceMethod (xa_yn mX4_bentTo) ∈ xa_gw := xa_gw_mem 558 (by decide +kernel) rfl
theorem seX4_bentTo : Cond.selects (xa_yn mX4_bentTo).cls (xa_yn mX4_bentTo) (xa_yn mX4_bentTo) ∈ xa_gw := xa_gw_mem 559 (by decide +kernel) rfl
theorem qX4_lastTurn : Cond.code (xa_yn mX4_lastTurn) (xa_yc mX4_lastTurn) (xa_yl mX4_lastTurn) (xa_yr mX4_lastTurn) ∈ xa_gw ∧ Cond.initialized (xa_yn mX4_lastTurn).cls ∈ xa_gw ∧ ((xa_yn mX4_lastTurn).cls ≠ "java/lang/invoke/MethodHandle" ∧ (xa_yn mX4_lastTurn).cls ≠ "java/lang/invoke/VarHandle" ∧ (parseMethodDescriptor (xa_yn mX4_lastTurn).desc).map (fun d => d.parameters.length) = some (xa_yp mX4_lastTurn)) := ⟨xa_gw_mem 590 (by decide +kernel) rfl, ziRX4, by decide +kernel, by decide +kernel, by decide +kernel⟩
theorem imX4_lastTurn : Cond.instanceMethod (xa_yn mX4_lastTurn) ∈ xa_gw := xa_gw_mem 588 (by decide +kernel) rfl
theorem seX4_lastTurn : Cond.selects (xa_yn mX4_lastTurn).cls (xa_yn mX4_lastTurn) (xa_yn mX4_lastTurn) ∈ xa_gw := xa_gw_mem 589 (by decide +kernel) rfl
theorem qX4_makes : Cond.code (xa_yn mX4_makes) (xa_yc mX4_makes) (xa_yl mX4_makes) (xa_yr mX4_makes) ∈ xa_gw ∧ Cond.initialized (xa_yn mX4_makes).cls ∈ xa_gw ∧ ((xa_yn mX4_makes).cls ≠ "java/lang/invoke/MethodHandle" ∧ (xa_yn mX4_makes).cls ≠ "java/lang/invoke/VarHandle" ∧ (parseMethodDescriptor (xa_yn mX4_makes).desc).map (fun d => d.parameters.length) = some (xa_yp mX4_makes)) := ⟨xa_gw_mem 573 (by decide +kernel) rfl, ziRX4, by decide +kernel, by decide +kernel, by decide +kernel⟩
theorem imX4_makes : Cond.instanceMethod (xa_yn mX4_makes) ∈ xa_gw := xa_gw_mem 571 (by decide +kernel) rfl
theorem seX4_makes : Cond.selects (xa_yn mX4_makes).cls (xa_yn mX4_makes) (xa_yn mX4_makes) ∈ xa_gw := xa_gw_mem 572 (by decide +kernel) rfl
theorem qX4_makesPose : Cond.code (xa_yn mX4_makesPose) (xa_yc mX4_makesPose) (xa_yl mX4_makesPose) (xa_yr mX4_makesPose) ∈ xa_gw ∧ Cond.initialized (xa_yn mX4_makesPose).cls ∈ xa_gw ∧ ((xa_yn mX4_makesPose).cls ≠ "java/lang/invoke/MethodHandle" ∧ (xa_yn mX4_makesPose).cls ≠ "java/lang/invoke/VarHandle" ∧ (parseMethodDescriptor (xa_yn mX4_makesPose).desc).map (fun d => d.parameters.length) = some (xa_yp mX4_makesPose)) := ⟨xa_gw_mem 577 (by decide +kernel) rfl, ziRX4, by decide +kernel, by decide +kernel, by decide +kernel⟩
theorem imX4_makesPose : Cond.instanceMethod (xa_yn mX4_makesPose) ∈ xa_gw := xa_gw_mem 576 (by decide +kernel) rfl
theorem seX4_makesPose : Cond.selects (xa_yn mX4_makesPose).cls (xa_yn mX4_makesPose) (xa_yn mX4_makesPose) ∈ xa_gw := xa_gw_mem 7 (by decide +kernel) rfl
theorem qX4_makesStep : Cond.code (xa_yn mX4_makesStep) (xa_yc mX4_makesStep) (xa_yl mX4_makesStep) (xa_yr mX4_makesStep) ∈ xa_gw ∧ Cond.initialized (xa_yn mX4_makesStep).cls ∈ xa_gw ∧ ((xa_yn mX4_makesStep).cls ≠ "java/lang/invoke/MethodHandle" ∧ (xa_yn mX4_makesStep).cls ≠ "java/lang/invoke/VarHandle" ∧ (parseMethodDescriptor (xa_yn mX4_makesStep).desc).map (fun d => d.parameters.length) = some (xa_yp mX4_makesStep)) := ⟨xa_gw_mem 581 (by decide +kernel) rfl, ziRX4, by decide +kernel, by decide +kernel, by decide +kernel⟩
theorem imX4_makesStep : Cond.instanceMethod (xa_yn mX4_makesStep) ∈ xa_gw := xa_gw_mem 580 (by decide +kernel) rfl
theorem seX4_makesStep : Cond.selects (xa_yn mX4_makesStep).cls (xa_yn mX4_makesStep) (xa_yn mX4_makesStep) ∈ xa_gw := xa_gw_mem 8 (by decide +kernel) rfl
theorem qX5_init : Cond.code (xa_yn mX5_init) (xa_yc mX5_init) (xa_yl mX5_init) (xa_yr mX5_init) ∈ xa_gw ∧ Cond.initialized (xa_yn mX5_init).cls ∈ xa_gw ∧ ((xa_yn mX5_init).cls ≠ "java/lang/invoke/MethodHandle" ∧ (xa_yn mX5_init).cls ≠ "java/lang/invoke/VarHandle" ∧ (parseMethodDescriptor (xa_yn mX5_init).desc).map (fun d => d.parameters.length) = some (xa_yp mX5_init)) := ⟨xa_gw_mem 160 (by decide +kernel) rfl, ziRX5, by decide +kernel, by decide +kernel, by decide +kernel⟩
theorem imX5_init : Cond.instanceMethod (xa_yn mX5_init) ∈ xa_gw := xa_gw_mem 159 (by decide +kernel) rfl
theorem qX5_clear : Cond.code (xa_yn mX5_clear) (xa_yc mX5_clear) (xa_yl mX5_clear) (xa_yr mX5_clear) ∈ xa_gw ∧ Cond.initialized (xa_yn mX5_clear).cls ∈ xa_gw ∧ ((xa_yn mX5_clear).cls ≠ "java/lang/invoke/MethodHandle" ∧ (xa_yn mX5_clear).cls ≠ "java/lang/invoke/VarHandle" ∧ (parseMethodDescriptor (xa_yn mX5_clear).desc).map (fun d => d.parameters.length) = some (xa_yp mX5_clear)) := ⟨xa_gw_mem 472 (by decide +kernel) rfl, ziRX5, by decide +kernel, by decide +kernel, by decide +kernel⟩
theorem imX5_clear : Cond.instanceMethod (xa_yn mX5_clear) ∈ xa_gw := xa_gw_mem 470 (by decide +kernel) rfl
theorem seX5_clear : Cond.selects (xa_yn mX5_clear).cls (xa_yn mX5_clear) (xa_yn mX5_clear) ∈ xa_gw := xa_gw_mem 471 (by decide +kernel) rfl
theorem qX5_copySheet : Cond.code (xa_yn mX5_copySheet) (xa_yc mX5_copySheet) (xa_yl mX5_copySheet) (xa_yr mX5_copySheet) ∈ xa_gw ∧ Cond.initialized (xa_yn mX5_copySheet).cls ∈ xa_gw ∧ ((xa_yn mX5_copySheet).cls ≠ "java/lang/invoke/MethodHandle" ∧ (xa_yn mX5_copySheet).cls ≠ "java/lang/invoke/VarHandle" ∧ (parseMethodDescriptor (xa_yn mX5_copySheet).desc).map (fun d => d.parameters.length) = some (xa_yp mX5_copySheet)) := ⟨xa_gw_mem 874 (by decide +kernel) rfl, ziRX5, by decide +kernel, by decide +kernel, by decide +kernel⟩
theorem imX5_copySheet : Cond.instanceMethod (xa_yn mX5_copySheet) ∈ xa_gw := xa_gw_mem 872 (by decide +kernel) rfl
theorem seX5_copySheet : Cond.selects (xa_yn mX5_copySheet).cls (xa_yn mX5_copySheet) (xa_yn mX5_copySheet) ∈ xa_gw := xa_gw_mem 873 (by decide +kernel) rfl
theorem qX5_lengthOf : Cond.code (xa_yn mX5_lengthOf) (xa_yc mX5_lengthOf) (xa_yl mX5_lengthOf) (xa_yr mX5_lengthOf) ∈ xa_gw ∧ Cond.initialized (xa_yn mX5_lengthOf).cls ∈ xa_gw ∧ ((xa_yn mX5_lengthOf).cls ≠ "java/lang/invoke/MethodHandle" ∧ (xa_yn mX5_lengthOf).cls ≠ "java/lang/invoke/VarHandle" ∧ (parseMethodDescriptor (xa_yn mX5_lengthOf).desc).map (fun d => d.parameters.length) = some (xa_yp mX5_lengthOf)) := ⟨xa_gw_mem 519 (by decide +kernel) rfl, ziRX5, by decide +kernel, by decide +kernel, by decide +kernel⟩
theorem imX5_lengthOf : Cond.instanceMethod (xa_yn mX5_lengthOf) ∈ xa_gw := xa_gw_mem 517 (by decide +kernel) rfl
theorem seX5_lengthOf : Cond.selects (xa_yn mX5_lengthOf).cls (xa_yn mX5_lengthOf) (xa_yn mX5_lengthOf) ∈ xa_gw := xa_gw_mem 518 (by decide +kernel) rfl
theorem qX5_allMoves : Cond.code (xa_yn mX5_allMoves) (xa_yc mX5_allMoves) (xa_yl mX5_allMoves) (xa_yr mX5_allMoves) ∈ xa_gw ∧ Cond.initialized (xa_yn mX5_allMoves).cls ∈ xa_gw ∧ ((xa_yn mX5_allMoves).cls ≠ "java/lang/invoke/MethodHandle" ∧ (xa_yn mX5_allMoves).cls ≠ "java/lang/invoke/VarHandle" ∧ (parseMethodDescriptor (xa_yn mX5_allMoves).desc).map (fun d => d.parameters.length) = some (xa_yp mX5_allMoves)) := ⟨xa_gw_mem 886 (by decide +kernel) rfl, ziRX5, by decide +kernel, by decide +kernel, by decide +kernel⟩
theorem imX5_allMoves : Cond.instanceMethod (xa_yn mX5_allMoves) ∈ xa_gw := xa_gw_mem 884 (by decide +kernel) rfl
theorem seX5_allMoves : Cond.selects (xa_yn mX5_allMoves).cls (xa_yn mX5_allMoves) (xa_yn mX5_allMoves) ∈ xa_gw := xa_gw_mem 885 (by decide +kernel) rfl
theorem qX5_clearWay : Cond.code (xa_yn mX5_clearWay) (xa_yc mX5_clearWay) (xa_yl mX5_clearWay) (xa_yr mX5_clearWay) ∈ xa_gw ∧ Cond.initialized (xa_yn mX5_clearWay).cls ∈ xa_gw ∧ ((xa_yn mX5_clearWay).cls ≠ "java/lang/invoke/MethodHandle" ∧ (xa_yn mX5_clearWay).cls ≠ "java/lang/invoke/VarHandle" ∧ (parseMethodDescriptor (xa_yn mX5_clearWay).desc).map (fun d => d.parameters.length) = some (xa_yp mX5_clearWay)) := ⟨xa_gw_mem 527 (by decide +kernel) rfl, ziRX5, by decide +kernel, by decide +kernel, by decide +kernel⟩
theorem imX5_clearWay : Cond.instanceMethod (xa_yn mX5_clearWay) ∈ xa_gw := xa_gw_mem 525 (by decide +kernel) rfl
theorem seX5_clearWay : Cond.selects (xa_yn mX5_clearWay).cls (xa_yn mX5_clearWay) (xa_yn mX5_clearWay) ∈ xa_gw := xa_gw_mem 526 (by decide +kernel) rfl
theorem qX5_addMove : Cond.code (xa_yn mX5_addMove) (xa_yc mX5_addMove) (xa_yl mX5_addMove) (xa_yr mX5_addMove) ∈ xa_gw ∧ Cond.initialized (xa_yn mX5_addMove).cls ∈ xa_gw ∧ ((xa_yn mX5_addMove).cls ≠ "java/lang/invoke/MethodHandle" ∧ (xa_yn mX5_addMove).cls ≠ "java/lang/invoke/VarHandle" ∧ (parseMethodDescriptor (xa_yn mX5_addMove).desc).map (fun d => d.parameters.length) = some (xa_yp mX5_addMove)) := ⟨xa_gw_mem 515 (by decide +kernel) rfl, ziRX5, by decide +kernel, by decide +kernel, by decide +kernel⟩
theorem imX5_addMove : Cond.instanceMethod (xa_yn mX5_addMove) ∈ xa_gw := xa_gw_mem 513 (by decide +kernel) rfl
theorem seX5_addMove : Cond.selects (xa_yn mX5_addMove).cls (xa_yn mX5_addMove) (xa_yn mX5_addMove) ∈ xa_gw := xa_gw_mem 514 (by decide +kernel) rfl
theorem qX5_moveAt : Cond.code (xa_yn mX5_moveAt) (xa_yc mX5_moveAt) (xa_yl mX5_moveAt) (xa_yr mX5_moveAt) ∈ xa_gw ∧ Cond.initialized (xa_yn mX5_moveAt).cls ∈ xa_gw ∧ ((xa_yn mX5_moveAt).cls ≠ "java/lang/invoke/MethodHandle" ∧ (xa_yn mX5_moveAt).cls ≠ "java/lang/invoke/VarHandle" ∧ (parseMethodDescriptor (xa_yn mX5_moveAt).desc).map (fun d => d.parameters.length) = some (xa_yp mX5_moveAt)) := ⟨xa_gw_mem 569 (by decide +kernel) rfl, ziRX5, by decide +kernel, by decide +kernel, by decide +kernel⟩
theorem imX5_moveAt : Cond.instanceMethod (xa_yn mX5_moveAt) ∈ xa_gw := xa_gw_mem 567 (by decide +kernel) rfl
theorem seX5_moveAt : Cond.selects (xa_yn mX5_moveAt).cls (xa_yn mX5_moveAt) (xa_yn mX5_moveAt) ∈ xa_gw := xa_gw_mem 568 (by decide +kernel) rfl
theorem qX5_addPicture : Cond.code (xa_yn mX5_addPicture) (xa_yc mX5_addPicture) (xa_yl mX5_addPicture) (xa_yr mX5_addPicture) ∈ xa_gw ∧ Cond.initialized (xa_yn mX5_addPicture).cls ∈ xa_gw ∧ ((xa_yn mX5_addPicture).cls ≠ "java/lang/invoke/MethodHandle" ∧ (xa_yn mX5_addPicture).cls ≠ "java/lang/invoke/VarHandle" ∧ (parseMethodDescriptor (xa_yn mX5_addPicture).desc).map (fun d => d.parameters.length) = some (xa_yp mX5_addPicture)) := ⟨xa_gw_mem 814 (by decide +kernel) rfl, ziRX5, by decide +kernel, by decide +kernel, by decide +kernel⟩
theorem imX5_addPicture : Cond.instanceMethod (xa_yn mX5_addPicture) ∈ xa_gw := xa_gw_mem 812 (by decide +kernel) rfl
theorem seX5_addPicture : Cond.selects (xa_yn mX5_addPicture).cls (xa_yn mX5_addPicture) (xa_yn mX5_addPicture) ∈ xa_gw := xa_gw_mem 813 (by decide +kernel) rfl
theorem qX5_pictureOf : Cond.code (xa_yn mX5_pictureOf) (xa_yc mX5_pictureOf) (xa_yl mX5_pictureOf) (xa_yr mX5_pictureOf) ∈ xa_gw ∧ Cond.initialized (xa_yn mX5_pictureOf).cls ∈ xa_gw ∧ ((xa_yn mX5_pictureOf).cls ≠ "java/lang/invoke/MethodHandle" ∧ (xa_yn mX5_pictureOf).cls ≠ "java/lang/invoke/VarHandle" ∧ (parseMethodDescriptor (xa_yn mX5_pictureOf).desc).map (fun d => d.parameters.length) = some (xa_yp mX5_pictureOf)) := ⟨xa_gw_mem 830 (by decide +kernel) rfl, ziRX5, by decide +kernel, by decide +kernel, by decide +kernel⟩
theorem imX5_pictureOf : Cond.instanceMethod (xa_yn mX5_pictureOf) ∈ xa_gw := xa_gw_mem 828 (by decide +kernel) rfl
theorem seX5_pictureOf : Cond.selects (xa_yn mX5_pictureOf).cls (xa_yn mX5_pictureOf) (xa_yn mX5_pictureOf) ∈ xa_gw := xa_gw_mem 829 (by decide +kernel) rfl
theorem qX6_init : Cond.code (xa_yn mX6_init) (xa_yc mX6_init) (xa_yl mX6_init) (xa_yr mX6_init) ∈ xa_gw ∧ Cond.initialized (xa_yn mX6_init).cls ∈ xa_gw ∧ ((xa_yn mX6_init).cls ≠ "java/lang/invoke/MethodHandle" ∧ (xa_yn mX6_init).cls ≠ "java/lang/invoke/VarHandle" ∧ (parseMethodDescriptor (xa_yn mX6_init).desc).map (fun d => d.parameters.length) = some (xa_yp mX6_init)) := ⟨xa_gw_mem 256 (by decide +kernel) rfl, ziRX6, by decide +kernel, by decide +kernel, by decide +kernel⟩
theorem imX6_init : Cond.instanceMethod (xa_yn mX6_init) ∈ xa_gw := xa_gw_mem 255 (by decide +kernel) rfl
theorem qX6_numberShapes : Cond.code (xa_yn mX6_numberShapes) (xa_yc mX6_numberShapes) (xa_yl mX6_numberShapes) (xa_yr mX6_numberShapes) ∈ xa_gw ∧ Cond.initialized (xa_yn mX6_numberShapes).cls ∈ xa_gw ∧ ((xa_yn mX6_numberShapes).cls ≠ "java/lang/invoke/MethodHandle" ∧ (xa_yn mX6_numberShapes).cls ≠ "java/lang/invoke/VarHandle" ∧ (parseMethodDescriptor (xa_yn mX6_numberShapes).desc).map (fun d => d.parameters.length) = some (xa_yp mX6_numberShapes)) := ⟨xa_gw_mem 643 (by decide +kernel) rfl, ziRX6, by decide +kernel, by decide +kernel, by decide +kernel⟩
theorem imX6_numberShapes : Cond.instanceMethod (xa_yn mX6_numberShapes) ∈ xa_gw := xa_gw_mem 641 (by decide +kernel) rfl
theorem seX6_numberShapes : Cond.selects (xa_yn mX6_numberShapes).cls (xa_yn mX6_numberShapes) (xa_yn mX6_numberShapes) ∈ xa_gw := xa_gw_mem 642 (by decide +kernel) rfl
theorem qX6_numberAtRest : Cond.code (xa_yn mX6_numberAtRest) (xa_yc mX6_numberAtRest) (xa_yl mX6_numberAtRest) (xa_yr mX6_numberAtRest) ∈ xa_gw ∧ Cond.initialized (xa_yn mX6_numberAtRest).cls ∈ xa_gw ∧ ((xa_yn mX6_numberAtRest).cls ≠ "java/lang/invoke/MethodHandle" ∧ (xa_yn mX6_numberAtRest).cls ≠ "java/lang/invoke/VarHandle" ∧ (parseMethodDescriptor (xa_yn mX6_numberAtRest).desc).map (fun d => d.parameters.length) = some (xa_yp mX6_numberAtRest)) := ⟨xa_gw_mem 684 (by decide +kernel) rfl, ziRX6, by decide +kernel, by decide +kernel, by decide +kernel⟩
theorem imX6_numberAtRest : Cond.instanceMethod (xa_yn mX6_numberAtRest) ∈ xa_gw := xa_gw_mem 682 (by decide +kernel) rfl
theorem seX6_numberAtRest : Cond.selects (xa_yn mX6_numberAtRest).cls (xa_yn mX6_numberAtRest) (xa_yn mX6_numberAtRest) ∈ xa_gw := xa_gw_mem 683 (by decide +kernel) rfl
theorem qX6_isStraightAt : Cond.code (xa_yn mX6_isStraightAt) (xa_yc mX6_isStraightAt) (xa_yl mX6_isStraightAt) (xa_yr mX6_isStraightAt) ∈ xa_gw ∧ Cond.initialized (xa_yn mX6_isStraightAt).cls ∈ xa_gw ∧ ((xa_yn mX6_isStraightAt).cls ≠ "java/lang/invoke/MethodHandle" ∧ (xa_yn mX6_isStraightAt).cls ≠ "java/lang/invoke/VarHandle" ∧ (parseMethodDescriptor (xa_yn mX6_isStraightAt).desc).map (fun d => d.parameters.length) = some (xa_yp mX6_isStraightAt)) := ⟨xa_gw_mem 738 (by decide +kernel) rfl, ziRX6, by decide +kernel, by decide +kernel, by decide +kernel⟩
theorem imX6_isStraightAt : Cond.instanceMethod (xa_yn mX6_isStraightAt) ∈ xa_gw := xa_gw_mem 736 (by decide +kernel) rfl
theorem seX6_isStraightAt : Cond.selects (xa_yn mX6_isStraightAt).cls (xa_yn mX6_isStraightAt) (xa_yn mX6_isStraightAt) ∈ xa_gw := xa_gw_mem 737 (by decide +kernel) rfl
theorem qX6_numberNow : Cond.code (xa_yn mX6_numberNow) (xa_yc mX6_numberNow) (xa_yl mX6_numberNow) (xa_yr mX6_numberNow) ∈ xa_gw ∧ Cond.initialized (xa_yn mX6_numberNow).cls ∈ xa_gw ∧ ((xa_yn mX6_numberNow).cls ≠ "java/lang/invoke/MethodHandle" ∧ (xa_yn mX6_numberNow).cls ≠ "java/lang/invoke/VarHandle" ∧ (parseMethodDescriptor (xa_yn mX6_numberNow).desc).map (fun d => d.parameters.length) = some (xa_yp mX6_numberNow)) := ⟨xa_gw_mem 663 (by decide +kernel) rfl, ziRX6, by decide +kernel, by decide +kernel, by decide +kernel⟩
theorem imX6_numberNow : Cond.instanceMethod (xa_yn mX6_numberNow) ∈ xa_gw := xa_gw_mem 662 (by decide +kernel) rfl
theorem seX6_numberNow : Cond.selects (xa_yn mX6_numberNow).cls (xa_yn mX6_numberNow) (xa_yn mX6_numberNow) ∈ xa_gw := xa_gw_mem 10 (by decide +kernel) rfl
theorem qX6_become : Cond.code (xa_yn mX6_become) (xa_yc mX6_become) (xa_yl mX6_become) (xa_yr mX6_become) ∈ xa_gw ∧ Cond.initialized (xa_yn mX6_become).cls ∈ xa_gw ∧ ((xa_yn mX6_become).cls ≠ "java/lang/invoke/MethodHandle" ∧ (xa_yn mX6_become).cls ≠ "java/lang/invoke/VarHandle" ∧ (parseMethodDescriptor (xa_yn mX6_become).desc).map (fun d => d.parameters.length) = some (xa_yp mX6_become)) := ⟨xa_gw_mem 706 (by decide +kernel) rfl, ziRX6, by decide +kernel, by decide +kernel, by decide +kernel⟩
theorem imX6_become : Cond.instanceMethod (xa_yn mX6_become) ∈ xa_gw := xa_gw_mem 705 (by decide +kernel) rfl
theorem seX6_become : Cond.selects (xa_yn mX6_become).cls (xa_yn mX6_become) (xa_yn mX6_become) ∈ xa_gw := xa_gw_mem 15 (by decide +kernel) rfl
theorem qX6_branchesOf : Cond.code (xa_yn mX6_branchesOf) (xa_yc mX6_branchesOf) (xa_yl mX6_branchesOf) (xa_yr mX6_branchesOf) ∈ xa_gw ∧ Cond.initialized (xa_yn mX6_branchesOf).cls ∈ xa_gw ∧ ((xa_yn mX6_branchesOf).cls ≠ "java/lang/invoke/MethodHandle" ∧ (xa_yn mX6_branchesOf).cls ≠ "java/lang/invoke/VarHandle" ∧ (parseMethodDescriptor (xa_yn mX6_branchesOf).desc).map (fun d => d.parameters.length) = some (xa_yp mX6_branchesOf)) := ⟨xa_gw_mem 698 (by decide +kernel) rfl, ziRX6, by decide +kernel, by decide +kernel, by decide +kernel⟩
theorem imX6_branchesOf : Cond.instanceMethod (xa_yn mX6_branchesOf) ∈ xa_gw := xa_gw_mem 696 (by decide +kernel) rfl
theorem seX6_branchesOf : Cond.selects (xa_yn mX6_branchesOf).cls (xa_yn mX6_branchesOf) (xa_yn mX6_branchesOf) ∈ xa_gw := xa_gw_mem 697 (by decide +kernel) rfl
theorem qX6_findBranches : Cond.code (xa_yn mX6_findBranches) (xa_yc mX6_findBranches) (xa_yl mX6_findBranches) (xa_yr mX6_findBranches) ∈ xa_gw ∧ Cond.initialized (xa_yn mX6_findBranches).cls ∈ xa_gw ∧ ((xa_yn mX6_findBranches).cls ≠ "java/lang/invoke/MethodHandle" ∧ (xa_yn mX6_findBranches).cls ≠ "java/lang/invoke/VarHandle" ∧ (parseMethodDescriptor (xa_yn mX6_findBranches).desc).map (fun d => d.parameters.length) = some (xa_yp mX6_findBranches)) := ⟨xa_gw_mem 702 (by decide +kernel) rfl, ziRX6, by decide +kernel, by decide +kernel, by decide +kernel⟩
theorem imX6_findBranches : Cond.instanceMethod (xa_yn mX6_findBranches) ∈ xa_gw := xa_gw_mem 701 (by decide +kernel) rfl
theorem seX6_findBranches : Cond.selects (xa_yn mX6_findBranches).cls (xa_yn mX6_findBranches) (xa_yn mX6_findBranches) ∈ xa_gw := xa_gw_mem 14 (by decide +kernel) rfl
theorem qX6_isStiff : Cond.code (xa_yn mX6_isStiff) (xa_yc mX6_isStiff) (xa_yl mX6_isStiff) (xa_yr mX6_isStiff) ∈ xa_gw ∧ Cond.initialized (xa_yn mX6_isStiff).cls ∈ xa_gw ∧ ((xa_yn mX6_isStiff).cls ≠ "java/lang/invoke/MethodHandle" ∧ (xa_yn mX6_isStiff).cls ≠ "java/lang/invoke/VarHandle" ∧ (parseMethodDescriptor (xa_yn mX6_isStiff).desc).map (fun d => d.parameters.length) = some (xa_yp mX6_isStiff)) := ⟨xa_gw_mem 714 (by decide +kernel) rfl, ziRX6, by decide +kernel, by decide +kernel, by decide +kernel⟩
theorem imX6_isStiff : Cond.instanceMethod (xa_yn mX6_isStiff) ∈ xa_gw := xa_gw_mem 713 (by decide +kernel) rfl
theorem seX6_isStiff : Cond.selects (xa_yn mX6_isStiff).cls (xa_yn mX6_isStiff) (xa_yn mX6_isStiff) ∈ xa_gw := xa_gw_mem 16 (by decide +kernel) rfl
theorem qX6_branch : Cond.code (xa_yn mX6_branch) (xa_yc mX6_branch) (xa_yl mX6_branch) (xa_yr mX6_branch) ∈ xa_gw ∧ Cond.initialized (xa_yn mX6_branch).cls ∈ xa_gw ∧ ((xa_yn mX6_branch).cls ≠ "java/lang/invoke/MethodHandle" ∧ (xa_yn mX6_branch).cls ≠ "java/lang/invoke/VarHandle" ∧ (parseMethodDescriptor (xa_yn mX6_branch).desc).map (fun d => d.parameters.length) = some (xa_yp mX6_branch)) := ⟨xa_gw_mem 723 (by decide +kernel) rfl, ziRX6, by decide +kernel, by decide +kernel, by decide +kernel⟩
theorem imX6_branch : Cond.instanceMethod (xa_yn mX6_branch) ∈ xa_gw := xa_gw_mem 721 (by decide +kernel) rfl
theorem seX6_branch : Cond.selects (xa_yn mX6_branch).cls (xa_yn mX6_branch) (xa_yn mX6_branch) ∈ xa_gw := xa_gw_mem 722 (by decide +kernel) rfl
theorem qX6_branchBetween : Cond.code (xa_yn mX6_branchBetween) (xa_yc mX6_branchBetween) (xa_yl mX6_branchBetween) (xa_yr mX6_branchBetween) ∈ xa_gw ∧ Cond.initialized (xa_yn mX6_branchBetween).cls ∈ xa_gw ∧ ((xa_yn mX6_branchBetween).cls ≠ "java/lang/invoke/MethodHandle" ∧ (xa_yn mX6_branchBetween).cls ≠ "java/lang/invoke/VarHandle" ∧ (parseMethodDescriptor (xa_yn mX6_branchBetween).desc).map (fun d => d.parameters.length) = some (xa_yp mX6_branchBetween)) := ⟨xa_gw_mem 750 (by decide +kernel) rfl, ziRX6, by decide +kernel, by decide +kernel, by decide +kernel⟩
theorem imX6_branchBetween : Cond.instanceMethod (xa_yn mX6_branchBetween) ∈ xa_gw := xa_gw_mem 748 (by decide +kernel) rfl
theorem seX6_branchBetween : Cond.selects (xa_yn mX6_branchBetween).cls (xa_yn mX6_branchBetween) (xa_yn mX6_branchBetween) ∈ xa_gw := xa_gw_mem 749 (by decide +kernel) rfl
theorem qX6_moveOf : Cond.code (xa_yn mX6_moveOf) (xa_yc mX6_moveOf) (xa_yl mX6_moveOf) (xa_yr mX6_moveOf) ∈ xa_gw ∧ Cond.initialized (xa_yn mX6_moveOf).cls ∈ xa_gw ∧ ((xa_yn mX6_moveOf).cls ≠ "java/lang/invoke/MethodHandle" ∧ (xa_yn mX6_moveOf).cls ≠ "java/lang/invoke/VarHandle" ∧ (parseMethodDescriptor (xa_yn mX6_moveOf).desc).map (fun d => d.parameters.length) = some (xa_yp mX6_moveOf)) := ⟨xa_gw_mem 756 (by decide +kernel) rfl, ziRX6, by decide +kernel, by decide +kernel, by decide +kernel⟩
theorem smX6_moveOf : Cond.static (xa_yn mX6_moveOf) ∈ xa_gw := xa_gw_mem 755 (by decide +kernel) rfl
theorem qX6_shapeOf : Cond.code (xa_yn mX6_shapeOf) (xa_yc mX6_shapeOf) (xa_yl mX6_shapeOf) (xa_yr mX6_shapeOf) ∈ xa_gw ∧ Cond.initialized (xa_yn mX6_shapeOf).cls ∈ xa_gw ∧ ((xa_yn mX6_shapeOf).cls ≠ "java/lang/invoke/MethodHandle" ∧ (xa_yn mX6_shapeOf).cls ≠ "java/lang/invoke/VarHandle" ∧ (parseMethodDescriptor (xa_yn mX6_shapeOf).desc).map (fun d => d.parameters.length) = some (xa_yp mX6_shapeOf)) := ⟨xa_gw_mem 729 (by decide +kernel) rfl, ziRX6, by decide +kernel, by decide +kernel, by decide +kernel⟩
theorem smX6_shapeOf : Cond.static (xa_yn mX6_shapeOf) ∈ xa_gw := xa_gw_mem 728 (by decide +kernel) rfl
theorem qX6_angleOf : Cond.code (xa_yn mX6_angleOf) (xa_yc mX6_angleOf) (xa_yl mX6_angleOf) (xa_yr mX6_angleOf) ∈ xa_gw ∧ Cond.initialized (xa_yn mX6_angleOf).cls ∈ xa_gw ∧ ((xa_yn mX6_angleOf).cls ≠ "java/lang/invoke/MethodHandle" ∧ (xa_yn mX6_angleOf).cls ≠ "java/lang/invoke/VarHandle" ∧ (parseMethodDescriptor (xa_yn mX6_angleOf).desc).map (fun d => d.parameters.length) = some (xa_yp mX6_angleOf)) := ⟨xa_gw_mem 726 (by decide +kernel) rfl, ziRX6, by decide +kernel, by decide +kernel, by decide +kernel⟩
theorem smX6_angleOf : Cond.static (xa_yn mX6_angleOf) ∈ xa_gw := xa_gw_mem 725 (by decide +kernel) rfl
theorem qX7_init : Cond.code (xa_yn mX7_init) (xa_yc mX7_init) (xa_yl mX7_init) (xa_yr mX7_init) ∈ xa_gw ∧ Cond.initialized (xa_yn mX7_init).cls ∈ xa_gw ∧ ((xa_yn mX7_init).cls ≠ "java/lang/invoke/MethodHandle" ∧ (xa_yn mX7_init).cls ≠ "java/lang/invoke/VarHandle" ∧ (parseMethodDescriptor (xa_yn mX7_init).desc).map (fun d => d.parameters.length) = some (xa_yp mX7_init)) := ⟨xa_gw_mem 81 (by decide +kernel) rfl, ziRX7, by decide +kernel, by decide +kernel, by decide +kernel⟩
theorem imX7_init : Cond.instanceMethod (xa_yn mX7_init) ∈ xa_gw := xa_gw_mem 80 (by decide +kernel) rfl
theorem qX7_takesBytes : Cond.code (xa_yn mX7_takesBytes) (xa_yc mX7_takesBytes) (xa_yl mX7_takesBytes) (xa_yr mX7_takesBytes) ∈ xa_gw ∧ Cond.initialized (xa_yn mX7_takesBytes).cls ∈ xa_gw ∧ ((xa_yn mX7_takesBytes).cls ≠ "java/lang/invoke/MethodHandle" ∧ (xa_yn mX7_takesBytes).cls ≠ "java/lang/invoke/VarHandle" ∧ (parseMethodDescriptor (xa_yn mX7_takesBytes).desc).map (fun d => d.parameters.length) = some (xa_yp mX7_takesBytes)) := ⟨xa_gw_mem 392 (by decide +kernel) rfl, ziRX7, by decide +kernel, by decide +kernel, by decide +kernel⟩
theorem imX7_takesBytes : Cond.instanceMethod (xa_yn mX7_takesBytes) ∈ xa_gw := xa_gw_mem 390 (by decide +kernel) rfl
theorem seX7_takesBytes : Cond.selects (xa_yn mX7_takesBytes).cls (xa_yn mX7_takesBytes) (xa_yn mX7_takesBytes) ∈ xa_gw := xa_gw_mem 391 (by decide +kernel) rfl
theorem qX7_byteAt : Cond.code (xa_yn mX7_byteAt) (xa_yc mX7_byteAt) (xa_yl mX7_byteAt) (xa_yr mX7_byteAt) ∈ xa_gw ∧ Cond.initialized (xa_yn mX7_byteAt).cls ∈ xa_gw ∧ ((xa_yn mX7_byteAt).cls ≠ "java/lang/invoke/MethodHandle" ∧ (xa_yn mX7_byteAt).cls ≠ "java/lang/invoke/VarHandle" ∧ (parseMethodDescriptor (xa_yn mX7_byteAt).desc).map (fun d => d.parameters.length) = some (xa_yp mX7_byteAt)) := ⟨xa_gw_mem 416 (by decide +kernel) rfl, ziRX7, by decide +kernel, by decide +kernel, by decide +kernel⟩
theorem imX7_byteAt : Cond.instanceMethod (xa_yn mX7_byteAt) ∈ xa_gw := xa_gw_mem 414 (by decide +kernel) rfl
theorem seX7_byteAt : Cond.selects (xa_yn mX7_byteAt).cls (xa_yn mX7_byteAt) (xa_yn mX7_byteAt) ∈ xa_gw := xa_gw_mem 415 (by decide +kernel) rfl
theorem qX8_init : Cond.code (xa_yn mX8_init) (xa_yc mX8_init) (xa_yl mX8_init) (xa_yr mX8_init) ∈ xa_gw ∧ Cond.initialized (xa_yn mX8_init).cls ∈ xa_gw ∧ ((xa_yn mX8_init).cls ≠ "java/lang/invoke/MethodHandle" ∧ (xa_yn mX8_init).cls ≠ "java/lang/invoke/VarHandle" ∧ (parseMethodDescriptor (xa_yn mX8_init).desc).map (fun d => d.parameters.length) = some (xa_yp mX8_init)) := ⟨xa_gw_mem 182 (by decide +kernel) rfl, ziRX8, by decide +kernel, by decide +kernel, by decide +kernel⟩
theorem imX8_init : Cond.instanceMethod (xa_yn mX8_init) ∈ xa_gw := xa_gw_mem 181 (by decide +kernel) rfl
theorem qX8_follow : Cond.code (xa_yn mX8_follow) (xa_yc mX8_follow) (xa_yl mX8_follow) (xa_yr mX8_follow) ∈ xa_gw ∧ Cond.initialized (xa_yn mX8_follow).cls ∈ xa_gw ∧ ((xa_yn mX8_follow).cls ≠ "java/lang/invoke/MethodHandle" ∧ (xa_yn mX8_follow).cls ≠ "java/lang/invoke/VarHandle" ∧ (parseMethodDescriptor (xa_yn mX8_follow).desc).map (fun d => d.parameters.length) = some (xa_yp mX8_follow)) := ⟨xa_gw_mem 539 (by decide +kernel) rfl, ziRX8, by decide +kernel, by decide +kernel, by decide +kernel⟩
theorem imX8_follow : Cond.instanceMethod (xa_yn mX8_follow) ∈ xa_gw := xa_gw_mem 537 (by decide +kernel) rfl
theorem seX8_follow : Cond.selects (xa_yn mX8_follow).cls (xa_yn mX8_follow) (xa_yn mX8_follow) ∈ xa_gw := xa_gw_mem 538 (by decide +kernel) rfl
theorem qX8_note : Cond.code (xa_yn mX8_note) (xa_yc mX8_note) (xa_yl mX8_note) (xa_yr mX8_note) ∈ xa_gw ∧ Cond.initialized (xa_yn mX8_note).cls ∈ xa_gw ∧ ((xa_yn mX8_note).cls ≠ "java/lang/invoke/MethodHandle" ∧ (xa_yn mX8_note).cls ≠ "java/lang/invoke/VarHandle" ∧ (parseMethodDescriptor (xa_yn mX8_note).desc).map (fun d => d.parameters.length) = some (xa_yp mX8_note)) := ⟨xa_gw_mem 548 (by decide +kernel) rfl, ziRX8, by decide +kernel, by decide +kernel, by decide +kernel⟩
theorem imX8_note : Cond.instanceMethod (xa_yn mX8_note) ∈ xa_gw := xa_gw_mem 547 (by decide +kernel) rfl
theorem seX8_note : Cond.selects (xa_yn mX8_note).cls (xa_yn mX8_note) (xa_yn mX8_note) ∈ xa_gw := xa_gw_mem 6 (by decide +kernel) rfl
theorem qX8_drift : Cond.code (xa_yn mX8_drift) (xa_yc mX8_drift) (xa_yl mX8_drift) (xa_yr mX8_drift) ∈ xa_gw ∧ Cond.initialized (xa_yn mX8_drift).cls ∈ xa_gw ∧ ((xa_yn mX8_drift).cls ≠ "java/lang/invoke/MethodHandle" ∧ (xa_yn mX8_drift).cls ≠ "java/lang/invoke/VarHandle" ∧ (parseMethodDescriptor (xa_yn mX8_drift).desc).map (fun d => d.parameters.length) = some (xa_yp mX8_drift)) := ⟨xa_gw_mem 596 (by decide +kernel) rfl, ziRX8, by decide +kernel, by decide +kernel, by decide +kernel⟩
theorem imX8_drift : Cond.instanceMethod (xa_yn mX8_drift) ∈ xa_gw := xa_gw_mem 594 (by decide +kernel) rfl
theorem seX8_drift : Cond.selects (xa_yn mX8_drift).cls (xa_yn mX8_drift) (xa_yn mX8_drift) ∈ xa_gw := xa_gw_mem 595 (by decide +kernel) rfl
theorem qX8_closes : Cond.code (xa_yn mX8_closes) (xa_yc mX8_closes) (xa_yl mX8_closes) (xa_yr mX8_closes) ∈ xa_gw ∧ Cond.initialized (xa_yn mX8_closes).cls ∈ xa_gw ∧ ((xa_yn mX8_closes).cls ≠ "java/lang/invoke/MethodHandle" ∧ (xa_yn mX8_closes).cls ≠ "java/lang/invoke/VarHandle" ∧ (parseMethodDescriptor (xa_yn mX8_closes).desc).map (fun d => d.parameters.length) = some (xa_yp mX8_closes)) := ⟨xa_gw_mem 610 (by decide +kernel) rfl, ziRX8, by decide +kernel, by decide +kernel, by decide +kernel⟩
theorem imX8_closes : Cond.instanceMethod (xa_yn mX8_closes) ∈ xa_gw := xa_gw_mem 608 (by decide +kernel) rfl
theorem seX8_closes : Cond.selects (xa_yn mX8_closes).cls (xa_yn mX8_closes) (xa_yn mX8_closes) ∈ xa_gw := xa_gw_mem 609 (by decide +kernel) rfl
theorem qX8_turnOf : Cond.code (xa_yn mX8_turnOf) (xa_yc mX8_turnOf) (xa_yl mX8_turnOf) (xa_yr mX8_turnOf) ∈ xa_gw ∧ Cond.initialized (xa_yn mX8_turnOf).cls ∈ xa_gw ∧ ((xa_yn mX8_turnOf).cls ≠ "java/lang/invoke/MethodHandle" ∧ (xa_yn mX8_turnOf).cls ≠ "java/lang/invoke/VarHandle" ∧ (parseMethodDescriptor (xa_yn mX8_turnOf).desc).map (fun d => d.parameters.length) = some (xa_yp mX8_turnOf)) := ⟨xa_gw_mem 601 (by decide +kernel) rfl, ziRX8, by decide +kernel, by decide +kernel, by decide +kernel⟩
theorem imX8_turnOf : Cond.instanceMethod (xa_yn mX8_turnOf) ∈ xa_gw := xa_gw_mem 599 (by decide +kernel) rfl
theorem seX8_turnOf : Cond.selects (xa_yn mX8_turnOf).cls (xa_yn mX8_turnOf) (xa_yn mX8_turnOf) ∈ xa_gw := xa_gw_mem 600 (by decide +kernel) rfl
theorem qX8_isFilmed : Cond.code (xa_yn mX8_isFilmed) (xa_yc mX8_isFilmed) (xa_yl mX8_isFilmed) (xa_yr mX8_isFilmed) ∈ xa_gw ∧ Cond.initialized (xa_yn mX8_isFilmed).cls ∈ xa_gw ∧ ((xa_yn mX8_isFilmed).cls ≠ "java/lang/invoke/MethodHandle" ∧ (xa_yn mX8_isFilmed).cls ≠ "java/lang/invoke/VarHandle" ∧ (parseMethodDescriptor (xa_yn mX8_isFilmed).desc).map (fun d => d.parameters.length) = some (xa_yp mX8_isFilmed)) := ⟨xa_gw_mem 826 (by decide +kernel) rfl, ziRX8, by decide +kernel, by decide +kernel, by decide +kernel⟩
theorem imX8_isFilmed : Cond.instanceMethod (xa_yn mX8_isFilmed) ∈ xa_gw := xa_gw_mem 824 (by decide +kernel) rfl
theorem seX8_isFilmed : Cond.selects (xa_yn mX8_isFilmed).cls (xa_yn mX8_isFilmed) (xa_yn mX8_isFilmed) ∈ xa_gw := xa_gw_mem 825 (by decide +kernel) rfl
theorem qX9_init : Cond.code (xa_yn mX9_init) (xa_yc mX9_init) (xa_yl mX9_init) (xa_yr mX9_init) ∈ xa_gw ∧ Cond.initialized (xa_yn mX9_init).cls ∈ xa_gw ∧ ((xa_yn mX9_init).cls ≠ "java/lang/invoke/MethodHandle" ∧ (xa_yn mX9_init).cls ≠ "java/lang/invoke/VarHandle" ∧ (parseMethodDescriptor (xa_yn mX9_init).desc).map (fun d => d.parameters.length) = some (xa_yp mX9_init)) := ⟨xa_gw_mem 73 (by decide +kernel) rfl, ziRX9, by decide +kernel, by decide +kernel, by decide +kernel⟩
theorem imX9_init : Cond.instanceMethod (xa_yn mX9_init) ∈ xa_gw := xa_gw_mem 72 (by decide +kernel) rfl
theorem qX9_write : Cond.code (xa_yn mX9_write) (xa_yc mX9_write) (xa_yl mX9_write) (xa_yr mX9_write) ∈ xa_gw ∧ Cond.initialized (xa_yn mX9_write).cls ∈ xa_gw ∧ ((xa_yn mX9_write).cls ≠ "java/lang/invoke/MethodHandle" ∧ (xa_yn mX9_write).cls ≠ "java/lang/invoke/VarHandle" ∧ (parseMethodDescriptor (xa_yn mX9_write).desc).map (fun d => d.parameters.length) = some (xa_yp mX9_write)) := ⟨xa_gw_mem 387 (by decide +kernel) rfl, ziRX9, by decide +kernel, by decide +kernel, by decide +kernel⟩
theorem imX9_write : Cond.instanceMethod (xa_yn mX9_write) ∈ xa_gw := xa_gw_mem 385 (by decide +kernel) rfl
theorem seX9_write : Cond.selects (xa_yn mX9_write).cls (xa_yn mX9_write) (xa_yn mX9_write) ∈ xa_gw := xa_gw_mem 386 (by decide +kernel) rfl
theorem qX9_wipe : Cond.code (xa_yn mX9_wipe) (xa_yc mX9_wipe) (xa_yl mX9_wipe) (xa_yr mX9_wipe) ∈ xa_gw ∧ Cond.initialized (xa_yn mX9_wipe).cls ∈ xa_gw ∧ ((xa_yn mX9_wipe).cls ≠ "java/lang/invoke/MethodHandle" ∧ (xa_yn mX9_wipe).cls ≠ "java/lang/invoke/VarHandle" ∧ (parseMethodDescriptor (xa_yn mX9_wipe).desc).map (fun d => d.parameters.length) = some (xa_yp mX9_wipe)) := ⟨xa_gw_mem 396 (by decide +kernel) rfl, ziRX9, by decide +kernel, by decide +kernel, by decide +kernel⟩
theorem imX9_wipe : Cond.instanceMethod (xa_yn mX9_wipe) ∈ xa_gw := xa_gw_mem 394 (by decide +kernel) rfl
theorem seX9_wipe : Cond.selects (xa_yn mX9_wipe).cls (xa_yn mX9_wipe) (xa_yn mX9_wipe) ∈ xa_gw := xa_gw_mem 395 (by decide +kernel) rfl
theorem qX9_fault : Cond.code (xa_yn mX9_fault) (xa_yc mX9_fault) (xa_yl mX9_fault) (xa_yr mX9_fault) ∈ xa_gw ∧ Cond.initialized (xa_yn mX9_fault).cls ∈ xa_gw ∧ ((xa_yn mX9_fault).cls ≠ "java/lang/invoke/MethodHandle" ∧ (xa_yn mX9_fault).cls ≠ "java/lang/invoke/VarHandle" ∧ (parseMethodDescriptor (xa_yn mX9_fault).desc).map (fun d => d.parameters.length) = some (xa_yp mX9_fault)) := ⟨xa_gw_mem 400 (by decide +kernel) rfl, ziRX9, by decide +kernel, by decide +kernel, by decide +kernel⟩
theorem imX9_fault : Cond.instanceMethod (xa_yn mX9_fault) ∈ xa_gw := xa_gw_mem 398 (by decide +kernel) rfl
theorem seX9_fault : Cond.selects (xa_yn mX9_fault).cls (xa_yn mX9_fault) (xa_yn mX9_fault) ∈ xa_gw := xa_gw_mem 399 (by decide +kernel) rfl
theorem qX9_lay : Cond.code (xa_yn mX9_lay) (xa_yc mX9_lay) (xa_yl mX9_lay) (xa_yr mX9_lay) ∈ xa_gw ∧ Cond.initialized (xa_yn mX9_lay).cls ∈ xa_gw ∧ ((xa_yn mX9_lay).cls ≠ "java/lang/invoke/MethodHandle" ∧ (xa_yn mX9_lay).cls ≠ "java/lang/invoke/VarHandle" ∧ (parseMethodDescriptor (xa_yn mX9_lay).desc).map (fun d => d.parameters.length) = some (xa_yp mX9_lay)) := ⟨xa_gw_mem 448 (by decide +kernel) rfl, ziRX9, by decide +kernel, by decide +kernel, by decide +kernel⟩
theorem imX9_lay : Cond.instanceMethod (xa_yn mX9_lay) ∈ xa_gw := xa_gw_mem 446 (by decide +kernel) rfl
theorem seX9_lay : Cond.selects (xa_yn mX9_lay).cls (xa_yn mX9_lay) (xa_yn mX9_lay) ∈ xa_gw := xa_gw_mem 447 (by decide +kernel) rfl
theorem qX9_load : Cond.code (xa_yn mX9_load) (xa_yc mX9_load) (xa_yl mX9_load) (xa_yr mX9_load) ∈ xa_gw ∧ Cond.initialized (xa_yn mX9_load).cls ∈ xa_gw ∧ ((xa_yn mX9_load).cls ≠ "java/lang/invoke/MethodHandle" ∧ (xa_yn mX9_load).cls ≠ "java/lang/invoke/VarHandle" ∧ (parseMethodDescriptor (xa_yn mX9_load).desc).map (fun d => d.parameters.length) = some (xa_yp mX9_load)) := ⟨xa_gw_mem 479 (by decide +kernel) rfl, ziRX9, by decide +kernel, by decide +kernel, by decide +kernel⟩
theorem imX9_load : Cond.instanceMethod (xa_yn mX9_load) ∈ xa_gw := xa_gw_mem 477 (by decide +kernel) rfl
theorem seX9_load : Cond.selects (xa_yn mX9_load).cls (xa_yn mX9_load) (xa_yn mX9_load) ∈ xa_gw := xa_gw_mem 478 (by decide +kernel) rfl
theorem qX9_joint : Cond.code (xa_yn mX9_joint) (xa_yc mX9_joint) (xa_yl mX9_joint) (xa_yr mX9_joint) ∈ xa_gw ∧ Cond.initialized (xa_yn mX9_joint).cls ∈ xa_gw ∧ ((xa_yn mX9_joint).cls ≠ "java/lang/invoke/MethodHandle" ∧ (xa_yn mX9_joint).cls ≠ "java/lang/invoke/VarHandle" ∧ (parseMethodDescriptor (xa_yn mX9_joint).desc).map (fun d => d.parameters.length) = some (xa_yp mX9_joint)) := ⟨xa_gw_mem 491 (by decide +kernel) rfl, ziRX9, by decide +kernel, by decide +kernel, by decide +kernel⟩
theorem imX9_joint : Cond.instanceMethod (xa_yn mX9_joint) ∈ xa_gw := xa_gw_mem 489 (by decide +kernel) rfl
theorem seX9_joint : Cond.selects (xa_yn mX9_joint).cls (xa_yn mX9_joint) (xa_yn mX9_joint) ∈ xa_gw := xa_gw_mem 490 (by decide +kernel) rfl
theorem qX9_begun : Cond.code (xa_yn mX9_begun) (xa_yc mX9_begun) (xa_yl mX9_begun) (xa_yr mX9_begun) ∈ xa_gw ∧ Cond.initialized (xa_yn mX9_begun).cls ∈ xa_gw ∧ ((xa_yn mX9_begun).cls ≠ "java/lang/invoke/MethodHandle" ∧ (xa_yn mX9_begun).cls ≠ "java/lang/invoke/VarHandle" ∧ (parseMethodDescriptor (xa_yn mX9_begun).desc).map (fun d => d.parameters.length) = some (xa_yp mX9_begun)) := ⟨xa_gw_mem 504 (by decide +kernel) rfl, ziRX9, by decide +kernel, by decide +kernel, by decide +kernel⟩
theorem imX9_begun : Cond.instanceMethod (xa_yn mX9_begun) ∈ xa_gw := xa_gw_mem 502 (by decide +kernel) rfl
theorem seX9_begun : Cond.selects (xa_yn mX9_begun).cls (xa_yn mX9_begun) (xa_yn mX9_begun) ∈ xa_gw := xa_gw_mem 503 (by decide +kernel) rfl
theorem qX9_move : Cond.code (xa_yn mX9_move) (xa_yc mX9_move) (xa_yl mX9_move) (xa_yr mX9_move) ∈ xa_gw ∧ Cond.initialized (xa_yn mX9_move).cls ∈ xa_gw ∧ ((xa_yn mX9_move).cls ≠ "java/lang/invoke/MethodHandle" ∧ (xa_yn mX9_move).cls ≠ "java/lang/invoke/VarHandle" ∧ (parseMethodDescriptor (xa_yn mX9_move).desc).map (fun d => d.parameters.length) = some (xa_yp mX9_move)) := ⟨xa_gw_mem 508 (by decide +kernel) rfl, ziRX9, by decide +kernel, by decide +kernel, by decide +kernel⟩
theorem imX9_move : Cond.instanceMethod (xa_yn mX9_move) ∈ xa_gw := xa_gw_mem 506 (by decide +kernel) rfl
theorem seX9_move : Cond.selects (xa_yn mX9_move).cls (xa_yn mX9_move) (xa_yn mX9_move) ∈ xa_gw := xa_gw_mem 507 (by decide +kernel) rfl
theorem qX9_noWay : Cond.code (xa_yn mX9_noWay) (xa_yc mX9_noWay) (xa_yl mX9_noWay) (xa_yr mX9_noWay) ∈ xa_gw ∧ Cond.initialized (xa_yn mX9_noWay).cls ∈ xa_gw ∧ ((xa_yn mX9_noWay).cls ≠ "java/lang/invoke/MethodHandle" ∧ (xa_yn mX9_noWay).cls ≠ "java/lang/invoke/VarHandle" ∧ (parseMethodDescriptor (xa_yn mX9_noWay).desc).map (fun d => d.parameters.length) = some (xa_yp mX9_noWay)) := ⟨xa_gw_mem 523 (by decide +kernel) rfl, ziRX9, by decide +kernel, by decide +kernel, by decide +kernel⟩
theorem imX9_noWay : Cond.instanceMethod (xa_yn mX9_noWay) ∈ xa_gw := xa_gw_mem 521 (by decide +kernel) rfl
theorem seX9_noWay : Cond.selects (xa_yn mX9_noWay).cls (xa_yn mX9_noWay) (xa_yn mX9_noWay) ∈ xa_gw := xa_gw_mem 522 (by decide +kernel) rfl
theorem qX9_turn : Cond.code (xa_yn mX9_turn) (xa_yc mX9_turn) (xa_yl mX9_turn) (xa_yr mX9_turn) ∈ xa_gw ∧ Cond.initialized (xa_yn mX9_turn).cls ∈ xa_gw ∧ ((xa_yn mX9_turn).cls ≠ "java/lang/invoke/MethodHandle" ∧ (xa_yn mX9_turn).cls ≠ "java/lang/invoke/VarHandle" ∧ (parseMethodDescriptor (xa_yn mX9_turn).desc).map (fun d => d.parameters.length) = some (xa_yp mX9_turn)) := ⟨xa_gw_mem 532 (by decide +kernel) rfl, ziRX9, by decide +kernel, by decide +kernel, by decide +kernel⟩
theorem imX9_turn : Cond.instanceMethod (xa_yn mX9_turn) ∈ xa_gw := xa_gw_mem 530 (by decide +kernel) rfl
theorem seX9_turn : Cond.selects (xa_yn mX9_turn).cls (xa_yn mX9_turn) (xa_yn mX9_turn) ∈ xa_gw := xa_gw_mem 531 (by decide +kernel) rfl
theorem qX9_run : Cond.code (xa_yn mX9_run) (xa_yc mX9_run) (xa_yl mX9_run) (xa_yr mX9_run) ∈ xa_gw ∧ Cond.initialized (xa_yn mX9_run).cls ∈ xa_gw ∧ ((xa_yn mX9_run).cls ≠ "java/lang/invoke/MethodHandle" ∧ (xa_yn mX9_run).cls ≠ "java/lang/invoke/VarHandle" ∧ (parseMethodDescriptor (xa_yn mX9_run).desc).map (fun d => d.parameters.length) = some (xa_yp mX9_run)) := ⟨xa_gw_mem 606 (by decide +kernel) rfl, ziRX9, by decide +kernel, by decide +kernel, by decide +kernel⟩
theorem imX9_run : Cond.instanceMethod (xa_yn mX9_run) ∈ xa_gw := xa_gw_mem 604 (by decide +kernel) rfl
theorem seX9_run : Cond.selects (xa_yn mX9_run).cls (xa_yn mX9_run) (xa_yn mX9_run) ∈ xa_gw := xa_gw_mem 605 (by decide +kernel) rfl
theorem qX9_spun : Cond.code (xa_yn mX9_spun) (xa_yc mX9_spun) (xa_yl mX9_spun) (xa_yr mX9_spun) ∈ xa_gw ∧ Cond.initialized (xa_yn mX9_spun).cls ∈ xa_gw ∧ ((xa_yn mX9_spun).cls ≠ "java/lang/invoke/MethodHandle" ∧ (xa_yn mX9_spun).cls ≠ "java/lang/invoke/VarHandle" ∧ (parseMethodDescriptor (xa_yn mX9_spun).desc).map (fun d => d.parameters.length) = some (xa_yp mX9_spun)) := ⟨xa_gw_mem 623 (by decide +kernel) rfl, ziRX9, by decide +kernel, by decide +kernel, by decide +kernel⟩
theorem imX9_spun : Cond.instanceMethod (xa_yn mX9_spun) ∈ xa_gw := xa_gw_mem 621 (by decide +kernel) rfl
theorem seX9_spun : Cond.selects (xa_yn mX9_spun).cls (xa_yn mX9_spun) (xa_yn mX9_spun) ∈ xa_gw := xa_gw_mem 622 (by decide +kernel) rfl
theorem qX9_times : Cond.code (xa_yn mX9_times) (xa_yc mX9_times) (xa_yl mX9_times) (xa_yr mX9_times) ∈ xa_gw ∧ Cond.initialized (xa_yn mX9_times).cls ∈ xa_gw ∧ ((xa_yn mX9_times).cls ≠ "java/lang/invoke/MethodHandle" ∧ (xa_yn mX9_times).cls ≠ "java/lang/invoke/VarHandle" ∧ (parseMethodDescriptor (xa_yn mX9_times).desc).map (fun d => d.parameters.length) = some (xa_yp mX9_times)) := ⟨xa_gw_mem 627 (by decide +kernel) rfl, ziRX9, by decide +kernel, by decide +kernel, by decide +kernel⟩
theorem imX9_times : Cond.instanceMethod (xa_yn mX9_times) ∈ xa_gw := xa_gw_mem 625 (by decide +kernel) rfl
theorem seX9_times : Cond.selects (xa_yn mX9_times).cls (xa_yn mX9_times) (xa_yn mX9_times) ∈ xa_gw := xa_gw_mem 626 (by decide +kernel) rfl
theorem qX9_soon : Cond.code (xa_yn mX9_soon) (xa_yc mX9_soon) (xa_yl mX9_soon) (xa_yr mX9_soon) ∈ xa_gw ∧ Cond.initialized (xa_yn mX9_soon).cls ∈ xa_gw ∧ ((xa_yn mX9_soon).cls ≠ "java/lang/invoke/MethodHandle" ∧ (xa_yn mX9_soon).cls ≠ "java/lang/invoke/VarHandle" ∧ (parseMethodDescriptor (xa_yn mX9_soon).desc).map (fun d => d.parameters.length) = some (xa_yp mX9_soon)) := ⟨xa_gw_mem 631 (by decide +kernel) rfl, ziRX9, by decide +kernel, by decide +kernel, by decide +kernel⟩
theorem imX9_soon : Cond.instanceMethod (xa_yn mX9_soon) ∈ xa_gw := xa_gw_mem 629 (by decide +kernel) rfl
theorem seX9_soon : Cond.selects (xa_yn mX9_soon).cls (xa_yn mX9_soon) (xa_yn mX9_soon) ∈ xa_gw := xa_gw_mem 630 (by decide +kernel) rfl
theorem qX9_fall : Cond.code (xa_yn mX9_fall) (xa_yc mX9_fall) (xa_yl mX9_fall) (xa_yr mX9_fall) ∈ xa_gw ∧ Cond.initialized (xa_yn mX9_fall).cls ∈ xa_gw ∧ ((xa_yn mX9_fall).cls ≠ "java/lang/invoke/MethodHandle" ∧ (xa_yn mX9_fall).cls ≠ "java/lang/invoke/VarHandle" ∧ (parseMethodDescriptor (xa_yn mX9_fall).desc).map (fun d => d.parameters.length) = some (xa_yp mX9_fall)) := ⟨xa_gw_mem 760 (by decide +kernel) rfl, ziRX9, by decide +kernel, by decide +kernel, by decide +kernel⟩
theorem imX9_fall : Cond.instanceMethod (xa_yn mX9_fall) ∈ xa_gw := xa_gw_mem 758 (by decide +kernel) rfl
theorem seX9_fall : Cond.selects (xa_yn mX9_fall).cls (xa_yn mX9_fall) (xa_yn mX9_fall) ∈ xa_gw := xa_gw_mem 759 (by decide +kernel) rfl
theorem qX9_saved : Cond.code (xa_yn mX9_saved) (xa_yc mX9_saved) (xa_yl mX9_saved) (xa_yr mX9_saved) ∈ xa_gw ∧ Cond.initialized (xa_yn mX9_saved).cls ∈ xa_gw ∧ ((xa_yn mX9_saved).cls ≠ "java/lang/invoke/MethodHandle" ∧ (xa_yn mX9_saved).cls ≠ "java/lang/invoke/VarHandle" ∧ (parseMethodDescriptor (xa_yn mX9_saved).desc).map (fun d => d.parameters.length) = some (xa_yp mX9_saved)) := ⟨xa_gw_mem 768 (by decide +kernel) rfl, ziRX9, by decide +kernel, by decide +kernel, by decide +kernel⟩
theorem imX9_saved : Cond.instanceMethod (xa_yn mX9_saved) ∈ xa_gw := xa_gw_mem 766 (by decide +kernel) rfl
theorem seX9_saved : Cond.selects (xa_yn mX9_saved).cls (xa_yn mX9_saved) (xa_yn mX9_saved) ∈ xa_gw := xa_gw_mem 767 (by decide +kernel) rfl
theorem qX9_free : Cond.code (xa_yn mX9_free) (xa_yc mX9_free) (xa_yl mX9_free) (xa_yr mX9_free) ∈ xa_gw ∧ Cond.initialized (xa_yn mX9_free).cls ∈ xa_gw ∧ ((xa_yn mX9_free).cls ≠ "java/lang/invoke/MethodHandle" ∧ (xa_yn mX9_free).cls ≠ "java/lang/invoke/VarHandle" ∧ (parseMethodDescriptor (xa_yn mX9_free).desc).map (fun d => d.parameters.length) = some (xa_yp mX9_free)) := ⟨xa_gw_mem 777 (by decide +kernel) rfl, ziRX9, by decide +kernel, by decide +kernel, by decide +kernel⟩
theorem imX9_free : Cond.instanceMethod (xa_yn mX9_free) ∈ xa_gw := xa_gw_mem 775 (by decide +kernel) rfl
theorem seX9_free : Cond.selects (xa_yn mX9_free).cls (xa_yn mX9_free) (xa_yn mX9_free) ∈ xa_gw := xa_gw_mem 776 (by decide +kernel) rfl
theorem qX9_fewest : Cond.code (xa_yn mX9_fewest) (xa_yc mX9_fewest) (xa_yl mX9_fewest) (xa_yr mX9_fewest) ∈ xa_gw ∧ Cond.initialized (xa_yn mX9_fewest).cls ∈ xa_gw ∧ ((xa_yn mX9_fewest).cls ≠ "java/lang/invoke/MethodHandle" ∧ (xa_yn mX9_fewest).cls ≠ "java/lang/invoke/VarHandle" ∧ (parseMethodDescriptor (xa_yn mX9_fewest).desc).map (fun d => d.parameters.length) = some (xa_yp mX9_fewest)) := ⟨xa_gw_mem 802 (by decide +kernel) rfl, ziRX9, by decide +kernel, by decide +kernel, by decide +kernel⟩
theorem imX9_fewest : Cond.instanceMethod (xa_yn mX9_fewest) ∈ xa_gw := xa_gw_mem 800 (by decide +kernel) rfl
theorem seX9_fewest : Cond.selects (xa_yn mX9_fewest).cls (xa_yn mX9_fewest) (xa_yn mX9_fewest) ∈ xa_gw := xa_gw_mem 801 (by decide +kernel) rfl
theorem qX9_worth : Cond.code (xa_yn mX9_worth) (xa_yc mX9_worth) (xa_yl mX9_worth) (xa_yr mX9_worth) ∈ xa_gw ∧ Cond.initialized (xa_yn mX9_worth).cls ∈ xa_gw ∧ ((xa_yn mX9_worth).cls ≠ "java/lang/invoke/MethodHandle" ∧ (xa_yn mX9_worth).cls ≠ "java/lang/invoke/VarHandle" ∧ (parseMethodDescriptor (xa_yn mX9_worth).desc).map (fun d => d.parameters.length) = some (xa_yp mX9_worth)) := ⟨xa_gw_mem 806 (by decide +kernel) rfl, ziRX9, by decide +kernel, by decide +kernel, by decide +kernel⟩
theorem imX9_worth : Cond.instanceMethod (xa_yn mX9_worth) ∈ xa_gw := xa_gw_mem 804 (by decide +kernel) rfl
theorem seX9_worth : Cond.selects (xa_yn mX9_worth).cls (xa_yn mX9_worth) (xa_yn mX9_worth) ∈ xa_gw := xa_gw_mem 805 (by decide +kernel) rfl
theorem qX9_picture : Cond.code (xa_yn mX9_picture) (xa_yc mX9_picture) (xa_yl mX9_picture) (xa_yr mX9_picture) ∈ xa_gw ∧ Cond.initialized (xa_yn mX9_picture).cls ∈ xa_gw ∧ ((xa_yn mX9_picture).cls ≠ "java/lang/invoke/MethodHandle" ∧ (xa_yn mX9_picture).cls ≠ "java/lang/invoke/VarHandle" ∧ (parseMethodDescriptor (xa_yn mX9_picture).desc).map (fun d => d.parameters.length) = some (xa_yp mX9_picture)) := ⟨xa_gw_mem 810 (by decide +kernel) rfl, ziRX9, by decide +kernel, by decide +kernel, by decide +kernel⟩
theorem imX9_picture : Cond.instanceMethod (xa_yn mX9_picture) ∈ xa_gw := xa_gw_mem 808 (by decide +kernel) rfl
theorem seX9_picture : Cond.selects (xa_yn mX9_picture).cls (xa_yn mX9_picture) (xa_yn mX9_picture) ∈ xa_gw := xa_gw_mem 809 (by decide +kernel) rfl
theorem qX9_noFilm : Cond.code (xa_yn mX9_noFilm) (xa_yc mX9_noFilm) (xa_yl mX9_noFilm) (xa_yr mX9_noFilm) ∈ xa_gw ∧ Cond.initialized (xa_yn mX9_noFilm).cls ∈ xa_gw ∧ ((xa_yn mX9_noFilm).cls ≠ "java/lang/invoke/MethodHandle" ∧ (xa_yn mX9_noFilm).cls ≠ "java/lang/invoke/VarHandle" ∧ (parseMethodDescriptor (xa_yn mX9_noFilm).desc).map (fun d => d.parameters.length) = some (xa_yp mX9_noFilm)) := ⟨xa_gw_mem 818 (by decide +kernel) rfl, ziRX9, by decide +kernel, by decide +kernel, by decide +kernel⟩
theorem imX9_noFilm : Cond.instanceMethod (xa_yn mX9_noFilm) ∈ xa_gw := xa_gw_mem 816 (by decide +kernel) rfl
theorem seX9_noFilm : Cond.selects (xa_yn mX9_noFilm).cls (xa_yn mX9_noFilm) (xa_yn mX9_noFilm) ∈ xa_gw := xa_gw_mem 817 (by decide +kernel) rfl
theorem qX9_may : Cond.code (xa_yn mX9_may) (xa_yc mX9_may) (xa_yl mX9_may) (xa_yr mX9_may) ∈ xa_gw ∧ Cond.initialized (xa_yn mX9_may).cls ∈ xa_gw ∧ ((xa_yn mX9_may).cls ≠ "java/lang/invoke/MethodHandle" ∧ (xa_yn mX9_may).cls ≠ "java/lang/invoke/VarHandle" ∧ (parseMethodDescriptor (xa_yn mX9_may).desc).map (fun d => d.parameters.length) = some (xa_yp mX9_may)) := ⟨xa_gw_mem 822 (by decide +kernel) rfl, ziRX9, by decide +kernel, by decide +kernel, by decide +kernel⟩
theorem imX9_may : Cond.instanceMethod (xa_yn mX9_may) ∈ xa_gw := xa_gw_mem 820 (by decide +kernel) rfl
theorem seX9_may : Cond.selects (xa_yn mX9_may).cls (xa_yn mX9_may) (xa_yn mX9_may) ∈ xa_gw := xa_gw_mem 821 (by decide +kernel) rfl
theorem qX9_looked : Cond.code (xa_yn mX9_looked) (xa_yc mX9_looked) (xa_yl mX9_looked) (xa_yr mX9_looked) ∈ xa_gw ∧ Cond.initialized (xa_yn mX9_looked).cls ∈ xa_gw ∧ ((xa_yn mX9_looked).cls ≠ "java/lang/invoke/MethodHandle" ∧ (xa_yn mX9_looked).cls ≠ "java/lang/invoke/VarHandle" ∧ (parseMethodDescriptor (xa_yn mX9_looked).desc).map (fun d => d.parameters.length) = some (xa_yp mX9_looked)) := ⟨xa_gw_mem 839 (by decide +kernel) rfl, ziRX9, by decide +kernel, by decide +kernel, by decide +kernel⟩
theorem imX9_looked : Cond.instanceMethod (xa_yn mX9_looked) ∈ xa_gw := xa_gw_mem 837 (by decide +kernel) rfl
theorem seX9_looked : Cond.selects (xa_yn mX9_looked).cls (xa_yn mX9_looked) (xa_yn mX9_looked) ∈ xa_gw := xa_gw_mem 838 (by decide +kernel) rfl
theorem qX9_pushed : Cond.code (xa_yn mX9_pushed) (xa_yc mX9_pushed) (xa_yl mX9_pushed) (xa_yr mX9_pushed) ∈ xa_gw ∧ Cond.initialized (xa_yn mX9_pushed).cls ∈ xa_gw ∧ ((xa_yn mX9_pushed).cls ≠ "java/lang/invoke/MethodHandle" ∧ (xa_yn mX9_pushed).cls ≠ "java/lang/invoke/VarHandle" ∧ (parseMethodDescriptor (xa_yn mX9_pushed).desc).map (fun d => d.parameters.length) = some (xa_yp mX9_pushed)) := ⟨xa_gw_mem 843 (by decide +kernel) rfl, ziRX9, by decide +kernel, by decide +kernel, by decide +kernel⟩
theorem imX9_pushed : Cond.instanceMethod (xa_yn mX9_pushed) ∈ xa_gw := xa_gw_mem 841 (by decide +kernel) rfl
theorem seX9_pushed : Cond.selects (xa_yn mX9_pushed).cls (xa_yn mX9_pushed) (xa_yn mX9_pushed) ∈ xa_gw := xa_gw_mem 842 (by decide +kernel) rfl
theorem qX9_head : Cond.code (xa_yn mX9_head) (xa_yc mX9_head) (xa_yl mX9_head) (xa_yr mX9_head) ∈ xa_gw ∧ Cond.initialized (xa_yn mX9_head).cls ∈ xa_gw ∧ ((xa_yn mX9_head).cls ≠ "java/lang/invoke/MethodHandle" ∧ (xa_yn mX9_head).cls ≠ "java/lang/invoke/VarHandle" ∧ (parseMethodDescriptor (xa_yn mX9_head).desc).map (fun d => d.parameters.length) = some (xa_yp mX9_head)) := ⟨xa_gw_mem 847 (by decide +kernel) rfl, ziRX9, by decide +kernel, by decide +kernel, by decide +kernel⟩
theorem imX9_head : Cond.instanceMethod (xa_yn mX9_head) ∈ xa_gw := xa_gw_mem 845 (by decide +kernel) rfl
theorem seX9_head : Cond.selects (xa_yn mX9_head).cls (xa_yn mX9_head) (xa_yn mX9_head) ∈ xa_gw := xa_gw_mem 846 (by decide +kernel) rfl
theorem qX9_down : Cond.code (xa_yn mX9_down) (xa_yc mX9_down) (xa_yl mX9_down) (xa_yr mX9_down) ∈ xa_gw ∧ Cond.initialized (xa_yn mX9_down).cls ∈ xa_gw ∧ ((xa_yn mX9_down).cls ≠ "java/lang/invoke/MethodHandle" ∧ (xa_yn mX9_down).cls ≠ "java/lang/invoke/VarHandle" ∧ (parseMethodDescriptor (xa_yn mX9_down).desc).map (fun d => d.parameters.length) = some (xa_yp mX9_down)) := ⟨xa_gw_mem 866 (by decide +kernel) rfl, ziRX9, by decide +kernel, by decide +kernel, by decide +kernel⟩
theorem imX9_down : Cond.instanceMethod (xa_yn mX9_down) ∈ xa_gw := xa_gw_mem 864 (by decide +kernel) rfl
theorem seX9_down : Cond.selects (xa_yn mX9_down).cls (xa_yn mX9_down) (xa_yn mX9_down) ∈ xa_gw := xa_gw_mem 865 (by decide +kernel) rfl
theorem qX9_keep : Cond.code (xa_yn mX9_keep) (xa_yc mX9_keep) (xa_yl mX9_keep) (xa_yr mX9_keep) ∈ xa_gw ∧ Cond.initialized (xa_yn mX9_keep).cls ∈ xa_gw ∧ ((xa_yn mX9_keep).cls ≠ "java/lang/invoke/MethodHandle" ∧ (xa_yn mX9_keep).cls ≠ "java/lang/invoke/VarHandle" ∧ (parseMethodDescriptor (xa_yn mX9_keep).desc).map (fun d => d.parameters.length) = some (xa_yp mX9_keep)) := ⟨xa_gw_mem 870 (by decide +kernel) rfl, ziRX9, by decide +kernel, by decide +kernel, by decide +kernel⟩
theorem imX9_keep : Cond.instanceMethod (xa_yn mX9_keep) ∈ xa_gw := xa_gw_mem 868 (by decide +kernel) rfl
theorem seX9_keep : Cond.selects (xa_yn mX9_keep).cls (xa_yn mX9_keep) (xa_yn mX9_keep) ∈ xa_gw := xa_gw_mem 869 (by decide +kernel) rfl
theorem qX9_back : Cond.code (xa_yn mX9_back) (xa_yc mX9_back) (xa_yl mX9_back) (xa_yr mX9_back) ∈ xa_gw ∧ Cond.initialized (xa_yn mX9_back).cls ∈ xa_gw ∧ ((xa_yn mX9_back).cls ≠ "java/lang/invoke/MethodHandle" ∧ (xa_yn mX9_back).cls ≠ "java/lang/invoke/VarHandle" ∧ (parseMethodDescriptor (xa_yn mX9_back).desc).map (fun d => d.parameters.length) = some (xa_yp mX9_back)) := ⟨xa_gw_mem 878 (by decide +kernel) rfl, ziRX9, by decide +kernel, by decide +kernel, by decide +kernel⟩
theorem imX9_back : Cond.instanceMethod (xa_yn mX9_back) ∈ xa_gw := xa_gw_mem 876 (by decide +kernel) rfl
theorem seX9_back : Cond.selects (xa_yn mX9_back).cls (xa_yn mX9_back) (xa_yn mX9_back) ∈ xa_gw := xa_gw_mem 877 (by decide +kernel) rfl
theorem qX9_count : Cond.code (xa_yn mX9_count) (xa_yc mX9_count) (xa_yl mX9_count) (xa_yr mX9_count) ∈ xa_gw ∧ Cond.initialized (xa_yn mX9_count).cls ∈ xa_gw ∧ ((xa_yn mX9_count).cls ≠ "java/lang/invoke/MethodHandle" ∧ (xa_yn mX9_count).cls ≠ "java/lang/invoke/VarHandle" ∧ (parseMethodDescriptor (xa_yn mX9_count).desc).map (fun d => d.parameters.length) = some (xa_yp mX9_count)) := ⟨xa_gw_mem 882 (by decide +kernel) rfl, ziRX9, by decide +kernel, by decide +kernel, by decide +kernel⟩
theorem imX9_count : Cond.instanceMethod (xa_yn mX9_count) ∈ xa_gw := xa_gw_mem 880 (by decide +kernel) rfl
theorem seX9_count : Cond.selects (xa_yn mX9_count).cls (xa_yn mX9_count) (xa_yn mX9_count) ∈ xa_gw := xa_gw_mem 881 (by decide +kernel) rfl
theorem qX9_isPart : Cond.code (xa_yn mX9_isPart) (xa_yc mX9_isPart) (xa_yl mX9_isPart) (xa_yr mX9_isPart) ∈ xa_gw ∧ Cond.initialized (xa_yn mX9_isPart).cls ∈ xa_gw ∧ ((xa_yn mX9_isPart).cls ≠ "java/lang/invoke/MethodHandle" ∧ (xa_yn mX9_isPart).cls ≠ "java/lang/invoke/VarHandle" ∧ (parseMethodDescriptor (xa_yn mX9_isPart).desc).map (fun d => d.parameters.length) = some (xa_yp mX9_isPart)) := ⟨xa_gw_mem 483 (by decide +kernel) rfl, ziRX9, by decide +kernel, by decide +kernel, by decide +kernel⟩
theorem imX9_isPart : Cond.instanceMethod (xa_yn mX9_isPart) ∈ xa_gw := xa_gw_mem 482 (by decide +kernel) rfl
theorem seX9_isPart : Cond.selects (xa_yn mX9_isPart).cls (xa_yn mX9_isPart) (xa_yn mX9_isPart) ∈ xa_gw := xa_gw_mem 4 (by decide +kernel) rfl
theorem qX9_isJoint : Cond.code (xa_yn mX9_isJoint) (xa_yc mX9_isJoint) (xa_yl mX9_isJoint) (xa_yr mX9_isJoint) ∈ xa_gw ∧ Cond.initialized (xa_yn mX9_isJoint).cls ∈ xa_gw ∧ ((xa_yn mX9_isJoint).cls ≠ "java/lang/invoke/MethodHandle" ∧ (xa_yn mX9_isJoint).cls ≠ "java/lang/invoke/VarHandle" ∧ (parseMethodDescriptor (xa_yn mX9_isJoint).desc).map (fun d => d.parameters.length) = some (xa_yp mX9_isJoint)) := ⟨xa_gw_mem 495 (by decide +kernel) rfl, ziRX9, by decide +kernel, by decide +kernel, by decide +kernel⟩
theorem imX9_isJoint : Cond.instanceMethod (xa_yn mX9_isJoint) ∈ xa_gw := xa_gw_mem 494 (by decide +kernel) rfl
theorem seX9_isJoint : Cond.selects (xa_yn mX9_isJoint).cls (xa_yn mX9_isJoint) (xa_yn mX9_isJoint) ∈ xa_gw := xa_gw_mem 5 (by decide +kernel) rfl
theorem qX9_isWay : Cond.code (xa_yn mX9_isWay) (xa_yc mX9_isWay) (xa_yl mX9_isWay) (xa_yr mX9_isWay) ∈ xa_gw ∧ Cond.initialized (xa_yn mX9_isWay).cls ∈ xa_gw ∧ ((xa_yn mX9_isWay).cls ≠ "java/lang/invoke/MethodHandle" ∧ (xa_yn mX9_isWay).cls ≠ "java/lang/invoke/VarHandle" ∧ (parseMethodDescriptor (xa_yn mX9_isWay).desc).map (fun d => d.parameters.length) = some (xa_yp mX9_isWay)) := ⟨xa_gw_mem 511 (by decide +kernel) rfl, ziRX9, by decide +kernel, by decide +kernel, by decide +kernel⟩
theorem smX9_isWay : Cond.static (xa_yn mX9_isWay) ∈ xa_gw := xa_gw_mem 510 (by decide +kernel) rfl
theorem qX9_isTurn : Cond.code (xa_yn mX9_isTurn) (xa_yc mX9_isTurn) (xa_yl mX9_isTurn) (xa_yr mX9_isTurn) ∈ xa_gw ∧ Cond.initialized (xa_yn mX9_isTurn).cls ∈ xa_gw ∧ ((xa_yn mX9_isTurn).cls ≠ "java/lang/invoke/MethodHandle" ∧ (xa_yn mX9_isTurn).cls ≠ "java/lang/invoke/VarHandle" ∧ (parseMethodDescriptor (xa_yn mX9_isTurn).desc).map (fun d => d.parameters.length) = some (xa_yp mX9_isTurn)) := ⟨xa_gw_mem 535 (by decide +kernel) rfl, ziRX9, by decide +kernel, by decide +kernel, by decide +kernel⟩
theorem smX9_isTurn : Cond.static (xa_yn mX9_isTurn) ∈ xa_gw := xa_gw_mem 534 (by decide +kernel) rfl
theorem qX9_isWithin : Cond.code (xa_yn mX9_isWithin) (xa_yc mX9_isWithin) (xa_yl mX9_isWithin) (xa_yr mX9_isWithin) ∈ xa_gw ∧ Cond.initialized (xa_yn mX9_isWithin).cls ∈ xa_gw ∧ ((xa_yn mX9_isWithin).cls ≠ "java/lang/invoke/MethodHandle" ∧ (xa_yn mX9_isWithin).cls ≠ "java/lang/invoke/VarHandle" ∧ (parseMethodDescriptor (xa_yn mX9_isWithin).desc).map (fun d => d.parameters.length) = some (xa_yp mX9_isWithin)) := ⟨xa_gw_mem 335 (by decide +kernel) rfl, ziRX9, by decide +kernel, by decide +kernel, by decide +kernel⟩
theorem smX9_isWithin : Cond.static (xa_yn mX9_isWithin) ∈ xa_gw := xa_gw_mem 334 (by decide +kernel) rfl
theorem qX9_cut : Cond.code (xa_yn mX9_cut) (xa_yc mX9_cut) (xa_yl mX9_cut) (xa_yr mX9_cut) ∈ xa_gw ∧ Cond.initialized (xa_yn mX9_cut).cls ∈ xa_gw ∧ ((xa_yn mX9_cut).cls ≠ "java/lang/invoke/MethodHandle" ∧ (xa_yn mX9_cut).cls ≠ "java/lang/invoke/VarHandle" ∧ (parseMethodDescriptor (xa_yn mX9_cut).desc).map (fun d => d.parameters.length) = some (xa_yp mX9_cut)) := ⟨xa_gw_mem 436 (by decide +kernel) rfl, ziRX9, by decide +kernel, by decide +kernel, by decide +kernel⟩
theorem smX9_cut : Cond.static (xa_yn mX9_cut) ∈ xa_gw := xa_gw_mem 435 (by decide +kernel) rfl
theorem qX9_off : Cond.code (xa_yn mX9_off) (xa_yc mX9_off) (xa_yl mX9_off) (xa_yr mX9_off) ∈ xa_gw ∧ Cond.initialized (xa_yn mX9_off).cls ∈ xa_gw ∧ ((xa_yn mX9_off).cls ≠ "java/lang/invoke/MethodHandle" ∧ (xa_yn mX9_off).cls ≠ "java/lang/invoke/VarHandle" ∧ (parseMethodDescriptor (xa_yn mX9_off).desc).map (fun d => d.parameters.length) = some (xa_yp mX9_off)) := ⟨xa_gw_mem 834 (by decide +kernel) rfl, ziRX9, by decide +kernel, by decide +kernel, by decide +kernel⟩
theorem smX9_off : Cond.static (xa_yn mX9_off) ∈ xa_gw := xa_gw_mem 833 (by decide +kernel) rfl
theorem qX9_ticksOfFall : Cond.code (xa_yn mX9_ticksOfFall) (xa_yc mX9_ticksOfFall) (xa_yl mX9_ticksOfFall) (xa_yr mX9_ticksOfFall) ∈ xa_gw ∧ Cond.initialized (xa_yn mX9_ticksOfFall).cls ∈ xa_gw ∧ ((xa_yn mX9_ticksOfFall).cls ≠ "java/lang/invoke/MethodHandle" ∧ (xa_yn mX9_ticksOfFall).cls ≠ "java/lang/invoke/VarHandle" ∧ (parseMethodDescriptor (xa_yn mX9_ticksOfFall).desc).map (fun d => d.parameters.length) = some (xa_yp mX9_ticksOfFall)) := ⟨xa_gw_mem 764 (by decide +kernel) rfl, ziRX9, by decide +kernel, by decide +kernel, by decide +kernel⟩
theorem smX9_ticksOfFall : Cond.static (xa_yn mX9_ticksOfFall) ∈ xa_gw := xa_gw_mem 763 (by decide +kernel) rfl
theorem qX9_findLandings : Cond.code (xa_yn mX9_findLandings) (xa_yc mX9_findLandings) (xa_yl mX9_findLandings) (xa_yr mX9_findLandings) ∈ xa_gw ∧ Cond.initialized (xa_yn mX9_findLandings).cls ∈ xa_gw ∧ ((xa_yn mX9_findLandings).cls ≠ "java/lang/invoke/MethodHandle" ∧ (xa_yn mX9_findLandings).cls ≠ "java/lang/invoke/VarHandle" ∧ (parseMethodDescriptor (xa_yn mX9_findLandings).desc).map (fun d => d.parameters.length) = some (xa_yp mX9_findLandings)) := ⟨xa_gw_mem 851 (by decide +kernel) rfl, ziRX9, by decide +kernel, by decide +kernel, by decide +kernel⟩
theorem imX9_findLandings : Cond.instanceMethod (xa_yn mX9_findLandings) ∈ xa_gw := xa_gw_mem 850 (by decide +kernel) rfl
theorem seX9_findLandings : Cond.selects (xa_yn mX9_findLandings).cls (xa_yn mX9_findLandings) (xa_yn mX9_findLandings) ∈ xa_gw := xa_gw_mem 20 (by decide +kernel) rfl
theorem qX9_firstHead : Cond.code (xa_yn mX9_firstHead) (xa_yc mX9_firstHead) (xa_yl mX9_firstHead) (xa_yr mX9_firstHead) ∈ xa_gw ∧ Cond.initialized (xa_yn mX9_firstHead).cls ∈ xa_gw ∧ ((xa_yn mX9_firstHead).cls ≠ "java/lang/invoke/MethodHandle" ∧ (xa_yn mX9_firstHead).cls ≠ "java/lang/invoke/VarHandle" ∧ (parseMethodDescriptor (xa_yn mX9_firstHead).desc).map (fun d => d.parameters.length) = some (xa_yp mX9_firstHead)) := ⟨xa_gw_mem 861 (by decide +kernel) rfl, ziRX9, by decide +kernel, by decide +kernel, by decide +kernel⟩
theorem imX9_firstHead : Cond.instanceMethod (xa_yn mX9_firstHead) ∈ xa_gw := xa_gw_mem 860 (by decide +kernel) rfl
theorem seX9_firstHead : Cond.selects (xa_yn mX9_firstHead).cls (xa_yn mX9_firstHead) (xa_yn mX9_firstHead) ∈ xa_gw := xa_gw_mem 21 (by decide +kernel) rfl
theorem qX10_init : Cond.code (xa_yn mX10_init) (xa_yc mX10_init) (xa_yl mX10_init) (xa_yr mX10_init) ∈ xa_gw ∧ Cond.initialized (xa_yn mX10_init).cls ∈ xa_gw ∧ ((xa_yn mX10_init).cls ≠ "java/lang/invoke/MethodHandle" ∧ (xa_yn mX10_init).cls ≠ "java/lang/invoke/VarHandle" ∧ (parseMethodDescriptor (xa_yn mX10_init).desc).map (fun d => d.parameters.length) = some (xa_yp mX10_init)) := ⟨xa_gw_mem 891 (by decide +kernel) rfl, ziRX10, by decide +kernel, by decide +kernel, by decide +kernel⟩
theorem imX10_init : Cond.instanceMethod (xa_yn mX10_init) ∈ xa_gw := xa_gw_mem 890 (by decide +kernel) rfl
theorem qX10_in : Cond.code (xa_yn mX10_in) (xa_yc mX10_in) (xa_yl mX10_in) (xa_yr mX10_in) ∈ xa_gw ∧ Cond.initialized (xa_yn mX10_in).cls ∈ xa_gw ∧ ((xa_yn mX10_in).cls ≠ "java/lang/invoke/MethodHandle" ∧ (xa_yn mX10_in).cls ≠ "java/lang/invoke/VarHandle" ∧ (parseMethodDescriptor (xa_yn mX10_in).desc).map (fun d => d.parameters.length) = some (xa_yp mX10_in)) := ⟨xa_gw_mem 977 (by decide +kernel) rfl, ziRX10, by decide +kernel, by decide +kernel, by decide +kernel⟩
theorem smX10_in : Cond.static (xa_yn mX10_in) ∈ xa_gw := xa_gw_mem 976 (by decide +kernel) rfl
theorem qX10_write : Cond.code (xa_yn mX10_write) (xa_yc mX10_write) (xa_yl mX10_write) (xa_yr mX10_write) ∈ xa_gw ∧ Cond.initialized (xa_yn mX10_write).cls ∈ xa_gw ∧ ((xa_yn mX10_write).cls ≠ "java/lang/invoke/MethodHandle" ∧ (xa_yn mX10_write).cls ≠ "java/lang/invoke/VarHandle" ∧ (parseMethodDescriptor (xa_yn mX10_write).desc).map (fun d => d.parameters.length) = some (xa_yp mX10_write)) := ⟨xa_gw_mem 973 (by decide +kernel) rfl, ziRX10, by decide +kernel, by decide +kernel, by decide +kernel⟩
theorem imX10_write : Cond.instanceMethod (xa_yn mX10_write) ∈ xa_gw := xa_gw_mem 971 (by decide +kernel) rfl
theorem seX10_write : Cond.selects (xa_yn mX10_write).cls (xa_yn mX10_write) (xa_yn mX10_write) ∈ xa_gw := xa_gw_mem 972 (by decide +kernel) rfl
theorem qX10_wipe : Cond.code (xa_yn mX10_wipe) (xa_yc mX10_wipe) (xa_yl mX10_wipe) (xa_yr mX10_wipe) ∈ xa_gw ∧ Cond.initialized (xa_yn mX10_wipe).cls ∈ xa_gw ∧ ((xa_yn mX10_wipe).cls ≠ "java/lang/invoke/MethodHandle" ∧ (xa_yn mX10_wipe).cls ≠ "java/lang/invoke/VarHandle" ∧ (parseMethodDescriptor (xa_yn mX10_wipe).desc).map (fun d => d.parameters.length) = some (xa_yp mX10_wipe)) := ⟨xa_gw_mem 982 (by decide +kernel) rfl, ziRX10, by decide +kernel, by decide +kernel, by decide +kernel⟩
theorem imX10_wipe : Cond.instanceMethod (xa_yn mX10_wipe) ∈ xa_gw := xa_gw_mem 980 (by decide +kernel) rfl
theorem seX10_wipe : Cond.selects (xa_yn mX10_wipe).cls (xa_yn mX10_wipe) (xa_yn mX10_wipe) ∈ xa_gw := xa_gw_mem 981 (by decide +kernel) rfl
theorem qX10_byteAt : Cond.code (xa_yn mX10_byteAt) (xa_yc mX10_byteAt) (xa_yl mX10_byteAt) (xa_yr mX10_byteAt) ∈ xa_gw ∧ Cond.initialized (xa_yn mX10_byteAt).cls ∈ xa_gw ∧ ((xa_yn mX10_byteAt).cls ≠ "java/lang/invoke/MethodHandle" ∧ (xa_yn mX10_byteAt).cls ≠ "java/lang/invoke/VarHandle" ∧ (parseMethodDescriptor (xa_yn mX10_byteAt).desc).map (fun d => d.parameters.length) = some (xa_yp mX10_byteAt)) := ⟨xa_gw_mem 998 (by decide +kernel) rfl, ziRX10, by decide +kernel, by decide +kernel, by decide +kernel⟩
theorem imX10_byteAt : Cond.instanceMethod (xa_yn mX10_byteAt) ∈ xa_gw := xa_gw_mem 997 (by decide +kernel) rfl
theorem seX10_byteAt : Cond.selects (xa_yn mX10_byteAt).cls (xa_yn mX10_byteAt) (xa_yn mX10_byteAt) ∈ xa_gw := xa_gw_mem 24 (by decide +kernel) rfl
theorem qX10_figures : Cond.code (xa_yn mX10_figures) (xa_yc mX10_figures) (xa_yl mX10_figures) (xa_yr mX10_figures) ∈ xa_gw ∧ Cond.initialized (xa_yn mX10_figures).cls ∈ xa_gw ∧ ((xa_yn mX10_figures).cls ≠ "java/lang/invoke/MethodHandle" ∧ (xa_yn mX10_figures).cls ≠ "java/lang/invoke/VarHandle" ∧ (parseMethodDescriptor (xa_yn mX10_figures).desc).map (fun d => d.parameters.length) = some (xa_yp mX10_figures)) := ⟨xa_gw_mem 1006 (by decide +kernel) rfl, ziRX10, by decide +kernel, by decide +kernel, by decide +kernel⟩
theorem imX10_figures : Cond.instanceMethod (xa_yn mX10_figures) ∈ xa_gw := xa_gw_mem 1005 (by decide +kernel) rfl
theorem seX10_figures : Cond.selects (xa_yn mX10_figures).cls (xa_yn mX10_figures) (xa_yn mX10_figures) ∈ xa_gw := xa_gw_mem 26 (by decide +kernel) rfl
theorem qX10_partItem : Cond.code (xa_yn mX10_partItem) (xa_yc mX10_partItem) (xa_yl mX10_partItem) (xa_yr mX10_partItem) ∈ xa_gw ∧ Cond.initialized (xa_yn mX10_partItem).cls ∈ xa_gw ∧ ((xa_yn mX10_partItem).cls ≠ "java/lang/invoke/MethodHandle" ∧ (xa_yn mX10_partItem).cls ≠ "java/lang/invoke/VarHandle" ∧ (parseMethodDescriptor (xa_yn mX10_partItem).desc).map (fun d => d.parameters.length) = some (xa_yp mX10_partItem)) := ⟨xa_gw_mem 1002 (by decide +kernel) rfl, ziRX10, by decide +kernel, by decide +kernel, by decide +kernel⟩
theorem imX10_partItem : Cond.instanceMethod (xa_yn mX10_partItem) ∈ xa_gw := xa_gw_mem 1001 (by decide +kernel) rfl
theorem seX10_partItem : Cond.selects (xa_yn mX10_partItem).cls (xa_yn mX10_partItem) (xa_yn mX10_partItem) ∈ xa_gw := xa_gw_mem 25 (by decide +kernel) rfl
theorem qX10_jointItem : Cond.code (xa_yn mX10_jointItem) (xa_yc mX10_jointItem) (xa_yl mX10_jointItem) (xa_yr mX10_jointItem) ∈ xa_gw ∧ Cond.initialized (xa_yn mX10_jointItem).cls ∈ xa_gw ∧ ((xa_yn mX10_jointItem).cls ≠ "java/lang/invoke/MethodHandle" ∧ (xa_yn mX10_jointItem).cls ≠ "java/lang/invoke/VarHandle" ∧ (parseMethodDescriptor (xa_yn mX10_jointItem).desc).map (fun d => d.parameters.length) = some (xa_yp mX10_jointItem)) := ⟨xa_gw_mem 1014 (by decide +kernel) rfl, ziRX10, by decide +kernel, by decide +kernel, by decide +kernel⟩
theorem imX10_jointItem : Cond.instanceMethod (xa_yn mX10_jointItem) ∈ xa_gw := xa_gw_mem 1013 (by decide +kernel) rfl
theorem seX10_jointItem : Cond.selects (xa_yn mX10_jointItem).cls (xa_yn mX10_jointItem) (xa_yn mX10_jointItem) ∈ xa_gw := xa_gw_mem 27 (by decide +kernel) rfl
theorem qX10_item : Cond.code (xa_yn mX10_item) (xa_yc mX10_item) (xa_yl mX10_item) (xa_yr mX10_item) ∈ xa_gw ∧ Cond.initialized (xa_yn mX10_item).cls ∈ xa_gw ∧ ((xa_yn mX10_item).cls ≠ "java/lang/invoke/MethodHandle" ∧ (xa_yn mX10_item).cls ≠ "java/lang/invoke/VarHandle" ∧ (parseMethodDescriptor (xa_yn mX10_item).desc).map (fun d => d.parameters.length) = some (xa_yp mX10_item)) := ⟨xa_gw_mem 994 (by decide +kernel) rfl, ziRX10, by decide +kernel, by decide +kernel, by decide +kernel⟩
theorem imX10_item : Cond.instanceMethod (xa_yn mX10_item) ∈ xa_gw := xa_gw_mem 993 (by decide +kernel) rfl
theorem seX10_item : Cond.selects (xa_yn mX10_item).cls (xa_yn mX10_item) (xa_yn mX10_item) ∈ xa_gw := xa_gw_mem 23 (by decide +kernel) rfl
theorem qX10_readAll : Cond.code (xa_yn mX10_readAll) (xa_yc mX10_readAll) (xa_yl mX10_readAll) (xa_yr mX10_readAll) ∈ xa_gw ∧ Cond.initialized (xa_yn mX10_readAll).cls ∈ xa_gw ∧ ((xa_yn mX10_readAll).cls ≠ "java/lang/invoke/MethodHandle" ∧ (xa_yn mX10_readAll).cls ≠ "java/lang/invoke/VarHandle" ∧ (parseMethodDescriptor (xa_yn mX10_readAll).desc).map (fun d => d.parameters.length) = some (xa_yp mX10_readAll)) := ⟨xa_gw_mem 990 (by decide +kernel) rfl, ziRX10, by decide +kernel, by decide +kernel, by decide +kernel⟩
theorem imX10_readAll : Cond.instanceMethod (xa_yn mX10_readAll) ∈ xa_gw := xa_gw_mem 989 (by decide +kernel) rfl
theorem seX10_readAll : Cond.selects (xa_yn mX10_readAll).cls (xa_yn mX10_readAll) (xa_yn mX10_readAll) ∈ xa_gw := xa_gw_mem 22 (by decide +kernel) rfl
theorem qX10_fault : Cond.code (xa_yn mX10_fault) (xa_yc mX10_fault) (xa_yl mX10_fault) (xa_yr mX10_fault) ∈ xa_gw ∧ Cond.initialized (xa_yn mX10_fault).cls ∈ xa_gw ∧ ((xa_yn mX10_fault).cls ≠ "java/lang/invoke/MethodHandle" ∧ (xa_yn mX10_fault).cls ≠ "java/lang/invoke/VarHandle" ∧ (parseMethodDescriptor (xa_yn mX10_fault).desc).map (fun d => d.parameters.length) = some (xa_yp mX10_fault)) := ⟨xa_gw_mem 986 (by decide +kernel) rfl, ziRX10, by decide +kernel, by decide +kernel, by decide +kernel⟩
theorem imX10_fault : Cond.instanceMethod (xa_yn mX10_fault) ∈ xa_gw := xa_gw_mem 984 (by decide +kernel) rfl
theorem seX10_fault : Cond.selects (xa_yn mX10_fault).cls (xa_yn mX10_fault) (xa_yn mX10_fault) ∈ xa_gw := xa_gw_mem 985 (by decide +kernel) rfl
theorem qX10_lay : Cond.code (xa_yn mX10_lay) (xa_yc mX10_lay) (xa_yl mX10_lay) (xa_yr mX10_lay) ∈ xa_gw ∧ Cond.initialized (xa_yn mX10_lay).cls ∈ xa_gw ∧ ((xa_yn mX10_lay).cls ≠ "java/lang/invoke/MethodHandle" ∧ (xa_yn mX10_lay).cls ≠ "java/lang/invoke/VarHandle" ∧ (parseMethodDescriptor (xa_yn mX10_lay).desc).map (fun d => d.parameters.length) = some (xa_yp mX10_lay)) := ⟨xa_gw_mem 1020 (by decide +kernel) rfl, ziRX10, by decide +kernel, by decide +kernel, by decide +kernel⟩
theorem imX10_lay : Cond.instanceMethod (xa_yn mX10_lay) ∈ xa_gw := xa_gw_mem 1018 (by decide +kernel) rfl
theorem seX10_lay : Cond.selects (xa_yn mX10_lay).cls (xa_yn mX10_lay) (xa_yn mX10_lay) ∈ xa_gw := xa_gw_mem 1019 (by decide +kernel) rfl
theorem qX10_isPart : Cond.code (xa_yn mX10_isPart) (xa_yc mX10_isPart) (xa_yl mX10_isPart) (xa_yr mX10_isPart) ∈ xa_gw ∧ Cond.initialized (xa_yn mX10_isPart).cls ∈ xa_gw ∧ ((xa_yn mX10_isPart).cls ≠ "java/lang/invoke/MethodHandle" ∧ (xa_yn mX10_isPart).cls ≠ "java/lang/invoke/VarHandle" ∧ (parseMethodDescriptor (xa_yn mX10_isPart).desc).map (fun d => d.parameters.length) = some (xa_yp mX10_isPart)) := ⟨xa_gw_mem 1028 (by decide +kernel) rfl, ziRX10, by decide +kernel, by decide +kernel, by decide +kernel⟩
theorem imX10_isPart : Cond.instanceMethod (xa_yn mX10_isPart) ∈ xa_gw := xa_gw_mem 1027 (by decide +kernel) rfl
theorem seX10_isPart : Cond.selects (xa_yn mX10_isPart).cls (xa_yn mX10_isPart) (xa_yn mX10_isPart) ∈ xa_gw := xa_gw_mem 28 (by decide +kernel) rfl
theorem qX10_isJoint : Cond.code (xa_yn mX10_isJoint) (xa_yc mX10_isJoint) (xa_yl mX10_isJoint) (xa_yr mX10_isJoint) ∈ xa_gw ∧ Cond.initialized (xa_yn mX10_isJoint).cls ∈ xa_gw ∧ ((xa_yn mX10_isJoint).cls ≠ "java/lang/invoke/MethodHandle" ∧ (xa_yn mX10_isJoint).cls ≠ "java/lang/invoke/VarHandle" ∧ (parseMethodDescriptor (xa_yn mX10_isJoint).desc).map (fun d => d.parameters.length) = some (xa_yp mX10_isJoint)) := ⟨xa_gw_mem 1037 (by decide +kernel) rfl, ziRX10, by decide +kernel, by decide +kernel, by decide +kernel⟩
theorem imX10_isJoint : Cond.instanceMethod (xa_yn mX10_isJoint) ∈ xa_gw := xa_gw_mem 1036 (by decide +kernel) rfl
theorem seX10_isJoint : Cond.selects (xa_yn mX10_isJoint).cls (xa_yn mX10_isJoint) (xa_yn mX10_isJoint) ∈ xa_gw := xa_gw_mem 29 (by decide +kernel) rfl
theorem qX10_load : Cond.code (xa_yn mX10_load) (xa_yc mX10_load) (xa_yl mX10_load) (xa_yr mX10_load) ∈ xa_gw ∧ Cond.initialized (xa_yn mX10_load).cls ∈ xa_gw ∧ ((xa_yn mX10_load).cls ≠ "java/lang/invoke/MethodHandle" ∧ (xa_yn mX10_load).cls ≠ "java/lang/invoke/VarHandle" ∧ (parseMethodDescriptor (xa_yn mX10_load).desc).map (fun d => d.parameters.length) = some (xa_yp mX10_load)) := ⟨xa_gw_mem 1024 (by decide +kernel) rfl, ziRX10, by decide +kernel, by decide +kernel, by decide +kernel⟩
theorem imX10_load : Cond.instanceMethod (xa_yn mX10_load) ∈ xa_gw := xa_gw_mem 1022 (by decide +kernel) rfl
theorem seX10_load : Cond.selects (xa_yn mX10_load).cls (xa_yn mX10_load) (xa_yn mX10_load) ∈ xa_gw := xa_gw_mem 1023 (by decide +kernel) rfl
theorem qX10_joint : Cond.code (xa_yn mX10_joint) (xa_yc mX10_joint) (xa_yl mX10_joint) (xa_yr mX10_joint) ∈ xa_gw ∧ Cond.initialized (xa_yn mX10_joint).cls ∈ xa_gw ∧ ((xa_yn mX10_joint).cls ≠ "java/lang/invoke/MethodHandle" ∧ (xa_yn mX10_joint).cls ≠ "java/lang/invoke/VarHandle" ∧ (parseMethodDescriptor (xa_yn mX10_joint).desc).map (fun d => d.parameters.length) = some (xa_yp mX10_joint)) := ⟨xa_gw_mem 1033 (by decide +kernel) rfl, ziRX10, by decide +kernel, by decide +kernel, by decide +kernel⟩
theorem imX10_joint : Cond.instanceMethod (xa_yn mX10_joint) ∈ xa_gw := xa_gw_mem 1031 (by decide +kernel) rfl
theorem seX10_joint : Cond.selects (xa_yn mX10_joint).cls (xa_yn mX10_joint) (xa_yn mX10_joint) ∈ xa_gw := xa_gw_mem 1032 (by decide +kernel) rfl
theorem qX10_begun : Cond.code (xa_yn mX10_begun) (xa_yc mX10_begun) (xa_yl mX10_begun) (xa_yr mX10_begun) ∈ xa_gw ∧ Cond.initialized (xa_yn mX10_begun).cls ∈ xa_gw ∧ ((xa_yn mX10_begun).cls ≠ "java/lang/invoke/MethodHandle" ∧ (xa_yn mX10_begun).cls ≠ "java/lang/invoke/VarHandle" ∧ (parseMethodDescriptor (xa_yn mX10_begun).desc).map (fun d => d.parameters.length) = some (xa_yp mX10_begun)) := ⟨xa_gw_mem 1041 (by decide +kernel) rfl, ziRX10, by decide +kernel, by decide +kernel, by decide +kernel⟩
theorem imX10_begun : Cond.instanceMethod (xa_yn mX10_begun) ∈ xa_gw := xa_gw_mem 1039 (by decide +kernel) rfl
theorem seX10_begun : Cond.selects (xa_yn mX10_begun).cls (xa_yn mX10_begun) (xa_yn mX10_begun) ∈ xa_gw := xa_gw_mem 1040 (by decide +kernel) rfl
theorem qX10_stepMany : Cond.code (xa_yn mX10_stepMany) (xa_yc mX10_stepMany) (xa_yl mX10_stepMany) (xa_yr mX10_stepMany) ∈ xa_gw ∧ Cond.initialized (xa_yn mX10_stepMany).cls ∈ xa_gw ∧ ((xa_yn mX10_stepMany).cls ≠ "java/lang/invoke/MethodHandle" ∧ (xa_yn mX10_stepMany).cls ≠ "java/lang/invoke/VarHandle" ∧ (parseMethodDescriptor (xa_yn mX10_stepMany).desc).map (fun d => d.parameters.length) = some (xa_yp mX10_stepMany)) := ⟨xa_gw_mem 1075 (by decide +kernel) rfl, ziRX10, by decide +kernel, by decide +kernel, by decide +kernel⟩
theorem imX10_stepMany : Cond.instanceMethod (xa_yn mX10_stepMany) ∈ xa_gw := xa_gw_mem 1074 (by decide +kernel) rfl
theorem seX10_stepMany : Cond.selects (xa_yn mX10_stepMany).cls (xa_yn mX10_stepMany) (xa_yn mX10_stepMany) ∈ xa_gw := xa_gw_mem 32 (by decide +kernel) rfl
theorem qX10_threes : Cond.code (xa_yn mX10_threes) (xa_yc mX10_threes) (xa_yl mX10_threes) (xa_yr mX10_threes) ∈ xa_gw ∧ Cond.initialized (xa_yn mX10_threes).cls ∈ xa_gw ∧ ((xa_yn mX10_threes).cls ≠ "java/lang/invoke/MethodHandle" ∧ (xa_yn mX10_threes).cls ≠ "java/lang/invoke/VarHandle" ∧ (parseMethodDescriptor (xa_yn mX10_threes).desc).map (fun d => d.parameters.length) = some (xa_yp mX10_threes)) := ⟨xa_gw_mem 1098 (by decide +kernel) rfl, ziRX10, by decide +kernel, by decide +kernel, by decide +kernel⟩
theorem smX10_threes : Cond.static (xa_yn mX10_threes) ∈ xa_gw := xa_gw_mem 1097 (by decide +kernel) rfl
theorem qX10_shapeMany : Cond.code (xa_yn mX10_shapeMany) (xa_yc mX10_shapeMany) (xa_yl mX10_shapeMany) (xa_yr mX10_shapeMany) ∈ xa_gw ∧ Cond.initialized (xa_yn mX10_shapeMany).cls ∈ xa_gw ∧ ((xa_yn mX10_shapeMany).cls ≠ "java/lang/invoke/MethodHandle" ∧ (xa_yn mX10_shapeMany).cls ≠ "java/lang/invoke/VarHandle" ∧ (parseMethodDescriptor (xa_yn mX10_shapeMany).desc).map (fun d => d.parameters.length) = some (xa_yp mX10_shapeMany)) := ⟨xa_gw_mem 1158 (by decide +kernel) rfl, ziRX10, by decide +kernel, by decide +kernel, by decide +kernel⟩
theorem imX10_shapeMany : Cond.instanceMethod (xa_yn mX10_shapeMany) ∈ xa_gw := xa_gw_mem 1157 (by decide +kernel) rfl
theorem seX10_shapeMany : Cond.selects (xa_yn mX10_shapeMany).cls (xa_yn mX10_shapeMany) (xa_yn mX10_shapeMany) ∈ xa_gw := xa_gw_mem 47 (by decide +kernel) rfl
theorem qX10_poseOf : Cond.code (xa_yn mX10_poseOf) (xa_yc mX10_poseOf) (xa_yl mX10_poseOf) (xa_yr mX10_poseOf) ∈ xa_gw ∧ Cond.initialized (xa_yn mX10_poseOf).cls ∈ xa_gw ∧ ((xa_yn mX10_poseOf).cls ≠ "java/lang/invoke/MethodHandle" ∧ (xa_yn mX10_poseOf).cls ≠ "java/lang/invoke/VarHandle" ∧ (parseMethodDescriptor (xa_yn mX10_poseOf).desc).map (fun d => d.parameters.length) = some (xa_yp mX10_poseOf)) := ⟨xa_gw_mem 1095 (by decide +kernel) rfl, ziRX10, by decide +kernel, by decide +kernel, by decide +kernel⟩
theorem imX10_poseOf : Cond.instanceMethod (xa_yn mX10_poseOf) ∈ xa_gw := xa_gw_mem 1094 (by decide +kernel) rfl
theorem seX10_poseOf : Cond.selects (xa_yn mX10_poseOf).cls (xa_yn mX10_poseOf) (xa_yn mX10_poseOf) ∈ xa_gw := xa_gw_mem 37 (by decide +kernel) rfl
theorem qX10_stepAt : Cond.code (xa_yn mX10_stepAt) (xa_yc mX10_stepAt) (xa_yl mX10_stepAt) (xa_yr mX10_stepAt) ∈ xa_gw ∧ Cond.initialized (xa_yn mX10_stepAt).cls ∈ xa_gw ∧ ((xa_yn mX10_stepAt).cls ≠ "java/lang/invoke/MethodHandle" ∧ (xa_yn mX10_stepAt).cls ≠ "java/lang/invoke/VarHandle" ∧ (parseMethodDescriptor (xa_yn mX10_stepAt).desc).map (fun d => d.parameters.length) = some (xa_yp mX10_stepAt)) := ⟨xa_gw_mem 1091 (by decide +kernel) rfl, ziRX10, by decide +kernel, by decide +kernel, by decide +kernel⟩
theorem imX10_stepAt : Cond.instanceMethod (xa_yn mX10_stepAt) ∈ xa_gw := xa_gw_mem 1090 (by decide +kernel) rfl
theorem seX10_stepAt : Cond.selects (xa_yn mX10_stepAt).cls (xa_yn mX10_stepAt) (xa_yn mX10_stepAt) ∈ xa_gw := xa_gw_mem 36 (by decide +kernel) rfl
theorem qX10_straightAt : Cond.code (xa_yn mX10_straightAt) (xa_yc mX10_straightAt) (xa_yl mX10_straightAt) (xa_yr mX10_straightAt) ∈ xa_gw ∧ Cond.initialized (xa_yn mX10_straightAt).cls ∈ xa_gw ∧ ((xa_yn mX10_straightAt).cls ≠ "java/lang/invoke/MethodHandle" ∧ (xa_yn mX10_straightAt).cls ≠ "java/lang/invoke/VarHandle" ∧ (parseMethodDescriptor (xa_yn mX10_straightAt).desc).map (fun d => d.parameters.length) = some (xa_yp mX10_straightAt)) := ⟨xa_gw_mem 1079 (by decide +kernel) rfl, ziRX10, by decide +kernel, by decide +kernel, by decide +kernel⟩
theorem imX10_straightAt : Cond.instanceMethod (xa_yn mX10_straightAt) ∈ xa_gw := xa_gw_mem 1078 (by decide +kernel) rfl
theorem seX10_straightAt : Cond.selects (xa_yn mX10_straightAt).cls (xa_yn mX10_straightAt) (xa_yn mX10_straightAt) ∈ xa_gw := xa_gw_mem 33 (by decide +kernel) rfl
theorem qX10_rest : Cond.code (xa_yn mX10_rest) (xa_yc mX10_rest) (xa_yl mX10_rest) (xa_yr mX10_rest) ∈ xa_gw ∧ Cond.initialized (xa_yn mX10_rest).cls ∈ xa_gw ∧ ((xa_yn mX10_rest).cls ≠ "java/lang/invoke/MethodHandle" ∧ (xa_yn mX10_rest).cls ≠ "java/lang/invoke/VarHandle" ∧ (parseMethodDescriptor (xa_yn mX10_rest).desc).map (fun d => d.parameters.length) = some (xa_yp mX10_rest)) := ⟨xa_gw_mem 1071 (by decide +kernel) rfl, ziRX10, by decide +kernel, by decide +kernel, by decide +kernel⟩
theorem imX10_rest : Cond.instanceMethod (xa_yn mX10_rest) ∈ xa_gw := xa_gw_mem 1070 (by decide +kernel) rfl
theorem seX10_rest : Cond.selects (xa_yn mX10_rest).cls (xa_yn mX10_rest) (xa_yn mX10_rest) ∈ xa_gw := xa_gw_mem 31 (by decide +kernel) rfl
theorem qX10_isStraight : Cond.code (xa_yn mX10_isStraight) (xa_yc mX10_isStraight) (xa_yl mX10_isStraight) (xa_yr mX10_isStraight) ∈ xa_gw ∧ Cond.initialized (xa_yn mX10_isStraight).cls ∈ xa_gw ∧ ((xa_yn mX10_isStraight).cls ≠ "java/lang/invoke/MethodHandle" ∧ (xa_yn mX10_isStraight).cls ≠ "java/lang/invoke/VarHandle" ∧ (parseMethodDescriptor (xa_yn mX10_isStraight).desc).map (fun d => d.parameters.length) = some (xa_yp mX10_isStraight)) := ⟨xa_gw_mem 1129 (by decide +kernel) rfl, ziRX10, by decide +kernel, by decide +kernel, by decide +kernel⟩
theorem imX10_isStraight : Cond.instanceMethod (xa_yn mX10_isStraight) ∈ xa_gw := xa_gw_mem 1128 (by decide +kernel) rfl
theorem seX10_isStraight : Cond.selects (xa_yn mX10_isStraight).cls (xa_yn mX10_isStraight) (xa_yn mX10_isStraight) ∈ xa_gw := xa_gw_mem 43 (by decide +kernel) rfl
theorem qX10_bent : Cond.code (xa_yn mX10_bent) (xa_yc mX10_bent) (xa_yl mX10_bent) (xa_yr mX10_bent) ∈ xa_gw ∧ Cond.initialized (xa_yn mX10_bent).cls ∈ xa_gw ∧ ((xa_yn mX10_bent).cls ≠ "java/lang/invoke/MethodHandle" ∧ (xa_yn mX10_bent).cls ≠ "java/lang/invoke/VarHandle" ∧ (parseMethodDescriptor (xa_yn mX10_bent).desc).map (fun d => d.parameters.length) = some (xa_yp mX10_bent)) := ⟨xa_gw_mem 1087 (by decide +kernel) rfl, ziRX10, by decide +kernel, by decide +kernel, by decide +kernel⟩
theorem imX10_bent : Cond.instanceMethod (xa_yn mX10_bent) ∈ xa_gw := xa_gw_mem 1086 (by decide +kernel) rfl
theorem seX10_bent : Cond.selects (xa_yn mX10_bent).cls (xa_yn mX10_bent) (xa_yn mX10_bent) ∈ xa_gw := xa_gw_mem 35 (by decide +kernel) rfl
theorem qX10_posed : Cond.code (xa_yn mX10_posed) (xa_yc mX10_posed) (xa_yl mX10_posed) (xa_yr mX10_posed) ∈ xa_gw ∧ Cond.initialized (xa_yn mX10_posed).cls ∈ xa_gw ∧ ((xa_yn mX10_posed).cls ≠ "java/lang/invoke/MethodHandle" ∧ (xa_yn mX10_posed).cls ≠ "java/lang/invoke/VarHandle" ∧ (parseMethodDescriptor (xa_yn mX10_posed).desc).map (fun d => d.parameters.length) = some (xa_yp mX10_posed)) := ⟨xa_gw_mem 1102 (by decide +kernel) rfl, ziRX10, by decide +kernel, by decide +kernel, by decide +kernel⟩
theorem imX10_posed : Cond.instanceMethod (xa_yn mX10_posed) ∈ xa_gw := xa_gw_mem 1101 (by decide +kernel) rfl
theorem seX10_posed : Cond.selects (xa_yn mX10_posed).cls (xa_yn mX10_posed) (xa_yn mX10_posed) ∈ xa_gw := xa_gw_mem 38 (by decide +kernel) rfl
theorem qX10_moved : Cond.code (xa_yn mX10_moved) (xa_yc mX10_moved) (xa_yl mX10_moved) (xa_yr mX10_moved) ∈ xa_gw ∧ Cond.initialized (xa_yn mX10_moved).cls ∈ xa_gw ∧ ((xa_yn mX10_moved).cls ≠ "java/lang/invoke/MethodHandle" ∧ (xa_yn mX10_moved).cls ≠ "java/lang/invoke/VarHandle" ∧ (parseMethodDescriptor (xa_yn mX10_moved).desc).map (fun d => d.parameters.length) = some (xa_yp mX10_moved)) := ⟨xa_gw_mem 1083 (by decide +kernel) rfl, ziRX10, by decide +kernel, by decide +kernel, by decide +kernel⟩
theorem imX10_moved : Cond.instanceMethod (xa_yn mX10_moved) ∈ xa_gw := xa_gw_mem 1082 (by decide +kernel) rfl
theorem seX10_moved : Cond.selects (xa_yn mX10_moved).cls (xa_yn mX10_moved) (xa_yn mX10_moved) ∈ xa_gw := xa_gw_mem 34 (by decide +kernel) rfl
theorem qX10_loadsFrom : Cond.code (xa_yn mX10_loadsFrom) (xa_yc mX10_loadsFrom) (xa_yl mX10_loadsFrom) (xa_yr mX10_loadsFrom) ∈ xa_gw ∧ Cond.initialized (xa_yn mX10_loadsFrom).cls ∈ xa_gw ∧ ((xa_yn mX10_loadsFrom).cls ≠ "java/lang/invoke/MethodHandle" ∧ (xa_yn mX10_loadsFrom).cls ≠ "java/lang/invoke/VarHandle" ∧ (parseMethodDescriptor (xa_yn mX10_loadsFrom).desc).map (fun d => d.parameters.length) = some (xa_yp mX10_loadsFrom)) := ⟨xa_gw_mem 1110 (by decide +kernel) rfl, ziRX10, by decide +kernel, by decide +kernel, by decide +kernel⟩
theorem imX10_loadsFrom : Cond.instanceMethod (xa_yn mX10_loadsFrom) ∈ xa_gw := xa_gw_mem 1109 (by decide +kernel) rfl
theorem seX10_loadsFrom : Cond.selects (xa_yn mX10_loadsFrom).cls (xa_yn mX10_loadsFrom) (xa_yn mX10_loadsFrom) ∈ xa_gw := xa_gw_mem 40 (by decide +kernel) rfl
theorem qX10_turnedBy : Cond.code (xa_yn mX10_turnedBy) (xa_yc mX10_turnedBy) (xa_yl mX10_turnedBy) (xa_yr mX10_turnedBy) ∈ xa_gw ∧ Cond.initialized (xa_yn mX10_turnedBy).cls ∈ xa_gw ∧ ((xa_yn mX10_turnedBy).cls ≠ "java/lang/invoke/MethodHandle" ∧ (xa_yn mX10_turnedBy).cls ≠ "java/lang/invoke/VarHandle" ∧ (parseMethodDescriptor (xa_yn mX10_turnedBy).desc).map (fun d => d.parameters.length) = some (xa_yp mX10_turnedBy)) := ⟨xa_gw_mem 1106 (by decide +kernel) rfl, ziRX10, by decide +kernel, by decide +kernel, by decide +kernel⟩
theorem imX10_turnedBy : Cond.instanceMethod (xa_yn mX10_turnedBy) ∈ xa_gw := xa_gw_mem 1105 (by decide +kernel) rfl
theorem seX10_turnedBy : Cond.selects (xa_yn mX10_turnedBy).cls (xa_yn mX10_turnedBy) (xa_yn mX10_turnedBy) ∈ xa_gw := xa_gw_mem 39 (by decide +kernel) rfl
theorem qX10_round : Cond.code (xa_yn mX10_round) (xa_yc mX10_round) (xa_yl mX10_round) (xa_yr mX10_round) ∈ xa_gw ∧ Cond.initialized (xa_yn mX10_round).cls ∈ xa_gw ∧ ((xa_yn mX10_round).cls ≠ "java/lang/invoke/MethodHandle" ∧ (xa_yn mX10_round).cls ≠ "java/lang/invoke/VarHandle" ∧ (parseMethodDescriptor (xa_yn mX10_round).desc).map (fun d => d.parameters.length) = some (xa_yp mX10_round)) := ⟨xa_gw_mem 1113 (by decide +kernel) rfl, ziRX10, by decide +kernel, by decide +kernel, by decide +kernel⟩
theorem smX10_round : Cond.static (xa_yn mX10_round) ∈ xa_gw := xa_gw_mem 1112 (by decide +kernel) rfl
theorem qX10_isRight : Cond.code (xa_yn mX10_isRight) (xa_yc mX10_isRight) (xa_yl mX10_isRight) (xa_yr mX10_isRight) ∈ xa_gw ∧ Cond.initialized (xa_yn mX10_isRight).cls ∈ xa_gw ∧ ((xa_yn mX10_isRight).cls ≠ "java/lang/invoke/MethodHandle" ∧ (xa_yn mX10_isRight).cls ≠ "java/lang/invoke/VarHandle" ∧ (parseMethodDescriptor (xa_yn mX10_isRight).desc).map (fun d => d.parameters.length) = some (xa_yp mX10_isRight)) := ⟨xa_gw_mem 1162 (by decide +kernel) rfl, ziRX10, by decide +kernel, by decide +kernel, by decide +kernel⟩
theorem imX10_isRight : Cond.instanceMethod (xa_yn mX10_isRight) ∈ xa_gw := xa_gw_mem 1161 (by decide +kernel) rfl
theorem seX10_isRight : Cond.selects (xa_yn mX10_isRight).cls (xa_yn mX10_isRight) (xa_yn mX10_isRight) ∈ xa_gw := xa_gw_mem 48 (by decide +kernel) rfl
theorem qX10_isTurn : Cond.code (xa_yn mX10_isTurn) (xa_yc mX10_isTurn) (xa_yl mX10_isTurn) (xa_yr mX10_isTurn) ∈ xa_gw ∧ Cond.initialized (xa_yn mX10_isTurn).cls ∈ xa_gw ∧ ((xa_yn mX10_isTurn).cls ≠ "java/lang/invoke/MethodHandle" ∧ (xa_yn mX10_isTurn).cls ≠ "java/lang/invoke/VarHandle" ∧ (parseMethodDescriptor (xa_yn mX10_isTurn).desc).map (fun d => d.parameters.length) = some (xa_yp mX10_isTurn)) := ⟨xa_gw_mem 1061 (by decide +kernel) rfl, ziRX10, by decide +kernel, by decide +kernel, by decide +kernel⟩
theorem smX10_isTurn : Cond.static (xa_yn mX10_isTurn) ∈ xa_gw := xa_gw_mem 1060 (by decide +kernel) rfl
theorem qX10_isWay : Cond.code (xa_yn mX10_isWay) (xa_yc mX10_isWay) (xa_yl mX10_isWay) (xa_yr mX10_isWay) ∈ xa_gw ∧ Cond.initialized (xa_yn mX10_isWay).cls ∈ xa_gw ∧ ((xa_yn mX10_isWay).cls ≠ "java/lang/invoke/MethodHandle" ∧ (xa_yn mX10_isWay).cls ≠ "java/lang/invoke/VarHandle" ∧ (parseMethodDescriptor (xa_yn mX10_isWay).desc).map (fun d => d.parameters.length) = some (xa_yp mX10_isWay)) := ⟨xa_gw_mem 1048 (by decide +kernel) rfl, ziRX10, by decide +kernel, by decide +kernel, by decide +kernel⟩
theorem smX10_isWay : Cond.static (xa_yn mX10_isWay) ∈ xa_gw := xa_gw_mem 1047 (by decide +kernel) rfl
theorem qX10_move : Cond.code (xa_yn mX10_move) (xa_yc mX10_move) (xa_yl mX10_move) (xa_yr mX10_move) ∈ xa_gw ∧ Cond.initialized (xa_yn mX10_move).cls ∈ xa_gw ∧ ((xa_yn mX10_move).cls ≠ "java/lang/invoke/MethodHandle" ∧ (xa_yn mX10_move).cls ≠ "java/lang/invoke/VarHandle" ∧ (parseMethodDescriptor (xa_yn mX10_move).desc).map (fun d => d.parameters.length) = some (xa_yp mX10_move)) := ⟨xa_gw_mem 1045 (by decide +kernel) rfl, ziRX10, by decide +kernel, by decide +kernel, by decide +kernel⟩
theorem imX10_move : Cond.instanceMethod (xa_yn mX10_move) ∈ xa_gw := xa_gw_mem 1043 (by decide +kernel) rfl
theorem seX10_move : Cond.selects (xa_yn mX10_move).cls (xa_yn mX10_move) (xa_yn mX10_move) ∈ xa_gw := xa_gw_mem 1044 (by decide +kernel) rfl
theorem qX10_noWay : Cond.code (xa_yn mX10_noWay) (xa_yc mX10_noWay) (xa_yl mX10_noWay) (xa_yr mX10_noWay) ∈ xa_gw ∧ Cond.initialized (xa_yn mX10_noWay).cls ∈ xa_gw ∧ ((xa_yn mX10_noWay).cls ≠ "java/lang/invoke/MethodHandle" ∧ (xa_yn mX10_noWay).cls ≠ "java/lang/invoke/VarHandle" ∧ (parseMethodDescriptor (xa_yn mX10_noWay).desc).map (fun d => d.parameters.length) = some (xa_yp mX10_noWay)) := ⟨xa_gw_mem 1054 (by decide +kernel) rfl, ziRX10, by decide +kernel, by decide +kernel, by decide +kernel⟩
theorem imX10_noWay : Cond.instanceMethod (xa_yn mX10_noWay) ∈ xa_gw := xa_gw_mem 1052 (by decide +kernel) rfl
theorem seX10_noWay : Cond.selects (xa_yn mX10_noWay).cls (xa_yn mX10_noWay) (xa_yn mX10_noWay) ∈ xa_gw := xa_gw_mem 1053 (by decide +kernel) rfl
theorem qX10_go : Cond.code (xa_yn mX10_go) (xa_yc mX10_go) (xa_yl mX10_go) (xa_yr mX10_go) ∈ xa_gw ∧ Cond.initialized (xa_yn mX10_go).cls ∈ xa_gw ∧ ((xa_yn mX10_go).cls ≠ "java/lang/invoke/MethodHandle" ∧ (xa_yn mX10_go).cls ≠ "java/lang/invoke/VarHandle" ∧ (parseMethodDescriptor (xa_yn mX10_go).desc).map (fun d => d.parameters.length) = some (xa_yp mX10_go)) := ⟨xa_gw_mem 1067 (by decide +kernel) rfl, ziRX10, by decide +kernel, by decide +kernel, by decide +kernel⟩
theorem imX10_go : Cond.instanceMethod (xa_yn mX10_go) ∈ xa_gw := xa_gw_mem 1066 (by decide +kernel) rfl
theorem seX10_go : Cond.selects (xa_yn mX10_go).cls (xa_yn mX10_go) (xa_yn mX10_go) ∈ xa_gw := xa_gw_mem 30 (by decide +kernel) rfl
theorem qX10_turnOf : Cond.code (xa_yn mX10_turnOf) (xa_yc mX10_turnOf) (xa_yl mX10_turnOf) (xa_yr mX10_turnOf) ∈ xa_gw ∧ Cond.initialized (xa_yn mX10_turnOf).cls ∈ xa_gw ∧ ((xa_yn mX10_turnOf).cls ≠ "java/lang/invoke/MethodHandle" ∧ (xa_yn mX10_turnOf).cls ≠ "java/lang/invoke/VarHandle" ∧ (parseMethodDescriptor (xa_yn mX10_turnOf).desc).map (fun d => d.parameters.length) = some (xa_yp mX10_turnOf)) := ⟨xa_gw_mem 1117 (by decide +kernel) rfl, ziRX10, by decide +kernel, by decide +kernel, by decide +kernel⟩
theorem imX10_turnOf : Cond.instanceMethod (xa_yn mX10_turnOf) ∈ xa_gw := xa_gw_mem 1116 (by decide +kernel) rfl
theorem seX10_turnOf : Cond.selects (xa_yn mX10_turnOf).cls (xa_yn mX10_turnOf) (xa_yn mX10_turnOf) ∈ xa_gw := xa_gw_mem 41 (by decide +kernel) rfl
theorem qX10_turn : Cond.code (xa_yn mX10_turn) (xa_yc mX10_turn) (xa_yl mX10_turn) (xa_yr mX10_turn) ∈ xa_gw ∧ Cond.initialized (xa_yn mX10_turn).cls ∈ xa_gw ∧ ((xa_yn mX10_turn).cls ≠ "java/lang/invoke/MethodHandle" ∧ (xa_yn mX10_turn).cls ≠ "java/lang/invoke/VarHandle" ∧ (parseMethodDescriptor (xa_yn mX10_turn).desc).map (fun d => d.parameters.length) = some (xa_yp mX10_turn)) := ⟨xa_gw_mem 1058 (by decide +kernel) rfl, ziRX10, by decide +kernel, by decide +kernel, by decide +kernel⟩
theorem imX10_turn : Cond.instanceMethod (xa_yn mX10_turn) ∈ xa_gw := xa_gw_mem 1056 (by decide +kernel) rfl
theorem seX10_turn : Cond.selects (xa_yn mX10_turn).cls (xa_yn mX10_turn) (xa_yn mX10_turn) ∈ xa_gw := xa_gw_mem 1057 (by decide +kernel) rfl
theorem qX10_closes : Cond.code (xa_yn mX10_closes) (xa_yc mX10_closes) (xa_yl mX10_closes) (xa_yr mX10_closes) ∈ xa_gw ∧ Cond.initialized (xa_yn mX10_closes).cls ∈ xa_gw ∧ ((xa_yn mX10_closes).cls ≠ "java/lang/invoke/MethodHandle" ∧ (xa_yn mX10_closes).cls ≠ "java/lang/invoke/VarHandle" ∧ (parseMethodDescriptor (xa_yn mX10_closes).desc).map (fun d => d.parameters.length) = some (xa_yp mX10_closes)) := ⟨xa_gw_mem 1125 (by decide +kernel) rfl, ziRX10, by decide +kernel, by decide +kernel, by decide +kernel⟩
theorem imX10_closes : Cond.instanceMethod (xa_yn mX10_closes) ∈ xa_gw := xa_gw_mem 1124 (by decide +kernel) rfl
theorem seX10_closes : Cond.selects (xa_yn mX10_closes).cls (xa_yn mX10_closes) (xa_yn mX10_closes) ∈ xa_gw := xa_gw_mem 42 (by decide +kernel) rfl
theorem qX10_run : Cond.code (xa_yn mX10_run) (xa_yc mX10_run) (xa_yl mX10_run) (xa_yr mX10_run) ∈ xa_gw ∧ Cond.initialized (xa_yn mX10_run).cls ∈ xa_gw ∧ ((xa_yn mX10_run).cls ≠ "java/lang/invoke/MethodHandle" ∧ (xa_yn mX10_run).cls ≠ "java/lang/invoke/VarHandle" ∧ (parseMethodDescriptor (xa_yn mX10_run).desc).map (fun d => d.parameters.length) = some (xa_yp mX10_run)) := ⟨xa_gw_mem 1121 (by decide +kernel) rfl, ziRX10, by decide +kernel, by decide +kernel, by decide +kernel⟩
theorem imX10_run : Cond.instanceMethod (xa_yn mX10_run) ∈ xa_gw := xa_gw_mem 1119 (by decide +kernel) rfl
theorem seX10_run : Cond.selects (xa_yn mX10_run).cls (xa_yn mX10_run) (xa_yn mX10_run) ∈ xa_gw := xa_gw_mem 1120 (by decide +kernel) rfl
theorem qX10_spun : Cond.code (xa_yn mX10_spun) (xa_yc mX10_spun) (xa_yl mX10_spun) (xa_yr mX10_spun) ∈ xa_gw ∧ Cond.initialized (xa_yn mX10_spun).cls ∈ xa_gw ∧ ((xa_yn mX10_spun).cls ≠ "java/lang/invoke/MethodHandle" ∧ (xa_yn mX10_spun).cls ≠ "java/lang/invoke/VarHandle" ∧ (parseMethodDescriptor (xa_yn mX10_spun).desc).map (fun d => d.parameters.length) = some (xa_yp mX10_spun)) := ⟨xa_gw_mem 1133 (by decide +kernel) rfl, ziRX10, by decide +kernel, by decide +kernel, by decide +kernel⟩
theorem imX10_spun : Cond.instanceMethod (xa_yn mX10_spun) ∈ xa_gw := xa_gw_mem 1131 (by decide +kernel) rfl
theorem seX10_spun : Cond.selects (xa_yn mX10_spun).cls (xa_yn mX10_spun) (xa_yn mX10_spun) ∈ xa_gw := xa_gw_mem 1132 (by decide +kernel) rfl
theorem qX10_times : Cond.code (xa_yn mX10_times) (xa_yc mX10_times) (xa_yl mX10_times) (xa_yr mX10_times) ∈ xa_gw ∧ Cond.initialized (xa_yn mX10_times).cls ∈ xa_gw ∧ ((xa_yn mX10_times).cls ≠ "java/lang/invoke/MethodHandle" ∧ (xa_yn mX10_times).cls ≠ "java/lang/invoke/VarHandle" ∧ (parseMethodDescriptor (xa_yn mX10_times).desc).map (fun d => d.parameters.length) = some (xa_yp mX10_times)) := ⟨xa_gw_mem 1137 (by decide +kernel) rfl, ziRX10, by decide +kernel, by decide +kernel, by decide +kernel⟩
theorem imX10_times : Cond.instanceMethod (xa_yn mX10_times) ∈ xa_gw := xa_gw_mem 1135 (by decide +kernel) rfl
theorem seX10_times : Cond.selects (xa_yn mX10_times).cls (xa_yn mX10_times) (xa_yn mX10_times) ∈ xa_gw := xa_gw_mem 1136 (by decide +kernel) rfl
theorem qX10_has : Cond.code (xa_yn mX10_has) (xa_yc mX10_has) (xa_yl mX10_has) (xa_yr mX10_has) ∈ xa_gw ∧ Cond.initialized (xa_yn mX10_has).cls ∈ xa_gw ∧ ((xa_yn mX10_has).cls ≠ "java/lang/invoke/MethodHandle" ∧ (xa_yn mX10_has).cls ≠ "java/lang/invoke/VarHandle" ∧ (parseMethodDescriptor (xa_yn mX10_has).desc).map (fun d => d.parameters.length) = some (xa_yp mX10_has)) := ⟨xa_gw_mem 1173 (by decide +kernel) rfl, ziRX10, by decide +kernel, by decide +kernel, by decide +kernel⟩
theorem smX10_has : Cond.static (xa_yn mX10_has) ∈ xa_gw := xa_gw_mem 1172 (by decide +kernel) rfl
theorem qX10_isBarred : Cond.code (xa_yn mX10_isBarred) (xa_yc mX10_isBarred) (xa_yl mX10_isBarred) (xa_yr mX10_isBarred) ∈ xa_gw ∧ Cond.initialized (xa_yn mX10_isBarred).cls ∈ xa_gw ∧ ((xa_yn mX10_isBarred).cls ≠ "java/lang/invoke/MethodHandle" ∧ (xa_yn mX10_isBarred).cls ≠ "java/lang/invoke/VarHandle" ∧ (parseMethodDescriptor (xa_yn mX10_isBarred).desc).map (fun d => d.parameters.length) = some (xa_yp mX10_isBarred)) := ⟨xa_gw_mem 1200 (by decide +kernel) rfl, ziRX10, by decide +kernel, by decide +kernel, by decide +kernel⟩
theorem smX10_isBarred : Cond.static (xa_yn mX10_isBarred) ∈ xa_gw := xa_gw_mem 1199 (by decide +kernel) rfl
theorem qX10_meet : Cond.code (xa_yn mX10_meet) (xa_yc mX10_meet) (xa_yl mX10_meet) (xa_yr mX10_meet) ∈ xa_gw ∧ Cond.initialized (xa_yn mX10_meet).cls ∈ xa_gw ∧ ((xa_yn mX10_meet).cls ≠ "java/lang/invoke/MethodHandle" ∧ (xa_yn mX10_meet).cls ≠ "java/lang/invoke/VarHandle" ∧ (parseMethodDescriptor (xa_yn mX10_meet).desc).map (fun d => d.parameters.length) = some (xa_yp mX10_meet)) := ⟨xa_gw_mem 1166 (by decide +kernel) rfl, ziRX10, by decide +kernel, by decide +kernel, by decide +kernel⟩
theorem imX10_meet : Cond.instanceMethod (xa_yn mX10_meet) ∈ xa_gw := xa_gw_mem 1165 (by decide +kernel) rfl
theorem seX10_meet : Cond.selects (xa_yn mX10_meet).cls (xa_yn mX10_meet) (xa_yn mX10_meet) ∈ xa_gw := xa_gw_mem 49 (by decide +kernel) rfl
theorem qX10_meetAhead : Cond.code (xa_yn mX10_meetAhead) (xa_yc mX10_meetAhead) (xa_yl mX10_meetAhead) (xa_yr mX10_meetAhead) ∈ xa_gw ∧ Cond.initialized (xa_yn mX10_meetAhead).cls ∈ xa_gw ∧ ((xa_yn mX10_meetAhead).cls ≠ "java/lang/invoke/MethodHandle" ∧ (xa_yn mX10_meetAhead).cls ≠ "java/lang/invoke/VarHandle" ∧ (parseMethodDescriptor (xa_yn mX10_meetAhead).desc).map (fun d => d.parameters.length) = some (xa_yp mX10_meetAhead)) := ⟨xa_gw_mem 1170 (by decide +kernel) rfl, ziRX10, by decide +kernel, by decide +kernel, by decide +kernel⟩
theorem imX10_meetAhead : Cond.instanceMethod (xa_yn mX10_meetAhead) ∈ xa_gw := xa_gw_mem 1169 (by decide +kernel) rfl
theorem seX10_meetAhead : Cond.selects (xa_yn mX10_meetAhead).cls (xa_yn mX10_meetAhead) (xa_yn mX10_meetAhead) ∈ xa_gw := xa_gw_mem 50 (by decide +kernel) rfl
theorem qX10_layTicks : Cond.code (xa_yn mX10_layTicks) (xa_yc mX10_layTicks) (xa_yl mX10_layTicks) (xa_yr mX10_layTicks) ∈ xa_gw ∧ Cond.initialized (xa_yn mX10_layTicks).cls ∈ xa_gw ∧ ((xa_yn mX10_layTicks).cls ≠ "java/lang/invoke/MethodHandle" ∧ (xa_yn mX10_layTicks).cls ≠ "java/lang/invoke/VarHandle" ∧ (parseMethodDescriptor (xa_yn mX10_layTicks).desc).map (fun d => d.parameters.length) = some (xa_yp mX10_layTicks)) := ⟨xa_gw_mem 1154 (by decide +kernel) rfl, ziRX10, by decide +kernel, by decide +kernel, by decide +kernel⟩
theorem imX10_layTicks : Cond.instanceMethod (xa_yn mX10_layTicks) ∈ xa_gw := xa_gw_mem 1153 (by decide +kernel) rfl
theorem seX10_layTicks : Cond.selects (xa_yn mX10_layTicks).cls (xa_yn mX10_layTicks) (xa_yn mX10_layTicks) ∈ xa_gw := xa_gw_mem 46 (by decide +kernel) rfl
theorem qX10_allJoints : Cond.code (xa_yn mX10_allJoints) (xa_yc mX10_allJoints) (xa_yl mX10_allJoints) (xa_yr mX10_allJoints) ∈ xa_gw ∧ Cond.initialized (xa_yn mX10_allJoints).cls ∈ xa_gw ∧ ((xa_yn mX10_allJoints).cls ≠ "java/lang/invoke/MethodHandle" ∧ (xa_yn mX10_allJoints).cls ≠ "java/lang/invoke/VarHandle" ∧ (parseMethodDescriptor (xa_yn mX10_allJoints).desc).map (fun d => d.parameters.length) = some (xa_yp mX10_allJoints)) := ⟨xa_gw_mem 1146 (by decide +kernel) rfl, ziRX10, by decide +kernel, by decide +kernel, by decide +kernel⟩
theorem imX10_allJoints : Cond.instanceMethod (xa_yn mX10_allJoints) ∈ xa_gw := xa_gw_mem 1145 (by decide +kernel) rfl
theorem seX10_allJoints : Cond.selects (xa_yn mX10_allJoints).cls (xa_yn mX10_allJoints) (xa_yn mX10_allJoints) ∈ xa_gw := xa_gw_mem 44 (by decide +kernel) rfl
theorem qX10_soonBy : Cond.code (xa_yn mX10_soonBy) (xa_yc mX10_soonBy) (xa_yl mX10_soonBy) (xa_yr mX10_soonBy) ∈ xa_gw ∧ Cond.initialized (xa_yn mX10_soonBy).cls ∈ xa_gw ∧ ((xa_yn mX10_soonBy).cls ≠ "java/lang/invoke/MethodHandle" ∧ (xa_yn mX10_soonBy).cls ≠ "java/lang/invoke/VarHandle" ∧ (parseMethodDescriptor (xa_yn mX10_soonBy).desc).map (fun d => d.parameters.length) = some (xa_yp mX10_soonBy)) := ⟨xa_gw_mem 1150 (by decide +kernel) rfl, ziRX10, by decide +kernel, by decide +kernel, by decide +kernel⟩
theorem imX10_soonBy : Cond.instanceMethod (xa_yn mX10_soonBy) ∈ xa_gw := xa_gw_mem 1149 (by decide +kernel) rfl
theorem seX10_soonBy : Cond.selects (xa_yn mX10_soonBy).cls (xa_yn mX10_soonBy) (xa_yn mX10_soonBy) ∈ xa_gw := xa_gw_mem 45 (by decide +kernel) rfl
theorem qX10_soon : Cond.code (xa_yn mX10_soon) (xa_yc mX10_soon) (xa_yl mX10_soon) (xa_yr mX10_soon) ∈ xa_gw ∧ Cond.initialized (xa_yn mX10_soon).cls ∈ xa_gw ∧ ((xa_yn mX10_soon).cls ≠ "java/lang/invoke/MethodHandle" ∧ (xa_yn mX10_soon).cls ≠ "java/lang/invoke/VarHandle" ∧ (parseMethodDescriptor (xa_yn mX10_soon).desc).map (fun d => d.parameters.length) = some (xa_yp mX10_soon)) := ⟨xa_gw_mem 1142 (by decide +kernel) rfl, ziRX10, by decide +kernel, by decide +kernel, by decide +kernel⟩
theorem imX10_soon : Cond.instanceMethod (xa_yn mX10_soon) ∈ xa_gw := xa_gw_mem 1140 (by decide +kernel) rfl
theorem seX10_soon : Cond.selects (xa_yn mX10_soon).cls (xa_yn mX10_soon) (xa_yn mX10_soon) ∈ xa_gw := xa_gw_mem 1141 (by decide +kernel) rfl
theorem qX10_fallOf : Cond.code (xa_yn mX10_fallOf) (xa_yc mX10_fallOf) (xa_yl mX10_fallOf) (xa_yr mX10_fallOf) ∈ xa_gw ∧ Cond.initialized (xa_yn mX10_fallOf).cls ∈ xa_gw ∧ ((xa_yn mX10_fallOf).cls ≠ "java/lang/invoke/MethodHandle" ∧ (xa_yn mX10_fallOf).cls ≠ "java/lang/invoke/VarHandle" ∧ (parseMethodDescriptor (xa_yn mX10_fallOf).desc).map (fun d => d.parameters.length) = some (xa_yp mX10_fallOf)) := ⟨xa_gw_mem 1185 (by decide +kernel) rfl, ziRX10, by decide +kernel, by decide +kernel, by decide +kernel⟩
theorem smX10_fallOf : Cond.static (xa_yn mX10_fallOf) ∈ xa_gw := xa_gw_mem 1184 (by decide +kernel) rfl
theorem qX10_isHeight : Cond.code (xa_yn mX10_isHeight) (xa_yc mX10_isHeight) (xa_yl mX10_isHeight) (xa_yr mX10_isHeight) ∈ xa_gw ∧ Cond.initialized (xa_yn mX10_isHeight).cls ∈ xa_gw ∧ ((xa_yn mX10_isHeight).cls ≠ "java/lang/invoke/MethodHandle" ∧ (xa_yn mX10_isHeight).cls ≠ "java/lang/invoke/VarHandle" ∧ (parseMethodDescriptor (xa_yn mX10_isHeight).desc).map (fun d => d.parameters.length) = some (xa_yp mX10_isHeight)) := ⟨xa_gw_mem 1181 (by decide +kernel) rfl, ziRX10, by decide +kernel, by decide +kernel, by decide +kernel⟩
theorem smX10_isHeight : Cond.static (xa_yn mX10_isHeight) ∈ xa_gw := xa_gw_mem 1180 (by decide +kernel) rfl
theorem qX10_fall : Cond.code (xa_yn mX10_fall) (xa_yc mX10_fall) (xa_yl mX10_fall) (xa_yr mX10_fall) ∈ xa_gw ∧ Cond.initialized (xa_yn mX10_fall).cls ∈ xa_gw ∧ ((xa_yn mX10_fall).cls ≠ "java/lang/invoke/MethodHandle" ∧ (xa_yn mX10_fall).cls ≠ "java/lang/invoke/VarHandle" ∧ (parseMethodDescriptor (xa_yn mX10_fall).desc).map (fun d => d.parameters.length) = some (xa_yp mX10_fall)) := ⟨xa_gw_mem 1178 (by decide +kernel) rfl, ziRX10, by decide +kernel, by decide +kernel, by decide +kernel⟩
theorem imX10_fall : Cond.instanceMethod (xa_yn mX10_fall) ∈ xa_gw := xa_gw_mem 1176 (by decide +kernel) rfl
theorem seX10_fall : Cond.selects (xa_yn mX10_fall).cls (xa_yn mX10_fall) (xa_yn mX10_fall) ∈ xa_gw := xa_gw_mem 1177 (by decide +kernel) rfl
theorem qX10_saved : Cond.code (xa_yn mX10_saved) (xa_yc mX10_saved) (xa_yl mX10_saved) (xa_yr mX10_saved) ∈ xa_gw ∧ Cond.initialized (xa_yn mX10_saved).cls ∈ xa_gw ∧ ((xa_yn mX10_saved).cls ≠ "java/lang/invoke/MethodHandle" ∧ (xa_yn mX10_saved).cls ≠ "java/lang/invoke/VarHandle" ∧ (parseMethodDescriptor (xa_yn mX10_saved).desc).map (fun d => d.parameters.length) = some (xa_yp mX10_saved)) := ⟨xa_gw_mem 1189 (by decide +kernel) rfl, ziRX10, by decide +kernel, by decide +kernel, by decide +kernel⟩
theorem imX10_saved : Cond.instanceMethod (xa_yn mX10_saved) ∈ xa_gw := xa_gw_mem 1187 (by decide +kernel) rfl
theorem seX10_saved : Cond.selects (xa_yn mX10_saved).cls (xa_yn mX10_saved) (xa_yn mX10_saved) ∈ xa_gw := xa_gw_mem 1188 (by decide +kernel) rfl
theorem qX10_freeBy : Cond.code (xa_yn mX10_freeBy) (xa_yc mX10_freeBy) (xa_yl mX10_freeBy) (xa_yr mX10_freeBy) ∈ xa_gw ∧ Cond.initialized (xa_yn mX10_freeBy).cls ∈ xa_gw ∧ ((xa_yn mX10_freeBy).cls ≠ "java/lang/invoke/MethodHandle" ∧ (xa_yn mX10_freeBy).cls ≠ "java/lang/invoke/VarHandle" ∧ (parseMethodDescriptor (xa_yn mX10_freeBy).desc).map (fun d => d.parameters.length) = some (xa_yp mX10_freeBy)) := ⟨xa_gw_mem 1197 (by decide +kernel) rfl, ziRX10, by decide +kernel, by decide +kernel, by decide +kernel⟩
theorem imX10_freeBy : Cond.instanceMethod (xa_yn mX10_freeBy) ∈ xa_gw := xa_gw_mem 1196 (by decide +kernel) rfl
theorem seX10_freeBy : Cond.selects (xa_yn mX10_freeBy).cls (xa_yn mX10_freeBy) (xa_yn mX10_freeBy) ∈ xa_gw := xa_gw_mem 51 (by decide +kernel) rfl
theorem qX10_free : Cond.code (xa_yn mX10_free) (xa_yc mX10_free) (xa_yl mX10_free) (xa_yr mX10_free) ∈ xa_gw ∧ Cond.initialized (xa_yn mX10_free).cls ∈ xa_gw ∧ ((xa_yn mX10_free).cls ≠ "java/lang/invoke/MethodHandle" ∧ (xa_yn mX10_free).cls ≠ "java/lang/invoke/VarHandle" ∧ (parseMethodDescriptor (xa_yn mX10_free).desc).map (fun d => d.parameters.length) = some (xa_yp mX10_free)) := ⟨xa_gw_mem 1193 (by decide +kernel) rfl, ziRX10, by decide +kernel, by decide +kernel, by decide +kernel⟩
theorem imX10_free : Cond.instanceMethod (xa_yn mX10_free) ∈ xa_gw := xa_gw_mem 1191 (by decide +kernel) rfl
theorem seX10_free : Cond.selects (xa_yn mX10_free).cls (xa_yn mX10_free) (xa_yn mX10_free) ∈ xa_gw := xa_gw_mem 1192 (by decide +kernel) rfl
theorem qX10_fewest : Cond.code (xa_yn mX10_fewest) (xa_yc mX10_fewest) (xa_yl mX10_fewest) (xa_yr mX10_fewest) ∈ xa_gw ∧ Cond.initialized (xa_yn mX10_fewest).cls ∈ xa_gw ∧ ((xa_yn mX10_fewest).cls ≠ "java/lang/invoke/MethodHandle" ∧ (xa_yn mX10_fewest).cls ≠ "java/lang/invoke/VarHandle" ∧ (parseMethodDescriptor (xa_yn mX10_fewest).desc).map (fun d => d.parameters.length) = some (xa_yp mX10_fewest)) := ⟨xa_gw_mem 1204 (by decide +kernel) rfl, ziRX10, by decide +kernel, by decide +kernel, by decide +kernel⟩
theorem imX10_fewest : Cond.instanceMethod (xa_yn mX10_fewest) ∈ xa_gw := xa_gw_mem 1202 (by decide +kernel) rfl
theorem seX10_fewest : Cond.selects (xa_yn mX10_fewest).cls (xa_yn mX10_fewest) (xa_yn mX10_fewest) ∈ xa_gw := xa_gw_mem 1203 (by decide +kernel) rfl
theorem qX10_worth : Cond.code (xa_yn mX10_worth) (xa_yc mX10_worth) (xa_yl mX10_worth) (xa_yr mX10_worth) ∈ xa_gw ∧ Cond.initialized (xa_yn mX10_worth).cls ∈ xa_gw ∧ ((xa_yn mX10_worth).cls ≠ "java/lang/invoke/MethodHandle" ∧ (xa_yn mX10_worth).cls ≠ "java/lang/invoke/VarHandle" ∧ (parseMethodDescriptor (xa_yn mX10_worth).desc).map (fun d => d.parameters.length) = some (xa_yp mX10_worth)) := ⟨xa_gw_mem 1208 (by decide +kernel) rfl, ziRX10, by decide +kernel, by decide +kernel, by decide +kernel⟩
theorem imX10_worth : Cond.instanceMethod (xa_yn mX10_worth) ∈ xa_gw := xa_gw_mem 1206 (by decide +kernel) rfl
theorem seX10_worth : Cond.selects (xa_yn mX10_worth).cls (xa_yn mX10_worth) (xa_yn mX10_worth) ∈ xa_gw := xa_gw_mem 1207 (by decide +kernel) rfl
theorem qX10_picture : Cond.code (xa_yn mX10_picture) (xa_yc mX10_picture) (xa_yl mX10_picture) (xa_yr mX10_picture) ∈ xa_gw ∧ Cond.initialized (xa_yn mX10_picture).cls ∈ xa_gw ∧ ((xa_yn mX10_picture).cls ≠ "java/lang/invoke/MethodHandle" ∧ (xa_yn mX10_picture).cls ≠ "java/lang/invoke/VarHandle" ∧ (parseMethodDescriptor (xa_yn mX10_picture).desc).map (fun d => d.parameters.length) = some (xa_yp mX10_picture)) := ⟨xa_gw_mem 1212 (by decide +kernel) rfl, ziRX10, by decide +kernel, by decide +kernel, by decide +kernel⟩
theorem imX10_picture : Cond.instanceMethod (xa_yn mX10_picture) ∈ xa_gw := xa_gw_mem 1210 (by decide +kernel) rfl
theorem seX10_picture : Cond.selects (xa_yn mX10_picture).cls (xa_yn mX10_picture) (xa_yn mX10_picture) ∈ xa_gw := xa_gw_mem 1211 (by decide +kernel) rfl
theorem qX10_noFilm : Cond.code (xa_yn mX10_noFilm) (xa_yc mX10_noFilm) (xa_yl mX10_noFilm) (xa_yr mX10_noFilm) ∈ xa_gw ∧ Cond.initialized (xa_yn mX10_noFilm).cls ∈ xa_gw ∧ ((xa_yn mX10_noFilm).cls ≠ "java/lang/invoke/MethodHandle" ∧ (xa_yn mX10_noFilm).cls ≠ "java/lang/invoke/VarHandle" ∧ (parseMethodDescriptor (xa_yn mX10_noFilm).desc).map (fun d => d.parameters.length) = some (xa_yp mX10_noFilm)) := ⟨xa_gw_mem 1216 (by decide +kernel) rfl, ziRX10, by decide +kernel, by decide +kernel, by decide +kernel⟩
theorem imX10_noFilm : Cond.instanceMethod (xa_yn mX10_noFilm) ∈ xa_gw := xa_gw_mem 1214 (by decide +kernel) rfl
theorem seX10_noFilm : Cond.selects (xa_yn mX10_noFilm).cls (xa_yn mX10_noFilm) (xa_yn mX10_noFilm) ∈ xa_gw := xa_gw_mem 1215 (by decide +kernel) rfl
theorem qX10_off : Cond.code (xa_yn mX10_off) (xa_yc mX10_off) (xa_yl mX10_off) (xa_yr mX10_off) ∈ xa_gw ∧ Cond.initialized (xa_yn mX10_off).cls ∈ xa_gw ∧ ((xa_yn mX10_off).cls ≠ "java/lang/invoke/MethodHandle" ∧ (xa_yn mX10_off).cls ≠ "java/lang/invoke/VarHandle" ∧ (parseMethodDescriptor (xa_yn mX10_off).desc).map (fun d => d.parameters.length) = some (xa_yp mX10_off)) := ⟨xa_gw_mem 1227 (by decide +kernel) rfl, ziRX10, by decide +kernel, by decide +kernel, by decide +kernel⟩
theorem smX10_off : Cond.static (xa_yn mX10_off) ∈ xa_gw := xa_gw_mem 1226 (by decide +kernel) rfl
theorem qX10_mayBe : Cond.code (xa_yn mX10_mayBe) (xa_yc mX10_mayBe) (xa_yl mX10_mayBe) (xa_yr mX10_mayBe) ∈ xa_gw ∧ Cond.initialized (xa_yn mX10_mayBe).cls ∈ xa_gw ∧ ((xa_yn mX10_mayBe).cls ≠ "java/lang/invoke/MethodHandle" ∧ (xa_yn mX10_mayBe).cls ≠ "java/lang/invoke/VarHandle" ∧ (parseMethodDescriptor (xa_yn mX10_mayBe).desc).map (fun d => d.parameters.length) = some (xa_yp mX10_mayBe)) := ⟨xa_gw_mem 1224 (by decide +kernel) rfl, ziRX10, by decide +kernel, by decide +kernel, by decide +kernel⟩
theorem imX10_mayBe : Cond.instanceMethod (xa_yn mX10_mayBe) ∈ xa_gw := xa_gw_mem 1223 (by decide +kernel) rfl
theorem seX10_mayBe : Cond.selects (xa_yn mX10_mayBe).cls (xa_yn mX10_mayBe) (xa_yn mX10_mayBe) ∈ xa_gw := xa_gw_mem 52 (by decide +kernel) rfl
theorem qX10_may : Cond.code (xa_yn mX10_may) (xa_yc mX10_may) (xa_yl mX10_may) (xa_yr mX10_may) ∈ xa_gw ∧ Cond.initialized (xa_yn mX10_may).cls ∈ xa_gw ∧ ((xa_yn mX10_may).cls ≠ "java/lang/invoke/MethodHandle" ∧ (xa_yn mX10_may).cls ≠ "java/lang/invoke/VarHandle" ∧ (parseMethodDescriptor (xa_yn mX10_may).desc).map (fun d => d.parameters.length) = some (xa_yp mX10_may)) := ⟨xa_gw_mem 1220 (by decide +kernel) rfl, ziRX10, by decide +kernel, by decide +kernel, by decide +kernel⟩
theorem imX10_may : Cond.instanceMethod (xa_yn mX10_may) ∈ xa_gw := xa_gw_mem 1218 (by decide +kernel) rfl
theorem seX10_may : Cond.selects (xa_yn mX10_may).cls (xa_yn mX10_may) (xa_yn mX10_may) ∈ xa_gw := xa_gw_mem 1219 (by decide +kernel) rfl
theorem qX10_looked : Cond.code (xa_yn mX10_looked) (xa_yc mX10_looked) (xa_yl mX10_looked) (xa_yr mX10_looked) ∈ xa_gw ∧ Cond.initialized (xa_yn mX10_looked).cls ∈ xa_gw ∧ ((xa_yn mX10_looked).cls ≠ "java/lang/invoke/MethodHandle" ∧ (xa_yn mX10_looked).cls ≠ "java/lang/invoke/VarHandle" ∧ (parseMethodDescriptor (xa_yn mX10_looked).desc).map (fun d => d.parameters.length) = some (xa_yp mX10_looked)) := ⟨xa_gw_mem 1231 (by decide +kernel) rfl, ziRX10, by decide +kernel, by decide +kernel, by decide +kernel⟩
theorem imX10_looked : Cond.instanceMethod (xa_yn mX10_looked) ∈ xa_gw := xa_gw_mem 1229 (by decide +kernel) rfl
theorem seX10_looked : Cond.selects (xa_yn mX10_looked).cls (xa_yn mX10_looked) (xa_yn mX10_looked) ∈ xa_gw := xa_gw_mem 1230 (by decide +kernel) rfl
theorem qX10_pushed : Cond.code (xa_yn mX10_pushed) (xa_yc mX10_pushed) (xa_yl mX10_pushed) (xa_yr mX10_pushed) ∈ xa_gw ∧ Cond.initialized (xa_yn mX10_pushed).cls ∈ xa_gw ∧ ((xa_yn mX10_pushed).cls ≠ "java/lang/invoke/MethodHandle" ∧ (xa_yn mX10_pushed).cls ≠ "java/lang/invoke/VarHandle" ∧ (parseMethodDescriptor (xa_yn mX10_pushed).desc).map (fun d => d.parameters.length) = some (xa_yp mX10_pushed)) := ⟨xa_gw_mem 1235 (by decide +kernel) rfl, ziRX10, by decide +kernel, by decide +kernel, by decide +kernel⟩
theorem imX10_pushed : Cond.instanceMethod (xa_yn mX10_pushed) ∈ xa_gw := xa_gw_mem 1233 (by decide +kernel) rfl
theorem seX10_pushed : Cond.selects (xa_yn mX10_pushed).cls (xa_yn mX10_pushed) (xa_yn mX10_pushed) ∈ xa_gw := xa_gw_mem 1234 (by decide +kernel) rfl
theorem qX10_headOf : Cond.code (xa_yn mX10_headOf) (xa_yc mX10_headOf) (xa_yl mX10_headOf) (xa_yr mX10_headOf) ∈ xa_gw ∧ Cond.initialized (xa_yn mX10_headOf).cls ∈ xa_gw ∧ ((xa_yn mX10_headOf).cls ≠ "java/lang/invoke/MethodHandle" ∧ (xa_yn mX10_headOf).cls ≠ "java/lang/invoke/VarHandle" ∧ (parseMethodDescriptor (xa_yn mX10_headOf).desc).map (fun d => d.parameters.length) = some (xa_yp mX10_headOf)) := ⟨xa_gw_mem 1243 (by decide +kernel) rfl, ziRX10, by decide +kernel, by decide +kernel, by decide +kernel⟩
theorem imX10_headOf : Cond.instanceMethod (xa_yn mX10_headOf) ∈ xa_gw := xa_gw_mem 1242 (by decide +kernel) rfl
theorem seX10_headOf : Cond.selects (xa_yn mX10_headOf).cls (xa_yn mX10_headOf) (xa_yn mX10_headOf) ∈ xa_gw := xa_gw_mem 53 (by decide +kernel) rfl
theorem qX10_head : Cond.code (xa_yn mX10_head) (xa_yc mX10_head) (xa_yl mX10_head) (xa_yr mX10_head) ∈ xa_gw ∧ Cond.initialized (xa_yn mX10_head).cls ∈ xa_gw ∧ ((xa_yn mX10_head).cls ≠ "java/lang/invoke/MethodHandle" ∧ (xa_yn mX10_head).cls ≠ "java/lang/invoke/VarHandle" ∧ (parseMethodDescriptor (xa_yn mX10_head).desc).map (fun d => d.parameters.length) = some (xa_yp mX10_head)) := ⟨xa_gw_mem 1239 (by decide +kernel) rfl, ziRX10, by decide +kernel, by decide +kernel, by decide +kernel⟩
theorem imX10_head : Cond.instanceMethod (xa_yn mX10_head) ∈ xa_gw := xa_gw_mem 1237 (by decide +kernel) rfl
theorem seX10_head : Cond.selects (xa_yn mX10_head).cls (xa_yn mX10_head) (xa_yn mX10_head) ∈ xa_gw := xa_gw_mem 1238 (by decide +kernel) rfl
theorem qX10_down : Cond.code (xa_yn mX10_down) (xa_yc mX10_down) (xa_yl mX10_down) (xa_yr mX10_down) ∈ xa_gw ∧ Cond.initialized (xa_yn mX10_down).cls ∈ xa_gw ∧ ((xa_yn mX10_down).cls ≠ "java/lang/invoke/MethodHandle" ∧ (xa_yn mX10_down).cls ≠ "java/lang/invoke/VarHandle" ∧ (parseMethodDescriptor (xa_yn mX10_down).desc).map (fun d => d.parameters.length) = some (xa_yp mX10_down)) := ⟨xa_gw_mem 1247 (by decide +kernel) rfl, ziRX10, by decide +kernel, by decide +kernel, by decide +kernel⟩
theorem imX10_down : Cond.instanceMethod (xa_yn mX10_down) ∈ xa_gw := xa_gw_mem 1245 (by decide +kernel) rfl
theorem seX10_down : Cond.selects (xa_yn mX10_down).cls (xa_yn mX10_down) (xa_yn mX10_down) ∈ xa_gw := xa_gw_mem 1246 (by decide +kernel) rfl
theorem qX10_copy : Cond.code (xa_yn mX10_copy) (xa_yc mX10_copy) (xa_yl mX10_copy) (xa_yr mX10_copy) ∈ xa_gw ∧ Cond.initialized (xa_yn mX10_copy).cls ∈ xa_gw ∧ ((xa_yn mX10_copy).cls ≠ "java/lang/invoke/MethodHandle" ∧ (xa_yn mX10_copy).cls ≠ "java/lang/invoke/VarHandle" ∧ (parseMethodDescriptor (xa_yn mX10_copy).desc).map (fun d => d.parameters.length) = some (xa_yp mX10_copy)) := ⟨xa_gw_mem 1255 (by decide +kernel) rfl, ziRX10, by decide +kernel, by decide +kernel, by decide +kernel⟩
theorem imX10_copy : Cond.instanceMethod (xa_yn mX10_copy) ∈ xa_gw := xa_gw_mem 1254 (by decide +kernel) rfl
theorem seX10_copy : Cond.selects (xa_yn mX10_copy).cls (xa_yn mX10_copy) (xa_yn mX10_copy) ∈ xa_gw := xa_gw_mem 54 (by decide +kernel) rfl
theorem qX10_keep : Cond.code (xa_yn mX10_keep) (xa_yc mX10_keep) (xa_yl mX10_keep) (xa_yr mX10_keep) ∈ xa_gw ∧ Cond.initialized (xa_yn mX10_keep).cls ∈ xa_gw ∧ ((xa_yn mX10_keep).cls ≠ "java/lang/invoke/MethodHandle" ∧ (xa_yn mX10_keep).cls ≠ "java/lang/invoke/VarHandle" ∧ (parseMethodDescriptor (xa_yn mX10_keep).desc).map (fun d => d.parameters.length) = some (xa_yp mX10_keep)) := ⟨xa_gw_mem 1251 (by decide +kernel) rfl, ziRX10, by decide +kernel, by decide +kernel, by decide +kernel⟩
theorem imX10_keep : Cond.instanceMethod (xa_yn mX10_keep) ∈ xa_gw := xa_gw_mem 1249 (by decide +kernel) rfl
theorem seX10_keep : Cond.selects (xa_yn mX10_keep).cls (xa_yn mX10_keep) (xa_yn mX10_keep) ∈ xa_gw := xa_gw_mem 1250 (by decide +kernel) rfl
theorem qX10_back : Cond.code (xa_yn mX10_back) (xa_yc mX10_back) (xa_yl mX10_back) (xa_yr mX10_back) ∈ xa_gw ∧ Cond.initialized (xa_yn mX10_back).cls ∈ xa_gw ∧ ((xa_yn mX10_back).cls ≠ "java/lang/invoke/MethodHandle" ∧ (xa_yn mX10_back).cls ≠ "java/lang/invoke/VarHandle" ∧ (parseMethodDescriptor (xa_yn mX10_back).desc).map (fun d => d.parameters.length) = some (xa_yp mX10_back)) := ⟨xa_gw_mem 1259 (by decide +kernel) rfl, ziRX10, by decide +kernel, by decide +kernel, by decide +kernel⟩
theorem imX10_back : Cond.instanceMethod (xa_yn mX10_back) ∈ xa_gw := xa_gw_mem 1257 (by decide +kernel) rfl
theorem seX10_back : Cond.selects (xa_yn mX10_back).cls (xa_yn mX10_back) (xa_yn mX10_back) ∈ xa_gw := xa_gw_mem 1258 (by decide +kernel) rfl
theorem qX10_count : Cond.code (xa_yn mX10_count) (xa_yc mX10_count) (xa_yl mX10_count) (xa_yr mX10_count) ∈ xa_gw ∧ Cond.initialized (xa_yn mX10_count).cls ∈ xa_gw ∧ ((xa_yn mX10_count).cls ≠ "java/lang/invoke/MethodHandle" ∧ (xa_yn mX10_count).cls ≠ "java/lang/invoke/VarHandle" ∧ (parseMethodDescriptor (xa_yn mX10_count).desc).map (fun d => d.parameters.length) = some (xa_yp mX10_count)) := ⟨xa_gw_mem 1263 (by decide +kernel) rfl, ziRX10, by decide +kernel, by decide +kernel, by decide +kernel⟩
theorem imX10_count : Cond.instanceMethod (xa_yn mX10_count) ∈ xa_gw := xa_gw_mem 1261 (by decide +kernel) rfl
theorem seX10_count : Cond.selects (xa_yn mX10_count).cls (xa_yn mX10_count) (xa_yn mX10_count) ∈ xa_gw := xa_gw_mem 1262 (by decide +kernel) rfl
theorem qJ9_floorMod_7cf53 : Cond.code (xa_yn mJ9_floorMod_7cf53) (xa_yc mJ9_floorMod_7cf53) (xa_yl mJ9_floorMod_7cf53) (xa_yr mJ9_floorMod_7cf53) ∈ xa_gw ∧ Cond.initialized (xa_yn mJ9_floorMod_7cf53).cls ∈ xa_gw ∧ ((xa_yn mJ9_floorMod_7cf53).cls ≠ "java/lang/invoke/MethodHandle" ∧ (xa_yn mJ9_floorMod_7cf53).cls ≠ "java/lang/invoke/VarHandle" ∧ (parseMethodDescriptor (xa_yn mJ9_floorMod_7cf53).desc).map (fun d => d.parameters.length) = some (xa_yp mJ9_floorMod_7cf53)) := ⟨xa_gw_mem 585 (by decide +kernel) rfl, ziRJ9, by decide +kernel, by decide +kernel, by decide +kernel⟩
theorem smJ9_floorMod_7cf53 : Cond.static (xa_yn mJ9_floorMod_7cf53) ∈ xa_gw := xa_gw_mem 584 (by decide +kernel) rfl
theorem qJ9_abs_0f7a4 : Cond.code (xa_yn mJ9_abs_0f7a4) (xa_yc mJ9_abs_0f7a4) (xa_yl mJ9_abs_0f7a4) (xa_yr mJ9_abs_0f7a4) ∈ xa_gw ∧ Cond.initialized (xa_yn mJ9_abs_0f7a4).cls ∈ xa_gw ∧ ((xa_yn mJ9_abs_0f7a4).cls ≠ "java/lang/invoke/MethodHandle" ∧ (xa_yn mJ9_abs_0f7a4).cls ≠ "java/lang/invoke/VarHandle" ∧ (parseMethodDescriptor (xa_yn mJ9_abs_0f7a4).desc).map (fun d => d.parameters.length) = some (xa_yp mJ9_abs_0f7a4)) := ⟨xa_gw_mem 796 (by decide +kernel) rfl, ziRJ9, by decide +kernel, by decide +kernel, by decide +kernel⟩
theorem smJ9_abs_0f7a4 : Cond.static (xa_yn mJ9_abs_0f7a4) ∈ xa_gw := xa_gw_mem 795 (by decide +kernel) rfl
theorem qJ9_max_7cf53 : Cond.code (xa_yn mJ9_max_7cf53) (xa_yc mJ9_max_7cf53) (xa_yl mJ9_max_7cf53) (xa_yr mJ9_max_7cf53) ∈ xa_gw ∧ Cond.initialized (xa_yn mJ9_max_7cf53).cls ∈ xa_gw ∧ ((xa_yn mJ9_max_7cf53).cls ≠ "java/lang/invoke/MethodHandle" ∧ (xa_yn mJ9_max_7cf53).cls ≠ "java/lang/invoke/VarHandle" ∧ (parseMethodDescriptor (xa_yn mJ9_max_7cf53).desc).map (fun d => d.parameters.length) = some (xa_yp mJ9_max_7cf53)) := ⟨xa_gw_mem 555 (by decide +kernel) rfl, ziRJ9, by decide +kernel, by decide +kernel, by decide +kernel⟩
theorem smJ9_max_7cf53 : Cond.static (xa_yn mJ9_max_7cf53) ∈ xa_gw := xa_gw_mem 554 (by decide +kernel) rfl
theorem qJ9_min_7cf53 : Cond.code (xa_yn mJ9_min_7cf53) (xa_yc mJ9_min_7cf53) (xa_yl mJ9_min_7cf53) (xa_yr mJ9_min_7cf53) ∈ xa_gw ∧ Cond.initialized (xa_yn mJ9_min_7cf53).cls ∈ xa_gw ∧ ((xa_yn mJ9_min_7cf53).cls ≠ "java/lang/invoke/MethodHandle" ∧ (xa_yn mJ9_min_7cf53).cls ≠ "java/lang/invoke/VarHandle" ∧ (parseMethodDescriptor (xa_yn mJ9_min_7cf53).desc).map (fun d => d.parameters.length) = some (xa_yp mJ9_min_7cf53)) := ⟨xa_gw_mem 565 (by decide +kernel) rfl, ziRJ9, by decide +kernel, by decide +kernel, by decide +kernel⟩
theorem smJ9_min_7cf53 : Cond.static (xa_yn mJ9_min_7cf53) ∈ xa_gw := xa_gw_mem 564 (by decide +kernel) rfl
theorem qJ7_fill_53178 : Cond.code (xa_yn mJ7_fill_53178) (xa_yc mJ7_fill_53178) (xa_yl mJ7_fill_53178) (xa_yr mJ7_fill_53178) ∈ xa_gw ∧ Cond.initialized (xa_yn mJ7_fill_53178).cls ∈ xa_gw ∧ ((xa_yn mJ7_fill_53178).cls ≠ "java/lang/invoke/MethodHandle" ∧ (xa_yn mJ7_fill_53178).cls ≠ "java/lang/invoke/VarHandle" ∧ (parseMethodDescriptor (xa_yn mJ7_fill_53178).desc).map (fun d => d.parameters.length) = some (xa_yp mJ7_fill_53178)) := ⟨xa_gw_mem 475 (by decide +kernel) rfl, ziRJ7, by decide +kernel, by decide +kernel, by decide +kernel⟩
theorem smJ7_fill_53178 : Cond.static (xa_yn mJ7_fill_53178) ∈ xa_gw := xa_gw_mem 474 (by decide +kernel) rfl
theorem lkRL_9 : Cond.methodLink "CatThatTurnsLaw" 9 (xa_yn mX9_init) ∈ xa_gw ∨ ∃ host, ("CatThatTurnsLaw", 9, xa_yn mX9_init, host) ∈ xa_nM := Or.inl (xa_gw_mem 71 (by decide +kernel) rfl)
theorem lkRX9_3 : Cond.methodLink "CatThatTurns" 3 objectInit ∈ xa_gw := xa_gw_mem 74 (by decide +kernel) rfl
theorem lkRX9_11 : Cond.methodLink "CatThatTurns" 11 (xa_yn mX7_init) ∈ xa_gw ∨ ∃ host, ("CatThatTurns", 11, xa_yn mX7_init, host) ∈ xa_nM := Or.inr ⟨"CatThatTurns", by decide +kernel⟩
theorem lkRX7_3 : Cond.methodLink "CatThatTurns$Text" 3 objectInit ∈ xa_gw := xa_gw_mem 82 (by decide +kernel) rfl
theorem lkRX9_18 : Cond.methodLink "CatThatTurns" 18 (xa_yn mX0_init) ∈ xa_gw ∨ ∃ host, ("CatThatTurns", 18, xa_yn mX0_init, host) ∈ xa_nM := Or.inr ⟨"CatThatTurns", by decide +kernel⟩
theorem lkRX0_3 : Cond.methodLink "CatThatTurns$Body" 3 objectInit ∈ xa_gw := xa_gw_mem 98 (by decide +kernel) rfl
theorem lkRX9_28 : Cond.methodLink "CatThatTurns" 28 (xa_yn mX2_init) ∈ xa_gw ∨ ∃ host, ("CatThatTurns", 28, xa_yn mX2_init, host) ∈ xa_nM := Or.inl (xa_gw_mem 139 (by decide +kernel) rfl)
theorem lkRX2_3 : Cond.methodLink "CatThatTurns$Reader" 3 objectInit ∈ xa_gw := xa_gw_mem 142 (by decide +kernel) rfl
theorem lkRX9_37 : Cond.methodLink "CatThatTurns" 37 (xa_yn mX5_init) ∈ xa_gw ∨ ∃ host, ("CatThatTurns", 37, xa_yn mX5_init, host) ∈ xa_nM := Or.inr ⟨"CatThatTurns", by decide +kernel⟩
theorem lkRX5_3 : Cond.methodLink "CatThatTurns$Sheet" 3 objectInit ∈ xa_gw := xa_gw_mem 161 (by decide +kernel) rfl
theorem lkRX9_48 : Cond.methodLink "CatThatTurns" 48 (xa_yn mX8_init) ∈ xa_gw ∨ ∃ host, ("CatThatTurns", 48, xa_yn mX8_init, host) ∈ xa_nM := Or.inl (xa_gw_mem 180 (by decide +kernel) rfl)
theorem lkRX8_3 : Cond.methodLink "CatThatTurns$Trace" 3 objectInit ∈ xa_gw := xa_gw_mem 183 (by decide +kernel) rfl
theorem lkRX8_27 : Cond.methodLink "CatThatTurns$Trace" 27 (xa_yn mX4_init) ∈ xa_gw ∨ ∃ host, ("CatThatTurns$Trace", 27, xa_yn mX4_init, host) ∈ xa_nM := Or.inl (xa_gw_mem 186 (by decide +kernel) rfl)
theorem lkRX4_3 : Cond.methodLink "CatThatTurns$Shape" 3 objectInit ∈ xa_gw := xa_gw_mem 189 (by decide +kernel) rfl
theorem lkRX9_61 : Cond.methodLink "CatThatTurns" 61 (xa_yn mX1_init) ∈ xa_gw ∨ ∃ host, ("CatThatTurns", 61, xa_yn mX1_init, host) ∈ xa_nM := Or.inl (xa_gw_mem 233 (by decide +kernel) rfl)
theorem lkRX1_3 : Cond.methodLink "CatThatTurns$Loops" 3 objectInit ∈ xa_gw := xa_gw_mem 236 (by decide +kernel) rfl
theorem lkRX1_17 : Cond.methodLink "CatThatTurns$Loops" 17 (xa_yn mX4_init) ∈ xa_gw ∨ ∃ host, ("CatThatTurns$Loops", 17, xa_yn mX4_init, host) ∈ xa_nM := Or.inl (xa_gw_mem 238 (by decide +kernel) rfl)
theorem lkRX9_68 : Cond.methodLink "CatThatTurns" 68 (xa_yn mX3_init) ∈ xa_gw ∨ ∃ host, ("CatThatTurns", 68, xa_yn mX3_init, host) ∈ xa_nM := Or.inl (xa_gw_mem 248 (by decide +kernel) rfl)
theorem lkRX3_5 : Cond.methodLink "CatThatTurns$Search" 5 objectInit ∈ xa_gw := xa_gw_mem 251 (by decide +kernel) rfl
theorem lkRX3_27 : Cond.methodLink "CatThatTurns$Search" 27 (xa_yn mX6_init) ∈ xa_gw ∨ ∃ host, ("CatThatTurns$Search", 27, xa_yn mX6_init, host) ∈ xa_nM := Or.inl (xa_gw_mem 254 (by decide +kernel) rfl)
theorem lkRX6_3 : Cond.methodLink "CatThatTurns$Table" 3 objectInit ∈ xa_gw := xa_gw_mem 257 (by decide +kernel) rfl
theorem lkRX6_34 : Cond.methodLink "CatThatTurns$Table" 34 (xa_yn mX4_init) ∈ xa_gw ∨ ∃ host, ("CatThatTurns$Table", 34, xa_yn mX4_init, host) ∈ xa_nM := Or.inl (xa_gw_mem 259 (by decide +kernel) rfl)
theorem lkRX9_81 : Cond.methodLink "CatThatTurns" 81 (xa_yn mX0_takesPart) ∈ xa_gw ∨ ∃ host, ("CatThatTurns", 81, xa_yn mX0_takesPart, host) ∈ xa_nM := Or.inl (xa_gw_mem 329 (by decide +kernel) rfl)
theorem lkRX0_37 : Cond.methodLink "CatThatTurns$Body" 37 (xa_yn mX9_isWithin) ∈ xa_gw ∨ ∃ host, ("CatThatTurns$Body", 37, xa_yn mX9_isWithin, host) ∈ xa_nM := Or.inr ⟨"CatThatTurns", by decide +kernel⟩
theorem lkRX9_85 : Cond.methodLink "CatThatTurns" 85 (xa_yn mX0_takesBend) ∈ xa_gw ∨ ∃ host, ("CatThatTurns", 85, xa_yn mX0_takesBend, host) ∈ xa_nM := Or.inl (xa_gw_mem 336 (by decide +kernel) rfl)
theorem lkRX0_41 : Cond.methodLink "CatThatTurns$Body" 41 (xa_yn mX0_takesJoint) ∈ xa_gw ∨ ∃ host, ("CatThatTurns$Body", 41, xa_yn mX0_takesJoint, host) ∈ xa_nM := Or.inl (xa_gw_mem 340 (by decide +kernel) rfl)
theorem lkRL_15 : Cond.methodLink "CatThatTurnsLaw" 15 (xa_yn mX9_write) ∈ xa_gw ∨ ∃ host, ("CatThatTurnsLaw", 15, xa_yn mX9_write, host) ∈ xa_nM := Or.inl (xa_gw_mem 384 (by decide +kernel) rfl)
theorem lkRX9_89 : Cond.methodLink "CatThatTurns" 89 (xa_yn mX9_isWithin) ∈ xa_gw ∨ ∃ host, ("CatThatTurns", 89, xa_yn mX9_isWithin, host) ∈ xa_nM := Or.inl (xa_gw_mem 388 (by decide +kernel) rfl)
theorem lkRX9_92 : Cond.methodLink "CatThatTurns" 92 (xa_yn mX7_takesBytes) ∈ xa_gw ∨ ∃ host, ("CatThatTurns", 92, xa_yn mX7_takesBytes, host) ∈ xa_nM := Or.inl (xa_gw_mem 389 (by decide +kernel) rfl)
theorem lkRL_20 : Cond.methodLink "CatThatTurnsLaw" 20 (xa_yn mX9_wipe) ∈ xa_gw ∨ ∃ host, ("CatThatTurnsLaw", 20, xa_yn mX9_wipe, host) ∈ xa_nM := Or.inl (xa_gw_mem 393 (by decide +kernel) rfl)
theorem lkRL_25 : Cond.methodLink "CatThatTurnsLaw" 25 (xa_yn mX9_fault) ∈ xa_gw ∨ ∃ host, ("CatThatTurnsLaw", 25, xa_yn mX9_fault, host) ∈ xa_nM := Or.inl (xa_gw_mem 397 (by decide +kernel) rfl)
theorem lkRX9_100 : Cond.methodLink "CatThatTurns" 100 (xa_yn mX2_firstFault) ∈ xa_gw ∨ ∃ host, ("CatThatTurns", 100, xa_yn mX2_firstFault, host) ∈ xa_nM := Or.inl (xa_gw_mem 401 (by decide +kernel) rfl)
theorem lkRX2_23 : Cond.methodLink "CatThatTurns$Reader" 23 (xa_yn mX0_empty) ∈ xa_gw ∨ ∃ host, ("CatThatTurns$Reader", 23, xa_yn mX0_empty, host) ∈ xa_nM := Or.inl (xa_gw_mem 405 (by decide +kernel) rfl)
theorem lkRX2_37 : Cond.methodLink "CatThatTurns$Reader" 37 (xa_yn mX2_readsItem) ∈ xa_gw ∨ ∃ host, ("CatThatTurns$Reader", 37, xa_yn mX2_readsItem, host) ∈ xa_nM := Or.inl (xa_gw_mem 409 (by decide +kernel) rfl)
theorem lkRX2_41 : Cond.methodLink "CatThatTurns$Reader" 41 (xa_yn mX7_byteAt) ∈ xa_gw ∨ ∃ host, ("CatThatTurns$Reader", 41, xa_yn mX7_byteAt, host) ∈ xa_nM := Or.inl (xa_gw_mem 413 (by decide +kernel) rfl)
theorem lkRX2_45 : Cond.methodLink "CatThatTurns$Reader" 45 (xa_yn mX2_readsNumber) ∈ xa_gw ∨ ∃ host, ("CatThatTurns$Reader", 45, xa_yn mX2_readsNumber, host) ∈ xa_nM := Or.inl (xa_gw_mem 417 (by decide +kernel) rfl)
theorem lkRX2_53 : Cond.methodLink "CatThatTurns$Reader" 53 (xa_yn mX9_isWithin) ∈ xa_gw ∨ ∃ host, ("CatThatTurns$Reader", 53, xa_yn mX9_isWithin, host) ∈ xa_nM := Or.inr ⟨"CatThatTurns", by decide +kernel⟩
theorem lkRX2_49 : Cond.methodLink "CatThatTurns$Reader" 49 (xa_yn mX2_takesItem) ∈ xa_gw ∨ ∃ host, ("CatThatTurns$Reader", 49, xa_yn mX2_takesItem, host) ∈ xa_nM := Or.inl (xa_gw_mem 422 (by decide +kernel) rfl)
theorem lkRX2_57 : Cond.methodLink "CatThatTurns$Reader" 57 (xa_yn mX0_takesPart) ∈ xa_gw ∨ ∃ host, ("CatThatTurns$Reader", 57, xa_yn mX0_takesPart, host) ∈ xa_nM := Or.inl (xa_gw_mem 426 (by decide +kernel) rfl)
theorem lkRX2_60 : Cond.methodLink "CatThatTurns$Reader" 60 (xa_yn mX0_takesBend) ∈ xa_gw ∨ ∃ host, ("CatThatTurns$Reader", 60, xa_yn mX0_takesBend, host) ∈ xa_nM := Or.inl (xa_gw_mem 427 (by decide +kernel) rfl)
theorem lkRX2_63 : Cond.methodLink "CatThatTurns$Reader" 63 (xa_yn mX0_takesWag) ∈ xa_gw ∨ ∃ host, ("CatThatTurns$Reader", 63, xa_yn mX0_takesWag, host) ∈ xa_nM := Or.inl (xa_gw_mem 428 (by decide +kernel) rfl)
theorem lkRX0_48 : Cond.methodLink "CatThatTurns$Body" 48 (xa_yn mX9_cut) ∈ xa_gw ∨ ∃ host, ("CatThatTurns$Body", 48, xa_yn mX9_cut, host) ∈ xa_nM := Or.inr ⟨"CatThatTurns", by decide +kernel⟩
theorem lkRX2_66 : Cond.methodLink "CatThatTurns$Reader" 66 (xa_yn mX0_takesPush) ∈ xa_gw ∨ ∃ host, ("CatThatTurns$Reader", 66, xa_yn mX0_takesPush, host) ∈ xa_nM := Or.inl (xa_gw_mem 437 (by decide +kernel) rfl)
theorem lkRX2_69 : Cond.methodLink "CatThatTurns$Reader" 69 (xa_yn mX0_takesRight) ∈ xa_gw ∨ ∃ host, ("CatThatTurns$Reader", 69, xa_yn mX0_takesRight, host) ∈ xa_nM := Or.inl (xa_gw_mem 441 (by decide +kernel) rfl)
theorem lkRL_29 : Cond.methodLink "CatThatTurnsLaw" 29 (xa_yn mX9_lay) ∈ xa_gw ∨ ∃ host, ("CatThatTurnsLaw", 29, xa_yn mX9_lay, host) ∈ xa_nM := Or.inl (xa_gw_mem 445 (by decide +kernel) rfl)
theorem lkRX9_104 : Cond.methodLink "CatThatTurns" 104 (xa_yn mX0_isWhole) ∈ xa_gw ∨ ∃ host, ("CatThatTurns", 104, xa_yn mX0_isWhole, host) ∈ xa_nM := Or.inl (xa_gw_mem 449 (by decide +kernel) rfl)
theorem lkRX9_108 : Cond.methodLink "CatThatTurns" 108 (xa_yn mX0_isAs) ∈ xa_gw ∨ ∃ host, ("CatThatTurns", 108, xa_yn mX0_isAs, host) ∈ xa_nM := Or.inl (xa_gw_mem 453 (by decide +kernel) rfl)
theorem lkRX0_58 : Cond.methodLink "CatThatTurns$Body" 58 (xa_yn mX0_stepOf) ∈ xa_gw ∨ ∃ host, ("CatThatTurns$Body", 58, xa_yn mX0_stepOf, host) ∈ xa_nM := Or.inl (xa_gw_mem 457 (by decide +kernel) rfl)
theorem lkRX9_112 : Cond.methodLink "CatThatTurns" 112 (xa_yn mX0_copyBody) ∈ xa_gw ∨ ∃ host, ("CatThatTurns", 112, xa_yn mX0_copyBody, host) ∈ xa_nM := Or.inl (xa_gw_mem 461 (by decide +kernel) rfl)
theorem lkRX9_115 : Cond.methodLink "CatThatTurns" 115 (xa_yn mX3_forget) ∈ xa_gw ∨ ∃ host, ("CatThatTurns", 115, xa_yn mX3_forget, host) ∈ xa_nM := Or.inl (xa_gw_mem 465 (by decide +kernel) rfl)
theorem lkRX9_118 : Cond.methodLink "CatThatTurns" 118 (xa_yn mX5_clear) ∈ xa_gw ∨ ∃ host, ("CatThatTurns", 118, xa_yn mX5_clear, host) ∈ xa_nM := Or.inl (xa_gw_mem 469 (by decide +kernel) rfl)
theorem lkRX5_21 : Cond.methodLink "CatThatTurns$Sheet" 21 (xa_yn mJ7_fill_53178) ∈ xa_gw ∨ ∃ host, ("CatThatTurns$Sheet", 21, xa_yn mJ7_fill_53178, host) ∈ xa_nM := Or.inl (xa_gw_mem 473 (by decide +kernel) rfl)
theorem lkRL_33 : Cond.methodLink "CatThatTurnsLaw" 33 (xa_yn mX9_load) ∈ xa_gw ∨ ∃ host, ("CatThatTurnsLaw", 33, xa_yn mX9_load, host) ∈ xa_nM := Or.inl (xa_gw_mem 476 (by decide +kernel) rfl)
theorem lkRX9_127 : Cond.methodLink "CatThatTurns" 127 (xa_yn mX9_isPart) ∈ xa_gw ∨ ∃ host, ("CatThatTurns", 127, xa_yn mX9_isPart, host) ∈ xa_nM := Or.inl (xa_gw_mem 480 (by decide +kernel) rfl)
theorem lkRX9_130 : Cond.methodLink "CatThatTurns" 130 (xa_yn mX0_loadOf) ∈ xa_gw ∨ ∃ host, ("CatThatTurns", 130, xa_yn mX0_loadOf, host) ∈ xa_nM := Or.inl (xa_gw_mem 484 (by decide +kernel) rfl)
theorem lkRL_38 : Cond.methodLink "CatThatTurnsLaw" 38 (xa_yn mX9_joint) ∈ xa_gw ∨ ∃ host, ("CatThatTurnsLaw", 38, xa_yn mX9_joint, host) ∈ xa_nM := Or.inl (xa_gw_mem 488 (by decide +kernel) rfl)
theorem lkRX9_134 : Cond.methodLink "CatThatTurns" 134 (xa_yn mX9_isJoint) ∈ xa_gw ∨ ∃ host, ("CatThatTurns", 134, xa_yn mX9_isJoint, host) ∈ xa_nM := Or.inl (xa_gw_mem 492 (by decide +kernel) rfl)
theorem lkRX9_137 : Cond.methodLink "CatThatTurns" 137 (xa_yn mX0_stepOf) ∈ xa_gw ∨ ∃ host, ("CatThatTurns", 137, xa_yn mX0_stepOf, host) ∈ xa_nM := Or.inl (xa_gw_mem 496 (by decide +kernel) rfl)
theorem lkRX9_141 : Cond.methodLink "CatThatTurns" 141 (xa_yn mX0_isWagging) ∈ xa_gw ∨ ∃ host, ("CatThatTurns", 141, xa_yn mX0_isWagging, host) ∈ xa_nM := Or.inl (xa_gw_mem 497 (by decide +kernel) rfl)
theorem lkRL_42 : Cond.methodLink "CatThatTurnsLaw" 42 (xa_yn mX9_begun) ∈ xa_gw ∨ ∃ host, ("CatThatTurnsLaw", 42, xa_yn mX9_begun, host) ∈ xa_nM := Or.inl (xa_gw_mem 501 (by decide +kernel) rfl)
theorem lkRL_47 : Cond.methodLink "CatThatTurnsLaw" 47 (xa_yn mX9_move) ∈ xa_gw ∨ ∃ host, ("CatThatTurnsLaw", 47, xa_yn mX9_move, host) ∈ xa_nM := Or.inl (xa_gw_mem 505 (by decide +kernel) rfl)
theorem lkRX9_150 : Cond.methodLink "CatThatTurns" 150 (xa_yn mX9_isWay) ∈ xa_gw ∨ ∃ host, ("CatThatTurns", 150, xa_yn mX9_isWay, host) ∈ xa_nM := Or.inl (xa_gw_mem 509 (by decide +kernel) rfl)
theorem lkRX9_153 : Cond.methodLink "CatThatTurns" 153 (xa_yn mX5_addMove) ∈ xa_gw ∨ ∃ host, ("CatThatTurns", 153, xa_yn mX5_addMove, host) ∈ xa_nM := Or.inl (xa_gw_mem 512 (by decide +kernel) rfl)
theorem lkRX9_157 : Cond.methodLink "CatThatTurns" 157 (xa_yn mX5_lengthOf) ∈ xa_gw ∨ ∃ host, ("CatThatTurns", 157, xa_yn mX5_lengthOf, host) ∈ xa_nM := Or.inl (xa_gw_mem 516 (by decide +kernel) rfl)
theorem lkRL_51 : Cond.methodLink "CatThatTurnsLaw" 51 (xa_yn mX9_noWay) ∈ xa_gw ∨ ∃ host, ("CatThatTurnsLaw", 51, xa_yn mX9_noWay, host) ∈ xa_nM := Or.inl (xa_gw_mem 520 (by decide +kernel) rfl)
theorem lkRX9_160 : Cond.methodLink "CatThatTurns" 160 (xa_yn mX5_clearWay) ∈ xa_gw ∨ ∃ host, ("CatThatTurns", 160, xa_yn mX5_clearWay, host) ∈ xa_nM := Or.inl (xa_gw_mem 524 (by decide +kernel) rfl)
theorem lkRX5_31 : Cond.methodLink "CatThatTurns$Sheet" 31 (xa_yn mX5_lengthOf) ∈ xa_gw ∨ ∃ host, ("CatThatTurns$Sheet", 31, xa_yn mX5_lengthOf, host) ∈ xa_nM := Or.inl (xa_gw_mem 528 (by decide +kernel) rfl)
theorem lkRL_55 : Cond.methodLink "CatThatTurnsLaw" 55 (xa_yn mX9_turn) ∈ xa_gw ∨ ∃ host, ("CatThatTurnsLaw", 55, xa_yn mX9_turn, host) ∈ xa_nM := Or.inl (xa_gw_mem 529 (by decide +kernel) rfl)
theorem lkRX9_163 : Cond.methodLink "CatThatTurns" 163 (xa_yn mX9_isTurn) ∈ xa_gw ∨ ∃ host, ("CatThatTurns", 163, xa_yn mX9_isTurn, host) ∈ xa_nM := Or.inl (xa_gw_mem 533 (by decide +kernel) rfl)
theorem lkRX9_166 : Cond.methodLink "CatThatTurns" 166 (xa_yn mX8_follow) ∈ xa_gw ∨ ∃ host, ("CatThatTurns", 166, xa_yn mX8_follow, host) ∈ xa_nM := Or.inl (xa_gw_mem 536 (by decide +kernel) rfl)
theorem lkRX8_34 : Cond.methodLink "CatThatTurns$Trace" 34 (xa_yn mX4_rest) ∈ xa_gw ∨ ∃ host, ("CatThatTurns$Trace", 34, xa_yn mX4_rest, host) ∈ xa_nM := Or.inl (xa_gw_mem 540 (by decide +kernel) rfl)
theorem lkRX4_22 : Cond.methodLink "CatThatTurns$Shape" 22 (xa_yn mJ7_fill_53178) ∈ xa_gw ∨ ∃ host, ("CatThatTurns$Shape", 22, xa_yn mJ7_fill_53178, host) ∈ xa_nM := Or.inl (xa_gw_mem 544 (by decide +kernel) rfl)
theorem lkRX8_41 : Cond.methodLink "CatThatTurns$Trace" 41 (xa_yn mX8_note) ∈ xa_gw ∨ ∃ host, ("CatThatTurns$Trace", 41, xa_yn mX8_note, host) ∈ xa_nM := Or.inl (xa_gw_mem 545 (by decide +kernel) rfl)
theorem lkRX8_72 : Cond.methodLink "CatThatTurns$Trace" 72 (xa_yn mX4_loadFrom) ∈ xa_gw ∨ ∃ host, ("CatThatTurns$Trace", 72, xa_yn mX4_loadFrom, host) ∈ xa_nM := Or.inl (xa_gw_mem 549 (by decide +kernel) rfl)
theorem lkRX4_44 : Cond.methodLink "CatThatTurns$Shape" 44 (xa_yn mJ9_max_7cf53) ∈ xa_gw ∨ ∃ host, ("CatThatTurns$Shape", 44, xa_yn mJ9_max_7cf53, host) ∈ xa_nM := Or.inl (xa_gw_mem 553 (by decide +kernel) rfl)
theorem lkRX4_50 : Cond.methodLink "CatThatTurns$Shape" 50 (xa_yn mX0_loadOf) ∈ xa_gw ∨ ∃ host, ("CatThatTurns$Shape", 50, xa_yn mX0_loadOf, host) ∈ xa_nM := Or.inl (xa_gw_mem 556 (by decide +kernel) rfl)
theorem lkRX8_80 : Cond.methodLink "CatThatTurns$Trace" 80 (xa_yn mX4_bentTo) ∈ xa_gw ∨ ∃ host, ("CatThatTurns$Trace", 80, xa_yn mX4_bentTo, host) ∈ xa_nM := Or.inl (xa_gw_mem 557 (by decide +kernel) rfl)
theorem lkRX4_53 : Cond.methodLink "CatThatTurns$Shape" 53 (xa_yn mX0_stepOf) ∈ xa_gw ∨ ∃ host, ("CatThatTurns$Shape", 53, xa_yn mX0_stepOf, host) ∈ xa_nM := Or.inl (xa_gw_mem 561 (by decide +kernel) rfl)
theorem lkRX8_45 : Cond.methodLink "CatThatTurns$Trace" 45 (xa_yn mX5_lengthOf) ∈ xa_gw ∨ ∃ host, ("CatThatTurns$Trace", 45, xa_yn mX5_lengthOf, host) ∈ xa_nM := Or.inl (xa_gw_mem 562 (by decide +kernel) rfl)
theorem lkRX8_51 : Cond.methodLink "CatThatTurns$Trace" 51 (xa_yn mJ9_min_7cf53) ∈ xa_gw ∨ ∃ host, ("CatThatTurns$Trace", 51, xa_yn mJ9_min_7cf53, host) ∈ xa_nM := Or.inl (xa_gw_mem 563 (by decide +kernel) rfl)
theorem lkRX8_57 : Cond.methodLink "CatThatTurns$Trace" 57 (xa_yn mX5_moveAt) ∈ xa_gw ∨ ∃ host, ("CatThatTurns$Trace", 57, xa_yn mX5_moveAt, host) ∈ xa_nM := Or.inl (xa_gw_mem 566 (by decide +kernel) rfl)
theorem lkRX8_60 : Cond.methodLink "CatThatTurns$Trace" 60 (xa_yn mX4_makes) ∈ xa_gw ∨ ∃ host, ("CatThatTurns$Trace", 60, xa_yn mX4_makes, host) ∈ xa_nM := Or.inl (xa_gw_mem 570 (by decide +kernel) rfl)
theorem lkRX4_66 : Cond.methodLink "CatThatTurns$Shape" 66 (xa_yn mX4_makesPose) ∈ xa_gw ∨ ∃ host, ("CatThatTurns$Shape", 66, xa_yn mX4_makesPose, host) ∈ xa_nM := Or.inl (xa_gw_mem 574 (by decide +kernel) rfl)
theorem lkRX4_70 : Cond.methodLink "CatThatTurns$Shape" 70 (xa_yn mX4_makesStep) ∈ xa_gw ∨ ∃ host, ("CatThatTurns$Shape", 70, xa_yn mX4_makesStep, host) ∈ xa_nM := Or.inl (xa_gw_mem 578 (by decide +kernel) rfl)
theorem lkRX4_73 : Cond.methodLink "CatThatTurns$Shape" 73 (xa_yn mX0_isWagging) ∈ xa_gw ∨ ∃ host, ("CatThatTurns$Shape", 73, xa_yn mX0_isWagging, host) ∈ xa_nM := Or.inl (xa_gw_mem 582 (by decide +kernel) rfl)
theorem lkRX4_80 : Cond.methodLink "CatThatTurns$Shape" 80 (xa_yn mJ9_floorMod_7cf53) ∈ xa_gw ∨ ∃ host, ("CatThatTurns$Shape", 80, xa_yn mJ9_floorMod_7cf53, host) ∈ xa_nM := Or.inl (xa_gw_mem 583 (by decide +kernel) rfl)
theorem lkRX4_83 : Cond.methodLink "CatThatTurns$Shape" 83 (xa_yn mX9_isWithin) ∈ xa_gw ∨ ∃ host, ("CatThatTurns$Shape", 83, xa_yn mX9_isWithin, host) ∈ xa_nM := Or.inr ⟨"CatThatTurns", by decide +kernel⟩
theorem lkRX8_64 : Cond.methodLink "CatThatTurns$Trace" 64 (xa_yn mX4_lastTurn) ∈ xa_gw ∨ ∃ host, ("CatThatTurns$Trace", 64, xa_yn mX4_lastTurn, host) ∈ xa_nM := Or.inl (xa_gw_mem 587 (by decide +kernel) rfl)
theorem lkRX4_60 : Cond.methodLink "CatThatTurns$Shape" 60 (xa_yn mX4_loadFrom) ∈ xa_gw ∨ ∃ host, ("CatThatTurns$Shape", 60, xa_yn mX4_loadFrom, host) ∈ xa_nM := Or.inl (xa_gw_mem 591 (by decide +kernel) rfl)
theorem lkRX4_63 : Cond.methodLink "CatThatTurns$Shape" 63 (xa_yn mX9_cut) ∈ xa_gw ∨ ∃ host, ("CatThatTurns$Shape", 63, xa_yn mX9_cut, host) ∈ xa_nM := Or.inr ⟨"CatThatTurns", by decide +kernel⟩
theorem lkRX9_173 : Cond.methodLink "CatThatTurns" 173 (xa_yn mX8_drift) ∈ xa_gw ∨ ∃ host, ("CatThatTurns", 173, xa_yn mX8_drift, host) ∈ xa_nM := Or.inl (xa_gw_mem 593 (by decide +kernel) rfl)
theorem lkRX8_83 : Cond.methodLink "CatThatTurns$Trace" 83 (xa_yn mX9_cut) ∈ xa_gw ∨ ∃ host, ("CatThatTurns$Trace", 83, xa_yn mX9_cut, host) ∈ xa_nM := Or.inr ⟨"CatThatTurns", by decide +kernel⟩
theorem lkRX9_177 : Cond.methodLink "CatThatTurns" 177 (xa_yn mX8_turnOf) ∈ xa_gw ∨ ∃ host, ("CatThatTurns", 177, xa_yn mX8_turnOf, host) ∈ xa_nM := Or.inl (xa_gw_mem 598 (by decide +kernel) rfl)
theorem lkRX9_180 : Cond.methodLink "CatThatTurns" 180 (xa_yn mJ9_floorMod_7cf53) ∈ xa_gw ∨ ∃ host, ("CatThatTurns", 180, xa_yn mJ9_floorMod_7cf53, host) ∈ xa_nM := Or.inl (xa_gw_mem 602 (by decide +kernel) rfl)
theorem lkRL_60 : Cond.methodLink "CatThatTurnsLaw" 60 (xa_yn mX9_run) ∈ xa_gw ∨ ∃ host, ("CatThatTurnsLaw", 60, xa_yn mX9_run, host) ∈ xa_nM := Or.inl (xa_gw_mem 603 (by decide +kernel) rfl)
theorem lkRX9_189 : Cond.methodLink "CatThatTurns" 189 (xa_yn mX8_closes) ∈ xa_gw ∨ ∃ host, ("CatThatTurns", 189, xa_yn mX8_closes, host) ∈ xa_nM := Or.inl (xa_gw_mem 607 (by decide +kernel) rfl)
theorem lkRX8_86 : Cond.methodLink "CatThatTurns$Trace" 86 (xa_yn mX4_isAtRest) ∈ xa_gw ∨ ∃ host, ("CatThatTurns$Trace", 86, xa_yn mX4_isAtRest, host) ∈ xa_nM := Or.inl (xa_gw_mem 611 (by decide +kernel) rfl)
theorem lkRX4_40 : Cond.methodLink "CatThatTurns$Shape" 40 (xa_yn mX4_isStraight) ∈ xa_gw ∨ ∃ host, ("CatThatTurns$Shape", 40, xa_yn mX4_isStraight, host) ∈ xa_nM := Or.inl (xa_gw_mem 615 (by decide +kernel) rfl)
theorem lkRX9_196 : Cond.methodLink "CatThatTurns" 196 (xa_yn mX4_isStraight) ∈ xa_gw ∨ ∃ host, ("CatThatTurns", 196, xa_yn mX4_isStraight, host) ∈ xa_nM := Or.inl (xa_gw_mem 619 (by decide +kernel) rfl)
theorem lkRL_64 : Cond.methodLink "CatThatTurnsLaw" 64 (xa_yn mX9_spun) ∈ xa_gw ∨ ∃ host, ("CatThatTurnsLaw", 64, xa_yn mX9_spun, host) ∈ xa_nM := Or.inl (xa_gw_mem 620 (by decide +kernel) rfl)
theorem lkRL_68 : Cond.methodLink "CatThatTurnsLaw" 68 (xa_yn mX9_times) ∈ xa_gw ∨ ∃ host, ("CatThatTurnsLaw", 68, xa_yn mX9_times, host) ∈ xa_nM := Or.inl (xa_gw_mem 624 (by decide +kernel) rfl)
theorem lkRL_72 : Cond.methodLink "CatThatTurnsLaw" 72 (xa_yn mX9_soon) ∈ xa_gw ∨ ∃ host, ("CatThatTurnsLaw", 72, xa_yn mX9_soon, host) ∈ xa_nM := Or.inl (xa_gw_mem 628 (by decide +kernel) rfl)
theorem lkRX9_201 : Cond.methodLink "CatThatTurns" 201 (xa_yn mX3_ticksFrom) ∈ xa_gw ∨ ∃ host, ("CatThatTurns", 201, xa_yn mX3_ticksFrom, host) ∈ xa_nM := Or.inl (xa_gw_mem 632 (by decide +kernel) rfl)
theorem lkRX3_38 : Cond.methodLink "CatThatTurns$Search" 38 (xa_yn mX3_prepare) ∈ xa_gw ∨ ∃ host, ("CatThatTurns$Search", 38, xa_yn mX3_prepare, host) ∈ xa_nM := Or.inl (xa_gw_mem 636 (by decide +kernel) rfl)
theorem lkRX3_72 : Cond.methodLink "CatThatTurns$Search" 72 (xa_yn mX6_numberShapes) ∈ xa_gw ∨ ∃ host, ("CatThatTurns$Search", 72, xa_yn mX6_numberShapes, host) ∈ xa_nM := Or.inl (xa_gw_mem 640 (by decide +kernel) rfl)
theorem lkRX6_52 : Cond.methodLink "CatThatTurns$Table" 52 (xa_yn mX0_stepsOf) ∈ xa_gw ∨ ∃ host, ("CatThatTurns$Table", 52, xa_yn mX0_stepsOf, host) ∈ xa_nM := Or.inl (xa_gw_mem 644 (by decide +kernel) rfl)
theorem lkRX0_55 : Cond.methodLink "CatThatTurns$Body" 55 (xa_yn mX0_isWagging) ∈ xa_gw ∨ ∃ host, ("CatThatTurns$Body", 55, xa_yn mX0_isWagging, host) ∈ xa_nM := Or.inl (xa_gw_mem 648 (by decide +kernel) rfl)
theorem lkRX6_56 : Cond.methodLink "CatThatTurns$Table" 56 (xa_yn mJ9_max_7cf53) ∈ xa_gw ∨ ∃ host, ("CatThatTurns$Table", 56, xa_yn mJ9_max_7cf53, host) ∈ xa_nM := Or.inl (xa_gw_mem 649 (by decide +kernel) rfl)
theorem lkRX6_62 : Cond.methodLink "CatThatTurns$Table" 62 (xa_yn mX0_lowestOf) ∈ xa_gw ∨ ∃ host, ("CatThatTurns$Table", 62, xa_yn mX0_lowestOf, host) ∈ xa_nM := Or.inl (xa_gw_mem 650 (by decide +kernel) rfl)
theorem lkRX6_65 : Cond.methodLink "CatThatTurns$Table" 65 (xa_yn mJ7_fill_53178) ∈ xa_gw ∨ ∃ host, ("CatThatTurns$Table", 65, xa_yn mJ7_fill_53178, host) ∈ xa_nM := Or.inl (xa_gw_mem 654 (by decide +kernel) rfl)
theorem lkRX6_71 : Cond.methodLink "CatThatTurns$Table" 71 (xa_yn mX4_rest) ∈ xa_gw ∨ ∃ host, ("CatThatTurns$Table", 71, xa_yn mX4_rest, host) ∈ xa_nM := Or.inl (xa_gw_mem 655 (by decide +kernel) rfl)
theorem lkRX6_74 : Cond.methodLink "CatThatTurns$Table" 74 (xa_yn mX4_takePose) ∈ xa_gw ∨ ∃ host, ("CatThatTurns$Table", 74, xa_yn mX4_takePose, host) ∈ xa_nM := Or.inl (xa_gw_mem 656 (by decide +kernel) rfl)
theorem lkRX6_78 : Cond.methodLink "CatThatTurns$Table" 78 (xa_yn mX6_numberNow) ∈ xa_gw ∨ ∃ host, ("CatThatTurns$Table", 78, xa_yn mX6_numberNow, host) ∈ xa_nM := Or.inl (xa_gw_mem 660 (by decide +kernel) rfl)
theorem lkRX6_88 : Cond.methodLink "CatThatTurns$Table" 88 (xa_yn mJ9_min_7cf53) ∈ xa_gw ∨ ∃ host, ("CatThatTurns$Table", 88, xa_yn mJ9_min_7cf53, host) ∈ xa_nM := Or.inl (xa_gw_mem 664 (by decide +kernel) rfl)
theorem lkRX6_91 : Cond.methodLink "CatThatTurns$Table" 91 (xa_yn mX4_stepsAt) ∈ xa_gw ∨ ∃ host, ("CatThatTurns$Table", 91, xa_yn mX4_stepsAt, host) ∈ xa_nM := Or.inl (xa_gw_mem 665 (by decide +kernel) rfl)
theorem lkRX6_94 : Cond.methodLink "CatThatTurns$Table" 94 (xa_yn mX4_poseOf) ∈ xa_gw ∨ ∃ host, ("CatThatTurns$Table", 94, xa_yn mX4_poseOf, host) ∈ xa_nM := Or.inl (xa_gw_mem 669 (by decide +kernel) rfl)
theorem lkRX3_78 : Cond.methodLink "CatThatTurns$Search" 78 (xa_yn mX3_makeRoom) ∈ xa_gw ∨ ∃ host, ("CatThatTurns$Search", 78, xa_yn mX3_makeRoom, host) ∈ xa_nM := Or.inl (xa_gw_mem 673 (by decide +kernel) rfl)
theorem lkRX3_82 : Cond.methodLink "CatThatTurns$Search" 82 (xa_yn mJ7_fill_53178) ∈ xa_gw ∨ ∃ host, ("CatThatTurns$Search", 82, xa_yn mJ7_fill_53178, host) ∈ xa_nM := Or.inl (xa_gw_mem 680 (by decide +kernel) rfl)
theorem lkRX3_91 : Cond.methodLink "CatThatTurns$Search" 91 (xa_yn mX6_numberAtRest) ∈ xa_gw ∨ ∃ host, ("CatThatTurns$Search", 91, xa_yn mX6_numberAtRest, host) ∈ xa_nM := Or.inl (xa_gw_mem 681 (by decide +kernel) rfl)
theorem lkRX3_105 : Cond.methodLink "CatThatTurns$Search" 105 (xa_yn mX3_answer) ∈ xa_gw ∨ ∃ host, ("CatThatTurns$Search", 105, xa_yn mX3_answer, host) ∈ xa_nM := Or.inl (xa_gw_mem 686 (by decide +kernel) rfl)
theorem lkRX3_67 : Cond.methodLink "CatThatTurns$Search" 67 (xa_yn mJ9_floorMod_7cf53) ∈ xa_gw ∨ ∃ host, ("CatThatTurns$Search", 67, xa_yn mJ9_floorMod_7cf53, host) ∈ xa_nM := Or.inl (xa_gw_mem 690 (by decide +kernel) rfl)
theorem lkRX3_45 : Cond.methodLink "CatThatTurns$Search" 45 (xa_yn mX3_expandFirst) ∈ xa_gw ∨ ∃ host, ("CatThatTurns$Search", 45, xa_yn mX3_expandFirst, host) ∈ xa_nM := Or.inl (xa_gw_mem 691 (by decide +kernel) rfl)
theorem lkRX3_111 : Cond.methodLink "CatThatTurns$Search" 111 (xa_yn mX6_branchesOf) ∈ xa_gw ∨ ∃ host, ("CatThatTurns$Search", 111, xa_yn mX6_branchesOf, host) ∈ xa_nM := Or.inl (xa_gw_mem 695 (by decide +kernel) rfl)
theorem lkRX6_100 : Cond.methodLink "CatThatTurns$Table" 100 (xa_yn mX6_findBranches) ∈ xa_gw ∨ ∃ host, ("CatThatTurns$Table", 100, xa_yn mX6_findBranches, host) ∈ xa_nM := Or.inl (xa_gw_mem 699 (by decide +kernel) rfl)
theorem lkRX6_103 : Cond.methodLink "CatThatTurns$Table" 103 (xa_yn mX6_become) ∈ xa_gw ∨ ∃ host, ("CatThatTurns$Table", 103, xa_yn mX6_become, host) ∈ xa_nM := Or.inl (xa_gw_mem 703 (by decide +kernel) rfl)
theorem lkRX6_97 : Cond.methodLink "CatThatTurns$Table" 97 (xa_yn mX4_takeSteps) ∈ xa_gw ∨ ∃ host, ("CatThatTurns$Table", 97, xa_yn mX4_takeSteps, host) ∈ xa_nM := Or.inl (xa_gw_mem 707 (by decide +kernel) rfl)
theorem lkRX6_107 : Cond.methodLink "CatThatTurns$Table" 107 (xa_yn mX6_isStiff) ∈ xa_gw ∨ ∃ host, ("CatThatTurns$Table", 107, xa_yn mX6_isStiff, host) ∈ xa_nM := Or.inl (xa_gw_mem 711 (by decide +kernel) rfl)
theorem lkRX6_111 : Cond.methodLink "CatThatTurns$Table" 111 (xa_yn mX4_makes) ∈ xa_gw ∨ ∃ host, ("CatThatTurns$Table", 111, xa_yn mX4_makes, host) ∈ xa_nM := Or.inl (xa_gw_mem 715 (by decide +kernel) rfl)
theorem lkRX6_114 : Cond.methodLink "CatThatTurns$Table" 114 (xa_yn mX4_lastTurn) ∈ xa_gw ∨ ∃ host, ("CatThatTurns$Table", 114, xa_yn mX4_lastTurn, host) ∈ xa_nM := Or.inl (xa_gw_mem 716 (by decide +kernel) rfl)
theorem lkRX6_120 : Cond.methodLink "CatThatTurns$Table" 120 (xa_yn mX4_loadFrom) ∈ xa_gw ∨ ∃ host, ("CatThatTurns$Table", 120, xa_yn mX4_loadFrom, host) ∈ xa_nM := Or.inl (xa_gw_mem 717 (by decide +kernel) rfl)
theorem lkRX6_123 : Cond.methodLink "CatThatTurns$Table" 123 (xa_yn mX9_cut) ∈ xa_gw ∨ ∃ host, ("CatThatTurns$Table", 123, xa_yn mX9_cut, host) ∈ xa_nM := Or.inr ⟨"CatThatTurns", by decide +kernel⟩
theorem lkRX6_126 : Cond.methodLink "CatThatTurns$Table" 126 (xa_yn mJ9_floorMod_7cf53) ∈ xa_gw ∨ ∃ host, ("CatThatTurns$Table", 126, xa_yn mJ9_floorMod_7cf53, host) ∈ xa_nM := Or.inl (xa_gw_mem 719 (by decide +kernel) rfl)
theorem lkRX3_114 : Cond.methodLink "CatThatTurns$Search" 114 (xa_yn mX6_branch) ∈ xa_gw ∨ ∃ host, ("CatThatTurns$Search", 114, xa_yn mX6_branch, host) ∈ xa_nM := Or.inl (xa_gw_mem 720 (by decide +kernel) rfl)
theorem lkRX3_64 : Cond.methodLink "CatThatTurns$Search" 64 (xa_yn mX6_angleOf) ∈ xa_gw ∨ ∃ host, ("CatThatTurns$Search", 64, xa_yn mX6_angleOf, host) ∈ xa_nM := Or.inl (xa_gw_mem 724 (by decide +kernel) rfl)
theorem lkRX3_117 : Cond.methodLink "CatThatTurns$Search" 117 (xa_yn mX6_shapeOf) ∈ xa_gw ∨ ∃ host, ("CatThatTurns$Search", 117, xa_yn mX6_shapeOf, host) ∈ xa_nM := Or.inl (xa_gw_mem 727 (by decide +kernel) rfl)
theorem lkRX3_120 : Cond.methodLink "CatThatTurns$Search" 120 (xa_yn mX3_enqueue) ∈ xa_gw ∨ ∃ host, ("CatThatTurns$Search", 120, xa_yn mX3_enqueue, host) ∈ xa_nM := Or.inl (xa_gw_mem 730 (by decide +kernel) rfl)
theorem lkRX3_127 : Cond.methodLink "CatThatTurns$Search" 127 (xa_yn mX6_isStraightAt) ∈ xa_gw ∨ ∃ host, ("CatThatTurns$Search", 127, xa_yn mX6_isStraightAt, host) ∈ xa_nM := Or.inl (xa_gw_mem 735 (by decide +kernel) rfl)
theorem lkRX3_123 : Cond.methodLink "CatThatTurns$Search" 123 (xa_yn mX3_goOn) ∈ xa_gw ∨ ∃ host, ("CatThatTurns$Search", 123, xa_yn mX3_goOn, host) ∈ xa_nM := Or.inl (xa_gw_mem 739 (by decide +kernel) rfl)
theorem lkRX9_204 : Cond.methodLink "CatThatTurns" 204 (xa_yn mX3_moveFrom) ∈ xa_gw ∨ ∃ host, ("CatThatTurns", 204, xa_yn mX3_moveFrom, host) ∈ xa_nM := Or.inl (xa_gw_mem 743 (by decide +kernel) rfl)
theorem lkRX3_56 : Cond.methodLink "CatThatTurns$Search" 56 (xa_yn mX6_branchBetween) ∈ xa_gw ∨ ∃ host, ("CatThatTurns$Search", 56, xa_yn mX6_branchBetween, host) ∈ xa_nM := Or.inl (xa_gw_mem 747 (by decide +kernel) rfl)
theorem lkRX6_129 : Cond.methodLink "CatThatTurns$Table" 129 (xa_yn mX6_branchesOf) ∈ xa_gw ∨ ∃ host, ("CatThatTurns$Table", 129, xa_yn mX6_branchesOf, host) ∈ xa_nM := Or.inl (xa_gw_mem 751 (by decide +kernel) rfl)
theorem lkRX6_132 : Cond.methodLink "CatThatTurns$Table" 132 (xa_yn mX6_branch) ∈ xa_gw ∨ ∃ host, ("CatThatTurns$Table", 132, xa_yn mX6_branch, host) ∈ xa_nM := Or.inl (xa_gw_mem 752 (by decide +kernel) rfl)
theorem lkRX6_135 : Cond.methodLink "CatThatTurns$Table" 135 (xa_yn mX6_shapeOf) ∈ xa_gw ∨ ∃ host, ("CatThatTurns$Table", 135, xa_yn mX6_shapeOf, host) ∈ xa_nM := Or.inl (xa_gw_mem 753 (by decide +kernel) rfl)
theorem lkRX3_60 : Cond.methodLink "CatThatTurns$Search" 60 (xa_yn mX6_moveOf) ∈ xa_gw ∨ ∃ host, ("CatThatTurns$Search", 60, xa_yn mX6_moveOf, host) ∈ xa_nM := Or.inl (xa_gw_mem 754 (by decide +kernel) rfl)
theorem lkRL_76 : Cond.methodLink "CatThatTurnsLaw" 76 (xa_yn mX9_fall) ∈ xa_gw ∨ ∃ host, ("CatThatTurnsLaw", 76, xa_yn mX9_fall, host) ∈ xa_nM := Or.inl (xa_gw_mem 757 (by decide +kernel) rfl)
theorem lkRX9_208 : Cond.methodLink "CatThatTurns" 208 (xa_yn mX9_ticksOfFall) ∈ xa_gw ∨ ∃ host, ("CatThatTurns", 208, xa_yn mX9_ticksOfFall, host) ∈ xa_nM := Or.inl (xa_gw_mem 762 (by decide +kernel) rfl)
theorem lkRL_80 : Cond.methodLink "CatThatTurnsLaw" 80 (xa_yn mX9_saved) ∈ xa_gw ∨ ∃ host, ("CatThatTurnsLaw", 80, xa_yn mX9_saved, host) ∈ xa_nM := Or.inl (xa_gw_mem 765 (by decide +kernel) rfl)
theorem lkRX9_211 : Cond.methodLink "CatThatTurns" 211 (xa_yn mX3_turnsWithin) ∈ xa_gw ∨ ∃ host, ("CatThatTurns", 211, xa_yn mX3_turnsWithin, host) ∈ xa_nM := Or.inl (xa_gw_mem 769 (by decide +kernel) rfl)
theorem lkRX3_52 : Cond.methodLink "CatThatTurns$Search" 52 (xa_yn mX9_isWithin) ∈ xa_gw ∨ ∃ host, ("CatThatTurns$Search", 52, xa_yn mX9_isWithin, host) ∈ xa_nM := Or.inr ⟨"CatThatTurns", by decide +kernel⟩
theorem lkRL_84 : Cond.methodLink "CatThatTurnsLaw" 84 (xa_yn mX9_free) ∈ xa_gw ∨ ∃ host, ("CatThatTurnsLaw", 84, xa_yn mX9_free, host) ∈ xa_nM := Or.inl (xa_gw_mem 774 (by decide +kernel) rfl)
theorem lkRX9_217 : Cond.methodLink "CatThatTurns" 217 (xa_yn mX1_turnsBy) ∈ xa_gw ∨ ∃ host, ("CatThatTurns", 217, xa_yn mX1_turnsBy, host) ∈ xa_nM := Or.inl (xa_gw_mem 778 (by decide +kernel) rfl)
theorem lkRX1_30 : Cond.methodLink "CatThatTurns$Loops" 30 (xa_yn mX1_measureWith) ∈ xa_gw ∨ ∃ host, ("CatThatTurns$Loops", 30, xa_yn mX1_measureWith, host) ∈ xa_nM := Or.inl (xa_gw_mem 782 (by decide +kernel) rfl)
theorem lkRX1_37 : Cond.methodLink "CatThatTurns$Loops" 37 (xa_yn mX4_rest) ∈ xa_gw ∨ ∃ host, ("CatThatTurns$Loops", 37, xa_yn mX4_rest, host) ∈ xa_nM := Or.inl (xa_gw_mem 786 (by decide +kernel) rfl)
theorem lkRX1_40 : Cond.methodLink "CatThatTurns$Loops" 40 (xa_yn mX4_makes) ∈ xa_gw ∨ ∃ host, ("CatThatTurns$Loops", 40, xa_yn mX4_makes, host) ∈ xa_nM := Or.inl (xa_gw_mem 787 (by decide +kernel) rfl)
theorem lkRX1_44 : Cond.methodLink "CatThatTurns$Loops" 44 (xa_yn mX4_lastTurn) ∈ xa_gw ∨ ∃ host, ("CatThatTurns$Loops", 44, xa_yn mX4_lastTurn, host) ∈ xa_nM := Or.inl (xa_gw_mem 788 (by decide +kernel) rfl)
theorem lkRX1_48 : Cond.methodLink "CatThatTurns$Loops" 48 (xa_yn mX0_isWagging) ∈ xa_gw ∨ ∃ host, ("CatThatTurns$Loops", 48, xa_yn mX0_isWagging, host) ∈ xa_nM := Or.inl (xa_gw_mem 789 (by decide +kernel) rfl)
theorem lkRX1_51 : Cond.methodLink "CatThatTurns$Loops" 51 (xa_yn mX0_stepsOf) ∈ xa_gw ∨ ∃ host, ("CatThatTurns$Loops", 51, xa_yn mX0_stepsOf, host) ∈ xa_nM := Or.inl (xa_gw_mem 790 (by decide +kernel) rfl)
theorem lkRX1_55 : Cond.methodLink "CatThatTurns$Loops" 55 (xa_yn mX1_common) ∈ xa_gw ∨ ∃ host, ("CatThatTurns$Loops", 55, xa_yn mX1_common, host) ∈ xa_nM := Or.inl (xa_gw_mem 791 (by decide +kernel) rfl)
theorem lkRX1_62 : Cond.methodLink "CatThatTurns$Loops" 62 (xa_yn mJ9_abs_0f7a4) ∈ xa_gw ∨ ∃ host, ("CatThatTurns$Loops", 62, xa_yn mJ9_abs_0f7a4, host) ∈ xa_nM := Or.inl (xa_gw_mem 794 (by decide +kernel) rfl)
theorem lkRX1_58 : Cond.methodLink "CatThatTurns$Loops" 58 (xa_yn mX4_takePose) ∈ xa_gw ∨ ∃ host, ("CatThatTurns$Loops", 58, xa_yn mX4_takePose, host) ∈ xa_nM := Or.inl (xa_gw_mem 797 (by decide +kernel) rfl)
theorem lkRX1_34 : Cond.methodLink "CatThatTurns$Loops" 34 (xa_yn mX9_cut) ∈ xa_gw ∨ ∃ host, ("CatThatTurns$Loops", 34, xa_yn mX9_cut, host) ∈ xa_nM := Or.inr ⟨"CatThatTurns", by decide +kernel⟩
theorem lkRL_88 : Cond.methodLink "CatThatTurnsLaw" 88 (xa_yn mX9_fewest) ∈ xa_gw ∨ ∃ host, ("CatThatTurnsLaw", 88, xa_yn mX9_fewest, host) ∈ xa_nM := Or.inl (xa_gw_mem 799 (by decide +kernel) rfl)
theorem lkRL_92 : Cond.methodLink "CatThatTurnsLaw" 92 (xa_yn mX9_worth) ∈ xa_gw ∨ ∃ host, ("CatThatTurnsLaw", 92, xa_yn mX9_worth, host) ∈ xa_nM := Or.inl (xa_gw_mem 803 (by decide +kernel) rfl)
theorem lkRL_96 : Cond.methodLink "CatThatTurnsLaw" 96 (xa_yn mX9_picture) ∈ xa_gw ∨ ∃ host, ("CatThatTurnsLaw", 96, xa_yn mX9_picture, host) ∈ xa_nM := Or.inl (xa_gw_mem 807 (by decide +kernel) rfl)
theorem lkRX9_220 : Cond.methodLink "CatThatTurns" 220 (xa_yn mX5_addPicture) ∈ xa_gw ∨ ∃ host, ("CatThatTurns", 220, xa_yn mX5_addPicture, host) ∈ xa_nM := Or.inl (xa_gw_mem 811 (by decide +kernel) rfl)
theorem lkRL_100 : Cond.methodLink "CatThatTurnsLaw" 100 (xa_yn mX9_noFilm) ∈ xa_gw ∨ ∃ host, ("CatThatTurnsLaw", 100, xa_yn mX9_noFilm, host) ∈ xa_nM := Or.inl (xa_gw_mem 815 (by decide +kernel) rfl)
theorem lkRL_104 : Cond.methodLink "CatThatTurnsLaw" 104 (xa_yn mX9_may) ∈ xa_gw ∨ ∃ host, ("CatThatTurnsLaw", 104, xa_yn mX9_may, host) ∈ xa_nM := Or.inl (xa_gw_mem 819 (by decide +kernel) rfl)
theorem lkRX9_227 : Cond.methodLink "CatThatTurns" 227 (xa_yn mX8_isFilmed) ∈ xa_gw ∨ ∃ host, ("CatThatTurns", 227, xa_yn mX8_isFilmed, host) ∈ xa_nM := Or.inl (xa_gw_mem 823 (by decide +kernel) rfl)
theorem lkRX8_93 : Cond.methodLink "CatThatTurns$Trace" 93 (xa_yn mX5_pictureOf) ∈ xa_gw ∨ ∃ host, ("CatThatTurns$Trace", 93, xa_yn mX5_pictureOf, host) ∈ xa_nM := Or.inl (xa_gw_mem 827 (by decide +kernel) rfl)
theorem lkRX8_96 : Cond.methodLink "CatThatTurns$Trace" 96 (xa_yn mX8_turnOf) ∈ xa_gw ∨ ∃ host, ("CatThatTurns$Trace", 96, xa_yn mX8_turnOf, host) ∈ xa_nM := Or.inl (xa_gw_mem 831 (by decide +kernel) rfl)
theorem lkRX8_99 : Cond.methodLink "CatThatTurns$Trace" 99 (xa_yn mX9_off) ∈ xa_gw ∨ ∃ host, ("CatThatTurns$Trace", 99, xa_yn mX9_off, host) ∈ xa_nM := Or.inr ⟨"CatThatTurns", by decide +kernel⟩
theorem lkRX9_244 : Cond.methodLink "CatThatTurns" 244 (xa_yn mJ9_min_7cf53) ∈ xa_gw ∨ ∃ host, ("CatThatTurns", 244, xa_yn mJ9_min_7cf53, host) ∈ xa_nM := Or.inl (xa_gw_mem 835 (by decide +kernel) rfl)
theorem lkRL_108 : Cond.methodLink "CatThatTurnsLaw" 108 (xa_yn mX9_looked) ∈ xa_gw ∨ ∃ host, ("CatThatTurnsLaw", 108, xa_yn mX9_looked, host) ∈ xa_nM := Or.inl (xa_gw_mem 836 (by decide +kernel) rfl)
theorem lkRL_112 : Cond.methodLink "CatThatTurnsLaw" 112 (xa_yn mX9_pushed) ∈ xa_gw ∨ ∃ host, ("CatThatTurnsLaw", 112, xa_yn mX9_pushed, host) ∈ xa_nM := Or.inl (xa_gw_mem 840 (by decide +kernel) rfl)
theorem lkRL_116 : Cond.methodLink "CatThatTurnsLaw" 116 (xa_yn mX9_head) ∈ xa_gw ∨ ∃ host, ("CatThatTurnsLaw", 116, xa_yn mX9_head, host) ∈ xa_nM := Or.inl (xa_gw_mem 844 (by decide +kernel) rfl)
theorem lkRX9_231 : Cond.methodLink "CatThatTurns" 231 (xa_yn mX9_findLandings) ∈ xa_gw ∨ ∃ host, ("CatThatTurns", 231, xa_yn mX9_findLandings, host) ∈ xa_nM := Or.inl (xa_gw_mem 848 (by decide +kernel) rfl)
theorem lkRX9_247 : Cond.methodLink "CatThatTurns" 247 (xa_yn mX0_loadAtRest) ∈ xa_gw ∨ ∃ host, ("CatThatTurns", 247, xa_yn mX0_loadAtRest, host) ∈ xa_nM := Or.inl (xa_gw_mem 852 (by decide +kernel) rfl)
theorem lkRX0_52 : Cond.methodLink "CatThatTurns$Body" 52 (xa_yn mX0_loadOf) ∈ xa_gw ∨ ∃ host, ("CatThatTurns$Body", 52, xa_yn mX0_loadOf, host) ∈ xa_nM := Or.inl (xa_gw_mem 856 (by decide +kernel) rfl)
theorem lkRX9_250 : Cond.methodLink "CatThatTurns" 250 (xa_yn mX9_cut) ∈ xa_gw ∨ ∃ host, ("CatThatTurns", 250, xa_yn mX9_cut, host) ∈ xa_nM := Or.inl (xa_gw_mem 857 (by decide +kernel) rfl)
theorem lkRX9_234 : Cond.methodLink "CatThatTurns" 234 (xa_yn mX9_firstHead) ∈ xa_gw ∨ ∃ host, ("CatThatTurns", 234, xa_yn mX9_firstHead, host) ∈ xa_nM := Or.inl (xa_gw_mem 858 (by decide +kernel) rfl)
theorem lkRX9_253 : Cond.methodLink "CatThatTurns" 253 (xa_yn mX9_off) ∈ xa_gw ∨ ∃ host, ("CatThatTurns", 253, xa_yn mX9_off, host) ∈ xa_nM := Or.inl (xa_gw_mem 862 (by decide +kernel) rfl)
theorem lkRL_120 : Cond.methodLink "CatThatTurnsLaw" 120 (xa_yn mX9_down) ∈ xa_gw ∨ ∃ host, ("CatThatTurnsLaw", 120, xa_yn mX9_down, host) ∈ xa_nM := Or.inl (xa_gw_mem 863 (by decide +kernel) rfl)
theorem lkRL_124 : Cond.methodLink "CatThatTurnsLaw" 124 (xa_yn mX9_keep) ∈ xa_gw ∨ ∃ host, ("CatThatTurnsLaw", 124, xa_yn mX9_keep, host) ∈ xa_nM := Or.inl (xa_gw_mem 867 (by decide +kernel) rfl)
theorem lkRX9_237 : Cond.methodLink "CatThatTurns" 237 (xa_yn mX5_copySheet) ∈ xa_gw ∨ ∃ host, ("CatThatTurns", 237, xa_yn mX5_copySheet, host) ∈ xa_nM := Or.inl (xa_gw_mem 871 (by decide +kernel) rfl)
theorem lkRL_128 : Cond.methodLink "CatThatTurnsLaw" 128 (xa_yn mX9_back) ∈ xa_gw ∨ ∃ host, ("CatThatTurnsLaw", 128, xa_yn mX9_back, host) ∈ xa_nM := Or.inl (xa_gw_mem 875 (by decide +kernel) rfl)
theorem lkRL_132 : Cond.methodLink "CatThatTurnsLaw" 132 (xa_yn mX9_count) ∈ xa_gw ∨ ∃ host, ("CatThatTurnsLaw", 132, xa_yn mX9_count, host) ∈ xa_nM := Or.inl (xa_gw_mem 879 (by decide +kernel) rfl)
theorem lkRX9_241 : Cond.methodLink "CatThatTurns" 241 (xa_yn mX5_allMoves) ∈ xa_gw ∨ ∃ host, ("CatThatTurns", 241, xa_yn mX5_allMoves, host) ∈ xa_nM := Or.inl (xa_gw_mem 883 (by decide +kernel) rfl)
theorem lkRL_12 : Cond.methodLink "CatThatTurnsLaw" 12 (xa_yn mX10_init) ∈ xa_gw ∨ ∃ host, ("CatThatTurnsLaw", 12, xa_yn mX10_init, host) ∈ xa_nM := Or.inl (xa_gw_mem 889 (by decide +kernel) rfl)
theorem lkRX10_1 : Cond.methodLink "CatThatTurnsModel" 1 objectInit ∈ xa_gw := xa_gw_mem 892 (by decide +kernel) rfl
theorem lkRL_19 : Cond.methodLink "CatThatTurnsLaw" 19 (xa_yn mX10_write) ∈ xa_gw ∨ ∃ host, ("CatThatTurnsLaw", 19, xa_yn mX10_write, host) ∈ xa_nM := Or.inl (xa_gw_mem 970 (by decide +kernel) rfl)
theorem lkRX10_65 : Cond.methodLink "CatThatTurnsModel" 65 (xa_yn mX10_in) ∈ xa_gw ∨ ∃ host, ("CatThatTurnsModel", 65, xa_yn mX10_in, host) ∈ xa_nM := Or.inl (xa_gw_mem 975 (by decide +kernel) rfl)
theorem lkRL_24 : Cond.methodLink "CatThatTurnsLaw" 24 (xa_yn mX10_wipe) ∈ xa_gw ∨ ∃ host, ("CatThatTurnsLaw", 24, xa_yn mX10_wipe, host) ∈ xa_nM := Or.inl (xa_gw_mem 979 (by decide +kernel) rfl)
theorem lkRL_28 : Cond.methodLink "CatThatTurnsLaw" 28 (xa_yn mX10_fault) ∈ xa_gw ∨ ∃ host, ("CatThatTurnsLaw", 28, xa_yn mX10_fault, host) ∈ xa_nM := Or.inl (xa_gw_mem 983 (by decide +kernel) rfl)
theorem lkRX10_108 : Cond.methodLink "CatThatTurnsModel" 108 (xa_yn mX10_readAll) ∈ xa_gw ∨ ∃ host, ("CatThatTurnsModel", 108, xa_yn mX10_readAll, host) ∈ xa_nM := Or.inl (xa_gw_mem 987 (by decide +kernel) rfl)
theorem lkRX10_105 : Cond.methodLink "CatThatTurnsModel" 105 (xa_yn mX10_item) ∈ xa_gw ∨ ∃ host, ("CatThatTurnsModel", 105, xa_yn mX10_item, host) ∈ xa_nM := Or.inl (xa_gw_mem 991 (by decide +kernel) rfl)
theorem lkRX10_77 : Cond.methodLink "CatThatTurnsModel" 77 (xa_yn mX10_byteAt) ∈ xa_gw ∨ ∃ host, ("CatThatTurnsModel", 77, xa_yn mX10_byteAt, host) ∈ xa_nM := Or.inl (xa_gw_mem 995 (by decide +kernel) rfl)
theorem lkRX10_95 : Cond.methodLink "CatThatTurnsModel" 95 (xa_yn mX10_partItem) ∈ xa_gw ∨ ∃ host, ("CatThatTurnsModel", 95, xa_yn mX10_partItem, host) ∈ xa_nM := Or.inl (xa_gw_mem 999 (by decide +kernel) rfl)
theorem lkRX10_87 : Cond.methodLink "CatThatTurnsModel" 87 (xa_yn mX10_figures) ∈ xa_gw ∨ ∃ host, ("CatThatTurnsModel", 87, xa_yn mX10_figures, host) ∈ xa_nM := Or.inl (xa_gw_mem 1003 (by decide +kernel) rfl)
theorem lkRX10_99 : Cond.methodLink "CatThatTurnsModel" 99 (xa_yn mX10_jointItem) ∈ xa_gw ∨ ∃ host, ("CatThatTurnsModel", 99, xa_yn mX10_jointItem, host) ∈ xa_nM := Or.inl (xa_gw_mem 1011 (by decide +kernel) rfl)
theorem lkRL_32 : Cond.methodLink "CatThatTurnsLaw" 32 (xa_yn mX10_lay) ∈ xa_gw ∨ ∃ host, ("CatThatTurnsLaw", 32, xa_yn mX10_lay, host) ∈ xa_nM := Or.inl (xa_gw_mem 1017 (by decide +kernel) rfl)
theorem lkRL_37 : Cond.methodLink "CatThatTurnsLaw" 37 (xa_yn mX10_load) ∈ xa_gw ∨ ∃ host, ("CatThatTurnsLaw", 37, xa_yn mX10_load, host) ∈ xa_nM := Or.inl (xa_gw_mem 1021 (by decide +kernel) rfl)
theorem lkRX10_115 : Cond.methodLink "CatThatTurnsModel" 115 (xa_yn mX10_isPart) ∈ xa_gw ∨ ∃ host, ("CatThatTurnsModel", 115, xa_yn mX10_isPart, host) ∈ xa_nM := Or.inl (xa_gw_mem 1025 (by decide +kernel) rfl)
theorem lkRL_41 : Cond.methodLink "CatThatTurnsLaw" 41 (xa_yn mX10_joint) ∈ xa_gw ∨ ∃ host, ("CatThatTurnsLaw", 41, xa_yn mX10_joint, host) ∈ xa_nM := Or.inl (xa_gw_mem 1030 (by decide +kernel) rfl)
theorem lkRX10_120 : Cond.methodLink "CatThatTurnsModel" 120 (xa_yn mX10_isJoint) ∈ xa_gw ∨ ∃ host, ("CatThatTurnsModel", 120, xa_yn mX10_isJoint, host) ∈ xa_nM := Or.inl (xa_gw_mem 1034 (by decide +kernel) rfl)
theorem lkRL_46 : Cond.methodLink "CatThatTurnsLaw" 46 (xa_yn mX10_begun) ∈ xa_gw ∨ ∃ host, ("CatThatTurnsLaw", 46, xa_yn mX10_begun, host) ∈ xa_nM := Or.inl (xa_gw_mem 1038 (by decide +kernel) rfl)
theorem lkRL_50 : Cond.methodLink "CatThatTurnsLaw" 50 (xa_yn mX10_move) ∈ xa_gw ∨ ∃ host, ("CatThatTurnsLaw", 50, xa_yn mX10_move, host) ∈ xa_nM := Or.inl (xa_gw_mem 1042 (by decide +kernel) rfl)
theorem lkRX10_156 : Cond.methodLink "CatThatTurnsModel" 156 (xa_yn mX10_isWay) ∈ xa_gw ∨ ∃ host, ("CatThatTurnsModel", 156, xa_yn mX10_isWay, host) ∈ xa_nM := Or.inl (xa_gw_mem 1046 (by decide +kernel) rfl)
theorem lkRL_54 : Cond.methodLink "CatThatTurnsLaw" 54 (xa_yn mX10_noWay) ∈ xa_gw ∨ ∃ host, ("CatThatTurnsLaw", 54, xa_yn mX10_noWay, host) ∈ xa_nM := Or.inl (xa_gw_mem 1051 (by decide +kernel) rfl)
theorem lkRL_59 : Cond.methodLink "CatThatTurnsLaw" 59 (xa_yn mX10_turn) ∈ xa_gw ∨ ∃ host, ("CatThatTurnsLaw", 59, xa_yn mX10_turn, host) ∈ xa_nM := Or.inl (xa_gw_mem 1055 (by decide +kernel) rfl)
theorem lkRX10_182 : Cond.methodLink "CatThatTurnsModel" 182 (xa_yn mX10_isTurn) ∈ xa_gw ∨ ∃ host, ("CatThatTurnsModel", 182, xa_yn mX10_isTurn, host) ∈ xa_nM := Or.inl (xa_gw_mem 1059 (by decide +kernel) rfl)
theorem lkRX10_187 : Cond.methodLink "CatThatTurnsModel" 187 (xa_yn mX10_go) ∈ xa_gw ∨ ∃ host, ("CatThatTurnsModel", 187, xa_yn mX10_go, host) ∈ xa_nM := Or.inl (xa_gw_mem 1064 (by decide +kernel) rfl)
theorem lkRX10_161 : Cond.methodLink "CatThatTurnsModel" 161 (xa_yn mX10_rest) ∈ xa_gw ∨ ∃ host, ("CatThatTurnsModel", 161, xa_yn mX10_rest, host) ∈ xa_nM := Or.inl (xa_gw_mem 1068 (by decide +kernel) rfl)
theorem lkRX10_123 : Cond.methodLink "CatThatTurnsModel" 123 (xa_yn mX10_stepMany) ∈ xa_gw ∨ ∃ host, ("CatThatTurnsModel", 123, xa_yn mX10_stepMany, host) ∈ xa_nM := Or.inl (xa_gw_mem 1072 (by decide +kernel) rfl)
theorem lkRX10_129 : Cond.methodLink "CatThatTurnsModel" 129 (xa_yn mX10_straightAt) ∈ xa_gw ∨ ∃ host, ("CatThatTurnsModel", 129, xa_yn mX10_straightAt, host) ∈ xa_nM := Or.inl (xa_gw_mem 1076 (by decide +kernel) rfl)
theorem lkRX10_173 : Cond.methodLink "CatThatTurnsModel" 173 (xa_yn mX10_moved) ∈ xa_gw ∨ ∃ host, ("CatThatTurnsModel", 173, xa_yn mX10_moved, host) ∈ xa_nM := Or.inl (xa_gw_mem 1080 (by decide +kernel) rfl)
theorem lkRX10_139 : Cond.methodLink "CatThatTurnsModel" 139 (xa_yn mX10_bent) ∈ xa_gw ∨ ∃ host, ("CatThatTurnsModel", 139, xa_yn mX10_bent, host) ∈ xa_nM := Or.inl (xa_gw_mem 1084 (by decide +kernel) rfl)
theorem lkRX10_132 : Cond.methodLink "CatThatTurnsModel" 132 (xa_yn mX10_stepAt) ∈ xa_gw ∨ ∃ host, ("CatThatTurnsModel", 132, xa_yn mX10_stepAt, host) ∈ xa_nM := Or.inl (xa_gw_mem 1088 (by decide +kernel) rfl)
theorem lkRX10_136 : Cond.methodLink "CatThatTurnsModel" 136 (xa_yn mX10_poseOf) ∈ xa_gw ∨ ∃ host, ("CatThatTurnsModel", 136, xa_yn mX10_poseOf, host) ∈ xa_nM := Or.inl (xa_gw_mem 1092 (by decide +kernel) rfl)
theorem lkRX10_126 : Cond.methodLink "CatThatTurnsModel" 126 (xa_yn mX10_threes) ∈ xa_gw ∨ ∃ host, ("CatThatTurnsModel", 126, xa_yn mX10_threes, host) ∈ xa_nM := Or.inl (xa_gw_mem 1096 (by decide +kernel) rfl)
theorem lkRX10_143 : Cond.methodLink "CatThatTurnsModel" 143 (xa_yn mX10_posed) ∈ xa_gw ∨ ∃ host, ("CatThatTurnsModel", 143, xa_yn mX10_posed, host) ∈ xa_nM := Or.inl (xa_gw_mem 1099 (by decide +kernel) rfl)
theorem lkRX10_176 : Cond.methodLink "CatThatTurnsModel" 176 (xa_yn mX10_turnedBy) ∈ xa_gw ∨ ∃ host, ("CatThatTurnsModel", 176, xa_yn mX10_turnedBy, host) ∈ xa_nM := Or.inl (xa_gw_mem 1103 (by decide +kernel) rfl)
theorem lkRX10_146 : Cond.methodLink "CatThatTurnsModel" 146 (xa_yn mX10_loadsFrom) ∈ xa_gw ∨ ∃ host, ("CatThatTurnsModel", 146, xa_yn mX10_loadsFrom, host) ∈ xa_nM := Or.inl (xa_gw_mem 1107 (by decide +kernel) rfl)
theorem lkRX10_179 : Cond.methodLink "CatThatTurnsModel" 179 (xa_yn mX10_round) ∈ xa_gw ∨ ∃ host, ("CatThatTurnsModel", 179, xa_yn mX10_round, host) ∈ xa_nM := Or.inl (xa_gw_mem 1111 (by decide +kernel) rfl)
theorem lkRX10_191 : Cond.methodLink "CatThatTurnsModel" 191 (xa_yn mX10_turnOf) ∈ xa_gw ∨ ∃ host, ("CatThatTurnsModel", 191, xa_yn mX10_turnOf, host) ∈ xa_nM := Or.inl (xa_gw_mem 1114 (by decide +kernel) rfl)
theorem lkRL_63 : Cond.methodLink "CatThatTurnsLaw" 63 (xa_yn mX10_run) ∈ xa_gw ∨ ∃ host, ("CatThatTurnsLaw", 63, xa_yn mX10_run, host) ∈ xa_nM := Or.inl (xa_gw_mem 1118 (by decide +kernel) rfl)
theorem lkRX10_194 : Cond.methodLink "CatThatTurnsModel" 194 (xa_yn mX10_closes) ∈ xa_gw ∨ ∃ host, ("CatThatTurnsModel", 194, xa_yn mX10_closes, host) ∈ xa_nM := Or.inl (xa_gw_mem 1122 (by decide +kernel) rfl)
theorem lkRX10_197 : Cond.methodLink "CatThatTurnsModel" 197 (xa_yn mX10_isStraight) ∈ xa_gw ∨ ∃ host, ("CatThatTurnsModel", 197, xa_yn mX10_isStraight, host) ∈ xa_nM := Or.inl (xa_gw_mem 1126 (by decide +kernel) rfl)
theorem lkRL_67 : Cond.methodLink "CatThatTurnsLaw" 67 (xa_yn mX10_spun) ∈ xa_gw ∨ ∃ host, ("CatThatTurnsLaw", 67, xa_yn mX10_spun, host) ∈ xa_nM := Or.inl (xa_gw_mem 1130 (by decide +kernel) rfl)
theorem lkRL_71 : Cond.methodLink "CatThatTurnsLaw" 71 (xa_yn mX10_times) ∈ xa_gw ∨ ∃ host, ("CatThatTurnsLaw", 71, xa_yn mX10_times, host) ∈ xa_nM := Or.inl (xa_gw_mem 1134 (by decide +kernel) rfl)
theorem lkRL_75 : Cond.methodLink "CatThatTurnsLaw" 75 (xa_yn mX10_soon) ∈ xa_gw ∨ ∃ host, ("CatThatTurnsLaw", 75, xa_yn mX10_soon, host) ∈ xa_nM := Or.inl (xa_gw_mem 1139 (by decide +kernel) rfl)
theorem lkRX10_228 : Cond.methodLink "CatThatTurnsModel" 228 (xa_yn mX10_allJoints) ∈ xa_gw ∨ ∃ host, ("CatThatTurnsModel", 228, xa_yn mX10_allJoints, host) ∈ xa_nM := Or.inl (xa_gw_mem 1143 (by decide +kernel) rfl)
theorem lkRX10_231 : Cond.methodLink "CatThatTurnsModel" 231 (xa_yn mX10_soonBy) ∈ xa_gw ∨ ∃ host, ("CatThatTurnsModel", 231, xa_yn mX10_soonBy, host) ∈ xa_nM := Or.inl (xa_gw_mem 1147 (by decide +kernel) rfl)
theorem lkRX10_222 : Cond.methodLink "CatThatTurnsModel" 222 (xa_yn mX10_layTicks) ∈ xa_gw ∨ ∃ host, ("CatThatTurnsModel", 222, xa_yn mX10_layTicks, host) ∈ xa_nM := Or.inl (xa_gw_mem 1151 (by decide +kernel) rfl)
theorem lkRX10_212 : Cond.methodLink "CatThatTurnsModel" 212 (xa_yn mX10_shapeMany) ∈ xa_gw ∨ ∃ host, ("CatThatTurnsModel", 212, xa_yn mX10_shapeMany, host) ∈ xa_nM := Or.inl (xa_gw_mem 1155 (by decide +kernel) rfl)
theorem lkRX10_215 : Cond.methodLink "CatThatTurnsModel" 215 (xa_yn mX10_isRight) ∈ xa_gw ∨ ∃ host, ("CatThatTurnsModel", 215, xa_yn mX10_isRight, host) ∈ xa_nM := Or.inl (xa_gw_mem 1159 (by decide +kernel) rfl)
theorem lkRX10_209 : Cond.methodLink "CatThatTurnsModel" 209 (xa_yn mX10_meet) ∈ xa_gw ∨ ∃ host, ("CatThatTurnsModel", 209, xa_yn mX10_meet, host) ∈ xa_nM := Or.inl (xa_gw_mem 1163 (by decide +kernel) rfl)
theorem lkRX10_218 : Cond.methodLink "CatThatTurnsModel" 218 (xa_yn mX10_meetAhead) ∈ xa_gw ∨ ∃ host, ("CatThatTurnsModel", 218, xa_yn mX10_meetAhead, host) ∈ xa_nM := Or.inl (xa_gw_mem 1167 (by decide +kernel) rfl)
theorem lkRX10_202 : Cond.methodLink "CatThatTurnsModel" 202 (xa_yn mX10_has) ∈ xa_gw ∨ ∃ host, ("CatThatTurnsModel", 202, xa_yn mX10_has, host) ∈ xa_nM := Or.inl (xa_gw_mem 1171 (by decide +kernel) rfl)
theorem lkRL_79 : Cond.methodLink "CatThatTurnsLaw" 79 (xa_yn mX10_fall) ∈ xa_gw ∨ ∃ host, ("CatThatTurnsLaw", 79, xa_yn mX10_fall, host) ∈ xa_nM := Or.inl (xa_gw_mem 1175 (by decide +kernel) rfl)
theorem lkRX10_236 : Cond.methodLink "CatThatTurnsModel" 236 (xa_yn mX10_isHeight) ∈ xa_gw ∨ ∃ host, ("CatThatTurnsModel", 236, xa_yn mX10_isHeight, host) ∈ xa_nM := Or.inl (xa_gw_mem 1179 (by decide +kernel) rfl)
theorem lkRX10_239 : Cond.methodLink "CatThatTurnsModel" 239 (xa_yn mX10_fallOf) ∈ xa_gw ∨ ∃ host, ("CatThatTurnsModel", 239, xa_yn mX10_fallOf, host) ∈ xa_nM := Or.inl (xa_gw_mem 1183 (by decide +kernel) rfl)
theorem lkRL_83 : Cond.methodLink "CatThatTurnsLaw" 83 (xa_yn mX10_saved) ∈ xa_gw ∨ ∃ host, ("CatThatTurnsLaw", 83, xa_yn mX10_saved, host) ∈ xa_nM := Or.inl (xa_gw_mem 1186 (by decide +kernel) rfl)
theorem lkRL_87 : Cond.methodLink "CatThatTurnsLaw" 87 (xa_yn mX10_free) ∈ xa_gw ∨ ∃ host, ("CatThatTurnsLaw", 87, xa_yn mX10_free, host) ∈ xa_nM := Or.inl (xa_gw_mem 1190 (by decide +kernel) rfl)
theorem lkRX10_245 : Cond.methodLink "CatThatTurnsModel" 245 (xa_yn mX10_freeBy) ∈ xa_gw ∨ ∃ host, ("CatThatTurnsModel", 245, xa_yn mX10_freeBy, host) ∈ xa_nM := Or.inl (xa_gw_mem 1194 (by decide +kernel) rfl)
theorem lkRX10_242 : Cond.methodLink "CatThatTurnsModel" 242 (xa_yn mX10_isBarred) ∈ xa_gw ∨ ∃ host, ("CatThatTurnsModel", 242, xa_yn mX10_isBarred, host) ∈ xa_nM := Or.inl (xa_gw_mem 1198 (by decide +kernel) rfl)
theorem lkRL_91 : Cond.methodLink "CatThatTurnsLaw" 91 (xa_yn mX10_fewest) ∈ xa_gw ∨ ∃ host, ("CatThatTurnsLaw", 91, xa_yn mX10_fewest, host) ∈ xa_nM := Or.inl (xa_gw_mem 1201 (by decide +kernel) rfl)
theorem lkRL_95 : Cond.methodLink "CatThatTurnsLaw" 95 (xa_yn mX10_worth) ∈ xa_gw ∨ ∃ host, ("CatThatTurnsLaw", 95, xa_yn mX10_worth, host) ∈ xa_nM := Or.inl (xa_gw_mem 1205 (by decide +kernel) rfl)
theorem lkRL_99 : Cond.methodLink "CatThatTurnsLaw" 99 (xa_yn mX10_picture) ∈ xa_gw ∨ ∃ host, ("CatThatTurnsLaw", 99, xa_yn mX10_picture, host) ∈ xa_nM := Or.inl (xa_gw_mem 1209 (by decide +kernel) rfl)
theorem lkRL_103 : Cond.methodLink "CatThatTurnsLaw" 103 (xa_yn mX10_noFilm) ∈ xa_gw ∨ ∃ host, ("CatThatTurnsLaw", 103, xa_yn mX10_noFilm, host) ∈ xa_nM := Or.inl (xa_gw_mem 1213 (by decide +kernel) rfl)
theorem lkRL_107 : Cond.methodLink "CatThatTurnsLaw" 107 (xa_yn mX10_may) ∈ xa_gw ∨ ∃ host, ("CatThatTurnsLaw", 107, xa_yn mX10_may, host) ∈ xa_nM := Or.inl (xa_gw_mem 1217 (by decide +kernel) rfl)
theorem lkRX10_251 : Cond.methodLink "CatThatTurnsModel" 251 (xa_yn mX10_mayBe) ∈ xa_gw ∨ ∃ host, ("CatThatTurnsModel", 251, xa_yn mX10_mayBe, host) ∈ xa_nM := Or.inl (xa_gw_mem 1221 (by decide +kernel) rfl)
theorem lkRX10_248 : Cond.methodLink "CatThatTurnsModel" 248 (xa_yn mX10_off) ∈ xa_gw ∨ ∃ host, ("CatThatTurnsModel", 248, xa_yn mX10_off, host) ∈ xa_nM := Or.inl (xa_gw_mem 1225 (by decide +kernel) rfl)
theorem lkRL_111 : Cond.methodLink "CatThatTurnsLaw" 111 (xa_yn mX10_looked) ∈ xa_gw ∨ ∃ host, ("CatThatTurnsLaw", 111, xa_yn mX10_looked, host) ∈ xa_nM := Or.inl (xa_gw_mem 1228 (by decide +kernel) rfl)
theorem lkRL_115 : Cond.methodLink "CatThatTurnsLaw" 115 (xa_yn mX10_pushed) ∈ xa_gw ∨ ∃ host, ("CatThatTurnsLaw", 115, xa_yn mX10_pushed, host) ∈ xa_nM := Or.inl (xa_gw_mem 1232 (by decide +kernel) rfl)
theorem lkRL_119 : Cond.methodLink "CatThatTurnsLaw" 119 (xa_yn mX10_head) ∈ xa_gw ∨ ∃ host, ("CatThatTurnsLaw", 119, xa_yn mX10_head, host) ∈ xa_nM := Or.inl (xa_gw_mem 1236 (by decide +kernel) rfl)
theorem lkRX10_254 : Cond.methodLink "CatThatTurnsModel" 254 (xa_yn mX10_headOf) ∈ xa_gw ∨ ∃ host, ("CatThatTurnsModel", 254, xa_yn mX10_headOf, host) ∈ xa_nM := Or.inl (xa_gw_mem 1240 (by decide +kernel) rfl)
theorem lkRL_123 : Cond.methodLink "CatThatTurnsLaw" 123 (xa_yn mX10_down) ∈ xa_gw ∨ ∃ host, ("CatThatTurnsLaw", 123, xa_yn mX10_down, host) ∈ xa_nM := Or.inl (xa_gw_mem 1244 (by decide +kernel) rfl)
theorem lkRL_127 : Cond.methodLink "CatThatTurnsLaw" 127 (xa_yn mX10_keep) ∈ xa_gw ∨ ∃ host, ("CatThatTurnsLaw", 127, xa_yn mX10_keep, host) ∈ xa_nM := Or.inl (xa_gw_mem 1248 (by decide +kernel) rfl)
theorem lkRX10_257 : Cond.methodLink "CatThatTurnsModel" 257 (xa_yn mX10_copy) ∈ xa_gw ∨ ∃ host, ("CatThatTurnsModel", 257, xa_yn mX10_copy, host) ∈ xa_nM := Or.inl (xa_gw_mem 1252 (by decide +kernel) rfl)
theorem lkRL_131 : Cond.methodLink "CatThatTurnsLaw" 131 (xa_yn mX10_back) ∈ xa_gw ∨ ∃ host, ("CatThatTurnsLaw", 131, xa_yn mX10_back, host) ∈ xa_nM := Or.inl (xa_gw_mem 1256 (by decide +kernel) rfl)
theorem lkRL_135 : Cond.methodLink "CatThatTurnsLaw" 135 (xa_yn mX10_count) ∈ xa_gw ∨ ∃ host, ("CatThatTurnsLaw", 135, xa_yn mX10_count, host) ∈ xa_nM := Or.inl (xa_gw_mem 1260 (by decide +kernel) rfl)
theorem wcX0 : ∀ w ∈ u_ws RX0 TX0 8, w ∈ xa_gw := List.forall_mem_cons.mpr ⟨xa_gw_mem 120 (by decide +kernel) rfl, List.forall_mem_cons.mpr ⟨xa_gw_mem 122 (by decide +kernel) rfl, List.forall_mem_cons.mpr ⟨xa_gw_mem 124 (by decide +kernel) rfl, List.forall_mem_cons.mpr ⟨xa_gw_mem 126 (by decide +kernel) rfl, List.forall_mem_cons.mpr ⟨xa_gw_mem 128 (by decide +kernel) rfl, List.forall_mem_cons.mpr ⟨xa_gw_mem 130 (by decide +kernel) rfl, List.forall_mem_cons.mpr ⟨xa_gw_mem 132 (by decide +kernel) rfl, List.forall_mem_cons.mpr ⟨xa_gw_mem 134 (by decide +kernel) rfl, (fun _ h => absurd h List.not_mem_nil)⟩⟩⟩⟩⟩⟩⟩⟩
theorem wcX1 : ∀ w ∈ u_ws RX1 TX1 2, w ∈ xa_gw := List.forall_mem_cons.mpr ⟨xa_gw_mem 241 (by decide +kernel) rfl, List.forall_mem_cons.mpr ⟨xa_gw_mem 243 (by decide +kernel) rfl, (fun _ h => absurd h List.not_mem_nil)⟩⟩
theorem wcX2 : ∀ w ∈ u_ws RX2 TX2 4, w ∈ xa_gw := List.forall_mem_cons.mpr ⟨xa_gw_mem 147 (by decide +kernel) rfl, List.forall_mem_cons.mpr ⟨xa_gw_mem 149 (by decide +kernel) rfl, List.forall_mem_cons.mpr ⟨xa_gw_mem 151 (by decide +kernel) rfl, List.forall_mem_cons.mpr ⟨xa_gw_mem 153 (by decide +kernel) rfl, (fun _ h => absurd h List.not_mem_nil)⟩⟩⟩⟩
theorem wcX3 : ∀ w ∈ u_ws RX3 TX3 12, w ∈ xa_gw := List.forall_mem_cons.mpr ⟨xa_gw_mem 304 (by decide +kernel) rfl, List.forall_mem_cons.mpr ⟨xa_gw_mem 306 (by decide +kernel) rfl, List.forall_mem_cons.mpr ⟨xa_gw_mem 308 (by decide +kernel) rfl, List.forall_mem_cons.mpr ⟨xa_gw_mem 310 (by decide +kernel) rfl, List.forall_mem_cons.mpr ⟨xa_gw_mem 312 (by decide +kernel) rfl, List.forall_mem_cons.mpr ⟨xa_gw_mem 314 (by decide +kernel) rfl, List.forall_mem_cons.mpr ⟨xa_gw_mem 316 (by decide +kernel) rfl, List.forall_mem_cons.mpr ⟨xa_gw_mem 318 (by decide +kernel) rfl, List.forall_mem_cons.mpr ⟨xa_gw_mem 320 (by decide +kernel) rfl, List.forall_mem_cons.mpr ⟨xa_gw_mem 322 (by decide +kernel) rfl, List.forall_mem_cons.mpr ⟨xa_gw_mem 324 (by decide +kernel) rfl, List.forall_mem_cons.mpr ⟨xa_gw_mem 326 (by decide +kernel) rfl, (fun _ h => absurd h List.not_mem_nil)⟩⟩⟩⟩⟩⟩⟩⟩⟩⟩⟩⟩
theorem wcX4 : ∀ w ∈ u_ws RX4 TX4 5, w ∈ xa_gw := List.forall_mem_cons.mpr ⟨xa_gw_mem 195 (by decide +kernel) rfl, List.forall_mem_cons.mpr ⟨xa_gw_mem 197 (by decide +kernel) rfl, List.forall_mem_cons.mpr ⟨xa_gw_mem 199 (by decide +kernel) rfl, List.forall_mem_cons.mpr ⟨xa_gw_mem 201 (by decide +kernel) rfl, List.forall_mem_cons.mpr ⟨xa_gw_mem 203 (by decide +kernel) rfl, (fun _ h => absurd h List.not_mem_nil)⟩⟩⟩⟩⟩
theorem wcX5 : ∀ w ∈ u_ws RX5 TX5 4, w ∈ xa_gw := List.forall_mem_cons.mpr ⟨xa_gw_mem 168 (by decide +kernel) rfl, List.forall_mem_cons.mpr ⟨xa_gw_mem 170 (by decide +kernel) rfl, List.forall_mem_cons.mpr ⟨xa_gw_mem 172 (by decide +kernel) rfl, List.forall_mem_cons.mpr ⟨xa_gw_mem 174 (by decide +kernel) rfl, (fun _ h => absurd h List.not_mem_nil)⟩⟩⟩⟩
theorem wcX6 : ∀ w ∈ u_ws RX6 TX6 10, w ∈ xa_gw := List.forall_mem_cons.mpr ⟨xa_gw_mem 271 (by decide +kernel) rfl, List.forall_mem_cons.mpr ⟨xa_gw_mem 273 (by decide +kernel) rfl, List.forall_mem_cons.mpr ⟨xa_gw_mem 275 (by decide +kernel) rfl, List.forall_mem_cons.mpr ⟨xa_gw_mem 277 (by decide +kernel) rfl, List.forall_mem_cons.mpr ⟨xa_gw_mem 279 (by decide +kernel) rfl, List.forall_mem_cons.mpr ⟨xa_gw_mem 281 (by decide +kernel) rfl, List.forall_mem_cons.mpr ⟨xa_gw_mem 283 (by decide +kernel) rfl, List.forall_mem_cons.mpr ⟨xa_gw_mem 285 (by decide +kernel) rfl, List.forall_mem_cons.mpr ⟨xa_gw_mem 287 (by decide +kernel) rfl, List.forall_mem_cons.mpr ⟨xa_gw_mem 289 (by decide +kernel) rfl, (fun _ h => absurd h List.not_mem_nil)⟩⟩⟩⟩⟩⟩⟩⟩⟩⟩
theorem wcX7 : ∀ w ∈ u_ws RX7 TX7 2, w ∈ xa_gw := List.forall_mem_cons.mpr ⟨xa_gw_mem 87 (by decide +kernel) rfl, List.forall_mem_cons.mpr ⟨xa_gw_mem 89 (by decide +kernel) rfl, (fun _ h => absurd h List.not_mem_nil)⟩⟩
theorem wcX8 : ∀ w ∈ u_ws RX8 TX8 7, w ∈ xa_gw := List.forall_mem_cons.mpr ⟨xa_gw_mem 216 (by decide +kernel) rfl, List.forall_mem_cons.mpr ⟨xa_gw_mem 218 (by decide +kernel) rfl, List.forall_mem_cons.mpr ⟨xa_gw_mem 220 (by decide +kernel) rfl, List.forall_mem_cons.mpr ⟨xa_gw_mem 222 (by decide +kernel) rfl, List.forall_mem_cons.mpr ⟨xa_gw_mem 224 (by decide +kernel) rfl, List.forall_mem_cons.mpr ⟨xa_gw_mem 226 (by decide +kernel) rfl, List.forall_mem_cons.mpr ⟨xa_gw_mem 228 (by decide +kernel) rfl, (fun _ h => absurd h List.not_mem_nil)⟩⟩⟩⟩⟩⟩⟩
theorem wcX9 : ∀ w ∈ u_ws RX9 TX9 13, w ∈ xa_gw := List.forall_mem_cons.mpr ⟨xa_gw_mem 357 (by decide +kernel) rfl, List.forall_mem_cons.mpr ⟨xa_gw_mem 359 (by decide +kernel) rfl, List.forall_mem_cons.mpr ⟨xa_gw_mem 361 (by decide +kernel) rfl, List.forall_mem_cons.mpr ⟨xa_gw_mem 363 (by decide +kernel) rfl, List.forall_mem_cons.mpr ⟨xa_gw_mem 365 (by decide +kernel) rfl, List.forall_mem_cons.mpr ⟨xa_gw_mem 367 (by decide +kernel) rfl, List.forall_mem_cons.mpr ⟨xa_gw_mem 369 (by decide +kernel) rfl, List.forall_mem_cons.mpr ⟨xa_gw_mem 371 (by decide +kernel) rfl, List.forall_mem_cons.mpr ⟨xa_gw_mem 373 (by decide +kernel) rfl, List.forall_mem_cons.mpr ⟨xa_gw_mem 375 (by decide +kernel) rfl, List.forall_mem_cons.mpr ⟨xa_gw_mem 377 (by decide +kernel) rfl, List.forall_mem_cons.mpr ⟨xa_gw_mem 379 (by decide +kernel) rfl, List.forall_mem_cons.mpr ⟨xa_gw_mem 381 (by decide +kernel) rfl, (fun _ h => absurd h List.not_mem_nil)⟩⟩⟩⟩⟩⟩⟩⟩⟩⟩⟩⟩⟩
theorem wcX10 : ∀ w ∈ u_ws RX10 TX10 25, w ∈ xa_gw := List.forall_mem_cons.mpr ⟨xa_gw_mem 919 (by decide +kernel) rfl, List.forall_mem_cons.mpr ⟨xa_gw_mem 921 (by decide +kernel) rfl, List.forall_mem_cons.mpr ⟨xa_gw_mem 923 (by decide +kernel) rfl, List.forall_mem_cons.mpr ⟨xa_gw_mem 925 (by decide +kernel) rfl, List.forall_mem_cons.mpr ⟨xa_gw_mem 927 (by decide +kernel) rfl, List.forall_mem_cons.mpr ⟨xa_gw_mem 929 (by decide +kernel) rfl, List.forall_mem_cons.mpr ⟨xa_gw_mem 931 (by decide +kernel) rfl, List.forall_mem_cons.mpr ⟨xa_gw_mem 933 (by decide +kernel) rfl, List.forall_mem_cons.mpr ⟨xa_gw_mem 935 (by decide +kernel) rfl, List.forall_mem_cons.mpr ⟨xa_gw_mem 937 (by decide +kernel) rfl, List.forall_mem_cons.mpr ⟨xa_gw_mem 939 (by decide +kernel) rfl, List.forall_mem_cons.mpr ⟨xa_gw_mem 941 (by decide +kernel) rfl, List.forall_mem_cons.mpr ⟨xa_gw_mem 943 (by decide +kernel) rfl, List.forall_mem_cons.mpr ⟨xa_gw_mem 945 (by decide +kernel) rfl, List.forall_mem_cons.mpr ⟨xa_gw_mem 947 (by decide +kernel) rfl, List.forall_mem_cons.mpr ⟨xa_gw_mem 949 (by decide +kernel) rfl, List.forall_mem_cons.mpr ⟨xa_gw_mem 951 (by decide +kernel) rfl, List.forall_mem_cons.mpr ⟨xa_gw_mem 953 (by decide +kernel) rfl, List.forall_mem_cons.mpr ⟨xa_gw_mem 955 (by decide +kernel) rfl, List.forall_mem_cons.mpr ⟨xa_gw_mem 957 (by decide +kernel) rfl, List.forall_mem_cons.mpr ⟨xa_gw_mem 959 (by decide +kernel) rfl, List.forall_mem_cons.mpr ⟨xa_gw_mem 961 (by decide +kernel) rfl, List.forall_mem_cons.mpr ⟨xa_gw_mem 963 (by decide +kernel) rfl, List.forall_mem_cons.mpr ⟨xa_gw_mem 965 (by decide +kernel) rfl, List.forall_mem_cons.mpr ⟨xa_gw_mem 967 (by decide +kernel) rfl, (fun _ h => absurd h List.not_mem_nil)⟩⟩⟩⟩⟩⟩⟩⟩⟩⟩⟩⟩⟩⟩⟩⟩⟩⟩⟩⟩⟩⟩⟩⟩⟩
theorem flRX7_9 : xa_Fl "CatThatTurns$Text" 9 7 0 := ⟨RX7, TX7, 2, rfl, by decide, wcX7, rfl, Or.inl (xa_gw_mem 83 (by decide +kernel) rfl)⟩
theorem flRX7_15 : xa_Fl "CatThatTurns$Text" 15 7 1 := ⟨RX7, TX7, 2, rfl, by decide, wcX7, rfl, Or.inl (xa_gw_mem 84 (by decide +kernel) rfl)⟩
theorem flRX9_96 : xa_Fl "CatThatTurns" 96 7 1 := ⟨RX7, TX7, 2, rfl, by decide, wcX7, rfl, Or.inr ⟨"CatThatTurns", by decide +kernel⟩⟩
theorem flRX2_32 : xa_Fl "CatThatTurns$Reader" 32 7 1 := ⟨RX7, TX7, 2, rfl, by decide, wcX7, rfl, Or.inr ⟨"CatThatTurns", by decide +kernel⟩⟩
theorem flRX0_9 : xa_Fl "CatThatTurns$Body" 9 0 0 := ⟨RX0, TX0, 8, rfl, by decide, wcX0, rfl, Or.inl (xa_gw_mem 99 (by decide +kernel) rfl)⟩
theorem flRX0_15 : xa_Fl "CatThatTurns$Body" 15 0 1 := ⟨RX0, TX0, 8, rfl, by decide, wcX0, rfl, Or.inl (xa_gw_mem 100 (by decide +kernel) rfl)⟩
theorem flRX0_25 : xa_Fl "CatThatTurns$Body" 25 0 2 := ⟨RX0, TX0, 8, rfl, by decide, wcX0, rfl, Or.inl (xa_gw_mem 101 (by decide +kernel) rfl)⟩
theorem flRX6_41 : xa_Fl "CatThatTurns$Table" 41 0 2 := ⟨RX0, TX0, 8, rfl, by decide, wcX0, rfl, Or.inr ⟨"CatThatTurns", by decide +kernel⟩⟩
theorem flRX8_75 : xa_Fl "CatThatTurns$Trace" 75 0 2 := ⟨RX0, TX0, 8, rfl, by decide, wcX0, rfl, Or.inr ⟨"CatThatTurns", by decide +kernel⟩⟩
theorem flRX9_124 : xa_Fl "CatThatTurns" 124 0 2 := ⟨RX0, TX0, 8, rfl, by decide, wcX0, rfl, Or.inr ⟨"CatThatTurns", by decide +kernel⟩⟩
theorem flRX4_37 : xa_Fl "CatThatTurns$Shape" 37 0 2 := ⟨RX0, TX0, 8, rfl, by decide, wcX0, rfl, Or.inr ⟨"CatThatTurns", by decide +kernel⟩⟩
theorem flRX0_28 : xa_Fl "CatThatTurns$Body" 28 0 3 := ⟨RX0, TX0, 8, rfl, by decide, wcX0, rfl, Or.inl (xa_gw_mem 106 (by decide +kernel) rfl)⟩
theorem flRX1_24 : xa_Fl "CatThatTurns$Loops" 24 0 3 := ⟨RX0, TX0, 8, rfl, by decide, wcX0, rfl, Or.inr ⟨"CatThatTurns", by decide +kernel⟩⟩
theorem flRX6_49 : xa_Fl "CatThatTurns$Table" 49 0 3 := ⟨RX0, TX0, 8, rfl, by decide, wcX0, rfl, Or.inr ⟨"CatThatTurns", by decide +kernel⟩⟩
theorem flRX4_32 : xa_Fl "CatThatTurns$Shape" 32 0 3 := ⟨RX0, TX0, 8, rfl, by decide, wcX0, rfl, Or.inr ⟨"CatThatTurns", by decide +kernel⟩⟩
theorem flRX9_214 : xa_Fl "CatThatTurns" 214 0 3 := ⟨RX0, TX0, 8, rfl, by decide, wcX0, rfl, Or.inr ⟨"CatThatTurns", by decide +kernel⟩⟩
theorem flRX0_18 : xa_Fl "CatThatTurns$Body" 18 0 4 := ⟨RX0, TX0, 8, rfl, by decide, wcX0, rfl, Or.inl (xa_gw_mem 111 (by decide +kernel) rfl)⟩
theorem flRX0_31 : xa_Fl "CatThatTurns$Body" 31 0 5 := ⟨RX0, TX0, 8, rfl, by decide, wcX0, rfl, Or.inl (xa_gw_mem 112 (by decide +kernel) rfl)⟩
theorem flRX4_77 : xa_Fl "CatThatTurns$Shape" 77 0 5 := ⟨RX0, TX0, 8, rfl, by decide, wcX0, rfl, Or.inr ⟨"CatThatTurns", by decide +kernel⟩⟩
theorem flRX0_34 : xa_Fl "CatThatTurns$Body" 34 0 6 := ⟨RX0, TX0, 8, rfl, by decide, wcX0, rfl, Or.inl (xa_gw_mem 114 (by decide +kernel) rfl)⟩
theorem flRX9_144 : xa_Fl "CatThatTurns" 144 0 6 := ⟨RX0, TX0, 8, rfl, by decide, wcX0, rfl, Or.inr ⟨"CatThatTurns", by decide +kernel⟩⟩
theorem flRX6_117 : xa_Fl "CatThatTurns$Table" 117 0 6 := ⟨RX0, TX0, 8, rfl, by decide, wcX0, rfl, Or.inr ⟨"CatThatTurns", by decide +kernel⟩⟩
theorem flRX0_22 : xa_Fl "CatThatTurns$Body" 22 0 7 := ⟨RX0, TX0, 8, rfl, by decide, wcX0, rfl, Or.inl (xa_gw_mem 117 (by decide +kernel) rfl)⟩
theorem flRX9_147 : xa_Fl "CatThatTurns" 147 0 7 := ⟨RX0, TX0, 8, rfl, by decide, wcX0, rfl, Or.inr ⟨"CatThatTurns", by decide +kernel⟩⟩
theorem flRX3_131 : xa_Fl "CatThatTurns$Search" 131 0 7 := ⟨RX0, TX0, 8, rfl, by decide, wcX0, rfl, Or.inr ⟨"CatThatTurns", by decide +kernel⟩⟩
theorem flRX2_15 : xa_Fl "CatThatTurns$Reader" 15 2 0 := ⟨RX2, TX2, 4, rfl, by decide, wcX2, rfl, Or.inl (xa_gw_mem 143 (by decide +kernel) rfl)⟩
theorem flRX2_19 : xa_Fl "CatThatTurns$Reader" 19 2 1 := ⟨RX2, TX2, 4, rfl, by decide, wcX2, rfl, Or.inl (xa_gw_mem 144 (by decide +kernel) rfl)⟩
theorem flRX2_9 : xa_Fl "CatThatTurns$Reader" 9 2 2 := ⟨RX2, TX2, 4, rfl, by decide, wcX2, rfl, Or.inl (xa_gw_mem 145 (by decide +kernel) rfl)⟩
theorem flRX2_28 : xa_Fl "CatThatTurns$Reader" 28 2 3 := ⟨RX2, TX2, 4, rfl, by decide, wcX2, rfl, Or.inl (xa_gw_mem 146 (by decide +kernel) rfl)⟩
theorem flRX5_9 : xa_Fl "CatThatTurns$Sheet" 9 5 0 := ⟨RX5, TX5, 4, rfl, by decide, wcX5, rfl, Or.inl (xa_gw_mem 162 (by decide +kernel) rfl)⟩
theorem flRX5_15 : xa_Fl "CatThatTurns$Sheet" 15 5 1 := ⟨RX5, TX5, 4, rfl, by decide, wcX5, rfl, Or.inl (xa_gw_mem 163 (by decide +kernel) rfl)⟩
theorem flRX5_18 : xa_Fl "CatThatTurns$Sheet" 18 5 2 := ⟨RX5, TX5, 4, rfl, by decide, wcX5, rfl, Or.inl (xa_gw_mem 164 (by decide +kernel) rfl)⟩
theorem flRX5_27 : xa_Fl "CatThatTurns$Sheet" 27 5 3 := ⟨RX5, TX5, 4, rfl, by decide, wcX5, rfl, Or.inl (xa_gw_mem 165 (by decide +kernel) rfl)⟩
theorem flRX8_90 : xa_Fl "CatThatTurns$Trace" 90 5 3 := ⟨RX5, TX5, 4, rfl, by decide, wcX5, rfl, Or.inr ⟨"CatThatTurns", by decide +kernel⟩⟩
theorem flRX9_224 : xa_Fl "CatThatTurns" 224 5 3 := ⟨RX5, TX5, 4, rfl, by decide, wcX5, rfl, Or.inr ⟨"CatThatTurns", by decide +kernel⟩⟩
theorem flRX4_18 : xa_Fl "CatThatTurns$Shape" 18 4 0 := ⟨RX4, TX4, 5, rfl, by decide, wcX4, rfl, Or.inl (xa_gw_mem 190 (by decide +kernel) rfl)⟩
theorem flRX4_9 : xa_Fl "CatThatTurns$Shape" 9 4 1 := ⟨RX4, TX4, 5, rfl, by decide, wcX4, rfl, Or.inl (xa_gw_mem 191 (by decide +kernel) rfl)⟩
theorem flRX4_15 : xa_Fl "CatThatTurns$Shape" 15 4 2 := ⟨RX4, TX4, 5, rfl, by decide, wcX4, rfl, Or.inl (xa_gw_mem 192 (by decide +kernel) rfl)⟩
theorem flRX4_57 : xa_Fl "CatThatTurns$Shape" 57 4 3 := ⟨RX4, TX4, 5, rfl, by decide, wcX4, rfl, Or.inl (xa_gw_mem 193 (by decide +kernel) rfl)⟩
theorem flRX4_28 : xa_Fl "CatThatTurns$Shape" 28 4 4 := ⟨RX4, TX4, 5, rfl, by decide, wcX4, rfl, Or.inl (xa_gw_mem 194 (by decide +kernel) rfl)⟩
theorem flRX8_30 : xa_Fl "CatThatTurns$Trace" 30 8 0 := ⟨RX8, TX8, 7, rfl, by decide, wcX8, rfl, Or.inl (xa_gw_mem 206 (by decide +kernel) rfl)⟩
theorem flRX9_192 : xa_Fl "CatThatTurns" 192 8 0 := ⟨RX8, TX8, 7, rfl, by decide, wcX8, rfl, Or.inr ⟨"CatThatTurns", by decide +kernel⟩⟩
theorem flRX8_21 : xa_Fl "CatThatTurns$Trace" 21 8 1 := ⟨RX8, TX8, 7, rfl, by decide, wcX8, rfl, Or.inl (xa_gw_mem 208 (by decide +kernel) rfl)⟩
theorem flRX8_9 : xa_Fl "CatThatTurns$Trace" 9 8 2 := ⟨RX8, TX8, 7, rfl, by decide, wcX8, rfl, Or.inl (xa_gw_mem 209 (by decide +kernel) rfl)⟩
theorem flRX8_15 : xa_Fl "CatThatTurns$Trace" 15 8 3 := ⟨RX8, TX8, 7, rfl, by decide, wcX8, rfl, Or.inl (xa_gw_mem 210 (by decide +kernel) rfl)⟩
theorem flRX8_18 : xa_Fl "CatThatTurns$Trace" 18 8 4 := ⟨RX8, TX8, 7, rfl, by decide, wcX8, rfl, Or.inl (xa_gw_mem 211 (by decide +kernel) rfl)⟩
theorem flRX8_37 : xa_Fl "CatThatTurns$Trace" 37 8 5 := ⟨RX8, TX8, 7, rfl, by decide, wcX8, rfl, Or.inl (xa_gw_mem 212 (by decide +kernel) rfl)⟩
theorem flRX9_170 : xa_Fl "CatThatTurns" 170 8 5 := ⟨RX8, TX8, 7, rfl, by decide, wcX8, rfl, Or.inr ⟨"CatThatTurns", by decide +kernel⟩⟩
theorem flRX8_68 : xa_Fl "CatThatTurns$Trace" 68 8 6 := ⟨RX8, TX8, 7, rfl, by decide, wcX8, rfl, Or.inl (xa_gw_mem 214 (by decide +kernel) rfl)⟩
theorem flRX9_185 : xa_Fl "CatThatTurns" 185 8 6 := ⟨RX8, TX8, 7, rfl, by decide, wcX8, rfl, Or.inr ⟨"CatThatTurns", by decide +kernel⟩⟩
theorem flRX1_9 : xa_Fl "CatThatTurns$Loops" 9 1 0 := ⟨RX1, TX1, 2, rfl, by decide, wcX1, rfl, Or.inl (xa_gw_mem 239 (by decide +kernel) rfl)⟩
theorem flRX1_20 : xa_Fl "CatThatTurns$Loops" 20 1 1 := ⟨RX1, TX1, 2, rfl, by decide, wcX1, rfl, Or.inl (xa_gw_mem 240 (by decide +kernel) rfl)⟩
theorem flRX6_24 : xa_Fl "CatThatTurns$Table" 24 6 0 := ⟨RX6, TX6, 10, rfl, by decide, wcX6, rfl, Or.inl (xa_gw_mem 260 (by decide +kernel) rfl)⟩
theorem flRX6_37 : xa_Fl "CatThatTurns$Table" 37 6 1 := ⟨RX6, TX6, 10, rfl, by decide, wcX6, rfl, Or.inl (xa_gw_mem 261 (by decide +kernel) rfl)⟩
theorem flRX6_28 : xa_Fl "CatThatTurns$Table" 28 6 2 := ⟨RX6, TX6, 10, rfl, by decide, wcX6, rfl, Or.inl (xa_gw_mem 262 (by decide +kernel) rfl)⟩
theorem flRX6_9 : xa_Fl "CatThatTurns$Table" 9 6 3 := ⟨RX6, TX6, 10, rfl, by decide, wcX6, rfl, Or.inl (xa_gw_mem 263 (by decide +kernel) rfl)⟩
theorem flRX6_15 : xa_Fl "CatThatTurns$Table" 15 6 4 := ⟨RX6, TX6, 10, rfl, by decide, wcX6, rfl, Or.inl (xa_gw_mem 264 (by decide +kernel) rfl)⟩
theorem flRX6_46 : xa_Fl "CatThatTurns$Table" 46 6 5 := ⟨RX6, TX6, 10, rfl, by decide, wcX6, rfl, Or.inl (xa_gw_mem 265 (by decide +kernel) rfl)⟩
theorem flRX3_75 : xa_Fl "CatThatTurns$Search" 75 6 5 := ⟨RX6, TX6, 10, rfl, by decide, wcX6, rfl, Or.inr ⟨"CatThatTurns", by decide +kernel⟩⟩
theorem flRX6_82 : xa_Fl "CatThatTurns$Table" 82 6 6 := ⟨RX6, TX6, 10, rfl, by decide, wcX6, rfl, Or.inl (xa_gw_mem 267 (by decide +kernel) rfl)⟩
theorem flRX6_85 : xa_Fl "CatThatTurns$Table" 85 6 7 := ⟨RX6, TX6, 10, rfl, by decide, wcX6, rfl, Or.inl (xa_gw_mem 268 (by decide +kernel) rfl)⟩
theorem flRX6_18 : xa_Fl "CatThatTurns$Table" 18 6 8 := ⟨RX6, TX6, 10, rfl, by decide, wcX6, rfl, Or.inl (xa_gw_mem 269 (by decide +kernel) rfl)⟩
theorem flRX6_21 : xa_Fl "CatThatTurns$Table" 21 6 9 := ⟨RX6, TX6, 10, rfl, by decide, wcX6, rfl, Or.inl (xa_gw_mem 270 (by decide +kernel) rfl)⟩
theorem flRX3_21 : xa_Fl "CatThatTurns$Search" 21 3 0 := ⟨RX3, TX3, 12, rfl, by decide, wcX3, rfl, Or.inl (xa_gw_mem 292 (by decide +kernel) rfl)⟩
theorem flRX3_30 : xa_Fl "CatThatTurns$Search" 30 3 1 := ⟨RX3, TX3, 12, rfl, by decide, wcX3, rfl, Or.inl (xa_gw_mem 293 (by decide +kernel) rfl)⟩
theorem flRX3_11 : xa_Fl "CatThatTurns$Search" 11 3 2 := ⟨RX3, TX3, 12, rfl, by decide, wcX3, rfl, Or.inl (xa_gw_mem 294 (by decide +kernel) rfl)⟩
theorem flRX3_15 : xa_Fl "CatThatTurns$Search" 15 3 3 := ⟨RX3, TX3, 12, rfl, by decide, wcX3, rfl, Or.inl (xa_gw_mem 295 (by decide +kernel) rfl)⟩
theorem flRX3_18 : xa_Fl "CatThatTurns$Search" 18 3 4 := ⟨RX3, TX3, 12, rfl, by decide, wcX3, rfl, Or.inl (xa_gw_mem 296 (by decide +kernel) rfl)⟩
theorem flRX3_34 : xa_Fl "CatThatTurns$Search" 34 3 5 := ⟨RX3, TX3, 12, rfl, by decide, wcX3, rfl, Or.inl (xa_gw_mem 297 (by decide +kernel) rfl)⟩
theorem flRX3_42 : xa_Fl "CatThatTurns$Search" 42 3 6 := ⟨RX3, TX3, 12, rfl, by decide, wcX3, rfl, Or.inl (xa_gw_mem 298 (by decide +kernel) rfl)⟩
theorem flRX3_95 : xa_Fl "CatThatTurns$Search" 95 3 7 := ⟨RX3, TX3, 12, rfl, by decide, wcX3, rfl, Or.inl (xa_gw_mem 299 (by decide +kernel) rfl)⟩
theorem flRX3_98 : xa_Fl "CatThatTurns$Search" 98 3 8 := ⟨RX3, TX3, 12, rfl, by decide, wcX3, rfl, Or.inl (xa_gw_mem 300 (by decide +kernel) rfl)⟩
theorem flRX3_101 : xa_Fl "CatThatTurns$Search" 101 3 9 := ⟨RX3, TX3, 12, rfl, by decide, wcX3, rfl, Or.inl (xa_gw_mem 301 (by decide +kernel) rfl)⟩
theorem flRX3_48 : xa_Fl "CatThatTurns$Search" 48 3 10 := ⟨RX3, TX3, 12, rfl, by decide, wcX3, rfl, Or.inl (xa_gw_mem 302 (by decide +kernel) rfl)⟩
theorem flRX3_88 : xa_Fl "CatThatTurns$Search" 88 3 11 := ⟨RX3, TX3, 12, rfl, by decide, wcX3, rfl, Or.inl (xa_gw_mem 303 (by decide +kernel) rfl)⟩
theorem flRX9_12 : xa_Fl "CatThatTurns" 12 9 0 := ⟨RX9, TX9, 13, rfl, by decide, wcX9, rfl, Or.inl (xa_gw_mem 344 (by decide +kernel) rfl)⟩
theorem flRX9_19 : xa_Fl "CatThatTurns" 19 9 1 := ⟨RX9, TX9, 13, rfl, by decide, wcX9, rfl, Or.inl (xa_gw_mem 345 (by decide +kernel) rfl)⟩
theorem flRX9_23 : xa_Fl "CatThatTurns" 23 9 2 := ⟨RX9, TX9, 13, rfl, by decide, wcX9, rfl, Or.inl (xa_gw_mem 346 (by decide +kernel) rfl)⟩
theorem flRX9_31 : xa_Fl "CatThatTurns" 31 9 3 := ⟨RX9, TX9, 13, rfl, by decide, wcX9, rfl, Or.inl (xa_gw_mem 347 (by decide +kernel) rfl)⟩
theorem flRX9_38 : xa_Fl "CatThatTurns" 38 9 4 := ⟨RX9, TX9, 13, rfl, by decide, wcX9, rfl, Or.inl (xa_gw_mem 348 (by decide +kernel) rfl)⟩
theorem flRX9_42 : xa_Fl "CatThatTurns" 42 9 5 := ⟨RX9, TX9, 13, rfl, by decide, wcX9, rfl, Or.inl (xa_gw_mem 349 (by decide +kernel) rfl)⟩
theorem flRX9_121 : xa_Fl "CatThatTurns" 121 9 6 := ⟨RX9, TX9, 13, rfl, by decide, wcX9, rfl, Or.inl (xa_gw_mem 350 (by decide +kernel) rfl)⟩
theorem flRX9_51 : xa_Fl "CatThatTurns" 51 9 7 := ⟨RX9, TX9, 13, rfl, by decide, wcX9, rfl, Or.inl (xa_gw_mem 351 (by decide +kernel) rfl)⟩
theorem flRX9_55 : xa_Fl "CatThatTurns" 55 9 8 := ⟨RX9, TX9, 13, rfl, by decide, wcX9, rfl, Or.inl (xa_gw_mem 352 (by decide +kernel) rfl)⟩
theorem flRX9_62 : xa_Fl "CatThatTurns" 62 9 9 := ⟨RX9, TX9, 13, rfl, by decide, wcX9, rfl, Or.inl (xa_gw_mem 353 (by decide +kernel) rfl)⟩
theorem flRX9_71 : xa_Fl "CatThatTurns" 71 9 10 := ⟨RX9, TX9, 13, rfl, by decide, wcX9, rfl, Or.inl (xa_gw_mem 354 (by decide +kernel) rfl)⟩
theorem flRX9_75 : xa_Fl "CatThatTurns" 75 9 11 := ⟨RX9, TX9, 13, rfl, by decide, wcX9, rfl, Or.inl (xa_gw_mem 355 (by decide +kernel) rfl)⟩
theorem flRX9_78 : xa_Fl "CatThatTurns" 78 9 12 := ⟨RX9, TX9, 13, rfl, by decide, wcX9, rfl, Or.inl (xa_gw_mem 356 (by decide +kernel) rfl)⟩
theorem flRX0_45 : Cond.fieldLink "CatThatTurns$Body" 45 "CatThatTurns" "WAG_STEPS" "[I" ∈ xa_gw ∨ ∃ host, ("CatThatTurns$Body", 45, "CatThatTurns", "WAG_STEPS", "[I", host) ∈ xa_nF := Or.inr ⟨"CatThatTurns", by decide +kernel⟩
theorem flRX10_69 : xa_Fl "CatThatTurnsModel" 69 10 0 := ⟨RX10, TX10, 25, rfl, by decide, wcX10, rfl, Or.inl (xa_gw_mem 894 (by decide +kernel) rfl)⟩
theorem flRX10_7 : xa_Fl "CatThatTurnsModel" 7 10 1 := ⟨RX10, TX10, 25, rfl, by decide, wcX10, rfl, Or.inl (xa_gw_mem 895 (by decide +kernel) rfl)⟩
theorem flRX10_13 : xa_Fl "CatThatTurnsModel" 13 10 2 := ⟨RX10, TX10, 25, rfl, by decide, wcX10, rfl, Or.inl (xa_gw_mem 896 (by decide +kernel) rfl)⟩
theorem flRX10_16 : xa_Fl "CatThatTurnsModel" 16 10 3 := ⟨RX10, TX10, 25, rfl, by decide, wcX10, rfl, Or.inl (xa_gw_mem 897 (by decide +kernel) rfl)⟩
theorem flRX10_19 : xa_Fl "CatThatTurnsModel" 19 10 4 := ⟨RX10, TX10, 25, rfl, by decide, wcX10, rfl, Or.inl (xa_gw_mem 898 (by decide +kernel) rfl)⟩
theorem flRX10_22 : xa_Fl "CatThatTurnsModel" 22 10 5 := ⟨RX10, TX10, 25, rfl, by decide, wcX10, rfl, Or.inl (xa_gw_mem 899 (by decide +kernel) rfl)⟩
theorem flRX10_25 : xa_Fl "CatThatTurnsModel" 25 10 6 := ⟨RX10, TX10, 25, rfl, by decide, wcX10, rfl, Or.inl (xa_gw_mem 900 (by decide +kernel) rfl)⟩
theorem flRX10_28 : xa_Fl "CatThatTurnsModel" 28 10 7 := ⟨RX10, TX10, 25, rfl, by decide, wcX10, rfl, Or.inl (xa_gw_mem 901 (by decide +kernel) rfl)⟩
theorem flRX10_31 : xa_Fl "CatThatTurnsModel" 31 10 8 := ⟨RX10, TX10, 25, rfl, by decide, wcX10, rfl, Or.inl (xa_gw_mem 902 (by decide +kernel) rfl)⟩
theorem flRX10_34 : xa_Fl "CatThatTurnsModel" 34 10 9 := ⟨RX10, TX10, 25, rfl, by decide, wcX10, rfl, Or.inl (xa_gw_mem 903 (by decide +kernel) rfl)⟩
theorem flRX10_37 : xa_Fl "CatThatTurnsModel" 37 10 10 := ⟨RX10, TX10, 25, rfl, by decide, wcX10, rfl, Or.inl (xa_gw_mem 904 (by decide +kernel) rfl)⟩
theorem flRX10_40 : xa_Fl "CatThatTurnsModel" 40 10 11 := ⟨RX10, TX10, 25, rfl, by decide, wcX10, rfl, Or.inl (xa_gw_mem 905 (by decide +kernel) rfl)⟩
theorem flRX10_43 : xa_Fl "CatThatTurnsModel" 43 10 12 := ⟨RX10, TX10, 25, rfl, by decide, wcX10, rfl, Or.inl (xa_gw_mem 906 (by decide +kernel) rfl)⟩
theorem flRX10_112 : xa_Fl "CatThatTurnsModel" 112 10 13 := ⟨RX10, TX10, 25, rfl, by decide, wcX10, rfl, Or.inl (xa_gw_mem 907 (by decide +kernel) rfl)⟩
theorem flRX10_149 : xa_Fl "CatThatTurnsModel" 149 10 14 := ⟨RX10, TX10, 25, rfl, by decide, wcX10, rfl, Or.inl (xa_gw_mem 908 (by decide +kernel) rfl)⟩
theorem flRX10_74 : xa_Fl "CatThatTurnsModel" 74 10 15 := ⟨RX10, TX10, 25, rfl, by decide, wcX10, rfl, Or.inl (xa_gw_mem 909 (by decide +kernel) rfl)⟩
theorem flRX10_46 : xa_Fl "CatThatTurnsModel" 46 10 16 := ⟨RX10, TX10, 25, rfl, by decide, wcX10, rfl, Or.inl (xa_gw_mem 910 (by decide +kernel) rfl)⟩
theorem flRX10_164 : xa_Fl "CatThatTurnsModel" 164 10 17 := ⟨RX10, TX10, 25, rfl, by decide, wcX10, rfl, Or.inl (xa_gw_mem 911 (by decide +kernel) rfl)⟩
theorem flRX10_167 : xa_Fl "CatThatTurnsModel" 167 10 18 := ⟨RX10, TX10, 25, rfl, by decide, wcX10, rfl, Or.inl (xa_gw_mem 912 (by decide +kernel) rfl)⟩
theorem flRX10_170 : xa_Fl "CatThatTurnsModel" 170 10 19 := ⟨RX10, TX10, 25, rfl, by decide, wcX10, rfl, Or.inl (xa_gw_mem 913 (by decide +kernel) rfl)⟩
theorem flRX10_49 : xa_Fl "CatThatTurnsModel" 49 10 20 := ⟨RX10, TX10, 25, rfl, by decide, wcX10, rfl, Or.inl (xa_gw_mem 914 (by decide +kernel) rfl)⟩
theorem flRX10_54 : xa_Fl "CatThatTurnsModel" 54 10 21 := ⟨RX10, TX10, 25, rfl, by decide, wcX10, rfl, Or.inl (xa_gw_mem 915 (by decide +kernel) rfl)⟩
theorem flRX10_57 : xa_Fl "CatThatTurnsModel" 57 10 22 := ⟨RX10, TX10, 25, rfl, by decide, wcX10, rfl, Or.inl (xa_gw_mem 916 (by decide +kernel) rfl)⟩
theorem flRX10_206 : xa_Fl "CatThatTurnsModel" 206 10 23 := ⟨RX10, TX10, 25, rfl, by decide, wcX10, rfl, Or.inl (xa_gw_mem 917 (by decide +kernel) rfl)⟩
theorem flRX10_60 : xa_Fl "CatThatTurnsModel" 60 10 24 := ⟨RX10, TX10, 25, rfl, by decide, wcX10, rfl, Or.inl (xa_gw_mem 918 (by decide +kernel) rfl)⟩
theorem plX0_0 : xa_Pl 0 0 true (.array .int) := ⟨RX0, TX0, 8, tyX0, rfl, tyX0_ok, nmX0, rfl, by decide +kernel⟩
theorem plX0_1 : xa_Pl 0 1 true (.array .int) := ⟨RX0, TX0, 8, tyX0, rfl, tyX0_ok, nmX0, rfl, by decide +kernel⟩
theorem plX0_2 : xa_Pl 0 2 false .int := ⟨RX0, TX0, 8, tyX0, rfl, tyX0_ok, nmX0, rfl, by decide +kernel⟩
theorem plX0_3 : xa_Pl 0 3 false .int := ⟨RX0, TX0, 8, tyX0, rfl, tyX0_ok, nmX0, rfl, by decide +kernel⟩
theorem plX0_4 : xa_Pl 0 4 false .int := ⟨RX0, TX0, 8, tyX0, rfl, tyX0_ok, nmX0, rfl, by decide +kernel⟩
theorem plX0_5 : xa_Pl 0 5 false .int := ⟨RX0, TX0, 8, tyX0, rfl, tyX0_ok, nmX0, rfl, by decide +kernel⟩
theorem plX0_6 : xa_Pl 0 6 false .int := ⟨RX0, TX0, 8, tyX0, rfl, tyX0_ok, nmX0, rfl, by decide +kernel⟩
theorem plX0_7 : xa_Pl 0 7 false .int := ⟨RX0, TX0, 8, tyX0, rfl, tyX0_ok, nmX0, rfl, by decide +kernel⟩
theorem plX1_0 : xa_Pl 1 0 true (.object "CatThatTurns$Body") := ⟨RX1, TX1, 2, tyX1, rfl, tyX1_ok, nmX1, rfl, by decide +kernel⟩
theorem plX1_1 : xa_Pl 1 1 true (.object "CatThatTurns$Shape") := ⟨RX1, TX1, 2, tyX1, rfl, tyX1_ok, nmX1, rfl, by decide +kernel⟩
theorem plX2_0 : xa_Pl 2 0 true (.object "CatThatTurns$Text") := ⟨RX2, TX2, 4, tyX2, rfl, tyX2_ok, nmX2, rfl, by decide +kernel⟩
theorem plX2_1 : xa_Pl 2 1 true (.object "CatThatTurns$Body") := ⟨RX2, TX2, 4, tyX2, rfl, tyX2_ok, nmX2, rfl, by decide +kernel⟩
theorem plX2_2 : xa_Pl 2 2 true (.array .int) := ⟨RX2, TX2, 4, tyX2, rfl, tyX2_ok, nmX2, rfl, by decide +kernel⟩
theorem plX2_3 : xa_Pl 2 3 false .int := ⟨RX2, TX2, 4, tyX2, rfl, tyX2_ok, nmX2, rfl, by decide +kernel⟩
theorem plX3_0 : xa_Pl 3 0 true (.object "CatThatTurns$Body") := ⟨RX3, TX3, 12, tyX3, rfl, tyX3_ok, nmX3, rfl, by decide +kernel⟩
theorem plX3_1 : xa_Pl 3 1 true (.object "CatThatTurns$Table") := ⟨RX3, TX3, 12, tyX3, rfl, tyX3_ok, nmX3, rfl, by decide +kernel⟩
theorem plX3_2 : xa_Pl 3 2 true (.array .int) := ⟨RX3, TX3, 12, tyX3, rfl, tyX3_ok, nmX3, rfl, by decide +kernel⟩
theorem plX3_3 : xa_Pl 3 3 true (.array .int) := ⟨RX3, TX3, 12, tyX3, rfl, tyX3_ok, nmX3, rfl, by decide +kernel⟩
theorem plX3_4 : xa_Pl 3 4 false (.array .int) := ⟨RX3, TX3, 12, tyX3, rfl, tyX3_ok, nmX3, rfl, by decide +kernel⟩
theorem plX3_5 : xa_Pl 3 5 false .boolean := ⟨RX3, TX3, 12, tyX3, rfl, tyX3_ok, nmX3, rfl, by decide +kernel⟩
theorem plX3_6 : xa_Pl 3 6 false .boolean := ⟨RX3, TX3, 12, tyX3, rfl, tyX3_ok, nmX3, rfl, by decide +kernel⟩
theorem plX3_7 : xa_Pl 3 7 false .int := ⟨RX3, TX3, 12, tyX3, rfl, tyX3_ok, nmX3, rfl, by decide +kernel⟩
theorem plX3_8 : xa_Pl 3 8 false .int := ⟨RX3, TX3, 12, tyX3, rfl, tyX3_ok, nmX3, rfl, by decide +kernel⟩
theorem plX3_9 : xa_Pl 3 9 false .int := ⟨RX3, TX3, 12, tyX3, rfl, tyX3_ok, nmX3, rfl, by decide +kernel⟩
theorem plX3_10 : xa_Pl 3 10 false .int := ⟨RX3, TX3, 12, tyX3, rfl, tyX3_ok, nmX3, rfl, by decide +kernel⟩
theorem plX3_11 : xa_Pl 3 11 false .int := ⟨RX3, TX3, 12, tyX3, rfl, tyX3_ok, nmX3, rfl, by decide +kernel⟩
theorem plX4_0 : xa_Pl 4 0 true (.object "CatThatTurns$Body") := ⟨RX4, TX4, 5, tyX4, rfl, tyX4_ok, nmX4, rfl, by decide +kernel⟩
theorem plX4_1 : xa_Pl 4 1 true (.array .int) := ⟨RX4, TX4, 5, tyX4, rfl, tyX4_ok, nmX4, rfl, by decide +kernel⟩
theorem plX4_2 : xa_Pl 4 2 true (.array .int) := ⟨RX4, TX4, 5, tyX4, rfl, tyX4_ok, nmX4, rfl, by decide +kernel⟩
theorem plX4_3 : xa_Pl 4 3 false .int := ⟨RX4, TX4, 5, tyX4, rfl, tyX4_ok, nmX4, rfl, by decide +kernel⟩
theorem plX4_4 : xa_Pl 4 4 false .int := ⟨RX4, TX4, 5, tyX4, rfl, tyX4_ok, nmX4, rfl, by decide +kernel⟩
theorem plX5_0 : xa_Pl 5 0 true (.array .int) := ⟨RX5, TX5, 4, tyX5, rfl, tyX5_ok, nmX5, rfl, by decide +kernel⟩
theorem plX5_1 : xa_Pl 5 1 true (.array .int) := ⟨RX5, TX5, 4, tyX5, rfl, tyX5_ok, nmX5, rfl, by decide +kernel⟩
theorem plX5_2 : xa_Pl 5 2 true (.array .int) := ⟨RX5, TX5, 4, tyX5, rfl, tyX5_ok, nmX5, rfl, by decide +kernel⟩
theorem plX5_3 : xa_Pl 5 3 false .int := ⟨RX5, TX5, 4, tyX5, rfl, tyX5_ok, nmX5, rfl, by decide +kernel⟩
theorem plX6_0 : xa_Pl 6 0 true (.object "CatThatTurns$Body") := ⟨RX6, TX6, 10, tyX6, rfl, tyX6_ok, nmX6, rfl, by decide +kernel⟩
theorem plX6_1 : xa_Pl 6 1 true (.object "CatThatTurns$Shape") := ⟨RX6, TX6, 10, tyX6, rfl, tyX6_ok, nmX6, rfl, by decide +kernel⟩
theorem plX6_2 : xa_Pl 6 2 true .int := ⟨RX6, TX6, 10, tyX6, rfl, tyX6_ok, nmX6, rfl, by decide +kernel⟩
theorem plX6_3 : xa_Pl 6 3 true (.array .int) := ⟨RX6, TX6, 10, tyX6, rfl, tyX6_ok, nmX6, rfl, by decide +kernel⟩
theorem plX6_4 : xa_Pl 6 4 true (.array .int) := ⟨RX6, TX6, 10, tyX6, rfl, tyX6_ok, nmX6, rfl, by decide +kernel⟩
theorem plX6_5 : xa_Pl 6 5 false .int := ⟨RX6, TX6, 10, tyX6, rfl, tyX6_ok, nmX6, rfl, by decide +kernel⟩
theorem plX6_6 : xa_Pl 6 6 false .int := ⟨RX6, TX6, 10, tyX6, rfl, tyX6_ok, nmX6, rfl, by decide +kernel⟩
theorem plX6_7 : xa_Pl 6 7 false .int := ⟨RX6, TX6, 10, tyX6, rfl, tyX6_ok, nmX6, rfl, by decide +kernel⟩
theorem plX6_8 : xa_Pl 6 8 false (.array .int) := ⟨RX6, TX6, 10, tyX6, rfl, tyX6_ok, nmX6, rfl, by decide +kernel⟩
theorem plX6_9 : xa_Pl 6 9 false (.array .int) := ⟨RX6, TX6, 10, tyX6, rfl, tyX6_ok, nmX6, rfl, by decide +kernel⟩
theorem plX7_0 : xa_Pl 7 0 true (.array .int) := ⟨RX7, TX7, 2, tyX7, rfl, tyX7_ok, nmX7, rfl, by decide +kernel⟩
theorem plX7_1 : xa_Pl 7 1 false .int := ⟨RX7, TX7, 2, tyX7, rfl, tyX7_ok, nmX7, rfl, by decide +kernel⟩
theorem plX8_0 : xa_Pl 8 0 true (.object "CatThatTurns$Shape") := ⟨RX8, TX8, 7, tyX8, rfl, tyX8_ok, nmX8, rfl, by decide +kernel⟩
theorem plX8_1 : xa_Pl 8 1 true (.object "CatThatTurns$Body") := ⟨RX8, TX8, 7, tyX8, rfl, tyX8_ok, nmX8, rfl, by decide +kernel⟩
theorem plX8_2 : xa_Pl 8 2 true (.array .int) := ⟨RX8, TX8, 7, tyX8, rfl, tyX8_ok, nmX8, rfl, by decide +kernel⟩
theorem plX8_3 : xa_Pl 8 3 true (.array .int) := ⟨RX8, TX8, 7, tyX8, rfl, tyX8_ok, nmX8, rfl, by decide +kernel⟩
theorem plX8_4 : xa_Pl 8 4 true (.array .int) := ⟨RX8, TX8, 7, tyX8, rfl, tyX8_ok, nmX8, rfl, by decide +kernel⟩
theorem plX8_5 : xa_Pl 8 5 false .int := ⟨RX8, TX8, 7, tyX8, rfl, tyX8_ok, nmX8, rfl, by decide +kernel⟩
theorem plX8_6 : xa_Pl 8 6 false .boolean := ⟨RX8, TX8, 7, tyX8, rfl, tyX8_ok, nmX8, rfl, by decide +kernel⟩
theorem plX9_0 : xa_Pl 9 0 true (.object "CatThatTurns$Text") := ⟨RX9, TX9, 13, tyX9, rfl, tyX9_ok, nmX9, rfl, by decide +kernel⟩
theorem plX9_1 : xa_Pl 9 1 true (.object "CatThatTurns$Body") := ⟨RX9, TX9, 13, tyX9, rfl, tyX9_ok, nmX9, rfl, by decide +kernel⟩
theorem plX9_2 : xa_Pl 9 2 true (.object "CatThatTurns$Body") := ⟨RX9, TX9, 13, tyX9, rfl, tyX9_ok, nmX9, rfl, by decide +kernel⟩
theorem plX9_3 : xa_Pl 9 3 true (.object "CatThatTurns$Reader") := ⟨RX9, TX9, 13, tyX9, rfl, tyX9_ok, nmX9, rfl, by decide +kernel⟩
theorem plX9_4 : xa_Pl 9 4 true (.object "CatThatTurns$Sheet") := ⟨RX9, TX9, 13, tyX9, rfl, tyX9_ok, nmX9, rfl, by decide +kernel⟩
theorem plX9_5 : xa_Pl 9 5 true (.array (.object "CatThatTurns$Sheet")) := ⟨RX9, TX9, 13, tyX9, rfl, tyX9_ok, nmX9, rfl, by decide +kernel⟩
theorem plX9_6 : xa_Pl 9 6 false .int := ⟨RX9, TX9, 13, tyX9, rfl, tyX9_ok, nmX9, rfl, by decide +kernel⟩
theorem plX9_7 : xa_Pl 9 7 true (.object "CatThatTurns$Trace") := ⟨RX9, TX9, 13, tyX9, rfl, tyX9_ok, nmX9, rfl, by decide +kernel⟩
theorem plX9_8 : xa_Pl 9 8 true (.array .int) := ⟨RX9, TX9, 13, tyX9, rfl, tyX9_ok, nmX9, rfl, by decide +kernel⟩
theorem plX9_9 : xa_Pl 9 9 true (.object "CatThatTurns$Loops") := ⟨RX9, TX9, 13, tyX9, rfl, tyX9_ok, nmX9, rfl, by decide +kernel⟩
theorem plX9_10 : xa_Pl 9 10 true (.object "CatThatTurns$Search") := ⟨RX9, TX9, 13, tyX9, rfl, tyX9_ok, nmX9, rfl, by decide +kernel⟩
theorem plX9_11 : xa_Pl 9 11 true (.object "CatThatTurns$Search") := ⟨RX9, TX9, 13, tyX9, rfl, tyX9_ok, nmX9, rfl, by decide +kernel⟩
theorem plX9_12 : xa_Pl 9 12 true (.object "CatThatTurns$Search") := ⟨RX9, TX9, 13, tyX9, rfl, tyX9_ok, nmX9, rfl, by decide +kernel⟩
theorem plX10_0 : xa_Pl 10 0 false .int := ⟨RX10, TX10, 25, tyX10, rfl, tyX10_ok, nmX10, rfl, by decide +kernel⟩
theorem plX10_1 : xa_Pl 10 1 true (.array .int) := ⟨RX10, TX10, 25, tyX10, rfl, tyX10_ok, nmX10, rfl, by decide +kernel⟩
theorem plX10_2 : xa_Pl 10 2 true (.array .int) := ⟨RX10, TX10, 25, tyX10, rfl, tyX10_ok, nmX10, rfl, by decide +kernel⟩
theorem plX10_3 : xa_Pl 10 3 true (.array .int) := ⟨RX10, TX10, 25, tyX10, rfl, tyX10_ok, nmX10, rfl, by decide +kernel⟩
theorem plX10_4 : xa_Pl 10 4 true (.array .int) := ⟨RX10, TX10, 25, tyX10, rfl, tyX10_ok, nmX10, rfl, by decide +kernel⟩
theorem plX10_5 : xa_Pl 10 5 true (.array .int) := ⟨RX10, TX10, 25, tyX10, rfl, tyX10_ok, nmX10, rfl, by decide +kernel⟩
theorem plX10_6 : xa_Pl 10 6 true (.array .int) := ⟨RX10, TX10, 25, tyX10, rfl, tyX10_ok, nmX10, rfl, by decide +kernel⟩
theorem plX10_7 : xa_Pl 10 7 true (.array .int) := ⟨RX10, TX10, 25, tyX10, rfl, tyX10_ok, nmX10, rfl, by decide +kernel⟩
theorem plX10_8 : xa_Pl 10 8 true (.array .int) := ⟨RX10, TX10, 25, tyX10, rfl, tyX10_ok, nmX10, rfl, by decide +kernel⟩
theorem plX10_9 : xa_Pl 10 9 true (.array .int) := ⟨RX10, TX10, 25, tyX10, rfl, tyX10_ok, nmX10, rfl, by decide +kernel⟩
theorem plX10_10 : xa_Pl 10 10 true (.array .int) := ⟨RX10, TX10, 25, tyX10, rfl, tyX10_ok, nmX10, rfl, by decide +kernel⟩
theorem plX10_11 : xa_Pl 10 11 true (.array .int) := ⟨RX10, TX10, 25, tyX10, rfl, tyX10_ok, nmX10, rfl, by decide +kernel⟩
theorem plX10_12 : xa_Pl 10 12 true (.array .int) := ⟨RX10, TX10, 25, tyX10, rfl, tyX10_ok, nmX10, rfl, by decide +kernel⟩
theorem plX10_13 : xa_Pl 10 13 false .int := ⟨RX10, TX10, 25, tyX10, rfl, tyX10_ok, nmX10, rfl, by decide +kernel⟩
theorem plX10_14 : xa_Pl 10 14 false .int := ⟨RX10, TX10, 25, tyX10, rfl, tyX10_ok, nmX10, rfl, by decide +kernel⟩
theorem plX10_15 : xa_Pl 10 15 false .int := ⟨RX10, TX10, 25, tyX10, rfl, tyX10_ok, nmX10, rfl, by decide +kernel⟩
theorem plX10_16 : xa_Pl 10 16 true (.array .int) := ⟨RX10, TX10, 25, tyX10, rfl, tyX10_ok, nmX10, rfl, by decide +kernel⟩
theorem plX10_17 : xa_Pl 10 17 false .int := ⟨RX10, TX10, 25, tyX10, rfl, tyX10_ok, nmX10, rfl, by decide +kernel⟩
theorem plX10_18 : xa_Pl 10 18 false .int := ⟨RX10, TX10, 25, tyX10, rfl, tyX10_ok, nmX10, rfl, by decide +kernel⟩
theorem plX10_19 : xa_Pl 10 19 false .int := ⟨RX10, TX10, 25, tyX10, rfl, tyX10_ok, nmX10, rfl, by decide +kernel⟩
theorem plX10_20 : xa_Pl 10 20 false .int := ⟨RX10, TX10, 25, tyX10, rfl, tyX10_ok, nmX10, rfl, by decide +kernel⟩
theorem plX10_21 : xa_Pl 10 21 true (.array .int) := ⟨RX10, TX10, 25, tyX10, rfl, tyX10_ok, nmX10, rfl, by decide +kernel⟩
theorem plX10_22 : xa_Pl 10 22 true (.array .int) := ⟨RX10, TX10, 25, tyX10, rfl, tyX10_ok, nmX10, rfl, by decide +kernel⟩
theorem plX10_23 : xa_Pl 10 23 false .int := ⟨RX10, TX10, 25, tyX10, rfl, tyX10_ok, nmX10, rfl, by decide +kernel⟩
theorem plX10_24 : xa_Pl 10 24 true (.array .int) := ⟨RX10, TX10, 25, tyX10, rfl, tyX10_ok, nmX10, rfl, by decide +kernel⟩
theorem clRL_7 : Cond.classLink "CatThatTurnsLaw" 7 "CatThatTurns" ∈ xa_gw := xa_gw_mem 69 (by decide +kernel) rfl
theorem clRX9_9 : Cond.classLink "CatThatTurns" 9 "CatThatTurns$Text" ∈ xa_gw := xa_gw_mem 77 (by decide +kernel) rfl
theorem clRX9_16 : Cond.classLink "CatThatTurns" 16 "CatThatTurns$Body" ∈ xa_gw := xa_gw_mem 93 (by decide +kernel) rfl
theorem clRX9_26 : Cond.classLink "CatThatTurns" 26 "CatThatTurns$Reader" ∈ xa_gw := xa_gw_mem 137 (by decide +kernel) rfl
theorem clRX9_35 : Cond.classLink "CatThatTurns" 35 "CatThatTurns$Sheet" ∈ xa_gw := xa_gw_mem 156 (by decide +kernel) rfl
theorem clRX9_46 : Cond.classLink "CatThatTurns" 46 "CatThatTurns$Trace" ∈ xa_gw := xa_gw_mem 178 (by decide +kernel) rfl
theorem clRX8_25 : Cond.classLink "CatThatTurns$Trace" 25 "CatThatTurns$Shape" ∈ xa_gw := xa_gw_mem 184 (by decide +kernel) rfl
theorem clRX9_59 : Cond.classLink "CatThatTurns" 59 "CatThatTurns$Loops" ∈ xa_gw := xa_gw_mem 231 (by decide +kernel) rfl
theorem clRX1_15 : Cond.classLink "CatThatTurns$Loops" 15 "CatThatTurns$Shape" ∈ xa_gw := xa_gw_mem 237 (by decide +kernel) rfl
theorem clRX9_66 : Cond.classLink "CatThatTurns" 66 "CatThatTurns$Search" ∈ xa_gw := xa_gw_mem 246 (by decide +kernel) rfl
theorem clRX3_25 : Cond.classLink "CatThatTurns$Search" 25 "CatThatTurns$Table" ∈ xa_gw := xa_gw_mem 252 (by decide +kernel) rfl
theorem clRX6_32 : Cond.classLink "CatThatTurns$Table" 32 "CatThatTurns$Shape" ∈ xa_gw := xa_gw_mem 258 (by decide +kernel) rfl
theorem clRL_10 : Cond.classLink "CatThatTurnsLaw" 10 "CatThatTurnsModel" ∈ xa_gw := xa_gw_mem 887 (by decide +kernel) rfl
theorem inRX9 : Cond.instantiable "CatThatTurns" 13 ∈ xa_gw := xa_gw_mem 70 (by decide +kernel) rfl
theorem inRX7 : Cond.instantiable "CatThatTurns$Text" 2 ∈ xa_gw := xa_gw_mem 78 (by decide +kernel) rfl
theorem inRX0 : Cond.instantiable "CatThatTurns$Body" 8 ∈ xa_gw := xa_gw_mem 94 (by decide +kernel) rfl
theorem inRX2 : Cond.instantiable "CatThatTurns$Reader" 4 ∈ xa_gw := xa_gw_mem 138 (by decide +kernel) rfl
theorem inRX5 : Cond.instantiable "CatThatTurns$Sheet" 4 ∈ xa_gw := xa_gw_mem 157 (by decide +kernel) rfl
theorem inRX8 : Cond.instantiable "CatThatTurns$Trace" 7 ∈ xa_gw := xa_gw_mem 179 (by decide +kernel) rfl
theorem inRX4 : Cond.instantiable "CatThatTurns$Shape" 5 ∈ xa_gw := xa_gw_mem 185 (by decide +kernel) rfl
theorem inRX1 : Cond.instantiable "CatThatTurns$Loops" 2 ∈ xa_gw := xa_gw_mem 232 (by decide +kernel) rfl
theorem inRX3 : Cond.instantiable "CatThatTurns$Search" 12 ∈ xa_gw := xa_gw_mem 247 (by decide +kernel) rfl
theorem inRX6 : Cond.instantiable "CatThatTurns$Table" 10 ∈ xa_gw := xa_gw_mem 253 (by decide +kernel) rfl
theorem inRX10 : Cond.instantiable "CatThatTurnsModel" 25 ∈ xa_gw := xa_gw_mem 888 (by decide +kernel) rfl
theorem ctRX3_109 : Cond.constant "CatThatTurns$Search" 109 38880 ∈ xa_gw := xa_gw_mem 677 (by decide +kernel) rfl
theorem ctRX3_110 : Cond.constant "CatThatTurns$Search" 110 116640 ∈ xa_gw := xa_gw_mem 678 (by decide +kernel) rfl
theorem ctRX3_41 : Cond.constant "CatThatTurns$Search" 41 583200 ∈ xa_gw := xa_gw_mem 679 (by decide +kernel) rfl
theorem ctRX3_104 : Cond.constant "CatThatTurns$Search" 104 1048575 ∈ xa_gw := xa_gw_mem 685 (by decide +kernel) rfl
theorem ctRX3_126 : Cond.constant "CatThatTurns$Search" 126 (-1048576) ∈ xa_gw := xa_gw_mem 734 (by decide +kernel) rfl
theorem ctRX9_207 : Cond.constant "CatThatTurns" 207 100000 ∈ xa_gw := xa_gw_mem 761 (by decide +kernel) rfl
theorem ctRX10_53 : Cond.constant "CatThatTurnsModel" 53 583200 ∈ xa_gw := xa_gw_mem 893 (by decide +kernel) rfl
theorem ctRX10_63 : Cond.constantLong "CatThatTurnsModel" 63 8 ∈ xa_gw := xa_gw_mem 974 (by decide +kernel) rfl
theorem ctRX10_72 : Cond.constantLong "CatThatTurnsModel" 72 255 ∈ xa_gw := xa_gw_mem 978 (by decide +kernel) rfl
theorem ctRX10_81 : Cond.constantLong "CatThatTurnsModel" 81 48 ∈ xa_gw := xa_gw_mem 1007 (by decide +kernel) rfl
theorem ctRX10_83 : Cond.constantLong "CatThatTurnsModel" 83 57 ∈ xa_gw := xa_gw_mem 1008 (by decide +kernel) rfl
theorem ctRX10_85 : Cond.constantLong "CatThatTurnsModel" 85 4 ∈ xa_gw := xa_gw_mem 1009 (by decide +kernel) rfl
theorem ctRX10_91 : Cond.constantLong "CatThatTurnsModel" 91 99 ∈ xa_gw := xa_gw_mem 1010 (by decide +kernel) rfl
theorem ctRX10_93 : Cond.constantLong "CatThatTurnsModel" 93 120 ∈ xa_gw := xa_gw_mem 1015 (by decide +kernel) rfl
theorem ctRX10_103 : Cond.constantLong "CatThatTurnsModel" 103 90 ∈ xa_gw := xa_gw_mem 1016 (by decide +kernel) rfl
theorem ctRX10_118 : Cond.constantLong "CatThatTurnsModel" 118 2 ∈ xa_gw := xa_gw_mem 1029 (by decide +kernel) rfl
theorem ctRX10_154 : Cond.constantLong "CatThatTurnsModel" 154 3 ∈ xa_gw := xa_gw_mem 1049 (by decide +kernel) rfl
theorem ctRX10_159 : Cond.constantLong "CatThatTurnsModel" 159 18 ∈ xa_gw := xa_gw_mem 1050 (by decide +kernel) rfl
theorem ctRX10_152 : Cond.constantLong "CatThatTurnsModel" 152 359 ∈ xa_gw := xa_gw_mem 1062 (by decide +kernel) rfl
theorem ctRX10_185 : Cond.constantLong "CatThatTurnsModel" 185 60 ∈ xa_gw := xa_gw_mem 1063 (by decide +kernel) rfl
theorem ctRX10_200 : Cond.constantLong "CatThatTurnsModel" 200 1000 ∈ xa_gw := xa_gw_mem 1138 (by decide +kernel) rfl
theorem ctRX10_226 : Cond.constantLong "CatThatTurnsModel" 226 200 ∈ xa_gw := xa_gw_mem 1174 (by decide +kernel) rfl
theorem ctRX10_234 : Cond.constantLong "CatThatTurnsModel" 234 100000 ∈ xa_gw := xa_gw_mem 1182 (by decide +kernel) rfl
theorem ctRL_13 : Cond.constantLong "CatThatTurnsLaw" 13 4294967295 ∈ xa_gw := xa_gw_mem 1264 (by decide +kernel) rfl
