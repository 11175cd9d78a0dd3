/-! decoding, 0 -/
theorem dc_X0_init : r_X0_init.all (mdc cX0_init) = true := by decide +kernel
theorem dc_X0_readFrom : r_X0_readFrom.all (mdc cX0_readFrom) = true := by decide +kernel
theorem dc_X0_readSum : r_X0_readSum.all (mdc cX0_readSum) = true := by decide +kernel
theorem dc_X0_readProduct : r_X0_readProduct.all (mdc cX0_readProduct) = true := by decide +kernel
theorem dc_X0_readUnit : r_X0_readUnit.all (mdc cX0_readUnit) = true := by decide +kernel
theorem dc_X0_value : r_X0_value.all (mdc cX0_value) = true := by decide +kernel
theorem dc_X0_reckon : r_X0_reckon.all (mdc cX0_reckon) = true := by decide +kernel
theorem dc_X0_named : r_X0_named.all (mdc cX0_named) = true := by decide +kernel
theorem dc_X0_joined : r_X0_joined.all (mdc cX0_joined) = true := by decide +kernel
theorem dc_X1_init : r_X1_init.all (mdc cX1_init) = true := by decide +kernel
theorem dc_X1_readFrom : r_X1_readFrom.all (mdc cX1_readFrom) = true := by decide +kernel
theorem dc_X1_readOr : r_X1_readOr.all (mdc cX1_readOr) = true := by decide +kernel
theorem dc_X1_readAnd : r_X1_readAnd.all (mdc cX1_readAnd) = true := by decide +kernel
theorem dc_X1_readOne : r_X1_readOne.all (mdc cX1_readOne) = true := by decide +kernel
theorem dc_X1_readSaying : r_X1_readSaying.all (mdc cX1_readSaying) = true := by decide +kernel
theorem dc_X1_verdict : r_X1_verdict.all (mdc cX1_verdict) = true := by decide +kernel
theorem dc_X1_joined : r_X1_joined.all (mdc cX1_joined) = true := by decide +kernel
theorem dc_X1_verdictOf : r_X1_verdictOf.all (mdc cX1_verdictOf) = true := by decide +kernel
theorem dc_X1_holds : r_X1_holds.all (mdc cX1_holds) = true := by decide +kernel
theorem dc_X2_init : r_X2_init.all (mdc cX2_init) = true := by decide +kernel
theorem dc_X2_add : r_X2_add.all (mdc cX2_add) = true := by decide +kernel
theorem dc_X2_at : r_X2_at.all (mdc cX2_at) = true := by decide +kernel
theorem dc_X2_push : r_X2_push.all (mdc cX2_push) = true := by decide +kernel
theorem dc_X2_pop : r_X2_pop.all (mdc cX2_pop) = true := by decide +kernel
theorem dc_X3_init : r_X3_init.all (mdc cX3_init) = true := by decide +kernel
theorem dc_X3_clear : r_X3_clear.all (mdc cX3_clear) = true := by decide +kernel
theorem dc_X3_copyFrom : r_X3_copyFrom.all (mdc cX3_copyFrom) = true := by decide +kernel
theorem dc_X3_note_0 : ((r_X3_note.drop 0).take 111).all (mdc cX3_note) = true := by decide +kernel
theorem dc_X3_note_1 : ((r_X3_note.drop 111).take 17).all (mdc cX3_note) = true := by decide +kernel
set_option maxRecDepth 20000 in
theorem dc_X3_note : r_X3_note.all (mdc cX3_note) = true := by
  have e : r_X3_note = (r_X3_note.drop 0).take 111 ++ ((r_X3_note.drop 111).take 17) := by rfl
  rw [e]
  simp only [List.all_append, Bool.and_eq_true]
  exact ⟨dc_X3_note_0, dc_X3_note_1⟩
theorem dc_X3_beginHour : r_X3_beginHour.all (mdc cX3_beginHour) = true := by decide +kernel
theorem dc_X3_endHour : r_X3_endHour.all (mdc cX3_endHour) = true := by decide +kernel
theorem dc_X3_entry : r_X3_entry.all (mdc cX3_entry) = true := by decide +kernel
theorem dc_X3_reason : r_X3_reason.all (mdc cX3_reason) = true := by decide +kernel
theorem dc_X4_init : r_X4_init.all (mdc cX4_init) = true := by decide +kernel
theorem dc_X4_readFrom : r_X4_readFrom.all (mdc cX4_readFrom) = true := by decide +kernel
theorem dc_X4_clear : r_X4_clear.all (mdc cX4_clear) = true := by decide +kernel
theorem dc_X4_readClause : r_X4_readClause.all (mdc cX4_readClause) = true := by decide +kernel
theorem dc_X4_isOneTooMany : r_X4_isOneTooMany.all (mdc cX4_isOneTooMany) = true := by decide +kernel
theorem dc_X4_readNumbers : r_X4_readNumbers.all (mdc cX4_readNumbers) = true := by decide +kernel
theorem dc_X4_readRoom : r_X4_readRoom.all (mdc cX4_readRoom) = true := by decide +kernel
theorem dc_X4_mustTakeRoom : r_X4_mustTakeRoom.all (mdc cX4_mustTakeRoom) = true := by decide +kernel
theorem dc_X4_readWall : r_X4_readWall.all (mdc cX4_readWall) = true := by decide +kernel
theorem dc_X4_readOfRoom : r_X4_readOfRoom.all (mdc cX4_readOfRoom) = true := by decide +kernel
theorem dc_X4_readSun : r_X4_readSun.all (mdc cX4_readSun) = true := by decide +kernel
theorem dc_X4_readRadiator : r_X4_readRadiator.all (mdc cX4_readRadiator) = true := by decide +kernel
theorem dc_X4_readTap : r_X4_readTap.all (mdc cX4_readTap) = true := by decide +kernel
theorem dc_X4_readPump : r_X4_readPump.all (mdc cX4_readPump) = true := by decide +kernel
theorem dc_X4_readBoiler : r_X4_readBoiler.all (mdc cX4_readBoiler) = true := by decide +kernel
theorem dc_X4_hasTap : r_X4_hasTap.all (mdc cX4_hasTap) = true := by decide +kernel
theorem dc_X4_taps : r_X4_taps.all (mdc cX4_taps) = true := by decide +kernel
theorem dc_X4_hasThing : r_X4_hasThing.all (mdc cX4_hasThing) = true := by decide +kernel
theorem dc_X4_sunAt : r_X4_sunAt.all (mdc cX4_sunAt) = true := by decide +kernel
theorem dc_X5_init : r_X5_init.all (mdc cX5_init) = true := by decide +kernel
theorem dc_X5_keep : r_X5_keep.all (mdc cX5_keep) = true := by decide +kernel
theorem dc_X5_giveBack : r_X5_giveBack.all (mdc cX5_giveBack) = true := by decide +kernel
theorem dc_X6_init : r_X6_init.all (mdc cX6_init) = true := by decide +kernel
theorem dc_X6_passMinutes : r_X6_passMinutes.all (mdc cX6_passMinutes) = true := by decide +kernel
theorem dc_X6_passMinute : r_X6_passMinute.all (mdc cX6_passMinute) = true := by decide +kernel
theorem dc_X6_openingOf : r_X6_openingOf.all (mdc cX6_openingOf) = true := by decide +kernel
theorem dc_X6_partFlow : r_X6_partFlow.all (mdc cX6_partFlow) = true := by decide +kernel
theorem dc_X6_giveHeat : r_X6_giveHeat.all (mdc cX6_giveHeat) = true := by decide +kernel
theorem dc_X6_holdToPower : r_X6_holdToPower.all (mdc cX6_holdToPower) = true := by decide +kernel
theorem dc_X6_allHeats : r_X6_allHeats.all (mdc cX6_allHeats) = true := by decide +kernel
theorem dc_X6_runBoiler : r_X6_runBoiler.all (mdc cX6_runBoiler) = true := by decide +kernel
theorem dc_X6_loseThroughWalls : r_X6_loseThroughWalls.all (mdc cX6_loseThroughWalls) = true := by decide +kernel
theorem dc_X6_loseOutside : r_X6_loseOutside.all (mdc cX6_loseOutside) = true := by decide +kernel
theorem dc_X6_gain : r_X6_gain.all (mdc cX6_gain) = true := by decide +kernel
theorem dc_X6_warmRooms : r_X6_warmRooms.all (mdc cX6_warmRooms) = true := by decide +kernel
theorem dc_X6_countDead : r_X6_countDead.all (mdc cX6_countDead) = true := by decide +kernel
theorem dc_X6_moveTaps : r_X6_moveTaps.all (mdc cX6_moveTaps) = true := by decide +kernel
theorem dc_X6_nextOpening : r_X6_nextOpening.all (mdc cX6_nextOpening) = true := by decide +kernel
theorem dc_X6_makeWrong : r_X6_makeWrong.all (mdc cX6_makeWrong) = true := by decide +kernel
theorem dc_X6_holdTap : r_X6_holdTap.all (mdc cX6_holdTap) = true := by decide +kernel
theorem dc_X6_exchangeSight : r_X6_exchangeSight.all (mdc cX6_exchangeSight) = true := by decide +kernel
theorem dc_X6_isWarm : r_X6_isWarm.all (mdc cX6_isWarm) = true := by decide +kernel
theorem dc_X7_init : r_X7_init.all (mdc cX7_init) = true := by decide +kernel
theorem dc_X7_begin : r_X7_begin.all (mdc cX7_begin) = true := by decide +kernel
theorem dc_X7_copyFrom : r_X7_copyFrom.all (mdc cX7_copyFrom) = true := by decide +kernel
theorem dc_X7_offAt : r_X7_offAt.all (mdc cX7_offAt) = true := by decide +kernel
theorem dc_X7_isNight : r_X7_isNight.all (mdc cX7_isNight) = true := by decide +kernel
theorem dc_X8_init : r_X8_init.all (mdc cX8_init) = true := by decide +kernel
theorem dc_X8_begin : r_X8_begin.all (mdc cX8_begin) = true := by decide +kernel
theorem dc_X8_copyFrom_0 : ((r_X8_copyFrom.drop 0).take 103).all (mdc cX8_copyFrom) = true := by decide +kernel
theorem dc_X8_copyFrom_1 : ((r_X8_copyFrom.drop 103).take 26).all (mdc cX8_copyFrom) = true := by decide +kernel
set_option maxRecDepth 20000 in
theorem dc_X8_copyFrom : r_X8_copyFrom.all (mdc cX8_copyFrom) = true := by
  have e : r_X8_copyFrom = (r_X8_copyFrom.drop 0).take 103 ++ ((r_X8_copyFrom.drop 103).take 26) := by rfl
  rw [e]
  simp only [List.all_append, Bool.and_eq_true]
  exact ⟨dc_X8_copyFrom_0, dc_X8_copyFrom_1⟩
theorem dc_X9_init : r_X9_init.all (mdc cX9_init) = true := by decide +kernel
theorem dc_X9_begin : r_X9_begin.all (mdc cX9_begin) = true := by decide +kernel
theorem dc_X10_init : r_X10_init.all (mdc cX10_init) = true := by decide +kernel
theorem dc_X10_put : r_X10_put.all (mdc cX10_put) = true := by decide +kernel
theorem dc_X10_begin : r_X10_begin.all (mdc cX10_begin) = true := by decide +kernel
theorem dc_X10_fail : r_X10_fail.all (mdc cX10_fail) = true := by decide +kernel
theorem dc_X10_skipBlanks : r_X10_skipBlanks.all (mdc cX10_skipBlanks) = true := by decide +kernel
theorem dc_X10_atEnd : r_X10_atEnd.all (mdc cX10_atEnd) = true := by decide +kernel
theorem dc_X10_mustEnd : r_X10_mustEnd.all (mdc cX10_mustEnd) = true := by decide +kernel
theorem dc_X10_takeSign : r_X10_takeSign.all (mdc cX10_takeSign) = true := by decide +kernel
theorem dc_X10_mustTakeSign : r_X10_mustTakeSign.all (mdc cX10_mustTakeSign) = true := by decide +kernel
theorem dc_X10_digitIsNext : r_X10_digitIsNext.all (mdc cX10_digitIsNext) = true := by decide +kernel
theorem dc_X10_mustTakeNumber : r_X10_mustTakeNumber.all (mdc cX10_mustTakeNumber) = true := by decide +kernel
theorem dc_X10_takeWord : r_X10_takeWord.all (mdc cX10_takeWord) = true := by decide +kernel
theorem dc_X10_takeIfWord : r_X10_takeIfWord.all (mdc cX10_takeIfWord) = true := by decide +kernel
theorem dc_X10_isWord : r_X10_isWord.all (mdc cX10_isWord) = true := by decide +kernel
theorem dc_X10_isDigit : r_X10_isDigit.all (mdc cX10_isDigit) = true := by decide +kernel
theorem dc_X11_init : r_X11_init.all (mdc cX11_init) = true := by decide +kernel
theorem dc_X11_feed : r_X11_feed.all (mdc cX11_feed) = true := by decide +kernel
theorem dc_X11_house : r_X11_house.all (mdc cX11_house) = true := by decide +kernel
theorem dc_X11_words : r_X11_words.all (mdc cX11_words) = true := by decide +kernel
theorem dc_X11_claim : r_X11_claim.all (mdc cX11_claim) = true := by decide +kernel
theorem dc_X11_fault : r_X11_fault.all (mdc cX11_fault) = true := by decide +kernel
theorem dc_X11_beginAnew : r_X11_beginAnew.all (mdc cX11_beginAnew) = true := by decide +kernel
theorem dc_X11_told : r_X11_told.all (mdc cX11_told) = true := by decide +kernel
theorem dc_X11_room : r_X11_room.all (mdc cX11_room) = true := by decide +kernel
theorem dc_X11_wall : r_X11_wall.all (mdc cX11_wall) = true := by decide +kernel
theorem dc_X11_radiator : r_X11_radiator.all (mdc cX11_radiator) = true := by decide +kernel
theorem dc_X11_blame : r_X11_blame.all (mdc cX11_blame) = true := by decide +kernel
theorem dc_X11_clock : r_X11_clock.all (mdc cX11_clock) = true := by decide +kernel
theorem dc_X11_hunts : r_X11_hunts.all (mdc cX11_hunts) = true := by decide +kernel
theorem dc_X11_dead : r_X11_dead.all (mdc cX11_dead) = true := by decide +kernel
theorem dc_X11_wear : r_X11_wear.all (mdc cX11_wear) = true := by decide +kernel
theorem dc_X11_count : r_X11_count.all (mdc cX11_count) = true := by decide +kernel
theorem dc_X11_gaugesThere : r_X11_gaugesThere.all (mdc cX11_gaugesThere) = true := by decide +kernel
theorem dc_X11_out : r_X11_out.all (mdc cX11_out) = true := by decide +kernel
theorem dc_X11_screw : r_X11_screw.all (mdc cX11_screw) = true := by decide +kernel
theorem dc_X11_open : r_X11_open.all (mdc cX11_open) = true := by decide +kernel
theorem dc_X11_air : r_X11_air.all (mdc cX11_air) = true := by decide +kernel
theorem dc_X11_night : r_X11_night.all (mdc cX11_night) = true := by decide +kernel
theorem dc_X11_water : r_X11_water.all (mdc cX11_water) = true := by decide +kernel
theorem dc_X11_holiday : r_X11_holiday.all (mdc cX11_holiday) = true := by decide +kernel
theorem dc_X11_pump : r_X11_pump.all (mdc cX11_pump) = true := by decide +kernel
theorem dc_X11_go : r_X11_go.all (mdc cX11_go) = true := by decide +kernel
theorem dc_X11_mark : r_X11_mark.all (mdc cX11_mark) = true := by decide +kernel
theorem dc_X11_back : r_X11_back.all (mdc cX11_back) = true := by decide +kernel
theorem dc_X11_log : r_X11_log.all (mdc cX11_log) = true := by decide +kernel
theorem dc_X11_placeInLog : r_X11_placeInLog.all (mdc cX11_placeInLog) = true := by decide +kernel
theorem dc_X11_putLogRow : r_X11_putLogRow.all (mdc cX11_putLogRow) = true := by decide +kernel
theorem dc_X11_explained : r_X11_explained.all (mdc cX11_explained) = true := by decide +kernel
theorem dc_X11_cause : r_X11_cause.all (mdc cX11_cause) = true := by decide +kernel
theorem dc_X11_things : r_X11_things.all (mdc cX11_things) = true := by decide +kernel
theorem dc_X11_firstPartner : r_X11_firstPartner.all (mdc cX11_firstPartner) = true := by decide +kernel
theorem dc_X11_explains : r_X11_explains.all (mdc cX11_explains) = true := by decide +kernel
theorem dc_X11_balanced : r_X11_balanced.all (mdc cX11_balanced) = true := by decide +kernel
theorem dc_X11_turning : r_X11_turning.all (mdc cX11_turning) = true := by decide +kernel
theorem dc_X11_balancedRadiators : r_X11_balancedRadiators.all (mdc cX11_balancedRadiators) = true := by decide +kernel
theorem dc_X11_screwByWay : r_X11_screwByWay.all (mdc cX11_screwByWay) = true := by decide +kernel
theorem dc_X11_turningOf : r_X11_turningOf.all (mdc cX11_turningOf) = true := by decide +kernel
theorem dc_X11_bestWay : r_X11_bestWay.all (mdc cX11_bestWay) = true := by decide +kernel
theorem dc_X11_warmByWay : r_X11_warmByWay.all (mdc cX11_warmByWay) = true := by decide +kernel
theorem dc_X11_wake : r_X11_wake.all (mdc cX11_wake) = true := by decide +kernel
theorem dc_X11_minutesToWake : r_X11_minutesToWake.all (mdc cX11_minutesToWake) = true := by decide +kernel
theorem dc_X11_wish : r_X11_wish.all (mdc cX11_wish) = true := by decide +kernel
theorem dc_X11_withWish : r_X11_withWish.all (mdc cX11_withWish) = true := by decide +kernel
