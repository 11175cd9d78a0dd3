/-! decoding, 1 -/
theorem dc_X11_tryFromBeginning : r_X11_tryFromBeginning.all (mdc cX11_tryFromBeginning) = true := by decide +kernel
theorem dc_X11_tryFromNow : r_X11_tryFromNow.all (mdc cX11_tryFromNow) = true := by decide +kernel
theorem dc_X11_error : r_X11_error.all (mdc cX11_error) = true := by decide +kernel
theorem dc_X11_part : r_X11_part.all (mdc cX11_part) = true := by decide +kernel
theorem dc_X11_pays : r_X11_pays.all (mdc cX11_pays) = true := by decide +kernel
theorem dc_X11_countParts : r_X11_countParts.all (mdc cX11_countParts) = true := by decide +kernel
theorem dc_X11_isAheadInRests : r_X11_isAheadInRests.all (mdc cX11_isAheadInRests) = true := by decide +kernel
theorem dc_X11_partOf : r_X11_partOf.all (mdc cX11_partOf) = true := by decide +kernel
theorem dc_X11_allMeters : r_X11_allMeters.all (mdc cX11_allMeters) = true := by decide +kernel
theorem dc_X11_meterShows : r_X11_meterShows.all (mdc cX11_meterShows) = true := by decide +kernel
theorem dc_X11_diary : r_X11_diary.all (mdc cX11_diary) = true := by decide +kernel
theorem dc_X11_cold : r_X11_cold.all (mdc cX11_cold) = true := by decide +kernel
theorem dc_X11_judge : r_X11_judge.all (mdc cX11_judge) = true := by decide +kernel
theorem dc_X11_gauge : r_X11_gauge.all (mdc cX11_gauge) = true := by decide +kernel
theorem dc_X11_burst : r_X11_burst.all (mdc cX11_burst) = true := by decide +kernel
theorem dc_X11_fallBeyond : r_X11_fallBeyond.all (mdc cX11_fallBeyond) = true := by decide +kernel
theorem dc_X11_needWithin : r_X11_needWithin.all (mdc cX11_needWithin) = true := by decide +kernel
theorem dc_X11_needOut : r_X11_needOut.all (mdc cX11_needOut) = true := by decide +kernel
theorem dc_X11_needPipe : r_X11_needPipe.all (mdc cX11_needPipe) = true := by decide +kernel
theorem dc_X11_needRoom : r_X11_needRoom.all (mdc cX11_needRoom) = true := by decide +kernel
theorem dc_X11_needRadiator : r_X11_needRadiator.all (mdc cX11_needRadiator) = true := by decide +kernel
theorem dc_X11_needTap : r_X11_needTap.all (mdc cX11_needTap) = true := by decide +kernel
theorem dc_X11_needThingOrNone : r_X11_needThingOrNone.all (mdc cX11_needThingOrNone) = true := by decide +kernel
theorem dc_X11_needHouse : r_X11_needHouse.all (mdc cX11_needHouse) = true := by decide +kernel
theorem dc_X11_hourOf : r_X11_hourOf.all (mdc cX11_hourOf) = true := by decide +kernel
theorem dc_X11_hasBit : r_X11_hasBit.all (mdc cX11_hasBit) = true := by decide +kernel
theorem dc_X11_withBit : r_X11_withBit.all (mdc cX11_withBit) = true := by decide +kernel
theorem dc_X12_thrown : r_X12_thrown.all (mdc cX12_thrown) = true := by decide +kernel
theorem dc_X12_may : r_X12_may.all (mdc cX12_may) = true := by decide +kernel
theorem dc_X12_within : r_X12_within.all (mdc cX12_within) = true := by decide +kernel
theorem dc_X12_init_0 : ((r_X12_init.drop 0).take 100).all (mdc cX12_init) = true := by decide +kernel
theorem dc_X12_init_1 : ((r_X12_init.drop 100).take 48).all (mdc cX12_init) = true := by decide +kernel
theorem dc_X12_init_2 : ((r_X12_init.drop 148).take 8).all (mdc cX12_init) = true := by decide +kernel
set_option maxRecDepth 20000 in
theorem dc_X12_init : r_X12_init.all (mdc cX12_init) = true := by
  have e : r_X12_init = (r_X12_init.drop 0).take 100 ++ ((r_X12_init.drop 100).take 48 ++ ((r_X12_init.drop 148).take 8)) := by rfl
  rw [e]
  simp only [List.all_append, Bool.and_eq_true]
  exact ⟨dc_X12_init_0, ⟨dc_X12_init_1, dc_X12_init_2⟩⟩
theorem dc_X12_feed : r_X12_feed.all (mdc cX12_feed) = true := by decide +kernel
theorem dc_X12_fine : r_X12_fine.all (mdc cX12_fine) = true := by decide +kernel
theorem dc_X12_wrong : r_X12_wrong.all (mdc cX12_wrong) = true := by decide +kernel
theorem dc_X12_here : r_X12_here.all (mdc cX12_here) = true := by decide +kernel
theorem dc_X12_isSmall : r_X12_isSmall.all (mdc cX12_isSmall) = true := by decide +kernel
theorem dc_X12_isDigit : r_X12_isDigit.all (mdc cX12_isDigit) = true := by decide +kernel
theorem dc_X12_word : r_X12_word.all (mdc cX12_word) = true := by decide +kernel
theorem dc_X12_of : r_X12_of.all (mdc cX12_of) = true := by decide +kernel
theorem dc_X12_pass : r_X12_pass.all (mdc cX12_pass) = true := by decide +kernel
theorem dc_X12_readNumber : r_X12_readNumber.all (mdc cX12_readNumber) = true := by decide +kernel
theorem dc_X12_need : r_X12_need.all (mdc cX12_need) = true := by decide +kernel
theorem dc_X12_beginsReading : r_X12_beginsReading.all (mdc cX12_beginsReading) = true := by decide +kernel
theorem dc_X12_isMore : r_X12_isMore.all (mdc cX12_isMore) = true := by decide +kernel
theorem dc_X12_readRoom : r_X12_readRoom.all (mdc cX12_readRoom) = true := by decide +kernel
theorem dc_X12_readWall : r_X12_readWall.all (mdc cX12_readWall) = true := by decide +kernel
theorem dc_X12_readSun : r_X12_readSun.all (mdc cX12_readSun) = true := by decide +kernel
theorem dc_X12_readRadiator : r_X12_readRadiator.all (mdc cX12_readRadiator) = true := by decide +kernel
theorem dc_X12_readTap : r_X12_readTap.all (mdc cX12_readTap) = true := by decide +kernel
theorem dc_X12_readClause_0 : ((r_X12_readClause.drop 0).take 102).all (mdc cX12_readClause) = true := by decide +kernel
theorem dc_X12_readClause_1 : ((r_X12_readClause.drop 102).take 49).all (mdc cX12_readClause) = true := by decide +kernel
theorem dc_X12_readClause_2 : ((r_X12_readClause.drop 151).take 39).all (mdc cX12_readClause) = true := by decide +kernel
theorem dc_X12_readClause_3 : ((r_X12_readClause.drop 190).take 33).all (mdc cX12_readClause) = true := by decide +kernel
theorem dc_X12_readClause_4 : ((r_X12_readClause.drop 223).take 29).all (mdc cX12_readClause) = true := by decide +kernel
theorem dc_X12_readClause_5 : ((r_X12_readClause.drop 252).take 23).all (mdc cX12_readClause) = true := by decide +kernel
set_option maxRecDepth 20000 in
theorem dc_X12_readClause : r_X12_readClause.all (mdc cX12_readClause) = true := by
  have e : r_X12_readClause = (r_X12_readClause.drop 0).take 102 ++ ((r_X12_readClause.drop 102).take 49 ++ ((r_X12_readClause.drop 151).take 39 ++ ((r_X12_readClause.drop 190).take 33 ++ ((r_X12_readClause.drop 223).take 29 ++ ((r_X12_readClause.drop 252).take 23))))) := by rfl
  rw [e]
  simp only [List.all_append, Bool.and_eq_true]
  exact ⟨dc_X12_readClause_0, ⟨dc_X12_readClause_1, ⟨dc_X12_readClause_2, ⟨dc_X12_readClause_3, ⟨dc_X12_readClause_4, dc_X12_readClause_5⟩⟩⟩⟩⟩
theorem dc_X12_house_0 : ((r_X12_house.drop 0).take 103).all (mdc cX12_house) = true := by decide +kernel
theorem dc_X12_house_1 : ((r_X12_house.drop 103).take 50).all (mdc cX12_house) = true := by decide +kernel
theorem dc_X12_house_2 : ((r_X12_house.drop 153).take 25).all (mdc cX12_house) = true := by decide +kernel
set_option maxRecDepth 20000 in
theorem dc_X12_house : r_X12_house.all (mdc cX12_house) = true := by
  have e : r_X12_house = (r_X12_house.drop 0).take 103 ++ ((r_X12_house.drop 103).take 50 ++ ((r_X12_house.drop 153).take 25)) := by rfl
  rw [e]
  simp only [List.all_append, Bool.and_eq_true]
  exact ⟨dc_X12_house_0, ⟨dc_X12_house_1, dc_X12_house_2⟩⟩
theorem dc_X12_fault : r_X12_fault.all (mdc cX12_fault) = true := by decide +kernel
theorem dc_X12_rooms : r_X12_rooms.all (mdc cX12_rooms) = true := by decide +kernel
theorem dc_X12_radiators : r_X12_radiators.all (mdc cX12_radiators) = true := by decide +kernel
theorem dc_X12_told : r_X12_told.all (mdc cX12_told) = true := by decide +kernel
theorem dc_X12_keep : r_X12_keep.all (mdc cX12_keep) = true := by decide +kernel
theorem dc_X12_give : r_X12_give.all (mdc cX12_give) = true := by decide +kernel
theorem dc_X12_ends : r_X12_ends.all (mdc cX12_ends) = true := by decide +kernel
theorem dc_X12_begins : r_X12_begins.all (mdc cX12_begins) = true := by decide +kernel
theorem dc_X12_isWrong : r_X12_isWrong.all (mdc cX12_isWrong) = true := by decide +kernel
theorem dc_X12_hour : r_X12_hour.all (mdc cX12_hour) = true := by decide +kernel
theorem dc_X12_outNow : r_X12_outNow.all (mdc cX12_outNow) = true := by decide +kernel
theorem dc_X12_isAjar : r_X12_isAjar.all (mdc cX12_isAjar) = true := by decide +kernel
theorem dc_X12_isNight : r_X12_isNight.all (mdc cX12_isNight) = true := by decide +kernel
theorem dc_X12_offNow : r_X12_offNow.all (mdc cX12_offNow) = true := by decide +kernel
theorem dc_X12_waterNow : r_X12_waterNow.all (mdc cX12_waterNow) = true := by decide +kernel
theorem dc_X12_openOf : r_X12_openOf.all (mdc cX12_openOf) = true := by decide +kernel
theorem dc_X12_minute_0 : ((r_X12_minute.drop 0).take 110).all (mdc cX12_minute) = true := by decide +kernel
theorem dc_X12_minute_1 : ((r_X12_minute.drop 110).take 48).all (mdc cX12_minute) = true := by decide +kernel
set_option maxRecDepth 20000 in
theorem dc_X12_minute : r_X12_minute.all (mdc cX12_minute) = true := by
  have e : r_X12_minute = (r_X12_minute.drop 0).take 110 ++ ((r_X12_minute.drop 110).take 48) := by rfl
  rw [e]
  simp only [List.all_append, Bool.and_eq_true]
  exact ⟨dc_X12_minute_0, dc_X12_minute_1⟩
theorem dc_X12_flowsOn : r_X12_flowsOn.all (mdc cX12_flowsOn) = true := by decide +kernel
theorem dc_X12_clearHour : r_X12_clearHour.all (mdc cX12_clearHour) = true := by decide +kernel
theorem dc_X12_writes_0 : ((r_X12_writes.drop 0).take 116).all (mdc cX12_writes) = true := by decide +kernel
theorem dc_X12_writes_1 : ((r_X12_writes.drop 116).take 57).all (mdc cX12_writes) = true := by decide +kernel
theorem dc_X12_writes_2 : ((r_X12_writes.drop 173).take 29).all (mdc cX12_writes) = true := by decide +kernel
set_option maxRecDepth 20000 in
theorem dc_X12_writes : r_X12_writes.all (mdc cX12_writes) = true := by
  have e : r_X12_writes = (r_X12_writes.drop 0).take 116 ++ ((r_X12_writes.drop 116).take 57 ++ ((r_X12_writes.drop 173).take 29)) := by rfl
  rw [e]
  simp only [List.all_append, Bool.and_eq_true]
  exact ⟨dc_X12_writes_0, ⟨dc_X12_writes_1, dc_X12_writes_2⟩⟩
theorem dc_X12_diaryOf : r_X12_diaryOf.all (mdc cX12_diaryOf) = true := by decide +kernel
theorem dc_X12_diary : r_X12_diary.all (mdc cX12_diary) = true := by decide +kernel
theorem dc_X12_reasonOf : r_X12_reasonOf.all (mdc cX12_reasonOf) = true := by decide +kernel
theorem dc_X12_cold : r_X12_cold.all (mdc cX12_cold) = true := by decide +kernel
theorem dc_X12_heats_0 : ((r_X12_heats.drop 0).take 109).all (mdc cX12_heats) = true := by decide +kernel
theorem dc_X12_heats_1 : ((r_X12_heats.drop 109).take 34).all (mdc cX12_heats) = true := by decide +kernel
set_option maxRecDepth 20000 in
theorem dc_X12_heats : r_X12_heats.all (mdc cX12_heats) = true := by
  have e : r_X12_heats = (r_X12_heats.drop 0).take 109 ++ ((r_X12_heats.drop 109).take 34) := by rfl
  rw [e]
  simp only [List.all_append, Bool.and_eq_true]
  exact ⟨dc_X12_heats_0, dc_X12_heats_1⟩
theorem dc_X12_warms_0 : ((r_X12_warms.drop 0).take 109).all (mdc cX12_warms) = true := by decide +kernel
theorem dc_X12_warms_1 : ((r_X12_warms.drop 109).take 54).all (mdc cX12_warms) = true := by decide +kernel
theorem dc_X12_warms_2 : ((r_X12_warms.drop 163).take 42).all (mdc cX12_warms) = true := by decide +kernel
theorem dc_X12_warms_3 : ((r_X12_warms.drop 205).take 3).all (mdc cX12_warms) = true := by decide +kernel
set_option maxRecDepth 20000 in
theorem dc_X12_warms : r_X12_warms.all (mdc cX12_warms) = true := by
  have e : r_X12_warms = (r_X12_warms.drop 0).take 109 ++ ((r_X12_warms.drop 109).take 54 ++ ((r_X12_warms.drop 163).take 42 ++ ((r_X12_warms.drop 205).take 3))) := by rfl
  rw [e]
  simp only [List.all_append, Bool.and_eq_true]
  exact ⟨dc_X12_warms_0, ⟨dc_X12_warms_1, ⟨dc_X12_warms_2, dc_X12_warms_3⟩⟩⟩
theorem dc_X12_seenBy : r_X12_seenBy.all (mdc cX12_seenBy) = true := by decide +kernel
theorem dc_X12_exchanged : r_X12_exchanged.all (mdc cX12_exchanged) = true := by decide +kernel
