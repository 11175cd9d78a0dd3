/-! decoding, 2 -/
theorem dc_X12_moves_0 : ((r_X12_moves.drop 0).take 110).all (mdc cX12_moves) = true := by decide +kernel
theorem dc_X12_moves_1 : ((r_X12_moves.drop 110).take 51).all (mdc cX12_moves) = true := by decide +kernel
theorem dc_X12_moves_2 : ((r_X12_moves.drop 161).take 28).all (mdc cX12_moves) = true := by decide +kernel
set_option maxRecDepth 20000 in
theorem dc_X12_moves : r_X12_moves.all (mdc cX12_moves) = true := by
  have e : r_X12_moves = (r_X12_moves.drop 0).take 110 ++ ((r_X12_moves.drop 110).take 51 ++ ((r_X12_moves.drop 161).take 28)) := by rfl
  rw [e]
  simp only [List.all_append, Bool.and_eq_true]
  exact ⟨dc_X12_moves_0, ⟨dc_X12_moves_1, dc_X12_moves_2⟩⟩
theorem dc_X12_goes : r_X12_goes.all (mdc cX12_goes) = true := by decide +kernel
theorem dc_X12_isHouse : r_X12_isHouse.all (mdc cX12_isHouse) = true := by decide +kernel
theorem dc_X12_go : r_X12_go.all (mdc cX12_go) = true := by decide +kernel
theorem dc_X12_clock : r_X12_clock.all (mdc cX12_clock) = true := by decide +kernel
theorem dc_X12_isRoom : r_X12_isRoom.all (mdc cX12_isRoom) = true := by decide +kernel
theorem dc_X12_isRadiator : r_X12_isRadiator.all (mdc cX12_isRadiator) = true := by decide +kernel
theorem dc_X12_room : r_X12_room.all (mdc cX12_room) = true := by decide +kernel
theorem dc_X12_wall : r_X12_wall.all (mdc cX12_wall) = true := by decide +kernel
theorem dc_X12_shown : r_X12_shown.all (mdc cX12_shown) = true := by decide +kernel
theorem dc_X12_turned : r_X12_turned.all (mdc cX12_turned) = true := by decide +kernel
theorem dc_X12_radiator : r_X12_radiator.all (mdc cX12_radiator) = true := by decide +kernel
theorem dc_X12_out : r_X12_out.all (mdc cX12_out) = true := by decide +kernel
theorem dc_X12_screw : r_X12_screw.all (mdc cX12_screw) = true := by decide +kernel
theorem dc_X12_open : r_X12_open.all (mdc cX12_open) = true := by decide +kernel
theorem dc_X12_air : r_X12_air.all (mdc cX12_air) = true := by decide +kernel
theorem dc_X12_night : r_X12_night.all (mdc cX12_night) = true := by decide +kernel
theorem dc_X12_hunts : r_X12_hunts.all (mdc cX12_hunts) = true := by decide +kernel
theorem dc_X12_log : r_X12_log.all (mdc cX12_log) = true := by decide +kernel
theorem dc_X12_isTap : r_X12_isTap.all (mdc cX12_isTap) = true := by decide +kernel
theorem dc_X12_isThing : r_X12_isThing.all (mdc cX12_isThing) = true := by decide +kernel
theorem dc_X12_isExplained : r_X12_isExplained.all (mdc cX12_isExplained) = true := by decide +kernel
theorem dc_X12_explained : r_X12_explained.all (mdc cX12_explained) = true := by decide +kernel
theorem dc_X12_findCause : r_X12_findCause.all (mdc cX12_findCause) = true := by decide +kernel
theorem dc_X12_cause : r_X12_cause.all (mdc cX12_cause) = true := by decide +kernel
theorem dc_X12_things : r_X12_things.all (mdc cX12_things) = true := by decide +kernel
theorem dc_X12_areWarm : r_X12_areWarm.all (mdc cX12_areWarm) = true := by decide +kernel
theorem dc_X12_findBalanced_0 : ((r_X12_findBalanced.drop 0).take 106).all (mdc cX12_findBalanced) = true := by decide +kernel
theorem dc_X12_findBalanced_1 : ((r_X12_findBalanced.drop 106).take 41).all (mdc cX12_findBalanced) = true := by decide +kernel
set_option maxRecDepth 20000 in
theorem dc_X12_findBalanced : r_X12_findBalanced.all (mdc cX12_findBalanced) = true := by
  have e : r_X12_findBalanced = (r_X12_findBalanced.drop 0).take 106 ++ ((r_X12_findBalanced.drop 106).take 41) := by rfl
  rw [e]
  simp only [List.all_append, Bool.and_eq_true]
  exact ⟨dc_X12_findBalanced_0, dc_X12_findBalanced_1⟩
theorem dc_X12_isWanted : r_X12_isWanted.all (mdc cX12_isWanted) = true := by decide +kernel
theorem dc_X12_balanced : r_X12_balanced.all (mdc cX12_balanced) = true := by decide +kernel
theorem dc_X12_turning : r_X12_turning.all (mdc cX12_turning) = true := by decide +kernel
theorem dc_X12_wakeOf : r_X12_wakeOf.all (mdc cX12_wakeOf) = true := by decide +kernel
theorem dc_X12_wake : r_X12_wake.all (mdc cX12_wake) = true := by decide +kernel
theorem dc_X12_wish : r_X12_wish.all (mdc cX12_wish) = true := by decide +kernel
theorem dc_X12_emit : r_X12_emit.all (mdc cX12_emit) = true := by decide +kernel
theorem dc_X12_unit_0 : ((r_X12_unit.drop 0).take 103).all (mdc cX12_unit) = true := by decide +kernel
theorem dc_X12_unit_1 : ((r_X12_unit.drop 103).take 7).all (mdc cX12_unit) = true := by decide +kernel
set_option maxRecDepth 20000 in
theorem dc_X12_unit : r_X12_unit.all (mdc cX12_unit) = true := by
  have e : r_X12_unit = (r_X12_unit.drop 0).take 103 ++ ((r_X12_unit.drop 103).take 7) := by rfl
  rw [e]
  simp only [List.all_append, Bool.and_eq_true]
  exact ⟨dc_X12_unit_0, dc_X12_unit_1⟩
theorem dc_X12_product : r_X12_product.all (mdc cX12_product) = true := by decide +kernel
theorem dc_X12_sum : r_X12_sum.all (mdc cX12_sum) = true := by decide +kernel
theorem dc_X12_words : r_X12_words.all (mdc cX12_words) = true := by decide +kernel
theorem dc_X12_nameOf : r_X12_nameOf.all (mdc cX12_nameOf) = true := by decide +kernel
theorem dc_X12_partOf_0 : ((r_X12_partOf.drop 0).take 105).all (mdc cX12_partOf) = true := by decide +kernel
theorem dc_X12_partOf_1 : ((r_X12_partOf.drop 105).take 8).all (mdc cX12_partOf) = true := by decide +kernel
set_option maxRecDepth 20000 in
theorem dc_X12_partOf : r_X12_partOf.all (mdc cX12_partOf) = true := by
  have e : r_X12_partOf = (r_X12_partOf.drop 0).take 105 ++ ((r_X12_partOf.drop 105).take 8) := by rfl
  rw [e]
  simp only [List.all_append, Bool.and_eq_true]
  exact ⟨dc_X12_partOf_0, dc_X12_partOf_1⟩
theorem dc_X12_part : r_X12_part.all (mdc cX12_part) = true := by decide +kernel
theorem dc_X12_pays_0 : ((r_X12_pays.drop 0).take 108).all (mdc cX12_pays) = true := by decide +kernel
theorem dc_X12_pays_1 : ((r_X12_pays.drop 108).take 20).all (mdc cX12_pays) = true := by decide +kernel
set_option maxRecDepth 20000 in
theorem dc_X12_pays : r_X12_pays.all (mdc cX12_pays) = true := by
  have e : r_X12_pays = (r_X12_pays.drop 0).take 108 ++ ((r_X12_pays.drop 108).take 20) := by rfl
  rw [e]
  simp only [List.all_append, Bool.and_eq_true]
  exact ⟨dc_X12_pays_0, dc_X12_pays_1⟩
theorem dc_X12_error : r_X12_error.all (mdc cX12_error) = true := by decide +kernel
theorem dc_X12_blame : r_X12_blame.all (mdc cX12_blame) = true := by decide +kernel
theorem dc_X12_water : r_X12_water.all (mdc cX12_water) = true := by decide +kernel
theorem dc_X12_dead : r_X12_dead.all (mdc cX12_dead) = true := by decide +kernel
theorem dc_X12_holiday : r_X12_holiday.all (mdc cX12_holiday) = true := by decide +kernel
theorem dc_X12_pump : r_X12_pump.all (mdc cX12_pump) = true := by decide +kernel
theorem dc_X12_gauge : r_X12_gauge.all (mdc cX12_gauge) = true := by decide +kernel
theorem dc_X12_burst : r_X12_burst.all (mdc cX12_burst) = true := by decide +kernel
theorem dc_X12_wear : r_X12_wear.all (mdc cX12_wear) = true := by decide +kernel
theorem dc_X12_emitClaim : r_X12_emitClaim.all (mdc cX12_emitClaim) = true := by decide +kernel
theorem dc_X12_anyOf : r_X12_anyOf.all (mdc cX12_anyOf) = true := by decide +kernel
theorem dc_X12_allOf : r_X12_allOf.all (mdc cX12_allOf) = true := by decide +kernel
theorem dc_X12_opensOne : r_X12_opensOne.all (mdc cX12_opensOne) = true := by decide +kernel
theorem dc_X12_one_0 : ((r_X12_one.drop 0).take 105).all (mdc cX12_one) = true := by decide +kernel
theorem dc_X12_one_1 : ((r_X12_one.drop 105).take 21).all (mdc cX12_one) = true := by decide +kernel
set_option maxRecDepth 20000 in
theorem dc_X12_one : r_X12_one.all (mdc cX12_one) = true := by
  have e : r_X12_one = (r_X12_one.drop 0).take 105 ++ ((r_X12_one.drop 105).take 21) := by rfl
  rw [e]
  simp only [List.all_append, Bool.and_eq_true]
  exact ⟨dc_X12_one_0, dc_X12_one_1⟩
theorem dc_X12_claim : r_X12_claim.all (mdc cX12_claim) = true := by decide +kernel
theorem dc_X12_saidBy_0 : ((r_X12_saidBy.drop 0).take 112).all (mdc cX12_saidBy) = true := by decide +kernel
theorem dc_X12_saidBy_1 : ((r_X12_saidBy.drop 112).take 33).all (mdc cX12_saidBy) = true := by decide +kernel
set_option maxRecDepth 20000 in
theorem dc_X12_saidBy : r_X12_saidBy.all (mdc cX12_saidBy) = true := by
  have e : r_X12_saidBy = (r_X12_saidBy.drop 0).take 112 ++ ((r_X12_saidBy.drop 112).take 33) := by rfl
  rw [e]
  simp only [List.all_append, Bool.and_eq_true]
  exact ⟨dc_X12_saidBy_0, dc_X12_saidBy_1⟩
theorem dc_X12_judge : r_X12_judge.all (mdc cX12_judge) = true := by decide +kernel
theorem dc_X12_mark : r_X12_mark.all (mdc cX12_mark) = true := by decide +kernel
theorem dc_X12_back : r_X12_back.all (mdc cX12_back) = true := by decide +kernel
theorem dc_X12_count_0 : ((r_X12_count.drop 0).take 91).all (mdc cX12_count) = true := by decide +kernel
theorem dc_X12_count_1 : ((r_X12_count.drop 91).take 12).all (mdc cX12_count) = true := by decide +kernel
set_option maxRecDepth 20000 in
theorem dc_X12_count : r_X12_count.all (mdc cX12_count) = true := by
  have e : r_X12_count = (r_X12_count.drop 0).take 91 ++ ((r_X12_count.drop 91).take 12) := by rfl
  rw [e]
  simp only [List.all_append, Bool.and_eq_true]
  exact ⟨dc_X12_count_0, dc_X12_count_1⟩
theorem dc_J6_compare_7cf53 : r_J6_compare_7cf53.all (mdc cJ6_compare_7cf53) = true := by decide +kernel
theorem dc_J6_bitCount_0f7a4 : r_J6_bitCount_0f7a4.all (mdc cJ6_bitCount_0f7a4) = true := by decide +kernel
theorem dc_J13_bitCount_95d88 : r_J13_bitCount_95d88.all (mdc cJ13_bitCount_95d88) = true := by decide +kernel
theorem dc_J7_fill_d0a16 : r_J7_fill_d0a16.all (mdc cJ7_fill_d0a16) = true := by decide +kernel
theorem dc_J7_fill_53178 : r_J7_fill_53178.all (mdc cJ7_fill_53178) = true := by decide +kernel
theorem dc_L_house : r_L_house.all (mdc cL_house) = true := by decide +kernel
theorem dc_L_words : r_L_words.all (mdc cL_words) = true := by decide +kernel
theorem dc_L_told : r_L_told.all (mdc cL_told) = true := by decide +kernel
theorem dc_L_room : r_L_room.all (mdc cL_room) = true := by decide +kernel
theorem dc_L_wall : r_L_wall.all (mdc cL_wall) = true := by decide +kernel
theorem dc_L_radiator : r_L_radiator.all (mdc cL_radiator) = true := by decide +kernel
theorem dc_L_out : r_L_out.all (mdc cL_out) = true := by decide +kernel
theorem dc_L_screw : r_L_screw.all (mdc cL_screw) = true := by decide +kernel
theorem dc_L_open : r_L_open.all (mdc cL_open) = true := by decide +kernel
theorem dc_L_air : r_L_air.all (mdc cL_air) = true := by decide +kernel
theorem dc_L_night : r_L_night.all (mdc cL_night) = true := by decide +kernel
theorem dc_L_go : r_L_go.all (mdc cL_go) = true := by decide +kernel
theorem dc_L_clock : r_L_clock.all (mdc cL_clock) = true := by decide +kernel
theorem dc_L_hunts : r_L_hunts.all (mdc cL_hunts) = true := by decide +kernel
theorem dc_L_log : r_L_log.all (mdc cL_log) = true := by decide +kernel
theorem dc_L_explained : r_L_explained.all (mdc cL_explained) = true := by decide +kernel
theorem dc_L_cause : r_L_cause.all (mdc cL_cause) = true := by decide +kernel
theorem dc_L_balanced : r_L_balanced.all (mdc cL_balanced) = true := by decide +kernel
theorem dc_L_turning : r_L_turning.all (mdc cL_turning) = true := by decide +kernel
theorem dc_L_wake : r_L_wake.all (mdc cL_wake) = true := by decide +kernel
theorem dc_L_wish : r_L_wish.all (mdc cL_wish) = true := by decide +kernel
theorem dc_L_error : r_L_error.all (mdc cL_error) = true := by decide +kernel
theorem dc_L_part : r_L_part.all (mdc cL_part) = true := by decide +kernel
theorem dc_L_pays : r_L_pays.all (mdc cL_pays) = true := by decide +kernel
theorem dc_L_blame : r_L_blame.all (mdc cL_blame) = true := by decide +kernel
theorem dc_L_diary : r_L_diary.all (mdc cL_diary) = true := by decide +kernel
theorem dc_L_cold : r_L_cold.all (mdc cL_cold) = true := by decide +kernel
theorem dc_L_claim : r_L_claim.all (mdc cL_claim) = true := by decide +kernel
theorem dc_L_water : r_L_water.all (mdc cL_water) = true := by decide +kernel
theorem dc_L_dead : r_L_dead.all (mdc cL_dead) = true := by decide +kernel
theorem dc_L_holiday : r_L_holiday.all (mdc cL_holiday) = true := by decide +kernel
theorem dc_L_pump : r_L_pump.all (mdc cL_pump) = true := by decide +kernel
theorem dc_L_gauge : r_L_gauge.all (mdc cL_gauge) = true := by decide +kernel
theorem dc_L_burst : r_L_burst.all (mdc cL_burst) = true := by decide +kernel
theorem dc_L_wear : r_L_wear.all (mdc cL_wear) = true := by decide +kernel
