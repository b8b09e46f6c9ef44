/-! instructions, on (printed by wip/whole/emitmt.py) -/
set_option maxRecDepth 100000 in
set_option maxHeartbeats 4000000 in
theorem k_M_differ : ckM e_M_differ = true := by decide +kernel
set_option maxRecDepth 100000 in
set_option maxHeartbeats 4000000 in
theorem k_M_cost : ckM e_M_cost = true := by decide +kernel
set_option maxRecDepth 100000 in
set_option maxHeartbeats 4000000 in
theorem k_M_worst : ckM e_M_worst = true := by decide +kernel
set_option maxRecDepth 100000 in
set_option maxHeartbeats 4000000 in
theorem k_M_hasOut : ckM e_M_hasOut = true := by decide +kernel
set_option maxRecDepth 100000 in
set_option maxHeartbeats 4000000 in
theorem k_M_together : ckM e_M_together = true := by decide +kernel
set_option maxRecDepth 100000 in
set_option maxHeartbeats 4000000 in
theorem k_M_wornNow : ckM e_M_wornNow = true := by decide +kernel
set_option maxRecDepth 100000 in
set_option maxHeartbeats 4000000 in
theorem k_M_worn : ckM e_M_worn = true := by decide +kernel
set_option maxRecDepth 100000 in
set_option maxHeartbeats 4000000 in
theorem k_M_old : ckM e_M_old = true := by decide +kernel
set_option maxRecDepth 100000 in
set_option maxHeartbeats 4000000 in
theorem k_M_doubt : ckM e_M_doubt = true := by decide +kernel
set_option maxRecDepth 100000 in
set_option maxHeartbeats 4000000 in
theorem k_M_comes : ckM e_M_comes = true := by decide +kernel
set_option maxRecDepth 100000 in
set_option maxHeartbeats 4000000 in
theorem k_M_queue : ckM e_M_queue = true := by decide +kernel
set_option maxRecDepth 100000 in
set_option maxHeartbeats 4000000 in
theorem k_M_chance : ckM e_M_chance = true := by decide +kernel
set_option maxRecDepth 100000 in
set_option maxHeartbeats 4000000 in
theorem k_M_areWhole : ckM e_M_areWhole = true := by decide +kernel
set_option maxRecDepth 100000 in
set_option maxHeartbeats 4000000 in
theorem k_M_served : ckM e_M_served = true := by decide +kernel
set_option maxRecDepth 100000 in
set_option maxHeartbeats 4000000 in
theorem k_M_wantedNow : ckM e_M_wantedNow = true := by decide +kernel
set_option maxRecDepth 100000 in
set_option maxHeartbeats 4000000 in
theorem k_M_divisor : ckM e_M_divisor = true := by decide +kernel
set_option maxRecDepth 100000 in
set_option maxHeartbeats 4000000 in
theorem k_M_keep : ckM e_M_keep = true := by decide +kernel
set_option maxRecDepth 100000 in
set_option maxHeartbeats 4000000 in
theorem k_M_least : ckM e_M_least = true := by decide +kernel
set_option maxRecDepth 100000 in
set_option maxHeartbeats 4000000 in
theorem k_M_mean : ckM e_M_mean = true := by decide +kernel
set_option maxRecDepth 100000 in
set_option maxHeartbeats 4000000 in
theorem k_M_protect : ckM e_M_protect = true := by decide +kernel
set_option maxRecDepth 100000 in
set_option maxHeartbeats 4000000 in
theorem k_M_roll : ckM e_M_roll = true := by decide +kernel
set_option maxRecDepth 100000 in
set_option maxHeartbeats 4000000 in
theorem k_M_orders : ckM e_M_orders = true := by decide +kernel
set_option maxRecDepth 100000 in
set_option maxHeartbeats 4000000 in
theorem k_M_waits : ckM e_M_waits = true := by decide +kernel
set_option maxRecDepth 100000 in
set_option maxHeartbeats 4000000 in
theorem k_M_rolled : ckM e_M_rolled = true := by decide +kernel
set_option maxRecDepth 100000 in
set_option maxHeartbeats 4000000 in
theorem k_M_guide : ckM e_M_guide = true := by decide +kernel
set_option maxRecDepth 100000 in
set_option maxHeartbeats 4000000 in
theorem k_M_party : ckM e_M_party = true := by decide +kernel
set_option maxRecDepth 100000 in
set_option maxHeartbeats 4000000 in
theorem k_M_maySing : ckM e_M_maySing = true := by decide +kernel
set_option maxRecDepth 100000 in
set_option maxHeartbeats 4000000 in
theorem k_M_leftBy : ckM e_M_leftBy = true := by decide +kernel
set_option maxRecDepth 100000 in
set_option maxHeartbeats 4000000 in
theorem k_M_lookLeft : ckM e_M_lookLeft = true := by decide +kernel
set_option maxRecDepth 100000 in
set_option maxHeartbeats 4000000 in
theorem k_M_guides : ckM e_M_guides = true := by decide +kernel
set_option maxRecDepth 100000 in
set_option maxHeartbeats 4000000 in
theorem k_M_guided : ckM e_M_guided = true := by decide +kernel
set_option maxRecDepth 100000 in
set_option maxHeartbeats 4000000 in
theorem k_M_pay : ckM e_M_pay = true := by decide +kernel
set_option maxRecDepth 100000 in
set_option maxHeartbeats 4000000 in
theorem k_M_earned : ckM e_M_earned = true := by decide +kernel
set_option maxRecDepth 100000 in
set_option maxHeartbeats 4000000 in
theorem k_M_pass : ckM e_M_pass = true := by decide +kernel
set_option maxRecDepth 100000 in
set_option maxHeartbeats 4000000 in
theorem k_M_pole : ckM e_M_pole = true := by decide +kernel
set_option maxRecDepth 100000 in
set_option maxHeartbeats 4000000 in
theorem k_M_dries : ckM e_M_dries = true := by decide +kernel
set_option maxRecDepth 100000 in
set_option maxHeartbeats 4000000 in
theorem k_M_paint : ckM e_M_paint = true := by decide +kernel
set_option maxRecDepth 100000 in
set_option maxHeartbeats 4000000 in
theorem k_M_sorts : ckM e_M_sorts = true := by decide +kernel
set_option maxRecDepth 100000 in
set_option maxHeartbeats 4000000 in
theorem k_M_lost : ckM e_M_lost = true := by decide +kernel
set_option maxRecDepth 100000 in
set_option maxHeartbeats 4000000 in
theorem k_M_byBoats : ckM e_M_byBoats = true := by decide +kernel
set_option maxRecDepth 100000 in
set_option maxHeartbeats 4000000 in
theorem k_M_painted : ckM e_M_painted = true := by decide +kernel
set_option maxRecDepth 100000 in
set_option maxHeartbeats 4000000 in
theorem k_M_fail : ckM e_M_fail = true := by decide +kernel
set_option maxRecDepth 100000 in
set_option maxHeartbeats 4000000 in
theorem k_M_renew : ckM e_M_renew = true := by decide +kernel
set_option maxRecDepth 100000 in
set_option maxHeartbeats 4000000 in
theorem k_M_loyal : ckM e_M_loyal = true := by decide +kernel
set_option maxRecDepth 100000 in
set_option maxHeartbeats 4000000 in
theorem k_M_stays : ckM e_M_stays = true := by decide +kernel
set_option maxRecDepth 100000 in
set_option maxHeartbeats 4000000 in
theorem k_M_tout : ckM e_M_tout = true := by decide +kernel
set_option maxRecDepth 100000 in
set_option maxHeartbeats 4000000 in
theorem k_M_nest : ckM e_M_nest = true := by decide +kernel
set_option maxRecDepth 100000 in
set_option maxHeartbeats 4000000 in
theorem k_M_regatta : ckM e_M_regatta = true := by decide +kernel
set_option maxRecDepth 100000 in
set_option maxHeartbeats 4000000 in
theorem k_M_barred : ckM e_M_barred = true := by decide +kernel
set_option maxRecDepth 100000 in
set_option maxHeartbeats 4000000 in
theorem k_M_lays : ckM e_M_lays = true := by decide +kernel
set_option maxRecDepth 100000 in
set_option maxHeartbeats 4000000 in
theorem k_M_fetches : ckM e_M_fetches = true := by decide +kernel
set_option maxRecDepth 100000 in
set_option maxHeartbeats 4000000 in
theorem k_M_image : ckM e_M_image = true := by decide +kernel
set_option maxRecDepth 100000 in
set_option maxHeartbeats 4000000 in
theorem k_M_restore : ckM e_M_restore = true := by decide +kernel
set_option maxRecDepth 100000 in
set_option maxHeartbeats 4000000 in
theorem k_M_count : ckM e_M_count = true := by decide +kernel
set_option maxRecDepth 100000 in
set_option maxHeartbeats 4000000 in
theorem k_Integer_compare : ckM e_Integer_compare = true := by decide +kernel
set_option maxRecDepth 100000 in
set_option maxHeartbeats 4000000 in
theorem k_Integer_bitCount : ckM e_Integer_bitCount = true := by decide +kernel
set_option maxRecDepth 100000 in
set_option maxHeartbeats 4000000 in
theorem k_Math_abs : ckM e_Math_abs = true := by decide +kernel
set_option maxRecDepth 100000 in
set_option maxHeartbeats 4000000 in
theorem k_Math_max : ckM e_Math_max = true := by decide +kernel
set_option maxRecDepth 100000 in
set_option maxHeartbeats 4000000 in
theorem k_Math_min : ckM e_Math_min = true := by decide +kernel
set_option maxRecDepth 100000 in
set_option maxHeartbeats 4000000 in
theorem k_Arrays_fill_0 : ckM e_Arrays_fill_0 = true := by decide +kernel
set_option maxRecDepth 100000 in
set_option maxHeartbeats 4000000 in
theorem k_Arrays_fill_1 : ckM e_Arrays_fill_1 = true := by decide +kernel
theorem ck_all : ∀ q ∈ mTL, ckM q = true := by
  intro q hq
  rw [mTL_split] at hq
  have a0 : ∀ q ∈ [e_Bill_init, e_Bill_drawPrice, e_Bill_draw, e_Bill_begun, e_Bill_raised, e_Bill_wetCoin, e_Bill_addRain, e_Bill_owed, e_Bill_look, e_Book_init, e_Book_take, e_Book_addBoat, e_Book_hasRoom, e_Book_addHire, e_Book_tell, e_Book_look, e_Book_dayOf, e_Book_kindOfHire, e_Book_nextOut, e_Book_reachesOfPole, e_Demand_init, e_Demand_take, e_Demand_isWhole, e_Demand_wanted, e_Demand_served, e_Demand_serveHour, e_Demand_commonDivisor, e_Demand_meanCoin, e_Demand_addLoyal, e_Demand_staying, e_Demand_bestPrice, e_Dock_init, e_Dock_take, e_Dock_setPaint, e_Dock_listDry, e_Dock_orderDry, e_Dock_isSooner, e_Dock_solvePaint, e_Dock_coinLost, e_Dock_solveRenewal], ckM q = true := List.forall_mem_cons.mpr ⟨k_Bill_init, List.forall_mem_cons.mpr ⟨k_Bill_drawPrice, List.forall_mem_cons.mpr ⟨k_Bill_draw, List.forall_mem_cons.mpr ⟨k_Bill_begun, List.forall_mem_cons.mpr ⟨k_Bill_raised, List.forall_mem_cons.mpr ⟨k_Bill_wetCoin, List.forall_mem_cons.mpr ⟨k_Bill_addRain, List.forall_mem_cons.mpr ⟨k_Bill_owed, List.forall_mem_cons.mpr ⟨k_Bill_look, List.forall_mem_cons.mpr ⟨k_Book_init, List.forall_mem_cons.mpr ⟨k_Book_take, List.forall_mem_cons.mpr ⟨k_Book_addBoat, List.forall_mem_cons.mpr ⟨k_Book_hasRoom, List.forall_mem_cons.mpr ⟨k_Book_addHire, List.forall_mem_cons.mpr ⟨k_Book_tell, List.forall_mem_cons.mpr ⟨k_Book_look, List.forall_mem_cons.mpr ⟨k_Book_dayOf, List.forall_mem_cons.mpr ⟨k_Book_kindOfHire, List.forall_mem_cons.mpr ⟨k_Book_nextOut, List.forall_mem_cons.mpr ⟨k_Book_reachesOfPole, List.forall_mem_cons.mpr ⟨k_Demand_init, List.forall_mem_cons.mpr ⟨k_Demand_take, List.forall_mem_cons.mpr ⟨k_Demand_isWhole, List.forall_mem_cons.mpr ⟨k_Demand_wanted, List.forall_mem_cons.mpr ⟨k_Demand_served, List.forall_mem_cons.mpr ⟨k_Demand_serveHour, List.forall_mem_cons.mpr ⟨k_Demand_commonDivisor, List.forall_mem_cons.mpr ⟨k_Demand_meanCoin, List.forall_mem_cons.mpr ⟨k_Demand_addLoyal, List.forall_mem_cons.mpr ⟨k_Demand_staying, List.forall_mem_cons.mpr ⟨k_Demand_bestPrice, List.forall_mem_cons.mpr ⟨k_Dock_init, List.forall_mem_cons.mpr ⟨k_Dock_take, List.forall_mem_cons.mpr ⟨k_Dock_setPaint, List.forall_mem_cons.mpr ⟨k_Dock_listDry, List.forall_mem_cons.mpr ⟨k_Dock_orderDry, List.forall_mem_cons.mpr ⟨k_Dock_isSooner, List.forall_mem_cons.mpr ⟨k_Dock_solvePaint, List.forall_mem_cons.mpr ⟨k_Dock_coinLost, List.forall_mem_cons.mpr ⟨k_Dock_solveRenewal, fun _ h => absurd h List.not_mem_nil⟩⟩⟩⟩⟩⟩⟩⟩⟩⟩⟩⟩⟩⟩⟩⟩⟩⟩⟩⟩⟩⟩⟩⟩⟩⟩⟩⟩⟩⟩⟩⟩⟩⟩⟩⟩⟩⟩⟩⟩
  have a1 : ∀ q ∈ [e_Dock_saving, e_Dock_bestSet, e_Guides_init, e_Guides_take, e_Guides_addGuide, e_Guides_addParty, e_Guides_canGuide, e_Guides_solve, e_Guides_worth, e_Guides_choose, e_Guides_payOut, e_Guides_spread, e_Law_init, e_Law_clear, e_Law_addRule, e_Law_emit, e_Law_testOf, e_Law_look, e_Law_busyParts, e_Law_harmPart, e_Law_isShut, e_Law_holds, e_Law_passes, e_Reader_init, e_Reader_hasRoom, e_Reader_append, e_Reader_read, e_Reader_scan, e_Reader_isBlank, e_Reader_isLetter, e_Reader_isDigit, e_Reader_isComparison, e_Reader_tokenEnd, e_Reader_tokenOf, e_Reader_slotOf, e_Reader_isInSlot, e_Reader_numberOf, e_Reader_take, e_Reader_takeNumber, e_Reader_readRule], ckM q = true := List.forall_mem_cons.mpr ⟨k_Dock_saving, List.forall_mem_cons.mpr ⟨k_Dock_bestSet, List.forall_mem_cons.mpr ⟨k_Guides_init, List.forall_mem_cons.mpr ⟨k_Guides_take, List.forall_mem_cons.mpr ⟨k_Guides_addGuide, List.forall_mem_cons.mpr ⟨k_Guides_addParty, List.forall_mem_cons.mpr ⟨k_Guides_canGuide, List.forall_mem_cons.mpr ⟨k_Guides_solve, List.forall_mem_cons.mpr ⟨k_Guides_worth, List.forall_mem_cons.mpr ⟨k_Guides_choose, List.forall_mem_cons.mpr ⟨k_Guides_payOut, List.forall_mem_cons.mpr ⟨k_Guides_spread, List.forall_mem_cons.mpr ⟨k_Law_init, List.forall_mem_cons.mpr ⟨k_Law_clear, List.forall_mem_cons.mpr ⟨k_Law_addRule, List.forall_mem_cons.mpr ⟨k_Law_emit, List.forall_mem_cons.mpr ⟨k_Law_testOf, List.forall_mem_cons.mpr ⟨k_Law_look, List.forall_mem_cons.mpr ⟨k_Law_busyParts, List.forall_mem_cons.mpr ⟨k_Law_harmPart, List.forall_mem_cons.mpr ⟨k_Law_isShut, List.forall_mem_cons.mpr ⟨k_Law_holds, List.forall_mem_cons.mpr ⟨k_Law_passes, List.forall_mem_cons.mpr ⟨k_Reader_init, List.forall_mem_cons.mpr ⟨k_Reader_hasRoom, List.forall_mem_cons.mpr ⟨k_Reader_append, List.forall_mem_cons.mpr ⟨k_Reader_read, List.forall_mem_cons.mpr ⟨k_Reader_scan, List.forall_mem_cons.mpr ⟨k_Reader_isBlank, List.forall_mem_cons.mpr ⟨k_Reader_isLetter, List.forall_mem_cons.mpr ⟨k_Reader_isDigit, List.forall_mem_cons.mpr ⟨k_Reader_isComparison, List.forall_mem_cons.mpr ⟨k_Reader_tokenEnd, List.forall_mem_cons.mpr ⟨k_Reader_tokenOf, List.forall_mem_cons.mpr ⟨k_Reader_slotOf, List.forall_mem_cons.mpr ⟨k_Reader_isInSlot, List.forall_mem_cons.mpr ⟨k_Reader_numberOf, List.forall_mem_cons.mpr ⟨k_Reader_take, List.forall_mem_cons.mpr ⟨k_Reader_takeNumber, List.forall_mem_cons.mpr ⟨k_Reader_readRule, fun _ h => absurd h List.not_mem_nil⟩⟩⟩⟩⟩⟩⟩⟩⟩⟩⟩⟩⟩⟩⟩⟩⟩⟩⟩⟩⟩⟩⟩⟩⟩⟩⟩⟩⟩⟩⟩⟩⟩⟩⟩⟩⟩⟩⟩⟩
  have a2 : ∀ q ∈ [e_Reader_readPrice, e_Reader_readBusy, e_Reader_readDeposit, e_Reader_readLate, e_Reader_readRight, e_Reader_readHarm, e_Reader_readShut, e_Reader_readAny, e_Reader_readAll, e_Reader_readOne, e_River_init, e_River_take, e_River_addSpell, e_River_addNest, e_River_addRegatta, e_River_rains, e_River_countWet, e_River_weedOf, e_River_nestedReaches, e_River_racedReaches, e_Roller_init, e_Roller_take, e_Roller_add, e_Roller_solve, e_Roller_place, e_State_init, e_State_take, e_View_init, e_View_see, e_View_learn, e_View_isBack, e_View_minutesOf, e_View_isAway, e_View_outBits, e_View_allBackBy, e_View_knowsAlike, e_View_freeMinutes, e_View_sharesRight, e_View_isAhead, e_View_markOut], ckM q = true := List.forall_mem_cons.mpr ⟨k_Reader_readPrice, List.forall_mem_cons.mpr ⟨k_Reader_readBusy, List.forall_mem_cons.mpr ⟨k_Reader_readDeposit, List.forall_mem_cons.mpr ⟨k_Reader_readLate, List.forall_mem_cons.mpr ⟨k_Reader_readRight, List.forall_mem_cons.mpr ⟨k_Reader_readHarm, List.forall_mem_cons.mpr ⟨k_Reader_readShut, List.forall_mem_cons.mpr ⟨k_Reader_readAny, List.forall_mem_cons.mpr ⟨k_Reader_readAll, List.forall_mem_cons.mpr ⟨k_Reader_readOne, List.forall_mem_cons.mpr ⟨k_River_init, List.forall_mem_cons.mpr ⟨k_River_take, List.forall_mem_cons.mpr ⟨k_River_addSpell, List.forall_mem_cons.mpr ⟨k_River_addNest, List.forall_mem_cons.mpr ⟨k_River_addRegatta, List.forall_mem_cons.mpr ⟨k_River_rains, List.forall_mem_cons.mpr ⟨k_River_countWet, List.forall_mem_cons.mpr ⟨k_River_weedOf, List.forall_mem_cons.mpr ⟨k_River_nestedReaches, List.forall_mem_cons.mpr ⟨k_River_racedReaches, List.forall_mem_cons.mpr ⟨k_Roller_init, List.forall_mem_cons.mpr ⟨k_Roller_take, List.forall_mem_cons.mpr ⟨k_Roller_add, List.forall_mem_cons.mpr ⟨k_Roller_solve, List.forall_mem_cons.mpr ⟨k_Roller_place, List.forall_mem_cons.mpr ⟨k_State_init, List.forall_mem_cons.mpr ⟨k_State_take, List.forall_mem_cons.mpr ⟨k_View_init, List.forall_mem_cons.mpr ⟨k_View_see, List.forall_mem_cons.mpr ⟨k_View_learn, List.forall_mem_cons.mpr ⟨k_View_isBack, List.forall_mem_cons.mpr ⟨k_View_minutesOf, List.forall_mem_cons.mpr ⟨k_View_isAway, List.forall_mem_cons.mpr ⟨k_View_outBits, List.forall_mem_cons.mpr ⟨k_View_allBackBy, List.forall_mem_cons.mpr ⟨k_View_knowsAlike, List.forall_mem_cons.mpr ⟨k_View_freeMinutes, List.forall_mem_cons.mpr ⟨k_View_sharesRight, List.forall_mem_cons.mpr ⟨k_View_isAhead, List.forall_mem_cons.mpr ⟨k_View_markOut, fun _ h => absurd h List.not_mem_nil⟩⟩⟩⟩⟩⟩⟩⟩⟩⟩⟩⟩⟩⟩⟩⟩⟩⟩⟩⟩⟩⟩⟩⟩⟩⟩⟩⟩⟩⟩⟩⟩⟩⟩⟩⟩⟩⟩⟩⟩
  have a3 : ∀ q ∈ [e_View_minutesOfBoat, e_View_hiresOfBoat, e_View_waitFor, e_P_init, e_P_feed, e_P_law, e_P_fault, e_P_rule, e_P_water, e_P_rain, e_P_boat, e_P_free, e_P_out, e_P_back, e_P_mend, e_P_swamp, e_P_cushions, e_P_weed, e_P_cut, e_P_hire, e_P_known, e_P_bill, e_P_outs, e_P_takings, e_P_differ, e_P_cost, e_P_worst, e_P_together, e_P_worn, e_P_old, e_P_doubt, e_P_queue, e_P_chance, e_P_keep, e_P_least, e_P_protect, e_P_roll, e_P_rolled, e_P_guide, e_P_party], ckM q = true := List.forall_mem_cons.mpr ⟨k_View_minutesOfBoat, List.forall_mem_cons.mpr ⟨k_View_hiresOfBoat, List.forall_mem_cons.mpr ⟨k_View_waitFor, List.forall_mem_cons.mpr ⟨k_P_init, List.forall_mem_cons.mpr ⟨k_P_feed, List.forall_mem_cons.mpr ⟨k_P_law, List.forall_mem_cons.mpr ⟨k_P_fault, List.forall_mem_cons.mpr ⟨k_P_rule, List.forall_mem_cons.mpr ⟨k_P_water, List.forall_mem_cons.mpr ⟨k_P_rain, List.forall_mem_cons.mpr ⟨k_P_boat, List.forall_mem_cons.mpr ⟨k_P_free, List.forall_mem_cons.mpr ⟨k_P_out, List.forall_mem_cons.mpr ⟨k_P_back, List.forall_mem_cons.mpr ⟨k_P_mend, List.forall_mem_cons.mpr ⟨k_P_swamp, List.forall_mem_cons.mpr ⟨k_P_cushions, List.forall_mem_cons.mpr ⟨k_P_weed, List.forall_mem_cons.mpr ⟨k_P_cut, List.forall_mem_cons.mpr ⟨k_P_hire, List.forall_mem_cons.mpr ⟨k_P_known, List.forall_mem_cons.mpr ⟨k_P_bill, List.forall_mem_cons.mpr ⟨k_P_outs, List.forall_mem_cons.mpr ⟨k_P_takings, List.forall_mem_cons.mpr ⟨k_P_differ, List.forall_mem_cons.mpr ⟨k_P_cost, List.forall_mem_cons.mpr ⟨k_P_worst, List.forall_mem_cons.mpr ⟨k_P_together, List.forall_mem_cons.mpr ⟨k_P_worn, List.forall_mem_cons.mpr ⟨k_P_old, List.forall_mem_cons.mpr ⟨k_P_doubt, List.forall_mem_cons.mpr ⟨k_P_queue, List.forall_mem_cons.mpr ⟨k_P_chance, List.forall_mem_cons.mpr ⟨k_P_keep, List.forall_mem_cons.mpr ⟨k_P_least, List.forall_mem_cons.mpr ⟨k_P_protect, List.forall_mem_cons.mpr ⟨k_P_roll, List.forall_mem_cons.mpr ⟨k_P_rolled, List.forall_mem_cons.mpr ⟨k_P_guide, List.forall_mem_cons.mpr ⟨k_P_party, fun _ h => absurd h List.not_mem_nil⟩⟩⟩⟩⟩⟩⟩⟩⟩⟩⟩⟩⟩⟩⟩⟩⟩⟩⟩⟩⟩⟩⟩⟩⟩⟩⟩⟩⟩⟩⟩⟩⟩⟩⟩⟩⟩⟩⟩⟩
  have a4 : ∀ q ∈ [e_P_guided, e_P_pay, e_P_earned, e_P_pass, e_P_pole, e_P_paint, e_P_painted, e_P_fail, e_P_renew, e_P_loyal, e_P_tout, e_P_nest, e_P_regatta, e_P_barred, e_P_image, e_P_restore, e_P_count, e_P_within, e_P_isSpan, e_P_isDay, e_P_isMoment, e_P_isKind, e_P_isWho, e_P_isCoin, e_P_isBoat, e_P_isHire, e_P_isTelling, e_P_lawNumber, e_P_lawOf, e_P_canGo, e_P_canEnd, e_P_ask, e_P_seesHire, e_P_isBackOn, e_P_drawBill, e_P_boatsAheadOf, e_P_insertWait, e_M_init, e_M_isIn, e_M_one], ckM q = true := List.forall_mem_cons.mpr ⟨k_P_guided, List.forall_mem_cons.mpr ⟨k_P_pay, List.forall_mem_cons.mpr ⟨k_P_earned, List.forall_mem_cons.mpr ⟨k_P_pass, List.forall_mem_cons.mpr ⟨k_P_pole, List.forall_mem_cons.mpr ⟨k_P_paint, List.forall_mem_cons.mpr ⟨k_P_painted, List.forall_mem_cons.mpr ⟨k_P_fail, List.forall_mem_cons.mpr ⟨k_P_renew, List.forall_mem_cons.mpr ⟨k_P_loyal, List.forall_mem_cons.mpr ⟨k_P_tout, List.forall_mem_cons.mpr ⟨k_P_nest, List.forall_mem_cons.mpr ⟨k_P_regatta, List.forall_mem_cons.mpr ⟨k_P_barred, List.forall_mem_cons.mpr ⟨k_P_image, List.forall_mem_cons.mpr ⟨k_P_restore, List.forall_mem_cons.mpr ⟨k_P_count, List.forall_mem_cons.mpr ⟨k_P_within, List.forall_mem_cons.mpr ⟨k_P_isSpan, List.forall_mem_cons.mpr ⟨k_P_isDay, List.forall_mem_cons.mpr ⟨k_P_isMoment, List.forall_mem_cons.mpr ⟨k_P_isKind, List.forall_mem_cons.mpr ⟨k_P_isWho, List.forall_mem_cons.mpr ⟨k_P_isCoin, List.forall_mem_cons.mpr ⟨k_P_isBoat, List.forall_mem_cons.mpr ⟨k_P_isHire, List.forall_mem_cons.mpr ⟨k_P_isTelling, List.forall_mem_cons.mpr ⟨k_P_lawNumber, List.forall_mem_cons.mpr ⟨k_P_lawOf, List.forall_mem_cons.mpr ⟨k_P_canGo, List.forall_mem_cons.mpr ⟨k_P_canEnd, List.forall_mem_cons.mpr ⟨k_P_ask, List.forall_mem_cons.mpr ⟨k_P_seesHire, List.forall_mem_cons.mpr ⟨k_P_isBackOn, List.forall_mem_cons.mpr ⟨k_P_drawBill, List.forall_mem_cons.mpr ⟨k_P_boatsAheadOf, List.forall_mem_cons.mpr ⟨k_P_insertWait, List.forall_mem_cons.mpr ⟨k_M_init, List.forall_mem_cons.mpr ⟨k_M_isIn, List.forall_mem_cons.mpr ⟨k_M_one, fun _ h => absurd h List.not_mem_nil⟩⟩⟩⟩⟩⟩⟩⟩⟩⟩⟩⟩⟩⟩⟩⟩⟩⟩⟩⟩⟩⟩⟩⟩⟩⟩⟩⟩⟩⟩⟩⟩⟩⟩⟩⟩⟩⟩⟩⟩
  have a5 : ∀ q ∈ [e_M_has, e_M_bits, e_M_isDay, e_M_isMoment, e_M_isKind, e_M_begun, e_M_feed, e_M_four, e_M_blanks, e_M_word, e_M_takes, e_M_takesSign, e_M_takesNumber, e_M_askedBy, e_M_puts, e_M_opens, e_M_any, e_M_all, e_M_single, e_M_says, e_M_eachTold, e_M_priceTold, e_M_depositTold, e_M_lateTold, e_M_rightTold, e_M_oneTold, e_M_clauseTold, e_M_rule_0, e_M_bare, e_M_reads, e_M_law, e_M_fault, e_M_lawOf, e_M_said, e_M_rule_1, e_M_water, e_M_rain, e_M_rains, e_M_weed, e_M_cut], ckM q = true := List.forall_mem_cons.mpr ⟨k_M_has, List.forall_mem_cons.mpr ⟨k_M_bits, List.forall_mem_cons.mpr ⟨k_M_isDay, List.forall_mem_cons.mpr ⟨k_M_isMoment, List.forall_mem_cons.mpr ⟨k_M_isKind, List.forall_mem_cons.mpr ⟨k_M_begun, List.forall_mem_cons.mpr ⟨k_M_feed, List.forall_mem_cons.mpr ⟨k_M_four, List.forall_mem_cons.mpr ⟨k_M_blanks, List.forall_mem_cons.mpr ⟨k_M_word, List.forall_mem_cons.mpr ⟨k_M_takes, List.forall_mem_cons.mpr ⟨k_M_takesSign, List.forall_mem_cons.mpr ⟨k_M_takesNumber, List.forall_mem_cons.mpr ⟨k_M_askedBy, List.forall_mem_cons.mpr ⟨k_M_puts, List.forall_mem_cons.mpr ⟨k_M_opens, List.forall_mem_cons.mpr ⟨k_M_any, List.forall_mem_cons.mpr ⟨k_M_all, List.forall_mem_cons.mpr ⟨k_M_single, List.forall_mem_cons.mpr ⟨k_M_says, List.forall_mem_cons.mpr ⟨k_M_eachTold, List.forall_mem_cons.mpr ⟨k_M_priceTold, List.forall_mem_cons.mpr ⟨k_M_depositTold, List.forall_mem_cons.mpr ⟨k_M_lateTold, List.forall_mem_cons.mpr ⟨k_M_rightTold, List.forall_mem_cons.mpr ⟨k_M_oneTold, List.forall_mem_cons.mpr ⟨k_M_clauseTold, List.forall_mem_cons.mpr ⟨k_M_rule_0, List.forall_mem_cons.mpr ⟨k_M_bare, List.forall_mem_cons.mpr ⟨k_M_reads, List.forall_mem_cons.mpr ⟨k_M_law, List.forall_mem_cons.mpr ⟨k_M_fault, List.forall_mem_cons.mpr ⟨k_M_lawOf, List.forall_mem_cons.mpr ⟨k_M_said, List.forall_mem_cons.mpr ⟨k_M_rule_1, List.forall_mem_cons.mpr ⟨k_M_water, List.forall_mem_cons.mpr ⟨k_M_rain, List.forall_mem_cons.mpr ⟨k_M_rains, List.forall_mem_cons.mpr ⟨k_M_weed, List.forall_mem_cons.mpr ⟨k_M_cut, fun _ h => absurd h List.not_mem_nil⟩⟩⟩⟩⟩⟩⟩⟩⟩⟩⟩⟩⟩⟩⟩⟩⟩⟩⟩⟩⟩⟩⟩⟩⟩⟩⟩⟩⟩⟩⟩⟩⟩⟩⟩⟩⟩⟩⟩⟩
  have a6 : ∀ q ∈ [e_M_weedOn, e_M_boat, e_M_isBoat, e_M_isHire, e_M_isTelling, e_M_knows, e_M_isKnown, e_M_isBack, e_M_isOut, e_M_outSet, e_M_asks, e_M_isTrue, e_M_isShut, e_M_mayGo, e_M_free, e_M_tells, e_M_out, e_M_mayBe, e_M_back, e_M_mend, e_M_swamp, e_M_cushions, e_M_hire, e_M_known, e_M_lawBy, e_M_kindBy, e_M_minutes, e_M_freeOf, e_M_priceOf, e_M_lateOf, e_M_wetOf, e_M_harmOf, e_M_cushionsOf, e_M_owedOf, e_M_bill, e_M_outs, e_M_isOn, e_M_takings, e_M_keeps, e_M_differ], ckM q = true := List.forall_mem_cons.mpr ⟨k_M_weedOn, List.forall_mem_cons.mpr ⟨k_M_boat, List.forall_mem_cons.mpr ⟨k_M_isBoat, List.forall_mem_cons.mpr ⟨k_M_isHire, List.forall_mem_cons.mpr ⟨k_M_isTelling, List.forall_mem_cons.mpr ⟨k_M_knows, List.forall_mem_cons.mpr ⟨k_M_isKnown, List.forall_mem_cons.mpr ⟨k_M_isBack, List.forall_mem_cons.mpr ⟨k_M_isOut, List.forall_mem_cons.mpr ⟨k_M_outSet, List.forall_mem_cons.mpr ⟨k_M_asks, List.forall_mem_cons.mpr ⟨k_M_isTrue, List.forall_mem_cons.mpr ⟨k_M_isShut, List.forall_mem_cons.mpr ⟨k_M_mayGo, List.forall_mem_cons.mpr ⟨k_M_free, List.forall_mem_cons.mpr ⟨k_M_tells, List.forall_mem_cons.mpr ⟨k_M_out, List.forall_mem_cons.mpr ⟨k_M_mayBe, List.forall_mem_cons.mpr ⟨k_M_back, List.forall_mem_cons.mpr ⟨k_M_mend, List.forall_mem_cons.mpr ⟨k_M_swamp, List.forall_mem_cons.mpr ⟨k_M_cushions, List.forall_mem_cons.mpr ⟨k_M_hire, List.forall_mem_cons.mpr ⟨k_M_known, List.forall_mem_cons.mpr ⟨k_M_lawBy, List.forall_mem_cons.mpr ⟨k_M_kindBy, List.forall_mem_cons.mpr ⟨k_M_minutes, List.forall_mem_cons.mpr ⟨k_M_freeOf, List.forall_mem_cons.mpr ⟨k_M_priceOf, List.forall_mem_cons.mpr ⟨k_M_lateOf, List.forall_mem_cons.mpr ⟨k_M_wetOf, List.forall_mem_cons.mpr ⟨k_M_harmOf, List.forall_mem_cons.mpr ⟨k_M_cushionsOf, List.forall_mem_cons.mpr ⟨k_M_owedOf, List.forall_mem_cons.mpr ⟨k_M_bill, List.forall_mem_cons.mpr ⟨k_M_outs, List.forall_mem_cons.mpr ⟨k_M_isOn, List.forall_mem_cons.mpr ⟨k_M_takings, List.forall_mem_cons.mpr ⟨k_M_keeps, List.forall_mem_cons.mpr ⟨k_M_differ, fun _ h => absurd h List.not_mem_nil⟩⟩⟩⟩⟩⟩⟩⟩⟩⟩⟩⟩⟩⟩⟩⟩⟩⟩⟩⟩⟩⟩⟩⟩⟩⟩⟩⟩⟩⟩⟩⟩⟩⟩⟩⟩⟩⟩⟩⟩
  have a7 : ∀ q ∈ [e_M_cost, e_M_worst, e_M_hasOut, e_M_together, e_M_wornNow, e_M_worn, e_M_old, e_M_doubt, e_M_comes, e_M_queue, e_M_chance, e_M_areWhole, e_M_served, e_M_wantedNow, e_M_divisor, e_M_keep, e_M_least, e_M_mean, e_M_protect, e_M_roll, e_M_orders, e_M_waits, e_M_rolled, e_M_guide, e_M_party, e_M_maySing, e_M_leftBy, e_M_lookLeft, e_M_guides, e_M_guided, e_M_pay, e_M_earned, e_M_pass, e_M_pole, e_M_dries, e_M_paint, e_M_sorts, e_M_lost, e_M_byBoats, e_M_painted], ckM q = true := List.forall_mem_cons.mpr ⟨k_M_cost, List.forall_mem_cons.mpr ⟨k_M_worst, List.forall_mem_cons.mpr ⟨k_M_hasOut, List.forall_mem_cons.mpr ⟨k_M_together, List.forall_mem_cons.mpr ⟨k_M_wornNow, List.forall_mem_cons.mpr ⟨k_M_worn, List.forall_mem_cons.mpr ⟨k_M_old, List.forall_mem_cons.mpr ⟨k_M_doubt, List.forall_mem_cons.mpr ⟨k_M_comes, List.forall_mem_cons.mpr ⟨k_M_queue, List.forall_mem_cons.mpr ⟨k_M_chance, List.forall_mem_cons.mpr ⟨k_M_areWhole, List.forall_mem_cons.mpr ⟨k_M_served, List.forall_mem_cons.mpr ⟨k_M_wantedNow, List.forall_mem_cons.mpr ⟨k_M_divisor, List.forall_mem_cons.mpr ⟨k_M_keep, List.forall_mem_cons.mpr ⟨k_M_least, List.forall_mem_cons.mpr ⟨k_M_mean, List.forall_mem_cons.mpr ⟨k_M_protect, List.forall_mem_cons.mpr ⟨k_M_roll, List.forall_mem_cons.mpr ⟨k_M_orders, List.forall_mem_cons.mpr ⟨k_M_waits, List.forall_mem_cons.mpr ⟨k_M_rolled, List.forall_mem_cons.mpr ⟨k_M_guide, List.forall_mem_cons.mpr ⟨k_M_party, List.forall_mem_cons.mpr ⟨k_M_maySing, List.forall_mem_cons.mpr ⟨k_M_leftBy, List.forall_mem_cons.mpr ⟨k_M_lookLeft, List.forall_mem_cons.mpr ⟨k_M_guides, List.forall_mem_cons.mpr ⟨k_M_guided, List.forall_mem_cons.mpr ⟨k_M_pay, List.forall_mem_cons.mpr ⟨k_M_earned, List.forall_mem_cons.mpr ⟨k_M_pass, List.forall_mem_cons.mpr ⟨k_M_pole, List.forall_mem_cons.mpr ⟨k_M_dries, List.forall_mem_cons.mpr ⟨k_M_paint, List.forall_mem_cons.mpr ⟨k_M_sorts, List.forall_mem_cons.mpr ⟨k_M_lost, List.forall_mem_cons.mpr ⟨k_M_byBoats, List.forall_mem_cons.mpr ⟨k_M_painted, fun _ h => absurd h List.not_mem_nil⟩⟩⟩⟩⟩⟩⟩⟩⟩⟩⟩⟩⟩⟩⟩⟩⟩⟩⟩⟩⟩⟩⟩⟩⟩⟩⟩⟩⟩⟩⟩⟩⟩⟩⟩⟩⟩⟩⟩⟩
  have a8 : ∀ q ∈ [e_M_fail, e_M_renew, e_M_loyal, e_M_stays, e_M_tout, e_M_nest, e_M_regatta, e_M_barred, e_M_lays, e_M_fetches, e_M_image, e_M_restore, e_M_count, e_Integer_compare, e_Integer_bitCount, e_Math_abs, e_Math_max, e_Math_min, e_Arrays_fill_0, e_Arrays_fill_1], ckM q = true := List.forall_mem_cons.mpr ⟨k_M_fail, List.forall_mem_cons.mpr ⟨k_M_renew, List.forall_mem_cons.mpr ⟨k_M_loyal, List.forall_mem_cons.mpr ⟨k_M_stays, List.forall_mem_cons.mpr ⟨k_M_tout, List.forall_mem_cons.mpr ⟨k_M_nest, List.forall_mem_cons.mpr ⟨k_M_regatta, List.forall_mem_cons.mpr ⟨k_M_barred, List.forall_mem_cons.mpr ⟨k_M_lays, List.forall_mem_cons.mpr ⟨k_M_fetches, List.forall_mem_cons.mpr ⟨k_M_image, List.forall_mem_cons.mpr ⟨k_M_restore, List.forall_mem_cons.mpr ⟨k_M_count, List.forall_mem_cons.mpr ⟨k_Integer_compare, List.forall_mem_cons.mpr ⟨k_Integer_bitCount, List.forall_mem_cons.mpr ⟨k_Math_abs, List.forall_mem_cons.mpr ⟨k_Math_max, List.forall_mem_cons.mpr ⟨k_Math_min, List.forall_mem_cons.mpr ⟨k_Arrays_fill_0, List.forall_mem_cons.mpr ⟨k_Arrays_fill_1, fun _ h => absurd h List.not_mem_nil⟩⟩⟩⟩⟩⟩⟩⟩⟩⟩⟩⟩⟩⟩⟩⟩⟩⟩⟩⟩
  rcases List.mem_append.mp hq with hq | hq
  · exact a0 q hq
  rcases List.mem_append.mp hq with hq | hq
  · exact a1 q hq
  rcases List.mem_append.mp hq with hq | hq
  · exact a2 q hq
  rcases List.mem_append.mp hq with hq | hq
  · exact a3 q hq
  rcases List.mem_append.mp hq with hq | hq
  · exact a4 q hq
  rcases List.mem_append.mp hq with hq | hq
  · exact a5 q hq
  rcases List.mem_append.mp hq with hq | hq
  · exact a6 q hq
  rcases List.mem_append.mp hq with hq | hq
  · exact a7 q hq
  exact a8 q hq
theorem mt_ck : MtCk mtb := by
  intro j q hq
  have h := ck_all q (List.mem_of_getElem? hq)
  unfold ckM at h
  rw [Bool.and_eq_true, Bool.and_eq_true] at h
  obtain ⟨h1, h2, h3⟩ := h
  refine ⟨h1, ?_, fun t b hb => List.all_eq_true.mp h3 b (List.mem_of_getElem? hb)⟩
  cases e : q.1.2.2.2.2.2.1 with
  | nil => rw [e] at h2; exact absurd (show false = true from h2) (by decide)
  | cons b r =>
    rw [e] at h2
    have h2 := Nat.eq_of_beq_eq_true h2
    exact ⟨b.2, by rw [List.getElem?_cons_zero, ← h2]⟩
