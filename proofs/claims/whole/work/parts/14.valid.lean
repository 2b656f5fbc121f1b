/-! ===== the methods ===== -/
theorem vX0_init : xs_MV zcl zEX zSTR zWS zK zPI qX0_init (yX0_init, cX0_init, none, []) := ⟨by decide +kernel, by decide, xs_decB_ok eX0_init, ⟨rfl, rfl⟩, lkX0, rfl, (fun i r ci h => by cases h), xs_thrB_ok fX0_init⟩
theorem vX0_slot : xs_MV zcl zEX zSTR zWS zK zPI qX0_slot (yX0_slot, cX0_slot, (some (.object "StairMeter$House")), []) := ⟨by decide +kernel, by decide, xs_decB_ok eX0_slot, ⟨_, rfl⟩, lkX0, rfl, (fun i r ci h => by cases h), xs_thrB_ok fX0_slot⟩
theorem vX0_remember : xs_MV zcl zEX zSTR zWS zK zPI qX0_remember (yX0_remember, cX0_remember, none, []) := ⟨by decide +kernel, by decide, xs_decB_ok eX0_remember, rfl, lkX0, rfl, (fun i r ci h => by cases h), xs_thrB_ok fX0_remember⟩
theorem vX0_takeBack : xs_MV zcl zEX zSTR zWS zK zPI qX0_takeBack (yX0_takeBack, cX0_takeBack, (some .boolean), []) := ⟨by decide +kernel, by decide, xs_decB_ok eX0_takeBack, rfl, lkX0, rfl, (fun i r ci h => by cases h), xs_thrB_ok fX0_takeBack⟩
theorem vX0_forget : xs_MV zcl zEX zSTR zWS zK zPI qX0_forget (yX0_forget, cX0_forget, none, []) := ⟨by decide +kernel, by decide, xs_decB_ok eX0_forget, rfl, lkX0, rfl, (fun i r ci h => by cases h), xs_thrB_ok fX0_forget⟩
theorem vX1_init : xs_MV zcl zEX zSTR zWS zK zPI qX1_init (yX1_init, cX1_init, none, []) := ⟨by decide +kernel, by decide, xs_decB_ok eX1_init, ⟨rfl, rfl⟩, lkX1, rfl, (fun i r ci h => by cases h), xs_thrB_ok fX1_init⟩
theorem vX1_readRows : xs_MV zcl zEX zSTR zWS zK zPI qX1_readRows (yX1_readRows, cX1_readRows, (some .boolean), []) := ⟨by decide +kernel, by decide, xs_decB_ok eX1_readRows, rfl, lkX1, rfl, (fun i r ci h => by cases h), xs_thrB_ok fX1_readRows⟩
theorem vX1_isPossible : xs_MV zcl zEX zSTR zWS zK zPI qX1_isPossible (yX1_isPossible, cX1_isPossible, (some .boolean), []) := ⟨by decide +kernel, by decide, xs_decB_ok eX1_isPossible, rfl, lkX1, rfl, (fun i r ci h => by cases h), xs_thrB_ok fX1_isPossible⟩
theorem vX2_init : xs_MV zcl zEX zSTR zWS zK zPI qX2_init (yX2_init, cX2_init, none, []) := ⟨by decide +kernel, by decide, xs_decB_ok eX2_init, ⟨rfl, rfl⟩, lkX2, rfl, (fun i r ci h => by cases h), xs_thrB_ok fX2_init⟩
theorem vX2_takeOver : xs_MV zcl zEX zSTR zWS zK zPI qX2_takeOver (yX2_takeOver, cX2_takeOver, none, []) := ⟨by decide +kernel, by decide, xs_decB_ok eX2_takeOver, rfl, lkX2, rfl, (fun i r ci h => by cases h), xs_thrB_ok fX2_takeOver⟩
theorem vX2_get : xs_MV zcl zEX zSTR zWS zK zPI qX2_get (yX2_get, cX2_get, (some .int), []) := ⟨by decide +kernel, by decide, xs_decB_ok eX2_get, rfl, lkX2, rfl, (fun i r ci h => by cases h), xs_thrB_ok fX2_get⟩
theorem vX2_set : xs_MV zcl zEX zSTR zWS zK zPI qX2_set (yX2_set, cX2_set, none, []) := ⟨by decide +kernel, by decide, xs_decB_ok eX2_set, rfl, lkX2, rfl, (fun i r ci h => by cases h), xs_thrB_ok fX2_set⟩
theorem vX2_sum : xs_MV zcl zEX zSTR zWS zK zPI qX2_sum (yX2_sum, cX2_sum, (some .int), []) := ⟨by decide +kernel, by decide, xs_decB_ok eX2_sum, rfl, lkX2, rfl, (fun i r ci h => by cases h), xs_thrB_ok fX2_sum⟩
theorem vX2_isIn : xs_MV zcl zEX zSTR zWS zK zPI qX2_isIn (yX2_isIn, cX2_isIn, (some .boolean), []) := ⟨by decide +kernel, by decide, xs_decB_ok eX2_isIn, rfl, lkX2, rfl, (fun i r ci h => by cases h), xs_thrB_ok fX2_isIn⟩
theorem vX2_hours : xs_MV zcl zEX zSTR zWS zK zPI qX2_hours (yX2_hours, cX2_hours, (some .int), []) := ⟨by decide +kernel, by decide, xs_decB_ok eX2_hours, rfl, lkX2, rfl, (fun i r ci h => by cases h), xs_thrB_ok fX2_hours⟩
theorem vX2_metered : xs_MV zcl zEX zSTR zWS zK zPI qX2_metered (yX2_metered, cX2_metered, (some .int), []) := ⟨by decide +kernel, by decide, xs_decB_ok eX2_metered, rfl, lkX2, rfl, (fun i r ci h => by cases h), xs_thrB_ok fX2_metered⟩
theorem vX2_burnt : xs_MV zcl zEX zSTR zWS zK zPI qX2_burnt (yX2_burnt, cX2_burnt, (some .int), []) := ⟨by decide +kernel, by decide, xs_decB_ok eX2_burnt, rfl, lkX2, rfl, (fun i r ci h => by cases h), xs_thrB_ok fX2_burnt⟩
theorem vX2_isLike : xs_MV zcl zEX zSTR zWS zK zPI qX2_isLike (yX2_isLike, cX2_isLike, (some .boolean), []) := ⟨by decide +kernel, by decide, xs_decB_ok eX2_isLike, rfl, lkX2, rfl, (fun i r ci h => by cases h), xs_thrB_ok fX2_isLike⟩
theorem vX2_swapRooms : xs_MV zcl zEX zSTR zWS zK zPI qX2_swapRooms (yX2_swapRooms, cX2_swapRooms, none, []) := ⟨by decide +kernel, by decide, xs_decB_ok eX2_swapRooms, rfl, lkX2, rfl, (fun i r ci h => by cases h), xs_thrB_ok fX2_swapRooms⟩
theorem vX2_owed : xs_MV zcl zEX zSTR zWS zK zPI qX2_owed (yX2_owed, cX2_owed, (some .int), []) := ⟨by decide +kernel, by decide, xs_decB_ok eX2_owed, rfl, lkX2, rfl, (fun i r ci h => by cases h), xs_thrB_ok fX2_owed⟩
theorem vX2_setOwed : xs_MV zcl zEX zSTR zWS zK zPI qX2_setOwed (yX2_setOwed, cX2_setOwed, none, []) := ⟨by decide +kernel, by decide, xs_decB_ok eX2_setOwed, rfl, lkX2, rfl, (fun i r ci h => by cases h), xs_thrB_ok fX2_setOwed⟩
theorem vX2_isDebt : xs_MV zcl zEX zSTR zWS zK zPI qX2_isDebt (yX2_isDebt, cX2_isDebt, (some .boolean), []) := ⟨by decide +kernel, by decide, xs_decB_ok eX2_isDebt, rfl, lkX2, rfl, (fun i r ci h => by cases h), xs_thrB_ok fX2_isDebt⟩
theorem vX2_owesMore : xs_MV zcl zEX zSTR zWS zK zPI qX2_owesMore (yX2_owesMore, cX2_owesMore, (some .int), []) := ⟨by decide +kernel, by decide, xs_decB_ok eX2_owesMore, rfl, lkX2, rfl, (fun i r ci h => by cases h), xs_thrB_ok fX2_owesMore⟩
theorem vX2_creditors : xs_MV zcl zEX zSTR zWS zK zPI qX2_creditors (yX2_creditors, cX2_creditors, (some .int), []) := ⟨by decide +kernel, by decide, xs_decB_ok eX2_creditors, rfl, lkX2, rfl, (fun i r ci h => by cases h), xs_thrB_ok fX2_creditors⟩
theorem vX2_moveCoins : xs_MV zcl zEX zSTR zWS zK zPI qX2_moveCoins (yX2_moveCoins, cX2_moveCoins, none, []) := ⟨by decide +kernel, by decide, xs_decB_ok eX2_moveCoins, rfl, lkX2, rfl, (fun i r ci h => by cases h), xs_thrB_ok fX2_moveCoins⟩
theorem vX2_addGas : xs_MV zcl zEX zSTR zWS zK zPI qX2_addGas (yX2_addGas, cX2_addGas, none, []) := ⟨by decide +kernel, by decide, xs_decB_ok eX2_addGas, rfl, lkX2, rfl, (fun i r ci h => by cases h), xs_thrB_ok fX2_addGas⟩
theorem vX2_takeCoin : xs_MV zcl zEX zSTR zWS zK zPI qX2_takeCoin (yX2_takeCoin, cX2_takeCoin, none, []) := ⟨by decide +kernel, by decide, xs_decB_ok eX2_takeCoin, rfl, lkX2, rfl, (fun i r ci h => by cases h), xs_thrB_ok fX2_takeCoin⟩
theorem vX2_draw : xs_MV zcl zEX zSTR zWS zK zPI qX2_draw (yX2_draw, cX2_draw, (some .int), []) := ⟨by decide +kernel, by decide, xs_decB_ok eX2_draw, rfl, lkX2, rfl, (fun i r ci h => by cases h), xs_thrB_ok fX2_draw⟩
theorem vX2_light : xs_MV zcl zEX zSTR zWS zK zPI qX2_light (yX2_light, cX2_light, none, []) := ⟨by decide +kernel, by decide, xs_decB_ok eX2_light, rfl, lkX2, rfl, (fun i r ci h => by cases h), xs_thrB_ok fX2_light⟩
theorem vX2_darken : xs_MV zcl zEX zSTR zWS zK zPI qX2_darken (yX2_darken, cX2_darken, none, []) := ⟨by decide +kernel, by decide, xs_decB_ok eX2_darken, rfl, lkX2, rfl, (fun i r ci h => by cases h), xs_thrB_ok fX2_darken⟩
theorem vX2_chill : xs_MV zcl zEX zSTR zWS zK zPI qX2_chill (yX2_chill, cX2_chill, none, []) := ⟨by decide +kernel, by decide, xs_decB_ok eX2_chill, rfl, lkX2, rfl, (fun i r ci h => by cases h), xs_thrB_ok fX2_chill⟩
theorem vX2_turnClock : xs_MV zcl zEX zSTR zWS zK zPI qX2_turnClock (yX2_turnClock, cX2_turnClock, none, []) := ⟨by decide +kernel, by decide, xs_decB_ok eX2_turnClock, rfl, lkX2, rfl, (fun i r ci h => by cases h), xs_thrB_ok fX2_turnClock⟩
theorem vX3_init : xs_MV zcl zEX zSTR zWS zK zPI qX3_init (yX3_init, cX3_init, none, []) := ⟨by decide +kernel, by decide, xs_decB_ok eX3_init, ⟨rfl, rfl⟩, lkX3, rfl, (fun i r ci h => by cases h), xs_thrB_ok fX3_init⟩
theorem vX3_readLine : xs_MV zcl zEX zSTR zWS zK zPI qX3_readLine (yX3_readLine, cX3_readLine, (some .boolean), []) := ⟨by decide +kernel, by decide, xs_decB_ok eX3_readLine, rfl, lkX3, rfl, (fun i r ci h => by cases h), xs_thrB_ok fX3_readLine⟩
theorem vX3_readLodger : xs_MV zcl zEX zSTR zWS zK zPI qX3_readLodger (yX3_readLodger, cX3_readLodger, (some .boolean), []) := ⟨by decide +kernel, by decide, xs_decB_ok eX3_readLodger, rfl, lkX3, rfl, (fun i r ci h => by cases h), xs_thrB_ok fX3_readLodger⟩
theorem vX3_readFact : xs_MV zcl zEX zSTR zWS zK zPI qX3_readFact (yX3_readFact, cX3_readFact, (some .boolean), []) := ⟨by decide +kernel, by decide, xs_decB_ok eX3_readFact, rfl, lkX3, rfl, (fun i r ci h => by cases h), xs_thrB_ok fX3_readFact⟩
theorem vX3_readDebt : xs_MV zcl zEX zSTR zWS zK zPI qX3_readDebt (yX3_readDebt, cX3_readDebt, (some .boolean), []) := ⟨by decide +kernel, by decide, xs_decB_ok eX3_readDebt, rfl, lkX3, rfl, (fun i r ci h => by cases h), xs_thrB_ok fX3_readDebt⟩
theorem vX4_init : xs_MV zcl zEX zSTR zWS zK zPI qX4_init (yX4_init, cX4_init, none, []) := ⟨by decide +kernel, by decide, xs_decB_ok eX4_init, ⟨rfl, rfl⟩, lkX4, rfl, (fun i r ci h => by cases h), xs_thrB_ok fX4_init⟩
theorem vX4_clear : xs_MV zcl zEX zSTR zWS zK zPI qX4_clear (yX4_clear, cX4_clear, none, []) := ⟨by decide +kernel, by decide, xs_decB_ok eX4_clear, rfl, lkX4, rfl, (fun i r ci h => by cases h), xs_thrB_ok fX4_clear⟩
theorem vX4_takeOver : xs_MV zcl zEX zSTR zWS zK zPI qX4_takeOver (yX4_takeOver, cX4_takeOver, none, []) := ⟨by decide +kernel, by decide, xs_decB_ok eX4_takeOver, rfl, lkX4, rfl, (fun i r ci h => by cases h), xs_thrB_ok fX4_takeOver⟩
theorem vX4_addLine : xs_MV zcl zEX zSTR zWS zK zPI qX4_addLine (yX4_addLine, cX4_addLine, none, []) := ⟨by decide +kernel, by decide, xs_decB_ok eX4_addLine, rfl, lkX4, rfl, (fun i r ci h => by cases h), xs_thrB_ok fX4_addLine⟩
theorem vX4_add : xs_MV zcl zEX zSTR zWS zK zPI qX4_add (yX4_add, cX4_add, none, []) := ⟨by decide +kernel, by decide, xs_decB_ok eX4_add, rfl, lkX4, rfl, (fun i r ci h => by cases h), xs_thrB_ok fX4_add⟩
theorem vX4_addJump : xs_MV zcl zEX zSTR zWS zK zPI qX4_addJump (yX4_addJump, cX4_addJump, (some .int), []) := ⟨by decide +kernel, by decide, xs_decB_ok eX4_addJump, rfl, lkX4, rfl, (fun i r ci h => by cases h), xs_thrB_ok fX4_addJump⟩
theorem vX4_land : xs_MV zcl zEX zSTR zWS zK zPI qX4_land (yX4_land, cX4_land, none, []) := ⟨by decide +kernel, by decide, xs_decB_ok eX4_land, rfl, lkX4, rfl, (fun i r ci h => by cases h), xs_thrB_ok fX4_land⟩
theorem vX4_turnOf : xs_MV zcl zEX zSTR zWS zK zPI qX4_turnOf (yX4_turnOf, cX4_turnOf, (some .int), []) := ⟨by decide +kernel, by decide, xs_decB_ok eX4_turnOf, rfl, lkX4, rfl, (fun i r ci h => by cases h), xs_thrB_ok fX4_turnOf⟩
theorem vX4_isRefused : xs_MV zcl zEX zSTR zWS zK zPI qX4_isRefused (yX4_isRefused, cX4_isRefused, (some .boolean), []) := ⟨by decide +kernel, by decide, xs_decB_ok eX4_isRefused, rfl, lkX4, rfl, (fun i r ci h => by cases h), xs_thrB_ok fX4_isRefused⟩
theorem vX4_holds : xs_MV zcl zEX zSTR zWS zK zPI qX4_holds (yX4_holds, cX4_holds, (some .boolean), []) := ⟨by decide +kernel, by decide, xs_decB_ok eX4_holds, rfl, lkX4, rfl, (fun i r ci h => by cases h), xs_thrB_ok fX4_holds⟩
theorem vX5_init : xs_MV zcl zEX zSTR zWS zK zPI qX5_init (yX5_init, cX5_init, none, []) := ⟨by decide +kernel, by decide, xs_decB_ok eX5_init, ⟨rfl, rfl⟩, lkX5, rfl, (fun i r ci h => by cases h), xs_thrB_ok fX5_init⟩
theorem vX5_readLine : xs_MV zcl zEX zSTR zWS zK zPI qX5_readLine (yX5_readLine, cX5_readLine, (some .boolean), []) := ⟨by decide +kernel, by decide, xs_decB_ok eX5_readLine, rfl, lkX5, rfl, (fun i r ci h => by cases h), xs_thrB_ok fX5_readLine⟩
theorem vX5_kindOf : xs_MV zcl zEX zSTR zWS zK zPI qX5_kindOf (yX5_kindOf, cX5_kindOf, (some .int), []) := ⟨by decide +kernel, by decide, xs_decB_ok eX5_kindOf, rfl, lkX5, rfl, (fun i r ci h => by cases h), xs_thrB_ok fX5_kindOf⟩
theorem vX5_readAny : xs_MV zcl zEX zSTR zWS zK zPI qX5_readAny (yX5_readAny, cX5_readAny, (some .boolean), []) := ⟨by decide +kernel, by decide, xs_decB_ok eX5_readAny, rfl, lkX5, rfl, (fun i r ci h => by cases h), xs_thrB_ok fX5_readAny⟩
theorem vX5_readAll : xs_MV zcl zEX zSTR zWS zK zPI qX5_readAll (yX5_readAll, cX5_readAll, (some .boolean), []) := ⟨by decide +kernel, by decide, xs_decB_ok eX5_readAll, rfl, lkX5, rfl, (fun i r ci h => by cases h), xs_thrB_ok fX5_readAll⟩
theorem vX5_readAtom : xs_MV zcl zEX zSTR zWS zK zPI qX5_readAtom (yX5_readAtom, cX5_readAtom, (some .boolean), []) := ⟨by decide +kernel, by decide, xs_decB_ok eX5_readAtom, rfl, lkX5, rfl, (fun i r ci h => by cases h), xs_thrB_ok fX5_readAtom⟩
theorem vX5_readOrder : xs_MV zcl zEX zSTR zWS zK zPI qX5_readOrder (yX5_readOrder, cX5_readOrder, (some .boolean), []) := ⟨by decide +kernel, by decide, xs_decB_ok eX5_readOrder, rfl, lkX5, rfl, (fun i r ci h => by cases h), xs_thrB_ok fX5_readOrder⟩
theorem vX5_readSum : xs_MV zcl zEX zSTR zWS zK zPI qX5_readSum (yX5_readSum, cX5_readSum, (some .boolean), []) := ⟨by decide +kernel, by decide, xs_decB_ok eX5_readSum, rfl, lkX5, rfl, (fun i r ci h => by cases h), xs_thrB_ok fX5_readSum⟩
theorem vX5_partOf : xs_MV zcl zEX zSTR zWS zK zPI qX5_partOf (yX5_partOf, cX5_partOf, (some .int), []) := ⟨by decide +kernel, by decide, xs_decB_ok eX5_partOf, rfl, lkX5, rfl, (fun i r ci h => by cases h), xs_thrB_ok fX5_partOf⟩
theorem vX6_init : xs_MV zcl zEX zSTR zWS zK zPI qX6_init (yX6_init, cX6_init, none, []) := ⟨by decide +kernel, by decide, xs_decB_ok eX6_init, ⟨rfl, rfl⟩, lkX6, rfl, (fun i r ci h => by cases h), xs_thrB_ok fX6_init⟩
theorem vX6_readLines : xs_MV zcl zEX zSTR zWS zK zPI qX6_readLines (yX6_readLines, cX6_readLines, (some .boolean), []) := ⟨by decide +kernel, by decide, xs_decB_ok eX6_readLines, rfl, lkX6, rfl, (fun i r ci h => by cases h), xs_thrB_ok fX6_readLines⟩
theorem vX7_init : xs_MV zcl zEX zSTR zWS zK zPI qX7_init (yX7_init, cX7_init, none, []) := ⟨by decide +kernel, by decide, xs_decB_ok eX7_init, ⟨rfl, rfl⟩, lkX7, rfl, (fun i r ci h => by cases h), xs_thrB_ok fX7_init⟩
theorem vX7_takeOver : xs_MV zcl zEX zSTR zWS zK zPI qX7_takeOver (yX7_takeOver, cX7_takeOver, none, []) := ⟨by decide +kernel, by decide, xs_decB_ok eX7_takeOver, rfl, lkX7, rfl, (fun i r ci h => by cases h), xs_thrB_ok fX7_takeOver⟩
theorem vX7_add : xs_MV zcl zEX zSTR zWS zK zPI qX7_add (yX7_add, cX7_add, none, []) := ⟨by decide +kernel, by decide, xs_decB_ok eX7_add, rfl, lkX7, rfl, (fun i r ci h => by cases h), xs_thrB_ok fX7_add⟩
theorem vX7_cell : xs_MV zcl zEX zSTR zWS zK zPI qX7_cell (yX7_cell, cX7_cell, (some .int), []) := ⟨by decide +kernel, by decide, xs_decB_ok eX7_cell, rfl, lkX7, rfl, (fun i r ci h => by cases h), xs_thrB_ok fX7_cell⟩
theorem vX8_init : xs_MV zcl zEX zSTR zWS zK zPI qX8_init (yX8_init, cX8_init, none, []) := ⟨by decide +kernel, by decide, xs_decB_ok eX8_init, ⟨rfl, rfl⟩, lkX8, rfl, (fun i r ci h => by cases h), xs_thrB_ok fX8_init⟩
theorem vX8_learn : xs_MV zcl zEX zSTR zWS zK zPI qX8_learn (yX8_learn, cX8_learn, none, []) := ⟨by decide +kernel, by decide, xs_decB_ok eX8_learn, rfl, lkX8, rfl, (fun i r ci h => by cases h), xs_thrB_ok fX8_learn⟩
theorem vX8_presentAt : xs_MV zcl zEX zSTR zWS zK zPI qX8_presentAt (yX8_presentAt, cX8_presentAt, (some .int), []) := ⟨by decide +kernel, by decide, xs_decB_ok eX8_presentAt, rfl, lkX8, rfl, (fun i r ci h => by cases h), xs_thrB_ok fX8_presentAt⟩
theorem vX8_needsAt : xs_MV zcl zEX zSTR zWS zK zPI qX8_needsAt (yX8_needsAt, cX8_needsAt, (some .int), []) := ⟨by decide +kernel, by decide, xs_decB_ok eX8_needsAt, rfl, lkX8, rfl, (fun i r ci h => by cases h), xs_thrB_ok fX8_needsAt⟩
theorem vX8_pass : xs_MV zcl zEX zSTR zWS zK zPI qX8_pass (yX8_pass, cX8_pass, (some .int), []) := ⟨by decide +kernel, by decide, xs_decB_ok eX8_pass, rfl, lkX8, rfl, (fun i r ci h => by cases h), xs_thrB_ok fX8_pass⟩
theorem vX8_whoGoes : xs_MV zcl zEX zSTR zWS zK zPI qX8_whoGoes (yX8_whoGoes, cX8_whoGoes, (some .int), []) := ⟨by decide +kernel, by decide, xs_decB_ok eX8_whoGoes, rfl, lkX8, rfl, (fun i r ci h => by cases h), xs_thrB_ok fX8_whoGoes⟩
theorem vX8_tell : xs_MV zcl zEX zSTR zWS zK zPI qX8_tell (yX8_tell, cX8_tell, none, []) := ⟨by decide +kernel, by decide, xs_decB_ok eX8_tell, rfl, lkX8, rfl, (fun i r ci h => by cases h), xs_thrB_ok fX8_tell⟩
theorem vX9_init : xs_MV zcl zEX zSTR zWS zK zPI qX9_init (yX9_init, cX9_init, none, []) := ⟨by decide +kernel, by decide, xs_decB_ok eX9_init, ⟨rfl, rfl⟩, lkX9, rfl, (fun i r ci h => by cases h), xs_thrB_ok fX9_init⟩
theorem vX9_solve : xs_MV zcl zEX zSTR zWS zK zPI qX9_solve (yX9_solve, cX9_solve, none, []) := ⟨by decide +kernel, by decide, xs_decB_ok eX9_solve, rfl, lkX9, rfl, (fun i r ci h => by cases h), xs_thrB_ok fX9_solve⟩
theorem vX9_sharedTicks : xs_MV zcl zEX zSTR zWS zK zPI qX9_sharedTicks (yX9_sharedTicks, cX9_sharedTicks, (some .int), []) := ⟨by decide +kernel, by decide, xs_decB_ok eX9_sharedTicks, rfl, lkX9, rfl, (fun i r ci h => by cases h), xs_thrB_ok fX9_sharedTicks⟩
theorem vX9_choose : xs_MV zcl zEX zSTR zWS zK zPI qX9_choose (yX9_choose, cX9_choose, none, []) := ⟨by decide +kernel, by decide, xs_decB_ok eX9_choose, rfl, lkX9, rfl, (fun i r ci h => by cases h), xs_thrB_ok fX9_choose⟩
theorem vX9_keep : xs_MV zcl zEX zSTR zWS zK zPI qX9_keep (yX9_keep, cX9_keep, none, []) := ⟨by decide +kernel, by decide, xs_decB_ok eX9_keep, rfl, lkX9, rfl, (fun i r ci h => by cases h), xs_thrB_ok fX9_keep⟩
theorem vX9_partnerOf : xs_MV zcl zEX zSTR zWS zK zPI qX9_partnerOf (yX9_partnerOf, cX9_partnerOf, (some .int), []) := ⟨by decide +kernel, by decide, xs_decB_ok eX9_partnerOf, rfl, lkX9, rfl, (fun i r ci h => by cases h), xs_thrB_ok fX9_partnerOf⟩
theorem vX10_init : xs_MV zcl zEX zSTR zWS zK zPI qX10_init (yX10_init, cX10_init, none, []) := ⟨by decide +kernel, by decide, xs_decB_ok eX10_init, ⟨rfl, rfl⟩, lkX10, rfl, (fun i r ci h => by cases h), xs_thrB_ok fX10_init⟩
theorem vX10_append : xs_MV zcl zEX zSTR zWS zK zPI qX10_append (yX10_append, cX10_append, none, []) := ⟨by decide +kernel, by decide, xs_decB_ok eX10_append, rfl, lkX10, rfl, (fun i r ci h => by cases h), xs_thrB_ok fX10_append⟩
theorem vX10_byteAt : xs_MV zcl zEX zSTR zWS zK zPI qX10_byteAt (yX10_byteAt, cX10_byteAt, (some .int), []) := ⟨by decide +kernel, by decide, xs_decB_ok eX10_byteAt, rfl, lkX10, rfl, (fun i r ci h => by cases h), xs_thrB_ok fX10_byteAt⟩
theorem vX10_open : xs_MV zcl zEX zSTR zWS zK zPI qX10_open (yX10_open, cX10_open, none, []) := ⟨by decide +kernel, by decide, xs_decB_ok eX10_open, rfl, lkX10, rfl, (fun i r ci h => by cases h), xs_thrB_ok fX10_open⟩
theorem vX10_behindThing : xs_MV zcl zEX zSTR zWS zK zPI qX10_behindThing (yX10_behindThing, cX10_behindThing, (some .int), []) := ⟨by decide +kernel, by decide, xs_decB_ok eX10_behindThing, rfl, lkX10, rfl, (fun i r ci h => by cases h), xs_thrB_ok fX10_behindThing⟩
theorem vX10_kindOf : xs_MV zcl zEX zSTR zWS zK zPI qX10_kindOf (yX10_kindOf, cX10_kindOf, (some .int), []) := ⟨by decide +kernel, by decide, xs_decB_ok eX10_kindOf, rfl, lkX10, rfl, (fun i r ci h => by cases h), xs_thrB_ok fX10_kindOf⟩
theorem vX10_addThing : xs_MV zcl zEX zSTR zWS zK zPI qX10_addThing (yX10_addThing, cX10_addThing, none, []) := ⟨by decide +kernel, by decide, xs_decB_ok eX10_addThing, rfl, lkX10, rfl, (fun i r ci h => by cases h), xs_thrB_ok fX10_addThing⟩
theorem vX10_thingAt : xs_MV zcl zEX zSTR zWS zK zPI qX10_thingAt (yX10_thingAt, cX10_thingAt, (some .int), []) := ⟨by decide +kernel, by decide, xs_decB_ok eX10_thingAt, rfl, lkX10, rfl, (fun i r ci h => by cases h), xs_thrB_ok fX10_thingAt⟩
theorem vX10_numberAt : xs_MV zcl zEX zSTR zWS zK zPI qX10_numberAt (yX10_numberAt, cX10_numberAt, (some .int), []) := ⟨by decide +kernel, by decide, xs_decB_ok eX10_numberAt, rfl, lkX10, rfl, (fun i r ci h => by cases h), xs_thrB_ok fX10_numberAt⟩
theorem vX10_wordAt : xs_MV zcl zEX zSTR zWS zK zPI qX10_wordAt (yX10_wordAt, cX10_wordAt, (some .int), []) := ⟨by decide +kernel, by decide, xs_decB_ok eX10_wordAt, rfl, lkX10, rfl, (fun i r ci h => by cases h), xs_thrB_ok fX10_wordAt⟩
theorem vX10_thing : xs_MV zcl zEX zSTR zWS zK zPI qX10_thing (yX10_thing, cX10_thing, (some .int), []) := ⟨by decide +kernel, by decide, xs_decB_ok eX10_thing, rfl, lkX10, rfl, (fun i r ci h => by cases h), xs_thrB_ok fX10_thing⟩
theorem vX10_takes : xs_MV zcl zEX zSTR zWS zK zPI qX10_takes (yX10_takes, cX10_takes, (some .boolean), []) := ⟨by decide +kernel, by decide, xs_decB_ok eX10_takes, rfl, lkX10, rfl, (fun i r ci h => by cases h), xs_thrB_ok fX10_takes⟩
theorem vX10_takesNumber : xs_MV zcl zEX zSTR zWS zK zPI qX10_takesNumber (yX10_takesNumber, cX10_takesNumber, (some .int), []) := ⟨by decide +kernel, by decide, xs_decB_ok eX10_takesNumber, rfl, lkX10, rfl, (fun i r ci h => by cases h), xs_thrB_ok fX10_takesNumber⟩
theorem vX10_fails : xs_MV zcl zEX zSTR zWS zK zPI qX10_fails (yX10_fails, cX10_fails, (some .boolean), []) := ⟨by decide +kernel, by decide, xs_decB_ok eX10_fails, rfl, lkX10, rfl, (fun i r ci h => by cases h), xs_thrB_ok fX10_fails⟩
theorem vX11_init : xs_MV zcl zEX zSTR zWS zK zPI qX11_init (yX11_init, cX11_init, none, []) := ⟨by decide +kernel, by decide, xs_decB_ok eX11_init, ⟨rfl, rfl⟩, lkX11, rfl, (fun i r ci h => by cases h), xs_thrB_ok fX11_init⟩
theorem vX11_feed : xs_MV zcl zEX zSTR zWS zK zPI qX11_feed (yX11_feed, cX11_feed, (some .int), []) := ⟨by decide +kernel, by decide, xs_decB_ok eX11_feed, rfl, lkX11, rfl, (fun i r ci h => by cases h), xs_thrB_ok fX11_feed⟩
theorem vX11_end : xs_MV zcl zEX zSTR zWS zK zPI qX11_end (yX11_end, cX11_end, (some .boolean), []) := ⟨by decide +kernel, by decide, xs_decB_ok eX11_end, rfl, lkX11, rfl, (fun i r ci h => by cases h), xs_thrB_ok fX11_end⟩
theorem vX11_house : xs_MV zcl zEX zSTR zWS zK zPI qX11_house (yX11_house, cX11_house, (some .int), []) := ⟨by decide +kernel, by decide, xs_decB_ok eX11_house, rfl, lkX11, rfl, (fun i r ci h => by cases h), xs_thrB_ok fX11_house⟩
theorem vX11_law : xs_MV zcl zEX zSTR zWS zK zPI qX11_law (yX11_law, cX11_law, (some .int), []) := ⟨by decide +kernel, by decide, xs_decB_ok eX11_law, rfl, lkX11, rfl, (fun i r ci h => by cases h), xs_thrB_ok fX11_law⟩
theorem vX11_fault : xs_MV zcl zEX zSTR zWS zK zPI qX11_fault (yX11_fault, cX11_fault, (some .int), []) := ⟨by decide +kernel, by decide, xs_decB_ok eX11_fault, rfl, lkX11, rfl, (fun i r ci h => by cases h), xs_thrB_ok fX11_fault⟩
theorem vX11_lodger : xs_MV zcl zEX zSTR zWS zK zPI qX11_lodger (yX11_lodger, cX11_lodger, (some .int), []) := ⟨by decide +kernel, by decide, xs_decB_ok eX11_lodger, rfl, lkX11, rfl, (fun i r ci h => by cases h), xs_thrB_ok fX11_lodger⟩
theorem vX11_owes : xs_MV zcl zEX zSTR zWS zK zPI qX11_owes (yX11_owes, cX11_owes, (some .int), []) := ⟨by decide +kernel, by decide, xs_decB_ok eX11_owes, rfl, lkX11, rfl, (fun i r ci h => by cases h), xs_thrB_ok fX11_owes⟩
theorem vX11_isHome : xs_MV zcl zEX zSTR zWS zK zPI qX11_isHome (yX11_isHome, cX11_isHome, (some .boolean), []) := ⟨by decide +kernel, by decide, xs_decB_ok eX11_isHome, rfl, lkX11, rfl, (fun i r ci h => by cases h), xs_thrB_ok fX11_isHome⟩
theorem vX11_needs : xs_MV zcl zEX zSTR zWS zK zPI qX11_needs (yX11_needs, cX11_needs, (some .int), []) := ⟨by decide +kernel, by decide, xs_decB_ok eX11_needs, rfl, lkX11, rfl, (fun i r ci h => by cases h), xs_thrB_ok fX11_needs⟩
theorem vX11_count : xs_MV zcl zEX zSTR zWS zK zPI qX11_count (yX11_count, cX11_count, (some .int), []) := ⟨by decide +kernel, by decide, xs_decB_ok eX11_count, rfl, lkX11, rfl, (fun i r ci h => by cases h), xs_thrB_ok fX11_count⟩
theorem vX11_inside : xs_MV zcl zEX zSTR zWS zK zPI qX11_inside (yX11_inside, cX11_inside, (some .int), []) := ⟨by decide +kernel, by decide, xs_decB_ok eX11_inside, rfl, lkX11, rfl, (fun i r ci h => by cases h), xs_thrB_ok fX11_inside⟩
theorem vX11_ticks : xs_MV zcl zEX zSTR zWS zK zPI qX11_ticks (yX11_ticks, cX11_ticks, (some .int), []) := ⟨by decide +kernel, by decide, xs_decB_ok eX11_ticks, rfl, lkX11, rfl, (fun i r ci h => by cases h), xs_thrB_ok fX11_ticks⟩
theorem vX11_put : xs_MV zcl zEX zSTR zWS zK zPI qX11_put (yX11_put, cX11_put, (some .int), []) := ⟨by decide +kernel, by decide, xs_decB_ok eX11_put, rfl, lkX11, rfl, (fun i r ci h => by cases h), xs_thrB_ok fX11_put⟩
theorem vX11_lend : xs_MV zcl zEX zSTR zWS zK zPI qX11_lend (yX11_lend, cX11_lend, (some .int), []) := ⟨by decide +kernel, by decide, xs_decB_ok eX11_lend, rfl, lkX11, rfl, (fun i r ci h => by cases h), xs_thrB_ok fX11_lend⟩
theorem vX11_repay : xs_MV zcl zEX zSTR zWS zK zPI qX11_repay (yX11_repay, cX11_repay, (some .int), []) := ⟨by decide +kernel, by decide, xs_decB_ok eX11_repay, rfl, lkX11, rfl, (fun i r ci h => by cases h), xs_thrB_ok fX11_repay⟩
theorem vX11_waits : xs_MV zcl zEX zSTR zWS zK zPI qX11_waits (yX11_waits, cX11_waits, (some .int), []) := ⟨by decide +kernel, by decide, xs_decB_ok eX11_waits, rfl, lkX11, rfl, (fun i r ci h => by cases h), xs_thrB_ok fX11_waits⟩
theorem vX11_price : xs_MV zcl zEX zSTR zWS zK zPI qX11_price (yX11_price, cX11_price, (some .int), []) := ⟨by decide +kernel, by decide, xs_decB_ok eX11_price, rfl, lkX11, rfl, (fun i r ci h => by cases h), xs_thrB_ok fX11_price⟩
theorem vX11_change : xs_MV zcl zEX zSTR zWS zK zPI qX11_change (yX11_change, cX11_change, (some .int), []) := ⟨by decide +kernel, by decide, xs_decB_ok eX11_change, rfl, lkX11, rfl, (fun i r ci h => by cases h), xs_thrB_ok fX11_change⟩
theorem vX11_home : xs_MV zcl zEX zSTR zWS zK zPI qX11_home (yX11_home, cX11_home, (some .int), []) := ⟨by decide +kernel, by decide, xs_decB_ok eX11_home, rfl, lkX11, rfl, (fun i r ci h => by cases h), xs_thrB_ok fX11_home⟩
theorem vX11_empty : xs_MV zcl zEX zSTR zWS zK zPI qX11_empty (yX11_empty, cX11_empty, (some .int), []) := ⟨by decide +kernel, by decide, xs_decB_ok eX11_empty, rfl, lkX11, rfl, (fun i r ci h => by cases h), xs_thrB_ok fX11_empty⟩
theorem vX11_lasts : xs_MV zcl zEX zSTR zWS zK zPI qX11_lasts (yX11_lasts, cX11_lasts, (some .int), []) := ⟨by decide +kernel, by decide, xs_decB_ok eX11_lasts, rfl, lkX11, rfl, (fun i r ci h => by cases h), xs_thrB_ok fX11_lasts⟩
theorem vX11_out : xs_MV zcl zEX zSTR zWS zK zPI qX11_out (yX11_out, cX11_out, (some .int), []) := ⟨by decide +kernel, by decide, xs_decB_ok eX11_out, rfl, lkX11, rfl, (fun i r ci h => by cases h), xs_thrB_ok fX11_out⟩
theorem vX11_firstDark : xs_MV zcl zEX zSTR zWS zK zPI qX11_firstDark (yX11_firstDark, cX11_firstDark, (some .int), []) := ⟨by decide +kernel, by decide, xs_decB_ok eX11_firstDark, rfl, lkX11, rfl, (fun i r ci h => by cases h), xs_thrB_ok fX11_firstDark⟩
theorem vX11_feeder : xs_MV zcl zEX zSTR zWS zK zPI qX11_feeder (yX11_feeder, cX11_feeder, (some .int), []) := ⟨by decide +kernel, by decide, xs_decB_ok eX11_feeder, rfl, lkX11, rfl, (fun i r ci h => by cases h), xs_thrB_ok fX11_feeder⟩
theorem vX11_shiver : xs_MV zcl zEX zSTR zWS zK zPI qX11_shiver (yX11_shiver, cX11_shiver, (some .int), []) := ⟨by decide +kernel, by decide, xs_decB_ok eX11_shiver, rfl, lkX11, rfl, (fun i r ci h => by cases h), xs_thrB_ok fX11_shiver⟩
theorem vX11_firstColder : xs_MV zcl zEX zSTR zWS zK zPI qX11_firstColder (yX11_firstColder, cX11_firstColder, (some .int), []) := ⟨by decide +kernel, by decide, xs_decB_ok eX11_firstColder, rfl, lkX11, rfl, (fun i r ci h => by cases h), xs_thrB_ok fX11_firstColder⟩
theorem vX11_after : xs_MV zcl zEX zSTR zWS zK zPI qX11_after (yX11_after, cX11_after, (some .int), []) := ⟨by decide +kernel, by decide, xs_decB_ok eX11_after, rfl, lkX11, rfl, (fun i r ci h => by cases h), xs_thrB_ok fX11_after⟩
theorem vX11_coins : xs_MV zcl zEX zSTR zWS zK zPI qX11_coins (yX11_coins, cX11_coins, (some .int), []) := ⟨by decide +kernel, by decide, xs_decB_ok eX11_coins, rfl, lkX11, rfl, (fun i r ci h => by cases h), xs_thrB_ok fX11_coins⟩
theorem vX11_ease : xs_MV zcl zEX zSTR zWS zK zPI qX11_ease (yX11_ease, cX11_ease, (some .int), []) := ⟨by decide +kernel, by decide, xs_decB_ok eX11_ease, rfl, lkX11, rfl, (fun i r ci h => by cases h), xs_thrB_ok fX11_ease⟩
theorem vX11_start : xs_MV zcl zEX zSTR zWS zK zPI qX11_start (yX11_start, cX11_start, none, []) := ⟨by decide +kernel, by decide, xs_decB_ok eX11_start, rfl, lkX11, rfl, (fun i r ci h => by cases h), xs_thrB_ok fX11_start⟩
theorem vX11_run : xs_MV zcl zEX zSTR zWS zK zPI qX11_run (yX11_run, cX11_run, (some .int), []) := ⟨by decide +kernel, by decide, xs_decB_ok eX11_run, rfl, lkX11, rfl, (fun i r ci h => by cases h), xs_thrB_ok fX11_run⟩
theorem vX11_grief : xs_MV zcl zEX zSTR zWS zK zPI qX11_grief (yX11_grief, cX11_grief, (some .int), []) := ⟨by decide +kernel, by decide, xs_decB_ok eX11_grief, rfl, lkX11, rfl, (fun i r ci h => by cases h), xs_thrB_ok fX11_grief⟩
theorem vX11_restless : xs_MV zcl zEX zSTR zWS zK zPI qX11_restless (yX11_restless, cX11_restless, (some .int), []) := ⟨by decide +kernel, by decide, xs_decB_ok eX11_restless, rfl, lkX11, rfl, (fun i r ci h => by cases h), xs_thrB_ok fX11_restless⟩
theorem vX11_wouldWait : xs_MV zcl zEX zSTR zWS zK zPI qX11_wouldWait (yX11_wouldWait, cX11_wouldWait, (some .boolean), []) := ⟨by decide +kernel, by decide, xs_decB_ok eX11_wouldWait, rfl, lkX11, rfl, (fun i r ci h => by cases h), xs_thrB_ok fX11_wouldWait⟩
theorem vX11_saint : xs_MV zcl zEX zSTR zWS zK zPI qX11_saint (yX11_saint, cX11_saint, (some .int), []) := ⟨by decide +kernel, by decide, xs_decB_ok eX11_saint, rfl, lkX11, rfl, (fun i r ci h => by cases h), xs_thrB_ok fX11_saint⟩
theorem vX11_warmer : xs_MV zcl zEX zSTR zWS zK zPI qX11_warmer (yX11_warmer, cX11_warmer, (some .boolean), []) := ⟨by decide +kernel, by decide, xs_decB_ok eX11_warmer, rfl, lkX11, rfl, (fun i r ci h => by cases h), xs_thrB_ok fX11_warmer⟩
theorem vX11_bestWait : xs_MV zcl zEX zSTR zWS zK zPI qX11_bestWait (yX11_bestWait, cX11_bestWait, (some .int), []) := ⟨by decide +kernel, by decide, xs_decB_ok eX11_bestWait, rfl, lkX11, rfl, (fun i r ci h => by cases h), xs_thrB_ok fX11_bestWait⟩
theorem vX11_griefBy : xs_MV zcl zEX zSTR zWS zK zPI qX11_griefBy (yX11_griefBy, cX11_griefBy, (some .int), []) := ⟨by decide +kernel, by decide, xs_decB_ok eX11_griefBy, rfl, lkX11, rfl, (fun i r ci h => by cases h), xs_thrB_ok fX11_griefBy⟩
theorem vX11_griefAhead : xs_MV zcl zEX zSTR zWS zK zPI qX11_griefAhead (yX11_griefAhead, cX11_griefAhead, (some .int), []) := ⟨by decide +kernel, by decide, xs_decB_ok eX11_griefAhead, rfl, lkX11, rfl, (fun i r ci h => by cases h), xs_thrB_ok fX11_griefAhead⟩
theorem vX11_fair : xs_MV zcl zEX zSTR zWS zK zPI qX11_fair (yX11_fair, cX11_fair, (some .int), []) := ⟨by decide +kernel, by decide, xs_decB_ok eX11_fair, rfl, lkX11, rfl, (fun i r ci h => by cases h), xs_thrB_ok fX11_fair⟩
theorem vX11_share : xs_MV zcl zEX zSTR zWS zK zPI qX11_share (yX11_share, cX11_share, (some .int), []) := ⟨by decide +kernel, by decide, xs_decB_ok eX11_share, rfl, lkX11, rfl, (fun i r ci h => by cases h), xs_thrB_ok fX11_share⟩
theorem vX11_hundredths : xs_MV zcl zEX zSTR zWS zK zPI qX11_hundredths (yX11_hundredths, cX11_hundredths, (some .int), []) := ⟨by decide +kernel, by decide, xs_decB_ok eX11_hundredths, rfl, lkX11, rfl, (fun i r ci h => by cases h), xs_thrB_ok fX11_hundredths⟩
theorem vX11_tops : xs_MV zcl zEX zSTR zWS zK zPI qX11_tops (yX11_tops, cX11_tops, (some .int), []) := ⟨by decide +kernel, by decide, xs_decB_ok eX11_tops, rfl, lkX11, rfl, (fun i r ci h => by cases h), xs_thrB_ok fX11_tops⟩
theorem vX11_stand : xs_MV zcl zEX zSTR zWS zK zPI qX11_stand (yX11_stand, cX11_stand, (some .int), []) := ⟨by decide +kernel, by decide, xs_decB_ok eX11_stand, rfl, lkX11, rfl, (fun i r ci h => by cases h), xs_thrB_ok fX11_stand⟩
theorem vX11_mostNeeds : xs_MV zcl zEX zSTR zWS zK zPI qX11_mostNeeds (yX11_mostNeeds, cX11_mostNeeds, (some .int), []) := ⟨by decide +kernel, by decide, xs_decB_ok eX11_mostNeeds, rfl, lkX11, rfl, (fun i r ci h => by cases h), xs_thrB_ok fX11_mostNeeds⟩
theorem vX11_dear : xs_MV zcl zEX zSTR zWS zK zPI qX11_dear (yX11_dear, cX11_dear, (some .int), []) := ⟨by decide +kernel, by decide, xs_decB_ok eX11_dear, rfl, lkX11, rfl, (fun i r ci h => by cases h), xs_thrB_ok fX11_dear⟩
theorem vX11_earns : xs_MV zcl zEX zSTR zWS zK zPI qX11_earns (yX11_earns, cX11_earns, (some .int), []) := ⟨by decide +kernel, by decide, xs_decB_ok eX11_earns, rfl, lkX11, rfl, (fun i r ci h => by cases h), xs_thrB_ok fX11_earns⟩
theorem vX11_earned : xs_MV zcl zEX zSTR zWS zK zPI qX11_earned (yX11_earned, cX11_earned, (some .int), []) := ⟨by decide +kernel, by decide, xs_decB_ok eX11_earned, rfl, lkX11, rfl, (fun i r ci h => by cases h), xs_thrB_ok fX11_earned⟩
theorem vX11_odds : xs_MV zcl zEX zSTR zWS zK zPI qX11_odds (yX11_odds, cX11_odds, (some .int), []) := ⟨by decide +kernel, by decide, xs_decB_ok eX11_odds, rfl, lkX11, rfl, (fun i r ci h => by cases h), xs_thrB_ok fX11_odds⟩
theorem vX11_culprit : xs_MV zcl zEX zSTR zWS zK zPI qX11_culprit (yX11_culprit, cX11_culprit, (some .int), []) := ⟨by decide +kernel, by decide, xs_decB_ok eX11_culprit, rfl, lkX11, rfl, (fun i r ci h => by cases h), xs_thrB_ok fX11_culprit⟩
theorem vX11_ask : xs_MV zcl zEX zSTR zWS zK zPI qX11_ask (yX11_ask, cX11_ask, (some .int), []) := ⟨by decide +kernel, by decide, xs_decB_ok eX11_ask, rfl, lkX11, rfl, (fun i r ci h => by cases h), xs_thrB_ok fX11_ask⟩
theorem vX11_fitting : xs_MV zcl zEX zSTR zWS zK zPI qX11_fitting (yX11_fitting, cX11_fitting, (some .int), []) := ⟨by decide +kernel, by decide, xs_decB_ok eX11_fitting, rfl, lkX11, rfl, (fun i r ci h => by cases h), xs_thrB_ok fX11_fitting⟩
theorem vX11_drawn : xs_MV zcl zEX zSTR zWS zK zPI qX11_drawn (yX11_drawn, cX11_drawn, (some .int), []) := ⟨by decide +kernel, by decide, xs_decB_ok eX11_drawn, rfl, lkX11, rfl, (fun i r ci h => by cases h), xs_thrB_ok fX11_drawn⟩
theorem vX11_isDrawn : xs_MV zcl zEX zSTR zWS zK zPI qX11_isDrawn (yX11_isDrawn, cX11_isDrawn, (some .boolean), []) := ⟨by decide +kernel, by decide, xs_decB_ok eX11_isDrawn, rfl, lkX11, rfl, (fun i r ci h => by cases h), xs_thrB_ok fX11_isDrawn⟩
theorem vX11_readClues : xs_MV zcl zEX zSTR zWS zK zPI qX11_readClues (yX11_readClues, cX11_readClues, none, []) := ⟨by decide +kernel, by decide, xs_decB_ok eX11_readClues, rfl, lkX11, rfl, (fun i r ci h => by cases h), xs_thrB_ok fX11_readClues⟩
theorem vX11_fewer : xs_MV zcl zEX zSTR zWS zK zPI qX11_fewer (yX11_fewer, cX11_fewer, (some .int), []) := ⟨by decide +kernel, by decide, xs_decB_ok eX11_fewer, rfl, lkX11, rfl, (fun i r ci h => by cases h), xs_thrB_ok fX11_fewer⟩
theorem vX11_pairs : xs_MV zcl zEX zSTR zWS zK zPI qX11_pairs (yX11_pairs, cX11_pairs, (some .int), []) := ⟨by decide +kernel, by decide, xs_decB_ok eX11_pairs, rfl, lkX11, rfl, (fun i r ci h => by cases h), xs_thrB_ok fX11_pairs⟩
theorem vX11_keepers : xs_MV zcl zEX zSTR zWS zK zPI qX11_keepers (yX11_keepers, cX11_keepers, (some .int), []) := ⟨by decide +kernel, by decide, xs_decB_ok eX11_keepers, rfl, lkX11, rfl, (fun i r ci h => by cases h), xs_thrB_ok fX11_keepers⟩
theorem vX11_isKeeping : xs_MV zcl zEX zSTR zWS zK zPI qX11_isKeeping (yX11_isKeeping, cX11_isKeeping, (some .boolean), []) := ⟨by decide +kernel, by decide, xs_decB_ok eX11_isKeeping, rfl, lkX11, rfl, (fun i r ci h => by cases h), xs_thrB_ok fX11_isKeeping⟩
theorem vX11_kettle : xs_MV zcl zEX zSTR zWS zK zPI qX11_kettle (yX11_kettle, cX11_kettle, (some .boolean), []) := ⟨by decide +kernel, by decide, xs_decB_ok eX11_kettle, rfl, lkX11, rfl, (fun i r ci h => by cases h), xs_thrB_ok fX11_kettle⟩
theorem vX11_swings : xs_MV zcl zEX zSTR zWS zK zPI qX11_swings (yX11_swings, cX11_swings, (some .int), []) := ⟨by decide +kernel, by decide, xs_decB_ok eX11_swings, rfl, lkX11, rfl, (fun i r ci h => by cases h), xs_thrB_ok fX11_swings⟩
theorem vX11_minimal : xs_MV zcl zEX zSTR zWS zK zPI qX11_minimal (yX11_minimal, cX11_minimal, (some .int), []) := ⟨by decide +kernel, by decide, xs_decB_ok eX11_minimal, rfl, lkX11, rfl, (fun i r ci h => by cases h), xs_thrB_ok fX11_minimal⟩
theorem vX11_dummies : xs_MV zcl zEX zSTR zWS zK zPI qX11_dummies (yX11_dummies, cX11_dummies, (some .int), []) := ⟨by decide +kernel, by decide, xs_decB_ok eX11_dummies, rfl, lkX11, rfl, (fun i r ci h => by cases h), xs_thrB_ok fX11_dummies⟩
theorem vX11_swung : xs_MV zcl zEX zSTR zWS zK zPI qX11_swung (yX11_swung, cX11_swung, (some .int), []) := ⟨by decide +kernel, by decide, xs_decB_ok eX11_swung, rfl, lkX11, rfl, (fun i r ci h => by cases h), xs_thrB_ok fX11_swung⟩
theorem vX11_needsEach : xs_MV zcl zEX zSTR zWS zK zPI qX11_needsEach (yX11_needsEach, cX11_needsEach, (some .boolean), []) := ⟨by decide +kernel, by decide, xs_decB_ok eX11_needsEach, rfl, lkX11, rfl, (fun i r ci h => by cases h), xs_thrB_ok fX11_needsEach⟩
theorem vX11_carries : xs_MV zcl zEX zSTR zWS zK zPI qX11_carries (yX11_carries, cX11_carries, (some .boolean), []) := ⟨by decide +kernel, by decide, xs_decB_ok eX11_carries, rfl, lkX11, rfl, (fun i r ci h => by cases h), xs_thrB_ok fX11_carries⟩
theorem vX11_net : xs_MV zcl zEX zSTR zWS zK zPI qX11_net (yX11_net, cX11_net, (some .int), []) := ⟨by decide +kernel, by decide, xs_decB_ok eX11_net, rfl, lkX11, rfl, (fun i r ci h => by cases h), xs_thrB_ok fX11_net⟩
theorem vX11_debt : xs_MV zcl zEX zSTR zWS zK zPI qX11_debt (yX11_debt, cX11_debt, (some .int), []) := ⟨by decide +kernel, by decide, xs_decB_ok eX11_debt, rfl, lkX11, rfl, (fun i r ci h => by cases h), xs_thrB_ok fX11_debt⟩
theorem vX11_ring : xs_MV zcl zEX zSTR zWS zK zPI qX11_ring (yX11_ring, cX11_ring, (some .boolean), []) := ⟨by decide +kernel, by decide, xs_decB_ok eX11_ring, rfl, lkX11, rfl, (fun i r ci h => by cases h), xs_thrB_ok fX11_ring⟩
theorem vX11_poorest : xs_MV zcl zEX zSTR zWS zK zPI qX11_poorest (yX11_poorest, cX11_poorest, (some .int), []) := ⟨by decide +kernel, by decide, xs_decB_ok eX11_poorest, rfl, lkX11, rfl, (fun i r ci h => by cases h), xs_thrB_ok fX11_poorest⟩
theorem vX11_rests : xs_MV zcl zEX zSTR zWS zK zPI qX11_rests (yX11_rests, cX11_rests, (some .int), []) := ⟨by decide +kernel, by decide, xs_decB_ok eX11_rests, rfl, lkX11, rfl, (fun i r ci h => by cases h), xs_thrB_ok fX11_rests⟩
theorem vX11_isContent : xs_MV zcl zEX zSTR zWS zK zPI qX11_isContent (yX11_isContent, cX11_isContent, (some .boolean), []) := ⟨by decide +kernel, by decide, xs_decB_ok eX11_isContent, rfl, lkX11, rfl, (fun i r ci h => by cases h), xs_thrB_ok fX11_isContent⟩
theorem vX11_gain : xs_MV zcl zEX zSTR zWS zK zPI qX11_gain (yX11_gain, cX11_gain, (some .int), []) := ⟨by decide +kernel, by decide, xs_decB_ok eX11_gain, rfl, lkX11, rfl, (fun i r ci h => by cases h), xs_thrB_ok fX11_gain⟩
theorem vX11_busy : xs_MV zcl zEX zSTR zWS zK zPI qX11_busy (yX11_busy, cX11_busy, (some .int), []) := ⟨by decide +kernel, by decide, xs_decB_ok eX11_busy, rfl, lkX11, rfl, (fun i r ci h => by cases h), xs_thrB_ok fX11_busy⟩
theorem vX11_alone : xs_MV zcl zEX zSTR zWS zK zPI qX11_alone (yX11_alone, cX11_alone, (some .int), []) := ⟨by decide +kernel, by decide, xs_decB_ok eX11_alone, rfl, lkX11, rfl, (fun i r ci h => by cases h), xs_thrB_ok fX11_alone⟩
theorem vX11_miser : xs_MV zcl zEX zSTR zWS zK zPI qX11_miser (yX11_miser, cX11_miser, (some .int), []) := ⟨by decide +kernel, by decide, xs_decB_ok eX11_miser, rfl, lkX11, rfl, (fun i r ci h => by cases h), xs_thrB_ok fX11_miser⟩
theorem vX11_alike : xs_MV zcl zEX zSTR zWS zK zPI qX11_alike (yX11_alike, cX11_alike, (some .int), []) := ⟨by decide +kernel, by decide, xs_decB_ok eX11_alike, rfl, lkX11, rfl, (fun i r ci h => by cases h), xs_thrB_ok fX11_alike⟩
theorem vX11_trial : xs_MV zcl zEX zSTR zWS zK zPI qX11_trial (yX11_trial, cX11_trial, (some .int), []) := ⟨by decide +kernel, by decide, xs_decB_ok eX11_trial, rfl, lkX11, rfl, (fun i r ci h => by cases h), xs_thrB_ok fX11_trial⟩
theorem vX11_span : xs_MV zcl zEX zSTR zWS zK zPI qX11_span (yX11_span, cX11_span, (some .int), []) := ⟨by decide +kernel, by decide, xs_decB_ok eX11_span, rfl, lkX11, rfl, (fun i r ci h => by cases h), xs_thrB_ok fX11_span⟩
theorem vX11_led : xs_MV zcl zEX zSTR zWS zK zPI qX11_led (yX11_led, cX11_led, (some .int), []) := ⟨by decide +kernel, by decide, xs_decB_ok eX11_led, rfl, lkX11, rfl, (fun i r ci h => by cases h), xs_thrB_ok fX11_led⟩
theorem vX11_log : xs_MV zcl zEX zSTR zWS zK zPI qX11_log (yX11_log, cX11_log, (some .int), []) := ⟨by decide +kernel, by decide, xs_decB_ok eX11_log, rfl, lkX11, rfl, (fun i r ci h => by cases h), xs_thrB_ok fX11_log⟩
theorem vX11_seed : xs_MV zcl zEX zSTR zWS zK zPI qX11_seed (yX11_seed, cX11_seed, (some .int), []) := ⟨by decide +kernel, by decide, xs_decB_ok eX11_seed, rfl, lkX11, rfl, (fun i r ci h => by cases h), xs_thrB_ok fX11_seed⟩
theorem vX11_undo : xs_MV zcl zEX zSTR zWS zK zPI qX11_undo (yX11_undo, cX11_undo, (some .boolean), []) := ⟨by decide +kernel, by decide, xs_decB_ok eX11_undo, rfl, lkX11, rfl, (fun i r ci h => by cases h), xs_thrB_ok fX11_undo⟩
theorem vX11_image : xs_MV zcl zEX zSTR zWS zK zPI qX11_image (yX11_image, cX11_image, none, []) := ⟨by decide +kernel, by decide, xs_decB_ok eX11_image, rfl, lkX11, rfl, (fun i r ci h => by cases h), xs_thrB_ok fX11_image⟩
theorem vX11_back : xs_MV zcl zEX zSTR zWS zK zPI qX11_back (yX11_back, cX11_back, (some .boolean), []) := ⟨by decide +kernel, by decide, xs_decB_ok eX11_back, rfl, lkX11, rfl, (fun i r ci h => by cases h), xs_thrB_ok fX11_back⟩
theorem vX11_everybody : xs_MV zcl zEX zSTR zWS zK zPI qX11_everybody (yX11_everybody, cX11_everybody, (some .int), []) := ⟨by decide +kernel, by decide, xs_decB_ok eX11_everybody, rfl, lkX11, rfl, (fun i r ci h => by cases h), xs_thrB_ok fX11_everybody⟩
theorem vX11_checkLodger : xs_MV zcl zEX zSTR zWS zK zPI qX11_checkLodger (yX11_checkLodger, cX11_checkLodger, none, []) := ⟨by decide +kernel, by decide, xs_decB_ok eX11_checkLodger, rfl, lkX11, rfl, (fun i r ci h => by cases h), xs_thrB_ok fX11_checkLodger⟩
theorem vX11_checkTwo : xs_MV zcl zEX zSTR zWS zK zPI qX11_checkTwo (yX11_checkTwo, cX11_checkTwo, none, []) := ⟨by decide +kernel, by decide, xs_decB_ok eX11_checkTwo, rfl, lkX11, rfl, (fun i r ci h => by cases h), xs_thrB_ok fX11_checkTwo⟩
theorem vX11_checkTick : xs_MV zcl zEX zSTR zWS zK zPI qX11_checkTick (yX11_checkTick, cX11_checkTick, none, []) := ⟨by decide +kernel, by decide, xs_decB_ok eX11_checkTick, rfl, lkX11, rfl, (fun i r ci h => by cases h), xs_thrB_ok fX11_checkTick⟩
theorem vX11_checkRange : xs_MV zcl zEX zSTR zWS zK zPI qX11_checkRange (yX11_checkRange, cX11_checkRange, none, []) := ⟨by decide +kernel, by decide, xs_decB_ok eX11_checkRange, rfl, lkX11, rfl, (fun i r ci h => by cases h), xs_thrB_ok fX11_checkRange⟩
theorem vX12_init : xs_MV zcl zEX zSTR zWS zK zPI qX12_init (yX12_init, cX12_init, none, []) := ⟨by decide +kernel, by decide, xs_decB_ok eX12_init, ⟨rfl, rfl⟩, lkX12, rfl, (fun i r ci h => by cases h), xs_thrB_ok fX12_init⟩
theorem vX12_thrown : xs_MV zcl zEX zSTR zWS zK zPI qX12_thrown (yX12_thrown, cX12_thrown, (some .int), []) := ⟨by decide +kernel, by decide, xs_decB_ok eX12_thrown, rfl, lkX12, rfl, (fun i r ci h => by cases h), xs_thrB_ok fX12_thrown⟩
theorem vX12_isIn : xs_MV zcl zEX zSTR zWS zK zPI qX12_isIn (yX12_isIn, cX12_isIn, (some .boolean), []) := ⟨by decide +kernel, by decide, xs_decB_ok eX12_isIn, rfl, lkX12, rfl, (fun i r ci h => by cases h), xs_thrB_ok fX12_isIn⟩
theorem vX12_lesser : xs_MV zcl zEX zSTR zWS zK zPI qX12_lesser (yX12_lesser, cX12_lesser, (some .int), []) := ⟨by decide +kernel, by decide, xs_decB_ok eX12_lesser, rfl, lkX12, rfl, (fun i r ci h => by cases h), xs_thrB_ok fX12_lesser⟩
theorem vX12_greater : xs_MV zcl zEX zSTR zWS zK zPI qX12_greater (yX12_greater, cX12_greater, (some .int), []) := ⟨by decide +kernel, by decide, xs_decB_ok eX12_greater, rfl, lkX12, rfl, (fun i r ci h => by cases h), xs_thrB_ok fX12_greater⟩
theorem vX12_isOf : xs_MV zcl zEX zSTR zWS zK zPI qX12_isOf (yX12_isOf, cX12_isOf, (some .boolean), []) := ⟨by decide +kernel, by decide, xs_decB_ok eX12_isOf, rfl, lkX12, rfl, (fun i r ci h => by cases h), xs_thrB_ok fX12_isOf⟩
theorem vX12_bits : xs_MV zcl zEX zSTR zWS zK zPI qX12_bits (yX12_bits, cX12_bits, (some .int), []) := ⟨by decide +kernel, by decide, xs_decB_ok eX12_bits, rfl, lkX12, rfl, (fun i r ci h => by cases h), xs_thrB_ok fX12_bits⟩
theorem vX12_of : xs_MV zcl zEX zSTR zWS zK zPI qX12_of (yX12_of, cX12_of, (some .int), []) := ⟨by decide +kernel, by decide, xs_decB_ok eX12_of, rfl, lkX12, rfl, (fun i r ci h => by cases h), xs_thrB_ok fX12_of⟩
theorem vX12_lays : xs_MV zcl zEX zSTR zWS zK zPI qX12_lays (yX12_lays, cX12_lays, none, []) := ⟨by decide +kernel, by decide, xs_decB_ok eX12_lays, rfl, lkX12, rfl, (fun i r ci h => by cases h), xs_thrB_ok fX12_lays⟩
theorem vX12_owed : xs_MV zcl zEX zSTR zWS zK zPI qX12_owed (yX12_owed, cX12_owed, (some .int), []) := ⟨by decide +kernel, by decide, xs_decB_ok eX12_owed, rfl, lkX12, rfl, (fun i r ci h => by cases h), xs_thrB_ok fX12_owed⟩
theorem vX12_isLodger : xs_MV zcl zEX zSTR zWS zK zPI qX12_isLodger (yX12_isLodger, cX12_isLodger, (some .boolean), []) := ⟨by decide +kernel, by decide, xs_decB_ok eX12_isLodger, rfl, lkX12, rfl, (fun i r ci h => by cases h), xs_thrB_ok fX12_isLodger⟩
theorem vX12_isTick : xs_MV zcl zEX zSTR zWS zK zPI qX12_isTick (yX12_isTick, cX12_isTick, (some .boolean), []) := ⟨by decide +kernel, by decide, xs_decB_ok eX12_isTick, rfl, lkX12, rfl, (fun i r ci h => by cases h), xs_thrB_ok fX12_isTick⟩
theorem vX12_atHome : xs_MV zcl zEX zSTR zWS zK zPI qX12_atHome (yX12_atHome, cX12_atHome, (some .boolean), []) := ⟨by decide +kernel, by decide, xs_decB_ok eX12_atHome, rfl, lkX12, rfl, (fun i r ci h => by cases h), xs_thrB_ok fX12_atHome⟩
theorem vX12_homeIn : xs_MV zcl zEX zSTR zWS zK zPI qX12_homeIn (yX12_homeIn, cX12_homeIn, (some .int), []) := ⟨by decide +kernel, by decide, xs_decB_ok eX12_homeIn, rfl, lkX12, rfl, (fun i r ci h => by cases h), xs_thrB_ok fX12_homeIn⟩
theorem vX12_burnsOf : xs_MV zcl zEX zSTR zWS zK zPI qX12_burnsOf (yX12_burnsOf, cX12_burnsOf, (some .int), []) := ⟨by decide +kernel, by decide, xs_decB_ok eX12_burnsOf, rfl, lkX12, rfl, (fun i r ci h => by cases h), xs_thrB_ok fX12_burnsOf⟩
theorem vX12_needsIn : xs_MV zcl zEX zSTR zWS zK zPI qX12_needsIn (yX12_needsIn, cX12_needsIn, (some .int), []) := ⟨by decide +kernel, by decide, xs_decB_ok eX12_needsIn, rfl, lkX12, rfl, (fun i r ci h => by cases h), xs_thrB_ok fX12_needsIn⟩
theorem vX12_hoursOf : xs_MV zcl zEX zSTR zWS zK zPI qX12_hoursOf (yX12_hoursOf, cX12_hoursOf, (some .int), []) := ⟨by decide +kernel, by decide, xs_decB_ok eX12_hoursOf, rfl, lkX12, rfl, (fun i r ci h => by cases h), xs_thrB_ok fX12_hoursOf⟩
theorem vX12_all : xs_MV zcl zEX zSTR zWS zK zPI qX12_all (yX12_all, cX12_all, (some .int), []) := ⟨by decide +kernel, by decide, xs_decB_ok eX12_all, rfl, lkX12, rfl, (fun i r ci h => by cases h), xs_thrB_ok fX12_all⟩
theorem vX12_feed : xs_MV zcl zEX zSTR zWS zK zPI qX12_feed (yX12_feed, cX12_feed, (some .int), []) := ⟨by decide +kernel, by decide, xs_decB_ok eX12_feed, rfl, lkX12, rfl, (fun i r ci h => by cases h), xs_thrB_ok fX12_feed⟩
theorem vX12_end : xs_MV zcl zEX zSTR zWS zK zPI qX12_end (yX12_end, cX12_end, (some .boolean), []) := ⟨by decide +kernel, by decide, xs_decB_ok eX12_end, rfl, lkX12, rfl, (fun i r ci h => by cases h), xs_thrB_ok fX12_end⟩
theorem vX12_letter : xs_MV zcl zEX zSTR zWS zK zPI qX12_letter (yX12_letter, cX12_letter, (some .int), []) := ⟨by decide +kernel, by decide, xs_decB_ok eX12_letter, rfl, lkX12, rfl, (fun i r ci h => by cases h), xs_thrB_ok fX12_letter⟩
theorem vX12_skip : xs_MV zcl zEX zSTR zWS zK zPI qX12_skip (yX12_skip, cX12_skip, none, []) := ⟨by decide +kernel, by decide, xs_decB_ok eX12_skip, rfl, lkX12, rfl, (fun i r ci h => by cases h), xs_thrB_ok fX12_skip⟩
theorem vX12_isSign : xs_MV zcl zEX zSTR zWS zK zPI qX12_isSign (yX12_isSign, cX12_isSign, (some .boolean), []) := ⟨by decide +kernel, by decide, xs_decB_ok eX12_isSign, rfl, lkX12, rfl, (fun i r ci h => by cases h), xs_thrB_ok fX12_isSign⟩
theorem vX12_has : xs_MV zcl zEX zSTR zWS zK zPI qX12_has (yX12_has, cX12_has, (some .boolean), []) := ⟨by decide +kernel, by decide, xs_decB_ok eX12_has, rfl, lkX12, rfl, (fun i r ci h => by cases h), xs_thrB_ok fX12_has⟩
theorem vX12_wrong : xs_MV zcl zEX zSTR zWS zK zPI qX12_wrong (yX12_wrong, cX12_wrong, none, []) := ⟨by decide +kernel, by decide, xs_decB_ok eX12_wrong, rfl, lkX12, rfl, (fun i r ci h => by cases h), xs_thrB_ok fX12_wrong⟩
theorem vX12_here : xs_MV zcl zEX zSTR zWS zK zPI qX12_here (yX12_here, cX12_here, (some .int), []) := ⟨by decide +kernel, by decide, xs_decB_ok eX12_here, rfl, lkX12, rfl, (fun i r ci h => by cases h), xs_thrB_ok fX12_here⟩
theorem vX12_figures : xs_MV zcl zEX zSTR zWS zK zPI qX12_figures (yX12_figures, cX12_figures, (some .int), []) := ⟨by decide +kernel, by decide, xs_decB_ok eX12_figures, rfl, lkX12, rfl, (fun i r ci h => by cases h), xs_thrB_ok fX12_figures⟩
theorem vX12_behind : xs_MV zcl zEX zSTR zWS zK zPI qX12_behind (yX12_behind, cX12_behind, (some .int), []) := ⟨by decide +kernel, by decide, xs_decB_ok eX12_behind, rfl, lkX12, rfl, (fun i r ci h => by cases h), xs_thrB_ok fX12_behind⟩
theorem vX12_maybe : xs_MV zcl zEX zSTR zWS zK zPI qX12_maybe (yX12_maybe, cX12_maybe, (some .int), []) := ⟨by decide +kernel, by decide, xs_decB_ok eX12_maybe, rfl, lkX12, rfl, (fun i r ci h => by cases h), xs_thrB_ok fX12_maybe⟩
theorem vX12_lodgerLine : xs_MV zcl zEX zSTR zWS zK zPI qX12_lodgerLine (yX12_lodgerLine, cX12_lodgerLine, none, []) := ⟨by decide +kernel, by decide, xs_decB_ok eX12_lodgerLine, rfl, lkX12, rfl, (fun i r ci h => by cases h), xs_thrB_ok fX12_lodgerLine⟩
theorem vX12_owesLine : xs_MV zcl zEX zSTR zWS zK zPI qX12_owesLine (yX12_owesLine, cX12_owesLine, none, []) := ⟨by decide +kernel, by decide, xs_decB_ok eX12_owesLine, rfl, lkX12, rfl, (fun i r ci h => by cases h), xs_thrB_ok fX12_owesLine⟩
theorem vX12_tells : xs_MV zcl zEX zSTR zWS zK zPI qX12_tells (yX12_tells, cX12_tells, none, []) := ⟨by decide +kernel, by decide, xs_decB_ok eX12_tells, rfl, lkX12, rfl, (fun i r ci h => by cases h), xs_thrB_ok fX12_tells⟩
theorem vX12_houseLine : xs_MV zcl zEX zSTR zWS zK zPI qX12_houseLine (yX12_houseLine, cX12_houseLine, none, []) := ⟨by decide +kernel, by decide, xs_decB_ok eX12_houseLine, rfl, lkX12, rfl, (fun i r ci h => by cases h), xs_thrB_ok fX12_houseLine⟩
theorem vX12_begins : xs_MV zcl zEX zSTR zWS zK zPI qX12_begins (yX12_begins, cX12_begins, none, []) := ⟨by decide +kernel, by decide, xs_decB_ok eX12_begins, rfl, lkX12, rfl, (fun i r ci h => by cases h), xs_thrB_ok fX12_begins⟩
theorem vX12_read : xs_MV zcl zEX zSTR zWS zK zPI qX12_read (yX12_read, cX12_read, (some .int), []) := ⟨by decide +kernel, by decide, xs_decB_ok eX12_read, rfl, lkX12, rfl, (fun i r ci h => by cases h), xs_thrB_ok fX12_read⟩
theorem vX12_putsAside : xs_MV zcl zEX zSTR zWS zK zPI qX12_putsAside (yX12_putsAside, cX12_putsAside, none, []) := ⟨by decide +kernel, by decide, xs_decB_ok eX12_putsAside, rfl, lkX12, rfl, (fun i r ci h => by cases h), xs_thrB_ok fX12_putsAside⟩
theorem vX12_comesBack : xs_MV zcl zEX zSTR zWS zK zPI qX12_comesBack (yX12_comesBack, cX12_comesBack, none, []) := ⟨by decide +kernel, by decide, xs_decB_ok eX12_comesBack, rfl, lkX12, rfl, (fun i r ci h => by cases h), xs_thrB_ok fX12_comesBack⟩
theorem vX12_house : xs_MV zcl zEX zSTR zWS zK zPI qX12_house (yX12_house, cX12_house, (some .int), []) := ⟨by decide +kernel, by decide, xs_decB_ok eX12_house, rfl, lkX12, rfl, (fun i r ci h => by cases h), xs_thrB_ok fX12_house⟩
theorem vX12_part : xs_MV zcl zEX zSTR zWS zK zPI qX12_part (yX12_part, cX12_part, (some .int), []) := ⟨by decide +kernel, by decide, xs_decB_ok eX12_part, rfl, lkX12, rfl, (fun i r ci h => by cases h), xs_thrB_ok fX12_part⟩
theorem vX12_sum : xs_MV zcl zEX zSTR zWS zK zPI qX12_sum (yX12_sum, cX12_sum, (some .int), []) := ⟨by decide +kernel, by decide, xs_decB_ok eX12_sum, rfl, lkX12, rfl, (fun i r ci h => by cases h), xs_thrB_ok fX12_sum⟩
theorem vX12_plain : xs_MV zcl zEX zSTR zWS zK zPI qX12_plain (yX12_plain, cX12_plain, (some .boolean), []) := ⟨by decide +kernel, by decide, xs_decB_ok eX12_plain, rfl, lkX12, rfl, (fun i r ci h => by cases h), xs_thrB_ok fX12_plain⟩
theorem vX12_atom : xs_MV zcl zEX zSTR zWS zK zPI qX12_atom (yX12_atom, cX12_atom, (some .boolean), []) := ⟨by decide +kernel, by decide, xs_decB_ok eX12_atom, rfl, lkX12, rfl, (fun i r ci h => by cases h), xs_thrB_ok fX12_atom⟩
theorem vX12_every : xs_MV zcl zEX zSTR zWS zK zPI qX12_every (yX12_every, cX12_every, (some .boolean), []) := ⟨by decide +kernel, by decide, xs_decB_ok eX12_every, rfl, lkX12, rfl, (fun i r ci h => by cases h), xs_thrB_ok fX12_every⟩
theorem vX12_some : xs_MV zcl zEX zSTR zWS zK zPI qX12_some (yX12_some, cX12_some, (some .boolean), []) := ⟨by decide +kernel, by decide, xs_decB_ok eX12_some, rfl, lkX12, rfl, (fun i r ci h => by cases h), xs_thrB_ok fX12_some⟩
theorem vX12_lawLine : xs_MV zcl zEX zSTR zWS zK zPI qX12_lawLine (yX12_lawLine, cX12_lawLine, none, []) := ⟨by decide +kernel, by decide, xs_decB_ok eX12_lawLine, rfl, lkX12, rfl, (fun i r ci h => by cases h), xs_thrB_ok fX12_lawLine⟩
theorem vX12_law : xs_MV zcl zEX zSTR zWS zK zPI qX12_law (yX12_law, cX12_law, (some .int), []) := ⟨by decide +kernel, by decide, xs_decB_ok eX12_law, rfl, lkX12, rfl, (fun i r ci h => by cases h), xs_thrB_ok fX12_law⟩
theorem vX12_fault : xs_MV zcl zEX zSTR zWS zK zPI qX12_fault (yX12_fault, cX12_fault, (some .int), []) := ⟨by decide +kernel, by decide, xs_decB_ok eX12_fault, rfl, lkX12, rfl, (fun i r ci h => by cases h), xs_thrB_ok fX12_fault⟩
theorem vX12_asks : xs_MV zcl zEX zSTR zWS zK zPI qX12_asks (yX12_asks, cX12_asks, none, []) := ⟨by decide +kernel, by decide, xs_decB_ok eX12_asks, rfl, lkX12, rfl, (fun i r ci h => by cases h), xs_thrB_ok fX12_asks⟩
theorem vX12_draw : xs_MV zcl zEX zSTR zWS zK zPI qX12_draw (yX12_draw, cX12_draw, (some .int), []) := ⟨by decide +kernel, by decide, xs_decB_ok eX12_draw, rfl, lkX12, rfl, (fun i r ci h => by cases h), xs_thrB_ok fX12_draw⟩
theorem vX12_logs : xs_MV zcl zEX zSTR zWS zK zPI qX12_logs (yX12_logs, cX12_logs, none, []) := ⟨by decide +kernel, by decide, xs_decB_ok eX12_logs, rfl, lkX12, rfl, (fun i r ci h => by cases h), xs_thrB_ok fX12_logs⟩
theorem vX12_feeds : xs_MV zcl zEX zSTR zWS zK zPI qX12_feeds (yX12_feeds, cX12_feeds, none, []) := ⟨by decide +kernel, by decide, xs_decB_ok eX12_feeds, rfl, lkX12, rfl, (fun i r ci h => by cases h), xs_thrB_ok fX12_feeds⟩
theorem vX12_isLit : xs_MV zcl zEX zSTR zWS zK zPI qX12_isLit (yX12_isLit, cX12_isLit, none, []) := ⟨by decide +kernel, by decide, xs_decB_ok eX12_isLit, rfl, lkX12, rfl, (fun i r ci h => by cases h), xs_thrB_ok fX12_isLit⟩
theorem vX12_isDark : xs_MV zcl zEX zSTR zWS zK zPI qX12_isDark (yX12_isDark, cX12_isDark, none, []) := ⟨by decide +kernel, by decide, xs_decB_ok eX12_isDark, rfl, lkX12, rfl, (fun i r ci h => by cases h), xs_thrB_ok fX12_isDark⟩
theorem vX12_whoFeeds : xs_MV zcl zEX zSTR zWS zK zPI qX12_whoFeeds (yX12_whoFeeds, cX12_whoFeeds, (some .int), []) := ⟨by decide +kernel, by decide, xs_decB_ok eX12_whoFeeds, rfl, lkX12, rfl, (fun i r ci h => by cases h), xs_thrB_ok fX12_whoFeeds⟩
theorem vX12_passes : xs_MV zcl zEX zSTR zWS zK zPI qX12_passes (yX12_passes, cX12_passes, (some .boolean), []) := ⟨by decide +kernel, by decide, xs_decB_ok eX12_passes, rfl, lkX12, rfl, (fun i r ci h => by cases h), xs_thrB_ok fX12_passes⟩
theorem vX12_goes : xs_MV zcl zEX zSTR zWS zK zPI qX12_goes (yX12_goes, cX12_goes, (some .int), []) := ⟨by decide +kernel, by decide, xs_decB_ok eX12_goes, rfl, lkX12, rfl, (fun i r ci h => by cases h), xs_thrB_ok fX12_goes⟩
theorem vX12_fedOf : xs_MV zcl zEX zSTR zWS zK zPI qX12_fedOf (yX12_fedOf, cX12_fedOf, (some .int), []) := ⟨by decide +kernel, by decide, xs_decB_ok eX12_fedOf, rfl, lkX12, rfl, (fun i r ci h => by cases h), xs_thrB_ok fX12_fedOf⟩
theorem vX12_coldOfAll : xs_MV zcl zEX zSTR zWS zK zPI qX12_coldOfAll (yX12_coldOfAll, cX12_coldOfAll, (some .int), []) := ⟨by decide +kernel, by decide, xs_decB_ok eX12_coldOfAll, rfl, lkX12, rfl, (fun i r ci h => by cases h), xs_thrB_ok fX12_coldOfAll⟩
theorem vX12_metered : xs_MV zcl zEX zSTR zWS zK zPI qX12_metered (yX12_metered, cX12_metered, (some .int), []) := ⟨by decide +kernel, by decide, xs_decB_ok eX12_metered, rfl, lkX12, rfl, (fun i r ci h => by cases h), xs_thrB_ok fX12_metered⟩
theorem vX12_lodger : xs_MV zcl zEX zSTR zWS zK zPI qX12_lodger (yX12_lodger, cX12_lodger, (some .int), []) := ⟨by decide +kernel, by decide, xs_decB_ok eX12_lodger, rfl, lkX12, rfl, (fun i r ci h => by cases h), xs_thrB_ok fX12_lodger⟩
theorem vX12_areTwo : xs_MV zcl zEX zSTR zWS zK zPI qX12_areTwo (yX12_areTwo, cX12_areTwo, none, []) := ⟨by decide +kernel, by decide, xs_decB_ok eX12_areTwo, rfl, lkX12, rfl, (fun i r ci h => by cases h), xs_thrB_ok fX12_areTwo⟩
theorem vX12_owes : xs_MV zcl zEX zSTR zWS zK zPI qX12_owes (yX12_owes, cX12_owes, (some .int), []) := ⟨by decide +kernel, by decide, xs_decB_ok eX12_owes, rfl, lkX12, rfl, (fun i r ci h => by cases h), xs_thrB_ok fX12_owes⟩
theorem vX12_isHome : xs_MV zcl zEX zSTR zWS zK zPI qX12_isHome (yX12_isHome, cX12_isHome, (some .boolean), []) := ⟨by decide +kernel, by decide, xs_decB_ok eX12_isHome, rfl, lkX12, rfl, (fun i r ci h => by cases h), xs_thrB_ok fX12_isHome⟩
theorem vX12_needs : xs_MV zcl zEX zSTR zWS zK zPI qX12_needs (yX12_needs, cX12_needs, (some .int), []) := ⟨by decide +kernel, by decide, xs_decB_ok eX12_needs, rfl, lkX12, rfl, (fun i r ci h => by cases h), xs_thrB_ok fX12_needs⟩
theorem vX12_remembers : xs_MV zcl zEX zSTR zWS zK zPI qX12_remembers (yX12_remembers, cX12_remembers, none, []) := ⟨by decide +kernel, by decide, xs_decB_ok eX12_remembers, rfl, lkX12, rfl, (fun i r ci h => by cases h), xs_thrB_ok fX12_remembers⟩
theorem vX12_sets : xs_MV zcl zEX zSTR zWS zK zPI qX12_sets (yX12_sets, cX12_sets, (some .int), []) := ⟨by decide +kernel, by decide, xs_decB_ok eX12_sets, rfl, lkX12, rfl, (fun i r ci h => by cases h), xs_thrB_ok fX12_sets⟩
theorem vX12_ticks : xs_MV zcl zEX zSTR zWS zK zPI qX12_ticks (yX12_ticks, cX12_ticks, (some .int), []) := ⟨by decide +kernel, by decide, xs_decB_ok eX12_ticks, rfl, lkX12, rfl, (fun i r ci h => by cases h), xs_thrB_ok fX12_ticks⟩
theorem vX12_put : xs_MV zcl zEX zSTR zWS zK zPI qX12_put (yX12_put, cX12_put, (some .int), []) := ⟨by decide +kernel, by decide, xs_decB_ok eX12_put, rfl, lkX12, rfl, (fun i r ci h => by cases h), xs_thrB_ok fX12_put⟩
theorem vX12_lend : xs_MV zcl zEX zSTR zWS zK zPI qX12_lend (yX12_lend, cX12_lend, (some .int), []) := ⟨by decide +kernel, by decide, xs_decB_ok eX12_lend, rfl, lkX12, rfl, (fun i r ci h => by cases h), xs_thrB_ok fX12_lend⟩
theorem vX12_repay : xs_MV zcl zEX zSTR zWS zK zPI qX12_repay (yX12_repay, cX12_repay, (some .int), []) := ⟨by decide +kernel, by decide, xs_decB_ok eX12_repay, rfl, lkX12, rfl, (fun i r ci h => by cases h), xs_thrB_ok fX12_repay⟩
theorem vX12_waits : xs_MV zcl zEX zSTR zWS zK zPI qX12_waits (yX12_waits, cX12_waits, (some .int), []) := ⟨by decide +kernel, by decide, xs_decB_ok eX12_waits, rfl, lkX12, rfl, (fun i r ci h => by cases h), xs_thrB_ok fX12_waits⟩
theorem vX12_price : xs_MV zcl zEX zSTR zWS zK zPI qX12_price (yX12_price, cX12_price, (some .int), []) := ⟨by decide +kernel, by decide, xs_decB_ok eX12_price, rfl, lkX12, rfl, (fun i r ci h => by cases h), xs_thrB_ok fX12_price⟩
theorem vX12_rooms : xs_MV zcl zEX zSTR zWS zK zPI qX12_rooms (yX12_rooms, cX12_rooms, none, []) := ⟨by decide +kernel, by decide, xs_decB_ok eX12_rooms, rfl, lkX12, rfl, (fun i r ci h => by cases h), xs_thrB_ok fX12_rooms⟩
theorem vX12_change : xs_MV zcl zEX zSTR zWS zK zPI qX12_change (yX12_change, cX12_change, (some .int), []) := ⟨by decide +kernel, by decide, xs_decB_ok eX12_change, rfl, lkX12, rfl, (fun i r ci h => by cases h), xs_thrB_ok fX12_change⟩
theorem vX12_home : xs_MV zcl zEX zSTR zWS zK zPI qX12_home (yX12_home, cX12_home, (some .int), []) := ⟨by decide +kernel, by decide, xs_decB_ok eX12_home, rfl, lkX12, rfl, (fun i r ci h => by cases h), xs_thrB_ok fX12_home⟩
theorem vX12_empty : xs_MV zcl zEX zSTR zWS zK zPI qX12_empty (yX12_empty, cX12_empty, (some .int), []) := ⟨by decide +kernel, by decide, xs_decB_ok eX12_empty, rfl, lkX12, rfl, (fun i r ci h => by cases h), xs_thrB_ok fX12_empty⟩
theorem vX12_inside : xs_MV zcl zEX zSTR zWS zK zPI qX12_inside (yX12_inside, cX12_inside, (some .int), []) := ⟨by decide +kernel, by decide, xs_decB_ok eX12_inside, rfl, lkX12, rfl, (fun i r ci h => by cases h), xs_thrB_ok fX12_inside⟩
theorem vX12_firstDark : xs_MV zcl zEX zSTR zWS zK zPI qX12_firstDark (yX12_firstDark, cX12_firstDark, (some .int), []) := ⟨by decide +kernel, by decide, xs_decB_ok eX12_firstDark, rfl, lkX12, rfl, (fun i r ci h => by cases h), xs_thrB_ok fX12_firstDark⟩
theorem vX12_lasts : xs_MV zcl zEX zSTR zWS zK zPI qX12_lasts (yX12_lasts, cX12_lasts, (some .int), []) := ⟨by decide +kernel, by decide, xs_decB_ok eX12_lasts, rfl, lkX12, rfl, (fun i r ci h => by cases h), xs_thrB_ok fX12_lasts⟩
theorem vX12_out : xs_MV zcl zEX zSTR zWS zK zPI qX12_out (yX12_out, cX12_out, (some .int), []) := ⟨by decide +kernel, by decide, xs_decB_ok eX12_out, rfl, lkX12, rfl, (fun i r ci h => by cases h), xs_thrB_ok fX12_out⟩
theorem vX12_feeder : xs_MV zcl zEX zSTR zWS zK zPI qX12_feeder (yX12_feeder, cX12_feeder, (some .int), []) := ⟨by decide +kernel, by decide, xs_decB_ok eX12_feeder, rfl, lkX12, rfl, (fun i r ci h => by cases h), xs_thrB_ok fX12_feeder⟩
theorem vX12_keepsColds : xs_MV zcl zEX zSTR zWS zK zPI qX12_keepsColds (yX12_keepsColds, cX12_keepsColds, none, []) := ⟨by decide +kernel, by decide, xs_decB_ok eX12_keepsColds, rfl, lkX12, rfl, (fun i r ci h => by cases h), xs_thrB_ok fX12_keepsColds⟩
theorem vX12_colder : xs_MV zcl zEX zSTR zWS zK zPI qX12_colder (yX12_colder, cX12_colder, (some .int), []) := ⟨by decide +kernel, by decide, xs_decB_ok eX12_colder, rfl, lkX12, rfl, (fun i r ci h => by cases h), xs_thrB_ok fX12_colder⟩
theorem vX12_shiver : xs_MV zcl zEX zSTR zWS zK zPI qX12_shiver (yX12_shiver, cX12_shiver, (some .int), []) := ⟨by decide +kernel, by decide, xs_decB_ok eX12_shiver, rfl, lkX12, rfl, (fun i r ci h => by cases h), xs_thrB_ok fX12_shiver⟩
theorem vX12_after : xs_MV zcl zEX zSTR zWS zK zPI qX12_after (yX12_after, cX12_after, (some .int), []) := ⟨by decide +kernel, by decide, xs_decB_ok eX12_after, rfl, lkX12, rfl, (fun i r ci h => by cases h), xs_thrB_ok fX12_after⟩
theorem vX12_coins : xs_MV zcl zEX zSTR zWS zK zPI qX12_coins (yX12_coins, cX12_coins, (some .int), []) := ⟨by decide +kernel, by decide, xs_decB_ok eX12_coins, rfl, lkX12, rfl, (fun i r ci h => by cases h), xs_thrB_ok fX12_coins⟩
theorem vX12_ease : xs_MV zcl zEX zSTR zWS zK zPI qX12_ease (yX12_ease, cX12_ease, (some .int), []) := ⟨by decide +kernel, by decide, xs_decB_ok eX12_ease, rfl, lkX12, rfl, (fun i r ci h => by cases h), xs_thrB_ok fX12_ease⟩
theorem vX12_grieves : xs_MV zcl zEX zSTR zWS zK zPI qX12_grieves (yX12_grieves, cX12_grieves, none, []) := ⟨by decide +kernel, by decide, xs_decB_ok eX12_grieves, rfl, lkX12, rfl, (fun i r ci h => by cases h), xs_thrB_ok fX12_grieves⟩
theorem vX12_griefOf : xs_MV zcl zEX zSTR zWS zK zPI qX12_griefOf (yX12_griefOf, cX12_griefOf, (some .int), []) := ⟨by decide +kernel, by decide, xs_decB_ok eX12_griefOf, rfl, lkX12, rfl, (fun i r ci h => by cases h), xs_thrB_ok fX12_griefOf⟩
theorem vX12_bestOf : xs_MV zcl zEX zSTR zWS zK zPI qX12_bestOf (yX12_bestOf, cX12_bestOf, (some .int), []) := ⟨by decide +kernel, by decide, xs_decB_ok eX12_bestOf, rfl, lkX12, rfl, (fun i r ci h => by cases h), xs_thrB_ok fX12_bestOf⟩
theorem vX12_grief : xs_MV zcl zEX zSTR zWS zK zPI qX12_grief (yX12_grief, cX12_grief, (some .int), []) := ⟨by decide +kernel, by decide, xs_decB_ok eX12_grief, rfl, lkX12, rfl, (fun i r ci h => by cases h), xs_thrB_ok fX12_grief⟩
theorem vX12_restless : xs_MV zcl zEX zSTR zWS zK zPI qX12_restless (yX12_restless, cX12_restless, (some .int), []) := ⟨by decide +kernel, by decide, xs_decB_ok eX12_restless, rfl, lkX12, rfl, (fun i r ci h => by cases h), xs_thrB_ok fX12_restless⟩
theorem vX12_saint : xs_MV zcl zEX zSTR zWS zK zPI qX12_saint (yX12_saint, cX12_saint, (some .int), []) := ⟨by decide +kernel, by decide, xs_decB_ok eX12_saint, rfl, lkX12, rfl, (fun i r ci h => by cases h), xs_thrB_ok fX12_saint⟩
theorem vX12_fair : xs_MV zcl zEX zSTR zWS zK zPI qX12_fair (yX12_fair, cX12_fair, (some .int), []) := ⟨by decide +kernel, by decide, xs_decB_ok eX12_fair, rfl, lkX12, rfl, (fun i r ci h => by cases h), xs_thrB_ok fX12_fair⟩
theorem vX12_topsOf : xs_MV zcl zEX zSTR zWS zK zPI qX12_topsOf (yX12_topsOf, cX12_topsOf, (some .int), []) := ⟨by decide +kernel, by decide, xs_decB_ok eX12_topsOf, rfl, lkX12, rfl, (fun i r ci h => by cases h), xs_thrB_ok fX12_topsOf⟩
theorem vX12_tops : xs_MV zcl zEX zSTR zWS zK zPI qX12_tops (yX12_tops, cX12_tops, (some .int), []) := ⟨by decide +kernel, by decide, xs_decB_ok eX12_tops, rfl, lkX12, rfl, (fun i r ci h => by cases h), xs_thrB_ok fX12_tops⟩
theorem vX12_stand : xs_MV zcl zEX zSTR zWS zK zPI qX12_stand (yX12_stand, cX12_stand, (some .int), []) := ⟨by decide +kernel, by decide, xs_decB_ok eX12_stand, rfl, lkX12, rfl, (fun i r ci h => by cases h), xs_thrB_ok fX12_stand⟩
theorem vX12_byPrice : xs_MV zcl zEX zSTR zWS zK zPI qX12_byPrice (yX12_byPrice, cX12_byPrice, (some .int), []) := ⟨by decide +kernel, by decide, xs_decB_ok eX12_byPrice, rfl, lkX12, rfl, (fun i r ci h => by cases h), xs_thrB_ok fX12_byPrice⟩
theorem vX12_dear : xs_MV zcl zEX zSTR zWS zK zPI qX12_dear (yX12_dear, cX12_dear, (some .int), []) := ⟨by decide +kernel, by decide, xs_decB_ok eX12_dear, rfl, lkX12, rfl, (fun i r ci h => by cases h), xs_thrB_ok fX12_dear⟩
theorem vX12_earns : xs_MV zcl zEX zSTR zWS zK zPI qX12_earns (yX12_earns, cX12_earns, (some .int), []) := ⟨by decide +kernel, by decide, xs_decB_ok eX12_earns, rfl, lkX12, rfl, (fun i r ci h => by cases h), xs_thrB_ok fX12_earns⟩
theorem vX12_areRows : xs_MV zcl zEX zSTR zWS zK zPI qX12_areRows (yX12_areRows, cX12_areRows, (some .boolean), []) := ⟨by decide +kernel, by decide, xs_decB_ok eX12_areRows, rfl, lkX12, rfl, (fun i r ci h => by cases h), xs_thrB_ok fX12_areRows⟩
theorem vX12_heard : xs_MV zcl zEX zSTR zWS zK zPI qX12_heard (yX12_heard, cX12_heard, (some .int), []) := ⟨by decide +kernel, by decide, xs_decB_ok eX12_heard, rfl, lkX12, rfl, (fun i r ci h => by cases h), xs_thrB_ok fX12_heard⟩
theorem vX12_culprit : xs_MV zcl zEX zSTR zWS zK zPI qX12_culprit (yX12_culprit, cX12_culprit, (some .int), []) := ⟨by decide +kernel, by decide, xs_decB_ok eX12_culprit, rfl, lkX12, rfl, (fun i r ci h => by cases h), xs_thrB_ok fX12_culprit⟩
theorem vX12_ask : xs_MV zcl zEX zSTR zWS zK zPI qX12_ask (yX12_ask, cX12_ask, (some .int), []) := ⟨by decide +kernel, by decide, xs_decB_ok eX12_ask, rfl, lkX12, rfl, (fun i r ci h => by cases h), xs_thrB_ok fX12_ask⟩
theorem vX12_drawn : xs_MV zcl zEX zSTR zWS zK zPI qX12_drawn (yX12_drawn, cX12_drawn, (some .int), []) := ⟨by decide +kernel, by decide, xs_decB_ok eX12_drawn, rfl, lkX12, rfl, (fun i r ci h => by cases h), xs_thrB_ok fX12_drawn⟩
theorem vX12_warmer : xs_MV zcl zEX zSTR zWS zK zPI qX12_warmer (yX12_warmer, cX12_warmer, (some .boolean), []) := ⟨by decide +kernel, by decide, xs_decB_ok eX12_warmer, rfl, lkX12, rfl, (fun i r ci h => by cases h), xs_thrB_ok fX12_warmer⟩
theorem vX12_together : xs_MV zcl zEX zSTR zWS zK zPI qX12_together (yX12_together, cX12_together, (some .int), []) := ⟨by decide +kernel, by decide, xs_decB_ok eX12_together, rfl, lkX12, rfl, (fun i r ci h => by cases h), xs_thrB_ok fX12_together⟩
theorem vX12_lowest : xs_MV zcl zEX zSTR zWS zK zPI qX12_lowest (yX12_lowest, cX12_lowest, (some .int), []) := ⟨by decide +kernel, by decide, xs_decB_ok eX12_lowest, rfl, lkX12, rfl, (fun i r ci h => by cases h), xs_thrB_ok fX12_lowest⟩
theorem vX12_allBest : xs_MV zcl zEX zSTR zWS zK zPI qX12_allBest (yX12_allBest, cX12_allBest, none, []) := ⟨by decide +kernel, by decide, xs_decB_ok eX12_allBest, rfl, lkX12, rfl, (fun i r ci h => by cases h), xs_thrB_ok fX12_allBest⟩
theorem vX12_pairs : xs_MV zcl zEX zSTR zWS zK zPI qX12_pairs (yX12_pairs, cX12_pairs, (some .int), []) := ⟨by decide +kernel, by decide, xs_decB_ok eX12_pairs, rfl, lkX12, rfl, (fun i r ci h => by cases h), xs_thrB_ok fX12_pairs⟩
theorem vX12_keepers : xs_MV zcl zEX zSTR zWS zK zPI qX12_keepers (yX12_keepers, cX12_keepers, (some .int), []) := ⟨by decide +kernel, by decide, xs_decB_ok eX12_keepers, rfl, lkX12, rfl, (fun i r ci h => by cases h), xs_thrB_ok fX12_keepers⟩
theorem vX12_carries : xs_MV zcl zEX zSTR zWS zK zPI qX12_carries (yX12_carries, cX12_carries, (some .boolean), []) := ⟨by decide +kernel, by decide, xs_decB_ok eX12_carries, rfl, lkX12, rfl, (fun i r ci h => by cases h), xs_thrB_ok fX12_carries⟩
theorem vX12_kettle : xs_MV zcl zEX zSTR zWS zK zPI qX12_kettle (yX12_kettle, cX12_kettle, (some .boolean), []) := ⟨by decide +kernel, by decide, xs_decB_ok eX12_kettle, rfl, lkX12, rfl, (fun i r ci h => by cases h), xs_thrB_ok fX12_kettle⟩
theorem vX12_swingsBy : xs_MV zcl zEX zSTR zWS zK zPI qX12_swingsBy (yX12_swingsBy, cX12_swingsBy, (some .boolean), []) := ⟨by decide +kernel, by decide, xs_decB_ok eX12_swingsBy, rfl, lkX12, rfl, (fun i r ci h => by cases h), xs_thrB_ok fX12_swingsBy⟩
theorem vX12_swingsOf : xs_MV zcl zEX zSTR zWS zK zPI qX12_swingsOf (yX12_swingsOf, cX12_swingsOf, (some .int), []) := ⟨by decide +kernel, by decide, xs_decB_ok eX12_swingsOf, rfl, lkX12, rfl, (fun i r ci h => by cases h), xs_thrB_ok fX12_swingsOf⟩
theorem vX12_swings : xs_MV zcl zEX zSTR zWS zK zPI qX12_swings (yX12_swings, cX12_swings, (some .int), []) := ⟨by decide +kernel, by decide, xs_decB_ok eX12_swings, rfl, lkX12, rfl, (fun i r ci h => by cases h), xs_thrB_ok fX12_swings⟩
theorem vX12_isLeast : xs_MV zcl zEX zSTR zWS zK zPI qX12_isLeast (yX12_isLeast, cX12_isLeast, (some .boolean), []) := ⟨by decide +kernel, by decide, xs_decB_ok eX12_isLeast, rfl, lkX12, rfl, (fun i r ci h => by cases h), xs_thrB_ok fX12_isLeast⟩
theorem vX12_minimal : xs_MV zcl zEX zSTR zWS zK zPI qX12_minimal (yX12_minimal, cX12_minimal, (some .int), []) := ⟨by decide +kernel, by decide, xs_decB_ok eX12_minimal, rfl, lkX12, rfl, (fun i r ci h => by cases h), xs_thrB_ok fX12_minimal⟩
theorem vX12_dummies : xs_MV zcl zEX zSTR zWS zK zPI qX12_dummies (yX12_dummies, cX12_dummies, (some .int), []) := ⟨by decide +kernel, by decide, xs_decB_ok eX12_dummies, rfl, lkX12, rfl, (fun i r ci h => by cases h), xs_thrB_ok fX12_dummies⟩
theorem vX12_net : xs_MV zcl zEX zSTR zWS zK zPI qX12_net (yX12_net, cX12_net, (some .int), []) := ⟨by decide +kernel, by decide, xs_decB_ok eX12_net, rfl, lkX12, rfl, (fun i r ci h => by cases h), xs_thrB_ok fX12_net⟩
theorem vX12_owesOf : xs_MV zcl zEX zSTR zWS zK zPI qX12_owesOf (yX12_owesOf, cX12_owesOf, (some .int), []) := ⟨by decide +kernel, by decide, xs_decB_ok eX12_owesOf, rfl, lkX12, rfl, (fun i r ci h => by cases h), xs_thrB_ok fX12_owesOf⟩
theorem vX12_debt : xs_MV zcl zEX zSTR zWS zK zPI qX12_debt (yX12_debt, cX12_debt, (some .int), []) := ⟨by decide +kernel, by decide, xs_decB_ok eX12_debt, rfl, lkX12, rfl, (fun i r ci h => by cases h), xs_thrB_ok fX12_debt⟩
theorem vX12_ring : xs_MV zcl zEX zSTR zWS zK zPI qX12_ring (yX12_ring, cX12_ring, (some .boolean), []) := ⟨by decide +kernel, by decide, xs_decB_ok eX12_ring, rfl, lkX12, rfl, (fun i r ci h => by cases h), xs_thrB_ok fX12_ring⟩
theorem vX12_poorest : xs_MV zcl zEX zSTR zWS zK zPI qX12_poorest (yX12_poorest, cX12_poorest, (some .int), []) := ⟨by decide +kernel, by decide, xs_decB_ok eX12_poorest, rfl, lkX12, rfl, (fun i r ci h => by cases h), xs_thrB_ok fX12_poorest⟩
theorem vX12_hasBy : xs_MV zcl zEX zSTR zWS zK zPI qX12_hasBy (yX12_hasBy, cX12_hasBy, (some .int), []) := ⟨by decide +kernel, by decide, xs_decB_ok eX12_hasBy, rfl, lkX12, rfl, (fun i r ci h => by cases h), xs_thrB_ok fX12_hasBy⟩
theorem vX12_rests : xs_MV zcl zEX zSTR zWS zK zPI qX12_rests (yX12_rests, cX12_rests, (some .int), []) := ⟨by decide +kernel, by decide, xs_decB_ok eX12_rests, rfl, lkX12, rfl, (fun i r ci h => by cases h), xs_thrB_ok fX12_rests⟩
theorem vX12_odds : xs_MV zcl zEX zSTR zWS zK zPI qX12_odds (yX12_odds, cX12_odds, (some .int), []) := ⟨by decide +kernel, by decide, xs_decB_ok eX12_odds, rfl, lkX12, rfl, (fun i r ci h => by cases h), xs_thrB_ok fX12_odds⟩
theorem vX12_busy : xs_MV zcl zEX zSTR zWS zK zPI qX12_busy (yX12_busy, cX12_busy, (some .int), []) := ⟨by decide +kernel, by decide, xs_decB_ok eX12_busy, rfl, lkX12, rfl, (fun i r ci h => by cases h), xs_thrB_ok fX12_busy⟩
theorem vX12_alone : xs_MV zcl zEX zSTR zWS zK zPI qX12_alone (yX12_alone, cX12_alone, (some .int), []) := ⟨by decide +kernel, by decide, xs_decB_ok eX12_alone, rfl, lkX12, rfl, (fun i r ci h => by cases h), xs_thrB_ok fX12_alone⟩
theorem vX12_miser : xs_MV zcl zEX zSTR zWS zK zPI qX12_miser (yX12_miser, cX12_miser, (some .int), []) := ⟨by decide +kernel, by decide, xs_decB_ok eX12_miser, rfl, lkX12, rfl, (fun i r ci h => by cases h), xs_thrB_ok fX12_miser⟩
theorem vX12_alike : xs_MV zcl zEX zSTR zWS zK zPI qX12_alike (yX12_alike, cX12_alike, (some .int), []) := ⟨by decide +kernel, by decide, xs_decB_ok eX12_alike, rfl, lkX12, rfl, (fun i r ci h => by cases h), xs_thrB_ok fX12_alike⟩
theorem vX12_trial : xs_MV zcl zEX zSTR zWS zK zPI qX12_trial (yX12_trial, cX12_trial, (some .int), []) := ⟨by decide +kernel, by decide, xs_decB_ok eX12_trial, rfl, lkX12, rfl, (fun i r ci h => by cases h), xs_thrB_ok fX12_trial⟩
theorem vX12_span : xs_MV zcl zEX zSTR zWS zK zPI qX12_span (yX12_span, cX12_span, (some .int), []) := ⟨by decide +kernel, by decide, xs_decB_ok eX12_span, rfl, lkX12, rfl, (fun i r ci h => by cases h), xs_thrB_ok fX12_span⟩
theorem vX12_logged : xs_MV zcl zEX zSTR zWS zK zPI qX12_logged (yX12_logged, cX12_logged, (some .int), []) := ⟨by decide +kernel, by decide, xs_decB_ok eX12_logged, rfl, lkX12, rfl, (fun i r ci h => by cases h), xs_thrB_ok fX12_logged⟩
theorem vX12_led : xs_MV zcl zEX zSTR zWS zK zPI qX12_led (yX12_led, cX12_led, (some .int), []) := ⟨by decide +kernel, by decide, xs_decB_ok eX12_led, rfl, lkX12, rfl, (fun i r ci h => by cases h), xs_thrB_ok fX12_led⟩
theorem vX12_log : xs_MV zcl zEX zSTR zWS zK zPI qX12_log (yX12_log, cX12_log, (some .int), []) := ⟨by decide +kernel, by decide, xs_decB_ok eX12_log, rfl, lkX12, rfl, (fun i r ci h => by cases h), xs_thrB_ok fX12_log⟩
theorem vX12_seed : xs_MV zcl zEX zSTR zWS zK zPI qX12_seed (yX12_seed, cX12_seed, (some .int), []) := ⟨by decide +kernel, by decide, xs_decB_ok eX12_seed, rfl, lkX12, rfl, (fun i r ci h => by cases h), xs_thrB_ok fX12_seed⟩
theorem vX12_undo : xs_MV zcl zEX zSTR zWS zK zPI qX12_undo (yX12_undo, cX12_undo, (some .boolean), []) := ⟨by decide +kernel, by decide, xs_decB_ok eX12_undo, rfl, lkX12, rfl, (fun i r ci h => by cases h), xs_thrB_ok fX12_undo⟩
theorem vX12_image : xs_MV zcl zEX zSTR zWS zK zPI qX12_image (yX12_image, cX12_image, none, []) := ⟨by decide +kernel, by decide, xs_decB_ok eX12_image, rfl, lkX12, rfl, (fun i r ci h => by cases h), xs_thrB_ok fX12_image⟩
theorem vX12_back : xs_MV zcl zEX zSTR zWS zK zPI qX12_back (yX12_back, cX12_back, (some .boolean), []) := ⟨by decide +kernel, by decide, xs_decB_ok eX12_back, rfl, lkX12, rfl, (fun i r ci h => by cases h), xs_thrB_ok fX12_back⟩
theorem vX12_count : xs_MV zcl zEX zSTR zWS zK zPI qX12_count (yX12_count, cX12_count, (some .int), []) := ⟨by decide +kernel, by decide, xs_decB_ok eX12_count, rfl, lkX12, rfl, (fun i r ci h => by cases h), xs_thrB_ok fX12_count⟩
theorem vL_house : xs_MV zcl zEX zSTR zWS zK zPI qL_house (yL_house, cL_house, (some .int), [13, 15]) := ⟨by decide +kernel, by decide, xs_decB_ok eL_house, rfl, lkL, rfl, (by
  intro i r ci h1 h2
  match i, h1, h2 with
  | 0, h1, h2 => cases h1; cases h2; exact ⟨by decide, "java/lang/IllegalArgumentException", by decide +kernel, (xs_mw 863 (by decide +kernel) rfl)⟩
  | 1, h1, h2 => cases h1; cases h2; exact ⟨by decide, "java/lang/UnsupportedOperationException", by decide +kernel, (xs_mw 864 (by decide +kernel) rfl)⟩
  | j + 2, h1, h2 => cases h1), xs_thrB_ok fL_house⟩
theorem vL_law : xs_MV zcl zEX zSTR zWS zK zPI qL_law (yL_law, cL_law, (some .int), [13]) := ⟨by decide +kernel, by decide, xs_decB_ok eL_law, rfl, lkL, rfl, (by
  intro i r ci h1 h2
  match i, h1, h2 with
  | 0, h1, h2 => cases h1; cases h2; exact ⟨by decide, "java/lang/IllegalArgumentException", by decide +kernel, (xs_mw 863 (by decide +kernel) rfl)⟩
  | j + 1, h1, h2 => cases h1), xs_thrB_ok fL_law⟩
theorem vL_lodger : xs_MV zcl zEX zSTR zWS zK zPI qL_lodger (yL_lodger, cL_lodger, (some .int), [24, 26]) := ⟨by decide +kernel, by decide, xs_decB_ok eL_lodger, rfl, lkL, rfl, (by
  intro i r ci h1 h2
  match i, h1, h2 with
  | 0, h1, h2 => cases h1; cases h2; exact ⟨by decide, "java/lang/IndexOutOfBoundsException", by decide +kernel, (xs_mw 1145 (by decide +kernel) rfl)⟩
  | 1, h1, h2 => cases h1; cases h2; exact ⟨by decide, "java/util/NoSuchElementException", by decide +kernel, (xs_mw 1146 (by decide +kernel) rfl)⟩
  | j + 2, h1, h2 => cases h1), xs_thrB_ok fL_lodger⟩
theorem vL_owes : xs_MV zcl zEX zSTR zWS zK zPI qL_owes (yL_owes, cL_owes, (some .int), [24, 13]) := ⟨by decide +kernel, by decide, xs_decB_ok eL_owes, rfl, lkL, rfl, (by
  intro i r ci h1 h2
  match i, h1, h2 with
  | 0, h1, h2 => cases h1; cases h2; exact ⟨by decide, "java/lang/IndexOutOfBoundsException", by decide +kernel, (xs_mw 1145 (by decide +kernel) rfl)⟩
  | 1, h1, h2 => cases h1; cases h2; exact ⟨by decide, "java/lang/IllegalArgumentException", by decide +kernel, (xs_mw 863 (by decide +kernel) rfl)⟩
  | j + 2, h1, h2 => cases h1), xs_thrB_ok fL_owes⟩
theorem vL_isHome : xs_MV zcl zEX zSTR zWS zK zPI qL_isHome (yL_isHome, cL_isHome, (some .int), [24]) := ⟨by decide +kernel, by decide, xs_decB_ok eL_isHome, rfl, lkL, rfl, (by
  intro i r ci h1 h2
  match i, h1, h2 with
  | 0, h1, h2 => cases h1; cases h2; exact ⟨by decide, "java/lang/IndexOutOfBoundsException", by decide +kernel, (xs_mw 1145 (by decide +kernel) rfl)⟩
  | j + 1, h1, h2 => cases h1), xs_thrB_ok fL_isHome⟩
theorem vL_needs : xs_MV zcl zEX zSTR zWS zK zPI qL_needs (yL_needs, cL_needs, (some .int), [24]) := ⟨by decide +kernel, by decide, xs_decB_ok eL_needs, rfl, lkL, rfl, (by
  intro i r ci h1 h2
  match i, h1, h2 with
  | 0, h1, h2 => cases h1; cases h2; exact ⟨by decide, "java/lang/IndexOutOfBoundsException", by decide +kernel, (xs_mw 1145 (by decide +kernel) rfl)⟩
  | j + 1, h1, h2 => cases h1), xs_thrB_ok fL_needs⟩
theorem vL_ticks : xs_MV zcl zEX zSTR zWS zK zPI qL_ticks (yL_ticks, cL_ticks, (some .int), [13]) := ⟨by decide +kernel, by decide, xs_decB_ok eL_ticks, rfl, lkL, rfl, (by
  intro i r ci h1 h2
  match i, h1, h2 with
  | 0, h1, h2 => cases h1; cases h2; exact ⟨by decide, "java/lang/IllegalArgumentException", by decide +kernel, (xs_mw 863 (by decide +kernel) rfl)⟩
  | j + 1, h1, h2 => cases h1), xs_thrB_ok fL_ticks⟩
theorem vL_put : xs_MV zcl zEX zSTR zWS zK zPI qL_put (yL_put, cL_put, (some .int), [24, 45]) := ⟨by decide +kernel, by decide, xs_decB_ok eL_put, rfl, lkL, rfl, (by
  intro i r ci h1 h2
  match i, h1, h2 with
  | 0, h1, h2 => cases h1; cases h2; exact ⟨by decide, "java/lang/IndexOutOfBoundsException", by decide +kernel, (xs_mw 1145 (by decide +kernel) rfl)⟩
  | 1, h1, h2 => cases h1; cases h2; exact ⟨by decide, "java/lang/IllegalStateException", by decide +kernel, (xs_mw 1251 (by decide +kernel) rfl)⟩
  | j + 2, h1, h2 => cases h1), xs_thrB_ok fL_put⟩
theorem vL_lend : xs_MV zcl zEX zSTR zWS zK zPI qL_lend (yL_lend, cL_lend, (some .int), [24, 13, 45]) := ⟨by decide +kernel, by decide, xs_decB_ok eL_lend, rfl, lkL, rfl, (by
  intro i r ci h1 h2
  match i, h1, h2 with
  | 0, h1, h2 => cases h1; cases h2; exact ⟨by decide, "java/lang/IndexOutOfBoundsException", by decide +kernel, (xs_mw 1145 (by decide +kernel) rfl)⟩
  | 1, h1, h2 => cases h1; cases h2; exact ⟨by decide, "java/lang/IllegalArgumentException", by decide +kernel, (xs_mw 863 (by decide +kernel) rfl)⟩
  | 2, h1, h2 => cases h1; cases h2; exact ⟨by decide, "java/lang/IllegalStateException", by decide +kernel, (xs_mw 1251 (by decide +kernel) rfl)⟩
  | j + 3, h1, h2 => cases h1), xs_thrB_ok fL_lend⟩
theorem vL_repay : xs_MV zcl zEX zSTR zWS zK zPI qL_repay (yL_repay, cL_repay, (some .int), [24, 13, 45]) := ⟨by decide +kernel, by decide, xs_decB_ok eL_repay, rfl, lkL, rfl, (by
  intro i r ci h1 h2
  match i, h1, h2 with
  | 0, h1, h2 => cases h1; cases h2; exact ⟨by decide, "java/lang/IndexOutOfBoundsException", by decide +kernel, (xs_mw 1145 (by decide +kernel) rfl)⟩
  | 1, h1, h2 => cases h1; cases h2; exact ⟨by decide, "java/lang/IllegalArgumentException", by decide +kernel, (xs_mw 863 (by decide +kernel) rfl)⟩
  | 2, h1, h2 => cases h1; cases h2; exact ⟨by decide, "java/lang/IllegalStateException", by decide +kernel, (xs_mw 1251 (by decide +kernel) rfl)⟩
  | j + 3, h1, h2 => cases h1), xs_thrB_ok fL_repay⟩
theorem vL_waits : xs_MV zcl zEX zSTR zWS zK zPI qL_waits (yL_waits, cL_waits, (some .int), [24, 13]) := ⟨by decide +kernel, by decide, xs_decB_ok eL_waits, rfl, lkL, rfl, (by
  intro i r ci h1 h2
  match i, h1, h2 with
  | 0, h1, h2 => cases h1; cases h2; exact ⟨by decide, "java/lang/IndexOutOfBoundsException", by decide +kernel, (xs_mw 1145 (by decide +kernel) rfl)⟩
  | 1, h1, h2 => cases h1; cases h2; exact ⟨by decide, "java/lang/IllegalArgumentException", by decide +kernel, (xs_mw 863 (by decide +kernel) rfl)⟩
  | j + 2, h1, h2 => cases h1), xs_thrB_ok fL_waits⟩
theorem vL_price : xs_MV zcl zEX zSTR zWS zK zPI qL_price (yL_price, cL_price, (some .int), [13]) := ⟨by decide +kernel, by decide, xs_decB_ok eL_price, rfl, lkL, rfl, (by
  intro i r ci h1 h2
  match i, h1, h2 with
  | 0, h1, h2 => cases h1; cases h2; exact ⟨by decide, "java/lang/IllegalArgumentException", by decide +kernel, (xs_mw 863 (by decide +kernel) rfl)⟩
  | j + 1, h1, h2 => cases h1), xs_thrB_ok fL_price⟩
theorem vL_change : xs_MV zcl zEX zSTR zWS zK zPI qL_change (yL_change, cL_change, (some .int), [24, 13]) := ⟨by decide +kernel, by decide, xs_decB_ok eL_change, rfl, lkL, rfl, (by
  intro i r ci h1 h2
  match i, h1, h2 with
  | 0, h1, h2 => cases h1; cases h2; exact ⟨by decide, "java/lang/IndexOutOfBoundsException", by decide +kernel, (xs_mw 1145 (by decide +kernel) rfl)⟩
  | 1, h1, h2 => cases h1; cases h2; exact ⟨by decide, "java/lang/IllegalArgumentException", by decide +kernel, (xs_mw 863 (by decide +kernel) rfl)⟩
  | j + 2, h1, h2 => cases h1), xs_thrB_ok fL_change⟩
theorem vL_home : xs_MV zcl zEX zSTR zWS zK zPI qL_home (yL_home, cL_home, (some .int), [24]) := ⟨by decide +kernel, by decide, xs_decB_ok eL_home, rfl, lkL, rfl, (by
  intro i r ci h1 h2
  match i, h1, h2 with
  | 0, h1, h2 => cases h1; cases h2; exact ⟨by decide, "java/lang/IndexOutOfBoundsException", by decide +kernel, (xs_mw 1145 (by decide +kernel) rfl)⟩
  | j + 1, h1, h2 => cases h1), xs_thrB_ok fL_home⟩
theorem vL_after : xs_MV zcl zEX zSTR zWS zK zPI qL_after (yL_after, cL_after, (some .int), [24, 13, 26]) := ⟨by decide +kernel, by decide, xs_decB_ok eL_after, rfl, lkL, rfl, (by
  intro i r ci h1 h2
  match i, h1, h2 with
  | 0, h1, h2 => cases h1; cases h2; exact ⟨by decide, "java/lang/IndexOutOfBoundsException", by decide +kernel, (xs_mw 1145 (by decide +kernel) rfl)⟩
  | 1, h1, h2 => cases h1; cases h2; exact ⟨by decide, "java/lang/IllegalArgumentException", by decide +kernel, (xs_mw 863 (by decide +kernel) rfl)⟩
  | 2, h1, h2 => cases h1; cases h2; exact ⟨by decide, "java/util/NoSuchElementException", by decide +kernel, (xs_mw 1146 (by decide +kernel) rfl)⟩
  | j + 3, h1, h2 => cases h1), xs_thrB_ok fL_after⟩
theorem vL_coins : xs_MV zcl zEX zSTR zWS zK zPI qL_coins (yL_coins, cL_coins, (some .int), [13]) := ⟨by decide +kernel, by decide, xs_decB_ok eL_coins, rfl, lkL, rfl, (by
  intro i r ci h1 h2
  match i, h1, h2 with
  | 0, h1, h2 => cases h1; cases h2; exact ⟨by decide, "java/lang/IllegalArgumentException", by decide +kernel, (xs_mw 863 (by decide +kernel) rfl)⟩
  | j + 1, h1, h2 => cases h1), xs_thrB_ok fL_coins⟩
theorem vL_ease : xs_MV zcl zEX zSTR zWS zK zPI qL_ease (yL_ease, cL_ease, (some .int), [13]) := ⟨by decide +kernel, by decide, xs_decB_ok eL_ease, rfl, lkL, rfl, (by
  intro i r ci h1 h2
  match i, h1, h2 with
  | 0, h1, h2 => cases h1; cases h2; exact ⟨by decide, "java/lang/IllegalArgumentException", by decide +kernel, (xs_mw 863 (by decide +kernel) rfl)⟩
  | j + 1, h1, h2 => cases h1), xs_thrB_ok fL_ease⟩
theorem vL_grief : xs_MV zcl zEX zSTR zWS zK zPI qL_grief (yL_grief, cL_grief, (some .int), [24, 13]) := ⟨by decide +kernel, by decide, xs_decB_ok eL_grief, rfl, lkL, rfl, (by
  intro i r ci h1 h2
  match i, h1, h2 with
  | 0, h1, h2 => cases h1; cases h2; exact ⟨by decide, "java/lang/IndexOutOfBoundsException", by decide +kernel, (xs_mw 1145 (by decide +kernel) rfl)⟩
  | 1, h1, h2 => cases h1; cases h2; exact ⟨by decide, "java/lang/IllegalArgumentException", by decide +kernel, (xs_mw 863 (by decide +kernel) rfl)⟩
  | j + 2, h1, h2 => cases h1), xs_thrB_ok fL_grief⟩
theorem vL_saint : xs_MV zcl zEX zSTR zWS zK zPI qL_saint (yL_saint, cL_saint, (some .int), [24]) := ⟨by decide +kernel, by decide, xs_decB_ok eL_saint, rfl, lkL, rfl, (by
  intro i r ci h1 h2
  match i, h1, h2 with
  | 0, h1, h2 => cases h1; cases h2; exact ⟨by decide, "java/lang/IndexOutOfBoundsException", by decide +kernel, (xs_mw 1145 (by decide +kernel) rfl)⟩
  | j + 1, h1, h2 => cases h1), xs_thrB_ok fL_saint⟩
theorem vL_fair : xs_MV zcl zEX zSTR zWS zK zPI qL_fair (yL_fair, cL_fair, (some .int), [24, 13]) := ⟨by decide +kernel, by decide, xs_decB_ok eL_fair, rfl, lkL, rfl, (by
  intro i r ci h1 h2
  match i, h1, h2 with
  | 0, h1, h2 => cases h1; cases h2; exact ⟨by decide, "java/lang/IndexOutOfBoundsException", by decide +kernel, (xs_mw 1145 (by decide +kernel) rfl)⟩
  | 1, h1, h2 => cases h1; cases h2; exact ⟨by decide, "java/lang/IllegalArgumentException", by decide +kernel, (xs_mw 863 (by decide +kernel) rfl)⟩
  | j + 2, h1, h2 => cases h1), xs_thrB_ok fL_fair⟩
theorem vL_stand : xs_MV zcl zEX zSTR zWS zK zPI qL_stand (yL_stand, cL_stand, (some .int), [24]) := ⟨by decide +kernel, by decide, xs_decB_ok eL_stand, rfl, lkL, rfl, (by
  intro i r ci h1 h2
  match i, h1, h2 with
  | 0, h1, h2 => cases h1; cases h2; exact ⟨by decide, "java/lang/IndexOutOfBoundsException", by decide +kernel, (xs_mw 1145 (by decide +kernel) rfl)⟩
  | j + 1, h1, h2 => cases h1), xs_thrB_ok fL_stand⟩
theorem vL_earns : xs_MV zcl zEX zSTR zWS zK zPI qL_earns (yL_earns, cL_earns, (some .int), [13]) := ⟨by decide +kernel, by decide, xs_decB_ok eL_earns, rfl, lkL, rfl, (by
  intro i r ci h1 h2
  match i, h1, h2 with
  | 0, h1, h2 => cases h1; cases h2; exact ⟨by decide, "java/lang/IllegalArgumentException", by decide +kernel, (xs_mw 863 (by decide +kernel) rfl)⟩
  | j + 1, h1, h2 => cases h1), xs_thrB_ok fL_earns⟩
theorem vL_culprit : xs_MV zcl zEX zSTR zWS zK zPI qL_culprit (yL_culprit, cL_culprit, (some .int), [13]) := ⟨by decide +kernel, by decide, xs_decB_ok eL_culprit, rfl, lkL, rfl, (by
  intro i r ci h1 h2
  match i, h1, h2 with
  | 0, h1, h2 => cases h1; cases h2; exact ⟨by decide, "java/lang/IllegalArgumentException", by decide +kernel, (xs_mw 863 (by decide +kernel) rfl)⟩
  | j + 1, h1, h2 => cases h1), xs_thrB_ok fL_culprit⟩
theorem vL_ask : xs_MV zcl zEX zSTR zWS zK zPI qL_ask (yL_ask, cL_ask, (some .int), [13]) := ⟨by decide +kernel, by decide, xs_decB_ok eL_ask, rfl, lkL, rfl, (by
  intro i r ci h1 h2
  match i, h1, h2 with
  | 0, h1, h2 => cases h1; cases h2; exact ⟨by decide, "java/lang/IllegalArgumentException", by decide +kernel, (xs_mw 863 (by decide +kernel) rfl)⟩
  | j + 1, h1, h2 => cases h1), xs_thrB_ok fL_ask⟩
theorem vL_drawn : xs_MV zcl zEX zSTR zWS zK zPI qL_drawn (yL_drawn, cL_drawn, (some .int), [13, 26]) := ⟨by decide +kernel, by decide, xs_decB_ok eL_drawn, rfl, lkL, rfl, (by
  intro i r ci h1 h2
  match i, h1, h2 with
  | 0, h1, h2 => cases h1; cases h2; exact ⟨by decide, "java/lang/IllegalArgumentException", by decide +kernel, (xs_mw 863 (by decide +kernel) rfl)⟩
  | 1, h1, h2 => cases h1; cases h2; exact ⟨by decide, "java/util/NoSuchElementException", by decide +kernel, (xs_mw 1146 (by decide +kernel) rfl)⟩
  | j + 2, h1, h2 => cases h1), xs_thrB_ok fL_drawn⟩
theorem vL_warmer : xs_MV zcl zEX zSTR zWS zK zPI qL_warmer (yL_warmer, cL_warmer, (some .int), [24, 13]) := ⟨by decide +kernel, by decide, xs_decB_ok eL_warmer, rfl, lkL, rfl, (by
  intro i r ci h1 h2
  match i, h1, h2 with
  | 0, h1, h2 => cases h1; cases h2; exact ⟨by decide, "java/lang/IndexOutOfBoundsException", by decide +kernel, (xs_mw 1145 (by decide +kernel) rfl)⟩
  | 1, h1, h2 => cases h1; cases h2; exact ⟨by decide, "java/lang/IllegalArgumentException", by decide +kernel, (xs_mw 863 (by decide +kernel) rfl)⟩
  | j + 2, h1, h2 => cases h1), xs_thrB_ok fL_warmer⟩
theorem vL_pairs : xs_MV zcl zEX zSTR zWS zK zPI qL_pairs (yL_pairs, cL_pairs, (some .int), [24]) := ⟨by decide +kernel, by decide, xs_decB_ok eL_pairs, rfl, lkL, rfl, (by
  intro i r ci h1 h2
  match i, h1, h2 with
  | 0, h1, h2 => cases h1; cases h2; exact ⟨by decide, "java/lang/IndexOutOfBoundsException", by decide +kernel, (xs_mw 1145 (by decide +kernel) rfl)⟩
  | j + 1, h1, h2 => cases h1), xs_thrB_ok fL_pairs⟩
theorem vL_swings : xs_MV zcl zEX zSTR zWS zK zPI qL_swings (yL_swings, cL_swings, (some .int), [24]) := ⟨by decide +kernel, by decide, xs_decB_ok eL_swings, rfl, lkL, rfl, (by
  intro i r ci h1 h2
  match i, h1, h2 with
  | 0, h1, h2 => cases h1; cases h2; exact ⟨by decide, "java/lang/IndexOutOfBoundsException", by decide +kernel, (xs_mw 1145 (by decide +kernel) rfl)⟩
  | j + 1, h1, h2 => cases h1), xs_thrB_ok fL_swings⟩
theorem vL_net : xs_MV zcl zEX zSTR zWS zK zPI qL_net (yL_net, cL_net, (some .int), [24, 13]) := ⟨by decide +kernel, by decide, xs_decB_ok eL_net, rfl, lkL, rfl, (by
  intro i r ci h1 h2
  match i, h1, h2 with
  | 0, h1, h2 => cases h1; cases h2; exact ⟨by decide, "java/lang/IndexOutOfBoundsException", by decide +kernel, (xs_mw 1145 (by decide +kernel) rfl)⟩
  | 1, h1, h2 => cases h1; cases h2; exact ⟨by decide, "java/lang/IllegalArgumentException", by decide +kernel, (xs_mw 863 (by decide +kernel) rfl)⟩
  | j + 2, h1, h2 => cases h1), xs_thrB_ok fL_net⟩
theorem vL_ring : xs_MV zcl zEX zSTR zWS zK zPI qL_ring (yL_ring, cL_ring, (some .int), [24]) := ⟨by decide +kernel, by decide, xs_decB_ok eL_ring, rfl, lkL, rfl, (by
  intro i r ci h1 h2
  match i, h1, h2 with
  | 0, h1, h2 => cases h1; cases h2; exact ⟨by decide, "java/lang/IndexOutOfBoundsException", by decide +kernel, (xs_mw 1145 (by decide +kernel) rfl)⟩
  | j + 1, h1, h2 => cases h1), xs_thrB_ok fL_ring⟩
theorem vL_rests : xs_MV zcl zEX zSTR zWS zK zPI qL_rests (yL_rests, cL_rests, (some .int), [24, 13]) := ⟨by decide +kernel, by decide, xs_decB_ok eL_rests, rfl, lkL, rfl, (by
  intro i r ci h1 h2
  match i, h1, h2 with
  | 0, h1, h2 => cases h1; cases h2; exact ⟨by decide, "java/lang/IndexOutOfBoundsException", by decide +kernel, (xs_mw 1145 (by decide +kernel) rfl)⟩
  | 1, h1, h2 => cases h1; cases h2; exact ⟨by decide, "java/lang/IllegalArgumentException", by decide +kernel, (xs_mw 863 (by decide +kernel) rfl)⟩
  | j + 2, h1, h2 => cases h1), xs_thrB_ok fL_rests⟩
theorem vL_odds : xs_MV zcl zEX zSTR zWS zK zPI qL_odds (yL_odds, cL_odds, (some .int), [13]) := ⟨by decide +kernel, by decide, xs_decB_ok eL_odds, rfl, lkL, rfl, (by
  intro i r ci h1 h2
  match i, h1, h2 with
  | 0, h1, h2 => cases h1; cases h2; exact ⟨by decide, "java/lang/IllegalArgumentException", by decide +kernel, (xs_mw 863 (by decide +kernel) rfl)⟩
  | j + 1, h1, h2 => cases h1), xs_thrB_ok fL_odds⟩
theorem vL_trial : xs_MV zcl zEX zSTR zWS zK zPI qL_trial (yL_trial, cL_trial, (some .int), [13]) := ⟨by decide +kernel, by decide, xs_decB_ok eL_trial, rfl, lkL, rfl, (by
  intro i r ci h1 h2
  match i, h1, h2 with
  | 0, h1, h2 => cases h1; cases h2; exact ⟨by decide, "java/lang/IllegalArgumentException", by decide +kernel, (xs_mw 863 (by decide +kernel) rfl)⟩
  | j + 1, h1, h2 => cases h1), xs_thrB_ok fL_trial⟩
theorem vL_span : xs_MV zcl zEX zSTR zWS zK zPI qL_span (yL_span, cL_span, (some .int), [13]) := ⟨by decide +kernel, by decide, xs_decB_ok eL_span, rfl, lkL, rfl, (by
  intro i r ci h1 h2
  match i, h1, h2 with
  | 0, h1, h2 => cases h1; cases h2; exact ⟨by decide, "java/lang/IllegalArgumentException", by decide +kernel, (xs_mw 863 (by decide +kernel) rfl)⟩
  | j + 1, h1, h2 => cases h1), xs_thrB_ok fL_span⟩
theorem vL_led : xs_MV zcl zEX zSTR zWS zK zPI qL_led (yL_led, cL_led, (some .int), [24]) := ⟨by decide +kernel, by decide, xs_decB_ok eL_led, rfl, lkL, rfl, (by
  intro i r ci h1 h2
  match i, h1, h2 with
  | 0, h1, h2 => cases h1; cases h2; exact ⟨by decide, "java/lang/IndexOutOfBoundsException", by decide +kernel, (xs_mw 1145 (by decide +kernel) rfl)⟩
  | j + 1, h1, h2 => cases h1), xs_thrB_ok fL_led⟩
theorem vL_log : xs_MV zcl zEX zSTR zWS zK zPI qL_log (yL_log, cL_log, (some .int), [26]) := ⟨by decide +kernel, by decide, xs_decB_ok eL_log, rfl, lkL, rfl, (by
  intro i r ci h1 h2
  match i, h1, h2 with
  | 0, h1, h2 => cases h1; cases h2; exact ⟨by decide, "java/util/NoSuchElementException", by decide +kernel, (xs_mw 1146 (by decide +kernel) rfl)⟩
  | j + 1, h1, h2 => cases h1), xs_thrB_ok fL_log⟩
theorem vJ6_bitCount_0f7a4 : xs_MV zcl zEX zSTR zWS zK zPI qJ6_bitCount_0f7a4 (yJ6_bitCount_0f7a4, cJ6_bitCount_0f7a4, (some .int), []) := ⟨by decide +kernel, by decide, xs_decB_ok eJ6_bitCount_0f7a4, rfl, lkJ6, rfl, (fun i r ci h => by cases h), xs_thrB_ok fJ6_bitCount_0f7a4⟩
theorem vJ9_floorMod_7cf53 : xs_MV zcl zEX zSTR zWS zK zPI qJ9_floorMod_7cf53 (yJ9_floorMod_7cf53, cJ9_floorMod_7cf53, (some .int), []) := ⟨by decide +kernel, by decide, xs_decB_ok eJ9_floorMod_7cf53, rfl, (fun _ => trivial), rfl, (fun i r ci h => by cases h), xs_thrB_ok fJ9_floorMod_7cf53⟩
theorem vJ9_max_7cf53 : xs_MV zcl zEX zSTR zWS zK zPI qJ9_max_7cf53 (yJ9_max_7cf53, cJ9_max_7cf53, (some .int), []) := ⟨by decide +kernel, by decide, xs_decB_ok eJ9_max_7cf53, rfl, (fun _ => trivial), rfl, (fun i r ci h => by cases h), xs_thrB_ok fJ9_max_7cf53⟩
theorem vJ9_min_7cf53 : xs_MV zcl zEX zSTR zWS zK zPI qJ9_min_7cf53 (yJ9_min_7cf53, cJ9_min_7cf53, (some .int), []) := ⟨by decide +kernel, by decide, xs_decB_ok eJ9_min_7cf53, rfl, (fun _ => trivial), rfl, (fun i r ci h => by cases h), xs_thrB_ok fJ9_min_7cf53⟩
theorem vL_law_ : xs_MV zcl zEX zSTR zWS zK zPI qL_law_ (yL_law_, cL_law_, (some .boolean), []) := ⟨by decide +kernel, by decide, xs_decB_ok eL_law_, rfl, lkL, rfl, (fun i r ci h => by cases h), xs_thrB_ok fL_law_⟩
