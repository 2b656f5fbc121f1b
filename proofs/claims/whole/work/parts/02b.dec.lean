/-! ===== the code rows stand in the bytes ===== -/
theorem eX0_init : xs_decB cX0_init oX0_init = true := by decide +kernel
theorem fX0_init : xs_thrB cX0_init kX0 oX0_init = true := by decide +kernel
theorem eX0_slot : xs_decB cX0_slot oX0_slot = true := by decide +kernel
theorem fX0_slot : xs_thrB cX0_slot kX0 oX0_slot = true := by decide +kernel
theorem eX0_remember : xs_decB cX0_remember oX0_remember = true := by decide +kernel
theorem fX0_remember : xs_thrB cX0_remember kX0 oX0_remember = true := by decide +kernel
theorem eX0_takeBack : xs_decB cX0_takeBack oX0_takeBack = true := by decide +kernel
theorem fX0_takeBack : xs_thrB cX0_takeBack kX0 oX0_takeBack = true := by decide +kernel
theorem eX0_forget : xs_decB cX0_forget oX0_forget = true := by decide +kernel
theorem fX0_forget : xs_thrB cX0_forget kX0 oX0_forget = true := by decide +kernel
theorem eX1_init : xs_decB cX1_init oX1_init = true := by decide +kernel
theorem fX1_init : xs_thrB cX1_init kX1 oX1_init = true := by decide +kernel
theorem eX1_readRows : xs_decB cX1_readRows oX1_readRows = true := by decide +kernel
theorem fX1_readRows : xs_thrB cX1_readRows kX1 oX1_readRows = true := by decide +kernel
theorem eX1_isPossible : xs_decB cX1_isPossible oX1_isPossible = true := by decide +kernel
theorem fX1_isPossible : xs_thrB cX1_isPossible kX1 oX1_isPossible = true := by decide +kernel
theorem eX2_init : xs_decB cX2_init oX2_init = true := by decide +kernel
theorem fX2_init : xs_thrB cX2_init kX2 oX2_init = true := by decide +kernel
theorem eX2_takeOver : xs_decB cX2_takeOver oX2_takeOver = true := by decide +kernel
theorem fX2_takeOver : xs_thrB cX2_takeOver kX2 oX2_takeOver = true := by decide +kernel
theorem eX2_get : xs_decB cX2_get oX2_get = true := by decide +kernel
theorem fX2_get : xs_thrB cX2_get kX2 oX2_get = true := by decide +kernel
theorem eX2_set : xs_decB cX2_set oX2_set = true := by decide +kernel
theorem fX2_set : xs_thrB cX2_set kX2 oX2_set = true := by decide +kernel
theorem eX2_sum : xs_decB cX2_sum oX2_sum = true := by decide +kernel
theorem fX2_sum : xs_thrB cX2_sum kX2 oX2_sum = true := by decide +kernel
theorem eX2_isIn : xs_decB cX2_isIn oX2_isIn = true := by decide +kernel
theorem fX2_isIn : xs_thrB cX2_isIn kX2 oX2_isIn = true := by decide +kernel
theorem eX2_hours : xs_decB cX2_hours oX2_hours = true := by decide +kernel
theorem fX2_hours : xs_thrB cX2_hours kX2 oX2_hours = true := by decide +kernel
theorem eX2_metered : xs_decB cX2_metered oX2_metered = true := by decide +kernel
theorem fX2_metered : xs_thrB cX2_metered kX2 oX2_metered = true := by decide +kernel
theorem eX2_burnt : xs_decB cX2_burnt oX2_burnt = true := by decide +kernel
theorem fX2_burnt : xs_thrB cX2_burnt kX2 oX2_burnt = true := by decide +kernel
theorem eX2_isLike : xs_decB cX2_isLike oX2_isLike = true := by decide +kernel
theorem fX2_isLike : xs_thrB cX2_isLike kX2 oX2_isLike = true := by decide +kernel
theorem eX2_swapRooms : xs_decB cX2_swapRooms oX2_swapRooms = true := by decide +kernel
theorem fX2_swapRooms : xs_thrB cX2_swapRooms kX2 oX2_swapRooms = true := by decide +kernel
theorem eX2_owed : xs_decB cX2_owed oX2_owed = true := by decide +kernel
theorem fX2_owed : xs_thrB cX2_owed kX2 oX2_owed = true := by decide +kernel
theorem eX2_setOwed : xs_decB cX2_setOwed oX2_setOwed = true := by decide +kernel
theorem fX2_setOwed : xs_thrB cX2_setOwed kX2 oX2_setOwed = true := by decide +kernel
theorem eX2_isDebt : xs_decB cX2_isDebt oX2_isDebt = true := by decide +kernel
theorem fX2_isDebt : xs_thrB cX2_isDebt kX2 oX2_isDebt = true := by decide +kernel
theorem eX2_owesMore : xs_decB cX2_owesMore oX2_owesMore = true := by decide +kernel
theorem fX2_owesMore : xs_thrB cX2_owesMore kX2 oX2_owesMore = true := by decide +kernel
theorem eX2_creditors : xs_decB cX2_creditors oX2_creditors = true := by decide +kernel
theorem fX2_creditors : xs_thrB cX2_creditors kX2 oX2_creditors = true := by decide +kernel
theorem eX2_moveCoins : xs_decB cX2_moveCoins oX2_moveCoins = true := by decide +kernel
theorem fX2_moveCoins : xs_thrB cX2_moveCoins kX2 oX2_moveCoins = true := by decide +kernel
theorem eX2_addGas : xs_decB cX2_addGas oX2_addGas = true := by decide +kernel
theorem fX2_addGas : xs_thrB cX2_addGas kX2 oX2_addGas = true := by decide +kernel
theorem eX2_takeCoin : xs_decB cX2_takeCoin oX2_takeCoin = true := by decide +kernel
theorem fX2_takeCoin : xs_thrB cX2_takeCoin kX2 oX2_takeCoin = true := by decide +kernel
theorem eX2_draw : xs_decB cX2_draw oX2_draw = true := by decide +kernel
theorem fX2_draw : xs_thrB cX2_draw kX2 oX2_draw = true := by decide +kernel
theorem eX2_light : xs_decB cX2_light oX2_light = true := by decide +kernel
theorem fX2_light : xs_thrB cX2_light kX2 oX2_light = true := by decide +kernel
theorem eX2_darken : xs_decB cX2_darken oX2_darken = true := by decide +kernel
theorem fX2_darken : xs_thrB cX2_darken kX2 oX2_darken = true := by decide +kernel
theorem eX2_chill : xs_decB cX2_chill oX2_chill = true := by decide +kernel
theorem fX2_chill : xs_thrB cX2_chill kX2 oX2_chill = true := by decide +kernel
theorem eX2_turnClock : xs_decB cX2_turnClock oX2_turnClock = true := by decide +kernel
theorem fX2_turnClock : xs_thrB cX2_turnClock kX2 oX2_turnClock = true := by decide +kernel
theorem eX3_init : xs_decB cX3_init oX3_init = true := by decide +kernel
theorem fX3_init : xs_thrB cX3_init kX3 oX3_init = true := by decide +kernel
theorem eX3_readLine : xs_decB cX3_readLine oX3_readLine = true := by decide +kernel
theorem fX3_readLine : xs_thrB cX3_readLine kX3 oX3_readLine = true := by decide +kernel
theorem eX3_readLodger : xs_decB cX3_readLodger oX3_readLodger = true := by decide +kernel
theorem fX3_readLodger : xs_thrB cX3_readLodger kX3 oX3_readLodger = true := by decide +kernel
theorem eX3_readFact : xs_decB cX3_readFact oX3_readFact = true := by decide +kernel
theorem fX3_readFact : xs_thrB cX3_readFact kX3 oX3_readFact = true := by decide +kernel
theorem eX3_readDebt : xs_decB cX3_readDebt oX3_readDebt = true := by decide +kernel
theorem fX3_readDebt : xs_thrB cX3_readDebt kX3 oX3_readDebt = true := by decide +kernel
theorem eX4_init : xs_decB cX4_init oX4_init = true := by decide +kernel
theorem fX4_init : xs_thrB cX4_init kX4 oX4_init = true := by decide +kernel
theorem eX4_clear : xs_decB cX4_clear oX4_clear = true := by decide +kernel
theorem fX4_clear : xs_thrB cX4_clear kX4 oX4_clear = true := by decide +kernel
theorem eX4_takeOver : xs_decB cX4_takeOver oX4_takeOver = true := by decide +kernel
theorem fX4_takeOver : xs_thrB cX4_takeOver kX4 oX4_takeOver = true := by decide +kernel
theorem eX4_addLine : xs_decB cX4_addLine oX4_addLine = true := by decide +kernel
theorem fX4_addLine : xs_thrB cX4_addLine kX4 oX4_addLine = true := by decide +kernel
theorem eX4_add : xs_decB cX4_add oX4_add = true := by decide +kernel
theorem fX4_add : xs_thrB cX4_add kX4 oX4_add = true := by decide +kernel
theorem eX4_addJump : xs_decB cX4_addJump oX4_addJump = true := by decide +kernel
theorem fX4_addJump : xs_thrB cX4_addJump kX4 oX4_addJump = true := by decide +kernel
theorem eX4_land : xs_decB cX4_land oX4_land = true := by decide +kernel
theorem fX4_land : xs_thrB cX4_land kX4 oX4_land = true := by decide +kernel
theorem eX4_turnOf : xs_decB cX4_turnOf oX4_turnOf = true := by decide +kernel
theorem fX4_turnOf : xs_thrB cX4_turnOf kX4 oX4_turnOf = true := by decide +kernel
theorem eX4_isRefused : xs_decB cX4_isRefused oX4_isRefused = true := by decide +kernel
theorem fX4_isRefused : xs_thrB cX4_isRefused kX4 oX4_isRefused = true := by decide +kernel
theorem eX4_holds : xs_decB cX4_holds oX4_holds = true := by decide +kernel
theorem fX4_holds : xs_thrB cX4_holds kX4 oX4_holds = true := by decide +kernel
theorem eX5_init : xs_decB cX5_init oX5_init = true := by decide +kernel
theorem fX5_init : xs_thrB cX5_init kX5 oX5_init = true := by decide +kernel
theorem eX5_readLine : xs_decB cX5_readLine oX5_readLine = true := by decide +kernel
theorem fX5_readLine : xs_thrB cX5_readLine kX5 oX5_readLine = true := by decide +kernel
theorem eX5_kindOf : xs_decB cX5_kindOf oX5_kindOf = true := by decide +kernel
theorem fX5_kindOf : xs_thrB cX5_kindOf kX5 oX5_kindOf = true := by decide +kernel
theorem eX5_readAny : xs_decB cX5_readAny oX5_readAny = true := by decide +kernel
theorem fX5_readAny : xs_thrB cX5_readAny kX5 oX5_readAny = true := by decide +kernel
theorem eX5_readAll : xs_decB cX5_readAll oX5_readAll = true := by decide +kernel
theorem fX5_readAll : xs_thrB cX5_readAll kX5 oX5_readAll = true := by decide +kernel
theorem eX5_readAtom : xs_decB cX5_readAtom oX5_readAtom = true := by decide +kernel
theorem fX5_readAtom : xs_thrB cX5_readAtom kX5 oX5_readAtom = true := by decide +kernel
theorem eX5_readOrder : xs_decB cX5_readOrder oX5_readOrder = true := by decide +kernel
theorem fX5_readOrder : xs_thrB cX5_readOrder kX5 oX5_readOrder = true := by decide +kernel
theorem eX5_readSum : xs_decB cX5_readSum oX5_readSum = true := by decide +kernel
theorem fX5_readSum : xs_thrB cX5_readSum kX5 oX5_readSum = true := by decide +kernel
theorem eX5_partOf : xs_decB cX5_partOf oX5_partOf = true := by decide +kernel
theorem fX5_partOf : xs_thrB cX5_partOf kX5 oX5_partOf = true := by decide +kernel
theorem eX6_init : xs_decB cX6_init oX6_init = true := by decide +kernel
theorem fX6_init : xs_thrB cX6_init kX6 oX6_init = true := by decide +kernel
theorem eX6_readLines : xs_decB cX6_readLines oX6_readLines = true := by decide +kernel
theorem fX6_readLines : xs_thrB cX6_readLines kX6 oX6_readLines = true := by decide +kernel
theorem eX7_init : xs_decB cX7_init oX7_init = true := by decide +kernel
theorem fX7_init : xs_thrB cX7_init kX7 oX7_init = true := by decide +kernel
theorem eX7_takeOver : xs_decB cX7_takeOver oX7_takeOver = true := by decide +kernel
theorem fX7_takeOver : xs_thrB cX7_takeOver kX7 oX7_takeOver = true := by decide +kernel
theorem eX7_add : xs_decB cX7_add oX7_add = true := by decide +kernel
theorem fX7_add : xs_thrB cX7_add kX7 oX7_add = true := by decide +kernel
theorem eX7_cell : xs_decB cX7_cell oX7_cell = true := by decide +kernel
theorem fX7_cell : xs_thrB cX7_cell kX7 oX7_cell = true := by decide +kernel
theorem eX8_init : xs_decB cX8_init oX8_init = true := by decide +kernel
theorem fX8_init : xs_thrB cX8_init kX8 oX8_init = true := by decide +kernel
theorem eX8_learn : xs_decB cX8_learn oX8_learn = true := by decide +kernel
theorem fX8_learn : xs_thrB cX8_learn kX8 oX8_learn = true := by decide +kernel
theorem eX8_presentAt : xs_decB cX8_presentAt oX8_presentAt = true := by decide +kernel
theorem fX8_presentAt : xs_thrB cX8_presentAt kX8 oX8_presentAt = true := by decide +kernel
theorem eX8_needsAt : xs_decB cX8_needsAt oX8_needsAt = true := by decide +kernel
theorem fX8_needsAt : xs_thrB cX8_needsAt kX8 oX8_needsAt = true := by decide +kernel
theorem eX8_pass : xs_decB cX8_pass oX8_pass = true := by decide +kernel
theorem fX8_pass : xs_thrB cX8_pass kX8 oX8_pass = true := by decide +kernel
theorem eX8_whoGoes : xs_decB cX8_whoGoes oX8_whoGoes = true := by decide +kernel
theorem fX8_whoGoes : xs_thrB cX8_whoGoes kX8 oX8_whoGoes = true := by decide +kernel
theorem eX8_tell : xs_decB cX8_tell oX8_tell = true := by decide +kernel
theorem fX8_tell : xs_thrB cX8_tell kX8 oX8_tell = true := by decide +kernel
theorem eX9_init : xs_decB cX9_init oX9_init = true := by decide +kernel
theorem fX9_init : xs_thrB cX9_init kX9 oX9_init = true := by decide +kernel
theorem eX9_solve : xs_decB cX9_solve oX9_solve = true := by decide +kernel
theorem fX9_solve : xs_thrB cX9_solve kX9 oX9_solve = true := by decide +kernel
theorem eX9_sharedTicks : xs_decB cX9_sharedTicks oX9_sharedTicks = true := by decide +kernel
theorem fX9_sharedTicks : xs_thrB cX9_sharedTicks kX9 oX9_sharedTicks = true := by decide +kernel
theorem eX9_choose : xs_decB cX9_choose oX9_choose = true := by decide +kernel
theorem fX9_choose : xs_thrB cX9_choose kX9 oX9_choose = true := by decide +kernel
theorem eX9_keep : xs_decB cX9_keep oX9_keep = true := by decide +kernel
theorem fX9_keep : xs_thrB cX9_keep kX9 oX9_keep = true := by decide +kernel
theorem eX9_partnerOf : xs_decB cX9_partnerOf oX9_partnerOf = true := by decide +kernel
theorem fX9_partnerOf : xs_thrB cX9_partnerOf kX9 oX9_partnerOf = true := by decide +kernel
theorem eX10_init : xs_decB cX10_init oX10_init = true := by decide +kernel
theorem fX10_init : xs_thrB cX10_init kX10 oX10_init = true := by decide +kernel
theorem eX10_append : xs_decB cX10_append oX10_append = true := by decide +kernel
theorem fX10_append : xs_thrB cX10_append kX10 oX10_append = true := by decide +kernel
theorem eX10_byteAt : xs_decB cX10_byteAt oX10_byteAt = true := by decide +kernel
theorem fX10_byteAt : xs_thrB cX10_byteAt kX10 oX10_byteAt = true := by decide +kernel
theorem eX10_open : xs_decB cX10_open oX10_open = true := by decide +kernel
theorem fX10_open : xs_thrB cX10_open kX10 oX10_open = true := by decide +kernel
theorem eX10_behindThing : xs_decB cX10_behindThing oX10_behindThing = true := by decide +kernel
theorem fX10_behindThing : xs_thrB cX10_behindThing kX10 oX10_behindThing = true := by decide +kernel
theorem eX10_kindOf : xs_decB cX10_kindOf oX10_kindOf = true := by decide +kernel
theorem fX10_kindOf : xs_thrB cX10_kindOf kX10 oX10_kindOf = true := by decide +kernel
theorem eX10_addThing : xs_decB cX10_addThing oX10_addThing = true := by decide +kernel
theorem fX10_addThing : xs_thrB cX10_addThing kX10 oX10_addThing = true := by decide +kernel
theorem eX10_thingAt : xs_decB cX10_thingAt oX10_thingAt = true := by decide +kernel
theorem fX10_thingAt : xs_thrB cX10_thingAt kX10 oX10_thingAt = true := by decide +kernel
theorem eX10_numberAt : xs_decB cX10_numberAt oX10_numberAt = true := by decide +kernel
theorem fX10_numberAt : xs_thrB cX10_numberAt kX10 oX10_numberAt = true := by decide +kernel
theorem eX10_wordAt : xs_decB cX10_wordAt oX10_wordAt = true := by decide +kernel
theorem fX10_wordAt : xs_thrB cX10_wordAt kX10 oX10_wordAt = true := by decide +kernel
theorem eX10_thing : xs_decB cX10_thing oX10_thing = true := by decide +kernel
theorem fX10_thing : xs_thrB cX10_thing kX10 oX10_thing = true := by decide +kernel
theorem eX10_takes : xs_decB cX10_takes oX10_takes = true := by decide +kernel
theorem fX10_takes : xs_thrB cX10_takes kX10 oX10_takes = true := by decide +kernel
theorem eX10_takesNumber : xs_decB cX10_takesNumber oX10_takesNumber = true := by decide +kernel
theorem fX10_takesNumber : xs_thrB cX10_takesNumber kX10 oX10_takesNumber = true := by decide +kernel
theorem eX10_fails : xs_decB cX10_fails oX10_fails = true := by decide +kernel
theorem fX10_fails : xs_thrB cX10_fails kX10 oX10_fails = true := by decide +kernel
theorem eX11_init : xs_decB cX11_init oX11_init = true := by decide +kernel
theorem fX11_init : xs_thrB cX11_init kX11 oX11_init = true := by decide +kernel
theorem eX11_feed : xs_decB cX11_feed oX11_feed = true := by decide +kernel
theorem fX11_feed : xs_thrB cX11_feed kX11 oX11_feed = true := by decide +kernel
theorem eX11_end : xs_decB cX11_end oX11_end = true := by decide +kernel
theorem fX11_end : xs_thrB cX11_end kX11 oX11_end = true := by decide +kernel
theorem eX11_house : xs_decB cX11_house oX11_house = true := by decide +kernel
theorem fX11_house : xs_thrB cX11_house kX11 oX11_house = true := by decide +kernel
theorem eX11_law : xs_decB cX11_law oX11_law = true := by decide +kernel
theorem fX11_law : xs_thrB cX11_law kX11 oX11_law = true := by decide +kernel
theorem eX11_fault : xs_decB cX11_fault oX11_fault = true := by decide +kernel
theorem fX11_fault : xs_thrB cX11_fault kX11 oX11_fault = true := by decide +kernel
theorem eX11_lodger : xs_decB cX11_lodger oX11_lodger = true := by decide +kernel
theorem fX11_lodger : xs_thrB cX11_lodger kX11 oX11_lodger = true := by decide +kernel
theorem eX11_owes : xs_decB cX11_owes oX11_owes = true := by decide +kernel
theorem fX11_owes : xs_thrB cX11_owes kX11 oX11_owes = true := by decide +kernel
theorem eX11_isHome : xs_decB cX11_isHome oX11_isHome = true := by decide +kernel
theorem fX11_isHome : xs_thrB cX11_isHome kX11 oX11_isHome = true := by decide +kernel
theorem eX11_needs : xs_decB cX11_needs oX11_needs = true := by decide +kernel
theorem fX11_needs : xs_thrB cX11_needs kX11 oX11_needs = true := by decide +kernel
theorem eX11_count : xs_decB cX11_count oX11_count = true := by decide +kernel
theorem fX11_count : xs_thrB cX11_count kX11 oX11_count = true := by decide +kernel
theorem eX11_inside : xs_decB cX11_inside oX11_inside = true := by decide +kernel
theorem fX11_inside : xs_thrB cX11_inside kX11 oX11_inside = true := by decide +kernel
theorem eX11_ticks : xs_decB cX11_ticks oX11_ticks = true := by decide +kernel
theorem fX11_ticks : xs_thrB cX11_ticks kX11 oX11_ticks = true := by decide +kernel
theorem eX11_put : xs_decB cX11_put oX11_put = true := by decide +kernel
theorem fX11_put : xs_thrB cX11_put kX11 oX11_put = true := by decide +kernel
theorem eX11_lend : xs_decB cX11_lend oX11_lend = true := by decide +kernel
theorem fX11_lend : xs_thrB cX11_lend kX11 oX11_lend = true := by decide +kernel
theorem eX11_repay : xs_decB cX11_repay oX11_repay = true := by decide +kernel
theorem fX11_repay : xs_thrB cX11_repay kX11 oX11_repay = true := by decide +kernel
theorem eX11_waits : xs_decB cX11_waits oX11_waits = true := by decide +kernel
theorem fX11_waits : xs_thrB cX11_waits kX11 oX11_waits = true := by decide +kernel
theorem eX11_price : xs_decB cX11_price oX11_price = true := by decide +kernel
theorem fX11_price : xs_thrB cX11_price kX11 oX11_price = true := by decide +kernel
theorem eX11_change : xs_decB cX11_change oX11_change = true := by decide +kernel
theorem fX11_change : xs_thrB cX11_change kX11 oX11_change = true := by decide +kernel
theorem eX11_home : xs_decB cX11_home oX11_home = true := by decide +kernel
theorem fX11_home : xs_thrB cX11_home kX11 oX11_home = true := by decide +kernel
theorem eX11_empty : xs_decB cX11_empty oX11_empty = true := by decide +kernel
theorem fX11_empty : xs_thrB cX11_empty kX11 oX11_empty = true := by decide +kernel
theorem eX11_lasts : xs_decB cX11_lasts oX11_lasts = true := by decide +kernel
theorem fX11_lasts : xs_thrB cX11_lasts kX11 oX11_lasts = true := by decide +kernel
theorem eX11_out : xs_decB cX11_out oX11_out = true := by decide +kernel
theorem fX11_out : xs_thrB cX11_out kX11 oX11_out = true := by decide +kernel
theorem eX11_firstDark : xs_decB cX11_firstDark oX11_firstDark = true := by decide +kernel
theorem fX11_firstDark : xs_thrB cX11_firstDark kX11 oX11_firstDark = true := by decide +kernel
theorem eX11_feeder : xs_decB cX11_feeder oX11_feeder = true := by decide +kernel
theorem fX11_feeder : xs_thrB cX11_feeder kX11 oX11_feeder = true := by decide +kernel
theorem eX11_shiver : xs_decB cX11_shiver oX11_shiver = true := by decide +kernel
theorem fX11_shiver : xs_thrB cX11_shiver kX11 oX11_shiver = true := by decide +kernel
theorem eX11_firstColder : xs_decB cX11_firstColder oX11_firstColder = true := by decide +kernel
theorem fX11_firstColder : xs_thrB cX11_firstColder kX11 oX11_firstColder = true := by decide +kernel
theorem eX11_after : xs_decB cX11_after oX11_after = true := by decide +kernel
theorem fX11_after : xs_thrB cX11_after kX11 oX11_after = true := by decide +kernel
theorem eX11_coins : xs_decB cX11_coins oX11_coins = true := by decide +kernel
theorem fX11_coins : xs_thrB cX11_coins kX11 oX11_coins = true := by decide +kernel
theorem eX11_ease : xs_decB cX11_ease oX11_ease = true := by decide +kernel
theorem fX11_ease : xs_thrB cX11_ease kX11 oX11_ease = true := by decide +kernel
theorem eX11_start : xs_decB cX11_start oX11_start = true := by decide +kernel
theorem fX11_start : xs_thrB cX11_start kX11 oX11_start = true := by decide +kernel
theorem eX11_run : xs_decB cX11_run oX11_run = true := by decide +kernel
theorem fX11_run : xs_thrB cX11_run kX11 oX11_run = true := by decide +kernel
theorem eX11_grief : xs_decB cX11_grief oX11_grief = true := by decide +kernel
theorem fX11_grief : xs_thrB cX11_grief kX11 oX11_grief = true := by decide +kernel
theorem eX11_restless : xs_decB cX11_restless oX11_restless = true := by decide +kernel
theorem fX11_restless : xs_thrB cX11_restless kX11 oX11_restless = true := by decide +kernel
theorem eX11_wouldWait : xs_decB cX11_wouldWait oX11_wouldWait = true := by decide +kernel
theorem fX11_wouldWait : xs_thrB cX11_wouldWait kX11 oX11_wouldWait = true := by decide +kernel
theorem eX11_saint : xs_decB cX11_saint oX11_saint = true := by decide +kernel
theorem fX11_saint : xs_thrB cX11_saint kX11 oX11_saint = true := by decide +kernel
theorem eX11_warmer : xs_decB cX11_warmer oX11_warmer = true := by decide +kernel
theorem fX11_warmer : xs_thrB cX11_warmer kX11 oX11_warmer = true := by decide +kernel
theorem eX11_bestWait : xs_decB cX11_bestWait oX11_bestWait = true := by decide +kernel
theorem fX11_bestWait : xs_thrB cX11_bestWait kX11 oX11_bestWait = true := by decide +kernel
theorem eX11_griefBy : xs_decB cX11_griefBy oX11_griefBy = true := by decide +kernel
theorem fX11_griefBy : xs_thrB cX11_griefBy kX11 oX11_griefBy = true := by decide +kernel
theorem eX11_griefAhead : xs_decB cX11_griefAhead oX11_griefAhead = true := by decide +kernel
theorem fX11_griefAhead : xs_thrB cX11_griefAhead kX11 oX11_griefAhead = true := by decide +kernel
theorem eX11_fair : xs_decB cX11_fair oX11_fair = true := by decide +kernel
theorem fX11_fair : xs_thrB cX11_fair kX11 oX11_fair = true := by decide +kernel
theorem eX11_share : xs_decB cX11_share oX11_share = true := by decide +kernel
theorem fX11_share : xs_thrB cX11_share kX11 oX11_share = true := by decide +kernel
theorem eX11_hundredths : xs_decB cX11_hundredths oX11_hundredths = true := by decide +kernel
theorem fX11_hundredths : xs_thrB cX11_hundredths kX11 oX11_hundredths = true := by decide +kernel
theorem eX11_tops : xs_decB cX11_tops oX11_tops = true := by decide +kernel
theorem fX11_tops : xs_thrB cX11_tops kX11 oX11_tops = true := by decide +kernel
theorem eX11_stand : xs_decB cX11_stand oX11_stand = true := by decide +kernel
theorem fX11_stand : xs_thrB cX11_stand kX11 oX11_stand = true := by decide +kernel
theorem eX11_mostNeeds : xs_decB cX11_mostNeeds oX11_mostNeeds = true := by decide +kernel
theorem fX11_mostNeeds : xs_thrB cX11_mostNeeds kX11 oX11_mostNeeds = true := by decide +kernel
theorem eX11_dear : xs_decB cX11_dear oX11_dear = true := by decide +kernel
theorem fX11_dear : xs_thrB cX11_dear kX11 oX11_dear = true := by decide +kernel
theorem eX11_earns : xs_decB cX11_earns oX11_earns = true := by decide +kernel
theorem fX11_earns : xs_thrB cX11_earns kX11 oX11_earns = true := by decide +kernel
theorem eX11_earned : xs_decB cX11_earned oX11_earned = true := by decide +kernel
theorem fX11_earned : xs_thrB cX11_earned kX11 oX11_earned = true := by decide +kernel
theorem eX11_odds : xs_decB cX11_odds oX11_odds = true := by decide +kernel
theorem fX11_odds : xs_thrB cX11_odds kX11 oX11_odds = true := by decide +kernel
theorem eX11_culprit : xs_decB cX11_culprit oX11_culprit = true := by decide +kernel
theorem fX11_culprit : xs_thrB cX11_culprit kX11 oX11_culprit = true := by decide +kernel
theorem eX11_ask : xs_decB cX11_ask oX11_ask = true := by decide +kernel
theorem fX11_ask : xs_thrB cX11_ask kX11 oX11_ask = true := by decide +kernel
theorem eX11_fitting : xs_decB cX11_fitting oX11_fitting = true := by decide +kernel
theorem fX11_fitting : xs_thrB cX11_fitting kX11 oX11_fitting = true := by decide +kernel
theorem eX11_drawn : xs_decB cX11_drawn oX11_drawn = true := by decide +kernel
theorem fX11_drawn : xs_thrB cX11_drawn kX11 oX11_drawn = true := by decide +kernel
theorem eX11_isDrawn : xs_decB cX11_isDrawn oX11_isDrawn = true := by decide +kernel
theorem fX11_isDrawn : xs_thrB cX11_isDrawn kX11 oX11_isDrawn = true := by decide +kernel
theorem eX11_readClues : xs_decB cX11_readClues oX11_readClues = true := by decide +kernel
theorem fX11_readClues : xs_thrB cX11_readClues kX11 oX11_readClues = true := by decide +kernel
theorem eX11_fewer : xs_decB cX11_fewer oX11_fewer = true := by decide +kernel
theorem fX11_fewer : xs_thrB cX11_fewer kX11 oX11_fewer = true := by decide +kernel
theorem eX11_pairs : xs_decB cX11_pairs oX11_pairs = true := by decide +kernel
theorem fX11_pairs : xs_thrB cX11_pairs kX11 oX11_pairs = true := by decide +kernel
theorem eX11_keepers : xs_decB cX11_keepers oX11_keepers = true := by decide +kernel
theorem fX11_keepers : xs_thrB cX11_keepers kX11 oX11_keepers = true := by decide +kernel
theorem eX11_isKeeping : xs_decB cX11_isKeeping oX11_isKeeping = true := by decide +kernel
theorem fX11_isKeeping : xs_thrB cX11_isKeeping kX11 oX11_isKeeping = true := by decide +kernel
theorem eX11_kettle : xs_decB cX11_kettle oX11_kettle = true := by decide +kernel
theorem fX11_kettle : xs_thrB cX11_kettle kX11 oX11_kettle = true := by decide +kernel
theorem eX11_swings : xs_decB cX11_swings oX11_swings = true := by decide +kernel
theorem fX11_swings : xs_thrB cX11_swings kX11 oX11_swings = true := by decide +kernel
theorem eX11_minimal : xs_decB cX11_minimal oX11_minimal = true := by decide +kernel
theorem fX11_minimal : xs_thrB cX11_minimal kX11 oX11_minimal = true := by decide +kernel
theorem eX11_dummies : xs_decB cX11_dummies oX11_dummies = true := by decide +kernel
theorem fX11_dummies : xs_thrB cX11_dummies kX11 oX11_dummies = true := by decide +kernel
theorem eX11_swung : xs_decB cX11_swung oX11_swung = true := by decide +kernel
theorem fX11_swung : xs_thrB cX11_swung kX11 oX11_swung = true := by decide +kernel
theorem eX11_needsEach : xs_decB cX11_needsEach oX11_needsEach = true := by decide +kernel
theorem fX11_needsEach : xs_thrB cX11_needsEach kX11 oX11_needsEach = true := by decide +kernel
theorem eX11_carries : xs_decB cX11_carries oX11_carries = true := by decide +kernel
theorem fX11_carries : xs_thrB cX11_carries kX11 oX11_carries = true := by decide +kernel
theorem eX11_net : xs_decB cX11_net oX11_net = true := by decide +kernel
theorem fX11_net : xs_thrB cX11_net kX11 oX11_net = true := by decide +kernel
theorem eX11_debt : xs_decB cX11_debt oX11_debt = true := by decide +kernel
theorem fX11_debt : xs_thrB cX11_debt kX11 oX11_debt = true := by decide +kernel
theorem eX11_ring : xs_decB cX11_ring oX11_ring = true := by decide +kernel
theorem fX11_ring : xs_thrB cX11_ring kX11 oX11_ring = true := by decide +kernel
theorem eX11_poorest : xs_decB cX11_poorest oX11_poorest = true := by decide +kernel
theorem fX11_poorest : xs_thrB cX11_poorest kX11 oX11_poorest = true := by decide +kernel
theorem eX11_rests : xs_decB cX11_rests oX11_rests = true := by decide +kernel
theorem fX11_rests : xs_thrB cX11_rests kX11 oX11_rests = true := by decide +kernel
theorem eX11_isContent : xs_decB cX11_isContent oX11_isContent = true := by decide +kernel
theorem fX11_isContent : xs_thrB cX11_isContent kX11 oX11_isContent = true := by decide +kernel
theorem eX11_gain : xs_decB cX11_gain oX11_gain = true := by decide +kernel
theorem fX11_gain : xs_thrB cX11_gain kX11 oX11_gain = true := by decide +kernel
theorem eX11_busy : xs_decB cX11_busy oX11_busy = true := by decide +kernel
theorem fX11_busy : xs_thrB cX11_busy kX11 oX11_busy = true := by decide +kernel
theorem eX11_alone : xs_decB cX11_alone oX11_alone = true := by decide +kernel
theorem fX11_alone : xs_thrB cX11_alone kX11 oX11_alone = true := by decide +kernel
theorem eX11_miser : xs_decB cX11_miser oX11_miser = true := by decide +kernel
theorem fX11_miser : xs_thrB cX11_miser kX11 oX11_miser = true := by decide +kernel
theorem eX11_alike : xs_decB cX11_alike oX11_alike = true := by decide +kernel
theorem fX11_alike : xs_thrB cX11_alike kX11 oX11_alike = true := by decide +kernel
theorem eX11_trial : xs_decB cX11_trial oX11_trial = true := by decide +kernel
theorem fX11_trial : xs_thrB cX11_trial kX11 oX11_trial = true := by decide +kernel
theorem eX11_span : xs_decB cX11_span oX11_span = true := by decide +kernel
theorem fX11_span : xs_thrB cX11_span kX11 oX11_span = true := by decide +kernel
theorem eX11_led : xs_decB cX11_led oX11_led = true := by decide +kernel
theorem fX11_led : xs_thrB cX11_led kX11 oX11_led = true := by decide +kernel
theorem eX11_log : xs_decB cX11_log oX11_log = true := by decide +kernel
theorem fX11_log : xs_thrB cX11_log kX11 oX11_log = true := by decide +kernel
theorem eX11_seed : xs_decB cX11_seed oX11_seed = true := by decide +kernel
theorem fX11_seed : xs_thrB cX11_seed kX11 oX11_seed = true := by decide +kernel
theorem eX11_undo : xs_decB cX11_undo oX11_undo = true := by decide +kernel
theorem fX11_undo : xs_thrB cX11_undo kX11 oX11_undo = true := by decide +kernel
theorem eX11_image : xs_decB cX11_image oX11_image = true := by decide +kernel
theorem fX11_image : xs_thrB cX11_image kX11 oX11_image = true := by decide +kernel
theorem eX11_back : xs_decB cX11_back oX11_back = true := by decide +kernel
theorem fX11_back : xs_thrB cX11_back kX11 oX11_back = true := by decide +kernel
theorem eX11_everybody : xs_decB cX11_everybody oX11_everybody = true := by decide +kernel
theorem fX11_everybody : xs_thrB cX11_everybody kX11 oX11_everybody = true := by decide +kernel
theorem eX11_checkLodger : xs_decB cX11_checkLodger oX11_checkLodger = true := by decide +kernel
theorem fX11_checkLodger : xs_thrB cX11_checkLodger kX11 oX11_checkLodger = true := by decide +kernel
theorem eX11_checkTwo : xs_decB cX11_checkTwo oX11_checkTwo = true := by decide +kernel
theorem fX11_checkTwo : xs_thrB cX11_checkTwo kX11 oX11_checkTwo = true := by decide +kernel
theorem eX11_checkTick : xs_decB cX11_checkTick oX11_checkTick = true := by decide +kernel
theorem fX11_checkTick : xs_thrB cX11_checkTick kX11 oX11_checkTick = true := by decide +kernel
theorem eX11_checkRange : xs_decB cX11_checkRange oX11_checkRange = true := by decide +kernel
theorem fX11_checkRange : xs_thrB cX11_checkRange kX11 oX11_checkRange = true := by decide +kernel
theorem eX12_init : xs_decB cX12_init oX12_init = true := by decide +kernel
theorem fX12_init : xs_thrB cX12_init kX12 oX12_init = true := by decide +kernel
theorem eX12_thrown : xs_decB cX12_thrown oX12_thrown = true := by decide +kernel
theorem fX12_thrown : xs_thrB cX12_thrown kX12 oX12_thrown = true := by decide +kernel
theorem eX12_isIn : xs_decB cX12_isIn oX12_isIn = true := by decide +kernel
theorem fX12_isIn : xs_thrB cX12_isIn kX12 oX12_isIn = true := by decide +kernel
theorem eX12_lesser : xs_decB cX12_lesser oX12_lesser = true := by decide +kernel
theorem fX12_lesser : xs_thrB cX12_lesser kX12 oX12_lesser = true := by decide +kernel
theorem eX12_greater : xs_decB cX12_greater oX12_greater = true := by decide +kernel
theorem fX12_greater : xs_thrB cX12_greater kX12 oX12_greater = true := by decide +kernel
theorem eX12_isOf : xs_decB cX12_isOf oX12_isOf = true := by decide +kernel
theorem fX12_isOf : xs_thrB cX12_isOf kX12 oX12_isOf = true := by decide +kernel
theorem eX12_bits : xs_decB cX12_bits oX12_bits = true := by decide +kernel
theorem fX12_bits : xs_thrB cX12_bits kX12 oX12_bits = true := by decide +kernel
theorem eX12_of : xs_decB cX12_of oX12_of = true := by decide +kernel
theorem fX12_of : xs_thrB cX12_of kX12 oX12_of = true := by decide +kernel
theorem eX12_lays : xs_decB cX12_lays oX12_lays = true := by decide +kernel
theorem fX12_lays : xs_thrB cX12_lays kX12 oX12_lays = true := by decide +kernel
theorem eX12_owed : xs_decB cX12_owed oX12_owed = true := by decide +kernel
theorem fX12_owed : xs_thrB cX12_owed kX12 oX12_owed = true := by decide +kernel
theorem eX12_isLodger : xs_decB cX12_isLodger oX12_isLodger = true := by decide +kernel
theorem fX12_isLodger : xs_thrB cX12_isLodger kX12 oX12_isLodger = true := by decide +kernel
theorem eX12_isTick : xs_decB cX12_isTick oX12_isTick = true := by decide +kernel
theorem fX12_isTick : xs_thrB cX12_isTick kX12 oX12_isTick = true := by decide +kernel
theorem eX12_atHome : xs_decB cX12_atHome oX12_atHome = true := by decide +kernel
theorem fX12_atHome : xs_thrB cX12_atHome kX12 oX12_atHome = true := by decide +kernel
theorem eX12_homeIn : xs_decB cX12_homeIn oX12_homeIn = true := by decide +kernel
theorem fX12_homeIn : xs_thrB cX12_homeIn kX12 oX12_homeIn = true := by decide +kernel
theorem eX12_burnsOf : xs_decB cX12_burnsOf oX12_burnsOf = true := by decide +kernel
theorem fX12_burnsOf : xs_thrB cX12_burnsOf kX12 oX12_burnsOf = true := by decide +kernel
theorem eX12_needsIn : xs_decB cX12_needsIn oX12_needsIn = true := by decide +kernel
theorem fX12_needsIn : xs_thrB cX12_needsIn kX12 oX12_needsIn = true := by decide +kernel
theorem eX12_hoursOf : xs_decB cX12_hoursOf oX12_hoursOf = true := by decide +kernel
theorem fX12_hoursOf : xs_thrB cX12_hoursOf kX12 oX12_hoursOf = true := by decide +kernel
theorem eX12_all : xs_decB cX12_all oX12_all = true := by decide +kernel
theorem fX12_all : xs_thrB cX12_all kX12 oX12_all = true := by decide +kernel
theorem eX12_feed : xs_decB cX12_feed oX12_feed = true := by decide +kernel
theorem fX12_feed : xs_thrB cX12_feed kX12 oX12_feed = true := by decide +kernel
theorem eX12_end : xs_decB cX12_end oX12_end = true := by decide +kernel
theorem fX12_end : xs_thrB cX12_end kX12 oX12_end = true := by decide +kernel
theorem eX12_letter : xs_decB cX12_letter oX12_letter = true := by decide +kernel
theorem fX12_letter : xs_thrB cX12_letter kX12 oX12_letter = true := by decide +kernel
theorem eX12_skip : xs_decB cX12_skip oX12_skip = true := by decide +kernel
theorem fX12_skip : xs_thrB cX12_skip kX12 oX12_skip = true := by decide +kernel
theorem eX12_isSign : xs_decB cX12_isSign oX12_isSign = true := by decide +kernel
theorem fX12_isSign : xs_thrB cX12_isSign kX12 oX12_isSign = true := by decide +kernel
theorem eX12_has : xs_decB cX12_has oX12_has = true := by decide +kernel
theorem fX12_has : xs_thrB cX12_has kX12 oX12_has = true := by decide +kernel
theorem eX12_wrong : xs_decB cX12_wrong oX12_wrong = true := by decide +kernel
theorem fX12_wrong : xs_thrB cX12_wrong kX12 oX12_wrong = true := by decide +kernel
theorem eX12_here : xs_decB cX12_here oX12_here = true := by decide +kernel
theorem fX12_here : xs_thrB cX12_here kX12 oX12_here = true := by decide +kernel
theorem eX12_figures : xs_decB cX12_figures oX12_figures = true := by decide +kernel
theorem fX12_figures : xs_thrB cX12_figures kX12 oX12_figures = true := by decide +kernel
theorem eX12_behind : xs_decB cX12_behind oX12_behind = true := by decide +kernel
theorem fX12_behind : xs_thrB cX12_behind kX12 oX12_behind = true := by decide +kernel
theorem eX12_maybe : xs_decB cX12_maybe oX12_maybe = true := by decide +kernel
theorem fX12_maybe : xs_thrB cX12_maybe kX12 oX12_maybe = true := by decide +kernel
theorem eX12_lodgerLine : xs_decB cX12_lodgerLine oX12_lodgerLine = true := by decide +kernel
theorem fX12_lodgerLine : xs_thrB cX12_lodgerLine kX12 oX12_lodgerLine = true := by decide +kernel
theorem eX12_owesLine : xs_decB cX12_owesLine oX12_owesLine = true := by decide +kernel
theorem fX12_owesLine : xs_thrB cX12_owesLine kX12 oX12_owesLine = true := by decide +kernel
theorem eX12_tells : xs_decB cX12_tells oX12_tells = true := by decide +kernel
theorem fX12_tells : xs_thrB cX12_tells kX12 oX12_tells = true := by decide +kernel
theorem eX12_houseLine : xs_decB cX12_houseLine oX12_houseLine = true := by decide +kernel
theorem fX12_houseLine : xs_thrB cX12_houseLine kX12 oX12_houseLine = true := by decide +kernel
theorem eX12_begins : xs_decB cX12_begins oX12_begins = true := by decide +kernel
theorem fX12_begins : xs_thrB cX12_begins kX12 oX12_begins = true := by decide +kernel
theorem eX12_read : xs_decB cX12_read oX12_read = true := by decide +kernel
theorem fX12_read : xs_thrB cX12_read kX12 oX12_read = true := by decide +kernel
theorem eX12_putsAside : xs_decB cX12_putsAside oX12_putsAside = true := by decide +kernel
theorem fX12_putsAside : xs_thrB cX12_putsAside kX12 oX12_putsAside = true := by decide +kernel
theorem eX12_comesBack : xs_decB cX12_comesBack oX12_comesBack = true := by decide +kernel
theorem fX12_comesBack : xs_thrB cX12_comesBack kX12 oX12_comesBack = true := by decide +kernel
theorem eX12_house : xs_decB cX12_house oX12_house = true := by decide +kernel
theorem fX12_house : xs_thrB cX12_house kX12 oX12_house = true := by decide +kernel
theorem eX12_part : xs_decB cX12_part oX12_part = true := by decide +kernel
theorem fX12_part : xs_thrB cX12_part kX12 oX12_part = true := by decide +kernel
theorem eX12_sum : xs_decB cX12_sum oX12_sum = true := by decide +kernel
theorem fX12_sum : xs_thrB cX12_sum kX12 oX12_sum = true := by decide +kernel
theorem eX12_plain : xs_decB cX12_plain oX12_plain = true := by decide +kernel
theorem fX12_plain : xs_thrB cX12_plain kX12 oX12_plain = true := by decide +kernel
theorem eX12_atom : xs_decB cX12_atom oX12_atom = true := by decide +kernel
theorem fX12_atom : xs_thrB cX12_atom kX12 oX12_atom = true := by decide +kernel
theorem eX12_every : xs_decB cX12_every oX12_every = true := by decide +kernel
theorem fX12_every : xs_thrB cX12_every kX12 oX12_every = true := by decide +kernel
theorem eX12_some : xs_decB cX12_some oX12_some = true := by decide +kernel
theorem fX12_some : xs_thrB cX12_some kX12 oX12_some = true := by decide +kernel
theorem eX12_lawLine : xs_decB cX12_lawLine oX12_lawLine = true := by decide +kernel
theorem fX12_lawLine : xs_thrB cX12_lawLine kX12 oX12_lawLine = true := by decide +kernel
theorem eX12_law : xs_decB cX12_law oX12_law = true := by decide +kernel
theorem fX12_law : xs_thrB cX12_law kX12 oX12_law = true := by decide +kernel
theorem eX12_fault : xs_decB cX12_fault oX12_fault = true := by decide +kernel
theorem fX12_fault : xs_thrB cX12_fault kX12 oX12_fault = true := by decide +kernel
theorem eX12_asks : xs_decB cX12_asks oX12_asks = true := by decide +kernel
theorem fX12_asks : xs_thrB cX12_asks kX12 oX12_asks = true := by decide +kernel
theorem eX12_draw : xs_decB cX12_draw oX12_draw = true := by decide +kernel
theorem fX12_draw : xs_thrB cX12_draw kX12 oX12_draw = true := by decide +kernel
theorem eX12_logs : xs_decB cX12_logs oX12_logs = true := by decide +kernel
theorem fX12_logs : xs_thrB cX12_logs kX12 oX12_logs = true := by decide +kernel
theorem eX12_feeds : xs_decB cX12_feeds oX12_feeds = true := by decide +kernel
theorem fX12_feeds : xs_thrB cX12_feeds kX12 oX12_feeds = true := by decide +kernel
theorem eX12_isLit : xs_decB cX12_isLit oX12_isLit = true := by decide +kernel
theorem fX12_isLit : xs_thrB cX12_isLit kX12 oX12_isLit = true := by decide +kernel
theorem eX12_isDark : xs_decB cX12_isDark oX12_isDark = true := by decide +kernel
theorem fX12_isDark : xs_thrB cX12_isDark kX12 oX12_isDark = true := by decide +kernel
theorem eX12_whoFeeds : xs_decB cX12_whoFeeds oX12_whoFeeds = true := by decide +kernel
theorem fX12_whoFeeds : xs_thrB cX12_whoFeeds kX12 oX12_whoFeeds = true := by decide +kernel
theorem eX12_passes : xs_decB cX12_passes oX12_passes = true := by decide +kernel
theorem fX12_passes : xs_thrB cX12_passes kX12 oX12_passes = true := by decide +kernel
theorem eX12_goes : xs_decB cX12_goes oX12_goes = true := by decide +kernel
theorem fX12_goes : xs_thrB cX12_goes kX12 oX12_goes = true := by decide +kernel
theorem eX12_fedOf : xs_decB cX12_fedOf oX12_fedOf = true := by decide +kernel
theorem fX12_fedOf : xs_thrB cX12_fedOf kX12 oX12_fedOf = true := by decide +kernel
theorem eX12_coldOfAll : xs_decB cX12_coldOfAll oX12_coldOfAll = true := by decide +kernel
theorem fX12_coldOfAll : xs_thrB cX12_coldOfAll kX12 oX12_coldOfAll = true := by decide +kernel
theorem eX12_metered : xs_decB cX12_metered oX12_metered = true := by decide +kernel
theorem fX12_metered : xs_thrB cX12_metered kX12 oX12_metered = true := by decide +kernel
theorem eX12_lodger : xs_decB cX12_lodger oX12_lodger = true := by decide +kernel
theorem fX12_lodger : xs_thrB cX12_lodger kX12 oX12_lodger = true := by decide +kernel
theorem eX12_areTwo : xs_decB cX12_areTwo oX12_areTwo = true := by decide +kernel
theorem fX12_areTwo : xs_thrB cX12_areTwo kX12 oX12_areTwo = true := by decide +kernel
theorem eX12_owes : xs_decB cX12_owes oX12_owes = true := by decide +kernel
theorem fX12_owes : xs_thrB cX12_owes kX12 oX12_owes = true := by decide +kernel
theorem eX12_isHome : xs_decB cX12_isHome oX12_isHome = true := by decide +kernel
theorem fX12_isHome : xs_thrB cX12_isHome kX12 oX12_isHome = true := by decide +kernel
theorem eX12_needs : xs_decB cX12_needs oX12_needs = true := by decide +kernel
theorem fX12_needs : xs_thrB cX12_needs kX12 oX12_needs = true := by decide +kernel
theorem eX12_remembers : xs_decB cX12_remembers oX12_remembers = true := by decide +kernel
theorem fX12_remembers : xs_thrB cX12_remembers kX12 oX12_remembers = true := by decide +kernel
theorem eX12_sets : xs_decB cX12_sets oX12_sets = true := by decide +kernel
theorem fX12_sets : xs_thrB cX12_sets kX12 oX12_sets = true := by decide +kernel
theorem eX12_ticks : xs_decB cX12_ticks oX12_ticks = true := by decide +kernel
theorem fX12_ticks : xs_thrB cX12_ticks kX12 oX12_ticks = true := by decide +kernel
theorem eX12_put : xs_decB cX12_put oX12_put = true := by decide +kernel
theorem fX12_put : xs_thrB cX12_put kX12 oX12_put = true := by decide +kernel
theorem eX12_lend : xs_decB cX12_lend oX12_lend = true := by decide +kernel
theorem fX12_lend : xs_thrB cX12_lend kX12 oX12_lend = true := by decide +kernel
theorem eX12_repay : xs_decB cX12_repay oX12_repay = true := by decide +kernel
theorem fX12_repay : xs_thrB cX12_repay kX12 oX12_repay = true := by decide +kernel
theorem eX12_waits : xs_decB cX12_waits oX12_waits = true := by decide +kernel
theorem fX12_waits : xs_thrB cX12_waits kX12 oX12_waits = true := by decide +kernel
theorem eX12_price : xs_decB cX12_price oX12_price = true := by decide +kernel
theorem fX12_price : xs_thrB cX12_price kX12 oX12_price = true := by decide +kernel
theorem eX12_rooms : xs_decB cX12_rooms oX12_rooms = true := by decide +kernel
theorem fX12_rooms : xs_thrB cX12_rooms kX12 oX12_rooms = true := by decide +kernel
theorem eX12_change : xs_decB cX12_change oX12_change = true := by decide +kernel
theorem fX12_change : xs_thrB cX12_change kX12 oX12_change = true := by decide +kernel
theorem eX12_home : xs_decB cX12_home oX12_home = true := by decide +kernel
theorem fX12_home : xs_thrB cX12_home kX12 oX12_home = true := by decide +kernel
theorem eX12_empty : xs_decB cX12_empty oX12_empty = true := by decide +kernel
theorem fX12_empty : xs_thrB cX12_empty kX12 oX12_empty = true := by decide +kernel
theorem eX12_inside : xs_decB cX12_inside oX12_inside = true := by decide +kernel
theorem fX12_inside : xs_thrB cX12_inside kX12 oX12_inside = true := by decide +kernel
theorem eX12_firstDark : xs_decB cX12_firstDark oX12_firstDark = true := by decide +kernel
theorem fX12_firstDark : xs_thrB cX12_firstDark kX12 oX12_firstDark = true := by decide +kernel
theorem eX12_lasts : xs_decB cX12_lasts oX12_lasts = true := by decide +kernel
theorem fX12_lasts : xs_thrB cX12_lasts kX12 oX12_lasts = true := by decide +kernel
theorem eX12_out : xs_decB cX12_out oX12_out = true := by decide +kernel
theorem fX12_out : xs_thrB cX12_out kX12 oX12_out = true := by decide +kernel
theorem eX12_feeder : xs_decB cX12_feeder oX12_feeder = true := by decide +kernel
theorem fX12_feeder : xs_thrB cX12_feeder kX12 oX12_feeder = true := by decide +kernel
theorem eX12_keepsColds : xs_decB cX12_keepsColds oX12_keepsColds = true := by decide +kernel
theorem fX12_keepsColds : xs_thrB cX12_keepsColds kX12 oX12_keepsColds = true := by decide +kernel
theorem eX12_colder : xs_decB cX12_colder oX12_colder = true := by decide +kernel
theorem fX12_colder : xs_thrB cX12_colder kX12 oX12_colder = true := by decide +kernel
theorem eX12_shiver : xs_decB cX12_shiver oX12_shiver = true := by decide +kernel
theorem fX12_shiver : xs_thrB cX12_shiver kX12 oX12_shiver = true := by decide +kernel
theorem eX12_after : xs_decB cX12_after oX12_after = true := by decide +kernel
theorem fX12_after : xs_thrB cX12_after kX12 oX12_after = true := by decide +kernel
theorem eX12_coins : xs_decB cX12_coins oX12_coins = true := by decide +kernel
theorem fX12_coins : xs_thrB cX12_coins kX12 oX12_coins = true := by decide +kernel
theorem eX12_ease : xs_decB cX12_ease oX12_ease = true := by decide +kernel
theorem fX12_ease : xs_thrB cX12_ease kX12 oX12_ease = true := by decide +kernel
theorem eX12_grieves : xs_decB cX12_grieves oX12_grieves = true := by decide +kernel
theorem fX12_grieves : xs_thrB cX12_grieves kX12 oX12_grieves = true := by decide +kernel
theorem eX12_griefOf : xs_decB cX12_griefOf oX12_griefOf = true := by decide +kernel
theorem fX12_griefOf : xs_thrB cX12_griefOf kX12 oX12_griefOf = true := by decide +kernel
theorem eX12_bestOf : xs_decB cX12_bestOf oX12_bestOf = true := by decide +kernel
theorem fX12_bestOf : xs_thrB cX12_bestOf kX12 oX12_bestOf = true := by decide +kernel
theorem eX12_grief : xs_decB cX12_grief oX12_grief = true := by decide +kernel
theorem fX12_grief : xs_thrB cX12_grief kX12 oX12_grief = true := by decide +kernel
theorem eX12_restless : xs_decB cX12_restless oX12_restless = true := by decide +kernel
theorem fX12_restless : xs_thrB cX12_restless kX12 oX12_restless = true := by decide +kernel
theorem eX12_saint : xs_decB cX12_saint oX12_saint = true := by decide +kernel
theorem fX12_saint : xs_thrB cX12_saint kX12 oX12_saint = true := by decide +kernel
theorem eX12_fair : xs_decB cX12_fair oX12_fair = true := by decide +kernel
theorem fX12_fair : xs_thrB cX12_fair kX12 oX12_fair = true := by decide +kernel
theorem eX12_topsOf : xs_decB cX12_topsOf oX12_topsOf = true := by decide +kernel
theorem fX12_topsOf : xs_thrB cX12_topsOf kX12 oX12_topsOf = true := by decide +kernel
theorem eX12_tops : xs_decB cX12_tops oX12_tops = true := by decide +kernel
theorem fX12_tops : xs_thrB cX12_tops kX12 oX12_tops = true := by decide +kernel
theorem eX12_stand : xs_decB cX12_stand oX12_stand = true := by decide +kernel
theorem fX12_stand : xs_thrB cX12_stand kX12 oX12_stand = true := by decide +kernel
theorem eX12_byPrice : xs_decB cX12_byPrice oX12_byPrice = true := by decide +kernel
theorem fX12_byPrice : xs_thrB cX12_byPrice kX12 oX12_byPrice = true := by decide +kernel
theorem eX12_dear : xs_decB cX12_dear oX12_dear = true := by decide +kernel
theorem fX12_dear : xs_thrB cX12_dear kX12 oX12_dear = true := by decide +kernel
theorem eX12_earns : xs_decB cX12_earns oX12_earns = true := by decide +kernel
theorem fX12_earns : xs_thrB cX12_earns kX12 oX12_earns = true := by decide +kernel
theorem eX12_areRows : xs_decB cX12_areRows oX12_areRows = true := by decide +kernel
theorem fX12_areRows : xs_thrB cX12_areRows kX12 oX12_areRows = true := by decide +kernel
theorem eX12_heard : xs_decB cX12_heard oX12_heard = true := by decide +kernel
theorem fX12_heard : xs_thrB cX12_heard kX12 oX12_heard = true := by decide +kernel
theorem eX12_culprit : xs_decB cX12_culprit oX12_culprit = true := by decide +kernel
theorem fX12_culprit : xs_thrB cX12_culprit kX12 oX12_culprit = true := by decide +kernel
theorem eX12_ask : xs_decB cX12_ask oX12_ask = true := by decide +kernel
theorem fX12_ask : xs_thrB cX12_ask kX12 oX12_ask = true := by decide +kernel
theorem eX12_drawn : xs_decB cX12_drawn oX12_drawn = true := by decide +kernel
theorem fX12_drawn : xs_thrB cX12_drawn kX12 oX12_drawn = true := by decide +kernel
theorem eX12_warmer : xs_decB cX12_warmer oX12_warmer = true := by decide +kernel
theorem fX12_warmer : xs_thrB cX12_warmer kX12 oX12_warmer = true := by decide +kernel
theorem eX12_together : xs_decB cX12_together oX12_together = true := by decide +kernel
theorem fX12_together : xs_thrB cX12_together kX12 oX12_together = true := by decide +kernel
theorem eX12_lowest : xs_decB cX12_lowest oX12_lowest = true := by decide +kernel
theorem fX12_lowest : xs_thrB cX12_lowest kX12 oX12_lowest = true := by decide +kernel
theorem eX12_allBest : xs_decB cX12_allBest oX12_allBest = true := by decide +kernel
theorem fX12_allBest : xs_thrB cX12_allBest kX12 oX12_allBest = true := by decide +kernel
theorem eX12_pairs : xs_decB cX12_pairs oX12_pairs = true := by decide +kernel
theorem fX12_pairs : xs_thrB cX12_pairs kX12 oX12_pairs = true := by decide +kernel
theorem eX12_keepers : xs_decB cX12_keepers oX12_keepers = true := by decide +kernel
theorem fX12_keepers : xs_thrB cX12_keepers kX12 oX12_keepers = true := by decide +kernel
theorem eX12_carries : xs_decB cX12_carries oX12_carries = true := by decide +kernel
theorem fX12_carries : xs_thrB cX12_carries kX12 oX12_carries = true := by decide +kernel
theorem eX12_kettle : xs_decB cX12_kettle oX12_kettle = true := by decide +kernel
theorem fX12_kettle : xs_thrB cX12_kettle kX12 oX12_kettle = true := by decide +kernel
theorem eX12_swingsBy : xs_decB cX12_swingsBy oX12_swingsBy = true := by decide +kernel
theorem fX12_swingsBy : xs_thrB cX12_swingsBy kX12 oX12_swingsBy = true := by decide +kernel
theorem eX12_swingsOf : xs_decB cX12_swingsOf oX12_swingsOf = true := by decide +kernel
theorem fX12_swingsOf : xs_thrB cX12_swingsOf kX12 oX12_swingsOf = true := by decide +kernel
theorem eX12_swings : xs_decB cX12_swings oX12_swings = true := by decide +kernel
theorem fX12_swings : xs_thrB cX12_swings kX12 oX12_swings = true := by decide +kernel
theorem eX12_isLeast : xs_decB cX12_isLeast oX12_isLeast = true := by decide +kernel
theorem fX12_isLeast : xs_thrB cX12_isLeast kX12 oX12_isLeast = true := by decide +kernel
theorem eX12_minimal : xs_decB cX12_minimal oX12_minimal = true := by decide +kernel
theorem fX12_minimal : xs_thrB cX12_minimal kX12 oX12_minimal = true := by decide +kernel
theorem eX12_dummies : xs_decB cX12_dummies oX12_dummies = true := by decide +kernel
theorem fX12_dummies : xs_thrB cX12_dummies kX12 oX12_dummies = true := by decide +kernel
theorem eX12_net : xs_decB cX12_net oX12_net = true := by decide +kernel
theorem fX12_net : xs_thrB cX12_net kX12 oX12_net = true := by decide +kernel
theorem eX12_owesOf : xs_decB cX12_owesOf oX12_owesOf = true := by decide +kernel
theorem fX12_owesOf : xs_thrB cX12_owesOf kX12 oX12_owesOf = true := by decide +kernel
theorem eX12_debt : xs_decB cX12_debt oX12_debt = true := by decide +kernel
theorem fX12_debt : xs_thrB cX12_debt kX12 oX12_debt = true := by decide +kernel
theorem eX12_ring : xs_decB cX12_ring oX12_ring = true := by decide +kernel
theorem fX12_ring : xs_thrB cX12_ring kX12 oX12_ring = true := by decide +kernel
theorem eX12_poorest : xs_decB cX12_poorest oX12_poorest = true := by decide +kernel
theorem fX12_poorest : xs_thrB cX12_poorest kX12 oX12_poorest = true := by decide +kernel
theorem eX12_hasBy : xs_decB cX12_hasBy oX12_hasBy = true := by decide +kernel
theorem fX12_hasBy : xs_thrB cX12_hasBy kX12 oX12_hasBy = true := by decide +kernel
theorem eX12_rests : xs_decB cX12_rests oX12_rests = true := by decide +kernel
theorem fX12_rests : xs_thrB cX12_rests kX12 oX12_rests = true := by decide +kernel
theorem eX12_odds : xs_decB cX12_odds oX12_odds = true := by decide +kernel
theorem fX12_odds : xs_thrB cX12_odds kX12 oX12_odds = true := by decide +kernel
theorem eX12_busy : xs_decB cX12_busy oX12_busy = true := by decide +kernel
theorem fX12_busy : xs_thrB cX12_busy kX12 oX12_busy = true := by decide +kernel
theorem eX12_alone : xs_decB cX12_alone oX12_alone = true := by decide +kernel
theorem fX12_alone : xs_thrB cX12_alone kX12 oX12_alone = true := by decide +kernel
theorem eX12_miser : xs_decB cX12_miser oX12_miser = true := by decide +kernel
theorem fX12_miser : xs_thrB cX12_miser kX12 oX12_miser = true := by decide +kernel
theorem eX12_alike : xs_decB cX12_alike oX12_alike = true := by decide +kernel
theorem fX12_alike : xs_thrB cX12_alike kX12 oX12_alike = true := by decide +kernel
theorem eX12_trial : xs_decB cX12_trial oX12_trial = true := by decide +kernel
theorem fX12_trial : xs_thrB cX12_trial kX12 oX12_trial = true := by decide +kernel
theorem eX12_span : xs_decB cX12_span oX12_span = true := by decide +kernel
theorem fX12_span : xs_thrB cX12_span kX12 oX12_span = true := by decide +kernel
theorem eX12_logged : xs_decB cX12_logged oX12_logged = true := by decide +kernel
theorem fX12_logged : xs_thrB cX12_logged kX12 oX12_logged = true := by decide +kernel
theorem eX12_led : xs_decB cX12_led oX12_led = true := by decide +kernel
theorem fX12_led : xs_thrB cX12_led kX12 oX12_led = true := by decide +kernel
theorem eX12_log : xs_decB cX12_log oX12_log = true := by decide +kernel
theorem fX12_log : xs_thrB cX12_log kX12 oX12_log = true := by decide +kernel
theorem eX12_seed : xs_decB cX12_seed oX12_seed = true := by decide +kernel
theorem fX12_seed : xs_thrB cX12_seed kX12 oX12_seed = true := by decide +kernel
theorem eX12_undo : xs_decB cX12_undo oX12_undo = true := by decide +kernel
theorem fX12_undo : xs_thrB cX12_undo kX12 oX12_undo = true := by decide +kernel
theorem eX12_image : xs_decB cX12_image oX12_image = true := by decide +kernel
theorem fX12_image : xs_thrB cX12_image kX12 oX12_image = true := by decide +kernel
theorem eX12_back : xs_decB cX12_back oX12_back = true := by decide +kernel
theorem fX12_back : xs_thrB cX12_back kX12 oX12_back = true := by decide +kernel
theorem eX12_count : xs_decB cX12_count oX12_count = true := by decide +kernel
theorem fX12_count : xs_thrB cX12_count kX12 oX12_count = true := by decide +kernel
theorem eL_house : xs_decB cL_house oL_house = true := by decide +kernel
theorem fL_house : xs_thrB cL_house kL oL_house = true := by decide +kernel
theorem eL_law : xs_decB cL_law oL_law = true := by decide +kernel
theorem fL_law : xs_thrB cL_law kL oL_law = true := by decide +kernel
theorem eL_lodger : xs_decB cL_lodger oL_lodger = true := by decide +kernel
theorem fL_lodger : xs_thrB cL_lodger kL oL_lodger = true := by decide +kernel
theorem eL_owes : xs_decB cL_owes oL_owes = true := by decide +kernel
theorem fL_owes : xs_thrB cL_owes kL oL_owes = true := by decide +kernel
theorem eL_isHome : xs_decB cL_isHome oL_isHome = true := by decide +kernel
theorem fL_isHome : xs_thrB cL_isHome kL oL_isHome = true := by decide +kernel
theorem eL_needs : xs_decB cL_needs oL_needs = true := by decide +kernel
theorem fL_needs : xs_thrB cL_needs kL oL_needs = true := by decide +kernel
theorem eL_ticks : xs_decB cL_ticks oL_ticks = true := by decide +kernel
theorem fL_ticks : xs_thrB cL_ticks kL oL_ticks = true := by decide +kernel
theorem eL_put : xs_decB cL_put oL_put = true := by decide +kernel
theorem fL_put : xs_thrB cL_put kL oL_put = true := by decide +kernel
theorem eL_lend : xs_decB cL_lend oL_lend = true := by decide +kernel
theorem fL_lend : xs_thrB cL_lend kL oL_lend = true := by decide +kernel
theorem eL_repay : xs_decB cL_repay oL_repay = true := by decide +kernel
theorem fL_repay : xs_thrB cL_repay kL oL_repay = true := by decide +kernel
theorem eL_waits : xs_decB cL_waits oL_waits = true := by decide +kernel
theorem fL_waits : xs_thrB cL_waits kL oL_waits = true := by decide +kernel
theorem eL_price : xs_decB cL_price oL_price = true := by decide +kernel
theorem fL_price : xs_thrB cL_price kL oL_price = true := by decide +kernel
theorem eL_change : xs_decB cL_change oL_change = true := by decide +kernel
theorem fL_change : xs_thrB cL_change kL oL_change = true := by decide +kernel
theorem eL_home : xs_decB cL_home oL_home = true := by decide +kernel
theorem fL_home : xs_thrB cL_home kL oL_home = true := by decide +kernel
theorem eL_after : xs_decB cL_after oL_after = true := by decide +kernel
theorem fL_after : xs_thrB cL_after kL oL_after = true := by decide +kernel
theorem eL_coins : xs_decB cL_coins oL_coins = true := by decide +kernel
theorem fL_coins : xs_thrB cL_coins kL oL_coins = true := by decide +kernel
theorem eL_ease : xs_decB cL_ease oL_ease = true := by decide +kernel
theorem fL_ease : xs_thrB cL_ease kL oL_ease = true := by decide +kernel
theorem eL_grief : xs_decB cL_grief oL_grief = true := by decide +kernel
theorem fL_grief : xs_thrB cL_grief kL oL_grief = true := by decide +kernel
theorem eL_saint : xs_decB cL_saint oL_saint = true := by decide +kernel
theorem fL_saint : xs_thrB cL_saint kL oL_saint = true := by decide +kernel
theorem eL_fair : xs_decB cL_fair oL_fair = true := by decide +kernel
theorem fL_fair : xs_thrB cL_fair kL oL_fair = true := by decide +kernel
theorem eL_stand : xs_decB cL_stand oL_stand = true := by decide +kernel
theorem fL_stand : xs_thrB cL_stand kL oL_stand = true := by decide +kernel
theorem eL_earns : xs_decB cL_earns oL_earns = true := by decide +kernel
theorem fL_earns : xs_thrB cL_earns kL oL_earns = true := by decide +kernel
theorem eL_culprit : xs_decB cL_culprit oL_culprit = true := by decide +kernel
theorem fL_culprit : xs_thrB cL_culprit kL oL_culprit = true := by decide +kernel
theorem eL_ask : xs_decB cL_ask oL_ask = true := by decide +kernel
theorem fL_ask : xs_thrB cL_ask kL oL_ask = true := by decide +kernel
theorem eL_drawn : xs_decB cL_drawn oL_drawn = true := by decide +kernel
theorem fL_drawn : xs_thrB cL_drawn kL oL_drawn = true := by decide +kernel
theorem eL_warmer : xs_decB cL_warmer oL_warmer = true := by decide +kernel
theorem fL_warmer : xs_thrB cL_warmer kL oL_warmer = true := by decide +kernel
theorem eL_pairs : xs_decB cL_pairs oL_pairs = true := by decide +kernel
theorem fL_pairs : xs_thrB cL_pairs kL oL_pairs = true := by decide +kernel
theorem eL_swings : xs_decB cL_swings oL_swings = true := by decide +kernel
theorem fL_swings : xs_thrB cL_swings kL oL_swings = true := by decide +kernel
theorem eL_net : xs_decB cL_net oL_net = true := by decide +kernel
theorem fL_net : xs_thrB cL_net kL oL_net = true := by decide +kernel
theorem eL_ring : xs_decB cL_ring oL_ring = true := by decide +kernel
theorem fL_ring : xs_thrB cL_ring kL oL_ring = true := by decide +kernel
theorem eL_rests : xs_decB cL_rests oL_rests = true := by decide +kernel
theorem fL_rests : xs_thrB cL_rests kL oL_rests = true := by decide +kernel
theorem eL_odds : xs_decB cL_odds oL_odds = true := by decide +kernel
theorem fL_odds : xs_thrB cL_odds kL oL_odds = true := by decide +kernel
theorem eL_trial : xs_decB cL_trial oL_trial = true := by decide +kernel
theorem fL_trial : xs_thrB cL_trial kL oL_trial = true := by decide +kernel
theorem eL_span : xs_decB cL_span oL_span = true := by decide +kernel
theorem fL_span : xs_thrB cL_span kL oL_span = true := by decide +kernel
theorem eL_led : xs_decB cL_led oL_led = true := by decide +kernel
theorem fL_led : xs_thrB cL_led kL oL_led = true := by decide +kernel
theorem eL_log : xs_decB cL_log oL_log = true := by decide +kernel
theorem fL_log : xs_thrB cL_log kL oL_log = true := by decide +kernel
theorem eJ6_bitCount_0f7a4 : xs_decB cJ6_bitCount_0f7a4 oJ6_bitCount_0f7a4 = true := by decide +kernel
theorem fJ6_bitCount_0f7a4 : xs_thrB cJ6_bitCount_0f7a4 kJ6 oJ6_bitCount_0f7a4 = true := by decide +kernel
theorem eJ9_floorMod_7cf53 : xs_decB cJ9_floorMod_7cf53 oJ9_floorMod_7cf53 = true := by decide +kernel
theorem fJ9_floorMod_7cf53 : xs_thrB cJ9_floorMod_7cf53 ([] : List (Nat × xe_L)) oJ9_floorMod_7cf53 = true := by decide +kernel
theorem eJ9_max_7cf53 : xs_decB cJ9_max_7cf53 oJ9_max_7cf53 = true := by decide +kernel
theorem fJ9_max_7cf53 : xs_thrB cJ9_max_7cf53 ([] : List (Nat × xe_L)) oJ9_max_7cf53 = true := by decide +kernel
theorem eJ9_min_7cf53 : xs_decB cJ9_min_7cf53 oJ9_min_7cf53 = true := by decide +kernel
theorem fJ9_min_7cf53 : xs_thrB cJ9_min_7cf53 ([] : List (Nat × xe_L)) oJ9_min_7cf53 = true := by decide +kernel
theorem eL_law__0 : xs_decB cL_law_ oL_law__0 = true := by decide +kernel
theorem fL_law__0 : xs_thrB cL_law_ kL oL_law__0 = true := by decide +kernel
theorem eL_law__1 : xs_decB cL_law_ oL_law__1 = true := by decide +kernel
theorem fL_law__1 : xs_thrB cL_law_ kL oL_law__1 = true := by decide +kernel
theorem eL_law__2 : xs_decB cL_law_ oL_law__2 = true := by decide +kernel
theorem fL_law__2 : xs_thrB cL_law_ kL oL_law__2 = true := by decide +kernel
theorem eL_law__3 : xs_decB cL_law_ oL_law__3 = true := by decide +kernel
theorem fL_law__3 : xs_thrB cL_law_ kL oL_law__3 = true := by decide +kernel
theorem eL_law__4 : xs_decB cL_law_ oL_law__4 = true := by decide +kernel
theorem fL_law__4 : xs_thrB cL_law_ kL oL_law__4 = true := by decide +kernel
theorem eL_law__5 : xs_decB cL_law_ oL_law__5 = true := by decide +kernel
theorem fL_law__5 : xs_thrB cL_law_ kL oL_law__5 = true := by decide +kernel
theorem eL_law__6 : xs_decB cL_law_ oL_law__6 = true := by decide +kernel
theorem fL_law__6 : xs_thrB cL_law_ kL oL_law__6 = true := by decide +kernel
theorem eL_law__7 : xs_decB cL_law_ oL_law__7 = true := by decide +kernel
theorem fL_law__7 : xs_thrB cL_law_ kL oL_law__7 = true := by decide +kernel
theorem eL_law__8 : xs_decB cL_law_ oL_law__8 = true := by decide +kernel
theorem fL_law__8 : xs_thrB cL_law_ kL oL_law__8 = true := by decide +kernel
theorem eL_law__9 : xs_decB cL_law_ oL_law__9 = true := by decide +kernel
theorem fL_law__9 : xs_thrB cL_law_ kL oL_law__9 = true := by decide +kernel
theorem eL_law__10 : xs_decB cL_law_ oL_law__10 = true := by decide +kernel
theorem fL_law__10 : xs_thrB cL_law_ kL oL_law__10 = true := by decide +kernel
theorem eL_law__11 : xs_decB cL_law_ oL_law__11 = true := by decide +kernel
theorem fL_law__11 : xs_thrB cL_law_ kL oL_law__11 = true := by decide +kernel
theorem eL_law__12 : xs_decB cL_law_ oL_law__12 = true := by decide +kernel
theorem fL_law__12 : xs_thrB cL_law_ kL oL_law__12 = true := by decide +kernel
theorem eL_law__13 : xs_decB cL_law_ oL_law__13 = true := by decide +kernel
theorem fL_law__13 : xs_thrB cL_law_ kL oL_law__13 = true := by decide +kernel
theorem eL_law__14 : xs_decB cL_law_ oL_law__14 = true := by decide +kernel
theorem fL_law__14 : xs_thrB cL_law_ kL oL_law__14 = true := by decide +kernel
theorem eL_law__15 : xs_decB cL_law_ oL_law__15 = true := by decide +kernel
theorem fL_law__15 : xs_thrB cL_law_ kL oL_law__15 = true := by decide +kernel
theorem eL_law__16 : xs_decB cL_law_ oL_law__16 = true := by decide +kernel
theorem fL_law__16 : xs_thrB cL_law_ kL oL_law__16 = true := by decide +kernel
theorem eL_law__17 : xs_decB cL_law_ oL_law__17 = true := by decide +kernel
theorem fL_law__17 : xs_thrB cL_law_ kL oL_law__17 = true := by decide +kernel
theorem eL_law__18 : xs_decB cL_law_ oL_law__18 = true := by decide +kernel
theorem fL_law__18 : xs_thrB cL_law_ kL oL_law__18 = true := by decide +kernel
theorem eL_law__19 : xs_decB cL_law_ oL_law__19 = true := by decide +kernel
theorem fL_law__19 : xs_thrB cL_law_ kL oL_law__19 = true := by decide +kernel
theorem eL_law__20 : xs_decB cL_law_ oL_law__20 = true := by decide +kernel
theorem fL_law__20 : xs_thrB cL_law_ kL oL_law__20 = true := by decide +kernel
theorem eL_law__21 : xs_decB cL_law_ oL_law__21 = true := by decide +kernel
theorem fL_law__21 : xs_thrB cL_law_ kL oL_law__21 = true := by decide +kernel
theorem eL_law__22 : xs_decB cL_law_ oL_law__22 = true := by decide +kernel
theorem fL_law__22 : xs_thrB cL_law_ kL oL_law__22 = true := by decide +kernel
theorem eL_law__23 : xs_decB cL_law_ oL_law__23 = true := by decide +kernel
theorem fL_law__23 : xs_thrB cL_law_ kL oL_law__23 = true := by decide +kernel
theorem eL_law__24 : xs_decB cL_law_ oL_law__24 = true := by decide +kernel
theorem fL_law__24 : xs_thrB cL_law_ kL oL_law__24 = true := by decide +kernel
theorem eL_law__25 : xs_decB cL_law_ oL_law__25 = true := by decide +kernel
theorem fL_law__25 : xs_thrB cL_law_ kL oL_law__25 = true := by decide +kernel
theorem eL_law__26 : xs_decB cL_law_ oL_law__26 = true := by decide +kernel
theorem fL_law__26 : xs_thrB cL_law_ kL oL_law__26 = true := by decide +kernel
theorem eL_law__27 : xs_decB cL_law_ oL_law__27 = true := by decide +kernel
theorem fL_law__27 : xs_thrB cL_law_ kL oL_law__27 = true := by decide +kernel
theorem eL_law__28 : xs_decB cL_law_ oL_law__28 = true := by decide +kernel
theorem fL_law__28 : xs_thrB cL_law_ kL oL_law__28 = true := by decide +kernel
theorem eL_law__29 : xs_decB cL_law_ oL_law__29 = true := by decide +kernel
theorem fL_law__29 : xs_thrB cL_law_ kL oL_law__29 = true := by decide +kernel
theorem eL_law__30 : xs_decB cL_law_ oL_law__30 = true := by decide +kernel
theorem fL_law__30 : xs_thrB cL_law_ kL oL_law__30 = true := by decide +kernel
theorem eL_law__31 : xs_decB cL_law_ oL_law__31 = true := by decide +kernel
theorem fL_law__31 : xs_thrB cL_law_ kL oL_law__31 = true := by decide +kernel
theorem eL_law__32 : xs_decB cL_law_ oL_law__32 = true := by decide +kernel
theorem fL_law__32 : xs_thrB cL_law_ kL oL_law__32 = true := by decide +kernel
theorem eL_law__33 : xs_decB cL_law_ oL_law__33 = true := by decide +kernel
theorem fL_law__33 : xs_thrB cL_law_ kL oL_law__33 = true := by decide +kernel
theorem eL_law__34 : xs_decB cL_law_ oL_law__34 = true := by decide +kernel
theorem fL_law__34 : xs_thrB cL_law_ kL oL_law__34 = true := by decide +kernel
theorem eL_law__35 : xs_decB cL_law_ oL_law__35 = true := by decide +kernel
theorem fL_law__35 : xs_thrB cL_law_ kL oL_law__35 = true := by decide +kernel
theorem eL_law__36 : xs_decB cL_law_ oL_law__36 = true := by decide +kernel
theorem fL_law__36 : xs_thrB cL_law_ kL oL_law__36 = true := by decide +kernel
theorem eL_law__37 : xs_decB cL_law_ oL_law__37 = true := by decide +kernel
theorem fL_law__37 : xs_thrB cL_law_ kL oL_law__37 = true := by decide +kernel
theorem eL_law__38 : xs_decB cL_law_ oL_law__38 = true := by decide +kernel
theorem fL_law__38 : xs_thrB cL_law_ kL oL_law__38 = true := by decide +kernel
theorem eL_law__39 : xs_decB cL_law_ oL_law__39 = true := by decide +kernel
theorem fL_law__39 : xs_thrB cL_law_ kL oL_law__39 = true := by decide +kernel
theorem eL_law__40 : xs_decB cL_law_ oL_law__40 = true := by decide +kernel
theorem fL_law__40 : xs_thrB cL_law_ kL oL_law__40 = true := by decide +kernel
theorem eL_law__41 : xs_decB cL_law_ oL_law__41 = true := by decide +kernel
theorem fL_law__41 : xs_thrB cL_law_ kL oL_law__41 = true := by decide +kernel
theorem eL_law__42 : xs_decB cL_law_ oL_law__42 = true := by decide +kernel
theorem fL_law__42 : xs_thrB cL_law_ kL oL_law__42 = true := by decide +kernel
theorem eL_law__43 : xs_decB cL_law_ oL_law__43 = true := by decide +kernel
theorem fL_law__43 : xs_thrB cL_law_ kL oL_law__43 = true := by decide +kernel
theorem eL_law__44 : xs_decB cL_law_ oL_law__44 = true := by decide +kernel
theorem fL_law__44 : xs_thrB cL_law_ kL oL_law__44 = true := by decide +kernel
theorem eL_law__45 : xs_decB cL_law_ oL_law__45 = true := by decide +kernel
theorem fL_law__45 : xs_thrB cL_law_ kL oL_law__45 = true := by decide +kernel
theorem eL_law__46 : xs_decB cL_law_ oL_law__46 = true := by decide +kernel
theorem fL_law__46 : xs_thrB cL_law_ kL oL_law__46 = true := by decide +kernel
theorem eL_law__47 : xs_decB cL_law_ oL_law__47 = true := by decide +kernel
theorem fL_law__47 : xs_thrB cL_law_ kL oL_law__47 = true := by decide +kernel
theorem eL_law__48 : xs_decB cL_law_ oL_law__48 = true := by decide +kernel
theorem fL_law__48 : xs_thrB cL_law_ kL oL_law__48 = true := by decide +kernel
theorem eL_law__49 : xs_decB cL_law_ oL_law__49 = true := by decide +kernel
theorem fL_law__49 : xs_thrB cL_law_ kL oL_law__49 = true := by decide +kernel
theorem eL_law__50 : xs_decB cL_law_ oL_law__50 = true := by decide +kernel
theorem fL_law__50 : xs_thrB cL_law_ kL oL_law__50 = true := by decide +kernel
theorem eL_law__51 : xs_decB cL_law_ oL_law__51 = true := by decide +kernel
theorem fL_law__51 : xs_thrB cL_law_ kL oL_law__51 = true := by decide +kernel
theorem eL_law__52 : xs_decB cL_law_ oL_law__52 = true := by decide +kernel
theorem fL_law__52 : xs_thrB cL_law_ kL oL_law__52 = true := by decide +kernel
theorem eL_law__53 : xs_decB cL_law_ oL_law__53 = true := by decide +kernel
theorem fL_law__53 : xs_thrB cL_law_ kL oL_law__53 = true := by decide +kernel
theorem eL_law__54 : xs_decB cL_law_ oL_law__54 = true := by decide +kernel
theorem fL_law__54 : xs_thrB cL_law_ kL oL_law__54 = true := by decide +kernel
theorem eL_law__55 : xs_decB cL_law_ oL_law__55 = true := by decide +kernel
theorem fL_law__55 : xs_thrB cL_law_ kL oL_law__55 = true := by decide +kernel
theorem eL_law__56 : xs_decB cL_law_ oL_law__56 = true := by decide +kernel
theorem fL_law__56 : xs_thrB cL_law_ kL oL_law__56 = true := by decide +kernel
theorem eL_law__57 : xs_decB cL_law_ oL_law__57 = true := by decide +kernel
theorem fL_law__57 : xs_thrB cL_law_ kL oL_law__57 = true := by decide +kernel
theorem eL_law__58 : xs_decB cL_law_ oL_law__58 = true := by decide +kernel
theorem fL_law__58 : xs_thrB cL_law_ kL oL_law__58 = true := by decide +kernel
theorem eL_law__59 : xs_decB cL_law_ oL_law__59 = true := by decide +kernel
theorem fL_law__59 : xs_thrB cL_law_ kL oL_law__59 = true := by decide +kernel
theorem eL_law__60 : xs_decB cL_law_ oL_law__60 = true := by decide +kernel
theorem fL_law__60 : xs_thrB cL_law_ kL oL_law__60 = true := by decide +kernel
theorem eL_law__61 : xs_decB cL_law_ oL_law__61 = true := by decide +kernel
theorem fL_law__61 : xs_thrB cL_law_ kL oL_law__61 = true := by decide +kernel
theorem eL_law__62 : xs_decB cL_law_ oL_law__62 = true := by decide +kernel
theorem fL_law__62 : xs_thrB cL_law_ kL oL_law__62 = true := by decide +kernel
theorem eL_law__63 : xs_decB cL_law_ oL_law__63 = true := by decide +kernel
theorem fL_law__63 : xs_thrB cL_law_ kL oL_law__63 = true := by decide +kernel
theorem eL_law__64 : xs_decB cL_law_ oL_law__64 = true := by decide +kernel
theorem fL_law__64 : xs_thrB cL_law_ kL oL_law__64 = true := by decide +kernel
theorem eL_law__65 : xs_decB cL_law_ oL_law__65 = true := by decide +kernel
theorem fL_law__65 : xs_thrB cL_law_ kL oL_law__65 = true := by decide +kernel
theorem eL_law__66 : xs_decB cL_law_ oL_law__66 = true := by decide +kernel
theorem fL_law__66 : xs_thrB cL_law_ kL oL_law__66 = true := by decide +kernel
theorem eL_law__67 : xs_decB cL_law_ oL_law__67 = true := by decide +kernel
theorem fL_law__67 : xs_thrB cL_law_ kL oL_law__67 = true := by decide +kernel
theorem eL_law__68 : xs_decB cL_law_ oL_law__68 = true := by decide +kernel
theorem fL_law__68 : xs_thrB cL_law_ kL oL_law__68 = true := by decide +kernel
theorem eL_law__69 : xs_decB cL_law_ oL_law__69 = true := by decide +kernel
theorem fL_law__69 : xs_thrB cL_law_ kL oL_law__69 = true := by decide +kernel
theorem eL_law__70 : xs_decB cL_law_ oL_law__70 = true := by decide +kernel
theorem fL_law__70 : xs_thrB cL_law_ kL oL_law__70 = true := by decide +kernel
theorem eL_law__71 : xs_decB cL_law_ oL_law__71 = true := by decide +kernel
theorem fL_law__71 : xs_thrB cL_law_ kL oL_law__71 = true := by decide +kernel
theorem eL_law__72 : xs_decB cL_law_ oL_law__72 = true := by decide +kernel
theorem fL_law__72 : xs_thrB cL_law_ kL oL_law__72 = true := by decide +kernel
theorem eL_law__73 : xs_decB cL_law_ oL_law__73 = true := by decide +kernel
theorem fL_law__73 : xs_thrB cL_law_ kL oL_law__73 = true := by decide +kernel
theorem eL_law_ : xs_decB cL_law_ oL_law_ = true := (xs_decB_app eL_law__0 (xs_decB_app eL_law__1 (xs_decB_app eL_law__2 (xs_decB_app eL_law__3 (xs_decB_app eL_law__4 (xs_decB_app eL_law__5 (xs_decB_app eL_law__6 (xs_decB_app eL_law__7 (xs_decB_app eL_law__8 (xs_decB_app eL_law__9 (xs_decB_app eL_law__10 (xs_decB_app eL_law__11 (xs_decB_app eL_law__12 (xs_decB_app eL_law__13 (xs_decB_app eL_law__14 (xs_decB_app eL_law__15 (xs_decB_app eL_law__16 (xs_decB_app eL_law__17 (xs_decB_app eL_law__18 (xs_decB_app eL_law__19 (xs_decB_app eL_law__20 (xs_decB_app eL_law__21 (xs_decB_app eL_law__22 (xs_decB_app eL_law__23 (xs_decB_app eL_law__24 (xs_decB_app eL_law__25 (xs_decB_app eL_law__26 (xs_decB_app eL_law__27 (xs_decB_app eL_law__28 (xs_decB_app eL_law__29 (xs_decB_app eL_law__30 (xs_decB_app eL_law__31 (xs_decB_app eL_law__32 (xs_decB_app eL_law__33 (xs_decB_app eL_law__34 (xs_decB_app eL_law__35 (xs_decB_app eL_law__36 (xs_decB_app eL_law__37 (xs_decB_app eL_law__38 (xs_decB_app eL_law__39 (xs_decB_app eL_law__40 (xs_decB_app eL_law__41 (xs_decB_app eL_law__42 (xs_decB_app eL_law__43 (xs_decB_app eL_law__44 (xs_decB_app eL_law__45 (xs_decB_app eL_law__46 (xs_decB_app eL_law__47 (xs_decB_app eL_law__48 (xs_decB_app eL_law__49 (xs_decB_app eL_law__50 (xs_decB_app eL_law__51 (xs_decB_app eL_law__52 (xs_decB_app eL_law__53 (xs_decB_app eL_law__54 (xs_decB_app eL_law__55 (xs_decB_app eL_law__56 (xs_decB_app eL_law__57 (xs_decB_app eL_law__58 (xs_decB_app eL_law__59 (xs_decB_app eL_law__60 (xs_decB_app eL_law__61 (xs_decB_app eL_law__62 (xs_decB_app eL_law__63 (xs_decB_app eL_law__64 (xs_decB_app eL_law__65 (xs_decB_app eL_law__66 (xs_decB_app eL_law__67 (xs_decB_app eL_law__68 (xs_decB_app eL_law__69 (xs_decB_app eL_law__70 (xs_decB_app eL_law__71 (xs_decB_app eL_law__72 eL_law__73)))))))))))))))))))))))))))))))))))))))))))))))))))))))))))))))))))))))))
theorem fL_law_ : xs_thrB cL_law_ kL oL_law_ = true := (xs_thrB_app fL_law__0 (xs_thrB_app fL_law__1 (xs_thrB_app fL_law__2 (xs_thrB_app fL_law__3 (xs_thrB_app fL_law__4 (xs_thrB_app fL_law__5 (xs_thrB_app fL_law__6 (xs_thrB_app fL_law__7 (xs_thrB_app fL_law__8 (xs_thrB_app fL_law__9 (xs_thrB_app fL_law__10 (xs_thrB_app fL_law__11 (xs_thrB_app fL_law__12 (xs_thrB_app fL_law__13 (xs_thrB_app fL_law__14 (xs_thrB_app fL_law__15 (xs_thrB_app fL_law__16 (xs_thrB_app fL_law__17 (xs_thrB_app fL_law__18 (xs_thrB_app fL_law__19 (xs_thrB_app fL_law__20 (xs_thrB_app fL_law__21 (xs_thrB_app fL_law__22 (xs_thrB_app fL_law__23 (xs_thrB_app fL_law__24 (xs_thrB_app fL_law__25 (xs_thrB_app fL_law__26 (xs_thrB_app fL_law__27 (xs_thrB_app fL_law__28 (xs_thrB_app fL_law__29 (xs_thrB_app fL_law__30 (xs_thrB_app fL_law__31 (xs_thrB_app fL_law__32 (xs_thrB_app fL_law__33 (xs_thrB_app fL_law__34 (xs_thrB_app fL_law__35 (xs_thrB_app fL_law__36 (xs_thrB_app fL_law__37 (xs_thrB_app fL_law__38 (xs_thrB_app fL_law__39 (xs_thrB_app fL_law__40 (xs_thrB_app fL_law__41 (xs_thrB_app fL_law__42 (xs_thrB_app fL_law__43 (xs_thrB_app fL_law__44 (xs_thrB_app fL_law__45 (xs_thrB_app fL_law__46 (xs_thrB_app fL_law__47 (xs_thrB_app fL_law__48 (xs_thrB_app fL_law__49 (xs_thrB_app fL_law__50 (xs_thrB_app fL_law__51 (xs_thrB_app fL_law__52 (xs_thrB_app fL_law__53 (xs_thrB_app fL_law__54 (xs_thrB_app fL_law__55 (xs_thrB_app fL_law__56 (xs_thrB_app fL_law__57 (xs_thrB_app fL_law__58 (xs_thrB_app fL_law__59 (xs_thrB_app fL_law__60 (xs_thrB_app fL_law__61 (xs_thrB_app fL_law__62 (xs_thrB_app fL_law__63 (xs_thrB_app fL_law__64 (xs_thrB_app fL_law__65 (xs_thrB_app fL_law__66 (xs_thrB_app fL_law__67 (xs_thrB_app fL_law__68 (xs_thrB_app fL_law__69 (xs_thrB_app fL_law__70 (xs_thrB_app fL_law__71 (xs_thrB_app fL_law__72 fL_law__73)))))))))))))))))))))))))))))))))))))))))))))))))))))))))))))))))))))))))
