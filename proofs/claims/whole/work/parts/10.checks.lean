/-! CHECKS of the tables, by program -/
theorem kX0_take : oh_ckT oh_mi yX0_take.cls (none) cX0_take tX0_take = true := by decide +kernel
theorem kX0_drawn : oh_ckT oh_mi yX0_drawn.cls ((some FieldType.int)) cX0_drawn tX0_drawn = true := by decide +kernel
theorem kX0_ringLoosely : oh_ckT oh_mi yX0_ringLoosely.cls (none) cX0_ringLoosely tX0_ringLoosely = true := by decide +kernel
theorem kX1_gives : oh_ckT oh_mi yX1_gives.cls ((some FieldType.int)) cX1_gives tX1_gives = true := by decide +kernel
theorem kX1_workedOut : oh_ckT oh_mi yX1_workedOut.cls ((some FieldType.int)) cX1_workedOut tX1_workedOut = true := by decide +kernel
theorem kX1_named : oh_ckT oh_mi yX1_named.cls ((some FieldType.int)) cX1_named tX1_named = true := by decide +kernel
theorem kX1_joined : oh_ckT oh_mi yX1_joined.cls ((some FieldType.int)) cX1_joined tX1_joined = true := by decide +kernel
theorem kX2_faultOf : oh_ckT oh_mi yX2_faultOf.cls ((some FieldType.int)) cX2_faultOf tX2_faultOf = true := by decide +kernel
theorem kX2_readLevel : oh_ckT oh_mi yX2_readLevel.cls ((some FieldType.boolean)) cX2_readLevel tX2_readLevel = true := by decide +kernel
theorem kX2_readUnit : oh_ckT oh_mi yX2_readUnit.cls ((some FieldType.boolean)) cX2_readUnit tX2_readUnit = true := by decide +kernel
theorem kX2_readNot : oh_ckT oh_mi yX2_readNot.cls ((some FieldType.boolean)) cX2_readNot tX2_readNot = true := by decide +kernel
theorem kX2_readInside : oh_ckT oh_mi yX2_readInside.cls ((some FieldType.boolean)) cX2_readInside tX2_readInside = true := by decide +kernel
theorem kX2_readNumber : oh_ckT oh_mi yX2_readNumber.cls (none) cX2_readNumber tX2_readNumber = true := by decide +kernel
theorem kX2_next : oh_ckT oh_mi yX2_next.cls ((some FieldType.int)) cX2_next tX2_next = true := by decide +kernel
theorem kX2_isDigit : oh_ckT oh_mi yX2_isDigit.cls ((some FieldType.boolean)) cX2_isDigit tX2_isDigit = true := by decide +kernel
theorem kX2_isSignOf : oh_ckT oh_mi yX2_isSignOf.cls ((some FieldType.boolean)) cX2_isSignOf tX2_isSignOf = true := by decide +kernel
theorem kX3_add : oh_ckT oh_mi yX3_add.cls (none) cX3_add tX3_add = true := by decide +kernel
theorem kX3_get : oh_ckT oh_mi yX3_get.cls ((some FieldType.int)) cX3_get tX3_get = true := by decide +kernel
theorem kX3_clear : oh_ckT oh_mi yX3_clear.cls (none) cX3_clear tX3_clear = true := by decide +kernel
theorem kX3_take : oh_ckT oh_mi yX3_take.cls (none) cX3_take tX3_take = true := by decide +kernel
theorem kX4_take : oh_ckT oh_mi yX4_take.cls (none) cX4_take tX4_take = true := by decide +kernel
theorem kX4_worldCount : oh_ckT oh_mi yX4_worldCount.cls ((some FieldType.int)) cX4_worldCount tX4_worldCount = true := by decide +kernel
theorem kX4_addMan : oh_ckT oh_mi yX4_addMan.cls ((some FieldType.int)) cX4_addMan tX4_addMan = true := by decide +kernel
theorem kX4_givenBy : oh_ckT oh_mi yX4_givenBy.cls ((some FieldType.long)) cX4_givenBy tX4_givenBy = true := by decide +kernel
theorem kX4_thought : oh_ckT oh_mi yX4_thought.cls ((some FieldType.long)) cX4_thought tX4_thought = true := by decide +kernel
theorem kX4_hasSpoken : oh_ckT oh_mi yX4_hasSpoken.cls ((some FieldType.boolean)) cX4_hasSpoken tX4_hasSpoken = true := by decide +kernel
theorem kX4_speaks : oh_ckT oh_mi yX4_speaks.cls ((some FieldType.boolean)) cX4_speaks tX4_speaks = true := by decide +kernel
theorem kX4_isSure : oh_ckT oh_mi yX4_isSure.cls ((some FieldType.boolean)) cX4_isSure tX4_isSure = true := by decide +kernel
theorem kX4_speakers : oh_ckT oh_mi yX4_speakers.cls ((some FieldType.int)) cX4_speakers tX4_speakers = true := by decide +kernel
theorem kX4_sayings : oh_ckT oh_mi yX4_sayings.cls ((some FieldType.int)) cX4_sayings tX4_sayings = true := by decide +kernel
theorem kX4_ring : oh_ckT oh_mi yX4_ring.cls ((some FieldType.boolean)) cX4_ring tX4_ring = true := by decide +kernel
theorem kX4_hear : oh_ckT oh_mi yX4_hear.cls ((some FieldType.boolean)) cX4_hear tX4_hear = true := by decide +kernel
theorem kX4_fitting : oh_ckT oh_mi yX4_fitting.cls ((some FieldType.long)) cX4_fitting tX4_fitting = true := by decide +kernel
theorem kX4_payAll : oh_ckT oh_mi yX4_payAll.cls (none) cX4_payAll tX4_payAll = true := by decide +kernel
theorem kX4_isPastAllNumbers : oh_ckT oh_mi yX4_isPastAllNumbers.cls ((some FieldType.boolean)) cX4_isPastAllNumbers tX4_isPastAllNumbers = true := by decide +kernel
theorem kX5_renew : oh_ckT oh_mi yX5_renew.cls (none) cX5_renew tX5_renew = true := by decide +kernel
theorem kX5_write : oh_ckT oh_mi yX5_write.cls (none) cX5_write tX5_write = true := by decide +kernel
theorem kX5_hasRun : oh_ckT oh_mi yX5_hasRun.cls ((some FieldType.boolean)) cX5_hasRun tX5_hasRun = true := by decide +kernel
theorem kX5_asWorlds : oh_ckT oh_mi yX5_asWorlds.cls ((some FieldType.long)) cX5_asWorlds tX5_asWorlds = true := by decide +kernel
theorem kX6_heard : oh_ckT oh_mi yX6_heard.cls ((some FieldType.int)) cX6_heard tX6_heard = true := by decide +kernel
theorem kX6_own : oh_ckT oh_mi yX6_own.cls ((some FieldType.int)) cX6_own tX6_own = true := by decide +kernel
theorem kX6_from : oh_ckT oh_mi yX6_from.cls ((some FieldType.int)) cX6_from tX6_from = true := by decide +kernel
theorem kX6_workedOut : oh_ckT oh_mi yX6_workedOut.cls ((some FieldType.int)) cX6_workedOut tX6_workedOut = true := by decide +kernel
theorem kX7_man : oh_ckT oh_mi yX7_man.cls ((some FieldType.int)) cX7_man tX7_man = true := by decide +kernel
theorem kX7_ofMan : oh_ckT oh_mi yX7_ofMan.cls ((some FieldType.int)) cX7_ofMan tX7_ofMan = true := by decide +kernel
theorem kX7_tellMan : oh_ckT oh_mi yX7_tellMan.cls ((some FieldType.int)) cX7_tellMan tX7_tellMan = true := by decide +kernel
theorem kX7_become : oh_ckT oh_mi yX7_become.cls ((some FieldType.int)) cX7_become tX7_become = true := by decide +kernel
theorem kX7_as : oh_ckT oh_mi yX7_as.cls ((some FieldType.int)) cX7_as tX7_as = true := by decide +kernel
theorem kX7_fine : oh_ckT oh_mi yX7_fine.cls ((some FieldType.int)) cX7_fine tX7_fine = true := by decide +kernel
theorem kX7_feed : oh_ckT oh_mi yX7_feed.cls ((some FieldType.int)) cX7_feed tX7_feed = true := by decide +kernel
theorem kX7_text : oh_ckT oh_mi yX7_text.cls ((some FieldType.int)) cX7_text tX7_text = true := by decide +kernel
theorem kX7_law : oh_ckT oh_mi yX7_law.cls ((some FieldType.int)) cX7_law tX7_law = true := by decide +kernel
theorem kX7_open : oh_ckT oh_mi yX7_open.cls ((some FieldType.int)) cX7_open tX7_open = true := by decide +kernel
theorem kX7_close : oh_ckT oh_mi yX7_close.cls ((some FieldType.int)) cX7_close tX7_close = true := by decide +kernel
theorem kX7_bells : oh_ckT oh_mi yX7_bells.cls ((some FieldType.int)) cX7_bells tX7_bells = true := by decide +kernel
theorem kX7_loose : oh_ckT oh_mi yX7_loose.cls ((some FieldType.int)) cX7_loose tX7_loose = true := by decide +kernel
theorem kX7_possible : oh_ckT oh_mi yX7_possible.cls ((some FieldType.int)) cX7_possible tX7_possible = true := by decide +kernel
theorem kX7_thinks : oh_ckT oh_mi yX7_thinks.cls ((some FieldType.int)) cX7_thinks tX7_thinks = true := by decide +kernel
theorem kX7_then : oh_ckT oh_mi yX7_then.cls ((some FieldType.int)) cX7_then tX7_then = true := by decide +kernel
theorem kX7_thenPaid : oh_ckT oh_mi yX7_thenPaid.cls ((some FieldType.int)) cX7_thenPaid tX7_thenPaid = true := by decide +kernel
theorem kX7_when : oh_ckT oh_mi yX7_when.cls ((some FieldType.int)) cX7_when tX7_when = true := by decide +kernel
theorem kX7_silence : oh_ckT oh_mi yX7_silence.cls ((some FieldType.int)) cX7_silence tX7_silence = true := by decide +kernel
theorem kX7_trick : oh_ckT oh_mi yX7_trick.cls ((some FieldType.int)) cX7_trick tX7_trick = true := by decide +kernel
theorem kX7_longest : oh_ckT oh_mi yX7_longest.cls ((some FieldType.int)) cX7_longest tX7_longest = true := by decide +kernel
theorem kX7_signal : oh_ckT oh_mi yX7_signal.cls ((some FieldType.int)) cX7_signal tX7_signal = true := by decide +kernel
theorem kX7_bestSignal : oh_ckT oh_mi yX7_bestSignal.cls ((some FieldType.int)) cX7_bestSignal tX7_bestSignal = true := by decide +kernel
theorem kX7_look : oh_ckT oh_mi yX7_look.cls ((some FieldType.int)) cX7_look tX7_look = true := by decide +kernel
theorem kX7_odds : oh_ckT oh_mi yX7_odds.cls ((some FieldType.long)) cX7_odds tX7_odds = true := by decide +kernel
theorem kX7_seed : oh_ckT oh_mi yX7_seed.cls ((some FieldType.int)) cX7_seed tX7_seed = true := by decide +kernel
theorem kX7_voice : oh_ckT oh_mi yX7_voice.cls ((some FieldType.int)) cX7_voice tX7_voice = true := by decide +kernel
theorem kX7_trace : oh_ckT oh_mi yX7_trace.cls ((some FieldType.int)) cX7_trace tX7_trace = true := by decide +kernel
theorem kX7_sheet : oh_ckT oh_mi yX7_sheet.cls ((some FieldType.int)) cX7_sheet tX7_sheet = true := by decide +kernel
theorem kX7_put : oh_ckT oh_mi yX7_put.cls ((some FieldType.int)) cX7_put tX7_put = true := by decide +kernel
theorem kX7_move : oh_ckT oh_mi yX7_move.cls ((some FieldType.int)) cX7_move tX7_move = true := by decide +kernel
theorem kX7_worlds : oh_ckT oh_mi yX7_worlds.cls ((some FieldType.int)) cX7_worlds tX7_worlds = true := by decide +kernel
theorem kX7_image : oh_ckT oh_mi yX7_image.cls ((some FieldType.int)) cX7_image tX7_image = true := by decide +kernel
theorem kX7_restore : oh_ckT oh_mi yX7_restore.cls ((some FieldType.int)) cX7_restore tX7_restore = true := by decide +kernel
theorem kX7_tell : oh_ckT oh_mi yX7_tell.cls ((some FieldType.int)) cX7_tell tX7_tell = true := by decide +kernel
theorem kX7_check : oh_ckT oh_mi yX7_check.cls ((some FieldType.int)) cX7_check tX7_check = true := by decide +kernel
theorem kX7_count : oh_ckT oh_mi yX7_count.cls ((some FieldType.int)) cX7_count tX7_count = true := by decide +kernel
theorem kX7_told : oh_ckT oh_mi yX7_told.cls ((some FieldType.int)) cX7_told tX7_told = true := by decide +kernel
theorem kX7_failed : oh_ckT oh_mi yX7_failed.cls ((some FieldType.int)) cX7_failed tX7_failed = true := by decide +kernel
theorem kX7_isMan : oh_ckT oh_mi yX7_isMan.cls ((some FieldType.boolean)) cX7_isMan tX7_isMan = true := by decide +kernel
theorem kX7_isWorld : oh_ckT oh_mi yX7_isWorld.cls ((some FieldType.boolean)) cX7_isWorld tX7_isWorld = true := by decide +kernel
theorem kX7_isKindWithNumber : oh_ckT oh_mi yX7_isKindWithNumber.cls ((some FieldType.boolean)) cX7_isKindWithNumber tX7_isKindWithNumber = true := by decide +kernel
theorem kX7_isUse : oh_ckT oh_mi yX7_isUse.cls ((some FieldType.boolean)) cX7_isUse tX7_isUse = true := by decide +kernel
theorem kX7_isAhead : oh_ckT oh_mi yX7_isAhead.cls ((some FieldType.boolean)) cX7_isAhead tX7_isAhead = true := by decide +kernel
theorem kX7_isSheet : oh_ckT oh_mi yX7_isSheet.cls ((some FieldType.boolean)) cX7_isSheet tX7_isSheet = true := by decide +kernel
theorem kX7_isOfKind : oh_ckT oh_mi yX7_isOfKind.cls ((some FieldType.boolean)) cX7_isOfKind tX7_isOfKind = true := by decide +kernel
theorem kX7_lawOf : oh_ckT oh_mi yX7_lawOf.cls ((some (FieldType.object "OtherHat$Law"))) cX7_lawOf tX7_lawOf = true := by decide +kernel
theorem kX7_whyNoBells : oh_ckT oh_mi yX7_whyNoBells.cls ((some FieldType.int)) cX7_whyNoBells tX7_whyNoBells = true := by decide +kernel
theorem kX7_startAhead : oh_ckT oh_mi yX7_startAhead.cls (none) cX7_startAhead tX7_startAhead = true := by decide +kernel
theorem kX7_ringAhead : oh_ckT oh_mi yX7_ringAhead.cls ((some FieldType.int)) cX7_ringAhead tX7_ringAhead = true := by decide +kernel
theorem kX7_bellsTillSpoken : oh_ckT oh_mi yX7_bellsTillSpoken.cls ((some FieldType.int)) cX7_bellsTillSpoken tX7_bellsTillSpoken = true := by decide +kernel
theorem kX7_ranAlike : oh_ckT oh_mi yX7_ranAlike.cls ((some FieldType.long)) cX7_ranAlike tX7_ranAlike = true := by decide +kernel
theorem kX7_knowBySignal : oh_ckT oh_mi yX7_knowBySignal.cls ((some FieldType.int)) cX7_knowBySignal tX7_knowBySignal = true := by decide +kernel
theorem kX7_commonDivisor : oh_ckT oh_mi yX7_commonDivisor.cls ((some FieldType.int)) cX7_commonDivisor tX7_commonDivisor = true := by decide +kernel
theorem kX7_bit : oh_ckT oh_mi yX7_bit.cls ((some FieldType.int)) cX7_bit tX7_bit = true := by decide +kernel
theorem kX7_held : oh_ckT oh_mi yX7_held.cls ((some FieldType.int)) cX7_held tX7_held = true := by decide +kernel
theorem kX7_holds : oh_ckT oh_mi yX7_holds.cls ((some FieldType.boolean)) cX7_holds tX7_holds = true := by decide +kernel
theorem kX7_blacks : oh_ckT oh_mi yX7_blacks.cls ((some FieldType.int)) cX7_blacks tX7_blacks = true := by decide +kernel
theorem kX7_whites : oh_ckT oh_mi yX7_whites.cls ((some FieldType.int)) cX7_whites tX7_whites = true := by decide +kernel
theorem kX7_knows : oh_ckT oh_mi yX7_knows.cls ((some FieldType.boolean)) cX7_knows tX7_knows = true := by decide +kernel
theorem kX7_wouldSay : oh_ckT oh_mi yX7_wouldSay.cls ((some FieldType.int)) cX7_wouldSay tX7_wouldSay = true := by decide +kernel
theorem kX7_allWhite : oh_ckT oh_mi yX7_allWhite.cls ((some FieldType.long)) cX7_allWhite tX7_allWhite = true := by decide +kernel
theorem kX8_finds : oh_ckT oh_mi yX8_finds.cls ((some FieldType.int)) cX8_finds tX8_finds = true := by decide +kernel
theorem kX8_in : oh_ckT oh_mi yX8_in.cls ((some FieldType.boolean)) cX8_in tX8_in = true := by decide +kernel
theorem kX8_held : oh_ckT oh_mi yX8_held.cls ((some FieldType.int)) cX8_held tX8_held = true := by decide +kernel
theorem kX8_copies : oh_ckT oh_mi yX8_copies.cls (none) cX8_copies tX8_copies = true := by decide +kernel
theorem kX8_isMan : oh_ckT oh_mi yX8_isMan.cls ((some FieldType.boolean)) cX8_isMan tX8_isMan = true := by decide +kernel
theorem kX8_of : oh_ckT oh_mi yX8_of.cls ((some FieldType.int)) cX8_of tX8_of = true := by decide +kernel
theorem kX8_becomes : oh_ckT oh_mi yX8_becomes.cls (none) cX8_becomes tX8_becomes = true := by decide +kernel
theorem kX8_allMen : oh_ckT oh_mi yX8_allMen.cls ((some FieldType.int)) cX8_allMen tX8_allMen = true := by decide +kernel
theorem kX8_isOpen : oh_ckT oh_mi yX8_isOpen.cls ((some FieldType.boolean)) cX8_isOpen tX8_isOpen = true := by decide +kernel
theorem kX8_here : oh_ckT oh_mi yX8_here.cls ((some FieldType.int)) cX8_here tX8_here = true := by decide +kernel
theorem kX8_wrong : oh_ckT oh_mi yX8_wrong.cls ((some FieldType.int)) cX8_wrong tX8_wrong = true := by decide +kernel
theorem kX8_takes : oh_ckT oh_mi yX8_takes.cls ((some FieldType.boolean)) cX8_takes tX8_takes = true := by decide +kernel
theorem kX8_nameOf : oh_ckT oh_mi yX8_nameOf.cls ((some FieldType.int)) cX8_nameOf tX8_nameOf = true := by decide +kernel
theorem kX8_either : oh_ckT oh_mi yX8_either.cls ((some FieldType.int)) cX8_either tX8_either = true := by decide +kernel
theorem kX8_both : oh_ckT oh_mi yX8_both.cls ((some FieldType.int)) cX8_both tX8_both = true := by decide +kernel
theorem kX8_compared : oh_ckT oh_mi yX8_compared.cls ((some FieldType.int)) cX8_compared tX8_compared = true := by decide +kernel
theorem kX8_sum : oh_ckT oh_mi yX8_sum.cls ((some FieldType.int)) cX8_sum tX8_sum = true := by decide +kernel
theorem kX8_product : oh_ckT oh_mi yX8_product.cls ((some FieldType.int)) cX8_product tX8_product = true := by decide +kernel
theorem kX8_unit : oh_ckT oh_mi yX8_unit.cls ((some FieldType.int)) cX8_unit tX8_unit = true := by decide +kernel
theorem kX8_worked : oh_ckT oh_mi yX8_worked.cls ((some FieldType.int)) cX8_worked tX8_worked = true := by decide +kernel
theorem kX8_feed : oh_ckT oh_mi yX8_feed.cls ((some FieldType.int)) cX8_feed tX8_feed = true := by decide +kernel
theorem kX8_text : oh_ckT oh_mi yX8_text.cls ((some FieldType.int)) cX8_text tX8_text = true := by decide +kernel
theorem kX8_gives : oh_ckT oh_mi yX8_gives.cls ((some FieldType.int)) cX8_gives tX8_gives = true := by decide +kernel
theorem kX8_law : oh_ckT oh_mi yX8_law.cls ((some FieldType.int)) cX8_law tX8_law = true := by decide +kernel
theorem kX8_man : oh_ckT oh_mi yX8_man.cls ((some FieldType.int)) cX8_man tX8_man = true := by decide +kernel
theorem kX8_ofMan : oh_ckT oh_mi yX8_ofMan.cls ((some FieldType.int)) cX8_ofMan tX8_ofMan = true := by decide +kernel
theorem kX8_tellMan : oh_ckT oh_mi yX8_tellMan.cls ((some FieldType.int)) cX8_tellMan tX8_tellMan = true := by decide +kernel
theorem kX8_become : oh_ckT oh_mi yX8_become.cls ((some FieldType.int)) cX8_become tX8_become = true := by decide +kernel
theorem kX8_above : oh_ckT oh_mi yX8_above.cls ((some FieldType.int)) cX8_above tX8_above = true := by decide +kernel
theorem kX8_as : oh_ckT oh_mi yX8_as.cls ((some FieldType.int)) cX8_as tX8_as = true := by decide +kernel
theorem kX8_fine : oh_ckT oh_mi yX8_fine.cls ((some FieldType.int)) cX8_fine tX8_fine = true := by decide +kernel
theorem kX8_ones : oh_ckT oh_mi yX8_ones.cls ((some FieldType.int)) cX8_ones tX8_ones = true := by decide +kernel
theorem kX8_manyOf : oh_ckT oh_mi yX8_manyOf.cls ((some FieldType.int)) cX8_manyOf tX8_manyOf = true := by decide +kernel
theorem kX8_isPossible : oh_ckT oh_mi yX8_isPossible.cls ((some FieldType.boolean)) cX8_isPossible tX8_isPossible = true := by decide +kernel
theorem kX8_hats : oh_ckT oh_mi yX8_hats.cls ((some FieldType.int)) cX8_hats tX8_hats = true := by decide +kernel
theorem kX8_think : oh_ckT oh_mi yX8_think.cls (none) cX8_think tX8_think = true := by decide +kernel
theorem kX8_blackOf : oh_ckT oh_mi yX8_blackOf.cls ((some FieldType.int)) cX8_blackOf tX8_blackOf = true := by decide +kernel
theorem kX8_whiteOf : oh_ckT oh_mi yX8_whiteOf.cls ((some FieldType.int)) cX8_whiteOf tX8_whiteOf = true := by decide +kernel
theorem kX8_knows : oh_ckT oh_mi yX8_knows.cls ((some FieldType.boolean)) cX8_knows tX8_knows = true := by decide +kernel
theorem kX8_wouldSay : oh_ckT oh_mi yX8_wouldSay.cls ((some FieldType.int)) cX8_wouldSay tX8_wouldSay = true := by decide +kernel
theorem kX8_isHasty : oh_ckT oh_mi yX8_isHasty.cls ((some FieldType.boolean)) cX8_isHasty tX8_isHasty = true := by decide +kernel
theorem kX8_speaks : oh_ckT oh_mi yX8_speaks.cls ((some FieldType.boolean)) cX8_speaks tX8_speaks = true := by decide +kernel
theorem kX8_speakers : oh_ckT oh_mi yX8_speakers.cls ((some FieldType.int)) cX8_speakers tX8_speakers = true := by decide +kernel
theorem kX8_sayings : oh_ckT oh_mi yX8_sayings.cls ((some FieldType.int)) cX8_sayings tX8_sayings = true := by decide +kernel
theorem kX8_open : oh_ckT oh_mi yX8_open.cls ((some FieldType.int)) cX8_open tX8_open = true := by decide +kernel
theorem kX8_close : oh_ckT oh_mi yX8_close.cls ((some FieldType.int)) cX8_close tX8_close = true := by decide +kernel
theorem kX8_drawn : oh_ckT oh_mi yX8_drawn.cls ((some FieldType.int)) cX8_drawn tX8_drawn = true := by decide +kernel
theorem kX8_pays : oh_ckT oh_mi yX8_pays.cls (none) cX8_pays tX8_pays = true := by decide +kernel
theorem kX8_rings : oh_ckT oh_mi yX8_rings.cls (none) cX8_rings tX8_rings = true := by decide +kernel
theorem kX8_goesOn : oh_ckT oh_mi yX8_goesOn.cls (none) cX8_goesOn tX8_goesOn = true := by decide +kernel
theorem kX8_rung : oh_ckT oh_mi yX8_rung.cls ((some FieldType.int)) cX8_rung tX8_rung = true := by decide +kernel
theorem kX8_bells : oh_ckT oh_mi yX8_bells.cls ((some FieldType.int)) cX8_bells tX8_bells = true := by decide +kernel
theorem kX8_loose : oh_ckT oh_mi yX8_loose.cls ((some FieldType.int)) cX8_loose tX8_loose = true := by decide +kernel
theorem kX8_why : oh_ckT oh_mi yX8_why.cls ((some FieldType.int)) cX8_why tX8_why = true := by decide +kernel
theorem kX8_possible : oh_ckT oh_mi yX8_possible.cls ((some FieldType.int)) cX8_possible tX8_possible = true := by decide +kernel
theorem kX8_thinks : oh_ckT oh_mi yX8_thinks.cls ((some FieldType.int)) cX8_thinks tX8_thinks = true := by decide +kernel
theorem kX8_begins : oh_ckT oh_mi yX8_begins.cls (none) cX8_begins tX8_begins = true := by decide +kernel
theorem kX8_ends : oh_ckT oh_mi yX8_ends.cls (none) cX8_ends tX8_ends = true := by decide +kernel
theorem kX8_then : oh_ckT oh_mi yX8_then.cls ((some FieldType.int)) cX8_then tX8_then = true := by decide +kernel
theorem kX8_thenPaid : oh_ckT oh_mi yX8_thenPaid.cls ((some FieldType.int)) cX8_thenPaid tX8_thenPaid = true := by decide +kernel
theorem kX8_soonest : oh_ckT oh_mi yX8_soonest.cls ((some FieldType.int)) cX8_soonest tX8_soonest = true := by decide +kernel
theorem kX8_when : oh_ckT oh_mi yX8_when.cls ((some FieldType.int)) cX8_when tX8_when = true := by decide +kernel
theorem kX8_othersBy : oh_ckT oh_mi yX8_othersBy.cls ((some FieldType.int)) cX8_othersBy tX8_othersBy = true := by decide +kernel
theorem kX8_silence : oh_ckT oh_mi yX8_silence.cls ((some FieldType.int)) cX8_silence tX8_silence = true := by decide +kernel
theorem kX8_hatsBecome : oh_ckT oh_mi yX8_hatsBecome.cls (none) cX8_hatsBecome tX8_hatsBecome = true := by decide +kernel
theorem kX8_trick : oh_ckT oh_mi yX8_trick.cls ((some FieldType.int)) cX8_trick tX8_trick = true := by decide +kernel
theorem kX8_longest : oh_ckT oh_mi yX8_longest.cls ((some FieldType.int)) cX8_longest tX8_longest = true := by decide +kernel
theorem kX8_whoKnowBy : oh_ckT oh_mi yX8_whoKnowBy.cls ((some FieldType.int)) cX8_whoKnowBy tX8_whoKnowBy = true := by decide +kernel
theorem kX8_signal : oh_ckT oh_mi yX8_signal.cls ((some FieldType.int)) cX8_signal tX8_signal = true := by decide +kernel
theorem kX8_bestSignal : oh_ckT oh_mi yX8_bestSignal.cls ((some FieldType.int)) cX8_bestSignal tX8_bestSignal = true := by decide +kernel
theorem kX8_look : oh_ckT oh_mi yX8_look.cls ((some FieldType.int)) cX8_look tX8_look = true := by decide +kernel
theorem kX8_common : oh_ckT oh_mi yX8_common.cls ((some FieldType.int)) cX8_common tX8_common = true := by decide +kernel
theorem kX8_odds : oh_ckT oh_mi yX8_odds.cls ((some FieldType.long)) cX8_odds tX8_odds = true := by decide +kernel
theorem kX8_seed : oh_ckT oh_mi yX8_seed.cls ((some FieldType.int)) cX8_seed tX8_seed = true := by decide +kernel
theorem kX8_ran : oh_ckT oh_mi yX8_ran.cls (none) cX8_ran tX8_ran = true := by decide +kernel
theorem kX8_own : oh_ckT oh_mi yX8_own.cls ((some FieldType.int)) cX8_own tX8_own = true := by decide +kernel
theorem kX8_looks : oh_ckT oh_mi yX8_looks.cls ((some FieldType.int)) cX8_looks tX8_looks = true := by decide +kernel
theorem kX8_thoughts : oh_ckT oh_mi yX8_thoughts.cls ((some FieldType.int)) cX8_thoughts tX8_thoughts = true := by decide +kernel
theorem kX8_says : oh_ckT oh_mi yX8_says.cls ((some FieldType.int)) cX8_says tX8_says = true := by decide +kernel
theorem kX8_tells : oh_ckT oh_mi yX8_tells.cls ((some FieldType.int)) cX8_tells tX8_tells = true := by decide +kernel
theorem kX8_voice : oh_ckT oh_mi yX8_voice.cls ((some FieldType.int)) cX8_voice tX8_voice = true := by decide +kernel
theorem kX8_trace : oh_ckT oh_mi yX8_trace.cls ((some FieldType.int)) cX8_trace tX8_trace = true := by decide +kernel
theorem kX8_isSheet : oh_ckT oh_mi yX8_isSheet.cls ((some FieldType.boolean)) cX8_isSheet tX8_isSheet = true := by decide +kernel
theorem kX8_sheet : oh_ckT oh_mi yX8_sheet.cls ((some FieldType.int)) cX8_sheet tX8_sheet = true := by decide +kernel
theorem kX8_put : oh_ckT oh_mi yX8_put.cls ((some FieldType.int)) cX8_put tX8_put = true := by decide +kernel
theorem kX8_move : oh_ckT oh_mi yX8_move.cls ((some FieldType.int)) cX8_move tX8_move = true := by decide +kernel
theorem kX8_worlds : oh_ckT oh_mi yX8_worlds.cls ((some FieldType.int)) cX8_worlds tX8_worlds = true := by decide +kernel
theorem kX8_image : oh_ckT oh_mi yX8_image.cls ((some FieldType.int)) cX8_image tX8_image = true := by decide +kernel
theorem kX8_restore : oh_ckT oh_mi yX8_restore.cls ((some FieldType.int)) cX8_restore tX8_restore = true := by decide +kernel
theorem kX8_tell : oh_ckT oh_mi yX8_tell.cls ((some FieldType.int)) cX8_tell tX8_tell = true := by decide +kernel
theorem kX8_check : oh_ckT oh_mi yX8_check.cls ((some FieldType.int)) cX8_check tX8_check = true := by decide +kernel
theorem kX8_count : oh_ckT oh_mi yX8_count.cls ((some FieldType.int)) cX8_count tX8_count = true := by decide +kernel
theorem kX8_told : oh_ckT oh_mi yX8_told.cls ((some FieldType.int)) cX8_told tX8_told = true := by decide +kernel
theorem kJ6_bitCount_0f7a4 : oh_ckT oh_mi yJ6_bitCount_0f7a4.cls ((some FieldType.int)) cJ6_bitCount_0f7a4 tJ6_bitCount_0f7a4 = true := by decide +kernel
theorem kJ13_bitCount_95d88 : oh_ckT oh_mi yJ13_bitCount_95d88.cls ((some FieldType.int)) cJ13_bitCount_95d88 tJ13_bitCount_95d88 = true := by decide +kernel
theorem kJ9_max_7cf53 : oh_ckT oh_mi yJ9_max_7cf53.cls ((some FieldType.int)) cJ9_max_7cf53 tJ9_max_7cf53 = true := by decide +kernel
theorem kJ9_min_7cf53 : oh_ckT oh_mi yJ9_min_7cf53.cls ((some FieldType.int)) cJ9_min_7cf53 tJ9_min_7cf53 = true := by decide +kernel
