abbrev MX0_startAs : bv_M := (RX0, cX0_startAs, 4, none, false)
abbrev MX0_turnInto : bv_M := (RX0, cX0_turnInto, 2, none, false)
abbrev MX0_isOfKind : bv_M := (RX0, cX0_isOfKind, 4, some .boolean, false)
abbrev MX0_left : bv_M := (RX0, cX0_left, 1, some .int, false)
abbrev MX0_heldBetween : bv_M := (RX0, cX0_heldBetween, 5, some .int, false)
abbrev MX0_leagues : bv_M := (RX0, cX0_leagues, 4, some .int, false)
abbrev MX0_priceBy : bv_M := (RX0, cX0_priceBy, 2, some .int, false)
abbrev MX0_ageDay : bv_M := (RX0, cX0_ageDay, 1, none, false)
abbrev MX0_copyBottle : bv_M := (RX0, cX0_copyBottle, 2, none, false)
abbrev MX1_goneBehind : bv_M := (RX1, cX1_goneBehind, 4, some .int, false)
abbrev MX1_sees : bv_M := (RX1, cX1_sees, 12, some .boolean, false)
abbrev MX1_seenFrom : bv_M := (RX1, cX1_seenFrom, 8, some .int, false)
abbrev MX1_seenAround : bv_M := (RX1, cX1_seenAround, 3, some .int, false)
abbrev MX1_bringBack : bv_M := (RX1, cX1_bringBack, 3, none, false)
abbrev MX1_growDay : bv_M := (RX1, cX1_growDay, 2, none, false)
abbrev MX1_copyLand : bv_M := (RX1, cX1_copyLand, 2, none, false)
abbrev MX2_faultOf : bv_M := (RX2, cX2_faultOf, 3, some .int, false)
abbrev MX2_worth : bv_M := (RX2, cX2_worth, 7, some .int, false)
abbrev MX2_step : bv_M := (RX2, cX2_step, 1, none, false)
abbrev MX2_refuse : bv_M := (RX2, cX2_refuse, 1, none, false)
abbrev MX2_readJoined : bv_M := (RX2, cX2_readJoined, 9, some .int, false)
abbrev MX2_readSingle : bv_M := (RX2, cX2_readSingle, 5, some .int, false)
abbrev MX2_levelOf : bv_M := (RX2, cX2_levelOf, 1, some .int, false)
abbrev MX2_joined : bv_M := (RX2, cX2_joined, 3, some .int, false)
abbrev MX3_startWith : bv_M := (RX3, cX3_startWith, 4, none, false)
abbrev MX3_cut : bv_M := (RX3, cX3_cut, 2, some .int, false)
abbrev MX3_hasRun : bv_M := (RX3, cX3_hasRun, 3, some .boolean, false)
abbrev MX4_append : bv_M := (RX4, cX4_append, 2, none, false)
abbrev MX4_copyTape : bv_M := (RX4, cX4_copyTape, 2, none, false)
abbrev MX5_textOf : bv_M := (RX5, cX5_textOf, 2, some (.object RX4), false)
abbrev MX5_villagesOn : bv_M := (RX5, cX5_villagesOn, 4, some .int, false)
abbrev MX5_seenByAll : bv_M := (RX5, cX5_seenByAll, 5, some .int, false)
abbrev MX5_openBottles : bv_M := (RX5, cX5_openBottles, 3, some .int, false)
abbrev MX5_passDay : bv_M := (RX5, cX5_passDay, 2, none, false)
abbrev MX5_passLooseDay : bv_M := (RX5, cX5_passLooseDay, 2, none, false)
abbrev MX5_draw : bv_M := (RX5, cX5_draw, 1, some .int, false)
abbrev MX5_copyTown : bv_M := (RX5, cX5_copyTown, 3, none, false)
abbrev MX6_speak : bv_M := (RX6, cX6_speak, 6, some .int, false)
abbrev MX6_own : bv_M := (RX6, cX6_own, 4, some .int, false)
abbrev MX6_above : bv_M := (RX6, cX6_above, 5, some .int, false)
abbrev MX6_bodyFrom : bv_M := (RX6, cX6_bodyFrom, 4, some .int, false)
abbrev MX6_begin : bv_M := (RX6, cX6_begin, 2, none, false)
abbrev MX6_work : bv_M := (RX6, cX6_work, 5, some .int, false)
abbrev MX7_land : bv_M := (RX7, cX7_land, 7, some .int, false)
abbrev MX7_ofPlace : bv_M := (RX7, cX7_ofPlace, 4, some .int, false)
abbrev MX7_village : bv_M := (RX7, cX7_village, 2, some .int, false)
abbrev MX7_moves : bv_M := (RX7, cX7_moves, 4, some .int, false)
abbrev MX7_at : bv_M := (RX7, cX7_at, 2, some .int, false)
abbrev MX7_fill : bv_M := (RX7, cX7_fill, 7, some .int, false)
abbrev MX7_ofBottle : bv_M := (RX7, cX7_ofBottle, 4, some .int, false)
abbrev MX7_become : bv_M := (RX7, cX7_become, 4, some .int, false)
abbrev MX7_as : bv_M := (RX7, cX7_as, 3, some .int, false)
abbrev MX7_open : bv_M := (RX7, cX7_open, 4, some .int, false)
abbrev MX7_feed : bv_M := (RX7, cX7_feed, 5, some .int, false)
abbrev MX7_text : bv_M := (RX7, cX7_text, 3, some .int, false)
abbrev MX7_law : bv_M := (RX7, cX7_law, 5, some .int, false)
abbrev MX7_days : bv_M := (RX7, cX7_days, 3, some .int, false)
abbrev MX7_loose : bv_M := (RX7, cX7_loose, 3, some .int, false)
abbrev MX7_view : bv_M := (RX7, cX7_view, 4, some .int, false)
abbrev MX7_again : bv_M := (RX7, cX7_again, 4, some .int, false)
abbrev MX7_best : bv_M := (RX7, cX7_best, 7, some .int, false)
abbrev MX7_tower : bv_M := (RX7, cX7_tower, 5, some .int, false)
abbrev MX7_mutual : bv_M := (RX7, cX7_mutual, 7, some .int, false)
abbrev MX7_unseen : bv_M := (RX7, cX7_unseen, 3, some .int, false)
abbrev MX7_cover : bv_M := (RX7, cX7_cover, 5, some .int, false)
abbrev MX7_keeps : bv_M := (RX7, cX7_keeps, 6, some .int, false)
abbrev MX7_blend : bv_M := (RX7, cX7_blend, 6, some .int, false)
abbrev MX7_thief : bv_M := (RX7, cX7_thief, 7, some .int, false)
abbrev MX7_both : bv_M := (RX7, cX7_both, 1, some .int, false)
abbrev MX7_seed : bv_M := (RX7, cX7_seed, 3, some .int, false)
abbrev MX7_voice : bv_M := (RX7, cX7_voice, 5, some .int, false)
abbrev MX7_trace : bv_M := (RX7, cX7_trace, 2, some .int, false)
abbrev MX7_sheet : bv_M := (RX7, cX7_sheet, 4, some .int, false)
abbrev MX7_put : bv_M := (RX7, cX7_put, 5, some .int, false)
abbrev MX7_move : bv_M := (RX7, cX7_move, 8, some .int, false)
abbrev MX7_heights : bv_M := (RX7, cX7_heights, 4, some .int, false)
abbrev MX7_judge : bv_M := (RX7, cX7_judge, 4, some .int, false)
abbrev MX7_image : bv_M := (RX7, cX7_image, 1, some .int, false)
abbrev MX7_restore : bv_M := (RX7, cX7_restore, 1, some .int, false)
abbrev MX7_tell : bv_M := (RX7, cX7_tell, 2, some .int, false)
abbrev MX7_check : bv_M := (RX7, cX7_check, 3, some .int, false)
abbrev MX7_count : bv_M := (RX7, cX7_count, 2, some .int, false)
abbrev MX7_told : bv_M := (RX7, cX7_told, 2, some .int, false)
abbrev MX7_error : bv_M := (RX7, cX7_error, 2, some .int, false)
abbrev MX7_isWithin : bv_M := (RX7, cX7_isWithin, 3, some .boolean, false)
abbrev MX7_held : bv_M := (RX7, cX7_held, 3, some .int, false)
abbrev MX7_oneIf : bv_M := (RX7, cX7_oneIf, 1, some .int, false)
abbrev MX7_quotient : bv_M := (RX7, cX7_quotient, 2, some .int, false)
abbrev MX7_isPlace : bv_M := (RX7, cX7_isPlace, 1, some .boolean, false)
abbrev MX7_isSomePlaces : bv_M := (RX7, cX7_isSomePlaces, 1, some .boolean, false)
abbrev MX7_isSide : bv_M := (RX7, cX7_isSide, 1, some .boolean, false)
abbrev MX7_isKindWithNumber : bv_M := (RX7, cX7_isKindWithNumber, 1, some .boolean, false)
abbrev MX7_isUse : bv_M := (RX7, cX7_isUse, 1, some .boolean, false)
abbrev MX7_isSheet : bv_M := (RX7, cX7_isSheet, 1, some .boolean, false)
abbrev MX7_isVillage : bv_M := (RX7, cX7_isVillage, 2, some .boolean, false)
abbrev MX7_isBottle : bv_M := (RX7, cX7_isBottle, 2, some .boolean, false)
abbrev MX7_missingBehind : bv_M := (RX7, cX7_missingBehind, 2, some .int, false)
abbrev MX7_lawGives : bv_M := (RX7, cX7_lawGives, 7, some .int, false)
abbrev MX7_takeOut : bv_M := (RX7, cX7_takeOut, 5, none, false)
abbrev MX7_priceOf : bv_M := (RX7, cX7_priceOf, 3, some .int, false)
abbrev MX7_workOutLefts : bv_M := (RX7, cX7_workOutLefts, 2, none, false)
abbrev MX7_workOutPrices : bv_M := (RX7, cX7_workOutPrices, 2, none, false)
abbrev MX7_leftInAny : bv_M := (RX7, cX7_leftInAny, 4, some .int, false)
abbrev MX7_isApart : bv_M := (RX7, cX7_isApart, 4, some .boolean, false)
abbrev MX7_priceTogether : bv_M := (RX7, cX7_priceTogether, 4, some .int, false)
abbrev MX8_error : bv_M := (RX8, cX8_error, 2, some .int, false)
abbrev MX8_in : bv_M := (RX8, cX8_in, 3, some .boolean, false)
abbrev MX8_held : bv_M := (RX8, cX8_held, 3, some .int, false)
abbrev MX8_copyAll : bv_M := (RX8, cX8_copyAll, 3, none, false)
abbrev MX8_isPlace : bv_M := (RX8, cX8_isPlace, 1, some .boolean, false)
abbrev MX8_isVillage : bv_M := (RX8, cX8_isVillage, 2, some .boolean, false)
abbrev MX8_isBottle : bv_M := (RX8, cX8_isBottle, 2, some .boolean, false)
abbrev MX8_becomes : bv_M := (RX8, cX8_becomes, 4, some .int, false)
abbrev MX8_bits : bv_M := (RX8, cX8_bits, 3, some .int, false)
abbrev MX8_steps : bv_M := (RX8, cX8_steps, 2, some .int, false)
abbrev MX8_isThere : bv_M := (RX8, cX8_isThere, 2, some .boolean, false)
abbrev MX8_isSeen : bv_M := (RX8, cX8_isSeen, 8, some .boolean, false)
abbrev MX8_viewOf : bv_M := (RX8, cX8_viewOf, 7, some .int, false)
abbrev MX8_sightsOf : bv_M := (RX8, cX8_sightsOf, 2, some .int, false)
abbrev MX8_land : bv_M := (RX8, cX8_land, 4, some .int, false)
abbrev MX8_villagesAt : bv_M := (RX8, cX8_villagesAt, 4, some .int, false)
abbrev MX8_ofPlace : bv_M := (RX8, cX8_ofPlace, 3, some .int, false)
abbrev MX8_village : bv_M := (RX8, cX8_village, 2, some .int, false)
abbrev MX8_moves : bv_M := (RX8, cX8_moves, 3, some .int, false)
abbrev MX8_at : bv_M := (RX8, cX8_at, 2, some .int, false)
abbrev MX8_of : bv_M := (RX8, cX8_of, 3, some .int, false)
abbrev MX8_lay : bv_M := (RX8, cX8_lay, 4, none, false)
abbrev MX8_between : bv_M := (RX8, cX8_between, 6, some .int, false)
abbrev MX8_leftIn : bv_M := (RX8, cX8_leftIn, 2, some .int, false)
abbrev MX8_leaguesOf : bv_M := (RX8, cX8_leaguesOf, 6, some .int, false)
abbrev MX8_costsOf : bv_M := (RX8, cX8_costsOf, 3, some .int, false)
abbrev MX8_isKm : bv_M := (RX8, cX8_isKm, 1, some .boolean, false)
abbrev MX8_fill : bv_M := (RX8, cX8_fill, 8, some .int, false)
abbrev MX8_ofBottle : bv_M := (RX8, cX8_ofBottle, 3, some .int, false)
abbrev MX8_become : bv_M := (RX8, cX8_become, 3, some .int, false)
abbrev MX8_isUnder : bv_M := (RX8, cX8_isUnder, 2, some .boolean, false)
abbrev MX8_as : bv_M := (RX8, cX8_as, 3, some .int, false)
abbrev MX8_open : bv_M := (RX8, cX8_open, 6, some .int, false)
abbrev MX8_feed : bv_M := (RX8, cX8_feed, 5, some .int, false)
abbrev MX8_look : bv_M := (RX8, cX8_look, 1, some .int, false)
abbrev MX8_step : bv_M := (RX8, cX8_step, 3, none, false)
abbrev MX8_nameOf : bv_M := (RX8, cX8_nameOf, 2, some .int, false)
abbrev MX8_number : bv_M := (RX8, cX8_number, 3, none, false)
abbrev MX8_opens : bv_M := (RX8, cX8_opens, 2, none, false)
abbrev MX8_one : bv_M := (RX8, cX8_one, 3, none, false)
abbrev MX8_times : bv_M := (RX8, cX8_times, 2, none, false)
abbrev MX8_sum : bv_M := (RX8, cX8_sum, 2, none, false)
abbrev MX8_compares : bv_M := (RX8, cX8_compares, 2, none, false)
abbrev MX8_all : bv_M := (RX8, cX8_all, 1, none, false)
abbrev MX8_any : bv_M := (RX8, cX8_any, 1, none, false)
abbrev MX8_text : bv_M := (RX8, cX8_text, 4, some .int, false)
abbrev MX8_twoOf : bv_M := (RX8, cX8_twoOf, 3, some .int, false)
abbrev MX8_works : bv_M := (RX8, cX8_works, 5, some .int, false)
abbrev MX8_gives : bv_M := (RX8, cX8_gives, 7, some .int, false)
abbrev MX8_law : bv_M := (RX8, cX8_law, 5, some .int, false)
abbrev MX8_day : bv_M := (RX8, cX8_day, 2, none, false)
abbrev MX8_goesOn : bv_M := (RX8, cX8_goesOn, 3, none, false)
abbrev MX8_missing : bv_M := (RX8, cX8_missing, 3, some .int, false)
abbrev MX8_days : bv_M := (RX8, cX8_days, 2, some .int, false)
abbrev MX8_draw : bv_M := (RX8, cX8_draw, 1, some .int, false)
abbrev MX8_loose : bv_M := (RX8, cX8_loose, 4, some .int, false)
abbrev MX8_thinks : bv_M := (RX8, cX8_thinks, 1, none, false)
abbrev MX8_putsBack : bv_M := (RX8, cX8_putsBack, 1, none, false)
abbrev MX8_view : bv_M := (RX8, cX8_view, 5, some .int, false)
abbrev MX8_again : bv_M := (RX8, cX8_again, 5, some .int, false)
abbrev MX8_best : bv_M := (RX8, cX8_best, 6, some .int, false)
abbrev MX8_tower : bv_M := (RX8, cX8_tower, 4, some .int, false)
abbrev MX8_sees : bv_M := (RX8, cX8_sees, 4, some .boolean, false)
abbrev MX8_mutual : bv_M := (RX8, cX8_mutual, 4, some .int, false)
abbrev MX8_unseen : bv_M := (RX8, cX8_unseen, 4, some .int, false)
abbrev MX8_cover : bv_M := (RX8, cX8_cover, 6, some .int, false)
abbrev MX8_worth : bv_M := (RX8, cX8_worth, 6, some .int, false)
abbrev MX8_keeps : bv_M := (RX8, cX8_keeps, 6, some .int, false)
abbrev MX8_blend : bv_M := (RX8, cX8_blend, 6, some .int, false)
abbrev MX8_thief : bv_M := (RX8, cX8_thief, 4, some .int, false)
abbrev MX8_both : bv_M := (RX8, cX8_both, 4, some .int, false)
abbrev MX8_seed : bv_M := (RX8, cX8_seed, 2, some .int, false)
abbrev MX8_begins : bv_M := (RX8, cX8_begins, 2, none, false)
abbrev MX8_plainPours : bv_M := (RX8, cX8_plainPours, 3, some .int, false)
abbrev MX8_pours : bv_M := (RX8, cX8_pours, 4, some .int, false)
abbrev MX8_plainCosts : bv_M := (RX8, cX8_plainCosts, 3, some .int, false)
abbrev MX8_cutCosts : bv_M := (RX8, cX8_cutCosts, 4, some .int, false)
abbrev MX8_costs : bv_M := (RX8, cX8_costs, 4, some .int, false)
abbrev MX8_plainAges : bv_M := (RX8, cX8_plainAges, 3, some .int, false)
abbrev MX8_oldAges : bv_M := (RX8, cX8_oldAges, 3, some .int, false)
abbrev MX8_ages : bv_M := (RX8, cX8_ages, 4, some .int, false)
abbrev MX8_plainTells : bv_M := (RX8, cX8_plainTells, 4, some .int, false)
abbrev MX8_tells : bv_M := (RX8, cX8_tells, 5, some .int, false)
abbrev MX8_voice : bv_M := (RX8, cX8_voice, 4, some .int, false)
abbrev MX8_trace : bv_M := (RX8, cX8_trace, 2, some .int, false)
abbrev MX8_isSheet : bv_M := (RX8, cX8_isSheet, 1, some .boolean, false)
abbrev MX8_sheet : bv_M := (RX8, cX8_sheet, 5, some .int, false)
abbrev MX8_notThere : bv_M := (RX8, cX8_notThere, 2, some .int, false)
abbrev MX8_put : bv_M := (RX8, cX8_put, 5, some .int, false)
abbrev MX8_notMoved : bv_M := (RX8, cX8_notMoved, 7, some .int, false)
abbrev MX8_move : bv_M := (RX8, cX8_move, 9, some .int, false)
abbrev MX8_heights : bv_M := (RX8, cX8_heights, 4, some .int, false)
abbrev MX8_judge : bv_M := (RX8, cX8_judge, 4, some .int, false)
abbrev MX8_image : bv_M := (RX8, cX8_image, 1, some .int, false)
abbrev MX8_restore : bv_M := (RX8, cX8_restore, 1, some .int, false)
abbrev MX8_tell : bv_M := (RX8, cX8_tell, 2, some .int, false)
abbrev MX8_check : bv_M := (RX8, cX8_check, 4, some .int, false)
abbrev MX8_count : bv_M := (RX8, cX8_count, 4, some .int, false)
abbrev MX8_told : bv_M := (RX8, cX8_told, 2, some .int, false)
abbrev MJ6_bitCount_0f7a4 : bv_M := (RJ6, cJ6_bitCount_0f7a4, 1, some .int, false)
abbrev MX0_init : bv_M := (RX0, cX0_init, 1, none, true)
abbrev MX1_init : bv_M := (RX1, cX1_init, 2, none, true)
abbrev MX2_init : bv_M := (RX2, cX2_init, 1, none, true)
abbrev MX3_init : bv_M := (RX3, cX3_init, 1, none, true)
abbrev MX4_init : bv_M := (RX4, cX4_init, 1, none, true)
abbrev MX5_init : bv_M := (RX5, cX5_init, 2, none, true)
abbrev MX6_init : bv_M := (RX6, cX6_init, 1, none, true)
abbrev MX7_init : bv_M := (RX7, cX7_init, 2, none, true)
abbrev MX8_init : bv_M := (RX8, cX8_init, 2, none, true)
theorem lc_J6_265 : Cond.constant RJ6 265 (1431655765) ∈ lw_tbl := List.mem_of_getElem? (i := 353) (by decide +kernel)
theorem lc_J6_266 : Cond.constant RJ6 266 (858993459) ∈ lw_tbl := List.mem_of_getElem? (i := 354) (by decide +kernel)
theorem lc_J6_267 : Cond.constant RJ6 267 (252645135) ∈ lw_tbl := List.mem_of_getElem? (i := 355) (by decide +kernel)
theorem lc_X3_22 : Cond.constant RX3 22 (65535) ∈ lw_tbl := List.mem_of_getElem? (i := 705) (by decide +kernel)
theorem lc_X5_93 : Cond.constant RX5 93 (1103515245) ∈ lw_tbl := List.mem_of_getElem? (i := 575) (by decide +kernel)
theorem lc_X7_229 : Cond.constant RX7 229 (1048575) ∈ lw_tbl := List.mem_of_getElem? (i := 389) (by decide +kernel)
theorem lc_X7_299 : Cond.constant RX7 299 (-1000000000) ∈ lw_tbl := List.mem_of_getElem? (i := 325) (by decide +kernel)
theorem lc_X8_109 : Cond.constant RX8 109 (1048575) ∈ lw_tbl := List.mem_of_getElem? (i := 905) (by decide +kernel)
theorem lc_X8_110 : Cond.constant RX8 110 (-1000000003) ∈ lw_tbl := List.mem_of_getElem? (i := 906) (by decide +kernel)
theorem lc_X8_125 : Cond.constant RX8 125 (-1000000005) ∈ lw_tbl := List.mem_of_getElem? (i := 964) (by decide +kernel)
theorem lc_X8_126 : Cond.constantLong RX8 126 (255) ∈ lw_tbl := List.mem_of_getElem? (i := 973) (by decide +kernel)
theorem lc_X8_199 : Cond.constant RX8 199 (1103515245) ∈ lw_tbl := List.mem_of_getElem? (i := 1050) (by decide +kernel)
theorem lc_X8_213 : Cond.constant RX8 213 (-1000000002) ∈ lw_tbl := List.mem_of_getElem? (i := 1070) (by decide +kernel)
theorem lc_X8_46 : Cond.constant RX8 46 (-1000000000) ∈ lw_tbl := List.mem_of_getElem? (i := 846) (by decide +kernel)
theorem lc_X8_72 : Cond.constant RX8 72 (-1000000001) ∈ lw_tbl := List.mem_of_getElem? (i := 841) (by decide +kernel)
theorem lc_X8_85 : Cond.constant RX8 85 (-1000000004) ∈ lw_tbl := List.mem_of_getElem? (i := 885) (by decide +kernel)
theorem lf_X0_15 : bv_FL RX0 15 0 2 := ⟨⟨by decide, by decide⟩, List.mem_of_getElem? (i := 143) (by decide +kernel)⟩
theorem lf_X0_19 : bv_FL RX0 19 0 3 := ⟨⟨by decide, by decide⟩, List.mem_of_getElem? (i := 145) (by decide +kernel)⟩
theorem lf_X0_22 : bv_FL RX0 22 0 4 := ⟨⟨by decide, by decide⟩, List.mem_of_getElem? (i := 147) (by decide +kernel)⟩
theorem lf_X0_25 : bv_FL RX0 25 0 5 := ⟨⟨by decide, by decide⟩, List.mem_of_getElem? (i := 149) (by decide +kernel)⟩
theorem lf_X0_29 : bv_FL RX0 29 0 0 := ⟨⟨by decide, by decide⟩, List.mem_of_getElem? (i := 139) (by decide +kernel)⟩
theorem lf_X0_32 : bv_FL RX0 32 0 1 := ⟨⟨by decide, by decide⟩, List.mem_of_getElem? (i := 141) (by decide +kernel)⟩
theorem lf_X1_15 : bv_FL RX1 15 1 1 := ⟨⟨by decide, by decide⟩, List.mem_of_getElem? (i := 106) (by decide +kernel)⟩
theorem lf_X1_9 : bv_FL RX1 9 1 0 := ⟨⟨by decide, by decide⟩, List.mem_of_getElem? (i := 104) (by decide +kernel)⟩
theorem lf_X2_12 : bv_FL RX2 12 2 0 := ⟨⟨by decide, by decide⟩, List.mem_of_getElem? (i := 220) (by decide +kernel)⟩
theorem lf_X2_18 : bv_FL RX2 18 2 1 := ⟨⟨by decide, by decide⟩, List.mem_of_getElem? (i := 221) (by decide +kernel)⟩
theorem lf_X2_22 : bv_FL RX2 22 2 2 := ⟨⟨by decide, by decide⟩, List.mem_of_getElem? (i := 222) (by decide +kernel)⟩
theorem lf_X2_26 : bv_FL RX2 26 2 3 := ⟨⟨by decide, by decide⟩, List.mem_of_getElem? (i := 223) (by decide +kernel)⟩
theorem lf_X2_29 : bv_FL RX2 29 2 4 := ⟨⟨by decide, by decide⟩, List.mem_of_getElem? (i := 224) (by decide +kernel)⟩
theorem lf_X2_32 : bv_FL RX2 32 2 5 := ⟨⟨by decide, by decide⟩, List.mem_of_getElem? (i := 225) (by decide +kernel)⟩
theorem lf_X2_46 : bv_FL RX2 46 4 1 := ⟨⟨by decide, by decide⟩, List.mem_of_getElem? (i := 126) (by decide +kernel)⟩
theorem lf_X2_52 : bv_FL RX2 52 4 0 := ⟨⟨by decide, by decide⟩, List.mem_of_getElem? (i := 124) (by decide +kernel)⟩
theorem lf_X3_15 : bv_FL RX3 15 3 1 := ⟨⟨by decide, by decide⟩, List.mem_of_getElem? (i := 272) (by decide +kernel)⟩
theorem lf_X3_18 : bv_FL RX3 18 3 2 := ⟨⟨by decide, by decide⟩, List.mem_of_getElem? (i := 274) (by decide +kernel)⟩
theorem lf_X3_9 : bv_FL RX3 9 3 0 := ⟨⟨by decide, by decide⟩, List.mem_of_getElem? (i := 270) (by decide +kernel)⟩
theorem lf_X4_15 : bv_FL RX4 15 4 1 := ⟨⟨by decide, by decide⟩, List.mem_of_getElem? (i := 125) (by decide +kernel)⟩
theorem lf_X4_9 : bv_FL RX4 9 4 0 := ⟨⟨by decide, by decide⟩, List.mem_of_getElem? (i := 123) (by decide +kernel)⟩
theorem lf_X5_12 : bv_FL RX5 12 5 0 := ⟨⟨by decide, by decide⟩, List.mem_of_getElem? (i := 165) (by decide +kernel)⟩
theorem lf_X5_18 : bv_FL RX5 18 5 1 := ⟨⟨by decide, by decide⟩, List.mem_of_getElem? (i := 167) (by decide +kernel)⟩
theorem lf_X5_22 : bv_FL RX5 22 5 2 := ⟨⟨by decide, by decide⟩, List.mem_of_getElem? (i := 169) (by decide +kernel)⟩
theorem lf_X5_28 : bv_FL RX5 28 5 3 := ⟨⟨by decide, by decide⟩, List.mem_of_getElem? (i := 171) (by decide +kernel)⟩
theorem lf_X5_32 : bv_FL RX5 32 5 4 := ⟨⟨by decide, by decide⟩, List.mem_of_getElem? (i := 173) (by decide +kernel)⟩
theorem lf_X5_35 : bv_FL RX5 35 5 5 := ⟨⟨by decide, by decide⟩, List.mem_of_getElem? (i := 175) (by decide +kernel)⟩
theorem lf_X5_38 : bv_FL RX5 38 5 6 := ⟨⟨by decide, by decide⟩, List.mem_of_getElem? (i := 177) (by decide +kernel)⟩
theorem lf_X5_44 : bv_FL RX5 44 5 7 := ⟨⟨by decide, by decide⟩, List.mem_of_getElem? (i := 179) (by decide +kernel)⟩
theorem lf_X5_48 : bv_FL RX5 48 5 8 := ⟨⟨by decide, by decide⟩, List.mem_of_getElem? (i := 181) (by decide +kernel)⟩
theorem lf_X5_51 : bv_FL RX5 51 5 9 := ⟨⟨by decide, by decide⟩, List.mem_of_getElem? (i := 182) (by decide +kernel)⟩
theorem lf_X5_54 : bv_FL RX5 54 5 10 := ⟨⟨by decide, by decide⟩, List.mem_of_getElem? (i := 183) (by decide +kernel)⟩
theorem lf_X5_57 : bv_FL RX5 57 5 11 := ⟨⟨by decide, by decide⟩, List.mem_of_getElem? (i := 185) (by decide +kernel)⟩
theorem lf_X5_69 : bv_FL RX5 69 0 5 := ⟨⟨by decide, by decide⟩, List.mem_of_getElem? (i := 150) (by decide +kernel)⟩
theorem lf_X5_87 : bv_FL RX5 87 1 1 := ⟨⟨by decide, by decide⟩, List.mem_of_getElem? (i := 108) (by decide +kernel)⟩
theorem lf_X6_15 : bv_FL RX6 15 6 1 := ⟨⟨by decide, by decide⟩, List.mem_of_getElem? (i := 247) (by decide +kernel)⟩
theorem lf_X6_19 : bv_FL RX6 19 6 2 := ⟨⟨by decide, by decide⟩, List.mem_of_getElem? (i := 249) (by decide +kernel)⟩
theorem lf_X6_22 : bv_FL RX6 22 6 3 := ⟨⟨by decide, by decide⟩, List.mem_of_getElem? (i := 250) (by decide +kernel)⟩
theorem lf_X6_25 : bv_FL RX6 25 6 4 := ⟨⟨by decide, by decide⟩, List.mem_of_getElem? (i := 251) (by decide +kernel)⟩
theorem lf_X6_9 : bv_FL RX6 9 6 0 := ⟨⟨by decide, by decide⟩, List.mem_of_getElem? (i := 245) (by decide +kernel)⟩
theorem lf_X7_10 : bv_FL RX7 10 7 0 := ⟨⟨by decide, by decide⟩, List.mem_of_getElem? (i := 283) (by decide +kernel)⟩
theorem lf_X7_100 : bv_FL RX7 100 5 1 := ⟨⟨by decide, by decide⟩, List.mem_of_getElem? (i := 168) (by decide +kernel)⟩
theorem lf_X7_115 : bv_FL RX7 115 5 4 := ⟨⟨by decide, by decide⟩, List.mem_of_getElem? (i := 174) (by decide +kernel)⟩
theorem lf_X7_122 : bv_FL RX7 122 5 3 := ⟨⟨by decide, by decide⟩, List.mem_of_getElem? (i := 172) (by decide +kernel)⟩
theorem lf_X7_135 : bv_FL RX7 135 0 0 := ⟨⟨by decide, by decide⟩, List.mem_of_getElem? (i := 140) (by decide +kernel)⟩
theorem lf_X7_138 : bv_FL RX7 138 0 1 := ⟨⟨by decide, by decide⟩, List.mem_of_getElem? (i := 142) (by decide +kernel)⟩
theorem lf_X7_141 : bv_FL RX7 141 0 2 := ⟨⟨by decide, by decide⟩, List.mem_of_getElem? (i := 144) (by decide +kernel)⟩
theorem lf_X7_144 : bv_FL RX7 144 0 3 := ⟨⟨by decide, by decide⟩, List.mem_of_getElem? (i := 146) (by decide +kernel)⟩
theorem lf_X7_147 : bv_FL RX7 147 0 4 := ⟨⟨by decide, by decide⟩, List.mem_of_getElem? (i := 148) (by decide +kernel)⟩
theorem lf_X7_150 : bv_FL RX7 150 0 5 := ⟨⟨by decide, by decide⟩, List.mem_of_getElem? (i := 151) (by decide +kernel)⟩
theorem lf_X7_16 : bv_FL RX7 16 7 1 := ⟨⟨by decide, by decide⟩, List.mem_of_getElem? (i := 284) (by decide +kernel)⟩
theorem lf_X7_179 : bv_FL RX7 179 5 7 := ⟨⟨by decide, by decide⟩, List.mem_of_getElem? (i := 180) (by decide +kernel)⟩
theorem lf_X7_183 : bv_FL RX7 183 4 1 := ⟨⟨by decide, by decide⟩, List.mem_of_getElem? (i := 127) (by decide +kernel)⟩
theorem lf_X7_19 : bv_FL RX7 19 7 2 := ⟨⟨by decide, by decide⟩, List.mem_of_getElem? (i := 285) (by decide +kernel)⟩
theorem lf_X7_210 : bv_FL RX7 210 5 5 := ⟨⟨by decide, by decide⟩, List.mem_of_getElem? (i := 176) (by decide +kernel)⟩
theorem lf_X7_245 : bv_FL RX7 245 5 6 := ⟨⟨by decide, by decide⟩, List.mem_of_getElem? (i := 178) (by decide +kernel)⟩
theorem lf_X7_252 : bv_FL RX7 252 6 1 := ⟨⟨by decide, by decide⟩, List.mem_of_getElem? (i := 248) (by decide +kernel)⟩
theorem lf_X7_255 : bv_FL RX7 255 6 0 := ⟨⟨by decide, by decide⟩, List.mem_of_getElem? (i := 246) (by decide +kernel)⟩
theorem lf_X7_26 : bv_FL RX7 26 7 3 := ⟨⟨by decide, by decide⟩, List.mem_of_getElem? (i := 286) (by decide +kernel)⟩
theorem lf_X7_264 : bv_FL RX7 264 3 0 := ⟨⟨by decide, by decide⟩, List.mem_of_getElem? (i := 271) (by decide +kernel)⟩
theorem lf_X7_267 : bv_FL RX7 267 3 1 := ⟨⟨by decide, by decide⟩, List.mem_of_getElem? (i := 273) (by decide +kernel)⟩
theorem lf_X7_270 : bv_FL RX7 270 3 2 := ⟨⟨by decide, by decide⟩, List.mem_of_getElem? (i := 275) (by decide +kernel)⟩
theorem lf_X7_290 : bv_FL RX7 290 5 11 := ⟨⟨by decide, by decide⟩, List.mem_of_getElem? (i := 186) (by decide +kernel)⟩
theorem lf_X7_293 : bv_FL RX7 293 5 10 := ⟨⟨by decide, by decide⟩, List.mem_of_getElem? (i := 184) (by decide +kernel)⟩
theorem lf_X7_33 : bv_FL RX7 33 7 4 := ⟨⟨by decide, by decide⟩, List.mem_of_getElem? (i := 287) (by decide +kernel)⟩
theorem lf_X7_39 : bv_FL RX7 39 7 5 := ⟨⟨by decide, by decide⟩, List.mem_of_getElem? (i := 288) (by decide +kernel)⟩
theorem lf_X7_43 : bv_FL RX7 43 7 6 := ⟨⟨by decide, by decide⟩, List.mem_of_getElem? (i := 289) (by decide +kernel)⟩
theorem lf_X7_47 : bv_FL RX7 47 7 7 := ⟨⟨by decide, by decide⟩, List.mem_of_getElem? (i := 290) (by decide +kernel)⟩
theorem lf_X7_50 : bv_FL RX7 50 7 8 := ⟨⟨by decide, by decide⟩, List.mem_of_getElem? (i := 291) (by decide +kernel)⟩
theorem lf_X7_66 : bv_FL RX7 66 5 0 := ⟨⟨by decide, by decide⟩, List.mem_of_getElem? (i := 166) (by decide +kernel)⟩
theorem lf_X7_70 : bv_FL RX7 70 1 0 := ⟨⟨by decide, by decide⟩, List.mem_of_getElem? (i := 105) (by decide +kernel)⟩
theorem lf_X7_75 : bv_FL RX7 75 1 1 := ⟨⟨by decide, by decide⟩, List.mem_of_getElem? (i := 107) (by decide +kernel)⟩
theorem lf_X7_97 : bv_FL RX7 97 5 2 := ⟨⟨by decide, by decide⟩, List.mem_of_getElem? (i := 170) (by decide +kernel)⟩
theorem lf_X8_128 : bv_FL RX8 128 8 10 := ⟨⟨by decide, by decide⟩, List.mem_of_getElem? (i := 783) (by decide +kernel)⟩
theorem lf_X8_13 : bv_FL RX8 13 8 1 := ⟨⟨by decide, by decide⟩, List.mem_of_getElem? (i := 774) (by decide +kernel)⟩
theorem lf_X8_132 : bv_FL RX8 132 8 9 := ⟨⟨by decide, by decide⟩, List.mem_of_getElem? (i := 782) (by decide +kernel)⟩
theorem lf_X8_135 : bv_FL RX8 135 8 13 := ⟨⟨by decide, by decide⟩, List.mem_of_getElem? (i := 786) (by decide +kernel)⟩
theorem lf_X8_142 : bv_FL RX8 142 8 12 := ⟨⟨by decide, by decide⟩, List.mem_of_getElem? (i := 785) (by decide +kernel)⟩
theorem lf_X8_150 : bv_FL RX8 150 8 11 := ⟨⟨by decide, by decide⟩, List.mem_of_getElem? (i := 784) (by decide +kernel)⟩
theorem lf_X8_16 : bv_FL RX8 16 8 2 := ⟨⟨by decide, by decide⟩, List.mem_of_getElem? (i := 775) (by decide +kernel)⟩
theorem lf_X8_19 : bv_FL RX8 19 8 4 := ⟨⟨by decide, by decide⟩, List.mem_of_getElem? (i := 777) (by decide +kernel)⟩
theorem lf_X8_22 : bv_FL RX8 22 8 5 := ⟨⟨by decide, by decide⟩, List.mem_of_getElem? (i := 778) (by decide +kernel)⟩
theorem lf_X8_220 : bv_FL RX8 220 8 15 := ⟨⟨by decide, by decide⟩, List.mem_of_getElem? (i := 788) (by decide +kernel)⟩
theorem lf_X8_25 : bv_FL RX8 25 8 6 := ⟨⟨by decide, by decide⟩, List.mem_of_getElem? (i := 779) (by decide +kernel)⟩
theorem lf_X8_266 : bv_FL RX8 266 8 3 := ⟨⟨by decide, by decide⟩, List.mem_of_getElem? (i := 776) (by decide +kernel)⟩
theorem lf_X8_28 : bv_FL RX8 28 8 7 := ⟨⟨by decide, by decide⟩, List.mem_of_getElem? (i := 780) (by decide +kernel)⟩
theorem lf_X8_31 : bv_FL RX8 31 8 8 := ⟨⟨by decide, by decide⟩, List.mem_of_getElem? (i := 781) (by decide +kernel)⟩
theorem lf_X8_34 : bv_FL RX8 34 8 14 := ⟨⟨by decide, by decide⟩, List.mem_of_getElem? (i := 787) (by decide +kernel)⟩
theorem lf_X8_37 : bv_FL RX8 37 8 16 := ⟨⟨by decide, by decide⟩, List.mem_of_getElem? (i := 789) (by decide +kernel)⟩
theorem lf_X8_40 : bv_FL RX8 40 8 17 := ⟨⟨by decide, by decide⟩, List.mem_of_getElem? (i := 790) (by decide +kernel)⟩
theorem lf_X8_43 : bv_FL RX8 43 8 18 := ⟨⟨by decide, by decide⟩, List.mem_of_getElem? (i := 791) (by decide +kernel)⟩
theorem lf_X8_9 : bv_FL RX8 9 8 0 := ⟨⟨by decide, by decide⟩, List.mem_of_getElem? (i := 773) (by decide +kernel)⟩
theorem lk_X0_39 : bv_LV RX0 39 0 yX0_heldBetween MX0_heldBetween 2 := ⟨⟨List.mem_of_getElem? (i := 466) (by decide +kernel), List.mem_of_getElem? (i := 468) (by decide +kernel), List.mem_of_getElem? (i := 9) (by decide +kernel), List.mem_of_getElem? (i := 76) (by decide +kernel), List.mem_of_getElem? (i := 469) (by decide +kernel)⟩, ⟨by decide, rfl, ⟨by decide +kernel, by decide +kernel, by decide +kernel⟩⟩, by decide⟩
theorem lk_X0_49 : bv_LSN RX0 49 yX7_isWithin MX7_isWithin 3 := ⟨⟨List.mem_of_getElem? (i := 471) (by decide +kernel), List.mem_of_getElem? (i := 319) (by decide +kernel), List.mem_of_getElem? (i := 72) (by decide +kernel), List.mem_of_getElem? (i := 320) (by decide +kernel)⟩, ⟨by decide +kernel, by decide +kernel, by decide +kernel⟩, by decide⟩
theorem lk_X0_53 : bv_LV RX0 53 0 yX0_left MX0_left 0 := ⟨⟨List.mem_of_getElem? (i := 476) (by decide +kernel), List.mem_of_getElem? (i := 463) (by decide +kernel), List.mem_of_getElem? (i := 464) (by decide +kernel), List.mem_of_getElem? (i := 76) (by decide +kernel), List.mem_of_getElem? (i := 465) (by decide +kernel)⟩, ⟨by decide, rfl, ⟨by decide +kernel, by decide +kernel, by decide +kernel⟩⟩, by decide⟩
theorem lk_X0_60 : bv_LSN RX0 60 yX7_quotient MX7_quotient 2 := ⟨⟨List.mem_of_getElem? (i := 486) (by decide +kernel), List.mem_of_getElem? (i := 432) (by decide +kernel), List.mem_of_getElem? (i := 72) (by decide +kernel), List.mem_of_getElem? (i := 433) (by decide +kernel)⟩, ⟨by decide +kernel, by decide +kernel, by decide +kernel⟩, by decide⟩
theorem lk_X0_9 : bv_LV RX0 9 0 yX0_turnInto MX0_turnInto 1 := ⟨⟨List.mem_of_getElem? (i := 447) (by decide +kernel), List.mem_of_getElem? (i := 448) (by decide +kernel), List.mem_of_getElem? (i := 449) (by decide +kernel), List.mem_of_getElem? (i := 76) (by decide +kernel), List.mem_of_getElem? (i := 450) (by decide +kernel)⟩, ⟨by decide, rfl, ⟨by decide +kernel, by decide +kernel, by decide +kernel⟩⟩, by decide⟩
theorem lk_X1_24 : bv_LV RX1 24 1 yX1_sees MX1_sees 4 := ⟨⟨List.mem_of_getElem? (i := 338) (by decide +kernel), List.mem_of_getElem? (i := 339) (by decide +kernel), List.mem_of_getElem? (i := 340) (by decide +kernel), List.mem_of_getElem? (i := 74) (by decide +kernel), List.mem_of_getElem? (i := 341) (by decide +kernel)⟩, ⟨by decide, rfl, ⟨by decide +kernel, by decide +kernel, by decide +kernel⟩⟩, by decide⟩
theorem lk_X1_28 : bv_LV RX1 28 1 yX1_seenFrom MX1_seenFrom 3 := ⟨⟨List.mem_of_getElem? (i := 349) (by decide +kernel), List.mem_of_getElem? (i := 335) (by decide +kernel), List.mem_of_getElem? (i := 336) (by decide +kernel), List.mem_of_getElem? (i := 74) (by decide +kernel), List.mem_of_getElem? (i := 337) (by decide +kernel)⟩, ⟨by decide, rfl, ⟨by decide +kernel, by decide +kernel, by decide +kernel⟩⟩, by decide⟩
theorem lk_X2_35 : bv_LV RX2 35 2 yX2_worth MX2_worth 5 := ⟨⟨List.mem_of_getElem? (i := 529) (by decide +kernel), List.mem_of_getElem? (i := 404) (by decide +kernel), List.mem_of_getElem? (i := 405) (by decide +kernel), List.mem_of_getElem? (i := 77) (by decide +kernel), List.mem_of_getElem? (i := 406) (by decide +kernel)⟩, ⟨by decide, rfl, ⟨by decide +kernel, by decide +kernel, by decide +kernel⟩⟩, by decide⟩
theorem lk_X2_39 : bv_LV RX2 39 2 yX2_step MX2_step 0 := ⟨⟨List.mem_of_getElem? (i := 407) (by decide +kernel), List.mem_of_getElem? (i := 409) (by decide +kernel), List.mem_of_getElem? (i := 4) (by decide +kernel), List.mem_of_getElem? (i := 77) (by decide +kernel), List.mem_of_getElem? (i := 410) (by decide +kernel)⟩, ⟨by decide, rfl, ⟨by decide +kernel, by decide +kernel, by decide +kernel⟩⟩, by decide⟩
theorem lk_X2_42 : bv_LV RX2 42 2 yX2_readJoined MX2_readJoined 2 := ⟨⟨List.mem_of_getElem? (i := 411) (by decide +kernel), List.mem_of_getElem? (i := 413) (by decide +kernel), List.mem_of_getElem? (i := 5) (by decide +kernel), List.mem_of_getElem? (i := 77) (by decide +kernel), List.mem_of_getElem? (i := 414) (by decide +kernel)⟩, ⟨by decide, rfl, ⟨by decide +kernel, by decide +kernel, by decide +kernel⟩⟩, by decide⟩
theorem lk_X2_49 : bv_LV RX2 49 2 yX2_refuse MX2_refuse 0 := ⟨⟨List.mem_of_getElem? (i := 421) (by decide +kernel), List.mem_of_getElem? (i := 423) (by decide +kernel), List.mem_of_getElem? (i := 7) (by decide +kernel), List.mem_of_getElem? (i := 77) (by decide +kernel), List.mem_of_getElem? (i := 424) (by decide +kernel)⟩, ⟨by decide, rfl, ⟨by decide +kernel, by decide +kernel, by decide +kernel⟩⟩, by decide⟩
theorem lk_X2_56 : bv_LV RX2 56 2 yX2_readSingle MX2_readSingle 1 := ⟨⟨List.mem_of_getElem? (i := 415) (by decide +kernel), List.mem_of_getElem? (i := 417) (by decide +kernel), List.mem_of_getElem? (i := 6) (by decide +kernel), List.mem_of_getElem? (i := 77) (by decide +kernel), List.mem_of_getElem? (i := 418) (by decide +kernel)⟩, ⟨by decide, rfl, ⟨by decide +kernel, by decide +kernel, by decide +kernel⟩⟩, by decide⟩
theorem lk_X2_60 : bv_LS RX2 60 yX2_levelOf MX2_levelOf 1 := ⟨⟨List.mem_of_getElem? (i := 425) (by decide +kernel), List.mem_of_getElem? (i := 426) (by decide +kernel), List.mem_of_getElem? (i := 77) (by decide +kernel), List.mem_of_getElem? (i := 427) (by decide +kernel)⟩, ⟨by decide +kernel, by decide +kernel, by decide +kernel⟩, by decide⟩
theorem lk_X2_63 : bv_LS RX2 63 yX2_joined MX2_joined 3 := ⟨⟨List.mem_of_getElem? (i := 428) (by decide +kernel), List.mem_of_getElem? (i := 429) (by decide +kernel), List.mem_of_getElem? (i := 77) (by decide +kernel), List.mem_of_getElem? (i := 430) (by decide +kernel)⟩, ⟨by decide +kernel, by decide +kernel, by decide +kernel⟩, by decide⟩
theorem lk_X2_71 : bv_LSN RX2 71 yX7_quotient MX7_quotient 2 := ⟨⟨List.mem_of_getElem? (i := 431) (by decide +kernel), List.mem_of_getElem? (i := 432) (by decide +kernel), List.mem_of_getElem? (i := 72) (by decide +kernel), List.mem_of_getElem? (i := 433) (by decide +kernel)⟩, ⟨by decide +kernel, by decide +kernel, by decide +kernel⟩, by decide⟩
theorem lk_X5_104 : bv_LV RX5 104 0 yX0_copyBottle MX0_copyBottle 1 := ⟨⟨List.mem_of_getElem? (i := 737) (by decide +kernel), List.mem_of_getElem? (i := 738) (by decide +kernel), List.mem_of_getElem? (i := 739) (by decide +kernel), List.mem_of_getElem? (i := 76) (by decide +kernel), List.mem_of_getElem? (i := 740) (by decide +kernel)⟩, ⟨by decide, rfl, ⟨by decide +kernel, by decide +kernel, by decide +kernel⟩⟩, by decide⟩
theorem lk_X5_108 : bv_LV RX5 108 4 yX4_copyTape MX4_copyTape 1 := ⟨⟨List.mem_of_getElem? (i := 741) (by decide +kernel), List.mem_of_getElem? (i := 531) (by decide +kernel), List.mem_of_getElem? (i := 532) (by decide +kernel), List.mem_of_getElem? (i := 75) (by decide +kernel), List.mem_of_getElem? (i := 533) (by decide +kernel)⟩, ⟨by decide, rfl, ⟨by decide +kernel, by decide +kernel, by decide +kernel⟩⟩, by decide⟩
theorem lk_X5_61 : bv_LV RX5 61 1 yX1_goneBehind MX1_goneBehind 1 := ⟨⟨List.mem_of_getElem? (i := 606) (by decide +kernel), List.mem_of_getElem? (i := 331) (by decide +kernel), List.mem_of_getElem? (i := 332) (by decide +kernel), List.mem_of_getElem? (i := 74) (by decide +kernel), List.mem_of_getElem? (i := 333) (by decide +kernel)⟩, ⟨by decide, rfl, ⟨by decide +kernel, by decide +kernel, by decide +kernel⟩⟩, by decide⟩
theorem lk_X5_65 : bv_LV RX5 65 1 yX1_seenFrom MX1_seenFrom 3 := ⟨⟨List.mem_of_getElem? (i := 607) (by decide +kernel), List.mem_of_getElem? (i := 335) (by decide +kernel), List.mem_of_getElem? (i := 336) (by decide +kernel), List.mem_of_getElem? (i := 74) (by decide +kernel), List.mem_of_getElem? (i := 337) (by decide +kernel)⟩, ⟨by decide, rfl, ⟨by decide +kernel, by decide +kernel, by decide +kernel⟩⟩, by decide⟩
theorem lk_X5_73 : bv_LSN RX5 73 yX7_oneIf MX7_oneIf 1 := ⟨⟨List.mem_of_getElem? (i := 762) (by decide +kernel), List.mem_of_getElem? (i := 460) (by decide +kernel), List.mem_of_getElem? (i := 72) (by decide +kernel), List.mem_of_getElem? (i := 461) (by decide +kernel)⟩, ⟨by decide +kernel, by decide +kernel, by decide +kernel⟩, by decide⟩
theorem lk_X5_77 : bv_LV RX5 77 1 yX1_growDay MX1_growDay 0 := ⟨⟨List.mem_of_getElem? (i := 549) (by decide +kernel), List.mem_of_getElem? (i := 550) (by decide +kernel), List.mem_of_getElem? (i := 551) (by decide +kernel), List.mem_of_getElem? (i := 74) (by decide +kernel), List.mem_of_getElem? (i := 552) (by decide +kernel)⟩, ⟨by decide, rfl, ⟨by decide +kernel, by decide +kernel, by decide +kernel⟩⟩, by decide⟩
theorem lk_X5_80 : bv_LV RX5 80 0 yX0_ageDay MX0_ageDay 0 := ⟨⟨List.mem_of_getElem? (i := 554) (by decide +kernel), List.mem_of_getElem? (i := 555) (by decide +kernel), List.mem_of_getElem? (i := 556) (by decide +kernel), List.mem_of_getElem? (i := 76) (by decide +kernel), List.mem_of_getElem? (i := 557) (by decide +kernel)⟩, ⟨by decide, rfl, ⟨by decide +kernel, by decide +kernel, by decide +kernel⟩⟩, by decide⟩
theorem lk_X5_83 : bv_LV RX5 83 5 yX5_draw MX5_draw 0 := ⟨⟨List.mem_of_getElem? (i := 571) (by decide +kernel), List.mem_of_getElem? (i := 573) (by decide +kernel), List.mem_of_getElem? (i := 12) (by decide +kernel), List.mem_of_getElem? (i := 73) (by decide +kernel), List.mem_of_getElem? (i := 574) (by decide +kernel)⟩, ⟨by decide, rfl, ⟨by decide +kernel, by decide +kernel, by decide +kernel⟩⟩, by decide⟩
theorem lk_X5_90 : bv_LV RX5 90 5 yX5_passDay MX5_passDay 0 := ⟨⟨List.mem_of_getElem? (i := 576) (by decide +kernel), List.mem_of_getElem? (i := 546) (by decide +kernel), List.mem_of_getElem? (i := 547) (by decide +kernel), List.mem_of_getElem? (i := 73) (by decide +kernel), List.mem_of_getElem? (i := 548) (by decide +kernel)⟩, ⟨by decide, rfl, ⟨by decide +kernel, by decide +kernel, by decide +kernel⟩⟩, by decide⟩
theorem lk_X5_94 : bv_LV RX5 94 1 yX1_copyLand MX1_copyLand 1 := ⟨⟨List.mem_of_getElem? (i := 731) (by decide +kernel), List.mem_of_getElem? (i := 732) (by decide +kernel), List.mem_of_getElem? (i := 733) (by decide +kernel), List.mem_of_getElem? (i := 74) (by decide +kernel), List.mem_of_getElem? (i := 734) (by decide +kernel)⟩, ⟨by decide, rfl, ⟨by decide +kernel, by decide +kernel, by decide +kernel⟩⟩, by decide⟩
theorem lk_X6_28 : bv_LV RX6 28 6 yX6_own MX6_own 3 := ⟨⟨List.mem_of_getElem? (i := 660) (by decide +kernel), List.mem_of_getElem? (i := 662) (by decide +kernel), List.mem_of_getElem? (i := 18) (by decide +kernel), List.mem_of_getElem? (i := 78) (by decide +kernel), List.mem_of_getElem? (i := 663) (by decide +kernel)⟩, ⟨by decide, rfl, ⟨by decide +kernel, by decide +kernel, by decide +kernel⟩⟩, by decide⟩
theorem lk_X6_32 : bv_LS RX6 32 yX6_bodyFrom MX6_bodyFrom 2 := ⟨⟨List.mem_of_getElem? (i := 664) (by decide +kernel), List.mem_of_getElem? (i := 665) (by decide +kernel), List.mem_of_getElem? (i := 78) (by decide +kernel), List.mem_of_getElem? (i := 666) (by decide +kernel)⟩, ⟨by decide +kernel, by decide +kernel, by decide +kernel⟩, by decide⟩
theorem lk_X6_36 : bv_LV RX6 36 6 yX6_work MX6_work 3 := ⟨⟨List.mem_of_getElem? (i := 670) (by decide +kernel), List.mem_of_getElem? (i := 672) (by decide +kernel), List.mem_of_getElem? (i := 19) (by decide +kernel), List.mem_of_getElem? (i := 78) (by decide +kernel), List.mem_of_getElem? (i := 673) (by decide +kernel)⟩, ⟨by decide, rfl, ⟨by decide +kernel, by decide +kernel, by decide +kernel⟩⟩, by decide⟩
theorem lk_X6_45 : bv_LV RX6 45 6 yX6_begin MX6_begin 1 := ⟨⟨List.mem_of_getElem? (i := 674) (by decide +kernel), List.mem_of_getElem? (i := 676) (by decide +kernel), List.mem_of_getElem? (i := 20) (by decide +kernel), List.mem_of_getElem? (i := 78) (by decide +kernel), List.mem_of_getElem? (i := 677) (by decide +kernel)⟩, ⟨by decide, rfl, ⟨by decide +kernel, by decide +kernel, by decide +kernel⟩⟩, by decide⟩
theorem lk_X6_49 : bv_LV RX6 49 6 yX6_above MX6_above 4 := ⟨⟨List.mem_of_getElem? (i := 678) (by decide +kernel), List.mem_of_getElem? (i := 680) (by decide +kernel), List.mem_of_getElem? (i := 21) (by decide +kernel), List.mem_of_getElem? (i := 78) (by decide +kernel), List.mem_of_getElem? (i := 681) (by decide +kernel)⟩, ⟨by decide, rfl, ⟨by decide +kernel, by decide +kernel, by decide +kernel⟩⟩, by decide⟩
theorem lk_X7_103 : bv_LV RX7 103 7 yX7_isVillage MX7_isVillage 1 := ⟨⟨List.mem_of_getElem? (i := 368) (by decide +kernel), List.mem_of_getElem? (i := 370) (by decide +kernel), List.mem_of_getElem? (i := 1) (by decide +kernel), List.mem_of_getElem? (i := 72) (by decide +kernel), List.mem_of_getElem? (i := 371) (by decide +kernel)⟩, ⟨by decide, rfl, ⟨by decide +kernel, by decide +kernel, by decide +kernel⟩⟩, by decide⟩
theorem lk_X7_106 : bv_LS RX7 106 yX7_isKindWithNumber MX7_isKindWithNumber 1 := ⟨⟨List.mem_of_getElem? (i := 380) (by decide +kernel), List.mem_of_getElem? (i := 381) (by decide +kernel), List.mem_of_getElem? (i := 72) (by decide +kernel), List.mem_of_getElem? (i := 382) (by decide +kernel)⟩, ⟨by decide +kernel, by decide +kernel, by decide +kernel⟩, by decide⟩
theorem lk_X7_109 : bv_LS RX7 109 yX7_isSide MX7_isSide 1 := ⟨⟨List.mem_of_getElem? (i := 383) (by decide +kernel), List.mem_of_getElem? (i := 384) (by decide +kernel), List.mem_of_getElem? (i := 72) (by decide +kernel), List.mem_of_getElem? (i := 385) (by decide +kernel)⟩, ⟨by decide +kernel, by decide +kernel, by decide +kernel⟩, by decide⟩
theorem lk_X7_112 : bv_LS RX7 112 yX7_isSomePlaces MX7_isSomePlaces 1 := ⟨⟨List.mem_of_getElem? (i := 386) (by decide +kernel), List.mem_of_getElem? (i := 387) (by decide +kernel), List.mem_of_getElem? (i := 72) (by decide +kernel), List.mem_of_getElem? (i := 388) (by decide +kernel)⟩, ⟨by decide +kernel, by decide +kernel, by decide +kernel⟩, by decide⟩
theorem lk_X7_118 : bv_LV RX7 118 7 yX7_takeOut MX7_takeOut 2 := ⟨⟨List.mem_of_getElem? (i := 390) (by decide +kernel), List.mem_of_getElem? (i := 392) (by decide +kernel), List.mem_of_getElem? (i := 2) (by decide +kernel), List.mem_of_getElem? (i := 72) (by decide +kernel), List.mem_of_getElem? (i := 393) (by decide +kernel)⟩, ⟨by decide, rfl, ⟨by decide +kernel, by decide +kernel, by decide +kernel⟩⟩, by decide⟩
theorem lk_X7_126 : bv_LV RX7 126 0 yX0_startAs MX0_startAs 3 := ⟨⟨List.mem_of_getElem? (i := 443) (by decide +kernel), List.mem_of_getElem? (i := 444) (by decide +kernel), List.mem_of_getElem? (i := 445) (by decide +kernel), List.mem_of_getElem? (i := 76) (by decide +kernel), List.mem_of_getElem? (i := 446) (by decide +kernel)⟩, ⟨by decide, rfl, ⟨by decide +kernel, by decide +kernel, by decide +kernel⟩⟩, by decide⟩
theorem lk_X7_132 : bv_LV RX7 132 7 yX7_isBottle MX7_isBottle 1 := ⟨⟨List.mem_of_getElem? (i := 455) (by decide +kernel), List.mem_of_getElem? (i := 457) (by decide +kernel), List.mem_of_getElem? (i := 8) (by decide +kernel), List.mem_of_getElem? (i := 72) (by decide +kernel), List.mem_of_getElem? (i := 458) (by decide +kernel)⟩, ⟨by decide, rfl, ⟨by decide +kernel, by decide +kernel, by decide +kernel⟩⟩, by decide⟩
theorem lk_X7_154 : bv_LS RX7 154 yX7_oneIf MX7_oneIf 1 := ⟨⟨List.mem_of_getElem? (i := 459) (by decide +kernel), List.mem_of_getElem? (i := 460) (by decide +kernel), List.mem_of_getElem? (i := 72) (by decide +kernel), List.mem_of_getElem? (i := 461) (by decide +kernel)⟩, ⟨by decide +kernel, by decide +kernel, by decide +kernel⟩, by decide⟩
theorem lk_X7_158 : bv_LV RX7 158 0 yX0_left MX0_left 0 := ⟨⟨List.mem_of_getElem? (i := 462) (by decide +kernel), List.mem_of_getElem? (i := 463) (by decide +kernel), List.mem_of_getElem? (i := 464) (by decide +kernel), List.mem_of_getElem? (i := 76) (by decide +kernel), List.mem_of_getElem? (i := 465) (by decide +kernel)⟩, ⟨by decide, rfl, ⟨by decide +kernel, by decide +kernel, by decide +kernel⟩⟩, by decide⟩
theorem lk_X7_162 : bv_LV RX7 162 0 yX0_leagues MX0_leagues 0 := ⟨⟨List.mem_of_getElem? (i := 472) (by decide +kernel), List.mem_of_getElem? (i := 473) (by decide +kernel), List.mem_of_getElem? (i := 474) (by decide +kernel), List.mem_of_getElem? (i := 76) (by decide +kernel), List.mem_of_getElem? (i := 475) (by decide +kernel)⟩, ⟨by decide, rfl, ⟨by decide +kernel, by decide +kernel, by decide +kernel⟩⟩, by decide⟩
theorem lk_X7_165 : bv_LV RX7 165 7 yX7_priceOf MX7_priceOf 1 := ⟨⟨List.mem_of_getElem? (i := 478) (by decide +kernel), List.mem_of_getElem? (i := 480) (by decide +kernel), List.mem_of_getElem? (i := 10) (by decide +kernel), List.mem_of_getElem? (i := 72) (by decide +kernel), List.mem_of_getElem? (i := 481) (by decide +kernel)⟩, ⟨by decide, rfl, ⟨by decide +kernel, by decide +kernel, by decide +kernel⟩⟩, by decide⟩
theorem lk_X7_169 : bv_LV RX7 169 0 yX0_turnInto MX0_turnInto 1 := ⟨⟨List.mem_of_getElem? (i := 491) (by decide +kernel), List.mem_of_getElem? (i := 448) (by decide +kernel), List.mem_of_getElem? (i := 449) (by decide +kernel), List.mem_of_getElem? (i := 76) (by decide +kernel), List.mem_of_getElem? (i := 450) (by decide +kernel)⟩, ⟨by decide, rfl, ⟨by decide +kernel, by decide +kernel, by decide +kernel⟩⟩, by decide⟩
theorem lk_X7_173 : bv_LV RX7 173 0 yX0_isOfKind MX0_isOfKind 1 := ⟨⟨List.mem_of_getElem? (i := 496) (by decide +kernel), List.mem_of_getElem? (i := 497) (by decide +kernel), List.mem_of_getElem? (i := 498) (by decide +kernel), List.mem_of_getElem? (i := 76) (by decide +kernel), List.mem_of_getElem? (i := 499) (by decide +kernel)⟩, ⟨by decide, rfl, ⟨by decide +kernel, by decide +kernel, by decide +kernel⟩⟩, by decide⟩
theorem lk_X7_176 : bv_LV RX7 176 1 yX1_bringBack MX1_bringBack 1 := ⟨⟨List.mem_of_getElem? (i := 506) (by decide +kernel), List.mem_of_getElem? (i := 507) (by decide +kernel), List.mem_of_getElem? (i := 508) (by decide +kernel), List.mem_of_getElem? (i := 74) (by decide +kernel), List.mem_of_getElem? (i := 509) (by decide +kernel)⟩, ⟨by decide, rfl, ⟨by decide +kernel, by decide +kernel, by decide +kernel⟩⟩, by decide⟩
theorem lk_X7_188 : bv_LV RX7 188 4 yX4_append MX4_append 1 := ⟨⟨List.mem_of_getElem? (i := 514) (by decide +kernel), List.mem_of_getElem? (i := 515) (by decide +kernel), List.mem_of_getElem? (i := 516) (by decide +kernel), List.mem_of_getElem? (i := 75) (by decide +kernel), List.mem_of_getElem? (i := 517) (by decide +kernel)⟩, ⟨by decide, rfl, ⟨by decide +kernel, by decide +kernel, by decide +kernel⟩⟩, by decide⟩
theorem lk_X7_191 : bv_LS RX7 191 yX7_isUse MX7_isUse 1 := ⟨⟨List.mem_of_getElem? (i := 522) (by decide +kernel), List.mem_of_getElem? (i := 523) (by decide +kernel), List.mem_of_getElem? (i := 72) (by decide +kernel), List.mem_of_getElem? (i := 524) (by decide +kernel)⟩, ⟨by decide +kernel, by decide +kernel, by decide +kernel⟩, by decide⟩
theorem lk_X7_194 : bv_LV RX7 194 2 yX2_faultOf MX2_faultOf 2 := ⟨⟨List.mem_of_getElem? (i := 525) (by decide +kernel), List.mem_of_getElem? (i := 526) (by decide +kernel), List.mem_of_getElem? (i := 527) (by decide +kernel), List.mem_of_getElem? (i := 77) (by decide +kernel), List.mem_of_getElem? (i := 528) (by decide +kernel)⟩, ⟨by decide, rfl, ⟨by decide +kernel, by decide +kernel, by decide +kernel⟩⟩, by decide⟩
theorem lk_X7_198 : bv_LV RX7 198 5 yX5_textOf MX5_textOf 1 := ⟨⟨List.mem_of_getElem? (i := 399) (by decide +kernel), List.mem_of_getElem? (i := 400) (by decide +kernel), List.mem_of_getElem? (i := 401) (by decide +kernel), List.mem_of_getElem? (i := 73) (by decide +kernel), List.mem_of_getElem? (i := 402) (by decide +kernel)⟩, ⟨by decide, rfl, ⟨by decide +kernel, by decide +kernel, by decide +kernel⟩⟩, by decide⟩
theorem lk_X7_202 : bv_LV RX7 202 4 yX4_copyTape MX4_copyTape 1 := ⟨⟨List.mem_of_getElem? (i := 530) (by decide +kernel), List.mem_of_getElem? (i := 531) (by decide +kernel), List.mem_of_getElem? (i := 532) (by decide +kernel), List.mem_of_getElem? (i := 75) (by decide +kernel), List.mem_of_getElem? (i := 533) (by decide +kernel)⟩, ⟨by decide, rfl, ⟨by decide +kernel, by decide +kernel, by decide +kernel⟩⟩, by decide⟩
theorem lk_X7_206 : bv_LV RX7 206 7 yX7_lawGives MX7_lawGives 4 := ⟨⟨List.mem_of_getElem? (i := 395) (by decide +kernel), List.mem_of_getElem? (i := 397) (by decide +kernel), List.mem_of_getElem? (i := 3) (by decide +kernel), List.mem_of_getElem? (i := 72) (by decide +kernel), List.mem_of_getElem? (i := 398) (by decide +kernel)⟩, ⟨by decide, rfl, ⟨by decide +kernel, by decide +kernel, by decide +kernel⟩⟩, by decide⟩
theorem lk_X7_213 : bv_LV RX7 213 5 yX5_passDay MX5_passDay 0 := ⟨⟨List.mem_of_getElem? (i := 545) (by decide +kernel), List.mem_of_getElem? (i := 546) (by decide +kernel), List.mem_of_getElem? (i := 547) (by decide +kernel), List.mem_of_getElem? (i := 73) (by decide +kernel), List.mem_of_getElem? (i := 548) (by decide +kernel)⟩, ⟨by decide, rfl, ⟨by decide +kernel, by decide +kernel, by decide +kernel⟩⟩, by decide⟩
theorem lk_X7_216 : bv_LV RX7 216 7 yX7_missingBehind MX7_missingBehind 1 := ⟨⟨List.mem_of_getElem? (i := 559) (by decide +kernel), List.mem_of_getElem? (i := 561) (by decide +kernel), List.mem_of_getElem? (i := 11) (by decide +kernel), List.mem_of_getElem? (i := 72) (by decide +kernel), List.mem_of_getElem? (i := 562) (by decide +kernel)⟩, ⟨by decide, rfl, ⟨by decide +kernel, by decide +kernel, by decide +kernel⟩⟩, by decide⟩
theorem lk_X7_219 : bv_LV RX7 219 5 yX5_passLooseDay MX5_passLooseDay 0 := ⟨⟨List.mem_of_getElem? (i := 567) (by decide +kernel), List.mem_of_getElem? (i := 568) (by decide +kernel), List.mem_of_getElem? (i := 569) (by decide +kernel), List.mem_of_getElem? (i := 73) (by decide +kernel), List.mem_of_getElem? (i := 570) (by decide +kernel)⟩, ⟨by decide, rfl, ⟨by decide +kernel, by decide +kernel, by decide +kernel⟩⟩, by decide⟩
theorem lk_X7_222 : bv_LV RX7 222 1 yX1_sees MX1_sees 4 := ⟨⟨List.mem_of_getElem? (i := 585) (by decide +kernel), List.mem_of_getElem? (i := 339) (by decide +kernel), List.mem_of_getElem? (i := 340) (by decide +kernel), List.mem_of_getElem? (i := 74) (by decide +kernel), List.mem_of_getElem? (i := 341) (by decide +kernel)⟩, ⟨by decide, rfl, ⟨by decide +kernel, by decide +kernel, by decide +kernel⟩⟩, by decide⟩
theorem lk_X7_226 : bv_LV RX7 226 5 yX5_seenByAll MX5_seenByAll 1 := ⟨⟨List.mem_of_getElem? (i := 602) (by decide +kernel), List.mem_of_getElem? (i := 603) (by decide +kernel), List.mem_of_getElem? (i := 604) (by decide +kernel), List.mem_of_getElem? (i := 73) (by decide +kernel), List.mem_of_getElem? (i := 605) (by decide +kernel)⟩, ⟨by decide, rfl, ⟨by decide +kernel, by decide +kernel, by decide +kernel⟩⟩, by decide⟩
theorem lk_X7_230 : bv_LV RX7 230 7 yX7_workOutLefts MX7_workOutLefts 0 := ⟨⟨List.mem_of_getElem? (i := 612) (by decide +kernel), List.mem_of_getElem? (i := 614) (by decide +kernel), List.mem_of_getElem? (i := 13) (by decide +kernel), List.mem_of_getElem? (i := 72) (by decide +kernel), List.mem_of_getElem? (i := 615) (by decide +kernel)⟩, ⟨by decide, rfl, ⟨by decide +kernel, by decide +kernel, by decide +kernel⟩⟩, by decide⟩
theorem lk_X7_233 : bv_LV RX7 233 7 yX7_leftInAny MX7_leftInAny 1 := ⟨⟨List.mem_of_getElem? (i := 616) (by decide +kernel), List.mem_of_getElem? (i := 618) (by decide +kernel), List.mem_of_getElem? (i := 14) (by decide +kernel), List.mem_of_getElem? (i := 72) (by decide +kernel), List.mem_of_getElem? (i := 619) (by decide +kernel)⟩, ⟨by decide, rfl, ⟨by decide +kernel, by decide +kernel, by decide +kernel⟩⟩, by decide⟩
theorem lk_X7_236 : bv_LV RX7 236 7 yX7_workOutPrices MX7_workOutPrices 0 := ⟨⟨List.mem_of_getElem? (i := 624) (by decide +kernel), List.mem_of_getElem? (i := 626) (by decide +kernel), List.mem_of_getElem? (i := 15) (by decide +kernel), List.mem_of_getElem? (i := 72) (by decide +kernel), List.mem_of_getElem? (i := 627) (by decide +kernel)⟩, ⟨by decide, rfl, ⟨by decide +kernel, by decide +kernel, by decide +kernel⟩⟩, by decide⟩
theorem lk_X7_239 : bv_LV RX7 239 7 yX7_priceTogether MX7_priceTogether 1 := ⟨⟨List.mem_of_getElem? (i := 628) (by decide +kernel), List.mem_of_getElem? (i := 630) (by decide +kernel), List.mem_of_getElem? (i := 16) (by decide +kernel), List.mem_of_getElem? (i := 72) (by decide +kernel), List.mem_of_getElem? (i := 631) (by decide +kernel)⟩, ⟨by decide, rfl, ⟨by decide +kernel, by decide +kernel, by decide +kernel⟩⟩, by decide⟩
theorem lk_X7_242 : bv_LV RX7 242 7 yX7_isApart MX7_isApart 1 := ⟨⟨List.mem_of_getElem? (i := 632) (by decide +kernel), List.mem_of_getElem? (i := 634) (by decide +kernel), List.mem_of_getElem? (i := 17) (by decide +kernel), List.mem_of_getElem? (i := 72) (by decide +kernel), List.mem_of_getElem? (i := 635) (by decide +kernel)⟩, ⟨by decide, rfl, ⟨by decide +kernel, by decide +kernel, by decide +kernel⟩⟩, by decide⟩
theorem lk_X7_248 : bv_LV RX7 248 6 yX6_speak MX6_speak 5 := ⟨⟨List.mem_of_getElem? (i := 656) (by decide +kernel), List.mem_of_getElem? (i := 657) (by decide +kernel), List.mem_of_getElem? (i := 658) (by decide +kernel), List.mem_of_getElem? (i := 78) (by decide +kernel), List.mem_of_getElem? (i := 659) (by decide +kernel)⟩, ⟨by decide, rfl, ⟨by decide +kernel, by decide +kernel, by decide +kernel⟩⟩, by decide⟩
theorem lk_X7_258 : bv_LS RX7 258 yX7_isSheet MX7_isSheet 1 := ⟨⟨List.mem_of_getElem? (i := 690) (by decide +kernel), List.mem_of_getElem? (i := 691) (by decide +kernel), List.mem_of_getElem? (i := 72) (by decide +kernel), List.mem_of_getElem? (i := 692) (by decide +kernel)⟩, ⟨by decide +kernel, by decide +kernel, by decide +kernel⟩, by decide⟩
theorem lk_X7_261 : bv_LV RX7 261 3 yX3_startWith MX3_startWith 2 := ⟨⟨List.mem_of_getElem? (i := 693) (by decide +kernel), List.mem_of_getElem? (i := 694) (by decide +kernel), List.mem_of_getElem? (i := 695) (by decide +kernel), List.mem_of_getElem? (i := 79) (by decide +kernel), List.mem_of_getElem? (i := 696) (by decide +kernel)⟩, ⟨by decide, rfl, ⟨by decide +kernel, by decide +kernel, by decide +kernel⟩⟩, by decide⟩
theorem lk_X7_273 : bv_LV RX7 273 3 yX3_cut MX3_cut 1 := ⟨⟨List.mem_of_getElem? (i := 701) (by decide +kernel), List.mem_of_getElem? (i := 702) (by decide +kernel), List.mem_of_getElem? (i := 703) (by decide +kernel), List.mem_of_getElem? (i := 79) (by decide +kernel), List.mem_of_getElem? (i := 704) (by decide +kernel)⟩, ⟨by decide, rfl, ⟨by decide +kernel, by decide +kernel, by decide +kernel⟩⟩, by decide⟩
theorem lk_X7_276 : bv_LV RX7 276 3 yX3_hasRun MX3_hasRun 2 := ⟨⟨List.mem_of_getElem? (i := 710) (by decide +kernel), List.mem_of_getElem? (i := 711) (by decide +kernel), List.mem_of_getElem? (i := 712) (by decide +kernel), List.mem_of_getElem? (i := 79) (by decide +kernel), List.mem_of_getElem? (i := 713) (by decide +kernel)⟩, ⟨by decide, rfl, ⟨by decide +kernel, by decide +kernel, by decide +kernel⟩⟩, by decide⟩
theorem lk_X7_286 : bv_LV RX7 286 5 yX5_copyTown MX5_copyTown 1 := ⟨⟨List.mem_of_getElem? (i := 727) (by decide +kernel), List.mem_of_getElem? (i := 728) (by decide +kernel), List.mem_of_getElem? (i := 729) (by decide +kernel), List.mem_of_getElem? (i := 73) (by decide +kernel), List.mem_of_getElem? (i := 730) (by decide +kernel)⟩, ⟨by decide, rfl, ⟨by decide +kernel, by decide +kernel, by decide +kernel⟩⟩, by decide⟩
theorem lk_X7_296 : bv_LV RX7 296 5 yX5_openBottles MX5_openBottles 0 := ⟨⟨List.mem_of_getElem? (i := 758) (by decide +kernel), List.mem_of_getElem? (i := 759) (by decide +kernel), List.mem_of_getElem? (i := 760) (by decide +kernel), List.mem_of_getElem? (i := 73) (by decide +kernel), List.mem_of_getElem? (i := 761) (by decide +kernel)⟩, ⟨by decide, rfl, ⟨by decide +kernel, by decide +kernel, by decide +kernel⟩⟩, by decide⟩
theorem lk_X7_308 : bv_LV RX7 308 2 yX2_worth MX2_worth 5 := ⟨⟨List.mem_of_getElem? (i := 403) (by decide +kernel), List.mem_of_getElem? (i := 404) (by decide +kernel), List.mem_of_getElem? (i := 405) (by decide +kernel), List.mem_of_getElem? (i := 77) (by decide +kernel), List.mem_of_getElem? (i := 406) (by decide +kernel)⟩, ⟨by decide, rfl, ⟨by decide +kernel, by decide +kernel, by decide +kernel⟩⟩, by decide⟩
theorem lk_X7_312 : bv_LS RX7 312 yX7_held MX7_held 3 := ⟨⟨List.mem_of_getElem? (i := 434) (by decide +kernel), List.mem_of_getElem? (i := 435) (by decide +kernel), List.mem_of_getElem? (i := 72) (by decide +kernel), List.mem_of_getElem? (i := 436) (by decide +kernel)⟩, ⟨by decide +kernel, by decide +kernel, by decide +kernel⟩, by decide⟩
theorem lk_X7_318 : bv_LV RX7 318 0 yX0_priceBy MX0_priceBy 1 := ⟨⟨List.mem_of_getElem? (i := 482) (by decide +kernel), List.mem_of_getElem? (i := 483) (by decide +kernel), List.mem_of_getElem? (i := 484) (by decide +kernel), List.mem_of_getElem? (i := 76) (by decide +kernel), List.mem_of_getElem? (i := 485) (by decide +kernel)⟩, ⟨by decide, rfl, ⟨by decide +kernel, by decide +kernel, by decide +kernel⟩⟩, by decide⟩
theorem lk_X7_54 : bv_LS RX7 54 yX7_isPlace MX7_isPlace 1 := ⟨⟨List.mem_of_getElem? (i := 315) (by decide +kernel), List.mem_of_getElem? (i := 316) (by decide +kernel), List.mem_of_getElem? (i := 72) (by decide +kernel), List.mem_of_getElem? (i := 317) (by decide +kernel)⟩, ⟨by decide +kernel, by decide +kernel, by decide +kernel⟩, by decide⟩
theorem lk_X7_58 : bv_LS RX7 58 yX7_isWithin MX7_isWithin 3 := ⟨⟨List.mem_of_getElem? (i := 318) (by decide +kernel), List.mem_of_getElem? (i := 319) (by decide +kernel), List.mem_of_getElem? (i := 72) (by decide +kernel), List.mem_of_getElem? (i := 320) (by decide +kernel)⟩, ⟨by decide +kernel, by decide +kernel, by decide +kernel⟩, by decide⟩
theorem lk_X7_62 : bv_LV RX7 62 7 yX7_error MX7_error 1 := ⟨⟨List.mem_of_getElem? (i := 321) (by decide +kernel), List.mem_of_getElem? (i := 323) (by decide +kernel), List.mem_of_getElem? (i := 0) (by decide +kernel), List.mem_of_getElem? (i := 72) (by decide +kernel), List.mem_of_getElem? (i := 324) (by decide +kernel)⟩, ⟨by decide, rfl, ⟨by decide +kernel, by decide +kernel, by decide +kernel⟩⟩, by decide⟩
theorem lk_X7_78 : bv_LV RX7 78 1 yX1_goneBehind MX1_goneBehind 1 := ⟨⟨List.mem_of_getElem? (i := 330) (by decide +kernel), List.mem_of_getElem? (i := 331) (by decide +kernel), List.mem_of_getElem? (i := 332) (by decide +kernel), List.mem_of_getElem? (i := 74) (by decide +kernel), List.mem_of_getElem? (i := 333) (by decide +kernel)⟩, ⟨by decide, rfl, ⟨by decide +kernel, by decide +kernel, by decide +kernel⟩⟩, by decide⟩
theorem lk_X7_81 : bv_LV RX7 81 1 yX1_seenFrom MX1_seenFrom 3 := ⟨⟨List.mem_of_getElem? (i := 334) (by decide +kernel), List.mem_of_getElem? (i := 335) (by decide +kernel), List.mem_of_getElem? (i := 336) (by decide +kernel), List.mem_of_getElem? (i := 74) (by decide +kernel), List.mem_of_getElem? (i := 337) (by decide +kernel)⟩, ⟨by decide, rfl, ⟨by decide +kernel, by decide +kernel, by decide +kernel⟩⟩, by decide⟩
theorem lk_X7_85 : bv_LV RX7 85 1 yX1_seenAround MX1_seenAround 2 := ⟨⟨List.mem_of_getElem? (i := 345) (by decide +kernel), List.mem_of_getElem? (i := 346) (by decide +kernel), List.mem_of_getElem? (i := 347) (by decide +kernel), List.mem_of_getElem? (i := 74) (by decide +kernel), List.mem_of_getElem? (i := 348) (by decide +kernel)⟩, ⟨by decide, rfl, ⟨by decide +kernel, by decide +kernel, by decide +kernel⟩⟩, by decide⟩
theorem lk_X7_89 : bv_LS RX7 89 yJ6_bitCount_0f7a4 MJ6_bitCount_0f7a4 1 := ⟨⟨List.mem_of_getElem? (i := 350) (by decide +kernel), List.mem_of_getElem? (i := 351) (by decide +kernel), List.mem_of_getElem? (i := 82) (by decide +kernel), List.mem_of_getElem? (i := 352) (by decide +kernel)⟩, ⟨by decide +kernel, by decide +kernel, by decide +kernel⟩, by decide⟩
theorem lk_X7_94 : bv_LV RX7 94 5 yX5_villagesOn MX5_villagesOn 1 := ⟨⟨List.mem_of_getElem? (i := 356) (by decide +kernel), List.mem_of_getElem? (i := 357) (by decide +kernel), List.mem_of_getElem? (i := 358) (by decide +kernel), List.mem_of_getElem? (i := 73) (by decide +kernel), List.mem_of_getElem? (i := 359) (by decide +kernel)⟩, ⟨by decide, rfl, ⟨by decide +kernel, by decide +kernel, by decide +kernel⟩⟩, by decide⟩
theorem lk_X8_102 : bv_LV RX8 102 8 yX8_gives MX8_gives 4 := ⟨⟨List.mem_of_getElem? (i := 911) (by decide +kernel), List.mem_of_getElem? (i := 913) (by decide +kernel), List.mem_of_getElem? (i := 31) (by decide +kernel), List.mem_of_getElem? (i := 80) (by decide +kernel), List.mem_of_getElem? (i := 914) (by decide +kernel)⟩, ⟨by decide, rfl, ⟨by decide +kernel, by decide +kernel, by decide +kernel⟩⟩, by decide⟩
theorem lk_X8_106 : bv_LS RX8 106 yX8_isKm MX8_isKm 1 := ⟨⟨List.mem_of_getElem? (i := 902) (by decide +kernel), List.mem_of_getElem? (i := 903) (by decide +kernel), List.mem_of_getElem? (i := 80) (by decide +kernel), List.mem_of_getElem? (i := 904) (by decide +kernel)⟩, ⟨by decide +kernel, by decide +kernel, by decide +kernel⟩, by decide⟩
theorem lk_X8_111 : bv_LV RX8 111 8 yX8_lay MX8_lay 3 := ⟨⟨List.mem_of_getElem? (i := 907) (by decide +kernel), List.mem_of_getElem? (i := 909) (by decide +kernel), List.mem_of_getElem? (i := 30) (by decide +kernel), List.mem_of_getElem? (i := 80) (by decide +kernel), List.mem_of_getElem? (i := 910) (by decide +kernel)⟩, ⟨by decide, rfl, ⟨by decide +kernel, by decide +kernel, by decide +kernel⟩⟩, by decide⟩
theorem lk_X8_115 : bv_LV RX8 115 8 yX8_isBottle MX8_isBottle 1 := ⟨⟨List.mem_of_getElem? (i := 929) (by decide +kernel), List.mem_of_getElem? (i := 931) (by decide +kernel), List.mem_of_getElem? (i := 33) (by decide +kernel), List.mem_of_getElem? (i := 80) (by decide +kernel), List.mem_of_getElem? (i := 932) (by decide +kernel)⟩, ⟨by decide, rfl, ⟨by decide +kernel, by decide +kernel, by decide +kernel⟩⟩, by decide⟩
theorem lk_X8_118 : bv_LV RX8 118 8 yX8_costsOf MX8_costsOf 1 := ⟨⟨List.mem_of_getElem? (i := 949) (by decide +kernel), List.mem_of_getElem? (i := 951) (by decide +kernel), List.mem_of_getElem? (i := 38) (by decide +kernel), List.mem_of_getElem? (i := 80) (by decide +kernel), List.mem_of_getElem? (i := 952) (by decide +kernel)⟩, ⟨by decide, rfl, ⟨by decide +kernel, by decide +kernel, by decide +kernel⟩⟩, by decide⟩
theorem lk_X8_121 : bv_LS RX8 121 yX8_isUnder MX8_isUnder 2 := ⟨⟨List.mem_of_getElem? (i := 961) (by decide +kernel), List.mem_of_getElem? (i := 962) (by decide +kernel), List.mem_of_getElem? (i := 80) (by decide +kernel), List.mem_of_getElem? (i := 963) (by decide +kernel)⟩, ⟨by decide +kernel, by decide +kernel, by decide +kernel⟩, by decide⟩
theorem lk_X8_138 : bv_LV RX8 138 8 yX8_look MX8_look 0 := ⟨⟨List.mem_of_getElem? (i := 1002) (by decide +kernel), List.mem_of_getElem? (i := 1004) (by decide +kernel), List.mem_of_getElem? (i := 45) (by decide +kernel), List.mem_of_getElem? (i := 80) (by decide +kernel), List.mem_of_getElem? (i := 1005) (by decide +kernel)⟩, ⟨by decide, rfl, ⟨by decide +kernel, by decide +kernel, by decide +kernel⟩⟩, by decide⟩
theorem lk_X8_146 : bv_LV RX8 146 8 yX8_step MX8_step 2 := ⟨⟨List.mem_of_getElem? (i := 1010) (by decide +kernel), List.mem_of_getElem? (i := 1012) (by decide +kernel), List.mem_of_getElem? (i := 47) (by decide +kernel), List.mem_of_getElem? (i := 80) (by decide +kernel), List.mem_of_getElem? (i := 1013) (by decide +kernel)⟩, ⟨by decide, rfl, ⟨by decide +kernel, by decide +kernel, by decide +kernel⟩⟩, by decide⟩
theorem lk_X8_153 : bv_LV RX8 153 8 yX8_one MX8_one 0 := ⟨⟨List.mem_of_getElem? (i := 998) (by decide +kernel), List.mem_of_getElem? (i := 1000) (by decide +kernel), List.mem_of_getElem? (i := 44) (by decide +kernel), List.mem_of_getElem? (i := 80) (by decide +kernel), List.mem_of_getElem? (i := 1001) (by decide +kernel)⟩, ⟨by decide, rfl, ⟨by decide +kernel, by decide +kernel, by decide +kernel⟩⟩, by decide⟩
theorem lk_X8_156 : bv_LV RX8 156 8 yX8_any MX8_any 0 := ⟨⟨List.mem_of_getElem? (i := 978) (by decide +kernel), List.mem_of_getElem? (i := 980) (by decide +kernel), List.mem_of_getElem? (i := 39) (by decide +kernel), List.mem_of_getElem? (i := 80) (by decide +kernel), List.mem_of_getElem? (i := 981) (by decide +kernel)⟩, ⟨by decide, rfl, ⟨by decide +kernel, by decide +kernel, by decide +kernel⟩⟩, by decide⟩
theorem lk_X8_159 : bv_LV RX8 159 8 yX8_nameOf MX8_nameOf 1 := ⟨⟨List.mem_of_getElem? (i := 1006) (by decide +kernel), List.mem_of_getElem? (i := 1008) (by decide +kernel), List.mem_of_getElem? (i := 46) (by decide +kernel), List.mem_of_getElem? (i := 80) (by decide +kernel), List.mem_of_getElem? (i := 1009) (by decide +kernel)⟩, ⟨by decide, rfl, ⟨by decide +kernel, by decide +kernel, by decide +kernel⟩⟩, by decide⟩
theorem lk_X8_162 : bv_LV RX8 162 8 yX8_opens MX8_opens 1 := ⟨⟨List.mem_of_getElem? (i := 1014) (by decide +kernel), List.mem_of_getElem? (i := 1016) (by decide +kernel), List.mem_of_getElem? (i := 48) (by decide +kernel), List.mem_of_getElem? (i := 80) (by decide +kernel), List.mem_of_getElem? (i := 1017) (by decide +kernel)⟩, ⟨by decide, rfl, ⟨by decide +kernel, by decide +kernel, by decide +kernel⟩⟩, by decide⟩
theorem lk_X8_166 : bv_LV RX8 166 8 yX8_number MX8_number 0 := ⟨⟨List.mem_of_getElem? (i := 1018) (by decide +kernel), List.mem_of_getElem? (i := 1020) (by decide +kernel), List.mem_of_getElem? (i := 49) (by decide +kernel), List.mem_of_getElem? (i := 80) (by decide +kernel), List.mem_of_getElem? (i := 1021) (by decide +kernel)⟩, ⟨by decide, rfl, ⟨by decide +kernel, by decide +kernel, by decide +kernel⟩⟩, by decide⟩
theorem lk_X8_169 : bv_LV RX8 169 8 yX8_times MX8_times 0 := ⟨⟨List.mem_of_getElem? (i := 994) (by decide +kernel), List.mem_of_getElem? (i := 996) (by decide +kernel), List.mem_of_getElem? (i := 43) (by decide +kernel), List.mem_of_getElem? (i := 80) (by decide +kernel), List.mem_of_getElem? (i := 997) (by decide +kernel)⟩, ⟨by decide, rfl, ⟨by decide +kernel, by decide +kernel, by decide +kernel⟩⟩, by decide⟩
theorem lk_X8_172 : bv_LV RX8 172 8 yX8_sum MX8_sum 0 := ⟨⟨List.mem_of_getElem? (i := 990) (by decide +kernel), List.mem_of_getElem? (i := 992) (by decide +kernel), List.mem_of_getElem? (i := 42) (by decide +kernel), List.mem_of_getElem? (i := 80) (by decide +kernel), List.mem_of_getElem? (i := 993) (by decide +kernel)⟩, ⟨by decide, rfl, ⟨by decide +kernel, by decide +kernel, by decide +kernel⟩⟩, by decide⟩
theorem lk_X8_175 : bv_LV RX8 175 8 yX8_compares MX8_compares 0 := ⟨⟨List.mem_of_getElem? (i := 986) (by decide +kernel), List.mem_of_getElem? (i := 988) (by decide +kernel), List.mem_of_getElem? (i := 41) (by decide +kernel), List.mem_of_getElem? (i := 80) (by decide +kernel), List.mem_of_getElem? (i := 989) (by decide +kernel)⟩, ⟨by decide, rfl, ⟨by decide +kernel, by decide +kernel, by decide +kernel⟩⟩, by decide⟩
theorem lk_X8_178 : bv_LV RX8 178 8 yX8_all MX8_all 0 := ⟨⟨List.mem_of_getElem? (i := 982) (by decide +kernel), List.mem_of_getElem? (i := 984) (by decide +kernel), List.mem_of_getElem? (i := 40) (by decide +kernel), List.mem_of_getElem? (i := 80) (by decide +kernel), List.mem_of_getElem? (i := 985) (by decide +kernel)⟩, ⟨by decide, rfl, ⟨by decide +kernel, by decide +kernel, by decide +kernel⟩⟩, by decide⟩
theorem lk_X8_181 : bv_LS RX8 181 yX8_twoOf MX8_twoOf 3 := ⟨⟨List.mem_of_getElem? (i := 919) (by decide +kernel), List.mem_of_getElem? (i := 920) (by decide +kernel), List.mem_of_getElem? (i := 80) (by decide +kernel), List.mem_of_getElem? (i := 921) (by decide +kernel)⟩, ⟨by decide +kernel, by decide +kernel, by decide +kernel⟩, by decide⟩
theorem lk_X8_184 : bv_LV RX8 184 8 yX8_works MX8_works 1 := ⟨⟨List.mem_of_getElem? (i := 915) (by decide +kernel), List.mem_of_getElem? (i := 917) (by decide +kernel), List.mem_of_getElem? (i := 32) (by decide +kernel), List.mem_of_getElem? (i := 80) (by decide +kernel), List.mem_of_getElem? (i := 918) (by decide +kernel)⟩, ⟨by decide, rfl, ⟨by decide +kernel, by decide +kernel, by decide +kernel⟩⟩, by decide⟩
theorem lk_X8_187 : bv_LS RX8 187 yX8_held MX8_held 3 := ⟨⟨List.mem_of_getElem? (i := 922) (by decide +kernel), List.mem_of_getElem? (i := 923) (by decide +kernel), List.mem_of_getElem? (i := 80) (by decide +kernel), List.mem_of_getElem? (i := 924) (by decide +kernel)⟩, ⟨by decide +kernel, by decide +kernel, by decide +kernel⟩, by decide⟩
theorem lk_X8_190 : bv_LV RX8 190 8 yX8_day MX8_day 0 := ⟨⟨List.mem_of_getElem? (i := 1034) (by decide +kernel), List.mem_of_getElem? (i := 1036) (by decide +kernel), List.mem_of_getElem? (i := 51) (by decide +kernel), List.mem_of_getElem? (i := 80) (by decide +kernel), List.mem_of_getElem? (i := 1037) (by decide +kernel)⟩, ⟨by decide, rfl, ⟨by decide +kernel, by decide +kernel, by decide +kernel⟩⟩, by decide⟩
theorem lk_X8_193 : bv_LV RX8 193 8 yX8_goesOn MX8_goesOn 1 := ⟨⟨List.mem_of_getElem? (i := 1030) (by decide +kernel), List.mem_of_getElem? (i := 1032) (by decide +kernel), List.mem_of_getElem? (i := 50) (by decide +kernel), List.mem_of_getElem? (i := 80) (by decide +kernel), List.mem_of_getElem? (i := 1033) (by decide +kernel)⟩, ⟨by decide, rfl, ⟨by decide +kernel, by decide +kernel, by decide +kernel⟩⟩, by decide⟩
theorem lk_X8_196 : bv_LV RX8 196 8 yX8_missing MX8_missing 0 := ⟨⟨List.mem_of_getElem? (i := 1038) (by decide +kernel), List.mem_of_getElem? (i := 1040) (by decide +kernel), List.mem_of_getElem? (i := 52) (by decide +kernel), List.mem_of_getElem? (i := 80) (by decide +kernel), List.mem_of_getElem? (i := 1041) (by decide +kernel)⟩, ⟨by decide, rfl, ⟨by decide +kernel, by decide +kernel, by decide +kernel⟩⟩, by decide⟩
theorem lk_X8_200 : bv_LV RX8 200 8 yX8_draw MX8_draw 0 := ⟨⟨List.mem_of_getElem? (i := 1046) (by decide +kernel), List.mem_of_getElem? (i := 1048) (by decide +kernel), List.mem_of_getElem? (i := 53) (by decide +kernel), List.mem_of_getElem? (i := 80) (by decide +kernel), List.mem_of_getElem? (i := 1049) (by decide +kernel)⟩, ⟨by decide, rfl, ⟨by decide +kernel, by decide +kernel, by decide +kernel⟩⟩, by decide⟩
theorem lk_X8_203 : bv_LS RX8 203 yX8_copyAll MX8_copyAll 2 := ⟨⟨List.mem_of_getElem? (i := 1059) (by decide +kernel), List.mem_of_getElem? (i := 1060) (by decide +kernel), List.mem_of_getElem? (i := 80) (by decide +kernel), List.mem_of_getElem? (i := 1061) (by decide +kernel)⟩, ⟨by decide +kernel, by decide +kernel, by decide +kernel⟩, by decide⟩
theorem lk_X8_207 : bv_LV RX8 207 8 yX8_thinks MX8_thinks 0 := ⟨⟨List.mem_of_getElem? (i := 1055) (by decide +kernel), List.mem_of_getElem? (i := 1057) (by decide +kernel), List.mem_of_getElem? (i := 54) (by decide +kernel), List.mem_of_getElem? (i := 80) (by decide +kernel), List.mem_of_getElem? (i := 1058) (by decide +kernel)⟩, ⟨by decide, rfl, ⟨by decide +kernel, by decide +kernel, by decide +kernel⟩⟩, by decide⟩
theorem lk_X8_210 : bv_LV RX8 210 8 yX8_putsBack MX8_putsBack 0 := ⟨⟨List.mem_of_getElem? (i := 1062) (by decide +kernel), List.mem_of_getElem? (i := 1064) (by decide +kernel), List.mem_of_getElem? (i := 55) (by decide +kernel), List.mem_of_getElem? (i := 80) (by decide +kernel), List.mem_of_getElem? (i := 1065) (by decide +kernel)⟩, ⟨by decide, rfl, ⟨by decide +kernel, by decide +kernel, by decide +kernel⟩⟩, by decide⟩
theorem lk_X8_214 : bv_LV RX8 214 8 yX8_sees MX8_sees 2 := ⟨⟨List.mem_of_getElem? (i := 1083) (by decide +kernel), List.mem_of_getElem? (i := 1085) (by decide +kernel), List.mem_of_getElem? (i := 56) (by decide +kernel), List.mem_of_getElem? (i := 80) (by decide +kernel), List.mem_of_getElem? (i := 1086) (by decide +kernel)⟩, ⟨by decide, rfl, ⟨by decide +kernel, by decide +kernel, by decide +kernel⟩⟩, by decide⟩
theorem lk_X8_217 : bv_LV RX8 217 8 yX8_worth MX8_worth 1 := ⟨⟨List.mem_of_getElem? (i := 1099) (by decide +kernel), List.mem_of_getElem? (i := 1101) (by decide +kernel), List.mem_of_getElem? (i := 57) (by decide +kernel), List.mem_of_getElem? (i := 80) (by decide +kernel), List.mem_of_getElem? (i := 1102) (by decide +kernel)⟩, ⟨by decide, rfl, ⟨by decide +kernel, by decide +kernel, by decide +kernel⟩⟩, by decide⟩
theorem lk_X8_223 : bv_LV RX8 223 8 yX8_begins MX8_begins 1 := ⟨⟨List.mem_of_getElem? (i := 1127) (by decide +kernel), List.mem_of_getElem? (i := 1129) (by decide +kernel), List.mem_of_getElem? (i := 59) (by decide +kernel), List.mem_of_getElem? (i := 80) (by decide +kernel), List.mem_of_getElem? (i := 1130) (by decide +kernel)⟩, ⟨by decide, rfl, ⟨by decide +kernel, by decide +kernel, by decide +kernel⟩⟩, by decide⟩
theorem lk_X8_226 : bv_LV RX8 226 8 yX8_plainPours MX8_plainPours 2 := ⟨⟨List.mem_of_getElem? (i := 1131) (by decide +kernel), List.mem_of_getElem? (i := 1133) (by decide +kernel), List.mem_of_getElem? (i := 60) (by decide +kernel), List.mem_of_getElem? (i := 80) (by decide +kernel), List.mem_of_getElem? (i := 1134) (by decide +kernel)⟩, ⟨by decide, rfl, ⟨by decide +kernel, by decide +kernel, by decide +kernel⟩⟩, by decide⟩
theorem lk_X8_229 : bv_LV RX8 229 8 yX8_pours MX8_pours 2 := ⟨⟨List.mem_of_getElem? (i := 1123) (by decide +kernel), List.mem_of_getElem? (i := 1125) (by decide +kernel), List.mem_of_getElem? (i := 58) (by decide +kernel), List.mem_of_getElem? (i := 80) (by decide +kernel), List.mem_of_getElem? (i := 1126) (by decide +kernel)⟩, ⟨by decide, rfl, ⟨by decide +kernel, by decide +kernel, by decide +kernel⟩⟩, by decide⟩
theorem lk_X8_232 : bv_LV RX8 232 8 yX8_plainCosts MX8_plainCosts 2 := ⟨⟨List.mem_of_getElem? (i := 1143) (by decide +kernel), List.mem_of_getElem? (i := 1145) (by decide +kernel), List.mem_of_getElem? (i := 63) (by decide +kernel), List.mem_of_getElem? (i := 80) (by decide +kernel), List.mem_of_getElem? (i := 1146) (by decide +kernel)⟩, ⟨by decide, rfl, ⟨by decide +kernel, by decide +kernel, by decide +kernel⟩⟩, by decide⟩
theorem lk_X8_235 : bv_LV RX8 235 8 yX8_ages MX8_ages 2 := ⟨⟨List.mem_of_getElem? (i := 1147) (by decide +kernel), List.mem_of_getElem? (i := 1149) (by decide +kernel), List.mem_of_getElem? (i := 64) (by decide +kernel), List.mem_of_getElem? (i := 80) (by decide +kernel), List.mem_of_getElem? (i := 1150) (by decide +kernel)⟩, ⟨by decide, rfl, ⟨by decide +kernel, by decide +kernel, by decide +kernel⟩⟩, by decide⟩
theorem lk_X8_238 : bv_LV RX8 238 8 yX8_cutCosts MX8_cutCosts 2 := ⟨⟨List.mem_of_getElem? (i := 1139) (by decide +kernel), List.mem_of_getElem? (i := 1141) (by decide +kernel), List.mem_of_getElem? (i := 62) (by decide +kernel), List.mem_of_getElem? (i := 80) (by decide +kernel), List.mem_of_getElem? (i := 1142) (by decide +kernel)⟩, ⟨by decide, rfl, ⟨by decide +kernel, by decide +kernel, by decide +kernel⟩⟩, by decide⟩
theorem lk_X8_241 : bv_LV RX8 241 8 yX8_plainAges MX8_plainAges 2 := ⟨⟨List.mem_of_getElem? (i := 1155) (by decide +kernel), List.mem_of_getElem? (i := 1157) (by decide +kernel), List.mem_of_getElem? (i := 66) (by decide +kernel), List.mem_of_getElem? (i := 80) (by decide +kernel), List.mem_of_getElem? (i := 1158) (by decide +kernel)⟩, ⟨by decide, rfl, ⟨by decide +kernel, by decide +kernel, by decide +kernel⟩⟩, by decide⟩
theorem lk_X8_244 : bv_LV RX8 244 8 yX8_oldAges MX8_oldAges 2 := ⟨⟨List.mem_of_getElem? (i := 1151) (by decide +kernel), List.mem_of_getElem? (i := 1153) (by decide +kernel), List.mem_of_getElem? (i := 65) (by decide +kernel), List.mem_of_getElem? (i := 80) (by decide +kernel), List.mem_of_getElem? (i := 1154) (by decide +kernel)⟩, ⟨by decide, rfl, ⟨by decide +kernel, by decide +kernel, by decide +kernel⟩⟩, by decide⟩
theorem lk_X8_247 : bv_LV RX8 247 8 yX8_costs MX8_costs 2 := ⟨⟨List.mem_of_getElem? (i := 1135) (by decide +kernel), List.mem_of_getElem? (i := 1137) (by decide +kernel), List.mem_of_getElem? (i := 61) (by decide +kernel), List.mem_of_getElem? (i := 80) (by decide +kernel), List.mem_of_getElem? (i := 1138) (by decide +kernel)⟩, ⟨by decide, rfl, ⟨by decide +kernel, by decide +kernel, by decide +kernel⟩⟩, by decide⟩
theorem lk_X8_250 : bv_LV RX8 250 8 yX8_plainTells MX8_plainTells 2 := ⟨⟨List.mem_of_getElem? (i := 1163) (by decide +kernel), List.mem_of_getElem? (i := 1165) (by decide +kernel), List.mem_of_getElem? (i := 68) (by decide +kernel), List.mem_of_getElem? (i := 80) (by decide +kernel), List.mem_of_getElem? (i := 1166) (by decide +kernel)⟩, ⟨by decide, rfl, ⟨by decide +kernel, by decide +kernel, by decide +kernel⟩⟩, by decide⟩
theorem lk_X8_253 : bv_LV RX8 253 8 yX8_tells MX8_tells 2 := ⟨⟨List.mem_of_getElem? (i := 1159) (by decide +kernel), List.mem_of_getElem? (i := 1161) (by decide +kernel), List.mem_of_getElem? (i := 67) (by decide +kernel), List.mem_of_getElem? (i := 80) (by decide +kernel), List.mem_of_getElem? (i := 1162) (by decide +kernel)⟩, ⟨by decide, rfl, ⟨by decide +kernel, by decide +kernel, by decide +kernel⟩⟩, by decide⟩
theorem lk_X8_256 : bv_LS RX8 256 yX8_isSheet MX8_isSheet 1 := ⟨⟨List.mem_of_getElem? (i := 1175) (by decide +kernel), List.mem_of_getElem? (i := 1176) (by decide +kernel), List.mem_of_getElem? (i := 80) (by decide +kernel), List.mem_of_getElem? (i := 1177) (by decide +kernel)⟩, ⟨by decide +kernel, by decide +kernel, by decide +kernel⟩, by decide⟩
theorem lk_X8_259 : bv_LV RX8 259 8 yX8_notThere MX8_notThere 1 := ⟨⟨List.mem_of_getElem? (i := 1182) (by decide +kernel), List.mem_of_getElem? (i := 1184) (by decide +kernel), List.mem_of_getElem? (i := 69) (by decide +kernel), List.mem_of_getElem? (i := 80) (by decide +kernel), List.mem_of_getElem? (i := 1185) (by decide +kernel)⟩, ⟨by decide, rfl, ⟨by decide +kernel, by decide +kernel, by decide +kernel⟩⟩, by decide⟩
theorem lk_X8_262 : bv_LV RX8 262 8 yX8_notMoved MX8_notMoved 5 := ⟨⟨List.mem_of_getElem? (i := 1190) (by decide +kernel), List.mem_of_getElem? (i := 1192) (by decide +kernel), List.mem_of_getElem? (i := 70) (by decide +kernel), List.mem_of_getElem? (i := 80) (by decide +kernel), List.mem_of_getElem? (i := 1193) (by decide +kernel)⟩, ⟨by decide, rfl, ⟨by decide +kernel, by decide +kernel, by decide +kernel⟩⟩, by decide⟩
theorem lk_X8_47 : bv_LS RX8 47 yX8_in MX8_in 3 := ⟨⟨List.mem_of_getElem? (i := 838) (by decide +kernel), List.mem_of_getElem? (i := 839) (by decide +kernel), List.mem_of_getElem? (i := 80) (by decide +kernel), List.mem_of_getElem? (i := 840) (by decide +kernel)⟩, ⟨by decide +kernel, by decide +kernel, by decide +kernel⟩, by decide⟩
theorem lk_X8_51 : bv_LV RX8 51 8 yX8_isThere MX8_isThere 1 := ⟨⟨List.mem_of_getElem? (i := 863) (by decide +kernel), List.mem_of_getElem? (i := 865) (by decide +kernel), List.mem_of_getElem? (i := 26) (by decide +kernel), List.mem_of_getElem? (i := 80) (by decide +kernel), List.mem_of_getElem? (i := 866) (by decide +kernel)⟩, ⟨by decide, rfl, ⟨by decide +kernel, by decide +kernel, by decide +kernel⟩⟩, by decide⟩
theorem lk_X8_55 : bv_LS RX8 55 yX8_steps MX8_steps 2 := ⟨⟨List.mem_of_getElem? (i := 867) (by decide +kernel), List.mem_of_getElem? (i := 868) (by decide +kernel), List.mem_of_getElem? (i := 80) (by decide +kernel), List.mem_of_getElem? (i := 869) (by decide +kernel)⟩, ⟨by decide +kernel, by decide +kernel, by decide +kernel⟩, by decide⟩
theorem lk_X8_59 : bv_LV RX8 59 8 yX8_isSeen MX8_isSeen 3 := ⟨⟨List.mem_of_getElem? (i := 859) (by decide +kernel), List.mem_of_getElem? (i := 861) (by decide +kernel), List.mem_of_getElem? (i := 25) (by decide +kernel), List.mem_of_getElem? (i := 80) (by decide +kernel), List.mem_of_getElem? (i := 862) (by decide +kernel)⟩, ⟨by decide, rfl, ⟨by decide +kernel, by decide +kernel, by decide +kernel⟩⟩, by decide⟩
theorem lk_X8_62 : bv_LV RX8 62 8 yX8_viewOf MX8_viewOf 2 := ⟨⟨List.mem_of_getElem? (i := 855) (by decide +kernel), List.mem_of_getElem? (i := 857) (by decide +kernel), List.mem_of_getElem? (i := 24) (by decide +kernel), List.mem_of_getElem? (i := 80) (by decide +kernel), List.mem_of_getElem? (i := 858) (by decide +kernel)⟩, ⟨by decide, rfl, ⟨by decide +kernel, by decide +kernel, by decide +kernel⟩⟩, by decide⟩
theorem lk_X8_65 : bv_LS RX8 65 yX8_bits MX8_bits 1 := ⟨⟨List.mem_of_getElem? (i := 874) (by decide +kernel), List.mem_of_getElem? (i := 875) (by decide +kernel), List.mem_of_getElem? (i := 80) (by decide +kernel), List.mem_of_getElem? (i := 876) (by decide +kernel)⟩, ⟨by decide +kernel, by decide +kernel, by decide +kernel⟩, by decide⟩
theorem lk_X8_69 : bv_LS RX8 69 yX8_isPlace MX8_isPlace 1 := ⟨⟨List.mem_of_getElem? (i := 835) (by decide +kernel), List.mem_of_getElem? (i := 836) (by decide +kernel), List.mem_of_getElem? (i := 80) (by decide +kernel), List.mem_of_getElem? (i := 837) (by decide +kernel)⟩, ⟨by decide +kernel, by decide +kernel, by decide +kernel⟩, by decide⟩
theorem lk_X8_73 : bv_LV RX8 73 8 yX8_error MX8_error 1 := ⟨⟨List.mem_of_getElem? (i := 842) (by decide +kernel), List.mem_of_getElem? (i := 844) (by decide +kernel), List.mem_of_getElem? (i := 22) (by decide +kernel), List.mem_of_getElem? (i := 80) (by decide +kernel), List.mem_of_getElem? (i := 845) (by decide +kernel)⟩, ⟨by decide, rfl, ⟨by decide +kernel, by decide +kernel, by decide +kernel⟩⟩, by decide⟩
theorem lk_X8_76 : bv_LV RX8 76 8 yX8_becomes MX8_becomes 2 := ⟨⟨List.mem_of_getElem? (i := 847) (by decide +kernel), List.mem_of_getElem? (i := 849) (by decide +kernel), List.mem_of_getElem? (i := 23) (by decide +kernel), List.mem_of_getElem? (i := 80) (by decide +kernel), List.mem_of_getElem? (i := 850) (by decide +kernel)⟩, ⟨by decide, rfl, ⟨by decide +kernel, by decide +kernel, by decide +kernel⟩⟩, by decide⟩
theorem lk_X8_79 : bv_LV RX8 79 8 yX8_sightsOf MX8_sightsOf 1 := ⟨⟨List.mem_of_getElem? (i := 870) (by decide +kernel), List.mem_of_getElem? (i := 872) (by decide +kernel), List.mem_of_getElem? (i := 27) (by decide +kernel), List.mem_of_getElem? (i := 80) (by decide +kernel), List.mem_of_getElem? (i := 873) (by decide +kernel)⟩, ⟨by decide, rfl, ⟨by decide +kernel, by decide +kernel, by decide +kernel⟩⟩, by decide⟩
theorem lk_X8_82 : bv_LV RX8 82 8 yX8_villagesAt MX8_villagesAt 1 := ⟨⟨List.mem_of_getElem? (i := 877) (by decide +kernel), List.mem_of_getElem? (i := 879) (by decide +kernel), List.mem_of_getElem? (i := 28) (by decide +kernel), List.mem_of_getElem? (i := 80) (by decide +kernel), List.mem_of_getElem? (i := 880) (by decide +kernel)⟩, ⟨by decide, rfl, ⟨by decide +kernel, by decide +kernel, by decide +kernel⟩⟩, by decide⟩
theorem lk_X8_86 : bv_LV RX8 86 8 yX8_isVillage MX8_isVillage 1 := ⟨⟨List.mem_of_getElem? (i := 890) (by decide +kernel), List.mem_of_getElem? (i := 892) (by decide +kernel), List.mem_of_getElem? (i := 29) (by decide +kernel), List.mem_of_getElem? (i := 80) (by decide +kernel), List.mem_of_getElem? (i := 893) (by decide +kernel)⟩, ⟨by decide, rfl, ⟨by decide +kernel, by decide +kernel, by decide +kernel⟩⟩, by decide⟩
theorem lk_X8_89 : bv_LV RX8 89 8 yX8_of MX8_of 2 := ⟨⟨List.mem_of_getElem? (i := 933) (by decide +kernel), List.mem_of_getElem? (i := 935) (by decide +kernel), List.mem_of_getElem? (i := 34) (by decide +kernel), List.mem_of_getElem? (i := 80) (by decide +kernel), List.mem_of_getElem? (i := 936) (by decide +kernel)⟩, ⟨by decide, rfl, ⟨by decide +kernel, by decide +kernel, by decide +kernel⟩⟩, by decide⟩
theorem lk_X8_92 : bv_LV RX8 92 8 yX8_between MX8_between 3 := ⟨⟨List.mem_of_getElem? (i := 941) (by decide +kernel), List.mem_of_getElem? (i := 943) (by decide +kernel), List.mem_of_getElem? (i := 36) (by decide +kernel), List.mem_of_getElem? (i := 80) (by decide +kernel), List.mem_of_getElem? (i := 944) (by decide +kernel)⟩, ⟨by decide, rfl, ⟨by decide +kernel, by decide +kernel, by decide +kernel⟩⟩, by decide⟩
theorem lk_X8_96 : bv_LV RX8 96 8 yX8_leftIn MX8_leftIn 1 := ⟨⟨List.mem_of_getElem? (i := 937) (by decide +kernel), List.mem_of_getElem? (i := 939) (by decide +kernel), List.mem_of_getElem? (i := 35) (by decide +kernel), List.mem_of_getElem? (i := 80) (by decide +kernel), List.mem_of_getElem? (i := 940) (by decide +kernel)⟩, ⟨by decide, rfl, ⟨by decide +kernel, by decide +kernel, by decide +kernel⟩⟩, by decide⟩
theorem lk_X8_99 : bv_LV RX8 99 8 yX8_leaguesOf MX8_leaguesOf 1 := ⟨⟨List.mem_of_getElem? (i := 945) (by decide +kernel), List.mem_of_getElem? (i := 947) (by decide +kernel), List.mem_of_getElem? (i := 37) (by decide +kernel), List.mem_of_getElem? (i := 80) (by decide +kernel), List.mem_of_getElem? (i := 948) (by decide +kernel)⟩, ⟨by decide, rfl, ⟨by decide +kernel, by decide +kernel, by decide +kernel⟩⟩, by decide⟩
theorem lm_X0_43 : Cond.methodLink RX0 43 Lib.Math.abs.name ∈ lw_tbl := List.mem_of_getElem? (i := 470) (by decide +kernel)
theorem lm_X0_57 : Cond.methodLink RX0 57 Lib.Math.max.name ∈ lw_tbl := List.mem_of_getElem? (i := 477) (by decide +kernel)
theorem lm_X0_63 : Cond.methodLink RX0 63 Lib.Math.min.name ∈ lw_tbl := List.mem_of_getElem? (i := 558) (by decide +kernel)
theorem lm_X1_18 : Cond.methodLink RX1 18 Lib.Math.abs.name ∈ lw_tbl := List.mem_of_getElem? (i := 342) (by decide +kernel)
theorem lm_X1_32 : Cond.methodLink RX1 32 Lib.Math.max.name ∈ lw_tbl := List.mem_of_getElem? (i := 553) (by decide +kernel)
theorem lm_X1_36 : Cond.methodLink RX1 36 arraycopyName ∈ lw_tbl := List.mem_of_getElem? (i := 735) (by decide +kernel)
theorem lm_X4_19 : Cond.methodLink RX4 19 arraycopyName ∈ lw_tbl := List.mem_of_getElem? (i := 534) (by decide +kernel)
theorem lm_X5_98 : Cond.methodLink RX5 98 arraycopyName ∈ lw_tbl := List.mem_of_getElem? (i := 736) (by decide +kernel)
theorem lm_X7_280 : Cond.methodLink RX7 280 arraycopyName ∈ lw_tbl := List.mem_of_getElem? (i := 714) (by decide +kernel)
theorem lm_X7_300 : Cond.methodLink RX7 300 Lib.Math.min.name ∈ lw_tbl := List.mem_of_getElem? (i := 437) (by decide +kernel)
theorem lm_X7_305 : Cond.methodLink RX7 305 Lib.Math.max.name ∈ lw_tbl := List.mem_of_getElem? (i := 440) (by decide +kernel)
theorem lm_X7_315 : Cond.methodLink RX7 315 Lib.Math.abs.name ∈ lw_tbl := List.mem_of_getElem? (i := 394) (by decide +kernel)
theorem ls_X0_35 : Cond.fieldLinkNest RX0 35 RX7 (bv_sn 1) (bv_sd 1) RX7 ∈ lw_tbl := List.mem_of_getElem? (i := 500) (by decide +kernel)
theorem ls_X2_67 : Cond.fieldLinkNest RX2 67 RX7 (bv_sn 0) (bv_sd 0) RX7 ∈ lw_tbl := List.mem_of_getElem? (i := 419) (by decide +kernel)
theorem ls_X6_39 : Cond.fieldLinkNest RX6 39 RX7 (bv_sn 1) (bv_sd 1) RX7 ∈ lw_tbl := List.mem_of_getElem? (i := 669) (by decide +kernel)
theorem ls_X6_42 : Cond.fieldLinkNest RX6 42 RX7 (bv_sn 2) (bv_sd 2) RX7 ∈ lw_tbl := List.mem_of_getElem? (i := 667) (by decide +kernel)
