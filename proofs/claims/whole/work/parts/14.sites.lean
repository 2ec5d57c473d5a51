def mJ6_bitCount_0f7a4 : Md := (yJ6_bitCount_0f7a4, cJ6_bitCount_0f7a4, 1, some .int, { frames := 0, cells := 0, slots := 0, locals := 0 })
def mJ7_fill_53178 : Md := (yJ7_fill_53178, cJ7_fill_53178, 4, none, { frames := 0, cells := 0, slots := 0, locals := 0 })
def mJ7_fill_d0a16 : Md := (yJ7_fill_d0a16, cJ7_fill_d0a16, 5, none, { frames := 0, cells := 0, slots := 0, locals := 0 })
def mJ9_abs_067f4 : Md := (yJ9_abs_067f4, cJ9_abs_067f4, 2, some .long, { frames := 0, cells := 0, slots := 0, locals := 0 })
def mJ9_abs_0f7a4 : Md := (yJ9_abs_0f7a4, cJ9_abs_0f7a4, 1, some .int, { frames := 0, cells := 0, slots := 0, locals := 0 })
def mJ9_floorDiv_7cf53 : Md := (yJ9_floorDiv_7cf53, cJ9_floorDiv_7cf53, 3, some .int, { frames := 0, cells := 0, slots := 0, locals := 0 })
def mJ9_floorMod_7cf53 : Md := (yJ9_floorMod_7cf53, cJ9_floorMod_7cf53, 3, some .int, { frames := 0, cells := 0, slots := 0, locals := 0 })
def mJ9_max_7cf53 : Md := (yJ9_max_7cf53, cJ9_max_7cf53, 2, some .int, { frames := 0, cells := 0, slots := 0, locals := 0 })
def mJ9_max_f86c9 : Md := (yJ9_max_f86c9, cJ9_max_f86c9, 4, some .long, { frames := 0, cells := 0, slots := 0, locals := 0 })
def mJ9_min_7cf53 : Md := (yJ9_min_7cf53, cJ9_min_7cf53, 2, some .int, { frames := 0, cells := 0, slots := 0, locals := 0 })
def mX0_againstWithout : Md := (yX0_againstWithout, cX0_againstWithout, 5, some .long, { frames := 0, cells := 0, slots := 0, locals := 0 })
def mX0_asSenders : Md := (yX0_asSenders, cX0_asSenders, 4, some .int, { frames := 0, cells := 0, slots := 0, locals := 0 })
def mX5_ownMood : Md := (yX5_ownMood, cX5_ownMood, 1, some .int, { frames := 0, cells := 0, slots := 0, locals := 0 })
def mX6_holds : Md := (yX6_holds, cX6_holds, 3, some .boolean, { frames := 0, cells := 0, slots := 0, locals := 0 })
def mX2_size : Md := (yX2_size, cX2_size, 1, some .int, { frames := 0, cells := 0, slots := 0, locals := 0 })
def mX2_isCell : Md := (yX2_isCell, cX2_isCell, 3, some .boolean, { frames := 1, cells := 0, slots := 0, locals := 20 })
def mX0_cellOf : Md := (yX0_cellOf, cX0_cellOf, 5, some .int, { frames := 2, cells := 0, slots := 0, locals := 42 })
def mX2_known : Md := (yX2_known, cX2_known, 5, some .int, { frames := 0, cells := 0, slots := 0, locals := 0 })
def mX2_nearest : Md := (yX2_nearest, cX2_nearest, 2, some .int, { frames := 1, cells := 0, slots := 0, locals := 22 })
def mX2_lossBetween : Md := (yX2_lossBetween, cX2_lossBetween, 19, some .int, { frames := 2, cells := 0, slots := 0, locals := 43 })
def mX2_gotFrom : Md := (yX2_gotFrom, cX2_gotFrom, 6, some .int, { frames := 3, cells := 0, slots := 0, locals := 81 })
def mX0_gotAt : Md := (yX0_gotAt, cX0_gotAt, 4, some .int, { frames := 4, cells := 0, slots := 0, locals := 106 })
def mX0_gotAtGoal : Md := (yX0_gotAtGoal, cX0_gotAtGoal, 2, some .int, { frames := 5, cells := 0, slots := 0, locals := 129 })
def mX5_isEnough : Md := (yX5_isEnough, cX5_isEnough, 4, some .boolean, { frames := 0, cells := 0, slots := 0, locals := 0 })
def mX0_causeOf : Md := (yX0_causeOf, cX0_causeOf, 6, some .int, { frames := 6, cells := 0, slots := 0, locals := 150 })
def mX5_isHopping : Md := (yX5_isHopping, cX5_isHopping, 1, some .boolean, { frames := 0, cells := 0, slots := 0, locals := 0 })
def mX0_slotAt : Md := (yX0_slotAt, cX0_slotAt, 3, some .int, { frames := 1, cells := 0, slots := 0, locals := 22 })
def mX0_gatherRivals : Md := (yX0_gatherRivals, cX0_gatherRivals, 3, some .int, { frames := 5, cells := 0, slots := 0, locals := 129 })
def mX0_has : Md := (yX0_has, cX0_has, 2, some .boolean, { frames := 0, cells := 0, slots := 0, locals := 0 })
def mX0_isHeard : Md := (yX0_isHeard, cX0_isHeard, 2, some .boolean, { frames := 6, cells := 0, slots := 0, locals := 151 })
def mX0_tell : Md := (yX0_tell, cX0_tell, 4, some .int, { frames := 3, cells := 0, slots := 0, locals := 66 })
def mX0_totalOn : Md := (yX0_totalOn, cX0_totalOn, 3, some .int, { frames := 0, cells := 0, slots := 0, locals := 0 })
def mX10_add : Md := (yX10_add, cX10_add, 2, some .int, { frames := 0, cells := 0, slots := 0, locals := 0 })
def mX10_agrees : Md := (yX10_agrees, cX10_agrees, 7, some .boolean, { frames := 4, cells := 0, slots := 0, locals := 106 })
def mX10_readable : Md := (yX10_readable, cX10_readable, 3, some .int, { frames := 0, cells := 0, slots := 0, locals := 0 })
def mX11_about : Md := (yX11_about, cX11_about, 3, some .int, { frames := 4, cells := 0, slots := 0, locals := 89 })
def mX11_within : Md := (yX11_within, cX11_within, 3, some .boolean, { frames := 0, cells := 0, slots := 0, locals := 0 })
def mX11_areRows : Md := (yX11_areRows, cX11_areRows, 4, some .boolean, { frames := 1, cells := 0, slots := 0, locals := 22 })
def mX4_isSet : Md := (yX4_isSet, cX4_isSet, 3, some .boolean, { frames := 1, cells := 0, slots := 0, locals := 20 })
def mX4_whole : Md := (yX4_whole, cX4_whole, 1, some .int, { frames := 0, cells := 0, slots := 0, locals := 0 })
def mX4_isHeardIn : Md := (yX4_isHeardIn, cX4_isHeardIn, 6, some .boolean, { frames := 1, cells := 0, slots := 0, locals := 23 })
def mX4_mayBeTogether : Md := (yX4_mayBeTogether, cX4_mayBeTogether, 3, some .boolean, { frames := 2, cells := 0, slots := 0, locals := 48 })
def mX4_countSlots : Md := (yX4_countSlots, cX4_countSlots, 4, none, { frames := 1, cells := 0, slots := 0, locals := 21 })
def mX4_prepare : Md := (yX4_prepare, cX4_prepare, 5, none, { frames := 5, cells := 0, slots := 0, locals := 129 })
def mX4_place (d : Nat) : Md := (yX4_place, cX4_place, 4, some .boolean, { frames := 1 + d, cells := 0, slots := 0, locals := 20 + d * 23 })
def mX4_divide : Md := (yX4_divide, cX4_divide, 1, some .boolean, { frames := 12, cells := 0, slots := 0, locals := 273 })
def mX4_fewestSlots : Md := (yX4_fewestSlots, cX4_fewestSlots, 1, some .int, { frames := 1, cells := 0, slots := 0, locals := 20 })
def mX11_assign : Md := (yX11_assign, cX11_assign, 3, some .int, { frames := 13, cells := 0, slots := 0, locals := 293 })
def mX4_worthOf : Md := (yX4_worthOf, cX4_worthOf, 4, some .int, { frames := 0, cells := 0, slots := 0, locals := 0 })
def mX4_asSenders : Md := (yX4_asSenders, cX4_asSenders, 4, some .int, { frames := 0, cells := 0, slots := 0, locals := 0 })
def mX4_mostWorth : Md := (yX4_mostWorth, cX4_mostWorth, 5, some .int, { frames := 1, cells := 0, slots := 0, locals := 23 })
def mX11_best : Md := (yX11_best, cX11_best, 3, some .int, { frames := 6, cells := 0, slots := 0, locals := 153 })
def mX1_add : Md := (yX1_add, cX1_add, 3, some .int, { frames := 0, cells := 0, slots := 0, locals := 0 })
def mX11_bid : Md := (yX11_bid, cX11_bid, 4, some .int, { frames := 1, cells := 0, slots := 0, locals := 22 })
def mX11_box : Md := (yX11_box, cX11_box, 2, some .int, { frames := 2, cells := 0, slots := 0, locals := 42 })
def mX11_call : Md := (yX11_call, cX11_call, 2, some .int, { frames := 0, cells := 0, slots := 0, locals := 0 })
def mX11_refusalUnlessOn : Md := (yX11_refusalUnlessOn, cX11_refusalUnlessOn, 2, some .int, { frames := 1, cells := 0, slots := 0, locals := 21 })
def mX11_cause : Md := (yX11_cause, cX11_cause, 3, some .int, { frames := 7, cells := 0, slots := 0, locals := 175 })
def mX11_cell : Md := (yX11_cell, cX11_cell, 6, some .int, { frames := 5, cells := 0, slots := 0, locals := 132 })
def mX11_cells : Md := (yX11_cells, cX11_cells, 5, some .int, { frames := 5, cells := 0, slots := 0, locals := 132 })
def mX11_power : Md := (yX11_power, cX11_power, 5, some .long, { frames := 0, cells := 0, slots := 0, locals := 0 })
def mX11_chanceOfAtMost : Md := (yX11_chanceOfAtMost, cX11_chanceOfAtMost, 8, some .int, { frames := 1, cells := 0, slots := 0, locals := 24 })
def mX5_mayBecome : Md := (yX5_mayBecome, cX5_mayBecome, 3, some .boolean, { frames := 1, cells := 0, slots := 0, locals := 22 })
def mX5_replace : Md := (yX5_replace, cX5_replace, 4, some .int, { frames := 2, cells := 0, slots := 0, locals := 44 })
def mX11_change : Md := (yX11_change, cX11_change, 4, some .int, { frames := 3, cells := 0, slots := 0, locals := 67 })
def mX2_squaredWay : Md := (yX2_squaredWay, cX2_squaredWay, 5, some .int, { frames := 0, cells := 0, slots := 0, locals := 0 })
def mX11_cheats : Md := (yX11_cheats, cX11_cheats, 7, some .int, { frames := 5, cells := 0, slots := 0, locals := 132 })
def mX11_isSheet : Md := (yX11_isSheet, cX11_isSheet, 1, some .boolean, { frames := 1, cells := 0, slots := 0, locals := 22 })
def mX11_found : Md := (yX11_found, cX11_found, 2, some .int, { frames := 0, cells := 0, slots := 0, locals := 0 })
def mX11_copy : Md := (yX11_copy, cX11_copy, 8, some .int, { frames := 2, cells := 0, slots := 0, locals := 100 })
def mX11_count : Md := (yX11_count, cX11_count, 2, some .int, { frames := 1, cells := 0, slots := 0, locals := 22 })
def mX9_measure : Md := (yX9_measure, cX9_measure, 5, none, { frames := 3, cells := 0, slots := 0, locals := 81 })
def mX9_plans : Md := (yX9_plans, cX9_plans, 3, some .int, { frames := 0, cells := 0, slots := 0, locals := 0 })
def mX9_priceOf : Md := (yX9_priceOf, cX9_priceOf, 5, some .int, { frames := 0, cells := 0, slots := 0, locals := 0 })
def mX9_isServed : Md := (yX9_isServed, cX9_isServed, 10, some .boolean, { frames := 1, cells := 0, slots := 0, locals := 23 })
def mX9_worthOf : Md := (yX9_worthOf, cX9_worthOf, 4, some .int, { frames := 2, cells := 0, slots := 0, locals := 52 })
def mX9_choose : Md := (yX9_choose, cX9_choose, 6, none, { frames := 4, cells := 0, slots := 0, locals := 105 })
def mX1_sharesNoHour : Md := (yX1_sharesNoHour, cX1_sharesNoHour, 4, some .boolean, { frames := 0, cells := 0, slots := 0, locals := 0 })
def mX1_priceOf : Md := (yX1_priceOf, cX1_priceOf, 4, some .int, { frames := 0, cells := 0, slots := 0, locals := 0 })
def mX1_winners : Md := (yX1_winners, cX1_winners, 5, some .int, { frames := 1, cells := 0, slots := 0, locals := 23 })
def mX11_digest : Md := (yX11_digest, cX11_digest, 5, some .long, { frames := 7, cells := 0, slots := 0, locals := 172 })
def mX11_drowns : Md := (yX11_drowns, cX11_drowns, 3, some .long, { frames := 6, cells := 0, slots := 0, locals := 151 })
def mX9_addEar : Md := (yX9_addEar, cX9_addEar, 3, some .int, { frames := 0, cells := 0, slots := 0, locals := 0 })
def mX11_ear : Md := (yX11_ear, cX11_ear, 3, some .int, { frames := 2, cells := 0, slots := 0, locals := 42 })
def mX7_sign : Md := (yX7_sign, cX7_sign, 1, some .int, { frames := 0, cells := 0, slots := 0, locals := 0 })
def mX7_failsAt : Md := (yX7_failsAt, cX7_failsAt, 2, some .boolean, { frames := 0, cells := 0, slots := 0, locals := 0 })
def mX7_isFigure : Md := (yX7_isFigure, cX7_isFigure, 1, some .boolean, { frames := 1, cells := 0, slots := 0, locals := 22 })
def mX7_readNumber : Md := (yX7_readNumber, cX7_readNumber, 6, some .int, { frames := 2, cells := 0, slots := 0, locals := 42 })
def mX7_readSpan : Md := (yX7_readSpan, cX7_readSpan, 5, some .boolean, { frames := 3, cells := 0, slots := 0, locals := 67 })
def mX7_readRule : Md := (yX7_readRule, cX7_readRule, 2, some .boolean, { frames := 4, cells := 0, slots := 0, locals := 91 })
def mX7_read : Md := (yX7_read, cX7_read, 2, none, { frames := 5, cells := 0, slots := 0, locals := 112 })
def mX11_fault : Md := (yX11_fault, cX11_fault, 1, some .int, { frames := 6, cells := 0, slots := 0, locals := 133 })
def mX11_fewest : Md := (yX11_fewest, cX11_fewest, 2, some .int, { frames := 6, cells := 0, slots := 0, locals := 153 })
def mX11_flow : Md := (yX11_flow, cX11_flow, 7, some .int, { frames := 2, cells := 0, slots := 0, locals := 51 })
def mX11_isForm : Md := (yX11_isForm, cX11_isForm, 1, some .boolean, { frames := 1, cells := 0, slots := 0, locals := 22 })
def mX11_wrongItem : Md := (yX11_wrongItem, cX11_wrongItem, 3, some .int, { frames := 1, cells := 0, slots := 0, locals := 22 })
def mX11_get : Md := (yX11_get, cX11_get, 5, some .long, { frames := 2, cells := 0, slots := 0, locals := 44 })
def mX11_got : Md := (yX11_got, cX11_got, 3, some .int, { frames := 5, cells := 0, slots := 0, locals := 129 })
def mX2_hillOf : Md := (yX2_hillOf, cX2_hillOf, 2, some .int, { frames := 1, cells := 0, slots := 0, locals := 24 })
def mX2_woodOf : Md := (yX2_woodOf, cX2_woodOf, 2, some .int, { frames := 1, cells := 0, slots := 0, locals := 24 })
def mX11_ground : Md := (yX11_ground, cX11_ground, 3, some .int, { frames := 2, cells := 0, slots := 0, locals := 45 })
def mX11_hear : Md := (yX11_hear, cX11_hear, 3, some .int, { frames := 5, cells := 0, slots := 0, locals := 129 })
def mX11_heard : Md := (yX11_heard, cX11_heard, 3, some .int, { frames := 7, cells := 0, slots := 0, locals := 172 })
def mX3_gather : Md := (yX3_gather, cX3_gather, 5, none, { frames := 5, cells := 0, slots := 0, locals := 129 })
def mX3_isHeardAgainst : Md := (yX3_isHeardAgainst, cX3_isHeardAgainst, 4, some .boolean, { frames := 1, cells := 0, slots := 0, locals := 23 })
def mX3_isDrownedBy : Md := (yX3_isDrownedBy, cX3_isDrownedBy, 3, some .boolean, { frames := 2, cells := 0, slots := 0, locals := 46 })
def mX3_hiddenPairs : Md := (yX3_hiddenPairs, cX3_hiddenPairs, 6, some .int, { frames := 3, cells := 0, slots := 0, locals := 68 })
def mX11_hidden : Md := (yX11_hidden, cX11_hidden, 2, some .int, { frames := 6, cells := 0, slots := 0, locals := 153 })
def mX11_meetings : Md := (yX11_meetings, cX11_meetings, 6, some .int, { frames := 0, cells := 0, slots := 0, locals := 0 })
def mX11_hops : Md := (yX11_hops, cX11_hops, 5, some .int, { frames := 2, cells := 0, slots := 0, locals := 45 })
def mX11_isAsked : Md := (yX11_isAsked, cX11_isAsked, 3, some .boolean, { frames := 1, cells := 0, slots := 0, locals := 22 })
def mX11_land : Md := (yX11_land, cX11_land, 3, some .int, { frames := 1, cells := 0, slots := 0, locals := 22 })
def mX3_sumOthers : Md := (yX3_sumOthers, cX3_sumOthers, 7, some .long, { frames := 0, cells := 0, slots := 0, locals := 0 })
def mX3_note : Md := (yX3_note, cX3_note, 4, none, { frames := 2, cells := 0, slots := 0, locals := 46 })
def mX3_run : Md := (yX3_run, cX3_run, 10, some .int, { frames := 3, cells := 0, slots := 0, locals := 69 })
def mX11_listen : Md := (yX11_listen, cX11_listen, 4, some .int, { frames := 6, cells := 0, slots := 0, locals := 153 })
def mX11_log : Md := (yX11_log, cX11_log, 4, some .int, { frames := 1, cells := 0, slots := 0, locals := 22 })
def mX11_lose : Md := (yX11_lose, cX11_lose, 2, some .int, { frames := 2, cells := 0, slots := 0, locals := 42 })
def mX11_loss : Md := (yX11_loss, cX11_loss, 6, some .int, { frames := 3, cells := 0, slots := 0, locals := 81 })
def mX6_store : Md := (yX6_store, cX6_store, 4, none, { frames := 0, cells := 0, slots := 0, locals := 0 })
def mX11_map : Md := (yX11_map, cX11_map, 6, some .int, { frames := 5, cells := 0, slots := 0, locals := 129 })
def mX7_lastNaming : Md := (yX7_lastNaming, cX7_lastNaming, 6, some .int, { frames := 6, cells := 0, slots := 0, locals := 133 })
def mX11_may : Md := (yX11_may, cX11_may, 5, some .int, { frames := 7, cells := 0, slots := 0, locals := 158 })
def mX11_most : Md := (yX11_most, cX11_most, 6, some .int, { frames := 2, cells := 0, slots := 0, locals := 45 })
def mX11_odds : Md := (yX11_odds, cX11_odds, 4, some .int, { frames := 2, cells := 0, slots := 0, locals := 51 })
def mX11_on : Md := (yX11_on, cX11_on, 4, some .int, { frames := 1, cells := 0, slots := 0, locals := 21 })
def mX11_part : Md := (yX11_part, cX11_part, 3, some .int, { frames := 13, cells := 0, slots := 0, locals := 293 })
def mX11_pass : Md := (yX11_pass, cX11_pass, 2, some .int, { frames := 1, cells := 0, slots := 0, locals := 22 })
def mX1_dueOf : Md := (yX1_dueOf, cX1_dueOf, 3, some .int, { frames := 2, cells := 0, slots := 0, locals := 47 })
def mX11_pays : Md := (yX11_pays, cX11_pays, 2, some .int, { frames := 3, cells := 0, slots := 0, locals := 69 })
def mX11_plan : Md := (yX11_plan, cX11_plan, 3, some .int, { frames := 5, cells := 0, slots := 0, locals := 130 })
def mX4_leastThatCannot : Md := (yX4_leastThatCannot, cX4_leastThatCannot, 5, some .int, { frames := 1, cells := 0, slots := 0, locals := 23 })
def mX11_proof : Md := (yX11_proof, cX11_proof, 3, some .int, { frames := 6, cells := 0, slots := 0, locals := 153 })
def mX11_put : Md := (yX11_put, cX11_put, 7, some .int, { frames := 2, cells := 0, slots := 0, locals := 44 })
def mX11_rule : Md := (yX11_rule, cX11_rule, 4, some .int, { frames := 7, cells := 0, slots := 0, locals := 158 })
def mX11_sender : Md := (yX11_sender, cX11_sender, 8, some .int, { frames := 2, cells := 0, slots := 0, locals := 42 })
def mX11_serves : Md := (yX11_serves, cX11_serves, 2, some .int, { frames := 4, cells := 0, slots := 0, locals := 105 })
def mX11_set : Md := (yX11_set, cX11_set, 4, some .int, { frames := 1, cells := 0, slots := 0, locals := 22 })
def mX11_share : Md := (yX11_share, cX11_share, 2, some .int, { frames := 6, cells := 0, slots := 0, locals := 153 })
def mX6_renew : Md := (yX6_renew, cX6_renew, 3, none, { frames := 1, cells := 0, slots := 0, locals := 24 })
def mX11_sheet : Md := (yX11_sheet, cX11_sheet, 4, some .int, { frames := 2, cells := 0, slots := 0, locals := 46 })
def mX9_addSite : Md := (yX9_addSite, cX9_addSite, 7, some .int, { frames := 0, cells := 0, slots := 0, locals := 0 })
def mX11_site : Md := (yX11_site, cX11_site, 7, some .int, { frames := 2, cells := 0, slots := 0, locals := 42 })
def mX11_spoke : Md := (yX11_spoke, cX11_spoke, 3, some .int, { frames := 1, cells := 0, slots := 0, locals := 22 })
def mX7_append : Md := (yX7_append, cX7_append, 2, some .int, { frames := 0, cells := 0, slots := 0, locals := 0 })
def mX11_type : Md := (yX11_type, cX11_type, 2, some .int, { frames := 1, cells := 0, slots := 0, locals := 22 })
def mX11_wipe : Md := (yX11_wipe, cX11_wipe, 2, some .int, { frames := 0, cells := 0, slots := 0, locals := 0 })
def mX11_won : Md := (yX11_won, cX11_won, 1, some .int, { frames := 2, cells := 0, slots := 0, locals := 47 })
def mX12_in : Md := (yX12_in, cX12_in, 6, some .boolean, { frames := 0, cells := 0, slots := 0, locals := 0 })
def mX12_isSender : Md := (yX12_isSender, cX12_isSender, 2, some .boolean, { frames := 1, cells := 0, slots := 0, locals := 25 })
def mX12_told : Md := (yX12_told, cX12_told, 4, some .int, { frames := 1, cells := 0, slots := 0, locals := 25 })
def mX12_cellNow : Md := (yX12_cellNow, cX12_cellNow, 3, some .int, { frames := 2, cells := 0, slots := 0, locals := 48 })
def mX12_isHopping : Md := (yX12_isHopping, cX12_isHopping, 2, some .boolean, { frames := 0, cells := 0, slots := 0, locals := 0 })
def mX12_slotNow : Md := (yX12_slotNow, cX12_slotNow, 2, some .int, { frames := 1, cells := 0, slots := 0, locals := 21 })
def mX12_about : Md := (yX12_about, cX12_about, 3, some .int, { frames := 3, cells := 0, slots := 0, locals := 70 })
def mX12_hillOf : Md := (yX12_hillOf, cX12_hillOf, 2, some .int, { frames := 2, cells := 0, slots := 0, locals := 48 })
def mX12_atLeast0 : Md := (yX12_atLeast0, cX12_atLeast0, 1, some .int, { frames := 0, cells := 0, slots := 0, locals := 0 })
def mX12_floorBy : Md := (yX12_floorBy, cX12_floorBy, 2, some .int, { frames := 0, cells := 0, slots := 0, locals := 0 })
def mX12_woodOf : Md := (yX12_woodOf, cX12_woodOf, 2, some .int, { frames := 2, cells := 0, slots := 0, locals := 48 })
def mX12_lossOf : Md := (yX12_lossOf, cX12_lossOf, 19, some .int, { frames := 3, cells := 0, slots := 0, locals := 69 })
def mX12_agrees : Md := (yX12_agrees, cX12_agrees, 10, some .boolean, { frames := 4, cells := 0, slots := 0, locals := 107 })
def mX12_areHops : Md := (yX12_areHops, cX12_areHops, 4, some .boolean, { frames := 1, cells := 0, slots := 0, locals := 25 })
def mX12_ones : Md := (yX12_ones, cX12_ones, 3, some .int, { frames := 0, cells := 0, slots := 0, locals := 0 })
def mX12_takesSet : Md := (yX12_takesSet, cX12_takesSet, 3, some .boolean, { frames := 1, cells := 0, slots := 0, locals := 22 })
def mX12_wholeBits : Md := (yX12_wholeBits, cX12_wholeBits, 4, some .int, { frames := 0, cells := 0, slots := 0, locals := 0 })
def mX12_gotOf : Md := (yX12_gotOf, cX12_gotOf, 4, some .int, { frames := 4, cells := 0, slots := 0, locals := 107 })
def mX12_drownsBy : Md := (yX12_drownsBy, cX12_drownsBy, 6, some .long, { frames := 5, cells := 0, slots := 0, locals := 130 })
def mX12_own : Md := (yX12_own, cX12_own, 3, some .int, { frames := 5, cells := 0, slots := 0, locals := 130 })
def mX12_isHeard : Md := (yX12_isHeard, cX12_isHeard, 4, some .boolean, { frames := 6, cells := 0, slots := 0, locals := 152 })
def mX12_findFewest : Md := (yX12_findFewest, cX12_findFewest, 5, none, { frames := 7, cells := 0, slots := 0, locals := 175 })
def mX12_groupOf : Md := (yX12_groupOf, cX12_groupOf, 4, some .int, { frames := 0, cells := 0, slots := 0, locals := 0 })
def mX12_parts : Md := (yX12_parts, cX12_parts, 3, none, { frames := 1, cells := 0, slots := 0, locals := 23 })
def mX12_assign : Md := (yX12_assign, cX12_assign, 4, some .int, { frames := 8, cells := 0, slots := 0, locals := 199 })
def mX12_best : Md := (yX12_best, cX12_best, 8, some .int, { frames := 8, cells := 0, slots := 0, locals := 199 })
def mX12_priceOf : Md := (yX12_priceOf, cX12_priceOf, 5, some .int, { frames := 0, cells := 0, slots := 0, locals := 0 })
def mX12_bestBids : Md := (yX12_bestBids, cX12_bestBids, 5, some .int, { frames := 1, cells := 0, slots := 0, locals := 24 })
def mX12_bid : Md := (yX12_bid, cX12_bid, 4, some .int, { frames := 2, cells := 0, slots := 0, locals := 46 })
def mX12_isCell : Md := (yX12_isCell, cX12_isCell, 2, some .boolean, { frames := 1, cells := 0, slots := 0, locals := 25 })
def mX12_box : Md := (yX12_box, cX12_box, 2, some .int, { frames := 2, cells := 0, slots := 0, locals := 46 })
def mX12_call : Md := (yX12_call, cX12_call, 2, some .int, { frames := 0, cells := 0, slots := 0, locals := 0 })
def mX12_others : Md := (yX12_others, cX12_others, 4, some .int, { frames := 2, cells := 0, slots := 0, locals := 42 })
def mX12_cause : Md := (yX12_cause, cX12_cause, 5, some .int, { frames := 7, cells := 0, slots := 0, locals := 175 })
def mX12_isStrength : Md := (yX12_isStrength, cX12_isStrength, 1, some .boolean, { frames := 1, cells := 0, slots := 0, locals := 25 })
def mX12_isSlack : Md := (yX12_isSlack, cX12_isSlack, 1, some .boolean, { frames := 1, cells := 0, slots := 0, locals := 25 })
def mX12_cell : Md := (yX12_cell, cX12_cell, 6, some .int, { frames := 5, cells := 0, slots := 0, locals := 136 })
def mX12_cells : Md := (yX12_cells, cX12_cells, 5, some .int, { frames := 5, cells := 0, slots := 0, locals := 136 })
def mX12_change : Md := (yX12_change, cX12_change, 6, some .int, { frames := 2, cells := 0, slots := 0, locals := 46 })
def mX12_whole : Md := (yX12_whole, cX12_whole, 3, some .int, { frames := 0, cells := 0, slots := 0, locals := 0 })
def mX12_cheats : Md := (yX12_cheats, cX12_cheats, 8, some .int, { frames := 5, cells := 0, slots := 0, locals := 136 })
def mX12_isSheet : Md := (yX12_isSheet, cX12_isSheet, 1, some .boolean, { frames := 1, cells := 0, slots := 0, locals := 25 })
def mX12_met : Md := (yX12_met, cX12_met, 2, some .int, { frames := 0, cells := 0, slots := 0, locals := 0 })
def mX12_copy : Md := (yX12_copy, cX12_copy, 7, some .int, { frames := 2, cells := 0, slots := 0, locals := 45 })
def mX12_count : Md := (yX12_count, cX12_count, 4, some .int, { frames := 1, cells := 0, slots := 0, locals := 22 })
def mX12_cut : Md := (yX12_cut, cX12_cut, 3, some .long, { frames := 0, cells := 0, slots := 0, locals := 0 })
def mX12_heard : Md := (yX12_heard, cX12_heard, 2, some .int, { frames := 7, cells := 0, slots := 0, locals := 175 })
def mX12_won : Md := (yX12_won, cX12_won, 1, some .int, { frames := 2, cells := 0, slots := 0, locals := 48 })
def mX12_findGots : Md := (yX12_findGots, cX12_findGots, 3, none, { frames := 4, cells := 0, slots := 0, locals := 107 })
def mX12_servedBy : Md := (yX12_servedBy, cX12_servedBy, 13, some .int, { frames := 0, cells := 0, slots := 0, locals := 0 })
def mX12_plans : Md := (yX12_plans, cX12_plans, 3, some .int, { frames := 0, cells := 0, slots := 0, locals := 0 })
def mX12_pricedBy : Md := (yX12_pricedBy, cX12_pricedBy, 6, some .int, { frames := 0, cells := 0, slots := 0, locals := 0 })
def mX12_findPlan : Md := (yX12_findPlan, cX12_findPlan, 6, none, { frames := 5, cells := 0, slots := 0, locals := 129 })
def mX12_digest : Md := (yX12_digest, cX12_digest, 5, some .long, { frames := 8, cells := 0, slots := 0, locals := 196 })
def mX12_no : Md := (yX12_no, cX12_no, 1, some .long, { frames := 0, cells := 0, slots := 0, locals := 0 })
def mX12_drowns : Md := (yX12_drowns, cX12_drowns, 2, some .long, { frames := 6, cells := 0, slots := 0, locals := 155 })
def mX12_ear : Md := (yX12_ear, cX12_ear, 3, some .int, { frames := 2, cells := 0, slots := 0, locals := 46 })
def mX12_is : Md := (yX12_is, cX12_is, 2, some .boolean, { frames := 0, cells := 0, slots := 0, locals := 0 })
def mX12_isFigure : Md := (yX12_isFigure, cX12_isFigure, 1, some .boolean, { frames := 1, cells := 0, slots := 0, locals := 25 })
def mX12_number : Md := (yX12_number, cX12_number, 5, some .int, { frames := 2, cells := 0, slots := 0, locals := 45 })
def mX12_readsRule : Md := (yX12_readsRule, cX12_readsRule, 1, some .boolean, { frames := 3, cells := 0, slots := 0, locals := 69 })
def mX12_reads : Md := (yX12_reads, cX12_reads, 2, some .int, { frames := 4, cells := 0, slots := 0, locals := 89 })
def mX12_fault : Md := (yX12_fault, cX12_fault, 1, some .int, { frames := 5, cells := 0, slots := 0, locals := 110 })
def mX12_fewest : Md := (yX12_fewest, cX12_fewest, 3, some .int, { frames := 8, cells := 0, slots := 0, locals := 199 })
def mX12_isWord : Md := (yX12_isWord, cX12_isWord, 3, some .boolean, { frames := 1, cells := 0, slots := 0, locals := 25 })
def mX12_over : Md := (yX12_over, cX12_over, 5, some .long, { frames := 0, cells := 0, slots := 0, locals := 0 })
def mX12_raised : Md := (yX12_raised, cX12_raised, 6, some .long, { frames := 0, cells := 0, slots := 0, locals := 0 })
def mX12_millionths : Md := (yX12_millionths, cX12_millionths, 7, some .int, { frames := 1, cells := 0, slots := 0, locals := 25 })
def mX12_flow : Md := (yX12_flow, cX12_flow, 6, some .int, { frames := 2, cells := 0, slots := 0, locals := 51 })
def mX12_lacks : Md := (yX12_lacks, cX12_lacks, 4, some .int, { frames := 1, cells := 0, slots := 0, locals := 25 })
def mX12_get : Md := (yX12_get, cX12_get, 4, some .long, { frames := 2, cells := 0, slots := 0, locals := 48 })
def mX12_got : Md := (yX12_got, cX12_got, 3, some .int, { frames := 6, cells := 0, slots := 0, locals := 152 })
def mX12_ground : Md := (yX12_ground, cX12_ground, 3, some .int, { frames := 3, cells := 0, slots := 0, locals := 69 })
def mX12_hear : Md := (yX12_hear, cX12_hear, 3, some .int, { frames := 5, cells := 0, slots := 0, locals := 130 })
def mX12_hears : Md := (yX12_hears, cX12_hears, 6, some .long, { frames := 5, cells := 0, slots := 0, locals := 130 })
def mX12_listeners : Md := (yX12_listeners, cX12_listeners, 4, some .int, { frames := 0, cells := 0, slots := 0, locals := 0 })
def mX12_isDrowned : Md := (yX12_isDrowned, cX12_isDrowned, 3, some .boolean, { frames := 7, cells := 0, slots := 0, locals := 175 })
def mX12_hidden : Md := (yX12_hidden, cX12_hidden, 7, some .int, { frames := 8, cells := 0, slots := 0, locals := 197 })
def mX12_meets : Md := (yX12_meets, cX12_meets, 6, some .int, { frames := 0, cells := 0, slots := 0, locals := 0 })
def mX12_hops : Md := (yX12_hops, cX12_hops, 5, some .int, { frames := 2, cells := 0, slots := 0, locals := 48 })
def mX12_isAsked : Md := (yX12_isAsked, cX12_isAsked, 3, some .boolean, { frames := 1, cells := 0, slots := 0, locals := 25 })
def mX12_isMast : Md := (yX12_isMast, cX12_isMast, 1, some .boolean, { frames := 1, cells := 0, slots := 0, locals := 25 })
def mX12_land : Md := (yX12_land, cX12_land, 3, some .int, { frames := 1, cells := 0, slots := 0, locals := 25 })
def mX12_listen : Md := (yX12_listen, cX12_listen, 12, some .int, { frames := 7, cells := 0, slots := 0, locals := 175 })
def mX12_log : Md := (yX12_log, cX12_log, 4, some .int, { frames := 1, cells := 0, slots := 0, locals := 25 })
def mX12_lose : Md := (yX12_lose, cX12_lose, 2, some .int, { frames := 2, cells := 0, slots := 0, locals := 45 })
def mX12_loss : Md := (yX12_loss, cX12_loss, 6, some .int, { frames := 4, cells := 0, slots := 0, locals := 107 })
def mX12_map : Md := (yX12_map, cX12_map, 5, some .int, { frames := 5, cells := 0, slots := 0, locals := 130 })
def mX12_ruleOf : Md := (yX12_ruleOf, cX12_ruleOf, 7, some .int, { frames := 5, cells := 0, slots := 0, locals := 110 })
def mX12_may : Md := (yX12_may, cX12_may, 5, some .int, { frames := 6, cells := 0, slots := 0, locals := 136 })
def mX12_most : Md := (yX12_most, cX12_most, 7, some .int, { frames := 2, cells := 0, slots := 0, locals := 48 })
def mX12_odds : Md := (yX12_odds, cX12_odds, 4, some .int, { frames := 2, cells := 0, slots := 0, locals := 51 })
def mX12_on : Md := (yX12_on, cX12_on, 4, some .int, { frames := 2, cells := 0, slots := 0, locals := 46 })
def mX12_part : Md := (yX12_part, cX12_part, 5, some .int, { frames := 8, cells := 0, slots := 0, locals := 199 })
def mX12_pass : Md := (yX12_pass, cX12_pass, 2, some .int, { frames := 1, cells := 0, slots := 0, locals := 25 })
def mX12_pays : Md := (yX12_pays, cX12_pays, 3, some .int, { frames := 2, cells := 0, slots := 0, locals := 48 })
def mX12_plan : Md := (yX12_plan, cX12_plan, 3, some .int, { frames := 6, cells := 0, slots := 0, locals := 154 })
def mX12_proof : Md := (yX12_proof, cX12_proof, 5, some .int, { frames := 8, cells := 0, slots := 0, locals := 199 })
def mX12_put : Md := (yX12_put, cX12_put, 7, some .int, { frames := 2, cells := 0, slots := 0, locals := 48 })
def mX12_rule : Md := (yX12_rule, cX12_rule, 4, some .int, { frames := 6, cells := 0, slots := 0, locals := 136 })
def mX12_sender : Md := (yX12_sender, cX12_sender, 7, some .int, { frames := 2, cells := 0, slots := 0, locals := 46 })
def mX12_serves : Md := (yX12_serves, cX12_serves, 2, some .int, { frames := 5, cells := 0, slots := 0, locals := 129 })
def mX12_set : Md := (yX12_set, cX12_set, 5, some .int, { frames := 1, cells := 0, slots := 0, locals := 25 })
def mX12_share : Md := (yX12_share, cX12_share, 2, some .int, { frames := 8, cells := 0, slots := 0, locals := 199 })
def mX12_sheet : Md := (yX12_sheet, cX12_sheet, 5, some .int, { frames := 2, cells := 0, slots := 0, locals := 45 })
def mX12_site : Md := (yX12_site, cX12_site, 7, some .int, { frames := 2, cells := 0, slots := 0, locals := 46 })
def mX12_spoke : Md := (yX12_spoke, cX12_spoke, 3, some .int, { frames := 2, cells := 0, slots := 0, locals := 46 })
def mX12_type : Md := (yX12_type, cX12_type, 2, some .int, { frames := 1, cells := 0, slots := 0, locals := 25 })
def mX12_wipe : Md := (yX12_wipe, cX12_wipe, 2, some .int, { frames := 0, cells := 0, slots := 0, locals := 0 })
theorem FS_X0_9 : Fs "AirParted$Air" 9 0 0 9 := ⟨RX0, TX0, rfl, by decide, uwX0, rfl, Or.inl W_167⟩
theorem FS_X0_127 : Fs "AirParted$Air" 127 8 0 1 := ⟨RX8, TX8, rfl, by decide, uwX8, rfl, Or.inr ⟨"AirParted", N_38⟩⟩
theorem FS_X0_124 : Fs "AirParted$Air" 124 0 8 9 := ⟨RX0, TX0, rfl, by decide, uwX0, rfl, Or.inl W_182⟩
theorem FS_X0_34 : Fs "AirParted$Air" 34 0 5 9 := ⟨RX0, TX0, rfl, by decide, uwX0, rfl, Or.inl W_175⟩
theorem FS_X0_30 : Fs "AirParted$Air" 30 0 4 9 := ⟨RX0, TX0, rfl, by decide, uwX0, rfl, Or.inl W_174⟩
theorem FS_X5_11 : Fs "AirParted$Sender" 11 5 0 11 := ⟨RX5, TX5, rfl, by decide, uwX5, rfl, Or.inl W_109⟩
theorem FS_X6_13 : Fs "AirParted$Sheet" 13 6 1 4 := ⟨RX6, TX6, rfl, by decide, uwX6, rfl, Or.inl W_54⟩
theorem FS_X6_21 : Fs "AirParted$Sheet" 21 6 3 4 := ⟨RX6, TX6, rfl, by decide, uwX6, rfl, Or.inl W_59⟩
theorem FS_X2_22 : Fs "AirParted$Land" 22 2 3 5 := ⟨RX2, TX2, rfl, by decide, uwX2, rfl, Or.inl W_81⟩
theorem FS_X2_26 : Fs "AirParted$Land" 26 2 4 5 := ⟨RX2, TX2, rfl, by decide, uwX2, rfl, Or.inl W_83⟩
theorem VS_X2_29 : Sv "AirParted$Land" 29 mX2_size 2 5 0 := ⟨TX2, rfl, ⟨by decide, by decide⟩, by decide +kernel, W_473, W_472, SEL_X2_size, W_4, Or.inl W_470, rfl, rfl⟩
theorem FS_X0_25 : Fs "AirParted$Air" 25 0 3 9 := ⟨RX0, TX0, rfl, by decide, uwX0, rfl, Or.inl W_170⟩
theorem FS_X0_45 : Fs "AirParted$Air" 45 5 0 11 := ⟨RX5, TX5, rfl, by decide, uwX5, rfl, Or.inr ⟨"AirParted", N_111⟩⟩
theorem FS_X0_60 : Fs "AirParted$Air" 60 5 1 11 := ⟨RX5, TX5, rfl, by decide, uwX5, rfl, Or.inr ⟨"AirParted", N_114⟩⟩
theorem FS_X0_48 : Fs "AirParted$Air" 48 5 9 11 := ⟨RX5, TX5, rfl, by decide, uwX5, rfl, Or.inr ⟨"AirParted", N_139⟩⟩
theorem FS_X0_19 : Fs "AirParted$Air" 19 0 2 9 := ⟨RX0, TX0, rfl, by decide, uwX0, rfl, Or.inl W_169⟩
theorem FS_X0_51 : Fs "AirParted$Air" 51 0 7 9 := ⟨RX0, TX0, rfl, by decide, uwX0, rfl, Or.inl W_180⟩
theorem VS_X0_54 : Sv "AirParted$Air" 54 mX6_holds 6 4 2 := ⟨TX6, rfl, ⟨by decide, by decide⟩, by decide +kernel, W_541, W_540, SEL_X6_holds, W_3, Or.inr ⟨"AirParted", N_538⟩, rfl, rfl⟩
theorem FS_X0_63 : Fs "AirParted$Air" 63 6 0 4 := ⟨RX6, TX6, rfl, by decide, uwX6, rfl, Or.inr ⟨"AirParted", N_51⟩⟩
theorem FS_X0_15 : Fs "AirParted$Air" 15 0 1 9 := ⟨RX0, TX0, rfl, by decide, uwX0, rfl, Or.inl W_168⟩
theorem VS_X0_67 : Sv "AirParted$Air" 67 mX2_isCell 2 5 1 := ⟨TX2, rfl, ⟨by decide, by decide⟩, by decide +kernel, W_469, W_468, SEL_X2_isCell, W_4, Or.inr ⟨"AirParted", N_542⟩, rfl, rfl⟩
theorem FS_X2_37 : Fs "AirParted$Land" 37 6 1 4 := ⟨RX6, TX6, rfl, by decide, uwX6, rfl, Or.inr ⟨"AirParted", N_55⟩⟩
theorem FS_X2_43 : Fs "AirParted$Land" 43 6 3 4 := ⟨RX6, TX6, rfl, by decide, uwX6, rfl, Or.inr ⟨"AirParted", N_60⟩⟩
theorem FS_X2_45 : Fs "AirParted$Land" 45 6 0 4 := ⟨RX6, TX6, rfl, by decide, uwX6, rfl, Or.inr ⟨"AirParted", N_52⟩⟩
theorem SS_X2_68 : Ss "AirParted$Land" 68 mJ9_floorDiv_7cf53 2 := ⟨⟨by decide, by decide⟩, by decide +kernel, W_512, W_511, W_14, Or.inl W_510, rfl, rfl⟩
theorem SS_X2_49 : Ss "AirParted$Land" 49 mJ9_abs_0f7a4 1 := ⟨⟨by decide, by decide⟩, by decide +kernel, W_503, W_502, W_14, Or.inl W_501, rfl, rfl⟩
theorem SS_X2_55 : Ss "AirParted$Land" 55 mJ9_max_7cf53 2 := ⟨⟨by decide, by decide⟩, by decide +kernel, W_506, W_505, W_14, Or.inl W_504, rfl, rfl⟩
theorem FS_X2_15 : Fs "AirParted$Land" 15 2 1 5 := ⟨RX2, TX2, rfl, by decide, uwX2, rfl, Or.inl W_79⟩
theorem SS_X2_33 : Ss "AirParted$Land" 33 mX2_known 3 := ⟨⟨by decide, by decide⟩, by decide +kernel, W_480, W_479, W_4, Or.inl W_478, rfl, rfl⟩
theorem SS_X2_59 : Ss "AirParted$Land" 59 mX2_nearest 2 := ⟨⟨by decide, by decide⟩, by decide +kernel, W_509, W_508, W_4, Or.inl W_507, rfl, rfl⟩
theorem FS_X2_19 : Fs "AirParted$Land" 19 2 2 5 := ⟨RX2, TX2, rfl, by decide, uwX2, rfl, Or.inl W_80⟩
theorem FS_X2_9 : Fs "AirParted$Land" 9 2 0 5 := ⟨RX2, TX2, rfl, by decide, uwX2, rfl, Or.inl W_78⟩
theorem FS_X2_62 : Fs "AirParted$Land" 62 8 0 1 := ⟨RX8, TX8, rfl, by decide, uwX8, rfl, Or.inr ⟨"AirParted", N_37⟩⟩
theorem VS_X2_71 : Sv "AirParted$Land" 71 mX2_lossBetween 2 5 5 := ⟨TX2, rfl, ⟨by decide, by decide⟩, by decide +kernel, W_500, W_499, SEL_X2_lossBetween, W_4, Or.inl W_591, rfl, rfl⟩
theorem FS_X0_93 : Fs "AirParted$Air" 93 5 2 11 := ⟨RX5, TX5, rfl, by decide, uwX5, rfl, Or.inr ⟨"AirParted", N_117⟩⟩
theorem VS_X0_89 : Sv "AirParted$Air" 89 mX0_cellOf 0 9 1 := ⟨TX0, rfl, ⟨by decide, by decide⟩, by decide +kernel, W_537, W_536, SEL_X0_cellOf, W_5, Or.inl W_534, rfl, rfl⟩
theorem FS_X0_96 : Fs "AirParted$Air" 96 5 3 11 := ⟨RX5, TX5, rfl, by decide, uwX5, rfl, Or.inr ⟨"AirParted", N_119⟩⟩
theorem VS_X0_112 : Sv "AirParted$Air" 112 mX2_gotFrom 2 5 5 := ⟨TX2, rfl, ⟨by decide, by decide⟩, by decide +kernel, W_590, W_589, SEL_X2_gotFrom, W_4, Or.inr ⟨"AirParted", N_587⟩, rfl, rfl⟩
theorem FS_X0_102 : Fs "AirParted$Air" 102 5 5 11 := ⟨RX5, TX5, rfl, by decide, uwX5, rfl, Or.inr ⟨"AirParted", N_126⟩⟩
theorem VS_X0_116 : Sv "AirParted$Air" 116 mX5_ownMood 5 11 0 := ⟨TX5, rfl, ⟨by decide, by decide⟩, by decide +kernel, W_582, W_581, SEL_X5_ownMood, W_6, Or.inr ⟨"AirParted", N_613⟩, rfl, rfl⟩
theorem VS_X0_120 : Sv "AirParted$Air" 120 mX0_gotAt 0 9 3 := ⟨TX0, rfl, ⟨by decide, by decide⟩, by decide +kernel, W_586, W_585, SEL_X0_gotAt, W_5, Or.inl W_608, rfl, rfl⟩
theorem FS_X5_30 : Fs "AirParted$Sender" 30 5 4 11 := ⟨RX5, TX5, rfl, by decide, uwX5, rfl, Or.inl W_121⟩
theorem VS_X0_135 : Sv "AirParted$Air" 135 mX0_gotAtGoal 0 9 1 := ⟨TX0, rfl, ⟨by decide, by decide⟩, by decide +kernel, W_612, W_611, SEL_X0_gotAtGoal, W_5, Or.inl W_609, rfl, rfl⟩
theorem VS_X0_138 : Sv "AirParted$Air" 138 mX0_againstWithout 0 9 1 := ⟨TX0, rfl, ⟨by decide, by decide⟩, by decide +kernel, W_617, W_616, SEL_X0_againstWithout, W_5, Or.inl W_614, rfl, rfl⟩
theorem VS_X0_142 : Sv "AirParted$Air" 142 mX5_isEnough 5 11 2 := ⟨TX5, rfl, ⟨by decide, by decide⟩, by decide +kernel, W_621, W_620, SEL_X5_isEnough, W_6, Or.inr ⟨"AirParted", N_618⟩, rfl, rfl⟩
theorem SS_X0_146 : Ss "AirParted$Air" 146 mJ6_bitCount_0f7a4 1 := ⟨⟨by decide, by decide⟩, by decide +kernel, W_640, W_639, W_15, Or.inl W_638, rfl, rfl⟩
theorem VS_X0_151 : Sv "AirParted$Air" 151 mX0_asSenders 0 9 1 := ⟨TX0, rfl, ⟨by decide, by decide⟩, by decide +kernel, W_647, W_646, SEL_X0_asSenders, W_5, Or.inl W_644, rfl, rfl⟩
theorem VS_X0_73 : Sv "AirParted$Air" 73 mX5_isHopping 5 11 0 := ⟨TX5, rfl, ⟨by decide, by decide⟩, by decide +kernel, W_550, W_549, SEL_X5_isHopping, W_6, Or.inr ⟨"AirParted", N_547⟩, rfl, rfl⟩
theorem FS_X0_77 : Fs "AirParted$Air" 77 5 7 11 := ⟨RX5, TX5, rfl, by decide, uwX5, rfl, Or.inr ⟨"AirParted", N_133⟩⟩
theorem FS_X0_80 : Fs "AirParted$Air" 80 5 8 11 := ⟨RX5, TX5, rfl, by decide, uwX5, rfl, Or.inr ⟨"AirParted", N_137⟩⟩
theorem SS_X0_83 : Ss "AirParted$Air" 83 mJ9_floorMod_7cf53 2 := ⟨⟨by decide, by decide⟩, by decide +kernel, W_553, W_552, W_14, Or.inl W_551, rfl, rfl⟩
theorem FP_X0_124 : Fp "AirParted$Air" 124 0 8 9 .int := ⟨RX0, TX0, tyX0, rfl, by decide, uwX0, rfl, Or.inl W_182, tyX0_ok, nmX0, rfl, by decide +kernel⟩
theorem FS_X0_37 : Fs "AirParted$Air" 37 0 6 9 := ⟨RX0, TX0, rfl, by decide, uwX0, rfl, Or.inl W_176⟩
theorem FS_X0_41 : Fs "AirParted$Air" 41 5 10 11 := ⟨RX5, TX5, rfl, by decide, uwX5, rfl, Or.inr ⟨"AirParted", N_142⟩⟩
theorem VS_X0_108 : Sv "AirParted$Air" 108 mX0_slotAt 0 9 1 := ⟨TX0, rfl, ⟨by decide, by decide⟩, by decide +kernel, W_546, W_545, SEL_X0_slotAt, W_5, Or.inl W_543, rfl, rfl⟩
theorem VS_X0_132 : Sv "AirParted$Air" 132 mX0_gatherRivals 0 9 1 := ⟨TX0, rfl, ⟨by decide, by decide⟩, by decide +kernel, W_607, W_606, SEL_X0_gatherRivals, W_5, Or.inl W_604, rfl, rfl⟩
theorem FS_X0_99 : Fs "AirParted$Air" 99 5 4 11 := ⟨RX5, TX5, rfl, by decide, uwX5, rfl, Or.inr ⟨"AirParted", N_122⟩⟩
theorem FS_X0_105 : Fs "AirParted$Air" 105 5 6 11 := ⟨RX5, TX5, rfl, by decide, uwX5, rfl, Or.inr ⟨"AirParted", N_130⟩⟩
theorem FS_X10_15 : Fs "AirParted$Watch" 15 10 1 4 := ⟨RX10, TX10, rfl, by decide, uwX10, rfl, Or.inl W_349⟩
theorem FS_X10_22 : Fs "AirParted$Watch" 22 10 3 4 := ⟨RX10, TX10, rfl, by decide, uwX10, rfl, Or.inl W_353⟩
theorem FS_X10_19 : Fs "AirParted$Watch" 19 10 2 4 := ⟨RX10, TX10, rfl, by decide, uwX10, rfl, Or.inl W_351⟩
theorem FP_X10_22 : Fp "AirParted$Watch" 22 10 3 4 .int := ⟨RX10, TX10, tyX10, rfl, by decide, uwX10, rfl, Or.inl W_353, tyX10_ok, nmX10, rfl, by decide +kernel⟩
theorem FS_X10_9 : Fs "AirParted$Watch" 9 10 0 4 := ⟨RX10, TX10, rfl, by decide, uwX10, rfl, Or.inl W_348⟩
theorem VS_X10_26 : Sv "AirParted$Watch" 26 mX2_gotFrom 2 5 5 := ⟨TX2, rfl, ⟨by decide, by decide⟩, by decide +kernel, W_590, W_589, SEL_X2_gotFrom, W_4, Or.inr ⟨"AirParted", N_935⟩, rfl, rfl⟩
theorem SS_X10_34 : Ss "AirParted$Watch" 34 mJ9_abs_067f4 1 := ⟨⟨by decide, by decide⟩, by decide +kernel, W_939, W_938, W_14, Or.inl W_937, rfl, rfl⟩
theorem FS_X11_37 : Fs "AirParted" 37 11 3 12 := ⟨RX11, TX11, rfl, by decide, uwX11, rfl, Or.inl W_421⟩
theorem VS_X11_167 : Sv "AirParted" 167 mX0_has 0 9 1 := ⟨TX0, rfl, ⟨by decide, by decide⟩, by decide +kernel, W_529, W_528, SEL_X0_has, W_5, Or.inr ⟨"AirParted", N_526⟩, rfl, rfl⟩
theorem VS_X11_171 : Sv "AirParted" 171 mX0_tell 0 9 2 := ⟨TX0, rfl, ⟨by decide, by decide⟩, by decide +kernel, W_533, W_532, SEL_X0_tell, W_5, Or.inr ⟨"AirParted", N_530⟩, rfl, rfl⟩
theorem SS_X11_93 : Ss "AirParted" 93 mX11_within 3 := ⟨⟨by decide, by decide⟩, by decide +kernel, W_461, W_460, W_1, Or.inl W_459, rfl, rfl⟩
theorem SS_X4_39 : Ss "AirParted$Parting" 39 mJ6_bitCount_0f7a4 1 := ⟨⟨by decide, by decide⟩, by decide +kernel, W_640, W_639, W_15, Or.inl W_656, rfl, rfl⟩
theorem FS_X4_15 : Fs "AirParted$Parting" 15 4 1 9 := ⟨RX4, TX4, rfl, by decide, uwX4, rfl, Or.inl W_209⟩
theorem FS_X4_45 : Fs "AirParted$Parting" 45 0 6 9 := ⟨RX0, TX0, rfl, by decide, uwX0, rfl, Or.inr ⟨"AirParted", N_178⟩⟩
theorem FS_X4_51 : Fs "AirParted$Parting" 51 4 8 9 := ⟨RX4, TX4, rfl, by decide, uwX4, rfl, Or.inl W_219⟩
theorem FS_X4_9 : Fs "AirParted$Parting" 9 4 0 9 := ⟨RX4, TX4, rfl, by decide, uwX4, rfl, Or.inl W_208⟩
theorem FS_X4_83 : Fs "AirParted$Parting" 83 8 0 1 := ⟨RX8, TX8, rfl, by decide, uwX8, rfl, Or.inr ⟨"AirParted", N_35⟩⟩
theorem FS_X4_23 : Fs "AirParted$Parting" 23 4 3 9 := ⟨RX4, TX4, rfl, by decide, uwX4, rfl, Or.inl W_212⟩
theorem FS_X4_52 : Fs "AirParted$Parting" 52 0 3 9 := ⟨RX0, TX0, rfl, by decide, uwX0, rfl, Or.inr ⟨"AirParted", N_172⟩⟩
theorem FS_X4_19 : Fs "AirParted$Parting" 19 4 2 9 := ⟨RX4, TX4, rfl, by decide, uwX4, rfl, Or.inl W_210⟩
theorem VS_X4_88 : Sv "AirParted$Parting" 88 mX5_isEnough 5 11 2 := ⟨TX5, rfl, ⟨by decide, by decide⟩, by decide +kernel, W_621, W_620, SEL_X5_isEnough, W_6, Or.inr ⟨"AirParted", N_675⟩, rfl, rfl⟩
theorem VS_X4_79 : Sv "AirParted$Parting" 79 mX4_isHeardIn 4 9 2 := ⟨TX4, rfl, ⟨by decide, by decide⟩, by decide +kernel, W_674, W_673, SEL_X4_isHeardIn, W_7, Or.inl W_671, rfl, rfl⟩
theorem FS_X4_30 : Fs "AirParted$Parting" 30 4 5 9 := ⟨RX4, TX4, rfl, by decide, uwX4, rfl, Or.inl W_215⟩
theorem VS_X4_69 : Sv "AirParted$Parting" 69 mX4_whole 4 9 0 := ⟨TX4, rfl, ⟨by decide, by decide⟩, by decide +kernel, W_666, W_665, SEL_X4_whole, W_7, Or.inl W_663, rfl, rfl⟩
theorem FS_X4_26 : Fs "AirParted$Parting" 26 4 4 9 := ⟨RX4, TX4, rfl, by decide, uwX4, rfl, Or.inl W_213⟩
theorem SS_X4_92 : Ss "AirParted$Parting" 92 mJ9_min_7cf53 2 := ⟨⟨by decide, by decide⟩, by decide +kernel, W_682, W_681, W_14, Or.inl W_680, rfl, rfl⟩
theorem FP_X4_51 : Fp "AirParted$Parting" 51 4 8 9 .int := ⟨RX4, TX4, tyX4, rfl, by decide, uwX4, rfl, Or.inl W_219, tyX4_ok, nmX4, rfl, by decide +kernel⟩
theorem FS_X4_62 : Fs "AirParted$Parting" 62 5 5 11 := ⟨RX5, TX5, rfl, by decide, uwX5, rfl, Or.inr ⟨"AirParted", N_125⟩⟩
theorem VS_X4_65 : Sv "AirParted$Parting" 65 mX0_gotAt 0 9 3 := ⟨TX0, rfl, ⟨by decide, by decide⟩, by decide +kernel, W_586, W_585, SEL_X0_gotAt, W_5, Or.inr ⟨"AirParted", N_662⟩, rfl, rfl⟩
theorem VS_X4_56 : Sv "AirParted$Parting" 56 mX5_ownMood 5 11 0 := ⟨TX5, rfl, ⟨by decide, by decide⟩, by decide +kernel, W_582, W_581, SEL_X5_ownMood, W_6, Or.inr ⟨"AirParted", N_661⟩, rfl, rfl⟩
theorem VS_X4_72 : Sv "AirParted$Parting" 72 mX4_mayBeTogether 4 9 1 := ⟨TX4, rfl, ⟨by decide, by decide⟩, by decide +kernel, W_670, W_669, SEL_X4_mayBeTogether, W_7, Or.inl W_667, rfl, rfl⟩
theorem VS_X4_76 : Sv "AirParted$Parting" 76 mX4_countSlots 4 9 0 := ⟨TX4, rfl, ⟨by decide, by decide⟩, by decide +kernel, W_679, W_678, SEL_X4_countSlots, W_7, Or.inl W_676, rfl, rfl⟩
theorem FS_X4_33 : Fs "AirParted$Parting" 33 4 6 9 := ⟨RX4, TX4, rfl, by decide, uwX4, rfl, Or.inl W_216⟩
theorem FS_X4_36 : Fs "AirParted$Parting" 36 4 7 9 := ⟨RX4, TX4, rfl, by decide, uwX4, rfl, Or.inl W_217⟩
theorem SS_X4_104 (d : Nat) : Ss "AirParted$Parting" 104 (mX4_place d) 2 := ⟨⟨show yX4_place.cls ≠ _ from by decide, show yX4_place.cls ≠ _ from by decide⟩, show (parseMethodDescriptor yX4_place.desc).map (fun d => d.parameters.length) = some 2 from by decide +kernel, W_705, W_704, W_7, Or.inl W_703, rfl, rfl⟩
theorem SS_X4_98 : Ss "AirParted$Parting" 98 mJ7_fill_53178 2 := ⟨⟨by decide, by decide⟩, by decide +kernel, W_702, W_701, W_16, Or.inl W_700, rfl, rfl⟩
theorem FS_X11_46 : Fs "AirParted" 46 11 4 12 := ⟨RX11, TX11, rfl, by decide, uwX11, rfl, Or.inl W_422⟩
theorem VS_X11_209 : Sv "AirParted" 209 mX4_isSet 4 9 1 := ⟨TX4, rfl, ⟨by decide, by decide⟩, by decide +kernel, W_655, W_654, SEL_X4_isSet, W_7, Or.inr ⟨"AirParted", N_652⟩, rfl, rfl⟩
theorem VS_X11_212 : Sv "AirParted" 212 mX4_prepare 4 9 1 := ⟨TX4, rfl, ⟨by decide, by decide⟩, by decide +kernel, W_660, W_659, SEL_X4_prepare, W_7, Or.inr ⟨"AirParted", N_657⟩, rfl, rfl⟩
theorem VS_X11_226 : Sv "AirParted" 226 mX4_divide 4 9 0 := ⟨TX4, rfl, ⟨by decide, by decide⟩, by decide +kernel, W_699, W_698, SEL_X4_divide, W_7, Or.inr ⟨"AirParted", N_696⟩, rfl, rfl⟩
theorem FS_X11_244 : Fs "AirParted" 244 4 8 9 := ⟨RX4, TX4, rfl, by decide, uwX4, rfl, Or.inr ⟨"AirParted", N_220⟩⟩
theorem FS_X11_143 : Fs "AirParted" 143 0 3 9 := ⟨RX0, TX0, rfl, by decide, uwX0, rfl, Or.inr ⟨"AirParted", N_173⟩⟩
theorem FS_X11_245 : Fs "AirParted" 245 4 2 9 := ⟨RX4, TX4, rfl, by decide, uwX4, rfl, Or.inr ⟨"AirParted", N_211⟩⟩
theorem FS_X11_230 : Fs "AirParted" 230 4 7 9 := ⟨RX4, TX4, rfl, by decide, uwX4, rfl, Or.inr ⟨"AirParted", N_218⟩⟩
theorem FP_X11_248 : Fp "AirParted" 248 5 7 11 .int := ⟨RX5, TX5, tyX5, rfl, by decide, uwX5, rfl, Or.inr ⟨"AirParted", N_135⟩, tyX5_ok, nmX5, rfl, by decide +kernel⟩
theorem VS_X11_223 : Sv "AirParted" 223 mX4_fewestSlots 4 9 0 := ⟨TX4, rfl, ⟨by decide, by decide⟩, by decide +kernel, W_691, W_690, SEL_X4_fewestSlots, W_7, Or.inr ⟨"AirParted", N_688⟩, rfl, rfl⟩
theorem FS_X4_114 : Fs "AirParted$Parting" 114 5 6 11 := ⟨RX5, TX5, rfl, by decide, uwX5, rfl, Or.inr ⟨"AirParted", N_131⟩⟩
theorem VS_X4_108 : Sv "AirParted$Parting" 108 mX4_worthOf 4 9 1 := ⟨TX4, rfl, ⟨by decide, by decide⟩, by decide +kernel, W_718, W_717, SEL_X4_worthOf, W_7, Or.inl W_715, rfl, rfl⟩
theorem VS_X4_111 : Sv "AirParted$Parting" 111 mX4_asSenders 4 9 1 := ⟨TX4, rfl, ⟨by decide, by decide⟩, by decide +kernel, W_722, W_721, SEL_X4_asSenders, W_7, Or.inl W_719, rfl, rfl⟩
theorem VS_X11_238 : Sv "AirParted" 238 mX4_mostWorth 4 9 1 := ⟨TX4, rfl, ⟨by decide, by decide⟩, by decide +kernel, W_714, W_713, SEL_X4_mostWorth, W_7, Or.inr ⟨"AirParted", N_711⟩, rfl, rfl⟩
theorem FS_X1_9 : Fs "AirParted$Auction" 9 1 0 3 := ⟨RX1, TX1, rfl, by decide, uwX1, rfl, Or.inl W_288⟩
theorem FS_X1_16 : Fs "AirParted$Auction" 16 1 2 3 := ⟨RX1, TX1, rfl, by decide, uwX1, rfl, Or.inl W_290⟩
theorem FS_X1_13 : Fs "AirParted$Auction" 13 1 1 3 := ⟨RX1, TX1, rfl, by decide, uwX1, rfl, Or.inl W_289⟩
theorem FP_X1_16 : Fp "AirParted$Auction" 16 1 2 3 .int := ⟨RX1, TX1, tyX1, rfl, by decide, uwX1, rfl, Or.inl W_290, tyX1_ok, nmX1, rfl, by decide +kernel⟩
theorem FS_X11_60 : Fs "AirParted" 60 11 6 12 := ⟨RX11, TX11, rfl, by decide, uwX11, rfl, Or.inl W_424⟩
theorem FS_X11_285 : Fs "AirParted" 285 1 2 3 := ⟨RX1, TX1, rfl, by decide, uwX1, rfl, Or.inr ⟨"AirParted", N_291⟩⟩
theorem VS_X11_286 : Sv "AirParted" 286 mX1_add 1 3 2 := ⟨TX1, rfl, ⟨by decide, by decide⟩, by decide +kernel, W_817, W_816, SEL_X1_add, W_9, Or.inr ⟨"AirParted", N_814⟩, rfl, rfl⟩
theorem FS_X11_28 : Fs "AirParted" 28 11 2 12 := ⟨RX11, TX11, rfl, by decide, uwX11, rfl, Or.inl W_420⟩
theorem VS_X11_114 : Sv "AirParted" 114 mX2_isCell 2 5 1 := ⟨TX2, rfl, ⟨by decide, by decide⟩, by decide +kernel, W_469, W_468, SEL_X2_isCell, W_4, Or.inr ⟨"AirParted", N_466⟩, rfl, rfl⟩
theorem FS_X11_76 : Fs "AirParted" 76 11 8 12 := ⟨RX11, TX11, rfl, by decide, uwX11, rfl, Or.inl W_426⟩
theorem FS_X11_101 : Fs "AirParted" 101 10 3 4 := ⟨RX10, TX10, rfl, by decide, uwX10, rfl, Or.inr ⟨"AirParted", N_354⟩⟩
theorem VS_X11_316 : Sv "AirParted" 316 mX10_add 10 4 1 := ⟨TX10, rfl, ⟨by decide, by decide⟩, by decide +kernel, W_916, W_915, SEL_X10_add, W_11, Or.inr ⟨"AirParted", N_913⟩, rfl, rfl⟩
theorem FP_X11_285 : Fp "AirParted" 285 1 2 3 .int := ⟨RX1, TX1, tyX1, rfl, by decide, uwX1, rfl, Or.inr ⟨"AirParted", N_291⟩, tyX1_ok, nmX1, rfl, by decide +kernel⟩
theorem FS_X11_179 : Fs "AirParted" 179 5 10 11 := ⟨RX5, TX5, rfl, by decide, uwX5, rfl, Or.inr ⟨"AirParted", N_143⟩⟩
theorem VS_X11_191 : Sv "AirParted" 191 mX11_refusalUnlessOn 11 12 1 := ⟨TX11, rfl, ⟨by decide, by decide⟩, by decide +kernel, W_599, W_598, SEL_X11_refusalUnlessOn, W_1, Or.inl W_596, rfl, rfl⟩
theorem VS_X11_199 : Sv "AirParted" 199 mX0_gatherRivals 0 9 1 := ⟨TX0, rfl, ⟨by decide, by decide⟩, by decide +kernel, W_607, W_606, SEL_X0_gatherRivals, W_5, Or.inr ⟨"AirParted", N_628⟩, rfl, rfl⟩
theorem VS_X11_206 : Sv "AirParted" 206 mX0_causeOf 0 9 1 := ⟨TX0, rfl, ⟨by decide, by decide⟩, by decide +kernel, W_637, W_636, SEL_X0_causeOf, W_5, Or.inr ⟨"AirParted", N_634⟩, rfl, rfl⟩
theorem VS_X11_325 : Sv "AirParted" 325 mX2_size 2 5 0 := ⟨TX2, rfl, ⟨by decide, by decide⟩, by decide +kernel, W_473, W_472, SEL_X2_size, W_4, Or.inr ⟨"AirParted", N_930⟩, rfl, rfl⟩
theorem VS_X11_328 : Sv "AirParted" 328 mX10_agrees 10 4 3 := ⟨TX10, rfl, ⟨by decide, by decide⟩, by decide +kernel, W_934, W_933, SEL_X10_agrees, W_11, Or.inr ⟨"AirParted", N_931⟩, rfl, rfl⟩
theorem SS_X11_426 : Ss "AirParted" 426 mX11_power 2 := ⟨⟨by decide, by decide⟩, by decide +kernel, W_744, W_743, W_1, Or.inl W_742, rfl, rfl⟩
theorem SS_X5_44 : Ss "AirParted$Sender" 44 mX11_within 3 := ⟨⟨by decide, by decide⟩, by decide +kernel, W_461, W_460, W_1, Or.inr ⟨"AirParted", N_569⟩, rfl, rfl⟩
theorem VS_X5_48 : Sv "AirParted$Sender" 48 mX5_isHopping 5 11 0 := ⟨TX5, rfl, ⟨by decide, by decide⟩, by decide +kernel, W_550, W_549, SEL_X5_isHopping, W_6, Or.inl W_570, rfl, rfl⟩
theorem VS_X5_33 : Sv "AirParted$Sender" 33 mX5_mayBecome 5 11 2 := ⟨TX5, rfl, ⟨by decide, by decide⟩, by decide +kernel, W_567, W_566, SEL_X5_mayBecome, W_6, Or.inl W_564, rfl, rfl⟩
theorem FS_X5_37 : Fs "AirParted$Sender" 37 5 2 11 := ⟨RX5, TX5, rfl, by decide, uwX5, rfl, Or.inl W_116⟩
theorem FP_X5_37 : Fp "AirParted$Sender" 37 5 2 11 .int := ⟨RX5, TX5, tyX5, rfl, by decide, uwX5, rfl, Or.inl W_116, tyX5_ok, nmX5, rfl, by decide +kernel⟩
theorem FS_X5_15 : Fs "AirParted$Sender" 15 5 6 11 := ⟨RX5, TX5, rfl, by decide, uwX5, rfl, Or.inl W_128⟩
theorem FP_X5_15 : Fp "AirParted$Sender" 15 5 6 11 .int := ⟨RX5, TX5, tyX5, rfl, by decide, uwX5, rfl, Or.inl W_128, tyX5_ok, nmX5, rfl, by decide +kernel⟩
theorem FS_X5_40 : Fs "AirParted$Sender" 40 5 7 11 := ⟨RX5, TX5, rfl, by decide, uwX5, rfl, Or.inl W_134⟩
theorem FP_X5_40 : Fp "AirParted$Sender" 40 5 7 11 .int := ⟨RX5, TX5, tyX5, rfl, by decide, uwX5, rfl, Or.inl W_134, tyX5_ok, nmX5, rfl, by decide +kernel⟩
theorem FS_X5_18 : Fs "AirParted$Sender" 18 5 8 11 := ⟨RX5, TX5, rfl, by decide, uwX5, rfl, Or.inl W_136⟩
theorem FP_X5_18 : Fp "AirParted$Sender" 18 5 8 11 .int := ⟨RX5, TX5, tyX5, rfl, by decide, uwX5, rfl, Or.inl W_136, tyX5_ok, nmX5, rfl, by decide +kernel⟩
theorem FS_X5_21 : Fs "AirParted$Sender" 21 5 9 11 := ⟨RX5, TX5, rfl, by decide, uwX5, rfl, Or.inl W_138⟩
theorem FP_X5_21 : Fp "AirParted$Sender" 21 5 9 11 .int := ⟨RX5, TX5, tyX5, rfl, by decide, uwX5, rfl, Or.inl W_138, tyX5_ok, nmX5, rfl, by decide +kernel⟩
theorem VS_X11_176 : Sv "AirParted" 176 mX5_replace 5 11 2 := ⟨TX5, rfl, ⟨by decide, by decide⟩, by decide +kernel, W_563, W_562, SEL_X5_replace, W_6, Or.inr ⟨"AirParted", N_560⟩, rfl, rfl⟩
theorem VS_X11_331 : Sv "AirParted" 331 mX10_readable 10 4 0 := ⟨TX10, rfl, ⟨by decide, by decide⟩, by decide +kernel, W_951, W_950, SEL_X10_readable, W_11, Or.inr ⟨"AirParted", N_948⟩, rfl, rfl⟩
theorem VS_X11_334 : Sv "AirParted" 334 mX0_cellOf 0 9 1 := ⟨TX0, rfl, ⟨by decide, by decide⟩, by decide +kernel, W_537, W_536, SEL_X0_cellOf, W_5, Or.inr ⟨"AirParted", N_952⟩, rfl, rfl⟩
theorem FS_X11_155 : Fs "AirParted" 155 5 2 11 := ⟨RX5, TX5, rfl, by decide, uwX5, rfl, Or.inr ⟨"AirParted", N_118⟩⟩
theorem VS_X11_337 : Sv "AirParted" 337 mX2_squaredWay 2 5 2 := ⟨TX2, rfl, ⟨by decide, by decide⟩, by decide +kernel, W_956, W_955, SEL_X2_squaredWay, W_4, Or.inr ⟨"AirParted", N_953⟩, rfl, rfl⟩
theorem FP_X11_394 : Fp "AirParted" 394 11 11 12 .int := ⟨RX11, TX11, tyX11, rfl, by decide, uwX11, rfl, Or.inl W_429, tyX11_ok, nmX11, rfl, by decide +kernel⟩
theorem SS_X11_368 : Ss "AirParted" 368 mX11_isSheet 1 := ⟨⟨by decide, by decide⟩, by decide +kernel, W_1019, W_1018, W_1, Or.inl W_1017, rfl, rfl⟩
theorem FS_X11_18 : Fs "AirParted" 18 11 1 12 := ⟨RX11, TX11, rfl, by decide, uwX11, rfl, Or.inl W_419⟩
theorem FS_X11_381 : Fs "AirParted" 381 6 1 4 := ⟨RX6, TX6, rfl, by decide, uwX6, rfl, Or.inr ⟨"AirParted", N_56⟩⟩
theorem VS_X11_374 : Sv "AirParted" 374 mX11_found 11 12 1 := ⟨TX11, rfl, ⟨by decide, by decide⟩, by decide +kernel, W_1026, W_1025, SEL_X11_found, W_1, Or.inl W_1023, rfl, rfl⟩
theorem FS_X11_400 : Fs "AirParted" 400 6 2 4 := ⟨RX6, TX6, rfl, by decide, uwX6, rfl, Or.inr ⟨"AirParted", N_58⟩⟩
theorem VS_X11_403 : Sv "AirParted" 403 mX6_holds 6 4 2 := ⟨TX6, rfl, ⟨by decide, by decide⟩, by decide +kernel, W_541, W_540, SEL_X6_holds, W_3, Or.inr ⟨"AirParted", N_1045⟩, rfl, rfl⟩
theorem FS_X11_397 : Fs "AirParted" 397 6 0 4 := ⟨RX6, TX6, rfl, by decide, uwX6, rfl, Or.inr ⟨"AirParted", N_53⟩⟩
theorem FS_X11_97 : Fs "AirParted" 97 0 6 9 := ⟨RX0, TX0, rfl, by decide, uwX0, rfl, Or.inr ⟨"AirParted", N_179⟩⟩
theorem VS_X11_416 : Sv "AirParted" 416 mX0_totalOn 0 9 0 := ⟨TX0, rfl, ⟨by decide, by decide⟩, by decide +kernel, W_1073, W_1072, SEL_X0_totalOn, W_5, Or.inr ⟨"AirParted", N_1070⟩, rfl, rfl⟩
theorem FS_X11_67 : Fs "AirParted" 67 11 7 12 := ⟨RX11, TX11, rfl, by decide, uwX11, rfl, Or.inl W_425⟩
theorem FS_X11_295 : Fs "AirParted" 295 7 7 11 := ⟨RX7, TX7, rfl, by decide, uwX7, rfl, Or.inr ⟨"AirParted", N_314⟩⟩
theorem FS_X11_85 : Fs "AirParted" 85 11 9 12 := ⟨RX11, TX11, rfl, by decide, uwX11, rfl, Or.inl W_427⟩
theorem FS_X11_102 : Fs "AirParted" 102 9 9 14 := ⟨RX9, TX9, rfl, by decide, uwX9, rfl, Or.inr ⟨"AirParted", N_380⟩⟩
theorem FS_X11_105 : Fs "AirParted" 105 9 10 14 := ⟨RX9, TX9, rfl, by decide, uwX9, rfl, Or.inr ⟨"AirParted", N_381⟩⟩
theorem FS_X11_139 : Fs "AirParted" 139 0 7 9 := ⟨RX0, TX0, rfl, by decide, uwX0, rfl, Or.inr ⟨"AirParted", N_181⟩⟩
theorem FS_X11_394 : Fs "AirParted" 394 11 11 12 := ⟨RX11, TX11, rfl, by decide, uwX11, rfl, Or.inl W_429⟩
theorem FS_X11_108 : Fs "AirParted" 108 2 3 5 := ⟨RX2, TX2, rfl, by decide, uwX2, rfl, Or.inr ⟨"AirParted", N_82⟩⟩
theorem FS_X11_111 : Fs "AirParted" 111 2 4 5 := ⟨RX2, TX2, rfl, by decide, uwX2, rfl, Or.inr ⟨"AirParted", N_84⟩⟩
theorem FS_X9_39 : Fs "AirParted$Towers" 39 9 9 14 := ⟨RX9, TX9, rfl, by decide, uwX9, rfl, Or.inl W_379⟩
theorem FS_X9_43 : Fs "AirParted$Towers" 43 9 10 14 := ⟨RX9, TX9, rfl, by decide, uwX9, rfl, Or.inl W_382⟩
theorem FS_X9_13 : Fs "AirParted$Towers" 13 9 1 14 := ⟨RX9, TX9, rfl, by decide, uwX9, rfl, Or.inl W_371⟩
theorem FS_X9_17 : Fs "AirParted$Towers" 17 9 2 14 := ⟨RX9, TX9, rfl, by decide, uwX9, rfl, Or.inl W_372⟩
theorem FS_X9_21 : Fs "AirParted$Towers" 21 9 3 14 := ⟨RX9, TX9, rfl, by decide, uwX9, rfl, Or.inl W_373⟩
theorem FS_X9_30 : Fs "AirParted$Towers" 30 9 6 14 := ⟨RX9, TX9, rfl, by decide, uwX9, rfl, Or.inl W_376⟩
theorem VS_X9_46 : Sv "AirParted$Towers" 46 mX2_lossBetween 2 5 5 := ⟨TX2, rfl, ⟨by decide, by decide⟩, by decide +kernel, W_500, W_499, SEL_X2_lossBetween, W_4, Or.inr ⟨"AirParted", N_985⟩, rfl, rfl⟩
theorem FS_X9_36 : Fs "AirParted$Towers" 36 9 8 14 := ⟨RX9, TX9, rfl, by decide, uwX9, rfl, Or.inl W_378⟩
theorem FS_X9_24 : Fs "AirParted$Towers" 24 9 4 14 := ⟨RX9, TX9, rfl, by decide, uwX9, rfl, Or.inl W_374⟩
theorem FS_X9_27 : Fs "AirParted$Towers" 27 9 5 14 := ⟨RX9, TX9, rfl, by decide, uwX9, rfl, Or.inl W_375⟩
theorem SS_X9_56 : Ss "AirParted$Towers" 56 mJ9_max_f86c9 2 := ⟨⟨by decide, by decide⟩, by decide +kernel, W_996, W_995, W_14, Or.inl W_994, rfl, rfl⟩
theorem FS_X9_9 : Fs "AirParted$Towers" 9 9 0 14 := ⟨RX9, TX9, rfl, by decide, uwX9, rfl, Or.inl W_370⟩
theorem FS_X9_62 : Fs "AirParted$Towers" 62 8 0 1 := ⟨RX8, TX8, rfl, by decide, uwX8, rfl, Or.inr ⟨"AirParted", N_36⟩⟩
theorem VS_X9_52 : Sv "AirParted$Towers" 52 mX9_isServed 9 14 2 := ⟨TX9, rfl, ⟨by decide, by decide⟩, by decide +kernel, W_993, W_992, SEL_X9_isServed, W_12, Or.inl W_990, rfl, rfl⟩
theorem FS_X9_33 : Fs "AirParted$Towers" 33 9 7 14 := ⟨RX9, TX9, rfl, by decide, uwX9, rfl, Or.inl W_377⟩
theorem VS_X9_69 : Sv "AirParted$Towers" 69 mX9_measure 9 14 0 := ⟨TX9, rfl, ⟨by decide, by decide⟩, by decide +kernel, W_984, W_983, SEL_X9_measure, W_12, Or.inl W_1006, rfl, rfl⟩
theorem FP_X9_72 : Fp "AirParted$Towers" 72 9 11 14 .int := ⟨RX9, TX9, tyX9, rfl, by decide, uwX9, rfl, Or.inl W_383, tyX9_ok, nmX9, rfl, by decide +kernel⟩
theorem FP_X9_75 : Fp "AirParted$Towers" 75 9 12 14 .int := ⟨RX9, TX9, tyX9, rfl, by decide, uwX9, rfl, Or.inl W_385, tyX9_ok, nmX9, rfl, by decide +kernel⟩
theorem FP_X9_78 : Fp "AirParted$Towers" 78 9 13 14 .int := ⟨RX9, TX9, tyX9, rfl, by decide, uwX9, rfl, Or.inl W_387, tyX9_ok, nmX9, rfl, by decide +kernel⟩
theorem VS_X9_81 : Sv "AirParted$Towers" 81 mX9_plans 9 14 0 := ⟨TX9, rfl, ⟨by decide, by decide⟩, by decide +kernel, W_980, W_979, SEL_X9_plans, W_12, Or.inl W_1007, rfl, rfl⟩
theorem VS_X9_85 : Sv "AirParted$Towers" 85 mX9_priceOf 9 14 1 := ⟨TX9, rfl, ⟨by decide, by decide⟩, by decide +kernel, W_1011, W_1010, SEL_X9_priceOf, W_12, Or.inl W_1008, rfl, rfl⟩
theorem VS_X9_89 : Sv "AirParted$Towers" 89 mX9_worthOf 9 14 1 := ⟨TX9, rfl, ⟨by decide, by decide⟩, by decide +kernel, W_989, W_988, SEL_X9_worthOf, W_12, Or.inl W_1012, rfl, rfl⟩
theorem FS_X9_75 : Fs "AirParted$Towers" 75 9 12 14 := ⟨RX9, TX9, rfl, by decide, uwX9, rfl, Or.inl W_385⟩
theorem FS_X9_78 : Fs "AirParted$Towers" 78 9 13 14 := ⟨RX9, TX9, rfl, by decide, uwX9, rfl, Or.inl W_387⟩
theorem VS_X1_20 : Sv "AirParted$Auction" 20 mX1_sharesNoHour 1 3 1 := ⟨TX1, rfl, ⟨by decide, by decide⟩, by decide +kernel, W_833, W_832, SEL_X1_sharesNoHour, W_9, Or.inl W_830, rfl, rfl⟩
theorem VS_X1_24 : Sv "AirParted$Auction" 24 mX1_priceOf 1 3 1 := ⟨TX1, rfl, ⟨by decide, by decide⟩, by decide +kernel, W_837, W_836, SEL_X1_priceOf, W_9, Or.inl W_834, rfl, rfl⟩
theorem SS_X1_28 : Ss "AirParted$Auction" 28 mJ6_bitCount_0f7a4 1 := ⟨⟨by decide, by decide⟩, by decide +kernel, W_640, W_639, W_15, Or.inl W_838, rfl, rfl⟩
theorem VS_X11_423 : Sv "AirParted" 423 mX11_count 11 12 1 := ⟨TX11, rfl, ⟨by decide, by decide⟩, by decide +kernel, W_1069, W_1067, W_1068, W_1, Or.inl W_1080, rfl, rfl⟩
theorem FS_X11_10 : Fs "AirParted" 10 11 0 12 := ⟨RX11, TX11, rfl, by decide, uwX11, rfl, Or.inl W_418⟩
theorem FS_X11_132 : Fs "AirParted" 132 8 0 1 := ⟨RX8, TX8, rfl, by decide, uwX8, rfl, Or.inr ⟨"AirParted", N_34⟩⟩
theorem VS_X11_194 : Sv "AirParted" 194 mX0_isHeard 0 9 1 := ⟨TX0, rfl, ⟨by decide, by decide⟩, by decide +kernel, W_603, W_602, SEL_X0_isHeard, W_5, Or.inr ⟨"AirParted", N_600⟩, rfl, rfl⟩
theorem VS_X11_356 : Sv "AirParted" 356 mX9_choose 9 14 1 := ⟨TX9, rfl, ⟨by decide, by decide⟩, by decide +kernel, W_1005, W_1004, SEL_X9_choose, W_12, Or.inr ⟨"AirParted", N_1002⟩, rfl, rfl⟩
theorem VS_X11_289 : Sv "AirParted" 289 mX1_winners 1 3 1 := ⟨TX1, rfl, ⟨by decide, by decide⟩, by decide +kernel, W_829, W_828, SEL_X1_winners, W_9, Or.inr ⟨"AirParted", N_826⟩, rfl, rfl⟩
theorem FS_X11_359 : Fs "AirParted" 359 9 11 14 := ⟨RX9, TX9, rfl, by decide, uwX9, rfl, Or.inr ⟨"AirParted", N_384⟩⟩
theorem FS_X11_362 : Fs "AirParted" 362 9 12 14 := ⟨RX9, TX9, rfl, by decide, uwX9, rfl, Or.inr ⟨"AirParted", N_386⟩⟩
theorem VS_X11_202 : Sv "AirParted" 202 mX0_againstWithout 0 9 1 := ⟨TX0, rfl, ⟨by decide, by decide⟩, by decide +kernel, W_617, W_616, SEL_X0_againstWithout, W_5, Or.inr ⟨"AirParted", N_629⟩, rfl, rfl⟩
theorem FP_X9_43 : Fp "AirParted$Towers" 43 9 10 14 .int := ⟨RX9, TX9, tyX9, rfl, by decide, uwX9, rfl, Or.inl W_382, tyX9_ok, nmX9, rfl, by decide +kernel⟩
theorem VS_X11_344 : Sv "AirParted" 344 mX9_addEar 9 14 2 := ⟨TX9, rfl, ⟨by decide, by decide⟩, by decide +kernel, W_972, W_971, SEL_X9_addEar, W_12, Or.inr ⟨"AirParted", N_969⟩, rfl, rfl⟩
theorem FS_X7_51 : Fs "AirParted$Texts" 51 7 10 11 := ⟨RX7, TX7, rfl, by decide, uwX7, rfl, Or.inl W_318⟩
theorem FS_X7_34 : Fs "AirParted$Texts" 34 7 7 11 := ⟨RX7, TX7, rfl, by decide, uwX7, rfl, Or.inl W_313⟩
theorem FS_X7_11 : Fs "AirParted$Texts" 11 7 0 11 := ⟨RX7, TX7, rfl, by decide, uwX7, rfl, Or.inl W_305⟩
theorem FP_X7_41 : Fp "AirParted$Texts" 41 7 9 11 .int := ⟨RX7, TX7, tyX7, rfl, by decide, uwX7, rfl, Or.inl W_316, tyX7_ok, nmX7, rfl, by decide +kernel⟩
theorem VS_X7_58 : Sv "AirParted$Texts" 58 mX7_sign 7 11 0 := ⟨TX7, rfl, ⟨by decide, by decide⟩, by decide +kernel, W_875, W_874, SEL_X7_sign, W_10, Or.inl W_872, rfl, rfl⟩
theorem SS_X7_47 : Ss "AirParted$Texts" 47 mX11_within 3 := ⟨⟨by decide, by decide⟩, by decide +kernel, W_461, W_460, W_1, Or.inr ⟨"AirParted", N_880⟩, rfl, rfl⟩
theorem VS_X7_73 : Sv "AirParted$Texts" 73 mX7_isFigure 7 11 0 := ⟨TX7, rfl, ⟨by decide, by decide⟩, by decide +kernel, W_892, W_891, SEL_X7_isFigure, W_10, Or.inl W_889, rfl, rfl⟩
theorem FP_X7_51 : Fp "AirParted$Texts" 51 7 10 11 .int := ⟨RX7, TX7, tyX7, rfl, by decide, uwX7, rfl, Or.inl W_318, tyX7_ok, nmX7, rfl, by decide +kernel⟩
theorem VS_X7_69 : Sv "AirParted$Texts" 69 mX7_readNumber 7 11 2 := ⟨TX7, rfl, ⟨by decide, by decide⟩, by decide +kernel, W_888, W_887, SEL_X7_readNumber, W_10, Or.inl W_885, rfl, rfl⟩
theorem FS_X7_41 : Fs "AirParted$Texts" 41 7 9 11 := ⟨RX7, TX7, rfl, by decide, uwX7, rfl, Or.inl W_316⟩
theorem FS_X7_15 : Fs "AirParted$Texts" 15 7 1 11 := ⟨RX7, TX7, rfl, by decide, uwX7, rfl, Or.inl W_306⟩
theorem FS_X7_19 : Fs "AirParted$Texts" 19 7 2 11 := ⟨RX7, TX7, rfl, by decide, uwX7, rfl, Or.inl W_308⟩
theorem FS_X7_22 : Fs "AirParted$Texts" 22 7 3 11 := ⟨RX7, TX7, rfl, by decide, uwX7, rfl, Or.inl W_309⟩
theorem FS_X7_25 : Fs "AirParted$Texts" 25 7 4 11 := ⟨RX7, TX7, rfl, by decide, uwX7, rfl, Or.inl W_310⟩
theorem VS_X7_65 : Sv "AirParted$Texts" 65 mX7_readSpan 7 11 4 := ⟨TX7, rfl, ⟨by decide, by decide⟩, by decide +kernel, W_884, W_883, SEL_X7_readSpan, W_10, Or.inl W_881, rfl, rfl⟩
theorem FS_X7_28 : Fs "AirParted$Texts" 28 7 5 11 := ⟨RX7, TX7, rfl, by decide, uwX7, rfl, Or.inl W_311⟩
theorem FS_X7_31 : Fs "AirParted$Texts" 31 7 6 11 := ⟨RX7, TX7, rfl, by decide, uwX7, rfl, Or.inl W_312⟩
theorem VS_X7_62 : Sv "AirParted$Texts" 62 mX7_failsAt 7 11 1 := ⟨TX7, rfl, ⟨by decide, by decide⟩, by decide +kernel, W_879, W_878, SEL_X7_failsAt, W_10, Or.inl W_876, rfl, rfl⟩
theorem FP_X7_44 : Fp "AirParted$Texts" 44 7 8 11 .int := ⟨RX7, TX7, tyX7, rfl, by decide, uwX7, rfl, Or.inl W_315, tyX7_ok, nmX7, rfl, by decide +kernel⟩
theorem FS_X7_44 : Fs "AirParted$Texts" 44 7 8 11 := ⟨RX7, TX7, rfl, by decide, uwX7, rfl, Or.inl W_315⟩
theorem VS_X7_54 : Sv "AirParted$Texts" 54 mX7_readRule 7 11 1 := ⟨TX7, rfl, ⟨by decide, by decide⟩, by decide +kernel, W_871, W_870, SEL_X7_readRule, W_10, Or.inl W_868, rfl, rfl⟩
theorem VS_X11_301 : Sv "AirParted" 301 mX7_read 7 11 0 := ⟨TX7, rfl, ⟨by decide, by decide⟩, by decide +kernel, W_867, W_866, SEL_X7_read, W_10, Or.inr ⟨"AirParted", N_864⟩, rfl, rfl⟩
theorem FS_X11_304 : Fs "AirParted" 304 7 9 11 := ⟨RX7, TX7, rfl, by decide, uwX7, rfl, Or.inr ⟨"AirParted", N_317⟩⟩
theorem SS_X11_251 : Ss "AirParted" 251 mX11_chanceOfAtMost 3 := ⟨⟨by decide, by decide⟩, by decide +kernel, W_741, W_740, W_1, Or.inl W_739, rfl, rfl⟩
theorem SS_X11_371 : Ss "AirParted" 371 mX11_isForm 1 := ⟨⟨by decide, by decide⟩, by decide +kernel, W_1022, W_1021, W_1, Or.inl W_1020, rfl, rfl⟩
theorem SS_X11_386 : Ss "AirParted" 386 mX11_wrongItem 3 := ⟨⟨by decide, by decide⟩, by decide +kernel, W_1044, W_1043, W_1, Or.inl W_1042, rfl, rfl⟩
theorem VS_X11_183 : Sv "AirParted" 183 mX5_ownMood 5 11 0 := ⟨TX5, rfl, ⟨by decide, by decide⟩, by decide +kernel, W_582, W_581, SEL_X5_ownMood, W_6, Or.inr ⟨"AirParted", N_579⟩, rfl, rfl⟩
theorem VS_X11_187 : Sv "AirParted" 187 mX0_gotAt 0 9 3 := ⟨TX0, rfl, ⟨by decide, by decide⟩, by decide +kernel, W_586, W_585, SEL_X0_gotAt, W_5, Or.inr ⟨"AirParted", N_583⟩, rfl, rfl⟩
theorem VS_X11_122 : Sv "AirParted" 122 mX2_woodOf 2 5 1 := ⟨TX2, rfl, ⟨by decide, by decide⟩, by decide +kernel, W_484, W_483, SEL_X2_woodOf, W_4, Or.inr ⟨"AirParted", N_481⟩, rfl, rfl⟩
theorem VS_X11_118 : Sv "AirParted" 118 mX2_hillOf 2 5 1 := ⟨TX2, rfl, ⟨by decide, by decide⟩, by decide +kernel, W_477, W_476, SEL_X2_hillOf, W_4, Or.inr ⟨"AirParted", N_474⟩, rfl, rfl⟩
theorem FS_X11_319 : Fs "AirParted" 319 10 2 4 := ⟨RX10, TX10, rfl, by decide, uwX10, rfl, Or.inr ⟨"AirParted", N_352⟩⟩
theorem FS_X11_322 : Fs "AirParted" 322 10 1 4 := ⟨RX10, TX10, rfl, by decide, uwX10, rfl, Or.inr ⟨"AirParted", N_350⟩⟩
theorem FP_X3_41 : Fp "AirParted$Listening" 41 3 9 10 .int := ⟨RX3, TX3, tyX3, rfl, by decide, uwX3, rfl, Or.inl W_259, tyX3_ok, nmX3, rfl, by decide +kernel⟩
theorem FS_X3_13 : Fs "AirParted$Listening" 13 3 1 10 := ⟨RX3, TX3, rfl, by decide, uwX3, rfl, Or.inl W_248⟩
theorem FS_X3_45 : Fs "AirParted$Listening" 45 0 6 9 := ⟨RX0, TX0, rfl, by decide, uwX0, rfl, Or.inr ⟨"AirParted", N_177⟩⟩
theorem FS_X3_46 : Fs "AirParted$Listening" 46 0 3 9 := ⟨RX0, TX0, rfl, by decide, uwX0, rfl, Or.inr ⟨"AirParted", N_171⟩⟩
theorem FS_X3_50 : Fs "AirParted$Listening" 50 5 10 11 := ⟨RX5, TX5, rfl, by decide, uwX5, rfl, Or.inr ⟨"AirParted", N_141⟩⟩
theorem FS_X3_56 : Fs "AirParted$Listening" 56 5 0 11 := ⟨RX5, TX5, rfl, by decide, uwX5, rfl, Or.inr ⟨"AirParted", N_110⟩⟩
theorem FS_X3_59 : Fs "AirParted$Listening" 59 5 7 11 := ⟨RX5, TX5, rfl, by decide, uwX5, rfl, Or.inr ⟨"AirParted", N_132⟩⟩
theorem FS_X3_19 : Fs "AirParted$Listening" 19 3 2 10 := ⟨RX3, TX3, rfl, by decide, uwX3, rfl, Or.inl W_249⟩
theorem FS_X3_41 : Fs "AirParted$Listening" 41 3 9 10 := ⟨RX3, TX3, rfl, by decide, uwX3, rfl, Or.inl W_259⟩
theorem FS_X3_23 : Fs "AirParted$Listening" 23 3 3 10 := ⟨RX3, TX3, rfl, by decide, uwX3, rfl, Or.inl W_250⟩
theorem FS_X3_62 : Fs "AirParted$Listening" 62 5 1 11 := ⟨RX5, TX5, rfl, by decide, uwX5, rfl, Or.inr ⟨"AirParted", N_113⟩⟩
theorem VS_X3_65 : Sv "AirParted$Listening" 65 mX0_gotAt 0 9 3 := ⟨TX0, rfl, ⟨by decide, by decide⟩, by decide +kernel, W_586, W_585, SEL_X0_gotAt, W_5, Or.inr ⟨"AirParted", N_772⟩, rfl, rfl⟩
theorem FS_X3_26 : Fs "AirParted$Listening" 26 3 4 10 := ⟨RX3, TX3, rfl, by decide, uwX3, rfl, Or.inl W_251⟩
theorem FS_X3_69 : Fs "AirParted$Listening" 69 5 5 11 := ⟨RX5, TX5, rfl, by decide, uwX5, rfl, Or.inr ⟨"AirParted", N_124⟩⟩
theorem FS_X3_7 : Fs "AirParted$Listening" 7 3 0 10 := ⟨RX3, TX3, rfl, by decide, uwX3, rfl, Or.inl W_247⟩
theorem FS_X3_86 : Fs "AirParted$Listening" 86 8 0 1 := ⟨RX8, TX8, rfl, by decide, uwX8, rfl, Or.inr ⟨"AirParted", N_33⟩⟩
theorem VS_X3_111 : Sv "AirParted$Listening" 111 mX5_isEnough 5 11 2 := ⟨TX5, rfl, ⟨by decide, by decide⟩, by decide +kernel, W_621, W_620, SEL_X5_isEnough, W_6, Or.inr ⟨"AirParted", N_792⟩, rfl, rfl⟩
theorem VS_X3_107 : Sv "AirParted$Listening" 107 mX3_isHeardAgainst 3 10 2 := ⟨TX3, rfl, ⟨by decide, by decide⟩, by decide +kernel, W_791, W_790, SEL_X3_isHeardAgainst, W_8, Or.inl W_788, rfl, rfl⟩
theorem VS_X3_114 : Sv "AirParted$Listening" 114 mX3_isDrownedBy 3 10 2 := ⟨TX3, rfl, ⟨by decide, by decide⟩, by decide +kernel, W_809, W_808, SEL_X3_isDrownedBy, W_8, Or.inl W_806, rfl, rfl⟩
theorem FS_X11_53 : Fs "AirParted" 53 11 5 12 := ⟨RX11, TX11, rfl, by decide, uwX11, rfl, Or.inl W_423⟩
theorem VS_X11_266 : Sv "AirParted" 266 mX3_gather 3 10 1 := ⟨TX3, rfl, ⟨by decide, by decide⟩, by decide +kernel, W_771, W_770, SEL_X3_gather, W_8, Or.inr ⟨"AirParted", N_768⟩, rfl, rfl⟩
theorem VS_X11_282 : Sv "AirParted" 282 mX3_hiddenPairs 3 10 0 := ⟨TX3, rfl, ⟨by decide, by decide⟩, by decide +kernel, W_805, W_804, SEL_X3_hiddenPairs, W_8, Or.inr ⟨"AirParted", N_802⟩, rfl, rfl⟩
theorem SS_X11_254 : Ss "AirParted" 254 mX11_areRows 3 := ⟨⟨by decide, by decide⟩, by decide +kernel, W_755, W_754, W_1, Or.inl W_753, rfl, rfl⟩
theorem SS_X11_257 : Ss "AirParted" 257 mX11_meetings 4 := ⟨⟨by decide, by decide⟩, by decide +kernel, W_758, W_757, W_1, Or.inl W_756, rfl, rfl⟩
theorem FP_X11_108 : Fp "AirParted" 108 2 3 5 .int := ⟨RX2, TX2, tyX2, rfl, by decide, uwX2, rfl, Or.inr ⟨"AirParted", N_82⟩, tyX2_ok, nmX2, rfl, by decide +kernel⟩
theorem FP_X11_111 : Fp "AirParted" 111 2 4 5 .int := ⟨RX2, TX2, tyX2, rfl, by decide, uwX2, rfl, Or.inr ⟨"AirParted", N_84⟩, tyX2_ok, nmX2, rfl, by decide +kernel⟩
theorem FS_X3_29 : Fs "AirParted$Listening" 29 3 5 10 := ⟨RX3, TX3, rfl, by decide, uwX3, rfl, Or.inl W_252⟩
theorem FS_X3_32 : Fs "AirParted$Listening" 32 3 6 10 := ⟨RX3, TX3, rfl, by decide, uwX3, rfl, Or.inl W_253⟩
theorem VS_X3_82 : Sv "AirParted$Listening" 82 mX3_sumOthers 3 10 3 := ⟨TX3, rfl, ⟨by decide, by decide⟩, by decide +kernel, W_782, W_781, SEL_X3_sumOthers, W_8, Or.inl W_779, rfl, rfl⟩
theorem FS_X3_35 : Fs "AirParted$Listening" 35 3 7 10 := ⟨RX3, TX3, rfl, by decide, uwX3, rfl, Or.inl W_255⟩
theorem FS_X3_38 : Fs "AirParted$Listening" 38 3 8 10 := ⟨RX3, TX3, rfl, by decide, uwX3, rfl, Or.inl W_257⟩
theorem SS_X3_101 : Ss "AirParted$Listening" 101 mJ9_max_7cf53 2 := ⟨⟨by decide, by decide⟩, by decide +kernel, W_506, W_505, W_14, Or.inl W_787, rfl, rfl⟩
theorem SS_X3_72 : Ss "AirParted$Listening" 72 mJ7_fill_53178 2 := ⟨⟨by decide, by decide⟩, by decide +kernel, W_702, W_701, W_16, Or.inl W_777, rfl, rfl⟩
theorem FS_X3_79 : Fs "AirParted$Listening" 79 5 6 11 := ⟨RX5, TX5, rfl, by decide, uwX5, rfl, Or.inr ⟨"AirParted", N_129⟩⟩
theorem VS_X3_91 : Sv "AirParted$Listening" 91 mX3_note 3 10 2 := ⟨TX3, rfl, ⟨by decide, by decide⟩, by decide +kernel, W_786, W_785, SEL_X3_note, W_8, Or.inl W_783, rfl, rfl⟩
theorem SS_X3_95 : Ss "AirParted$Listening" 95 mJ6_bitCount_0f7a4 1 := ⟨⟨by decide, by decide⟩, by decide +kernel, W_640, W_639, W_15, Or.inl W_793, rfl, rfl⟩
theorem FS_X11_269 : Fs "AirParted" 269 3 9 10 := ⟨RX3, TX3, rfl, by decide, uwX3, rfl, Or.inr ⟨"AirParted", N_260⟩⟩
theorem VS_X11_270 : Sv "AirParted" 270 mX3_run 3 10 2 := ⟨TX3, rfl, ⟨by decide, by decide⟩, by decide +kernel, W_776, W_775, SEL_X3_run, W_8, Or.inr ⟨"AirParted", N_773⟩, rfl, rfl⟩
theorem FP_X11_381 : Fp "AirParted" 381 6 1 4 .boolean := ⟨RX6, TX6, tyX6, rfl, by decide, uwX6, rfl, Or.inr ⟨"AirParted", N_56⟩, tyX6_ok, nmX6, rfl, by decide +kernel⟩
theorem FS_X11_384 : Fs "AirParted" 384 6 3 4 := ⟨RX6, TX6, rfl, by decide, uwX6, rfl, Or.inr ⟨"AirParted", N_61⟩⟩
theorem VS_X11_135 : Sv "AirParted" 135 mX2_lossBetween 2 5 5 := ⟨TX2, rfl, ⟨by decide, by decide⟩, by decide +kernel, W_500, W_499, SEL_X2_lossBetween, W_4, Or.inr ⟨"AirParted", N_497⟩, rfl, rfl⟩
theorem FS_X6_17 : Fs "AirParted$Sheet" 17 6 2 4 := ⟨RX6, TX6, rfl, by decide, uwX6, rfl, Or.inl W_57⟩
theorem FS_X6_9 : Fs "AirParted$Sheet" 9 6 0 4 := ⟨RX6, TX6, rfl, by decide, uwX6, rfl, Or.inl W_50⟩
theorem SS_X11_413 : Ss "AirParted" 413 mJ9_min_7cf53 2 := ⟨⟨by decide, by decide⟩, by decide +kernel, W_682, W_681, W_14, Or.inl W_1065, rfl, rfl⟩
theorem FS_X11_89 : Fs "AirParted" 89 11 10 12 := ⟨RX11, TX11, rfl, by decide, uwX11, rfl, Or.inl W_428⟩
theorem VS_X11_390 : Sv "AirParted" 390 mX6_store 6 4 2 := ⟨TX6, rfl, ⟨by decide, by decide⟩, by decide +kernel, W_1049, W_1048, SEL_X6_store, W_3, Or.inr ⟨"AirParted", N_1046⟩, rfl, rfl⟩
theorem VS_X7_38 : Sv "AirParted$Texts" 38 mX7_read 7 11 0 := ⟨TX7, rfl, ⟨by decide, by decide⟩, by decide +kernel, W_867, W_866, SEL_X7_read, W_10, Or.inl W_904, rfl, rfl⟩
theorem SS_X11_307 : Ss "AirParted" 307 mX11_isAsked 3 := ⟨⟨by decide, by decide⟩, by decide +kernel, W_899, W_898, W_1, Or.inl W_897, rfl, rfl⟩
theorem VS_X11_310 : Sv "AirParted" 310 mX7_lastNaming 7 11 3 := ⟨TX7, rfl, ⟨by decide, by decide⟩, by decide +kernel, W_903, W_902, SEL_X7_lastNaming, W_10, Or.inr ⟨"AirParted", N_900⟩, rfl, rfl⟩
theorem FS_X11_313 : Fs "AirParted" 313 7 1 11 := ⟨RX7, TX7, rfl, by decide, uwX7, rfl, Or.inr ⟨"AirParted", N_307⟩⟩
theorem SS_X11_261 : Ss "AirParted" 261 mJ9_max_7cf53 2 := ⟨⟨by decide, by decide⟩, by decide +kernel, W_506, W_505, W_14, Or.inl W_763, rfl, rfl⟩
theorem FP_X11_179 : Fp "AirParted" 179 5 10 11 .boolean := ⟨RX5, TX5, tyX5, rfl, by decide, uwX5, rfl, Or.inr ⟨"AirParted", N_143⟩, tyX5_ok, nmX5, rfl, by decide +kernel⟩
theorem SS_X11_233 : Ss "AirParted" 233 mJ6_bitCount_0f7a4 1 := ⟨⟨by decide, by decide⟩, by decide +kernel, W_640, W_639, W_15, Or.inl W_706, rfl, rfl⟩
theorem FP_X11_139 : Fp "AirParted" 139 0 7 9 .int := ⟨RX0, TX0, tyX0, rfl, by decide, uwX0, rfl, Or.inr ⟨"AirParted", N_181⟩, tyX0_ok, nmX0, rfl, by decide +kernel⟩
theorem VS_X1_33 : Sv "AirParted$Auction" 33 mX1_winners 1 3 1 := ⟨TX1, rfl, ⟨by decide, by decide⟩, by decide +kernel, W_829, W_828, SEL_X1_winners, W_9, Or.inl W_847, rfl, rfl⟩
theorem VS_X11_292 : Sv "AirParted" 292 mX1_dueOf 1 3 1 := ⟨TX1, rfl, ⟨by decide, by decide⟩, by decide +kernel, W_846, W_845, SEL_X1_dueOf, W_9, Or.inr ⟨"AirParted", N_843⟩, rfl, rfl⟩
theorem FS_X11_365 : Fs "AirParted" 365 9 13 14 := ⟨RX9, TX9, rfl, by decide, uwX9, rfl, Or.inr ⟨"AirParted", N_388⟩⟩
theorem VS_X11_241 : Sv "AirParted" 241 mX4_leastThatCannot 4 9 1 := ⟨TX4, rfl, ⟨by decide, by decide⟩, by decide +kernel, W_730, W_729, SEL_X4_leastThatCannot, W_7, Or.inr ⟨"AirParted", N_727⟩, rfl, rfl⟩
theorem FP_X11_147 : Fp "AirParted" 147 5 0 11 .int := ⟨RX5, TX5, tyX5, rfl, by decide, uwX5, rfl, Or.inr ⟨"AirParted", N_112⟩, tyX5_ok, nmX5, rfl, by decide +kernel⟩
theorem FP_X11_152 : Fp "AirParted" 152 5 1 11 .int := ⟨RX5, TX5, tyX5, rfl, by decide, uwX5, rfl, Or.inr ⟨"AirParted", N_115⟩, tyX5_ok, nmX5, rfl, by decide +kernel⟩
theorem FP_X11_155 : Fp "AirParted" 155 5 2 11 .int := ⟨RX5, TX5, tyX5, rfl, by decide, uwX5, rfl, Or.inr ⟨"AirParted", N_118⟩, tyX5_ok, nmX5, rfl, by decide +kernel⟩
theorem FP_X11_158 : Fp "AirParted" 158 5 3 11 .int := ⟨RX5, TX5, tyX5, rfl, by decide, uwX5, rfl, Or.inr ⟨"AirParted", N_120⟩, tyX5_ok, nmX5, rfl, by decide +kernel⟩
theorem FP_X11_161 : Fp "AirParted" 161 5 4 11 .int := ⟨RX5, TX5, tyX5, rfl, by decide, uwX5, rfl, Or.inr ⟨"AirParted", N_123⟩, tyX5_ok, nmX5, rfl, by decide +kernel⟩
theorem FP_X11_164 : Fp "AirParted" 164 5 5 11 .int := ⟨RX5, TX5, tyX5, rfl, by decide, uwX5, rfl, Or.inr ⟨"AirParted", N_127⟩, tyX5_ok, nmX5, rfl, by decide +kernel⟩
theorem FP_X11_97 : Fp "AirParted" 97 0 6 9 .int := ⟨RX0, TX0, tyX0, rfl, by decide, uwX0, rfl, Or.inr ⟨"AirParted", N_179⟩, tyX0_ok, nmX0, rfl, by decide +kernel⟩
theorem VS_X11_347 : Sv "AirParted" 347 mX9_plans 9 14 0 := ⟨TX9, rfl, ⟨by decide, by decide⟩, by decide +kernel, W_980, W_979, SEL_X9_plans, W_12, Or.inr ⟨"AirParted", N_977⟩, rfl, rfl⟩
theorem VS_X11_350 : Sv "AirParted" 350 mX9_measure 9 14 0 := ⟨TX9, rfl, ⟨by decide, by decide⟩, by decide +kernel, W_984, W_983, SEL_X9_measure, W_12, Or.inr ⟨"AirParted", N_981⟩, rfl, rfl⟩
theorem VS_X11_353 : Sv "AirParted" 353 mX9_worthOf 9 14 1 := ⟨TX9, rfl, ⟨by decide, by decide⟩, by decide +kernel, W_989, W_988, SEL_X9_worthOf, W_12, Or.inr ⟨"AirParted", N_986⟩, rfl, rfl⟩
theorem FS_X11_216 : Fs "AirParted" 216 4 4 9 := ⟨RX4, TX4, rfl, by decide, uwX4, rfl, Or.inr ⟨"AirParted", N_214⟩⟩
theorem VS_X11_220 : Sv "AirParted" 220 mX4_whole 4 9 0 := ⟨TX4, rfl, ⟨by decide, by decide⟩, by decide +kernel, W_666, W_665, SEL_X4_whole, W_7, Or.inr ⟨"AirParted", N_683⟩, rfl, rfl⟩
theorem FP_X6_13 : Fp "AirParted$Sheet" 13 6 1 4 .boolean := ⟨RX6, TX6, tyX6, rfl, by decide, uwX6, rfl, Or.inl W_54, tyX6_ok, nmX6, rfl, by decide +kernel⟩
theorem FP_X6_17 : Fp "AirParted$Sheet" 17 6 2 4 .int := ⟨RX6, TX6, tyX6, rfl, by decide, uwX6, rfl, Or.inl W_57, tyX6_ok, nmX6, rfl, by decide +kernel⟩
theorem FP_X6_21 : Fp "AirParted$Sheet" 21 6 3 4 .int := ⟨RX6, TX6, tyX6, rfl, by decide, uwX6, rfl, Or.inl W_59, tyX6_ok, nmX6, rfl, by decide +kernel⟩
theorem SS_X6_24 : Ss "AirParted$Sheet" 24 mJ7_fill_d0a16 2 := ⟨⟨by decide, by decide⟩, by decide +kernel, W_1033, W_1032, W_16, Or.inl W_1031, rfl, rfl⟩
theorem VS_X11_377 : Sv "AirParted" 377 mX6_renew 6 4 2 := ⟨TX6, rfl, ⟨by decide, by decide⟩, by decide +kernel, W_1030, W_1029, SEL_X6_renew, W_3, Or.inr ⟨"AirParted", N_1027⟩, rfl, rfl⟩
theorem FP_X9_39 : Fp "AirParted$Towers" 39 9 9 14 .int := ⟨RX9, TX9, tyX9, rfl, by decide, uwX9, rfl, Or.inl W_379, tyX9_ok, nmX9, rfl, by decide +kernel⟩
theorem VS_X11_340 : Sv "AirParted" 340 mX9_addSite 9 14 6 := ⟨TX9, rfl, ⟨by decide, by decide⟩, by decide +kernel, W_964, W_963, SEL_X9_addSite, W_12, Or.inr ⟨"AirParted", N_961⟩, rfl, rfl⟩
theorem FS_X11_279 : Fs "AirParted" 279 3 8 10 := ⟨RX3, TX3, rfl, by decide, uwX3, rfl, Or.inr ⟨"AirParted", N_258⟩⟩
theorem FS_X11_276 : Fs "AirParted" 276 3 7 10 := ⟨RX3, TX3, rfl, by decide, uwX3, rfl, Or.inr ⟨"AirParted", N_256⟩⟩
theorem FS_X11_273 : Fs "AirParted" 273 3 6 10 := ⟨RX3, TX3, rfl, by decide, uwX3, rfl, Or.inr ⟨"AirParted", N_254⟩⟩
theorem FP_X7_34 : Fp "AirParted$Texts" 34 7 7 11 .int := ⟨RX7, TX7, tyX7, rfl, by decide, uwX7, rfl, Or.inl W_313, tyX7_ok, nmX7, rfl, by decide +kernel⟩
theorem VS_X11_298 : Sv "AirParted" 298 mX7_append 7 11 1 := ⟨TX7, rfl, ⟨by decide, by decide⟩, by decide +kernel, W_855, W_854, SEL_X7_append, W_10, Or.inr ⟨"AirParted", N_852⟩, rfl, rfl⟩
theorem FP_X11_295 : Fp "AirParted" 295 7 7 11 .int := ⟨RX7, TX7, tyX7, rfl, by decide, uwX7, rfl, Or.inr ⟨"AirParted", N_314⟩, tyX7_ok, nmX7, rfl, by decide +kernel⟩
theorem FS_X12_176 : Fs "AirPartedModel" 176 12 9 58 := ⟨RX12, TX12, rfl, by decide, uwX12, rfl, Or.inl W_1096⟩
theorem SS_X12_152 : Ss "AirPartedModel" 152 mX12_in 3 := ⟨⟨by decide, by decide⟩, by decide +kernel, W_1272, W_1271, W_13, Or.inl W_1270, rfl, rfl⟩
theorem FS_X12_7 : Fs "AirPartedModel" 7 12 0 58 := ⟨RX12, TX12, rfl, by decide, uwX12, rfl, Or.inl W_1087⟩
theorem FS_X12_13 : Fs "AirPartedModel" 13 12 1 58 := ⟨RX12, TX12, rfl, by decide, uwX12, rfl, Or.inl W_1088⟩
theorem FS_X12_16 : Fs "AirPartedModel" 16 12 2 58 := ⟨RX12, TX12, rfl, by decide, uwX12, rfl, Or.inl W_1089⟩
theorem FS_X12_33 : Fs "AirPartedModel" 33 12 10 58 := ⟨RX12, TX12, rfl, by decide, uwX12, rfl, Or.inl W_1097⟩
theorem FS_X12_36 : Fs "AirPartedModel" 36 12 11 58 := ⟨RX12, TX12, rfl, by decide, uwX12, rfl, Or.inl W_1098⟩
theorem FS_X12_60 : Fs "AirPartedModel" 60 12 19 58 := ⟨RX12, TX12, rfl, by decide, uwX12, rfl, Or.inl W_1106⟩
theorem FS_X12_226 : Fs "AirPartedModel" 226 12 8 58 := ⟨RX12, TX12, rfl, by decide, uwX12, rfl, Or.inl W_1095⟩
theorem FS_X12_23 : Fs "AirPartedModel" 23 12 5 58 := ⟨RX12, TX12, rfl, by decide, uwX12, rfl, Or.inl W_1092⟩
theorem FS_X12_27 : Fs "AirPartedModel" 27 12 6 58 := ⟨RX12, TX12, rfl, by decide, uwX12, rfl, Or.inl W_1093⟩
theorem VS_X12_188 : Sv "AirPartedModel" 188 mX12_told 12 58 3 := ⟨TX12, rfl, ⟨by decide, by decide⟩, by decide +kernel, W_1322, W_1321, SEL_X12_told, W_13, Or.inl W_1319, rfl, rfl⟩
theorem VS_X12_232 : Sv "AirPartedModel" 232 mX12_isHopping 12 58 1 := ⟨TX12, rfl, ⟨by decide, by decide⟩, by decide +kernel, W_1385, W_1384, SEL_X12_isHopping, W_13, Or.inl W_1382, rfl, rfl⟩
theorem FS_X12_54 : Fs "AirPartedModel" 54 12 17 58 := ⟨RX12, TX12, rfl, by decide, uwX12, rfl, Or.inl W_1104⟩
theorem FS_X12_57 : Fs "AirPartedModel" 57 12 18 58 := ⟨RX12, TX12, rfl, by decide, uwX12, rfl, Or.inl W_1105⟩
theorem VS_X12_237 : Sv "AirPartedModel" 237 mX12_isSender 12 58 1 := ⟨TX12, rfl, ⟨by decide, by decide⟩, by decide +kernel, W_1372, W_1371, SEL_X12_isSender, W_13, Or.inl W_1369, rfl, rfl⟩
theorem VS_X12_241 : Sv "AirPartedModel" 241 mX12_cellNow 12 58 1 := ⟨TX12, rfl, ⟨by decide, by decide⟩, by decide +kernel, W_1377, W_1376, SEL_X12_cellNow, W_13, Or.inl W_1374, rfl, rfl⟩
theorem FS_X12_39 : Fs "AirPartedModel" 39 12 12 58 := ⟨RX12, TX12, rfl, by decide, uwX12, rfl, Or.inl W_1099⟩
theorem FS_X12_42 : Fs "AirPartedModel" 42 12 13 58 := ⟨RX12, TX12, rfl, by decide, uwX12, rfl, Or.inl W_1100⟩
theorem FS_X12_45 : Fs "AirPartedModel" 45 12 14 58 := ⟨RX12, TX12, rfl, by decide, uwX12, rfl, Or.inl W_1101⟩
theorem FS_X12_48 : Fs "AirPartedModel" 48 12 15 58 := ⟨RX12, TX12, rfl, by decide, uwX12, rfl, Or.inl W_1102⟩
theorem FS_X12_51 : Fs "AirPartedModel" 51 12 16 58 := ⟨RX12, TX12, rfl, by decide, uwX12, rfl, Or.inl W_1103⟩
theorem VS_X12_244 : Sv "AirPartedModel" 244 mX12_slotNow 12 58 1 := ⟨TX12, rfl, ⟨by decide, by decide⟩, by decide +kernel, W_1381, W_1380, SEL_X12_slotNow, W_13, Or.inl W_1378, rfl, rfl⟩
theorem FS_X12_63 : Fs "AirPartedModel" 63 12 20 58 := ⟨RX12, TX12, rfl, by decide, uwX12, rfl, Or.inl W_1107⟩
theorem VS_X12_194 : Sv "AirPartedModel" 194 mX12_hillOf 12 58 1 := ⟨TX12, rfl, ⟨by decide, by decide⟩, by decide +kernel, W_1318, W_1317, SEL_X12_hillOf, W_13, Or.inl W_1315, rfl, rfl⟩
theorem SS_X12_210 : Ss "AirPartedModel" 210 mX12_atLeast0 1 := ⟨⟨by decide, by decide⟩, by decide +kernel, W_1349, W_1348, W_13, Or.inl W_1347, rfl, rfl⟩
theorem SS_X12_213 : Ss "AirPartedModel" 213 mX12_floorBy 2 := ⟨⟨by decide, by decide⟩, by decide +kernel, W_1352, W_1351, W_13, Or.inl W_1350, rfl, rfl⟩
theorem VS_X12_197 : Sv "AirPartedModel" 197 mX12_woodOf 12 58 1 := ⟨TX12, rfl, ⟨by decide, by decide⟩, by decide +kernel, W_1326, W_1325, SEL_X12_woodOf, W_13, Or.inl W_1323, rfl, rfl⟩
theorem FS_X12_30 : Fs "AirPartedModel" 30 12 7 58 := ⟨RX12, TX12, rfl, by decide, uwX12, rfl, Or.inl W_1094⟩
theorem FS_X12_179 : Fs "AirPartedModel" 179 12 43 58 := ⟨RX12, TX12, rfl, by decide, uwX12, rfl, Or.inl W_1130⟩
theorem FS_X12_121 : Fs "AirPartedModel" 121 12 45 58 := ⟨RX12, TX12, rfl, by decide, uwX12, rfl, Or.inl W_1132⟩
theorem FS_X12_118 : Fs "AirPartedModel" 118 12 44 58 := ⟨RX12, TX12, rfl, by decide, uwX12, rfl, Or.inl W_1131⟩
theorem VS_X12_220 : Sv "AirPartedModel" 220 mX12_lossOf 12 58 5 := ⟨TX12, rfl, ⟨by decide, by decide⟩, by decide +kernel, W_1346, W_1345, SEL_X12_lossOf, W_13, Or.inl W_1343, rfl, rfl⟩
theorem SS_X12_274 : Ss "AirPartedModel" 274 mX12_ones 1 := ⟨⟨by decide, by decide⟩, by decide +kernel, W_1439, W_1438, W_13, Or.inl W_1437, rfl, rfl⟩
theorem FP_X12_277 : Fp "AirPartedModel" 277 12 22 58 .int := ⟨RX12, TX12, tyX12, rfl, by decide, uwX12, rfl, Or.inl W_1109, tyX12_ok, nmX12, rfl, by decide +kernel⟩
theorem FS_X12_67 : Fs "AirPartedModel" 67 12 21 58 := ⟨RX12, TX12, rfl, by decide, uwX12, rfl, Or.inl W_1108⟩
theorem FS_X12_277 : Fs "AirPartedModel" 277 12 22 58 := ⟨RX12, TX12, rfl, by decide, uwX12, rfl, Or.inl W_1109⟩
theorem VS_X12_251 : Sv "AirPartedModel" 251 mX12_gotOf 12 58 3 := ⟨TX12, rfl, ⟨by decide, by decide⟩, by decide +kernel, W_1408, W_1407, SEL_X12_gotOf, W_13, Or.inl W_1405, rfl, rfl⟩
theorem VS_X12_254 : Sv "AirPartedModel" 254 mX12_own 12 58 2 := ⟨TX12, rfl, ⟨by decide, by decide⟩, by decide +kernel, W_1404, W_1403, SEL_X12_own, W_13, Or.inl W_1401, rfl, rfl⟩
theorem VS_X12_280 : Sv "AirPartedModel" 280 mX12_wholeBits 12 58 1 := ⟨TX12, rfl, ⟨by decide, by decide⟩, by decide +kernel, W_1455, W_1454, SEL_X12_wholeBits, W_13, Or.inl W_1452, rfl, rfl⟩
theorem VS_X12_262 : Sv "AirPartedModel" 262 mX12_drownsBy 12 58 2 := ⟨TX12, rfl, ⟨by decide, by decide⟩, by decide +kernel, W_1420, W_1419, SEL_X12_drownsBy, W_13, Or.inl W_1417, rfl, rfl⟩
theorem VS_X12_266 : Sv "AirPartedModel" 266 mX12_isHeard 12 58 2 := ⟨TX12, rfl, ⟨by decide, by decide⟩, by decide +kernel, W_1424, W_1423, SEL_X12_isHeard, W_13, Or.inl W_1421, rfl, rfl⟩
theorem FS_X12_70 : Fs "AirPartedModel" 70 12 23 58 := ⟨RX12, TX12, rfl, by decide, uwX12, rfl, Or.inl W_1110⟩
theorem FS_X12_73 : Fs "AirPartedModel" 73 12 24 58 := ⟨RX12, TX12, rfl, by decide, uwX12, rfl, Or.inl W_1111⟩
theorem FS_X12_76 : Fs "AirPartedModel" 76 12 25 58 := ⟨RX12, TX12, rfl, by decide, uwX12, rfl, Or.inl W_1112⟩
theorem VS_X12_289 : Sv "AirPartedModel" 289 mX12_groupOf 12 58 1 := ⟨TX12, rfl, ⟨by decide, by decide⟩, by decide +kernel, W_1471, W_1470, SEL_X12_groupOf, W_13, Or.inl W_1468, rfl, rfl⟩
theorem VS_X12_283 : Sv "AirPartedModel" 283 mX12_takesSet 12 58 1 := ⟨TX12, rfl, ⟨by decide, by decide⟩, by decide +kernel, W_1447, W_1446, SEL_X12_takesSet, W_13, Or.inl W_1444, rfl, rfl⟩
theorem VS_X12_286 : Sv "AirPartedModel" 286 mX12_findFewest 12 58 0 := ⟨TX12, rfl, ⟨by decide, by decide⟩, by decide +kernel, W_1451, W_1450, SEL_X12_findFewest, W_13, Or.inl W_1448, rfl, rfl⟩
theorem VS_X12_292 : Sv "AirPartedModel" 292 mX12_parts 12 58 1 := ⟨TX12, rfl, ⟨by decide, by decide⟩, by decide +kernel, W_1467, W_1466, SEL_X12_parts, W_13, Or.inl W_1464, rfl, rfl⟩
theorem FS_X12_334 : Fs "AirPartedModel" 334 12 30 58 := ⟨RX12, TX12, rfl, by decide, uwX12, rfl, Or.inl W_1117⟩
theorem FS_X12_91 : Fs "AirPartedModel" 91 12 31 58 := ⟨RX12, TX12, rfl, by decide, uwX12, rfl, Or.inl W_1118⟩
theorem FS_X12_94 : Fs "AirPartedModel" 94 12 32 58 := ⟨RX12, TX12, rfl, by decide, uwX12, rfl, Or.inl W_1119⟩
theorem VS_X12_337 : Sv "AirPartedModel" 337 mX12_priceOf 12 58 1 := ⟨TX12, rfl, ⟨by decide, by decide⟩, by decide +kernel, W_1565, W_1564, SEL_X12_priceOf, W_13, Or.inl W_1562, rfl, rfl⟩
theorem FP_X12_334 : Fp "AirPartedModel" 334 12 30 58 .int := ⟨RX12, TX12, tyX12, rfl, by decide, uwX12, rfl, Or.inl W_1117, tyX12_ok, nmX12, rfl, by decide +kernel⟩
theorem VS_X12_191 : Sv "AirPartedModel" 191 mX12_isCell 12 58 1 := ⟨TX12, rfl, ⟨by decide, by decide⟩, by decide +kernel, W_1314, W_1313, SEL_X12_isCell, W_13, Or.inl W_1311, rfl, rfl⟩
theorem FP_X12_179 : Fp "AirPartedModel" 179 12 43 58 .int := ⟨RX12, TX12, tyX12, rfl, by decide, uwX12, rfl, Or.inl W_1130, tyX12_ok, nmX12, rfl, by decide +kernel⟩
theorem VS_X12_259 : Sv "AirPartedModel" 259 mX12_others 12 58 1 := ⟨TX12, rfl, ⟨by decide, by decide⟩, by decide +kernel, W_1416, W_1415, SEL_X12_others, W_13, Or.inl W_1413, rfl, rfl⟩
theorem SS_X12_229 : Ss "AirPartedModel" 229 mX12_isStrength 1 := ⟨⟨by decide, by decide⟩, by decide +kernel, W_1364, W_1363, W_13, Or.inl W_1362, rfl, rfl⟩
theorem SS_X12_387 : Ss "AirPartedModel" 387 mX12_isSlack 1 := ⟨⟨by decide, by decide⟩, by decide +kernel, W_1641, W_1640, W_13, Or.inl W_1639, rfl, rfl⟩
theorem VS_X12_390 : Sv "AirPartedModel" 390 mX12_agrees 12 58 3 := ⟨TX12, rfl, ⟨by decide, by decide⟩, by decide +kernel, W_1645, W_1644, SEL_X12_agrees, W_13, Or.inl W_1642, rfl, rfl⟩
theorem VS_X12_395 : Sv "AirPartedModel" 395 mX12_whole 12 58 0 := ⟨TX12, rfl, ⟨by decide, by decide⟩, by decide +kernel, W_1658, W_1657, SEL_X12_whole, W_13, Or.inl W_1655, rfl, rfl⟩
theorem FP_X12_147 : Fp "AirPartedModel" 147 12 4 58 .int := ⟨RX12, TX12, tyX12, rfl, by decide, uwX12, rfl, Or.inl W_1091, tyX12_ok, nmX12, rfl, by decide +kernel⟩
theorem SS_X12_156 : Ss "AirPartedModel" 156 mX12_isSheet 1 := ⟨⟨by decide, by decide⟩, by decide +kernel, W_1268, W_1267, W_13, Or.inl W_1266, rfl, rfl⟩
theorem VS_X12_162 : Sv "AirPartedModel" 162 mX12_met 12 58 1 := ⟨TX12, rfl, ⟨by decide, by decide⟩, by decide +kernel, W_1277, W_1276, SEL_X12_met, W_13, Or.inl W_1274, rfl, rfl⟩
theorem FS_X12_20 : Fs "AirPartedModel" 20 12 3 58 := ⟨RX12, TX12, rfl, by decide, uwX12, rfl, Or.inl W_1090⟩
theorem FS_X12_345 : Fs "AirPartedModel" 345 12 34 58 := ⟨RX12, TX12, rfl, by decide, uwX12, rfl, Or.inl W_1121⟩
theorem FS_X12_182 : Fs "AirPartedModel" 182 12 46 58 := ⟨RX12, TX12, rfl, by decide, uwX12, rfl, Or.inl W_1133⟩
theorem FS_X12_185 : Fs "AirPartedModel" 185 12 51 58 := ⟨RX12, TX12, rfl, by decide, uwX12, rfl, Or.inl W_1138⟩
theorem FS_X12_147 : Fs "AirPartedModel" 147 12 4 58 := ⟨RX12, TX12, rfl, by decide, uwX12, rfl, Or.inl W_1091⟩
theorem VS_X12_340 : Sv "AirPartedModel" 340 mX12_bestBids 12 58 1 := ⟨TX12, rfl, ⟨by decide, by decide⟩, by decide +kernel, W_1561, W_1560, SEL_X12_bestBids, W_13, Or.inl W_1558, rfl, rfl⟩
theorem FS_X12_142 : Fs "AirPartedModel" 142 12 54 58 := ⟨RX12, TX12, rfl, by decide, uwX12, rfl, Or.inl W_1141⟩
theorem FS_X12_130 : Fs "AirPartedModel" 130 12 49 58 := ⟨RX12, TX12, rfl, by decide, uwX12, rfl, Or.inl W_1136⟩
theorem FS_X12_124 : Fs "AirPartedModel" 124 12 47 58 := ⟨RX12, TX12, rfl, by decide, uwX12, rfl, Or.inl W_1134⟩
theorem FS_X12_127 : Fs "AirPartedModel" 127 12 48 58 := ⟨RX12, TX12, rfl, by decide, uwX12, rfl, Or.inl W_1135⟩
theorem FS_X12_136 : Fs "AirPartedModel" 136 12 52 58 := ⟨RX12, TX12, rfl, by decide, uwX12, rfl, Or.inl W_1139⟩
theorem FS_X12_139 : Fs "AirPartedModel" 139 12 53 58 := ⟨RX12, TX12, rfl, by decide, uwX12, rfl, Or.inl W_1140⟩
theorem FS_X12_133 : Fs "AirPartedModel" 133 12 50 58 := ⟨RX12, TX12, rfl, by decide, uwX12, rfl, Or.inl W_1137⟩
theorem VS_X12_401 : Sv "AirPartedModel" 401 mX12_findGots 12 58 0 := ⟨TX12, rfl, ⟨by decide, by decide⟩, by decide +kernel, W_1678, W_1677, SEL_X12_findGots, W_13, Or.inl W_1675, rfl, rfl⟩
theorem FP_X12_407 : Fp "AirPartedModel" 407 12 55 58 .int := ⟨RX12, TX12, tyX12, rfl, by decide, uwX12, rfl, Or.inl W_1142, tyX12_ok, nmX12, rfl, by decide +kernel⟩
theorem VS_X12_404 : Sv "AirPartedModel" 404 mX12_servedBy 12 58 1 := ⟨TX12, rfl, ⟨by decide, by decide⟩, by decide +kernel, W_1682, W_1681, SEL_X12_servedBy, W_13, Or.inl W_1679, rfl, rfl⟩
theorem FP_X12_410 : Fp "AirPartedModel" 410 12 56 58 .int := ⟨RX12, TX12, tyX12, rfl, by decide, uwX12, rfl, Or.inl W_1143, tyX12_ok, nmX12, rfl, by decide +kernel⟩
theorem FP_X12_413 : Fp "AirPartedModel" 413 12 57 58 .int := ⟨RX12, TX12, tyX12, rfl, by decide, uwX12, rfl, Or.inl W_1144, tyX12_ok, nmX12, rfl, by decide +kernel⟩
theorem VS_X12_398 : Sv "AirPartedModel" 398 mX12_plans 12 58 0 := ⟨TX12, rfl, ⟨by decide, by decide⟩, by decide +kernel, W_1674, W_1673, SEL_X12_plans, W_13, Or.inl W_1671, rfl, rfl⟩
theorem VS_X12_416 : Sv "AirPartedModel" 416 mX12_pricedBy 12 58 1 := ⟨TX12, rfl, ⟨by decide, by decide⟩, by decide +kernel, W_1694, W_1693, SEL_X12_pricedBy, W_13, Or.inl W_1691, rfl, rfl⟩
theorem FS_X12_410 : Fs "AirPartedModel" 410 12 56 58 := ⟨RX12, TX12, rfl, by decide, uwX12, rfl, Or.inl W_1143⟩
theorem FS_X12_413 : Fs "AirPartedModel" 413 12 57 58 := ⟨RX12, TX12, rfl, by decide, uwX12, rfl, Or.inl W_1144⟩
theorem VS_X12_426 : Sv "AirPartedModel" 426 mX12_count 12 58 1 := ⟨TX12, rfl, ⟨by decide, by decide⟩, by decide +kernel, W_1702, W_1700, W_1701, W_13, Or.inl W_1709, rfl, rfl⟩
theorem VS_X12_429 : Sv "AirPartedModel" 429 mX12_about 12 58 2 := ⟨TX12, rfl, ⟨by decide, by decide⟩, by decide +kernel, W_1368, W_1366, W_1367, W_13, Or.inl W_1710, rfl, rfl⟩
theorem VS_X12_432 : Sv "AirPartedModel" 432 mX12_heard 12 58 1 := ⟨TX12, rfl, ⟨by decide, by decide⟩, by decide +kernel, W_1412, W_1410, W_1411, W_13, Or.inl W_1711, rfl, rfl⟩
theorem VS_X12_435 : Sv "AirPartedModel" 435 mX12_won 12 58 0 := ⟨TX12, rfl, ⟨by decide, by decide⟩, by decide +kernel, W_1557, W_1555, W_1556, W_13, Or.inl W_1712, rfl, rfl⟩
theorem VS_X12_419 : Sv "AirPartedModel" 419 mX12_findPlan 12 58 1 := ⟨TX12, rfl, ⟨by decide, by decide⟩, by decide +kernel, W_1690, W_1689, SEL_X12_findPlan, W_13, Or.inl W_1687, rfl, rfl⟩
theorem FS_X12_407 : Fs "AirPartedModel" 407 12 55 58 := ⟨RX12, TX12, rfl, by decide, uwX12, rfl, Or.inl W_1142⟩
theorem SS_X12_270 : Ss "AirPartedModel" 270 mX12_no 1 := ⟨⟨by decide, by decide⟩, by decide +kernel, W_1432, W_1431, W_13, Or.inl W_1430, rfl, rfl⟩
theorem FP_X12_185 : Fp "AirPartedModel" 185 12 51 58 .int := ⟨RX12, TX12, tyX12, rfl, by decide, uwX12, rfl, Or.inl W_1138, tyX12_ok, nmX12, rfl, by decide +kernel⟩
theorem FS_X12_348 : Fs "AirPartedModel" 348 12 35 58 := ⟨RX12, TX12, rfl, by decide, uwX12, rfl, Or.inl W_1122⟩
theorem FS_X12_97 : Fs "AirPartedModel" 97 12 33 58 := ⟨RX12, TX12, rfl, by decide, uwX12, rfl, Or.inl W_1120⟩
theorem VS_X12_355 : Sv "AirPartedModel" 355 mX12_isFigure 12 58 0 := ⟨TX12, rfl, ⟨by decide, by decide⟩, by decide +kernel, W_1604, W_1603, SEL_X12_isFigure, W_13, Or.inl W_1601, rfl, rfl⟩
theorem FP_X12_348 : Fp "AirPartedModel" 348 12 35 58 .int := ⟨RX12, TX12, tyX12, rfl, by decide, uwX12, rfl, Or.inl W_1122, tyX12_ok, nmX12, rfl, by decide +kernel⟩
theorem VS_X12_359 : Sv "AirPartedModel" 359 mX12_is 12 58 1 := ⟨TX12, rfl, ⟨by decide, by decide⟩, by decide +kernel, W_1594, W_1593, SEL_X12_is, W_13, Or.inl W_1591, rfl, rfl⟩
theorem FS_X12_100 : Fs "AirPartedModel" 100 12 37 58 := ⟨RX12, TX12, rfl, by decide, uwX12, rfl, Or.inl W_1124⟩
theorem FS_X12_362 : Fs "AirPartedModel" 362 12 36 58 := ⟨RX12, TX12, rfl, by decide, uwX12, rfl, Or.inl W_1123⟩
theorem FS_X12_106 : Fs "AirPartedModel" 106 12 39 58 := ⟨RX12, TX12, rfl, by decide, uwX12, rfl, Or.inl W_1126⟩
theorem VS_X12_367 : Sv "AirPartedModel" 367 mX12_number 12 58 2 := ⟨TX12, rfl, ⟨by decide, by decide⟩, by decide +kernel, W_1600, W_1599, SEL_X12_number, W_13, Or.inl W_1597, rfl, rfl⟩
theorem FS_X12_109 : Fs "AirPartedModel" 109 12 40 58 := ⟨RX12, TX12, rfl, by decide, uwX12, rfl, Or.inl W_1127⟩
theorem FS_X12_112 : Fs "AirPartedModel" 112 12 41 58 := ⟨RX12, TX12, rfl, by decide, uwX12, rfl, Or.inl W_1128⟩
theorem FS_X12_115 : Fs "AirPartedModel" 115 12 42 58 := ⟨RX12, TX12, rfl, by decide, uwX12, rfl, Or.inl W_1129⟩
theorem FP_X12_362 : Fp "AirPartedModel" 362 12 36 58 .int := ⟨RX12, TX12, tyX12, rfl, by decide, uwX12, rfl, Or.inl W_1123, tyX12_ok, nmX12, rfl, by decide +kernel⟩
theorem FS_X12_103 : Fs "AirPartedModel" 103 12 38 58 := ⟨RX12, TX12, rfl, by decide, uwX12, rfl, Or.inl W_1125⟩
theorem VS_X12_370 : Sv "AirPartedModel" 370 mX12_readsRule 12 58 0 := ⟨TX12, rfl, ⟨by decide, by decide⟩, by decide +kernel, W_1590, W_1589, SEL_X12_readsRule, W_13, Or.inl W_1587, rfl, rfl⟩
theorem VS_X12_373 : Sv "AirPartedModel" 373 mX12_reads 12 58 0 := ⟨TX12, rfl, ⟨by decide, by decide⟩, by decide +kernel, W_1586, W_1585, SEL_X12_reads, W_13, Or.inl W_1583, rfl, rfl⟩
theorem SS_X12_298 : Ss "AirPartedModel" 298 mX12_over 2 := ⟨⟨by decide, by decide⟩, by decide +kernel, W_1497, W_1496, W_13, Or.inl W_1495, rfl, rfl⟩
theorem SS_X12_301 : Ss "AirPartedModel" 301 mX12_raised 2 := ⟨⟨by decide, by decide⟩, by decide +kernel, W_1500, W_1499, W_13, Or.inl W_1498, rfl, rfl⟩
theorem SS_X12_305 : Ss "AirPartedModel" 305 mX12_isWord 3 := ⟨⟨by decide, by decide⟩, by decide +kernel, W_1491, W_1490, W_13, Or.inl W_1489, rfl, rfl⟩
theorem SS_X12_309 : Ss "AirPartedModel" 309 mX12_millionths 4 := ⟨⟨by decide, by decide⟩, by decide +kernel, W_1494, W_1493, W_13, Or.inl W_1492, rfl, rfl⟩
theorem VS_X12_166 : Sv "AirPartedModel" 166 mX12_lacks 12 58 3 := ⟨TX12, rfl, ⟨by decide, by decide⟩, by decide +kernel, W_1289, W_1288, SEL_X12_lacks, W_13, Or.inl W_1286, rfl, rfl⟩
theorem VS_X12_319 : Sv "AirPartedModel" 319 mX12_listeners 12 58 1 := ⟨TX12, rfl, ⟨by decide, by decide⟩, by decide +kernel, W_1526, W_1525, SEL_X12_listeners, W_13, Or.inl W_1523, rfl, rfl⟩
theorem VS_X12_323 : Sv "AirPartedModel" 323 mX12_hears 12 58 2 := ⟨TX12, rfl, ⟨by decide, by decide⟩, by decide +kernel, W_1531, W_1530, SEL_X12_hears, W_13, Or.inl W_1528, rfl, rfl⟩
theorem VS_X12_328 : Sv "AirPartedModel" 328 mX12_isDrowned 12 58 2 := ⟨TX12, rfl, ⟨by decide, by decide⟩, by decide +kernel, W_1544, W_1543, SEL_X12_isDrowned, W_13, Or.inl W_1541, rfl, rfl⟩
theorem SS_X12_313 : Ss "AirPartedModel" 313 mX12_areHops 3 := ⟨⟨by decide, by decide⟩, by decide +kernel, W_1511, W_1510, W_13, Or.inl W_1509, rfl, rfl⟩
theorem SS_X12_316 : Ss "AirPartedModel" 316 mX12_meets 4 := ⟨⟨by decide, by decide⟩, by decide +kernel, W_1514, W_1513, W_13, Or.inl W_1512, rfl, rfl⟩
theorem FP_X12_23 : Fp "AirPartedModel" 23 12 5 58 .int := ⟨RX12, TX12, tyX12, rfl, by decide, uwX12, rfl, Or.inl W_1092, tyX12_ok, nmX12, rfl, by decide +kernel⟩
theorem FP_X12_27 : Fp "AirPartedModel" 27 12 6 58 .int := ⟨RX12, TX12, tyX12, rfl, by decide, uwX12, rfl, Or.inl W_1093, tyX12_ok, nmX12, rfl, by decide +kernel⟩
theorem FS_X12_79 : Fs "AirPartedModel" 79 12 26 58 := ⟨RX12, TX12, rfl, by decide, uwX12, rfl, Or.inl W_1113⟩
theorem FS_X12_82 : Fs "AirPartedModel" 82 12 27 58 := ⟨RX12, TX12, rfl, by decide, uwX12, rfl, Or.inl W_1114⟩
theorem FS_X12_85 : Fs "AirPartedModel" 85 12 28 58 := ⟨RX12, TX12, rfl, by decide, uwX12, rfl, Or.inl W_1115⟩
theorem FS_X12_88 : Fs "AirPartedModel" 88 12 29 58 := ⟨RX12, TX12, rfl, by decide, uwX12, rfl, Or.inl W_1116⟩
theorem SS_X12_217 : Ss "AirPartedModel" 217 mX12_isMast 1 := ⟨⟨by decide, by decide⟩, by decide +kernel, W_1342, W_1341, W_13, Or.inl W_1340, rfl, rfl⟩
theorem SS_X12_170 : Ss "AirPartedModel" 170 mX12_cut 2 := ⟨⟨by decide, by decide⟩, by decide +kernel, W_1292, W_1291, W_13, Or.inl W_1290, rfl, rfl⟩
theorem SS_X12_379 : Ss "AirPartedModel" 379 mX12_isAsked 3 := ⟨⟨by decide, by decide⟩, by decide +kernel, W_1612, W_1611, W_13, Or.inl W_1610, rfl, rfl⟩
theorem VS_X12_382 : Sv "AirPartedModel" 382 mX12_ruleOf 12 58 3 := ⟨TX12, rfl, ⟨by decide, by decide⟩, by decide +kernel, W_1617, W_1616, SEL_X12_ruleOf, W_13, Or.inl W_1614, rfl, rfl⟩
theorem FP_X12_226 : Fp "AirPartedModel" 226 12 8 58 .int := ⟨RX12, TX12, tyX12, rfl, by decide, uwX12, rfl, Or.inl W_1095, tyX12_ok, nmX12, rfl, by decide +kernel⟩
theorem FP_X12_176 : Fp "AirPartedModel" 176 12 9 58 .int := ⟨RX12, TX12, tyX12, rfl, by decide, uwX12, rfl, Or.inl W_1096, tyX12_ok, nmX12, rfl, by decide +kernel⟩
theorem FP_X12_182 : Fp "AirPartedModel" 182 12 46 58 .int := ⟨RX12, TX12, tyX12, rfl, by decide, uwX12, rfl, Or.inl W_1133, tyX12_ok, nmX12, rfl, by decide +kernel⟩
theorem FP_X12_345 : Fp "AirPartedModel" 345 12 34 58 .int := ⟨RX12, TX12, tyX12, rfl, by decide, uwX12, rfl, Or.inl W_1121, tyX12_ok, nmX12, rfl, by decide +kernel⟩
theorem FS_X8_9 : Fs "AirParted$Told" 9 8 0 1 := ⟨RX8, TX8, rfl, by decide, uwX8, rfl, Or.inl W_32⟩
theorem FP_X2_22 : Fp "AirParted$Land" 22 2 3 5 .int := ⟨RX2, TX2, tyX2, rfl, by decide, uwX2, rfl, Or.inl W_81, tyX2_ok, nmX2, rfl, by decide +kernel⟩
theorem FP_X2_26 : Fp "AirParted$Land" 26 2 4 5 .int := ⟨RX2, TX2, tyX2, rfl, by decide, uwX2, rfl, Or.inl W_83, tyX2_ok, nmX2, rfl, by decide +kernel⟩
theorem FP_X5_11 : Fp "AirParted$Sender" 11 5 0 11 .int := ⟨RX5, TX5, tyX5, rfl, by decide, uwX5, rfl, Or.inl W_109, tyX5_ok, nmX5, rfl, by decide +kernel⟩
theorem FP_X5_24 : Fp "AirParted$Sender" 24 5 10 11 .boolean := ⟨RX5, TX5, tyX5, rfl, by decide, uwX5, rfl, Or.inl W_140, tyX5_ok, nmX5, rfl, by decide +kernel⟩
theorem VS_L_13 : Sv "AirPartedLaw" 13 mX11_land 11 12 2 := ⟨TX11, rfl, ⟨by decide, by decide⟩, by decide +kernel, W_458, W_456, W_457, W_1, Or.inl W_455, rfl, rfl⟩
theorem VS_L_17 : Sv "AirPartedLaw" 17 mX12_land 12 58 2 := ⟨TX12, rfl, ⟨by decide, by decide⟩, by decide +kernel, W_1305, W_1303, W_1304, W_13, Or.inl W_1302, rfl, rfl⟩
theorem VS_L_18 : Sv "AirPartedLaw" 18 mX11_ground 11 12 2 := ⟨TX11, rfl, ⟨by decide, by decide⟩, by decide +kernel, W_465, W_463, W_464, W_1, Or.inl W_462, rfl, rfl⟩
theorem VS_L_21 : Sv "AirPartedLaw" 21 mX12_ground 12 58 2 := ⟨TX12, rfl, ⟨by decide, by decide⟩, by decide +kernel, W_1310, W_1308, W_1309, W_13, Or.inl W_1307, rfl, rfl⟩
theorem VS_L_22 : Sv "AirPartedLaw" 22 mX11_set 11 12 2 := ⟨TX11, rfl, ⟨by decide, by decide⟩, by decide +kernel, W_488, W_486, W_487, W_1, Or.inl W_485, rfl, rfl⟩
theorem VS_L_25 : Sv "AirPartedLaw" 25 mX12_set 12 58 2 := ⟨TX12, rfl, ⟨by decide, by decide⟩, by decide +kernel, W_1330, W_1328, W_1329, W_13, Or.inl W_1327, rfl, rfl⟩
theorem VS_L_26 : Sv "AirPartedLaw" 26 mX11_loss 11 12 5 := ⟨TX11, rfl, ⟨by decide, by decide⟩, by decide +kernel, W_496, W_494, W_495, W_1, Or.inl W_493, rfl, rfl⟩
theorem VS_L_30 : Sv "AirPartedLaw" 30 mX12_loss 12 58 5 := ⟨TX12, rfl, ⟨by decide, by decide⟩, by decide +kernel, W_1339, W_1337, W_1338, W_13, Or.inl W_1336, rfl, rfl⟩
theorem VS_L_31 : Sv "AirPartedLaw" 31 mX11_pass 11 12 1 := ⟨TX11, rfl, ⟨by decide, by decide⟩, by decide +kernel, W_516, W_514, W_515, W_1, Or.inl W_513, rfl, rfl⟩
theorem VS_L_35 : Sv "AirPartedLaw" 35 mX12_pass 12 58 1 := ⟨TX12, rfl, ⟨by decide, by decide⟩, by decide +kernel, W_1356, W_1354, W_1355, W_13, Or.inl W_1353, rfl, rfl⟩
theorem VS_L_36 : Sv "AirPartedLaw" 36 mX11_sender 11 12 6 := ⟨TX11, rfl, ⟨by decide, by decide⟩, by decide +kernel, W_520, W_518, W_519, W_1, Or.inl W_517, rfl, rfl⟩
theorem VS_L_40 : Sv "AirPartedLaw" 40 mX12_sender 12 58 6 := ⟨TX12, rfl, ⟨by decide, by decide⟩, by decide +kernel, W_1361, W_1359, W_1360, W_13, Or.inl W_1358, rfl, rfl⟩
theorem VS_L_41 : Sv "AirPartedLaw" 41 mX11_about 11 12 2 := ⟨TX11, rfl, ⟨by decide, by decide⟩, by decide +kernel, W_525, W_523, W_524, W_1, Or.inl W_522, rfl, rfl⟩
theorem VS_L_44 : Sv "AirPartedLaw" 44 mX12_about 12 58 2 := ⟨TX12, rfl, ⟨by decide, by decide⟩, by decide +kernel, W_1368, W_1366, W_1367, W_13, Or.inl W_1365, rfl, rfl⟩
theorem VS_L_45 : Sv "AirPartedLaw" 45 mX11_change 11 12 3 := ⟨TX11, rfl, ⟨by decide, by decide⟩, by decide +kernel, W_559, W_557, W_558, W_1, Or.inl W_556, rfl, rfl⟩
theorem VS_L_49 : Sv "AirPartedLaw" 49 mX12_change 12 58 3 := ⟨TX12, rfl, ⟨by decide, by decide⟩, by decide +kernel, W_1390, W_1388, W_1389, W_13, Or.inl W_1387, rfl, rfl⟩
theorem VS_L_50 : Sv "AirPartedLaw" 50 mX11_on 11 12 2 := ⟨TX11, rfl, ⟨by decide, by decide⟩, by decide +kernel, W_574, W_572, W_573, W_1, Or.inl W_571, rfl, rfl⟩
theorem VS_L_54 : Sv "AirPartedLaw" 54 mX12_on 12 58 2 := ⟨TX12, rfl, ⟨by decide, by decide⟩, by decide +kernel, W_1396, W_1394, W_1395, W_13, Or.inl W_1393, rfl, rfl⟩
theorem VS_L_55 : Sv "AirPartedLaw" 55 mX11_got 11 12 2 := ⟨TX11, rfl, ⟨by decide, by decide⟩, by decide +kernel, W_578, W_576, W_577, W_1, Or.inl W_575, rfl, rfl⟩
theorem VS_L_58 : Sv "AirPartedLaw" 58 mX12_got 12 58 2 := ⟨TX12, rfl, ⟨by decide, by decide⟩, by decide +kernel, W_1400, W_1398, W_1399, W_13, Or.inl W_1397, rfl, rfl⟩
theorem VS_L_59 : Sv "AirPartedLaw" 59 mX11_heard 11 12 1 := ⟨TX11, rfl, ⟨by decide, by decide⟩, by decide +kernel, W_595, W_593, W_594, W_1, Or.inl W_592, rfl, rfl⟩
theorem VS_L_62 : Sv "AirPartedLaw" 62 mX12_heard 12 58 1 := ⟨TX12, rfl, ⟨by decide, by decide⟩, by decide +kernel, W_1412, W_1410, W_1411, W_13, Or.inl W_1409, rfl, rfl⟩
theorem VS_L_63 : Sv "AirPartedLaw" 63 mX11_drowns 11 12 1 := ⟨TX11, rfl, ⟨by decide, by decide⟩, by decide +kernel, W_626, W_624, W_625, W_1, Or.inl W_623, rfl, rfl⟩
theorem VS_L_67 : Sv "AirPartedLaw" 67 mX12_drowns 12 58 1 := ⟨TX12, rfl, ⟨by decide, by decide⟩, by decide +kernel, W_1429, W_1427, W_1428, W_13, Or.inl W_1426, rfl, rfl⟩
theorem VS_L_68 : Sv "AirPartedLaw" 68 mX11_cause 11 12 1 := ⟨TX11, rfl, ⟨by decide, by decide⟩, by decide +kernel, W_633, W_631, W_632, W_1, Or.inl W_630, rfl, rfl⟩
theorem VS_L_71 : Sv "AirPartedLaw" 71 mX12_cause 12 58 1 := ⟨TX12, rfl, ⟨by decide, by decide⟩, by decide +kernel, W_1436, W_1434, W_1435, W_13, Or.inl W_1433, rfl, rfl⟩
theorem VS_L_72 : Sv "AirPartedLaw" 72 mX11_share 11 12 1 := ⟨TX11, rfl, ⟨by decide, by decide⟩, by decide +kernel, W_651, W_649, W_650, W_1, Or.inl W_648, rfl, rfl⟩
theorem VS_L_75 : Sv "AirPartedLaw" 75 mX12_share 12 58 1 := ⟨TX12, rfl, ⟨by decide, by decide⟩, by decide +kernel, W_1443, W_1441, W_1442, W_13, Or.inl W_1440, rfl, rfl⟩
theorem VS_L_76 : Sv "AirPartedLaw" 76 mX11_fewest 11 12 1 := ⟨TX11, rfl, ⟨by decide, by decide⟩, by decide +kernel, W_687, W_685, W_686, W_1, Or.inl W_684, rfl, rfl⟩
theorem VS_L_79 : Sv "AirPartedLaw" 79 mX12_fewest 12 58 1 := ⟨TX12, rfl, ⟨by decide, by decide⟩, by decide +kernel, W_1459, W_1457, W_1458, W_13, Or.inl W_1456, rfl, rfl⟩
theorem VS_L_80 : Sv "AirPartedLaw" 80 mX11_part 11 12 2 := ⟨TX11, rfl, ⟨by decide, by decide⟩, by decide +kernel, W_695, W_693, W_694, W_1, Or.inl W_692, rfl, rfl⟩
theorem VS_L_83 : Sv "AirPartedLaw" 83 mX12_part 12 58 2 := ⟨TX12, rfl, ⟨by decide, by decide⟩, by decide +kernel, W_1463, W_1461, W_1462, W_13, Or.inl W_1460, rfl, rfl⟩
theorem VS_L_84 : Sv "AirPartedLaw" 84 mX11_best 11 12 2 := ⟨TX11, rfl, ⟨by decide, by decide⟩, by decide +kernel, W_710, W_708, W_709, W_1, Or.inl W_707, rfl, rfl⟩
theorem VS_L_87 : Sv "AirPartedLaw" 87 mX12_best 12 58 2 := ⟨TX12, rfl, ⟨by decide, by decide⟩, by decide +kernel, W_1475, W_1473, W_1474, W_13, Or.inl W_1472, rfl, rfl⟩
theorem VS_L_88 : Sv "AirPartedLaw" 88 mX11_proof 11 12 2 := ⟨TX11, rfl, ⟨by decide, by decide⟩, by decide +kernel, W_726, W_724, W_725, W_1, Or.inl W_723, rfl, rfl⟩
theorem VS_L_91 : Sv "AirPartedLaw" 91 mX12_proof 12 58 2 := ⟨TX12, rfl, ⟨by decide, by decide⟩, by decide +kernel, W_1480, W_1478, W_1479, W_13, Or.inl W_1477, rfl, rfl⟩
theorem VS_L_92 : Sv "AirPartedLaw" 92 mX11_assign 11 12 1 := ⟨TX11, rfl, ⟨by decide, by decide⟩, by decide +kernel, W_734, W_732, W_733, W_1, Or.inl W_731, rfl, rfl⟩
theorem VS_L_95 : Sv "AirPartedLaw" 95 mX12_assign 12 58 1 := ⟨TX12, rfl, ⟨by decide, by decide⟩, by decide +kernel, W_1484, W_1482, W_1483, W_13, Or.inl W_1481, rfl, rfl⟩
theorem VS_L_96 : Sv "AirPartedLaw" 96 mX11_odds 11 12 3 := ⟨TX11, rfl, ⟨by decide, by decide⟩, by decide +kernel, W_738, W_736, W_737, W_1, Or.inl W_735, rfl, rfl⟩
theorem VS_L_99 : Sv "AirPartedLaw" 99 mX12_odds 12 58 3 := ⟨TX12, rfl, ⟨by decide, by decide⟩, by decide +kernel, W_1488, W_1486, W_1487, W_13, Or.inl W_1485, rfl, rfl⟩
theorem VS_L_100 : Sv "AirPartedLaw" 100 mX11_flow 11 12 5 := ⟨TX11, rfl, ⟨by decide, by decide⟩, by decide +kernel, W_748, W_746, W_747, W_1, Or.inl W_745, rfl, rfl⟩
theorem VS_L_103 : Sv "AirPartedLaw" 103 mX12_flow 12 58 5 := ⟨TX12, rfl, ⟨by decide, by decide⟩, by decide +kernel, W_1504, W_1502, W_1503, W_13, Or.inl W_1501, rfl, rfl⟩
theorem VS_L_104 : Sv "AirPartedLaw" 104 mX11_hops 11 12 4 := ⟨TX11, rfl, ⟨by decide, by decide⟩, by decide +kernel, W_752, W_750, W_751, W_1, Or.inl W_749, rfl, rfl⟩
theorem VS_L_108 : Sv "AirPartedLaw" 108 mX12_hops 12 58 4 := ⟨TX12, rfl, ⟨by decide, by decide⟩, by decide +kernel, W_1508, W_1506, W_1507, W_13, Or.inl W_1505, rfl, rfl⟩
theorem VS_L_109 : Sv "AirPartedLaw" 109 mX11_most 11 12 3 := ⟨TX11, rfl, ⟨by decide, by decide⟩, by decide +kernel, W_762, W_760, W_761, W_1, Or.inl W_759, rfl, rfl⟩
theorem VS_L_112 : Sv "AirPartedLaw" 112 mX12_most 12 58 3 := ⟨TX12, rfl, ⟨by decide, by decide⟩, by decide +kernel, W_1518, W_1516, W_1517, W_13, Or.inl W_1515, rfl, rfl⟩
theorem VS_L_113 : Sv "AirPartedLaw" 113 mX11_listen 11 12 3 := ⟨TX11, rfl, ⟨by decide, by decide⟩, by decide +kernel, W_767, W_765, W_766, W_1, Or.inl W_764, rfl, rfl⟩
theorem VS_L_116 : Sv "AirPartedLaw" 116 mX12_listen 12 58 3 := ⟨TX12, rfl, ⟨by decide, by decide⟩, by decide +kernel, W_1522, W_1520, W_1521, W_13, Or.inl W_1519, rfl, rfl⟩
theorem VS_L_117 : Sv "AirPartedLaw" 117 mX11_spoke 11 12 2 := ⟨TX11, rfl, ⟨by decide, by decide⟩, by decide +kernel, W_797, W_795, W_796, W_1, Or.inl W_794, rfl, rfl⟩
theorem VS_L_120 : Sv "AirPartedLaw" 120 mX12_spoke 12 58 2 := ⟨TX12, rfl, ⟨by decide, by decide⟩, by decide +kernel, W_1535, W_1533, W_1534, W_13, Or.inl W_1532, rfl, rfl⟩
theorem VS_L_121 : Sv "AirPartedLaw" 121 mX11_hidden 11 12 1 := ⟨TX11, rfl, ⟨by decide, by decide⟩, by decide +kernel, W_801, W_799, W_800, W_1, Or.inl W_798, rfl, rfl⟩
theorem VS_L_124 : Sv "AirPartedLaw" 124 mX12_hidden 12 58 1 := ⟨TX12, rfl, ⟨by decide, by decide⟩, by decide +kernel, W_1540, W_1538, W_1539, W_13, Or.inl W_1537, rfl, rfl⟩
theorem VS_L_125 : Sv "AirPartedLaw" 125 mX11_bid 11 12 3 := ⟨TX11, rfl, ⟨by decide, by decide⟩, by decide +kernel, W_813, W_811, W_812, W_1, Or.inl W_810, rfl, rfl⟩
theorem VS_L_128 : Sv "AirPartedLaw" 128 mX12_bid 12 58 3 := ⟨TX12, rfl, ⟨by decide, by decide⟩, by decide +kernel, W_1548, W_1546, W_1547, W_13, Or.inl W_1545, rfl, rfl⟩
theorem VS_L_129 : Sv "AirPartedLaw" 129 mX11_call 11 12 0 := ⟨TX11, rfl, ⟨by decide, by decide⟩, by decide +kernel, W_821, W_819, W_820, W_1, Or.inl W_818, rfl, rfl⟩
theorem VS_L_133 : Sv "AirPartedLaw" 133 mX12_call 12 58 0 := ⟨TX12, rfl, ⟨by decide, by decide⟩, by decide +kernel, W_1553, W_1551, W_1552, W_13, Or.inl W_1550, rfl, rfl⟩
theorem VS_L_134 : Sv "AirPartedLaw" 134 mX11_won 11 12 0 := ⟨TX11, rfl, ⟨by decide, by decide⟩, by decide +kernel, W_825, W_823, W_824, W_1, Or.inl W_822, rfl, rfl⟩
theorem VS_L_137 : Sv "AirPartedLaw" 137 mX12_won 12 58 0 := ⟨TX12, rfl, ⟨by decide, by decide⟩, by decide +kernel, W_1557, W_1555, W_1556, W_13, Or.inl W_1554, rfl, rfl⟩
theorem VS_L_138 : Sv "AirPartedLaw" 138 mX11_pays 11 12 1 := ⟨TX11, rfl, ⟨by decide, by decide⟩, by decide +kernel, W_842, W_840, W_841, W_1, Or.inl W_839, rfl, rfl⟩
theorem VS_L_141 : Sv "AirPartedLaw" 141 mX12_pays 12 58 1 := ⟨TX12, rfl, ⟨by decide, by decide⟩, by decide +kernel, W_1569, W_1567, W_1568, W_13, Or.inl W_1566, rfl, rfl⟩
theorem VS_L_142 : Sv "AirPartedLaw" 142 mX11_type 11 12 1 := ⟨TX11, rfl, ⟨by decide, by decide⟩, by decide +kernel, W_851, W_849, W_850, W_1, Or.inl W_848, rfl, rfl⟩
theorem VS_L_145 : Sv "AirPartedLaw" 145 mX12_type 12 58 1 := ⟨TX12, rfl, ⟨by decide, by decide⟩, by decide +kernel, W_1573, W_1571, W_1572, W_13, Or.inl W_1570, rfl, rfl⟩
theorem VS_L_146 : Sv "AirPartedLaw" 146 mX11_wipe 11 12 0 := ⟨TX11, rfl, ⟨by decide, by decide⟩, by decide +kernel, W_859, W_857, W_858, W_1, Or.inl W_856, rfl, rfl⟩
theorem VS_L_149 : Sv "AirPartedLaw" 149 mX12_wipe 12 58 0 := ⟨TX12, rfl, ⟨by decide, by decide⟩, by decide +kernel, W_1578, W_1576, W_1577, W_13, Or.inl W_1575, rfl, rfl⟩
theorem VS_L_150 : Sv "AirPartedLaw" 150 mX11_fault 11 12 0 := ⟨TX11, rfl, ⟨by decide, by decide⟩, by decide +kernel, W_863, W_861, W_862, W_1, Or.inl W_860, rfl, rfl⟩
theorem VS_L_153 : Sv "AirPartedLaw" 153 mX12_fault 12 58 0 := ⟨TX12, rfl, ⟨by decide, by decide⟩, by decide +kernel, W_1582, W_1580, W_1581, W_13, Or.inl W_1579, rfl, rfl⟩
theorem VS_L_154 : Sv "AirPartedLaw" 154 mX11_may 11 12 3 := ⟨TX11, rfl, ⟨by decide, by decide⟩, by decide +kernel, W_896, W_894, W_895, W_1, Or.inl W_893, rfl, rfl⟩
theorem VS_L_157 : Sv "AirPartedLaw" 157 mX12_may 12 58 3 := ⟨TX12, rfl, ⟨by decide, by decide⟩, by decide +kernel, W_1609, W_1607, W_1608, W_13, Or.inl W_1606, rfl, rfl⟩
theorem VS_L_158 : Sv "AirPartedLaw" 158 mX11_rule 11 12 3 := ⟨TX11, rfl, ⟨by decide, by decide⟩, by decide +kernel, W_908, W_906, W_907, W_1, Or.inl W_905, rfl, rfl⟩
theorem VS_L_161 : Sv "AirPartedLaw" 161 mX12_rule 12 58 3 := ⟨TX12, rfl, ⟨by decide, by decide⟩, by decide +kernel, W_1621, W_1619, W_1620, W_13, Or.inl W_1618, rfl, rfl⟩
theorem VS_L_162 : Sv "AirPartedLaw" 162 mX11_box 11 12 1 := ⟨TX11, rfl, ⟨by decide, by decide⟩, by decide +kernel, W_912, W_910, W_911, W_1, Or.inl W_909, rfl, rfl⟩
theorem VS_L_165 : Sv "AirPartedLaw" 165 mX12_box 12 58 1 := ⟨TX12, rfl, ⟨by decide, by decide⟩, by decide +kernel, W_1625, W_1623, W_1624, W_13, Or.inl W_1622, rfl, rfl⟩
theorem VS_L_166 : Sv "AirPartedLaw" 166 mX11_log 11 12 2 := ⟨TX11, rfl, ⟨by decide, by decide⟩, by decide +kernel, W_920, W_918, W_919, W_1, Or.inl W_917, rfl, rfl⟩
theorem VS_L_169 : Sv "AirPartedLaw" 169 mX12_log 12 58 2 := ⟨TX12, rfl, ⟨by decide, by decide⟩, by decide +kernel, W_1629, W_1627, W_1628, W_13, Or.inl W_1626, rfl, rfl⟩
theorem VS_L_170 : Sv "AirPartedLaw" 170 mX11_hear 11 12 1 := ⟨TX11, rfl, ⟨by decide, by decide⟩, by decide +kernel, W_925, W_923, W_924, W_1, Or.inl W_922, rfl, rfl⟩
theorem VS_L_173 : Sv "AirPartedLaw" 173 mX12_hear 12 58 1 := ⟨TX12, rfl, ⟨by decide, by decide⟩, by decide +kernel, W_1634, W_1632, W_1633, W_13, Or.inl W_1631, rfl, rfl⟩
theorem VS_L_174 : Sv "AirPartedLaw" 174 mX11_cells 11 12 2 := ⟨TX11, rfl, ⟨by decide, by decide⟩, by decide +kernel, W_929, W_927, W_928, W_1, Or.inl W_926, rfl, rfl⟩
theorem VS_L_177 : Sv "AirPartedLaw" 177 mX12_cells 12 58 2 := ⟨TX12, rfl, ⟨by decide, by decide⟩, by decide +kernel, W_1638, W_1636, W_1637, W_13, Or.inl W_1635, rfl, rfl⟩
theorem VS_L_178 : Sv "AirPartedLaw" 178 mX11_cell 11 12 3 := ⟨TX11, rfl, ⟨by decide, by decide⟩, by decide +kernel, W_943, W_941, W_942, W_1, Or.inl W_940, rfl, rfl⟩
theorem VS_L_181 : Sv "AirPartedLaw" 181 mX12_cell 12 58 3 := ⟨TX12, rfl, ⟨by decide, by decide⟩, by decide +kernel, W_1649, W_1647, W_1648, W_13, Or.inl W_1646, rfl, rfl⟩
theorem VS_L_182 : Sv "AirPartedLaw" 182 mX11_cheats 11 12 3 := ⟨TX11, rfl, ⟨by decide, by decide⟩, by decide +kernel, W_947, W_945, W_946, W_1, Or.inl W_944, rfl, rfl⟩
theorem VS_L_185 : Sv "AirPartedLaw" 185 mX12_cheats 12 58 3 := ⟨TX12, rfl, ⟨by decide, by decide⟩, by decide +kernel, W_1653, W_1651, W_1652, W_13, Or.inl W_1650, rfl, rfl⟩
theorem VS_L_186 : Sv "AirPartedLaw" 186 mX11_site 11 12 6 := ⟨TX11, rfl, ⟨by decide, by decide⟩, by decide +kernel, W_960, W_958, W_959, W_1, Or.inl W_957, rfl, rfl⟩
theorem VS_L_189 : Sv "AirPartedLaw" 189 mX12_site 12 58 6 := ⟨TX12, rfl, ⟨by decide, by decide⟩, by decide +kernel, W_1662, W_1660, W_1661, W_13, Or.inl W_1659, rfl, rfl⟩
theorem VS_L_190 : Sv "AirPartedLaw" 190 mX11_ear 11 12 2 := ⟨TX11, rfl, ⟨by decide, by decide⟩, by decide +kernel, W_968, W_966, W_967, W_1, Or.inl W_965, rfl, rfl⟩
theorem VS_L_193 : Sv "AirPartedLaw" 193 mX12_ear 12 58 2 := ⟨TX12, rfl, ⟨by decide, by decide⟩, by decide +kernel, W_1666, W_1664, W_1665, W_13, Or.inl W_1663, rfl, rfl⟩
theorem VS_L_194 : Sv "AirPartedLaw" 194 mX11_serves 11 12 1 := ⟨TX11, rfl, ⟨by decide, by decide⟩, by decide +kernel, W_976, W_974, W_975, W_1, Or.inl W_973, rfl, rfl⟩
theorem VS_L_197 : Sv "AirPartedLaw" 197 mX12_serves 12 58 1 := ⟨TX12, rfl, ⟨by decide, by decide⟩, by decide +kernel, W_1670, W_1668, W_1669, W_13, Or.inl W_1667, rfl, rfl⟩
theorem VS_L_198 : Sv "AirPartedLaw" 198 mX11_plan 11 12 2 := ⟨TX11, rfl, ⟨by decide, by decide⟩, by decide +kernel, W_1001, W_999, W_1000, W_1, Or.inl W_998, rfl, rfl⟩
theorem VS_L_201 : Sv "AirPartedLaw" 201 mX12_plan 12 58 2 := ⟨TX12, rfl, ⟨by decide, by decide⟩, by decide +kernel, W_1686, W_1684, W_1685, W_13, Or.inl W_1683, rfl, rfl⟩
theorem VS_L_202 : Sv "AirPartedLaw" 202 mX11_sheet 11 12 3 := ⟨TX11, rfl, ⟨by decide, by decide⟩, by decide +kernel, W_1016, W_1014, W_1015, W_1, Or.inl W_1013, rfl, rfl⟩
theorem VS_L_205 : Sv "AirPartedLaw" 205 mX12_sheet 12 58 3 := ⟨TX12, rfl, ⟨by decide, by decide⟩, by decide +kernel, W_1265, W_1263, W_1264, W_13, Or.inl W_1262, rfl, rfl⟩
theorem VS_L_206 : Sv "AirPartedLaw" 206 mX11_lose 11 12 1 := ⟨TX11, rfl, ⟨by decide, by decide⟩, by decide +kernel, W_1037, W_1035, W_1036, W_1, Or.inl W_1034, rfl, rfl⟩
theorem VS_L_209 : Sv "AirPartedLaw" 209 mX12_lose 12 58 1 := ⟨TX12, rfl, ⟨by decide, by decide⟩, by decide +kernel, W_1281, W_1279, W_1280, W_13, Or.inl W_1278, rfl, rfl⟩
theorem VS_L_212 : Sv "AirPartedLaw" 212 mX11_put 11 12 4 := ⟨TX11, rfl, ⟨by decide, by decide⟩, by decide +kernel, W_1041, W_1039, W_1040, W_1, Or.inl W_1038, rfl, rfl⟩
theorem VS_L_216 : Sv "AirPartedLaw" 216 mX12_put 12 58 4 := ⟨TX12, rfl, ⟨by decide, by decide⟩, by decide +kernel, W_1285, W_1283, W_1284, W_13, Or.inl W_1282, rfl, rfl⟩
theorem VS_L_217 : Sv "AirPartedLaw" 217 mX11_get 11 12 3 := ⟨TX11, rfl, ⟨by decide, by decide⟩, by decide +kernel, W_1053, W_1051, W_1052, W_1, Or.inl W_1050, rfl, rfl⟩
theorem VS_L_221 : Sv "AirPartedLaw" 221 mX12_get 12 58 3 := ⟨TX12, rfl, ⟨by decide, by decide⟩, by decide +kernel, W_1296, W_1294, W_1295, W_13, Or.inl W_1293, rfl, rfl⟩
theorem VS_L_222 : Sv "AirPartedLaw" 222 mX11_copy 11 12 5 := ⟨TX11, rfl, ⟨by decide, by decide⟩, by decide +kernel, W_1057, W_1055, W_1056, W_1, Or.inl W_1054, rfl, rfl⟩
theorem VS_L_225 : Sv "AirPartedLaw" 225 mX12_copy 12 58 5 := ⟨TX12, rfl, ⟨by decide, by decide⟩, by decide +kernel, W_1301, W_1299, W_1300, W_13, Or.inl W_1298, rfl, rfl⟩
theorem VS_L_226 : Sv "AirPartedLaw" 226 mX11_map 11 12 2 := ⟨TX11, rfl, ⟨by decide, by decide⟩, by decide +kernel, W_1064, W_1062, W_1063, W_1, Or.inl W_1061, rfl, rfl⟩
theorem VS_L_229 : Sv "AirPartedLaw" 229 mX12_map 12 58 2 := ⟨TX12, rfl, ⟨by decide, by decide⟩, by decide +kernel, W_1698, W_1696, W_1697, W_13, Or.inl W_1695, rfl, rfl⟩
theorem VS_L_230 : Sv "AirPartedLaw" 230 mX11_count 11 12 1 := ⟨TX11, rfl, ⟨by decide, by decide⟩, by decide +kernel, W_1069, W_1067, W_1068, W_1, Or.inl W_1066, rfl, rfl⟩
theorem VS_L_233 : Sv "AirPartedLaw" 233 mX12_count 12 58 1 := ⟨TX12, rfl, ⟨by decide, by decide⟩, by decide +kernel, W_1702, W_1700, W_1701, W_13, Or.inl W_1699, rfl, rfl⟩
theorem VS_L_234 : Sv "AirPartedLaw" 234 mX11_digest 11 12 0 := ⟨TX11, rfl, ⟨by decide, by decide⟩, by decide +kernel, W_1077, W_1075, W_1076, W_1, Or.inl W_1074, rfl, rfl⟩
theorem VS_L_238 : Sv "AirPartedLaw" 238 mX12_digest 12 58 0 := ⟨TX12, rfl, ⟨by decide, by decide⟩, by decide +kernel, W_1706, W_1704, W_1705, W_13, Or.inl W_1703, rfl, rfl⟩
