set_option maxRecDepth 100000 in
theorem ok_X10_painted : ck_M q_X10_painted := ck_M_of 10 rfl (ini := false) (by decide +kernel) (by decide +kernel)
set_option maxRecDepth 100000 in
theorem ok_X10_visited : ck_M q_X10_visited := ck_M_of 10 rfl (ini := false) (by decide +kernel) (by decide +kernel)
set_option maxRecDepth 100000 in
theorem ok_X10_seizedFrom : ck_M q_X10_seizedFrom := ck_M_of 10 rfl (ini := false) (by decide +kernel) (by decide +kernel)
set_option maxRecDepth 100000 in
theorem ok_X10_passHour : ck_M q_X10_passHour := ck_M_of 10 rfl (ini := false) (by decide +kernel) (by decide +kernel)
set_option maxRecDepth 100000 in
theorem ok_X10_passHours : ck_M q_X10_passHours := ck_M_of 10 rfl (ini := false) (by decide +kernel) (by decide +kernel)
set_option maxRecDepth 100000 in
theorem oc_X11_init_0 : ck_l 11 true cX11_init 0 k_X11_init_0 = true := by decide +kernel
set_option maxRecDepth 100000 in
theorem oc_X11_init_1 : ck_l 11 true cX11_init 100 k_X11_init_1 = true := by decide +kernel
set_option maxRecDepth 100000 in
theorem oc_X11_init_2 : ck_l 11 true cX11_init 200 k_X11_init_2 = true := by decide +kernel
theorem ok_X11_init : ck_M q_X11_init := ck_M_of 11 rfl (ini := true) (by decide +kernel) (ck_l_app oc_X11_init_0 (ck_l_app oc_X11_init_1 (oc_X11_init_2)))
set_option maxRecDepth 100000 in
theorem ok_X11_sign : ck_M q_X11_sign := ck_M_of 11 rfl (ini := false) (by decide +kernel) (by decide +kernel)
set_option maxRecDepth 100000 in
theorem ok_X11_end : ck_M q_X11_end := ck_M_of 11 rfl (ini := false) (by decide +kernel) (by decide +kernel)
set_option maxRecDepth 100000 in
theorem ok_X11_houses : ck_M q_X11_houses := ck_M_of 11 rfl (ini := false) (by decide +kernel) (by decide +kernel)
set_option maxRecDepth 100000 in
theorem ok_X11_things : ck_M q_X11_things := ck_M_of 11 rfl (ini := false) (by decide +kernel) (by decide +kernel)
set_option maxRecDepth 100000 in
theorem ok_X11_kinds : ck_M q_X11_kinds := ck_M_of 11 rfl (ini := false) (by decide +kernel) (by decide +kernel)
set_option maxRecDepth 100000 in
theorem ok_X11_rule : ck_M q_X11_rule := ck_M_of 11 rfl (ini := false) (by decide +kernel) (by decide +kernel)
set_option maxRecDepth 100000 in
theorem oc_X11_thing_0 : ck_l 11 false cX11_thing 0 k_X11_thing_0 = true := by decide +kernel
set_option maxRecDepth 100000 in
theorem oc_X11_thing_1 : ck_l 11 false cX11_thing 100 k_X11_thing_1 = true := by decide +kernel
theorem ok_X11_thing : ck_M q_X11_thing := ck_M_of 11 rfl (ini := false) (by decide +kernel) (ck_l_app oc_X11_thing_0 (oc_X11_thing_1))
set_option maxRecDepth 100000 in
theorem ok_X11_kind : ck_M q_X11_kind := ck_M_of 11 rfl (ini := false) (by decide +kernel) (by decide +kernel)
set_option maxRecDepth 100000 in
theorem ok_X11_house : ck_M q_X11_house := ck_M_of 11 rfl (ini := false) (by decide +kernel) (by decide +kernel)
set_option maxRecDepth 100000 in
theorem ok_X11_worth : ck_M q_X11_worth := ck_M_of 11 rfl (ini := false) (by decide +kernel) (by decide +kernel)
set_option maxRecDepth 100000 in
theorem ok_X11_set : ck_M q_X11_set := ck_M_of 11 rfl (ini := false) (by decide +kernel) (by decide +kernel)
set_option maxRecDepth 100000 in
theorem oc_X11_sheet_0 : ck_l 11 false cX11_sheet 0 k_X11_sheet_0 = true := by decide +kernel
set_option maxRecDepth 100000 in
theorem oc_X11_sheet_1 : ck_l 11 false cX11_sheet 100 k_X11_sheet_1 = true := by decide +kernel
theorem ok_X11_sheet : ck_M q_X11_sheet := ck_M_of 11 rfl (ini := false) (by decide +kernel) (ck_l_app oc_X11_sheet_0 (oc_X11_sheet_1))
set_option maxRecDepth 100000 in
theorem ok_X11_buy : ck_M q_X11_buy := ck_M_of 11 rfl (ini := false) (by decide +kernel) (by decide +kernel)
set_option maxRecDepth 100000 in
theorem ok_X11_give : ck_M q_X11_give := ck_M_of 11 rfl (ini := false) (by decide +kernel) (by decide +kernel)
set_option maxRecDepth 100000 in
theorem ok_X11_lend : ck_M q_X11_lend := ck_M_of 11 rfl (ini := false) (by decide +kernel) (by decide +kernel)
set_option maxRecDepth 100000 in
theorem ok_X11_claim : ck_M q_X11_claim := ck_M_of 11 rfl (ini := false) (by decide +kernel) (by decide +kernel)
set_option maxRecDepth 100000 in
theorem ok_X11_paint : ck_M q_X11_paint := ck_M_of 11 rfl (ini := false) (by decide +kernel) (by decide +kernel)
set_option maxRecDepth 100000 in
theorem ok_X11_hours : ck_M q_X11_hours := ck_M_of 11 rfl (ini := false) (by decide +kernel) (by decide +kernel)
set_option maxRecDepth 100000 in
theorem oc_X11_day_0 : ck_l 11 false cX11_day 0 k_X11_day_0 = true := by decide +kernel
set_option maxRecDepth 100000 in
theorem oc_X11_day_1 : ck_l 11 false cX11_day 100 k_X11_day_1 = true := by decide +kernel
theorem ok_X11_day : ck_M q_X11_day := ck_M_of 11 rfl (ini := false) (by decide +kernel) (ck_l_app oc_X11_day_0 (oc_X11_day_1))
set_option maxRecDepth 100000 in
theorem ok_X11_undo : ck_M q_X11_undo := ck_M_of 11 rfl (ini := false) (by decide +kernel) (by decide +kernel)
set_option maxRecDepth 100000 in
theorem ok_X11_broken : ck_M q_X11_broken := ck_M_of 11 rfl (ini := false) (by decide +kernel) (by decide +kernel)
set_option maxRecDepth 100000 in
theorem ok_X11_would : ck_M q_X11_would := ck_M_of 11 rfl (ini := false) (by decide +kernel) (by decide +kernel)
set_option maxRecDepth 100000 in
theorem ok_X11_rid : ck_M q_X11_rid := ck_M_of 11 rfl (ini := false) (by decide +kernel) (by decide +kernel)
set_option maxRecDepth 100000 in
theorem ok_X11_most : ck_M q_X11_most := ck_M_of 11 rfl (ini := false) (by decide +kernel) (by decide +kernel)
set_option maxRecDepth 100000 in
theorem ok_X11_alike : ck_M q_X11_alike := ck_M_of 11 rfl (ini := false) (by decide +kernel) (by decide +kernel)
set_option maxRecDepth 100000 in
theorem ok_X11_trust : ck_M q_X11_trust := ck_M_of 11 rfl (ini := false) (by decide +kernel) (by decide +kernel)
set_option maxRecDepth 100000 in
theorem ok_X11_visit : ck_M q_X11_visit := ck_M_of 11 rfl (ini := false) (by decide +kernel) (by decide +kernel)
set_option maxRecDepth 100000 in
theorem ok_X11_store : ck_M q_X11_store := ck_M_of 11 rfl (ini := false) (by decide +kernel) (by decide +kernel)
set_option maxRecDepth 100000 in
theorem ok_X11_strike : ck_M q_X11_strike := ck_M_of 11 rfl (ini := false) (by decide +kernel) (by decide +kernel)
set_option maxRecDepth 100000 in
theorem oc_X11_border_0 : ck_l 11 false cX11_border 0 k_X11_border_0 = true := by decide +kernel
set_option maxRecDepth 100000 in
theorem oc_X11_border_1 : ck_l 11 false cX11_border 100 k_X11_border_1 = true := by decide +kernel
theorem ok_X11_border : ck_M q_X11_border := ck_M_of 11 rfl (ini := false) (by decide +kernel) (ck_l_app oc_X11_border_0 (oc_X11_border_1))
set_option maxRecDepth 100000 in
theorem oc_X11_exchange_0 : ck_l 11 false cX11_exchange 0 k_X11_exchange_0 = true := by decide +kernel
set_option maxRecDepth 100000 in
theorem oc_X11_exchange_1 : ck_l 11 false cX11_exchange 100 k_X11_exchange_1 = true := by decide +kernel
theorem ok_X11_exchange : ck_M q_X11_exchange := ck_M_of 11 rfl (ini := false) (by decide +kernel) (ck_l_app oc_X11_exchange_0 (oc_X11_exchange_1))
set_option maxRecDepth 100000 in
theorem ok_X11_name : ck_M q_X11_name := ck_M_of 11 rfl (ini := false) (by decide +kernel) (by decide +kernel)
set_option maxRecDepth 100000 in
theorem ok_X11_deal : ck_M q_X11_deal := ck_M_of 11 rfl (ini := false) (by decide +kernel) (by decide +kernel)
set_option maxRecDepth 100000 in
theorem ok_X11_vote : ck_M q_X11_vote := ck_M_of 11 rfl (ini := false) (by decide +kernel) (by decide +kernel)
set_option maxRecDepth 100000 in
theorem ok_X11_pays : ck_M q_X11_pays := ck_M_of 11 rfl (ini := false) (by decide +kernel) (by decide +kernel)
set_option maxRecDepth 100000 in
theorem ok_X11_coins : ck_M q_X11_coins := ck_M_of 11 rfl (ini := false) (by decide +kernel) (by decide +kernel)
set_option maxRecDepth 100000 in
theorem oc_X11_had_0 : ck_l 11 false cX11_had 0 k_X11_had_0 = true := by decide +kernel
set_option maxRecDepth 100000 in
theorem oc_X11_had_1 : ck_l 11 false cX11_had 100 k_X11_had_1 = true := by decide +kernel
theorem ok_X11_had : ck_M q_X11_had := ck_M_of 11 rfl (ini := false) (by decide +kernel) (ck_l_app oc_X11_had_0 (oc_X11_had_1))
set_option maxRecDepth 100000 in
theorem ok_X11_heard : ck_M q_X11_heard := ck_M_of 11 rfl (ini := false) (by decide +kernel) (by decide +kernel)
set_option maxRecDepth 100000 in
theorem ok_X11_forget : ck_M q_X11_forget := ck_M_of 11 rfl (ini := false) (by decide +kernel) (by decide +kernel)
set_option maxRecDepth 100000 in
theorem ok_X11_whose : ck_M q_X11_whose := ck_M_of 11 rfl (ini := false) (by decide +kernel) (by decide +kernel)
set_option maxRecDepth 100000 in
theorem oc_X11_ask_0 : ck_l 11 false cX11_ask 0 k_X11_ask_0 = true := by decide +kernel
set_option maxRecDepth 100000 in
theorem oc_X11_ask_1 : ck_l 11 false cX11_ask 100 k_X11_ask_1 = true := by decide +kernel
theorem ok_X11_ask : ck_M q_X11_ask := ck_M_of 11 rfl (ini := false) (by decide +kernel) (ck_l_app oc_X11_ask_0 (oc_X11_ask_1))
set_option maxRecDepth 100000 in
theorem ok_X11_seen : ck_M q_X11_seen := ck_M_of 11 rfl (ini := false) (by decide +kernel) (by decide +kernel)
set_option maxRecDepth 100000 in
theorem oc_X11_finds_0 : ck_l 11 false cX11_finds 0 k_X11_finds_0 = true := by decide +kernel
set_option maxRecDepth 100000 in
theorem oc_X11_finds_1 : ck_l 11 false cX11_finds 100 k_X11_finds_1 = true := by decide +kernel
theorem ok_X11_finds : ck_M q_X11_finds := ck_M_of 11 rfl (ini := false) (by decide +kernel) (ck_l_app oc_X11_finds_0 (oc_X11_finds_1))
set_option maxRecDepth 100000 in
theorem oc_X11_rests_0 : ck_l 11 false cX11_rests 0 k_X11_rests_0 = true := by decide +kernel
set_option maxRecDepth 100000 in
theorem oc_X11_rests_1 : ck_l 11 false cX11_rests 100 k_X11_rests_1 = true := by decide +kernel
theorem ok_X11_rests : ck_M q_X11_rests := ck_M_of 11 rfl (ini := false) (by decide +kernel) (ck_l_app oc_X11_rests_0 (oc_X11_rests_1))
set_option maxRecDepth 100000 in
theorem oc_X11_years_0 : ck_l 11 false cX11_years 0 k_X11_years_0 = true := by decide +kernel
set_option maxRecDepth 100000 in
theorem oc_X11_years_1 : ck_l 11 false cX11_years 100 k_X11_years_1 = true := by decide +kernel
theorem ok_X11_years : ck_M q_X11_years := ck_M_of 11 rfl (ini := false) (by decide +kernel) (ck_l_app oc_X11_years_0 (oc_X11_years_1))
set_option maxRecDepth 100000 in
theorem ok_X11_keep : ck_M q_X11_keep := ck_M_of 11 rfl (ini := false) (by decide +kernel) (by decide +kernel)
set_option maxRecDepth 100000 in
theorem ok_X11_again : ck_M q_X11_again := ck_M_of 11 rfl (ini := false) (by decide +kernel) (by decide +kernel)
set_option maxRecDepth 100000 in
theorem oc_X11_count_0 : ck_l 11 false cX11_count 0 k_X11_count_0 = true := by decide +kernel
set_option maxRecDepth 100000 in
theorem oc_X11_count_1 : ck_l 11 false cX11_count 100 k_X11_count_1 = true := by decide +kernel
theorem ok_X11_count : ck_M q_X11_count := ck_M_of 11 rfl (ini := false) (by decide +kernel) (ck_l_app oc_X11_count_0 (oc_X11_count_1))
set_option maxRecDepth 100000 in
theorem ok_X11_row : ck_M q_X11_row := ck_M_of 11 rfl (ini := false) (by decide +kernel) (by decide +kernel)
set_option maxRecDepth 100000 in
theorem ok_X11_forgetStates : ck_M q_X11_forgetStates := ck_M_of 11 rfl (ini := false) (by decide +kernel) (by decide +kernel)
set_option maxRecDepth 100000 in
theorem ok_X11_tellNothing : ck_M q_X11_tellNothing := ck_M_of 11 rfl (ini := false) (by decide +kernel) (by decide +kernel)
set_option maxRecDepth 100000 in
theorem ok_X11_tellBesides : ck_M q_X11_tellBesides := ck_M_of 11 rfl (ini := false) (by decide +kernel) (by decide +kernel)
set_option maxRecDepth 100000 in
theorem ok_X11_tellOne : ck_M q_X11_tellOne := ck_M_of 11 rfl (ini := false) (by decide +kernel) (by decide +kernel)
set_option maxRecDepth 100000 in
theorem ok_X11_tellTwo : ck_M q_X11_tellTwo := ck_M_of 11 rfl (ini := false) (by decide +kernel) (by decide +kernel)
set_option maxRecDepth 100000 in
theorem ok_X11_sheetEntry : ck_M q_X11_sheetEntry := ck_M_of 11 rfl (ini := false) (by decide +kernel) (by decide +kernel)
set_option maxRecDepth 100000 in
theorem ok_X11_doneAlone : ck_M q_X11_doneAlone := ck_M_of 11 rfl (ini := false) (by decide +kernel) (by decide +kernel)
set_option maxRecDepth 100000 in
theorem oc_X11_acted_0 : ck_l 11 false cX11_acted 0 k_X11_acted_0 = true := by decide +kernel
set_option maxRecDepth 100000 in
theorem oc_X11_acted_1 : ck_l 11 false cX11_acted 100 k_X11_acted_1 = true := by decide +kernel
theorem ok_X11_acted : ck_M q_X11_acted := ck_M_of 11 rfl (ini := false) (by decide +kernel) (ck_l_app oc_X11_acted_0 (oc_X11_acted_1))
set_option maxRecDepth 100000 in
theorem oc_X11_bought_0 : ck_l 11 false cX11_bought 0 k_X11_bought_0 = true := by decide +kernel
set_option maxRecDepth 100000 in
theorem oc_X11_bought_1 : ck_l 11 false cX11_bought 100 k_X11_bought_1 = true := by decide +kernel
theorem ok_X11_bought : ck_M q_X11_bought := ck_M_of 11 rfl (ini := false) (by decide +kernel) (ck_l_app oc_X11_bought_0 (oc_X11_bought_1))
set_option maxRecDepth 100000 in
theorem ok_X11_worthOfAll : ck_M q_X11_worthOfAll := ck_M_of 11 rfl (ini := false) (by decide +kernel) (by decide +kernel)
set_option maxRecDepth 100000 in
theorem ok_X11_fewestToGiveAway : ck_M q_X11_fewestToGiveAway := ck_M_of 11 rfl (ini := false) (by decide +kernel) (by decide +kernel)
set_option maxRecDepth 100000 in
theorem ok_X11_breakingIfNarrowed : ck_M q_X11_breakingIfNarrowed := ck_M_of 11 rfl (ini := false) (by decide +kernel) (by decide +kernel)
set_option maxRecDepth 100000 in
theorem ok_X11_freedByStriking : ck_M q_X11_freedByStriking := ck_M_of 11 rfl (ini := false) (by decide +kernel) (by decide +kernel)
set_option maxRecDepth 100000 in
theorem ok_X11_fewerTraits : ck_M q_X11_fewerTraits := ck_M_of 11 rfl (ini := false) (by decide +kernel) (by decide +kernel)
set_option maxRecDepth 100000 in
theorem ok_X11_fittingHouses : ck_M q_X11_fittingHouses := ck_M_of 11 rfl (ini := false) (by decide +kernel) (by decide +kernel)
set_option maxRecDepth 100000 in
theorem ok_X11_likely : ck_M q_X11_likely := ck_M_of 11 rfl (ini := false) (by decide +kernel) (by decide +kernel)
set_option maxRecDepth 100000 in
theorem ok_X11_power : ck_M q_X11_power := ck_M_of 11 rfl (ini := false) (by decide +kernel) (by decide +kernel)
set_option maxRecDepth 100000 in
theorem ok_X11_commonDivisor : ck_M q_X11_commonDivisor := ck_M_of 11 rfl (ini := false) (by decide +kernel) (by decide +kernel)
set_option maxRecDepth 100000 in
theorem ok_X11_startChances : ck_M q_X11_startChances := ck_M_of 11 rfl (ini := false) (by decide +kernel) (by decide +kernel)
set_option maxRecDepth 100000 in
theorem ok_X11_shiftChances : ck_M q_X11_shiftChances := ck_M_of 11 rfl (ini := false) (by decide +kernel) (by decide +kernel)
set_option maxRecDepth 100000 in
theorem ok_X11_stays : ck_M q_X11_stays := ck_M_of 11 rfl (ini := false) (by decide +kernel) (by decide +kernel)
set_option maxRecDepth 100000 in
theorem ok_X11_gain : ck_M q_X11_gain := ck_M_of 11 rfl (ini := false) (by decide +kernel) (by decide +kernel)
set_option maxRecDepth 100000 in
theorem ok_X11_nextRandom : ck_M q_X11_nextRandom := ck_M_of 11 rfl (ini := false) (by decide +kernel) (by decide +kernel)
