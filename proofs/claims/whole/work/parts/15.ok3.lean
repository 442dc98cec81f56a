set_option maxRecDepth 100000 in
theorem ok_X12_would : ck_M q_X12_would := ck_M_of 12 rfl (ini := false) (by decide +kernel) (by decide +kernel)
set_option maxRecDepth 100000 in
theorem ok_X12_rid : ck_M q_X12_rid := ck_M_of 12 rfl (ini := false) (by decide +kernel) (by decide +kernel)
set_option maxRecDepth 100000 in
theorem ok_X12_mayKeep : ck_M q_X12_mayKeep := ck_M_of 12 rfl (ini := false) (by decide +kernel) (by decide +kernel)
set_option maxRecDepth 100000 in
theorem oc_X12_most_0 : ck_l 12 false cX12_most 0 k_X12_most_0 = true := by decide +kernel
set_option maxRecDepth 100000 in
theorem oc_X12_most_1 : ck_l 12 false cX12_most 100 k_X12_most_1 = true := by decide +kernel
theorem ok_X12_most : ck_M q_X12_most := ck_M_of 12 rfl (ini := false) (by decide +kernel) (ck_l_app oc_X12_most_0 (oc_X12_most_1))
set_option maxRecDepth 100000 in
theorem ok_X12_alike : ck_M q_X12_alike := ck_M_of 12 rfl (ini := false) (by decide +kernel) (by decide +kernel)
set_option maxRecDepth 100000 in
theorem oc_X12_trust_0 : ck_l 12 false cX12_trust 0 k_X12_trust_0 = true := by decide +kernel
set_option maxRecDepth 100000 in
theorem oc_X12_trust_1 : ck_l 12 false cX12_trust 100 k_X12_trust_1 = true := by decide +kernel
theorem ok_X12_trust : ck_M q_X12_trust := ck_M_of 12 rfl (ini := false) (by decide +kernel) (ck_l_app oc_X12_trust_0 (oc_X12_trust_1))
set_option maxRecDepth 100000 in
theorem ok_X12_visit : ck_M q_X12_visit := ck_M_of 12 rfl (ini := false) (by decide +kernel) (by decide +kernel)
set_option maxRecDepth 100000 in
theorem oc_X12_goStore_0 : ck_l 12 false cX12_goStore 0 k_X12_goStore_0 = true := by decide +kernel
set_option maxRecDepth 100000 in
theorem oc_X12_goStore_1 : ck_l 12 false cX12_goStore 100 k_X12_goStore_1 = true := by decide +kernel
theorem ok_X12_goStore : ck_M q_X12_goStore := ck_M_of 12 rfl (ini := false) (by decide +kernel) (ck_l_app oc_X12_goStore_0 (oc_X12_goStore_1))
set_option maxRecDepth 100000 in
theorem oc_X12_store_0 : ck_l 12 false cX12_store 0 k_X12_store_0 = true := by decide +kernel
set_option maxRecDepth 100000 in
theorem oc_X12_store_1 : ck_l 12 false cX12_store 100 k_X12_store_1 = true := by decide +kernel
theorem ok_X12_store : ck_M q_X12_store := ck_M_of 12 rfl (ini := false) (by decide +kernel) (ck_l_app oc_X12_store_0 (oc_X12_store_1))
set_option maxRecDepth 100000 in
theorem ok_X12_strike : ck_M q_X12_strike := ck_M_of 12 rfl (ini := false) (by decide +kernel) (by decide +kernel)
set_option maxRecDepth 100000 in
theorem oc_X12_border_0 : ck_l 12 false cX12_border 0 k_X12_border_0 = true := by decide +kernel
set_option maxRecDepth 100000 in
theorem oc_X12_border_1 : ck_l 12 false cX12_border 100 k_X12_border_1 = true := by decide +kernel
theorem ok_X12_border : ck_M q_X12_border := ck_M_of 12 rfl (ini := false) (by decide +kernel) (ck_l_app oc_X12_border_0 (oc_X12_border_1))
set_option maxRecDepth 100000 in
theorem oc_X12_exchange_0 : ck_l 12 false cX12_exchange 0 k_X12_exchange_0 = true := by decide +kernel
set_option maxRecDepth 100000 in
theorem oc_X12_exchange_1 : ck_l 12 false cX12_exchange 100 k_X12_exchange_1 = true := by decide +kernel
theorem ok_X12_exchange : ck_M q_X12_exchange := ck_M_of 12 rfl (ini := false) (by decide +kernel) (ck_l_app oc_X12_exchange_0 (oc_X12_exchange_1))
set_option maxRecDepth 100000 in
theorem ok_X12_withAll : ck_M q_X12_withAll := ck_M_of 12 rfl (ini := false) (by decide +kernel) (by decide +kernel)
set_option maxRecDepth 100000 in
theorem ok_X12_isFewer : ck_M q_X12_isFewer := ck_M_of 12 rfl (ini := false) (by decide +kernel) (by decide +kernel)
set_option maxRecDepth 100000 in
theorem ok_X12_name : ck_M q_X12_name := ck_M_of 12 rfl (ini := false) (by decide +kernel) (by decide +kernel)
set_option maxRecDepth 100000 in
theorem oc_X12_goDeal_0 : ck_l 12 false cX12_goDeal 0 k_X12_goDeal_0 = true := by decide +kernel
set_option maxRecDepth 100000 in
theorem oc_X12_goDeal_1 : ck_l 12 false cX12_goDeal 100 k_X12_goDeal_1 = true := by decide +kernel
theorem ok_X12_goDeal : ck_M q_X12_goDeal := ck_M_of 12 rfl (ini := false) (by decide +kernel) (ck_l_app oc_X12_goDeal_0 (oc_X12_goDeal_1))
set_option maxRecDepth 100000 in
theorem oc_X12_deal_0 : ck_l 12 false cX12_deal 0 k_X12_deal_0 = true := by decide +kernel
set_option maxRecDepth 100000 in
theorem oc_X12_deal_1 : ck_l 12 false cX12_deal 100 k_X12_deal_1 = true := by decide +kernel
theorem ok_X12_deal : ck_M q_X12_deal := ck_M_of 12 rfl (ini := false) (by decide +kernel) (ck_l_app oc_X12_deal_0 (oc_X12_deal_1))
set_option maxRecDepth 100000 in
theorem oc_X12_vote_0 : ck_l 12 false cX12_vote 0 k_X12_vote_0 = true := by decide +kernel
set_option maxRecDepth 100000 in
theorem oc_X12_vote_1 : ck_l 12 false cX12_vote 100 k_X12_vote_1 = true := by decide +kernel
theorem ok_X12_vote : ck_M q_X12_vote := ck_M_of 12 rfl (ini := false) (by decide +kernel) (ck_l_app oc_X12_vote_0 (oc_X12_vote_1))
set_option maxRecDepth 100000 in
theorem ok_X12_canPay : ck_M q_X12_canPay := ck_M_of 12 rfl (ini := false) (by decide +kernel) (by decide +kernel)
set_option maxRecDepth 100000 in
theorem ok_X12_paysUpTo : ck_M q_X12_paysUpTo := ck_M_of 12 rfl (ini := false) (by decide +kernel) (by decide +kernel)
set_option maxRecDepth 100000 in
theorem ok_X12_pays : ck_M q_X12_pays := ck_M_of 12 rfl (ini := false) (by decide +kernel) (by decide +kernel)
set_option maxRecDepth 100000 in
theorem oc_X12_coins_0 : ck_l 12 false cX12_coins 0 k_X12_coins_0 = true := by decide +kernel
set_option maxRecDepth 100000 in
theorem oc_X12_coins_1 : ck_l 12 false cX12_coins 100 k_X12_coins_1 = true := by decide +kernel
theorem ok_X12_coins : ck_M q_X12_coins := ck_M_of 12 rfl (ini := false) (by decide +kernel) (ck_l_app oc_X12_coins_0 (oc_X12_coins_1))
set_option maxRecDepth 100000 in
theorem oc_X12_had_0 : ck_l 12 false cX12_had 0 k_X12_had_0 = true := by decide +kernel
set_option maxRecDepth 100000 in
theorem oc_X12_had_1 : ck_l 12 false cX12_had 100 k_X12_had_1 = true := by decide +kernel
theorem ok_X12_had : ck_M q_X12_had := ck_M_of 12 rfl (ini := false) (by decide +kernel) (ck_l_app oc_X12_had_0 (oc_X12_had_1))
set_option maxRecDepth 100000 in
theorem ok_X12_heard : ck_M q_X12_heard := ck_M_of 12 rfl (ini := false) (by decide +kernel) (by decide +kernel)
set_option maxRecDepth 100000 in
theorem ok_X12_forget : ck_M q_X12_forget := ck_M_of 12 rfl (ini := false) (by decide +kernel) (by decide +kernel)
set_option maxRecDepth 100000 in
theorem ok_X12_fits : ck_M q_X12_fits := ck_M_of 12 rfl (ini := false) (by decide +kernel) (by decide +kernel)
set_option maxRecDepth 100000 in
theorem ok_X12_whose : ck_M q_X12_whose := ck_M_of 12 rfl (ini := false) (by decide +kernel) (by decide +kernel)
set_option maxRecDepth 100000 in
theorem oc_X12_ask_0 : ck_l 12 false cX12_ask 0 k_X12_ask_0 = true := by decide +kernel
set_option maxRecDepth 100000 in
theorem oc_X12_ask_1 : ck_l 12 false cX12_ask 100 k_X12_ask_1 = true := by decide +kernel
theorem ok_X12_ask : ck_M q_X12_ask := ck_M_of 12 rfl (ini := false) (by decide +kernel) (ck_l_app oc_X12_ask_0 (oc_X12_ask_1))
set_option maxRecDepth 100000 in
theorem ok_X12_common : ck_M q_X12_common := ck_M_of 12 rfl (ini := false) (by decide +kernel) (by decide +kernel)
set_option maxRecDepth 100000 in
theorem oc_X12_seesBy_0 : ck_l 12 false cX12_seesBy 0 k_X12_seesBy_0 = true := by decide +kernel
set_option maxRecDepth 100000 in
theorem oc_X12_seesBy_1 : ck_l 12 false cX12_seesBy 100 k_X12_seesBy_1 = true := by decide +kernel
theorem ok_X12_seesBy : ck_M q_X12_seesBy := ck_M_of 12 rfl (ini := false) (by decide +kernel) (ck_l_app oc_X12_seesBy_0 (oc_X12_seesBy_1))
set_option maxRecDepth 100000 in
theorem ok_X12_seen : ck_M q_X12_seen := ck_M_of 12 rfl (ini := false) (by decide +kernel) (by decide +kernel)
set_option maxRecDepth 100000 in
theorem oc_X12_finds_0 : ck_l 12 false cX12_finds 0 k_X12_finds_0 = true := by decide +kernel
set_option maxRecDepth 100000 in
theorem oc_X12_finds_1 : ck_l 12 false cX12_finds 100 k_X12_finds_1 = true := by decide +kernel
set_option maxRecDepth 100000 in
theorem oc_X12_finds_2 : ck_l 12 false cX12_finds 200 k_X12_finds_2 = true := by decide +kernel
theorem ok_X12_finds : ck_M q_X12_finds := ck_M_of 12 rfl (ini := false) (by decide +kernel) (ck_l_app oc_X12_finds_0 (ck_l_app oc_X12_finds_1 (oc_X12_finds_2)))
set_option maxRecDepth 100000 in
theorem ok_X12_gets : ck_M q_X12_gets := ck_M_of 12 rfl (ini := false) (by decide +kernel) (by decide +kernel)
set_option maxRecDepth 100000 in
theorem ok_X12_isBest : ck_M q_X12_isBest := ck_M_of 12 rfl (ini := false) (by decide +kernel) (by decide +kernel)
set_option maxRecDepth 100000 in
theorem oc_X12_rests_0 : ck_l 12 false cX12_rests 0 k_X12_rests_0 = true := by decide +kernel
set_option maxRecDepth 100000 in
theorem oc_X12_rests_1 : ck_l 12 false cX12_rests 100 k_X12_rests_1 = true := by decide +kernel
theorem ok_X12_rests : ck_M q_X12_rests := ck_M_of 12 rfl (ini := false) (by decide +kernel) (ck_l_app oc_X12_rests_0 (oc_X12_rests_1))
set_option maxRecDepth 100000 in
theorem ok_X12_draw : ck_M q_X12_draw := ck_M_of 12 rfl (ini := false) (by decide +kernel) (by decide +kernel)
set_option maxRecDepth 100000 in
theorem oc_X12_years_0 : ck_l 12 false cX12_years 0 k_X12_years_0 = true := by decide +kernel
set_option maxRecDepth 100000 in
theorem oc_X12_years_1 : ck_l 12 false cX12_years 100 k_X12_years_1 = true := by decide +kernel
theorem ok_X12_years : ck_M q_X12_years := ck_M_of 12 rfl (ini := false) (by decide +kernel) (ck_l_app oc_X12_years_0 (oc_X12_years_1))
set_option maxRecDepth 100000 in
theorem ok_X12_keep : ck_M q_X12_keep := ck_M_of 12 rfl (ini := false) (by decide +kernel) (by decide +kernel)
set_option maxRecDepth 100000 in
theorem ok_X12_again : ck_M q_X12_again := ck_M_of 12 rfl (ini := false) (by decide +kernel) (by decide +kernel)
set_option maxRecDepth 100000 in
theorem oc_X12_count_0 : ck_l 12 false cX12_count 0 k_X12_count_0 = true := by decide +kernel
set_option maxRecDepth 100000 in
theorem oc_X12_count_1 : ck_l 12 false cX12_count 100 k_X12_count_1 = true := by decide +kernel
theorem ok_X12_count : ck_M q_X12_count := ck_M_of 12 rfl (ini := false) (by decide +kernel) (ck_l_app oc_X12_count_0 (oc_X12_count_1))
set_option maxRecDepth 100000 in
theorem ok_X12_row : ck_M q_X12_row := ck_M_of 12 rfl (ini := false) (by decide +kernel) (by decide +kernel)
set_option maxRecDepth 100000 in
theorem ok_J6_highestOneBit_0f7a4 : ck_M q_J6_highestOneBit_0f7a4 := ck_M_of 15 rfl (ini := false) (by decide +kernel) (by decide +kernel)
set_option maxRecDepth 100000 in
theorem ok_J6_numberOfLeadingZeros_0f7a4 : ck_M q_J6_numberOfLeadingZeros_0f7a4 := ck_M_of 15 rfl (ini := false) (by decide +kernel) (by decide +kernel)
set_option maxRecDepth 100000 in
theorem ok_J6_numberOfTrailingZeros_0f7a4 : ck_M q_J6_numberOfTrailingZeros_0f7a4 := ck_M_of 15 rfl (ini := false) (by decide +kernel) (by decide +kernel)
set_option maxRecDepth 100000 in
theorem ok_J6_bitCount_0f7a4 : ck_M q_J6_bitCount_0f7a4 := ck_M_of 15 rfl (ini := false) (by decide +kernel) (by decide +kernel)
set_option maxRecDepth 100000 in
theorem ok_J13_bitCount_95d88 : ck_M q_J13_bitCount_95d88 := ck_M_of 17 rfl (ini := false) (by decide +kernel) (by decide +kernel)
set_option maxRecDepth 100000 in
theorem oc_L_law_0 : ck_l 14 false cL_law 0 k_L_law_0 = true := by decide +kernel
set_option maxRecDepth 100000 in
theorem oc_L_law_1 : ck_l 14 false cL_law 100 k_L_law_1 = true := by decide +kernel
set_option maxRecDepth 100000 in
theorem oc_L_law_2 : ck_l 14 false cL_law 200 k_L_law_2 = true := by decide +kernel
set_option maxRecDepth 100000 in
theorem oc_L_law_3 : ck_l 14 false cL_law 300 k_L_law_3 = true := by decide +kernel
set_option maxRecDepth 100000 in
theorem oc_L_law_4 : ck_l 14 false cL_law 400 k_L_law_4 = true := by decide +kernel
set_option maxRecDepth 100000 in
theorem oc_L_law_5 : ck_l 14 false cL_law 500 k_L_law_5 = true := by decide +kernel
set_option maxRecDepth 100000 in
theorem oc_L_law_6 : ck_l 14 false cL_law 600 k_L_law_6 = true := by decide +kernel
set_option maxRecDepth 100000 in
theorem oc_L_law_7 : ck_l 14 false cL_law 700 k_L_law_7 = true := by decide +kernel
set_option maxRecDepth 100000 in
theorem oc_L_law_8 : ck_l 14 false cL_law 800 k_L_law_8 = true := by decide +kernel
set_option maxRecDepth 100000 in
theorem oc_L_law_9 : ck_l 14 false cL_law 900 k_L_law_9 = true := by decide +kernel
set_option maxRecDepth 100000 in
theorem oc_L_law_10 : ck_l 14 false cL_law 1000 k_L_law_10 = true := by decide +kernel
set_option maxRecDepth 100000 in
theorem oc_L_law_11 : ck_l 14 false cL_law 1100 k_L_law_11 = true := by decide +kernel
set_option maxRecDepth 100000 in
theorem oc_L_law_12 : ck_l 14 false cL_law 1200 k_L_law_12 = true := by decide +kernel
set_option maxRecDepth 100000 in
theorem oc_L_law_13 : ck_l 14 false cL_law 1300 k_L_law_13 = true := by decide +kernel
set_option maxRecDepth 100000 in
theorem oc_L_law_14 : ck_l 14 false cL_law 1400 k_L_law_14 = true := by decide +kernel
set_option maxRecDepth 100000 in
theorem oc_L_law_15 : ck_l 14 false cL_law 1500 k_L_law_15 = true := by decide +kernel
set_option maxRecDepth 100000 in
theorem oc_L_law_16 : ck_l 14 false cL_law 1600 k_L_law_16 = true := by decide +kernel
set_option maxRecDepth 100000 in
theorem oc_L_law_17 : ck_l 14 false cL_law 1700 k_L_law_17 = true := by decide +kernel
theorem ok_L_law : ck_M q_L_law := ck_M_of 14 rfl (ini := false) (by decide +kernel) (ck_l_app oc_L_law_0 (ck_l_app oc_L_law_1 (ck_l_app oc_L_law_2 (ck_l_app oc_L_law_3 (ck_l_app oc_L_law_4 (ck_l_app oc_L_law_5 (ck_l_app oc_L_law_6 (ck_l_app oc_L_law_7 (ck_l_app oc_L_law_8 (ck_l_app oc_L_law_9 (ck_l_app oc_L_law_10 (ck_l_app oc_L_law_11 (ck_l_app oc_L_law_12 (ck_l_app oc_L_law_13 (ck_l_app oc_L_law_14 (ck_l_app oc_L_law_15 (ck_l_app oc_L_law_16 (oc_L_law_17))))))))))))))))))
