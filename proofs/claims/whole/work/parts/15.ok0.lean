set_option maxRecDepth 100000 in
theorem ok_X0_init : ck_M q_X0_init := ck_M_of 0 rfl (ini := true) (by decide +kernel) (by decide +kernel)
set_option maxRecDepth 100000 in
theorem ok_X0_leastOfMost : ck_M q_X0_leastOfMost := ck_M_of 0 rfl (ini := false) (by decide +kernel) (by decide +kernel)
set_option maxRecDepth 100000 in
theorem ok_X0_greatestOfMost : ck_M q_X0_greatestOfMost := ck_M_of 0 rfl (ini := false) (by decide +kernel) (by decide +kernel)
set_option maxRecDepth 100000 in
theorem oc_X0_look_0 : ck_l 0 false cX0_look 0 k_X0_look_0 = true := by decide +kernel
set_option maxRecDepth 100000 in
theorem oc_X0_look_1 : ck_l 0 false cX0_look 100 k_X0_look_1 = true := by decide +kernel
theorem ok_X0_look : ck_M q_X0_look := ck_M_of 0 rfl (ini := false) (by decide +kernel) (ck_l_app oc_X0_look_0 (oc_X0_look_1))
set_option maxRecDepth 100000 in
theorem ok_X1_init : ck_M q_X1_init := ck_M_of 1 rfl (ini := true) (by decide +kernel) (by decide +kernel)
set_option maxRecDepth 100000 in
theorem oc_X1_mostWorth_0 : ck_l 1 false cX1_mostWorth 0 k_X1_mostWorth_0 = true := by decide +kernel
set_option maxRecDepth 100000 in
theorem oc_X1_mostWorth_1 : ck_l 1 false cX1_mostWorth 100 k_X1_mostWorth_1 = true := by decide +kernel
theorem ok_X1_mostWorth : ck_M q_X1_mostWorth := ck_M_of 1 rfl (ini := false) (by decide +kernel) (ck_l_app oc_X1_mostWorth_0 (oc_X1_mostWorth_1))
set_option maxRecDepth 100000 in
theorem ok_X1_fillGains : ck_M q_X1_fillGains := ck_M_of 1 rfl (ini := false) (by decide +kernel) (by decide +kernel)
set_option maxRecDepth 100000 in
theorem ok_X1_leastChoice : ck_M q_X1_leastChoice := ck_M_of 1 rfl (ini := false) (by decide +kernel) (by decide +kernel)
set_option maxRecDepth 100000 in
theorem ok_X1_bestFrom : ck_M q_X1_bestFrom := ck_M_of 1 rfl (ini := false) (by decide +kernel) (by decide +kernel)
set_option maxRecDepth 100000 in
theorem oc_X1_addThing_0 : ck_l 1 false cX1_addThing 0 k_X1_addThing_0 = true := by decide +kernel
set_option maxRecDepth 100000 in
theorem oc_X1_addThing_1 : ck_l 1 false cX1_addThing 100 k_X1_addThing_1 = true := by decide +kernel
theorem ok_X1_addThing : ck_M q_X1_addThing := ck_M_of 1 rfl (ini := false) (by decide +kernel) (ck_l_app oc_X1_addThing_0 (oc_X1_addThing_1))
set_option maxRecDepth 100000 in
theorem ok_X2_init : ck_M q_X2_init := ck_M_of 2 rfl (ini := true) (by decide +kernel) (by decide +kernel)
set_option maxRecDepth 100000 in
theorem ok_X2_mark : ck_M q_X2_mark := ck_M_of 2 rfl (ini := false) (by decide +kernel) (by decide +kernel)
set_option maxRecDepth 100000 in
theorem ok_X2_hold : ck_M q_X2_hold := ck_M_of 2 rfl (ini := false) (by decide +kernel) (by decide +kernel)
set_option maxRecDepth 100000 in
theorem ok_X2_stepBack : ck_M q_X2_stepBack := ck_M_of 2 rfl (ini := false) (by decide +kernel) (by decide +kernel)
set_option maxRecDepth 100000 in
theorem ok_X2_place : ck_M q_X2_place := ck_M_of 2 rfl (ini := false) (by decide +kernel) (by decide +kernel)
set_option maxRecDepth 100000 in
theorem ok_X3_init : ck_M q_X3_init := ck_M_of 3 rfl (ini := true) (by decide +kernel) (by decide +kernel)
set_option maxRecDepth 100000 in
theorem ok_X3_payable : ck_M q_X3_payable := ck_M_of 3 rfl (ini := false) (by decide +kernel) (by decide +kernel)
set_option maxRecDepth 100000 in
theorem ok_X3_leastMissing : ck_M q_X3_leastMissing := ck_M_of 3 rfl (ini := false) (by decide +kernel) (by decide +kernel)
set_option maxRecDepth 100000 in
theorem ok_X3_mark : ck_M q_X3_mark := ck_M_of 3 rfl (ini := false) (by decide +kernel) (by decide +kernel)
set_option maxRecDepth 100000 in
theorem ok_X3_isMarked : ck_M q_X3_isMarked := ck_M_of 3 rfl (ini := false) (by decide +kernel) (by decide +kernel)
set_option maxRecDepth 100000 in
theorem ok_X4_init : ck_M q_X4_init := ck_M_of 4 rfl (ini := true) (by decide +kernel) (by decide +kernel)
set_option maxRecDepth 100000 in
theorem ok_X4_copy : ck_M q_X4_copy := ck_M_of 4 rfl (ini := false) (by decide +kernel) (by decide +kernel)
set_option maxRecDepth 100000 in
theorem ok_X4_addNumber : ck_M q_X4_addNumber := ck_M_of 4 rfl (ini := false) (by decide +kernel) (by decide +kernel)
set_option maxRecDepth 100000 in
theorem ok_X4_addSign : ck_M q_X4_addSign := ck_M_of 4 rfl (ini := false) (by decide +kernel) (by decide +kernel)
set_option maxRecDepth 100000 in
theorem ok_X4_addPart : ck_M q_X4_addPart := ck_M_of 4 rfl (ini := false) (by decide +kernel) (by decide +kernel)
set_option maxRecDepth 100000 in
theorem ok_X4_value : ck_M q_X4_value := ck_M_of 4 rfl (ini := false) (by decide +kernel) (by decide +kernel)
set_option maxRecDepth 100000 in
theorem oc_X4_computed_0 : ck_l 4 false cX4_computed 0 k_X4_computed_0 = true := by decide +kernel
set_option maxRecDepth 100000 in
theorem oc_X4_computed_1 : ck_l 4 false cX4_computed 100 k_X4_computed_1 = true := by decide +kernel
theorem ok_X4_computed : ck_M q_X4_computed := ck_M_of 4 rfl (ini := false) (by decide +kernel) (ck_l_app oc_X4_computed_0 (oc_X4_computed_1))
set_option maxRecDepth 100000 in
theorem oc_X4_isOperation_0 : ck_l 4 false cX4_isOperation 0 k_X4_isOperation_0 = true := by decide +kernel
set_option maxRecDepth 100000 in
theorem oc_X4_isOperation_1 : ck_l 4 false cX4_isOperation 100 k_X4_isOperation_1 = true := by decide +kernel
theorem ok_X4_isOperation : ck_M q_X4_isOperation := ck_M_of 4 rfl (ini := false) (by decide +kernel) (ck_l_app oc_X4_isOperation_0 (oc_X4_isOperation_1))
set_option maxRecDepth 100000 in
theorem oc_X4_operated_0 : ck_l 4 false cX4_operated 0 k_X4_operated_0 = true := by decide +kernel
set_option maxRecDepth 100000 in
theorem oc_X4_operated_1 : ck_l 4 false cX4_operated 100 k_X4_operated_1 = true := by decide +kernel
theorem ok_X4_operated : ck_M q_X4_operated := ck_M_of 4 rfl (ini := false) (by decide +kernel) (ck_l_app oc_X4_operated_0 (oc_X4_operated_1))
set_option maxRecDepth 100000 in
theorem oc_X4_letter_0 : ck_l 4 false cX4_letter 0 k_X4_letter_0 = true := by decide +kernel
set_option maxRecDepth 100000 in
theorem oc_X4_letter_1 : ck_l 4 false cX4_letter 100 k_X4_letter_1 = true := by decide +kernel
theorem ok_X4_letter : ck_M q_X4_letter := ck_M_of 4 rfl (ini := false) (by decide +kernel) (ck_l_app oc_X4_letter_0 (oc_X4_letter_1))
set_option maxRecDepth 100000 in
theorem ok_X5_init : ck_M q_X5_init := ck_M_of 5 rfl (ini := true) (by decide +kernel) (by decide +kernel)
set_option maxRecDepth 100000 in
theorem ok_X5_read : ck_M q_X5_read := ck_M_of 5 rfl (ini := false) (by decide +kernel) (by decide +kernel)
set_option maxRecDepth 100000 in
theorem ok_X5_readsExpression : ck_M q_X5_readsExpression := ck_M_of 5 rfl (ini := false) (by decide +kernel) (by decide +kernel)
set_option maxRecDepth 100000 in
theorem ok_X5_readsSum : ck_M q_X5_readsSum := ck_M_of 5 rfl (ini := false) (by decide +kernel) (by decide +kernel)
set_option maxRecDepth 100000 in
theorem ok_X5_readsProduct : ck_M q_X5_readsProduct := ck_M_of 5 rfl (ini := false) (by decide +kernel) (by decide +kernel)
set_option maxRecDepth 100000 in
theorem ok_X5_readsSigned : ck_M q_X5_readsSigned := ck_M_of 5 rfl (ini := false) (by decide +kernel) (by decide +kernel)
set_option maxRecDepth 100000 in
theorem oc_X5_readsThing_0 : ck_l 5 false cX5_readsThing 0 k_X5_readsThing_0 = true := by decide +kernel
set_option maxRecDepth 100000 in
theorem oc_X5_readsThing_1 : ck_l 5 false cX5_readsThing 100 k_X5_readsThing_1 = true := by decide +kernel
theorem ok_X5_readsThing : ck_M q_X5_readsThing := ck_M_of 5 rfl (ini := false) (by decide +kernel) (ck_l_app oc_X5_readsThing_0 (oc_X5_readsThing_1))
set_option maxRecDepth 100000 in
theorem ok_X6_init : ck_M q_X6_init := ck_M_of 6 rfl (ini := true) (by decide +kernel) (by decide +kernel)
set_option maxRecDepth 100000 in
theorem ok_X6_copy : ck_M q_X6_copy := ck_M_of 6 rfl (ini := false) (by decide +kernel) (by decide +kernel)
set_option maxRecDepth 100000 in
theorem ok_X7_init : ck_M q_X7_init := ck_M_of 7 rfl (ini := true) (by decide +kernel) (by decide +kernel)
set_option maxRecDepth 100000 in
theorem ok_X7_fewestMoves : ck_M q_X7_fewestMoves := ck_M_of 7 rfl (ini := false) (by decide +kernel) (by decide +kernel)
set_option maxRecDepth 100000 in
theorem ok_X7_list : ck_M q_X7_list := ck_M_of 7 rfl (ini := false) (by decide +kernel) (by decide +kernel)
set_option maxRecDepth 100000 in
theorem oc_X7_placesFrom_0 : ck_l 7 false cX7_placesFrom 0 k_X7_placesFrom_0 = true := by decide +kernel
set_option maxRecDepth 100000 in
theorem oc_X7_placesFrom_1 : ck_l 7 false cX7_placesFrom 100 k_X7_placesFrom_1 = true := by decide +kernel
theorem ok_X7_placesFrom : ck_M q_X7_placesFrom := ck_M_of 7 rfl (ini := false) (by decide +kernel) (ck_l_app oc_X7_placesFrom_0 (oc_X7_placesFrom_1))
set_option maxRecDepth 100000 in
theorem ok_X8_init : ck_M q_X8_init := ck_M_of 8 rfl (ini := true) (by decide +kernel) (by decide +kernel)
set_option maxRecDepth 100000 in
theorem ok_X8_readThings : ck_M q_X8_readThings := ck_M_of 8 rfl (ini := false) (by decide +kernel) (by decide +kernel)
set_option maxRecDepth 100000 in
theorem ok_X8_readKinds : ck_M q_X8_readKinds := ck_M_of 8 rfl (ini := false) (by decide +kernel) (by decide +kernel)
set_option maxRecDepth 100000 in
theorem ok_X8_readDay : ck_M q_X8_readDay := ck_M_of 8 rfl (ini := false) (by decide +kernel) (by decide +kernel)
set_option maxRecDepth 100000 in
theorem ok_X8_readsThing : ck_M q_X8_readsThing := ck_M_of 8 rfl (ini := false) (by decide +kernel) (by decide +kernel)
set_option maxRecDepth 100000 in
theorem ok_X8_readsKind : ck_M q_X8_readsKind := ck_M_of 8 rfl (ini := false) (by decide +kernel) (by decide +kernel)
set_option maxRecDepth 100000 in
theorem oc_X8_readsAct_0 : ck_l 8 false cX8_readsAct 0 k_X8_readsAct_0 = true := by decide +kernel
set_option maxRecDepth 100000 in
theorem oc_X8_readsAct_1 : ck_l 8 false cX8_readsAct 100 k_X8_readsAct_1 = true := by decide +kernel
theorem ok_X8_readsAct : ck_M q_X8_readsAct := ck_M_of 8 rfl (ini := false) (by decide +kernel) (ck_l_app oc_X8_readsAct_0 (oc_X8_readsAct_1))
set_option maxRecDepth 100000 in
theorem ok_X9_init : ck_M q_X9_init := ck_M_of 9 rfl (ini := true) (by decide +kernel) (by decide +kernel)
set_option maxRecDepth 100000 in
theorem ok_X9_append : ck_M q_X9_append := ck_M_of 9 rfl (ini := false) (by decide +kernel) (by decide +kernel)
set_option maxRecDepth 100000 in
theorem ok_X9_open : ck_M q_X9_open := ck_M_of 9 rfl (ini := false) (by decide +kernel) (by decide +kernel)
set_option maxRecDepth 100000 in
theorem ok_X9_peek : ck_M q_X9_peek := ck_M_of 9 rfl (ini := false) (by decide +kernel) (by decide +kernel)
set_option maxRecDepth 100000 in
theorem ok_X9_step : ck_M q_X9_step := ck_M_of 9 rfl (ini := false) (by decide +kernel) (by decide +kernel)
set_option maxRecDepth 100000 in
theorem ok_X9_ended : ck_M q_X9_ended := ck_M_of 9 rfl (ini := false) (by decide +kernel) (by decide +kernel)
set_option maxRecDepth 100000 in
theorem ok_X9_fault : ck_M q_X9_fault := ck_M_of 9 rfl (ini := false) (by decide +kernel) (by decide +kernel)
set_option maxRecDepth 100000 in
theorem ok_X9_takes : ck_M q_X9_takes := ck_M_of 9 rfl (ini := false) (by decide +kernel) (by decide +kernel)
set_option maxRecDepth 100000 in
theorem ok_X9_oneOf : ck_M q_X9_oneOf := ck_M_of 9 rfl (ini := false) (by decide +kernel) (by decide +kernel)
set_option maxRecDepth 100000 in
theorem ok_X9_letters : ck_M q_X9_letters := ck_M_of 9 rfl (ini := false) (by decide +kernel) (by decide +kernel)
set_option maxRecDepth 100000 in
theorem ok_X9_number : ck_M q_X9_number := ck_M_of 9 rfl (ini := false) (by decide +kernel) (by decide +kernel)
set_option maxRecDepth 100000 in
theorem ok_X10_init : ck_M q_X10_init := ck_M_of 10 rfl (ini := true) (by decide +kernel) (by decide +kernel)
set_option maxRecDepth 100000 in
theorem ok_X10_hasHouse : ck_M q_X10_hasHouse := ck_M_of 10 rfl (ini := false) (by decide +kernel) (by decide +kernel)
set_option maxRecDepth 100000 in
theorem ok_X10_hasThing : ck_M q_X10_hasThing := ck_M_of 10 rfl (ini := false) (by decide +kernel) (by decide +kernel)
set_option maxRecDepth 100000 in
theorem ok_X10_hasKind : ck_M q_X10_hasKind := ck_M_of 10 rfl (ini := false) (by decide +kernel) (by decide +kernel)
set_option maxRecDepth 100000 in
theorem ok_X10_hasThings : ck_M q_X10_hasThings := ck_M_of 10 rfl (ini := false) (by decide +kernel) (by decide +kernel)
set_option maxRecDepth 100000 in
theorem ok_X10_isLent : ck_M q_X10_isLent := ck_M_of 10 rfl (ini := false) (by decide +kernel) (by decide +kernel)
set_option maxRecDepth 100000 in
theorem ok_X10_needsHousesFrom : ck_M q_X10_needsHousesFrom := ck_M_of 10 rfl (ini := false) (by decide +kernel) (by decide +kernel)
set_option maxRecDepth 100000 in
theorem ok_X10_settle : ck_M q_X10_settle := ck_M_of 10 rfl (ini := false) (by decide +kernel) (by decide +kernel)
set_option maxRecDepth 100000 in
theorem ok_X10_addThings : ck_M q_X10_addThings := ck_M_of 10 rfl (ini := false) (by decide +kernel) (by decide +kernel)
set_option maxRecDepth 100000 in
theorem ok_X10_addKinds : ck_M q_X10_addKinds := ck_M_of 10 rfl (ini := false) (by decide +kernel) (by decide +kernel)
set_option maxRecDepth 100000 in
theorem oc_X10_sortThings_0 : ck_l 10 false cX10_sortThings 0 k_X10_sortThings_0 = true := by decide +kernel
set_option maxRecDepth 100000 in
theorem oc_X10_sortThings_1 : ck_l 10 false cX10_sortThings 100 k_X10_sortThings_1 = true := by decide +kernel
theorem ok_X10_sortThings : ck_M q_X10_sortThings := ck_M_of 10 rfl (ini := false) (by decide +kernel) (ck_l_app oc_X10_sortThings_0 (oc_X10_sortThings_1))
set_option maxRecDepth 100000 in
theorem ok_X10_namedBy : ck_M q_X10_namedBy := ck_M_of 10 rfl (ini := false) (by decide +kernel) (by decide +kernel)
set_option maxRecDepth 100000 in
theorem ok_X10_kindsOf : ck_M q_X10_kindsOf := ck_M_of 10 rfl (ini := false) (by decide +kernel) (by decide +kernel)
set_option maxRecDepth 100000 in
theorem ok_X10_havingAll : ck_M q_X10_havingAll := ck_M_of 10 rfl (ini := false) (by decide +kernel) (by decide +kernel)
set_option maxRecDepth 100000 in
theorem ok_X10_keptBy : ck_M q_X10_keptBy := ck_M_of 10 rfl (ini := false) (by decide +kernel) (by decide +kernel)
set_option maxRecDepth 100000 in
theorem ok_X10_ownedBy : ck_M q_X10_ownedBy := ck_M_of 10 rfl (ini := false) (by decide +kernel) (by decide +kernel)
set_option maxRecDepth 100000 in
theorem ok_X10_nobodys : ck_M q_X10_nobodys := ck_M_of 10 rfl (ini := false) (by decide +kernel) (by decide +kernel)
set_option maxRecDepth 100000 in
theorem ok_X10_lentOnes : ck_M q_X10_lentOnes := ck_M_of 10 rfl (ini := false) (by decide +kernel) (by decide +kernel)
set_option maxRecDepth 100000 in
theorem ok_X10_keepersOf : ck_M q_X10_keepersOf := ck_M_of 10 rfl (ini := false) (by decide +kernel) (by decide +kernel)
set_option maxRecDepth 100000 in
theorem ok_X10_brokenIn : ck_M q_X10_brokenIn := ck_M_of 10 rfl (ini := false) (by decide +kernel) (by decide +kernel)
set_option maxRecDepth 100000 in
theorem ok_X10_tooManyIn : ck_M q_X10_tooManyIn := ck_M_of 10 rfl (ini := false) (by decide +kernel) (by decide +kernel)
set_option maxRecDepth 100000 in
theorem ok_X10_loadOf : ck_M q_X10_loadOf := ck_M_of 10 rfl (ini := false) (by decide +kernel) (by decide +kernel)
set_option maxRecDepth 100000 in
theorem ok_X10_fits : ck_M q_X10_fits := ck_M_of 10 rfl (ini := false) (by decide +kernel) (by decide +kernel)
set_option maxRecDepth 100000 in
theorem ok_X10_breakers : ck_M q_X10_breakers := ck_M_of 10 rfl (ini := false) (by decide +kernel) (by decide +kernel)
set_option maxRecDepth 100000 in
theorem ok_X10_hand : ck_M q_X10_hand := ck_M_of 10 rfl (ini := false) (by decide +kernel) (by decide +kernel)
set_option maxRecDepth 100000 in
theorem ok_X10_given : ck_M q_X10_given := ck_M_of 10 rfl (ini := false) (by decide +kernel) (by decide +kernel)
set_option maxRecDepth 100000 in
theorem ok_X10_lent : ck_M q_X10_lent := ck_M_of 10 rfl (ini := false) (by decide +kernel) (by decide +kernel)
set_option maxRecDepth 100000 in
theorem ok_X10_claimed : ck_M q_X10_claimed := ck_M_of 10 rfl (ini := false) (by decide +kernel) (by decide +kernel)
