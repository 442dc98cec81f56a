set_option maxRecDepth 100000 in
theorem ok_X11_drawn : ck_M q_X11_drawn := ck_M_of 11 rfl (ini := false) (by decide +kernel) (by decide +kernel)
set_option maxRecDepth 100000 in
theorem oc_X12_init_0 : ck_l 12 true cX12_init 0 k_X12_init_0 = true := by decide +kernel
set_option maxRecDepth 100000 in
theorem oc_X12_init_1 : ck_l 12 true cX12_init 100 k_X12_init_1 = true := by decide +kernel
theorem ok_X12_init : ck_M q_X12_init := ck_M_of 12 rfl (ini := true) (by decide +kernel) (ck_l_app oc_X12_init_0 (oc_X12_init_1))
set_option maxRecDepth 100000 in
theorem ok_X12_thrown : ck_M q_X12_thrown := ck_M_of 12 rfl (ini := false) (by decide +kernel) (by decide +kernel)
set_option maxRecDepth 100000 in
theorem ok_X12_in : ck_M q_X12_in := ck_M_of 12 rfl (ini := false) (by decide +kernel) (by decide +kernel)
set_option maxRecDepth 100000 in
theorem ok_X12_has : ck_M q_X12_has := ck_M_of 12 rfl (ini := false) (by decide +kernel) (by decide +kernel)
set_option maxRecDepth 100000 in
theorem ok_X12_lost : ck_M q_X12_lost := ck_M_of 12 rfl (ini := false) (by decide +kernel) (by decide +kernel)
set_option maxRecDepth 100000 in
theorem ok_X12_tell : ck_M q_X12_tell := ck_M_of 12 rfl (ini := false) (by decide +kernel) (by decide +kernel)
set_option maxRecDepth 100000 in
theorem ok_X12_isThing : ck_M q_X12_isThing := ck_M_of 12 rfl (ini := false) (by decide +kernel) (by decide +kernel)
set_option maxRecDepth 100000 in
theorem ok_X12_isHouse : ck_M q_X12_isHouse := ck_M_of 12 rfl (ini := false) (by decide +kernel) (by decide +kernel)
set_option maxRecDepth 100000 in
theorem ok_X12_isKind : ck_M q_X12_isKind := ck_M_of 12 rfl (ini := false) (by decide +kernel) (by decide +kernel)
set_option maxRecDepth 100000 in
theorem ok_X12_areThings : ck_M q_X12_areThings := ck_M_of 12 rfl (ini := false) (by decide +kernel) (by decide +kernel)
set_option maxRecDepth 100000 in
theorem ok_X12_sign : ck_M q_X12_sign := ck_M_of 12 rfl (ini := false) (by decide +kernel) (by decide +kernel)
set_option maxRecDepth 100000 in
theorem ok_X12_end : ck_M q_X12_end := ck_M_of 12 rfl (ini := false) (by decide +kernel) (by decide +kernel)
set_option maxRecDepth 100000 in
theorem ok_X12_begin : ck_M q_X12_begin := ck_M_of 12 rfl (ini := false) (by decide +kernel) (by decide +kernel)
set_option maxRecDepth 100000 in
theorem ok_X12_beginText : ck_M q_X12_beginText := ck_M_of 12 rfl (ini := false) (by decide +kernel) (by decide +kernel)
set_option maxRecDepth 100000 in
theorem ok_X12_here : ck_M q_X12_here := ck_M_of 12 rfl (ini := false) (by decide +kernel) (by decide +kernel)
set_option maxRecDepth 100000 in
theorem ok_X12_fine : ck_M q_X12_fine := ck_M_of 12 rfl (ini := false) (by decide +kernel) (by decide +kernel)
set_option maxRecDepth 100000 in
theorem ok_X12_fault : ck_M q_X12_fault := ck_M_of 12 rfl (ini := false) (by decide +kernel) (by decide +kernel)
set_option maxRecDepth 100000 in
theorem ok_X12_passes : ck_M q_X12_passes := ck_M_of 12 rfl (ini := false) (by decide +kernel) (by decide +kernel)
set_option maxRecDepth 100000 in
theorem ok_X12_need : ck_M q_X12_need := ck_M_of 12 rfl (ini := false) (by decide +kernel) (by decide +kernel)
set_option maxRecDepth 100000 in
theorem ok_X12_oneOf : ck_M q_X12_oneOf := ck_M_of 12 rfl (ini := false) (by decide +kernel) (by decide +kernel)
set_option maxRecDepth 100000 in
theorem ok_X12_number : ck_M q_X12_number := ck_M_of 12 rfl (ini := false) (by decide +kernel) (by decide +kernel)
set_option maxRecDepth 100000 in
theorem ok_X12_wasRight : ck_M q_X12_wasRight := ck_M_of 12 rfl (ini := false) (by decide +kernel) (by decide +kernel)
set_option maxRecDepth 100000 in
theorem oc_X12_letters_0 : ck_l 12 false cX12_letters 0 k_X12_letters_0 = true := by decide +kernel
set_option maxRecDepth 100000 in
theorem oc_X12_letters_1 : ck_l 12 false cX12_letters 100 k_X12_letters_1 = true := by decide +kernel
theorem ok_X12_letters : ck_M q_X12_letters := ck_M_of 12 rfl (ini := false) (by decide +kernel) (ck_l_app oc_X12_letters_0 (oc_X12_letters_1))
set_option maxRecDepth 100000 in
theorem oc_X12_houses_0 : ck_l 12 false cX12_houses 0 k_X12_houses_0 = true := by decide +kernel
set_option maxRecDepth 100000 in
theorem oc_X12_houses_1 : ck_l 12 false cX12_houses 100 k_X12_houses_1 = true := by decide +kernel
theorem ok_X12_houses : ck_M q_X12_houses := ck_M_of 12 rfl (ini := false) (by decide +kernel) (ck_l_app oc_X12_houses_0 (oc_X12_houses_1))
set_option maxRecDepth 100000 in
theorem oc_X12_things_0 : ck_l 12 false cX12_things 0 k_X12_things_0 = true := by decide +kernel
set_option maxRecDepth 100000 in
theorem oc_X12_things_1 : ck_l 12 false cX12_things 100 k_X12_things_1 = true := by decide +kernel
set_option maxRecDepth 100000 in
theorem oc_X12_things_2 : ck_l 12 false cX12_things 200 k_X12_things_2 = true := by decide +kernel
theorem ok_X12_things : ck_M q_X12_things := ck_M_of 12 rfl (ini := false) (by decide +kernel) (ck_l_app oc_X12_things_0 (ck_l_app oc_X12_things_1 (oc_X12_things_2)))
set_option maxRecDepth 100000 in
theorem oc_X12_kinds_0 : ck_l 12 false cX12_kinds 0 k_X12_kinds_0 = true := by decide +kernel
set_option maxRecDepth 100000 in
theorem oc_X12_kinds_1 : ck_l 12 false cX12_kinds 100 k_X12_kinds_1 = true := by decide +kernel
set_option maxRecDepth 100000 in
theorem oc_X12_kinds_2 : ck_l 12 false cX12_kinds 200 k_X12_kinds_2 = true := by decide +kernel
theorem ok_X12_kinds : ck_M q_X12_kinds := ck_M_of 12 rfl (ini := false) (by decide +kernel) (ck_l_app oc_X12_kinds_0 (ck_l_app oc_X12_kinds_1 (oc_X12_kinds_2)))
set_option maxRecDepth 100000 in
theorem ok_X12_held : ck_M q_X12_held := ck_M_of 12 rfl (ini := false) (by decide +kernel) (by decide +kernel)
set_option maxRecDepth 100000 in
theorem ok_X12_sum : ck_M q_X12_sum := ck_M_of 12 rfl (ini := false) (by decide +kernel) (by decide +kernel)
set_option maxRecDepth 100000 in
theorem ok_X12_product : ck_M q_X12_product := ck_M_of 12 rfl (ini := false) (by decide +kernel) (by decide +kernel)
set_option maxRecDepth 100000 in
theorem ok_X12_letterOf : ck_M q_X12_letterOf := ck_M_of 12 rfl (ini := false) (by decide +kernel) (by decide +kernel)
set_option maxRecDepth 100000 in
theorem oc_X12_part_0 : ck_l 12 false cX12_part 0 k_X12_part_0 = true := by decide +kernel
set_option maxRecDepth 100000 in
theorem oc_X12_part_1 : ck_l 12 false cX12_part 100 k_X12_part_1 = true := by decide +kernel
theorem ok_X12_part : ck_M q_X12_part := ck_M_of 12 rfl (ini := false) (by decide +kernel) (ck_l_app oc_X12_part_0 (oc_X12_part_1))
set_option maxRecDepth 100000 in
theorem ok_X12_rule : ck_M q_X12_rule := ck_M_of 12 rfl (ini := false) (by decide +kernel) (by decide +kernel)
set_option maxRecDepth 100000 in
theorem ok_X12_isOf : ck_M q_X12_isOf := ck_M_of 12 rfl (ini := false) (by decide +kernel) (by decide +kernel)
set_option maxRecDepth 100000 in
theorem ok_X12_kindsOf : ck_M q_X12_kindsOf := ck_M_of 12 rfl (ini := false) (by decide +kernel) (by decide +kernel)
set_option maxRecDepth 100000 in
theorem ok_X12_keptBy : ck_M q_X12_keptBy := ck_M_of 12 rfl (ini := false) (by decide +kernel) (by decide +kernel)
set_option maxRecDepth 100000 in
theorem ok_X12_ownedBy : ck_M q_X12_ownedBy := ck_M_of 12 rfl (ini := false) (by decide +kernel) (by decide +kernel)
set_option maxRecDepth 100000 in
theorem ok_X12_manyOf : ck_M q_X12_manyOf := ck_M_of 12 rfl (ini := false) (by decide +kernel) (by decide +kernel)
set_option maxRecDepth 100000 in
theorem ok_X12_brokenBy : ck_M q_X12_brokenBy := ck_M_of 12 rfl (ini := false) (by decide +kernel) (by decide +kernel)
set_option maxRecDepth 100000 in
theorem ok_X12_breaks : ck_M q_X12_breaks := ck_M_of 12 rfl (ini := false) (by decide +kernel) (by decide +kernel)
set_option maxRecDepth 100000 in
theorem ok_X12_brokenHouses : ck_M q_X12_brokenHouses := ck_M_of 12 rfl (ini := false) (by decide +kernel) (by decide +kernel)
set_option maxRecDepth 100000 in
theorem oc_X12_worthOf_0 : ck_l 12 false cX12_worthOf 0 k_X12_worthOf_0 = true := by decide +kernel
set_option maxRecDepth 100000 in
theorem oc_X12_worthOf_1 : ck_l 12 false cX12_worthOf 100 k_X12_worthOf_1 = true := by decide +kernel
theorem ok_X12_worthOf : ck_M q_X12_worthOf := ck_M_of 12 rfl (ini := false) (by decide +kernel) (ck_l_app oc_X12_worthOf_0 (oc_X12_worthOf_1))
set_option maxRecDepth 100000 in
theorem ok_X12_lentBits : ck_M q_X12_lentBits := ck_M_of 12 rfl (ini := false) (by decide +kernel) (by decide +kernel)
set_option maxRecDepth 100000 in
theorem oc_X12_thing_0 : ck_l 12 false cX12_thing 0 k_X12_thing_0 = true := by decide +kernel
set_option maxRecDepth 100000 in
theorem oc_X12_thing_1 : ck_l 12 false cX12_thing 100 k_X12_thing_1 = true := by decide +kernel
theorem ok_X12_thing : ck_M q_X12_thing := ck_M_of 12 rfl (ini := false) (by decide +kernel) (ck_l_app oc_X12_thing_0 (oc_X12_thing_1))
set_option maxRecDepth 100000 in
theorem oc_X12_kind_0 : ck_l 12 false cX12_kind 0 k_X12_kind_0 = true := by decide +kernel
set_option maxRecDepth 100000 in
theorem oc_X12_kind_1 : ck_l 12 false cX12_kind 100 k_X12_kind_1 = true := by decide +kernel
theorem ok_X12_kind : ck_M q_X12_kind := ck_M_of 12 rfl (ini := false) (by decide +kernel) (ck_l_app oc_X12_kind_0 (oc_X12_kind_1))
set_option maxRecDepth 100000 in
theorem ok_X12_house : ck_M q_X12_house := ck_M_of 12 rfl (ini := false) (by decide +kernel) (by decide +kernel)
set_option maxRecDepth 100000 in
theorem ok_X12_worth : ck_M q_X12_worth := ck_M_of 12 rfl (ini := false) (by decide +kernel) (by decide +kernel)
set_option maxRecDepth 100000 in
theorem ok_X12_set : ck_M q_X12_set := ck_M_of 12 rfl (ini := false) (by decide +kernel) (by decide +kernel)
set_option maxRecDepth 100000 in
theorem oc_X12_sheet_0 : ck_l 12 false cX12_sheet 0 k_X12_sheet_0 = true := by decide +kernel
set_option maxRecDepth 100000 in
theorem oc_X12_sheet_1 : ck_l 12 false cX12_sheet 100 k_X12_sheet_1 = true := by decide +kernel
theorem ok_X12_sheet : ck_M q_X12_sheet := ck_M_of 12 rfl (ini := false) (by decide +kernel) (ck_l_app oc_X12_sheet_0 (oc_X12_sheet_1))
set_option maxRecDepth 100000 in
theorem ok_X12_lay : ck_M q_X12_lay := ck_M_of 12 rfl (ini := false) (by decide +kernel) (by decide +kernel)
set_option maxRecDepth 100000 in
theorem ok_X12_remember : ck_M q_X12_remember := ck_M_of 12 rfl (ini := false) (by decide +kernel) (by decide +kernel)
set_option maxRecDepth 100000 in
theorem ok_X12_areBoth : ck_M q_X12_areBoth := ck_M_of 12 rfl (ini := false) (by decide +kernel) (by decide +kernel)
set_option maxRecDepth 100000 in
theorem ok_X12_isNobodys : ck_M q_X12_isNobodys := ck_M_of 12 rfl (ini := false) (by decide +kernel) (by decide +kernel)
set_option maxRecDepth 100000 in
theorem ok_X12_wouldBreak : ck_M q_X12_wouldBreak := ck_M_of 12 rfl (ini := false) (by decide +kernel) (by decide +kernel)
set_option maxRecDepth 100000 in
theorem ok_X12_belong : ck_M q_X12_belong := ck_M_of 12 rfl (ini := false) (by decide +kernel) (by decide +kernel)
set_option maxRecDepth 100000 in
theorem ok_X12_refusesBuy : ck_M q_X12_refusesBuy := ck_M_of 12 rfl (ini := false) (by decide +kernel) (by decide +kernel)
set_option maxRecDepth 100000 in
theorem ok_X12_goBuy : ck_M q_X12_goBuy := ck_M_of 12 rfl (ini := false) (by decide +kernel) (by decide +kernel)
set_option maxRecDepth 100000 in
theorem ok_X12_buy : ck_M q_X12_buy := ck_M_of 12 rfl (ini := false) (by decide +kernel) (by decide +kernel)
set_option maxRecDepth 100000 in
theorem ok_X12_refusesGive : ck_M q_X12_refusesGive := ck_M_of 12 rfl (ini := false) (by decide +kernel) (by decide +kernel)
set_option maxRecDepth 100000 in
theorem ok_X12_give : ck_M q_X12_give := ck_M_of 12 rfl (ini := false) (by decide +kernel) (by decide +kernel)
set_option maxRecDepth 100000 in
theorem ok_X12_refusesLend : ck_M q_X12_refusesLend := ck_M_of 12 rfl (ini := false) (by decide +kernel) (by decide +kernel)
set_option maxRecDepth 100000 in
theorem ok_X12_lend : ck_M q_X12_lend := ck_M_of 12 rfl (ini := false) (by decide +kernel) (by decide +kernel)
set_option maxRecDepth 100000 in
theorem ok_X12_refusesClaim : ck_M q_X12_refusesClaim := ck_M_of 12 rfl (ini := false) (by decide +kernel) (by decide +kernel)
set_option maxRecDepth 100000 in
theorem ok_X12_claim : ck_M q_X12_claim := ck_M_of 12 rfl (ini := false) (by decide +kernel) (by decide +kernel)
set_option maxRecDepth 100000 in
theorem ok_X12_paint : ck_M q_X12_paint := ck_M_of 12 rfl (ini := false) (by decide +kernel) (by decide +kernel)
set_option maxRecDepth 100000 in
theorem ok_X12_lastOf : ck_M q_X12_lastOf := ck_M_of 12 rfl (ini := false) (by decide +kernel) (by decide +kernel)
set_option maxRecDepth 100000 in
theorem ok_X12_goHour : ck_M q_X12_goHour := ck_M_of 12 rfl (ini := false) (by decide +kernel) (by decide +kernel)
set_option maxRecDepth 100000 in
theorem ok_X12_goHours : ck_M q_X12_goHours := ck_M_of 12 rfl (ini := false) (by decide +kernel) (by decide +kernel)
set_option maxRecDepth 100000 in
theorem ok_X12_hours : ck_M q_X12_hours := ck_M_of 12 rfl (ini := false) (by decide +kernel) (by decide +kernel)
set_option maxRecDepth 100000 in
theorem oc_X12_day_0 : ck_l 12 false cX12_day 0 k_X12_day_0 = true := by decide +kernel
set_option maxRecDepth 100000 in
theorem oc_X12_day_1 : ck_l 12 false cX12_day 100 k_X12_day_1 = true := by decide +kernel
theorem ok_X12_day : ck_M q_X12_day := ck_M_of 12 rfl (ini := false) (by decide +kernel) (ck_l_app oc_X12_day_0 (oc_X12_day_1))
set_option maxRecDepth 100000 in
theorem oc_X12_readAct_0 : ck_l 12 false cX12_readAct 0 k_X12_readAct_0 = true := by decide +kernel
set_option maxRecDepth 100000 in
theorem oc_X12_readAct_1 : ck_l 12 false cX12_readAct 100 k_X12_readAct_1 = true := by decide +kernel
theorem ok_X12_readAct : ck_M q_X12_readAct := ck_M_of 12 rfl (ini := false) (by decide +kernel) (ck_l_app oc_X12_readAct_0 (oc_X12_readAct_1))
set_option maxRecDepth 100000 in
theorem oc_X12_act_0 : ck_l 12 false cX12_act 0 k_X12_act_0 = true := by decide +kernel
set_option maxRecDepth 100000 in
theorem oc_X12_act_1 : ck_l 12 false cX12_act 100 k_X12_act_1 = true := by decide +kernel
set_option maxRecDepth 100000 in
theorem oc_X12_act_2 : ck_l 12 false cX12_act 200 k_X12_act_2 = true := by decide +kernel
theorem ok_X12_act : ck_M q_X12_act := ck_M_of 12 rfl (ini := false) (by decide +kernel) (ck_l_app oc_X12_act_0 (ck_l_app oc_X12_act_1 (oc_X12_act_2)))
set_option maxRecDepth 100000 in
theorem ok_X12_undo : ck_M q_X12_undo := ck_M_of 12 rfl (ini := false) (by decide +kernel) (by decide +kernel)
set_option maxRecDepth 100000 in
theorem oc_X12_broken_0 : ck_l 12 false cX12_broken 0 k_X12_broken_0 = true := by decide +kernel
set_option maxRecDepth 100000 in
theorem oc_X12_broken_1 : ck_l 12 false cX12_broken 100 k_X12_broken_1 = true := by decide +kernel
theorem ok_X12_broken : ck_M q_X12_broken := ck_M_of 12 rfl (ini := false) (by decide +kernel) (ck_l_app oc_X12_broken_0 (oc_X12_broken_1))
