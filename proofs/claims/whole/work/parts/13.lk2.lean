theorem ms_0 : ci_Ms 0 = q_X0_init := rfl
theorem wd_314 : Jvm.Cond.code yX0_init cX0_init 2 none ∈ ci_T := tb_1 (i := 225) rfl rfl
theorem wd_98 : Jvm.Cond.initialized "TwoAtMost$Choosing" ∈ ci_T := tb_1 (i := 9) rfl rfl
theorem mo_0 : ci_okC ci_T q_X0_init := ⟨by decide +kernel, wd_314, by decide, by decide +kernel, by decide +kernel, wd_98⟩
theorem mk_0 : (parseMethodDescriptor (ci_y q_X0_init).desc).map (fun d => d.parameters.length) = some 1 := by decide +kernel
theorem ms_1 : ci_Ms 1 = q_X0_leastOfMost := rfl
theorem wd_882 : Jvm.Cond.code yX0_leastOfMost cX0_leastOfMost 3 (some .int) ∈ ci_T := tb_4 (i := 73) rfl rfl
theorem mo_1 : ci_okC ci_T q_X0_leastOfMost := ⟨by decide +kernel, wd_882, by decide, by decide +kernel, by decide +kernel, wd_98⟩
theorem mk_1 : (parseMethodDescriptor (ci_y q_X0_leastOfMost).desc).map (fun d => d.parameters.length) = some 2 := by decide +kernel
theorem ms_2 : ci_Ms 2 = q_X0_greatestOfMost := rfl
theorem wd_852 : Jvm.Cond.code yX0_greatestOfMost cX0_greatestOfMost 3 (some .int) ∈ ci_T := tb_4 (i := 43) rfl rfl
theorem mo_2 : ci_okC ci_T q_X0_greatestOfMost := ⟨by decide +kernel, wd_852, by decide, by decide +kernel, by decide +kernel, wd_98⟩
theorem mk_2 : (parseMethodDescriptor (ci_y q_X0_greatestOfMost).desc).map (fun d => d.parameters.length) = some 2 := by decide +kernel
theorem ms_3 : ci_Ms 3 = q_X0_look := rfl
theorem wd_856 : Jvm.Cond.code yX0_look cX0_look 8 none ∈ ci_T := tb_4 (i := 47) rfl rfl
theorem mo_3 : ci_okC ci_T q_X0_look := ⟨by decide +kernel, wd_856, by decide, by decide +kernel, by decide +kernel, wd_98⟩
theorem mk_3 : (parseMethodDescriptor (ci_y q_X0_look).desc).map (fun d => d.parameters.length) = some 3 := by decide +kernel
theorem ms_4 : ci_Ms 4 = q_X1_init := rfl
theorem wd_359 : Jvm.Cond.code yX1_init cX1_init 3 none ∈ ci_T := tb_2 (i := 30) rfl rfl
theorem wd_100 : Jvm.Cond.initialized "TwoAtMost$Dealing" ∈ ci_T := tb_1 (i := 11) rfl rfl
theorem mo_4 : ci_okC ci_T q_X1_init := ⟨by decide +kernel, wd_359, by decide, by decide +kernel, by decide +kernel, wd_100⟩
theorem mk_4 : (parseMethodDescriptor (ci_y q_X1_init).desc).map (fun d => d.parameters.length) = some 2 := by decide +kernel
theorem ms_5 : ci_Ms 5 = q_X1_mostWorth := rfl
theorem wd_969 : Jvm.Cond.code yX1_mostWorth cX1_mostWorth 6 (some .int) ∈ ci_T := tb_4 (i := 160) rfl rfl
theorem mo_5 : ci_okC ci_T q_X1_mostWorth := ⟨by decide +kernel, wd_969, by decide, by decide +kernel, by decide +kernel, wd_100⟩
theorem mk_5 : (parseMethodDescriptor (ci_y q_X1_mostWorth).desc).map (fun d => d.parameters.length) = some 0 := by decide +kernel
theorem ms_6 : ci_Ms 6 = q_X1_fillGains := rfl
theorem wd_974 : Jvm.Cond.code yX1_fillGains cX1_fillGains 6 none ∈ ci_T := tb_4 (i := 165) rfl rfl
theorem mo_6 : ci_okC ci_T q_X1_fillGains := ⟨by decide +kernel, wd_974, by decide, by decide +kernel, by decide +kernel, wd_100⟩
theorem mk_6 : (parseMethodDescriptor (ci_y q_X1_fillGains).desc).map (fun d => d.parameters.length) = some 2 := by decide +kernel
theorem ms_7 : ci_Ms 7 = q_X1_leastChoice := rfl
theorem wd_991 : Jvm.Cond.code yX1_leastChoice cX1_leastChoice 7 (some .int) ∈ ci_T := tb_4 (i := 182) rfl rfl
theorem mo_7 : ci_okC ci_T q_X1_leastChoice := ⟨by decide +kernel, wd_991, by decide, by decide +kernel, by decide +kernel, wd_100⟩
theorem mk_7 : (parseMethodDescriptor (ci_y q_X1_leastChoice).desc).map (fun d => d.parameters.length) = some 3 := by decide +kernel
theorem ms_8 : ci_Ms 8 = q_X1_bestFrom := rfl
theorem wd_982 : Jvm.Cond.code yX1_bestFrom cX1_bestFrom 5 (some .int) ∈ ci_T := tb_4 (i := 173) rfl rfl
theorem mo_8 : ci_okC ci_T q_X1_bestFrom := ⟨by decide +kernel, wd_982, by decide, by decide +kernel, by decide +kernel, wd_100⟩
theorem mk_8 : (parseMethodDescriptor (ci_y q_X1_bestFrom).desc).map (fun d => d.parameters.length) = some 2 := by decide +kernel
theorem ms_9 : ci_Ms 9 = q_X1_addThing := rfl
theorem wd_987 : Jvm.Cond.code yX1_addThing cX1_addThing 8 none ∈ ci_T := tb_4 (i := 178) rfl rfl
theorem mo_9 : ci_okC ci_T q_X1_addThing := ⟨by decide +kernel, wd_987, by decide, by decide +kernel, by decide +kernel, wd_100⟩
theorem mk_9 : (parseMethodDescriptor (ci_y q_X1_addThing).desc).map (fun d => d.parameters.length) = some 3 := by decide +kernel
theorem ms_10 : ci_Ms 10 = q_X2_init := rfl
theorem wd_292 : Jvm.Cond.code yX2_init cX2_init 2 none ∈ ci_T := tb_1 (i := 203) rfl rfl
theorem wd_97 : Jvm.Cond.initialized "TwoAtMost$Past" ∈ ci_T := tb_1 (i := 8) rfl rfl
theorem mo_10 : ci_okC ci_T q_X2_init := ⟨by decide +kernel, wd_292, by decide, by decide +kernel, by decide +kernel, wd_97⟩
theorem mk_10 : (parseMethodDescriptor (ci_y q_X2_init).desc).map (fun d => d.parameters.length) = some 0 := by decide +kernel
theorem ms_11 : ci_Ms 11 = q_X2_mark := rfl
theorem wd_675 : Jvm.Cond.code yX2_mark cX2_mark 2 none ∈ ci_T := tb_3 (i := 106) rfl rfl
theorem mo_11 : ci_okC ci_T q_X2_mark := ⟨by decide +kernel, wd_675, by decide, by decide +kernel, by decide +kernel, wd_97⟩
theorem mk_11 : (parseMethodDescriptor (ci_y q_X2_mark).desc).map (fun d => d.parameters.length) = some 1 := by decide +kernel
theorem ms_12 : ci_Ms 12 = q_X2_hold := rfl
theorem wd_766 : Jvm.Cond.code yX2_hold cX2_hold 1 none ∈ ci_T := tb_3 (i := 197) rfl rfl
theorem mo_12 : ci_okC ci_T q_X2_hold := ⟨by decide +kernel, wd_766, by decide, by decide +kernel, by decide +kernel, wd_97⟩
theorem mk_12 : (parseMethodDescriptor (ci_y q_X2_hold).desc).map (fun d => d.parameters.length) = some 0 := by decide +kernel
theorem ms_13 : ci_Ms 13 = q_X2_stepBack := rfl
theorem wd_826 : Jvm.Cond.code yX2_stepBack cX2_stepBack 2 none ∈ ci_T := tb_4 (i := 17) rfl rfl
theorem mo_13 : ci_okC ci_T q_X2_stepBack := ⟨by decide +kernel, wd_826, by decide, by decide +kernel, by decide +kernel, wd_97⟩
theorem mk_13 : (parseMethodDescriptor (ci_y q_X2_stepBack).desc).map (fun d => d.parameters.length) = some 1 := by decide +kernel
theorem ms_14 : ci_Ms 14 = q_X2_place := rfl
theorem wd_679 : Jvm.Cond.code yX2_place cX2_place 2 (some .int) ∈ ci_T := tb_3 (i := 110) rfl rfl
theorem mo_14 : ci_okC ci_T q_X2_place := ⟨by decide +kernel, wd_679, by decide, by decide +kernel, by decide +kernel, wd_97⟩
theorem mk_14 : (parseMethodDescriptor (ci_y q_X2_place).desc).map (fun d => d.parameters.length) = some 1 := by decide +kernel
theorem ms_15 : ci_Ms 15 = q_X3_init := rfl
theorem wd_384 : Jvm.Cond.code yX3_init cX3_init 1 none ∈ ci_T := tb_2 (i := 55) rfl rfl
theorem wd_101 : Jvm.Cond.initialized "TwoAtMost$Purse" ∈ ci_T := tb_1 (i := 12) rfl rfl
theorem mo_15 : ci_okC ci_T q_X3_init := ⟨by decide +kernel, wd_384, by decide, by decide +kernel, by decide +kernel, wd_101⟩
theorem mk_15 : (parseMethodDescriptor (ci_y q_X3_init).desc).map (fun d => d.parameters.length) = some 0 := by decide +kernel
theorem ms_16 : ci_Ms 16 = q_X3_payable := rfl
theorem wd_1007 : Jvm.Cond.code yX3_payable cX3_payable 6 (some .int) ∈ ci_T := tb_4 (i := 198) rfl rfl
theorem mo_16 : ci_okC ci_T q_X3_payable := ⟨by decide +kernel, wd_1007, by decide, by decide +kernel, by decide +kernel, wd_101⟩
theorem mk_16 : (parseMethodDescriptor (ci_y q_X3_payable).desc).map (fun d => d.parameters.length) = some 3 := by decide +kernel
theorem ms_17 : ci_Ms 17 = q_X3_leastMissing := rfl
theorem wd_1024 : Jvm.Cond.code yX3_leastMissing cX3_leastMissing 3 (some .int) ∈ ci_T := tb_4 (i := 215) rfl rfl
theorem mo_17 : ci_okC ci_T q_X3_leastMissing := ⟨by decide +kernel, wd_1024, by decide, by decide +kernel, by decide +kernel, wd_101⟩
theorem mk_17 : (parseMethodDescriptor (ci_y q_X3_leastMissing).desc).map (fun d => d.parameters.length) = some 1 := by decide +kernel
theorem ms_18 : ci_Ms 18 = q_X3_mark := rfl
theorem wd_1014 : Jvm.Cond.code yX3_mark cX3_mark 3 none ∈ ci_T := tb_4 (i := 205) rfl rfl
theorem mo_18 : ci_okC ci_T q_X3_mark := ⟨by decide +kernel, wd_1014, by decide, by decide +kernel, by decide +kernel, wd_101⟩
theorem mk_18 : (parseMethodDescriptor (ci_y q_X3_mark).desc).map (fun d => d.parameters.length) = some 2 := by decide +kernel
theorem ms_19 : ci_Ms 19 = q_X3_isMarked := rfl
theorem wd_1028 : Jvm.Cond.code yX3_isMarked cX3_isMarked 4 (some .boolean) ∈ ci_T := tb_4 (i := 219) rfl rfl
theorem mo_19 : ci_okC ci_T q_X3_isMarked := ⟨by decide +kernel, wd_1028, by decide, by decide +kernel, by decide +kernel, wd_101⟩
theorem mk_19 : (parseMethodDescriptor (ci_y q_X3_isMarked).desc).map (fun d => d.parameters.length) = some 1 := by decide +kernel
theorem ms_20 : ci_Ms 20 = q_X4_init := rfl
theorem wd_258 : Jvm.Cond.code yX4_init cX4_init 1 none ∈ ci_T := tb_1 (i := 169) rfl rfl
theorem wd_95 : Jvm.Cond.initialized "TwoAtMost$Rule" ∈ ci_T := tb_1 (i := 6) rfl rfl
theorem mo_20 : ci_okC ci_T q_X4_init := ⟨by decide +kernel, wd_258, by decide, by decide +kernel, by decide +kernel, wd_95⟩
theorem mk_20 : (parseMethodDescriptor (ci_y q_X4_init).desc).map (fun d => d.parameters.length) = some 0 := by decide +kernel
theorem ms_21 : ci_Ms 21 = q_X4_copy := rfl
theorem wd_600 : Jvm.Cond.code yX4_copy cX4_copy 2 none ∈ ci_T := tb_3 (i := 31) rfl rfl
theorem mo_21 : ci_okC ci_T q_X4_copy := ⟨by decide +kernel, wd_600, by decide, by decide +kernel, by decide +kernel, wd_95⟩
theorem mk_21 : (parseMethodDescriptor (ci_y q_X4_copy).desc).map (fun d => d.parameters.length) = some 1 := by decide +kernel
theorem ms_22 : ci_Ms 22 = q_X4_addNumber := rfl
theorem wd_581 : Jvm.Cond.code yX4_addNumber cX4_addNumber 2 none ∈ ci_T := tb_3 (i := 12) rfl rfl
theorem mo_22 : ci_okC ci_T q_X4_addNumber := ⟨by decide +kernel, wd_581, by decide, by decide +kernel, by decide +kernel, wd_95⟩
theorem mk_22 : (parseMethodDescriptor (ci_y q_X4_addNumber).desc).map (fun d => d.parameters.length) = some 1 := by decide +kernel
theorem ms_23 : ci_Ms 23 = q_X4_addSign := rfl
theorem wd_594 : Jvm.Cond.code yX4_addSign cX4_addSign 2 none ∈ ci_T := tb_3 (i := 25) rfl rfl
theorem mo_23 : ci_okC ci_T q_X4_addSign := ⟨by decide +kernel, wd_594, by decide, by decide +kernel, by decide +kernel, wd_95⟩
theorem mk_23 : (parseMethodDescriptor (ci_y q_X4_addSign).desc).map (fun d => d.parameters.length) = some 1 := by decide +kernel
theorem ms_24 : ci_Ms 24 = q_X4_addPart := rfl
theorem wd_585 : Jvm.Cond.code yX4_addPart cX4_addPart 2 none ∈ ci_T := tb_3 (i := 16) rfl rfl
theorem mo_24 : ci_okC ci_T q_X4_addPart := ⟨by decide +kernel, wd_585, by decide, by decide +kernel, by decide +kernel, wd_95⟩
theorem mk_24 : (parseMethodDescriptor (ci_y q_X4_addPart).desc).map (fun d => d.parameters.length) = some 1 := by decide +kernel
theorem ms_25 : ci_Ms 25 = q_X4_value := rfl
theorem wd_619 : Jvm.Cond.code yX4_value cX4_value 5 (some .int) ∈ ci_T := tb_3 (i := 50) rfl rfl
theorem mo_25 : ci_okC ci_T q_X4_value := ⟨by decide +kernel, wd_619, by decide, by decide +kernel, by decide +kernel, wd_95⟩
theorem mk_25 : (parseMethodDescriptor (ci_y q_X4_value).desc).map (fun d => d.parameters.length) = some 3 := by decide +kernel
theorem ms_26 : ci_Ms 26 = q_X4_computed := rfl
theorem wd_640 : Jvm.Cond.code yX4_computed cX4_computed 7 (some .int) ∈ ci_T := tb_3 (i := 71) rfl rfl
theorem mo_26 : ci_okC ci_T q_X4_computed := ⟨by decide +kernel, wd_640, by decide, by decide +kernel, by decide +kernel, wd_95⟩
theorem mk_26 : (parseMethodDescriptor (ci_y q_X4_computed).desc).map (fun d => d.parameters.length) = some 3 := by decide +kernel
theorem ms_27 : ci_Ms 27 = q_X4_isOperation := rfl
theorem wd_643 : Jvm.Cond.code yX4_isOperation cX4_isOperation 1 (some .boolean) ∈ ci_T := tb_3 (i := 74) rfl rfl
theorem mo_27 : ci_okC ci_T q_X4_isOperation := ⟨by decide +kernel, wd_643, by decide, by decide +kernel, by decide +kernel, wd_95⟩
theorem mk_27 : (parseMethodDescriptor (ci_y q_X4_isOperation).desc).map (fun d => d.parameters.length) = some 1 := by decide +kernel
theorem ms_28 : ci_Ms 28 = q_X4_operated := rfl
theorem wd_646 : Jvm.Cond.code yX4_operated cX4_operated 3 (some .int) ∈ ci_T := tb_3 (i := 77) rfl rfl
theorem mo_28 : ci_okC ci_T q_X4_operated := ⟨by decide +kernel, wd_646, by decide, by decide +kernel, by decide +kernel, wd_95⟩
theorem mk_28 : (parseMethodDescriptor (ci_y q_X4_operated).desc).map (fun d => d.parameters.length) = some 3 := by decide +kernel
theorem ms_29 : ci_Ms 29 = q_X4_letter := rfl
theorem wd_622 : Jvm.Cond.code yX4_letter cX4_letter 4 (some .int) ∈ ci_T := tb_3 (i := 53) rfl rfl
theorem mo_29 : ci_okC ci_T q_X4_letter := ⟨by decide +kernel, wd_622, by decide, by decide +kernel, by decide +kernel, wd_95⟩
theorem mk_29 : (parseMethodDescriptor (ci_y q_X4_letter).desc).map (fun d => d.parameters.length) = some 4 := by decide +kernel
theorem ms_30 : ci_Ms 30 = q_X5_init := rfl
theorem wd_276 : Jvm.Cond.code yX5_init cX5_init 2 none ∈ ci_T := tb_1 (i := 187) rfl rfl
theorem wd_96 : Jvm.Cond.initialized "TwoAtMost$RuleReader" ∈ ci_T := tb_1 (i := 7) rfl rfl
theorem mo_30 : ci_okC ci_T q_X5_init := ⟨by decide +kernel, wd_276, by decide, by decide +kernel, by decide +kernel, wd_96⟩
theorem mk_30 : (parseMethodDescriptor (ci_y q_X5_init).desc).map (fun d => d.parameters.length) = some 1 := by decide +kernel
theorem ms_31 : ci_Ms 31 = q_X5_read := rfl
theorem wd_550 : Jvm.Cond.code yX5_read cX5_read 1 (some .int) ∈ ci_T := tb_2 (i := 221) rfl rfl
theorem mo_31 : ci_okC ci_T q_X5_read := ⟨by decide +kernel, wd_550, by decide, by decide +kernel, by decide +kernel, wd_96⟩
theorem mk_31 : (parseMethodDescriptor (ci_y q_X5_read).desc).map (fun d => d.parameters.length) = some 0 := by decide +kernel
theorem ms_32 : ci_Ms 32 = q_X5_readsExpression := rfl
theorem wd_555 : Jvm.Cond.code yX5_readsExpression cX5_readsExpression 3 (some .boolean) ∈ ci_T := tb_2 (i := 226) rfl rfl
theorem mo_32 : ci_okC ci_T q_X5_readsExpression := ⟨by decide +kernel, wd_555, by decide, by decide +kernel, by decide +kernel, wd_96⟩
theorem mk_32 : (parseMethodDescriptor (ci_y q_X5_readsExpression).desc).map (fun d => d.parameters.length) = some 1 := by decide +kernel
theorem ms_33 : ci_Ms 33 = q_X5_readsSum := rfl
theorem wd_559 : Jvm.Cond.code yX5_readsSum cX5_readsSum 5 (some .boolean) ∈ ci_T := tb_2 (i := 230) rfl rfl
theorem mo_33 : ci_okC ci_T q_X5_readsSum := ⟨by decide +kernel, wd_559, by decide, by decide +kernel, by decide +kernel, wd_96⟩
theorem mk_33 : (parseMethodDescriptor (ci_y q_X5_readsSum).desc).map (fun d => d.parameters.length) = some 1 := by decide +kernel
theorem ms_34 : ci_Ms 34 = q_X5_readsProduct := rfl
theorem wd_563 : Jvm.Cond.code yX5_readsProduct cX5_readsProduct 5 (some .boolean) ∈ ci_T := tb_2 (i := 234) rfl rfl
theorem mo_34 : ci_okC ci_T q_X5_readsProduct := ⟨by decide +kernel, wd_563, by decide, by decide +kernel, by decide +kernel, wd_96⟩
theorem mk_34 : (parseMethodDescriptor (ci_y q_X5_readsProduct).desc).map (fun d => d.parameters.length) = some 1 := by decide +kernel
theorem ms_35 : ci_Ms 35 = q_X5_readsSigned := rfl
theorem wd_567 : Jvm.Cond.code yX5_readsSigned cX5_readsSigned 4 (some .boolean) ∈ ci_T := tb_2 (i := 238) rfl rfl
theorem mo_35 : ci_okC ci_T q_X5_readsSigned := ⟨by decide +kernel, wd_567, by decide, by decide +kernel, by decide +kernel, wd_96⟩
theorem mk_35 : (parseMethodDescriptor (ci_y q_X5_readsSigned).desc).map (fun d => d.parameters.length) = some 1 := by decide +kernel
theorem ms_36 : ci_Ms 36 = q_X5_readsThing := rfl
theorem wd_572 : Jvm.Cond.code yX5_readsThing cX5_readsThing 4 (some .boolean) ∈ ci_T := tb_3 (i := 3) rfl rfl
theorem mo_36 : ci_okC ci_T q_X5_readsThing := ⟨by decide +kernel, wd_572, by decide, by decide +kernel, by decide +kernel, wd_96⟩
theorem mk_36 : (parseMethodDescriptor (ci_y q_X5_readsThing).desc).map (fun d => d.parameters.length) = some 1 := by decide +kernel
theorem ms_37 : ci_Ms 37 = q_X6_init := rfl
theorem wd_130 : Jvm.Cond.code yX6_init cX6_init 1 none ∈ ci_T := tb_1 (i := 41) rfl rfl
theorem wd_92 : Jvm.Cond.initialized "TwoAtMost$State" ∈ ci_T := tb_1 (i := 3) rfl rfl
theorem mo_37 : ci_okC ci_T q_X6_init := ⟨by decide +kernel, wd_130, by decide, by decide +kernel, by decide +kernel, wd_92⟩
theorem mk_37 : (parseMethodDescriptor (ci_y q_X6_init).desc).map (fun d => d.parameters.length) = some 0 := by decide +kernel
theorem ms_38 : ci_Ms 38 = q_X6_copy := rfl
theorem wd_683 : Jvm.Cond.code yX6_copy cX6_copy 2 none ∈ ci_T := tb_3 (i := 114) rfl rfl
theorem mo_38 : ci_okC ci_T q_X6_copy := ⟨by decide +kernel, wd_683, by decide, by decide +kernel, by decide +kernel, wd_92⟩
theorem mk_38 : (parseMethodDescriptor (ci_y q_X6_copy).desc).map (fun d => d.parameters.length) = some 1 := by decide +kernel
theorem ms_39 : ci_Ms 39 = q_X7_init := rfl
theorem wd_335 : Jvm.Cond.code yX7_init cX7_init 2 none ∈ ci_T := tb_2 (i := 6) rfl rfl
theorem wd_99 : Jvm.Cond.initialized "TwoAtMost$Storing" ∈ ci_T := tb_1 (i := 10) rfl rfl
theorem mo_39 : ci_okC ci_T q_X7_init := ⟨by decide +kernel, wd_335, by decide, by decide +kernel, by decide +kernel, wd_99⟩
theorem mk_39 : (parseMethodDescriptor (ci_y q_X7_init).desc).map (fun d => d.parameters.length) = some 1 := by decide +kernel
theorem ms_40 : ci_Ms 40 = q_X7_fewestMoves := rfl
theorem wd_922 : Jvm.Cond.code yX7_fewestMoves cX7_fewestMoves 4 (some .int) ∈ ci_T := tb_4 (i := 113) rfl rfl
theorem mo_40 : ci_okC ci_T q_X7_fewestMoves := ⟨by decide +kernel, wd_922, by decide, by decide +kernel, by decide +kernel, wd_99⟩
theorem mk_40 : (parseMethodDescriptor (ci_y q_X7_fewestMoves).desc).map (fun d => d.parameters.length) = some 1 := by decide +kernel
theorem ms_41 : ci_Ms 41 = q_X7_list := rfl
theorem wd_926 : Jvm.Cond.code yX7_list cX7_list 3 none ∈ ci_T := tb_4 (i := 117) rfl rfl
theorem mo_41 : ci_okC ci_T q_X7_list := ⟨by decide +kernel, wd_926, by decide, by decide +kernel, by decide +kernel, wd_99⟩
theorem mk_41 : (parseMethodDescriptor (ci_y q_X7_list).desc).map (fun d => d.parameters.length) = some 1 := by decide +kernel
theorem ms_42 : ci_Ms 42 = q_X7_placesFrom := rfl
theorem wd_933 : Jvm.Cond.code yX7_placesFrom cX7_placesFrom 6 (some .boolean) ∈ ci_T := tb_4 (i := 124) rfl rfl
theorem mo_42 : ci_okC ci_T q_X7_placesFrom := ⟨by decide +kernel, wd_933, by decide, by decide +kernel, by decide +kernel, wd_99⟩
theorem mk_42 : (parseMethodDescriptor (ci_y q_X7_placesFrom).desc).map (fun d => d.parameters.length) = some 2 := by decide +kernel
theorem ms_43 : ci_Ms 43 = q_X8_init := rfl
theorem wd_234 : Jvm.Cond.code yX8_init cX8_init 2 none ∈ ci_T := tb_1 (i := 145) rfl rfl
theorem wd_94 : Jvm.Cond.initialized "TwoAtMost$Telling" ∈ ci_T := tb_1 (i := 5) rfl rfl
theorem mo_43 : ci_okC ci_T q_X8_init := ⟨by decide +kernel, wd_234, by decide, by decide +kernel, by decide +kernel, wd_94⟩
theorem mk_43 : (parseMethodDescriptor (ci_y q_X8_init).desc).map (fun d => d.parameters.length) = some 1 := by decide +kernel
theorem ms_44 : ci_Ms 44 = q_X8_readThings := rfl
theorem wd_483 : Jvm.Cond.code yX8_readThings cX8_readThings 4 (some .int) ∈ ci_T := tb_2 (i := 154) rfl rfl
theorem mo_44 : ci_okC ci_T q_X8_readThings := ⟨by decide +kernel, wd_483, by decide, by decide +kernel, by decide +kernel, wd_94⟩
theorem mk_44 : (parseMethodDescriptor (ci_y q_X8_readThings).desc).map (fun d => d.parameters.length) = some 2 := by decide +kernel
theorem ms_45 : ci_Ms 45 = q_X8_readKinds := rfl
theorem wd_534 : Jvm.Cond.code yX8_readKinds cX8_readKinds 3 (some .int) ∈ ci_T := tb_2 (i := 205) rfl rfl
theorem mo_45 : ci_okC ci_T q_X8_readKinds := ⟨by decide +kernel, wd_534, by decide, by decide +kernel, by decide +kernel, wd_94⟩
theorem mk_45 : (parseMethodDescriptor (ci_y q_X8_readKinds).desc).map (fun d => d.parameters.length) = some 1 := by decide +kernel
theorem ms_46 : ci_Ms 46 = q_X8_readDay := rfl
theorem wd_807 : Jvm.Cond.code yX8_readDay cX8_readDay 2 (some .int) ∈ ci_T := tb_3 (i := 238) rfl rfl
theorem mo_46 : ci_okC ci_T q_X8_readDay := ⟨by decide +kernel, wd_807, by decide, by decide +kernel, by decide +kernel, wd_94⟩
theorem mk_46 : (parseMethodDescriptor (ci_y q_X8_readDay).desc).map (fun d => d.parameters.length) = some 0 := by decide +kernel
theorem ms_47 : ci_Ms 47 = q_X8_readsThing := rfl
theorem wd_494 : Jvm.Cond.code yX8_readsThing cX8_readsThing 3 (some .boolean) ∈ ci_T := tb_2 (i := 165) rfl rfl
theorem mo_47 : ci_okC ci_T q_X8_readsThing := ⟨by decide +kernel, wd_494, by decide, by decide +kernel, by decide +kernel, wd_94⟩
theorem mk_47 : (parseMethodDescriptor (ci_y q_X8_readsThing).desc).map (fun d => d.parameters.length) = some 2 := by decide +kernel
theorem ms_48 : ci_Ms 48 = q_X8_readsKind := rfl
theorem wd_538 : Jvm.Cond.code yX8_readsKind cX8_readsKind 2 (some .boolean) ∈ ci_T := tb_2 (i := 209) rfl rfl
theorem mo_48 : ci_okC ci_T q_X8_readsKind := ⟨by decide +kernel, wd_538, by decide, by decide +kernel, by decide +kernel, wd_94⟩
theorem mk_48 : (parseMethodDescriptor (ci_y q_X8_readsKind).desc).map (fun d => d.parameters.length) = some 1 := by decide +kernel
theorem ms_49 : ci_Ms 49 = q_X8_readsAct := rfl
theorem wd_811 : Jvm.Cond.code yX8_readsAct cX8_readsAct 3 (some .boolean) ∈ ci_T := tb_4 (i := 2) rfl rfl
theorem mo_49 : ci_okC ci_T q_X8_readsAct := ⟨by decide +kernel, wd_811, by decide, by decide +kernel, by decide +kernel, wd_94⟩
theorem mk_49 : (parseMethodDescriptor (ci_y q_X8_readsAct).desc).map (fun d => d.parameters.length) = some 1 := by decide +kernel
theorem ms_50 : ci_Ms 50 = q_X9_init := rfl
theorem wd_214 : Jvm.Cond.code yX9_init cX9_init 1 none ∈ ci_T := tb_1 (i := 125) rfl rfl
theorem wd_93 : Jvm.Cond.initialized "TwoAtMost$Text" ∈ ci_T := tb_1 (i := 4) rfl rfl
theorem mo_50 : ci_okC ci_T q_X9_init := ⟨by decide +kernel, wd_214, by decide, by decide +kernel, by decide +kernel, wd_93⟩
theorem mk_50 : (parseMethodDescriptor (ci_y q_X9_init).desc).map (fun d => d.parameters.length) = some 0 := by decide +kernel
theorem ms_51 : ci_Ms 51 = q_X9_append := rfl
theorem wd_458 : Jvm.Cond.code yX9_append cX9_append 2 none ∈ ci_T := tb_2 (i := 129) rfl rfl
theorem mo_51 : ci_okC ci_T q_X9_append := ⟨by decide +kernel, wd_458, by decide, by decide +kernel, by decide +kernel, wd_93⟩
theorem mk_51 : (parseMethodDescriptor (ci_y q_X9_append).desc).map (fun d => d.parameters.length) = some 1 := by decide +kernel
theorem ms_52 : ci_Ms 52 = q_X9_open := rfl
theorem wd_487 : Jvm.Cond.code yX9_open cX9_open 2 none ∈ ci_T := tb_2 (i := 158) rfl rfl
theorem mo_52 : ci_okC ci_T q_X9_open := ⟨by decide +kernel, wd_487, by decide, by decide +kernel, by decide +kernel, wd_93⟩
theorem mk_52 : (parseMethodDescriptor (ci_y q_X9_open).desc).map (fun d => d.parameters.length) = some 1 := by decide +kernel
theorem ms_53 : ci_Ms 53 = q_X9_peek := rfl
theorem wd_502 : Jvm.Cond.code yX9_peek cX9_peek 1 (some .int) ∈ ci_T := tb_2 (i := 173) rfl rfl
theorem mo_53 : ci_okC ci_T q_X9_peek := ⟨by decide +kernel, wd_502, by decide, by decide +kernel, by decide +kernel, wd_93⟩
theorem mk_53 : (parseMethodDescriptor (ci_y q_X9_peek).desc).map (fun d => d.parameters.length) = some 0 := by decide +kernel
theorem ms_54 : ci_Ms 54 = q_X9_step := rfl
theorem wd_590 : Jvm.Cond.code yX9_step cX9_step 1 none ∈ ci_T := tb_3 (i := 21) rfl rfl
theorem mo_54 : ci_okC ci_T q_X9_step := ⟨by decide +kernel, wd_590, by decide, by decide +kernel, by decide +kernel, wd_93⟩
theorem mk_54 : (parseMethodDescriptor (ci_y q_X9_step).desc).map (fun d => d.parameters.length) = some 0 := by decide +kernel
theorem ms_55 : ci_Ms 55 = q_X9_ended := rfl
theorem wd_514 : Jvm.Cond.code yX9_ended cX9_ended 1 (some .boolean) ∈ ci_T := tb_2 (i := 185) rfl rfl
theorem mo_55 : ci_okC ci_T q_X9_ended := ⟨by decide +kernel, wd_514, by decide, by decide +kernel, by decide +kernel, wd_93⟩
theorem mk_55 : (parseMethodDescriptor (ci_y q_X9_ended).desc).map (fun d => d.parameters.length) = some 0 := by decide +kernel
theorem ms_56 : ci_Ms 56 = q_X9_fault := rfl
theorem wd_518 : Jvm.Cond.code yX9_fault cX9_fault 1 (some .int) ∈ ci_T := tb_2 (i := 189) rfl rfl
theorem mo_56 : ci_okC ci_T q_X9_fault := ⟨by decide +kernel, wd_518, by decide, by decide +kernel, by decide +kernel, wd_93⟩
theorem mk_56 : (parseMethodDescriptor (ci_y q_X9_fault).desc).map (fun d => d.parameters.length) = some 0 := by decide +kernel
theorem ms_57 : ci_Ms 57 = q_X9_takes := rfl
theorem wd_506 : Jvm.Cond.code yX9_takes cX9_takes 2 (some .boolean) ∈ ci_T := tb_2 (i := 177) rfl rfl
theorem mo_57 : ci_okC ci_T q_X9_takes := ⟨by decide +kernel, wd_506, by decide, by decide +kernel, by decide +kernel, wd_93⟩
theorem mk_57 : (parseMethodDescriptor (ci_y q_X9_takes).desc).map (fun d => d.parameters.length) = some 1 := by decide +kernel
theorem ms_58 : ci_Ms 58 = q_X9_oneOf := rfl
theorem wd_510 : Jvm.Cond.code yX9_oneOf cX9_oneOf 4 (some .int) ∈ ci_T := tb_2 (i := 181) rfl rfl
theorem mo_58 : ci_okC ci_T q_X9_oneOf := ⟨by decide +kernel, wd_510, by decide, by decide +kernel, by decide +kernel, wd_93⟩
theorem mk_58 : (parseMethodDescriptor (ci_y q_X9_oneOf).desc).map (fun d => d.parameters.length) = some 2 := by decide +kernel
theorem ms_59 : ci_Ms 59 = q_X9_letters := rfl
theorem wd_498 : Jvm.Cond.code yX9_letters cX9_letters 5 (some .int) ∈ ci_T := tb_2 (i := 169) rfl rfl
theorem mo_59 : ci_okC ci_T q_X9_letters := ⟨by decide +kernel, wd_498, by decide, by decide +kernel, by decide +kernel, wd_93⟩
theorem mk_59 : (parseMethodDescriptor (ci_y q_X9_letters).desc).map (fun d => d.parameters.length) = some 1 := by decide +kernel
theorem ms_60 : ci_Ms 60 = q_X9_number := rfl
theorem wd_576 : Jvm.Cond.code yX9_number cX9_number 5 (some .int) ∈ ci_T := tb_3 (i := 7) rfl rfl
theorem mo_60 : ci_okC ci_T q_X9_number := ⟨by decide +kernel, wd_576, by decide, by decide +kernel, by decide +kernel, wd_93⟩
theorem mk_60 : (parseMethodDescriptor (ci_y q_X9_number).desc).map (fun d => d.parameters.length) = some 1 := by decide +kernel
theorem ms_61 : ci_Ms 61 = q_X10_init := rfl
theorem wd_124 : Jvm.Cond.code yX10_init cX10_init 1 none ∈ ci_T := tb_1 (i := 35) rfl rfl
theorem wd_91 : Jvm.Cond.initialized "TwoAtMost$Town" ∈ ci_T := tb_1 (i := 2) rfl rfl
theorem mo_61 : ci_okC ci_T q_X10_init := ⟨by decide +kernel, wd_124, by decide, by decide +kernel, by decide +kernel, wd_91⟩
theorem mk_61 : (parseMethodDescriptor (ci_y q_X10_init).desc).map (fun d => d.parameters.length) = some 0 := by decide +kernel
theorem ms_62 : ci_Ms 62 = q_X10_hasHouse := rfl
theorem wd_615 : Jvm.Cond.code yX10_hasHouse cX10_hasHouse 2 (some .boolean) ∈ ci_T := tb_3 (i := 46) rfl rfl
theorem mo_62 : ci_okC ci_T q_X10_hasHouse := ⟨by decide +kernel, wd_615, by decide, by decide +kernel, by decide +kernel, wd_91⟩
theorem mk_62 : (parseMethodDescriptor (ci_y q_X10_hasHouse).desc).map (fun d => d.parameters.length) = some 1 := by decide +kernel
theorem ms_63 : ci_Ms 63 = q_X10_hasThing := rfl
theorem wd_611 : Jvm.Cond.code yX10_hasThing cX10_hasThing 2 (some .boolean) ∈ ci_T := tb_3 (i := 42) rfl rfl
theorem mo_63 : ci_okC ci_T q_X10_hasThing := ⟨by decide +kernel, wd_611, by decide, by decide +kernel, by decide +kernel, wd_91⟩
theorem mk_63 : (parseMethodDescriptor (ci_y q_X10_hasThing).desc).map (fun d => d.parameters.length) = some 1 := by decide +kernel
theorem ms_64 : ci_Ms 64 = q_X10_hasKind := rfl
theorem wd_1064 : Jvm.Cond.code yX10_hasKind cX10_hasKind 2 (some .boolean) ∈ ci_T := tb_5 (i := 15) rfl rfl
theorem mo_64 : ci_okC ci_T q_X10_hasKind := ⟨by decide +kernel, wd_1064, by decide, by decide +kernel, by decide +kernel, wd_91⟩
theorem mk_64 : (parseMethodDescriptor (ci_y q_X10_hasKind).desc).map (fun d => d.parameters.length) = some 1 := by decide +kernel
theorem ms_65 : ci_Ms 65 = q_X10_hasThings := rfl
theorem wd_918 : Jvm.Cond.code yX10_hasThings cX10_hasThings 2 (some .boolean) ∈ ci_T := tb_4 (i := 109) rfl rfl
theorem mo_65 : ci_okC ci_T q_X10_hasThings := ⟨by decide +kernel, wd_918, by decide, by decide +kernel, by decide +kernel, wd_91⟩
theorem mk_65 : (parseMethodDescriptor (ci_y q_X10_hasThings).desc).map (fun d => d.parameters.length) = some 1 := by decide +kernel
theorem ms_66 : ci_Ms 66 = q_X10_isLent := rfl
theorem wd_718 : Jvm.Cond.code yX10_isLent cX10_isLent 2 (some .boolean) ∈ ci_T := tb_3 (i := 149) rfl rfl
theorem mo_66 : ci_okC ci_T q_X10_isLent := ⟨by decide +kernel, wd_718, by decide, by decide +kernel, by decide +kernel, wd_91⟩
theorem mk_66 : (parseMethodDescriptor (ci_y q_X10_isLent).desc).map (fun d => d.parameters.length) = some 1 := by decide +kernel
theorem ms_67 : ci_Ms 67 = q_X10_needsHousesFrom := rfl
theorem wd_470 : Jvm.Cond.code yX10_needsHousesFrom cX10_needsHousesFrom 3 (some .boolean) ∈ ci_T := tb_2 (i := 141) rfl rfl
theorem mo_67 : ci_okC ci_T q_X10_needsHousesFrom := ⟨by decide +kernel, wd_470, by decide, by decide +kernel, by decide +kernel, wd_91⟩
theorem mk_67 : (parseMethodDescriptor (ci_y q_X10_needsHousesFrom).desc).map (fun d => d.parameters.length) = some 1 := by decide +kernel
theorem ms_68 : ci_Ms 68 = q_X10_settle := rfl
theorem wd_165 : Jvm.Cond.code yX10_settle cX10_settle 3 none ∈ ci_T := tb_1 (i := 76) rfl rfl
theorem mo_68 : ci_okC ci_T q_X10_settle := ⟨by decide +kernel, wd_165, by decide, by decide +kernel, by decide +kernel, wd_91⟩
theorem mk_68 : (parseMethodDescriptor (ci_y q_X10_settle).desc).map (fun d => d.parameters.length) = some 1 := by decide +kernel
theorem ms_69 : ci_Ms 69 = q_X10_addThings := rfl
theorem wd_522 : Jvm.Cond.code yX10_addThings cX10_addThings 4 none ∈ ci_T := tb_2 (i := 193) rfl rfl
theorem mo_69 : ci_okC ci_T q_X10_addThings := ⟨by decide +kernel, wd_522, by decide, by decide +kernel, by decide +kernel, wd_91⟩
theorem mk_69 : (parseMethodDescriptor (ci_y q_X10_addThings).desc).map (fun d => d.parameters.length) = some 2 := by decide +kernel
theorem ms_70 : ci_Ms 70 = q_X10_addKinds := rfl
theorem wd_542 : Jvm.Cond.code yX10_addKinds cX10_addKinds 4 none ∈ ci_T := tb_2 (i := 213) rfl rfl
theorem mo_70 : ci_okC ci_T q_X10_addKinds := ⟨by decide +kernel, wd_542, by decide, by decide +kernel, by decide +kernel, wd_91⟩
theorem mk_70 : (parseMethodDescriptor (ci_y q_X10_addKinds).desc).map (fun d => d.parameters.length) = some 2 := by decide +kernel
theorem ms_71 : ci_Ms 71 = q_X10_sortThings := rfl
theorem wd_526 : Jvm.Cond.code yX10_sortThings cX10_sortThings 5 none ∈ ci_T := tb_2 (i := 197) rfl rfl
theorem mo_71 : ci_okC ci_T q_X10_sortThings := ⟨by decide +kernel, wd_526, by decide, by decide +kernel, by decide +kernel, wd_91⟩
theorem mk_71 : (parseMethodDescriptor (ci_y q_X10_sortThings).desc).map (fun d => d.parameters.length) = some 0 := by decide +kernel
theorem ms_72 : ci_Ms 72 = q_X10_namedBy := rfl
theorem wd_1075 : Jvm.Cond.code yX10_namedBy cX10_namedBy 2 (some .int) ∈ ci_T := tb_5 (i := 26) rfl rfl
theorem mo_72 : ci_okC ci_T q_X10_namedBy := ⟨by decide +kernel, wd_1075, by decide, by decide +kernel, by decide +kernel, wd_91⟩
theorem mk_72 : (parseMethodDescriptor (ci_y q_X10_namedBy).desc).map (fun d => d.parameters.length) = some 1 := by decide +kernel
theorem ms_73 : ci_Ms 73 = q_X10_kindsOf := rfl
theorem wd_632 : Jvm.Cond.code yX10_kindsOf cX10_kindsOf 4 (some .int) ∈ ci_T := tb_3 (i := 63) rfl rfl
theorem mo_73 : ci_okC ci_T q_X10_kindsOf := ⟨by decide +kernel, wd_632, by decide, by decide +kernel, by decide +kernel, wd_91⟩
theorem mk_73 : (parseMethodDescriptor (ci_y q_X10_kindsOf).desc).map (fun d => d.parameters.length) = some 1 := by decide +kernel
theorem ms_74 : ci_Ms 74 = q_X10_havingAll := rfl
theorem wd_950 : Jvm.Cond.code yX10_havingAll cX10_havingAll 4 (some .int) ∈ ci_T := tb_4 (i := 141) rfl rfl
theorem mo_74 : ci_okC ci_T q_X10_havingAll := ⟨by decide +kernel, wd_950, by decide, by decide +kernel, by decide +kernel, wd_91⟩
theorem mk_74 : (parseMethodDescriptor (ci_y q_X10_havingAll).desc).map (fun d => d.parameters.length) = some 1 := by decide +kernel
theorem ms_75 : ci_Ms 75 = q_X10_keptBy := rfl
theorem wd_636 : Jvm.Cond.code yX10_keptBy cX10_keptBy 4 (some .int) ∈ ci_T := tb_3 (i := 67) rfl rfl
theorem mo_75 : ci_okC ci_T q_X10_keptBy := ⟨by decide +kernel, wd_636, by decide, by decide +kernel, by decide +kernel, wd_91⟩
theorem mk_75 : (parseMethodDescriptor (ci_y q_X10_keptBy).desc).map (fun d => d.parameters.length) = some 1 := by decide +kernel
theorem ms_76 : ci_Ms 76 = q_X10_ownedBy := rfl
theorem wd_878 : Jvm.Cond.code yX10_ownedBy cX10_ownedBy 4 (some .int) ∈ ci_T := tb_4 (i := 69) rfl rfl
theorem mo_76 : ci_okC ci_T q_X10_ownedBy := ⟨by decide +kernel, wd_878, by decide, by decide +kernel, by decide +kernel, wd_91⟩
theorem mk_76 : (parseMethodDescriptor (ci_y q_X10_ownedBy).desc).map (fun d => d.parameters.length) = some 1 := by decide +kernel
theorem ms_77 : ci_Ms 77 = q_X10_nobodys := rfl
theorem wd_874 : Jvm.Cond.code yX10_nobodys cX10_nobodys 1 (some .int) ∈ ci_T := tb_4 (i := 65) rfl rfl
theorem mo_77 : ci_okC ci_T q_X10_nobodys := ⟨by decide +kernel, wd_874, by decide, by decide +kernel, by decide +kernel, wd_91⟩
theorem mk_77 : (parseMethodDescriptor (ci_y q_X10_nobodys).desc).map (fun d => d.parameters.length) = some 0 := by decide +kernel
theorem ms_78 : ci_Ms 78 = q_X10_lentOnes := rfl
theorem wd_900 : Jvm.Cond.code yX10_lentOnes cX10_lentOnes 3 (some .int) ∈ ci_T := tb_4 (i := 91) rfl rfl
theorem mo_78 : ci_okC ci_T q_X10_lentOnes := ⟨by decide +kernel, wd_900, by decide, by decide +kernel, by decide +kernel, wd_91⟩
theorem mk_78 : (parseMethodDescriptor (ci_y q_X10_lentOnes).desc).map (fun d => d.parameters.length) = some 0 := by decide +kernel
theorem ms_79 : ci_Ms 79 = q_X10_keepersOf := rfl
theorem wd_904 : Jvm.Cond.code yX10_keepersOf cX10_keepersOf 4 (some .int) ∈ ci_T := tb_4 (i := 95) rfl rfl
theorem mo_79 : ci_okC ci_T q_X10_keepersOf := ⟨by decide +kernel, wd_904, by decide, by decide +kernel, by decide +kernel, wd_91⟩
theorem mk_79 : (parseMethodDescriptor (ci_y q_X10_keepersOf).desc).map (fun d => d.parameters.length) = some 1 := by decide +kernel
theorem ms_80 : ci_Ms 80 = q_X10_brokenIn := rfl
theorem wd_732 : Jvm.Cond.code yX10_brokenIn cX10_brokenIn 4 (some .int) ∈ ci_T := tb_3 (i := 163) rfl rfl
theorem mo_80 : ci_okC ci_T q_X10_brokenIn := ⟨by decide +kernel, wd_732, by decide, by decide +kernel, by decide +kernel, wd_91⟩
theorem mk_80 : (parseMethodDescriptor (ci_y q_X10_brokenIn).desc).map (fun d => d.parameters.length) = some 1 := by decide +kernel
theorem ms_81 : ci_Ms 81 = q_X10_tooManyIn := rfl
theorem wd_836 : Jvm.Cond.code yX10_tooManyIn cX10_tooManyIn 4 (some .int) ∈ ci_T := tb_4 (i := 27) rfl rfl
theorem mo_81 : ci_okC ci_T q_X10_tooManyIn := ⟨by decide +kernel, wd_836, by decide, by decide +kernel, by decide +kernel, wd_91⟩
theorem mk_81 : (parseMethodDescriptor (ci_y q_X10_tooManyIn).desc).map (fun d => d.parameters.length) = some 1 := by decide +kernel
theorem ms_82 : ci_Ms 82 = q_X10_loadOf := rfl
theorem wd_697 : Jvm.Cond.code yX10_loadOf cX10_loadOf 5 (some .int) ∈ ci_T := tb_3 (i := 128) rfl rfl
theorem mo_82 : ci_okC ci_T q_X10_loadOf := ⟨by decide +kernel, wd_697, by decide, by decide +kernel, by decide +kernel, wd_91⟩
theorem mk_82 : (parseMethodDescriptor (ci_y q_X10_loadOf).desc).map (fun d => d.parameters.length) = some 1 := by decide +kernel
theorem ms_83 : ci_Ms 83 = q_X10_fits := rfl
theorem wd_703 : Jvm.Cond.code yX10_fits cX10_fits 3 (some .boolean) ∈ ci_T := tb_3 (i := 134) rfl rfl
theorem mo_83 : ci_okC ci_T q_X10_fits := ⟨by decide +kernel, wd_703, by decide, by decide +kernel, by decide +kernel, wd_91⟩
theorem mk_83 : (parseMethodDescriptor (ci_y q_X10_fits).desc).map (fun d => d.parameters.length) = some 2 := by decide +kernel
theorem ms_84 : ci_Ms 84 = q_X10_breakers := rfl
theorem wd_818 : Jvm.Cond.code yX10_breakers cX10_breakers 3 (some .int) ∈ ci_T := tb_4 (i := 9) rfl rfl
theorem mo_84 : ci_okC ci_T q_X10_breakers := ⟨by decide +kernel, wd_818, by decide, by decide +kernel, by decide +kernel, wd_91⟩
theorem mk_84 : (parseMethodDescriptor (ci_y q_X10_breakers).desc).map (fun d => d.parameters.length) = some 0 := by decide +kernel
theorem ms_85 : ci_Ms 85 = q_X10_hand := rfl
theorem wd_708 : Jvm.Cond.code yX10_hand cX10_hand 3 none ∈ ci_T := tb_3 (i := 139) rfl rfl
theorem mo_85 : ci_okC ci_T q_X10_hand := ⟨by decide +kernel, wd_708, by decide, by decide +kernel, by decide +kernel, wd_91⟩
theorem mk_85 : (parseMethodDescriptor (ci_y q_X10_hand).desc).map (fun d => d.parameters.length) = some 2 := by decide +kernel
theorem ms_86 : ci_Ms 86 = q_X10_given := rfl
theorem wd_712 : Jvm.Cond.code yX10_given cX10_given 4 (some .int) ∈ ci_T := tb_3 (i := 143) rfl rfl
theorem mo_86 : ci_okC ci_T q_X10_given := ⟨by decide +kernel, wd_712, by decide, by decide +kernel, by decide +kernel, wd_91⟩
theorem mk_86 : (parseMethodDescriptor (ci_y q_X10_given).desc).map (fun d => d.parameters.length) = some 2 := by decide +kernel
theorem ms_87 : ci_Ms 87 = q_X10_lent := rfl
theorem wd_723 : Jvm.Cond.code yX10_lent cX10_lent 4 (some .int) ∈ ci_T := tb_3 (i := 154) rfl rfl
theorem mo_87 : ci_okC ci_T q_X10_lent := ⟨by decide +kernel, wd_723, by decide, by decide +kernel, by decide +kernel, wd_91⟩
theorem mk_87 : (parseMethodDescriptor (ci_y q_X10_lent).desc).map (fun d => d.parameters.length) = some 2 := by decide +kernel
theorem ms_88 : ci_Ms 88 = q_X10_claimed := rfl
theorem wd_727 : Jvm.Cond.code yX10_claimed cX10_claimed 4 (some .int) ∈ ci_T := tb_3 (i := 158) rfl rfl
theorem mo_88 : ci_okC ci_T q_X10_claimed := ⟨by decide +kernel, wd_727, by decide, by decide +kernel, by decide +kernel, wd_91⟩
theorem mk_88 : (parseMethodDescriptor (ci_y q_X10_claimed).desc).map (fun d => d.parameters.length) = some 2 := by decide +kernel
theorem ms_89 : ci_Ms 89 = q_X10_painted := rfl
theorem wd_737 : Jvm.Cond.code yX10_painted cX10_painted 3 (some .int) ∈ ci_T := tb_3 (i := 168) rfl rfl
theorem mo_89 : ci_okC ci_T q_X10_painted := ⟨by decide +kernel, wd_737, by decide, by decide +kernel, by decide +kernel, wd_91⟩
theorem mk_89 : (parseMethodDescriptor (ci_y q_X10_painted).desc).map (fun d => d.parameters.length) = some 2 := by decide +kernel
theorem ms_90 : ci_Ms 90 = q_X10_visited := rfl
theorem wd_750 : Jvm.Cond.code yX10_visited cX10_visited 1 (some .int) ∈ ci_T := tb_3 (i := 181) rfl rfl
theorem mo_90 : ci_okC ci_T q_X10_visited := ⟨by decide +kernel, wd_750, by decide, by decide +kernel, by decide +kernel, wd_91⟩
theorem mk_90 : (parseMethodDescriptor (ci_y q_X10_visited).desc).map (fun d => d.parameters.length) = some 0 := by decide +kernel
theorem ms_91 : ci_Ms 91 = q_X10_seizedFrom := rfl
theorem wd_754 : Jvm.Cond.code yX10_seizedFrom cX10_seizedFrom 9 (some .int) ∈ ci_T := tb_3 (i := 185) rfl rfl
theorem mo_91 : ci_okC ci_T q_X10_seizedFrom := ⟨by decide +kernel, wd_754, by decide, by decide +kernel, by decide +kernel, wd_91⟩
theorem mk_91 : (parseMethodDescriptor (ci_y q_X10_seizedFrom).desc).map (fun d => d.parameters.length) = some 1 := by decide +kernel
theorem ms_92 : ci_Ms 92 = q_X10_passHour := rfl
theorem wd_746 : Jvm.Cond.code yX10_passHour cX10_passHour 3 (some .int) ∈ ci_T := tb_3 (i := 177) rfl rfl
theorem mo_92 : ci_okC ci_T q_X10_passHour := ⟨by decide +kernel, wd_746, by decide, by decide +kernel, by decide +kernel, wd_91⟩
theorem mk_92 : (parseMethodDescriptor (ci_y q_X10_passHour).desc).map (fun d => d.parameters.length) = some 0 := by decide +kernel
theorem ms_93 : ci_Ms 93 = q_X10_passHours := rfl
theorem wd_741 : Jvm.Cond.code yX10_passHours cX10_passHours 5 (some .int) ∈ ci_T := tb_3 (i := 172) rfl rfl
theorem mo_93 : ci_okC ci_T q_X10_passHours := ⟨by decide +kernel, wd_741, by decide, by decide +kernel, by decide +kernel, wd_91⟩
theorem mk_93 : (parseMethodDescriptor (ci_y q_X10_passHours).desc).map (fun d => d.parameters.length) = some 1 := by decide +kernel
theorem ms_94 : ci_Ms 94 = q_X11_init := rfl
theorem wd_116 : Jvm.Cond.code yX11_init cX11_init 2 none ∈ ci_T := tb_1 (i := 27) rfl rfl
theorem wd_90 : Jvm.Cond.initialized "TwoAtMost" ∈ ci_T := tb_1 (i := 1) rfl rfl
theorem mo_94 : ci_okC ci_T q_X11_init := ⟨by decide +kernel, wd_116, by decide, by decide +kernel, by decide +kernel, wd_90⟩
theorem mk_94 : (parseMethodDescriptor (ci_y q_X11_init).desc).map (fun d => d.parameters.length) = some 0 := by decide +kernel
theorem ms_95 : ci_Ms 95 = q_X11_sign := rfl
theorem wd_454 : Jvm.Cond.code yX11_sign cX11_sign 3 (some .int) ∈ ci_T := tb_2 (i := 125) rfl rfl
theorem mo_95 : ci_okC ci_T q_X11_sign := ⟨by decide +kernel, wd_454, by decide, by decide +kernel, by decide +kernel, wd_90⟩
theorem mk_95 : (parseMethodDescriptor (ci_y q_X11_sign).desc).map (fun d => d.parameters.length) = some 1 := by decide +kernel
theorem ms_96 : ci_Ms 96 = q_X11_end := rfl
theorem wd_462 : Jvm.Cond.code yX11_end cX11_end 2 (some .boolean) ∈ ci_T := tb_2 (i := 133) rfl rfl
theorem mo_96 : ci_okC ci_T q_X11_end := ⟨by decide +kernel, wd_462, by decide, by decide +kernel, by decide +kernel, wd_90⟩
theorem mk_96 : (parseMethodDescriptor (ci_y q_X11_end).desc).map (fun d => d.parameters.length) = some 1 := by decide +kernel
theorem ms_97 : ci_Ms 97 = q_X11_houses := rfl
theorem wd_466 : Jvm.Cond.code yX11_houses cX11_houses 3 (some .int) ∈ ci_T := tb_2 (i := 137) rfl rfl
theorem mo_97 : ci_okC ci_T q_X11_houses := ⟨by decide +kernel, wd_466, by decide, by decide +kernel, by decide +kernel, wd_90⟩
theorem mk_97 : (parseMethodDescriptor (ci_y q_X11_houses).desc).map (fun d => d.parameters.length) = some 1 := by decide +kernel
theorem ms_98 : ci_Ms 98 = q_X11_things := rfl
theorem wd_479 : Jvm.Cond.code yX11_things cX11_things 2 (some .int) ∈ ci_T := tb_2 (i := 150) rfl rfl
theorem mo_98 : ci_okC ci_T q_X11_things := ⟨by decide +kernel, wd_479, by decide, by decide +kernel, by decide +kernel, wd_90⟩
theorem mk_98 : (parseMethodDescriptor (ci_y q_X11_things).desc).map (fun d => d.parameters.length) = some 0 := by decide +kernel
theorem ms_99 : ci_Ms 99 = q_X11_kinds := rfl
theorem wd_530 : Jvm.Cond.code yX11_kinds cX11_kinds 2 (some .int) ∈ ci_T := tb_2 (i := 201) rfl rfl
theorem mo_99 : ci_okC ci_T q_X11_kinds := ⟨by decide +kernel, wd_530, by decide, by decide +kernel, by decide +kernel, wd_90⟩
theorem mk_99 : (parseMethodDescriptor (ci_y q_X11_kinds).desc).map (fun d => d.parameters.length) = some 0 := by decide +kernel
theorem ms_100 : ci_Ms 100 = q_X11_rule := rfl
theorem wd_546 : Jvm.Cond.code yX11_rule cX11_rule 2 (some .int) ∈ ci_T := tb_2 (i := 217) rfl rfl
theorem mo_100 : ci_okC ci_T q_X11_rule := ⟨by decide +kernel, wd_546, by decide, by decide +kernel, by decide +kernel, wd_90⟩
theorem mk_100 : (parseMethodDescriptor (ci_y q_X11_rule).desc).map (fun d => d.parameters.length) = some 0 := by decide +kernel
theorem ms_101 : ci_Ms 101 = q_X11_thing := rfl
theorem wd_1135 : Jvm.Cond.code yX11_thing cX11_thing 3 (some .int) ∈ ci_T := tb_5 (i := 86) rfl rfl
theorem mo_101 : ci_okC ci_T q_X11_thing := ⟨by decide +kernel, wd_1135, by decide, by decide +kernel, by decide +kernel, wd_90⟩
theorem mk_101 : (parseMethodDescriptor (ci_y q_X11_thing).desc).map (fun d => d.parameters.length) = some 2 := by decide +kernel
theorem ms_102 : ci_Ms 102 = q_X11_kind := rfl
theorem wd_1204 : Jvm.Cond.code yX11_kind cX11_kind 3 (some .int) ∈ ci_T := tb_5 (i := 155) rfl rfl
theorem mo_102 : ci_okC ci_T q_X11_kind := ⟨by decide +kernel, wd_1204, by decide, by decide +kernel, by decide +kernel, wd_90⟩
theorem mk_102 : (parseMethodDescriptor (ci_y q_X11_kind).desc).map (fun d => d.parameters.length) = some 2 := by decide +kernel
theorem ms_103 : ci_Ms 103 = q_X11_house := rfl
theorem wd_1211 : Jvm.Cond.code yX11_house cX11_house 3 (some .int) ∈ ci_T := tb_5 (i := 162) rfl rfl
theorem mo_103 : ci_okC ci_T q_X11_house := ⟨by decide +kernel, wd_1211, by decide, by decide +kernel, by decide +kernel, wd_90⟩
theorem mk_103 : (parseMethodDescriptor (ci_y q_X11_house).desc).map (fun d => d.parameters.length) = some 2 := by decide +kernel
theorem ms_104 : ci_Ms 104 = q_X11_worth := rfl
theorem wd_607 : Jvm.Cond.code yX11_worth cX11_worth 3 (some .int) ∈ ci_T := tb_3 (i := 38) rfl rfl
theorem mo_104 : ci_okC ci_T q_X11_worth := ⟨by decide +kernel, wd_607, by decide, by decide +kernel, by decide +kernel, wd_90⟩
theorem mk_104 : (parseMethodDescriptor (ci_y q_X11_worth).desc).map (fun d => d.parameters.length) = some 2 := by decide +kernel
theorem ms_105 : ci_Ms 105 = q_X11_set := rfl
theorem wd_654 : Jvm.Cond.code yX11_set cX11_set 3 (some .int) ∈ ci_T := tb_3 (i := 85) rfl rfl
theorem mo_105 : ci_okC ci_T q_X11_set := ⟨by decide +kernel, wd_654, by decide, by decide +kernel, by decide +kernel, wd_90⟩
theorem mk_105 : (parseMethodDescriptor (ci_y q_X11_set).desc).map (fun d => d.parameters.length) = some 1 := by decide +kernel
theorem ms_106 : ci_Ms 106 = q_X11_sheet := rfl
theorem wd_658 : Jvm.Cond.code yX11_sheet cX11_sheet 9 (some .int) ∈ ci_T := tb_3 (i := 89) rfl rfl
theorem mo_106 : ci_okC ci_T q_X11_sheet := ⟨by decide +kernel, wd_658, by decide, by decide +kernel, by decide +kernel, wd_90⟩
theorem mk_106 : (parseMethodDescriptor (ci_y q_X11_sheet).desc).map (fun d => d.parameters.length) = some 4 := by decide +kernel
theorem ms_107 : ci_Ms 107 = q_X11_buy := rfl
theorem wd_667 : Jvm.Cond.code yX11_buy cX11_buy 3 (some .int) ∈ ci_T := tb_3 (i := 98) rfl rfl
theorem mo_107 : ci_okC ci_T q_X11_buy := ⟨by decide +kernel, wd_667, by decide, by decide +kernel, by decide +kernel, wd_90⟩
theorem mk_107 : (parseMethodDescriptor (ci_y q_X11_buy).desc).map (fun d => d.parameters.length) = some 2 := by decide +kernel
theorem ms_108 : ci_Ms 108 = q_X11_give := rfl
theorem wd_770 : Jvm.Cond.code yX11_give cX11_give 3 (some .int) ∈ ci_T := tb_3 (i := 201) rfl rfl
theorem mo_108 : ci_okC ci_T q_X11_give := ⟨by decide +kernel, wd_770, by decide, by decide +kernel, by decide +kernel, wd_90⟩
theorem mk_108 : (parseMethodDescriptor (ci_y q_X11_give).desc).map (fun d => d.parameters.length) = some 2 := by decide +kernel
theorem ms_109 : ci_Ms 109 = q_X11_lend := rfl
theorem wd_774 : Jvm.Cond.code yX11_lend cX11_lend 3 (some .int) ∈ ci_T := tb_3 (i := 205) rfl rfl
theorem mo_109 : ci_okC ci_T q_X11_lend := ⟨by decide +kernel, wd_774, by decide, by decide +kernel, by decide +kernel, wd_90⟩
theorem mk_109 : (parseMethodDescriptor (ci_y q_X11_lend).desc).map (fun d => d.parameters.length) = some 2 := by decide +kernel
theorem ms_110 : ci_Ms 110 = q_X11_claim := rfl
theorem wd_778 : Jvm.Cond.code yX11_claim cX11_claim 3 (some .int) ∈ ci_T := tb_3 (i := 209) rfl rfl
theorem mo_110 : ci_okC ci_T q_X11_claim := ⟨by decide +kernel, wd_778, by decide, by decide +kernel, by decide +kernel, wd_90⟩
theorem mk_110 : (parseMethodDescriptor (ci_y q_X11_claim).desc).map (fun d => d.parameters.length) = some 2 := by decide +kernel
theorem ms_111 : ci_Ms 111 = q_X11_paint := rfl
theorem wd_782 : Jvm.Cond.code yX11_paint cX11_paint 3 (some .int) ∈ ci_T := tb_3 (i := 213) rfl rfl
theorem mo_111 : ci_okC ci_T q_X11_paint := ⟨by decide +kernel, wd_782, by decide, by decide +kernel, by decide +kernel, wd_90⟩
theorem mk_111 : (parseMethodDescriptor (ci_y q_X11_paint).desc).map (fun d => d.parameters.length) = some 2 := by decide +kernel
theorem ms_112 : ci_Ms 112 = q_X11_hours := rfl
theorem wd_786 : Jvm.Cond.code yX11_hours cX11_hours 3 (some .int) ∈ ci_T := tb_3 (i := 217) rfl rfl
theorem mo_112 : ci_okC ci_T q_X11_hours := ⟨by decide +kernel, wd_786, by decide, by decide +kernel, by decide +kernel, wd_90⟩
theorem mk_112 : (parseMethodDescriptor (ci_y q_X11_hours).desc).map (fun d => d.parameters.length) = some 1 := by decide +kernel
theorem ms_113 : ci_Ms 113 = q_X11_day := rfl
theorem wd_803 : Jvm.Cond.code yX11_day cX11_day 3 (some .int) ∈ ci_T := tb_3 (i := 234) rfl rfl
theorem mo_113 : ci_okC ci_T q_X11_day := ⟨by decide +kernel, wd_803, by decide, by decide +kernel, by decide +kernel, wd_90⟩
theorem mk_113 : (parseMethodDescriptor (ci_y q_X11_day).desc).map (fun d => d.parameters.length) = some 0 := by decide +kernel
theorem ms_114 : ci_Ms 114 = q_X11_undo := rfl
theorem wd_822 : Jvm.Cond.code yX11_undo cX11_undo 1 (some .int) ∈ ci_T := tb_4 (i := 13) rfl rfl
theorem mo_114 : ci_okC ci_T q_X11_undo := ⟨by decide +kernel, wd_822, by decide, by decide +kernel, by decide +kernel, wd_90⟩
theorem mk_114 : (parseMethodDescriptor (ci_y q_X11_undo).desc).map (fun d => d.parameters.length) = some 0 := by decide +kernel
theorem ms_115 : ci_Ms 115 = q_X11_broken := rfl
theorem wd_831 : Jvm.Cond.code yX11_broken cX11_broken 5 (some .int) ∈ ci_T := tb_4 (i := 22) rfl rfl
theorem mo_115 : ci_okC ci_T q_X11_broken := ⟨by decide +kernel, wd_831, by decide, by decide +kernel, by decide +kernel, wd_90⟩
theorem mk_115 : (parseMethodDescriptor (ci_y q_X11_broken).desc).map (fun d => d.parameters.length) = some 0 := by decide +kernel
theorem ms_116 : ci_Ms 116 = q_X11_would := rfl
theorem wd_840 : Jvm.Cond.code yX11_would cX11_would 5 (some .int) ∈ ci_T := tb_4 (i := 31) rfl rfl
theorem mo_116 : ci_okC ci_T q_X11_would := ⟨by decide +kernel, wd_840, by decide, by decide +kernel, by decide +kernel, wd_90⟩
theorem mk_116 : (parseMethodDescriptor (ci_y q_X11_would).desc).map (fun d => d.parameters.length) = some 2 := by decide +kernel
theorem ms_117 : ci_Ms 117 = q_X11_rid := rfl
theorem wd_844 : Jvm.Cond.code yX11_rid cX11_rid 3 (some .int) ∈ ci_T := tb_4 (i := 35) rfl rfl
theorem mo_117 : ci_okC ci_T q_X11_rid := ⟨by decide +kernel, wd_844, by decide, by decide +kernel, by decide +kernel, wd_90⟩
theorem mk_117 : (parseMethodDescriptor (ci_y q_X11_rid).desc).map (fun d => d.parameters.length) = some 1 := by decide +kernel
theorem ms_118 : ci_Ms 118 = q_X11_most := rfl
theorem wd_870 : Jvm.Cond.code yX11_most cX11_most 3 (some .int) ∈ ci_T := tb_4 (i := 61) rfl rfl
theorem mo_118 : ci_okC ci_T q_X11_most := ⟨by decide +kernel, wd_870, by decide, by decide +kernel, by decide +kernel, wd_90⟩
theorem mk_118 : (parseMethodDescriptor (ci_y q_X11_most).desc).map (fun d => d.parameters.length) = some 1 := by decide +kernel
theorem ms_119 : ci_Ms 119 = q_X11_alike := rfl
theorem wd_890 : Jvm.Cond.code yX11_alike cX11_alike 5 (some .int) ∈ ci_T := tb_4 (i := 81) rfl rfl
theorem mo_119 : ci_okC ci_T q_X11_alike := ⟨by decide +kernel, wd_890, by decide, by decide +kernel, by decide +kernel, wd_90⟩
theorem mk_119 : (parseMethodDescriptor (ci_y q_X11_alike).desc).map (fun d => d.parameters.length) = some 2 := by decide +kernel
theorem ms_120 : ci_Ms 120 = q_X11_trust := rfl
theorem wd_895 : Jvm.Cond.code yX11_trust cX11_trust 3 (some .int) ∈ ci_T := tb_4 (i := 86) rfl rfl
theorem mo_120 : ci_okC ci_T q_X11_trust := ⟨by decide +kernel, wd_895, by decide, by decide +kernel, by decide +kernel, wd_90⟩
theorem mk_120 : (parseMethodDescriptor (ci_y q_X11_trust).desc).map (fun d => d.parameters.length) = some 1 := by decide +kernel
theorem ms_121 : ci_Ms 121 = q_X11_visit := rfl
theorem wd_908 : Jvm.Cond.code yX11_visit cX11_visit 3 (some .int) ∈ ci_T := tb_4 (i := 99) rfl rfl
theorem mo_121 : ci_okC ci_T q_X11_visit := ⟨by decide +kernel, wd_908, by decide, by decide +kernel, by decide +kernel, wd_90⟩
theorem mk_121 : (parseMethodDescriptor (ci_y q_X11_visit).desc).map (fun d => d.parameters.length) = some 1 := by decide +kernel
theorem ms_122 : ci_Ms 122 = q_X11_store := rfl
theorem wd_914 : Jvm.Cond.code yX11_store cX11_store 4 (some .int) ∈ ci_T := tb_4 (i := 105) rfl rfl
theorem mo_122 : ci_okC ci_T q_X11_store := ⟨by decide +kernel, wd_914, by decide, by decide +kernel, by decide +kernel, wd_90⟩
theorem mk_122 : (parseMethodDescriptor (ci_y q_X11_store).desc).map (fun d => d.parameters.length) = some 1 := by decide +kernel
theorem ms_123 : ci_Ms 123 = q_X11_strike := rfl
theorem wd_938 : Jvm.Cond.code yX11_strike cX11_strike 3 (some .int) ∈ ci_T := tb_4 (i := 129) rfl rfl
theorem mo_123 : ci_okC ci_T q_X11_strike := ⟨by decide +kernel, wd_938, by decide, by decide +kernel, by decide +kernel, wd_90⟩
theorem mk_123 : (parseMethodDescriptor (ci_y q_X11_strike).desc).map (fun d => d.parameters.length) = some 1 := by decide +kernel
theorem ms_124 : ci_Ms 124 = q_X11_border := rfl
theorem wd_942 : Jvm.Cond.code yX11_border cX11_border 7 (some .int) ∈ ci_T := tb_4 (i := 133) rfl rfl
theorem mo_124 : ci_okC ci_T q_X11_border := ⟨by decide +kernel, wd_942, by decide, by decide +kernel, by decide +kernel, wd_90⟩
theorem mk_124 : (parseMethodDescriptor (ci_y q_X11_border).desc).map (fun d => d.parameters.length) = some 0 := by decide +kernel
theorem ms_125 : ci_Ms 125 = q_X11_exchange := rfl
theorem wd_954 : Jvm.Cond.code yX11_exchange cX11_exchange 10 (some .int) ∈ ci_T := tb_4 (i := 145) rfl rfl
theorem mo_125 : ci_okC ci_T q_X11_exchange := ⟨by decide +kernel, wd_954, by decide, by decide +kernel, by decide +kernel, wd_90⟩
theorem mk_125 : (parseMethodDescriptor (ci_y q_X11_exchange).desc).map (fun d => d.parameters.length) = some 2 := by decide +kernel
theorem ms_126 : ci_Ms 126 = q_X11_name := rfl
theorem wd_958 : Jvm.Cond.code yX11_name cX11_name 5 (some .int) ∈ ci_T := tb_4 (i := 149) rfl rfl
theorem mo_126 : ci_okC ci_T q_X11_name := ⟨by decide +kernel, wd_958, by decide, by decide +kernel, by decide +kernel, wd_90⟩
theorem mk_126 : (parseMethodDescriptor (ci_y q_X11_name).desc).map (fun d => d.parameters.length) = some 1 := by decide +kernel
theorem ms_127 : ci_Ms 127 = q_X11_deal := rfl
theorem wd_965 : Jvm.Cond.code yX11_deal cX11_deal 3 (some .int) ∈ ci_T := tb_4 (i := 156) rfl rfl
theorem mo_127 : ci_okC ci_T q_X11_deal := ⟨by decide +kernel, wd_965, by decide, by decide +kernel, by decide +kernel, wd_90⟩
theorem mk_127 : (parseMethodDescriptor (ci_y q_X11_deal).desc).map (fun d => d.parameters.length) = some 0 := by decide +kernel
theorem ms_128 : ci_Ms 128 = q_X11_vote := rfl
theorem wd_995 : Jvm.Cond.code yX11_vote cX11_vote 5 (some .int) ∈ ci_T := tb_4 (i := 186) rfl rfl
theorem mo_128 : ci_okC ci_T q_X11_vote := ⟨by decide +kernel, wd_995, by decide, by decide +kernel, by decide +kernel, wd_90⟩
theorem mk_128 : (parseMethodDescriptor (ci_y q_X11_vote).desc).map (fun d => d.parameters.length) = some 0 := by decide +kernel
theorem ms_129 : ci_Ms 129 = q_X11_pays := rfl
theorem wd_1003 : Jvm.Cond.code yX11_pays cX11_pays 5 (some .int) ∈ ci_T := tb_4 (i := 194) rfl rfl
theorem mo_129 : ci_okC ci_T q_X11_pays := ⟨by decide +kernel, wd_1003, by decide, by decide +kernel, by decide +kernel, wd_90⟩
theorem mk_129 : (parseMethodDescriptor (ci_y q_X11_pays).desc).map (fun d => d.parameters.length) = some 3 := by decide +kernel
theorem ms_130 : ci_Ms 130 = q_X11_coins := rfl
theorem wd_1032 : Jvm.Cond.code yX11_coins cX11_coins 6 (some .int) ∈ ci_T := tb_4 (i := 223) rfl rfl
theorem mo_130 : ci_okC ci_T q_X11_coins := ⟨by decide +kernel, wd_1032, by decide, by decide +kernel, by decide +kernel, wd_90⟩
theorem mk_130 : (parseMethodDescriptor (ci_y q_X11_coins).desc).map (fun d => d.parameters.length) = some 1 := by decide +kernel
theorem ms_131 : ci_Ms 131 = q_X11_had := rfl
theorem wd_1036 : Jvm.Cond.code yX11_had cX11_had 8 (some .int) ∈ ci_T := tb_4 (i := 227) rfl rfl
theorem mo_131 : ci_okC ci_T q_X11_had := ⟨by decide +kernel, wd_1036, by decide, by decide +kernel, by decide +kernel, wd_90⟩
theorem mk_131 : (parseMethodDescriptor (ci_y q_X11_had).desc).map (fun d => d.parameters.length) = some 2 := by decide +kernel
theorem ms_132 : ci_Ms 132 = q_X11_heard := rfl
theorem wd_1040 : Jvm.Cond.code yX11_heard cX11_heard 3 (some .int) ∈ ci_T := tb_4 (i := 231) rfl rfl
theorem mo_132 : ci_okC ci_T q_X11_heard := ⟨by decide +kernel, wd_1040, by decide, by decide +kernel, by decide +kernel, wd_90⟩
theorem mk_132 : (parseMethodDescriptor (ci_y q_X11_heard).desc).map (fun d => d.parameters.length) = some 2 := by decide +kernel
theorem ms_133 : ci_Ms 133 = q_X11_forget := rfl
theorem wd_1044 : Jvm.Cond.code yX11_forget cX11_forget 2 (some .int) ∈ ci_T := tb_4 (i := 235) rfl rfl
theorem mo_133 : ci_okC ci_T q_X11_forget := ⟨by decide +kernel, wd_1044, by decide, by decide +kernel, by decide +kernel, wd_90⟩
theorem mk_133 : (parseMethodDescriptor (ci_y q_X11_forget).desc).map (fun d => d.parameters.length) = some 0 := by decide +kernel
theorem ms_134 : ci_Ms 134 = q_X11_whose := rfl
theorem wd_1048 : Jvm.Cond.code yX11_whose cX11_whose 2 (some .int) ∈ ci_T := tb_4 (i := 239) rfl rfl
theorem mo_134 : ci_okC ci_T q_X11_whose := ⟨by decide +kernel, wd_1048, by decide, by decide +kernel, by decide +kernel, wd_90⟩
theorem mk_134 : (parseMethodDescriptor (ci_y q_X11_whose).desc).map (fun d => d.parameters.length) = some 0 := by decide +kernel
theorem ms_135 : ci_Ms 135 = q_X11_ask := rfl
theorem wd_1056 : Jvm.Cond.code yX11_ask cX11_ask 8 (some .int) ∈ ci_T := tb_5 (i := 7) rfl rfl
theorem mo_135 : ci_okC ci_T q_X11_ask := ⟨by decide +kernel, wd_1056, by decide, by decide +kernel, by decide +kernel, wd_90⟩
theorem mk_135 : (parseMethodDescriptor (ci_y q_X11_ask).desc).map (fun d => d.parameters.length) = some 0 := by decide +kernel
theorem ms_136 : ci_Ms 136 = q_X11_seen := rfl
theorem wd_1060 : Jvm.Cond.code yX11_seen cX11_seen 7 (some .int) ∈ ci_T := tb_5 (i := 11) rfl rfl
theorem mo_136 : ci_okC ci_T q_X11_seen := ⟨by decide +kernel, wd_1060, by decide, by decide +kernel, by decide +kernel, wd_90⟩
theorem mk_136 : (parseMethodDescriptor (ci_y q_X11_seen).desc).map (fun d => d.parameters.length) = some 3 := by decide +kernel
theorem ms_137 : ci_Ms 137 = q_X11_finds := rfl
theorem wd_1082 : Jvm.Cond.code yX11_finds cX11_finds 9 (some .int) ∈ ci_T := tb_5 (i := 33) rfl rfl
theorem mo_137 : ci_okC ci_T q_X11_finds := ⟨by decide +kernel, wd_1082, by decide, by decide +kernel, by decide +kernel, wd_90⟩
theorem mk_137 : (parseMethodDescriptor (ci_y q_X11_finds).desc).map (fun d => d.parameters.length) = some 3 := by decide +kernel
theorem ms_138 : ci_Ms 138 = q_X11_rests := rfl
theorem wd_1096 : Jvm.Cond.code yX11_rests cX11_rests 6 (some .int) ∈ ci_T := tb_5 (i := 47) rfl rfl
theorem mo_138 : ci_okC ci_T q_X11_rests := ⟨by decide +kernel, wd_1096, by decide, by decide +kernel, by decide +kernel, wd_90⟩
theorem mk_138 : (parseMethodDescriptor (ci_y q_X11_rests).desc).map (fun d => d.parameters.length) = some 2 := by decide +kernel
theorem ms_139 : ci_Ms 139 = q_X11_years := rfl
theorem wd_1106 : Jvm.Cond.code yX11_years cX11_years 9 (some .int) ∈ ci_T := tb_5 (i := 57) rfl rfl
theorem mo_139 : ci_okC ci_T q_X11_years := ⟨by decide +kernel, wd_1106, by decide, by decide +kernel, by decide +kernel, wd_90⟩
theorem mk_139 : (parseMethodDescriptor (ci_y q_X11_years).desc).map (fun d => d.parameters.length) = some 2 := by decide +kernel
theorem ms_140 : ci_Ms 140 = q_X11_keep := rfl
theorem wd_1119 : Jvm.Cond.code yX11_keep cX11_keep 2 (some .boolean) ∈ ci_T := tb_5 (i := 70) rfl rfl
theorem mo_140 : ci_okC ci_T q_X11_keep := ⟨by decide +kernel, wd_1119, by decide, by decide +kernel, by decide +kernel, wd_90⟩
theorem mk_140 : (parseMethodDescriptor (ci_y q_X11_keep).desc).map (fun d => d.parameters.length) = some 1 := by decide +kernel
theorem ms_141 : ci_Ms 141 = q_X11_again := rfl
theorem wd_1123 : Jvm.Cond.code yX11_again cX11_again 2 (some .boolean) ∈ ci_T := tb_5 (i := 74) rfl rfl
theorem mo_141 : ci_okC ci_T q_X11_again := ⟨by decide +kernel, wd_1123, by decide, by decide +kernel, by decide +kernel, wd_90⟩
theorem mk_141 : (parseMethodDescriptor (ci_y q_X11_again).desc).map (fun d => d.parameters.length) = some 1 := by decide +kernel
theorem ms_142 : ci_Ms 142 = q_X11_count := rfl
theorem wd_1127 : Jvm.Cond.code yX11_count cX11_count 2 (some .int) ∈ ci_T := tb_5 (i := 78) rfl rfl
theorem mo_142 : ci_okC ci_T q_X11_count := ⟨by decide +kernel, wd_1127, by decide, by decide +kernel, by decide +kernel, wd_90⟩
theorem mk_142 : (parseMethodDescriptor (ci_y q_X11_count).desc).map (fun d => d.parameters.length) = some 1 := by decide +kernel
theorem ms_143 : ci_Ms 143 = q_X11_row := rfl
theorem wd_1218 : Jvm.Cond.code yX11_row cX11_row 2 (some .long) ∈ ci_T := tb_5 (i := 169) rfl rfl
theorem mo_143 : ci_okC ci_T q_X11_row := ⟨by decide +kernel, wd_1218, by decide, by decide +kernel, by decide +kernel, wd_90⟩
theorem mk_143 : (parseMethodDescriptor (ci_y q_X11_row).desc).map (fun d => d.parameters.length) = some 1 := by decide +kernel
theorem ms_144 : ci_Ms 144 = q_X11_forgetStates := rfl
theorem wd_475 : Jvm.Cond.code yX11_forgetStates cX11_forgetStates 2 none ∈ ci_T := tb_2 (i := 146) rfl rfl
theorem mo_144 : ci_okC ci_T q_X11_forgetStates := ⟨by decide +kernel, wd_475, by decide, by decide +kernel, by decide +kernel, wd_90⟩
theorem mk_144 : (parseMethodDescriptor (ci_y q_X11_forgetStates).desc).map (fun d => d.parameters.length) = some 0 := by decide +kernel
theorem ms_145 : ci_Ms 145 = q_X11_tellNothing := rfl
theorem wd_794 : Jvm.Cond.code yX11_tellNothing cX11_tellNothing 1 none ∈ ci_T := tb_3 (i := 225) rfl rfl
theorem mo_145 : ci_okC ci_T q_X11_tellNothing := ⟨by decide +kernel, wd_794, by decide, by decide +kernel, by decide +kernel, wd_90⟩
theorem mk_145 : (parseMethodDescriptor (ci_y q_X11_tellNothing).desc).map (fun d => d.parameters.length) = some 0 := by decide +kernel
theorem ms_146 : ci_Ms 146 = q_X11_tellBesides := rfl
theorem wd_798 : Jvm.Cond.code yX11_tellBesides cX11_tellBesides 3 none ∈ ci_T := tb_3 (i := 229) rfl rfl
theorem mo_146 : ci_okC ci_T q_X11_tellBesides := ⟨by decide +kernel, wd_798, by decide, by decide +kernel, by decide +kernel, wd_90⟩
theorem mk_146 : (parseMethodDescriptor (ci_y q_X11_tellBesides).desc).map (fun d => d.parameters.length) = some 1 := by decide +kernel
theorem ms_147 : ci_Ms 147 = q_X11_tellOne := rfl
theorem wd_866 : Jvm.Cond.code yX11_tellOne cX11_tellOne 3 none ∈ ci_T := tb_4 (i := 57) rfl rfl
theorem mo_147 : ci_okC ci_T q_X11_tellOne := ⟨by decide +kernel, wd_866, by decide, by decide +kernel, by decide +kernel, wd_90⟩
theorem mk_147 : (parseMethodDescriptor (ci_y q_X11_tellOne).desc).map (fun d => d.parameters.length) = some 1 := by decide +kernel
theorem ms_148 : ci_Ms 148 = q_X11_tellTwo := rfl
theorem wd_790 : Jvm.Cond.code yX11_tellTwo cX11_tellTwo 5 none ∈ ci_T := tb_3 (i := 221) rfl rfl
theorem mo_148 : ci_okC ci_T q_X11_tellTwo := ⟨by decide +kernel, wd_790, by decide, by decide +kernel, by decide +kernel, wd_90⟩
theorem mk_148 : (parseMethodDescriptor (ci_y q_X11_tellTwo).desc).map (fun d => d.parameters.length) = some 2 := by decide +kernel
theorem ms_149 : ci_Ms 149 = q_X11_sheetEntry := rfl
theorem wd_661 : Jvm.Cond.code yX11_sheetEntry cX11_sheetEntry 3 (some .int) ∈ ci_T := tb_3 (i := 92) rfl rfl
theorem mo_149 : ci_okC ci_T q_X11_sheetEntry := ⟨by decide +kernel, wd_661, by decide, by decide +kernel, by decide +kernel, wd_90⟩
theorem mk_149 : (parseMethodDescriptor (ci_y q_X11_sheetEntry).desc).map (fun d => d.parameters.length) = some 2 := by decide +kernel
theorem ms_150 : ci_Ms 150 = q_X11_doneAlone := rfl
theorem wd_671 : Jvm.Cond.code yX11_doneAlone cX11_doneAlone 5 (some .int) ∈ ci_T := tb_3 (i := 102) rfl rfl
theorem mo_150 : ci_okC ci_T q_X11_doneAlone := ⟨by decide +kernel, wd_671, by decide, by decide +kernel, by decide +kernel, wd_90⟩
theorem mk_150 : (parseMethodDescriptor (ci_y q_X11_doneAlone).desc).map (fun d => d.parameters.length) = some 3 := by decide +kernel
theorem ms_151 : ci_Ms 151 = q_X11_acted := rfl
theorem wd_688 : Jvm.Cond.code yX11_acted cX11_acted 4 (some .int) ∈ ci_T := tb_3 (i := 119) rfl rfl
theorem mo_151 : ci_okC ci_T q_X11_acted := ⟨by decide +kernel, wd_688, by decide, by decide +kernel, by decide +kernel, wd_90⟩
theorem mk_151 : (parseMethodDescriptor (ci_y q_X11_acted).desc).map (fun d => d.parameters.length) = some 3 := by decide +kernel
theorem ms_152 : ci_Ms 152 = q_X11_bought := rfl
theorem wd_692 : Jvm.Cond.code yX11_bought cX11_bought 4 (some .int) ∈ ci_T := tb_3 (i := 123) rfl rfl
theorem mo_152 : ci_okC ci_T q_X11_bought := ⟨by decide +kernel, wd_692, by decide, by decide +kernel, by decide +kernel, wd_90⟩
theorem mk_152 : (parseMethodDescriptor (ci_y q_X11_bought).desc).map (fun d => d.parameters.length) = some 2 := by decide +kernel
theorem ms_153 : ci_Ms 153 = q_X11_worthOfAll := rfl
theorem wd_886 : Jvm.Cond.code yX11_worthOfAll cX11_worthOfAll 5 (some .int) ∈ ci_T := tb_4 (i := 77) rfl rfl
theorem mo_153 : ci_okC ci_T q_X11_worthOfAll := ⟨by decide +kernel, wd_886, by decide, by decide +kernel, by decide +kernel, wd_90⟩
theorem mk_153 : (parseMethodDescriptor (ci_y q_X11_worthOfAll).desc).map (fun d => d.parameters.length) = some 2 := by decide +kernel
theorem ms_154 : ci_Ms 154 = q_X11_fewestToGiveAway := rfl
theorem wd_848 : Jvm.Cond.code yX11_fewestToGiveAway cX11_fewestToGiveAway 5 (some .int) ∈ ci_T := tb_4 (i := 39) rfl rfl
theorem mo_154 : ci_okC ci_T q_X11_fewestToGiveAway := ⟨by decide +kernel, wd_848, by decide, by decide +kernel, by decide +kernel, wd_90⟩
theorem mk_154 : (parseMethodDescriptor (ci_y q_X11_fewestToGiveAway).desc).map (fun d => d.parameters.length) = some 1 := by decide +kernel
theorem ms_155 : ci_Ms 155 = q_X11_breakingIfNarrowed := rfl
theorem wd_946 : Jvm.Cond.code yX11_breakingIfNarrowed cX11_breakingIfNarrowed 5 (some .int) ∈ ci_T := tb_4 (i := 137) rfl rfl
theorem mo_155 : ci_okC ci_T q_X11_breakingIfNarrowed := ⟨by decide +kernel, wd_946, by decide, by decide +kernel, by decide +kernel, wd_90⟩
theorem mk_155 : (parseMethodDescriptor (ci_y q_X11_breakingIfNarrowed).desc).map (fun d => d.parameters.length) = some 2 := by decide +kernel
theorem ms_156 : ci_Ms 156 = q_X11_freedByStriking := rfl
theorem wd_999 : Jvm.Cond.code yX11_freedByStriking cX11_freedByStriking 4 (some .int) ∈ ci_T := tb_4 (i := 190) rfl rfl
theorem mo_156 : ci_okC ci_T q_X11_freedByStriking := ⟨by decide +kernel, wd_999, by decide, by decide +kernel, by decide +kernel, wd_90⟩
theorem mk_156 : (parseMethodDescriptor (ci_y q_X11_freedByStriking).desc).map (fun d => d.parameters.length) = some 1 := by decide +kernel
theorem ms_157 : ci_Ms 157 = q_X11_fewerTraits := rfl
theorem wd_961 : Jvm.Cond.code yX11_fewerTraits cX11_fewerTraits 2 (some .int) ∈ ci_T := tb_4 (i := 152) rfl rfl
theorem mo_157 : ci_okC ci_T q_X11_fewerTraits := ⟨by decide +kernel, wd_961, by decide, by decide +kernel, by decide +kernel, wd_90⟩
theorem mk_157 : (parseMethodDescriptor (ci_y q_X11_fewerTraits).desc).map (fun d => d.parameters.length) = some 2 := by decide +kernel
theorem ms_158 : ci_Ms 158 = q_X11_fittingHouses := rfl
theorem wd_1052 : Jvm.Cond.code yX11_fittingHouses cX11_fittingHouses 4 (some .int) ∈ ci_T := tb_5 (i := 3) rfl rfl
theorem mo_158 : ci_okC ci_T q_X11_fittingHouses := ⟨by decide +kernel, wd_1052, by decide, by decide +kernel, by decide +kernel, wd_90⟩
theorem mk_158 : (parseMethodDescriptor (ci_y q_X11_fittingHouses).desc).map (fun d => d.parameters.length) = some 0 := by decide +kernel
theorem ms_159 : ci_Ms 159 = q_X11_likely := rfl
theorem wd_1068 : Jvm.Cond.code yX11_likely cX11_likely 7 (some .int) ∈ ci_T := tb_5 (i := 19) rfl rfl
theorem mo_159 : ci_okC ci_T q_X11_likely := ⟨by decide +kernel, wd_1068, by decide, by decide +kernel, by decide +kernel, wd_90⟩
theorem mk_159 : (parseMethodDescriptor (ci_y q_X11_likely).desc).map (fun d => d.parameters.length) = some 3 := by decide +kernel
theorem ms_160 : ci_Ms 160 = q_X11_power := rfl
theorem wd_1071 : Jvm.Cond.code yX11_power cX11_power 4 (some .int) ∈ ci_T := tb_5 (i := 22) rfl rfl
theorem mo_160 : ci_okC ci_T q_X11_power := ⟨by decide +kernel, wd_1071, by decide, by decide +kernel, by decide +kernel, wd_90⟩
theorem mk_160 : (parseMethodDescriptor (ci_y q_X11_power).desc).map (fun d => d.parameters.length) = some 2 := by decide +kernel
theorem ms_161 : ci_Ms 161 = q_X11_commonDivisor := rfl
theorem wd_1078 : Jvm.Cond.code yX11_commonDivisor cX11_commonDivisor 6 (some .int) ∈ ci_T := tb_5 (i := 29) rfl rfl
theorem mo_161 : ci_okC ci_T q_X11_commonDivisor := ⟨by decide +kernel, wd_1078, by decide, by decide +kernel, by decide +kernel, wd_90⟩
theorem mk_161 : (parseMethodDescriptor (ci_y q_X11_commonDivisor).desc).map (fun d => d.parameters.length) = some 2 := by decide +kernel
theorem ms_162 : ci_Ms 162 = q_X11_startChances := rfl
theorem wd_1086 : Jvm.Cond.code yX11_startChances cX11_startChances 2 none ∈ ci_T := tb_5 (i := 37) rfl rfl
theorem mo_162 : ci_okC ci_T q_X11_startChances := ⟨by decide +kernel, wd_1086, by decide, by decide +kernel, by decide +kernel, wd_90⟩
theorem mk_162 : (parseMethodDescriptor (ci_y q_X11_startChances).desc).map (fun d => d.parameters.length) = some 0 := by decide +kernel
theorem ms_163 : ci_Ms 163 = q_X11_shiftChances := rfl
theorem wd_1092 : Jvm.Cond.code yX11_shiftChances cX11_shiftChances 4 none ∈ ci_T := tb_5 (i := 43) rfl rfl
theorem mo_163 : ci_okC ci_T q_X11_shiftChances := ⟨by decide +kernel, wd_1092, by decide, by decide +kernel, by decide +kernel, wd_90⟩
theorem mk_163 : (parseMethodDescriptor (ci_y q_X11_shiftChances).desc).map (fun d => d.parameters.length) = some 1 := by decide +kernel
theorem ms_164 : ci_Ms 164 = q_X11_stays := rfl
theorem wd_1099 : Jvm.Cond.code yX11_stays cX11_stays 6 (some .boolean) ∈ ci_T := tb_5 (i := 50) rfl rfl
theorem mo_164 : ci_okC ci_T q_X11_stays := ⟨by decide +kernel, wd_1099, by decide, by decide +kernel, by decide +kernel, wd_90⟩
theorem mk_164 : (parseMethodDescriptor (ci_y q_X11_stays).desc).map (fun d => d.parameters.length) = some 4 := by decide +kernel
theorem ms_165 : ci_Ms 165 = q_X11_gain := rfl
theorem wd_1102 : Jvm.Cond.code yX11_gain cX11_gain 5 (some .int) ∈ ci_T := tb_5 (i := 53) rfl rfl
theorem mo_165 : ci_okC ci_T q_X11_gain := ⟨by decide +kernel, wd_1102, by decide, by decide +kernel, by decide +kernel, wd_90⟩
theorem mk_165 : (parseMethodDescriptor (ci_y q_X11_gain).desc).map (fun d => d.parameters.length) = some 4 := by decide +kernel
theorem ms_166 : ci_Ms 166 = q_X11_nextRandom := rfl
theorem wd_1110 : Jvm.Cond.code yX11_nextRandom cX11_nextRandom 1 (some .int) ∈ ci_T := tb_5 (i := 61) rfl rfl
theorem mo_166 : ci_okC ci_T q_X11_nextRandom := ⟨by decide +kernel, wd_1110, by decide, by decide +kernel, by decide +kernel, wd_90⟩
theorem mk_166 : (parseMethodDescriptor (ci_y q_X11_nextRandom).desc).map (fun d => d.parameters.length) = some 1 := by decide +kernel
theorem ms_167 : ci_Ms 167 = q_X11_drawn := rfl
theorem wd_1114 : Jvm.Cond.code yX11_drawn cX11_drawn 2 (some .int) ∈ ci_T := tb_5 (i := 65) rfl rfl
theorem mo_167 : ci_okC ci_T q_X11_drawn := ⟨by decide +kernel, wd_1114, by decide, by decide +kernel, by decide +kernel, wd_90⟩
theorem mk_167 : (parseMethodDescriptor (ci_y q_X11_drawn).desc).map (fun d => d.parameters.length) = some 2 := by decide +kernel
theorem ms_168 : ci_Ms 168 = q_X12_init := rfl
theorem wd_1223 : Jvm.Cond.code yX12_init cX12_init 1 none ∈ ci_T := tb_5 (i := 174) rfl rfl
theorem wd_102 : Jvm.Cond.initialized "TwoAtMostModel" ∈ ci_T := tb_1 (i := 13) rfl rfl
theorem mo_168 : ci_okC ci_T q_X12_init := ⟨by decide +kernel, wd_1223, by decide, by decide +kernel, by decide +kernel, wd_102⟩
theorem mk_168 : (parseMethodDescriptor (ci_y q_X12_init).desc).map (fun d => d.parameters.length) = some 0 := by decide +kernel
theorem ms_169 : ci_Ms 169 = q_X12_thrown := rfl
theorem wd_1359 : Jvm.Cond.code yX12_thrown cX12_thrown 1 (some .int) ∈ ci_T := tb_6 (i := 70) rfl rfl
theorem mo_169 : ci_okC ci_T q_X12_thrown := ⟨by decide +kernel, wd_1359, by decide, by decide +kernel, by decide +kernel, wd_102⟩
theorem mk_169 : (parseMethodDescriptor (ci_y q_X12_thrown).desc).map (fun d => d.parameters.length) = some 0 := by decide +kernel
theorem ms_170 : ci_Ms 170 = q_X12_in := rfl
theorem wd_1370 : Jvm.Cond.code yX12_in cX12_in 3 (some .boolean) ∈ ci_T := tb_6 (i := 81) rfl rfl
theorem mo_170 : ci_okC ci_T q_X12_in := ⟨by decide +kernel, wd_1370, by decide, by decide +kernel, by decide +kernel, wd_102⟩
theorem mk_170 : (parseMethodDescriptor (ci_y q_X12_in).desc).map (fun d => d.parameters.length) = some 3 := by decide +kernel
theorem ms_171 : ci_Ms 171 = q_X12_has := rfl
theorem wd_1406 : Jvm.Cond.code yX12_has cX12_has 2 (some .boolean) ∈ ci_T := tb_6 (i := 117) rfl rfl
theorem mo_171 : ci_okC ci_T q_X12_has := ⟨by decide +kernel, wd_1406, by decide, by decide +kernel, by decide +kernel, wd_102⟩
theorem mk_171 : (parseMethodDescriptor (ci_y q_X12_has).desc).map (fun d => d.parameters.length) = some 2 := by decide +kernel
theorem ms_172 : ci_Ms 172 = q_X12_lost := rfl
theorem wd_1465 : Jvm.Cond.code yX12_lost cX12_lost 1 (some .int) ∈ ci_T := tb_6 (i := 176) rfl rfl
theorem mo_172 : ci_okC ci_T q_X12_lost := ⟨by decide +kernel, wd_1465, by decide, by decide +kernel, by decide +kernel, wd_102⟩
theorem mk_172 : (parseMethodDescriptor (ci_y q_X12_lost).desc).map (fun d => d.parameters.length) = some 0 := by decide +kernel
theorem ms_173 : ci_Ms 173 = q_X12_tell := rfl
theorem wd_1613 : Jvm.Cond.code yX12_tell cX12_tell 3 none ∈ ci_T := tb_7 (i := 84) rfl rfl
theorem mo_173 : ci_okC ci_T q_X12_tell := ⟨by decide +kernel, wd_1613, by decide, by decide +kernel, by decide +kernel, wd_102⟩
theorem mk_173 : (parseMethodDescriptor (ci_y q_X12_tell).desc).map (fun d => d.parameters.length) = some 1 := by decide +kernel
theorem ms_174 : ci_Ms 174 = q_X12_isThing := rfl
theorem wd_1461 : Jvm.Cond.code yX12_isThing cX12_isThing 2 (some .boolean) ∈ ci_T := tb_6 (i := 172) rfl rfl
theorem mo_174 : ci_okC ci_T q_X12_isThing := ⟨by decide +kernel, wd_1461, by decide, by decide +kernel, by decide +kernel, wd_102⟩
theorem mk_174 : (parseMethodDescriptor (ci_y q_X12_isThing).desc).map (fun d => d.parameters.length) = some 1 := by decide +kernel
theorem ms_175 : ci_Ms 175 = q_X12_isHouse := rfl
theorem wd_1493 : Jvm.Cond.code yX12_isHouse cX12_isHouse 2 (some .boolean) ∈ ci_T := tb_6 (i := 204) rfl rfl
theorem mo_175 : ci_okC ci_T q_X12_isHouse := ⟨by decide +kernel, wd_1493, by decide, by decide +kernel, by decide +kernel, wd_102⟩
theorem mk_175 : (parseMethodDescriptor (ci_y q_X12_isHouse).desc).map (fun d => d.parameters.length) = some 1 := by decide +kernel
theorem ms_176 : ci_Ms 176 = q_X12_isKind := rfl
theorem wd_1485 : Jvm.Cond.code yX12_isKind cX12_isKind 2 (some .boolean) ∈ ci_T := tb_6 (i := 196) rfl rfl
theorem mo_176 : ci_okC ci_T q_X12_isKind := ⟨by decide +kernel, wd_1485, by decide, by decide +kernel, by decide +kernel, wd_102⟩
theorem mk_176 : (parseMethodDescriptor (ci_y q_X12_isKind).desc).map (fun d => d.parameters.length) = some 1 := by decide +kernel
theorem ms_177 : ci_Ms 177 = q_X12_areThings := rfl
theorem wd_1673 : Jvm.Cond.code yX12_areThings cX12_areThings 2 (some .boolean) ∈ ci_T := tb_7 (i := 144) rfl rfl
theorem mo_177 : ci_okC ci_T q_X12_areThings := ⟨by decide +kernel, wd_1673, by decide, by decide +kernel, by decide +kernel, wd_102⟩
theorem mk_177 : (parseMethodDescriptor (ci_y q_X12_areThings).desc).map (fun d => d.parameters.length) = some 1 := by decide +kernel
theorem ms_178 : ci_Ms 178 = q_X12_sign := rfl
theorem wd_1363 : Jvm.Cond.code yX12_sign cX12_sign 3 (some .int) ∈ ci_T := tb_6 (i := 74) rfl rfl
theorem mo_178 : ci_okC ci_T q_X12_sign := ⟨by decide +kernel, wd_1363, by decide, by decide +kernel, by decide +kernel, wd_102⟩
theorem mk_178 : (parseMethodDescriptor (ci_y q_X12_sign).desc).map (fun d => d.parameters.length) = some 1 := by decide +kernel
theorem ms_179 : ci_Ms 179 = q_X12_end := rfl
theorem wd_1367 : Jvm.Cond.code yX12_end cX12_end 2 (some .boolean) ∈ ci_T := tb_6 (i := 78) rfl rfl
theorem mo_179 : ci_okC ci_T q_X12_end := ⟨by decide +kernel, wd_1367, by decide, by decide +kernel, by decide +kernel, wd_102⟩
theorem mk_179 : (parseMethodDescriptor (ci_y q_X12_end).desc).map (fun d => d.parameters.length) = some 1 := by decide +kernel
theorem ms_180 : ci_Ms 180 = q_X12_begin := rfl
theorem wd_1386 : Jvm.Cond.code yX12_begin cX12_begin 4 none ∈ ci_T := tb_6 (i := 97) rfl rfl
theorem mo_180 : ci_okC ci_T q_X12_begin := ⟨by decide +kernel, wd_1386, by decide, by decide +kernel, by decide +kernel, wd_102⟩
theorem mk_180 : (parseMethodDescriptor (ci_y q_X12_begin).desc).map (fun d => d.parameters.length) = some 3 := by decide +kernel
theorem ms_181 : ci_Ms 181 = q_X12_beginText := rfl
theorem wd_1382 : Jvm.Cond.code yX12_beginText cX12_beginText 2 none ∈ ci_T := tb_6 (i := 93) rfl rfl
theorem mo_181 : ci_okC ci_T q_X12_beginText := ⟨by decide +kernel, wd_1382, by decide, by decide +kernel, by decide +kernel, wd_102⟩
theorem mk_181 : (parseMethodDescriptor (ci_y q_X12_beginText).desc).map (fun d => d.parameters.length) = some 1 := by decide +kernel
theorem ms_182 : ci_Ms 182 = q_X12_here := rfl
theorem wd_1403 : Jvm.Cond.code yX12_here cX12_here 1 (some .int) ∈ ci_T := tb_6 (i := 114) rfl rfl
theorem mo_182 : ci_okC ci_T q_X12_here := ⟨by decide +kernel, wd_1403, by decide, by decide +kernel, by decide +kernel, wd_102⟩
theorem mk_182 : (parseMethodDescriptor (ci_y q_X12_here).desc).map (fun d => d.parameters.length) = some 0 := by decide +kernel
theorem ms_183 : ci_Ms 183 = q_X12_fine := rfl
theorem wd_1390 : Jvm.Cond.code yX12_fine cX12_fine 1 (some .boolean) ∈ ci_T := tb_6 (i := 101) rfl rfl
theorem mo_183 : ci_okC ci_T q_X12_fine := ⟨by decide +kernel, wd_1390, by decide, by decide +kernel, by decide +kernel, wd_102⟩
theorem mk_183 : (parseMethodDescriptor (ci_y q_X12_fine).desc).map (fun d => d.parameters.length) = some 0 := by decide +kernel
theorem ms_184 : ci_Ms 184 = q_X12_fault := rfl
theorem wd_1394 : Jvm.Cond.code yX12_fault cX12_fault 2 none ∈ ci_T := tb_6 (i := 105) rfl rfl
theorem mo_184 : ci_okC ci_T q_X12_fault := ⟨by decide +kernel, wd_1394, by decide, by decide +kernel, by decide +kernel, wd_102⟩
theorem mk_184 : (parseMethodDescriptor (ci_y q_X12_fault).desc).map (fun d => d.parameters.length) = some 1 := by decide +kernel
theorem ms_185 : ci_Ms 185 = q_X12_passes := rfl
theorem wd_1410 : Jvm.Cond.code yX12_passes cX12_passes 2 (some .boolean) ∈ ci_T := tb_6 (i := 121) rfl rfl
theorem mo_185 : ci_okC ci_T q_X12_passes := ⟨by decide +kernel, wd_1410, by decide, by decide +kernel, by decide +kernel, wd_102⟩
theorem mk_185 : (parseMethodDescriptor (ci_y q_X12_passes).desc).map (fun d => d.parameters.length) = some 1 := by decide +kernel
theorem ms_186 : ci_Ms 186 = q_X12_need := rfl
theorem wd_1446 : Jvm.Cond.code yX12_need cX12_need 2 none ∈ ci_T := tb_6 (i := 157) rfl rfl
theorem mo_186 : ci_okC ci_T q_X12_need := ⟨by decide +kernel, wd_1446, by decide, by decide +kernel, by decide +kernel, wd_102⟩
theorem mk_186 : (parseMethodDescriptor (ci_y q_X12_need).desc).map (fun d => d.parameters.length) = some 1 := by decide +kernel
theorem ms_187 : ci_Ms 187 = q_X12_oneOf := rfl
theorem wd_1414 : Jvm.Cond.code yX12_oneOf cX12_oneOf 3 (some .int) ∈ ci_T := tb_6 (i := 125) rfl rfl
theorem mo_187 : ci_okC ci_T q_X12_oneOf := ⟨by decide +kernel, wd_1414, by decide, by decide +kernel, by decide +kernel, wd_102⟩
theorem mk_187 : (parseMethodDescriptor (ci_y q_X12_oneOf).desc).map (fun d => d.parameters.length) = some 2 := by decide +kernel
theorem ms_188 : ci_Ms 188 = q_X12_number := rfl
theorem wd_1450 : Jvm.Cond.code yX12_number cX12_number 4 (some .int) ∈ ci_T := tb_6 (i := 161) rfl rfl
theorem mo_188 : ci_okC ci_T q_X12_number := ⟨by decide +kernel, wd_1450, by decide, by decide +kernel, by decide +kernel, wd_102⟩
theorem mk_188 : (parseMethodDescriptor (ci_y q_X12_number).desc).map (fun d => d.parameters.length) = some 1 := by decide +kernel
theorem ms_189 : ci_Ms 189 = q_X12_wasRight := rfl
theorem wd_1418 : Jvm.Cond.code yX12_wasRight cX12_wasRight 1 (some .boolean) ∈ ci_T := tb_6 (i := 129) rfl rfl
theorem mo_189 : ci_okC ci_T q_X12_wasRight := ⟨by decide +kernel, wd_1418, by decide, by decide +kernel, by decide +kernel, wd_102⟩
theorem mk_189 : (parseMethodDescriptor (ci_y q_X12_wasRight).desc).map (fun d => d.parameters.length) = some 0 := by decide +kernel
theorem ms_190 : ci_Ms 190 = q_X12_letters := rfl
theorem wd_1398 : Jvm.Cond.code yX12_letters cX12_letters 6 (some .int) ∈ ci_T := tb_6 (i := 109) rfl rfl
theorem mo_190 : ci_okC ci_T q_X12_letters := ⟨by decide +kernel, wd_1398, by decide, by decide +kernel, by decide +kernel, wd_102⟩
theorem mk_190 : (parseMethodDescriptor (ci_y q_X12_letters).desc).map (fun d => d.parameters.length) = some 2 := by decide +kernel
theorem ms_191 : ci_Ms 191 = q_X12_houses := rfl
theorem wd_1374 : Jvm.Cond.code yX12_houses cX12_houses 4 (some .int) ∈ ci_T := tb_6 (i := 85) rfl rfl
theorem mo_191 : ci_okC ci_T q_X12_houses := ⟨by decide +kernel, wd_1374, by decide, by decide +kernel, by decide +kernel, wd_102⟩
theorem mk_191 : (parseMethodDescriptor (ci_y q_X12_houses).desc).map (fun d => d.parameters.length) = some 1 := by decide +kernel
theorem ms_192 : ci_Ms 192 = q_X12_things := rfl
theorem wd_1378 : Jvm.Cond.code yX12_things cX12_things 4 (some .int) ∈ ci_T := tb_6 (i := 89) rfl rfl
theorem mo_192 : ci_okC ci_T q_X12_things := ⟨by decide +kernel, wd_1378, by decide, by decide +kernel, by decide +kernel, wd_102⟩
theorem mk_192 : (parseMethodDescriptor (ci_y q_X12_things).desc).map (fun d => d.parameters.length) = some 0 := by decide +kernel
theorem ms_193 : ci_Ms 193 = q_X12_kinds := rfl
theorem wd_1422 : Jvm.Cond.code yX12_kinds cX12_kinds 4 (some .int) ∈ ci_T := tb_6 (i := 133) rfl rfl
theorem mo_193 : ci_okC ci_T q_X12_kinds := ⟨by decide +kernel, wd_1422, by decide, by decide +kernel, by decide +kernel, wd_102⟩
theorem mk_193 : (parseMethodDescriptor (ci_y q_X12_kinds).desc).map (fun d => d.parameters.length) = some 0 := by decide +kernel
theorem ms_194 : ci_Ms 194 = q_X12_held := rfl
theorem wd_1430 : Jvm.Cond.code yX12_held cX12_held 3 (some .int) ∈ ci_T := tb_6 (i := 141) rfl rfl
theorem mo_194 : ci_okC ci_T q_X12_held := ⟨by decide +kernel, wd_1430, by decide, by decide +kernel, by decide +kernel, wd_102⟩
theorem mk_194 : (parseMethodDescriptor (ci_y q_X12_held).desc).map (fun d => d.parameters.length) = some 1 := by decide +kernel
theorem ms_195 : ci_Ms 195 = q_X12_sum := rfl
theorem wd_1434 : Jvm.Cond.code yX12_sum cX12_sum 5 (some .int) ∈ ci_T := tb_6 (i := 145) rfl rfl
theorem mo_195 : ci_okC ci_T q_X12_sum := ⟨by decide +kernel, wd_1434, by decide, by decide +kernel, by decide +kernel, wd_102⟩
theorem mk_195 : (parseMethodDescriptor (ci_y q_X12_sum).desc).map (fun d => d.parameters.length) = some 1 := by decide +kernel
theorem ms_196 : ci_Ms 196 = q_X12_product := rfl
theorem wd_1438 : Jvm.Cond.code yX12_product cX12_product 5 (some .int) ∈ ci_T := tb_6 (i := 149) rfl rfl
theorem mo_196 : ci_okC ci_T q_X12_product := ⟨by decide +kernel, wd_1438, by decide, by decide +kernel, by decide +kernel, wd_102⟩
theorem mk_196 : (parseMethodDescriptor (ci_y q_X12_product).desc).map (fun d => d.parameters.length) = some 1 := by decide +kernel
theorem ms_197 : ci_Ms 197 = q_X12_letterOf := rfl
theorem wd_1453 : Jvm.Cond.code yX12_letterOf cX12_letterOf 1 (some .int) ∈ ci_T := tb_6 (i := 164) rfl rfl
theorem mo_197 : ci_okC ci_T q_X12_letterOf := ⟨by decide +kernel, wd_1453, by decide, by decide +kernel, by decide +kernel, wd_102⟩
theorem mk_197 : (parseMethodDescriptor (ci_y q_X12_letterOf).desc).map (fun d => d.parameters.length) = some 1 := by decide +kernel
theorem ms_198 : ci_Ms 198 = q_X12_part := rfl
theorem wd_1442 : Jvm.Cond.code yX12_part cX12_part 4 (some .int) ∈ ci_T := tb_6 (i := 153) rfl rfl
theorem mo_198 : ci_okC ci_T q_X12_part := ⟨by decide +kernel, wd_1442, by decide, by decide +kernel, by decide +kernel, wd_102⟩
theorem mk_198 : (parseMethodDescriptor (ci_y q_X12_part).desc).map (fun d => d.parameters.length) = some 1 := by decide +kernel
theorem ms_199 : ci_Ms 199 = q_X12_rule := rfl
theorem wd_1426 : Jvm.Cond.code yX12_rule cX12_rule 3 (some .int) ∈ ci_T := tb_6 (i := 137) rfl rfl
theorem mo_199 : ci_okC ci_T q_X12_rule := ⟨by decide +kernel, wd_1426, by decide, by decide +kernel, by decide +kernel, wd_102⟩
theorem mk_199 : (parseMethodDescriptor (ci_y q_X12_rule).desc).map (fun d => d.parameters.length) = some 0 := by decide +kernel
theorem ms_200 : ci_Ms 200 = q_X12_isOf := rfl
theorem wd_1473 : Jvm.Cond.code yX12_isOf cX12_isOf 4 (some .boolean) ∈ ci_T := tb_6 (i := 184) rfl rfl
theorem mo_200 : ci_okC ci_T q_X12_isOf := ⟨by decide +kernel, wd_1473, by decide, by decide +kernel, by decide +kernel, wd_102⟩
theorem mk_200 : (parseMethodDescriptor (ci_y q_X12_isOf).desc).map (fun d => d.parameters.length) = some 3 := by decide +kernel
theorem ms_201 : ci_Ms 201 = q_X12_kindsOf := rfl
theorem wd_1469 : Jvm.Cond.code yX12_kindsOf cX12_kindsOf 4 (some .int) ∈ ci_T := tb_6 (i := 180) rfl rfl
theorem mo_201 : ci_okC ci_T q_X12_kindsOf := ⟨by decide +kernel, wd_1469, by decide, by decide +kernel, by decide +kernel, wd_102⟩
theorem mk_201 : (parseMethodDescriptor (ci_y q_X12_kindsOf).desc).map (fun d => d.parameters.length) = some 1 := by decide +kernel
theorem ms_202 : ci_Ms 202 = q_X12_keptBy := rfl
theorem wd_1501 : Jvm.Cond.code yX12_keptBy cX12_keptBy 5 (some .int) ∈ ci_T := tb_6 (i := 212) rfl rfl
theorem mo_202 : ci_okC ci_T q_X12_keptBy := ⟨by decide +kernel, wd_1501, by decide, by decide +kernel, by decide +kernel, wd_102⟩
theorem mk_202 : (parseMethodDescriptor (ci_y q_X12_keptBy).desc).map (fun d => d.parameters.length) = some 2 := by decide +kernel
theorem ms_203 : ci_Ms 203 = q_X12_ownedBy := rfl
theorem wd_1497 : Jvm.Cond.code yX12_ownedBy cX12_ownedBy 5 (some .int) ∈ ci_T := tb_6 (i := 208) rfl rfl
theorem mo_203 : ci_okC ci_T q_X12_ownedBy := ⟨by decide +kernel, wd_1497, by decide, by decide +kernel, by decide +kernel, wd_102⟩
theorem mk_203 : (parseMethodDescriptor (ci_y q_X12_ownedBy).desc).map (fun d => d.parameters.length) = some 2 := by decide +kernel
theorem ms_204 : ci_Ms 204 = q_X12_manyOf := rfl
theorem wd_1513 : Jvm.Cond.code yX12_manyOf cX12_manyOf 6 (some .int) ∈ ci_T := tb_6 (i := 224) rfl rfl
theorem mo_204 : ci_okC ci_T q_X12_manyOf := ⟨by decide +kernel, wd_1513, by decide, by decide +kernel, by decide +kernel, wd_102⟩
theorem mk_204 : (parseMethodDescriptor (ci_y q_X12_manyOf).desc).map (fun d => d.parameters.length) = some 3 := by decide +kernel
theorem ms_205 : ci_Ms 205 = q_X12_brokenBy := rfl
theorem wd_1509 : Jvm.Cond.code yX12_brokenBy cX12_brokenBy 5 (some .int) ∈ ci_T := tb_6 (i := 220) rfl rfl
theorem mo_205 : ci_okC ci_T q_X12_brokenBy := ⟨by decide +kernel, wd_1509, by decide, by decide +kernel, by decide +kernel, wd_102⟩
theorem mk_205 : (parseMethodDescriptor (ci_y q_X12_brokenBy).desc).map (fun d => d.parameters.length) = some 2 := by decide +kernel
theorem ms_206 : ci_Ms 206 = q_X12_breaks := rfl
theorem wd_1505 : Jvm.Cond.code yX12_breaks cX12_breaks 3 (some .int) ∈ ci_T := tb_6 (i := 216) rfl rfl
theorem mo_206 : ci_okC ci_T q_X12_breaks := ⟨by decide +kernel, wd_1505, by decide, by decide +kernel, by decide +kernel, wd_102⟩
theorem mk_206 : (parseMethodDescriptor (ci_y q_X12_breaks).desc).map (fun d => d.parameters.length) = some 2 := by decide +kernel
theorem ms_207 : ci_Ms 207 = q_X12_brokenHouses := rfl
theorem wd_1629 : Jvm.Cond.code yX12_brokenHouses cX12_brokenHouses 4 (some .int) ∈ ci_T := tb_7 (i := 100) rfl rfl
theorem mo_207 : ci_okC ci_T q_X12_brokenHouses := ⟨by decide +kernel, wd_1629, by decide, by decide +kernel, by decide +kernel, wd_102⟩
theorem mk_207 : (parseMethodDescriptor (ci_y q_X12_brokenHouses).desc).map (fun d => d.parameters.length) = some 1 := by decide +kernel
theorem ms_208 : ci_Ms 208 = q_X12_worthOf := rfl
theorem wd_1521 : Jvm.Cond.code yX12_worthOf cX12_worthOf 4 (some .int) ∈ ci_T := tb_6 (i := 232) rfl rfl
theorem mo_208 : ci_okC ci_T q_X12_worthOf := ⟨by decide +kernel, wd_1521, by decide, by decide +kernel, by decide +kernel, wd_102⟩
theorem mk_208 : (parseMethodDescriptor (ci_y q_X12_worthOf).desc).map (fun d => d.parameters.length) = some 2 := by decide +kernel
theorem ms_209 : ci_Ms 209 = q_X12_lentBits := rfl
theorem wd_1477 : Jvm.Cond.code yX12_lentBits cX12_lentBits 3 (some .int) ∈ ci_T := tb_6 (i := 188) rfl rfl
theorem mo_209 : ci_okC ci_T q_X12_lentBits := ⟨by decide +kernel, wd_1477, by decide, by decide +kernel, by decide +kernel, wd_102⟩
theorem mk_209 : (parseMethodDescriptor (ci_y q_X12_lentBits).desc).map (fun d => d.parameters.length) = some 0 := by decide +kernel
theorem ms_210 : ci_Ms 210 = q_X12_thing := rfl
theorem wd_1457 : Jvm.Cond.code yX12_thing cX12_thing 3 (some .int) ∈ ci_T := tb_6 (i := 168) rfl rfl
theorem mo_210 : ci_okC ci_T q_X12_thing := ⟨by decide +kernel, wd_1457, by decide, by decide +kernel, by decide +kernel, wd_102⟩
theorem mk_210 : (parseMethodDescriptor (ci_y q_X12_thing).desc).map (fun d => d.parameters.length) = some 2 := by decide +kernel
theorem ms_211 : ci_Ms 211 = q_X12_kind := rfl
theorem wd_1481 : Jvm.Cond.code yX12_kind cX12_kind 5 (some .int) ∈ ci_T := tb_6 (i := 192) rfl rfl
theorem mo_211 : ci_okC ci_T q_X12_kind := ⟨by decide +kernel, wd_1481, by decide, by decide +kernel, by decide +kernel, wd_102⟩
theorem mk_211 : (parseMethodDescriptor (ci_y q_X12_kind).desc).map (fun d => d.parameters.length) = some 2 := by decide +kernel
theorem ms_212 : ci_Ms 212 = q_X12_house := rfl
theorem wd_1489 : Jvm.Cond.code yX12_house cX12_house 3 (some .int) ∈ ci_T := tb_6 (i := 200) rfl rfl
theorem mo_212 : ci_okC ci_T q_X12_house := ⟨by decide +kernel, wd_1489, by decide, by decide +kernel, by decide +kernel, wd_102⟩
theorem mk_212 : (parseMethodDescriptor (ci_y q_X12_house).desc).map (fun d => d.parameters.length) = some 2 := by decide +kernel
theorem ms_213 : ci_Ms 213 = q_X12_worth := rfl
theorem wd_1517 : Jvm.Cond.code yX12_worth cX12_worth 3 (some .int) ∈ ci_T := tb_6 (i := 228) rfl rfl
theorem mo_213 : ci_okC ci_T q_X12_worth := ⟨by decide +kernel, wd_1517, by decide, by decide +kernel, by decide +kernel, wd_102⟩
theorem mk_213 : (parseMethodDescriptor (ci_y q_X12_worth).desc).map (fun d => d.parameters.length) = some 2 := by decide +kernel
theorem ms_214 : ci_Ms 214 = q_X12_set := rfl
theorem wd_1527 : Jvm.Cond.code yX12_set cX12_set 3 (some .int) ∈ ci_T := tb_6 (i := 238) rfl rfl
theorem mo_214 : ci_okC ci_T q_X12_set := ⟨by decide +kernel, wd_1527, by decide, by decide +kernel, by decide +kernel, wd_102⟩
theorem mk_214 : (parseMethodDescriptor (ci_y q_X12_set).desc).map (fun d => d.parameters.length) = some 1 := by decide +kernel
theorem ms_215 : ci_Ms 215 = q_X12_sheet := rfl
theorem wd_1531 : Jvm.Cond.code yX12_sheet cX12_sheet 9 (some .int) ∈ ci_T := tb_7 (i := 2) rfl rfl
theorem mo_215 : ci_okC ci_T q_X12_sheet := ⟨by decide +kernel, wd_1531, by decide, by decide +kernel, by decide +kernel, wd_102⟩
theorem mk_215 : (parseMethodDescriptor (ci_y q_X12_sheet).desc).map (fun d => d.parameters.length) = some 4 := by decide +kernel
theorem ms_216 : ci_Ms 216 = q_X12_lay := rfl
theorem wd_1558 : Jvm.Cond.code yX12_lay cX12_lay 4 none ∈ ci_T := tb_7 (i := 29) rfl rfl
theorem mo_216 : ci_okC ci_T q_X12_lay := ⟨by decide +kernel, wd_1558, by decide, by decide +kernel, by decide +kernel, wd_102⟩
theorem mk_216 : (parseMethodDescriptor (ci_y q_X12_lay).desc).map (fun d => d.parameters.length) = some 3 := by decide +kernel
theorem ms_217 : ci_Ms 217 = q_X12_remember := rfl
theorem wd_1555 : Jvm.Cond.code yX12_remember cX12_remember 3 none ∈ ci_T := tb_7 (i := 26) rfl rfl
theorem mo_217 : ci_okC ci_T q_X12_remember := ⟨by decide +kernel, wd_1555, by decide, by decide +kernel, by decide +kernel, wd_102⟩
theorem mk_217 : (parseMethodDescriptor (ci_y q_X12_remember).desc).map (fun d => d.parameters.length) = some 1 := by decide +kernel
theorem ms_218 : ci_Ms 218 = q_X12_areBoth := rfl
theorem wd_1543 : Jvm.Cond.code yX12_areBoth cX12_areBoth 3 (some .boolean) ∈ ci_T := tb_7 (i := 14) rfl rfl
theorem mo_218 : ci_okC ci_T q_X12_areBoth := ⟨by decide +kernel, wd_1543, by decide, by decide +kernel, by decide +kernel, wd_102⟩
theorem mk_218 : (parseMethodDescriptor (ci_y q_X12_areBoth).desc).map (fun d => d.parameters.length) = some 2 := by decide +kernel
theorem ms_219 : ci_Ms 219 = q_X12_isNobodys := rfl
theorem wd_1547 : Jvm.Cond.code yX12_isNobodys cX12_isNobodys 2 (some .boolean) ∈ ci_T := tb_7 (i := 18) rfl rfl
theorem mo_219 : ci_okC ci_T q_X12_isNobodys := ⟨by decide +kernel, wd_1547, by decide, by decide +kernel, by decide +kernel, wd_102⟩
theorem mk_219 : (parseMethodDescriptor (ci_y q_X12_isNobodys).desc).map (fun d => d.parameters.length) = some 1 := by decide +kernel
theorem ms_220 : ci_Ms 220 = q_X12_wouldBreak := rfl
theorem wd_1551 : Jvm.Cond.code yX12_wouldBreak cX12_wouldBreak 3 (some .boolean) ∈ ci_T := tb_7 (i := 22) rfl rfl
theorem mo_220 : ci_okC ci_T q_X12_wouldBreak := ⟨by decide +kernel, wd_1551, by decide, by decide +kernel, by decide +kernel, wd_102⟩
theorem mk_220 : (parseMethodDescriptor (ci_y q_X12_wouldBreak).desc).map (fun d => d.parameters.length) = some 2 := by decide +kernel
theorem ms_221 : ci_Ms 221 = q_X12_belong := rfl
theorem wd_1565 : Jvm.Cond.code yX12_belong cX12_belong 3 none ∈ ci_T := tb_7 (i := 36) rfl rfl
theorem mo_221 : ci_okC ci_T q_X12_belong := ⟨by decide +kernel, wd_1565, by decide, by decide +kernel, by decide +kernel, wd_102⟩
theorem mk_221 : (parseMethodDescriptor (ci_y q_X12_belong).desc).map (fun d => d.parameters.length) = some 3 := by decide +kernel
theorem ms_222 : ci_Ms 222 = q_X12_refusesBuy := rfl
theorem wd_1539 : Jvm.Cond.code yX12_refusesBuy cX12_refusesBuy 3 (some .int) ∈ ci_T := tb_7 (i := 10) rfl rfl
theorem mo_222 : ci_okC ci_T q_X12_refusesBuy := ⟨by decide +kernel, wd_1539, by decide, by decide +kernel, by decide +kernel, wd_102⟩
theorem mk_222 : (parseMethodDescriptor (ci_y q_X12_refusesBuy).desc).map (fun d => d.parameters.length) = some 2 := by decide +kernel
theorem ms_223 : ci_Ms 223 = q_X12_goBuy := rfl
theorem wd_1562 : Jvm.Cond.code yX12_goBuy cX12_goBuy 3 (some .int) ∈ ci_T := tb_7 (i := 33) rfl rfl
theorem mo_223 : ci_okC ci_T q_X12_goBuy := ⟨by decide +kernel, wd_1562, by decide, by decide +kernel, by decide +kernel, wd_102⟩
theorem mk_223 : (parseMethodDescriptor (ci_y q_X12_goBuy).desc).map (fun d => d.parameters.length) = some 2 := by decide +kernel
theorem ms_224 : ci_Ms 224 = q_X12_buy := rfl
theorem wd_1535 : Jvm.Cond.code yX12_buy cX12_buy 4 (some .int) ∈ ci_T := tb_7 (i := 6) rfl rfl
theorem mo_224 : ci_okC ci_T q_X12_buy := ⟨by decide +kernel, wd_1535, by decide, by decide +kernel, by decide +kernel, wd_102⟩
theorem mk_224 : (parseMethodDescriptor (ci_y q_X12_buy).desc).map (fun d => d.parameters.length) = some 2 := by decide +kernel
theorem ms_225 : ci_Ms 225 = q_X12_refusesGive := rfl
theorem wd_1573 : Jvm.Cond.code yX12_refusesGive cX12_refusesGive 3 (some .int) ∈ ci_T := tb_7 (i := 44) rfl rfl
theorem mo_225 : ci_okC ci_T q_X12_refusesGive := ⟨by decide +kernel, wd_1573, by decide, by decide +kernel, by decide +kernel, wd_102⟩
theorem mk_225 : (parseMethodDescriptor (ci_y q_X12_refusesGive).desc).map (fun d => d.parameters.length) = some 2 := by decide +kernel
theorem ms_226 : ci_Ms 226 = q_X12_give := rfl
theorem wd_1569 : Jvm.Cond.code yX12_give cX12_give 5 (some .int) ∈ ci_T := tb_7 (i := 40) rfl rfl
theorem mo_226 : ci_okC ci_T q_X12_give := ⟨by decide +kernel, wd_1569, by decide, by decide +kernel, by decide +kernel, wd_102⟩
theorem mk_226 : (parseMethodDescriptor (ci_y q_X12_give).desc).map (fun d => d.parameters.length) = some 2 := by decide +kernel
theorem ms_227 : ci_Ms 227 = q_X12_refusesLend := rfl
theorem wd_1581 : Jvm.Cond.code yX12_refusesLend cX12_refusesLend 3 (some .int) ∈ ci_T := tb_7 (i := 52) rfl rfl
theorem mo_227 : ci_okC ci_T q_X12_refusesLend := ⟨by decide +kernel, wd_1581, by decide, by decide +kernel, by decide +kernel, wd_102⟩
theorem mk_227 : (parseMethodDescriptor (ci_y q_X12_refusesLend).desc).map (fun d => d.parameters.length) = some 2 := by decide +kernel
theorem ms_228 : ci_Ms 228 = q_X12_lend := rfl
theorem wd_1577 : Jvm.Cond.code yX12_lend cX12_lend 5 (some .int) ∈ ci_T := tb_7 (i := 48) rfl rfl
theorem mo_228 : ci_okC ci_T q_X12_lend := ⟨by decide +kernel, wd_1577, by decide, by decide +kernel, by decide +kernel, wd_102⟩
theorem mk_228 : (parseMethodDescriptor (ci_y q_X12_lend).desc).map (fun d => d.parameters.length) = some 2 := by decide +kernel
theorem ms_229 : ci_Ms 229 = q_X12_refusesClaim := rfl
theorem wd_1589 : Jvm.Cond.code yX12_refusesClaim cX12_refusesClaim 3 (some .int) ∈ ci_T := tb_7 (i := 60) rfl rfl
theorem mo_229 : ci_okC ci_T q_X12_refusesClaim := ⟨by decide +kernel, wd_1589, by decide, by decide +kernel, by decide +kernel, wd_102⟩
theorem mk_229 : (parseMethodDescriptor (ci_y q_X12_refusesClaim).desc).map (fun d => d.parameters.length) = some 2 := by decide +kernel
theorem ms_230 : ci_Ms 230 = q_X12_claim := rfl
theorem wd_1585 : Jvm.Cond.code yX12_claim cX12_claim 5 (some .int) ∈ ci_T := tb_7 (i := 56) rfl rfl
theorem mo_230 : ci_okC ci_T q_X12_claim := ⟨by decide +kernel, wd_1585, by decide, by decide +kernel, by decide +kernel, wd_102⟩
theorem mk_230 : (parseMethodDescriptor (ci_y q_X12_claim).desc).map (fun d => d.parameters.length) = some 2 := by decide +kernel
theorem ms_231 : ci_Ms 231 = q_X12_paint := rfl
theorem wd_1593 : Jvm.Cond.code yX12_paint cX12_paint 3 (some .int) ∈ ci_T := tb_7 (i := 64) rfl rfl
theorem mo_231 : ci_okC ci_T q_X12_paint := ⟨by decide +kernel, wd_1593, by decide, by decide +kernel, by decide +kernel, wd_102⟩
theorem mk_231 : (parseMethodDescriptor (ci_y q_X12_paint).desc).map (fun d => d.parameters.length) = some 2 := by decide +kernel
theorem ms_232 : ci_Ms 232 = q_X12_lastOf := rfl
theorem wd_1609 : Jvm.Cond.code yX12_lastOf cX12_lastOf 5 (some .int) ∈ ci_T := tb_7 (i := 80) rfl rfl
theorem mo_232 : ci_okC ci_T q_X12_lastOf := ⟨by decide +kernel, wd_1609, by decide, by decide +kernel, by decide +kernel, wd_102⟩
theorem mk_232 : (parseMethodDescriptor (ci_y q_X12_lastOf).desc).map (fun d => d.parameters.length) = some 3 := by decide +kernel
theorem ms_233 : ci_Ms 233 = q_X12_goHour := rfl
theorem wd_1605 : Jvm.Cond.code yX12_goHour cX12_goHour 6 (some .int) ∈ ci_T := tb_7 (i := 76) rfl rfl
theorem mo_233 : ci_okC ci_T q_X12_goHour := ⟨by decide +kernel, wd_1605, by decide, by decide +kernel, by decide +kernel, wd_102⟩
theorem mk_233 : (parseMethodDescriptor (ci_y q_X12_goHour).desc).map (fun d => d.parameters.length) = some 1 := by decide +kernel
theorem ms_234 : ci_Ms 234 = q_X12_goHours := rfl
theorem wd_1601 : Jvm.Cond.code yX12_goHours cX12_goHours 5 (some .int) ∈ ci_T := tb_7 (i := 72) rfl rfl
theorem mo_234 : ci_okC ci_T q_X12_goHours := ⟨by decide +kernel, wd_1601, by decide, by decide +kernel, by decide +kernel, wd_102⟩
theorem mk_234 : (parseMethodDescriptor (ci_y q_X12_goHours).desc).map (fun d => d.parameters.length) = some 2 := by decide +kernel
theorem ms_235 : ci_Ms 235 = q_X12_hours := rfl
theorem wd_1597 : Jvm.Cond.code yX12_hours cX12_hours 3 (some .int) ∈ ci_T := tb_7 (i := 68) rfl rfl
theorem mo_235 : ci_okC ci_T q_X12_hours := ⟨by decide +kernel, wd_1597, by decide, by decide +kernel, by decide +kernel, wd_102⟩
theorem mk_235 : (parseMethodDescriptor (ci_y q_X12_hours).desc).map (fun d => d.parameters.length) = some 1 := by decide +kernel
theorem ms_236 : ci_Ms 236 = q_X12_day := rfl
theorem wd_1617 : Jvm.Cond.code yX12_day cX12_day 4 (some .int) ∈ ci_T := tb_7 (i := 88) rfl rfl
theorem mo_236 : ci_okC ci_T q_X12_day := ⟨by decide +kernel, wd_1617, by decide, by decide +kernel, by decide +kernel, wd_102⟩
theorem mk_236 : (parseMethodDescriptor (ci_y q_X12_day).desc).map (fun d => d.parameters.length) = some 0 := by decide +kernel
theorem ms_237 : ci_Ms 237 = q_X12_readAct := rfl
theorem wd_1621 : Jvm.Cond.code yX12_readAct cX12_readAct 4 none ∈ ci_T := tb_7 (i := 92) rfl rfl
theorem mo_237 : ci_okC ci_T q_X12_readAct := ⟨by decide +kernel, wd_1621, by decide, by decide +kernel, by decide +kernel, wd_102⟩
theorem mk_237 : (parseMethodDescriptor (ci_y q_X12_readAct).desc).map (fun d => d.parameters.length) = some 1 := by decide +kernel
theorem ms_238 : ci_Ms 238 = q_X12_act := rfl
theorem wd_1625 : Jvm.Cond.code yX12_act cX12_act 4 (some .boolean) ∈ ci_T := tb_7 (i := 96) rfl rfl
theorem mo_238 : ci_okC ci_T q_X12_act := ⟨by decide +kernel, wd_1625, by decide, by decide +kernel, by decide +kernel, wd_102⟩
theorem mk_238 : (parseMethodDescriptor (ci_y q_X12_act).desc).map (fun d => d.parameters.length) = some 3 := by decide +kernel
theorem ms_239 : ci_Ms 239 = q_X12_undo := rfl
theorem wd_1633 : Jvm.Cond.code yX12_undo cX12_undo 2 (some .int) ∈ ci_T := tb_7 (i := 104) rfl rfl
theorem mo_239 : ci_okC ci_T q_X12_undo := ⟨by decide +kernel, wd_1633, by decide, by decide +kernel, by decide +kernel, wd_102⟩
theorem mk_239 : (parseMethodDescriptor (ci_y q_X12_undo).desc).map (fun d => d.parameters.length) = some 0 := by decide +kernel
theorem ms_240 : ci_Ms 240 = q_X12_broken := rfl
theorem wd_1637 : Jvm.Cond.code yX12_broken cX12_broken 6 (some .int) ∈ ci_T := tb_7 (i := 108) rfl rfl
theorem mo_240 : ci_okC ci_T q_X12_broken := ⟨by decide +kernel, wd_1637, by decide, by decide +kernel, by decide +kernel, wd_102⟩
theorem mk_240 : (parseMethodDescriptor (ci_y q_X12_broken).desc).map (fun d => d.parameters.length) = some 0 := by decide +kernel
theorem ms_241 : ci_Ms 241 = q_X12_would := rfl
theorem wd_1641 : Jvm.Cond.code yX12_would cX12_would 3 (some .int) ∈ ci_T := tb_7 (i := 112) rfl rfl
theorem mo_241 : ci_okC ci_T q_X12_would := ⟨by decide +kernel, wd_1641, by decide, by decide +kernel, by decide +kernel, wd_102⟩
theorem mk_241 : (parseMethodDescriptor (ci_y q_X12_would).desc).map (fun d => d.parameters.length) = some 2 := by decide +kernel
theorem ms_242 : ci_Ms 242 = q_X12_rid := rfl
theorem wd_1645 : Jvm.Cond.code yX12_rid cX12_rid 5 (some .int) ∈ ci_T := tb_7 (i := 116) rfl rfl
theorem mo_242 : ci_okC ci_T q_X12_rid := ⟨by decide +kernel, wd_1645, by decide, by decide +kernel, by decide +kernel, wd_102⟩
theorem mk_242 : (parseMethodDescriptor (ci_y q_X12_rid).desc).map (fun d => d.parameters.length) = some 1 := by decide +kernel
theorem ms_243 : ci_Ms 243 = q_X12_mayKeep := rfl
theorem wd_1653 : Jvm.Cond.code yX12_mayKeep cX12_mayKeep 5 (some .boolean) ∈ ci_T := tb_7 (i := 124) rfl rfl
theorem mo_243 : ci_okC ci_T q_X12_mayKeep := ⟨by decide +kernel, wd_1653, by decide, by decide +kernel, by decide +kernel, wd_102⟩
theorem mk_243 : (parseMethodDescriptor (ci_y q_X12_mayKeep).desc).map (fun d => d.parameters.length) = some 2 := by decide +kernel
theorem ms_244 : ci_Ms 244 = q_X12_most := rfl
theorem wd_1649 : Jvm.Cond.code yX12_most cX12_most 6 (some .int) ∈ ci_T := tb_7 (i := 120) rfl rfl
theorem mo_244 : ci_okC ci_T q_X12_most := ⟨by decide +kernel, wd_1649, by decide, by decide +kernel, by decide +kernel, wd_102⟩
theorem mk_244 : (parseMethodDescriptor (ci_y q_X12_most).desc).map (fun d => d.parameters.length) = some 1 := by decide +kernel
theorem ms_245 : ci_Ms 245 = q_X12_alike := rfl
theorem wd_1657 : Jvm.Cond.code yX12_alike cX12_alike 3 (some .int) ∈ ci_T := tb_7 (i := 128) rfl rfl
theorem mo_245 : ci_okC ci_T q_X12_alike := ⟨by decide +kernel, wd_1657, by decide, by decide +kernel, by decide +kernel, wd_102⟩
theorem mk_245 : (parseMethodDescriptor (ci_y q_X12_alike).desc).map (fun d => d.parameters.length) = some 2 := by decide +kernel
theorem ms_246 : ci_Ms 246 = q_X12_trust := rfl
theorem wd_1661 : Jvm.Cond.code yX12_trust cX12_trust 6 (some .int) ∈ ci_T := tb_7 (i := 132) rfl rfl
theorem mo_246 : ci_okC ci_T q_X12_trust := ⟨by decide +kernel, wd_1661, by decide, by decide +kernel, by decide +kernel, wd_102⟩
theorem mk_246 : (parseMethodDescriptor (ci_y q_X12_trust).desc).map (fun d => d.parameters.length) = some 1 := by decide +kernel
theorem ms_247 : ci_Ms 247 = q_X12_visit := rfl
theorem wd_1665 : Jvm.Cond.code yX12_visit cX12_visit 3 (some .int) ∈ ci_T := tb_7 (i := 136) rfl rfl
theorem mo_247 : ci_okC ci_T q_X12_visit := ⟨by decide +kernel, wd_1665, by decide, by decide +kernel, by decide +kernel, wd_102⟩
theorem mk_247 : (parseMethodDescriptor (ci_y q_X12_visit).desc).map (fun d => d.parameters.length) = some 1 := by decide +kernel
theorem ms_248 : ci_Ms 248 = q_X12_goStore := rfl
theorem wd_1678 : Jvm.Cond.code yX12_goStore cX12_goStore 5 none ∈ ci_T := tb_7 (i := 149) rfl rfl
theorem mo_248 : ci_okC ci_T q_X12_goStore := ⟨by decide +kernel, wd_1678, by decide, by decide +kernel, by decide +kernel, wd_102⟩
theorem mk_248 : (parseMethodDescriptor (ci_y q_X12_goStore).desc).map (fun d => d.parameters.length) = some 3 := by decide +kernel
theorem ms_249 : ci_Ms 249 = q_X12_store := rfl
theorem wd_1669 : Jvm.Cond.code yX12_store cX12_store 3 (some .int) ∈ ci_T := tb_7 (i := 140) rfl rfl
theorem mo_249 : ci_okC ci_T q_X12_store := ⟨by decide +kernel, wd_1669, by decide, by decide +kernel, by decide +kernel, wd_102⟩
theorem mk_249 : (parseMethodDescriptor (ci_y q_X12_store).desc).map (fun d => d.parameters.length) = some 1 := by decide +kernel
theorem ms_250 : ci_Ms 250 = q_X12_strike := rfl
theorem wd_1682 : Jvm.Cond.code yX12_strike cX12_strike 2 (some .int) ∈ ci_T := tb_7 (i := 153) rfl rfl
theorem mo_250 : ci_okC ci_T q_X12_strike := ⟨by decide +kernel, wd_1682, by decide, by decide +kernel, by decide +kernel, wd_102⟩
theorem mk_250 : (parseMethodDescriptor (ci_y q_X12_strike).desc).map (fun d => d.parameters.length) = some 1 := by decide +kernel
theorem ms_251 : ci_Ms 251 = q_X12_border := rfl
theorem wd_1686 : Jvm.Cond.code yX12_border cX12_border 6 (some .int) ∈ ci_T := tb_7 (i := 157) rfl rfl
theorem mo_251 : ci_okC ci_T q_X12_border := ⟨by decide +kernel, wd_1686, by decide, by decide +kernel, by decide +kernel, wd_102⟩
theorem mk_251 : (parseMethodDescriptor (ci_y q_X12_border).desc).map (fun d => d.parameters.length) = some 0 := by decide +kernel
theorem ms_252 : ci_Ms 252 = q_X12_exchange := rfl
theorem wd_1690 : Jvm.Cond.code yX12_exchange cX12_exchange 8 (some .int) ∈ ci_T := tb_7 (i := 161) rfl rfl
theorem mo_252 : ci_okC ci_T q_X12_exchange := ⟨by decide +kernel, wd_1690, by decide, by decide +kernel, by decide +kernel, wd_102⟩
theorem mk_252 : (parseMethodDescriptor (ci_y q_X12_exchange).desc).map (fun d => d.parameters.length) = some 2 := by decide +kernel
theorem ms_253 : ci_Ms 253 = q_X12_withAll := rfl
theorem wd_1698 : Jvm.Cond.code yX12_withAll cX12_withAll 5 (some .int) ∈ ci_T := tb_7 (i := 169) rfl rfl
theorem mo_253 : ci_okC ci_T q_X12_withAll := ⟨by decide +kernel, wd_1698, by decide, by decide +kernel, by decide +kernel, wd_102⟩
theorem mk_253 : (parseMethodDescriptor (ci_y q_X12_withAll).desc).map (fun d => d.parameters.length) = some 2 := by decide +kernel
theorem ms_254 : ci_Ms 254 = q_X12_isFewer := rfl
theorem wd_1701 : Jvm.Cond.code yX12_isFewer cX12_isFewer 2 (some .boolean) ∈ ci_T := tb_7 (i := 172) rfl rfl
theorem mo_254 : ci_okC ci_T q_X12_isFewer := ⟨by decide +kernel, wd_1701, by decide, by decide +kernel, by decide +kernel, wd_102⟩
theorem mk_254 : (parseMethodDescriptor (ci_y q_X12_isFewer).desc).map (fun d => d.parameters.length) = some 2 := by decide +kernel
theorem ms_255 : ci_Ms 255 = q_X12_name := rfl
theorem wd_1694 : Jvm.Cond.code yX12_name cX12_name 5 (some .int) ∈ ci_T := tb_7 (i := 165) rfl rfl
theorem mo_255 : ci_okC ci_T q_X12_name := ⟨by decide +kernel, wd_1694, by decide, by decide +kernel, by decide +kernel, wd_102⟩
theorem mk_255 : (parseMethodDescriptor (ci_y q_X12_name).desc).map (fun d => d.parameters.length) = some 1 := by decide +kernel
theorem ms_256 : ci_Ms 256 = q_X12_goDeal := rfl
theorem wd_1709 : Jvm.Cond.code yX12_goDeal cX12_goDeal 5 none ∈ ci_T := tb_7 (i := 180) rfl rfl
theorem mo_256 : ci_okC ci_T q_X12_goDeal := ⟨by decide +kernel, wd_1709, by decide, by decide +kernel, by decide +kernel, wd_102⟩
theorem mk_256 : (parseMethodDescriptor (ci_y q_X12_goDeal).desc).map (fun d => d.parameters.length) = some 3 := by decide +kernel
theorem ms_257 : ci_Ms 257 = q_X12_deal := rfl
theorem wd_1705 : Jvm.Cond.code yX12_deal cX12_deal 3 (some .int) ∈ ci_T := tb_7 (i := 176) rfl rfl
theorem mo_257 : ci_okC ci_T q_X12_deal := ⟨by decide +kernel, wd_1705, by decide, by decide +kernel, by decide +kernel, wd_102⟩
theorem mk_257 : (parseMethodDescriptor (ci_y q_X12_deal).desc).map (fun d => d.parameters.length) = some 0 := by decide +kernel
theorem ms_258 : ci_Ms 258 = q_X12_vote := rfl
theorem wd_1713 : Jvm.Cond.code yX12_vote cX12_vote 6 (some .int) ∈ ci_T := tb_7 (i := 184) rfl rfl
theorem mo_258 : ci_okC ci_T q_X12_vote := ⟨by decide +kernel, wd_1713, by decide, by decide +kernel, by decide +kernel, wd_102⟩
theorem mk_258 : (parseMethodDescriptor (ci_y q_X12_vote).desc).map (fun d => d.parameters.length) = some 0 := by decide +kernel
theorem ms_259 : ci_Ms 259 = q_X12_canPay := rfl
theorem wd_1720 : Jvm.Cond.code yX12_canPay cX12_canPay 5 (some .boolean) ∈ ci_T := tb_7 (i := 191) rfl rfl
theorem mo_259 : ci_okC ci_T q_X12_canPay := ⟨by decide +kernel, wd_1720, by decide, by decide +kernel, by decide +kernel, wd_102⟩
theorem mk_259 : (parseMethodDescriptor (ci_y q_X12_canPay).desc).map (fun d => d.parameters.length) = some 3 := by decide +kernel
theorem ms_260 : ci_Ms 260 = q_X12_paysUpTo := rfl
theorem wd_1723 : Jvm.Cond.code yX12_paysUpTo cX12_paysUpTo 5 (some .int) ∈ ci_T := tb_7 (i := 194) rfl rfl
theorem mo_260 : ci_okC ci_T q_X12_paysUpTo := ⟨by decide +kernel, wd_1723, by decide, by decide +kernel, by decide +kernel, wd_102⟩
theorem mk_260 : (parseMethodDescriptor (ci_y q_X12_paysUpTo).desc).map (fun d => d.parameters.length) = some 3 := by decide +kernel
theorem ms_261 : ci_Ms 261 = q_X12_pays := rfl
theorem wd_1717 : Jvm.Cond.code yX12_pays cX12_pays 5 (some .int) ∈ ci_T := tb_7 (i := 188) rfl rfl
theorem mo_261 : ci_okC ci_T q_X12_pays := ⟨by decide +kernel, wd_1717, by decide, by decide +kernel, by decide +kernel, wd_102⟩
theorem mk_261 : (parseMethodDescriptor (ci_y q_X12_pays).desc).map (fun d => d.parameters.length) = some 3 := by decide +kernel
theorem ms_262 : ci_Ms 262 = q_X12_coins := rfl
theorem wd_1727 : Jvm.Cond.code yX12_coins cX12_coins 8 (some .int) ∈ ci_T := tb_7 (i := 198) rfl rfl
theorem mo_262 : ci_okC ci_T q_X12_coins := ⟨by decide +kernel, wd_1727, by decide, by decide +kernel, by decide +kernel, wd_102⟩
theorem mk_262 : (parseMethodDescriptor (ci_y q_X12_coins).desc).map (fun d => d.parameters.length) = some 1 := by decide +kernel
theorem ms_263 : ci_Ms 263 = q_X12_had := rfl
theorem wd_1731 : Jvm.Cond.code yX12_had cX12_had 7 (some .int) ∈ ci_T := tb_7 (i := 202) rfl rfl
theorem mo_263 : ci_okC ci_T q_X12_had := ⟨by decide +kernel, wd_1731, by decide, by decide +kernel, by decide +kernel, wd_102⟩
theorem mk_263 : (parseMethodDescriptor (ci_y q_X12_had).desc).map (fun d => d.parameters.length) = some 2 := by decide +kernel
theorem ms_264 : ci_Ms 264 = q_X12_heard := rfl
theorem wd_1735 : Jvm.Cond.code yX12_heard cX12_heard 3 (some .int) ∈ ci_T := tb_7 (i := 206) rfl rfl
theorem mo_264 : ci_okC ci_T q_X12_heard := ⟨by decide +kernel, wd_1735, by decide, by decide +kernel, by decide +kernel, wd_102⟩
theorem mk_264 : (parseMethodDescriptor (ci_y q_X12_heard).desc).map (fun d => d.parameters.length) = some 2 := by decide +kernel
theorem ms_265 : ci_Ms 265 = q_X12_forget := rfl
theorem wd_1739 : Jvm.Cond.code yX12_forget cX12_forget 2 (some .int) ∈ ci_T := tb_7 (i := 210) rfl rfl
theorem mo_265 : ci_okC ci_T q_X12_forget := ⟨by decide +kernel, wd_1739, by decide, by decide +kernel, by decide +kernel, wd_102⟩
theorem mk_265 : (parseMethodDescriptor (ci_y q_X12_forget).desc).map (fun d => d.parameters.length) = some 0 := by decide +kernel
theorem ms_266 : ci_Ms 266 = q_X12_fits := rfl
theorem wd_1747 : Jvm.Cond.code yX12_fits cX12_fits 5 (some .int) ∈ ci_T := tb_7 (i := 218) rfl rfl
theorem mo_266 : ci_okC ci_T q_X12_fits := ⟨by decide +kernel, wd_1747, by decide, by decide +kernel, by decide +kernel, wd_102⟩
theorem mk_266 : (parseMethodDescriptor (ci_y q_X12_fits).desc).map (fun d => d.parameters.length) = some 0 := by decide +kernel
theorem ms_267 : ci_Ms 267 = q_X12_whose := rfl
theorem wd_1743 : Jvm.Cond.code yX12_whose cX12_whose 1 (some .int) ∈ ci_T := tb_7 (i := 214) rfl rfl
theorem mo_267 : ci_okC ci_T q_X12_whose := ⟨by decide +kernel, wd_1743, by decide, by decide +kernel, by decide +kernel, wd_102⟩
theorem mk_267 : (parseMethodDescriptor (ci_y q_X12_whose).desc).map (fun d => d.parameters.length) = some 0 := by decide +kernel
theorem ms_268 : ci_Ms 268 = q_X12_ask := rfl
theorem wd_1751 : Jvm.Cond.code yX12_ask cX12_ask 7 (some .int) ∈ ci_T := tb_7 (i := 222) rfl rfl
theorem mo_268 : ci_okC ci_T q_X12_ask := ⟨by decide +kernel, wd_1751, by decide, by decide +kernel, by decide +kernel, wd_102⟩
theorem mk_268 : (parseMethodDescriptor (ci_y q_X12_ask).desc).map (fun d => d.parameters.length) = some 0 := by decide +kernel
theorem ms_269 : ci_Ms 269 = q_X12_common := rfl
theorem wd_1763 : Jvm.Cond.code yX12_common cX12_common 4 (some .long) ∈ ci_T := tb_7 (i := 234) rfl rfl
theorem mo_269 : ci_okC ci_T q_X12_common := ⟨by decide +kernel, wd_1763, by decide, by decide +kernel, by decide +kernel, wd_102⟩
theorem mk_269 : (parseMethodDescriptor (ci_y q_X12_common).desc).map (fun d => d.parameters.length) = some 2 := by decide +kernel
theorem ms_270 : ci_Ms 270 = q_X12_seesBy := rfl
theorem wd_1759 : Jvm.Cond.code yX12_seesBy cX12_seesBy 5 none ∈ ci_T := tb_7 (i := 230) rfl rfl
theorem mo_270 : ci_okC ci_T q_X12_seesBy := ⟨by decide +kernel, wd_1759, by decide, by decide +kernel, by decide +kernel, wd_102⟩
theorem mk_270 : (parseMethodDescriptor (ci_y q_X12_seesBy).desc).map (fun d => d.parameters.length) = some 3 := by decide +kernel
theorem ms_271 : ci_Ms 271 = q_X12_seen := rfl
theorem wd_1755 : Jvm.Cond.code yX12_seen cX12_seen 6 (some .int) ∈ ci_T := tb_7 (i := 226) rfl rfl
theorem mo_271 : ci_okC ci_T q_X12_seen := ⟨by decide +kernel, wd_1755, by decide, by decide +kernel, by decide +kernel, wd_102⟩
theorem mk_271 : (parseMethodDescriptor (ci_y q_X12_seen).desc).map (fun d => d.parameters.length) = some 3 := by decide +kernel
theorem ms_272 : ci_Ms 272 = q_X12_finds := rfl
theorem wd_1767 : Jvm.Cond.code yX12_finds cX12_finds 8 (some .int) ∈ ci_T := tb_7 (i := 238) rfl rfl
theorem mo_272 : ci_okC ci_T q_X12_finds := ⟨by decide +kernel, wd_1767, by decide, by decide +kernel, by decide +kernel, wd_102⟩
theorem mk_272 : (parseMethodDescriptor (ci_y q_X12_finds).desc).map (fun d => d.parameters.length) = some 3 := by decide +kernel
theorem ms_273 : ci_Ms 273 = q_X12_gets := rfl
theorem wd_1779 : Jvm.Cond.code yX12_gets cX12_gets 4 (some .int) ∈ ci_T := tb_8 (i := 10) rfl rfl
theorem mo_273 : ci_okC ci_T q_X12_gets := ⟨by decide +kernel, wd_1779, by decide, by decide +kernel, by decide +kernel, wd_102⟩
theorem mk_273 : (parseMethodDescriptor (ci_y q_X12_gets).desc).map (fun d => d.parameters.length) = some 4 := by decide +kernel
theorem ms_274 : ci_Ms 274 = q_X12_isBest := rfl
theorem wd_1776 : Jvm.Cond.code yX12_isBest cX12_isBest 5 (some .boolean) ∈ ci_T := tb_8 (i := 7) rfl rfl
theorem mo_274 : ci_okC ci_T q_X12_isBest := ⟨by decide +kernel, wd_1776, by decide, by decide +kernel, by decide +kernel, wd_102⟩
theorem mk_274 : (parseMethodDescriptor (ci_y q_X12_isBest).desc).map (fun d => d.parameters.length) = some 4 := by decide +kernel
theorem ms_275 : ci_Ms 275 = q_X12_rests := rfl
theorem wd_1773 : Jvm.Cond.code yX12_rests cX12_rests 6 (some .int) ∈ ci_T := tb_8 (i := 4) rfl rfl
theorem mo_275 : ci_okC ci_T q_X12_rests := ⟨by decide +kernel, wd_1773, by decide, by decide +kernel, by decide +kernel, wd_102⟩
theorem mk_275 : (parseMethodDescriptor (ci_y q_X12_rests).desc).map (fun d => d.parameters.length) = some 2 := by decide +kernel
theorem ms_276 : ci_Ms 276 = q_X12_draw := rfl
theorem wd_1787 : Jvm.Cond.code yX12_draw cX12_draw 2 (some .int) ∈ ci_T := tb_8 (i := 18) rfl rfl
theorem mo_276 : ci_okC ci_T q_X12_draw := ⟨by decide +kernel, wd_1787, by decide, by decide +kernel, by decide +kernel, wd_102⟩
theorem mk_276 : (parseMethodDescriptor (ci_y q_X12_draw).desc).map (fun d => d.parameters.length) = some 1 := by decide +kernel
theorem ms_277 : ci_Ms 277 = q_X12_years := rfl
theorem wd_1783 : Jvm.Cond.code yX12_years cX12_years 8 (some .int) ∈ ci_T := tb_8 (i := 14) rfl rfl
theorem mo_277 : ci_okC ci_T q_X12_years := ⟨by decide +kernel, wd_1783, by decide, by decide +kernel, by decide +kernel, wd_102⟩
theorem mk_277 : (parseMethodDescriptor (ci_y q_X12_years).desc).map (fun d => d.parameters.length) = some 2 := by decide +kernel
theorem ms_278 : ci_Ms 278 = q_X12_keep := rfl
theorem wd_1792 : Jvm.Cond.code yX12_keep cX12_keep 2 (some .boolean) ∈ ci_T := tb_8 (i := 23) rfl rfl
theorem mo_278 : ci_okC ci_T q_X12_keep := ⟨by decide +kernel, wd_1792, by decide, by decide +kernel, by decide +kernel, wd_102⟩
theorem mk_278 : (parseMethodDescriptor (ci_y q_X12_keep).desc).map (fun d => d.parameters.length) = some 1 := by decide +kernel
theorem ms_279 : ci_Ms 279 = q_X12_again := rfl
theorem wd_1796 : Jvm.Cond.code yX12_again cX12_again 3 (some .boolean) ∈ ci_T := tb_8 (i := 27) rfl rfl
theorem mo_279 : ci_okC ci_T q_X12_again := ⟨by decide +kernel, wd_1796, by decide, by decide +kernel, by decide +kernel, wd_102⟩
theorem mk_279 : (parseMethodDescriptor (ci_y q_X12_again).desc).map (fun d => d.parameters.length) = some 1 := by decide +kernel
theorem ms_280 : ci_Ms 280 = q_X12_count := rfl
theorem wd_1800 : Jvm.Cond.code yX12_count cX12_count 2 (some .int) ∈ ci_T := tb_8 (i := 31) rfl rfl
theorem mo_280 : ci_okC ci_T q_X12_count := ⟨by decide +kernel, wd_1800, by decide, by decide +kernel, by decide +kernel, wd_102⟩
theorem mk_280 : (parseMethodDescriptor (ci_y q_X12_count).desc).map (fun d => d.parameters.length) = some 1 := by decide +kernel
theorem ms_281 : ci_Ms 281 = q_X12_row := rfl
theorem wd_1804 : Jvm.Cond.code yX12_row cX12_row 2 (some .long) ∈ ci_T := tb_8 (i := 35) rfl rfl
theorem mo_281 : ci_okC ci_T q_X12_row := ⟨by decide +kernel, wd_1804, by decide, by decide +kernel, by decide +kernel, wd_102⟩
theorem mk_281 : (parseMethodDescriptor (ci_y q_X12_row).desc).map (fun d => d.parameters.length) = some 1 := by decide +kernel
theorem ms_282 : ci_Ms 282 = q_J6_highestOneBit_0f7a4 := rfl
theorem wd_757 : Jvm.Cond.code yJ6_highestOneBit_0f7a4 cJ6_highestOneBit_0f7a4 1 (some .int) ∈ ci_T := tb_3 (i := 188) rfl rfl
theorem wd_105 : Jvm.Cond.initialized "java/lang/Integer" ∈ ci_T := tb_1 (i := 16) rfl rfl
theorem mo_282 : ci_okC ci_T q_J6_highestOneBit_0f7a4 := ⟨by decide +kernel, wd_757, by decide, by decide +kernel, by decide +kernel, wd_105⟩
theorem mk_282 : (parseMethodDescriptor (ci_y q_J6_highestOneBit_0f7a4).desc).map (fun d => d.parameters.length) = some 1 := by decide +kernel
theorem ms_283 : ci_Ms 283 = q_J6_numberOfLeadingZeros_0f7a4 := rfl
theorem wd_761 : Jvm.Cond.code yJ6_numberOfLeadingZeros_0f7a4 cJ6_numberOfLeadingZeros_0f7a4 2 (some .int) ∈ ci_T := tb_3 (i := 192) rfl rfl
theorem mo_283 : ci_okC ci_T q_J6_numberOfLeadingZeros_0f7a4 := ⟨by decide +kernel, wd_761, by decide, by decide +kernel, by decide +kernel, wd_105⟩
theorem mk_283 : (parseMethodDescriptor (ci_y q_J6_numberOfLeadingZeros_0f7a4).desc).map (fun d => d.parameters.length) = some 1 := by decide +kernel
theorem ms_284 : ci_Ms 284 = q_J6_numberOfTrailingZeros_0f7a4 := rfl
theorem wd_861 : Jvm.Cond.code yJ6_numberOfTrailingZeros_0f7a4 cJ6_numberOfTrailingZeros_0f7a4 2 (some .int) ∈ ci_T := tb_4 (i := 52) rfl rfl
theorem mo_284 : ci_okC ci_T q_J6_numberOfTrailingZeros_0f7a4 := ⟨by decide +kernel, wd_861, by decide, by decide +kernel, by decide +kernel, wd_105⟩
theorem mk_284 : (parseMethodDescriptor (ci_y q_J6_numberOfTrailingZeros_0f7a4).desc).map (fun d => d.parameters.length) = some 1 := by decide +kernel
theorem ms_285 : ci_Ms 285 = q_J6_bitCount_0f7a4 := rfl
theorem wd_625 : Jvm.Cond.code yJ6_bitCount_0f7a4 cJ6_bitCount_0f7a4 1 (some .int) ∈ ci_T := tb_3 (i := 56) rfl rfl
theorem mo_285 : ci_okC ci_T q_J6_bitCount_0f7a4 := ⟨by decide +kernel, wd_625, by decide, by decide +kernel, by decide +kernel, wd_105⟩
theorem mk_285 : (parseMethodDescriptor (ci_y q_J6_bitCount_0f7a4).desc).map (fun d => d.parameters.length) = some 1 := by decide +kernel
theorem ms_286 : ci_Ms 286 = q_J13_bitCount_95d88 := rfl
theorem wd_1017 : Jvm.Cond.code yJ13_bitCount_95d88 cJ13_bitCount_95d88 2 (some .int) ∈ ci_T := tb_4 (i := 208) rfl rfl
theorem wd_111 : Jvm.Cond.initialized "java/lang/Long" ∈ ci_T := tb_1 (i := 22) rfl rfl
theorem mo_286 : ci_okC ci_T q_J13_bitCount_95d88 := ⟨by decide +kernel, wd_1017, by decide, by decide +kernel, by decide +kernel, wd_111⟩
theorem mk_286 : (parseMethodDescriptor (ci_y q_J13_bitCount_95d88).desc).map (fun d => d.parameters.length) = some 1 := by decide +kernel
theorem ms_287 : ci_Ms 287 = q_L_law := rfl
