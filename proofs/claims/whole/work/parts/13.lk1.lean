def lp_F (q : Nat × Nat × Nat × Nat) : Prop := ∃ C T N, ci_cl ci_T ci_cls ci_fty q.2.2.1 C T N ∧ q.2.2.2 < N ∧ Jvm.Cond.fieldLink (ci_cn q.1) q.2.1 C (T q.2.2.2).2.1 (T q.2.2.2).2.2.1 ∈ ci_T
theorem wd_317 : Jvm.Cond.fieldLink RX0 9 RX0 "greatestFirst" "Z" ∈ ci_T := tb_1 (i := 228) rfl rfl
theorem lf_0_9 : lp_F (0, 9, 0, 1) := ⟨RX0, TX0, 4, cl_0, by decide, wd_317⟩
theorem wd_318 : Jvm.Cond.fieldLink RX0 15 RX0 "best" "I" ∈ ci_T := tb_1 (i := 229) rfl rfl
theorem lf_0_15 : lp_F (0, 15, 0, 2) := ⟨RX0, TX0, 4, cl_0, by decide, wd_318⟩
theorem wd_319 : Jvm.Cond.fieldLink RX0 19 RX0 "bestCount" "I" ∈ ci_T := tb_1 (i := 230) rfl rfl
theorem lf_0_19 : lp_F (0, 19, 0, 3) := ⟨RX0, TX0, 4, cl_0, by decide, wd_319⟩
theorem wd_316 : Jvm.Cond.fieldLink RX0 22 RX0 "town" "LTwoAtMost$Town;" ∈ ci_T := tb_1 (i := 227) rfl rfl
theorem lf_0_22 : lp_F (0, 22, 0, 0) := ⟨RX0, TX0, 4, cl_0, by decide, wd_316⟩
theorem wd_177 : Jvm.Cond.fieldLink RX0 48 RX10 "weights" "[I" ∈ ci_T := tb_1 (i := 88) rfl rfl
theorem lf_0_48 : lp_F (0, 48, 10, 4) := ⟨RX10, TX10, 9, cl_10, by decide, wd_177⟩
theorem wd_365 : Jvm.Cond.fieldLink RX1 11 RX1 "gains" "[[I" ∈ ci_T := tb_2 (i := 36) rfl rfl
theorem lf_1_11 : lp_F (1, 11, 1, 2) := ⟨RX1, TX1, 5, cl_1, by decide, wd_365⟩
theorem wd_366 : Jvm.Cond.fieldLink RX1 16 RX1 "best" "[I" ∈ ci_T := tb_2 (i := 37) rfl rfl
theorem lf_1_16 : lp_F (1, 16, 1, 3) := ⟨RX1, TX1, 5, cl_1, by decide, wd_366⟩
theorem wd_367 : Jvm.Cond.fieldLink RX1 20 RX1 "dealt" "[I" ∈ ci_T := tb_2 (i := 38) rfl rfl
theorem lf_1_20 : lp_F (1, 20, 1, 4) := ⟨RX1, TX1, 5, cl_1, by decide, wd_367⟩
theorem wd_363 : Jvm.Cond.fieldLink RX1 23 RX1 "town" "LTwoAtMost$Town;" ∈ ci_T := tb_2 (i := 34) rfl rfl
theorem lf_1_23 : lp_F (1, 23, 1, 0) := ⟨RX1, TX1, 5, cl_1, by decide, wd_363⟩
theorem wd_364 : Jvm.Cond.fieldLink RX1 27 RX1 "rule" "LTwoAtMost$Rule;" ∈ ci_T := tb_2 (i := 35) rfl rfl
theorem lf_1_27 : lp_F (1, 27, 1, 1) := ⟨RX1, TX1, 5, cl_1, by decide, wd_364⟩
theorem wd_181 : Jvm.Cond.fieldLink RX1 37 RX10 "houseCount" "I" ∈ ci_T := tb_1 (i := 92) rfl rfl
theorem lf_1_37 : lp_F (1, 37, 10, 5) := ⟨RX10, TX10, 9, cl_10, by decide, wd_181⟩
theorem wd_185 : Jvm.Cond.fieldLink RX1 60 RX10 "thingCount" "I" ∈ ci_T := tb_1 (i := 96) rfl rfl
theorem lf_1_60 : lp_F (1, 60, 10, 6) := ⟨RX10, TX10, 9, cl_10, by decide, wd_185⟩
theorem wd_297 : Jvm.Cond.fieldLink RX2 13 RX2 "states" "[LTwoAtMost$State;" ∈ ci_T := tb_1 (i := 208) rfl rfl
theorem lf_2_13 : lp_F (2, 13, 2, 0) := ⟨RX2, TX2, 3, cl_2, by decide, wd_297⟩
theorem wd_298 : Jvm.Cond.fieldLink RX2 17 RX2 "oldest" "I" ∈ ci_T := tb_1 (i := 209) rfl rfl
theorem lf_2_17 : lp_F (2, 17, 2, 1) := ⟨RX2, TX2, 3, cl_2, by decide, wd_298⟩
theorem wd_299 : Jvm.Cond.fieldLink RX2 21 RX2 "size" "I" ∈ ci_T := tb_1 (i := 210) rfl rfl
theorem lf_2_21 : lp_F (2, 21, 2, 2) := ⟨RX2, TX2, 3, cl_2, by decide, wd_299⟩
theorem wd_386 : Jvm.Cond.fieldLink RX3 7 RX3 "low" "J" ∈ ci_T := tb_2 (i := 57) rfl rfl
theorem lf_3_7 : lp_F (3, 7, 3, 0) := ⟨RX3, TX3, 2, cl_3, by decide, wd_386⟩
theorem wd_387 : Jvm.Cond.fieldLink RX3 13 RX3 "high" "J" ∈ ci_T := tb_2 (i := 58) rfl rfl
theorem lf_3_13 : lp_F (3, 13, 3, 1) := ⟨RX3, TX3, 2, cl_3, by decide, wd_387⟩
theorem wd_260 : Jvm.Cond.fieldLink RX4 9 RX4 "code" "[I" ∈ ci_T := tb_1 (i := 171) rfl rfl
theorem lf_4_9 : lp_F (4, 9, 4, 0) := ⟨RX4, TX4, 3, cl_4, by decide, wd_260⟩
theorem wd_261 : Jvm.Cond.fieldLink RX4 15 RX4 "stack" "[I" ∈ ci_T := tb_1 (i := 172) rfl rfl
theorem lf_4_15 : lp_F (4, 15, 4, 1) := ⟨RX4, TX4, 3, cl_4, by decide, wd_261⟩
theorem wd_262 : Jvm.Cond.fieldLink RX4 18 RX4 "size" "I" ∈ ci_T := tb_1 (i := 173) rfl rfl
theorem lf_4_18 : lp_F (4, 18, 4, 2) := ⟨RX4, TX4, 3, cl_4, by decide, wd_262⟩
theorem wd_169 : Jvm.Cond.fieldLink RX4 57 RX10 "now" "LTwoAtMost$State;" ∈ ci_T := tb_1 (i := 80) rfl rfl
theorem lf_4_57 : lp_F (4, 57, 10, 0) := ⟨RX10, TX10, 9, cl_10, by decide, wd_169⟩
theorem wd_143 : Jvm.Cond.fieldLink RX4 63 RX6 "traits" "[I" ∈ ci_T := tb_1 (i := 54) rfl rfl
theorem lf_4_63 : lp_F (4, 63, 6, 2) := ⟨RX6, TX6, 5, cl_6, by decide, wd_143⟩
theorem wd_135 : Jvm.Cond.fieldLink RX4 80 RX6 "owner" "[I" ∈ ci_T := tb_1 (i := 46) rfl rfl
theorem lf_4_80 : lp_F (4, 80, 6, 0) := ⟨RX6, TX6, 5, cl_6, by decide, wd_135⟩
theorem wd_281 : Jvm.Cond.fieldLink RX5 12 RX5 "draft" "LTwoAtMost$Rule;" ∈ ci_T := tb_1 (i := 192) rfl rfl
theorem lf_5_12 : lp_F (5, 12, 5, 1) := ⟨RX5, TX5, 2, cl_5, by decide, wd_281⟩
theorem wd_280 : Jvm.Cond.fieldLink RX5 18 RX5 "text" "LTwoAtMost$Text;" ∈ ci_T := tb_1 (i := 191) rfl rfl
theorem lf_5_18 : lp_F (5, 18, 5, 0) := ⟨RX5, TX5, 2, cl_5, by decide, wd_280⟩
theorem wd_263 : Jvm.Cond.fieldLink RX5 28 RX4 "size" "I" ∈ ci_T := tb_1 (i := 174) rfl rfl
theorem lf_5_28 : lp_F (5, 28, 4, 2) := ⟨RX4, TX4, 3, cl_4, by decide, wd_263⟩
theorem wd_132 : Jvm.Cond.fieldLink RX6 9 RX6 "owner" "[I" ∈ ci_T := tb_1 (i := 43) rfl rfl
theorem lf_6_9 : lp_F (6, 9, 6, 0) := ⟨RX6, TX6, 5, cl_6, by decide, wd_132⟩
theorem wd_136 : Jvm.Cond.fieldLink RX6 15 RX6 "keeper" "[I" ∈ ci_T := tb_1 (i := 47) rfl rfl
theorem lf_6_15 : lp_F (6, 15, 6, 1) := ⟨RX6, TX6, 5, cl_6, by decide, wd_136⟩
theorem wd_140 : Jvm.Cond.fieldLink RX6 18 RX6 "traits" "[I" ∈ ci_T := tb_1 (i := 51) rfl rfl
theorem lf_6_18 : lp_F (6, 18, 6, 2) := ⟨RX6, TX6, 5, cl_6, by decide, wd_140⟩
theorem wd_144 : Jvm.Cond.fieldLink RX6 21 RX6 "coins" "[I" ∈ ci_T := tb_1 (i := 55) rfl rfl
theorem lf_6_21 : lp_F (6, 21, 6, 3) := ⟨RX6, TX6, 5, cl_6, by decide, wd_144⟩
theorem wd_147 : Jvm.Cond.fieldLink RX6 24 RX6 "hour" "I" ∈ ci_T := tb_1 (i := 58) rfl rfl
theorem lf_6_24 : lp_F (6, 24, 6, 4) := ⟨RX6, TX6, 5, cl_6, by decide, wd_147⟩
theorem wd_338 : Jvm.Cond.fieldLink RX7 9 RX7 "those" "[I" ∈ ci_T := tb_2 (i := 9) rfl rfl
theorem lf_7_9 : lp_F (7, 9, 7, 1) := ⟨RX7, TX7, 5, cl_7, by decide, wd_338⟩
theorem wd_339 : Jvm.Cond.fieldLink RX7 15 RX7 "loads" "[I" ∈ ci_T := tb_2 (i := 10) rfl rfl
theorem lf_7_15 : lp_F (7, 15, 7, 2) := ⟨RX7, TX7, 5, cl_7, by decide, wd_339⟩
theorem wd_340 : Jvm.Cond.fieldLink RX7 18 RX7 "places" "[I" ∈ ci_T := tb_2 (i := 11) rfl rfl
theorem lf_7_18 : lp_F (7, 18, 7, 3) := ⟨RX7, TX7, 5, cl_7, by decide, wd_340⟩
theorem wd_342 : Jvm.Cond.fieldLink RX7 21 RX7 "count" "I" ∈ ci_T := tb_2 (i := 13) rfl rfl
theorem lf_7_21 : lp_F (7, 21, 7, 4) := ⟨RX7, TX7, 5, cl_7, by decide, wd_342⟩
theorem wd_337 : Jvm.Cond.fieldLink RX7 25 RX7 "town" "LTwoAtMost$Town;" ∈ ci_T := tb_2 (i := 8) rfl rfl
theorem lf_7_25 : lp_F (7, 25, 7, 0) := ⟨RX7, TX7, 5, cl_7, by decide, wd_337⟩
theorem wd_180 : Jvm.Cond.fieldLink RX7 33 RX10 "houseCount" "I" ∈ ci_T := tb_1 (i := 91) rfl rfl
theorem lf_7_33 : lp_F (7, 33, 10, 5) := ⟨RX10, TX10, 9, cl_10, by decide, wd_180⟩
theorem wd_184 : Jvm.Cond.fieldLink RX7 52 RX10 "thingCount" "I" ∈ ci_T := tb_1 (i := 95) rfl rfl
theorem lf_7_52 : lp_F (7, 52, 10, 6) := ⟨RX10, TX10, 9, cl_10, by decide, wd_184⟩
theorem wd_167 : Jvm.Cond.fieldLink RX7 55 RX10 "now" "LTwoAtMost$State;" ∈ ci_T := tb_1 (i := 78) rfl rfl
theorem lf_7_55 : lp_F (7, 55, 10, 0) := ⟨RX10, TX10, 9, cl_10, by decide, wd_167⟩
theorem wd_137 : Jvm.Cond.fieldLink RX7 59 RX6 "keeper" "[I" ∈ ci_T := tb_1 (i := 48) rfl rfl
theorem lf_7_59 : lp_F (7, 59, 6, 1) := ⟨RX6, TX6, 5, cl_6, by decide, wd_137⟩
theorem wd_178 : Jvm.Cond.fieldLink RX7 67 RX10 "weights" "[I" ∈ ci_T := tb_1 (i := 89) rfl rfl
theorem lf_7_67 : lp_F (7, 67, 10, 4) := ⟨RX10, TX10, 9, cl_10, by decide, wd_178⟩
theorem wd_237 : Jvm.Cond.fieldLink RX8 9 RX8 "first" "[I" ∈ ci_T := tb_1 (i := 148) rfl rfl
theorem lf_8_9 : lp_F (8, 9, 8, 1) := ⟨RX8, TX8, 4, cl_8, by decide, wd_237⟩
theorem wd_240 : Jvm.Cond.fieldLink RX8 15 RX8 "second" "[I" ∈ ci_T := tb_1 (i := 151) rfl rfl
theorem lf_8_15 : lp_F (8, 15, 8, 2) := ⟨RX8, TX8, 4, cl_8, by decide, wd_240⟩
theorem wd_243 : Jvm.Cond.fieldLink RX8 18 RX8 "third" "[I" ∈ ci_T := tb_1 (i := 154) rfl rfl
theorem lf_8_18 : lp_F (8, 18, 8, 3) := ⟨RX8, TX8, 4, cl_8, by decide, wd_243⟩
theorem wd_236 : Jvm.Cond.fieldLink RX8 21 RX8 "text" "LTwoAtMost$Text;" ∈ ci_T := tb_1 (i := 147) rfl rfl
theorem lf_8_21 : lp_F (8, 21, 8, 0) := ⟨RX8, TX8, 4, cl_8, by decide, wd_236⟩
theorem wd_216 : Jvm.Cond.fieldLink RX9 9 RX9 "signs" "[I" ∈ ci_T := tb_1 (i := 127) rfl rfl
theorem lf_9_9 : lp_F (9, 9, 9, 0) := ⟨RX9, TX9, 4, cl_9, by decide, wd_216⟩
theorem wd_217 : Jvm.Cond.fieldLink RX9 15 RX9 "length" "I" ∈ ci_T := tb_1 (i := 128) rfl rfl
theorem lf_9_15 : lp_F (9, 15, 9, 1) := ⟨RX9, TX9, 4, cl_9, by decide, wd_217⟩
theorem wd_219 : Jvm.Cond.fieldLink RX9 19 RX9 "at" "I" ∈ ci_T := tb_1 (i := 130) rfl rfl
theorem lf_9_19 : lp_F (9, 19, 9, 2) := ⟨RX9, TX9, 4, cl_9, by decide, wd_219⟩
theorem wd_220 : Jvm.Cond.fieldLink RX9 22 RX9 "readable" "I" ∈ ci_T := tb_1 (i := 131) rfl rfl
theorem lf_9_22 : lp_F (9, 22, 9, 3) := ⟨RX9, TX9, 4, cl_9, by decide, wd_220⟩
theorem wd_166 : Jvm.Cond.fieldLink RX10 12 RX10 "now" "LTwoAtMost$State;" ∈ ci_T := tb_1 (i := 77) rfl rfl
theorem lf_10_12 : lp_F (10, 12, 10, 0) := ⟨RX10, TX10, 9, cl_10, by decide, wd_166⟩
theorem wd_170 : Jvm.Cond.fieldLink RX10 18 RX10 "must" "[I" ∈ ci_T := tb_1 (i := 81) rfl rfl
theorem lf_10_18 : lp_F (10, 18, 10, 1) := ⟨RX10, TX10, 9, cl_10, by decide, wd_170⟩
theorem wd_172 : Jvm.Cond.fieldLink RX10 22 RX10 "mustNot" "[I" ∈ ci_T := tb_1 (i := 83) rfl rfl
theorem lf_10_22 : lp_F (10, 22, 10, 2) := ⟨RX10, TX10, 9, cl_10, by decide, wd_172⟩
theorem wd_174 : Jvm.Cond.fieldLink RX10 25 RX10 "ofKind" "[I" ∈ ci_T := tb_1 (i := 85) rfl rfl
theorem lf_10_25 : lp_F (10, 25, 10, 3) := ⟨RX10, TX10, 9, cl_10, by decide, wd_174⟩
theorem wd_176 : Jvm.Cond.fieldLink RX10 28 RX10 "weights" "[I" ∈ ci_T := tb_1 (i := 87) rfl rfl
theorem lf_10_28 : lp_F (10, 28, 10, 4) := ⟨RX10, TX10, 9, cl_10, by decide, wd_176⟩
theorem wd_179 : Jvm.Cond.fieldLink RX10 31 RX10 "houseCount" "I" ∈ ci_T := tb_1 (i := 90) rfl rfl
theorem lf_10_31 : lp_F (10, 31, 10, 5) := ⟨RX10, TX10, 9, cl_10, by decide, wd_179⟩
theorem wd_183 : Jvm.Cond.fieldLink RX10 35 RX10 "thingCount" "I" ∈ ci_T := tb_1 (i := 94) rfl rfl
theorem lf_10_35 : lp_F (10, 35, 10, 6) := ⟨RX10, TX10, 9, cl_10, by decide, wd_183⟩
theorem wd_187 : Jvm.Cond.fieldLink RX10 38 RX10 "kindCount" "I" ∈ ci_T := tb_1 (i := 98) rfl rfl
theorem lf_10_38 : lp_F (10, 38, 10, 7) := ⟨RX10, TX10, 9, cl_10, by decide, wd_187⟩
theorem wd_189 : Jvm.Cond.fieldLink RX10 41 RX10 "limit" "I" ∈ ci_T := tb_1 (i := 100) rfl rfl
theorem lf_10_41 : lp_F (10, 41, 10, 8) := ⟨RX10, TX10, 9, cl_10, by decide, wd_189⟩
theorem wd_133 : Jvm.Cond.fieldLink RX10 48 RX6 "owner" "[I" ∈ ci_T := tb_1 (i := 44) rfl rfl
theorem lf_10_48 : lp_F (10, 48, 6, 0) := ⟨RX6, TX6, 5, cl_6, by decide, wd_133⟩
theorem wd_138 : Jvm.Cond.fieldLink RX10 51 RX6 "keeper" "[I" ∈ ci_T := tb_1 (i := 49) rfl rfl
theorem lf_10_51 : lp_F (10, 51, 6, 1) := ⟨RX6, TX6, 5, cl_6, by decide, wd_138⟩
theorem wd_145 : Jvm.Cond.fieldLink RX10 54 RX6 "coins" "[I" ∈ ci_T := tb_1 (i := 56) rfl rfl
theorem lf_10_54 : lp_F (10, 54, 6, 3) := ⟨RX6, TX6, 5, cl_6, by decide, wd_145⟩
theorem wd_142 : Jvm.Cond.fieldLink RX10 57 RX6 "traits" "[I" ∈ ci_T := tb_1 (i := 53) rfl rfl
theorem lf_10_57 : lp_F (10, 57, 6, 2) := ⟨RX6, TX6, 5, cl_6, by decide, wd_142⟩
theorem wd_238 : Jvm.Cond.fieldLink RX10 60 RX8 "first" "[I" ∈ ci_T := tb_1 (i := 149) rfl rfl
theorem lf_10_60 : lp_F (10, 60, 8, 1) := ⟨RX8, TX8, 4, cl_8, by decide, wd_238⟩
theorem wd_241 : Jvm.Cond.fieldLink RX10 65 RX8 "second" "[I" ∈ ci_T := tb_1 (i := 152) rfl rfl
theorem lf_10_65 : lp_F (10, 65, 8, 2) := ⟨RX8, TX8, 4, cl_8, by decide, wd_241⟩
theorem wd_149 : Jvm.Cond.fieldLink RX10 110 RX6 "hour" "I" ∈ ci_T := tb_1 (i := 60) rfl rfl
theorem lf_10_110 : lp_F (10, 110, 6, 4) := ⟨RX6, TX6, 5, cl_6, by decide, wd_149⟩
theorem wd_393 : Jvm.Cond.fieldLink RX11 10 RX11 "town" "LTwoAtMost$Town;" ∈ ci_T := tb_2 (i := 64) rfl rfl
theorem lf_11_10 : lp_F (11, 10, 11, 0) := ⟨RX11, TX11, 19, cl_11, by decide, wd_393⟩
theorem wd_394 : Jvm.Cond.fieldLink RX11 19 RX11 "text" "LTwoAtMost$Text;" ∈ ci_T := tb_2 (i := 65) rfl rfl
theorem lf_11_19 : lp_F (11, 19, 11, 1) := ⟨RX11, TX11, 19, cl_11, by decide, wd_394⟩
theorem wd_395 : Jvm.Cond.fieldLink RX11 28 RX11 "telling" "LTwoAtMost$Telling;" ∈ ci_T := tb_2 (i := 66) rfl rfl
theorem lf_11_28 : lp_F (11, 28, 11, 2) := ⟨RX11, TX11, 19, cl_11, by decide, wd_395⟩
theorem wd_396 : Jvm.Cond.fieldLink RX11 35 RX11 "rule" "LTwoAtMost$Rule;" ∈ ci_T := tb_2 (i := 67) rfl rfl
theorem lf_11_35 : lp_F (11, 35, 11, 3) := ⟨RX11, TX11, 19, cl_11, by decide, wd_396⟩
theorem wd_397 : Jvm.Cond.fieldLink RX11 42 RX11 "ruleReader" "LTwoAtMost$RuleReader;" ∈ ci_T := tb_2 (i := 68) rfl rfl
theorem lf_11_42 : lp_F (11, 42, 11, 4) := ⟨RX11, TX11, 19, cl_11, by decide, wd_397⟩
theorem wd_398 : Jvm.Cond.fieldLink RX11 49 RX11 "past" "LTwoAtMost$Past;" ∈ ci_T := tb_2 (i := 69) rfl rfl
theorem lf_11_49 : lp_F (11, 49, 11, 5) := ⟨RX11, TX11, 19, cl_11, by decide, wd_398⟩
theorem wd_399 : Jvm.Cond.fieldLink RX11 53 RX11 "rowNumbers" "[J" ∈ ci_T := tb_2 (i := 70) rfl rfl
theorem lf_11_53 : lp_F (11, 53, 11, 6) := ⟨RX11, TX11, 19, cl_11, by decide, wd_399⟩
theorem wd_400 : Jvm.Cond.fieldLink RX11 57 RX11 "rowSize" "I" ∈ ci_T := tb_2 (i := 71) rfl rfl
theorem lf_11_57 : lp_F (11, 57, 11, 7) := ⟨RX11, TX11, 19, cl_11, by decide, wd_400⟩
theorem wd_401 : Jvm.Cond.fieldLink RX11 63 RX11 "shelf" "[LTwoAtMost$State;" ∈ ci_T := tb_2 (i := 72) rfl rfl
theorem lf_11_63 : lp_F (11, 63, 11, 8) := ⟨RX11, TX11, 19, cl_11, by decide, wd_401⟩
theorem wd_402 : Jvm.Cond.fieldLink RX11 68 RX11 "shelved" "[Z" ∈ ci_T := tb_2 (i := 73) rfl rfl
theorem lf_11_68 : lp_F (11, 68, 11, 9) := ⟨RX11, TX11, 19, cl_11, by decide, wd_402⟩
theorem wd_403 : Jvm.Cond.fieldLink RX11 72 RX11 "spare" "LTwoAtMost$State;" ∈ ci_T := tb_2 (i := 74) rfl rfl
theorem lf_11_72 : lp_F (11, 72, 11, 10) := ⟨RX11, TX11, 19, cl_11, by decide, wd_403⟩
theorem wd_404 : Jvm.Cond.fieldLink RX11 76 RX11 "heardThings" "[I" ∈ ci_T := tb_2 (i := 75) rfl rfl
theorem lf_11_76 : lp_F (11, 76, 11, 11) := ⟨RX11, TX11, 19, cl_11, by decide, wd_404⟩
theorem wd_405 : Jvm.Cond.fieldLink RX11 80 RX11 "heardAnswers" "[I" ∈ ci_T := tb_2 (i := 76) rfl rfl
theorem lf_11_80 : lp_F (11, 80, 11, 12) := ⟨RX11, TX11, 19, cl_11, by decide, wd_405⟩
theorem wd_406 : Jvm.Cond.fieldLink RX11 83 RX11 "heardCount" "I" ∈ ci_T := tb_2 (i := 77) rfl rfl
theorem lf_11_83 : lp_F (11, 83, 11, 13) := ⟨RX11, TX11, 19, cl_11, by decide, wd_406⟩
theorem wd_407 : Jvm.Cond.fieldLink RX11 91 RX11 "choosing" "LTwoAtMost$Choosing;" ∈ ci_T := tb_2 (i := 78) rfl rfl
theorem lf_11_91 : lp_F (11, 91, 11, 14) := ⟨RX11, TX11, 19, cl_11, by decide, wd_407⟩
theorem wd_408 : Jvm.Cond.fieldLink RX11 98 RX11 "storing" "LTwoAtMost$Storing;" ∈ ci_T := tb_2 (i := 79) rfl rfl
theorem lf_11_98 : lp_F (11, 98, 11, 15) := ⟨RX11, TX11, 19, cl_11, by decide, wd_408⟩
theorem wd_409 : Jvm.Cond.fieldLink RX11 107 RX11 "dealing" "LTwoAtMost$Dealing;" ∈ ci_T := tb_2 (i := 80) rfl rfl
theorem lf_11_107 : lp_F (11, 107, 11, 16) := ⟨RX11, TX11, 19, cl_11, by decide, wd_409⟩
theorem wd_410 : Jvm.Cond.fieldLink RX11 114 RX11 "purse" "LTwoAtMost$Purse;" ∈ ci_T := tb_2 (i := 81) rfl rfl
theorem lf_11_114 : lp_F (11, 114, 11, 17) := ⟨RX11, TX11, 19, cl_11, by decide, wd_410⟩
theorem wd_411 : Jvm.Cond.fieldLink RX11 118 RX11 "chances" "[J" ∈ ci_T := tb_2 (i := 82) rfl rfl
theorem lf_11_118 : lp_F (11, 118, 11, 18) := ⟨RX11, TX11, 19, cl_11, by decide, wd_411⟩
theorem wd_218 : Jvm.Cond.fieldLink RX11 121 RX9 "length" "I" ∈ ci_T := tb_1 (i := 129) rfl rfl
theorem lf_11_121 : lp_F (11, 121, 9, 1) := ⟨RX9, TX9, 4, cl_9, by decide, wd_218⟩
theorem wd_182 : Jvm.Cond.fieldLink RX11 132 RX10 "houseCount" "I" ∈ ci_T := tb_1 (i := 93) rfl rfl
theorem lf_11_132 : lp_F (11, 132, 10, 5) := ⟨RX10, TX10, 9, cl_10, by decide, wd_182⟩
theorem wd_186 : Jvm.Cond.fieldLink RX11 141 RX10 "thingCount" "I" ∈ ci_T := tb_1 (i := 97) rfl rfl
theorem lf_11_141 : lp_F (11, 141, 10, 6) := ⟨RX10, TX10, 9, cl_10, by decide, wd_186⟩
theorem wd_188 : Jvm.Cond.fieldLink RX11 152 RX10 "kindCount" "I" ∈ ci_T := tb_1 (i := 99) rfl rfl
theorem lf_11_152 : lp_F (11, 152, 10, 7) := ⟨RX10, TX10, 9, cl_10, by decide, wd_188⟩
theorem wd_264 : Jvm.Cond.fieldLink RX11 162 RX4 "size" "I" ∈ ci_T := tb_1 (i := 175) rfl rfl
theorem lf_11_162 : lp_F (11, 162, 4, 2) := ⟨RX4, TX4, 3, cl_4, by decide, wd_264⟩
theorem wd_282 : Jvm.Cond.fieldLink RX11 169 RX5 "draft" "LTwoAtMost$Rule;" ∈ ci_T := tb_1 (i := 193) rfl rfl
theorem lf_11_169 : lp_F (11, 169, 5, 1) := ⟨RX5, TX5, 2, cl_5, by decide, wd_282⟩
theorem wd_168 : Jvm.Cond.fieldLink RX11 182 RX10 "now" "LTwoAtMost$State;" ∈ ci_T := tb_1 (i := 79) rfl rfl
theorem lf_11_182 : lp_F (11, 182, 10, 0) := ⟨RX10, TX10, 9, cl_10, by decide, wd_168⟩
theorem wd_141 : Jvm.Cond.fieldLink RX11 185 RX6 "traits" "[I" ∈ ci_T := tb_1 (i := 52) rfl rfl
theorem lf_11_185 : lp_F (11, 185, 6, 2) := ⟨RX6, TX6, 5, cl_6, by decide, wd_141⟩
theorem wd_134 : Jvm.Cond.fieldLink RX11 188 RX6 "owner" "[I" ∈ ci_T := tb_1 (i := 45) rfl rfl
theorem lf_11_188 : lp_F (11, 188, 6, 0) := ⟨RX6, TX6, 5, cl_6, by decide, wd_134⟩
theorem wd_139 : Jvm.Cond.fieldLink RX11 191 RX6 "keeper" "[I" ∈ ci_T := tb_1 (i := 50) rfl rfl
theorem lf_11_191 : lp_F (11, 191, 6, 1) := ⟨RX6, TX6, 5, cl_6, by decide, wd_139⟩
theorem wd_171 : Jvm.Cond.fieldLink RX11 203 RX10 "must" "[I" ∈ ci_T := tb_1 (i := 82) rfl rfl
theorem lf_11_203 : lp_F (11, 203, 10, 1) := ⟨RX10, TX10, 9, cl_10, by decide, wd_171⟩
theorem wd_173 : Jvm.Cond.fieldLink RX11 206 RX10 "mustNot" "[I" ∈ ci_T := tb_1 (i := 84) rfl rfl
theorem lf_11_206 : lp_F (11, 206, 10, 2) := ⟨RX10, TX10, 9, cl_10, by decide, wd_173⟩
theorem wd_175 : Jvm.Cond.fieldLink RX11 209 RX10 "ofKind" "[I" ∈ ci_T := tb_1 (i := 86) rfl rfl
theorem lf_11_209 : lp_F (11, 209, 10, 3) := ⟨RX10, TX10, 9, cl_10, by decide, wd_175⟩
theorem wd_146 : Jvm.Cond.fieldLink RX11 221 RX6 "coins" "[I" ∈ ci_T := tb_1 (i := 57) rfl rfl
theorem lf_11_221 : lp_F (11, 221, 6, 3) := ⟨RX6, TX6, 5, cl_6, by decide, wd_146⟩
theorem wd_190 : Jvm.Cond.fieldLink RX11 231 RX10 "limit" "I" ∈ ci_T := tb_1 (i := 101) rfl rfl
theorem lf_11_231 : lp_F (11, 231, 10, 8) := ⟨RX10, TX10, 9, cl_10, by decide, wd_190⟩
theorem wd_148 : Jvm.Cond.fieldLink RX11 251 RX6 "hour" "I" ∈ ci_T := tb_1 (i := 59) rfl rfl
theorem lf_11_251 : lp_F (11, 251, 6, 4) := ⟨RX6, TX6, 5, cl_6, by decide, wd_148⟩
theorem wd_239 : Jvm.Cond.fieldLink RX11 266 RX8 "first" "[I" ∈ ci_T := tb_1 (i := 150) rfl rfl
theorem lf_11_266 : lp_F (11, 266, 8, 1) := ⟨RX8, TX8, 4, cl_8, by decide, wd_239⟩
theorem wd_242 : Jvm.Cond.fieldLink RX11 269 RX8 "second" "[I" ∈ ci_T := tb_1 (i := 153) rfl rfl
theorem lf_11_269 : lp_F (11, 269, 8, 2) := ⟨RX8, TX8, 4, cl_8, by decide, wd_242⟩
theorem wd_244 : Jvm.Cond.fieldLink RX11 272 RX8 "third" "[I" ∈ ci_T := tb_1 (i := 155) rfl rfl
theorem lf_11_272 : lp_F (11, 272, 8, 3) := ⟨RX8, TX8, 4, cl_8, by decide, wd_244⟩
theorem wd_300 : Jvm.Cond.fieldLink RX11 281 RX2 "size" "I" ∈ ci_T := tb_1 (i := 211) rfl rfl
theorem lf_11_281 : lp_F (11, 281, 2, 2) := ⟨RX2, TX2, 3, cl_2, by decide, wd_300⟩
theorem wd_343 : Jvm.Cond.fieldLink RX11 331 RX7 "count" "I" ∈ ci_T := tb_2 (i := 14) rfl rfl
theorem lf_11_331 : lp_F (11, 331, 7, 4) := ⟨RX7, TX7, 5, cl_7, by decide, wd_343⟩
theorem wd_341 : Jvm.Cond.fieldLink RX11 334 RX7 "places" "[I" ∈ ci_T := tb_2 (i := 12) rfl rfl
theorem lf_11_334 : lp_F (11, 334, 7, 3) := ⟨RX7, TX7, 5, cl_7, by decide, wd_341⟩
theorem wd_368 : Jvm.Cond.fieldLink RX11 352 RX1 "dealt" "[I" ∈ ci_T := tb_2 (i := 39) rfl rfl
theorem lf_11_352 : lp_F (11, 352, 1, 4) := ⟨RX1, TX1, 5, cl_1, by decide, wd_368⟩
theorem wd_1225 : Jvm.Cond.fieldLink RX12 9 RX12 "now" "[I" ∈ ci_T := tb_5 (i := 176) rfl rfl
theorem lf_12_9 : lp_F (12, 9, 12, 0) := ⟨RX12, TX12, 43, cl_12, by decide, wd_1225⟩
theorem wd_1226 : Jvm.Cond.fieldLink RX12 13 RX12 "houses" "I" ∈ ci_T := tb_5 (i := 177) rfl rfl
theorem lf_12_13 : lp_F (12, 13, 12, 1) := ⟨RX12, TX12, 43, cl_12, by decide, wd_1226⟩
theorem wd_1229 : Jvm.Cond.fieldLink RX12 17 RX12 "must" "[I" ∈ ci_T := tb_5 (i := 180) rfl rfl
theorem lf_12_17 : lp_F (12, 17, 12, 4) := ⟨RX12, TX12, 43, cl_12, by decide, wd_1229⟩
theorem wd_1230 : Jvm.Cond.fieldLink RX12 20 RX12 "mustNot" "[I" ∈ ci_T := tb_5 (i := 181) rfl rfl
theorem lf_12_20 : lp_F (12, 20, 12, 5) := ⟨RX12, TX12, 43, cl_12, by decide, wd_1230⟩
theorem wd_1231 : Jvm.Cond.fieldLink RX12 23 RX12 "most" "I" ∈ ci_T := tb_5 (i := 182) rfl rfl
theorem lf_12_23 : lp_F (12, 23, 12, 6) := ⟨RX12, TX12, 43, cl_12, by decide, wd_1231⟩
theorem wd_1232 : Jvm.Cond.fieldLink RX12 26 RX12 "text" "[B" ∈ ci_T := tb_5 (i := 183) rfl rfl
theorem lf_12_26 : lp_F (12, 26, 12, 7) := ⟨RX12, TX12, 43, cl_12, by decide, wd_1232⟩
theorem wd_1234 : Jvm.Cond.fieldLink RX12 30 RX12 "row" "[J" ∈ ci_T := tb_5 (i := 185) rfl rfl
theorem lf_12_30 : lp_F (12, 30, 12, 9) := ⟨RX12, TX12, 43, cl_12, by decide, wd_1234⟩
theorem wd_1242 : Jvm.Cond.fieldLink RX12 34 RX12 "comes" "[I" ∈ ci_T := tb_5 (i := 193) rfl rfl
theorem lf_12_34 : lp_F (12, 34, 12, 17) := ⟨RX12, TX12, 43, cl_12, by decide, wd_1242⟩
theorem wd_1243 : Jvm.Cond.fieldLink RX12 37 RX12 "rule" "[B" ∈ ci_T := tb_5 (i := 194) rfl rfl
theorem lf_12_37 : lp_F (12, 37, 12, 18) := ⟨RX12, TX12, 43, cl_12, by decide, wd_1243⟩
theorem wd_1246 : Jvm.Cond.fieldLink RX12 40 RX12 "asked" "[I" ∈ ci_T := tb_5 (i := 197) rfl rfl
theorem lf_12_40 : lp_F (12, 40, 12, 21) := ⟨RX12, TX12, 43, cl_12, by decide, wd_1246⟩
theorem wd_1247 : Jvm.Cond.fieldLink RX12 43 RX12 "undos" "[I" ∈ ci_T := tb_5 (i := 198) rfl rfl
theorem lf_12_43 : lp_F (12, 43, 12, 22) := ⟨RX12, TX12, 43, cl_12, by decide, wd_1247⟩
theorem wd_1249 : Jvm.Cond.fieldLink RX12 46 RX12 "aside" "[I" ∈ ci_T := tb_5 (i := 200) rfl rfl
theorem lf_12_46 : lp_F (12, 46, 12, 24) := ⟨RX12, TX12, 43, cl_12, by decide, wd_1249⟩
theorem wd_1250 : Jvm.Cond.fieldLink RX12 49 RX12 "then" "[I" ∈ ci_T := tb_5 (i := 201) rfl rfl
theorem lf_12_49 : lp_F (12, 49, 12, 25) := ⟨RX12, TX12, 43, cl_12, by decide, wd_1250⟩
theorem wd_1251 : Jvm.Cond.fieldLink RX12 52 RX12 "acts" "[I" ∈ ci_T := tb_5 (i := 202) rfl rfl
theorem lf_12_52 : lp_F (12, 52, 12, 26) := ⟨RX12, TX12, 43, cl_12, by decide, wd_1251⟩
theorem wd_1252 : Jvm.Cond.fieldLink RX12 55 RX12 "place" "[I" ∈ ci_T := tb_5 (i := 203) rfl rfl
theorem lf_12_55 : lp_F (12, 55, 12, 27) := ⟨RX12, TX12, 43, cl_12, by decide, wd_1252⟩
theorem wd_1253 : Jvm.Cond.fieldLink RX12 58 RX12 "bestPlace" "[I" ∈ ci_T := tb_5 (i := 204) rfl rfl
theorem lf_12_58 : lp_F (12, 58, 12, 28) := ⟨RX12, TX12, 43, cl_12, by decide, wd_1253⟩
theorem wd_1256 : Jvm.Cond.fieldLink RX12 61 RX12 "worths" "[I" ∈ ci_T := tb_5 (i := 207) rfl rfl
theorem lf_12_61 : lp_F (12, 61, 12, 31) := ⟨RX12, TX12, 43, cl_12, by decide, wd_1256⟩
theorem wd_1257 : Jvm.Cond.fieldLink RX12 64 RX12 "heardOf" "[I" ∈ ci_T := tb_5 (i := 208) rfl rfl
theorem lf_12_64 : lp_F (12, 64, 12, 32) := ⟨RX12, TX12, 43, cl_12, by decide, wd_1257⟩
theorem wd_1262 : Jvm.Cond.fieldLink RX12 67 RX12 "chance" "[J" ∈ ci_T := tb_5 (i := 213) rfl rfl
theorem lf_12_67 : lp_F (12, 67, 12, 37) := ⟨RX12, TX12, 43, cl_12, by decide, wd_1262⟩
theorem wd_1265 : Jvm.Cond.fieldLink RX12 70 RX12 "kept" "[I" ∈ ci_T := tb_5 (i := 216) rfl rfl
theorem lf_12_70 : lp_F (12, 70, 12, 40) := ⟨RX12, TX12, 43, cl_12, by decide, wd_1265⟩
theorem wd_1266 : Jvm.Cond.fieldLink RX12 73 RX12 "isKept" "[Z" ∈ ci_T := tb_5 (i := 217) rfl rfl
theorem lf_12_73 : lp_F (12, 73, 12, 41) := ⟨RX12, TX12, 43, cl_12, by decide, wd_1266⟩
theorem wd_1267 : Jvm.Cond.fieldLink RX12 77 RX12 "keptCame" "[I" ∈ ci_T := tb_5 (i := 218) rfl rfl
theorem lf_12_77 : lp_F (12, 77, 12, 42) := ⟨RX12, TX12, 43, cl_12, by decide, wd_1267⟩
theorem wd_1236 : Jvm.Cond.fieldLink RX12 80 RX12 "thrown" "I" ∈ ci_T := tb_5 (i := 187) rfl rfl
theorem lf_12_80 : lp_F (12, 80, 12, 11) := ⟨RX12, TX12, 43, cl_12, by decide, wd_1236⟩
theorem wd_1235 : Jvm.Cond.fieldLink RX12 83 RX12 "rowMany" "I" ∈ ci_T := tb_5 (i := 186) rfl rfl
theorem lf_12_83 : lp_F (12, 83, 12, 10) := ⟨RX12, TX12, 43, cl_12, by decide, wd_1235⟩
theorem wd_1227 : Jvm.Cond.fieldLink RX12 86 RX12 "things" "I" ∈ ci_T := tb_5 (i := 178) rfl rfl
theorem lf_12_86 : lp_F (12, 86, 12, 2) := ⟨RX12, TX12, 43, cl_12, by decide, wd_1227⟩
theorem wd_1228 : Jvm.Cond.fieldLink RX12 93 RX12 "kinds" "I" ∈ ci_T := tb_5 (i := 179) rfl rfl
theorem lf_12_93 : lp_F (12, 93, 12, 3) := ⟨RX12, TX12, 43, cl_12, by decide, wd_1228⟩
theorem wd_1233 : Jvm.Cond.fieldLink RX12 96 RX12 "typed" "I" ∈ ci_T := tb_5 (i := 184) rfl rfl
theorem lf_12_96 : lp_F (12, 96, 12, 8) := ⟨RX12, TX12, 43, cl_12, by decide, wd_1233⟩
theorem wd_1237 : Jvm.Cond.fieldLink RX12 99 RX12 "read" "[B" ∈ ci_T := tb_5 (i := 188) rfl rfl
theorem lf_12_99 : lp_F (12, 99, 12, 12) := ⟨RX12, TX12, 43, cl_12, by decide, wd_1237⟩
theorem wd_1238 : Jvm.Cond.fieldLink RX12 102 RX12 "length" "I" ∈ ci_T := tb_5 (i := 189) rfl rfl
theorem lf_12_102 : lp_F (12, 102, 12, 13) := ⟨RX12, TX12, 43, cl_12, by decide, wd_1238⟩
theorem wd_1239 : Jvm.Cond.fieldLink RX12 105 RX12 "top" "I" ∈ ci_T := tb_5 (i := 190) rfl rfl
theorem lf_12_105 : lp_F (12, 105, 12, 14) := ⟨RX12, TX12, 43, cl_12, by decide, wd_1239⟩
theorem wd_1240 : Jvm.Cond.fieldLink RX12 108 RX12 "at" "I" ∈ ci_T := tb_5 (i := 191) rfl rfl
theorem lf_12_108 : lp_F (12, 108, 12, 15) := ⟨RX12, TX12, 43, cl_12, by decide, wd_1240⟩
theorem wd_1241 : Jvm.Cond.fieldLink RX12 111 RX12 "wrong" "I" ∈ ci_T := tb_5 (i := 192) rfl rfl
theorem lf_12_111 : lp_F (12, 111, 12, 16) := ⟨RX12, TX12, 43, cl_12, by decide, wd_1241⟩
theorem wd_1248 : Jvm.Cond.fieldLink RX12 148 RX12 "undoMany" "I" ∈ ci_T := tb_5 (i := 199) rfl rfl
theorem lf_12_148 : lp_F (12, 148, 12, 23) := ⟨RX12, TX12, 43, cl_12, by decide, wd_1248⟩
theorem wd_1264 : Jvm.Cond.fieldLink RX12 151 RX12 "came" "I" ∈ ci_T := tb_5 (i := 215) rfl rfl
theorem lf_12_151 : lp_F (12, 151, 12, 39) := ⟨RX12, TX12, 43, cl_12, by decide, wd_1264⟩
theorem wd_1245 : Jvm.Cond.fieldLink RX12 186 RX12 "isAsked" "Z" ∈ ci_T := tb_5 (i := 196) rfl rfl
theorem lf_12_186 : lp_F (12, 186, 12, 20) := ⟨RX12, TX12, 43, cl_12, by decide, wd_1245⟩
theorem wd_1244 : Jvm.Cond.fieldLink RX12 190 RX12 "ruleSize" "I" ∈ ci_T := tb_5 (i := 195) rfl rfl
theorem lf_12_190 : lp_F (12, 190, 12, 19) := ⟨RX12, TX12, 43, cl_12, by decide, wd_1244⟩
theorem wd_1254 : Jvm.Cond.fieldLink RX12 305 RX12 "bestMoves" "I" ∈ ci_T := tb_5 (i := 205) rfl rfl
theorem lf_12_305 : lp_F (12, 305, 12, 29) := ⟨RX12, TX12, 43, cl_12, by decide, wd_1254⟩
theorem wd_1255 : Jvm.Cond.fieldLink RX12 322 RX12 "bestSum" "I" ∈ ci_T := tb_5 (i := 206) rfl rfl
theorem lf_12_322 : lp_F (12, 322, 12, 30) := ⟨RX12, TX12, 43, cl_12, by decide, wd_1255⟩
theorem wd_1258 : Jvm.Cond.fieldLink RX12 335 RX12 "heardMany" "I" ∈ ci_T := tb_5 (i := 209) rfl rfl
theorem lf_12_335 : lp_F (12, 335, 12, 33) := ⟨RX12, TX12, 43, cl_12, by decide, wd_1258⟩
theorem wd_1259 : Jvm.Cond.fieldLink RX12 338 RX12 "heardBits" "I" ∈ ci_T := tb_5 (i := 210) rfl rfl
theorem lf_12_338 : lp_F (12, 338, 12, 34) := ⟨RX12, TX12, 43, cl_12, by decide, wd_1259⟩
theorem wd_1260 : Jvm.Cond.fieldLink RX12 348 RX12 "likely" "J" ∈ ci_T := tb_5 (i := 211) rfl rfl
theorem lf_12_348 : lp_F (12, 348, 12, 35) := ⟨RX12, TX12, 43, cl_12, by decide, wd_1260⟩
theorem wd_1261 : Jvm.Cond.fieldLink RX12 352 RX12 "whole" "J" ∈ ci_T := tb_5 (i := 212) rfl rfl
theorem lf_12_352 : lp_F (12, 352, 12, 36) := ⟨RX12, TX12, 43, cl_12, by decide, wd_1261⟩
theorem wd_1263 : Jvm.Cond.fieldLink RX12 372 RX12 "drawn" "I" ∈ ci_T := tb_5 (i := 214) rfl rfl
theorem lf_12_372 : lp_F (12, 372, 12, 38) := ⟨RX12, TX12, 43, cl_12, by decide, wd_1263⟩
def lk_F_0 : List (Nat × Nat × Nat × Nat) := [(0, 9, 0, 1), (0, 15, 0, 2), (0, 19, 0, 3), (0, 22, 0, 0), (0, 48, 10, 4), (1, 11, 1, 2), (1, 16, 1, 3), (1, 20, 1, 4), (1, 23, 1, 0), (1, 27, 1, 1), (1, 37, 10, 5), (1, 60, 10, 6), (2, 13, 2, 0), (2, 17, 2, 1), (2, 21, 2, 2), (3, 7, 3, 0), (3, 13, 3, 1), (4, 9, 4, 0), (4, 15, 4, 1), (4, 18, 4, 2), (4, 57, 10, 0), (4, 63, 6, 2), (4, 80, 6, 0), (5, 12, 5, 1), (5, 18, 5, 0)]
theorem lk_F_a0 : ∀ q ∈ lk_F_0, lp_F q := List.forall_mem_cons.mpr ⟨lf_0_9, List.forall_mem_cons.mpr ⟨lf_0_15, List.forall_mem_cons.mpr ⟨lf_0_19, List.forall_mem_cons.mpr ⟨lf_0_22, List.forall_mem_cons.mpr ⟨lf_0_48, List.forall_mem_cons.mpr ⟨lf_1_11, List.forall_mem_cons.mpr ⟨lf_1_16, List.forall_mem_cons.mpr ⟨lf_1_20, List.forall_mem_cons.mpr ⟨lf_1_23, List.forall_mem_cons.mpr ⟨lf_1_27, List.forall_mem_cons.mpr ⟨lf_1_37, List.forall_mem_cons.mpr ⟨lf_1_60, List.forall_mem_cons.mpr ⟨lf_2_13, List.forall_mem_cons.mpr ⟨lf_2_17, List.forall_mem_cons.mpr ⟨lf_2_21, List.forall_mem_cons.mpr ⟨lf_3_7, List.forall_mem_cons.mpr ⟨lf_3_13, List.forall_mem_cons.mpr ⟨lf_4_9, List.forall_mem_cons.mpr ⟨lf_4_15, List.forall_mem_cons.mpr ⟨lf_4_18, List.forall_mem_cons.mpr ⟨lf_4_57, List.forall_mem_cons.mpr ⟨lf_4_63, List.forall_mem_cons.mpr ⟨lf_4_80, List.forall_mem_cons.mpr ⟨lf_5_12, List.forall_mem_cons.mpr ⟨lf_5_18, fun _ h => absurd h List.not_mem_nil⟩⟩⟩⟩⟩⟩⟩⟩⟩⟩⟩⟩⟩⟩⟩⟩⟩⟩⟩⟩⟩⟩⟩⟩⟩
def lk_F_1 : List (Nat × Nat × Nat × Nat) := [(5, 28, 4, 2), (6, 9, 6, 0), (6, 15, 6, 1), (6, 18, 6, 2), (6, 21, 6, 3), (6, 24, 6, 4), (7, 9, 7, 1), (7, 15, 7, 2), (7, 18, 7, 3), (7, 21, 7, 4), (7, 25, 7, 0), (7, 33, 10, 5), (7, 52, 10, 6), (7, 55, 10, 0), (7, 59, 6, 1), (7, 67, 10, 4), (8, 9, 8, 1), (8, 15, 8, 2), (8, 18, 8, 3), (8, 21, 8, 0), (9, 9, 9, 0), (9, 15, 9, 1), (9, 19, 9, 2), (9, 22, 9, 3), (10, 12, 10, 0)]
theorem lk_F_a1 : ∀ q ∈ lk_F_1, lp_F q := List.forall_mem_cons.mpr ⟨lf_5_28, List.forall_mem_cons.mpr ⟨lf_6_9, List.forall_mem_cons.mpr ⟨lf_6_15, List.forall_mem_cons.mpr ⟨lf_6_18, List.forall_mem_cons.mpr ⟨lf_6_21, List.forall_mem_cons.mpr ⟨lf_6_24, List.forall_mem_cons.mpr ⟨lf_7_9, List.forall_mem_cons.mpr ⟨lf_7_15, List.forall_mem_cons.mpr ⟨lf_7_18, List.forall_mem_cons.mpr ⟨lf_7_21, List.forall_mem_cons.mpr ⟨lf_7_25, List.forall_mem_cons.mpr ⟨lf_7_33, List.forall_mem_cons.mpr ⟨lf_7_52, List.forall_mem_cons.mpr ⟨lf_7_55, List.forall_mem_cons.mpr ⟨lf_7_59, List.forall_mem_cons.mpr ⟨lf_7_67, List.forall_mem_cons.mpr ⟨lf_8_9, List.forall_mem_cons.mpr ⟨lf_8_15, List.forall_mem_cons.mpr ⟨lf_8_18, List.forall_mem_cons.mpr ⟨lf_8_21, List.forall_mem_cons.mpr ⟨lf_9_9, List.forall_mem_cons.mpr ⟨lf_9_15, List.forall_mem_cons.mpr ⟨lf_9_19, List.forall_mem_cons.mpr ⟨lf_9_22, List.forall_mem_cons.mpr ⟨lf_10_12, fun _ h => absurd h List.not_mem_nil⟩⟩⟩⟩⟩⟩⟩⟩⟩⟩⟩⟩⟩⟩⟩⟩⟩⟩⟩⟩⟩⟩⟩⟩⟩
def lk_F_2 : List (Nat × Nat × Nat × Nat) := [(10, 18, 10, 1), (10, 22, 10, 2), (10, 25, 10, 3), (10, 28, 10, 4), (10, 31, 10, 5), (10, 35, 10, 6), (10, 38, 10, 7), (10, 41, 10, 8), (10, 48, 6, 0), (10, 51, 6, 1), (10, 54, 6, 3), (10, 57, 6, 2), (10, 60, 8, 1), (10, 65, 8, 2), (10, 110, 6, 4), (11, 10, 11, 0), (11, 19, 11, 1), (11, 28, 11, 2), (11, 35, 11, 3), (11, 42, 11, 4), (11, 49, 11, 5), (11, 53, 11, 6), (11, 57, 11, 7), (11, 63, 11, 8), (11, 68, 11, 9)]
theorem lk_F_a2 : ∀ q ∈ lk_F_2, lp_F q := List.forall_mem_cons.mpr ⟨lf_10_18, List.forall_mem_cons.mpr ⟨lf_10_22, List.forall_mem_cons.mpr ⟨lf_10_25, List.forall_mem_cons.mpr ⟨lf_10_28, List.forall_mem_cons.mpr ⟨lf_10_31, List.forall_mem_cons.mpr ⟨lf_10_35, List.forall_mem_cons.mpr ⟨lf_10_38, List.forall_mem_cons.mpr ⟨lf_10_41, List.forall_mem_cons.mpr ⟨lf_10_48, List.forall_mem_cons.mpr ⟨lf_10_51, List.forall_mem_cons.mpr ⟨lf_10_54, List.forall_mem_cons.mpr ⟨lf_10_57, List.forall_mem_cons.mpr ⟨lf_10_60, List.forall_mem_cons.mpr ⟨lf_10_65, List.forall_mem_cons.mpr ⟨lf_10_110, List.forall_mem_cons.mpr ⟨lf_11_10, List.forall_mem_cons.mpr ⟨lf_11_19, List.forall_mem_cons.mpr ⟨lf_11_28, List.forall_mem_cons.mpr ⟨lf_11_35, List.forall_mem_cons.mpr ⟨lf_11_42, List.forall_mem_cons.mpr ⟨lf_11_49, List.forall_mem_cons.mpr ⟨lf_11_53, List.forall_mem_cons.mpr ⟨lf_11_57, List.forall_mem_cons.mpr ⟨lf_11_63, List.forall_mem_cons.mpr ⟨lf_11_68, fun _ h => absurd h List.not_mem_nil⟩⟩⟩⟩⟩⟩⟩⟩⟩⟩⟩⟩⟩⟩⟩⟩⟩⟩⟩⟩⟩⟩⟩⟩⟩
def lk_F_3 : List (Nat × Nat × Nat × Nat) := [(11, 72, 11, 10), (11, 76, 11, 11), (11, 80, 11, 12), (11, 83, 11, 13), (11, 91, 11, 14), (11, 98, 11, 15), (11, 107, 11, 16), (11, 114, 11, 17), (11, 118, 11, 18), (11, 121, 9, 1), (11, 132, 10, 5), (11, 141, 10, 6), (11, 152, 10, 7), (11, 162, 4, 2), (11, 169, 5, 1), (11, 182, 10, 0), (11, 185, 6, 2), (11, 188, 6, 0), (11, 191, 6, 1), (11, 203, 10, 1), (11, 206, 10, 2), (11, 209, 10, 3), (11, 221, 6, 3), (11, 231, 10, 8), (11, 251, 6, 4)]
theorem lk_F_a3 : ∀ q ∈ lk_F_3, lp_F q := List.forall_mem_cons.mpr ⟨lf_11_72, List.forall_mem_cons.mpr ⟨lf_11_76, List.forall_mem_cons.mpr ⟨lf_11_80, List.forall_mem_cons.mpr ⟨lf_11_83, List.forall_mem_cons.mpr ⟨lf_11_91, List.forall_mem_cons.mpr ⟨lf_11_98, List.forall_mem_cons.mpr ⟨lf_11_107, List.forall_mem_cons.mpr ⟨lf_11_114, List.forall_mem_cons.mpr ⟨lf_11_118, List.forall_mem_cons.mpr ⟨lf_11_121, List.forall_mem_cons.mpr ⟨lf_11_132, List.forall_mem_cons.mpr ⟨lf_11_141, List.forall_mem_cons.mpr ⟨lf_11_152, List.forall_mem_cons.mpr ⟨lf_11_162, List.forall_mem_cons.mpr ⟨lf_11_169, List.forall_mem_cons.mpr ⟨lf_11_182, List.forall_mem_cons.mpr ⟨lf_11_185, List.forall_mem_cons.mpr ⟨lf_11_188, List.forall_mem_cons.mpr ⟨lf_11_191, List.forall_mem_cons.mpr ⟨lf_11_203, List.forall_mem_cons.mpr ⟨lf_11_206, List.forall_mem_cons.mpr ⟨lf_11_209, List.forall_mem_cons.mpr ⟨lf_11_221, List.forall_mem_cons.mpr ⟨lf_11_231, List.forall_mem_cons.mpr ⟨lf_11_251, fun _ h => absurd h List.not_mem_nil⟩⟩⟩⟩⟩⟩⟩⟩⟩⟩⟩⟩⟩⟩⟩⟩⟩⟩⟩⟩⟩⟩⟩⟩⟩
def lk_F_4 : List (Nat × Nat × Nat × Nat) := [(11, 266, 8, 1), (11, 269, 8, 2), (11, 272, 8, 3), (11, 281, 2, 2), (11, 331, 7, 4), (11, 334, 7, 3), (11, 352, 1, 4), (12, 9, 12, 0), (12, 13, 12, 1), (12, 17, 12, 4), (12, 20, 12, 5), (12, 23, 12, 6), (12, 26, 12, 7), (12, 30, 12, 9), (12, 34, 12, 17), (12, 37, 12, 18), (12, 40, 12, 21), (12, 43, 12, 22), (12, 46, 12, 24), (12, 49, 12, 25), (12, 52, 12, 26), (12, 55, 12, 27), (12, 58, 12, 28), (12, 61, 12, 31), (12, 64, 12, 32)]
theorem lk_F_a4 : ∀ q ∈ lk_F_4, lp_F q := List.forall_mem_cons.mpr ⟨lf_11_266, List.forall_mem_cons.mpr ⟨lf_11_269, List.forall_mem_cons.mpr ⟨lf_11_272, List.forall_mem_cons.mpr ⟨lf_11_281, List.forall_mem_cons.mpr ⟨lf_11_331, List.forall_mem_cons.mpr ⟨lf_11_334, List.forall_mem_cons.mpr ⟨lf_11_352, List.forall_mem_cons.mpr ⟨lf_12_9, List.forall_mem_cons.mpr ⟨lf_12_13, List.forall_mem_cons.mpr ⟨lf_12_17, List.forall_mem_cons.mpr ⟨lf_12_20, List.forall_mem_cons.mpr ⟨lf_12_23, List.forall_mem_cons.mpr ⟨lf_12_26, List.forall_mem_cons.mpr ⟨lf_12_30, List.forall_mem_cons.mpr ⟨lf_12_34, List.forall_mem_cons.mpr ⟨lf_12_37, List.forall_mem_cons.mpr ⟨lf_12_40, List.forall_mem_cons.mpr ⟨lf_12_43, List.forall_mem_cons.mpr ⟨lf_12_46, List.forall_mem_cons.mpr ⟨lf_12_49, List.forall_mem_cons.mpr ⟨lf_12_52, List.forall_mem_cons.mpr ⟨lf_12_55, List.forall_mem_cons.mpr ⟨lf_12_58, List.forall_mem_cons.mpr ⟨lf_12_61, List.forall_mem_cons.mpr ⟨lf_12_64, fun _ h => absurd h List.not_mem_nil⟩⟩⟩⟩⟩⟩⟩⟩⟩⟩⟩⟩⟩⟩⟩⟩⟩⟩⟩⟩⟩⟩⟩⟩⟩
def lk_F_5 : List (Nat × Nat × Nat × Nat) := [(12, 67, 12, 37), (12, 70, 12, 40), (12, 73, 12, 41), (12, 77, 12, 42), (12, 80, 12, 11), (12, 83, 12, 10), (12, 86, 12, 2), (12, 93, 12, 3), (12, 96, 12, 8), (12, 99, 12, 12), (12, 102, 12, 13), (12, 105, 12, 14), (12, 108, 12, 15), (12, 111, 12, 16), (12, 148, 12, 23), (12, 151, 12, 39), (12, 186, 12, 20), (12, 190, 12, 19), (12, 305, 12, 29), (12, 322, 12, 30), (12, 335, 12, 33), (12, 338, 12, 34), (12, 348, 12, 35), (12, 352, 12, 36), (12, 372, 12, 38)]
theorem lk_F_a5 : ∀ q ∈ lk_F_5, lp_F q := List.forall_mem_cons.mpr ⟨lf_12_67, List.forall_mem_cons.mpr ⟨lf_12_70, List.forall_mem_cons.mpr ⟨lf_12_73, List.forall_mem_cons.mpr ⟨lf_12_77, List.forall_mem_cons.mpr ⟨lf_12_80, List.forall_mem_cons.mpr ⟨lf_12_83, List.forall_mem_cons.mpr ⟨lf_12_86, List.forall_mem_cons.mpr ⟨lf_12_93, List.forall_mem_cons.mpr ⟨lf_12_96, List.forall_mem_cons.mpr ⟨lf_12_99, List.forall_mem_cons.mpr ⟨lf_12_102, List.forall_mem_cons.mpr ⟨lf_12_105, List.forall_mem_cons.mpr ⟨lf_12_108, List.forall_mem_cons.mpr ⟨lf_12_111, List.forall_mem_cons.mpr ⟨lf_12_148, List.forall_mem_cons.mpr ⟨lf_12_151, List.forall_mem_cons.mpr ⟨lf_12_186, List.forall_mem_cons.mpr ⟨lf_12_190, List.forall_mem_cons.mpr ⟨lf_12_305, List.forall_mem_cons.mpr ⟨lf_12_322, List.forall_mem_cons.mpr ⟨lf_12_335, List.forall_mem_cons.mpr ⟨lf_12_338, List.forall_mem_cons.mpr ⟨lf_12_348, List.forall_mem_cons.mpr ⟨lf_12_352, List.forall_mem_cons.mpr ⟨lf_12_372, fun _ h => absurd h List.not_mem_nil⟩⟩⟩⟩⟩⟩⟩⟩⟩⟩⟩⟩⟩⟩⟩⟩⟩⟩⟩⟩⟩⟩⟩⟩⟩
def lk_F : List (Nat × Nat × Nat × Nat) := lk_F_0 ++ (lk_F_1 ++ (lk_F_2 ++ (lk_F_3 ++ (lk_F_4 ++ (lk_F_5)))))
theorem lk_F_ok : ∀ q ∈ lk_F, lp_F q := fun q h => (List.mem_append.mp h).elim (lk_F_a0 q) ((fun q h => (List.mem_append.mp h).elim (lk_F_a1 q) ((fun q h => (List.mem_append.mp h).elim (lk_F_a2 q) ((fun q h => (List.mem_append.mp h).elim (lk_F_a3 q) ((fun q h => (List.mem_append.mp h).elim (lk_F_a4 q) ((lk_F_a5) q)) q)) q)) q)) q)
def lp_M (x : Nat) : Prop := ci_okC ci_T (ci_Ms x)
def lp_S (q : Nat × Nat × Nat) : Prop := ci_okC ci_T (ci_Ms q.2.2) ∧ Jvm.Cond.methodLink (ci_cn q.1) q.2.1 (ci_y (ci_Ms q.2.2)) ∈ ci_T ∧ Jvm.Cond.static (ci_y (ci_Ms q.2.2)) ∈ ci_T ∧ (parseMethodDescriptor (ci_y (ci_Ms q.2.2)).desc).map (fun d => d.parameters.length) = some (ci_k (ci_Ms q.2.2))
def lp_V (q : Nat × Nat × Nat × Nat) : Prop := ci_okC ci_T (ci_Ms q.2.2.1) ∧ (∃ r, ci_cls[q.2.2.2]? = some r ∧ r.1 = (ci_y (ci_Ms q.2.2.1)).cls) ∧ ∃ n, ci_k (ci_Ms q.2.2.1) = n + 1 ∧ Jvm.Cond.methodLink (ci_cn q.1) q.2.1 (ci_y (ci_Ms q.2.2.1)) ∈ ci_T ∧ Jvm.Cond.instanceMethod (ci_y (ci_Ms q.2.2.1)) ∈ ci_T ∧ Jvm.Cond.selects (ci_y (ci_Ms q.2.2.1)).cls (ci_y (ci_Ms q.2.2.1)) (ci_y (ci_Ms q.2.2.1)) ∈ ci_T ∧ (parseMethodDescriptor (ci_y (ci_Ms q.2.2.1)).desc).map (fun d => d.parameters.length) = some n
def lp_I (q : Nat × Nat × Nat) : Prop := ci_okC ci_T (ci_Ms q.2.2) ∧ ci_t (ci_Ms q.2.2) = none ∧ (ci_y (ci_Ms q.2.2)).name = "<init>" ∧ ∃ n, ci_k (ci_Ms q.2.2) = n + 1 ∧ Jvm.Cond.methodLink (ci_cn q.1) q.2.1 (ci_y (ci_Ms q.2.2)) ∈ ci_T ∧ Jvm.Cond.instanceMethod (ci_y (ci_Ms q.2.2)) ∈ ci_T ∧ (parseMethodDescriptor (ci_y (ci_Ms q.2.2)).desc).map (fun d => d.parameters.length) = some n
def lp_N (q : Nat × Nat × Nat) : Prop := ci_okC ci_T (ci_Ms q.2.2) ∧ ci_t (ci_Ms q.2.2) = none ∧ (ci_y (ci_Ms q.2.2)).name = "<init>" ∧ ∃ n, ci_k (ci_Ms q.2.2) = n + 1 ∧ (ci_cn q.1, q.2.1, ci_y (ci_Ms q.2.2)) ∈ ci_nest ∧ Jvm.Cond.instanceMethod (ci_y (ci_Ms q.2.2)) ∈ ci_T ∧ (parseMethodDescriptor (ci_y (ci_Ms q.2.2)).desc).map (fun d => d.parameters.length) = some n
