theorem wd_857 : Jvm.Cond.methodLink RX0 30 yJ6_bitCount_0f7a4 ∈ ci_T := tb_4 (i := 48) rfl rfl
theorem wd_624 : Jvm.Cond.static yJ6_bitCount_0f7a4 ∈ ci_T := tb_3 (i := 55) rfl rfl
theorem ls_0_30 : lp_S (0, 30, 285) := by unfold lp_S; rw [ms_285]; exact ⟨mo_285, wd_857, wd_624, mk_285⟩
theorem wd_858 : Jvm.Cond.methodLink RX0 36 yJ6_highestOneBit_0f7a4 ∈ ci_T := tb_4 (i := 49) rfl rfl
theorem wd_756 : Jvm.Cond.static yJ6_highestOneBit_0f7a4 ∈ ci_T := tb_3 (i := 187) rfl rfl
theorem ls_0_36 : lp_S (0, 36, 282) := by unfold lp_S; rw [ms_282]; exact ⟨mo_282, wd_858, wd_756, mk_282⟩
theorem wd_859 : Jvm.Cond.methodLink RX0 39 yJ6_numberOfTrailingZeros_0f7a4 ∈ ci_T := tb_4 (i := 50) rfl rfl
theorem wd_860 : Jvm.Cond.static yJ6_numberOfTrailingZeros_0f7a4 ∈ ci_T := tb_4 (i := 51) rfl rfl
theorem ls_0_39 : lp_S (0, 39, 284) := by unfold lp_S; rw [ms_284]; exact ⟨mo_284, wd_859, wd_860, mk_284⟩
theorem wd_1015 : Jvm.Cond.methodLink RX3 26 yJ13_bitCount_95d88 ∈ ci_T := tb_4 (i := 206) rfl rfl
theorem wd_1016 : Jvm.Cond.static yJ13_bitCount_95d88 ∈ ci_T := tb_4 (i := 207) rfl rfl
theorem ls_3_26 : lp_S (3, 26, 286) := by unfold lp_S; rw [ms_286]; exact ⟨mo_286, wd_1015, wd_1016, mk_286⟩
theorem wd_620 : Jvm.Cond.methodLink RX4 32 yX4_letter ∈ ci_T := tb_3 (i := 51) rfl rfl
theorem wd_621 : Jvm.Cond.static yX4_letter ∈ ci_T := tb_3 (i := 52) rfl rfl
theorem ls_4_32 : lp_S (4, 32, 29) := by unfold lp_S; rw [ms_29]; exact ⟨mo_29, wd_620, wd_621, mk_29⟩
theorem wd_641 : Jvm.Cond.methodLink RX4 49 yX4_isOperation ∈ ci_T := tb_3 (i := 72) rfl rfl
theorem wd_642 : Jvm.Cond.static yX4_isOperation ∈ ci_T := tb_3 (i := 73) rfl rfl
theorem ls_4_49 : lp_S (4, 49, 27) := by unfold lp_S; rw [ms_27]; exact ⟨mo_27, wd_641, wd_642, mk_27⟩
theorem wd_644 : Jvm.Cond.methodLink RX4 53 yX4_operated ∈ ci_T := tb_3 (i := 75) rfl rfl
theorem wd_645 : Jvm.Cond.static yX4_operated ∈ ci_T := tb_3 (i := 76) rfl rfl
theorem ls_4_53 : lp_S (4, 53, 28) := by unfold lp_S; rw [ms_28]; exact ⟨mo_28, wd_644, wd_645, mk_28⟩
theorem wd_623 : Jvm.Cond.methodLink RX4 68 yJ6_bitCount_0f7a4 ∈ ci_T := tb_3 (i := 54) rfl rfl
theorem ls_4_68 : lp_S (4, 68, 285) := by unfold lp_S; rw [ms_285]; exact ⟨mo_285, wd_623, wd_624, mk_285⟩
theorem wd_698 : Jvm.Cond.methodLink RX10 71 yJ6_bitCount_0f7a4 ∈ ci_T := tb_3 (i := 129) rfl rfl
theorem ls_10_71 : lp_S (10, 71, 285) := by unfold lp_S; rw [ms_285]; exact ⟨mo_285, wd_698, wd_624, mk_285⟩
theorem wd_755 : Jvm.Cond.methodLink RX10 113 yJ6_highestOneBit_0f7a4 ∈ ci_T := tb_3 (i := 186) rfl rfl
theorem ls_10_113 : lp_S (10, 113, 282) := by unfold lp_S; rw [ms_282]; exact ⟨mo_282, wd_755, wd_756, mk_282⟩
theorem wd_659 : Jvm.Cond.methodLink RX11 234 yX11_sheetEntry ∈ ci_T := tb_3 (i := 90) rfl rfl
theorem wd_660 : Jvm.Cond.static yX11_sheetEntry ∈ ci_T := tb_3 (i := 91) rfl rfl
theorem ls_11_234 : lp_S (11, 234, 149) := by unfold lp_S; rw [ms_149]; exact ⟨mo_149, wd_659, wd_660, mk_149⟩
theorem wd_799 : Jvm.Cond.methodLink RX11 258 yJ6_bitCount_0f7a4 ∈ ci_T := tb_3 (i := 230) rfl rfl
theorem ls_11_258 : lp_S (11, 258, 285) := by unfold lp_S; rw [ms_285]; exact ⟨mo_285, wd_799, wd_624, mk_285⟩
theorem wd_959 : Jvm.Cond.methodLink RX11 346 yX11_fewerTraits ∈ ci_T := tb_4 (i := 150) rfl rfl
theorem wd_960 : Jvm.Cond.static yX11_fewerTraits ∈ ci_T := tb_4 (i := 151) rfl rfl
theorem ls_11_346 : lp_S (11, 346, 157) := by unfold lp_S; rw [ms_157]; exact ⟨mo_157, wd_959, wd_960, mk_157⟩
theorem wd_1069 : Jvm.Cond.methodLink RX11 381 yX11_power ∈ ci_T := tb_5 (i := 20) rfl rfl
theorem wd_1070 : Jvm.Cond.static yX11_power ∈ ci_T := tb_5 (i := 21) rfl rfl
theorem ls_11_381 : lp_S (11, 381, 160) := by unfold lp_S; rw [ms_160]; exact ⟨mo_160, wd_1069, wd_1070, mk_160⟩
theorem wd_1076 : Jvm.Cond.methodLink RX11 384 yX11_commonDivisor ∈ ci_T := tb_5 (i := 27) rfl rfl
theorem wd_1077 : Jvm.Cond.static yX11_commonDivisor ∈ ci_T := tb_5 (i := 28) rfl rfl
theorem ls_11_384 : lp_S (11, 384, 161) := by unfold lp_S; rw [ms_161]; exact ⟨mo_161, wd_1076, wd_1077, mk_161⟩
theorem wd_1097 : Jvm.Cond.methodLink RX11 395 yX11_stays ∈ ci_T := tb_5 (i := 48) rfl rfl
theorem wd_1098 : Jvm.Cond.static yX11_stays ∈ ci_T := tb_5 (i := 49) rfl rfl
theorem ls_11_395 : lp_S (11, 395, 164) := by unfold lp_S; rw [ms_164]; exact ⟨mo_164, wd_1097, wd_1098, mk_164⟩
theorem wd_1108 : Jvm.Cond.methodLink RX11 401 yX11_nextRandom ∈ ci_T := tb_5 (i := 59) rfl rfl
theorem wd_1109 : Jvm.Cond.static yX11_nextRandom ∈ ci_T := tb_5 (i := 60) rfl rfl
theorem ls_11_401 : lp_S (11, 401, 166) := by unfold lp_S; rw [ms_166]; exact ⟨mo_166, wd_1108, wd_1109, mk_166⟩
theorem wd_1112 : Jvm.Cond.methodLink RX11 404 yX11_drawn ∈ ci_T := tb_5 (i := 63) rfl rfl
theorem wd_1113 : Jvm.Cond.static yX11_drawn ∈ ci_T := tb_5 (i := 64) rfl rfl
theorem ls_11_404 : lp_S (11, 404, 167) := by unfold lp_S; rw [ms_167]; exact ⟨mo_167, wd_1112, wd_1113, mk_167⟩
theorem wd_1100 : Jvm.Cond.methodLink RX11 438 yX11_gain ∈ ci_T := tb_5 (i := 51) rfl rfl
theorem wd_1101 : Jvm.Cond.static yX11_gain ∈ ci_T := tb_5 (i := 52) rfl rfl
theorem ls_11_438 : lp_S (11, 438, 165) := by unfold lp_S; rw [ms_165]; exact ⟨mo_165, wd_1100, wd_1101, mk_165⟩
theorem wd_1368 : Jvm.Cond.methodLink RX12 89 yX12_in ∈ ci_T := tb_6 (i := 79) rfl rfl
theorem wd_1369 : Jvm.Cond.static yX12_in ∈ ci_T := tb_6 (i := 80) rfl rfl
theorem ls_12_89 : lp_S (12, 89, 170) := by unfold lp_S; rw [ms_170]; exact ⟨mo_170, wd_1368, wd_1369, mk_170⟩
theorem wd_1399 : Jvm.Cond.methodLink RX12 138 yJ6_bitCount_0f7a4 ∈ ci_T := tb_6 (i := 110) rfl rfl
theorem ls_12_138 : lp_S (12, 138, 285) := by unfold lp_S; rw [ms_285]; exact ⟨mo_285, wd_1399, wd_624, mk_285⟩
theorem wd_1404 : Jvm.Cond.methodLink RX12 144 yX12_has ∈ ci_T := tb_6 (i := 115) rfl rfl
theorem wd_1405 : Jvm.Cond.static yX12_has ∈ ci_T := tb_6 (i := 116) rfl rfl
theorem ls_12_144 : lp_S (12, 144, 171) := by unfold lp_S; rw [ms_171]; exact ⟨mo_171, wd_1404, wd_1405, mk_171⟩
theorem wd_1451 : Jvm.Cond.methodLink RX12 183 yX12_letterOf ∈ ci_T := tb_6 (i := 162) rfl rfl
theorem wd_1452 : Jvm.Cond.static yX12_letterOf ∈ ci_T := tb_6 (i := 163) rfl rfl
theorem ls_12_183 : lp_S (12, 183, 197) := by unfold lp_S; rw [ms_197]; exact ⟨mo_197, wd_1451, wd_1452, mk_197⟩
theorem wd_1556 : Jvm.Cond.methodLink RX12 243 yX12_lay ∈ ci_T := tb_7 (i := 27) rfl rfl
theorem wd_1557 : Jvm.Cond.static yX12_lay ∈ ci_T := tb_7 (i := 28) rfl rfl
theorem ls_12_243 : lp_S (12, 243, 216) := by unfold lp_S; rw [ms_216]; exact ⟨mo_216, wd_1556, wd_1557, mk_216⟩
theorem wd_1563 : Jvm.Cond.methodLink RX12 256 yX12_belong ∈ ci_T := tb_7 (i := 34) rfl rfl
theorem wd_1564 : Jvm.Cond.static yX12_belong ∈ ci_T := tb_7 (i := 35) rfl rfl
theorem ls_12_256 : lp_S (12, 256, 221) := by unfold lp_S; rw [ms_221]; exact ⟨mo_221, wd_1563, wd_1564, mk_221⟩
theorem wd_1699 : Jvm.Cond.methodLink RX12 319 yX12_isFewer ∈ ci_T := tb_7 (i := 170) rfl rfl
theorem wd_1700 : Jvm.Cond.static yX12_isFewer ∈ ci_T := tb_7 (i := 171) rfl rfl
theorem ls_12_319 : lp_S (12, 319, 254) := by unfold lp_S; rw [ms_254]; exact ⟨mo_254, wd_1699, wd_1700, mk_254⟩
theorem wd_1718 : Jvm.Cond.methodLink RX12 328 yX12_canPay ∈ ci_T := tb_7 (i := 189) rfl rfl
theorem wd_1719 : Jvm.Cond.static yX12_canPay ∈ ci_T := tb_7 (i := 190) rfl rfl
theorem ls_12_328 : lp_S (12, 328, 259) := by unfold lp_S; rw [ms_259]; exact ⟨mo_259, wd_1718, wd_1719, mk_259⟩
theorem wd_1721 : Jvm.Cond.methodLink RX12 331 yX12_paysUpTo ∈ ci_T := tb_7 (i := 192) rfl rfl
theorem wd_1722 : Jvm.Cond.static yX12_paysUpTo ∈ ci_T := tb_7 (i := 193) rfl rfl
theorem ls_12_331 : lp_S (12, 331, 260) := by unfold lp_S; rw [ms_260]; exact ⟨mo_260, wd_1721, wd_1722, mk_260⟩
theorem wd_1761 : Jvm.Cond.methodLink RX12 344 yX12_common ∈ ci_T := tb_7 (i := 232) rfl rfl
theorem wd_1762 : Jvm.Cond.static yX12_common ∈ ci_T := tb_7 (i := 233) rfl rfl
theorem ls_12_344 : lp_S (12, 344, 269) := by unfold lp_S; rw [ms_269]; exact ⟨mo_269, wd_1761, wd_1762, mk_269⟩
theorem wd_1777 : Jvm.Cond.methodLink RX12 364 yX12_gets ∈ ci_T := tb_8 (i := 8) rfl rfl
theorem wd_1778 : Jvm.Cond.static yX12_gets ∈ ci_T := tb_8 (i := 9) rfl rfl
theorem ls_12_364 : lp_S (12, 364, 273) := by unfold lp_S; rw [ms_273]; exact ⟨mo_273, wd_1777, wd_1778, mk_273⟩
theorem wd_1774 : Jvm.Cond.methodLink RX12 368 yX12_isBest ∈ ci_T := tb_8 (i := 5) rfl rfl
theorem wd_1775 : Jvm.Cond.static yX12_isBest ∈ ci_T := tb_8 (i := 6) rfl rfl
theorem ls_12_368 : lp_S (12, 368, 274) := by unfold lp_S; rw [ms_274]; exact ⟨mo_274, wd_1774, wd_1775, mk_274⟩
theorem wd_759 : Jvm.Cond.methodLink "java/lang/Integer" 51 yJ6_numberOfLeadingZeros_0f7a4 ∈ ci_T := tb_3 (i := 190) rfl rfl
theorem wd_760 : Jvm.Cond.static yJ6_numberOfLeadingZeros_0f7a4 ∈ ci_T := tb_3 (i := 191) rfl rfl
theorem ls_15_51 : lp_S (15, 51, 283) := by unfold lp_S; rw [ms_283]; exact ⟨mo_283, wd_759, wd_760, mk_283⟩
def lk_S_0 : List (Nat × Nat × Nat) := [(0, 30, 285), (0, 36, 282), (0, 39, 284), (3, 26, 286), (4, 32, 29), (4, 49, 27), (4, 53, 28), (4, 68, 285), (10, 71, 285), (10, 113, 282), (11, 234, 149), (11, 258, 285), (11, 346, 157), (11, 381, 160), (11, 384, 161), (11, 395, 164), (11, 401, 166), (11, 404, 167), (11, 438, 165), (12, 89, 170), (12, 138, 285), (12, 144, 171), (12, 183, 197), (12, 243, 216), (12, 256, 221)]
theorem lk_S_a0 : ∀ q ∈ lk_S_0, lp_S q := List.forall_mem_cons.mpr ⟨ls_0_30, List.forall_mem_cons.mpr ⟨ls_0_36, List.forall_mem_cons.mpr ⟨ls_0_39, List.forall_mem_cons.mpr ⟨ls_3_26, List.forall_mem_cons.mpr ⟨ls_4_32, List.forall_mem_cons.mpr ⟨ls_4_49, List.forall_mem_cons.mpr ⟨ls_4_53, List.forall_mem_cons.mpr ⟨ls_4_68, List.forall_mem_cons.mpr ⟨ls_10_71, List.forall_mem_cons.mpr ⟨ls_10_113, List.forall_mem_cons.mpr ⟨ls_11_234, List.forall_mem_cons.mpr ⟨ls_11_258, List.forall_mem_cons.mpr ⟨ls_11_346, List.forall_mem_cons.mpr ⟨ls_11_381, List.forall_mem_cons.mpr ⟨ls_11_384, List.forall_mem_cons.mpr ⟨ls_11_395, List.forall_mem_cons.mpr ⟨ls_11_401, List.forall_mem_cons.mpr ⟨ls_11_404, List.forall_mem_cons.mpr ⟨ls_11_438, List.forall_mem_cons.mpr ⟨ls_12_89, List.forall_mem_cons.mpr ⟨ls_12_138, List.forall_mem_cons.mpr ⟨ls_12_144, List.forall_mem_cons.mpr ⟨ls_12_183, List.forall_mem_cons.mpr ⟨ls_12_243, List.forall_mem_cons.mpr ⟨ls_12_256, fun _ h => absurd h List.not_mem_nil⟩⟩⟩⟩⟩⟩⟩⟩⟩⟩⟩⟩⟩⟩⟩⟩⟩⟩⟩⟩⟩⟩⟩⟩⟩
def lk_S_1 : List (Nat × Nat × Nat) := [(12, 319, 254), (12, 328, 259), (12, 331, 260), (12, 344, 269), (12, 364, 273), (12, 368, 274), (15, 51, 283)]
theorem lk_S_a1 : ∀ q ∈ lk_S_1, lp_S q := List.forall_mem_cons.mpr ⟨ls_12_319, List.forall_mem_cons.mpr ⟨ls_12_328, List.forall_mem_cons.mpr ⟨ls_12_331, List.forall_mem_cons.mpr ⟨ls_12_344, List.forall_mem_cons.mpr ⟨ls_12_364, List.forall_mem_cons.mpr ⟨ls_12_368, List.forall_mem_cons.mpr ⟨ls_15_51, fun _ h => absurd h List.not_mem_nil⟩⟩⟩⟩⟩⟩⟩
def lk_S : List (Nat × Nat × Nat) := lk_S_0 ++ (lk_S_1)
theorem lk_S_ok : ∀ q ∈ lk_S, lp_S q := fun q h => (List.mem_append.mp h).elim (lk_S_a0 q) ((lk_S_a1) q)
theorem wd_853 : Jvm.Cond.methodLink RX0 26 yX0_look ∈ ci_T := tb_4 (i := 44) rfl rfl
theorem wd_855 : Jvm.Cond.instanceMethod yX0_look ∈ ci_T := tb_4 (i := 46) rfl rfl
theorem wd_19 : Jvm.Cond.selects RX0 yX0_look yX0_look ∈ ci_T := pv_2 (i := 3) rfl rfl
theorem lv9_0_26 : lp_V (0, 26, 3, 0) := by unfold lp_V; rw [ms_3]; exact ⟨mo_3, ⟨_, rfl, rfl⟩, 3, rfl, wd_853, wd_855, wd_19, mk_3⟩
theorem wd_862 : Jvm.Cond.methodLink RX0 42 yX10_fits ∈ ci_T := tb_4 (i := 53) rfl rfl
theorem wd_701 : Jvm.Cond.instanceMethod yX10_fits ∈ ci_T := tb_3 (i := 132) rfl rfl
theorem wd_702 : Jvm.Cond.selects RX10 yX10_fits yX10_fits ∈ ci_T := tb_3 (i := 133) rfl rfl
theorem lv9_0_42 : lp_V (0, 42, 83, 10) := by unfold lp_V; rw [ms_83]; exact ⟨mo_83, ⟨_, rfl, rfl⟩, 2, rfl, wd_862, wd_701, wd_702, mk_83⟩
theorem wd_970 : Jvm.Cond.methodLink RX1 31 yX10_nobodys ∈ ci_T := tb_4 (i := 161) rfl rfl
theorem wd_872 : Jvm.Cond.instanceMethod yX10_nobodys ∈ ci_T := tb_4 (i := 63) rfl rfl
theorem wd_873 : Jvm.Cond.selects RX10 yX10_nobodys yX10_nobodys ∈ ci_T := tb_4 (i := 64) rfl rfl
theorem lv9_1_31 : lp_V (1, 31, 77, 10) := by unfold lp_V; rw [ms_77]; exact ⟨mo_77, ⟨_, rfl, rfl⟩, 0, rfl, wd_970, wd_872, wd_873, mk_77⟩
theorem wd_971 : Jvm.Cond.methodLink RX1 41 yX1_fillGains ∈ ci_T := tb_4 (i := 162) rfl rfl
theorem wd_973 : Jvm.Cond.instanceMethod yX1_fillGains ∈ ci_T := tb_4 (i := 164) rfl rfl
theorem wd_25 : Jvm.Cond.selects RX1 yX1_fillGains yX1_fillGains ∈ ci_T := pv_2 (i := 9) rfl rfl
theorem lv9_1_41 : lp_V (1, 41, 6, 1) := by unfold lp_V; rw [ms_6]; exact ⟨mo_6, ⟨_, rfl, rfl⟩, 2, rfl, wd_971, wd_973, wd_25, mk_6⟩
theorem wd_979 : Jvm.Cond.methodLink RX1 45 yX1_bestFrom ∈ ci_T := tb_4 (i := 170) rfl rfl
theorem wd_981 : Jvm.Cond.instanceMethod yX1_bestFrom ∈ ci_T := tb_4 (i := 172) rfl rfl
theorem wd_26 : Jvm.Cond.selects RX1 yX1_bestFrom yX1_bestFrom ∈ ci_T := pv_2 (i := 10) rfl rfl
theorem lv9_1_45 : lp_V (1, 45, 8, 1) := by unfold lp_V; rw [ms_8]; exact ⟨mo_8, ⟨_, rfl, rfl⟩, 2, rfl, wd_979, wd_981, wd_26, mk_8⟩
theorem wd_988 : Jvm.Cond.methodLink RX1 49 yX1_leastChoice ∈ ci_T := tb_4 (i := 179) rfl rfl
theorem wd_990 : Jvm.Cond.instanceMethod yX1_leastChoice ∈ ci_T := tb_4 (i := 181) rfl rfl
theorem wd_28 : Jvm.Cond.selects RX1 yX1_leastChoice yX1_leastChoice ∈ ci_T := pv_2 (i := 12) rfl rfl
theorem lv9_1_49 : lp_V (1, 49, 7, 1) := by unfold lp_V; rw [ms_7]; exact ⟨mo_7, ⟨_, rfl, rfl⟩, 3, rfl, wd_988, wd_990, wd_28, mk_7⟩
theorem wd_975 : Jvm.Cond.methodLink RX1 53 yX10_keptBy ∈ ci_T := tb_4 (i := 166) rfl rfl
theorem wd_634 : Jvm.Cond.instanceMethod yX10_keptBy ∈ ci_T := tb_3 (i := 65) rfl rfl
theorem wd_635 : Jvm.Cond.selects RX10 yX10_keptBy yX10_keptBy ∈ ci_T := tb_3 (i := 66) rfl rfl
theorem lv9_1_53 : lp_V (1, 53, 75, 10) := by unfold lp_V; rw [ms_75]; exact ⟨mo_75, ⟨_, rfl, rfl⟩, 1, rfl, wd_975, wd_634, wd_635, mk_75⟩
theorem wd_976 : Jvm.Cond.methodLink RX1 57 yX10_loadOf ∈ ci_T := tb_4 (i := 167) rfl rfl
theorem wd_695 : Jvm.Cond.instanceMethod yX10_loadOf ∈ ci_T := tb_3 (i := 126) rfl rfl
theorem wd_696 : Jvm.Cond.selects RX10 yX10_loadOf yX10_loadOf ∈ ci_T := tb_3 (i := 127) rfl rfl
theorem lv9_1_57 : lp_V (1, 57, 82, 10) := by unfold lp_V; rw [ms_82]; exact ⟨mo_82, ⟨_, rfl, rfl⟩, 1, rfl, wd_976, wd_695, wd_696, mk_82⟩
theorem wd_977 : Jvm.Cond.methodLink RX1 63 yX10_fits ∈ ci_T := tb_4 (i := 168) rfl rfl
theorem lv9_1_63 : lp_V (1, 63, 83, 10) := by unfold lp_V; rw [ms_83]; exact ⟨mo_83, ⟨_, rfl, rfl⟩, 2, rfl, wd_977, wd_701, wd_702, mk_83⟩
theorem wd_978 : Jvm.Cond.methodLink RX1 67 yX4_value ∈ ci_T := tb_4 (i := 169) rfl rfl
theorem wd_617 : Jvm.Cond.instanceMethod yX4_value ∈ ci_T := tb_3 (i := 48) rfl rfl
theorem wd_618 : Jvm.Cond.selects RX4 yX4_value yX4_value ∈ ci_T := tb_3 (i := 49) rfl rfl
theorem lv9_1_67 : lp_V (1, 67, 25, 4) := by unfold lp_V; rw [ms_25]; exact ⟨mo_25, ⟨_, rfl, rfl⟩, 3, rfl, wd_978, wd_617, wd_618, mk_25⟩
theorem wd_984 : Jvm.Cond.methodLink RX1 78 yX1_addThing ∈ ci_T := tb_4 (i := 175) rfl rfl
theorem wd_986 : Jvm.Cond.instanceMethod yX1_addThing ∈ ci_T := tb_4 (i := 177) rfl rfl
theorem wd_27 : Jvm.Cond.selects RX1 yX1_addThing yX1_addThing ∈ ci_T := pv_2 (i := 11) rfl rfl
theorem lv9_1_78 : lp_V (1, 78, 9, 1) := by unfold lp_V; rw [ms_9]; exact ⟨mo_9, ⟨_, rfl, rfl⟩, 3, rfl, wd_984, wd_986, wd_27, mk_9⟩
theorem wd_676 : Jvm.Cond.methodLink RX2 25 yX2_place ∈ ci_T := tb_3 (i := 107) rfl rfl
theorem wd_678 : Jvm.Cond.instanceMethod yX2_place ∈ ci_T := tb_3 (i := 109) rfl rfl
theorem wd_11 : Jvm.Cond.selects RX2 yX2_place yX2_place ∈ ci_T := pv_1 (i := 11) rfl rfl
theorem lv9_2_25 : lp_V (2, 25, 14, 2) := by unfold lp_V; rw [ms_14]; exact ⟨mo_14, ⟨_, rfl, rfl⟩, 1, rfl, wd_676, wd_678, wd_11, mk_14⟩
theorem wd_680 : Jvm.Cond.methodLink RX2 29 yX6_copy ∈ ci_T := tb_3 (i := 111) rfl rfl
theorem wd_681 : Jvm.Cond.instanceMethod yX6_copy ∈ ci_T := tb_3 (i := 112) rfl rfl
theorem wd_682 : Jvm.Cond.selects RX6 yX6_copy yX6_copy ∈ ci_T := tb_3 (i := 113) rfl rfl
theorem lv9_2_29 : lp_V (2, 29, 38, 6) := by unfold lp_V; rw [ms_38]; exact ⟨mo_38, ⟨_, rfl, rfl⟩, 1, rfl, wd_680, wd_681, wd_682, mk_38⟩
theorem wd_1011 : Jvm.Cond.methodLink RX3 22 yX3_mark ∈ ci_T := tb_4 (i := 202) rfl rfl
theorem wd_1013 : Jvm.Cond.instanceMethod yX3_mark ∈ ci_T := tb_4 (i := 204) rfl rfl
theorem wd_30 : Jvm.Cond.selects RX3 yX3_mark yX3_mark ∈ ci_T := pv_2 (i := 14) rfl rfl
theorem lv9_3_22 : lp_V (3, 22, 18, 3) := by unfold lp_V; rw [ms_18]; exact ⟨mo_18, ⟨_, rfl, rfl⟩, 2, rfl, wd_1011, wd_1013, wd_30, mk_18⟩
theorem wd_1025 : Jvm.Cond.methodLink RX3 32 yX3_isMarked ∈ ci_T := tb_4 (i := 216) rfl rfl
theorem wd_1027 : Jvm.Cond.instanceMethod yX3_isMarked ∈ ci_T := tb_4 (i := 218) rfl rfl
theorem wd_31 : Jvm.Cond.selects RX3 yX3_isMarked yX3_isMarked ∈ ci_T := pv_2 (i := 15) rfl rfl
theorem lv9_3_32 : lp_V (3, 32, 19, 3) := by unfold lp_V; rw [ms_19]; exact ⟨mo_19, ⟨_, rfl, rfl⟩, 1, rfl, wd_1025, wd_1027, wd_31, mk_19⟩
theorem wd_582 : Jvm.Cond.methodLink RX4 28 yX4_addPart ∈ ci_T := tb_3 (i := 13) rfl rfl
theorem wd_584 : Jvm.Cond.instanceMethod yX4_addPart ∈ ci_T := tb_3 (i := 15) rfl rfl
theorem wd_8 : Jvm.Cond.selects RX4 yX4_addPart yX4_addPart ∈ ci_T := pv_1 (i := 8) rfl rfl
theorem lv9_4_28 : lp_V (4, 28, 24, 4) := by unfold lp_V; rw [ms_24]; exact ⟨mo_24, ⟨_, rfl, rfl⟩, 1, rfl, wd_582, wd_584, wd_8, mk_24⟩
theorem wd_637 : Jvm.Cond.methodLink RX4 36 yX4_computed ∈ ci_T := tb_3 (i := 68) rfl rfl
theorem wd_639 : Jvm.Cond.instanceMethod yX4_computed ∈ ci_T := tb_3 (i := 70) rfl rfl
theorem wd_9 : Jvm.Cond.selects RX4 yX4_computed yX4_computed ∈ ci_T := pv_1 (i := 9) rfl rfl
theorem lv9_4_36 : lp_V (4, 36, 26, 4) := by unfold lp_V; rw [ms_26]; exact ⟨mo_26, ⟨_, rfl, rfl⟩, 3, rfl, wd_637, wd_639, wd_9, mk_26⟩
theorem wd_629 : Jvm.Cond.methodLink RX4 74 yX10_kindsOf ∈ ci_T := tb_3 (i := 60) rfl rfl
theorem wd_630 : Jvm.Cond.instanceMethod yX10_kindsOf ∈ ci_T := tb_3 (i := 61) rfl rfl
theorem wd_631 : Jvm.Cond.selects RX10 yX10_kindsOf yX10_kindsOf ∈ ci_T := tb_3 (i := 62) rfl rfl
theorem lv9_4_74 : lp_V (4, 74, 73, 10) := by unfold lp_V; rw [ms_73]; exact ⟨mo_73, ⟨_, rfl, rfl⟩, 1, rfl, wd_629, wd_630, wd_631, mk_73⟩
theorem wd_633 : Jvm.Cond.methodLink RX4 77 yX10_keptBy ∈ ci_T := tb_3 (i := 64) rfl rfl
theorem lv9_4_77 : lp_V (4, 77, 75, 10) := by unfold lp_V; rw [ms_75]; exact ⟨mo_75, ⟨_, rfl, rfl⟩, 1, rfl, wd_633, wd_634, wd_635, mk_75⟩
theorem wd_551 : Jvm.Cond.methodLink RX5 22 yX9_open ∈ ci_T := tb_2 (i := 222) rfl rfl
theorem wd_485 : Jvm.Cond.instanceMethod yX9_open ∈ ci_T := tb_2 (i := 156) rfl rfl
theorem wd_486 : Jvm.Cond.selects RX9 yX9_open yX9_open ∈ ci_T := tb_2 (i := 157) rfl rfl
theorem lv9_5_22 : lp_V (5, 22, 52, 9) := by unfold lp_V; rw [ms_52]; exact ⟨mo_52, ⟨_, rfl, rfl⟩, 1, rfl, wd_551, wd_485, wd_486, mk_52⟩
theorem wd_552 : Jvm.Cond.methodLink RX5 32 yX5_readsExpression ∈ ci_T := tb_2 (i := 223) rfl rfl
theorem wd_554 : Jvm.Cond.instanceMethod yX5_readsExpression ∈ ci_T := tb_2 (i := 225) rfl rfl
theorem wd_3 : Jvm.Cond.selects RX5 yX5_readsExpression yX5_readsExpression ∈ ci_T := pv_1 (i := 3) rfl rfl
theorem lv9_5_32 : lp_V (5, 32, 32, 5) := by unfold lp_V; rw [ms_32]; exact ⟨mo_32, ⟨_, rfl, rfl⟩, 1, rfl, wd_552, wd_554, wd_3, mk_32⟩
theorem wd_595 : Jvm.Cond.methodLink RX5 36 yX9_ended ∈ ci_T := tb_3 (i := 26) rfl rfl
theorem wd_512 : Jvm.Cond.instanceMethod yX9_ended ∈ ci_T := tb_2 (i := 183) rfl rfl
theorem wd_513 : Jvm.Cond.selects RX9 yX9_ended yX9_ended ∈ ci_T := tb_2 (i := 184) rfl rfl
theorem lv9_5_36 : lp_V (5, 36, 55, 9) := by unfold lp_V; rw [ms_55]; exact ⟨mo_55, ⟨_, rfl, rfl⟩, 0, rfl, wd_595, wd_512, wd_513, mk_55⟩
theorem wd_596 : Jvm.Cond.methodLink RX5 40 yX9_fault ∈ ci_T := tb_3 (i := 27) rfl rfl
theorem wd_516 : Jvm.Cond.instanceMethod yX9_fault ∈ ci_T := tb_2 (i := 187) rfl rfl
theorem wd_517 : Jvm.Cond.selects RX9 yX9_fault yX9_fault ∈ ci_T := tb_2 (i := 188) rfl rfl
theorem lv9_5_40 : lp_V (5, 40, 56, 9) := by unfold lp_V; rw [ms_56]; exact ⟨mo_56, ⟨_, rfl, rfl⟩, 0, rfl, wd_596, wd_516, wd_517, mk_56⟩
theorem wd_556 : Jvm.Cond.methodLink RX5 44 yX5_readsSum ∈ ci_T := tb_2 (i := 227) rfl rfl
theorem wd_558 : Jvm.Cond.instanceMethod yX5_readsSum ∈ ci_T := tb_2 (i := 229) rfl rfl
theorem wd_4 : Jvm.Cond.selects RX5 yX5_readsSum yX5_readsSum ∈ ci_T := pv_1 (i := 4) rfl rfl
theorem lv9_5_44 : lp_V (5, 44, 33, 5) := by unfold lp_V; rw [ms_33]; exact ⟨mo_33, ⟨_, rfl, rfl⟩, 1, rfl, wd_556, wd_558, wd_4, mk_33⟩
theorem wd_586 : Jvm.Cond.methodLink RX5 47 yX9_peek ∈ ci_T := tb_3 (i := 17) rfl rfl
theorem wd_500 : Jvm.Cond.instanceMethod yX9_peek ∈ ci_T := tb_2 (i := 171) rfl rfl
theorem wd_501 : Jvm.Cond.selects RX9 yX9_peek yX9_peek ∈ ci_T := tb_2 (i := 172) rfl rfl
theorem lv9_5_47 : lp_V (5, 47, 53, 9) := by unfold lp_V; rw [ms_53]; exact ⟨mo_53, ⟨_, rfl, rfl⟩, 0, rfl, wd_586, wd_500, wd_501, mk_53⟩
theorem wd_587 : Jvm.Cond.methodLink RX5 50 yX9_step ∈ ci_T := tb_3 (i := 18) rfl rfl
theorem wd_588 : Jvm.Cond.instanceMethod yX9_step ∈ ci_T := tb_3 (i := 19) rfl rfl
theorem wd_589 : Jvm.Cond.selects RX9 yX9_step yX9_step ∈ ci_T := tb_3 (i := 20) rfl rfl
theorem lv9_5_50 : lp_V (5, 50, 54, 9) := by unfold lp_V; rw [ms_54]; exact ⟨mo_54, ⟨_, rfl, rfl⟩, 0, rfl, wd_587, wd_588, wd_589, mk_54⟩
theorem wd_591 : Jvm.Cond.methodLink RX5 53 yX4_addSign ∈ ci_T := tb_3 (i := 22) rfl rfl
theorem wd_592 : Jvm.Cond.instanceMethod yX4_addSign ∈ ci_T := tb_3 (i := 23) rfl rfl
theorem wd_593 : Jvm.Cond.selects RX4 yX4_addSign yX4_addSign ∈ ci_T := tb_3 (i := 24) rfl rfl
theorem lv9_5_53 : lp_V (5, 53, 23, 4) := by unfold lp_V; rw [ms_23]; exact ⟨mo_23, ⟨_, rfl, rfl⟩, 1, rfl, wd_591, wd_592, wd_593, mk_23⟩
theorem wd_560 : Jvm.Cond.methodLink RX5 56 yX5_readsProduct ∈ ci_T := tb_2 (i := 231) rfl rfl
theorem wd_562 : Jvm.Cond.instanceMethod yX5_readsProduct ∈ ci_T := tb_2 (i := 233) rfl rfl
theorem wd_5 : Jvm.Cond.selects RX5 yX5_readsProduct yX5_readsProduct ∈ ci_T := pv_1 (i := 5) rfl rfl
theorem lv9_5_56 : lp_V (5, 56, 34, 5) := by unfold lp_V; rw [ms_34]; exact ⟨mo_34, ⟨_, rfl, rfl⟩, 1, rfl, wd_560, wd_562, wd_5, mk_34⟩
theorem wd_564 : Jvm.Cond.methodLink RX5 59 yX5_readsSigned ∈ ci_T := tb_2 (i := 235) rfl rfl
theorem wd_566 : Jvm.Cond.instanceMethod yX5_readsSigned ∈ ci_T := tb_2 (i := 237) rfl rfl
theorem wd_6 : Jvm.Cond.selects RX5 yX5_readsSigned yX5_readsSigned ∈ ci_T := pv_1 (i := 6) rfl rfl
theorem lv9_5_59 : lp_V (5, 59, 35, 5) := by unfold lp_V; rw [ms_35]; exact ⟨mo_35, ⟨_, rfl, rfl⟩, 1, rfl, wd_564, wd_566, wd_6, mk_35⟩
theorem wd_568 : Jvm.Cond.methodLink RX5 62 yX9_takes ∈ ci_T := tb_2 (i := 239) rfl rfl
theorem wd_504 : Jvm.Cond.instanceMethod yX9_takes ∈ ci_T := tb_2 (i := 175) rfl rfl
theorem wd_505 : Jvm.Cond.selects RX9 yX9_takes yX9_takes ∈ ci_T := tb_2 (i := 176) rfl rfl
theorem lv9_5_62 : lp_V (5, 62, 57, 9) := by unfold lp_V; rw [ms_57]; exact ⟨mo_57, ⟨_, rfl, rfl⟩, 1, rfl, wd_568, wd_504, wd_505, mk_57⟩
theorem wd_569 : Jvm.Cond.methodLink RX5 65 yX5_readsThing ∈ ci_T := tb_3 (i := 0) rfl rfl
theorem wd_571 : Jvm.Cond.instanceMethod yX5_readsThing ∈ ci_T := tb_3 (i := 2) rfl rfl
theorem wd_7 : Jvm.Cond.selects RX5 yX5_readsThing yX5_readsThing ∈ ci_T := pv_1 (i := 7) rfl rfl
theorem lv9_5_65 : lp_V (5, 65, 36, 5) := by unfold lp_V; rw [ms_36]; exact ⟨mo_36, ⟨_, rfl, rfl⟩, 1, rfl, wd_569, wd_571, wd_7, mk_36⟩
theorem wd_573 : Jvm.Cond.methodLink RX5 68 yX9_number ∈ ci_T := tb_3 (i := 4) rfl rfl
theorem wd_574 : Jvm.Cond.instanceMethod yX9_number ∈ ci_T := tb_3 (i := 5) rfl rfl
theorem wd_575 : Jvm.Cond.selects RX9 yX9_number yX9_number ∈ ci_T := tb_3 (i := 6) rfl rfl
theorem lv9_5_68 : lp_V (5, 68, 60, 9) := by unfold lp_V; rw [ms_60]; exact ⟨mo_60, ⟨_, rfl, rfl⟩, 1, rfl, wd_573, wd_574, wd_575, mk_60⟩
theorem wd_578 : Jvm.Cond.methodLink RX5 72 yX4_addNumber ∈ ci_T := tb_3 (i := 9) rfl rfl
theorem wd_579 : Jvm.Cond.instanceMethod yX4_addNumber ∈ ci_T := tb_3 (i := 10) rfl rfl
theorem wd_580 : Jvm.Cond.selects RX4 yX4_addNumber yX4_addNumber ∈ ci_T := tb_3 (i := 11) rfl rfl
theorem lv9_5_72 : lp_V (5, 72, 22, 4) := by unfold lp_V; rw [ms_22]; exact ⟨mo_22, ⟨_, rfl, rfl⟩, 1, rfl, wd_578, wd_579, wd_580, mk_22⟩
theorem wd_923 : Jvm.Cond.methodLink RX7 29 yX7_list ∈ ci_T := tb_4 (i := 114) rfl rfl
theorem wd_925 : Jvm.Cond.instanceMethod yX7_list ∈ ci_T := tb_4 (i := 116) rfl rfl
theorem wd_22 : Jvm.Cond.selects RX7 yX7_list yX7_list ∈ ci_T := pv_2 (i := 6) rfl rfl
theorem lv9_7_29 : lp_V (7, 29, 41, 7) := by unfold lp_V; rw [ms_41]; exact ⟨mo_41, ⟨_, rfl, rfl⟩, 1, rfl, wd_923, wd_925, wd_22, mk_41⟩
theorem wd_927 : Jvm.Cond.methodLink RX7 38 yX10_keptBy ∈ ci_T := tb_4 (i := 118) rfl rfl
theorem lv9_7_38 : lp_V (7, 38, 75, 10) := by unfold lp_V; rw [ms_75]; exact ⟨mo_75, ⟨_, rfl, rfl⟩, 1, rfl, wd_927, wd_634, wd_635, mk_75⟩
theorem wd_928 : Jvm.Cond.methodLink RX7 42 yX10_brokenIn ∈ ci_T := tb_4 (i := 119) rfl rfl
theorem wd_730 : Jvm.Cond.instanceMethod yX10_brokenIn ∈ ci_T := tb_3 (i := 161) rfl rfl
theorem wd_731 : Jvm.Cond.selects RX10 yX10_brokenIn yX10_brokenIn ∈ ci_T := tb_3 (i := 162) rfl rfl
theorem lv9_7_42 : lp_V (7, 42, 80, 10) := by unfold lp_V; rw [ms_80]; exact ⟨mo_80, ⟨_, rfl, rfl⟩, 1, rfl, wd_928, wd_730, wd_731, mk_80⟩
theorem wd_929 : Jvm.Cond.methodLink RX7 45 yX10_loadOf ∈ ci_T := tb_4 (i := 120) rfl rfl
theorem lv9_7_45 : lp_V (7, 45, 82, 10) := by unfold lp_V; rw [ms_82]; exact ⟨mo_82, ⟨_, rfl, rfl⟩, 1, rfl, wd_929, wd_695, wd_696, mk_82⟩
theorem wd_930 : Jvm.Cond.methodLink RX7 48 yX7_placesFrom ∈ ci_T := tb_4 (i := 121) rfl rfl
theorem wd_932 : Jvm.Cond.instanceMethod yX7_placesFrom ∈ ci_T := tb_4 (i := 123) rfl rfl
theorem wd_23 : Jvm.Cond.selects RX7 yX7_placesFrom yX7_placesFrom ∈ ci_T := pv_2 (i := 7) rfl rfl
theorem lv9_7_48 : lp_V (7, 48, 42, 7) := by unfold lp_V; rw [ms_42]; exact ⟨mo_42, ⟨_, rfl, rfl⟩, 2, rfl, wd_930, wd_932, wd_23, mk_42⟩
theorem wd_934 : Jvm.Cond.methodLink RX7 64 yX10_fits ∈ ci_T := tb_4 (i := 125) rfl rfl
theorem lv9_7_64 : lp_V (7, 64, 83, 10) := by unfold lp_V; rw [ms_83]; exact ⟨mo_83, ⟨_, rfl, rfl⟩, 2, rfl, wd_934, wd_701, wd_702, mk_83⟩
theorem wd_484 : Jvm.Cond.methodLink RX8 25 yX9_open ∈ ci_T := tb_2 (i := 155) rfl rfl
theorem lv9_8_25 : lp_V (8, 25, 52, 9) := by unfold lp_V; rw [ms_52]; exact ⟨mo_52, ⟨_, rfl, rfl⟩, 1, rfl, wd_484, wd_485, wd_486, mk_52⟩
theorem wd_491 : Jvm.Cond.methodLink RX8 31 yX8_readsThing ∈ ci_T := tb_2 (i := 162) rfl rfl
theorem wd_493 : Jvm.Cond.instanceMethod yX8_readsThing ∈ ci_T := tb_2 (i := 164) rfl rfl
theorem wd_1 : Jvm.Cond.selects RX8 yX8_readsThing yX8_readsThing ∈ ci_T := pv_1 (i := 1) rfl rfl
theorem lv9_8_31 : lp_V (8, 31, 47, 8) := by unfold lp_V; rw [ms_47]; exact ⟨mo_47, ⟨_, rfl, rfl⟩, 2, rfl, wd_491, wd_493, wd_1, mk_47⟩
theorem wd_503 : Jvm.Cond.methodLink RX8 35 yX9_takes ∈ ci_T := tb_2 (i := 174) rfl rfl
theorem lv9_8_35 : lp_V (8, 35, 57, 9) := by unfold lp_V; rw [ms_57]; exact ⟨mo_57, ⟨_, rfl, rfl⟩, 1, rfl, wd_503, wd_504, wd_505, mk_57⟩
theorem wd_511 : Jvm.Cond.methodLink RX8 39 yX9_ended ∈ ci_T := tb_2 (i := 182) rfl rfl
theorem lv9_8_39 : lp_V (8, 39, 55, 9) := by unfold lp_V; rw [ms_55]; exact ⟨mo_55, ⟨_, rfl, rfl⟩, 0, rfl, wd_511, wd_512, wd_513, mk_55⟩
theorem wd_515 : Jvm.Cond.methodLink RX8 43 yX9_fault ∈ ci_T := tb_2 (i := 186) rfl rfl
theorem lv9_8_43 : lp_V (8, 43, 56, 9) := by unfold lp_V; rw [ms_56]; exact ⟨mo_56, ⟨_, rfl, rfl⟩, 0, rfl, wd_515, wd_516, wd_517, mk_56⟩
theorem wd_535 : Jvm.Cond.methodLink RX8 47 yX8_readsKind ∈ ci_T := tb_2 (i := 206) rfl rfl
theorem wd_537 : Jvm.Cond.instanceMethod yX8_readsKind ∈ ci_T := tb_2 (i := 208) rfl rfl
theorem wd_2 : Jvm.Cond.selects RX8 yX8_readsKind yX8_readsKind ∈ ci_T := pv_1 (i := 2) rfl rfl
theorem lv9_8_47 : lp_V (8, 47, 48, 8) := by unfold lp_V; rw [ms_48]; exact ⟨mo_48, ⟨_, rfl, rfl⟩, 1, rfl, wd_535, wd_537, wd_2, mk_48⟩
theorem wd_808 : Jvm.Cond.methodLink RX8 50 yX8_readsAct ∈ ci_T := tb_3 (i := 239) rfl rfl
theorem wd_810 : Jvm.Cond.instanceMethod yX8_readsAct ∈ ci_T := tb_4 (i := 1) rfl rfl
theorem wd_17 : Jvm.Cond.selects RX8 yX8_readsAct yX8_readsAct ∈ ci_T := pv_2 (i := 1) rfl rfl
theorem lv9_8_50 : lp_V (8, 50, 49, 8) := by unfold lp_V; rw [ms_49]; exact ⟨mo_49, ⟨_, rfl, rfl⟩, 1, rfl, wd_808, wd_810, wd_17, mk_49⟩
theorem wd_495 : Jvm.Cond.methodLink RX8 53 yX9_letters ∈ ci_T := tb_2 (i := 166) rfl rfl
theorem wd_496 : Jvm.Cond.instanceMethod yX9_letters ∈ ci_T := tb_2 (i := 167) rfl rfl
theorem wd_497 : Jvm.Cond.selects RX9 yX9_letters yX9_letters ∈ ci_T := tb_2 (i := 168) rfl rfl
theorem lv9_8_53 : lp_V (8, 53, 59, 9) := by unfold lp_V; rw [ms_59]; exact ⟨mo_59, ⟨_, rfl, rfl⟩, 1, rfl, wd_495, wd_496, wd_497, mk_59⟩
theorem wd_507 : Jvm.Cond.methodLink RX8 57 yX9_oneOf ∈ ci_T := tb_2 (i := 178) rfl rfl
theorem wd_508 : Jvm.Cond.instanceMethod yX9_oneOf ∈ ci_T := tb_2 (i := 179) rfl rfl
theorem wd_509 : Jvm.Cond.selects RX9 yX9_oneOf yX9_oneOf ∈ ci_T := tb_2 (i := 180) rfl rfl
theorem lv9_8_57 : lp_V (8, 57, 58, 9) := by unfold lp_V; rw [ms_58]; exact ⟨mo_58, ⟨_, rfl, rfl⟩, 2, rfl, wd_507, wd_508, wd_509, mk_58⟩
theorem wd_812 : Jvm.Cond.methodLink RX8 61 yX9_peek ∈ ci_T := tb_4 (i := 3) rfl rfl
theorem lv9_8_61 : lp_V (8, 61, 53, 9) := by unfold lp_V; rw [ms_53]; exact ⟨mo_53, ⟨_, rfl, rfl⟩, 0, rfl, wd_812, wd_500, wd_501, mk_53⟩
theorem wd_813 : Jvm.Cond.methodLink RX8 64 yX9_step ∈ ci_T := tb_4 (i := 4) rfl rfl
theorem lv9_8_64 : lp_V (8, 64, 54, 9) := by unfold lp_V; rw [ms_54]; exact ⟨mo_54, ⟨_, rfl, rfl⟩, 0, rfl, wd_813, wd_588, wd_589, mk_54⟩
theorem wd_814 : Jvm.Cond.methodLink RX8 67 yX9_number ∈ ci_T := tb_4 (i := 5) rfl rfl
theorem lv9_8_67 : lp_V (8, 67, 60, 9) := by unfold lp_V; rw [ms_60]; exact ⟨mo_60, ⟨_, rfl, rfl⟩, 1, rfl, wd_814, wd_574, wd_575, mk_60⟩
theorem wd_499 : Jvm.Cond.methodLink RX9 31 yX9_peek ∈ ci_T := tb_2 (i := 170) rfl rfl
theorem lv9_9_31 : lp_V (9, 31, 53, 9) := by unfold lp_V; rw [ms_53]; exact ⟨mo_53, ⟨_, rfl, rfl⟩, 0, rfl, wd_499, wd_500, wd_501, mk_53⟩
theorem wd_577 : Jvm.Cond.methodLink RX9 35 yX9_oneOf ∈ ci_T := tb_3 (i := 8) rfl rfl
theorem lv9_9_35 : lp_V (9, 35, 58, 9) := by unfold lp_V; rw [ms_58]; exact ⟨mo_58, ⟨_, rfl, rfl⟩, 2, rfl, wd_577, wd_508, wd_509, mk_58⟩
theorem wd_162 : Jvm.Cond.methodLink RX10 44 yX10_settle ∈ ci_T := tb_1 (i := 73) rfl rfl
theorem wd_163 : Jvm.Cond.instanceMethod yX10_settle ∈ ci_T := tb_1 (i := 74) rfl rfl
theorem wd_164 : Jvm.Cond.selects RX10 yX10_settle yX10_settle ∈ ci_T := tb_1 (i := 75) rfl rfl
theorem lv9_10_44 : lp_V (10, 44, 68, 10) := by unfold lp_V; rw [ms_68]; exact ⟨mo_68, ⟨_, rfl, rfl⟩, 1, rfl, wd_162, wd_163, wd_164, mk_68⟩
theorem wd_523 : Jvm.Cond.methodLink RX10 68 yX10_sortThings ∈ ci_T := tb_2 (i := 194) rfl rfl
theorem wd_524 : Jvm.Cond.instanceMethod yX10_sortThings ∈ ci_T := tb_2 (i := 195) rfl rfl
theorem wd_525 : Jvm.Cond.selects RX10 yX10_sortThings yX10_sortThings ∈ ci_T := tb_2 (i := 196) rfl rfl
theorem lv9_10_68 : lp_V (10, 68, 71, 10) := by unfold lp_V; rw [ms_71]; exact ⟨mo_71, ⟨_, rfl, rfl⟩, 0, rfl, wd_523, wd_524, wd_525, mk_71⟩
theorem wd_875 : Jvm.Cond.methodLink RX10 77 yX10_ownedBy ∈ ci_T := tb_4 (i := 66) rfl rfl
theorem wd_876 : Jvm.Cond.instanceMethod yX10_ownedBy ∈ ci_T := tb_4 (i := 67) rfl rfl
theorem wd_877 : Jvm.Cond.selects RX10 yX10_ownedBy yX10_ownedBy ∈ ci_T := tb_4 (i := 68) rfl rfl
theorem lv9_10_77 : lp_V (10, 77, 76, 10) := by unfold lp_V; rw [ms_76]; exact ⟨mo_76, ⟨_, rfl, rfl⟩, 1, rfl, wd_875, wd_876, wd_877, mk_76⟩
theorem wd_715 : Jvm.Cond.methodLink RX10 80 yX10_isLent ∈ ci_T := tb_3 (i := 146) rfl rfl
theorem wd_716 : Jvm.Cond.instanceMethod yX10_isLent ∈ ci_T := tb_3 (i := 147) rfl rfl
theorem wd_717 : Jvm.Cond.selects RX10 yX10_isLent yX10_isLent ∈ ci_T := tb_3 (i := 148) rfl rfl
theorem lv9_10_80 : lp_V (10, 80, 66, 10) := by unfold lp_V; rw [ms_66]; exact ⟨mo_66, ⟨_, rfl, rfl⟩, 1, rfl, wd_715, wd_716, wd_717, mk_66⟩
theorem wd_728 : Jvm.Cond.methodLink RX10 91 yX10_keptBy ∈ ci_T := tb_3 (i := 159) rfl rfl
theorem lv9_10_91 : lp_V (10, 91, 75, 10) := by unfold lp_V; rw [ms_75]; exact ⟨mo_75, ⟨_, rfl, rfl⟩, 1, rfl, wd_728, wd_634, wd_635, mk_75⟩
theorem wd_729 : Jvm.Cond.methodLink RX10 94 yX10_brokenIn ∈ ci_T := tb_3 (i := 160) rfl rfl
theorem lv9_10_94 : lp_V (10, 94, 80, 10) := by unfold lp_V; rw [ms_80]; exact ⟨mo_80, ⟨_, rfl, rfl⟩, 1, rfl, wd_729, wd_730, wd_731, mk_80⟩
theorem wd_713 : Jvm.Cond.methodLink RX10 97 yX10_hasThing ∈ ci_T := tb_3 (i := 144) rfl rfl
theorem wd_609 : Jvm.Cond.instanceMethod yX10_hasThing ∈ ci_T := tb_3 (i := 40) rfl rfl
theorem wd_610 : Jvm.Cond.selects RX10 yX10_hasThing yX10_hasThing ∈ ci_T := tb_3 (i := 41) rfl rfl
theorem lv9_10_97 : lp_V (10, 97, 63, 10) := by unfold lp_V; rw [ms_63]; exact ⟨mo_63, ⟨_, rfl, rfl⟩, 1, rfl, wd_713, wd_609, wd_610, mk_63⟩
theorem wd_714 : Jvm.Cond.methodLink RX10 100 yX10_hasHouse ∈ ci_T := tb_3 (i := 145) rfl rfl
theorem wd_613 : Jvm.Cond.instanceMethod yX10_hasHouse ∈ ci_T := tb_3 (i := 44) rfl rfl
theorem wd_614 : Jvm.Cond.selects RX10 yX10_hasHouse yX10_hasHouse ∈ ci_T := tb_3 (i := 45) rfl rfl
theorem lv9_10_100 : lp_V (10, 100, 62, 10) := by unfold lp_V; rw [ms_62]; exact ⟨mo_62, ⟨_, rfl, rfl⟩, 1, rfl, wd_714, wd_613, wd_614, mk_62⟩
theorem wd_719 : Jvm.Cond.methodLink RX10 103 yX10_hand ∈ ci_T := tb_3 (i := 150) rfl rfl
theorem wd_706 : Jvm.Cond.instanceMethod yX10_hand ∈ ci_T := tb_3 (i := 137) rfl rfl
theorem wd_707 : Jvm.Cond.selects RX10 yX10_hand yX10_hand ∈ ci_T := tb_3 (i := 138) rfl rfl
theorem lv9_10_103 : lp_V (10, 103, 85, 10) := by unfold lp_V; rw [ms_85]; exact ⟨mo_85, ⟨_, rfl, rfl⟩, 2, rfl, wd_719, wd_706, wd_707, mk_85⟩
theorem wd_733 : Jvm.Cond.methodLink RX10 107 yX10_kindsOf ∈ ci_T := tb_3 (i := 164) rfl rfl
theorem lv9_10_107 : lp_V (10, 107, 73, 10) := by unfold lp_V; rw [ms_73]; exact ⟨mo_73, ⟨_, rfl, rfl⟩, 1, rfl, wd_733, wd_630, wd_631, mk_73⟩
theorem wd_747 : Jvm.Cond.methodLink RX10 116 yX10_visited ∈ ci_T := tb_3 (i := 178) rfl rfl
theorem wd_748 : Jvm.Cond.instanceMethod yX10_visited ∈ ci_T := tb_3 (i := 179) rfl rfl
theorem wd_749 : Jvm.Cond.selects RX10 yX10_visited yX10_visited ∈ ci_T := tb_3 (i := 180) rfl rfl
theorem lv9_10_116 : lp_V (10, 116, 90, 10) := by unfold lp_V; rw [ms_90]; exact ⟨mo_90, ⟨_, rfl, rfl⟩, 0, rfl, wd_747, wd_748, wd_749, mk_90⟩
theorem wd_751 : Jvm.Cond.methodLink RX10 120 yX10_seizedFrom ∈ ci_T := tb_3 (i := 182) rfl rfl
theorem wd_752 : Jvm.Cond.instanceMethod yX10_seizedFrom ∈ ci_T := tb_3 (i := 183) rfl rfl
theorem wd_753 : Jvm.Cond.selects RX10 yX10_seizedFrom yX10_seizedFrom ∈ ci_T := tb_3 (i := 184) rfl rfl
theorem lv9_10_120 : lp_V (10, 120, 91, 10) := by unfold lp_V; rw [ms_91]; exact ⟨mo_91, ⟨_, rfl, rfl⟩, 1, rfl, wd_751, wd_752, wd_753, mk_91⟩
theorem wd_743 : Jvm.Cond.methodLink RX10 126 yX10_passHour ∈ ci_T := tb_3 (i := 174) rfl rfl
theorem wd_744 : Jvm.Cond.instanceMethod yX10_passHour ∈ ci_T := tb_3 (i := 175) rfl rfl
theorem wd_745 : Jvm.Cond.selects RX10 yX10_passHour yX10_passHour ∈ ci_T := tb_3 (i := 176) rfl rfl
theorem lv9_10_126 : lp_V (10, 126, 92, 10) := by unfold lp_V; rw [ms_92]; exact ⟨mo_92, ⟨_, rfl, rfl⟩, 0, rfl, wd_743, wd_744, wd_745, mk_92⟩
theorem wd_455 : Jvm.Cond.methodLink RX11 124 yX9_append ∈ ci_T := tb_2 (i := 126) rfl rfl
theorem wd_456 : Jvm.Cond.instanceMethod yX9_append ∈ ci_T := tb_2 (i := 127) rfl rfl
theorem wd_457 : Jvm.Cond.selects RX9 yX9_append yX9_append ∈ ci_T := tb_2 (i := 128) rfl rfl
theorem lv9_11_124 : lp_V (11, 124, 51, 9) := by unfold lp_V; rw [ms_51]; exact ⟨mo_51, ⟨_, rfl, rfl⟩, 1, rfl, wd_455, wd_456, wd_457, mk_51⟩
theorem wd_467 : Jvm.Cond.methodLink RX11 128 yX10_needsHousesFrom ∈ ci_T := tb_2 (i := 138) rfl rfl
theorem wd_468 : Jvm.Cond.instanceMethod yX10_needsHousesFrom ∈ ci_T := tb_2 (i := 139) rfl rfl
theorem wd_469 : Jvm.Cond.selects RX10 yX10_needsHousesFrom yX10_needsHousesFrom ∈ ci_T := tb_2 (i := 140) rfl rfl
theorem lv9_11_128 : lp_V (11, 128, 67, 10) := by unfold lp_V; rw [ms_67]; exact ⟨mo_67, ⟨_, rfl, rfl⟩, 1, rfl, wd_467, wd_468, wd_469, mk_67⟩
theorem wd_471 : Jvm.Cond.methodLink RX11 135 yX10_settle ∈ ci_T := tb_2 (i := 142) rfl rfl
theorem lv9_11_135 : lp_V (11, 135, 68, 10) := by unfold lp_V; rw [ms_68]; exact ⟨mo_68, ⟨_, rfl, rfl⟩, 1, rfl, wd_471, wd_163, wd_164, mk_68⟩
theorem wd_472 : Jvm.Cond.methodLink RX11 138 yX11_forgetStates ∈ ci_T := tb_2 (i := 143) rfl rfl
theorem wd_474 : Jvm.Cond.instanceMethod yX11_forgetStates ∈ ci_T := tb_2 (i := 145) rfl rfl
theorem wd_0 : Jvm.Cond.selects RX11 yX11_forgetStates yX11_forgetStates ∈ ci_T := pv_1 (i := 0) rfl rfl
theorem lv9_11_138 : lp_V (11, 138, 144, 11) := by unfold lp_V; rw [ms_144]; exact ⟨mo_144, ⟨_, rfl, rfl⟩, 0, rfl, wd_472, wd_474, wd_0, mk_144⟩
theorem wd_480 : Jvm.Cond.methodLink RX11 144 yX8_readThings ∈ ci_T := tb_2 (i := 151) rfl rfl
theorem wd_481 : Jvm.Cond.instanceMethod yX8_readThings ∈ ci_T := tb_2 (i := 152) rfl rfl
theorem wd_482 : Jvm.Cond.selects RX8 yX8_readThings yX8_readThings ∈ ci_T := tb_2 (i := 153) rfl rfl
theorem lv9_11_144 : lp_V (11, 144, 44, 8) := by unfold lp_V; rw [ms_44]; exact ⟨mo_44, ⟨_, rfl, rfl⟩, 2, rfl, wd_480, wd_481, wd_482, mk_44⟩
theorem wd_519 : Jvm.Cond.methodLink RX11 148 yX10_addThings ∈ ci_T := tb_2 (i := 190) rfl rfl
theorem wd_520 : Jvm.Cond.instanceMethod yX10_addThings ∈ ci_T := tb_2 (i := 191) rfl rfl
theorem wd_521 : Jvm.Cond.selects RX10 yX10_addThings yX10_addThings ∈ ci_T := tb_2 (i := 192) rfl rfl
theorem lv9_11_148 : lp_V (11, 148, 69, 10) := by unfold lp_V; rw [ms_69]; exact ⟨mo_69, ⟨_, rfl, rfl⟩, 2, rfl, wd_519, wd_520, wd_521, mk_69⟩
theorem wd_531 : Jvm.Cond.methodLink RX11 155 yX8_readKinds ∈ ci_T := tb_2 (i := 202) rfl rfl
theorem wd_532 : Jvm.Cond.instanceMethod yX8_readKinds ∈ ci_T := tb_2 (i := 203) rfl rfl
theorem wd_533 : Jvm.Cond.selects RX8 yX8_readKinds yX8_readKinds ∈ ci_T := tb_2 (i := 204) rfl rfl
theorem lv9_11_155 : lp_V (11, 155, 45, 8) := by unfold lp_V; rw [ms_45]; exact ⟨mo_45, ⟨_, rfl, rfl⟩, 1, rfl, wd_531, wd_532, wd_533, mk_45⟩
theorem wd_539 : Jvm.Cond.methodLink RX11 159 yX10_addKinds ∈ ci_T := tb_2 (i := 210) rfl rfl
theorem wd_540 : Jvm.Cond.instanceMethod yX10_addKinds ∈ ci_T := tb_2 (i := 211) rfl rfl
theorem wd_541 : Jvm.Cond.selects RX10 yX10_addKinds yX10_addKinds ∈ ci_T := tb_2 (i := 212) rfl rfl
theorem lv9_11_159 : lp_V (11, 159, 70, 10) := by unfold lp_V; rw [ms_70]; exact ⟨mo_70, ⟨_, rfl, rfl⟩, 2, rfl, wd_539, wd_540, wd_541, mk_70⟩
theorem wd_547 : Jvm.Cond.methodLink RX11 165 yX5_read ∈ ci_T := tb_2 (i := 218) rfl rfl
theorem wd_548 : Jvm.Cond.instanceMethod yX5_read ∈ ci_T := tb_2 (i := 219) rfl rfl
theorem wd_549 : Jvm.Cond.selects RX5 yX5_read yX5_read ∈ ci_T := tb_2 (i := 220) rfl rfl
theorem lv9_11_165 : lp_V (11, 165, 31, 5) := by unfold lp_V; rw [ms_31]; exact ⟨mo_31, ⟨_, rfl, rfl⟩, 0, rfl, wd_547, wd_548, wd_549, mk_31⟩
theorem wd_597 : Jvm.Cond.methodLink RX11 172 yX4_copy ∈ ci_T := tb_3 (i := 28) rfl rfl
theorem wd_598 : Jvm.Cond.instanceMethod yX4_copy ∈ ci_T := tb_3 (i := 29) rfl rfl
theorem wd_599 : Jvm.Cond.selects RX4 yX4_copy yX4_copy ∈ ci_T := tb_3 (i := 30) rfl rfl
theorem lv9_11_172 : lp_V (11, 172, 21, 4) := by unfold lp_V; rw [ms_21]; exact ⟨mo_21, ⟨_, rfl, rfl⟩, 1, rfl, wd_597, wd_598, wd_599, mk_21⟩
theorem wd_608 : Jvm.Cond.methodLink RX11 176 yX10_hasThing ∈ ci_T := tb_3 (i := 39) rfl rfl
theorem lv9_11_176 : lp_V (11, 176, 63, 10) := by unfold lp_V; rw [ms_63]; exact ⟨mo_63, ⟨_, rfl, rfl⟩, 1, rfl, wd_608, wd_609, wd_610, mk_63⟩
theorem wd_891 : Jvm.Cond.methodLink RX11 194 yX10_kindsOf ∈ ci_T := tb_4 (i := 82) rfl rfl
theorem lv9_11_194 : lp_V (11, 194, 73, 10) := by unfold lp_V; rw [ms_73]; exact ⟨mo_73, ⟨_, rfl, rfl⟩, 1, rfl, wd_891, wd_630, wd_631, mk_73⟩
theorem wd_1197 : Jvm.Cond.methodLink RX11 197 yX10_isLent ∈ ci_T := tb_5 (i := 148) rfl rfl
theorem lv9_11_197 : lp_V (11, 197, 66, 10) := by unfold lp_V; rw [ms_66]; exact ⟨mo_66, ⟨_, rfl, rfl⟩, 1, rfl, wd_1197, wd_716, wd_717, mk_66⟩
theorem wd_1061 : Jvm.Cond.methodLink RX11 200 yX10_hasKind ∈ ci_T := tb_5 (i := 12) rfl rfl
theorem wd_1062 : Jvm.Cond.instanceMethod yX10_hasKind ∈ ci_T := tb_5 (i := 13) rfl rfl
theorem wd_1063 : Jvm.Cond.selects RX10 yX10_hasKind yX10_hasKind ∈ ci_T := tb_5 (i := 14) rfl rfl
theorem lv9_11_200 : lp_V (11, 200, 64, 10) := by unfold lp_V; rw [ms_64]; exact ⟨mo_64, ⟨_, rfl, rfl⟩, 1, rfl, wd_1061, wd_1062, wd_1063, mk_64⟩
theorem wd_612 : Jvm.Cond.methodLink RX11 212 yX10_hasHouse ∈ ci_T := tb_3 (i := 43) rfl rfl
theorem lv9_11_212 : lp_V (11, 212, 62, 10) := by unfold lp_V; rw [ms_62]; exact ⟨mo_62, ⟨_, rfl, rfl⟩, 1, rfl, wd_612, wd_613, wd_614, mk_62⟩
theorem wd_896 : Jvm.Cond.methodLink RX11 215 yX10_ownedBy ∈ ci_T := tb_4 (i := 87) rfl rfl
theorem lv9_11_215 : lp_V (11, 215, 76, 10) := by unfold lp_V; rw [ms_76]; exact ⟨mo_76, ⟨_, rfl, rfl⟩, 1, rfl, wd_896, wd_876, wd_877, mk_76⟩
theorem wd_693 : Jvm.Cond.methodLink RX11 218 yX10_keptBy ∈ ci_T := tb_3 (i := 124) rfl rfl
theorem lv9_11_218 : lp_V (11, 218, 75, 10) := by unfold lp_V; rw [ms_75]; exact ⟨mo_75, ⟨_, rfl, rfl⟩, 1, rfl, wd_693, wd_634, wd_635, mk_75⟩
theorem wd_832 : Jvm.Cond.methodLink RX11 224 yX10_brokenIn ∈ ci_T := tb_4 (i := 23) rfl rfl
theorem lv9_11_224 : lp_V (11, 224, 80, 10) := by unfold lp_V; rw [ms_80]; exact ⟨mo_80, ⟨_, rfl, rfl⟩, 1, rfl, wd_832, wd_730, wd_731, mk_80⟩
theorem wd_616 : Jvm.Cond.methodLink RX11 227 yX4_value ∈ ci_T := tb_3 (i := 47) rfl rfl
theorem lv9_11_227 : lp_V (11, 227, 25, 4) := by unfold lp_V; rw [ms_25]; exact ⟨mo_25, ⟨_, rfl, rfl⟩, 3, rfl, wd_616, wd_617, wd_618, mk_25⟩
theorem wd_668 : Jvm.Cond.methodLink RX11 237 yX11_doneAlone ∈ ci_T := tb_3 (i := 99) rfl rfl
theorem wd_670 : Jvm.Cond.instanceMethod yX11_doneAlone ∈ ci_T := tb_3 (i := 101) rfl rfl
theorem wd_10 : Jvm.Cond.selects RX11 yX11_doneAlone yX11_doneAlone ∈ ci_T := pv_1 (i := 10) rfl rfl
theorem lv9_11_237 : lp_V (11, 237, 150, 11) := by unfold lp_V; rw [ms_150]; exact ⟨mo_150, ⟨_, rfl, rfl⟩, 3, rfl, wd_668, wd_670, wd_10, mk_150⟩
theorem wd_672 : Jvm.Cond.methodLink RX11 241 yX2_mark ∈ ci_T := tb_3 (i := 103) rfl rfl
theorem wd_673 : Jvm.Cond.instanceMethod yX2_mark ∈ ci_T := tb_3 (i := 104) rfl rfl
theorem wd_674 : Jvm.Cond.selects RX2 yX2_mark yX2_mark ∈ ci_T := tb_3 (i := 105) rfl rfl
theorem lv9_11_241 : lp_V (11, 241, 11, 2) := by unfold lp_V; rw [ms_11]; exact ⟨mo_11, ⟨_, rfl, rfl⟩, 1, rfl, wd_672, wd_673, wd_674, mk_11⟩
theorem wd_738 : Jvm.Cond.methodLink RX11 245 yX10_passHours ∈ ci_T := tb_3 (i := 169) rfl rfl
theorem wd_739 : Jvm.Cond.instanceMethod yX10_passHours ∈ ci_T := tb_3 (i := 170) rfl rfl
theorem wd_740 : Jvm.Cond.selects RX10 yX10_passHours yX10_passHours ∈ ci_T := tb_3 (i := 171) rfl rfl
theorem lv9_11_245 : lp_V (11, 245, 93, 10) := by unfold lp_V; rw [ms_93]; exact ⟨mo_93, ⟨_, rfl, rfl⟩, 1, rfl, wd_738, wd_739, wd_740, mk_93⟩
theorem wd_763 : Jvm.Cond.methodLink RX11 248 yX2_hold ∈ ci_T := tb_3 (i := 194) rfl rfl
theorem wd_764 : Jvm.Cond.instanceMethod yX2_hold ∈ ci_T := tb_3 (i := 195) rfl rfl
theorem wd_765 : Jvm.Cond.selects RX2 yX2_hold yX2_hold ∈ ci_T := tb_3 (i := 196) rfl rfl
theorem lv9_11_248 : lp_V (11, 248, 12, 2) := by unfold lp_V; rw [ms_12]; exact ⟨mo_12, ⟨_, rfl, rfl⟩, 0, rfl, wd_763, wd_764, wd_765, mk_12⟩
theorem wd_787 : Jvm.Cond.methodLink RX11 254 yX11_tellTwo ∈ ci_T := tb_3 (i := 218) rfl rfl
theorem wd_789 : Jvm.Cond.instanceMethod yX11_tellTwo ∈ ci_T := tb_3 (i := 220) rfl rfl
theorem wd_14 : Jvm.Cond.selects RX11 yX11_tellTwo yX11_tellTwo ∈ ci_T := pv_1 (i := 14) rfl rfl
theorem lv9_11_254 : lp_V (11, 254, 148, 11) := by unfold lp_V; rw [ms_148]; exact ⟨mo_148, ⟨_, rfl, rfl⟩, 2, rfl, wd_787, wd_789, wd_14, mk_148⟩
theorem wd_804 : Jvm.Cond.methodLink RX11 263 yX8_readDay ∈ ci_T := tb_3 (i := 235) rfl rfl
theorem wd_805 : Jvm.Cond.instanceMethod yX8_readDay ∈ ci_T := tb_3 (i := 236) rfl rfl
theorem wd_806 : Jvm.Cond.selects RX8 yX8_readDay yX8_readDay ∈ ci_T := tb_3 (i := 237) rfl rfl
theorem lv9_11_263 : lp_V (11, 263, 46, 8) := by unfold lp_V; rw [ms_46]; exact ⟨mo_46, ⟨_, rfl, rfl⟩, 0, rfl, wd_804, wd_805, wd_806, mk_46⟩
theorem wd_685 : Jvm.Cond.methodLink RX11 275 yX11_acted ∈ ci_T := tb_3 (i := 116) rfl rfl
theorem wd_687 : Jvm.Cond.instanceMethod yX11_acted ∈ ci_T := tb_3 (i := 118) rfl rfl
theorem wd_12 : Jvm.Cond.selects RX11 yX11_acted yX11_acted ∈ ci_T := pv_1 (i := 12) rfl rfl
theorem lv9_11_275 : lp_V (11, 275, 151, 11) := by unfold lp_V; rw [ms_151]; exact ⟨mo_151, ⟨_, rfl, rfl⟩, 3, rfl, wd_685, wd_687, wd_12, mk_151⟩
theorem wd_815 : Jvm.Cond.methodLink RX11 278 yX10_breakers ∈ ci_T := tb_4 (i := 6) rfl rfl
theorem wd_816 : Jvm.Cond.instanceMethod yX10_breakers ∈ ci_T := tb_4 (i := 7) rfl rfl
theorem wd_817 : Jvm.Cond.selects RX10 yX10_breakers yX10_breakers ∈ ci_T := tb_4 (i := 8) rfl rfl
theorem lv9_11_278 : lp_V (11, 278, 84, 10) := by unfold lp_V; rw [ms_84]; exact ⟨mo_84, ⟨_, rfl, rfl⟩, 0, rfl, wd_815, wd_816, wd_817, mk_84⟩
theorem wd_823 : Jvm.Cond.methodLink RX11 282 yX2_stepBack ∈ ci_T := tb_4 (i := 14) rfl rfl
theorem wd_824 : Jvm.Cond.instanceMethod yX2_stepBack ∈ ci_T := tb_4 (i := 15) rfl rfl
theorem wd_825 : Jvm.Cond.selects RX2 yX2_stepBack yX2_stepBack ∈ ci_T := tb_4 (i := 16) rfl rfl
theorem lv9_11_282 : lp_V (11, 282, 13, 2) := by unfold lp_V; rw [ms_13]; exact ⟨mo_13, ⟨_, rfl, rfl⟩, 1, rfl, wd_823, wd_824, wd_825, mk_13⟩
theorem wd_827 : Jvm.Cond.methodLink RX11 285 yX10_sortThings ∈ ci_T := tb_4 (i := 18) rfl rfl
theorem lv9_11_285 : lp_V (11, 285, 71, 10) := by unfold lp_V; rw [ms_71]; exact ⟨mo_71, ⟨_, rfl, rfl⟩, 0, rfl, wd_827, wd_524, wd_525, mk_71⟩
theorem wd_833 : Jvm.Cond.methodLink RX11 288 yX10_tooManyIn ∈ ci_T := tb_4 (i := 24) rfl rfl
theorem wd_834 : Jvm.Cond.instanceMethod yX10_tooManyIn ∈ ci_T := tb_4 (i := 25) rfl rfl
theorem wd_835 : Jvm.Cond.selects RX10 yX10_tooManyIn yX10_tooManyIn ∈ ci_T := tb_4 (i := 26) rfl rfl
theorem lv9_11_288 : lp_V (11, 288, 81, 10) := by unfold lp_V; rw [ms_81]; exact ⟨mo_81, ⟨_, rfl, rfl⟩, 1, rfl, wd_833, wd_834, wd_835, mk_81⟩
theorem wd_845 : Jvm.Cond.methodLink RX11 291 yX11_fewestToGiveAway ∈ ci_T := tb_4 (i := 36) rfl rfl
theorem wd_847 : Jvm.Cond.instanceMethod yX11_fewestToGiveAway ∈ ci_T := tb_4 (i := 38) rfl rfl
theorem wd_18 : Jvm.Cond.selects RX11 yX11_fewestToGiveAway yX11_fewestToGiveAway ∈ ci_T := pv_2 (i := 2) rfl rfl
theorem lv9_11_291 : lp_V (11, 291, 154, 11) := by unfold lp_V; rw [ms_154]; exact ⟨mo_154, ⟨_, rfl, rfl⟩, 1, rfl, wd_845, wd_847, wd_18, mk_154⟩
theorem wd_863 : Jvm.Cond.methodLink RX11 294 yX11_tellOne ∈ ci_T := tb_4 (i := 54) rfl rfl
theorem wd_865 : Jvm.Cond.instanceMethod yX11_tellOne ∈ ci_T := tb_4 (i := 56) rfl rfl
theorem wd_20 : Jvm.Cond.selects RX11 yX11_tellOne yX11_tellOne ∈ ci_T := pv_2 (i := 4) rfl rfl
theorem lv9_11_294 : lp_V (11, 294, 147, 11) := by unfold lp_V; rw [ms_147]; exact ⟨mo_147, ⟨_, rfl, rfl⟩, 1, rfl, wd_863, wd_865, wd_20, mk_147⟩
theorem wd_694 : Jvm.Cond.methodLink RX11 298 yX10_loadOf ∈ ci_T := tb_3 (i := 125) rfl rfl
theorem lv9_11_298 : lp_V (11, 298, 82, 10) := by unfold lp_V; rw [ms_82]; exact ⟨mo_82, ⟨_, rfl, rfl⟩, 1, rfl, wd_694, wd_695, wd_696, mk_82⟩
theorem wd_871 : Jvm.Cond.methodLink RX11 301 yX10_nobodys ∈ ci_T := tb_4 (i := 62) rfl rfl
theorem lv9_11_301 : lp_V (11, 301, 77, 10) := by unfold lp_V; rw [ms_77]; exact ⟨mo_77, ⟨_, rfl, rfl⟩, 0, rfl, wd_871, wd_872, wd_873, mk_77⟩
theorem wd_879 : Jvm.Cond.methodLink RX11 304 yX0_leastOfMost ∈ ci_T := tb_4 (i := 70) rfl rfl
theorem wd_880 : Jvm.Cond.instanceMethod yX0_leastOfMost ∈ ci_T := tb_4 (i := 71) rfl rfl
theorem wd_881 : Jvm.Cond.selects RX0 yX0_leastOfMost yX0_leastOfMost ∈ ci_T := tb_4 (i := 72) rfl rfl
theorem lv9_11_304 : lp_V (11, 304, 1, 0) := by unfold lp_V; rw [ms_1]; exact ⟨mo_1, ⟨_, rfl, rfl⟩, 2, rfl, wd_879, wd_880, wd_881, mk_1⟩
theorem wd_883 : Jvm.Cond.methodLink RX11 307 yX11_worthOfAll ∈ ci_T := tb_4 (i := 74) rfl rfl
theorem wd_885 : Jvm.Cond.instanceMethod yX11_worthOfAll ∈ ci_T := tb_4 (i := 76) rfl rfl
theorem wd_21 : Jvm.Cond.selects RX11 yX11_worthOfAll yX11_worthOfAll ∈ ci_T := pv_2 (i := 5) rfl rfl
theorem lv9_11_307 : lp_V (11, 307, 153, 11) := by unfold lp_V; rw [ms_153]; exact ⟨mo_153, ⟨_, rfl, rfl⟩, 2, rfl, wd_883, wd_885, wd_21, mk_153⟩
theorem wd_897 : Jvm.Cond.methodLink RX11 310 yX10_lentOnes ∈ ci_T := tb_4 (i := 88) rfl rfl
theorem wd_898 : Jvm.Cond.instanceMethod yX10_lentOnes ∈ ci_T := tb_4 (i := 89) rfl rfl
theorem wd_899 : Jvm.Cond.selects RX10 yX10_lentOnes yX10_lentOnes ∈ ci_T := tb_4 (i := 90) rfl rfl
theorem lv9_11_310 : lp_V (11, 310, 78, 10) := by unfold lp_V; rw [ms_78]; exact ⟨mo_78, ⟨_, rfl, rfl⟩, 0, rfl, wd_897, wd_898, wd_899, mk_78⟩
theorem wd_901 : Jvm.Cond.methodLink RX11 313 yX10_keepersOf ∈ ci_T := tb_4 (i := 92) rfl rfl
theorem wd_902 : Jvm.Cond.instanceMethod yX10_keepersOf ∈ ci_T := tb_4 (i := 93) rfl rfl
theorem wd_903 : Jvm.Cond.selects RX10 yX10_keepersOf yX10_keepersOf ∈ ci_T := tb_4 (i := 94) rfl rfl
theorem lv9_11_313 : lp_V (11, 313, 79, 10) := by unfold lp_V; rw [ms_79]; exact ⟨mo_79, ⟨_, rfl, rfl⟩, 1, rfl, wd_901, wd_902, wd_903, mk_79⟩
theorem wd_909 : Jvm.Cond.methodLink RX11 316 yX10_seizedFrom ∈ ci_T := tb_4 (i := 100) rfl rfl
theorem lv9_11_316 : lp_V (11, 316, 91, 10) := by unfold lp_V; rw [ms_91]; exact ⟨mo_91, ⟨_, rfl, rfl⟩, 1, rfl, wd_909, wd_752, wd_753, mk_91⟩
theorem wd_910 : Jvm.Cond.methodLink RX11 319 yX10_visited ∈ ci_T := tb_4 (i := 101) rfl rfl
theorem lv9_11_319 : lp_V (11, 319, 90, 10) := by unfold lp_V; rw [ms_90]; exact ⟨mo_90, ⟨_, rfl, rfl⟩, 0, rfl, wd_910, wd_748, wd_749, mk_90⟩
theorem wd_915 : Jvm.Cond.methodLink RX11 322 yX10_hasThings ∈ ci_T := tb_4 (i := 106) rfl rfl
theorem wd_916 : Jvm.Cond.instanceMethod yX10_hasThings ∈ ci_T := tb_4 (i := 107) rfl rfl
theorem wd_917 : Jvm.Cond.selects RX10 yX10_hasThings yX10_hasThings ∈ ci_T := tb_4 (i := 108) rfl rfl
theorem lv9_11_322 : lp_V (11, 322, 65, 10) := by unfold lp_V; rw [ms_65]; exact ⟨mo_65, ⟨_, rfl, rfl⟩, 1, rfl, wd_915, wd_916, wd_917, mk_65⟩
theorem wd_919 : Jvm.Cond.methodLink RX11 325 yX7_fewestMoves ∈ ci_T := tb_4 (i := 110) rfl rfl
theorem wd_920 : Jvm.Cond.instanceMethod yX7_fewestMoves ∈ ci_T := tb_4 (i := 111) rfl rfl
theorem wd_921 : Jvm.Cond.selects RX7 yX7_fewestMoves yX7_fewestMoves ∈ ci_T := tb_4 (i := 112) rfl rfl
theorem lv9_11_325 : lp_V (11, 325, 40, 7) := by unfold lp_V; rw [ms_40]; exact ⟨mo_40, ⟨_, rfl, rfl⟩, 1, rfl, wd_919, wd_920, wd_921, mk_40⟩
theorem wd_791 : Jvm.Cond.methodLink RX11 328 yX11_tellNothing ∈ ci_T := tb_3 (i := 222) rfl rfl
theorem wd_793 : Jvm.Cond.instanceMethod yX11_tellNothing ∈ ci_T := tb_3 (i := 224) rfl rfl
theorem wd_15 : Jvm.Cond.selects RX11 yX11_tellNothing yX11_tellNothing ∈ ci_T := pv_1 (i := 15) rfl rfl
theorem lv9_11_328 : lp_V (11, 328, 145, 11) := by unfold lp_V; rw [ms_145]; exact ⟨mo_145, ⟨_, rfl, rfl⟩, 0, rfl, wd_791, wd_793, wd_15, mk_145⟩
theorem wd_795 : Jvm.Cond.methodLink RX11 337 yX11_tellBesides ∈ ci_T := tb_3 (i := 226) rfl rfl
theorem wd_797 : Jvm.Cond.instanceMethod yX11_tellBesides ∈ ci_T := tb_3 (i := 228) rfl rfl
theorem wd_16 : Jvm.Cond.selects RX11 yX11_tellBesides yX11_tellBesides ∈ ci_T := pv_2 (i := 0) rfl rfl
theorem lv9_11_337 : lp_V (11, 337, 146, 11) := by unfold lp_V; rw [ms_146]; exact ⟨mo_146, ⟨_, rfl, rfl⟩, 1, rfl, wd_795, wd_797, wd_16, mk_146⟩
theorem wd_943 : Jvm.Cond.methodLink RX11 340 yX11_breakingIfNarrowed ∈ ci_T := tb_4 (i := 134) rfl rfl
theorem wd_945 : Jvm.Cond.instanceMethod yX11_breakingIfNarrowed ∈ ci_T := tb_4 (i := 136) rfl rfl
theorem wd_24 : Jvm.Cond.selects RX11 yX11_breakingIfNarrowed yX11_breakingIfNarrowed ∈ ci_T := pv_2 (i := 8) rfl rfl
theorem lv9_11_340 : lp_V (11, 340, 155, 11) := by unfold lp_V; rw [ms_155]; exact ⟨mo_155, ⟨_, rfl, rfl⟩, 2, rfl, wd_943, wd_945, wd_24, mk_155⟩
theorem wd_947 : Jvm.Cond.methodLink RX11 343 yX10_havingAll ∈ ci_T := tb_4 (i := 138) rfl rfl
theorem wd_948 : Jvm.Cond.instanceMethod yX10_havingAll ∈ ci_T := tb_4 (i := 139) rfl rfl
theorem wd_949 : Jvm.Cond.selects RX10 yX10_havingAll yX10_havingAll ∈ ci_T := tb_4 (i := 140) rfl rfl
theorem lv9_11_343 : lp_V (11, 343, 74, 10) := by unfold lp_V; rw [ms_74]; exact ⟨mo_74, ⟨_, rfl, rfl⟩, 1, rfl, wd_947, wd_948, wd_949, mk_74⟩
theorem wd_966 : Jvm.Cond.methodLink RX11 349 yX1_mostWorth ∈ ci_T := tb_4 (i := 157) rfl rfl
theorem wd_967 : Jvm.Cond.instanceMethod yX1_mostWorth ∈ ci_T := tb_4 (i := 158) rfl rfl
theorem wd_968 : Jvm.Cond.selects RX1 yX1_mostWorth yX1_mostWorth ∈ ci_T := tb_4 (i := 159) rfl rfl
theorem lv9_11_349 : lp_V (11, 349, 5, 1) := by unfold lp_V; rw [ms_5]; exact ⟨mo_5, ⟨_, rfl, rfl⟩, 0, rfl, wd_966, wd_967, wd_968, mk_5⟩
theorem wd_996 : Jvm.Cond.methodLink RX11 355 yX11_freedByStriking ∈ ci_T := tb_4 (i := 187) rfl rfl
theorem wd_998 : Jvm.Cond.instanceMethod yX11_freedByStriking ∈ ci_T := tb_4 (i := 189) rfl rfl
theorem wd_29 : Jvm.Cond.selects RX11 yX11_freedByStriking yX11_freedByStriking ∈ ci_T := pv_2 (i := 13) rfl rfl
theorem lv9_11_355 : lp_V (11, 355, 156, 11) := by unfold lp_V; rw [ms_156]; exact ⟨mo_156, ⟨_, rfl, rfl⟩, 1, rfl, wd_996, wd_998, wd_29, mk_156⟩
theorem wd_1004 : Jvm.Cond.methodLink RX11 358 yX3_payable ∈ ci_T := tb_4 (i := 195) rfl rfl
theorem wd_1005 : Jvm.Cond.instanceMethod yX3_payable ∈ ci_T := tb_4 (i := 196) rfl rfl
theorem wd_1006 : Jvm.Cond.selects RX3 yX3_payable yX3_payable ∈ ci_T := tb_4 (i := 197) rfl rfl
theorem lv9_11_358 : lp_V (11, 358, 16, 3) := by unfold lp_V; rw [ms_16]; exact ⟨mo_16, ⟨_, rfl, rfl⟩, 3, rfl, wd_1004, wd_1005, wd_1006, mk_16⟩
theorem wd_1021 : Jvm.Cond.methodLink RX11 361 yX3_leastMissing ∈ ci_T := tb_4 (i := 212) rfl rfl
theorem wd_1022 : Jvm.Cond.instanceMethod yX3_leastMissing ∈ ci_T := tb_4 (i := 213) rfl rfl
theorem wd_1023 : Jvm.Cond.selects RX3 yX3_leastMissing yX3_leastMissing ∈ ci_T := tb_4 (i := 214) rfl rfl
theorem lv9_11_361 : lp_V (11, 361, 17, 3) := by unfold lp_V; rw [ms_17]; exact ⟨mo_17, ⟨_, rfl, rfl⟩, 1, rfl, wd_1021, wd_1022, wd_1023, mk_17⟩
theorem wd_1049 : Jvm.Cond.methodLink RX11 369 yX11_fittingHouses ∈ ci_T := tb_5 (i := 0) rfl rfl
theorem wd_1051 : Jvm.Cond.instanceMethod yX11_fittingHouses ∈ ci_T := tb_5 (i := 2) rfl rfl
theorem wd_32 : Jvm.Cond.selects RX11 yX11_fittingHouses yX11_fittingHouses ∈ ci_T := pv_3 (i := 0) rfl rfl
theorem lv9_11_369 : lp_V (11, 369, 158, 11) := by unfold lp_V; rw [ms_158]; exact ⟨mo_158, ⟨_, rfl, rfl⟩, 0, rfl, wd_1049, wd_1051, wd_32, mk_158⟩
theorem wd_1065 : Jvm.Cond.methodLink RX11 375 yX11_likely ∈ ci_T := tb_5 (i := 16) rfl rfl
theorem wd_1067 : Jvm.Cond.instanceMethod yX11_likely ∈ ci_T := tb_5 (i := 18) rfl rfl
theorem wd_33 : Jvm.Cond.selects RX11 yX11_likely yX11_likely ∈ ci_T := pv_3 (i := 1) rfl rfl
theorem lv9_11_375 : lp_V (11, 375, 159, 11) := by unfold lp_V; rw [ms_159]; exact ⟨mo_159, ⟨_, rfl, rfl⟩, 3, rfl, wd_1065, wd_1067, wd_33, mk_159⟩
theorem wd_1072 : Jvm.Cond.methodLink RX11 378 yX10_namedBy ∈ ci_T := tb_5 (i := 23) rfl rfl
theorem wd_1073 : Jvm.Cond.instanceMethod yX10_namedBy ∈ ci_T := tb_5 (i := 24) rfl rfl
theorem wd_1074 : Jvm.Cond.selects RX10 yX10_namedBy yX10_namedBy ∈ ci_T := tb_5 (i := 25) rfl rfl
theorem lv9_11_378 : lp_V (11, 378, 72, 10) := by unfold lp_V; rw [ms_72]; exact ⟨mo_72, ⟨_, rfl, rfl⟩, 1, rfl, wd_1072, wd_1073, wd_1074, mk_72⟩
theorem wd_1083 : Jvm.Cond.methodLink RX11 387 yX11_startChances ∈ ci_T := tb_5 (i := 34) rfl rfl
theorem wd_1085 : Jvm.Cond.instanceMethod yX11_startChances ∈ ci_T := tb_5 (i := 36) rfl rfl
theorem wd_34 : Jvm.Cond.selects RX11 yX11_startChances yX11_startChances ∈ ci_T := pv_3 (i := 2) rfl rfl
theorem lv9_11_387 : lp_V (11, 387, 162, 11) := by unfold lp_V; rw [ms_162]; exact ⟨mo_162, ⟨_, rfl, rfl⟩, 0, rfl, wd_1083, wd_1085, wd_34, mk_162⟩
theorem wd_1089 : Jvm.Cond.methodLink RX11 392 yX11_shiftChances ∈ ci_T := tb_5 (i := 40) rfl rfl
theorem wd_1091 : Jvm.Cond.instanceMethod yX11_shiftChances ∈ ci_T := tb_5 (i := 42) rfl rfl
theorem wd_35 : Jvm.Cond.selects RX11 yX11_shiftChances yX11_shiftChances ∈ ci_T := pv_3 (i := 3) rfl rfl
theorem lv9_11_392 : lp_V (11, 392, 163, 11) := by unfold lp_V; rw [ms_163]; exact ⟨mo_163, ⟨_, rfl, rfl⟩, 1, rfl, wd_1089, wd_1091, wd_35, mk_163⟩
theorem wd_1107 : Jvm.Cond.methodLink RX11 399 yX6_copy ∈ ci_T := tb_5 (i := 58) rfl rfl
theorem lv9_11_399 : lp_V (11, 399, 38, 6) := by unfold lp_V; rw [ms_38]; exact ⟨mo_38, ⟨_, rfl, rfl⟩, 1, rfl, wd_1107, wd_681, wd_682, mk_38⟩
theorem wd_705 : Jvm.Cond.methodLink RX11 407 yX10_hand ∈ ci_T := tb_3 (i := 136) rfl rfl
theorem lv9_11_407 : lp_V (11, 407, 85, 10) := by unfold lp_V; rw [ms_85]; exact ⟨mo_85, ⟨_, rfl, rfl⟩, 2, rfl, wd_705, wd_706, wd_707, mk_85⟩
theorem wd_1115 : Jvm.Cond.methodLink RX11 411 yX10_passHour ∈ ci_T := tb_5 (i := 66) rfl rfl
theorem lv9_11_411 : lp_V (11, 411, 92, 10) := by unfold lp_V; rw [ms_92]; exact ⟨mo_92, ⟨_, rfl, rfl⟩, 0, rfl, wd_1115, wd_744, wd_745, mk_92⟩
theorem wd_689 : Jvm.Cond.methodLink RX11 414 yX11_bought ∈ ci_T := tb_3 (i := 120) rfl rfl
theorem wd_691 : Jvm.Cond.instanceMethod yX11_bought ∈ ci_T := tb_3 (i := 122) rfl rfl
theorem wd_13 : Jvm.Cond.selects RX11 yX11_bought yX11_bought ∈ ci_T := pv_1 (i := 13) rfl rfl
theorem lv9_11_414 : lp_V (11, 414, 152, 11) := by unfold lp_V; rw [ms_152]; exact ⟨mo_152, ⟨_, rfl, rfl⟩, 2, rfl, wd_689, wd_691, wd_13, mk_152⟩
theorem wd_709 : Jvm.Cond.methodLink RX11 417 yX10_given ∈ ci_T := tb_3 (i := 140) rfl rfl
theorem wd_710 : Jvm.Cond.instanceMethod yX10_given ∈ ci_T := tb_3 (i := 141) rfl rfl
theorem wd_711 : Jvm.Cond.selects RX10 yX10_given yX10_given ∈ ci_T := tb_3 (i := 142) rfl rfl
theorem lv9_11_417 : lp_V (11, 417, 86, 10) := by unfold lp_V; rw [ms_86]; exact ⟨mo_86, ⟨_, rfl, rfl⟩, 2, rfl, wd_709, wd_710, wd_711, mk_86⟩
theorem wd_720 : Jvm.Cond.methodLink RX11 420 yX10_lent ∈ ci_T := tb_3 (i := 151) rfl rfl
theorem wd_721 : Jvm.Cond.instanceMethod yX10_lent ∈ ci_T := tb_3 (i := 152) rfl rfl
theorem wd_722 : Jvm.Cond.selects RX10 yX10_lent yX10_lent ∈ ci_T := tb_3 (i := 153) rfl rfl
theorem lv9_11_420 : lp_V (11, 420, 87, 10) := by unfold lp_V; rw [ms_87]; exact ⟨mo_87, ⟨_, rfl, rfl⟩, 2, rfl, wd_720, wd_721, wd_722, mk_87⟩
theorem wd_724 : Jvm.Cond.methodLink RX11 423 yX10_claimed ∈ ci_T := tb_3 (i := 155) rfl rfl
theorem wd_725 : Jvm.Cond.instanceMethod yX10_claimed ∈ ci_T := tb_3 (i := 156) rfl rfl
theorem wd_726 : Jvm.Cond.selects RX10 yX10_claimed yX10_claimed ∈ ci_T := tb_3 (i := 157) rfl rfl
theorem lv9_11_423 : lp_V (11, 423, 88, 10) := by unfold lp_V; rw [ms_88]; exact ⟨mo_88, ⟨_, rfl, rfl⟩, 2, rfl, wd_724, wd_725, wd_726, mk_88⟩
theorem wd_734 : Jvm.Cond.methodLink RX11 426 yX10_painted ∈ ci_T := tb_3 (i := 165) rfl rfl
theorem wd_735 : Jvm.Cond.instanceMethod yX10_painted ∈ ci_T := tb_3 (i := 166) rfl rfl
theorem wd_736 : Jvm.Cond.selects RX10 yX10_painted yX10_painted ∈ ci_T := tb_3 (i := 167) rfl rfl
theorem lv9_11_426 : lp_V (11, 426, 89, 10) := by unfold lp_V; rw [ms_89]; exact ⟨mo_89, ⟨_, rfl, rfl⟩, 2, rfl, wd_734, wd_735, wd_736, mk_89⟩
theorem wd_700 : Jvm.Cond.methodLink RX11 429 yX10_fits ∈ ci_T := tb_3 (i := 131) rfl rfl
theorem lv9_11_429 : lp_V (11, 429, 83, 10) := by unfold lp_V; rw [ms_83]; exact ⟨mo_83, ⟨_, rfl, rfl⟩, 2, rfl, wd_700, wd_701, wd_702, mk_83⟩
theorem wd_849 : Jvm.Cond.methodLink RX11 433 yX0_greatestOfMost ∈ ci_T := tb_4 (i := 40) rfl rfl
theorem wd_850 : Jvm.Cond.instanceMethod yX0_greatestOfMost ∈ ci_T := tb_4 (i := 41) rfl rfl
theorem wd_851 : Jvm.Cond.selects RX0 yX0_greatestOfMost yX0_greatestOfMost ∈ ci_T := tb_4 (i := 42) rfl rfl
theorem lv9_11_433 : lp_V (11, 433, 2, 0) := by unfold lp_V; rw [ms_2]; exact ⟨mo_2, ⟨_, rfl, rfl⟩, 2, rfl, wd_849, wd_850, wd_851, mk_2⟩
theorem wd_1383 : Jvm.Cond.methodLink RX12 114 yX12_begin ∈ ci_T := tb_6 (i := 94) rfl rfl
theorem wd_1385 : Jvm.Cond.instanceMethod yX12_begin ∈ ci_T := tb_6 (i := 96) rfl rfl
theorem wd_38 : Jvm.Cond.selects RX12 yX12_begin yX12_begin ∈ ci_T := pv_3 (i := 6) rfl rfl
theorem lv9_12_114 : lp_V (12, 114, 180, 12) := by unfold lp_V; rw [ms_180]; exact ⟨mo_180, ⟨_, rfl, rfl⟩, 3, rfl, wd_1383, wd_1385, wd_38, mk_180⟩
theorem wd_1387 : Jvm.Cond.methodLink RX12 118 yX12_fine ∈ ci_T := tb_6 (i := 98) rfl rfl
theorem wd_1389 : Jvm.Cond.instanceMethod yX12_fine ∈ ci_T := tb_6 (i := 100) rfl rfl
theorem wd_39 : Jvm.Cond.selects RX12 yX12_fine yX12_fine ∈ ci_T := pv_3 (i := 7) rfl rfl
theorem lv9_12_118 : lp_V (12, 118, 183, 12) := by unfold lp_V; rw [ms_183]; exact ⟨mo_183, ⟨_, rfl, rfl⟩, 0, rfl, wd_1387, wd_1389, wd_39, mk_183⟩
theorem wd_1400 : Jvm.Cond.methodLink RX12 122 yX12_here ∈ ci_T := tb_6 (i := 111) rfl rfl
theorem wd_1402 : Jvm.Cond.instanceMethod yX12_here ∈ ci_T := tb_6 (i := 113) rfl rfl
theorem wd_42 : Jvm.Cond.selects RX12 yX12_here yX12_here ∈ ci_T := pv_3 (i := 10) rfl rfl
theorem lv9_12_122 : lp_V (12, 122, 182, 12) := by unfold lp_V; rw [ms_182]; exact ⟨mo_182, ⟨_, rfl, rfl⟩, 0, rfl, wd_1400, wd_1402, wd_42, mk_182⟩
theorem wd_1407 : Jvm.Cond.methodLink RX12 126 yX12_passes ∈ ci_T := tb_6 (i := 118) rfl rfl
theorem wd_1409 : Jvm.Cond.instanceMethod yX12_passes ∈ ci_T := tb_6 (i := 120) rfl rfl
theorem wd_43 : Jvm.Cond.selects RX12 yX12_passes yX12_passes ∈ ci_T := pv_3 (i := 11) rfl rfl
theorem lv9_12_126 : lp_V (12, 126, 185, 12) := by unfold lp_V; rw [ms_185]; exact ⟨mo_185, ⟨_, rfl, rfl⟩, 1, rfl, wd_1407, wd_1409, wd_43, mk_185⟩
theorem wd_1391 : Jvm.Cond.methodLink RX12 130 yX12_fault ∈ ci_T := tb_6 (i := 102) rfl rfl
theorem wd_1393 : Jvm.Cond.instanceMethod yX12_fault ∈ ci_T := tb_6 (i := 104) rfl rfl
theorem wd_40 : Jvm.Cond.selects RX12 yX12_fault yX12_fault ∈ ci_T := pv_3 (i := 8) rfl rfl
theorem lv9_12_130 : lp_V (12, 130, 184, 12) := by unfold lp_V; rw [ms_184]; exact ⟨mo_184, ⟨_, rfl, rfl⟩, 1, rfl, wd_1391, wd_1393, wd_40, mk_184⟩
theorem wd_1411 : Jvm.Cond.methodLink RX12 134 yX12_oneOf ∈ ci_T := tb_6 (i := 122) rfl rfl
theorem wd_1413 : Jvm.Cond.instanceMethod yX12_oneOf ∈ ci_T := tb_6 (i := 124) rfl rfl
theorem wd_44 : Jvm.Cond.selects RX12 yX12_oneOf yX12_oneOf ∈ ci_T := pv_3 (i := 12) rfl rfl
theorem lv9_12_134 : lp_V (12, 134, 187, 12) := by unfold lp_V; rw [ms_187]; exact ⟨mo_187, ⟨_, rfl, rfl⟩, 2, rfl, wd_1411, wd_1413, wd_44, mk_187⟩
theorem wd_1379 : Jvm.Cond.methodLink RX12 154 yX12_beginText ∈ ci_T := tb_6 (i := 90) rfl rfl
theorem wd_1381 : Jvm.Cond.instanceMethod yX12_beginText ∈ ci_T := tb_6 (i := 92) rfl rfl
theorem wd_37 : Jvm.Cond.selects RX12 yX12_beginText yX12_beginText ∈ ci_T := pv_3 (i := 5) rfl rfl
theorem lv9_12_154 : lp_V (12, 154, 181, 12) := by unfold lp_V; rw [ms_181]; exact ⟨mo_181, ⟨_, rfl, rfl⟩, 1, rfl, wd_1379, wd_1381, wd_37, mk_181⟩
theorem wd_1395 : Jvm.Cond.methodLink RX12 157 yX12_letters ∈ ci_T := tb_6 (i := 106) rfl rfl
theorem wd_1397 : Jvm.Cond.instanceMethod yX12_letters ∈ ci_T := tb_6 (i := 108) rfl rfl
theorem wd_41 : Jvm.Cond.selects RX12 yX12_letters yX12_letters ∈ ci_T := pv_3 (i := 9) rfl rfl
theorem lv9_12_157 : lp_V (12, 157, 190, 12) := by unfold lp_V; rw [ms_190]; exact ⟨mo_190, ⟨_, rfl, rfl⟩, 2, rfl, wd_1395, wd_1397, wd_41, mk_190⟩
theorem wd_1415 : Jvm.Cond.methodLink RX12 161 yX12_wasRight ∈ ci_T := tb_6 (i := 126) rfl rfl
theorem wd_1417 : Jvm.Cond.instanceMethod yX12_wasRight ∈ ci_T := tb_6 (i := 128) rfl rfl
theorem wd_45 : Jvm.Cond.selects RX12 yX12_wasRight yX12_wasRight ∈ ci_T := pv_3 (i := 13) rfl rfl
theorem lv9_12_161 : lp_V (12, 161, 189, 12) := by unfold lp_V; rw [ms_189]; exact ⟨mo_189, ⟨_, rfl, rfl⟩, 0, rfl, wd_1415, wd_1417, wd_45, mk_189⟩
theorem wd_1431 : Jvm.Cond.methodLink RX12 164 yX12_sum ∈ ci_T := tb_6 (i := 142) rfl rfl
theorem wd_1433 : Jvm.Cond.instanceMethod yX12_sum ∈ ci_T := tb_6 (i := 144) rfl rfl
theorem wd_47 : Jvm.Cond.selects RX12 yX12_sum yX12_sum ∈ ci_T := pv_3 (i := 15) rfl rfl
theorem lv9_12_164 : lp_V (12, 164, 195, 12) := by unfold lp_V; rw [ms_195]; exact ⟨mo_195, ⟨_, rfl, rfl⟩, 1, rfl, wd_1431, wd_1433, wd_47, mk_195⟩
theorem wd_1435 : Jvm.Cond.methodLink RX12 167 yX12_product ∈ ci_T := tb_6 (i := 146) rfl rfl
theorem wd_1437 : Jvm.Cond.instanceMethod yX12_product ∈ ci_T := tb_6 (i := 148) rfl rfl
theorem wd_48 : Jvm.Cond.selects RX12 yX12_product yX12_product ∈ ci_T := pv_4 (i := 0) rfl rfl
theorem lv9_12_167 : lp_V (12, 167, 196, 12) := by unfold lp_V; rw [ms_196]; exact ⟨mo_196, ⟨_, rfl, rfl⟩, 1, rfl, wd_1435, wd_1437, wd_48, mk_196⟩
theorem wd_1439 : Jvm.Cond.methodLink RX12 170 yX12_part ∈ ci_T := tb_6 (i := 150) rfl rfl
theorem wd_1441 : Jvm.Cond.instanceMethod yX12_part ∈ ci_T := tb_6 (i := 152) rfl rfl
theorem wd_49 : Jvm.Cond.selects RX12 yX12_part yX12_part ∈ ci_T := pv_4 (i := 1) rfl rfl
theorem lv9_12_170 : lp_V (12, 170, 198, 12) := by unfold lp_V; rw [ms_198]; exact ⟨mo_198, ⟨_, rfl, rfl⟩, 1, rfl, wd_1439, wd_1441, wd_49, mk_198⟩
theorem wd_1427 : Jvm.Cond.methodLink RX12 173 yX12_held ∈ ci_T := tb_6 (i := 138) rfl rfl
theorem wd_1429 : Jvm.Cond.instanceMethod yX12_held ∈ ci_T := tb_6 (i := 140) rfl rfl
theorem wd_46 : Jvm.Cond.selects RX12 yX12_held yX12_held ∈ ci_T := pv_3 (i := 14) rfl rfl
theorem lv9_12_173 : lp_V (12, 173, 194, 12) := by unfold lp_V; rw [ms_194]; exact ⟨mo_194, ⟨_, rfl, rfl⟩, 1, rfl, wd_1427, wd_1429, wd_46, mk_194⟩
theorem wd_1443 : Jvm.Cond.methodLink RX12 176 yX12_need ∈ ci_T := tb_6 (i := 154) rfl rfl
theorem wd_1445 : Jvm.Cond.instanceMethod yX12_need ∈ ci_T := tb_6 (i := 156) rfl rfl
theorem wd_50 : Jvm.Cond.selects RX12 yX12_need yX12_need ∈ ci_T := pv_4 (i := 2) rfl rfl
theorem lv9_12_176 : lp_V (12, 176, 186, 12) := by unfold lp_V; rw [ms_186]; exact ⟨mo_186, ⟨_, rfl, rfl⟩, 1, rfl, wd_1443, wd_1445, wd_50, mk_186⟩
theorem wd_1447 : Jvm.Cond.methodLink RX12 180 yX12_number ∈ ci_T := tb_6 (i := 158) rfl rfl
theorem wd_1449 : Jvm.Cond.instanceMethod yX12_number ∈ ci_T := tb_6 (i := 160) rfl rfl
theorem wd_51 : Jvm.Cond.selects RX12 yX12_number yX12_number ∈ ci_T := pv_4 (i := 3) rfl rfl
theorem lv9_12_180 : lp_V (12, 180, 188, 12) := by unfold lp_V; rw [ms_188]; exact ⟨mo_188, ⟨_, rfl, rfl⟩, 1, rfl, wd_1447, wd_1449, wd_51, mk_188⟩
theorem wd_1470 : Jvm.Cond.methodLink RX12 193 yX12_isOf ∈ ci_T := tb_6 (i := 181) rfl rfl
theorem wd_1472 : Jvm.Cond.instanceMethod yX12_isOf ∈ ci_T := tb_6 (i := 183) rfl rfl
theorem wd_55 : Jvm.Cond.selects RX12 yX12_isOf yX12_isOf ∈ ci_T := pv_4 (i := 7) rfl rfl
theorem lv9_12_193 : lp_V (12, 193, 200, 12) := by unfold lp_V; rw [ms_200]; exact ⟨mo_200, ⟨_, rfl, rfl⟩, 3, rfl, wd_1470, wd_1472, wd_55, mk_200⟩
theorem wd_1510 : Jvm.Cond.methodLink RX12 196 yX12_manyOf ∈ ci_T := tb_6 (i := 221) rfl rfl
theorem wd_1512 : Jvm.Cond.instanceMethod yX12_manyOf ∈ ci_T := tb_6 (i := 223) rfl rfl
theorem wd_63 : Jvm.Cond.selects RX12 yX12_manyOf yX12_manyOf ∈ ci_T := pv_4 (i := 15) rfl rfl
theorem lv9_12_196 : lp_V (12, 196, 204, 12) := by unfold lp_V; rw [ms_204]; exact ⟨mo_204, ⟨_, rfl, rfl⟩, 3, rfl, wd_1510, wd_1512, wd_63, mk_204⟩
theorem wd_1498 : Jvm.Cond.methodLink RX12 200 yX12_keptBy ∈ ci_T := tb_6 (i := 209) rfl rfl
theorem wd_1500 : Jvm.Cond.instanceMethod yX12_keptBy ∈ ci_T := tb_6 (i := 211) rfl rfl
theorem wd_60 : Jvm.Cond.selects RX12 yX12_keptBy yX12_keptBy ∈ ci_T := pv_4 (i := 12) rfl rfl
theorem lv9_12_200 : lp_V (12, 200, 202, 12) := by unfold lp_V; rw [ms_202]; exact ⟨mo_202, ⟨_, rfl, rfl⟩, 2, rfl, wd_1498, wd_1500, wd_60, mk_202⟩
theorem wd_1506 : Jvm.Cond.methodLink RX12 204 yX12_brokenBy ∈ ci_T := tb_6 (i := 217) rfl rfl
theorem wd_1508 : Jvm.Cond.instanceMethod yX12_brokenBy ∈ ci_T := tb_6 (i := 219) rfl rfl
theorem wd_62 : Jvm.Cond.selects RX12 yX12_brokenBy yX12_brokenBy ∈ ci_T := pv_4 (i := 14) rfl rfl
theorem lv9_12_204 : lp_V (12, 204, 205, 12) := by unfold lp_V; rw [ms_205]; exact ⟨mo_205, ⟨_, rfl, rfl⟩, 2, rfl, wd_1506, wd_1508, wd_62, mk_205⟩
theorem wd_1502 : Jvm.Cond.methodLink RX12 207 yX12_breaks ∈ ci_T := tb_6 (i := 213) rfl rfl
theorem wd_1504 : Jvm.Cond.instanceMethod yX12_breaks ∈ ci_T := tb_6 (i := 215) rfl rfl
theorem wd_61 : Jvm.Cond.selects RX12 yX12_breaks yX12_breaks ∈ ci_T := pv_4 (i := 13) rfl rfl
theorem lv9_12_207 : lp_V (12, 207, 206, 12) := by unfold lp_V; rw [ms_206]; exact ⟨mo_206, ⟨_, rfl, rfl⟩, 2, rfl, wd_1502, wd_1504, wd_61, mk_206⟩
theorem wd_1466 : Jvm.Cond.methodLink RX12 210 yX12_kindsOf ∈ ci_T := tb_6 (i := 177) rfl rfl
theorem wd_1468 : Jvm.Cond.instanceMethod yX12_kindsOf ∈ ci_T := tb_6 (i := 179) rfl rfl
theorem wd_54 : Jvm.Cond.selects RX12 yX12_kindsOf yX12_kindsOf ∈ ci_T := pv_4 (i := 6) rfl rfl
theorem lv9_12_210 : lp_V (12, 210, 201, 12) := by unfold lp_V; rw [ms_201]; exact ⟨mo_201, ⟨_, rfl, rfl⟩, 1, rfl, wd_1466, wd_1468, wd_54, mk_201⟩
theorem wd_1458 : Jvm.Cond.methodLink RX12 221 yX12_isThing ∈ ci_T := tb_6 (i := 169) rfl rfl
theorem wd_1460 : Jvm.Cond.instanceMethod yX12_isThing ∈ ci_T := tb_6 (i := 171) rfl rfl
theorem wd_52 : Jvm.Cond.selects RX12 yX12_isThing yX12_isThing ∈ ci_T := pv_4 (i := 4) rfl rfl
theorem lv9_12_221 : lp_V (12, 221, 174, 12) := by unfold lp_V; rw [ms_174]; exact ⟨mo_174, ⟨_, rfl, rfl⟩, 1, rfl, wd_1458, wd_1460, wd_52, mk_174⟩
theorem wd_1462 : Jvm.Cond.methodLink RX12 225 yX12_lost ∈ ci_T := tb_6 (i := 173) rfl rfl
theorem wd_1464 : Jvm.Cond.instanceMethod yX12_lost ∈ ci_T := tb_6 (i := 175) rfl rfl
theorem wd_53 : Jvm.Cond.selects RX12 yX12_lost yX12_lost ∈ ci_T := pv_4 (i := 5) rfl rfl
theorem lv9_12_225 : lp_V (12, 225, 172, 12) := by unfold lp_V; rw [ms_172]; exact ⟨mo_172, ⟨_, rfl, rfl⟩, 0, rfl, wd_1462, wd_1464, wd_53, mk_172⟩
theorem wd_1474 : Jvm.Cond.methodLink RX12 228 yX12_lentBits ∈ ci_T := tb_6 (i := 185) rfl rfl
theorem wd_1476 : Jvm.Cond.instanceMethod yX12_lentBits ∈ ci_T := tb_6 (i := 187) rfl rfl
theorem wd_56 : Jvm.Cond.selects RX12 yX12_lentBits yX12_lentBits ∈ ci_T := pv_4 (i := 8) rfl rfl
theorem lv9_12_228 : lp_V (12, 228, 209, 12) := by unfold lp_V; rw [ms_209]; exact ⟨mo_209, ⟨_, rfl, rfl⟩, 0, rfl, wd_1474, wd_1476, wd_56, mk_209⟩
theorem wd_1482 : Jvm.Cond.methodLink RX12 231 yX12_isKind ∈ ci_T := tb_6 (i := 193) rfl rfl
theorem wd_1484 : Jvm.Cond.instanceMethod yX12_isKind ∈ ci_T := tb_6 (i := 195) rfl rfl
theorem wd_57 : Jvm.Cond.selects RX12 yX12_isKind yX12_isKind ∈ ci_T := pv_4 (i := 9) rfl rfl
theorem lv9_12_231 : lp_V (12, 231, 176, 12) := by unfold lp_V; rw [ms_176]; exact ⟨mo_176, ⟨_, rfl, rfl⟩, 1, rfl, wd_1482, wd_1484, wd_57, mk_176⟩
theorem wd_1490 : Jvm.Cond.methodLink RX12 234 yX12_isHouse ∈ ci_T := tb_6 (i := 201) rfl rfl
theorem wd_1492 : Jvm.Cond.instanceMethod yX12_isHouse ∈ ci_T := tb_6 (i := 203) rfl rfl
theorem wd_58 : Jvm.Cond.selects RX12 yX12_isHouse yX12_isHouse ∈ ci_T := pv_4 (i := 10) rfl rfl
theorem lv9_12_234 : lp_V (12, 234, 175, 12) := by unfold lp_V; rw [ms_175]; exact ⟨mo_175, ⟨_, rfl, rfl⟩, 1, rfl, wd_1490, wd_1492, wd_58, mk_175⟩
theorem wd_1494 : Jvm.Cond.methodLink RX12 237 yX12_ownedBy ∈ ci_T := tb_6 (i := 205) rfl rfl
theorem wd_1496 : Jvm.Cond.instanceMethod yX12_ownedBy ∈ ci_T := tb_6 (i := 207) rfl rfl
theorem wd_59 : Jvm.Cond.selects RX12 yX12_ownedBy yX12_ownedBy ∈ ci_T := pv_4 (i := 11) rfl rfl
theorem lv9_12_237 : lp_V (12, 237, 203, 12) := by unfold lp_V; rw [ms_203]; exact ⟨mo_203, ⟨_, rfl, rfl⟩, 2, rfl, wd_1494, wd_1496, wd_59, mk_203⟩
theorem wd_1518 : Jvm.Cond.methodLink RX12 240 yX12_worthOf ∈ ci_T := tb_6 (i := 229) rfl rfl
theorem wd_1520 : Jvm.Cond.instanceMethod yX12_worthOf ∈ ci_T := tb_6 (i := 231) rfl rfl
theorem wd_64 : Jvm.Cond.selects RX12 yX12_worthOf yX12_worthOf ∈ ci_T := pv_5 (i := 0) rfl rfl
theorem lv9_12_240 : lp_V (12, 240, 208, 12) := by unfold lp_V; rw [ms_208]; exact ⟨mo_208, ⟨_, rfl, rfl⟩, 2, rfl, wd_1518, wd_1520, wd_64, mk_208⟩
theorem wd_1540 : Jvm.Cond.methodLink RX12 247 yX12_areBoth ∈ ci_T := tb_7 (i := 11) rfl rfl
theorem wd_1542 : Jvm.Cond.instanceMethod yX12_areBoth ∈ ci_T := tb_7 (i := 13) rfl rfl
theorem wd_66 : Jvm.Cond.selects RX12 yX12_areBoth yX12_areBoth ∈ ci_T := pv_5 (i := 2) rfl rfl
theorem lv9_12_247 : lp_V (12, 247, 218, 12) := by unfold lp_V; rw [ms_218]; exact ⟨mo_218, ⟨_, rfl, rfl⟩, 2, rfl, wd_1540, wd_1542, wd_66, mk_218⟩
theorem wd_1544 : Jvm.Cond.methodLink RX12 250 yX12_isNobodys ∈ ci_T := tb_7 (i := 15) rfl rfl
theorem wd_1546 : Jvm.Cond.instanceMethod yX12_isNobodys ∈ ci_T := tb_7 (i := 17) rfl rfl
theorem wd_67 : Jvm.Cond.selects RX12 yX12_isNobodys yX12_isNobodys ∈ ci_T := pv_5 (i := 3) rfl rfl
theorem lv9_12_250 : lp_V (12, 250, 219, 12) := by unfold lp_V; rw [ms_219]; exact ⟨mo_219, ⟨_, rfl, rfl⟩, 1, rfl, wd_1544, wd_1546, wd_67, mk_219⟩
theorem wd_1548 : Jvm.Cond.methodLink RX12 253 yX12_wouldBreak ∈ ci_T := tb_7 (i := 19) rfl rfl
theorem wd_1550 : Jvm.Cond.instanceMethod yX12_wouldBreak ∈ ci_T := tb_7 (i := 21) rfl rfl
theorem wd_68 : Jvm.Cond.selects RX12 yX12_wouldBreak yX12_wouldBreak ∈ ci_T := pv_5 (i := 4) rfl rfl
theorem lv9_12_253 : lp_V (12, 253, 220, 12) := by unfold lp_V; rw [ms_220]; exact ⟨mo_220, ⟨_, rfl, rfl⟩, 2, rfl, wd_1548, wd_1550, wd_68, mk_220⟩
theorem wd_1536 : Jvm.Cond.methodLink RX12 260 yX12_refusesBuy ∈ ci_T := tb_7 (i := 7) rfl rfl
theorem wd_1538 : Jvm.Cond.instanceMethod yX12_refusesBuy ∈ ci_T := tb_7 (i := 9) rfl rfl
theorem wd_65 : Jvm.Cond.selects RX12 yX12_refusesBuy yX12_refusesBuy ∈ ci_T := pv_5 (i := 1) rfl rfl
theorem lv9_12_260 : lp_V (12, 260, 222, 12) := by unfold lp_V; rw [ms_222]; exact ⟨mo_222, ⟨_, rfl, rfl⟩, 2, rfl, wd_1536, wd_1538, wd_65, mk_222⟩
theorem wd_1552 : Jvm.Cond.methodLink RX12 263 yX12_remember ∈ ci_T := tb_7 (i := 23) rfl rfl
theorem wd_1554 : Jvm.Cond.instanceMethod yX12_remember ∈ ci_T := tb_7 (i := 25) rfl rfl
theorem wd_69 : Jvm.Cond.selects RX12 yX12_remember yX12_remember ∈ ci_T := pv_5 (i := 5) rfl rfl
theorem lv9_12_263 : lp_V (12, 263, 217, 12) := by unfold lp_V; rw [ms_217]; exact ⟨mo_217, ⟨_, rfl, rfl⟩, 1, rfl, wd_1552, wd_1554, wd_69, mk_217⟩
theorem wd_1559 : Jvm.Cond.methodLink RX12 267 yX12_goBuy ∈ ci_T := tb_7 (i := 30) rfl rfl
theorem wd_1561 : Jvm.Cond.instanceMethod yX12_goBuy ∈ ci_T := tb_7 (i := 32) rfl rfl
theorem wd_70 : Jvm.Cond.selects RX12 yX12_goBuy yX12_goBuy ∈ ci_T := pv_5 (i := 6) rfl rfl
theorem lv9_12_267 : lp_V (12, 267, 223, 12) := by unfold lp_V; rw [ms_223]; exact ⟨mo_223, ⟨_, rfl, rfl⟩, 2, rfl, wd_1559, wd_1561, wd_70, mk_223⟩
theorem wd_1570 : Jvm.Cond.methodLink RX12 270 yX12_refusesGive ∈ ci_T := tb_7 (i := 41) rfl rfl
theorem wd_1572 : Jvm.Cond.instanceMethod yX12_refusesGive ∈ ci_T := tb_7 (i := 43) rfl rfl
theorem wd_71 : Jvm.Cond.selects RX12 yX12_refusesGive yX12_refusesGive ∈ ci_T := pv_5 (i := 7) rfl rfl
theorem lv9_12_270 : lp_V (12, 270, 225, 12) := by unfold lp_V; rw [ms_225]; exact ⟨mo_225, ⟨_, rfl, rfl⟩, 2, rfl, wd_1570, wd_1572, wd_71, mk_225⟩
theorem wd_1578 : Jvm.Cond.methodLink RX12 273 yX12_refusesLend ∈ ci_T := tb_7 (i := 49) rfl rfl
theorem wd_1580 : Jvm.Cond.instanceMethod yX12_refusesLend ∈ ci_T := tb_7 (i := 51) rfl rfl
theorem wd_72 : Jvm.Cond.selects RX12 yX12_refusesLend yX12_refusesLend ∈ ci_T := pv_5 (i := 8) rfl rfl
theorem lv9_12_273 : lp_V (12, 273, 227, 12) := by unfold lp_V; rw [ms_227]; exact ⟨mo_227, ⟨_, rfl, rfl⟩, 2, rfl, wd_1578, wd_1580, wd_72, mk_227⟩
theorem wd_1586 : Jvm.Cond.methodLink RX12 276 yX12_refusesClaim ∈ ci_T := tb_7 (i := 57) rfl rfl
theorem wd_1588 : Jvm.Cond.instanceMethod yX12_refusesClaim ∈ ci_T := tb_7 (i := 59) rfl rfl
theorem wd_73 : Jvm.Cond.selects RX12 yX12_refusesClaim yX12_refusesClaim ∈ ci_T := pv_5 (i := 9) rfl rfl
theorem lv9_12_276 : lp_V (12, 276, 229, 12) := by unfold lp_V; rw [ms_229]; exact ⟨mo_229, ⟨_, rfl, rfl⟩, 2, rfl, wd_1586, wd_1588, wd_73, mk_229⟩
theorem wd_1606 : Jvm.Cond.methodLink RX12 279 yX12_lastOf ∈ ci_T := tb_7 (i := 77) rfl rfl
theorem wd_1608 : Jvm.Cond.instanceMethod yX12_lastOf ∈ ci_T := tb_7 (i := 79) rfl rfl
theorem wd_76 : Jvm.Cond.selects RX12 yX12_lastOf yX12_lastOf ∈ ci_T := pv_5 (i := 12) rfl rfl
theorem lv9_12_279 : lp_V (12, 279, 232, 12) := by unfold lp_V; rw [ms_232]; exact ⟨mo_232, ⟨_, rfl, rfl⟩, 3, rfl, wd_1606, wd_1608, wd_76, mk_232⟩
theorem wd_1602 : Jvm.Cond.methodLink RX12 282 yX12_goHour ∈ ci_T := tb_7 (i := 73) rfl rfl
theorem wd_1604 : Jvm.Cond.instanceMethod yX12_goHour ∈ ci_T := tb_7 (i := 75) rfl rfl
theorem wd_75 : Jvm.Cond.selects RX12 yX12_goHour yX12_goHour ∈ ci_T := pv_5 (i := 11) rfl rfl
theorem lv9_12_282 : lp_V (12, 282, 233, 12) := by unfold lp_V; rw [ms_233]; exact ⟨mo_233, ⟨_, rfl, rfl⟩, 1, rfl, wd_1602, wd_1604, wd_75, mk_233⟩
theorem wd_1598 : Jvm.Cond.methodLink RX12 286 yX12_goHours ∈ ci_T := tb_7 (i := 69) rfl rfl
theorem wd_1600 : Jvm.Cond.instanceMethod yX12_goHours ∈ ci_T := tb_7 (i := 71) rfl rfl
theorem wd_74 : Jvm.Cond.selects RX12 yX12_goHours yX12_goHours ∈ ci_T := pv_5 (i := 10) rfl rfl
theorem lv9_12_286 : lp_V (12, 286, 234, 12) := by unfold lp_V; rw [ms_234]; exact ⟨mo_234, ⟨_, rfl, rfl⟩, 2, rfl, wd_1598, wd_1600, wd_74, mk_234⟩
theorem wd_1610 : Jvm.Cond.methodLink RX12 289 yX12_tell ∈ ci_T := tb_7 (i := 81) rfl rfl
theorem wd_1612 : Jvm.Cond.instanceMethod yX12_tell ∈ ci_T := tb_7 (i := 83) rfl rfl
theorem wd_77 : Jvm.Cond.selects RX12 yX12_tell yX12_tell ∈ ci_T := pv_5 (i := 13) rfl rfl
theorem lv9_12_289 : lp_V (12, 289, 173, 12) := by unfold lp_V; rw [ms_173]; exact ⟨mo_173, ⟨_, rfl, rfl⟩, 1, rfl, wd_1610, wd_1612, wd_77, mk_173⟩
theorem wd_1618 : Jvm.Cond.methodLink RX12 293 yX12_readAct ∈ ci_T := tb_7 (i := 89) rfl rfl
theorem wd_1620 : Jvm.Cond.instanceMethod yX12_readAct ∈ ci_T := tb_7 (i := 91) rfl rfl
theorem wd_78 : Jvm.Cond.selects RX12 yX12_readAct yX12_readAct ∈ ci_T := pv_5 (i := 14) rfl rfl
theorem lv9_12_293 : lp_V (12, 293, 237, 12) := by unfold lp_V; rw [ms_237]; exact ⟨mo_237, ⟨_, rfl, rfl⟩, 1, rfl, wd_1618, wd_1620, wd_78, mk_237⟩
theorem wd_1622 : Jvm.Cond.methodLink RX12 296 yX12_act ∈ ci_T := tb_7 (i := 93) rfl rfl
theorem wd_1624 : Jvm.Cond.instanceMethod yX12_act ∈ ci_T := tb_7 (i := 95) rfl rfl
theorem wd_79 : Jvm.Cond.selects RX12 yX12_act yX12_act ∈ ci_T := pv_5 (i := 15) rfl rfl
theorem lv9_12_296 : lp_V (12, 296, 238, 12) := by unfold lp_V; rw [ms_238]; exact ⟨mo_238, ⟨_, rfl, rfl⟩, 3, rfl, wd_1622, wd_1624, wd_79, mk_238⟩
theorem wd_1626 : Jvm.Cond.methodLink RX12 299 yX12_brokenHouses ∈ ci_T := tb_7 (i := 97) rfl rfl
theorem wd_1628 : Jvm.Cond.instanceMethod yX12_brokenHouses ∈ ci_T := tb_7 (i := 99) rfl rfl
theorem wd_80 : Jvm.Cond.selects RX12 yX12_brokenHouses yX12_brokenHouses ∈ ci_T := pv_6 (i := 0) rfl rfl
theorem lv9_12_299 : lp_V (12, 299, 207, 12) := by unfold lp_V; rw [ms_207]; exact ⟨mo_207, ⟨_, rfl, rfl⟩, 1, rfl, wd_1626, wd_1628, wd_80, mk_207⟩
theorem wd_1650 : Jvm.Cond.methodLink RX12 302 yX12_mayKeep ∈ ci_T := tb_7 (i := 121) rfl rfl
theorem wd_1652 : Jvm.Cond.instanceMethod yX12_mayKeep ∈ ci_T := tb_7 (i := 123) rfl rfl
theorem wd_81 : Jvm.Cond.selects RX12 yX12_mayKeep yX12_mayKeep ∈ ci_T := pv_6 (i := 1) rfl rfl
theorem lv9_12_302 : lp_V (12, 302, 243, 12) := by unfold lp_V; rw [ms_243]; exact ⟨mo_243, ⟨_, rfl, rfl⟩, 2, rfl, wd_1650, wd_1652, wd_81, mk_243⟩
theorem wd_1675 : Jvm.Cond.methodLink RX12 308 yX12_goStore ∈ ci_T := tb_7 (i := 146) rfl rfl
theorem wd_1677 : Jvm.Cond.instanceMethod yX12_goStore ∈ ci_T := tb_7 (i := 148) rfl rfl
theorem wd_83 : Jvm.Cond.selects RX12 yX12_goStore yX12_goStore ∈ ci_T := pv_6 (i := 3) rfl rfl
theorem lv9_12_308 : lp_V (12, 308, 248, 12) := by unfold lp_V; rw [ms_248]; exact ⟨mo_248, ⟨_, rfl, rfl⟩, 3, rfl, wd_1675, wd_1677, wd_83, mk_248⟩
theorem wd_1670 : Jvm.Cond.methodLink RX12 312 yX12_areThings ∈ ci_T := tb_7 (i := 141) rfl rfl
theorem wd_1672 : Jvm.Cond.instanceMethod yX12_areThings ∈ ci_T := tb_7 (i := 143) rfl rfl
theorem wd_82 : Jvm.Cond.selects RX12 yX12_areThings yX12_areThings ∈ ci_T := pv_6 (i := 2) rfl rfl
theorem lv9_12_312 : lp_V (12, 312, 177, 12) := by unfold lp_V; rw [ms_177]; exact ⟨mo_177, ⟨_, rfl, rfl⟩, 1, rfl, wd_1670, wd_1672, wd_82, mk_177⟩
theorem wd_1695 : Jvm.Cond.methodLink RX12 316 yX12_withAll ∈ ci_T := tb_7 (i := 166) rfl rfl
theorem wd_1697 : Jvm.Cond.instanceMethod yX12_withAll ∈ ci_T := tb_7 (i := 168) rfl rfl
theorem wd_84 : Jvm.Cond.selects RX12 yX12_withAll yX12_withAll ∈ ci_T := pv_6 (i := 4) rfl rfl
theorem lv9_12_316 : lp_V (12, 316, 253, 12) := by unfold lp_V; rw [ms_253]; exact ⟨mo_253, ⟨_, rfl, rfl⟩, 2, rfl, wd_1695, wd_1697, wd_84, mk_253⟩
theorem wd_1706 : Jvm.Cond.methodLink RX12 325 yX12_goDeal ∈ ci_T := tb_7 (i := 177) rfl rfl
theorem wd_1708 : Jvm.Cond.instanceMethod yX12_goDeal ∈ ci_T := tb_7 (i := 179) rfl rfl
theorem wd_85 : Jvm.Cond.selects RX12 yX12_goDeal yX12_goDeal ∈ ci_T := pv_6 (i := 5) rfl rfl
theorem lv9_12_325 : lp_V (12, 325, 256, 12) := by unfold lp_V; rw [ms_256]; exact ⟨mo_256, ⟨_, rfl, rfl⟩, 3, rfl, wd_1706, wd_1708, wd_85, mk_256⟩
theorem wd_1744 : Jvm.Cond.methodLink RX12 341 yX12_fits ∈ ci_T := tb_7 (i := 215) rfl rfl
theorem wd_1746 : Jvm.Cond.instanceMethod yX12_fits ∈ ci_T := tb_7 (i := 217) rfl rfl
theorem wd_86 : Jvm.Cond.selects RX12 yX12_fits yX12_fits ∈ ci_T := pv_6 (i := 6) rfl rfl
theorem lv9_12_341 : lp_V (12, 341, 266, 12) := by unfold lp_V; rw [ms_266]; exact ⟨mo_266, ⟨_, rfl, rfl⟩, 0, rfl, wd_1744, wd_1746, wd_86, mk_266⟩
theorem wd_1756 : Jvm.Cond.methodLink RX12 357 yX12_seesBy ∈ ci_T := tb_7 (i := 227) rfl rfl
theorem wd_1758 : Jvm.Cond.instanceMethod yX12_seesBy ∈ ci_T := tb_7 (i := 229) rfl rfl
theorem wd_87 : Jvm.Cond.selects RX12 yX12_seesBy yX12_seesBy ∈ ci_T := pv_6 (i := 7) rfl rfl
theorem lv9_12_357 : lp_V (12, 357, 270, 12) := by unfold lp_V; rw [ms_270]; exact ⟨mo_270, ⟨_, rfl, rfl⟩, 3, rfl, wd_1756, wd_1758, wd_87, mk_270⟩
theorem wd_1784 : Jvm.Cond.methodLink RX12 376 yX12_draw ∈ ci_T := tb_8 (i := 15) rfl rfl
theorem wd_1786 : Jvm.Cond.instanceMethod yX12_draw ∈ ci_T := tb_8 (i := 17) rfl rfl
theorem wd_88 : Jvm.Cond.selects RX12 yX12_draw yX12_draw ∈ ci_T := pv_6 (i := 8) rfl rfl
theorem lv9_12_376 : lp_V (12, 376, 276, 12) := by unfold lp_V; rw [ms_276]; exact ⟨mo_276, ⟨_, rfl, rfl⟩, 1, rfl, wd_1784, wd_1786, wd_88, mk_276⟩
theorem wd_451 : Jvm.Cond.methodLink "TwoAtMostLaw" 29 yX11_sign ∈ ci_T := tb_2 (i := 122) rfl rfl
theorem wd_452 : Jvm.Cond.instanceMethod yX11_sign ∈ ci_T := tb_2 (i := 123) rfl rfl
theorem wd_453 : Jvm.Cond.selects RX11 yX11_sign yX11_sign ∈ ci_T := tb_2 (i := 124) rfl rfl
theorem lv9_14_29 : lp_V (14, 29, 95, 11) := by unfold lp_V; rw [ms_95]; exact ⟨mo_95, ⟨_, rfl, rfl⟩, 1, rfl, wd_451, wd_452, wd_453, mk_95⟩
theorem wd_1360 : Jvm.Cond.methodLink "TwoAtMostLaw" 33 yX12_sign ∈ ci_T := tb_6 (i := 71) rfl rfl
theorem wd_1361 : Jvm.Cond.instanceMethod yX12_sign ∈ ci_T := tb_6 (i := 72) rfl rfl
theorem wd_1362 : Jvm.Cond.selects RX12 yX12_sign yX12_sign ∈ ci_T := tb_6 (i := 73) rfl rfl
theorem lv9_14_33 : lp_V (14, 33, 178, 12) := by unfold lp_V; rw [ms_178]; exact ⟨mo_178, ⟨_, rfl, rfl⟩, 1, rfl, wd_1360, wd_1361, wd_1362, mk_178⟩
theorem wd_459 : Jvm.Cond.methodLink "TwoAtMostLaw" 34 yX11_end ∈ ci_T := tb_2 (i := 130) rfl rfl
theorem wd_460 : Jvm.Cond.instanceMethod yX11_end ∈ ci_T := tb_2 (i := 131) rfl rfl
theorem wd_461 : Jvm.Cond.selects RX11 yX11_end yX11_end ∈ ci_T := tb_2 (i := 132) rfl rfl
theorem lv9_14_34 : lp_V (14, 34, 96, 11) := by unfold lp_V; rw [ms_96]; exact ⟨mo_96, ⟨_, rfl, rfl⟩, 1, rfl, wd_459, wd_460, wd_461, mk_96⟩
theorem wd_1364 : Jvm.Cond.methodLink "TwoAtMostLaw" 38 yX12_end ∈ ci_T := tb_6 (i := 75) rfl rfl
theorem wd_1365 : Jvm.Cond.instanceMethod yX12_end ∈ ci_T := tb_6 (i := 76) rfl rfl
theorem wd_1366 : Jvm.Cond.selects RX12 yX12_end yX12_end ∈ ci_T := tb_6 (i := 77) rfl rfl
theorem lv9_14_38 : lp_V (14, 38, 179, 12) := by unfold lp_V; rw [ms_179]; exact ⟨mo_179, ⟨_, rfl, rfl⟩, 1, rfl, wd_1364, wd_1365, wd_1366, mk_179⟩
theorem wd_463 : Jvm.Cond.methodLink "TwoAtMostLaw" 39 yX11_houses ∈ ci_T := tb_2 (i := 134) rfl rfl
theorem wd_464 : Jvm.Cond.instanceMethod yX11_houses ∈ ci_T := tb_2 (i := 135) rfl rfl
theorem wd_465 : Jvm.Cond.selects RX11 yX11_houses yX11_houses ∈ ci_T := tb_2 (i := 136) rfl rfl
theorem lv9_14_39 : lp_V (14, 39, 97, 11) := by unfold lp_V; rw [ms_97]; exact ⟨mo_97, ⟨_, rfl, rfl⟩, 1, rfl, wd_463, wd_464, wd_465, mk_97⟩
theorem wd_1371 : Jvm.Cond.methodLink "TwoAtMostLaw" 42 yX12_houses ∈ ci_T := tb_6 (i := 82) rfl rfl
theorem wd_1372 : Jvm.Cond.instanceMethod yX12_houses ∈ ci_T := tb_6 (i := 83) rfl rfl
theorem wd_1373 : Jvm.Cond.selects RX12 yX12_houses yX12_houses ∈ ci_T := tb_6 (i := 84) rfl rfl
theorem lv9_14_42 : lp_V (14, 42, 191, 12) := by unfold lp_V; rw [ms_191]; exact ⟨mo_191, ⟨_, rfl, rfl⟩, 1, rfl, wd_1371, wd_1372, wd_1373, mk_191⟩
theorem wd_476 : Jvm.Cond.methodLink "TwoAtMostLaw" 43 yX11_things ∈ ci_T := tb_2 (i := 147) rfl rfl
theorem wd_477 : Jvm.Cond.instanceMethod yX11_things ∈ ci_T := tb_2 (i := 148) rfl rfl
theorem wd_478 : Jvm.Cond.selects RX11 yX11_things yX11_things ∈ ci_T := tb_2 (i := 149) rfl rfl
theorem lv9_14_43 : lp_V (14, 43, 98, 11) := by unfold lp_V; rw [ms_98]; exact ⟨mo_98, ⟨_, rfl, rfl⟩, 0, rfl, wd_476, wd_477, wd_478, mk_98⟩
theorem wd_1375 : Jvm.Cond.methodLink "TwoAtMostLaw" 47 yX12_things ∈ ci_T := tb_6 (i := 86) rfl rfl
theorem wd_1376 : Jvm.Cond.instanceMethod yX12_things ∈ ci_T := tb_6 (i := 87) rfl rfl
theorem wd_1377 : Jvm.Cond.selects RX12 yX12_things yX12_things ∈ ci_T := tb_6 (i := 88) rfl rfl
theorem lv9_14_47 : lp_V (14, 47, 192, 12) := by unfold lp_V; rw [ms_192]; exact ⟨mo_192, ⟨_, rfl, rfl⟩, 0, rfl, wd_1375, wd_1376, wd_1377, mk_192⟩
theorem wd_527 : Jvm.Cond.methodLink "TwoAtMostLaw" 48 yX11_kinds ∈ ci_T := tb_2 (i := 198) rfl rfl
theorem wd_528 : Jvm.Cond.instanceMethod yX11_kinds ∈ ci_T := tb_2 (i := 199) rfl rfl
theorem wd_529 : Jvm.Cond.selects RX11 yX11_kinds yX11_kinds ∈ ci_T := tb_2 (i := 200) rfl rfl
theorem lv9_14_48 : lp_V (14, 48, 99, 11) := by unfold lp_V; rw [ms_99]; exact ⟨mo_99, ⟨_, rfl, rfl⟩, 0, rfl, wd_527, wd_528, wd_529, mk_99⟩
theorem wd_1419 : Jvm.Cond.methodLink "TwoAtMostLaw" 51 yX12_kinds ∈ ci_T := tb_6 (i := 130) rfl rfl
theorem wd_1420 : Jvm.Cond.instanceMethod yX12_kinds ∈ ci_T := tb_6 (i := 131) rfl rfl
theorem wd_1421 : Jvm.Cond.selects RX12 yX12_kinds yX12_kinds ∈ ci_T := tb_6 (i := 132) rfl rfl
theorem lv9_14_51 : lp_V (14, 51, 193, 12) := by unfold lp_V; rw [ms_193]; exact ⟨mo_193, ⟨_, rfl, rfl⟩, 0, rfl, wd_1419, wd_1420, wd_1421, mk_193⟩
theorem wd_543 : Jvm.Cond.methodLink "TwoAtMostLaw" 52 yX11_rule ∈ ci_T := tb_2 (i := 214) rfl rfl
theorem wd_544 : Jvm.Cond.instanceMethod yX11_rule ∈ ci_T := tb_2 (i := 215) rfl rfl
theorem wd_545 : Jvm.Cond.selects RX11 yX11_rule yX11_rule ∈ ci_T := tb_2 (i := 216) rfl rfl
theorem lv9_14_52 : lp_V (14, 52, 100, 11) := by unfold lp_V; rw [ms_100]; exact ⟨mo_100, ⟨_, rfl, rfl⟩, 0, rfl, wd_543, wd_544, wd_545, mk_100⟩
theorem wd_1423 : Jvm.Cond.methodLink "TwoAtMostLaw" 55 yX12_rule ∈ ci_T := tb_6 (i := 134) rfl rfl
theorem wd_1424 : Jvm.Cond.instanceMethod yX12_rule ∈ ci_T := tb_6 (i := 135) rfl rfl
theorem wd_1425 : Jvm.Cond.selects RX12 yX12_rule yX12_rule ∈ ci_T := tb_6 (i := 136) rfl rfl
theorem lv9_14_55 : lp_V (14, 55, 199, 12) := by unfold lp_V; rw [ms_199]; exact ⟨mo_199, ⟨_, rfl, rfl⟩, 0, rfl, wd_1423, wd_1424, wd_1425, mk_199⟩
theorem wd_1454 : Jvm.Cond.methodLink "TwoAtMostLaw" 61 yX12_thing ∈ ci_T := tb_6 (i := 165) rfl rfl
theorem wd_1455 : Jvm.Cond.instanceMethod yX12_thing ∈ ci_T := tb_6 (i := 166) rfl rfl
theorem wd_1456 : Jvm.Cond.selects RX12 yX12_thing yX12_thing ∈ ci_T := tb_6 (i := 167) rfl rfl
theorem lv9_14_61 : lp_V (14, 61, 210, 12) := by unfold lp_V; rw [ms_210]; exact ⟨mo_210, ⟨_, rfl, rfl⟩, 2, rfl, wd_1454, wd_1455, wd_1456, mk_210⟩
theorem wd_1356 : Jvm.Cond.methodLink "TwoAtMostLaw" 62 yX12_thrown ∈ ci_T := tb_6 (i := 67) rfl rfl
theorem wd_1357 : Jvm.Cond.instanceMethod yX12_thrown ∈ ci_T := tb_6 (i := 68) rfl rfl
theorem wd_1358 : Jvm.Cond.selects RX12 yX12_thrown yX12_thrown ∈ ci_T := tb_6 (i := 69) rfl rfl
theorem lv9_14_62 : lp_V (14, 62, 169, 12) := by unfold lp_V; rw [ms_169]; exact ⟨mo_169, ⟨_, rfl, rfl⟩, 0, rfl, wd_1356, wd_1357, wd_1358, mk_169⟩
theorem wd_1478 : Jvm.Cond.methodLink "TwoAtMostLaw" 67 yX12_kind ∈ ci_T := tb_6 (i := 189) rfl rfl
theorem wd_1479 : Jvm.Cond.instanceMethod yX12_kind ∈ ci_T := tb_6 (i := 190) rfl rfl
theorem wd_1480 : Jvm.Cond.selects RX12 yX12_kind yX12_kind ∈ ci_T := tb_6 (i := 191) rfl rfl
theorem lv9_14_67 : lp_V (14, 67, 211, 12) := by unfold lp_V; rw [ms_211]; exact ⟨mo_211, ⟨_, rfl, rfl⟩, 2, rfl, wd_1478, wd_1479, wd_1480, mk_211⟩
theorem wd_1486 : Jvm.Cond.methodLink "TwoAtMostLaw" 70 yX12_house ∈ ci_T := tb_6 (i := 197) rfl rfl
theorem wd_1487 : Jvm.Cond.instanceMethod yX12_house ∈ ci_T := tb_6 (i := 198) rfl rfl
theorem wd_1488 : Jvm.Cond.selects RX12 yX12_house yX12_house ∈ ci_T := tb_6 (i := 199) rfl rfl
theorem lv9_14_70 : lp_V (14, 70, 212, 12) := by unfold lp_V; rw [ms_212]; exact ⟨mo_212, ⟨_, rfl, rfl⟩, 2, rfl, wd_1486, wd_1487, wd_1488, mk_212⟩
theorem wd_604 : Jvm.Cond.methodLink "TwoAtMostLaw" 71 yX11_worth ∈ ci_T := tb_3 (i := 35) rfl rfl
theorem wd_605 : Jvm.Cond.instanceMethod yX11_worth ∈ ci_T := tb_3 (i := 36) rfl rfl
theorem wd_606 : Jvm.Cond.selects RX11 yX11_worth yX11_worth ∈ ci_T := tb_3 (i := 37) rfl rfl
theorem lv9_14_71 : lp_V (14, 71, 104, 11) := by unfold lp_V; rw [ms_104]; exact ⟨mo_104, ⟨_, rfl, rfl⟩, 2, rfl, wd_604, wd_605, wd_606, mk_104⟩
theorem wd_1514 : Jvm.Cond.methodLink "TwoAtMostLaw" 74 yX12_worth ∈ ci_T := tb_6 (i := 225) rfl rfl
theorem wd_1515 : Jvm.Cond.instanceMethod yX12_worth ∈ ci_T := tb_6 (i := 226) rfl rfl
theorem wd_1516 : Jvm.Cond.selects RX12 yX12_worth yX12_worth ∈ ci_T := tb_6 (i := 227) rfl rfl
theorem lv9_14_74 : lp_V (14, 74, 213, 12) := by unfold lp_V; rw [ms_213]; exact ⟨mo_213, ⟨_, rfl, rfl⟩, 2, rfl, wd_1514, wd_1515, wd_1516, mk_213⟩
theorem wd_651 : Jvm.Cond.methodLink "TwoAtMostLaw" 75 yX11_set ∈ ci_T := tb_3 (i := 82) rfl rfl
theorem wd_652 : Jvm.Cond.instanceMethod yX11_set ∈ ci_T := tb_3 (i := 83) rfl rfl
theorem wd_653 : Jvm.Cond.selects RX11 yX11_set yX11_set ∈ ci_T := tb_3 (i := 84) rfl rfl
theorem lv9_14_75 : lp_V (14, 75, 105, 11) := by unfold lp_V; rw [ms_105]; exact ⟨mo_105, ⟨_, rfl, rfl⟩, 1, rfl, wd_651, wd_652, wd_653, mk_105⟩
theorem wd_1524 : Jvm.Cond.methodLink "TwoAtMostLaw" 78 yX12_set ∈ ci_T := tb_6 (i := 235) rfl rfl
theorem wd_1525 : Jvm.Cond.instanceMethod yX12_set ∈ ci_T := tb_6 (i := 236) rfl rfl
theorem wd_1526 : Jvm.Cond.selects RX12 yX12_set yX12_set ∈ ci_T := tb_6 (i := 237) rfl rfl
theorem lv9_14_78 : lp_V (14, 78, 214, 12) := by unfold lp_V; rw [ms_214]; exact ⟨mo_214, ⟨_, rfl, rfl⟩, 1, rfl, wd_1524, wd_1525, wd_1526, mk_214⟩
theorem wd_655 : Jvm.Cond.methodLink "TwoAtMostLaw" 79 yX11_sheet ∈ ci_T := tb_3 (i := 86) rfl rfl
theorem wd_656 : Jvm.Cond.instanceMethod yX11_sheet ∈ ci_T := tb_3 (i := 87) rfl rfl
theorem wd_657 : Jvm.Cond.selects RX11 yX11_sheet yX11_sheet ∈ ci_T := tb_3 (i := 88) rfl rfl
theorem lv9_14_79 : lp_V (14, 79, 106, 11) := by unfold lp_V; rw [ms_106]; exact ⟨mo_106, ⟨_, rfl, rfl⟩, 4, rfl, wd_655, wd_656, wd_657, mk_106⟩
theorem wd_1528 : Jvm.Cond.methodLink "TwoAtMostLaw" 83 yX12_sheet ∈ ci_T := tb_6 (i := 239) rfl rfl
theorem wd_1529 : Jvm.Cond.instanceMethod yX12_sheet ∈ ci_T := tb_7 (i := 0) rfl rfl
theorem wd_1530 : Jvm.Cond.selects RX12 yX12_sheet yX12_sheet ∈ ci_T := tb_7 (i := 1) rfl rfl
theorem lv9_14_83 : lp_V (14, 83, 215, 12) := by unfold lp_V; rw [ms_215]; exact ⟨mo_215, ⟨_, rfl, rfl⟩, 4, rfl, wd_1528, wd_1529, wd_1530, mk_215⟩
theorem wd_664 : Jvm.Cond.methodLink "TwoAtMostLaw" 84 yX11_buy ∈ ci_T := tb_3 (i := 95) rfl rfl
theorem wd_665 : Jvm.Cond.instanceMethod yX11_buy ∈ ci_T := tb_3 (i := 96) rfl rfl
theorem wd_666 : Jvm.Cond.selects RX11 yX11_buy yX11_buy ∈ ci_T := tb_3 (i := 97) rfl rfl
theorem lv9_14_84 : lp_V (14, 84, 107, 11) := by unfold lp_V; rw [ms_107]; exact ⟨mo_107, ⟨_, rfl, rfl⟩, 2, rfl, wd_664, wd_665, wd_666, mk_107⟩
theorem wd_1532 : Jvm.Cond.methodLink "TwoAtMostLaw" 87 yX12_buy ∈ ci_T := tb_7 (i := 3) rfl rfl
theorem wd_1533 : Jvm.Cond.instanceMethod yX12_buy ∈ ci_T := tb_7 (i := 4) rfl rfl
theorem wd_1534 : Jvm.Cond.selects RX12 yX12_buy yX12_buy ∈ ci_T := tb_7 (i := 5) rfl rfl
theorem lv9_14_87 : lp_V (14, 87, 224, 12) := by unfold lp_V; rw [ms_224]; exact ⟨mo_224, ⟨_, rfl, rfl⟩, 2, rfl, wd_1532, wd_1533, wd_1534, mk_224⟩
theorem wd_767 : Jvm.Cond.methodLink "TwoAtMostLaw" 88 yX11_give ∈ ci_T := tb_3 (i := 198) rfl rfl
theorem wd_768 : Jvm.Cond.instanceMethod yX11_give ∈ ci_T := tb_3 (i := 199) rfl rfl
theorem wd_769 : Jvm.Cond.selects RX11 yX11_give yX11_give ∈ ci_T := tb_3 (i := 200) rfl rfl
theorem lv9_14_88 : lp_V (14, 88, 108, 11) := by unfold lp_V; rw [ms_108]; exact ⟨mo_108, ⟨_, rfl, rfl⟩, 2, rfl, wd_767, wd_768, wd_769, mk_108⟩
theorem wd_1566 : Jvm.Cond.methodLink "TwoAtMostLaw" 91 yX12_give ∈ ci_T := tb_7 (i := 37) rfl rfl
theorem wd_1567 : Jvm.Cond.instanceMethod yX12_give ∈ ci_T := tb_7 (i := 38) rfl rfl
theorem wd_1568 : Jvm.Cond.selects RX12 yX12_give yX12_give ∈ ci_T := tb_7 (i := 39) rfl rfl
theorem lv9_14_91 : lp_V (14, 91, 226, 12) := by unfold lp_V; rw [ms_226]; exact ⟨mo_226, ⟨_, rfl, rfl⟩, 2, rfl, wd_1566, wd_1567, wd_1568, mk_226⟩
theorem wd_771 : Jvm.Cond.methodLink "TwoAtMostLaw" 92 yX11_lend ∈ ci_T := tb_3 (i := 202) rfl rfl
theorem wd_772 : Jvm.Cond.instanceMethod yX11_lend ∈ ci_T := tb_3 (i := 203) rfl rfl
theorem wd_773 : Jvm.Cond.selects RX11 yX11_lend yX11_lend ∈ ci_T := tb_3 (i := 204) rfl rfl
theorem lv9_14_92 : lp_V (14, 92, 109, 11) := by unfold lp_V; rw [ms_109]; exact ⟨mo_109, ⟨_, rfl, rfl⟩, 2, rfl, wd_771, wd_772, wd_773, mk_109⟩
theorem wd_1574 : Jvm.Cond.methodLink "TwoAtMostLaw" 95 yX12_lend ∈ ci_T := tb_7 (i := 45) rfl rfl
theorem wd_1575 : Jvm.Cond.instanceMethod yX12_lend ∈ ci_T := tb_7 (i := 46) rfl rfl
theorem wd_1576 : Jvm.Cond.selects RX12 yX12_lend yX12_lend ∈ ci_T := tb_7 (i := 47) rfl rfl
theorem lv9_14_95 : lp_V (14, 95, 228, 12) := by unfold lp_V; rw [ms_228]; exact ⟨mo_228, ⟨_, rfl, rfl⟩, 2, rfl, wd_1574, wd_1575, wd_1576, mk_228⟩
theorem wd_775 : Jvm.Cond.methodLink "TwoAtMostLaw" 96 yX11_claim ∈ ci_T := tb_3 (i := 206) rfl rfl
theorem wd_776 : Jvm.Cond.instanceMethod yX11_claim ∈ ci_T := tb_3 (i := 207) rfl rfl
theorem wd_777 : Jvm.Cond.selects RX11 yX11_claim yX11_claim ∈ ci_T := tb_3 (i := 208) rfl rfl
theorem lv9_14_96 : lp_V (14, 96, 110, 11) := by unfold lp_V; rw [ms_110]; exact ⟨mo_110, ⟨_, rfl, rfl⟩, 2, rfl, wd_775, wd_776, wd_777, mk_110⟩
theorem wd_1582 : Jvm.Cond.methodLink "TwoAtMostLaw" 99 yX12_claim ∈ ci_T := tb_7 (i := 53) rfl rfl
theorem wd_1583 : Jvm.Cond.instanceMethod yX12_claim ∈ ci_T := tb_7 (i := 54) rfl rfl
theorem wd_1584 : Jvm.Cond.selects RX12 yX12_claim yX12_claim ∈ ci_T := tb_7 (i := 55) rfl rfl
theorem lv9_14_99 : lp_V (14, 99, 230, 12) := by unfold lp_V; rw [ms_230]; exact ⟨mo_230, ⟨_, rfl, rfl⟩, 2, rfl, wd_1582, wd_1583, wd_1584, mk_230⟩
theorem wd_779 : Jvm.Cond.methodLink "TwoAtMostLaw" 100 yX11_paint ∈ ci_T := tb_3 (i := 210) rfl rfl
theorem wd_780 : Jvm.Cond.instanceMethod yX11_paint ∈ ci_T := tb_3 (i := 211) rfl rfl
theorem wd_781 : Jvm.Cond.selects RX11 yX11_paint yX11_paint ∈ ci_T := tb_3 (i := 212) rfl rfl
theorem lv9_14_100 : lp_V (14, 100, 111, 11) := by unfold lp_V; rw [ms_111]; exact ⟨mo_111, ⟨_, rfl, rfl⟩, 2, rfl, wd_779, wd_780, wd_781, mk_111⟩
theorem wd_1590 : Jvm.Cond.methodLink "TwoAtMostLaw" 103 yX12_paint ∈ ci_T := tb_7 (i := 61) rfl rfl
theorem wd_1591 : Jvm.Cond.instanceMethod yX12_paint ∈ ci_T := tb_7 (i := 62) rfl rfl
theorem wd_1592 : Jvm.Cond.selects RX12 yX12_paint yX12_paint ∈ ci_T := tb_7 (i := 63) rfl rfl
theorem lv9_14_103 : lp_V (14, 103, 231, 12) := by unfold lp_V; rw [ms_231]; exact ⟨mo_231, ⟨_, rfl, rfl⟩, 2, rfl, wd_1590, wd_1591, wd_1592, mk_231⟩
theorem wd_783 : Jvm.Cond.methodLink "TwoAtMostLaw" 104 yX11_hours ∈ ci_T := tb_3 (i := 214) rfl rfl
theorem wd_784 : Jvm.Cond.instanceMethod yX11_hours ∈ ci_T := tb_3 (i := 215) rfl rfl
theorem wd_785 : Jvm.Cond.selects RX11 yX11_hours yX11_hours ∈ ci_T := tb_3 (i := 216) rfl rfl
theorem lv9_14_104 : lp_V (14, 104, 112, 11) := by unfold lp_V; rw [ms_112]; exact ⟨mo_112, ⟨_, rfl, rfl⟩, 1, rfl, wd_783, wd_784, wd_785, mk_112⟩
theorem wd_1594 : Jvm.Cond.methodLink "TwoAtMostLaw" 107 yX12_hours ∈ ci_T := tb_7 (i := 65) rfl rfl
theorem wd_1595 : Jvm.Cond.instanceMethod yX12_hours ∈ ci_T := tb_7 (i := 66) rfl rfl
theorem wd_1596 : Jvm.Cond.selects RX12 yX12_hours yX12_hours ∈ ci_T := tb_7 (i := 67) rfl rfl
theorem lv9_14_107 : lp_V (14, 107, 235, 12) := by unfold lp_V; rw [ms_235]; exact ⟨mo_235, ⟨_, rfl, rfl⟩, 1, rfl, wd_1594, wd_1595, wd_1596, mk_235⟩
theorem wd_800 : Jvm.Cond.methodLink "TwoAtMostLaw" 108 yX11_day ∈ ci_T := tb_3 (i := 231) rfl rfl
theorem wd_801 : Jvm.Cond.instanceMethod yX11_day ∈ ci_T := tb_3 (i := 232) rfl rfl
theorem wd_802 : Jvm.Cond.selects RX11 yX11_day yX11_day ∈ ci_T := tb_3 (i := 233) rfl rfl
theorem lv9_14_108 : lp_V (14, 108, 113, 11) := by unfold lp_V; rw [ms_113]; exact ⟨mo_113, ⟨_, rfl, rfl⟩, 0, rfl, wd_800, wd_801, wd_802, mk_113⟩
theorem wd_1614 : Jvm.Cond.methodLink "TwoAtMostLaw" 111 yX12_day ∈ ci_T := tb_7 (i := 85) rfl rfl
theorem wd_1615 : Jvm.Cond.instanceMethod yX12_day ∈ ci_T := tb_7 (i := 86) rfl rfl
theorem wd_1616 : Jvm.Cond.selects RX12 yX12_day yX12_day ∈ ci_T := tb_7 (i := 87) rfl rfl
theorem lv9_14_111 : lp_V (14, 111, 236, 12) := by unfold lp_V; rw [ms_236]; exact ⟨mo_236, ⟨_, rfl, rfl⟩, 0, rfl, wd_1614, wd_1615, wd_1616, mk_236⟩
theorem wd_819 : Jvm.Cond.methodLink "TwoAtMostLaw" 112 yX11_undo ∈ ci_T := tb_4 (i := 10) rfl rfl
theorem wd_820 : Jvm.Cond.instanceMethod yX11_undo ∈ ci_T := tb_4 (i := 11) rfl rfl
theorem wd_821 : Jvm.Cond.selects RX11 yX11_undo yX11_undo ∈ ci_T := tb_4 (i := 12) rfl rfl
theorem lv9_14_112 : lp_V (14, 112, 114, 11) := by unfold lp_V; rw [ms_114]; exact ⟨mo_114, ⟨_, rfl, rfl⟩, 0, rfl, wd_819, wd_820, wd_821, mk_114⟩
theorem wd_1630 : Jvm.Cond.methodLink "TwoAtMostLaw" 115 yX12_undo ∈ ci_T := tb_7 (i := 101) rfl rfl
theorem wd_1631 : Jvm.Cond.instanceMethod yX12_undo ∈ ci_T := tb_7 (i := 102) rfl rfl
theorem wd_1632 : Jvm.Cond.selects RX12 yX12_undo yX12_undo ∈ ci_T := tb_7 (i := 103) rfl rfl
theorem lv9_14_115 : lp_V (14, 115, 239, 12) := by unfold lp_V; rw [ms_239]; exact ⟨mo_239, ⟨_, rfl, rfl⟩, 0, rfl, wd_1630, wd_1631, wd_1632, mk_239⟩
theorem wd_828 : Jvm.Cond.methodLink "TwoAtMostLaw" 116 yX11_broken ∈ ci_T := tb_4 (i := 19) rfl rfl
theorem wd_829 : Jvm.Cond.instanceMethod yX11_broken ∈ ci_T := tb_4 (i := 20) rfl rfl
theorem wd_830 : Jvm.Cond.selects RX11 yX11_broken yX11_broken ∈ ci_T := tb_4 (i := 21) rfl rfl
theorem lv9_14_116 : lp_V (14, 116, 115, 11) := by unfold lp_V; rw [ms_115]; exact ⟨mo_115, ⟨_, rfl, rfl⟩, 0, rfl, wd_828, wd_829, wd_830, mk_115⟩
theorem wd_1634 : Jvm.Cond.methodLink "TwoAtMostLaw" 119 yX12_broken ∈ ci_T := tb_7 (i := 105) rfl rfl
theorem wd_1635 : Jvm.Cond.instanceMethod yX12_broken ∈ ci_T := tb_7 (i := 106) rfl rfl
theorem wd_1636 : Jvm.Cond.selects RX12 yX12_broken yX12_broken ∈ ci_T := tb_7 (i := 107) rfl rfl
theorem lv9_14_119 : lp_V (14, 119, 240, 12) := by unfold lp_V; rw [ms_240]; exact ⟨mo_240, ⟨_, rfl, rfl⟩, 0, rfl, wd_1634, wd_1635, wd_1636, mk_240⟩
theorem wd_837 : Jvm.Cond.methodLink "TwoAtMostLaw" 120 yX11_would ∈ ci_T := tb_4 (i := 28) rfl rfl
theorem wd_838 : Jvm.Cond.instanceMethod yX11_would ∈ ci_T := tb_4 (i := 29) rfl rfl
theorem wd_839 : Jvm.Cond.selects RX11 yX11_would yX11_would ∈ ci_T := tb_4 (i := 30) rfl rfl
theorem lv9_14_120 : lp_V (14, 120, 116, 11) := by unfold lp_V; rw [ms_116]; exact ⟨mo_116, ⟨_, rfl, rfl⟩, 2, rfl, wd_837, wd_838, wd_839, mk_116⟩
theorem wd_1638 : Jvm.Cond.methodLink "TwoAtMostLaw" 123 yX12_would ∈ ci_T := tb_7 (i := 109) rfl rfl
theorem wd_1639 : Jvm.Cond.instanceMethod yX12_would ∈ ci_T := tb_7 (i := 110) rfl rfl
theorem wd_1640 : Jvm.Cond.selects RX12 yX12_would yX12_would ∈ ci_T := tb_7 (i := 111) rfl rfl
theorem lv9_14_123 : lp_V (14, 123, 241, 12) := by unfold lp_V; rw [ms_241]; exact ⟨mo_241, ⟨_, rfl, rfl⟩, 2, rfl, wd_1638, wd_1639, wd_1640, mk_241⟩
theorem wd_841 : Jvm.Cond.methodLink "TwoAtMostLaw" 124 yX11_rid ∈ ci_T := tb_4 (i := 32) rfl rfl
theorem wd_842 : Jvm.Cond.instanceMethod yX11_rid ∈ ci_T := tb_4 (i := 33) rfl rfl
theorem wd_843 : Jvm.Cond.selects RX11 yX11_rid yX11_rid ∈ ci_T := tb_4 (i := 34) rfl rfl
theorem lv9_14_124 : lp_V (14, 124, 117, 11) := by unfold lp_V; rw [ms_117]; exact ⟨mo_117, ⟨_, rfl, rfl⟩, 1, rfl, wd_841, wd_842, wd_843, mk_117⟩
theorem wd_1642 : Jvm.Cond.methodLink "TwoAtMostLaw" 127 yX12_rid ∈ ci_T := tb_7 (i := 113) rfl rfl
theorem wd_1643 : Jvm.Cond.instanceMethod yX12_rid ∈ ci_T := tb_7 (i := 114) rfl rfl
theorem wd_1644 : Jvm.Cond.selects RX12 yX12_rid yX12_rid ∈ ci_T := tb_7 (i := 115) rfl rfl
theorem lv9_14_127 : lp_V (14, 127, 242, 12) := by unfold lp_V; rw [ms_242]; exact ⟨mo_242, ⟨_, rfl, rfl⟩, 1, rfl, wd_1642, wd_1643, wd_1644, mk_242⟩
theorem wd_867 : Jvm.Cond.methodLink "TwoAtMostLaw" 128 yX11_most ∈ ci_T := tb_4 (i := 58) rfl rfl
theorem wd_868 : Jvm.Cond.instanceMethod yX11_most ∈ ci_T := tb_4 (i := 59) rfl rfl
theorem wd_869 : Jvm.Cond.selects RX11 yX11_most yX11_most ∈ ci_T := tb_4 (i := 60) rfl rfl
theorem lv9_14_128 : lp_V (14, 128, 118, 11) := by unfold lp_V; rw [ms_118]; exact ⟨mo_118, ⟨_, rfl, rfl⟩, 1, rfl, wd_867, wd_868, wd_869, mk_118⟩
theorem wd_1646 : Jvm.Cond.methodLink "TwoAtMostLaw" 131 yX12_most ∈ ci_T := tb_7 (i := 117) rfl rfl
theorem wd_1647 : Jvm.Cond.instanceMethod yX12_most ∈ ci_T := tb_7 (i := 118) rfl rfl
theorem wd_1648 : Jvm.Cond.selects RX12 yX12_most yX12_most ∈ ci_T := tb_7 (i := 119) rfl rfl
theorem lv9_14_131 : lp_V (14, 131, 244, 12) := by unfold lp_V; rw [ms_244]; exact ⟨mo_244, ⟨_, rfl, rfl⟩, 1, rfl, wd_1646, wd_1647, wd_1648, mk_244⟩
theorem wd_887 : Jvm.Cond.methodLink "TwoAtMostLaw" 132 yX11_alike ∈ ci_T := tb_4 (i := 78) rfl rfl
theorem wd_888 : Jvm.Cond.instanceMethod yX11_alike ∈ ci_T := tb_4 (i := 79) rfl rfl
theorem wd_889 : Jvm.Cond.selects RX11 yX11_alike yX11_alike ∈ ci_T := tb_4 (i := 80) rfl rfl
theorem lv9_14_132 : lp_V (14, 132, 119, 11) := by unfold lp_V; rw [ms_119]; exact ⟨mo_119, ⟨_, rfl, rfl⟩, 2, rfl, wd_887, wd_888, wd_889, mk_119⟩
theorem wd_1654 : Jvm.Cond.methodLink "TwoAtMostLaw" 135 yX12_alike ∈ ci_T := tb_7 (i := 125) rfl rfl
theorem wd_1655 : Jvm.Cond.instanceMethod yX12_alike ∈ ci_T := tb_7 (i := 126) rfl rfl
theorem wd_1656 : Jvm.Cond.selects RX12 yX12_alike yX12_alike ∈ ci_T := tb_7 (i := 127) rfl rfl
theorem lv9_14_135 : lp_V (14, 135, 245, 12) := by unfold lp_V; rw [ms_245]; exact ⟨mo_245, ⟨_, rfl, rfl⟩, 2, rfl, wd_1654, wd_1655, wd_1656, mk_245⟩
theorem wd_892 : Jvm.Cond.methodLink "TwoAtMostLaw" 136 yX11_trust ∈ ci_T := tb_4 (i := 83) rfl rfl
theorem wd_893 : Jvm.Cond.instanceMethod yX11_trust ∈ ci_T := tb_4 (i := 84) rfl rfl
theorem wd_894 : Jvm.Cond.selects RX11 yX11_trust yX11_trust ∈ ci_T := tb_4 (i := 85) rfl rfl
theorem lv9_14_136 : lp_V (14, 136, 120, 11) := by unfold lp_V; rw [ms_120]; exact ⟨mo_120, ⟨_, rfl, rfl⟩, 1, rfl, wd_892, wd_893, wd_894, mk_120⟩
theorem wd_1658 : Jvm.Cond.methodLink "TwoAtMostLaw" 139 yX12_trust ∈ ci_T := tb_7 (i := 129) rfl rfl
theorem wd_1659 : Jvm.Cond.instanceMethod yX12_trust ∈ ci_T := tb_7 (i := 130) rfl rfl
theorem wd_1660 : Jvm.Cond.selects RX12 yX12_trust yX12_trust ∈ ci_T := tb_7 (i := 131) rfl rfl
theorem lv9_14_139 : lp_V (14, 139, 246, 12) := by unfold lp_V; rw [ms_246]; exact ⟨mo_246, ⟨_, rfl, rfl⟩, 1, rfl, wd_1658, wd_1659, wd_1660, mk_246⟩
theorem wd_905 : Jvm.Cond.methodLink "TwoAtMostLaw" 140 yX11_visit ∈ ci_T := tb_4 (i := 96) rfl rfl
theorem wd_906 : Jvm.Cond.instanceMethod yX11_visit ∈ ci_T := tb_4 (i := 97) rfl rfl
theorem wd_907 : Jvm.Cond.selects RX11 yX11_visit yX11_visit ∈ ci_T := tb_4 (i := 98) rfl rfl
theorem lv9_14_140 : lp_V (14, 140, 121, 11) := by unfold lp_V; rw [ms_121]; exact ⟨mo_121, ⟨_, rfl, rfl⟩, 1, rfl, wd_905, wd_906, wd_907, mk_121⟩
theorem wd_1662 : Jvm.Cond.methodLink "TwoAtMostLaw" 143 yX12_visit ∈ ci_T := tb_7 (i := 133) rfl rfl
theorem wd_1663 : Jvm.Cond.instanceMethod yX12_visit ∈ ci_T := tb_7 (i := 134) rfl rfl
theorem wd_1664 : Jvm.Cond.selects RX12 yX12_visit yX12_visit ∈ ci_T := tb_7 (i := 135) rfl rfl
theorem lv9_14_143 : lp_V (14, 143, 247, 12) := by unfold lp_V; rw [ms_247]; exact ⟨mo_247, ⟨_, rfl, rfl⟩, 1, rfl, wd_1662, wd_1663, wd_1664, mk_247⟩
theorem wd_911 : Jvm.Cond.methodLink "TwoAtMostLaw" 144 yX11_store ∈ ci_T := tb_4 (i := 102) rfl rfl
theorem wd_912 : Jvm.Cond.instanceMethod yX11_store ∈ ci_T := tb_4 (i := 103) rfl rfl
theorem wd_913 : Jvm.Cond.selects RX11 yX11_store yX11_store ∈ ci_T := tb_4 (i := 104) rfl rfl
theorem lv9_14_144 : lp_V (14, 144, 122, 11) := by unfold lp_V; rw [ms_122]; exact ⟨mo_122, ⟨_, rfl, rfl⟩, 1, rfl, wd_911, wd_912, wd_913, mk_122⟩
theorem wd_1666 : Jvm.Cond.methodLink "TwoAtMostLaw" 147 yX12_store ∈ ci_T := tb_7 (i := 137) rfl rfl
theorem wd_1667 : Jvm.Cond.instanceMethod yX12_store ∈ ci_T := tb_7 (i := 138) rfl rfl
theorem wd_1668 : Jvm.Cond.selects RX12 yX12_store yX12_store ∈ ci_T := tb_7 (i := 139) rfl rfl
theorem lv9_14_147 : lp_V (14, 147, 249, 12) := by unfold lp_V; rw [ms_249]; exact ⟨mo_249, ⟨_, rfl, rfl⟩, 1, rfl, wd_1666, wd_1667, wd_1668, mk_249⟩
theorem wd_935 : Jvm.Cond.methodLink "TwoAtMostLaw" 148 yX11_strike ∈ ci_T := tb_4 (i := 126) rfl rfl
theorem wd_936 : Jvm.Cond.instanceMethod yX11_strike ∈ ci_T := tb_4 (i := 127) rfl rfl
theorem wd_937 : Jvm.Cond.selects RX11 yX11_strike yX11_strike ∈ ci_T := tb_4 (i := 128) rfl rfl
theorem lv9_14_148 : lp_V (14, 148, 123, 11) := by unfold lp_V; rw [ms_123]; exact ⟨mo_123, ⟨_, rfl, rfl⟩, 1, rfl, wd_935, wd_936, wd_937, mk_123⟩
theorem wd_1679 : Jvm.Cond.methodLink "TwoAtMostLaw" 151 yX12_strike ∈ ci_T := tb_7 (i := 150) rfl rfl
theorem wd_1680 : Jvm.Cond.instanceMethod yX12_strike ∈ ci_T := tb_7 (i := 151) rfl rfl
theorem wd_1681 : Jvm.Cond.selects RX12 yX12_strike yX12_strike ∈ ci_T := tb_7 (i := 152) rfl rfl
theorem lv9_14_151 : lp_V (14, 151, 250, 12) := by unfold lp_V; rw [ms_250]; exact ⟨mo_250, ⟨_, rfl, rfl⟩, 1, rfl, wd_1679, wd_1680, wd_1681, mk_250⟩
theorem wd_939 : Jvm.Cond.methodLink "TwoAtMostLaw" 152 yX11_border ∈ ci_T := tb_4 (i := 130) rfl rfl
theorem wd_940 : Jvm.Cond.instanceMethod yX11_border ∈ ci_T := tb_4 (i := 131) rfl rfl
theorem wd_941 : Jvm.Cond.selects RX11 yX11_border yX11_border ∈ ci_T := tb_4 (i := 132) rfl rfl
theorem lv9_14_152 : lp_V (14, 152, 124, 11) := by unfold lp_V; rw [ms_124]; exact ⟨mo_124, ⟨_, rfl, rfl⟩, 0, rfl, wd_939, wd_940, wd_941, mk_124⟩
theorem wd_1683 : Jvm.Cond.methodLink "TwoAtMostLaw" 155 yX12_border ∈ ci_T := tb_7 (i := 154) rfl rfl
theorem wd_1684 : Jvm.Cond.instanceMethod yX12_border ∈ ci_T := tb_7 (i := 155) rfl rfl
theorem wd_1685 : Jvm.Cond.selects RX12 yX12_border yX12_border ∈ ci_T := tb_7 (i := 156) rfl rfl
theorem lv9_14_155 : lp_V (14, 155, 251, 12) := by unfold lp_V; rw [ms_251]; exact ⟨mo_251, ⟨_, rfl, rfl⟩, 0, rfl, wd_1683, wd_1684, wd_1685, mk_251⟩
theorem wd_951 : Jvm.Cond.methodLink "TwoAtMostLaw" 156 yX11_exchange ∈ ci_T := tb_4 (i := 142) rfl rfl
theorem wd_952 : Jvm.Cond.instanceMethod yX11_exchange ∈ ci_T := tb_4 (i := 143) rfl rfl
theorem wd_953 : Jvm.Cond.selects RX11 yX11_exchange yX11_exchange ∈ ci_T := tb_4 (i := 144) rfl rfl
theorem lv9_14_156 : lp_V (14, 156, 125, 11) := by unfold lp_V; rw [ms_125]; exact ⟨mo_125, ⟨_, rfl, rfl⟩, 2, rfl, wd_951, wd_952, wd_953, mk_125⟩
theorem wd_1687 : Jvm.Cond.methodLink "TwoAtMostLaw" 159 yX12_exchange ∈ ci_T := tb_7 (i := 158) rfl rfl
theorem wd_1688 : Jvm.Cond.instanceMethod yX12_exchange ∈ ci_T := tb_7 (i := 159) rfl rfl
theorem wd_1689 : Jvm.Cond.selects RX12 yX12_exchange yX12_exchange ∈ ci_T := tb_7 (i := 160) rfl rfl
theorem lv9_14_159 : lp_V (14, 159, 252, 12) := by unfold lp_V; rw [ms_252]; exact ⟨mo_252, ⟨_, rfl, rfl⟩, 2, rfl, wd_1687, wd_1688, wd_1689, mk_252⟩
theorem wd_955 : Jvm.Cond.methodLink "TwoAtMostLaw" 160 yX11_name ∈ ci_T := tb_4 (i := 146) rfl rfl
theorem wd_956 : Jvm.Cond.instanceMethod yX11_name ∈ ci_T := tb_4 (i := 147) rfl rfl
theorem wd_957 : Jvm.Cond.selects RX11 yX11_name yX11_name ∈ ci_T := tb_4 (i := 148) rfl rfl
theorem lv9_14_160 : lp_V (14, 160, 126, 11) := by unfold lp_V; rw [ms_126]; exact ⟨mo_126, ⟨_, rfl, rfl⟩, 1, rfl, wd_955, wd_956, wd_957, mk_126⟩
theorem wd_1691 : Jvm.Cond.methodLink "TwoAtMostLaw" 163 yX12_name ∈ ci_T := tb_7 (i := 162) rfl rfl
theorem wd_1692 : Jvm.Cond.instanceMethod yX12_name ∈ ci_T := tb_7 (i := 163) rfl rfl
theorem wd_1693 : Jvm.Cond.selects RX12 yX12_name yX12_name ∈ ci_T := tb_7 (i := 164) rfl rfl
theorem lv9_14_163 : lp_V (14, 163, 255, 12) := by unfold lp_V; rw [ms_255]; exact ⟨mo_255, ⟨_, rfl, rfl⟩, 1, rfl, wd_1691, wd_1692, wd_1693, mk_255⟩
theorem wd_962 : Jvm.Cond.methodLink "TwoAtMostLaw" 164 yX11_deal ∈ ci_T := tb_4 (i := 153) rfl rfl
theorem wd_963 : Jvm.Cond.instanceMethod yX11_deal ∈ ci_T := tb_4 (i := 154) rfl rfl
theorem wd_964 : Jvm.Cond.selects RX11 yX11_deal yX11_deal ∈ ci_T := tb_4 (i := 155) rfl rfl
theorem lv9_14_164 : lp_V (14, 164, 127, 11) := by unfold lp_V; rw [ms_127]; exact ⟨mo_127, ⟨_, rfl, rfl⟩, 0, rfl, wd_962, wd_963, wd_964, mk_127⟩
theorem wd_1702 : Jvm.Cond.methodLink "TwoAtMostLaw" 167 yX12_deal ∈ ci_T := tb_7 (i := 173) rfl rfl
theorem wd_1703 : Jvm.Cond.instanceMethod yX12_deal ∈ ci_T := tb_7 (i := 174) rfl rfl
theorem wd_1704 : Jvm.Cond.selects RX12 yX12_deal yX12_deal ∈ ci_T := tb_7 (i := 175) rfl rfl
theorem lv9_14_167 : lp_V (14, 167, 257, 12) := by unfold lp_V; rw [ms_257]; exact ⟨mo_257, ⟨_, rfl, rfl⟩, 0, rfl, wd_1702, wd_1703, wd_1704, mk_257⟩
theorem wd_992 : Jvm.Cond.methodLink "TwoAtMostLaw" 168 yX11_vote ∈ ci_T := tb_4 (i := 183) rfl rfl
theorem wd_993 : Jvm.Cond.instanceMethod yX11_vote ∈ ci_T := tb_4 (i := 184) rfl rfl
theorem wd_994 : Jvm.Cond.selects RX11 yX11_vote yX11_vote ∈ ci_T := tb_4 (i := 185) rfl rfl
theorem lv9_14_168 : lp_V (14, 168, 128, 11) := by unfold lp_V; rw [ms_128]; exact ⟨mo_128, ⟨_, rfl, rfl⟩, 0, rfl, wd_992, wd_993, wd_994, mk_128⟩
theorem wd_1710 : Jvm.Cond.methodLink "TwoAtMostLaw" 171 yX12_vote ∈ ci_T := tb_7 (i := 181) rfl rfl
theorem wd_1711 : Jvm.Cond.instanceMethod yX12_vote ∈ ci_T := tb_7 (i := 182) rfl rfl
theorem wd_1712 : Jvm.Cond.selects RX12 yX12_vote yX12_vote ∈ ci_T := tb_7 (i := 183) rfl rfl
theorem lv9_14_171 : lp_V (14, 171, 258, 12) := by unfold lp_V; rw [ms_258]; exact ⟨mo_258, ⟨_, rfl, rfl⟩, 0, rfl, wd_1710, wd_1711, wd_1712, mk_258⟩
theorem wd_1000 : Jvm.Cond.methodLink "TwoAtMostLaw" 172 yX11_pays ∈ ci_T := tb_4 (i := 191) rfl rfl
theorem wd_1001 : Jvm.Cond.instanceMethod yX11_pays ∈ ci_T := tb_4 (i := 192) rfl rfl
theorem wd_1002 : Jvm.Cond.selects RX11 yX11_pays yX11_pays ∈ ci_T := tb_4 (i := 193) rfl rfl
theorem lv9_14_172 : lp_V (14, 172, 129, 11) := by unfold lp_V; rw [ms_129]; exact ⟨mo_129, ⟨_, rfl, rfl⟩, 3, rfl, wd_1000, wd_1001, wd_1002, mk_129⟩
theorem wd_1714 : Jvm.Cond.methodLink "TwoAtMostLaw" 176 yX12_pays ∈ ci_T := tb_7 (i := 185) rfl rfl
theorem wd_1715 : Jvm.Cond.instanceMethod yX12_pays ∈ ci_T := tb_7 (i := 186) rfl rfl
theorem wd_1716 : Jvm.Cond.selects RX12 yX12_pays yX12_pays ∈ ci_T := tb_7 (i := 187) rfl rfl
theorem lv9_14_176 : lp_V (14, 176, 261, 12) := by unfold lp_V; rw [ms_261]; exact ⟨mo_261, ⟨_, rfl, rfl⟩, 3, rfl, wd_1714, wd_1715, wd_1716, mk_261⟩
theorem wd_1029 : Jvm.Cond.methodLink "TwoAtMostLaw" 177 yX11_coins ∈ ci_T := tb_4 (i := 220) rfl rfl
theorem wd_1030 : Jvm.Cond.instanceMethod yX11_coins ∈ ci_T := tb_4 (i := 221) rfl rfl
theorem wd_1031 : Jvm.Cond.selects RX11 yX11_coins yX11_coins ∈ ci_T := tb_4 (i := 222) rfl rfl
theorem lv9_14_177 : lp_V (14, 177, 130, 11) := by unfold lp_V; rw [ms_130]; exact ⟨mo_130, ⟨_, rfl, rfl⟩, 1, rfl, wd_1029, wd_1030, wd_1031, mk_130⟩
theorem wd_1724 : Jvm.Cond.methodLink "TwoAtMostLaw" 180 yX12_coins ∈ ci_T := tb_7 (i := 195) rfl rfl
theorem wd_1725 : Jvm.Cond.instanceMethod yX12_coins ∈ ci_T := tb_7 (i := 196) rfl rfl
theorem wd_1726 : Jvm.Cond.selects RX12 yX12_coins yX12_coins ∈ ci_T := tb_7 (i := 197) rfl rfl
theorem lv9_14_180 : lp_V (14, 180, 262, 12) := by unfold lp_V; rw [ms_262]; exact ⟨mo_262, ⟨_, rfl, rfl⟩, 1, rfl, wd_1724, wd_1725, wd_1726, mk_262⟩
theorem wd_1033 : Jvm.Cond.methodLink "TwoAtMostLaw" 181 yX11_had ∈ ci_T := tb_4 (i := 224) rfl rfl
theorem wd_1034 : Jvm.Cond.instanceMethod yX11_had ∈ ci_T := tb_4 (i := 225) rfl rfl
theorem wd_1035 : Jvm.Cond.selects RX11 yX11_had yX11_had ∈ ci_T := tb_4 (i := 226) rfl rfl
theorem lv9_14_181 : lp_V (14, 181, 131, 11) := by unfold lp_V; rw [ms_131]; exact ⟨mo_131, ⟨_, rfl, rfl⟩, 2, rfl, wd_1033, wd_1034, wd_1035, mk_131⟩
theorem wd_1728 : Jvm.Cond.methodLink "TwoAtMostLaw" 184 yX12_had ∈ ci_T := tb_7 (i := 199) rfl rfl
theorem wd_1729 : Jvm.Cond.instanceMethod yX12_had ∈ ci_T := tb_7 (i := 200) rfl rfl
theorem wd_1730 : Jvm.Cond.selects RX12 yX12_had yX12_had ∈ ci_T := tb_7 (i := 201) rfl rfl
theorem lv9_14_184 : lp_V (14, 184, 263, 12) := by unfold lp_V; rw [ms_263]; exact ⟨mo_263, ⟨_, rfl, rfl⟩, 2, rfl, wd_1728, wd_1729, wd_1730, mk_263⟩
theorem wd_1037 : Jvm.Cond.methodLink "TwoAtMostLaw" 185 yX11_heard ∈ ci_T := tb_4 (i := 228) rfl rfl
theorem wd_1038 : Jvm.Cond.instanceMethod yX11_heard ∈ ci_T := tb_4 (i := 229) rfl rfl
theorem wd_1039 : Jvm.Cond.selects RX11 yX11_heard yX11_heard ∈ ci_T := tb_4 (i := 230) rfl rfl
theorem lv9_14_185 : lp_V (14, 185, 132, 11) := by unfold lp_V; rw [ms_132]; exact ⟨mo_132, ⟨_, rfl, rfl⟩, 2, rfl, wd_1037, wd_1038, wd_1039, mk_132⟩
theorem wd_1732 : Jvm.Cond.methodLink "TwoAtMostLaw" 188 yX12_heard ∈ ci_T := tb_7 (i := 203) rfl rfl
theorem wd_1733 : Jvm.Cond.instanceMethod yX12_heard ∈ ci_T := tb_7 (i := 204) rfl rfl
theorem wd_1734 : Jvm.Cond.selects RX12 yX12_heard yX12_heard ∈ ci_T := tb_7 (i := 205) rfl rfl
theorem lv9_14_188 : lp_V (14, 188, 264, 12) := by unfold lp_V; rw [ms_264]; exact ⟨mo_264, ⟨_, rfl, rfl⟩, 2, rfl, wd_1732, wd_1733, wd_1734, mk_264⟩
theorem wd_1041 : Jvm.Cond.methodLink "TwoAtMostLaw" 189 yX11_forget ∈ ci_T := tb_4 (i := 232) rfl rfl
theorem wd_1042 : Jvm.Cond.instanceMethod yX11_forget ∈ ci_T := tb_4 (i := 233) rfl rfl
theorem wd_1043 : Jvm.Cond.selects RX11 yX11_forget yX11_forget ∈ ci_T := tb_4 (i := 234) rfl rfl
theorem lv9_14_189 : lp_V (14, 189, 133, 11) := by unfold lp_V; rw [ms_133]; exact ⟨mo_133, ⟨_, rfl, rfl⟩, 0, rfl, wd_1041, wd_1042, wd_1043, mk_133⟩
theorem wd_1736 : Jvm.Cond.methodLink "TwoAtMostLaw" 192 yX12_forget ∈ ci_T := tb_7 (i := 207) rfl rfl
theorem wd_1737 : Jvm.Cond.instanceMethod yX12_forget ∈ ci_T := tb_7 (i := 208) rfl rfl
theorem wd_1738 : Jvm.Cond.selects RX12 yX12_forget yX12_forget ∈ ci_T := tb_7 (i := 209) rfl rfl
theorem lv9_14_192 : lp_V (14, 192, 265, 12) := by unfold lp_V; rw [ms_265]; exact ⟨mo_265, ⟨_, rfl, rfl⟩, 0, rfl, wd_1736, wd_1737, wd_1738, mk_265⟩
theorem wd_1045 : Jvm.Cond.methodLink "TwoAtMostLaw" 193 yX11_whose ∈ ci_T := tb_4 (i := 236) rfl rfl
theorem wd_1046 : Jvm.Cond.instanceMethod yX11_whose ∈ ci_T := tb_4 (i := 237) rfl rfl
theorem wd_1047 : Jvm.Cond.selects RX11 yX11_whose yX11_whose ∈ ci_T := tb_4 (i := 238) rfl rfl
theorem lv9_14_193 : lp_V (14, 193, 134, 11) := by unfold lp_V; rw [ms_134]; exact ⟨mo_134, ⟨_, rfl, rfl⟩, 0, rfl, wd_1045, wd_1046, wd_1047, mk_134⟩
theorem wd_1740 : Jvm.Cond.methodLink "TwoAtMostLaw" 196 yX12_whose ∈ ci_T := tb_7 (i := 211) rfl rfl
theorem wd_1741 : Jvm.Cond.instanceMethod yX12_whose ∈ ci_T := tb_7 (i := 212) rfl rfl
theorem wd_1742 : Jvm.Cond.selects RX12 yX12_whose yX12_whose ∈ ci_T := tb_7 (i := 213) rfl rfl
theorem lv9_14_196 : lp_V (14, 196, 267, 12) := by unfold lp_V; rw [ms_267]; exact ⟨mo_267, ⟨_, rfl, rfl⟩, 0, rfl, wd_1740, wd_1741, wd_1742, mk_267⟩
theorem wd_1053 : Jvm.Cond.methodLink "TwoAtMostLaw" 197 yX11_ask ∈ ci_T := tb_5 (i := 4) rfl rfl
theorem wd_1054 : Jvm.Cond.instanceMethod yX11_ask ∈ ci_T := tb_5 (i := 5) rfl rfl
theorem wd_1055 : Jvm.Cond.selects RX11 yX11_ask yX11_ask ∈ ci_T := tb_5 (i := 6) rfl rfl
theorem lv9_14_197 : lp_V (14, 197, 135, 11) := by unfold lp_V; rw [ms_135]; exact ⟨mo_135, ⟨_, rfl, rfl⟩, 0, rfl, wd_1053, wd_1054, wd_1055, mk_135⟩
theorem wd_1748 : Jvm.Cond.methodLink "TwoAtMostLaw" 200 yX12_ask ∈ ci_T := tb_7 (i := 219) rfl rfl
theorem wd_1749 : Jvm.Cond.instanceMethod yX12_ask ∈ ci_T := tb_7 (i := 220) rfl rfl
theorem wd_1750 : Jvm.Cond.selects RX12 yX12_ask yX12_ask ∈ ci_T := tb_7 (i := 221) rfl rfl
theorem lv9_14_200 : lp_V (14, 200, 268, 12) := by unfold lp_V; rw [ms_268]; exact ⟨mo_268, ⟨_, rfl, rfl⟩, 0, rfl, wd_1748, wd_1749, wd_1750, mk_268⟩
theorem wd_1057 : Jvm.Cond.methodLink "TwoAtMostLaw" 201 yX11_seen ∈ ci_T := tb_5 (i := 8) rfl rfl
theorem wd_1058 : Jvm.Cond.instanceMethod yX11_seen ∈ ci_T := tb_5 (i := 9) rfl rfl
theorem wd_1059 : Jvm.Cond.selects RX11 yX11_seen yX11_seen ∈ ci_T := tb_5 (i := 10) rfl rfl
theorem lv9_14_201 : lp_V (14, 201, 136, 11) := by unfold lp_V; rw [ms_136]; exact ⟨mo_136, ⟨_, rfl, rfl⟩, 3, rfl, wd_1057, wd_1058, wd_1059, mk_136⟩
theorem wd_1752 : Jvm.Cond.methodLink "TwoAtMostLaw" 204 yX12_seen ∈ ci_T := tb_7 (i := 223) rfl rfl
theorem wd_1753 : Jvm.Cond.instanceMethod yX12_seen ∈ ci_T := tb_7 (i := 224) rfl rfl
theorem wd_1754 : Jvm.Cond.selects RX12 yX12_seen yX12_seen ∈ ci_T := tb_7 (i := 225) rfl rfl
theorem lv9_14_204 : lp_V (14, 204, 271, 12) := by unfold lp_V; rw [ms_271]; exact ⟨mo_271, ⟨_, rfl, rfl⟩, 3, rfl, wd_1752, wd_1753, wd_1754, mk_271⟩
theorem wd_1079 : Jvm.Cond.methodLink "TwoAtMostLaw" 205 yX11_finds ∈ ci_T := tb_5 (i := 30) rfl rfl
theorem wd_1080 : Jvm.Cond.instanceMethod yX11_finds ∈ ci_T := tb_5 (i := 31) rfl rfl
theorem wd_1081 : Jvm.Cond.selects RX11 yX11_finds yX11_finds ∈ ci_T := tb_5 (i := 32) rfl rfl
theorem lv9_14_205 : lp_V (14, 205, 137, 11) := by unfold lp_V; rw [ms_137]; exact ⟨mo_137, ⟨_, rfl, rfl⟩, 3, rfl, wd_1079, wd_1080, wd_1081, mk_137⟩
theorem wd_1764 : Jvm.Cond.methodLink "TwoAtMostLaw" 208 yX12_finds ∈ ci_T := tb_7 (i := 235) rfl rfl
theorem wd_1765 : Jvm.Cond.instanceMethod yX12_finds ∈ ci_T := tb_7 (i := 236) rfl rfl
theorem wd_1766 : Jvm.Cond.selects RX12 yX12_finds yX12_finds ∈ ci_T := tb_7 (i := 237) rfl rfl
theorem lv9_14_208 : lp_V (14, 208, 272, 12) := by unfold lp_V; rw [ms_272]; exact ⟨mo_272, ⟨_, rfl, rfl⟩, 3, rfl, wd_1764, wd_1765, wd_1766, mk_272⟩
theorem wd_1093 : Jvm.Cond.methodLink "TwoAtMostLaw" 209 yX11_rests ∈ ci_T := tb_5 (i := 44) rfl rfl
theorem wd_1094 : Jvm.Cond.instanceMethod yX11_rests ∈ ci_T := tb_5 (i := 45) rfl rfl
theorem wd_1095 : Jvm.Cond.selects RX11 yX11_rests yX11_rests ∈ ci_T := tb_5 (i := 46) rfl rfl
theorem lv9_14_209 : lp_V (14, 209, 138, 11) := by unfold lp_V; rw [ms_138]; exact ⟨mo_138, ⟨_, rfl, rfl⟩, 2, rfl, wd_1093, wd_1094, wd_1095, mk_138⟩
theorem wd_1770 : Jvm.Cond.methodLink "TwoAtMostLaw" 212 yX12_rests ∈ ci_T := tb_8 (i := 1) rfl rfl
theorem wd_1771 : Jvm.Cond.instanceMethod yX12_rests ∈ ci_T := tb_8 (i := 2) rfl rfl
theorem wd_1772 : Jvm.Cond.selects RX12 yX12_rests yX12_rests ∈ ci_T := tb_8 (i := 3) rfl rfl
theorem lv9_14_212 : lp_V (14, 212, 275, 12) := by unfold lp_V; rw [ms_275]; exact ⟨mo_275, ⟨_, rfl, rfl⟩, 2, rfl, wd_1770, wd_1771, wd_1772, mk_275⟩
theorem wd_1103 : Jvm.Cond.methodLink "TwoAtMostLaw" 213 yX11_years ∈ ci_T := tb_5 (i := 54) rfl rfl
theorem wd_1104 : Jvm.Cond.instanceMethod yX11_years ∈ ci_T := tb_5 (i := 55) rfl rfl
theorem wd_1105 : Jvm.Cond.selects RX11 yX11_years yX11_years ∈ ci_T := tb_5 (i := 56) rfl rfl
theorem lv9_14_213 : lp_V (14, 213, 139, 11) := by unfold lp_V; rw [ms_139]; exact ⟨mo_139, ⟨_, rfl, rfl⟩, 2, rfl, wd_1103, wd_1104, wd_1105, mk_139⟩
theorem wd_1780 : Jvm.Cond.methodLink "TwoAtMostLaw" 216 yX12_years ∈ ci_T := tb_8 (i := 11) rfl rfl
theorem wd_1781 : Jvm.Cond.instanceMethod yX12_years ∈ ci_T := tb_8 (i := 12) rfl rfl
theorem wd_1782 : Jvm.Cond.selects RX12 yX12_years yX12_years ∈ ci_T := tb_8 (i := 13) rfl rfl
theorem lv9_14_216 : lp_V (14, 216, 277, 12) := by unfold lp_V; rw [ms_277]; exact ⟨mo_277, ⟨_, rfl, rfl⟩, 2, rfl, wd_1780, wd_1781, wd_1782, mk_277⟩
theorem wd_1116 : Jvm.Cond.methodLink "TwoAtMostLaw" 217 yX11_keep ∈ ci_T := tb_5 (i := 67) rfl rfl
theorem wd_1117 : Jvm.Cond.instanceMethod yX11_keep ∈ ci_T := tb_5 (i := 68) rfl rfl
theorem wd_1118 : Jvm.Cond.selects RX11 yX11_keep yX11_keep ∈ ci_T := tb_5 (i := 69) rfl rfl
theorem lv9_14_217 : lp_V (14, 217, 140, 11) := by unfold lp_V; rw [ms_140]; exact ⟨mo_140, ⟨_, rfl, rfl⟩, 1, rfl, wd_1116, wd_1117, wd_1118, mk_140⟩
theorem wd_1789 : Jvm.Cond.methodLink "TwoAtMostLaw" 220 yX12_keep ∈ ci_T := tb_8 (i := 20) rfl rfl
theorem wd_1790 : Jvm.Cond.instanceMethod yX12_keep ∈ ci_T := tb_8 (i := 21) rfl rfl
theorem wd_1791 : Jvm.Cond.selects RX12 yX12_keep yX12_keep ∈ ci_T := tb_8 (i := 22) rfl rfl
theorem lv9_14_220 : lp_V (14, 220, 278, 12) := by unfold lp_V; rw [ms_278]; exact ⟨mo_278, ⟨_, rfl, rfl⟩, 1, rfl, wd_1789, wd_1790, wd_1791, mk_278⟩
theorem wd_1120 : Jvm.Cond.methodLink "TwoAtMostLaw" 221 yX11_again ∈ ci_T := tb_5 (i := 71) rfl rfl
theorem wd_1121 : Jvm.Cond.instanceMethod yX11_again ∈ ci_T := tb_5 (i := 72) rfl rfl
theorem wd_1122 : Jvm.Cond.selects RX11 yX11_again yX11_again ∈ ci_T := tb_5 (i := 73) rfl rfl
theorem lv9_14_221 : lp_V (14, 221, 141, 11) := by unfold lp_V; rw [ms_141]; exact ⟨mo_141, ⟨_, rfl, rfl⟩, 1, rfl, wd_1120, wd_1121, wd_1122, mk_141⟩
theorem wd_1793 : Jvm.Cond.methodLink "TwoAtMostLaw" 224 yX12_again ∈ ci_T := tb_8 (i := 24) rfl rfl
theorem wd_1794 : Jvm.Cond.instanceMethod yX12_again ∈ ci_T := tb_8 (i := 25) rfl rfl
theorem wd_1795 : Jvm.Cond.selects RX12 yX12_again yX12_again ∈ ci_T := tb_8 (i := 26) rfl rfl
theorem lv9_14_224 : lp_V (14, 224, 279, 12) := by unfold lp_V; rw [ms_279]; exact ⟨mo_279, ⟨_, rfl, rfl⟩, 1, rfl, wd_1793, wd_1794, wd_1795, mk_279⟩
theorem wd_1124 : Jvm.Cond.methodLink "TwoAtMostLaw" 225 yX11_count ∈ ci_T := tb_5 (i := 75) rfl rfl
theorem wd_1125 : Jvm.Cond.instanceMethod yX11_count ∈ ci_T := tb_5 (i := 76) rfl rfl
theorem wd_1126 : Jvm.Cond.selects RX11 yX11_count yX11_count ∈ ci_T := tb_5 (i := 77) rfl rfl
theorem lv9_14_225 : lp_V (14, 225, 142, 11) := by unfold lp_V; rw [ms_142]; exact ⟨mo_142, ⟨_, rfl, rfl⟩, 1, rfl, wd_1124, wd_1125, wd_1126, mk_142⟩
theorem wd_1797 : Jvm.Cond.methodLink "TwoAtMostLaw" 228 yX12_count ∈ ci_T := tb_8 (i := 28) rfl rfl
theorem wd_1798 : Jvm.Cond.instanceMethod yX12_count ∈ ci_T := tb_8 (i := 29) rfl rfl
theorem wd_1799 : Jvm.Cond.selects RX12 yX12_count yX12_count ∈ ci_T := tb_8 (i := 30) rfl rfl
theorem lv9_14_228 : lp_V (14, 228, 280, 12) := by unfold lp_V; rw [ms_280]; exact ⟨mo_280, ⟨_, rfl, rfl⟩, 1, rfl, wd_1797, wd_1798, wd_1799, mk_280⟩
theorem wd_1801 : Jvm.Cond.methodLink "TwoAtMostLaw" 232 yX12_row ∈ ci_T := tb_8 (i := 32) rfl rfl
theorem wd_1802 : Jvm.Cond.instanceMethod yX12_row ∈ ci_T := tb_8 (i := 33) rfl rfl
theorem wd_1803 : Jvm.Cond.selects RX12 yX12_row yX12_row ∈ ci_T := tb_8 (i := 34) rfl rfl
theorem lv9_14_232 : lp_V (14, 232, 281, 12) := by unfold lp_V; rw [ms_281]; exact ⟨mo_281, ⟨_, rfl, rfl⟩, 1, rfl, wd_1801, wd_1802, wd_1803, mk_281⟩
def lk_V_0 : List (Nat × Nat × Nat × Nat) := [(0, 26, 3, 0), (0, 42, 83, 10), (1, 31, 77, 10), (1, 41, 6, 1), (1, 45, 8, 1), (1, 49, 7, 1), (1, 53, 75, 10), (1, 57, 82, 10), (1, 63, 83, 10), (1, 67, 25, 4), (1, 78, 9, 1), (2, 25, 14, 2), (2, 29, 38, 6), (3, 22, 18, 3), (3, 32, 19, 3), (4, 28, 24, 4), (4, 36, 26, 4), (4, 74, 73, 10), (4, 77, 75, 10), (5, 22, 52, 9), (5, 32, 32, 5), (5, 36, 55, 9), (5, 40, 56, 9), (5, 44, 33, 5), (5, 47, 53, 9)]
theorem lk_V_a0 : ∀ q ∈ lk_V_0, lp_V q := List.forall_mem_cons.mpr ⟨lv9_0_26, List.forall_mem_cons.mpr ⟨lv9_0_42, List.forall_mem_cons.mpr ⟨lv9_1_31, List.forall_mem_cons.mpr ⟨lv9_1_41, List.forall_mem_cons.mpr ⟨lv9_1_45, List.forall_mem_cons.mpr ⟨lv9_1_49, List.forall_mem_cons.mpr ⟨lv9_1_53, List.forall_mem_cons.mpr ⟨lv9_1_57, List.forall_mem_cons.mpr ⟨lv9_1_63, List.forall_mem_cons.mpr ⟨lv9_1_67, List.forall_mem_cons.mpr ⟨lv9_1_78, List.forall_mem_cons.mpr ⟨lv9_2_25, List.forall_mem_cons.mpr ⟨lv9_2_29, List.forall_mem_cons.mpr ⟨lv9_3_22, List.forall_mem_cons.mpr ⟨lv9_3_32, List.forall_mem_cons.mpr ⟨lv9_4_28, List.forall_mem_cons.mpr ⟨lv9_4_36, List.forall_mem_cons.mpr ⟨lv9_4_74, List.forall_mem_cons.mpr ⟨lv9_4_77, List.forall_mem_cons.mpr ⟨lv9_5_22, List.forall_mem_cons.mpr ⟨lv9_5_32, List.forall_mem_cons.mpr ⟨lv9_5_36, List.forall_mem_cons.mpr ⟨lv9_5_40, List.forall_mem_cons.mpr ⟨lv9_5_44, List.forall_mem_cons.mpr ⟨lv9_5_47, fun _ h => absurd h List.not_mem_nil⟩⟩⟩⟩⟩⟩⟩⟩⟩⟩⟩⟩⟩⟩⟩⟩⟩⟩⟩⟩⟩⟩⟩⟩⟩
def lk_V_1 : List (Nat × Nat × Nat × Nat) := [(5, 50, 54, 9), (5, 53, 23, 4), (5, 56, 34, 5), (5, 59, 35, 5), (5, 62, 57, 9), (5, 65, 36, 5), (5, 68, 60, 9), (5, 72, 22, 4), (7, 29, 41, 7), (7, 38, 75, 10), (7, 42, 80, 10), (7, 45, 82, 10), (7, 48, 42, 7), (7, 64, 83, 10), (8, 25, 52, 9), (8, 31, 47, 8), (8, 35, 57, 9), (8, 39, 55, 9), (8, 43, 56, 9), (8, 47, 48, 8), (8, 50, 49, 8), (8, 53, 59, 9), (8, 57, 58, 9), (8, 61, 53, 9), (8, 64, 54, 9)]
theorem lk_V_a1 : ∀ q ∈ lk_V_1, lp_V q := List.forall_mem_cons.mpr ⟨lv9_5_50, List.forall_mem_cons.mpr ⟨lv9_5_53, List.forall_mem_cons.mpr ⟨lv9_5_56, List.forall_mem_cons.mpr ⟨lv9_5_59, List.forall_mem_cons.mpr ⟨lv9_5_62, List.forall_mem_cons.mpr ⟨lv9_5_65, List.forall_mem_cons.mpr ⟨lv9_5_68, List.forall_mem_cons.mpr ⟨lv9_5_72, List.forall_mem_cons.mpr ⟨lv9_7_29, List.forall_mem_cons.mpr ⟨lv9_7_38, List.forall_mem_cons.mpr ⟨lv9_7_42, List.forall_mem_cons.mpr ⟨lv9_7_45, List.forall_mem_cons.mpr ⟨lv9_7_48, List.forall_mem_cons.mpr ⟨lv9_7_64, List.forall_mem_cons.mpr ⟨lv9_8_25, List.forall_mem_cons.mpr ⟨lv9_8_31, List.forall_mem_cons.mpr ⟨lv9_8_35, List.forall_mem_cons.mpr ⟨lv9_8_39, List.forall_mem_cons.mpr ⟨lv9_8_43, List.forall_mem_cons.mpr ⟨lv9_8_47, List.forall_mem_cons.mpr ⟨lv9_8_50, List.forall_mem_cons.mpr ⟨lv9_8_53, List.forall_mem_cons.mpr ⟨lv9_8_57, List.forall_mem_cons.mpr ⟨lv9_8_61, List.forall_mem_cons.mpr ⟨lv9_8_64, fun _ h => absurd h List.not_mem_nil⟩⟩⟩⟩⟩⟩⟩⟩⟩⟩⟩⟩⟩⟩⟩⟩⟩⟩⟩⟩⟩⟩⟩⟩⟩
def lk_V_2 : List (Nat × Nat × Nat × Nat) := [(8, 67, 60, 9), (9, 31, 53, 9), (9, 35, 58, 9), (10, 44, 68, 10), (10, 68, 71, 10), (10, 77, 76, 10), (10, 80, 66, 10), (10, 91, 75, 10), (10, 94, 80, 10), (10, 97, 63, 10), (10, 100, 62, 10), (10, 103, 85, 10), (10, 107, 73, 10), (10, 116, 90, 10), (10, 120, 91, 10), (10, 126, 92, 10), (11, 124, 51, 9), (11, 128, 67, 10), (11, 135, 68, 10), (11, 138, 144, 11), (11, 144, 44, 8), (11, 148, 69, 10), (11, 155, 45, 8), (11, 159, 70, 10), (11, 165, 31, 5)]
theorem lk_V_a2 : ∀ q ∈ lk_V_2, lp_V q := List.forall_mem_cons.mpr ⟨lv9_8_67, List.forall_mem_cons.mpr ⟨lv9_9_31, List.forall_mem_cons.mpr ⟨lv9_9_35, List.forall_mem_cons.mpr ⟨lv9_10_44, List.forall_mem_cons.mpr ⟨lv9_10_68, List.forall_mem_cons.mpr ⟨lv9_10_77, List.forall_mem_cons.mpr ⟨lv9_10_80, List.forall_mem_cons.mpr ⟨lv9_10_91, List.forall_mem_cons.mpr ⟨lv9_10_94, List.forall_mem_cons.mpr ⟨lv9_10_97, List.forall_mem_cons.mpr ⟨lv9_10_100, List.forall_mem_cons.mpr ⟨lv9_10_103, List.forall_mem_cons.mpr ⟨lv9_10_107, List.forall_mem_cons.mpr ⟨lv9_10_116, List.forall_mem_cons.mpr ⟨lv9_10_120, List.forall_mem_cons.mpr ⟨lv9_10_126, List.forall_mem_cons.mpr ⟨lv9_11_124, List.forall_mem_cons.mpr ⟨lv9_11_128, List.forall_mem_cons.mpr ⟨lv9_11_135, List.forall_mem_cons.mpr ⟨lv9_11_138, List.forall_mem_cons.mpr ⟨lv9_11_144, List.forall_mem_cons.mpr ⟨lv9_11_148, List.forall_mem_cons.mpr ⟨lv9_11_155, List.forall_mem_cons.mpr ⟨lv9_11_159, List.forall_mem_cons.mpr ⟨lv9_11_165, fun _ h => absurd h List.not_mem_nil⟩⟩⟩⟩⟩⟩⟩⟩⟩⟩⟩⟩⟩⟩⟩⟩⟩⟩⟩⟩⟩⟩⟩⟩⟩
def lk_V_3 : List (Nat × Nat × Nat × Nat) := [(11, 172, 21, 4), (11, 176, 63, 10), (11, 194, 73, 10), (11, 197, 66, 10), (11, 200, 64, 10), (11, 212, 62, 10), (11, 215, 76, 10), (11, 218, 75, 10), (11, 224, 80, 10), (11, 227, 25, 4), (11, 237, 150, 11), (11, 241, 11, 2), (11, 245, 93, 10), (11, 248, 12, 2), (11, 254, 148, 11), (11, 263, 46, 8), (11, 275, 151, 11), (11, 278, 84, 10), (11, 282, 13, 2), (11, 285, 71, 10), (11, 288, 81, 10), (11, 291, 154, 11), (11, 294, 147, 11), (11, 298, 82, 10), (11, 301, 77, 10)]
theorem lk_V_a3 : ∀ q ∈ lk_V_3, lp_V q := List.forall_mem_cons.mpr ⟨lv9_11_172, List.forall_mem_cons.mpr ⟨lv9_11_176, List.forall_mem_cons.mpr ⟨lv9_11_194, List.forall_mem_cons.mpr ⟨lv9_11_197, List.forall_mem_cons.mpr ⟨lv9_11_200, List.forall_mem_cons.mpr ⟨lv9_11_212, List.forall_mem_cons.mpr ⟨lv9_11_215, List.forall_mem_cons.mpr ⟨lv9_11_218, List.forall_mem_cons.mpr ⟨lv9_11_224, List.forall_mem_cons.mpr ⟨lv9_11_227, List.forall_mem_cons.mpr ⟨lv9_11_237, List.forall_mem_cons.mpr ⟨lv9_11_241, List.forall_mem_cons.mpr ⟨lv9_11_245, List.forall_mem_cons.mpr ⟨lv9_11_248, List.forall_mem_cons.mpr ⟨lv9_11_254, List.forall_mem_cons.mpr ⟨lv9_11_263, List.forall_mem_cons.mpr ⟨lv9_11_275, List.forall_mem_cons.mpr ⟨lv9_11_278, List.forall_mem_cons.mpr ⟨lv9_11_282, List.forall_mem_cons.mpr ⟨lv9_11_285, List.forall_mem_cons.mpr ⟨lv9_11_288, List.forall_mem_cons.mpr ⟨lv9_11_291, List.forall_mem_cons.mpr ⟨lv9_11_294, List.forall_mem_cons.mpr ⟨lv9_11_298, List.forall_mem_cons.mpr ⟨lv9_11_301, fun _ h => absurd h List.not_mem_nil⟩⟩⟩⟩⟩⟩⟩⟩⟩⟩⟩⟩⟩⟩⟩⟩⟩⟩⟩⟩⟩⟩⟩⟩⟩
def lk_V_4 : List (Nat × Nat × Nat × Nat) := [(11, 304, 1, 0), (11, 307, 153, 11), (11, 310, 78, 10), (11, 313, 79, 10), (11, 316, 91, 10), (11, 319, 90, 10), (11, 322, 65, 10), (11, 325, 40, 7), (11, 328, 145, 11), (11, 337, 146, 11), (11, 340, 155, 11), (11, 343, 74, 10), (11, 349, 5, 1), (11, 355, 156, 11), (11, 358, 16, 3), (11, 361, 17, 3), (11, 369, 158, 11), (11, 375, 159, 11), (11, 378, 72, 10), (11, 387, 162, 11), (11, 392, 163, 11), (11, 399, 38, 6), (11, 407, 85, 10), (11, 411, 92, 10), (11, 414, 152, 11)]
theorem lk_V_a4 : ∀ q ∈ lk_V_4, lp_V q := List.forall_mem_cons.mpr ⟨lv9_11_304, List.forall_mem_cons.mpr ⟨lv9_11_307, List.forall_mem_cons.mpr ⟨lv9_11_310, List.forall_mem_cons.mpr ⟨lv9_11_313, List.forall_mem_cons.mpr ⟨lv9_11_316, List.forall_mem_cons.mpr ⟨lv9_11_319, List.forall_mem_cons.mpr ⟨lv9_11_322, List.forall_mem_cons.mpr ⟨lv9_11_325, List.forall_mem_cons.mpr ⟨lv9_11_328, List.forall_mem_cons.mpr ⟨lv9_11_337, List.forall_mem_cons.mpr ⟨lv9_11_340, List.forall_mem_cons.mpr ⟨lv9_11_343, List.forall_mem_cons.mpr ⟨lv9_11_349, List.forall_mem_cons.mpr ⟨lv9_11_355, List.forall_mem_cons.mpr ⟨lv9_11_358, List.forall_mem_cons.mpr ⟨lv9_11_361, List.forall_mem_cons.mpr ⟨lv9_11_369, List.forall_mem_cons.mpr ⟨lv9_11_375, List.forall_mem_cons.mpr ⟨lv9_11_378, List.forall_mem_cons.mpr ⟨lv9_11_387, List.forall_mem_cons.mpr ⟨lv9_11_392, List.forall_mem_cons.mpr ⟨lv9_11_399, List.forall_mem_cons.mpr ⟨lv9_11_407, List.forall_mem_cons.mpr ⟨lv9_11_411, List.forall_mem_cons.mpr ⟨lv9_11_414, fun _ h => absurd h List.not_mem_nil⟩⟩⟩⟩⟩⟩⟩⟩⟩⟩⟩⟩⟩⟩⟩⟩⟩⟩⟩⟩⟩⟩⟩⟩⟩
def lk_V_5 : List (Nat × Nat × Nat × Nat) := [(11, 417, 86, 10), (11, 420, 87, 10), (11, 423, 88, 10), (11, 426, 89, 10), (11, 429, 83, 10), (11, 433, 2, 0), (12, 114, 180, 12), (12, 118, 183, 12), (12, 122, 182, 12), (12, 126, 185, 12), (12, 130, 184, 12), (12, 134, 187, 12), (12, 154, 181, 12), (12, 157, 190, 12), (12, 161, 189, 12), (12, 164, 195, 12), (12, 167, 196, 12), (12, 170, 198, 12), (12, 173, 194, 12), (12, 176, 186, 12), (12, 180, 188, 12), (12, 193, 200, 12), (12, 196, 204, 12), (12, 200, 202, 12), (12, 204, 205, 12)]
theorem lk_V_a5 : ∀ q ∈ lk_V_5, lp_V q := List.forall_mem_cons.mpr ⟨lv9_11_417, List.forall_mem_cons.mpr ⟨lv9_11_420, List.forall_mem_cons.mpr ⟨lv9_11_423, List.forall_mem_cons.mpr ⟨lv9_11_426, List.forall_mem_cons.mpr ⟨lv9_11_429, List.forall_mem_cons.mpr ⟨lv9_11_433, List.forall_mem_cons.mpr ⟨lv9_12_114, List.forall_mem_cons.mpr ⟨lv9_12_118, List.forall_mem_cons.mpr ⟨lv9_12_122, List.forall_mem_cons.mpr ⟨lv9_12_126, List.forall_mem_cons.mpr ⟨lv9_12_130, List.forall_mem_cons.mpr ⟨lv9_12_134, List.forall_mem_cons.mpr ⟨lv9_12_154, List.forall_mem_cons.mpr ⟨lv9_12_157, List.forall_mem_cons.mpr ⟨lv9_12_161, List.forall_mem_cons.mpr ⟨lv9_12_164, List.forall_mem_cons.mpr ⟨lv9_12_167, List.forall_mem_cons.mpr ⟨lv9_12_170, List.forall_mem_cons.mpr ⟨lv9_12_173, List.forall_mem_cons.mpr ⟨lv9_12_176, List.forall_mem_cons.mpr ⟨lv9_12_180, List.forall_mem_cons.mpr ⟨lv9_12_193, List.forall_mem_cons.mpr ⟨lv9_12_196, List.forall_mem_cons.mpr ⟨lv9_12_200, List.forall_mem_cons.mpr ⟨lv9_12_204, fun _ h => absurd h List.not_mem_nil⟩⟩⟩⟩⟩⟩⟩⟩⟩⟩⟩⟩⟩⟩⟩⟩⟩⟩⟩⟩⟩⟩⟩⟩⟩
def lk_V_6 : List (Nat × Nat × Nat × Nat) := [(12, 207, 206, 12), (12, 210, 201, 12), (12, 221, 174, 12), (12, 225, 172, 12), (12, 228, 209, 12), (12, 231, 176, 12), (12, 234, 175, 12), (12, 237, 203, 12), (12, 240, 208, 12), (12, 247, 218, 12), (12, 250, 219, 12), (12, 253, 220, 12), (12, 260, 222, 12), (12, 263, 217, 12), (12, 267, 223, 12), (12, 270, 225, 12), (12, 273, 227, 12), (12, 276, 229, 12), (12, 279, 232, 12), (12, 282, 233, 12), (12, 286, 234, 12), (12, 289, 173, 12), (12, 293, 237, 12), (12, 296, 238, 12), (12, 299, 207, 12)]
theorem lk_V_a6 : ∀ q ∈ lk_V_6, lp_V q := List.forall_mem_cons.mpr ⟨lv9_12_207, List.forall_mem_cons.mpr ⟨lv9_12_210, List.forall_mem_cons.mpr ⟨lv9_12_221, List.forall_mem_cons.mpr ⟨lv9_12_225, List.forall_mem_cons.mpr ⟨lv9_12_228, List.forall_mem_cons.mpr ⟨lv9_12_231, List.forall_mem_cons.mpr ⟨lv9_12_234, List.forall_mem_cons.mpr ⟨lv9_12_237, List.forall_mem_cons.mpr ⟨lv9_12_240, List.forall_mem_cons.mpr ⟨lv9_12_247, List.forall_mem_cons.mpr ⟨lv9_12_250, List.forall_mem_cons.mpr ⟨lv9_12_253, List.forall_mem_cons.mpr ⟨lv9_12_260, List.forall_mem_cons.mpr ⟨lv9_12_263, List.forall_mem_cons.mpr ⟨lv9_12_267, List.forall_mem_cons.mpr ⟨lv9_12_270, List.forall_mem_cons.mpr ⟨lv9_12_273, List.forall_mem_cons.mpr ⟨lv9_12_276, List.forall_mem_cons.mpr ⟨lv9_12_279, List.forall_mem_cons.mpr ⟨lv9_12_282, List.forall_mem_cons.mpr ⟨lv9_12_286, List.forall_mem_cons.mpr ⟨lv9_12_289, List.forall_mem_cons.mpr ⟨lv9_12_293, List.forall_mem_cons.mpr ⟨lv9_12_296, List.forall_mem_cons.mpr ⟨lv9_12_299, fun _ h => absurd h List.not_mem_nil⟩⟩⟩⟩⟩⟩⟩⟩⟩⟩⟩⟩⟩⟩⟩⟩⟩⟩⟩⟩⟩⟩⟩⟩⟩
def lk_V_7 : List (Nat × Nat × Nat × Nat) := [(12, 302, 243, 12), (12, 308, 248, 12), (12, 312, 177, 12), (12, 316, 253, 12), (12, 325, 256, 12), (12, 341, 266, 12), (12, 357, 270, 12), (12, 376, 276, 12), (14, 29, 95, 11), (14, 33, 178, 12), (14, 34, 96, 11), (14, 38, 179, 12), (14, 39, 97, 11), (14, 42, 191, 12), (14, 43, 98, 11), (14, 47, 192, 12), (14, 48, 99, 11), (14, 51, 193, 12), (14, 52, 100, 11), (14, 55, 199, 12), (14, 61, 210, 12), (14, 62, 169, 12), (14, 67, 211, 12), (14, 70, 212, 12), (14, 71, 104, 11)]
theorem lk_V_a7 : ∀ q ∈ lk_V_7, lp_V q := List.forall_mem_cons.mpr ⟨lv9_12_302, List.forall_mem_cons.mpr ⟨lv9_12_308, List.forall_mem_cons.mpr ⟨lv9_12_312, List.forall_mem_cons.mpr ⟨lv9_12_316, List.forall_mem_cons.mpr ⟨lv9_12_325, List.forall_mem_cons.mpr ⟨lv9_12_341, List.forall_mem_cons.mpr ⟨lv9_12_357, List.forall_mem_cons.mpr ⟨lv9_12_376, List.forall_mem_cons.mpr ⟨lv9_14_29, List.forall_mem_cons.mpr ⟨lv9_14_33, List.forall_mem_cons.mpr ⟨lv9_14_34, List.forall_mem_cons.mpr ⟨lv9_14_38, List.forall_mem_cons.mpr ⟨lv9_14_39, List.forall_mem_cons.mpr ⟨lv9_14_42, List.forall_mem_cons.mpr ⟨lv9_14_43, List.forall_mem_cons.mpr ⟨lv9_14_47, List.forall_mem_cons.mpr ⟨lv9_14_48, List.forall_mem_cons.mpr ⟨lv9_14_51, List.forall_mem_cons.mpr ⟨lv9_14_52, List.forall_mem_cons.mpr ⟨lv9_14_55, List.forall_mem_cons.mpr ⟨lv9_14_61, List.forall_mem_cons.mpr ⟨lv9_14_62, List.forall_mem_cons.mpr ⟨lv9_14_67, List.forall_mem_cons.mpr ⟨lv9_14_70, List.forall_mem_cons.mpr ⟨lv9_14_71, fun _ h => absurd h List.not_mem_nil⟩⟩⟩⟩⟩⟩⟩⟩⟩⟩⟩⟩⟩⟩⟩⟩⟩⟩⟩⟩⟩⟩⟩⟩⟩
def lk_V_8 : List (Nat × Nat × Nat × Nat) := [(14, 74, 213, 12), (14, 75, 105, 11), (14, 78, 214, 12), (14, 79, 106, 11), (14, 83, 215, 12), (14, 84, 107, 11), (14, 87, 224, 12), (14, 88, 108, 11), (14, 91, 226, 12), (14, 92, 109, 11), (14, 95, 228, 12), (14, 96, 110, 11), (14, 99, 230, 12), (14, 100, 111, 11), (14, 103, 231, 12), (14, 104, 112, 11), (14, 107, 235, 12), (14, 108, 113, 11), (14, 111, 236, 12), (14, 112, 114, 11), (14, 115, 239, 12), (14, 116, 115, 11), (14, 119, 240, 12), (14, 120, 116, 11), (14, 123, 241, 12)]
theorem lk_V_a8 : ∀ q ∈ lk_V_8, lp_V q := List.forall_mem_cons.mpr ⟨lv9_14_74, List.forall_mem_cons.mpr ⟨lv9_14_75, List.forall_mem_cons.mpr ⟨lv9_14_78, List.forall_mem_cons.mpr ⟨lv9_14_79, List.forall_mem_cons.mpr ⟨lv9_14_83, List.forall_mem_cons.mpr ⟨lv9_14_84, List.forall_mem_cons.mpr ⟨lv9_14_87, List.forall_mem_cons.mpr ⟨lv9_14_88, List.forall_mem_cons.mpr ⟨lv9_14_91, List.forall_mem_cons.mpr ⟨lv9_14_92, List.forall_mem_cons.mpr ⟨lv9_14_95, List.forall_mem_cons.mpr ⟨lv9_14_96, List.forall_mem_cons.mpr ⟨lv9_14_99, List.forall_mem_cons.mpr ⟨lv9_14_100, List.forall_mem_cons.mpr ⟨lv9_14_103, List.forall_mem_cons.mpr ⟨lv9_14_104, List.forall_mem_cons.mpr ⟨lv9_14_107, List.forall_mem_cons.mpr ⟨lv9_14_108, List.forall_mem_cons.mpr ⟨lv9_14_111, List.forall_mem_cons.mpr ⟨lv9_14_112, List.forall_mem_cons.mpr ⟨lv9_14_115, List.forall_mem_cons.mpr ⟨lv9_14_116, List.forall_mem_cons.mpr ⟨lv9_14_119, List.forall_mem_cons.mpr ⟨lv9_14_120, List.forall_mem_cons.mpr ⟨lv9_14_123, fun _ h => absurd h List.not_mem_nil⟩⟩⟩⟩⟩⟩⟩⟩⟩⟩⟩⟩⟩⟩⟩⟩⟩⟩⟩⟩⟩⟩⟩⟩⟩
def lk_V_9 : List (Nat × Nat × Nat × Nat) := [(14, 124, 117, 11), (14, 127, 242, 12), (14, 128, 118, 11), (14, 131, 244, 12), (14, 132, 119, 11), (14, 135, 245, 12), (14, 136, 120, 11), (14, 139, 246, 12), (14, 140, 121, 11), (14, 143, 247, 12), (14, 144, 122, 11), (14, 147, 249, 12), (14, 148, 123, 11), (14, 151, 250, 12), (14, 152, 124, 11), (14, 155, 251, 12), (14, 156, 125, 11), (14, 159, 252, 12), (14, 160, 126, 11), (14, 163, 255, 12), (14, 164, 127, 11), (14, 167, 257, 12), (14, 168, 128, 11), (14, 171, 258, 12), (14, 172, 129, 11)]
theorem lk_V_a9 : ∀ q ∈ lk_V_9, lp_V q := List.forall_mem_cons.mpr ⟨lv9_14_124, List.forall_mem_cons.mpr ⟨lv9_14_127, List.forall_mem_cons.mpr ⟨lv9_14_128, List.forall_mem_cons.mpr ⟨lv9_14_131, List.forall_mem_cons.mpr ⟨lv9_14_132, List.forall_mem_cons.mpr ⟨lv9_14_135, List.forall_mem_cons.mpr ⟨lv9_14_136, List.forall_mem_cons.mpr ⟨lv9_14_139, List.forall_mem_cons.mpr ⟨lv9_14_140, List.forall_mem_cons.mpr ⟨lv9_14_143, List.forall_mem_cons.mpr ⟨lv9_14_144, List.forall_mem_cons.mpr ⟨lv9_14_147, List.forall_mem_cons.mpr ⟨lv9_14_148, List.forall_mem_cons.mpr ⟨lv9_14_151, List.forall_mem_cons.mpr ⟨lv9_14_152, List.forall_mem_cons.mpr ⟨lv9_14_155, List.forall_mem_cons.mpr ⟨lv9_14_156, List.forall_mem_cons.mpr ⟨lv9_14_159, List.forall_mem_cons.mpr ⟨lv9_14_160, List.forall_mem_cons.mpr ⟨lv9_14_163, List.forall_mem_cons.mpr ⟨lv9_14_164, List.forall_mem_cons.mpr ⟨lv9_14_167, List.forall_mem_cons.mpr ⟨lv9_14_168, List.forall_mem_cons.mpr ⟨lv9_14_171, List.forall_mem_cons.mpr ⟨lv9_14_172, fun _ h => absurd h List.not_mem_nil⟩⟩⟩⟩⟩⟩⟩⟩⟩⟩⟩⟩⟩⟩⟩⟩⟩⟩⟩⟩⟩⟩⟩⟩⟩
def lk_V_10 : List (Nat × Nat × Nat × Nat) := [(14, 176, 261, 12), (14, 177, 130, 11), (14, 180, 262, 12), (14, 181, 131, 11), (14, 184, 263, 12), (14, 185, 132, 11), (14, 188, 264, 12), (14, 189, 133, 11), (14, 192, 265, 12), (14, 193, 134, 11), (14, 196, 267, 12), (14, 197, 135, 11), (14, 200, 268, 12), (14, 201, 136, 11), (14, 204, 271, 12), (14, 205, 137, 11), (14, 208, 272, 12), (14, 209, 138, 11), (14, 212, 275, 12), (14, 213, 139, 11), (14, 216, 277, 12), (14, 217, 140, 11), (14, 220, 278, 12), (14, 221, 141, 11), (14, 224, 279, 12)]
theorem lk_V_a10 : ∀ q ∈ lk_V_10, lp_V q := List.forall_mem_cons.mpr ⟨lv9_14_176, List.forall_mem_cons.mpr ⟨lv9_14_177, List.forall_mem_cons.mpr ⟨lv9_14_180, List.forall_mem_cons.mpr ⟨lv9_14_181, List.forall_mem_cons.mpr ⟨lv9_14_184, List.forall_mem_cons.mpr ⟨lv9_14_185, List.forall_mem_cons.mpr ⟨lv9_14_188, List.forall_mem_cons.mpr ⟨lv9_14_189, List.forall_mem_cons.mpr ⟨lv9_14_192, List.forall_mem_cons.mpr ⟨lv9_14_193, List.forall_mem_cons.mpr ⟨lv9_14_196, List.forall_mem_cons.mpr ⟨lv9_14_197, List.forall_mem_cons.mpr ⟨lv9_14_200, List.forall_mem_cons.mpr ⟨lv9_14_201, List.forall_mem_cons.mpr ⟨lv9_14_204, List.forall_mem_cons.mpr ⟨lv9_14_205, List.forall_mem_cons.mpr ⟨lv9_14_208, List.forall_mem_cons.mpr ⟨lv9_14_209, List.forall_mem_cons.mpr ⟨lv9_14_212, List.forall_mem_cons.mpr ⟨lv9_14_213, List.forall_mem_cons.mpr ⟨lv9_14_216, List.forall_mem_cons.mpr ⟨lv9_14_217, List.forall_mem_cons.mpr ⟨lv9_14_220, List.forall_mem_cons.mpr ⟨lv9_14_221, List.forall_mem_cons.mpr ⟨lv9_14_224, fun _ h => absurd h List.not_mem_nil⟩⟩⟩⟩⟩⟩⟩⟩⟩⟩⟩⟩⟩⟩⟩⟩⟩⟩⟩⟩⟩⟩⟩⟩⟩
def lk_V_11 : List (Nat × Nat × Nat × Nat) := [(14, 225, 142, 11), (14, 228, 280, 12), (14, 232, 281, 12)]
theorem lk_V_a11 : ∀ q ∈ lk_V_11, lp_V q := List.forall_mem_cons.mpr ⟨lv9_14_225, List.forall_mem_cons.mpr ⟨lv9_14_228, List.forall_mem_cons.mpr ⟨lv9_14_232, fun _ h => absurd h List.not_mem_nil⟩⟩⟩
def lk_V : List (Nat × Nat × Nat × Nat) := lk_V_0 ++ (lk_V_1 ++ (lk_V_2 ++ (lk_V_3 ++ (lk_V_4 ++ (lk_V_5 ++ (lk_V_6 ++ (lk_V_7 ++ (lk_V_8 ++ (lk_V_9 ++ (lk_V_10 ++ (lk_V_11)))))))))))
theorem lk_V_ok : ∀ q ∈ lk_V, lp_V q := fun q h => (List.mem_append.mp h).elim (lk_V_a0 q) ((fun q h => (List.mem_append.mp h).elim (lk_V_a1 q) ((fun q h => (List.mem_append.mp h).elim (lk_V_a2 q) ((fun q h => (List.mem_append.mp h).elim (lk_V_a3 q) ((fun q h => (List.mem_append.mp h).elim (lk_V_a4 q) ((fun q h => (List.mem_append.mp h).elim (lk_V_a5 q) ((fun q h => (List.mem_append.mp h).elim (lk_V_a6 q) ((fun q h => (List.mem_append.mp h).elim (lk_V_a7 q) ((fun q h => (List.mem_append.mp h).elim (lk_V_a8 q) ((fun q h => (List.mem_append.mp h).elim (lk_V_a9 q) ((fun q h => (List.mem_append.mp h).elim (lk_V_a10 q) ((lk_V_a11) q)) q)) q)) q)) q)) q)) q)) q)) q)) q)) q)
theorem wd_122 : Jvm.Cond.methodLink RX11 9 yX10_init ∈ ci_T := tb_1 (i := 33) rfl rfl
theorem wd_123 : Jvm.Cond.instanceMethod yX10_init ∈ ci_T := tb_1 (i := 34) rfl rfl
theorem li_11_9 : lp_I (11, 9, 61) := by unfold lp_I; rw [ms_61]; exact ⟨mo_61, rfl, rfl, 0, rfl, wd_122, wd_123, mk_61⟩
theorem wd_232 : Jvm.Cond.methodLink RX11 25 yX8_init ∈ ci_T := tb_1 (i := 143) rfl rfl
theorem wd_233 : Jvm.Cond.instanceMethod yX8_init ∈ ci_T := tb_1 (i := 144) rfl rfl
theorem li_11_25 : lp_I (11, 25, 43) := by unfold lp_I; rw [ms_43]; exact ⟨mo_43, rfl, rfl, 1, rfl, wd_232, wd_233, mk_43⟩
theorem wd_274 : Jvm.Cond.methodLink RX11 41 yX5_init ∈ ci_T := tb_1 (i := 185) rfl rfl
theorem wd_275 : Jvm.Cond.instanceMethod yX5_init ∈ ci_T := tb_1 (i := 186) rfl rfl
theorem li_11_41 : lp_I (11, 41, 30) := by unfold lp_I; rw [ms_30]; exact ⟨mo_30, rfl, rfl, 1, rfl, wd_274, wd_275, mk_30⟩
theorem wd_290 : Jvm.Cond.methodLink RX11 48 yX2_init ∈ ci_T := tb_1 (i := 201) rfl rfl
theorem wd_291 : Jvm.Cond.instanceMethod yX2_init ∈ ci_T := tb_1 (i := 202) rfl rfl
theorem li_11_48 : lp_I (11, 48, 10) := by unfold lp_I; rw [ms_10]; exact ⟨mo_10, rfl, rfl, 0, rfl, wd_290, wd_291, mk_10⟩
theorem wd_312 : Jvm.Cond.methodLink RX11 88 yX0_init ∈ ci_T := tb_1 (i := 223) rfl rfl
theorem wd_313 : Jvm.Cond.instanceMethod yX0_init ∈ ci_T := tb_1 (i := 224) rfl rfl
theorem li_11_88 : lp_I (11, 88, 0) := by unfold lp_I; rw [ms_0]; exact ⟨mo_0, rfl, rfl, 1, rfl, wd_312, wd_313, mk_0⟩
theorem wd_333 : Jvm.Cond.methodLink RX11 97 yX7_init ∈ ci_T := tb_2 (i := 4) rfl rfl
theorem wd_334 : Jvm.Cond.instanceMethod yX7_init ∈ ci_T := tb_2 (i := 5) rfl rfl
theorem li_11_97 : lp_I (11, 97, 39) := by unfold lp_I; rw [ms_39]; exact ⟨mo_39, rfl, rfl, 1, rfl, wd_333, wd_334, mk_39⟩
theorem wd_357 : Jvm.Cond.methodLink RX11 104 yX1_init ∈ ci_T := tb_2 (i := 28) rfl rfl
theorem wd_358 : Jvm.Cond.instanceMethod yX1_init ∈ ci_T := tb_2 (i := 29) rfl rfl
theorem li_11_104 : lp_I (11, 104, 4) := by unfold lp_I; rw [ms_4]; exact ⟨mo_4, rfl, rfl, 2, rfl, wd_357, wd_358, mk_4⟩
theorem wd_114 : Jvm.Cond.methodLink "TwoAtMostLaw" 25 yX11_init ∈ ci_T := tb_1 (i := 25) rfl rfl
theorem wd_115 : Jvm.Cond.instanceMethod yX11_init ∈ ci_T := tb_1 (i := 26) rfl rfl
theorem li_14_25 : lp_I (14, 25, 94) := by unfold lp_I; rw [ms_94]; exact ⟨mo_94, rfl, rfl, 0, rfl, wd_114, wd_115, mk_94⟩
theorem wd_1221 : Jvm.Cond.methodLink "TwoAtMostLaw" 28 yX12_init ∈ ci_T := tb_5 (i := 172) rfl rfl
theorem wd_1222 : Jvm.Cond.instanceMethod yX12_init ∈ ci_T := tb_5 (i := 173) rfl rfl
theorem li_14_28 : lp_I (14, 28, 168) := by unfold lp_I; rw [ms_168]; exact ⟨mo_168, rfl, rfl, 0, rfl, wd_1221, wd_1222, mk_168⟩
def lk_I_0 : List (Nat × Nat × Nat) := [(11, 9, 61), (11, 25, 43), (11, 41, 30), (11, 48, 10), (11, 88, 0), (11, 97, 39), (11, 104, 4), (14, 25, 94), (14, 28, 168)]
theorem lk_I_a0 : ∀ q ∈ lk_I_0, lp_I q := List.forall_mem_cons.mpr ⟨li_11_9, List.forall_mem_cons.mpr ⟨li_11_25, List.forall_mem_cons.mpr ⟨li_11_41, List.forall_mem_cons.mpr ⟨li_11_48, List.forall_mem_cons.mpr ⟨li_11_88, List.forall_mem_cons.mpr ⟨li_11_97, List.forall_mem_cons.mpr ⟨li_11_104, List.forall_mem_cons.mpr ⟨li_14_25, List.forall_mem_cons.mpr ⟨li_14_28, fun _ h => absurd h List.not_mem_nil⟩⟩⟩⟩⟩⟩⟩⟩⟩
def lk_I : List (Nat × Nat × Nat) := lk_I_0
theorem lk_I_ok : ∀ q ∈ lk_I, lp_I q := lk_I_a0
theorem wd_129 : Jvm.Cond.instanceMethod yX6_init ∈ ci_T := tb_1 (i := 40) rfl rfl
theorem ln_2_24 : lp_N (2, 24, 37) := by unfold lp_N; rw [ms_37]; exact ⟨mo_37, rfl, rfl, 0, rfl, by decide +kernel, wd_129, mk_37⟩
theorem wd_257 : Jvm.Cond.instanceMethod yX4_init ∈ ci_T := tb_1 (i := 168) rfl rfl
theorem ln_5_11 : lp_N (5, 11, 20) := by unfold lp_N; rw [ms_20]; exact ⟨mo_20, rfl, rfl, 0, rfl, by decide +kernel, wd_257, mk_20⟩
theorem ln_10_11 : lp_N (10, 11, 37) := by unfold lp_N; rw [ms_37]; exact ⟨mo_37, rfl, rfl, 0, rfl, by decide +kernel, wd_129, mk_37⟩
theorem wd_213 : Jvm.Cond.instanceMethod yX9_init ∈ ci_T := tb_1 (i := 124) rfl rfl
theorem ln_11_18 : lp_N (11, 18, 50) := by unfold lp_N; rw [ms_50]; exact ⟨mo_50, rfl, rfl, 0, rfl, by decide +kernel, wd_213, mk_50⟩
theorem ln_11_34 : lp_N (11, 34, 20) := by unfold lp_N; rw [ms_20]; exact ⟨mo_20, rfl, rfl, 0, rfl, by decide +kernel, wd_257, mk_20⟩
theorem ln_11_67 : lp_N (11, 67, 37) := by unfold lp_N; rw [ms_37]; exact ⟨mo_37, rfl, rfl, 0, rfl, by decide +kernel, wd_129, mk_37⟩
theorem wd_383 : Jvm.Cond.instanceMethod yX3_init ∈ ci_T := tb_2 (i := 54) rfl rfl
theorem ln_11_113 : lp_N (11, 113, 15) := by unfold lp_N; rw [ms_15]; exact ⟨mo_15, rfl, rfl, 0, rfl, by decide +kernel, wd_383, mk_15⟩
def lk_N_0 : List (Nat × Nat × Nat) := [(2, 24, 37), (5, 11, 20), (10, 11, 37), (11, 18, 50), (11, 34, 20), (11, 67, 37), (11, 113, 15)]
theorem lk_N_a0 : ∀ q ∈ lk_N_0, lp_N q := List.forall_mem_cons.mpr ⟨ln_2_24, List.forall_mem_cons.mpr ⟨ln_5_11, List.forall_mem_cons.mpr ⟨ln_10_11, List.forall_mem_cons.mpr ⟨ln_11_18, List.forall_mem_cons.mpr ⟨ln_11_34, List.forall_mem_cons.mpr ⟨ln_11_67, List.forall_mem_cons.mpr ⟨ln_11_113, fun _ h => absurd h List.not_mem_nil⟩⟩⟩⟩⟩⟩⟩
def lk_N : List (Nat × Nat × Nat) := lk_N_0
theorem lk_N_ok : ∀ q ∈ lk_N, lp_N q := lk_N_a0
theorem wd_118 : Jvm.Cond.instanceMethod objectInit ∈ ci_T := tb_1 (i := 29) rfl rfl
theorem wd_119 : Jvm.Cond.code objectInit ⟨#[0xb1]⟩ 1 none ∈ ci_T := tb_1 (i := 30) rfl rfl
def lp_O (q : Nat × Nat) : Prop := Jvm.Cond.methodLink (ci_cn q.1) q.2 objectInit ∈ ci_T
theorem wd_315 : Jvm.Cond.methodLink RX0 3 objectInit ∈ ci_T := tb_1 (i := 226) rfl rfl
theorem wd_360 : Jvm.Cond.methodLink RX1 3 objectInit ∈ ci_T := tb_2 (i := 31) rfl rfl
theorem wd_293 : Jvm.Cond.methodLink RX2 3 objectInit ∈ ci_T := tb_1 (i := 204) rfl rfl
theorem wd_385 : Jvm.Cond.methodLink RX3 1 objectInit ∈ ci_T := tb_2 (i := 56) rfl rfl
theorem wd_259 : Jvm.Cond.methodLink RX4 3 objectInit ∈ ci_T := tb_1 (i := 170) rfl rfl
theorem wd_277 : Jvm.Cond.methodLink RX5 3 objectInit ∈ ci_T := tb_1 (i := 188) rfl rfl
theorem wd_131 : Jvm.Cond.methodLink RX6 3 objectInit ∈ ci_T := tb_1 (i := 42) rfl rfl
theorem wd_336 : Jvm.Cond.methodLink RX7 3 objectInit ∈ ci_T := tb_2 (i := 7) rfl rfl
theorem wd_235 : Jvm.Cond.methodLink RX8 3 objectInit ∈ ci_T := tb_1 (i := 146) rfl rfl
theorem wd_215 : Jvm.Cond.methodLink RX9 3 objectInit ∈ ci_T := tb_1 (i := 126) rfl rfl
theorem wd_125 : Jvm.Cond.methodLink RX10 3 objectInit ∈ ci_T := tb_1 (i := 36) rfl rfl
theorem wd_117 : Jvm.Cond.methodLink RX11 1 objectInit ∈ ci_T := tb_1 (i := 28) rfl rfl
theorem wd_1224 : Jvm.Cond.methodLink RX12 3 objectInit ∈ ci_T := tb_5 (i := 175) rfl rfl
def lk_O_0 : List (Nat × Nat) := [(0, 3), (1, 3), (2, 3), (3, 1), (4, 3), (5, 3), (6, 3), (7, 3), (8, 3), (9, 3), (10, 3), (11, 1), (12, 3)]
theorem lk_O_a0 : ∀ q ∈ lk_O_0, lp_O q := List.forall_mem_cons.mpr ⟨wd_315, List.forall_mem_cons.mpr ⟨wd_360, List.forall_mem_cons.mpr ⟨wd_293, List.forall_mem_cons.mpr ⟨wd_385, List.forall_mem_cons.mpr ⟨wd_259, List.forall_mem_cons.mpr ⟨wd_277, List.forall_mem_cons.mpr ⟨wd_131, List.forall_mem_cons.mpr ⟨wd_336, List.forall_mem_cons.mpr ⟨wd_235, List.forall_mem_cons.mpr ⟨wd_215, List.forall_mem_cons.mpr ⟨wd_125, List.forall_mem_cons.mpr ⟨wd_117, List.forall_mem_cons.mpr ⟨wd_1224, fun _ h => absurd h List.not_mem_nil⟩⟩⟩⟩⟩⟩⟩⟩⟩⟩⟩⟩⟩
def lk_O : List (Nat × Nat) := lk_O_0
theorem lk_O_ok : ∀ q ∈ lk_O, lp_O q := lk_O_a0
def lp_C (q : Nat × Nat × Nat) : Prop := ∃ C T N, ci_cl ci_T ci_cls ci_fty q.2.2 C T N ∧ Jvm.Cond.classLink (ci_cn q.1) q.2.1 C ∈ ci_T ∧ Jvm.Cond.instantiable C N ∈ ci_T ∧ Jvm.Cond.initialized C ∈ ci_T
theorem wd_294 : Jvm.Cond.classLink RX2 11 RX6 ∈ ci_T := tb_1 (i := 205) rfl rfl
theorem wd_127 : Jvm.Cond.instantiable RX6 5 ∈ ci_T := tb_1 (i := 38) rfl rfl
theorem lc_2_11 : lp_C (2, 11, 6) := ⟨RX6, TX6, 5, cl_6, wd_294, wd_127, wd_92⟩
theorem wd_278 : Jvm.Cond.classLink RX5 9 RX4 ∈ ci_T := tb_1 (i := 189) rfl rfl
theorem wd_255 : Jvm.Cond.instantiable RX4 3 ∈ ci_T := tb_1 (i := 166) rfl rfl
theorem lc_5_9 : lp_C (5, 9, 4) := ⟨RX4, TX4, 3, cl_4, wd_278, wd_255, wd_95⟩
theorem wd_126 : Jvm.Cond.classLink RX10 9 RX6 ∈ ci_T := tb_1 (i := 37) rfl rfl
theorem lc_10_9 : lp_C (10, 9, 6) := ⟨RX6, TX6, 5, cl_6, wd_126, wd_127, wd_92⟩
theorem wd_120 : Jvm.Cond.classLink RX11 7 RX10 ∈ ci_T := tb_1 (i := 31) rfl rfl
theorem wd_121 : Jvm.Cond.instantiable RX10 9 ∈ ci_T := tb_1 (i := 32) rfl rfl
theorem lc_11_7 : lp_C (11, 7, 10) := ⟨RX10, TX10, 9, cl_10, wd_120, wd_121, wd_91⟩
theorem wd_210 : Jvm.Cond.classLink RX11 16 RX9 ∈ ci_T := tb_1 (i := 121) rfl rfl
theorem wd_211 : Jvm.Cond.instantiable RX9 4 ∈ ci_T := tb_1 (i := 122) rfl rfl
theorem lc_11_16 : lp_C (11, 16, 9) := ⟨RX9, TX9, 4, cl_9, wd_210, wd_211, wd_93⟩
theorem wd_230 : Jvm.Cond.classLink RX11 23 RX8 ∈ ci_T := tb_1 (i := 141) rfl rfl
theorem wd_231 : Jvm.Cond.instantiable RX8 4 ∈ ci_T := tb_1 (i := 142) rfl rfl
theorem lc_11_23 : lp_C (11, 23, 8) := ⟨RX8, TX8, 4, cl_8, wd_230, wd_231, wd_94⟩
theorem wd_254 : Jvm.Cond.classLink RX11 32 RX4 ∈ ci_T := tb_1 (i := 165) rfl rfl
theorem lc_11_32 : lp_C (11, 32, 4) := ⟨RX4, TX4, 3, cl_4, wd_254, wd_255, wd_95⟩
theorem wd_272 : Jvm.Cond.classLink RX11 39 RX5 ∈ ci_T := tb_1 (i := 183) rfl rfl
theorem wd_273 : Jvm.Cond.instantiable RX5 2 ∈ ci_T := tb_1 (i := 184) rfl rfl
theorem lc_11_39 : lp_C (11, 39, 5) := ⟨RX5, TX5, 2, cl_5, wd_272, wd_273, wd_96⟩
theorem wd_288 : Jvm.Cond.classLink RX11 46 RX2 ∈ ci_T := tb_1 (i := 199) rfl rfl
theorem wd_289 : Jvm.Cond.instantiable RX2 3 ∈ ci_T := tb_1 (i := 200) rfl rfl
theorem lc_11_46 : lp_C (11, 46, 2) := ⟨RX2, TX2, 3, cl_2, wd_288, wd_289, wd_97⟩
theorem wd_308 : Jvm.Cond.classLink RX11 61 RX6 ∈ ci_T := tb_1 (i := 219) rfl rfl
theorem lc_11_61 : lp_C (11, 61, 6) := ⟨RX6, TX6, 5, cl_6, wd_308, wd_127, wd_92⟩
theorem wd_310 : Jvm.Cond.classLink RX11 86 RX0 ∈ ci_T := tb_1 (i := 221) rfl rfl
theorem wd_311 : Jvm.Cond.instantiable RX0 4 ∈ ci_T := tb_1 (i := 222) rfl rfl
theorem lc_11_86 : lp_C (11, 86, 0) := ⟨RX0, TX0, 4, cl_0, wd_310, wd_311, wd_98⟩
theorem wd_331 : Jvm.Cond.classLink RX11 95 RX7 ∈ ci_T := tb_2 (i := 2) rfl rfl
theorem wd_332 : Jvm.Cond.instantiable RX7 5 ∈ ci_T := tb_2 (i := 3) rfl rfl
theorem lc_11_95 : lp_C (11, 95, 7) := ⟨RX7, TX7, 5, cl_7, wd_331, wd_332, wd_99⟩
theorem wd_355 : Jvm.Cond.classLink RX11 102 RX1 ∈ ci_T := tb_2 (i := 26) rfl rfl
theorem wd_356 : Jvm.Cond.instantiable RX1 5 ∈ ci_T := tb_2 (i := 27) rfl rfl
theorem lc_11_102 : lp_C (11, 102, 1) := ⟨RX1, TX1, 5, cl_1, wd_355, wd_356, wd_100⟩
theorem wd_380 : Jvm.Cond.classLink RX11 111 RX3 ∈ ci_T := tb_2 (i := 51) rfl rfl
theorem wd_381 : Jvm.Cond.instantiable RX3 2 ∈ ci_T := tb_2 (i := 52) rfl rfl
theorem lc_11_111 : lp_C (11, 111, 3) := ⟨RX3, TX3, 2, cl_3, wd_380, wd_381, wd_101⟩
theorem wd_112 : Jvm.Cond.classLink "TwoAtMostLaw" 8 RX11 ∈ ci_T := tb_1 (i := 23) rfl rfl
theorem wd_113 : Jvm.Cond.instantiable RX11 19 ∈ ci_T := tb_1 (i := 24) rfl rfl
theorem lc_14_8 : lp_C (14, 8, 11) := ⟨RX11, TX11, 19, cl_11, wd_112, wd_113, wd_90⟩
theorem wd_1219 : Jvm.Cond.classLink "TwoAtMostLaw" 26 RX12 ∈ ci_T := tb_5 (i := 170) rfl rfl
theorem wd_1220 : Jvm.Cond.instantiable RX12 43 ∈ ci_T := tb_5 (i := 171) rfl rfl
theorem lc_14_26 : lp_C (14, 26, 12) := ⟨RX12, TX12, 43, cl_12, wd_1219, wd_1220, wd_102⟩
def lk_C_0 : List (Nat × Nat × Nat) := [(2, 11, 6), (5, 9, 4), (10, 9, 6), (11, 7, 10), (11, 16, 9), (11, 23, 8), (11, 32, 4), (11, 39, 5), (11, 46, 2), (11, 61, 6), (11, 86, 0), (11, 95, 7), (11, 102, 1), (11, 111, 3), (14, 8, 11), (14, 26, 12)]
theorem lk_C_a0 : ∀ q ∈ lk_C_0, lp_C q := List.forall_mem_cons.mpr ⟨lc_2_11, List.forall_mem_cons.mpr ⟨lc_5_9, List.forall_mem_cons.mpr ⟨lc_10_9, List.forall_mem_cons.mpr ⟨lc_11_7, List.forall_mem_cons.mpr ⟨lc_11_16, List.forall_mem_cons.mpr ⟨lc_11_23, List.forall_mem_cons.mpr ⟨lc_11_32, List.forall_mem_cons.mpr ⟨lc_11_39, List.forall_mem_cons.mpr ⟨lc_11_46, List.forall_mem_cons.mpr ⟨lc_11_61, List.forall_mem_cons.mpr ⟨lc_11_86, List.forall_mem_cons.mpr ⟨lc_11_95, List.forall_mem_cons.mpr ⟨lc_11_102, List.forall_mem_cons.mpr ⟨lc_11_111, List.forall_mem_cons.mpr ⟨lc_14_8, List.forall_mem_cons.mpr ⟨lc_14_26, fun _ h => absurd h List.not_mem_nil⟩⟩⟩⟩⟩⟩⟩⟩⟩⟩⟩⟩⟩⟩⟩⟩
def lk_C : List (Nat × Nat × Nat) := lk_C_0
theorem lk_C_ok : ∀ q ∈ lk_C, lp_C q := lk_C_a0
def lp_K (q : Nat × Nat × Int32) : Prop := Jvm.Cond.constant (ci_cn q.1) q.2.1 q.2.2 ∈ ci_T
theorem wd_704 : Jvm.Cond.constant RX10 90 554189328 ∈ ci_T := tb_3 (i := 135) rfl rfl
theorem wd_1111 : Jvm.Cond.constant RX11 442 1103515245 ∈ ci_T := tb_5 (i := 62) rfl rfl
theorem wd_1674 : Jvm.Cond.constant RX12 315 1000000 ∈ ci_T := tb_7 (i := 145) rfl rfl
theorem wd_1788 : Jvm.Cond.constant RX12 375 1103515245 ∈ ci_T := tb_8 (i := 19) rfl rfl
theorem wd_758 : Jvm.Cond.constant "java/lang/Integer" 127 (-2147483648) ∈ ci_T := tb_3 (i := 189) rfl rfl
theorem wd_762 : Jvm.Cond.constant "java/lang/Integer" 264 65536 ∈ ci_T := tb_3 (i := 193) rfl rfl
theorem wd_626 : Jvm.Cond.constant "java/lang/Integer" 265 1431655765 ∈ ci_T := tb_3 (i := 57) rfl rfl
theorem wd_627 : Jvm.Cond.constant "java/lang/Integer" 266 858993459 ∈ ci_T := tb_3 (i := 58) rfl rfl
theorem wd_628 : Jvm.Cond.constant "java/lang/Integer" 267 252645135 ∈ ci_T := tb_3 (i := 59) rfl rfl
def lk_K_0 : List (Nat × Nat × Int32) := [(10, 90, 554189328), (11, 442, 1103515245), (12, 315, 1000000), (12, 375, 1103515245), (15, 127, (-2147483648)), (15, 264, 65536), (15, 265, 1431655765), (15, 266, 858993459), (15, 267, 252645135)]
theorem lk_K_a0 : ∀ q ∈ lk_K_0, lp_K q := List.forall_mem_cons.mpr ⟨wd_704, List.forall_mem_cons.mpr ⟨wd_1111, List.forall_mem_cons.mpr ⟨wd_1674, List.forall_mem_cons.mpr ⟨wd_1788, List.forall_mem_cons.mpr ⟨wd_758, List.forall_mem_cons.mpr ⟨wd_762, List.forall_mem_cons.mpr ⟨wd_626, List.forall_mem_cons.mpr ⟨wd_627, List.forall_mem_cons.mpr ⟨wd_628, fun _ h => absurd h List.not_mem_nil⟩⟩⟩⟩⟩⟩⟩⟩⟩
def lk_K : List (Nat × Nat × Int32) := lk_K_0
theorem lk_K_ok : ∀ q ∈ lk_K, lp_K q := lk_K_a0
def lp_J (q : Nat × Nat × Nat) : Prop := Jvm.Cond.constantLong (ci_cn q.1) q.2.1 (Int64.ofNat q.2.2) ∈ ci_T
theorem wd_1088 : Jvm.Cond.constantLong RX11 390 (Int64.ofNat 1000) ∈ ci_T := tb_5 (i := 39) rfl rfl
theorem wd_1087 : Jvm.Cond.constantLong RX11 436 (Int64.ofNat 1000000) ∈ ci_T := tb_5 (i := 38) rfl rfl
theorem wd_1760 : Jvm.Cond.constantLong RX12 355 (Int64.ofNat 10) ∈ ci_T := tb_7 (i := 231) rfl rfl
theorem wd_1768 : Jvm.Cond.constantLong RX12 360 (Int64.ofNat 1000000) ∈ ci_T := tb_7 (i := 239) rfl rfl
theorem wd_1769 : Jvm.Cond.constantLong RX12 362 (Int64.ofNat 1000) ∈ ci_T := tb_8 (i := 0) rfl rfl
theorem wd_1018 : Jvm.Cond.constantLong "java/lang/Long" 314 (Int64.ofNat 6148914691236517205) ∈ ci_T := tb_4 (i := 209) rfl rfl
theorem wd_1019 : Jvm.Cond.constantLong "java/lang/Long" 316 (Int64.ofNat 3689348814741910323) ∈ ci_T := tb_4 (i := 210) rfl rfl
theorem wd_1020 : Jvm.Cond.constantLong "java/lang/Long" 318 (Int64.ofNat 1085102592571150095) ∈ ci_T := tb_4 (i := 211) rfl rfl
def lk_J_0 : List (Nat × Nat × Nat) := [(11, 390, 1000), (11, 436, 1000000), (12, 355, 10), (12, 360, 1000000), (12, 362, 1000), (17, 314, 6148914691236517205), (17, 316, 3689348814741910323), (17, 318, 1085102592571150095)]
theorem lk_J_a0 : ∀ q ∈ lk_J_0, lp_J q := List.forall_mem_cons.mpr ⟨wd_1088, List.forall_mem_cons.mpr ⟨wd_1087, List.forall_mem_cons.mpr ⟨wd_1760, List.forall_mem_cons.mpr ⟨wd_1768, List.forall_mem_cons.mpr ⟨wd_1769, List.forall_mem_cons.mpr ⟨wd_1018, List.forall_mem_cons.mpr ⟨wd_1019, List.forall_mem_cons.mpr ⟨wd_1020, fun _ h => absurd h List.not_mem_nil⟩⟩⟩⟩⟩⟩⟩⟩
def lk_J : List (Nat × Nat × Nat) := lk_J_0
theorem lk_J_ok : ∀ q ∈ lk_J, lp_J q := lk_J_a0
def lp_A (q : Nat × Nat) : Prop := Jvm.Cond.methodLink (ci_cn q.1) q.2 arraycopyName ∈ ci_T
theorem wd_601 : Jvm.Cond.methodLink RX4 22 arraycopyName ∈ ci_T := tb_3 (i := 32) rfl rfl
theorem wd_684 : Jvm.Cond.methodLink RX6 28 arraycopyName ∈ ci_T := tb_3 (i := 115) rfl rfl
def lk_A_0 : List (Nat × Nat) := [(4, 22), (6, 28)]
theorem lk_A_a0 : ∀ q ∈ lk_A_0, lp_A q := List.forall_mem_cons.mpr ⟨wd_601, List.forall_mem_cons.mpr ⟨wd_684, fun _ h => absurd h List.not_mem_nil⟩⟩
def lk_A : List (Nat × Nat) := lk_A_0
theorem lk_A_ok : ∀ q ∈ lk_A, lp_A q := lk_A_a0
theorem wd_603 : Jvm.Cond.native arraycopyName ∈ ci_T := tb_3 (i := 34) rfl rfl
theorem wd_602 : Jvm.Cond.static arraycopyName ∈ ci_T := tb_3 (i := 33) rfl rfl
theorem wd_106 : Jvm.Cond.initialized "java/lang/System" ∈ ci_T := tb_1 (i := 17) rfl rfl
theorem lk_A2 : Jvm.Cond.native arraycopyName ∈ ci_T ∧ Jvm.Cond.static arraycopyName ∈ ci_T ∧ Jvm.Cond.initialized "java/lang/System" ∈ ci_T := ⟨wd_603, wd_602, wd_106⟩
theorem lk_O2 : Jvm.Cond.instanceMethod objectInit ∈ ci_T ∧ Jvm.Cond.code objectInit ⟨#[0xb1]⟩ 1 none ∈ ci_T := ⟨wd_118, wd_119⟩
theorem wd_161 : Jvm.Cond.arrayClass .int ∈ ci_T := tb_1 (i := 72) rfl rfl
theorem wd_329 : Jvm.Cond.arrayClass .long ∈ ci_T := tb_2 (i := 0) rfl rfl
theorem wd_1355 : Jvm.Cond.arrayClass .byte ∈ ci_T := tb_6 (i := 66) rfl rfl
theorem wd_330 : Jvm.Cond.arrayClass .boolean ∈ ci_T := tb_2 (i := 1) rfl rfl
theorem lk_ac : Jvm.Cond.arrayClass .int ∈ ci_T ∧ Jvm.Cond.arrayClass .long ∈ ci_T ∧ Jvm.Cond.arrayClass .byte ∈ ci_T ∧ Jvm.Cond.arrayClass .boolean ∈ ci_T := ⟨wd_161, wd_329, wd_1355, wd_330⟩
theorem wd_361 : Jvm.Cond.classLink "TwoAtMost$Dealing" 9 "[[I" ∈ ci_T := tb_2 (i := 32) rfl rfl
theorem lk_grid : Jvm.Cond.classLink "TwoAtMost$Dealing" 9 "[[I" ∈ ci_T := wd_361
theorem wd_649 : Jvm.Cond.static Lib.Math.max.name ∈ ci_T := tb_3 (i := 80) rfl rfl
theorem wd_650 : Jvm.Cond.code Lib.Math.max.name Lib.Math.max.code 2 (some .int) ∈ ci_T := tb_3 (i := 81) rfl rfl
theorem wd_489 : Jvm.Cond.static Lib.Math.min.name ∈ ci_T := tb_2 (i := 160) rfl rfl
theorem wd_490 : Jvm.Cond.code Lib.Math.min.name Lib.Math.min.code 2 (some .int) ∈ ci_T := tb_2 (i := 161) rfl rfl
theorem wd_1009 : Jvm.Cond.static Lib.Math.abs.name ∈ ci_T := tb_4 (i := 200) rfl rfl
theorem wd_1010 : Jvm.Cond.code Lib.Math.abs.name Lib.Math.abs.code 1 (some .int) ∈ ci_T := tb_4 (i := 201) rfl rfl
theorem wd_103 : Jvm.Cond.initialized "java/lang/Math" ∈ ci_T := tb_1 (i := 14) rfl rfl
def lp_X (q : Nat × Nat × Nat) : Prop := ci_okX ci_T (ci_cn q.1) (.invokestatic q.2.1) 3 q.2.2
theorem wd_983 : Jvm.Cond.methodLink RX1 73 Lib.Math.max.name ∈ ci_T := tb_4 (i := 174) rfl rfl
theorem lx_1_73 : lp_X (1, 73, 0) := ⟨rfl, 73, rfl, wd_103, wd_983, wd_649, wd_650⟩
theorem wd_1008 : Jvm.Cond.methodLink RX3 16 Lib.Math.abs.name ∈ ci_T := tb_4 (i := 199) rfl rfl
theorem lx_3_16 : lp_X (3, 16, 2) := ⟨rfl, 16, rfl, wd_103, wd_1008, wd_1009, wd_1010⟩
theorem wd_647 : Jvm.Cond.methodLink RX4 40 Lib.Math.min.name ∈ ci_T := tb_3 (i := 78) rfl rfl
theorem lx_4_40 : lp_X (4, 40, 1) := ⟨rfl, 40, rfl, wd_103, wd_647, wd_489, wd_490⟩
theorem wd_648 : Jvm.Cond.methodLink RX4 46 Lib.Math.max.name ∈ ci_T := tb_3 (i := 79) rfl rfl
theorem lx_4_46 : lp_X (4, 46, 0) := ⟨rfl, 46, rfl, wd_103, wd_648, wd_649, wd_650⟩
theorem wd_488 : Jvm.Cond.methodLink RX9 25 Lib.Math.min.name ∈ ci_T := tb_2 (i := 159) rfl rfl
theorem lx_9_25 : lp_X (9, 25, 1) := ⟨rfl, 25, rfl, wd_103, wd_488, wd_489, wd_490⟩
theorem wd_699 : Jvm.Cond.methodLink RX10 84 Lib.Math.max.name ∈ ci_T := tb_3 (i := 130) rfl rfl
theorem lx_10_84 : lp_X (10, 84, 0) := ⟨rfl, 84, rfl, wd_103, wd_699, wd_649, wd_650⟩
theorem wd_742 : Jvm.Cond.methodLink RX10 123 Lib.Math.min.name ∈ ci_T := tb_3 (i := 173) rfl rfl
theorem lx_10_123 : lp_X (10, 123, 1) := ⟨rfl, 123, rfl, wd_103, wd_742, wd_489, wd_490⟩
theorem wd_662 : Jvm.Cond.methodLink RX11 364 Lib.Math.min.name ∈ ci_T := tb_3 (i := 93) rfl rfl
theorem lx_11_364 : lp_X (11, 364, 1) := ⟨rfl, 364, rfl, wd_103, wd_662, wd_489, wd_490⟩
theorem wd_663 : Jvm.Cond.methodLink RX11 372 Lib.Math.max.name ∈ ci_T := tb_3 (i := 94) rfl rfl
theorem lx_11_372 : lp_X (11, 372, 0) := ⟨rfl, 372, rfl, wd_103, wd_663, wd_649, wd_650⟩
theorem wd_1522 : Jvm.Cond.methodLink RX12 213 Lib.Math.min.name ∈ ci_T := tb_6 (i := 233) rfl rfl
theorem lx_12_213 : lp_X (12, 213, 1) := ⟨rfl, 213, rfl, wd_103, wd_1522, wd_489, wd_490⟩
theorem wd_1523 : Jvm.Cond.methodLink RX12 218 Lib.Math.max.name ∈ ci_T := tb_6 (i := 234) rfl rfl
theorem lx_12_218 : lp_X (12, 218, 0) := ⟨rfl, 218, rfl, wd_103, wd_1523, wd_649, wd_650⟩
def lk_X_0 : List (Nat × Nat × Nat) := [(1, 73, 0), (3, 16, 2), (4, 40, 1), (4, 46, 0), (9, 25, 1), (10, 84, 0), (10, 123, 1), (11, 364, 1), (11, 372, 0), (12, 213, 1), (12, 218, 0)]
theorem lk_X_a0 : ∀ q ∈ lk_X_0, lp_X q := List.forall_mem_cons.mpr ⟨lx_1_73, List.forall_mem_cons.mpr ⟨lx_3_16, List.forall_mem_cons.mpr ⟨lx_4_40, List.forall_mem_cons.mpr ⟨lx_4_46, List.forall_mem_cons.mpr ⟨lx_9_25, List.forall_mem_cons.mpr ⟨lx_10_84, List.forall_mem_cons.mpr ⟨lx_10_123, List.forall_mem_cons.mpr ⟨lx_11_364, List.forall_mem_cons.mpr ⟨lx_11_372, List.forall_mem_cons.mpr ⟨lx_12_213, List.forall_mem_cons.mpr ⟨lx_12_218, fun _ h => absurd h List.not_mem_nil⟩⟩⟩⟩⟩⟩⟩⟩⟩⟩⟩
def lk_X : List (Nat × Nat × Nat) := lk_X_0
theorem lk_X_ok : ∀ q ∈ lk_X, lp_X q := lk_X_a0
theorem wd_1128 : Jvm.Cond.methodLink RL 56 yL_thing ∈ ci_T := tb_5 (i := 79) rfl rfl
theorem wd_1198 : Jvm.Cond.methodLink RL 65 yL_kind ∈ ci_T := tb_5 (i := 149) rfl rfl
theorem wd_1205 : Jvm.Cond.methodLink RL 68 yL_house ∈ ci_T := tb_5 (i := 156) rfl rfl
theorem wd_1212 : Jvm.Cond.methodLink RL 229 yL_row ∈ ci_T := tb_5 (i := 163) rfl rfl
def lk_14 : List (Nat × Nat) := [(101, 56), (102, 65), (103, 68), (143, 229)]
