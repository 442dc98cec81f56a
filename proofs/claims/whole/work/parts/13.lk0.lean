/-! The links of the instructions, against the tables' words. -/
def ci_T : List Jvm.Cond := lw_tbl.filter goodWord
theorem ci_T_good : ∀ w ∈ ci_T, (w.onTables && w.keeps) = true ∨ ∃ ty, w = Jvm.Cond.arrayClass ty := fun w hw => good_of_word (List.mem_filter.mp hw).2
theorem ci_T_tbl : ∀ w ∈ ci_T, w ∈ lw_tbl := fun w hw => (List.mem_filter.mp hw).1
theorem tb_1 {w : Jvm.Cond} {i : Nat} (h : tables_1_1[i]? = some w) (g : goodWord w = true) : w ∈ ci_T := List.mem_filter.mpr ⟨List.mem_append_right _ (List.mem_append_left _ (List.mem_of_getElem? h)), g⟩
theorem tb_2 {w : Jvm.Cond} {i : Nat} (h : tables_1_2[i]? = some w) (g : goodWord w = true) : w ∈ ci_T := List.mem_filter.mpr ⟨List.mem_append_right _ (List.mem_append_right _ (List.mem_append_left _ (List.mem_of_getElem? h))), g⟩
theorem tb_3 {w : Jvm.Cond} {i : Nat} (h : tables_1_3[i]? = some w) (g : goodWord w = true) : w ∈ ci_T := List.mem_filter.mpr ⟨List.mem_append_right _ (List.mem_append_right _ (List.mem_append_right _ (List.mem_append_left _ (List.mem_of_getElem? h)))), g⟩
theorem tb_4 {w : Jvm.Cond} {i : Nat} (h : tables_1_4[i]? = some w) (g : goodWord w = true) : w ∈ ci_T := List.mem_filter.mpr ⟨List.mem_append_right _ (List.mem_append_right _ (List.mem_append_right _ (List.mem_append_right _ (List.mem_append_left _ (List.mem_of_getElem? h))))), g⟩
theorem tb_5 {w : Jvm.Cond} {i : Nat} (h : tables_1_5[i]? = some w) (g : goodWord w = true) : w ∈ ci_T := List.mem_filter.mpr ⟨List.mem_append_right _ (List.mem_append_right _ (List.mem_append_right _ (List.mem_append_right _ (List.mem_append_right _ (List.mem_append_left _ (List.mem_of_getElem? h)))))), g⟩
theorem tb_6 {w : Jvm.Cond} {i : Nat} (h : tables_1_6[i]? = some w) (g : goodWord w = true) : w ∈ ci_T := List.mem_filter.mpr ⟨List.mem_append_right _ (List.mem_append_right _ (List.mem_append_right _ (List.mem_append_right _ (List.mem_append_right _ (List.mem_append_right _ (List.mem_append_left _ (List.mem_of_getElem? h))))))), g⟩
theorem tb_7 {w : Jvm.Cond} {i : Nat} (h : tables_1_7[i]? = some w) (g : goodWord w = true) : w ∈ ci_T := List.mem_filter.mpr ⟨List.mem_append_right _ (List.mem_append_right _ (List.mem_append_right _ (List.mem_append_right _ (List.mem_append_right _ (List.mem_append_right _ (List.mem_append_right _ (List.mem_append_left _ (List.mem_of_getElem? h)))))))), g⟩
theorem tb_8 {w : Jvm.Cond} {i : Nat} (h : tables_1_8[i]? = some w) (g : goodWord w = true) : w ∈ ci_T := List.mem_filter.mpr ⟨List.mem_append_right _ (List.mem_append_right _ (List.mem_append_right _ (List.mem_append_right _ (List.mem_append_right _ (List.mem_append_right _ (List.mem_append_right _ (List.mem_append_right _ (List.mem_of_getElem? h)))))))), g⟩
theorem pv_1 {q : MethodName × Nat} {i : Nat} (h : lw_privs_1[i]? = some q) (g : goodWord (Jvm.Cond.selects q.1.cls q.1 q.1) = true) : Jvm.Cond.selects q.1.cls q.1 q.1 ∈ ci_T := List.mem_filter.mpr ⟨List.mem_append_left _ (List.mem_map.mpr ⟨q, List.mem_append_left _ (List.mem_of_getElem? h), rfl⟩), g⟩
theorem pv_2 {q : MethodName × Nat} {i : Nat} (h : lw_privs_2[i]? = some q) (g : goodWord (Jvm.Cond.selects q.1.cls q.1 q.1) = true) : Jvm.Cond.selects q.1.cls q.1 q.1 ∈ ci_T := List.mem_filter.mpr ⟨List.mem_append_left _ (List.mem_map.mpr ⟨q, List.mem_append_right _ (List.mem_append_left _ (List.mem_of_getElem? h)), rfl⟩), g⟩
theorem pv_3 {q : MethodName × Nat} {i : Nat} (h : lw_privs_3[i]? = some q) (g : goodWord (Jvm.Cond.selects q.1.cls q.1 q.1) = true) : Jvm.Cond.selects q.1.cls q.1 q.1 ∈ ci_T := List.mem_filter.mpr ⟨List.mem_append_left _ (List.mem_map.mpr ⟨q, List.mem_append_right _ (List.mem_append_right _ (List.mem_append_left _ (List.mem_of_getElem? h))), rfl⟩), g⟩
theorem pv_4 {q : MethodName × Nat} {i : Nat} (h : lw_privs_4[i]? = some q) (g : goodWord (Jvm.Cond.selects q.1.cls q.1 q.1) = true) : Jvm.Cond.selects q.1.cls q.1 q.1 ∈ ci_T := List.mem_filter.mpr ⟨List.mem_append_left _ (List.mem_map.mpr ⟨q, List.mem_append_right _ (List.mem_append_right _ (List.mem_append_right _ (List.mem_append_left _ (List.mem_of_getElem? h)))), rfl⟩), g⟩
theorem pv_5 {q : MethodName × Nat} {i : Nat} (h : lw_privs_5[i]? = some q) (g : goodWord (Jvm.Cond.selects q.1.cls q.1 q.1) = true) : Jvm.Cond.selects q.1.cls q.1 q.1 ∈ ci_T := List.mem_filter.mpr ⟨List.mem_append_left _ (List.mem_map.mpr ⟨q, List.mem_append_right _ (List.mem_append_right _ (List.mem_append_right _ (List.mem_append_right _ (List.mem_append_left _ (List.mem_of_getElem? h))))), rfl⟩), g⟩
theorem pv_6 {q : MethodName × Nat} {i : Nat} (h : lw_privs_6[i]? = some q) (g : goodWord (Jvm.Cond.selects q.1.cls q.1 q.1) = true) : Jvm.Cond.selects q.1.cls q.1 q.1 ∈ ci_T := List.mem_filter.mpr ⟨List.mem_append_left _ (List.mem_map.mpr ⟨q, List.mem_append_right _ (List.mem_append_right _ (List.mem_append_right _ (List.mem_append_right _ (List.mem_append_right _ (List.mem_of_getElem? h))))), rfl⟩), g⟩
theorem wd_320 : Jvm.Cond.laysFinal "TwoAtMost$Choosing" "TwoAtMost$Choosing" "town" "LTwoAtMost$Town;" ∈ ci_T := tb_1 (i := 231) rfl rfl
theorem wd_322 : Jvm.Cond.lays "TwoAtMost$Choosing" "TwoAtMost$Choosing" "greatestFirst" "Z" ∈ ci_T := tb_1 (i := 233) rfl rfl
theorem wd_324 : Jvm.Cond.lays "TwoAtMost$Choosing" "TwoAtMost$Choosing" "best" "I" ∈ ci_T := tb_1 (i := 235) rfl rfl
theorem wd_326 : Jvm.Cond.lays "TwoAtMost$Choosing" "TwoAtMost$Choosing" "bestCount" "I" ∈ ci_T := tb_1 (i := 237) rfl rfl
theorem cl_ws0 : ∀ w ∈ u_ws RX0 TX0 4, w ∈ ci_T := by
  intro w hw
  obtain ⟨k, hk, rfl⟩ := List.mem_map.mp hw
  have hk := List.mem_range.mp hk
  match k, hk with
  | 0, _ => exact wd_320
  | 1, _ => exact wd_322
  | 2, _ => exact wd_324
  | 3, _ => exact wd_326
  | k + 4, hk => exact absurd hk (by omega)
theorem cl_0 : ci_cl ci_T ci_cls ci_fty 0 RX0 TX0 4 := ⟨rfl, cl_ws0, tyX0_ok, nmX0, by decide +kernel, by decide +kernel⟩
theorem wd_369 : Jvm.Cond.laysFinal "TwoAtMost$Dealing" "TwoAtMost$Dealing" "town" "LTwoAtMost$Town;" ∈ ci_T := tb_2 (i := 40) rfl rfl
theorem wd_371 : Jvm.Cond.laysFinal "TwoAtMost$Dealing" "TwoAtMost$Dealing" "rule" "LTwoAtMost$Rule;" ∈ ci_T := tb_2 (i := 42) rfl rfl
theorem wd_373 : Jvm.Cond.laysFinal "TwoAtMost$Dealing" "TwoAtMost$Dealing" "gains" "[[I" ∈ ci_T := tb_2 (i := 44) rfl rfl
theorem wd_375 : Jvm.Cond.laysFinal "TwoAtMost$Dealing" "TwoAtMost$Dealing" "best" "[I" ∈ ci_T := tb_2 (i := 46) rfl rfl
theorem wd_377 : Jvm.Cond.laysFinal "TwoAtMost$Dealing" "TwoAtMost$Dealing" "dealt" "[I" ∈ ci_T := tb_2 (i := 48) rfl rfl
theorem cl_ws1 : ∀ w ∈ u_ws RX1 TX1 5, w ∈ ci_T := by
  intro w hw
  obtain ⟨k, hk, rfl⟩ := List.mem_map.mp hw
  have hk := List.mem_range.mp hk
  match k, hk with
  | 0, _ => exact wd_369
  | 1, _ => exact wd_371
  | 2, _ => exact wd_373
  | 3, _ => exact wd_375
  | 4, _ => exact wd_377
  | k + 5, hk => exact absurd hk (by omega)
theorem cl_1 : ci_cl ci_T ci_cls ci_fty 1 RX1 TX1 5 := ⟨rfl, cl_ws1, tyX1_ok, nmX1, by decide +kernel, by decide +kernel⟩
theorem wd_301 : Jvm.Cond.laysFinal "TwoAtMost$Past" "TwoAtMost$Past" "states" "[LTwoAtMost$State;" ∈ ci_T := tb_1 (i := 212) rfl rfl
theorem wd_303 : Jvm.Cond.lays "TwoAtMost$Past" "TwoAtMost$Past" "oldest" "I" ∈ ci_T := tb_1 (i := 214) rfl rfl
theorem wd_305 : Jvm.Cond.lays "TwoAtMost$Past" "TwoAtMost$Past" "size" "I" ∈ ci_T := tb_1 (i := 216) rfl rfl
theorem cl_ws2 : ∀ w ∈ u_ws RX2 TX2 3, w ∈ ci_T := by
  intro w hw
  obtain ⟨k, hk, rfl⟩ := List.mem_map.mp hw
  have hk := List.mem_range.mp hk
  match k, hk with
  | 0, _ => exact wd_301
  | 1, _ => exact wd_303
  | 2, _ => exact wd_305
  | k + 3, hk => exact absurd hk (by omega)
theorem cl_2 : ci_cl ci_T ci_cls ci_fty 2 RX2 TX2 3 := ⟨rfl, cl_ws2, tyX2_ok, nmX2, by decide +kernel, by decide +kernel⟩
theorem wd_388 : Jvm.Cond.lays "TwoAtMost$Purse" "TwoAtMost$Purse" "low" "J" ∈ ci_T := tb_2 (i := 59) rfl rfl
theorem wd_390 : Jvm.Cond.lays "TwoAtMost$Purse" "TwoAtMost$Purse" "high" "J" ∈ ci_T := tb_2 (i := 61) rfl rfl
theorem cl_ws3 : ∀ w ∈ u_ws RX3 TX3 2, w ∈ ci_T := by
  intro w hw
  obtain ⟨k, hk, rfl⟩ := List.mem_map.mp hw
  have hk := List.mem_range.mp hk
  match k, hk with
  | 0, _ => exact wd_388
  | 1, _ => exact wd_390
  | k + 2, hk => exact absurd hk (by omega)
theorem cl_3 : ci_cl ci_T ci_cls ci_fty 3 RX3 TX3 2 := ⟨rfl, cl_ws3, tyX3_ok, nmX3, by decide +kernel, by decide +kernel⟩
theorem wd_265 : Jvm.Cond.laysFinal "TwoAtMost$Rule" "TwoAtMost$Rule" "code" "[I" ∈ ci_T := tb_1 (i := 176) rfl rfl
theorem wd_267 : Jvm.Cond.laysFinal "TwoAtMost$Rule" "TwoAtMost$Rule" "stack" "[I" ∈ ci_T := tb_1 (i := 178) rfl rfl
theorem wd_269 : Jvm.Cond.lays "TwoAtMost$Rule" "TwoAtMost$Rule" "size" "I" ∈ ci_T := tb_1 (i := 180) rfl rfl
theorem cl_ws4 : ∀ w ∈ u_ws RX4 TX4 3, w ∈ ci_T := by
  intro w hw
  obtain ⟨k, hk, rfl⟩ := List.mem_map.mp hw
  have hk := List.mem_range.mp hk
  match k, hk with
  | 0, _ => exact wd_265
  | 1, _ => exact wd_267
  | 2, _ => exact wd_269
  | k + 3, hk => exact absurd hk (by omega)
theorem cl_4 : ci_cl ci_T ci_cls ci_fty 4 RX4 TX4 3 := ⟨rfl, cl_ws4, tyX4_ok, nmX4, by decide +kernel, by decide +kernel⟩
theorem wd_283 : Jvm.Cond.laysFinal "TwoAtMost$RuleReader" "TwoAtMost$RuleReader" "text" "LTwoAtMost$Text;" ∈ ci_T := tb_1 (i := 194) rfl rfl
theorem wd_285 : Jvm.Cond.laysFinal "TwoAtMost$RuleReader" "TwoAtMost$RuleReader" "draft" "LTwoAtMost$Rule;" ∈ ci_T := tb_1 (i := 196) rfl rfl
theorem cl_ws5 : ∀ w ∈ u_ws RX5 TX5 2, w ∈ ci_T := by
  intro w hw
  obtain ⟨k, hk, rfl⟩ := List.mem_map.mp hw
  have hk := List.mem_range.mp hk
  match k, hk with
  | 0, _ => exact wd_283
  | 1, _ => exact wd_285
  | k + 2, hk => exact absurd hk (by omega)
theorem cl_5 : ci_cl ci_T ci_cls ci_fty 5 RX5 TX5 2 := ⟨rfl, cl_ws5, tyX5_ok, nmX5, by decide +kernel, by decide +kernel⟩
theorem wd_150 : Jvm.Cond.laysFinal "TwoAtMost$State" "TwoAtMost$State" "owner" "[I" ∈ ci_T := tb_1 (i := 61) rfl rfl
theorem wd_152 : Jvm.Cond.laysFinal "TwoAtMost$State" "TwoAtMost$State" "keeper" "[I" ∈ ci_T := tb_1 (i := 63) rfl rfl
theorem wd_154 : Jvm.Cond.laysFinal "TwoAtMost$State" "TwoAtMost$State" "traits" "[I" ∈ ci_T := tb_1 (i := 65) rfl rfl
theorem wd_156 : Jvm.Cond.laysFinal "TwoAtMost$State" "TwoAtMost$State" "coins" "[I" ∈ ci_T := tb_1 (i := 67) rfl rfl
theorem wd_158 : Jvm.Cond.lays "TwoAtMost$State" "TwoAtMost$State" "hour" "I" ∈ ci_T := tb_1 (i := 69) rfl rfl
theorem cl_ws6 : ∀ w ∈ u_ws RX6 TX6 5, w ∈ ci_T := by
  intro w hw
  obtain ⟨k, hk, rfl⟩ := List.mem_map.mp hw
  have hk := List.mem_range.mp hk
  match k, hk with
  | 0, _ => exact wd_150
  | 1, _ => exact wd_152
  | 2, _ => exact wd_154
  | 3, _ => exact wd_156
  | 4, _ => exact wd_158
  | k + 5, hk => exact absurd hk (by omega)
theorem cl_6 : ci_cl ci_T ci_cls ci_fty 6 RX6 TX6 5 := ⟨rfl, cl_ws6, tyX6_ok, nmX6, by decide +kernel, by decide +kernel⟩
theorem wd_344 : Jvm.Cond.laysFinal "TwoAtMost$Storing" "TwoAtMost$Storing" "town" "LTwoAtMost$Town;" ∈ ci_T := tb_2 (i := 15) rfl rfl
theorem wd_346 : Jvm.Cond.laysFinal "TwoAtMost$Storing" "TwoAtMost$Storing" "those" "[I" ∈ ci_T := tb_2 (i := 17) rfl rfl
theorem wd_348 : Jvm.Cond.laysFinal "TwoAtMost$Storing" "TwoAtMost$Storing" "loads" "[I" ∈ ci_T := tb_2 (i := 19) rfl rfl
theorem wd_350 : Jvm.Cond.laysFinal "TwoAtMost$Storing" "TwoAtMost$Storing" "places" "[I" ∈ ci_T := tb_2 (i := 21) rfl rfl
theorem wd_352 : Jvm.Cond.lays "TwoAtMost$Storing" "TwoAtMost$Storing" "count" "I" ∈ ci_T := tb_2 (i := 23) rfl rfl
theorem cl_ws7 : ∀ w ∈ u_ws RX7 TX7 5, w ∈ ci_T := by
  intro w hw
  obtain ⟨k, hk, rfl⟩ := List.mem_map.mp hw
  have hk := List.mem_range.mp hk
  match k, hk with
  | 0, _ => exact wd_344
  | 1, _ => exact wd_346
  | 2, _ => exact wd_348
  | 3, _ => exact wd_350
  | 4, _ => exact wd_352
  | k + 5, hk => exact absurd hk (by omega)
theorem cl_7 : ci_cl ci_T ci_cls ci_fty 7 RX7 TX7 5 := ⟨rfl, cl_ws7, tyX7_ok, nmX7, by decide +kernel, by decide +kernel⟩
theorem wd_245 : Jvm.Cond.laysFinal "TwoAtMost$Telling" "TwoAtMost$Telling" "text" "LTwoAtMost$Text;" ∈ ci_T := tb_1 (i := 156) rfl rfl
theorem wd_247 : Jvm.Cond.laysFinal "TwoAtMost$Telling" "TwoAtMost$Telling" "first" "[I" ∈ ci_T := tb_1 (i := 158) rfl rfl
theorem wd_249 : Jvm.Cond.laysFinal "TwoAtMost$Telling" "TwoAtMost$Telling" "second" "[I" ∈ ci_T := tb_1 (i := 160) rfl rfl
theorem wd_251 : Jvm.Cond.laysFinal "TwoAtMost$Telling" "TwoAtMost$Telling" "third" "[I" ∈ ci_T := tb_1 (i := 162) rfl rfl
theorem cl_ws8 : ∀ w ∈ u_ws RX8 TX8 4, w ∈ ci_T := by
  intro w hw
  obtain ⟨k, hk, rfl⟩ := List.mem_map.mp hw
  have hk := List.mem_range.mp hk
  match k, hk with
  | 0, _ => exact wd_245
  | 1, _ => exact wd_247
  | 2, _ => exact wd_249
  | 3, _ => exact wd_251
  | k + 4, hk => exact absurd hk (by omega)
theorem cl_8 : ci_cl ci_T ci_cls ci_fty 8 RX8 TX8 4 := ⟨rfl, cl_ws8, tyX8_ok, nmX8, by decide +kernel, by decide +kernel⟩
theorem wd_221 : Jvm.Cond.laysFinal "TwoAtMost$Text" "TwoAtMost$Text" "signs" "[I" ∈ ci_T := tb_1 (i := 132) rfl rfl
theorem wd_223 : Jvm.Cond.lays "TwoAtMost$Text" "TwoAtMost$Text" "length" "I" ∈ ci_T := tb_1 (i := 134) rfl rfl
theorem wd_225 : Jvm.Cond.lays "TwoAtMost$Text" "TwoAtMost$Text" "at" "I" ∈ ci_T := tb_1 (i := 136) rfl rfl
theorem wd_227 : Jvm.Cond.lays "TwoAtMost$Text" "TwoAtMost$Text" "readable" "I" ∈ ci_T := tb_1 (i := 138) rfl rfl
theorem cl_ws9 : ∀ w ∈ u_ws RX9 TX9 4, w ∈ ci_T := by
  intro w hw
  obtain ⟨k, hk, rfl⟩ := List.mem_map.mp hw
  have hk := List.mem_range.mp hk
  match k, hk with
  | 0, _ => exact wd_221
  | 1, _ => exact wd_223
  | 2, _ => exact wd_225
  | 3, _ => exact wd_227
  | k + 4, hk => exact absurd hk (by omega)
theorem cl_9 : ci_cl ci_T ci_cls ci_fty 9 RX9 TX9 4 := ⟨rfl, cl_ws9, tyX9_ok, nmX9, by decide +kernel, by decide +kernel⟩
theorem wd_191 : Jvm.Cond.laysFinal "TwoAtMost$Town" "TwoAtMost$Town" "now" "LTwoAtMost$State;" ∈ ci_T := tb_1 (i := 102) rfl rfl
theorem wd_193 : Jvm.Cond.laysFinal "TwoAtMost$Town" "TwoAtMost$Town" "must" "[I" ∈ ci_T := tb_1 (i := 104) rfl rfl
theorem wd_195 : Jvm.Cond.laysFinal "TwoAtMost$Town" "TwoAtMost$Town" "mustNot" "[I" ∈ ci_T := tb_1 (i := 106) rfl rfl
theorem wd_197 : Jvm.Cond.laysFinal "TwoAtMost$Town" "TwoAtMost$Town" "ofKind" "[I" ∈ ci_T := tb_1 (i := 108) rfl rfl
theorem wd_199 : Jvm.Cond.laysFinal "TwoAtMost$Town" "TwoAtMost$Town" "weights" "[I" ∈ ci_T := tb_1 (i := 110) rfl rfl
theorem wd_201 : Jvm.Cond.lays "TwoAtMost$Town" "TwoAtMost$Town" "houseCount" "I" ∈ ci_T := tb_1 (i := 112) rfl rfl
theorem wd_203 : Jvm.Cond.lays "TwoAtMost$Town" "TwoAtMost$Town" "thingCount" "I" ∈ ci_T := tb_1 (i := 114) rfl rfl
theorem wd_205 : Jvm.Cond.lays "TwoAtMost$Town" "TwoAtMost$Town" "kindCount" "I" ∈ ci_T := tb_1 (i := 116) rfl rfl
theorem wd_207 : Jvm.Cond.lays "TwoAtMost$Town" "TwoAtMost$Town" "limit" "I" ∈ ci_T := tb_1 (i := 118) rfl rfl
theorem cl_ws10 : ∀ w ∈ u_ws RX10 TX10 9, w ∈ ci_T := by
  intro w hw
  obtain ⟨k, hk, rfl⟩ := List.mem_map.mp hw
  have hk := List.mem_range.mp hk
  match k, hk with
  | 0, _ => exact wd_191
  | 1, _ => exact wd_193
  | 2, _ => exact wd_195
  | 3, _ => exact wd_197
  | 4, _ => exact wd_199
  | 5, _ => exact wd_201
  | 6, _ => exact wd_203
  | 7, _ => exact wd_205
  | 8, _ => exact wd_207
  | k + 9, hk => exact absurd hk (by omega)
theorem cl_10 : ci_cl ci_T ci_cls ci_fty 10 RX10 TX10 9 := ⟨rfl, cl_ws10, tyX10_ok, nmX10, by decide +kernel, by decide +kernel⟩
theorem wd_412 : Jvm.Cond.laysFinal "TwoAtMost" "TwoAtMost" "town" "LTwoAtMost$Town;" ∈ ci_T := tb_2 (i := 83) rfl rfl
theorem wd_414 : Jvm.Cond.laysFinal "TwoAtMost" "TwoAtMost" "text" "LTwoAtMost$Text;" ∈ ci_T := tb_2 (i := 85) rfl rfl
theorem wd_416 : Jvm.Cond.laysFinal "TwoAtMost" "TwoAtMost" "telling" "LTwoAtMost$Telling;" ∈ ci_T := tb_2 (i := 87) rfl rfl
theorem wd_418 : Jvm.Cond.laysFinal "TwoAtMost" "TwoAtMost" "rule" "LTwoAtMost$Rule;" ∈ ci_T := tb_2 (i := 89) rfl rfl
theorem wd_420 : Jvm.Cond.laysFinal "TwoAtMost" "TwoAtMost" "ruleReader" "LTwoAtMost$RuleReader;" ∈ ci_T := tb_2 (i := 91) rfl rfl
theorem wd_422 : Jvm.Cond.laysFinal "TwoAtMost" "TwoAtMost" "past" "LTwoAtMost$Past;" ∈ ci_T := tb_2 (i := 93) rfl rfl
theorem wd_424 : Jvm.Cond.laysFinal "TwoAtMost" "TwoAtMost" "rowNumbers" "[J" ∈ ci_T := tb_2 (i := 95) rfl rfl
theorem wd_426 : Jvm.Cond.lays "TwoAtMost" "TwoAtMost" "rowSize" "I" ∈ ci_T := tb_2 (i := 97) rfl rfl
theorem wd_428 : Jvm.Cond.laysFinal "TwoAtMost" "TwoAtMost" "shelf" "[LTwoAtMost$State;" ∈ ci_T := tb_2 (i := 99) rfl rfl
theorem wd_430 : Jvm.Cond.laysFinal "TwoAtMost" "TwoAtMost" "shelved" "[Z" ∈ ci_T := tb_2 (i := 101) rfl rfl
theorem wd_432 : Jvm.Cond.laysFinal "TwoAtMost" "TwoAtMost" "spare" "LTwoAtMost$State;" ∈ ci_T := tb_2 (i := 103) rfl rfl
theorem wd_434 : Jvm.Cond.laysFinal "TwoAtMost" "TwoAtMost" "heardThings" "[I" ∈ ci_T := tb_2 (i := 105) rfl rfl
theorem wd_436 : Jvm.Cond.laysFinal "TwoAtMost" "TwoAtMost" "heardAnswers" "[I" ∈ ci_T := tb_2 (i := 107) rfl rfl
theorem wd_438 : Jvm.Cond.lays "TwoAtMost" "TwoAtMost" "heardCount" "I" ∈ ci_T := tb_2 (i := 109) rfl rfl
theorem wd_440 : Jvm.Cond.laysFinal "TwoAtMost" "TwoAtMost" "choosing" "LTwoAtMost$Choosing;" ∈ ci_T := tb_2 (i := 111) rfl rfl
theorem wd_442 : Jvm.Cond.laysFinal "TwoAtMost" "TwoAtMost" "storing" "LTwoAtMost$Storing;" ∈ ci_T := tb_2 (i := 113) rfl rfl
theorem wd_444 : Jvm.Cond.laysFinal "TwoAtMost" "TwoAtMost" "dealing" "LTwoAtMost$Dealing;" ∈ ci_T := tb_2 (i := 115) rfl rfl
theorem wd_446 : Jvm.Cond.laysFinal "TwoAtMost" "TwoAtMost" "purse" "LTwoAtMost$Purse;" ∈ ci_T := tb_2 (i := 117) rfl rfl
theorem wd_448 : Jvm.Cond.laysFinal "TwoAtMost" "TwoAtMost" "chances" "[J" ∈ ci_T := tb_2 (i := 119) rfl rfl
theorem cl_ws11 : ∀ w ∈ u_ws RX11 TX11 19, w ∈ ci_T := by
  intro w hw
  obtain ⟨k, hk, rfl⟩ := List.mem_map.mp hw
  have hk := List.mem_range.mp hk
  match k, hk with
  | 0, _ => exact wd_412
  | 1, _ => exact wd_414
  | 2, _ => exact wd_416
  | 3, _ => exact wd_418
  | 4, _ => exact wd_420
  | 5, _ => exact wd_422
  | 6, _ => exact wd_424
  | 7, _ => exact wd_426
  | 8, _ => exact wd_428
  | 9, _ => exact wd_430
  | 10, _ => exact wd_432
  | 11, _ => exact wd_434
  | 12, _ => exact wd_436
  | 13, _ => exact wd_438
  | 14, _ => exact wd_440
  | 15, _ => exact wd_442
  | 16, _ => exact wd_444
  | 17, _ => exact wd_446
  | 18, _ => exact wd_448
  | k + 19, hk => exact absurd hk (by omega)
theorem cl_11 : ci_cl ci_T ci_cls ci_fty 11 RX11 TX11 19 := ⟨rfl, cl_ws11, tyX11_ok, nmX11, by decide +kernel, by decide +kernel⟩
theorem wd_1268 : Jvm.Cond.laysFinal "TwoAtMostModel" "TwoAtMostModel" "now" "[I" ∈ ci_T := tb_5 (i := 219) rfl rfl
theorem wd_1270 : Jvm.Cond.lays "TwoAtMostModel" "TwoAtMostModel" "houses" "I" ∈ ci_T := tb_5 (i := 221) rfl rfl
theorem wd_1272 : Jvm.Cond.lays "TwoAtMostModel" "TwoAtMostModel" "things" "I" ∈ ci_T := tb_5 (i := 223) rfl rfl
theorem wd_1274 : Jvm.Cond.lays "TwoAtMostModel" "TwoAtMostModel" "kinds" "I" ∈ ci_T := tb_5 (i := 225) rfl rfl
theorem wd_1276 : Jvm.Cond.laysFinal "TwoAtMostModel" "TwoAtMostModel" "must" "[I" ∈ ci_T := tb_5 (i := 227) rfl rfl
theorem wd_1278 : Jvm.Cond.laysFinal "TwoAtMostModel" "TwoAtMostModel" "mustNot" "[I" ∈ ci_T := tb_5 (i := 229) rfl rfl
theorem wd_1280 : Jvm.Cond.lays "TwoAtMostModel" "TwoAtMostModel" "most" "I" ∈ ci_T := tb_5 (i := 231) rfl rfl
theorem wd_1282 : Jvm.Cond.laysFinal "TwoAtMostModel" "TwoAtMostModel" "text" "[B" ∈ ci_T := tb_5 (i := 233) rfl rfl
theorem wd_1284 : Jvm.Cond.lays "TwoAtMostModel" "TwoAtMostModel" "typed" "I" ∈ ci_T := tb_5 (i := 235) rfl rfl
theorem wd_1286 : Jvm.Cond.laysFinal "TwoAtMostModel" "TwoAtMostModel" "row" "[J" ∈ ci_T := tb_5 (i := 237) rfl rfl
theorem wd_1288 : Jvm.Cond.lays "TwoAtMostModel" "TwoAtMostModel" "rowMany" "I" ∈ ci_T := tb_5 (i := 239) rfl rfl
theorem wd_1290 : Jvm.Cond.lays "TwoAtMostModel" "TwoAtMostModel" "thrown" "I" ∈ ci_T := tb_6 (i := 1) rfl rfl
theorem wd_1292 : Jvm.Cond.lays "TwoAtMostModel" "TwoAtMostModel" "read" "[B" ∈ ci_T := tb_6 (i := 3) rfl rfl
theorem wd_1294 : Jvm.Cond.lays "TwoAtMostModel" "TwoAtMostModel" "length" "I" ∈ ci_T := tb_6 (i := 5) rfl rfl
theorem wd_1296 : Jvm.Cond.lays "TwoAtMostModel" "TwoAtMostModel" "top" "I" ∈ ci_T := tb_6 (i := 7) rfl rfl
theorem wd_1298 : Jvm.Cond.lays "TwoAtMostModel" "TwoAtMostModel" "at" "I" ∈ ci_T := tb_6 (i := 9) rfl rfl
theorem wd_1300 : Jvm.Cond.lays "TwoAtMostModel" "TwoAtMostModel" "wrong" "I" ∈ ci_T := tb_6 (i := 11) rfl rfl
theorem wd_1302 : Jvm.Cond.laysFinal "TwoAtMostModel" "TwoAtMostModel" "comes" "[I" ∈ ci_T := tb_6 (i := 13) rfl rfl
theorem wd_1304 : Jvm.Cond.laysFinal "TwoAtMostModel" "TwoAtMostModel" "rule" "[B" ∈ ci_T := tb_6 (i := 15) rfl rfl
theorem wd_1306 : Jvm.Cond.lays "TwoAtMostModel" "TwoAtMostModel" "ruleSize" "I" ∈ ci_T := tb_6 (i := 17) rfl rfl
theorem wd_1308 : Jvm.Cond.lays "TwoAtMostModel" "TwoAtMostModel" "isAsked" "Z" ∈ ci_T := tb_6 (i := 19) rfl rfl
theorem wd_1310 : Jvm.Cond.laysFinal "TwoAtMostModel" "TwoAtMostModel" "asked" "[I" ∈ ci_T := tb_6 (i := 21) rfl rfl
theorem wd_1312 : Jvm.Cond.laysFinal "TwoAtMostModel" "TwoAtMostModel" "undos" "[I" ∈ ci_T := tb_6 (i := 23) rfl rfl
theorem wd_1314 : Jvm.Cond.lays "TwoAtMostModel" "TwoAtMostModel" "undoMany" "I" ∈ ci_T := tb_6 (i := 25) rfl rfl
theorem wd_1316 : Jvm.Cond.laysFinal "TwoAtMostModel" "TwoAtMostModel" "aside" "[I" ∈ ci_T := tb_6 (i := 27) rfl rfl
theorem wd_1318 : Jvm.Cond.laysFinal "TwoAtMostModel" "TwoAtMostModel" "then" "[I" ∈ ci_T := tb_6 (i := 29) rfl rfl
theorem wd_1320 : Jvm.Cond.laysFinal "TwoAtMostModel" "TwoAtMostModel" "acts" "[I" ∈ ci_T := tb_6 (i := 31) rfl rfl
theorem wd_1322 : Jvm.Cond.laysFinal "TwoAtMostModel" "TwoAtMostModel" "place" "[I" ∈ ci_T := tb_6 (i := 33) rfl rfl
theorem wd_1324 : Jvm.Cond.laysFinal "TwoAtMostModel" "TwoAtMostModel" "bestPlace" "[I" ∈ ci_T := tb_6 (i := 35) rfl rfl
theorem wd_1326 : Jvm.Cond.lays "TwoAtMostModel" "TwoAtMostModel" "bestMoves" "I" ∈ ci_T := tb_6 (i := 37) rfl rfl
theorem wd_1328 : Jvm.Cond.lays "TwoAtMostModel" "TwoAtMostModel" "bestSum" "I" ∈ ci_T := tb_6 (i := 39) rfl rfl
theorem wd_1330 : Jvm.Cond.laysFinal "TwoAtMostModel" "TwoAtMostModel" "worths" "[I" ∈ ci_T := tb_6 (i := 41) rfl rfl
theorem wd_1332 : Jvm.Cond.laysFinal "TwoAtMostModel" "TwoAtMostModel" "heardOf" "[I" ∈ ci_T := tb_6 (i := 43) rfl rfl
theorem wd_1334 : Jvm.Cond.lays "TwoAtMostModel" "TwoAtMostModel" "heardMany" "I" ∈ ci_T := tb_6 (i := 45) rfl rfl
theorem wd_1336 : Jvm.Cond.lays "TwoAtMostModel" "TwoAtMostModel" "heardBits" "I" ∈ ci_T := tb_6 (i := 47) rfl rfl
theorem wd_1338 : Jvm.Cond.lays "TwoAtMostModel" "TwoAtMostModel" "likely" "J" ∈ ci_T := tb_6 (i := 49) rfl rfl
theorem wd_1340 : Jvm.Cond.lays "TwoAtMostModel" "TwoAtMostModel" "whole" "J" ∈ ci_T := tb_6 (i := 51) rfl rfl
theorem wd_1342 : Jvm.Cond.laysFinal "TwoAtMostModel" "TwoAtMostModel" "chance" "[J" ∈ ci_T := tb_6 (i := 53) rfl rfl
theorem wd_1344 : Jvm.Cond.lays "TwoAtMostModel" "TwoAtMostModel" "drawn" "I" ∈ ci_T := tb_6 (i := 55) rfl rfl
theorem wd_1346 : Jvm.Cond.lays "TwoAtMostModel" "TwoAtMostModel" "came" "I" ∈ ci_T := tb_6 (i := 57) rfl rfl
theorem wd_1348 : Jvm.Cond.laysFinal "TwoAtMostModel" "TwoAtMostModel" "kept" "[I" ∈ ci_T := tb_6 (i := 59) rfl rfl
theorem wd_1350 : Jvm.Cond.laysFinal "TwoAtMostModel" "TwoAtMostModel" "isKept" "[Z" ∈ ci_T := tb_6 (i := 61) rfl rfl
theorem wd_1352 : Jvm.Cond.laysFinal "TwoAtMostModel" "TwoAtMostModel" "keptCame" "[I" ∈ ci_T := tb_6 (i := 63) rfl rfl
theorem cl_ws12 : ∀ w ∈ u_ws RX12 TX12 43, w ∈ ci_T := by
  intro w hw
  obtain ⟨k, hk, rfl⟩ := List.mem_map.mp hw
  have hk := List.mem_range.mp hk
  match k, hk with
  | 0, _ => exact wd_1268
  | 1, _ => exact wd_1270
  | 2, _ => exact wd_1272
  | 3, _ => exact wd_1274
  | 4, _ => exact wd_1276
  | 5, _ => exact wd_1278
  | 6, _ => exact wd_1280
  | 7, _ => exact wd_1282
  | 8, _ => exact wd_1284
  | 9, _ => exact wd_1286
  | 10, _ => exact wd_1288
  | 11, _ => exact wd_1290
  | 12, _ => exact wd_1292
  | 13, _ => exact wd_1294
  | 14, _ => exact wd_1296
  | 15, _ => exact wd_1298
  | 16, _ => exact wd_1300
  | 17, _ => exact wd_1302
  | 18, _ => exact wd_1304
  | 19, _ => exact wd_1306
  | 20, _ => exact wd_1308
  | 21, _ => exact wd_1310
  | 22, _ => exact wd_1312
  | 23, _ => exact wd_1314
  | 24, _ => exact wd_1316
  | 25, _ => exact wd_1318
  | 26, _ => exact wd_1320
  | 27, _ => exact wd_1322
  | 28, _ => exact wd_1324
  | 29, _ => exact wd_1326
  | 30, _ => exact wd_1328
  | 31, _ => exact wd_1330
  | 32, _ => exact wd_1332
  | 33, _ => exact wd_1334
  | 34, _ => exact wd_1336
  | 35, _ => exact wd_1338
  | 36, _ => exact wd_1340
  | 37, _ => exact wd_1342
  | 38, _ => exact wd_1344
  | 39, _ => exact wd_1346
  | 40, _ => exact wd_1348
  | 41, _ => exact wd_1350
  | 42, _ => exact wd_1352
  | k + 43, hk => exact absurd hk (by omega)
theorem cl_12 : ci_cl ci_T ci_cls ci_fty 12 RX12 TX12 43 := ⟨rfl, cl_ws12, tyX12_ok, nmX12, by decide +kernel, by decide +kernel⟩
