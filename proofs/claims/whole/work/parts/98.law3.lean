/-! PURE: the law's loop, calls. -/
set_option maxRecDepth 20000 in
theorem lc_alike {xs : Nat → Int32} {N i B : Nat} {κ : Kp} {μ : Mem} {nx : ci_N} (hN : N ≤ 2560) (hi : 5 * i + 5 ≤ N) (hR : Ref0 κ) (hB : B ≤ 1000000) (hI : Inv B μ) : LC xs N i B κ μ nx 1025 := by
  obtain ⟨v, μ1, μ2, e1, e2, hI2⟩ := pr_alike (xs (5 * i + 1)) (xs (5 * i + 2)) κ B μ hR hB hI
  refine ⟨μ2, nx, hI2, by omega, by omega, fun r kk => ?_⟩
  refine ev_go hc_L (k := 1) (pc' := 1026) (L' := [.ref ci_scr, .ref 0, .ref 127, .ref 148, .int (nI (5 * i)), ci_junk, ci_junk, ci_junk]) (S' := [.ref 0]) rfl ?_
  refine ev_go hc_L (k := 4) (pc' := 1031) (L' := [.ref ci_scr, .ref 0, .ref 127, .ref 148, .int (nI (5 * i)), ci_junk, ci_junk, ci_junk]) (S' := [.int (nI (5 * i) + 1), .ref ci_scr, .ref 0]) rfl ?_
  refine ev_4 hc_L (i := .iaload) (len := 1) (S' := [.int (xs (5 * i + 1)), .ref 0]) rfl (law_rd (m := 1) (by decide) hN hi) ?_
  refine ev_go hc_L (k := 4) (pc' := 1037) (L' := [.ref ci_scr, .ref 0, .ref 127, .ref 148, .int (nI (5 * i)), ci_junk, ci_junk, ci_junk]) (S' := [.int (nI (5 * i) + 2), .ref ci_scr, .int (xs (5 * i + 1)), .ref 0]) rfl ?_
  refine ev_4 hc_L (i := .iaload) (len := 1) (S' := [.int (xs (5 * i + 2)), .int (xs (5 * i + 1)), .ref 0]) rfl (law_rd (m := 2) (by decide) hN hi) ?_
  refine ev_call (d := 1989) (vs := [.ref 0, .int (xs (5 * i + 1)), .int (xs (5 * i + 2))]) (rest := []) (q := q_X11_alike) hc_L (Or.inr rfl) (x := 119) (y := 11) rfl ms_119 rfl rfl (Nat.le_of_ble_eq_true rfl) (kO_recv (K_X11_alike e1)) (E_X11_alike e1 (by omega)) rfl ?_
  show Ev xs N 1990 287 1041 [.ref ci_scr, .ref 0, .ref 127, .ref 148, .int (nI (5 * i)), ci_junk, ci_junk, ci_junk] [.int v] (hp κ μ1) nx r
  refine ev_go hc_L (k := 1) (pc' := 1042) (L' := [.ref ci_scr, .ref 0, .ref 127, .ref 148, .int (nI (5 * i)), ci_junk, ci_junk, ci_junk]) (S' := [.ref 127, .int v]) rfl ?_
  refine ev_go hc_L (k := 4) (pc' := 1047) (L' := [.ref ci_scr, .ref 0, .ref 127, .ref 148, .int (nI (5 * i)), ci_junk, ci_junk, ci_junk]) (S' := [.int (nI (5 * i) + 1), .ref ci_scr, .ref 127, .int v]) rfl ?_
  refine ev_4 hc_L (i := .iaload) (len := 1) (S' := [.int (xs (5 * i + 1)), .ref 127, .int v]) rfl (law_rd (m := 1) (by decide) hN hi) ?_
  refine ev_go hc_L (k := 4) (pc' := 1053) (L' := [.ref ci_scr, .ref 0, .ref 127, .ref 148, .int (nI (5 * i)), ci_junk, ci_junk, ci_junk]) (S' := [.int (nI (5 * i) + 2), .ref ci_scr, .int (xs (5 * i + 1)), .ref 127, .int v]) rfl ?_
  refine ev_4 hc_L (i := .iaload) (len := 1) (S' := [.int (xs (5 * i + 2)), .int (xs (5 * i + 1)), .ref 127, .int v]) rfl (law_rd (m := 2) (by decide) hN hi) ?_
  refine ev_call (d := 1989) (vs := [.ref 127, .int (xs (5 * i + 1)), .int (xs (5 * i + 2))]) (rest := [.int v]) (q := q_X12_alike) hc_L (Or.inr rfl) (x := 245) (y := 12) rfl ms_245 rfl rfl (Nat.le_of_ble_eq_true rfl) (kO_recv (K_X12_alike e2)) (E_X12_alike e2 (by omega)) rfl ?_
  show Ev xs N 1990 287 1057 [.ref ci_scr, .ref 0, .ref 127, .ref 148, .int (nI (5 * i)), ci_junk, ci_junk, ci_junk] [.int v, .int v] (hp κ μ2) nx r
  refine ev_bt hc_L (pc := 1057) rfl rfl rfl ?_
  exact kk
set_option maxRecDepth 20000 in
theorem lc_trust {xs : Nat → Int32} {N i B : Nat} {κ : Kp} {μ : Mem} {nx : ci_N} (hN : N ≤ 2560) (hi : 5 * i + 5 ≤ N) (hR : Ref0 κ) (hB : B ≤ 1000000) (hI : Inv B μ) : LC xs N i B κ μ nx 1062 := by
  obtain ⟨v, μ1, μ2, e1, e2, hI2⟩ := pr_trust (xs (5 * i + 1)) κ B μ hR hB hI
  refine ⟨μ2, nx, hI2, by omega, by omega, fun r kk => ?_⟩
  refine ev_go hc_L (k := 1) (pc' := 1063) (L' := [.ref ci_scr, .ref 0, .ref 127, .ref 148, .int (nI (5 * i)), ci_junk, ci_junk, ci_junk]) (S' := [.ref 0]) rfl ?_
  refine ev_go hc_L (k := 4) (pc' := 1068) (L' := [.ref ci_scr, .ref 0, .ref 127, .ref 148, .int (nI (5 * i)), ci_junk, ci_junk, ci_junk]) (S' := [.int (nI (5 * i) + 1), .ref ci_scr, .ref 0]) rfl ?_
  refine ev_4 hc_L (i := .iaload) (len := 1) (S' := [.int (xs (5 * i + 1)), .ref 0]) rfl (law_rd (m := 1) (by decide) hN hi) ?_
  refine ev_call (d := 1989) (vs := [.ref 0, .int (xs (5 * i + 1))]) (rest := []) (q := q_X11_trust) hc_L (Or.inr rfl) (x := 120) (y := 11) rfl ms_120 rfl rfl (Nat.le_of_ble_eq_true rfl) (kO_recv (K_X11_trust e1)) (E_X11_trust e1 (by omega)) rfl ?_
  show Ev xs N 1990 287 1072 [.ref ci_scr, .ref 0, .ref 127, .ref 148, .int (nI (5 * i)), ci_junk, ci_junk, ci_junk] [.int v] (hp κ μ1) nx r
  refine ev_go hc_L (k := 1) (pc' := 1073) (L' := [.ref ci_scr, .ref 0, .ref 127, .ref 148, .int (nI (5 * i)), ci_junk, ci_junk, ci_junk]) (S' := [.ref 127, .int v]) rfl ?_
  refine ev_go hc_L (k := 4) (pc' := 1078) (L' := [.ref ci_scr, .ref 0, .ref 127, .ref 148, .int (nI (5 * i)), ci_junk, ci_junk, ci_junk]) (S' := [.int (nI (5 * i) + 1), .ref ci_scr, .ref 127, .int v]) rfl ?_
  refine ev_4 hc_L (i := .iaload) (len := 1) (S' := [.int (xs (5 * i + 1)), .ref 127, .int v]) rfl (law_rd (m := 1) (by decide) hN hi) ?_
  refine ev_call (d := 1989) (vs := [.ref 127, .int (xs (5 * i + 1))]) (rest := [.int v]) (q := q_X12_trust) hc_L (Or.inr rfl) (x := 246) (y := 12) rfl ms_246 rfl rfl (Nat.le_of_ble_eq_true rfl) (kO_recv (K_X12_trust e2)) (E_X12_trust e2 (by omega)) rfl ?_
  show Ev xs N 1990 287 1082 [.ref ci_scr, .ref 0, .ref 127, .ref 148, .int (nI (5 * i)), ci_junk, ci_junk, ci_junk] [.int v, .int v] (hp κ μ2) nx r
  refine ev_bt hc_L (pc := 1082) rfl rfl rfl ?_
  exact kk
set_option maxRecDepth 20000 in
theorem lc_visit {xs : Nat → Int32} {N i B : Nat} {κ : Kp} {μ : Mem} {nx : ci_N} (hN : N ≤ 2560) (hi : 5 * i + 5 ≤ N) (hR : Ref0 κ) (hB : B ≤ 1000000) (hI : Inv B μ) : LC xs N i B κ μ nx 1087 := by
  obtain ⟨v, μ1, μ2, e1, e2, hI2⟩ := pr_visit (xs (5 * i + 1)) κ B μ hR hB hI
  refine ⟨μ2, nx, hI2, by omega, by omega, fun r kk => ?_⟩
  refine ev_go hc_L (k := 1) (pc' := 1088) (L' := [.ref ci_scr, .ref 0, .ref 127, .ref 148, .int (nI (5 * i)), ci_junk, ci_junk, ci_junk]) (S' := [.ref 0]) rfl ?_
  refine ev_go hc_L (k := 4) (pc' := 1093) (L' := [.ref ci_scr, .ref 0, .ref 127, .ref 148, .int (nI (5 * i)), ci_junk, ci_junk, ci_junk]) (S' := [.int (nI (5 * i) + 1), .ref ci_scr, .ref 0]) rfl ?_
  refine ev_4 hc_L (i := .iaload) (len := 1) (S' := [.int (xs (5 * i + 1)), .ref 0]) rfl (law_rd (m := 1) (by decide) hN hi) ?_
  refine ev_call (d := 1989) (vs := [.ref 0, .int (xs (5 * i + 1))]) (rest := []) (q := q_X11_visit) hc_L (Or.inr rfl) (x := 121) (y := 11) rfl ms_121 rfl rfl (Nat.le_of_ble_eq_true rfl) (kO_recv (K_X11_visit e1)) (E_X11_visit e1 (by omega)) rfl ?_
  show Ev xs N 1990 287 1097 [.ref ci_scr, .ref 0, .ref 127, .ref 148, .int (nI (5 * i)), ci_junk, ci_junk, ci_junk] [.int v] (hp κ μ1) nx r
  refine ev_go hc_L (k := 1) (pc' := 1098) (L' := [.ref ci_scr, .ref 0, .ref 127, .ref 148, .int (nI (5 * i)), ci_junk, ci_junk, ci_junk]) (S' := [.ref 127, .int v]) rfl ?_
  refine ev_go hc_L (k := 4) (pc' := 1103) (L' := [.ref ci_scr, .ref 0, .ref 127, .ref 148, .int (nI (5 * i)), ci_junk, ci_junk, ci_junk]) (S' := [.int (nI (5 * i) + 1), .ref ci_scr, .ref 127, .int v]) rfl ?_
  refine ev_4 hc_L (i := .iaload) (len := 1) (S' := [.int (xs (5 * i + 1)), .ref 127, .int v]) rfl (law_rd (m := 1) (by decide) hN hi) ?_
  refine ev_call (d := 1989) (vs := [.ref 127, .int (xs (5 * i + 1))]) (rest := [.int v]) (q := q_X12_visit) hc_L (Or.inr rfl) (x := 247) (y := 12) rfl ms_247 rfl rfl (Nat.le_of_ble_eq_true rfl) (kO_recv (K_X12_visit e2)) (E_X12_visit e2 (by omega)) rfl ?_
  show Ev xs N 1990 287 1107 [.ref ci_scr, .ref 0, .ref 127, .ref 148, .int (nI (5 * i)), ci_junk, ci_junk, ci_junk] [.int v, .int v] (hp κ μ2) nx r
  refine ev_bt hc_L (pc := 1107) rfl rfl rfl ?_
  exact kk
set_option maxRecDepth 20000 in
theorem lc_store {xs : Nat → Int32} {N i B : Nat} {κ : Kp} {μ : Mem} {nx : ci_N} (hN : N ≤ 2560) (hi : 5 * i + 5 ≤ N) (hR : Ref0 κ) (hB : B ≤ 1000000) (hI : Inv B μ) : LC xs N i B κ μ nx 1112 := by
  obtain ⟨v, μ1, μ2, e1, e2, hI2⟩ := pr_store (xs (5 * i + 1)) κ B μ hR hB hI
  refine ⟨μ2, nx, hI2, by omega, by omega, fun r kk => ?_⟩
  refine ev_go hc_L (k := 1) (pc' := 1113) (L' := [.ref ci_scr, .ref 0, .ref 127, .ref 148, .int (nI (5 * i)), ci_junk, ci_junk, ci_junk]) (S' := [.ref 0]) rfl ?_
  refine ev_go hc_L (k := 4) (pc' := 1118) (L' := [.ref ci_scr, .ref 0, .ref 127, .ref 148, .int (nI (5 * i)), ci_junk, ci_junk, ci_junk]) (S' := [.int (nI (5 * i) + 1), .ref ci_scr, .ref 0]) rfl ?_
  refine ev_4 hc_L (i := .iaload) (len := 1) (S' := [.int (xs (5 * i + 1)), .ref 0]) rfl (law_rd (m := 1) (by decide) hN hi) ?_
  refine ev_call (d := 1989) (vs := [.ref 0, .int (xs (5 * i + 1))]) (rest := []) (q := q_X11_store) hc_L (Or.inr rfl) (x := 122) (y := 11) rfl ms_122 rfl rfl (Nat.le_of_ble_eq_true rfl) (kO_recv (K_X11_store e1)) (E_X11_store e1 (by omega)) rfl ?_
  show Ev xs N 1990 287 1122 [.ref ci_scr, .ref 0, .ref 127, .ref 148, .int (nI (5 * i)), ci_junk, ci_junk, ci_junk] [.int v] (hp κ μ1) nx r
  refine ev_go hc_L (k := 1) (pc' := 1123) (L' := [.ref ci_scr, .ref 0, .ref 127, .ref 148, .int (nI (5 * i)), ci_junk, ci_junk, ci_junk]) (S' := [.ref 127, .int v]) rfl ?_
  refine ev_go hc_L (k := 4) (pc' := 1128) (L' := [.ref ci_scr, .ref 0, .ref 127, .ref 148, .int (nI (5 * i)), ci_junk, ci_junk, ci_junk]) (S' := [.int (nI (5 * i) + 1), .ref ci_scr, .ref 127, .int v]) rfl ?_
  refine ev_4 hc_L (i := .iaload) (len := 1) (S' := [.int (xs (5 * i + 1)), .ref 127, .int v]) rfl (law_rd (m := 1) (by decide) hN hi) ?_
  refine ev_call (d := 1989) (vs := [.ref 127, .int (xs (5 * i + 1))]) (rest := [.int v]) (q := q_X12_store) hc_L (Or.inr rfl) (x := 249) (y := 12) rfl ms_249 rfl rfl (Nat.le_of_ble_eq_true rfl) (kO_recv (K_X12_store e2)) (E_X12_store e2 (by omega)) rfl ?_
  show Ev xs N 1990 287 1132 [.ref ci_scr, .ref 0, .ref 127, .ref 148, .int (nI (5 * i)), ci_junk, ci_junk, ci_junk] [.int v, .int v] (hp κ μ2) nx r
  refine ev_bt hc_L (pc := 1132) rfl rfl rfl ?_
  exact kk
set_option maxRecDepth 20000 in
theorem lc_strike {xs : Nat → Int32} {N i B : Nat} {κ : Kp} {μ : Mem} {nx : ci_N} (hN : N ≤ 2560) (hi : 5 * i + 5 ≤ N) (hR : Ref0 κ) (hB : B ≤ 1000000) (hI : Inv B μ) : LC xs N i B κ μ nx 1137 := by
  obtain ⟨v, μ1, μ2, e1, e2, hI2⟩ := pr_strike (xs (5 * i + 1)) κ B μ hR hB hI
  refine ⟨μ2, nx, hI2, by omega, by omega, fun r kk => ?_⟩
  refine ev_go hc_L (k := 1) (pc' := 1138) (L' := [.ref ci_scr, .ref 0, .ref 127, .ref 148, .int (nI (5 * i)), ci_junk, ci_junk, ci_junk]) (S' := [.ref 0]) rfl ?_
  refine ev_go hc_L (k := 4) (pc' := 1143) (L' := [.ref ci_scr, .ref 0, .ref 127, .ref 148, .int (nI (5 * i)), ci_junk, ci_junk, ci_junk]) (S' := [.int (nI (5 * i) + 1), .ref ci_scr, .ref 0]) rfl ?_
  refine ev_4 hc_L (i := .iaload) (len := 1) (S' := [.int (xs (5 * i + 1)), .ref 0]) rfl (law_rd (m := 1) (by decide) hN hi) ?_
  refine ev_call (d := 1989) (vs := [.ref 0, .int (xs (5 * i + 1))]) (rest := []) (q := q_X11_strike) hc_L (Or.inr rfl) (x := 123) (y := 11) rfl ms_123 rfl rfl (Nat.le_of_ble_eq_true rfl) (kO_recv (K_X11_strike e1)) (E_X11_strike e1 (by omega)) rfl ?_
  show Ev xs N 1990 287 1147 [.ref ci_scr, .ref 0, .ref 127, .ref 148, .int (nI (5 * i)), ci_junk, ci_junk, ci_junk] [.int v] (hp κ μ1) nx r
  refine ev_go hc_L (k := 1) (pc' := 1148) (L' := [.ref ci_scr, .ref 0, .ref 127, .ref 148, .int (nI (5 * i)), ci_junk, ci_junk, ci_junk]) (S' := [.ref 127, .int v]) rfl ?_
  refine ev_go hc_L (k := 4) (pc' := 1153) (L' := [.ref ci_scr, .ref 0, .ref 127, .ref 148, .int (nI (5 * i)), ci_junk, ci_junk, ci_junk]) (S' := [.int (nI (5 * i) + 1), .ref ci_scr, .ref 127, .int v]) rfl ?_
  refine ev_4 hc_L (i := .iaload) (len := 1) (S' := [.int (xs (5 * i + 1)), .ref 127, .int v]) rfl (law_rd (m := 1) (by decide) hN hi) ?_
  refine ev_call (d := 1989) (vs := [.ref 127, .int (xs (5 * i + 1))]) (rest := [.int v]) (q := q_X12_strike) hc_L (Or.inr rfl) (x := 250) (y := 12) rfl ms_250 rfl rfl (Nat.le_of_ble_eq_true rfl) (kO_recv (K_X12_strike e2)) (E_X12_strike e2 (by omega)) rfl ?_
  show Ev xs N 1990 287 1157 [.ref ci_scr, .ref 0, .ref 127, .ref 148, .int (nI (5 * i)), ci_junk, ci_junk, ci_junk] [.int v, .int v] (hp κ μ2) nx r
  refine ev_bt hc_L (pc := 1157) rfl rfl rfl ?_
  exact kk
set_option maxRecDepth 20000 in
theorem lc_border {xs : Nat → Int32} {N i B : Nat} {κ : Kp} {μ : Mem} {nx : ci_N} (hN : N ≤ 2560) (hi : 5 * i + 5 ≤ N) (hR : Ref0 κ) (hB : B ≤ 1000000) (hI : Inv B μ) : LC xs N i B κ μ nx 1162 := by
  obtain ⟨v, μ1, μ2, e1, e2, hI2⟩ := pr_border κ B μ hR hB hI
  refine ⟨μ2, nx, hI2, by omega, by omega, fun r kk => ?_⟩
  refine ev_go hc_L (k := 1) (pc' := 1163) (L' := [.ref ci_scr, .ref 0, .ref 127, .ref 148, .int (nI (5 * i)), ci_junk, ci_junk, ci_junk]) (S' := [.ref 0]) rfl ?_
  refine ev_call (d := 1989) (vs := [.ref 0]) (rest := []) (q := q_X11_border) hc_L (Or.inr rfl) (x := 124) (y := 11) rfl ms_124 rfl rfl (Nat.le_of_ble_eq_true rfl) (kO_recv (K_X11_border e1)) (E_X11_border e1 (by omega)) rfl ?_
  show Ev xs N 1990 287 1166 [.ref ci_scr, .ref 0, .ref 127, .ref 148, .int (nI (5 * i)), ci_junk, ci_junk, ci_junk] [.int v] (hp κ μ1) nx r
  refine ev_go hc_L (k := 1) (pc' := 1167) (L' := [.ref ci_scr, .ref 0, .ref 127, .ref 148, .int (nI (5 * i)), ci_junk, ci_junk, ci_junk]) (S' := [.ref 127, .int v]) rfl ?_
  refine ev_call (d := 1989) (vs := [.ref 127]) (rest := [.int v]) (q := q_X12_border) hc_L (Or.inr rfl) (x := 251) (y := 12) rfl ms_251 rfl rfl (Nat.le_of_ble_eq_true rfl) (kO_recv (K_X12_border e2)) (E_X12_border e2 (by omega)) rfl ?_
  show Ev xs N 1990 287 1170 [.ref ci_scr, .ref 0, .ref 127, .ref 148, .int (nI (5 * i)), ci_junk, ci_junk, ci_junk] [.int v, .int v] (hp κ μ2) nx r
  refine ev_bt hc_L (pc := 1170) rfl rfl rfl ?_
  exact kk
set_option maxRecDepth 20000 in
theorem lc_exchange {xs : Nat → Int32} {N i B : Nat} {κ : Kp} {μ : Mem} {nx : ci_N} (hN : N ≤ 2560) (hi : 5 * i + 5 ≤ N) (hR : Ref0 κ) (hB : B ≤ 1000000) (hI : Inv B μ) : LC xs N i B κ μ nx 1175 := by
  obtain ⟨v, μ1, μ2, e1, e2, hI2⟩ := pr_exchange (xs (5 * i + 1)) (xs (5 * i + 2)) κ B μ hR hB hI
  refine ⟨μ2, nx, hI2, by omega, by omega, fun r kk => ?_⟩
  refine ev_go hc_L (k := 1) (pc' := 1176) (L' := [.ref ci_scr, .ref 0, .ref 127, .ref 148, .int (nI (5 * i)), ci_junk, ci_junk, ci_junk]) (S' := [.ref 0]) rfl ?_
  refine ev_go hc_L (k := 4) (pc' := 1181) (L' := [.ref ci_scr, .ref 0, .ref 127, .ref 148, .int (nI (5 * i)), ci_junk, ci_junk, ci_junk]) (S' := [.int (nI (5 * i) + 1), .ref ci_scr, .ref 0]) rfl ?_
  refine ev_4 hc_L (i := .iaload) (len := 1) (S' := [.int (xs (5 * i + 1)), .ref 0]) rfl (law_rd (m := 1) (by decide) hN hi) ?_
  refine ev_go hc_L (k := 4) (pc' := 1187) (L' := [.ref ci_scr, .ref 0, .ref 127, .ref 148, .int (nI (5 * i)), ci_junk, ci_junk, ci_junk]) (S' := [.int (nI (5 * i) + 2), .ref ci_scr, .int (xs (5 * i + 1)), .ref 0]) rfl ?_
  refine ev_4 hc_L (i := .iaload) (len := 1) (S' := [.int (xs (5 * i + 2)), .int (xs (5 * i + 1)), .ref 0]) rfl (law_rd (m := 2) (by decide) hN hi) ?_
  refine ev_call (d := 1989) (vs := [.ref 0, .int (xs (5 * i + 1)), .int (xs (5 * i + 2))]) (rest := []) (q := q_X11_exchange) hc_L (Or.inr rfl) (x := 125) (y := 11) rfl ms_125 rfl rfl (Nat.le_of_ble_eq_true rfl) (kO_recv (K_X11_exchange e1)) (E_X11_exchange e1 (by omega)) rfl ?_
  show Ev xs N 1990 287 1191 [.ref ci_scr, .ref 0, .ref 127, .ref 148, .int (nI (5 * i)), ci_junk, ci_junk, ci_junk] [.int v] (hp κ μ1) nx r
  refine ev_go hc_L (k := 1) (pc' := 1192) (L' := [.ref ci_scr, .ref 0, .ref 127, .ref 148, .int (nI (5 * i)), ci_junk, ci_junk, ci_junk]) (S' := [.ref 127, .int v]) rfl ?_
  refine ev_go hc_L (k := 4) (pc' := 1197) (L' := [.ref ci_scr, .ref 0, .ref 127, .ref 148, .int (nI (5 * i)), ci_junk, ci_junk, ci_junk]) (S' := [.int (nI (5 * i) + 1), .ref ci_scr, .ref 127, .int v]) rfl ?_
  refine ev_4 hc_L (i := .iaload) (len := 1) (S' := [.int (xs (5 * i + 1)), .ref 127, .int v]) rfl (law_rd (m := 1) (by decide) hN hi) ?_
  refine ev_go hc_L (k := 4) (pc' := 1203) (L' := [.ref ci_scr, .ref 0, .ref 127, .ref 148, .int (nI (5 * i)), ci_junk, ci_junk, ci_junk]) (S' := [.int (nI (5 * i) + 2), .ref ci_scr, .int (xs (5 * i + 1)), .ref 127, .int v]) rfl ?_
  refine ev_4 hc_L (i := .iaload) (len := 1) (S' := [.int (xs (5 * i + 2)), .int (xs (5 * i + 1)), .ref 127, .int v]) rfl (law_rd (m := 2) (by decide) hN hi) ?_
  refine ev_call (d := 1989) (vs := [.ref 127, .int (xs (5 * i + 1)), .int (xs (5 * i + 2))]) (rest := [.int v]) (q := q_X12_exchange) hc_L (Or.inr rfl) (x := 252) (y := 12) rfl ms_252 rfl rfl (Nat.le_of_ble_eq_true rfl) (kO_recv (K_X12_exchange e2)) (E_X12_exchange e2 (by omega)) rfl ?_
  show Ev xs N 1990 287 1207 [.ref ci_scr, .ref 0, .ref 127, .ref 148, .int (nI (5 * i)), ci_junk, ci_junk, ci_junk] [.int v, .int v] (hp κ μ2) nx r
  refine ev_bt hc_L (pc := 1207) rfl rfl rfl ?_
  exact kk
set_option maxRecDepth 20000 in
theorem lc_name {xs : Nat → Int32} {N i B : Nat} {κ : Kp} {μ : Mem} {nx : ci_N} (hN : N ≤ 2560) (hi : 5 * i + 5 ≤ N) (hR : Ref0 κ) (hB : B ≤ 1000000) (hI : Inv B μ) : LC xs N i B κ μ nx 1212 := by
  obtain ⟨v, μ1, μ2, e1, e2, hI2⟩ := pr_name (xs (5 * i + 1)) κ B μ hR hB hI
  refine ⟨μ2, nx, hI2, by omega, by omega, fun r kk => ?_⟩
  refine ev_go hc_L (k := 1) (pc' := 1213) (L' := [.ref ci_scr, .ref 0, .ref 127, .ref 148, .int (nI (5 * i)), ci_junk, ci_junk, ci_junk]) (S' := [.ref 0]) rfl ?_
  refine ev_go hc_L (k := 4) (pc' := 1218) (L' := [.ref ci_scr, .ref 0, .ref 127, .ref 148, .int (nI (5 * i)), ci_junk, ci_junk, ci_junk]) (S' := [.int (nI (5 * i) + 1), .ref ci_scr, .ref 0]) rfl ?_
  refine ev_4 hc_L (i := .iaload) (len := 1) (S' := [.int (xs (5 * i + 1)), .ref 0]) rfl (law_rd (m := 1) (by decide) hN hi) ?_
  refine ev_call (d := 1989) (vs := [.ref 0, .int (xs (5 * i + 1))]) (rest := []) (q := q_X11_name) hc_L (Or.inr rfl) (x := 126) (y := 11) rfl ms_126 rfl rfl (Nat.le_of_ble_eq_true rfl) (kO_recv (K_X11_name e1)) (E_X11_name e1 (by omega)) rfl ?_
  show Ev xs N 1990 287 1222 [.ref ci_scr, .ref 0, .ref 127, .ref 148, .int (nI (5 * i)), ci_junk, ci_junk, ci_junk] [.int v] (hp κ μ1) nx r
  refine ev_go hc_L (k := 1) (pc' := 1223) (L' := [.ref ci_scr, .ref 0, .ref 127, .ref 148, .int (nI (5 * i)), ci_junk, ci_junk, ci_junk]) (S' := [.ref 127, .int v]) rfl ?_
  refine ev_go hc_L (k := 4) (pc' := 1228) (L' := [.ref ci_scr, .ref 0, .ref 127, .ref 148, .int (nI (5 * i)), ci_junk, ci_junk, ci_junk]) (S' := [.int (nI (5 * i) + 1), .ref ci_scr, .ref 127, .int v]) rfl ?_
  refine ev_4 hc_L (i := .iaload) (len := 1) (S' := [.int (xs (5 * i + 1)), .ref 127, .int v]) rfl (law_rd (m := 1) (by decide) hN hi) ?_
  refine ev_call (d := 1989) (vs := [.ref 127, .int (xs (5 * i + 1))]) (rest := [.int v]) (q := q_X12_name) hc_L (Or.inr rfl) (x := 255) (y := 12) rfl ms_255 rfl rfl (Nat.le_of_ble_eq_true rfl) (kO_recv (K_X12_name e2)) (E_X12_name e2 (by omega)) rfl ?_
  show Ev xs N 1990 287 1232 [.ref ci_scr, .ref 0, .ref 127, .ref 148, .int (nI (5 * i)), ci_junk, ci_junk, ci_junk] [.int v, .int v] (hp κ μ2) nx r
  refine ev_bt hc_L (pc := 1232) rfl rfl rfl ?_
  exact kk
set_option maxRecDepth 20000 in
theorem lc_deal {xs : Nat → Int32} {N i B : Nat} {κ : Kp} {μ : Mem} {nx : ci_N} (hN : N ≤ 2560) (hi : 5 * i + 5 ≤ N) (hR : Ref0 κ) (hB : B ≤ 1000000) (hI : Inv B μ) : LC xs N i B κ μ nx 1237 := by
  obtain ⟨v, μ1, μ2, e1, e2, hI2⟩ := pr_deal κ B μ hR hB hI
  refine ⟨μ2, nx, hI2, by omega, by omega, fun r kk => ?_⟩
  refine ev_go hc_L (k := 1) (pc' := 1238) (L' := [.ref ci_scr, .ref 0, .ref 127, .ref 148, .int (nI (5 * i)), ci_junk, ci_junk, ci_junk]) (S' := [.ref 0]) rfl ?_
  refine ev_call (d := 1989) (vs := [.ref 0]) (rest := []) (q := q_X11_deal) hc_L (Or.inr rfl) (x := 127) (y := 11) rfl ms_127 rfl rfl (Nat.le_of_ble_eq_true rfl) (kO_recv (K_X11_deal e1)) (E_X11_deal e1 (by omega)) rfl ?_
  show Ev xs N 1990 287 1241 [.ref ci_scr, .ref 0, .ref 127, .ref 148, .int (nI (5 * i)), ci_junk, ci_junk, ci_junk] [.int v] (hp κ μ1) nx r
  refine ev_go hc_L (k := 1) (pc' := 1242) (L' := [.ref ci_scr, .ref 0, .ref 127, .ref 148, .int (nI (5 * i)), ci_junk, ci_junk, ci_junk]) (S' := [.ref 127, .int v]) rfl ?_
  refine ev_call (d := 1989) (vs := [.ref 127]) (rest := [.int v]) (q := q_X12_deal) hc_L (Or.inr rfl) (x := 257) (y := 12) rfl ms_257 rfl rfl (Nat.le_of_ble_eq_true rfl) (kO_recv (K_X12_deal e2)) (E_X12_deal e2 (by omega)) rfl ?_
  show Ev xs N 1990 287 1245 [.ref ci_scr, .ref 0, .ref 127, .ref 148, .int (nI (5 * i)), ci_junk, ci_junk, ci_junk] [.int v, .int v] (hp κ μ2) nx r
  refine ev_bt hc_L (pc := 1245) rfl rfl rfl ?_
  exact kk
set_option maxRecDepth 20000 in
theorem lc_vote {xs : Nat → Int32} {N i B : Nat} {κ : Kp} {μ : Mem} {nx : ci_N} (hN : N ≤ 2560) (hi : 5 * i + 5 ≤ N) (hR : Ref0 κ) (hB : B ≤ 1000000) (hI : Inv B μ) : LC xs N i B κ μ nx 1250 := by
  obtain ⟨v, μ1, μ2, e1, e2, hI2⟩ := pr_vote κ B μ hR hB hI
  refine ⟨μ2, nx, hI2, by omega, by omega, fun r kk => ?_⟩
  refine ev_go hc_L (k := 1) (pc' := 1251) (L' := [.ref ci_scr, .ref 0, .ref 127, .ref 148, .int (nI (5 * i)), ci_junk, ci_junk, ci_junk]) (S' := [.ref 0]) rfl ?_
  refine ev_call (d := 1989) (vs := [.ref 0]) (rest := []) (q := q_X11_vote) hc_L (Or.inr rfl) (x := 128) (y := 11) rfl ms_128 rfl rfl (Nat.le_of_ble_eq_true rfl) (kO_recv (K_X11_vote e1)) (E_X11_vote e1 (by omega)) rfl ?_
  show Ev xs N 1990 287 1254 [.ref ci_scr, .ref 0, .ref 127, .ref 148, .int (nI (5 * i)), ci_junk, ci_junk, ci_junk] [.int v] (hp κ μ1) nx r
  refine ev_go hc_L (k := 1) (pc' := 1255) (L' := [.ref ci_scr, .ref 0, .ref 127, .ref 148, .int (nI (5 * i)), ci_junk, ci_junk, ci_junk]) (S' := [.ref 127, .int v]) rfl ?_
  refine ev_call (d := 1989) (vs := [.ref 127]) (rest := [.int v]) (q := q_X12_vote) hc_L (Or.inr rfl) (x := 258) (y := 12) rfl ms_258 rfl rfl (Nat.le_of_ble_eq_true rfl) (kO_recv (K_X12_vote e2)) (E_X12_vote e2 (by omega)) rfl ?_
  show Ev xs N 1990 287 1258 [.ref ci_scr, .ref 0, .ref 127, .ref 148, .int (nI (5 * i)), ci_junk, ci_junk, ci_junk] [.int v, .int v] (hp κ μ2) nx r
  refine ev_bt hc_L (pc := 1258) rfl rfl rfl ?_
  exact kk
set_option maxRecDepth 20000 in
theorem lc_pays {xs : Nat → Int32} {N i B : Nat} {κ : Kp} {μ : Mem} {nx : ci_N} (hN : N ≤ 2560) (hi : 5 * i + 5 ≤ N) (hR : Ref0 κ) (hB : B ≤ 1000000) (hI : Inv B μ) : LC xs N i B κ μ nx 1263 := by
  obtain ⟨v, μ1, μ2, e1, e2, hI2⟩ := pr_pays (xs (5 * i + 1)) (xs (5 * i + 2)) (xs (5 * i + 3)) κ B μ hR hB hI
  refine ⟨μ2, nx, hI2, by omega, by omega, fun r kk => ?_⟩
  refine ev_go hc_L (k := 1) (pc' := 1264) (L' := [.ref ci_scr, .ref 0, .ref 127, .ref 148, .int (nI (5 * i)), ci_junk, ci_junk, ci_junk]) (S' := [.ref 0]) rfl ?_
  refine ev_go hc_L (k := 4) (pc' := 1269) (L' := [.ref ci_scr, .ref 0, .ref 127, .ref 148, .int (nI (5 * i)), ci_junk, ci_junk, ci_junk]) (S' := [.int (nI (5 * i) + 1), .ref ci_scr, .ref 0]) rfl ?_
  refine ev_4 hc_L (i := .iaload) (len := 1) (S' := [.int (xs (5 * i + 1)), .ref 0]) rfl (law_rd (m := 1) (by decide) hN hi) ?_
  refine ev_go hc_L (k := 4) (pc' := 1275) (L' := [.ref ci_scr, .ref 0, .ref 127, .ref 148, .int (nI (5 * i)), ci_junk, ci_junk, ci_junk]) (S' := [.int (nI (5 * i) + 2), .ref ci_scr, .int (xs (5 * i + 1)), .ref 0]) rfl ?_
  refine ev_4 hc_L (i := .iaload) (len := 1) (S' := [.int (xs (5 * i + 2)), .int (xs (5 * i + 1)), .ref 0]) rfl (law_rd (m := 2) (by decide) hN hi) ?_
  refine ev_go hc_L (k := 4) (pc' := 1281) (L' := [.ref ci_scr, .ref 0, .ref 127, .ref 148, .int (nI (5 * i)), ci_junk, ci_junk, ci_junk]) (S' := [.int (nI (5 * i) + 3), .ref ci_scr, .int (xs (5 * i + 2)), .int (xs (5 * i + 1)), .ref 0]) rfl ?_
  refine ev_4 hc_L (i := .iaload) (len := 1) (S' := [.int (xs (5 * i + 3)), .int (xs (5 * i + 2)), .int (xs (5 * i + 1)), .ref 0]) rfl (law_rd (m := 3) (by decide) hN hi) ?_
  refine ev_call (d := 1989) (vs := [.ref 0, .int (xs (5 * i + 1)), .int (xs (5 * i + 2)), .int (xs (5 * i + 3))]) (rest := []) (q := q_X11_pays) hc_L (Or.inr rfl) (x := 129) (y := 11) rfl ms_129 rfl rfl (Nat.le_of_ble_eq_true rfl) (kO_recv (K_X11_pays e1)) (E_X11_pays e1 (by omega)) rfl ?_
  show Ev xs N 1990 287 1285 [.ref ci_scr, .ref 0, .ref 127, .ref 148, .int (nI (5 * i)), ci_junk, ci_junk, ci_junk] [.int v] (hp κ μ1) nx r
  refine ev_go hc_L (k := 1) (pc' := 1286) (L' := [.ref ci_scr, .ref 0, .ref 127, .ref 148, .int (nI (5 * i)), ci_junk, ci_junk, ci_junk]) (S' := [.ref 127, .int v]) rfl ?_
  refine ev_go hc_L (k := 4) (pc' := 1291) (L' := [.ref ci_scr, .ref 0, .ref 127, .ref 148, .int (nI (5 * i)), ci_junk, ci_junk, ci_junk]) (S' := [.int (nI (5 * i) + 1), .ref ci_scr, .ref 127, .int v]) rfl ?_
  refine ev_4 hc_L (i := .iaload) (len := 1) (S' := [.int (xs (5 * i + 1)), .ref 127, .int v]) rfl (law_rd (m := 1) (by decide) hN hi) ?_
  refine ev_go hc_L (k := 4) (pc' := 1297) (L' := [.ref ci_scr, .ref 0, .ref 127, .ref 148, .int (nI (5 * i)), ci_junk, ci_junk, ci_junk]) (S' := [.int (nI (5 * i) + 2), .ref ci_scr, .int (xs (5 * i + 1)), .ref 127, .int v]) rfl ?_
  refine ev_4 hc_L (i := .iaload) (len := 1) (S' := [.int (xs (5 * i + 2)), .int (xs (5 * i + 1)), .ref 127, .int v]) rfl (law_rd (m := 2) (by decide) hN hi) ?_
  refine ev_go hc_L (k := 4) (pc' := 1303) (L' := [.ref ci_scr, .ref 0, .ref 127, .ref 148, .int (nI (5 * i)), ci_junk, ci_junk, ci_junk]) (S' := [.int (nI (5 * i) + 3), .ref ci_scr, .int (xs (5 * i + 2)), .int (xs (5 * i + 1)), .ref 127, .int v]) rfl ?_
  refine ev_4 hc_L (i := .iaload) (len := 1) (S' := [.int (xs (5 * i + 3)), .int (xs (5 * i + 2)), .int (xs (5 * i + 1)), .ref 127, .int v]) rfl (law_rd (m := 3) (by decide) hN hi) ?_
  refine ev_call (d := 1989) (vs := [.ref 127, .int (xs (5 * i + 1)), .int (xs (5 * i + 2)), .int (xs (5 * i + 3))]) (rest := [.int v]) (q := q_X12_pays) hc_L (Or.inr rfl) (x := 261) (y := 12) rfl ms_261 rfl rfl (Nat.le_of_ble_eq_true rfl) (kO_recv (K_X12_pays e2)) (E_X12_pays e2 (by omega)) rfl ?_
  show Ev xs N 1990 287 1307 [.ref ci_scr, .ref 0, .ref 127, .ref 148, .int (nI (5 * i)), ci_junk, ci_junk, ci_junk] [.int v, .int v] (hp κ μ2) nx r
  refine ev_bt hc_L (pc := 1307) rfl rfl rfl ?_
  exact kk
set_option maxRecDepth 20000 in
theorem lc_coins {xs : Nat → Int32} {N i B : Nat} {κ : Kp} {μ : Mem} {nx : ci_N} (hN : N ≤ 2560) (hi : 5 * i + 5 ≤ N) (hR : Ref0 κ) (hB : B ≤ 1000000) (hI : Inv B μ) : LC xs N i B κ μ nx 1312 := by
  obtain ⟨v, μ1, μ2, e1, e2, hI2⟩ := pr_coins (xs (5 * i + 1)) κ B μ hR hB hI
  refine ⟨μ2, nx, hI2, by omega, by omega, fun r kk => ?_⟩
  refine ev_go hc_L (k := 1) (pc' := 1313) (L' := [.ref ci_scr, .ref 0, .ref 127, .ref 148, .int (nI (5 * i)), ci_junk, ci_junk, ci_junk]) (S' := [.ref 0]) rfl ?_
  refine ev_go hc_L (k := 4) (pc' := 1318) (L' := [.ref ci_scr, .ref 0, .ref 127, .ref 148, .int (nI (5 * i)), ci_junk, ci_junk, ci_junk]) (S' := [.int (nI (5 * i) + 1), .ref ci_scr, .ref 0]) rfl ?_
  refine ev_4 hc_L (i := .iaload) (len := 1) (S' := [.int (xs (5 * i + 1)), .ref 0]) rfl (law_rd (m := 1) (by decide) hN hi) ?_
  refine ev_call (d := 1989) (vs := [.ref 0, .int (xs (5 * i + 1))]) (rest := []) (q := q_X11_coins) hc_L (Or.inr rfl) (x := 130) (y := 11) rfl ms_130 rfl rfl (Nat.le_of_ble_eq_true rfl) (kO_recv (K_X11_coins e1)) (E_X11_coins e1 (by omega)) rfl ?_
  show Ev xs N 1990 287 1322 [.ref ci_scr, .ref 0, .ref 127, .ref 148, .int (nI (5 * i)), ci_junk, ci_junk, ci_junk] [.int v] (hp κ μ1) nx r
  refine ev_go hc_L (k := 1) (pc' := 1323) (L' := [.ref ci_scr, .ref 0, .ref 127, .ref 148, .int (nI (5 * i)), ci_junk, ci_junk, ci_junk]) (S' := [.ref 127, .int v]) rfl ?_
  refine ev_go hc_L (k := 4) (pc' := 1328) (L' := [.ref ci_scr, .ref 0, .ref 127, .ref 148, .int (nI (5 * i)), ci_junk, ci_junk, ci_junk]) (S' := [.int (nI (5 * i) + 1), .ref ci_scr, .ref 127, .int v]) rfl ?_
  refine ev_4 hc_L (i := .iaload) (len := 1) (S' := [.int (xs (5 * i + 1)), .ref 127, .int v]) rfl (law_rd (m := 1) (by decide) hN hi) ?_
  refine ev_call (d := 1989) (vs := [.ref 127, .int (xs (5 * i + 1))]) (rest := [.int v]) (q := q_X12_coins) hc_L (Or.inr rfl) (x := 262) (y := 12) rfl ms_262 rfl rfl (Nat.le_of_ble_eq_true rfl) (kO_recv (K_X12_coins e2)) (E_X12_coins e2 (by omega)) rfl ?_
  show Ev xs N 1990 287 1332 [.ref ci_scr, .ref 0, .ref 127, .ref 148, .int (nI (5 * i)), ci_junk, ci_junk, ci_junk] [.int v, .int v] (hp κ μ2) nx r
  refine ev_bt hc_L (pc := 1332) rfl rfl rfl ?_
  exact kk
