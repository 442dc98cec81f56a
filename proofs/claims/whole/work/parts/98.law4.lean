/-! PURE: the law's loop, calls. -/
set_option maxRecDepth 20000 in
theorem lc_had {xs : Nat → Int32} {N i B : Nat} {κ : Kp} {μ : Mem} {nx : ci_N} (hN : N ≤ 2560) (hi : 5 * i + 5 ≤ N) (hR : Ref0 κ) (hB : B ≤ 1000000) (hI : Inv B μ) : LC xs N i B κ μ nx 1337 := by
  obtain ⟨v, μ1, μ2, e1, e2, hI2⟩ := pr_had (xs (5 * i + 1)) (xs (5 * i + 2)) κ B μ hR hB hI
  refine ⟨μ2, nx, hI2, by omega, by omega, fun r kk => ?_⟩
  refine ev_go hc_L (k := 1) (pc' := 1338) (L' := [.ref ci_scr, .ref 0, .ref 127, .ref 148, .int (nI (5 * i)), ci_junk, ci_junk, ci_junk]) (S' := [.ref 0]) rfl ?_
  refine ev_go hc_L (k := 4) (pc' := 1343) (L' := [.ref ci_scr, .ref 0, .ref 127, .ref 148, .int (nI (5 * i)), ci_junk, ci_junk, ci_junk]) (S' := [.int (nI (5 * i) + 1), .ref ci_scr, .ref 0]) rfl ?_
  refine ev_4 hc_L (i := .iaload) (len := 1) (S' := [.int (xs (5 * i + 1)), .ref 0]) rfl (law_rd (m := 1) (by decide) hN hi) ?_
  refine ev_go hc_L (k := 4) (pc' := 1349) (L' := [.ref ci_scr, .ref 0, .ref 127, .ref 148, .int (nI (5 * i)), ci_junk, ci_junk, ci_junk]) (S' := [.int (nI (5 * i) + 2), .ref ci_scr, .int (xs (5 * i + 1)), .ref 0]) rfl ?_
  refine ev_4 hc_L (i := .iaload) (len := 1) (S' := [.int (xs (5 * i + 2)), .int (xs (5 * i + 1)), .ref 0]) rfl (law_rd (m := 2) (by decide) hN hi) ?_
  refine ev_call (d := 1989) (vs := [.ref 0, .int (xs (5 * i + 1)), .int (xs (5 * i + 2))]) (rest := []) (q := q_X11_had) hc_L (Or.inr rfl) (x := 131) (y := 11) rfl ms_131 rfl rfl (Nat.le_of_ble_eq_true rfl) (kO_recv (K_X11_had e1)) (E_X11_had e1 (by omega)) rfl ?_
  show Ev xs N 1990 287 1353 [.ref ci_scr, .ref 0, .ref 127, .ref 148, .int (nI (5 * i)), ci_junk, ci_junk, ci_junk] [.int v] (hp κ μ1) nx r
  refine ev_go hc_L (k := 1) (pc' := 1354) (L' := [.ref ci_scr, .ref 0, .ref 127, .ref 148, .int (nI (5 * i)), ci_junk, ci_junk, ci_junk]) (S' := [.ref 127, .int v]) rfl ?_
  refine ev_go hc_L (k := 4) (pc' := 1359) (L' := [.ref ci_scr, .ref 0, .ref 127, .ref 148, .int (nI (5 * i)), ci_junk, ci_junk, ci_junk]) (S' := [.int (nI (5 * i) + 1), .ref ci_scr, .ref 127, .int v]) rfl ?_
  refine ev_4 hc_L (i := .iaload) (len := 1) (S' := [.int (xs (5 * i + 1)), .ref 127, .int v]) rfl (law_rd (m := 1) (by decide) hN hi) ?_
  refine ev_go hc_L (k := 4) (pc' := 1365) (L' := [.ref ci_scr, .ref 0, .ref 127, .ref 148, .int (nI (5 * i)), ci_junk, ci_junk, ci_junk]) (S' := [.int (nI (5 * i) + 2), .ref ci_scr, .int (xs (5 * i + 1)), .ref 127, .int v]) rfl ?_
  refine ev_4 hc_L (i := .iaload) (len := 1) (S' := [.int (xs (5 * i + 2)), .int (xs (5 * i + 1)), .ref 127, .int v]) rfl (law_rd (m := 2) (by decide) hN hi) ?_
  refine ev_call (d := 1989) (vs := [.ref 127, .int (xs (5 * i + 1)), .int (xs (5 * i + 2))]) (rest := [.int v]) (q := q_X12_had) hc_L (Or.inr rfl) (x := 263) (y := 12) rfl ms_263 rfl rfl (Nat.le_of_ble_eq_true rfl) (kO_recv (K_X12_had e2)) (E_X12_had e2 (by omega)) rfl ?_
  show Ev xs N 1990 287 1369 [.ref ci_scr, .ref 0, .ref 127, .ref 148, .int (nI (5 * i)), ci_junk, ci_junk, ci_junk] [.int v, .int v] (hp κ μ2) nx r
  refine ev_bt hc_L (pc := 1369) rfl rfl rfl ?_
  exact kk
set_option maxRecDepth 20000 in
theorem lc_heard {xs : Nat → Int32} {N i B : Nat} {κ : Kp} {μ : Mem} {nx : ci_N} (hN : N ≤ 2560) (hi : 5 * i + 5 ≤ N) (hR : Ref0 κ) (hB : B ≤ 1000000) (hI : Inv B μ) : LC xs N i B κ μ nx 1374 := by
  obtain ⟨v, μ1, μ2, e1, e2, hI2⟩ := pr_heard (xs (5 * i + 1)) (xs (5 * i + 2)) κ B μ hR hB hI
  refine ⟨μ2, nx, hI2, by omega, by omega, fun r kk => ?_⟩
  refine ev_go hc_L (k := 1) (pc' := 1375) (L' := [.ref ci_scr, .ref 0, .ref 127, .ref 148, .int (nI (5 * i)), ci_junk, ci_junk, ci_junk]) (S' := [.ref 0]) rfl ?_
  refine ev_go hc_L (k := 4) (pc' := 1380) (L' := [.ref ci_scr, .ref 0, .ref 127, .ref 148, .int (nI (5 * i)), ci_junk, ci_junk, ci_junk]) (S' := [.int (nI (5 * i) + 1), .ref ci_scr, .ref 0]) rfl ?_
  refine ev_4 hc_L (i := .iaload) (len := 1) (S' := [.int (xs (5 * i + 1)), .ref 0]) rfl (law_rd (m := 1) (by decide) hN hi) ?_
  refine ev_go hc_L (k := 4) (pc' := 1386) (L' := [.ref ci_scr, .ref 0, .ref 127, .ref 148, .int (nI (5 * i)), ci_junk, ci_junk, ci_junk]) (S' := [.int (nI (5 * i) + 2), .ref ci_scr, .int (xs (5 * i + 1)), .ref 0]) rfl ?_
  refine ev_4 hc_L (i := .iaload) (len := 1) (S' := [.int (xs (5 * i + 2)), .int (xs (5 * i + 1)), .ref 0]) rfl (law_rd (m := 2) (by decide) hN hi) ?_
  refine ev_call (d := 1989) (vs := [.ref 0, .int (xs (5 * i + 1)), .int (xs (5 * i + 2))]) (rest := []) (q := q_X11_heard) hc_L (Or.inr rfl) (x := 132) (y := 11) rfl ms_132 rfl rfl (Nat.le_of_ble_eq_true rfl) (kO_recv (K_X11_heard e1)) (E_X11_heard e1 (by omega)) rfl ?_
  show Ev xs N 1990 287 1390 [.ref ci_scr, .ref 0, .ref 127, .ref 148, .int (nI (5 * i)), ci_junk, ci_junk, ci_junk] [.int v] (hp κ μ1) nx r
  refine ev_go hc_L (k := 1) (pc' := 1391) (L' := [.ref ci_scr, .ref 0, .ref 127, .ref 148, .int (nI (5 * i)), ci_junk, ci_junk, ci_junk]) (S' := [.ref 127, .int v]) rfl ?_
  refine ev_go hc_L (k := 4) (pc' := 1396) (L' := [.ref ci_scr, .ref 0, .ref 127, .ref 148, .int (nI (5 * i)), ci_junk, ci_junk, ci_junk]) (S' := [.int (nI (5 * i) + 1), .ref ci_scr, .ref 127, .int v]) rfl ?_
  refine ev_4 hc_L (i := .iaload) (len := 1) (S' := [.int (xs (5 * i + 1)), .ref 127, .int v]) rfl (law_rd (m := 1) (by decide) hN hi) ?_
  refine ev_go hc_L (k := 4) (pc' := 1402) (L' := [.ref ci_scr, .ref 0, .ref 127, .ref 148, .int (nI (5 * i)), ci_junk, ci_junk, ci_junk]) (S' := [.int (nI (5 * i) + 2), .ref ci_scr, .int (xs (5 * i + 1)), .ref 127, .int v]) rfl ?_
  refine ev_4 hc_L (i := .iaload) (len := 1) (S' := [.int (xs (5 * i + 2)), .int (xs (5 * i + 1)), .ref 127, .int v]) rfl (law_rd (m := 2) (by decide) hN hi) ?_
  refine ev_call (d := 1989) (vs := [.ref 127, .int (xs (5 * i + 1)), .int (xs (5 * i + 2))]) (rest := [.int v]) (q := q_X12_heard) hc_L (Or.inr rfl) (x := 264) (y := 12) rfl ms_264 rfl rfl (Nat.le_of_ble_eq_true rfl) (kO_recv (K_X12_heard e2)) (E_X12_heard e2 (by omega)) rfl ?_
  show Ev xs N 1990 287 1406 [.ref ci_scr, .ref 0, .ref 127, .ref 148, .int (nI (5 * i)), ci_junk, ci_junk, ci_junk] [.int v, .int v] (hp κ μ2) nx r
  refine ev_bt hc_L (pc := 1406) rfl rfl rfl ?_
  exact kk
set_option maxRecDepth 20000 in
theorem lc_forget {xs : Nat → Int32} {N i B : Nat} {κ : Kp} {μ : Mem} {nx : ci_N} (hN : N ≤ 2560) (hi : 5 * i + 5 ≤ N) (hR : Ref0 κ) (hB : B ≤ 1000000) (hI : Inv B μ) : LC xs N i B κ μ nx 1411 := by
  obtain ⟨v, μ1, μ2, e1, e2, hI2⟩ := pr_forget κ B μ hR hB hI
  refine ⟨μ2, nx, hI2, by omega, by omega, fun r kk => ?_⟩
  refine ev_go hc_L (k := 1) (pc' := 1412) (L' := [.ref ci_scr, .ref 0, .ref 127, .ref 148, .int (nI (5 * i)), ci_junk, ci_junk, ci_junk]) (S' := [.ref 0]) rfl ?_
  refine ev_call (d := 1989) (vs := [.ref 0]) (rest := []) (q := q_X11_forget) hc_L (Or.inr rfl) (x := 133) (y := 11) rfl ms_133 rfl rfl (Nat.le_of_ble_eq_true rfl) (kO_recv (K_X11_forget e1)) (E_X11_forget e1 (by omega)) rfl ?_
  show Ev xs N 1990 287 1415 [.ref ci_scr, .ref 0, .ref 127, .ref 148, .int (nI (5 * i)), ci_junk, ci_junk, ci_junk] [.int v] (hp κ μ1) nx r
  refine ev_go hc_L (k := 1) (pc' := 1416) (L' := [.ref ci_scr, .ref 0, .ref 127, .ref 148, .int (nI (5 * i)), ci_junk, ci_junk, ci_junk]) (S' := [.ref 127, .int v]) rfl ?_
  refine ev_call (d := 1989) (vs := [.ref 127]) (rest := [.int v]) (q := q_X12_forget) hc_L (Or.inr rfl) (x := 265) (y := 12) rfl ms_265 rfl rfl (Nat.le_of_ble_eq_true rfl) (kO_recv (K_X12_forget e2)) (E_X12_forget e2 (by omega)) rfl ?_
  show Ev xs N 1990 287 1419 [.ref ci_scr, .ref 0, .ref 127, .ref 148, .int (nI (5 * i)), ci_junk, ci_junk, ci_junk] [.int v, .int v] (hp κ μ2) nx r
  refine ev_bt hc_L (pc := 1419) rfl rfl rfl ?_
  exact kk
set_option maxRecDepth 20000 in
theorem lc_whose {xs : Nat → Int32} {N i B : Nat} {κ : Kp} {μ : Mem} {nx : ci_N} (hN : N ≤ 2560) (hi : 5 * i + 5 ≤ N) (hR : Ref0 κ) (hB : B ≤ 1000000) (hI : Inv B μ) : LC xs N i B κ μ nx 1424 := by
  obtain ⟨v, μ1, μ2, e1, e2, hI2⟩ := pr_whose κ B μ hR hB hI
  refine ⟨μ2, nx, hI2, by omega, by omega, fun r kk => ?_⟩
  refine ev_go hc_L (k := 1) (pc' := 1425) (L' := [.ref ci_scr, .ref 0, .ref 127, .ref 148, .int (nI (5 * i)), ci_junk, ci_junk, ci_junk]) (S' := [.ref 0]) rfl ?_
  refine ev_call (d := 1989) (vs := [.ref 0]) (rest := []) (q := q_X11_whose) hc_L (Or.inr rfl) (x := 134) (y := 11) rfl ms_134 rfl rfl (Nat.le_of_ble_eq_true rfl) (kO_recv (K_X11_whose e1)) (E_X11_whose e1 (by omega)) rfl ?_
  show Ev xs N 1990 287 1428 [.ref ci_scr, .ref 0, .ref 127, .ref 148, .int (nI (5 * i)), ci_junk, ci_junk, ci_junk] [.int v] (hp κ μ1) nx r
  refine ev_go hc_L (k := 1) (pc' := 1429) (L' := [.ref ci_scr, .ref 0, .ref 127, .ref 148, .int (nI (5 * i)), ci_junk, ci_junk, ci_junk]) (S' := [.ref 127, .int v]) rfl ?_
  refine ev_call (d := 1989) (vs := [.ref 127]) (rest := [.int v]) (q := q_X12_whose) hc_L (Or.inr rfl) (x := 267) (y := 12) rfl ms_267 rfl rfl (Nat.le_of_ble_eq_true rfl) (kO_recv (K_X12_whose e2)) (E_X12_whose e2 (by omega)) rfl ?_
  show Ev xs N 1990 287 1432 [.ref ci_scr, .ref 0, .ref 127, .ref 148, .int (nI (5 * i)), ci_junk, ci_junk, ci_junk] [.int v, .int v] (hp κ μ2) nx r
  refine ev_bt hc_L (pc := 1432) rfl rfl rfl ?_
  exact kk
set_option maxRecDepth 20000 in
theorem lc_ask {xs : Nat → Int32} {N i B : Nat} {κ : Kp} {μ : Mem} {nx : ci_N} (hN : N ≤ 2560) (hi : 5 * i + 5 ≤ N) (hR : Ref0 κ) (hB : B ≤ 1000000) (hI : Inv B μ) : LC xs N i B κ μ nx 1437 := by
  obtain ⟨v, μ1, μ2, e1, e2, hI2⟩ := pr_ask κ B μ hR hB hI
  refine ⟨μ2, nx, hI2, by omega, by omega, fun r kk => ?_⟩
  refine ev_go hc_L (k := 1) (pc' := 1438) (L' := [.ref ci_scr, .ref 0, .ref 127, .ref 148, .int (nI (5 * i)), ci_junk, ci_junk, ci_junk]) (S' := [.ref 0]) rfl ?_
  refine ev_call (d := 1989) (vs := [.ref 0]) (rest := []) (q := q_X11_ask) hc_L (Or.inr rfl) (x := 135) (y := 11) rfl ms_135 rfl rfl (Nat.le_of_ble_eq_true rfl) (kO_recv (K_X11_ask e1)) (E_X11_ask e1 (by omega)) rfl ?_
  show Ev xs N 1990 287 1441 [.ref ci_scr, .ref 0, .ref 127, .ref 148, .int (nI (5 * i)), ci_junk, ci_junk, ci_junk] [.int v] (hp κ μ1) nx r
  refine ev_go hc_L (k := 1) (pc' := 1442) (L' := [.ref ci_scr, .ref 0, .ref 127, .ref 148, .int (nI (5 * i)), ci_junk, ci_junk, ci_junk]) (S' := [.ref 127, .int v]) rfl ?_
  refine ev_call (d := 1989) (vs := [.ref 127]) (rest := [.int v]) (q := q_X12_ask) hc_L (Or.inr rfl) (x := 268) (y := 12) rfl ms_268 rfl rfl (Nat.le_of_ble_eq_true rfl) (kO_recv (K_X12_ask e2)) (E_X12_ask e2 (by omega)) rfl ?_
  show Ev xs N 1990 287 1445 [.ref ci_scr, .ref 0, .ref 127, .ref 148, .int (nI (5 * i)), ci_junk, ci_junk, ci_junk] [.int v, .int v] (hp κ μ2) nx r
  refine ev_bt hc_L (pc := 1445) rfl rfl rfl ?_
  exact kk
set_option maxRecDepth 20000 in
theorem lc_seen {xs : Nat → Int32} {N i B : Nat} {κ : Kp} {μ : Mem} {nx : ci_N} (hN : N ≤ 2560) (hi : 5 * i + 5 ≤ N) (hR : Ref0 κ) (hB : B ≤ 1000000) (hI : Inv B μ) : LC xs N i B κ μ nx 1450 := by
  obtain ⟨v, μ1, μ2, e1, e2, hI2⟩ := pr_seen (xs (5 * i + 1)) (xs (5 * i + 2)) (xs (5 * i + 3)) κ B μ hR hB hI
  refine ⟨μ2, nx, hI2, by omega, by omega, fun r kk => ?_⟩
  refine ev_go hc_L (k := 1) (pc' := 1451) (L' := [.ref ci_scr, .ref 0, .ref 127, .ref 148, .int (nI (5 * i)), ci_junk, ci_junk, ci_junk]) (S' := [.ref 0]) rfl ?_
  refine ev_go hc_L (k := 4) (pc' := 1456) (L' := [.ref ci_scr, .ref 0, .ref 127, .ref 148, .int (nI (5 * i)), ci_junk, ci_junk, ci_junk]) (S' := [.int (nI (5 * i) + 1), .ref ci_scr, .ref 0]) rfl ?_
  refine ev_4 hc_L (i := .iaload) (len := 1) (S' := [.int (xs (5 * i + 1)), .ref 0]) rfl (law_rd (m := 1) (by decide) hN hi) ?_
  refine ev_go hc_L (k := 4) (pc' := 1462) (L' := [.ref ci_scr, .ref 0, .ref 127, .ref 148, .int (nI (5 * i)), ci_junk, ci_junk, ci_junk]) (S' := [.int (nI (5 * i) + 2), .ref ci_scr, .int (xs (5 * i + 1)), .ref 0]) rfl ?_
  refine ev_4 hc_L (i := .iaload) (len := 1) (S' := [.int (xs (5 * i + 2)), .int (xs (5 * i + 1)), .ref 0]) rfl (law_rd (m := 2) (by decide) hN hi) ?_
  refine ev_go hc_L (k := 4) (pc' := 1468) (L' := [.ref ci_scr, .ref 0, .ref 127, .ref 148, .int (nI (5 * i)), ci_junk, ci_junk, ci_junk]) (S' := [.int (nI (5 * i) + 3), .ref ci_scr, .int (xs (5 * i + 2)), .int (xs (5 * i + 1)), .ref 0]) rfl ?_
  refine ev_4 hc_L (i := .iaload) (len := 1) (S' := [.int (xs (5 * i + 3)), .int (xs (5 * i + 2)), .int (xs (5 * i + 1)), .ref 0]) rfl (law_rd (m := 3) (by decide) hN hi) ?_
  refine ev_call (d := 1989) (vs := [.ref 0, .int (xs (5 * i + 1)), .int (xs (5 * i + 2)), .int (xs (5 * i + 3))]) (rest := []) (q := q_X11_seen) hc_L (Or.inr rfl) (x := 136) (y := 11) rfl ms_136 rfl rfl (Nat.le_of_ble_eq_true rfl) (kO_recv (K_X11_seen e1)) (E_X11_seen e1 (by omega)) rfl ?_
  show Ev xs N 1990 287 1472 [.ref ci_scr, .ref 0, .ref 127, .ref 148, .int (nI (5 * i)), ci_junk, ci_junk, ci_junk] [.int v] (hp κ μ1) nx r
  refine ev_go hc_L (k := 1) (pc' := 1473) (L' := [.ref ci_scr, .ref 0, .ref 127, .ref 148, .int (nI (5 * i)), ci_junk, ci_junk, ci_junk]) (S' := [.ref 127, .int v]) rfl ?_
  refine ev_go hc_L (k := 4) (pc' := 1478) (L' := [.ref ci_scr, .ref 0, .ref 127, .ref 148, .int (nI (5 * i)), ci_junk, ci_junk, ci_junk]) (S' := [.int (nI (5 * i) + 1), .ref ci_scr, .ref 127, .int v]) rfl ?_
  refine ev_4 hc_L (i := .iaload) (len := 1) (S' := [.int (xs (5 * i + 1)), .ref 127, .int v]) rfl (law_rd (m := 1) (by decide) hN hi) ?_
  refine ev_go hc_L (k := 4) (pc' := 1484) (L' := [.ref ci_scr, .ref 0, .ref 127, .ref 148, .int (nI (5 * i)), ci_junk, ci_junk, ci_junk]) (S' := [.int (nI (5 * i) + 2), .ref ci_scr, .int (xs (5 * i + 1)), .ref 127, .int v]) rfl ?_
  refine ev_4 hc_L (i := .iaload) (len := 1) (S' := [.int (xs (5 * i + 2)), .int (xs (5 * i + 1)), .ref 127, .int v]) rfl (law_rd (m := 2) (by decide) hN hi) ?_
  refine ev_go hc_L (k := 4) (pc' := 1490) (L' := [.ref ci_scr, .ref 0, .ref 127, .ref 148, .int (nI (5 * i)), ci_junk, ci_junk, ci_junk]) (S' := [.int (nI (5 * i) + 3), .ref ci_scr, .int (xs (5 * i + 2)), .int (xs (5 * i + 1)), .ref 127, .int v]) rfl ?_
  refine ev_4 hc_L (i := .iaload) (len := 1) (S' := [.int (xs (5 * i + 3)), .int (xs (5 * i + 2)), .int (xs (5 * i + 1)), .ref 127, .int v]) rfl (law_rd (m := 3) (by decide) hN hi) ?_
  refine ev_call (d := 1989) (vs := [.ref 127, .int (xs (5 * i + 1)), .int (xs (5 * i + 2)), .int (xs (5 * i + 3))]) (rest := [.int v]) (q := q_X12_seen) hc_L (Or.inr rfl) (x := 271) (y := 12) rfl ms_271 rfl rfl (Nat.le_of_ble_eq_true rfl) (kO_recv (K_X12_seen e2)) (E_X12_seen e2 (by omega)) rfl ?_
  show Ev xs N 1990 287 1494 [.ref ci_scr, .ref 0, .ref 127, .ref 148, .int (nI (5 * i)), ci_junk, ci_junk, ci_junk] [.int v, .int v] (hp κ μ2) nx r
  refine ev_bt hc_L (pc := 1494) rfl rfl rfl ?_
  exact kk
set_option maxRecDepth 20000 in
theorem lc_finds {xs : Nat → Int32} {N i B : Nat} {κ : Kp} {μ : Mem} {nx : ci_N} (hN : N ≤ 2560) (hi : 5 * i + 5 ≤ N) (hR : Ref0 κ) (hB : B ≤ 1000000) (hI : Inv B μ) : LC xs N i B κ μ nx 1499 := by
  obtain ⟨v, μ1, μ2, e1, e2, hI2⟩ := pr_finds (xs (5 * i + 1)) (xs (5 * i + 2)) (xs (5 * i + 3)) κ B μ hR hB hI
  refine ⟨μ2, nx, hI2, by omega, by omega, fun r kk => ?_⟩
  refine ev_go hc_L (k := 1) (pc' := 1500) (L' := [.ref ci_scr, .ref 0, .ref 127, .ref 148, .int (nI (5 * i)), ci_junk, ci_junk, ci_junk]) (S' := [.ref 0]) rfl ?_
  refine ev_go hc_L (k := 4) (pc' := 1505) (L' := [.ref ci_scr, .ref 0, .ref 127, .ref 148, .int (nI (5 * i)), ci_junk, ci_junk, ci_junk]) (S' := [.int (nI (5 * i) + 1), .ref ci_scr, .ref 0]) rfl ?_
  refine ev_4 hc_L (i := .iaload) (len := 1) (S' := [.int (xs (5 * i + 1)), .ref 0]) rfl (law_rd (m := 1) (by decide) hN hi) ?_
  refine ev_go hc_L (k := 4) (pc' := 1511) (L' := [.ref ci_scr, .ref 0, .ref 127, .ref 148, .int (nI (5 * i)), ci_junk, ci_junk, ci_junk]) (S' := [.int (nI (5 * i) + 2), .ref ci_scr, .int (xs (5 * i + 1)), .ref 0]) rfl ?_
  refine ev_4 hc_L (i := .iaload) (len := 1) (S' := [.int (xs (5 * i + 2)), .int (xs (5 * i + 1)), .ref 0]) rfl (law_rd (m := 2) (by decide) hN hi) ?_
  refine ev_go hc_L (k := 4) (pc' := 1517) (L' := [.ref ci_scr, .ref 0, .ref 127, .ref 148, .int (nI (5 * i)), ci_junk, ci_junk, ci_junk]) (S' := [.int (nI (5 * i) + 3), .ref ci_scr, .int (xs (5 * i + 2)), .int (xs (5 * i + 1)), .ref 0]) rfl ?_
  refine ev_4 hc_L (i := .iaload) (len := 1) (S' := [.int (xs (5 * i + 3)), .int (xs (5 * i + 2)), .int (xs (5 * i + 1)), .ref 0]) rfl (law_rd (m := 3) (by decide) hN hi) ?_
  refine ev_call (d := 1989) (vs := [.ref 0, .int (xs (5 * i + 1)), .int (xs (5 * i + 2)), .int (xs (5 * i + 3))]) (rest := []) (q := q_X11_finds) hc_L (Or.inr rfl) (x := 137) (y := 11) rfl ms_137 rfl rfl (Nat.le_of_ble_eq_true rfl) (kO_recv (K_X11_finds e1)) (E_X11_finds e1 (by omega)) rfl ?_
  show Ev xs N 1990 287 1521 [.ref ci_scr, .ref 0, .ref 127, .ref 148, .int (nI (5 * i)), ci_junk, ci_junk, ci_junk] [.int v] (hp κ μ1) nx r
  refine ev_go hc_L (k := 1) (pc' := 1522) (L' := [.ref ci_scr, .ref 0, .ref 127, .ref 148, .int (nI (5 * i)), ci_junk, ci_junk, ci_junk]) (S' := [.ref 127, .int v]) rfl ?_
  refine ev_go hc_L (k := 4) (pc' := 1527) (L' := [.ref ci_scr, .ref 0, .ref 127, .ref 148, .int (nI (5 * i)), ci_junk, ci_junk, ci_junk]) (S' := [.int (nI (5 * i) + 1), .ref ci_scr, .ref 127, .int v]) rfl ?_
  refine ev_4 hc_L (i := .iaload) (len := 1) (S' := [.int (xs (5 * i + 1)), .ref 127, .int v]) rfl (law_rd (m := 1) (by decide) hN hi) ?_
  refine ev_go hc_L (k := 4) (pc' := 1533) (L' := [.ref ci_scr, .ref 0, .ref 127, .ref 148, .int (nI (5 * i)), ci_junk, ci_junk, ci_junk]) (S' := [.int (nI (5 * i) + 2), .ref ci_scr, .int (xs (5 * i + 1)), .ref 127, .int v]) rfl ?_
  refine ev_4 hc_L (i := .iaload) (len := 1) (S' := [.int (xs (5 * i + 2)), .int (xs (5 * i + 1)), .ref 127, .int v]) rfl (law_rd (m := 2) (by decide) hN hi) ?_
  refine ev_go hc_L (k := 4) (pc' := 1539) (L' := [.ref ci_scr, .ref 0, .ref 127, .ref 148, .int (nI (5 * i)), ci_junk, ci_junk, ci_junk]) (S' := [.int (nI (5 * i) + 3), .ref ci_scr, .int (xs (5 * i + 2)), .int (xs (5 * i + 1)), .ref 127, .int v]) rfl ?_
  refine ev_4 hc_L (i := .iaload) (len := 1) (S' := [.int (xs (5 * i + 3)), .int (xs (5 * i + 2)), .int (xs (5 * i + 1)), .ref 127, .int v]) rfl (law_rd (m := 3) (by decide) hN hi) ?_
  refine ev_call (d := 1989) (vs := [.ref 127, .int (xs (5 * i + 1)), .int (xs (5 * i + 2)), .int (xs (5 * i + 3))]) (rest := [.int v]) (q := q_X12_finds) hc_L (Or.inr rfl) (x := 272) (y := 12) rfl ms_272 rfl rfl (Nat.le_of_ble_eq_true rfl) (kO_recv (K_X12_finds e2)) (E_X12_finds e2 (by omega)) rfl ?_
  show Ev xs N 1990 287 1543 [.ref ci_scr, .ref 0, .ref 127, .ref 148, .int (nI (5 * i)), ci_junk, ci_junk, ci_junk] [.int v, .int v] (hp κ μ2) nx r
  refine ev_bt hc_L (pc := 1543) rfl rfl rfl ?_
  exact kk
set_option maxRecDepth 20000 in
theorem lc_rests {xs : Nat → Int32} {N i B : Nat} {κ : Kp} {μ : Mem} {nx : ci_N} (hN : N ≤ 2560) (hi : 5 * i + 5 ≤ N) (hR : Ref0 κ) (hB : B ≤ 1000000) (hI : Inv B μ) : LC xs N i B κ μ nx 1548 := by
  obtain ⟨v, μ1, μ2, e1, e2, hI2⟩ := pr_rests (xs (5 * i + 1)) (xs (5 * i + 2)) κ B μ hR hB hI
  refine ⟨μ2, nx, hI2, by omega, by omega, fun r kk => ?_⟩
  refine ev_go hc_L (k := 1) (pc' := 1549) (L' := [.ref ci_scr, .ref 0, .ref 127, .ref 148, .int (nI (5 * i)), ci_junk, ci_junk, ci_junk]) (S' := [.ref 0]) rfl ?_
  refine ev_go hc_L (k := 4) (pc' := 1554) (L' := [.ref ci_scr, .ref 0, .ref 127, .ref 148, .int (nI (5 * i)), ci_junk, ci_junk, ci_junk]) (S' := [.int (nI (5 * i) + 1), .ref ci_scr, .ref 0]) rfl ?_
  refine ev_4 hc_L (i := .iaload) (len := 1) (S' := [.int (xs (5 * i + 1)), .ref 0]) rfl (law_rd (m := 1) (by decide) hN hi) ?_
  refine ev_go hc_L (k := 4) (pc' := 1560) (L' := [.ref ci_scr, .ref 0, .ref 127, .ref 148, .int (nI (5 * i)), ci_junk, ci_junk, ci_junk]) (S' := [.int (nI (5 * i) + 2), .ref ci_scr, .int (xs (5 * i + 1)), .ref 0]) rfl ?_
  refine ev_4 hc_L (i := .iaload) (len := 1) (S' := [.int (xs (5 * i + 2)), .int (xs (5 * i + 1)), .ref 0]) rfl (law_rd (m := 2) (by decide) hN hi) ?_
  refine ev_call (d := 1989) (vs := [.ref 0, .int (xs (5 * i + 1)), .int (xs (5 * i + 2))]) (rest := []) (q := q_X11_rests) hc_L (Or.inr rfl) (x := 138) (y := 11) rfl ms_138 rfl rfl (Nat.le_of_ble_eq_true rfl) (kO_recv (K_X11_rests e1)) (E_X11_rests e1 (by omega)) rfl ?_
  show Ev xs N 1990 287 1564 [.ref ci_scr, .ref 0, .ref 127, .ref 148, .int (nI (5 * i)), ci_junk, ci_junk, ci_junk] [.int v] (hp κ μ1) nx r
  refine ev_go hc_L (k := 1) (pc' := 1565) (L' := [.ref ci_scr, .ref 0, .ref 127, .ref 148, .int (nI (5 * i)), ci_junk, ci_junk, ci_junk]) (S' := [.ref 127, .int v]) rfl ?_
  refine ev_go hc_L (k := 4) (pc' := 1570) (L' := [.ref ci_scr, .ref 0, .ref 127, .ref 148, .int (nI (5 * i)), ci_junk, ci_junk, ci_junk]) (S' := [.int (nI (5 * i) + 1), .ref ci_scr, .ref 127, .int v]) rfl ?_
  refine ev_4 hc_L (i := .iaload) (len := 1) (S' := [.int (xs (5 * i + 1)), .ref 127, .int v]) rfl (law_rd (m := 1) (by decide) hN hi) ?_
  refine ev_go hc_L (k := 4) (pc' := 1576) (L' := [.ref ci_scr, .ref 0, .ref 127, .ref 148, .int (nI (5 * i)), ci_junk, ci_junk, ci_junk]) (S' := [.int (nI (5 * i) + 2), .ref ci_scr, .int (xs (5 * i + 1)), .ref 127, .int v]) rfl ?_
  refine ev_4 hc_L (i := .iaload) (len := 1) (S' := [.int (xs (5 * i + 2)), .int (xs (5 * i + 1)), .ref 127, .int v]) rfl (law_rd (m := 2) (by decide) hN hi) ?_
  refine ev_call (d := 1989) (vs := [.ref 127, .int (xs (5 * i + 1)), .int (xs (5 * i + 2))]) (rest := [.int v]) (q := q_X12_rests) hc_L (Or.inr rfl) (x := 275) (y := 12) rfl ms_275 rfl rfl (Nat.le_of_ble_eq_true rfl) (kO_recv (K_X12_rests e2)) (E_X12_rests e2 (by omega)) rfl ?_
  show Ev xs N 1990 287 1580 [.ref ci_scr, .ref 0, .ref 127, .ref 148, .int (nI (5 * i)), ci_junk, ci_junk, ci_junk] [.int v, .int v] (hp κ μ2) nx r
  refine ev_bt hc_L (pc := 1580) rfl rfl rfl ?_
  exact kk
set_option maxRecDepth 20000 in
theorem lc_years {xs : Nat → Int32} {N i B : Nat} {κ : Kp} {μ : Mem} {nx : ci_N} (hN : N ≤ 2560) (hi : 5 * i + 5 ≤ N) (hR : Ref0 κ) (hB : B ≤ 1000000) (hI : Inv B μ) : LC xs N i B κ μ nx 1585 := by
  obtain ⟨v, μ1, μ2, e1, e2, hI2⟩ := pr_years (xs (5 * i + 1)) (xs (5 * i + 2)) κ B μ hR hB hI
  refine ⟨μ2, nx, hI2, by omega, by omega, fun r kk => ?_⟩
  refine ev_go hc_L (k := 1) (pc' := 1586) (L' := [.ref ci_scr, .ref 0, .ref 127, .ref 148, .int (nI (5 * i)), ci_junk, ci_junk, ci_junk]) (S' := [.ref 0]) rfl ?_
  refine ev_go hc_L (k := 4) (pc' := 1591) (L' := [.ref ci_scr, .ref 0, .ref 127, .ref 148, .int (nI (5 * i)), ci_junk, ci_junk, ci_junk]) (S' := [.int (nI (5 * i) + 1), .ref ci_scr, .ref 0]) rfl ?_
  refine ev_4 hc_L (i := .iaload) (len := 1) (S' := [.int (xs (5 * i + 1)), .ref 0]) rfl (law_rd (m := 1) (by decide) hN hi) ?_
  refine ev_go hc_L (k := 4) (pc' := 1597) (L' := [.ref ci_scr, .ref 0, .ref 127, .ref 148, .int (nI (5 * i)), ci_junk, ci_junk, ci_junk]) (S' := [.int (nI (5 * i) + 2), .ref ci_scr, .int (xs (5 * i + 1)), .ref 0]) rfl ?_
  refine ev_4 hc_L (i := .iaload) (len := 1) (S' := [.int (xs (5 * i + 2)), .int (xs (5 * i + 1)), .ref 0]) rfl (law_rd (m := 2) (by decide) hN hi) ?_
  refine ev_call (d := 1989) (vs := [.ref 0, .int (xs (5 * i + 1)), .int (xs (5 * i + 2))]) (rest := []) (q := q_X11_years) hc_L (Or.inr rfl) (x := 139) (y := 11) rfl ms_139 rfl rfl (Nat.le_of_ble_eq_true rfl) (kO_recv (K_X11_years e1)) (E_X11_years e1 (by omega)) rfl ?_
  show Ev xs N 1990 287 1601 [.ref ci_scr, .ref 0, .ref 127, .ref 148, .int (nI (5 * i)), ci_junk, ci_junk, ci_junk] [.int v] (hp κ μ1) nx r
  refine ev_go hc_L (k := 1) (pc' := 1602) (L' := [.ref ci_scr, .ref 0, .ref 127, .ref 148, .int (nI (5 * i)), ci_junk, ci_junk, ci_junk]) (S' := [.ref 127, .int v]) rfl ?_
  refine ev_go hc_L (k := 4) (pc' := 1607) (L' := [.ref ci_scr, .ref 0, .ref 127, .ref 148, .int (nI (5 * i)), ci_junk, ci_junk, ci_junk]) (S' := [.int (nI (5 * i) + 1), .ref ci_scr, .ref 127, .int v]) rfl ?_
  refine ev_4 hc_L (i := .iaload) (len := 1) (S' := [.int (xs (5 * i + 1)), .ref 127, .int v]) rfl (law_rd (m := 1) (by decide) hN hi) ?_
  refine ev_go hc_L (k := 4) (pc' := 1613) (L' := [.ref ci_scr, .ref 0, .ref 127, .ref 148, .int (nI (5 * i)), ci_junk, ci_junk, ci_junk]) (S' := [.int (nI (5 * i) + 2), .ref ci_scr, .int (xs (5 * i + 1)), .ref 127, .int v]) rfl ?_
  refine ev_4 hc_L (i := .iaload) (len := 1) (S' := [.int (xs (5 * i + 2)), .int (xs (5 * i + 1)), .ref 127, .int v]) rfl (law_rd (m := 2) (by decide) hN hi) ?_
  refine ev_call (d := 1989) (vs := [.ref 127, .int (xs (5 * i + 1)), .int (xs (5 * i + 2))]) (rest := [.int v]) (q := q_X12_years) hc_L (Or.inr rfl) (x := 277) (y := 12) rfl ms_277 rfl rfl (Nat.le_of_ble_eq_true rfl) (kO_recv (K_X12_years e2)) (E_X12_years e2 (by omega)) rfl ?_
  show Ev xs N 1990 287 1617 [.ref ci_scr, .ref 0, .ref 127, .ref 148, .int (nI (5 * i)), ci_junk, ci_junk, ci_junk] [.int v, .int v] (hp κ μ2) nx r
  refine ev_bt hc_L (pc := 1617) rfl rfl rfl ?_
  exact kk
set_option maxRecDepth 20000 in
theorem lc_keep {xs : Nat → Int32} {N i B : Nat} {κ : Kp} {μ : Mem} {nx : ci_N} (hN : N ≤ 2560) (hi : 5 * i + 5 ≤ N) (hR : Ref0 κ) (hB : B ≤ 1000000) (hI : Inv B μ) : LC xs N i B κ μ nx 1622 := by
  obtain ⟨v, μ1, μ2, e1, e2, hI2⟩ := pr_keep (xs (5 * i + 1)) κ B μ hR hB hI
  refine ⟨μ2, nx, hI2, by omega, by omega, fun r kk => ?_⟩
  refine ev_go hc_L (k := 1) (pc' := 1623) (L' := [.ref ci_scr, .ref 0, .ref 127, .ref 148, .int (nI (5 * i)), ci_junk, ci_junk, ci_junk]) (S' := [.ref 0]) rfl ?_
  refine ev_go hc_L (k := 4) (pc' := 1628) (L' := [.ref ci_scr, .ref 0, .ref 127, .ref 148, .int (nI (5 * i)), ci_junk, ci_junk, ci_junk]) (S' := [.int (nI (5 * i) + 1), .ref ci_scr, .ref 0]) rfl ?_
  refine ev_4 hc_L (i := .iaload) (len := 1) (S' := [.int (xs (5 * i + 1)), .ref 0]) rfl (law_rd (m := 1) (by decide) hN hi) ?_
  refine ev_call (d := 1989) (vs := [.ref 0, .int (xs (5 * i + 1))]) (rest := []) (q := q_X11_keep) hc_L (Or.inr rfl) (x := 140) (y := 11) rfl ms_140 rfl rfl (Nat.le_of_ble_eq_true rfl) (kO_recv (K_X11_keep e1)) (E_X11_keep e1 (by omega)) rfl ?_
  show Ev xs N 1990 287 1632 [.ref ci_scr, .ref 0, .ref 127, .ref 148, .int (nI (5 * i)), ci_junk, ci_junk, ci_junk] [.int v] (hp κ μ1) nx r
  refine ev_go hc_L (k := 1) (pc' := 1633) (L' := [.ref ci_scr, .ref 0, .ref 127, .ref 148, .int (nI (5 * i)), ci_junk, ci_junk, ci_junk]) (S' := [.ref 127, .int v]) rfl ?_
  refine ev_go hc_L (k := 4) (pc' := 1638) (L' := [.ref ci_scr, .ref 0, .ref 127, .ref 148, .int (nI (5 * i)), ci_junk, ci_junk, ci_junk]) (S' := [.int (nI (5 * i) + 1), .ref ci_scr, .ref 127, .int v]) rfl ?_
  refine ev_4 hc_L (i := .iaload) (len := 1) (S' := [.int (xs (5 * i + 1)), .ref 127, .int v]) rfl (law_rd (m := 1) (by decide) hN hi) ?_
  refine ev_call (d := 1989) (vs := [.ref 127, .int (xs (5 * i + 1))]) (rest := [.int v]) (q := q_X12_keep) hc_L (Or.inr rfl) (x := 278) (y := 12) rfl ms_278 rfl rfl (Nat.le_of_ble_eq_true rfl) (kO_recv (K_X12_keep e2)) (E_X12_keep e2 (by omega)) rfl ?_
  show Ev xs N 1990 287 1642 [.ref ci_scr, .ref 0, .ref 127, .ref 148, .int (nI (5 * i)), ci_junk, ci_junk, ci_junk] [.int v, .int v] (hp κ μ2) nx r
  refine ev_bt hc_L (pc := 1642) rfl rfl rfl ?_
  exact kk
set_option maxRecDepth 20000 in
theorem lc_again {xs : Nat → Int32} {N i B : Nat} {κ : Kp} {μ : Mem} {nx : ci_N} (hN : N ≤ 2560) (hi : 5 * i + 5 ≤ N) (hR : Ref0 κ) (hB : B ≤ 1000000) (hI : Inv B μ) : LC xs N i B κ μ nx 1647 := by
  obtain ⟨v, μ1, μ2, e1, e2, hI2⟩ := pr_again (xs (5 * i + 1)) κ B μ hR hB hI
  refine ⟨μ2, nx, hI2, by omega, by omega, fun r kk => ?_⟩
  refine ev_go hc_L (k := 1) (pc' := 1648) (L' := [.ref ci_scr, .ref 0, .ref 127, .ref 148, .int (nI (5 * i)), ci_junk, ci_junk, ci_junk]) (S' := [.ref 0]) rfl ?_
  refine ev_go hc_L (k := 4) (pc' := 1653) (L' := [.ref ci_scr, .ref 0, .ref 127, .ref 148, .int (nI (5 * i)), ci_junk, ci_junk, ci_junk]) (S' := [.int (nI (5 * i) + 1), .ref ci_scr, .ref 0]) rfl ?_
  refine ev_4 hc_L (i := .iaload) (len := 1) (S' := [.int (xs (5 * i + 1)), .ref 0]) rfl (law_rd (m := 1) (by decide) hN hi) ?_
  refine ev_call (d := 1989) (vs := [.ref 0, .int (xs (5 * i + 1))]) (rest := []) (q := q_X11_again) hc_L (Or.inr rfl) (x := 141) (y := 11) rfl ms_141 rfl rfl (Nat.le_of_ble_eq_true rfl) (kO_recv (K_X11_again e1)) (E_X11_again e1 (by omega)) rfl ?_
  show Ev xs N 1990 287 1657 [.ref ci_scr, .ref 0, .ref 127, .ref 148, .int (nI (5 * i)), ci_junk, ci_junk, ci_junk] [.int v] (hp κ μ1) nx r
  refine ev_go hc_L (k := 1) (pc' := 1658) (L' := [.ref ci_scr, .ref 0, .ref 127, .ref 148, .int (nI (5 * i)), ci_junk, ci_junk, ci_junk]) (S' := [.ref 127, .int v]) rfl ?_
  refine ev_go hc_L (k := 4) (pc' := 1663) (L' := [.ref ci_scr, .ref 0, .ref 127, .ref 148, .int (nI (5 * i)), ci_junk, ci_junk, ci_junk]) (S' := [.int (nI (5 * i) + 1), .ref ci_scr, .ref 127, .int v]) rfl ?_
  refine ev_4 hc_L (i := .iaload) (len := 1) (S' := [.int (xs (5 * i + 1)), .ref 127, .int v]) rfl (law_rd (m := 1) (by decide) hN hi) ?_
  refine ev_call (d := 1989) (vs := [.ref 127, .int (xs (5 * i + 1))]) (rest := [.int v]) (q := q_X12_again) hc_L (Or.inr rfl) (x := 279) (y := 12) rfl ms_279 rfl rfl (Nat.le_of_ble_eq_true rfl) (kO_recv (K_X12_again e2)) (E_X12_again e2 (by omega)) rfl ?_
  show Ev xs N 1990 287 1667 [.ref ci_scr, .ref 0, .ref 127, .ref 148, .int (nI (5 * i)), ci_junk, ci_junk, ci_junk] [.int v, .int v] (hp κ μ2) nx r
  refine ev_bt hc_L (pc := 1667) rfl rfl rfl ?_
  exact kk
set_option maxRecDepth 20000 in
theorem lc_count {xs : Nat → Int32} {N i B : Nat} {κ : Kp} {μ : Mem} {nx : ci_N} (hN : N ≤ 2560) (hi : 5 * i + 5 ≤ N) (hR : Ref0 κ) (hB : B ≤ 1000000) (hI : Inv B μ) : LC xs N i B κ μ nx 1672 := by
  obtain ⟨v, μ1, μ2, e1, e2, hI2⟩ := pr_count (xs (5 * i + 1)) κ B μ hR hB hI
  refine ⟨μ2, nx, hI2, by omega, by omega, fun r kk => ?_⟩
  refine ev_go hc_L (k := 1) (pc' := 1673) (L' := [.ref ci_scr, .ref 0, .ref 127, .ref 148, .int (nI (5 * i)), ci_junk, ci_junk, ci_junk]) (S' := [.ref 0]) rfl ?_
  refine ev_go hc_L (k := 4) (pc' := 1678) (L' := [.ref ci_scr, .ref 0, .ref 127, .ref 148, .int (nI (5 * i)), ci_junk, ci_junk, ci_junk]) (S' := [.int (nI (5 * i) + 1), .ref ci_scr, .ref 0]) rfl ?_
  refine ev_4 hc_L (i := .iaload) (len := 1) (S' := [.int (xs (5 * i + 1)), .ref 0]) rfl (law_rd (m := 1) (by decide) hN hi) ?_
  refine ev_call (d := 1989) (vs := [.ref 0, .int (xs (5 * i + 1))]) (rest := []) (q := q_X11_count) hc_L (Or.inr rfl) (x := 142) (y := 11) rfl ms_142 rfl rfl (Nat.le_of_ble_eq_true rfl) (kO_recv (K_X11_count e1)) (E_X11_count e1 (by omega)) rfl ?_
  show Ev xs N 1990 287 1682 [.ref ci_scr, .ref 0, .ref 127, .ref 148, .int (nI (5 * i)), ci_junk, ci_junk, ci_junk] [.int v] (hp κ μ1) nx r
  refine ev_go hc_L (k := 1) (pc' := 1683) (L' := [.ref ci_scr, .ref 0, .ref 127, .ref 148, .int (nI (5 * i)), ci_junk, ci_junk, ci_junk]) (S' := [.ref 127, .int v]) rfl ?_
  refine ev_go hc_L (k := 4) (pc' := 1688) (L' := [.ref ci_scr, .ref 0, .ref 127, .ref 148, .int (nI (5 * i)), ci_junk, ci_junk, ci_junk]) (S' := [.int (nI (5 * i) + 1), .ref ci_scr, .ref 127, .int v]) rfl ?_
  refine ev_4 hc_L (i := .iaload) (len := 1) (S' := [.int (xs (5 * i + 1)), .ref 127, .int v]) rfl (law_rd (m := 1) (by decide) hN hi) ?_
  refine ev_call (d := 1989) (vs := [.ref 127, .int (xs (5 * i + 1))]) (rest := [.int v]) (q := q_X12_count) hc_L (Or.inr rfl) (x := 280) (y := 12) rfl ms_280 rfl rfl (Nat.le_of_ble_eq_true rfl) (kO_recv (K_X12_count e2)) (E_X12_count e2 (by omega)) rfl ?_
  show Ev xs N 1990 287 1692 [.ref ci_scr, .ref 0, .ref 127, .ref 148, .int (nI (5 * i)), ci_junk, ci_junk, ci_junk] [.int v, .int v] (hp κ μ2) nx r
  refine ev_bt hc_L (pc := 1692) rfl rfl rfl ?_
  exact kk
set_option maxRecDepth 20000 in
theorem lc_row {xs : Nat → Int32} {N i B : Nat} {κ : Kp} {μ : Mem} {nx : ci_N} (hN : N ≤ 2560) (hi : 5 * i + 5 ≤ N) (hR : Ref0 κ) (hB : B ≤ 1000000) (hI : Inv B μ) : LC xs N i B κ μ nx 1697 := by
  obtain ⟨ov, v0, ν0, e1, -⟩ := pr_row (xs (5 * i + 1)) κ B μ μ hR hB hI rfl (fun _ _ => rfl)
  have e1 : F_X11_row 0 (xs (5 * i + 1)) (hp κ μ) = some (ov, hp κ μ) := e1
  cases ov with
  | none =>
    obtain ⟨ov, b, ν2, e1', e2, h1, h2, h3, hI2⟩ := pr_row (xs (5 * i + 1)) κ B μ μ hR hB hI rfl (fun _ _ => rfl)
    have e1' : F_X11_row 0 (xs (5 * i + 1)) (hp κ μ) = some (ov, hp κ μ) := e1'
    have e2 : F_X12_row 127 (xs (5 * i + 1)) (hp κ μ) = some (b, hp κ ν2) := e2
    rw [e1] at e1'
    have eo : ov = none := (Prod.mk.inj (Option.some.inj e1')).1.symm
    rw [eo] at h1
    have et : F_X12_thrown 127 (hp κ ν2) = some (1, hp κ ν2) := y_thrown h1
    refine ⟨ν2, (nx.1, nx.2.1 + 1, nx.2.2 + 6), hI2, by show nx.2.1 + 1 ≤ _; omega, by show nx.2.2 + 6 ≤ _; omega, fun r kk => ?_⟩
    refine ev_go hc_L (k := 1) (pc' := 1698) (L' := [.ref ci_scr, .ref 0, .ref 127, .ref 148, .int (nI (5 * i)), ci_junk, ci_junk, ci_junk]) (S' := [.ref 0]) rfl ?_
    refine ev_go hc_L (k := 4) (pc' := 1703) (L' := [.ref ci_scr, .ref 0, .ref 127, .ref 148, .int (nI (5 * i)), ci_junk, ci_junk, ci_junk]) (S' := [.int (nI (5 * i) + 1), .ref ci_scr, .ref 0]) rfl ?_
    refine ev_4 hc_L (i := .iaload) (len := 1) (S' := [.int (xs (5 * i + 1)), .ref 0]) rfl (law_rd (m := 1) (by decide) hN hi) ?_
    refine ev_go hc_L (k := 1) (pc' := 1705) (L' := [.ref ci_scr, .ref 0, .ref 127, .ref 148, .int (nI (5 * i)), ci_junk, ci_junk, ci_junk]) (S' := [.ref 148, .int (xs (5 * i + 1)), .ref 0]) rfl ?_
    refine ev_14 (d := 1988) (vs := [.ref 0, .int (xs (5 * i + 1))]) (rest := []) (q := q_X11_row) (o := 148) hc_L (x := 143) (y := 11) rfl ms_143 rfl rfl (Nat.le_of_ble_eq_true rfl) (kO_recv (K_X11_row e1)) rfl (E_X11_row e1 (by omega)) rfl ?_
    show Ev xs N 1990 287 1708 [.ref ci_scr, .ref 0, .ref 127, .ref 148, .int (nI (5 * i)), ci_junk, ci_junk, ci_junk] [.int 1] (hp κ μ) (nx.1, nx.2.1 + 1, nx.2.2 + 6) r
    refine ev_go hc_L (k := 2) (pc' := 1711) (L' := [.ref ci_scr, .ref 0, .ref 127, .ref 148, .int (nI (5 * i)), .int 1, ci_junk, ci_junk]) (S' := [.ref 127]) rfl ?_
    refine ev_go hc_L (k := 4) (pc' := 1716) (L' := [.ref ci_scr, .ref 0, .ref 127, .ref 148, .int (nI (5 * i)), .int 1, ci_junk, ci_junk]) (S' := [.int (nI (5 * i) + 1), .ref ci_scr, .ref 127]) rfl ?_
    refine ev_4 hc_L (i := .iaload) (len := 1) (S' := [.int (xs (5 * i + 1)), .ref 127]) rfl (law_rd (m := 1) (by decide) hN hi) ?_
    refine ev_call (d := 1989) (vs := [.ref 127, .int (xs (5 * i + 1))]) (rest := []) (q := q_X12_row) hc_L (Or.inr rfl) (x := 281) (y := 12) rfl ms_281 rfl rfl (Nat.le_of_ble_eq_true rfl) (kO_recv (K_X12_row e2)) (E_X12_row e2 (by omega)) rfl ?_
    show Ev xs N 1990 287 1720 [.ref ci_scr, .ref 0, .ref 127, .ref 148, .int (nI (5 * i)), .int 1, ci_junk, ci_junk] [.long b] (hp κ ν2) (nx.1, nx.2.1 + 1, nx.2.2 + 6) r
    refine ev_go hc_L (k := 2) (pc' := 1723) (L' := [.ref ci_scr, .ref 0, .ref 127, .ref 148, .int (nI (5 * i)), .int 1, .long b, ci_junk]) (S' := [.ref 127]) rfl ?_
    refine ev_call (d := 1989) (vs := [.ref 127]) (rest := []) (q := q_X12_thrown) hc_L (Or.inr rfl) (x := 169) (y := 12) rfl ms_169 rfl rfl (Nat.le_of_ble_eq_true rfl) (kO_recv (K_X12_thrown et)) (E_X12_thrown et (by omega)) rfl ?_
    show Ev xs N 1990 287 1726 [.ref ci_scr, .ref 0, .ref 127, .ref 148, .int (nI (5 * i)), .int 1, .long b, ci_junk] [.int 1] (hp κ ν2) (nx.1, nx.2.1 + 1, nx.2.2 + 6) r
    refine ev_go hc_L (k := 1) (pc' := 1728) (L' := [.ref ci_scr, .ref 0, .ref 127, .ref 148, .int (nI (5 * i)), .int 1, .long b, ci_junk]) (S' := [.int 1, .int 1]) rfl ?_
    refine ev_bt hc_L (pc := 1728) rfl rfl rfl ?_
    refine ev_go hc_L (k := 1) (pc' := 1735) (L' := [.ref ci_scr, .ref 0, .ref 127, .ref 148, .int (nI (5 * i)), .int 1, .long b, ci_junk]) (S' := [.int 1]) rfl ?_
    refine ev_bf hc_L (pc := 1735) rfl rfl (show ¬ (1 : Int32) = 0 by decide) ?_
    refine ev_go hc_L (k := 1) (pc' := 1752) (L' := [.ref ci_scr, .ref 0, .ref 127, .ref 148, .int (nI (5 * i)), .int 1, .long b, ci_junk]) (S' := []) rfl ?_
    exact ev_weak (law_le _ _) kk
  | some u =>
    obtain ⟨ov, b, ν2, e1', e2, h1, h2, h3, hI2⟩ := pr_row (xs (5 * i + 1)) κ B μ (upL μ 148 0 (u)) hR hB hI rfl (fun a ha => rowL_n ha)
    have e1' : F_X11_row 0 (xs (5 * i + 1)) (hp κ μ) = some (ov, hp κ μ) := e1'
    have e2 : F_X12_row 127 (xs (5 * i + 1)) (hp κ (upL μ 148 0 (u))) = some (b, hp κ ν2) := e2
    rw [e1] at e1'
    have eo : ov = some u := (Prod.mk.inj (Option.some.inj e1')).1.symm
    rw [eo] at h1
    have hb := h2 u eo
    have et : F_X12_thrown 127 (hp κ ν2) = some (0, hp κ ν2) := y_thrown h1
    have hout : ν2.2 148 0 = u := by rw [h3, rowL_s, pk_uLs]
    refine ⟨ν2, nx, hI2, by omega, by omega, fun r kk => ?_⟩
    refine ev_go hc_L (k := 1) (pc' := 1698) (L' := [.ref ci_scr, .ref 0, .ref 127, .ref 148, .int (nI (5 * i)), ci_junk, ci_junk, ci_junk]) (S' := [.ref 0]) rfl ?_
    refine ev_go hc_L (k := 4) (pc' := 1703) (L' := [.ref ci_scr, .ref 0, .ref 127, .ref 148, .int (nI (5 * i)), ci_junk, ci_junk, ci_junk]) (S' := [.int (nI (5 * i) + 1), .ref ci_scr, .ref 0]) rfl ?_
    refine ev_4 hc_L (i := .iaload) (len := 1) (S' := [.int (xs (5 * i + 1)), .ref 0]) rfl (law_rd (m := 1) (by decide) hN hi) ?_
    refine ev_go hc_L (k := 1) (pc' := 1705) (L' := [.ref ci_scr, .ref 0, .ref 127, .ref 148, .int (nI (5 * i)), ci_junk, ci_junk, ci_junk]) (S' := [.ref 148, .int (xs (5 * i + 1)), .ref 0]) rfl ?_
    refine ev_14 (d := 1988) (vs := [.ref 0, .int (xs (5 * i + 1))]) (rest := []) (q := q_X11_row) (o := 148) hc_L (x := 143) (y := 11) rfl ms_143 rfl rfl (Nat.le_of_ble_eq_true rfl) (kO_recv (K_X11_row e1)) rfl (E_X11_row e1 (by omega)) (law_catU u) ?_
    show Ev xs N 1990 287 1708 [.ref ci_scr, .ref 0, .ref 127, .ref 148, .int (nI (5 * i)), ci_junk, ci_junk, ci_junk] [.int 0] (hp κ (upL μ 148 0 (u))) nx r
    refine ev_go hc_L (k := 2) (pc' := 1711) (L' := [.ref ci_scr, .ref 0, .ref 127, .ref 148, .int (nI (5 * i)), .int 0, ci_junk, ci_junk]) (S' := [.ref 127]) rfl ?_
    refine ev_go hc_L (k := 4) (pc' := 1716) (L' := [.ref ci_scr, .ref 0, .ref 127, .ref 148, .int (nI (5 * i)), .int 0, ci_junk, ci_junk]) (S' := [.int (nI (5 * i) + 1), .ref ci_scr, .ref 127]) rfl ?_
    refine ev_4 hc_L (i := .iaload) (len := 1) (S' := [.int (xs (5 * i + 1)), .ref 127]) rfl (law_rd (m := 1) (by decide) hN hi) ?_
    refine ev_call (d := 1989) (vs := [.ref 127, .int (xs (5 * i + 1))]) (rest := []) (q := q_X12_row) hc_L (Or.inr rfl) (x := 281) (y := 12) rfl ms_281 rfl rfl (Nat.le_of_ble_eq_true rfl) (kO_recv (K_X12_row e2)) (E_X12_row e2 (by omega)) rfl ?_
    show Ev xs N 1990 287 1720 [.ref ci_scr, .ref 0, .ref 127, .ref 148, .int (nI (5 * i)), .int 0, ci_junk, ci_junk] [.long b] (hp κ ν2) nx r
    refine ev_go hc_L (k := 2) (pc' := 1723) (L' := [.ref ci_scr, .ref 0, .ref 127, .ref 148, .int (nI (5 * i)), .int 0, .long b, ci_junk]) (S' := [.ref 127]) rfl ?_
    refine ev_call (d := 1989) (vs := [.ref 127]) (rest := []) (q := q_X12_thrown) hc_L (Or.inr rfl) (x := 169) (y := 12) rfl ms_169 rfl rfl (Nat.le_of_ble_eq_true rfl) (kO_recv (K_X12_thrown et)) (E_X12_thrown et (by omega)) rfl ?_
    show Ev xs N 1990 287 1726 [.ref ci_scr, .ref 0, .ref 127, .ref 148, .int (nI (5 * i)), .int 0, .long b, ci_junk] [.int 0] (hp κ ν2) nx r
    refine ev_go hc_L (k := 1) (pc' := 1728) (L' := [.ref ci_scr, .ref 0, .ref 127, .ref 148, .int (nI (5 * i)), .int 0, .long b, ci_junk]) (S' := [.int 0, .int 0]) rfl ?_
    refine ev_bt hc_L (pc := 1728) rfl rfl rfl ?_
    refine ev_go hc_L (k := 1) (pc' := 1735) (L' := [.ref ci_scr, .ref 0, .ref 127, .ref 148, .int (nI (5 * i)), .int 0, .long b, ci_junk]) (S' := [.int 0]) rfl ?_
    refine ev_bt hc_L (pc := 1735) rfl rfl (show (0 : Int32) = 0 from rfl) ?_
    refine ev_go hc_L (k := 2) (pc' := 1740) (L' := [.ref ci_scr, .ref 0, .ref 127, .ref 148, .int (nI (5 * i)), .int 0, .long b, ci_junk]) (S' := [.int 0, .ref 148]) rfl ?_
    refine ev_4 hc_L (i := .laload) (len := 1) (S' := [.long (ν2.2 148 0)]) rfl law_out ?_
    refine ev_go hc_L (k := 2) (pc' := 1744) (L' := [.ref ci_scr, .ref 0, .ref 127, .ref 148, .int (nI (5 * i)), .int 0, .long b, ci_junk]) (S' := [.int (lg_cmp (ν2.2 148 0) b)]) rfl ?_
    refine ev_bt hc_L (pc := 1744) rfl rfl ((cmp_0 _ _).mpr (by rw [hout, hb])) ?_
    refine ev_go hc_L (k := 1) (pc' := 1752) (L' := [.ref ci_scr, .ref 0, .ref 127, .ref 148, .int (nI (5 * i)), .int 0, .long b, ci_junk]) (S' := []) rfl ?_
    exact ev_weak (law_le _ _) kk
