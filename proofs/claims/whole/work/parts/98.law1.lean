/-! PURE: the law's loop, calls. -/
set_option maxRecDepth 20000 in
theorem lc_sign {xs : Nat → Int32} {N i B : Nat} {κ : Kp} {μ : Mem} {nx : ci_N} (hN : N ≤ 2560) (hi : 5 * i + 5 ≤ N) (hR : Ref0 κ) (hB : B ≤ 1000000) (hI : Inv B μ) : LC xs N i B κ μ nx 248 := by
  obtain ⟨v, μ1, μ2, e1, e2, hI2⟩ := pr_sign (xs (5 * i + 1)) κ B μ hR hB hI
  refine ⟨μ2, nx, hI2, by omega, by omega, fun r kk => ?_⟩
  refine ev_go hc_L (k := 1) (pc' := 249) (L' := [.ref ci_scr, .ref 0, .ref 127, .ref 148, .int (nI (5 * i)), ci_junk, ci_junk, ci_junk]) (S' := [.ref 0]) rfl ?_
  refine ev_go hc_L (k := 4) (pc' := 254) (L' := [.ref ci_scr, .ref 0, .ref 127, .ref 148, .int (nI (5 * i)), ci_junk, ci_junk, ci_junk]) (S' := [.int (nI (5 * i) + 1), .ref ci_scr, .ref 0]) rfl ?_
  refine ev_4 hc_L (i := .iaload) (len := 1) (S' := [.int (xs (5 * i + 1)), .ref 0]) rfl (law_rd (m := 1) (by decide) hN hi) ?_
  refine ev_call (d := 1989) (vs := [.ref 0, .int (xs (5 * i + 1))]) (rest := []) (q := q_X11_sign) hc_L (Or.inr rfl) (x := 95) (y := 11) rfl ms_95 rfl rfl (Nat.le_of_ble_eq_true rfl) (kO_recv (K_X11_sign e1)) (E_X11_sign e1 (by omega)) rfl ?_
  show Ev xs N 1990 287 258 [.ref ci_scr, .ref 0, .ref 127, .ref 148, .int (nI (5 * i)), ci_junk, ci_junk, ci_junk] [.int v] (hp κ μ1) nx r
  refine ev_go hc_L (k := 1) (pc' := 259) (L' := [.ref ci_scr, .ref 0, .ref 127, .ref 148, .int (nI (5 * i)), ci_junk, ci_junk, ci_junk]) (S' := [.ref 127, .int v]) rfl ?_
  refine ev_go hc_L (k := 4) (pc' := 264) (L' := [.ref ci_scr, .ref 0, .ref 127, .ref 148, .int (nI (5 * i)), ci_junk, ci_junk, ci_junk]) (S' := [.int (nI (5 * i) + 1), .ref ci_scr, .ref 127, .int v]) rfl ?_
  refine ev_4 hc_L (i := .iaload) (len := 1) (S' := [.int (xs (5 * i + 1)), .ref 127, .int v]) rfl (law_rd (m := 1) (by decide) hN hi) ?_
  refine ev_call (d := 1989) (vs := [.ref 127, .int (xs (5 * i + 1))]) (rest := [.int v]) (q := q_X12_sign) hc_L (Or.inr rfl) (x := 178) (y := 12) rfl ms_178 rfl rfl (Nat.le_of_ble_eq_true rfl) (kO_recv (K_X12_sign e2)) (E_X12_sign e2 (by omega)) rfl ?_
  show Ev xs N 1990 287 268 [.ref ci_scr, .ref 0, .ref 127, .ref 148, .int (nI (5 * i)), ci_junk, ci_junk, ci_junk] [.int v, .int v] (hp κ μ2) nx r
  refine ev_bt hc_L (pc := 268) rfl rfl rfl ?_
  exact kk
set_option maxRecDepth 20000 in
theorem lc_end {xs : Nat → Int32} {N i B : Nat} {κ : Kp} {μ : Mem} {nx : ci_N} (hN : N ≤ 2560) (hi : 5 * i + 5 ≤ N) (hR : Ref0 κ) (hB : B ≤ 1000000) (hI : Inv B μ) : LC xs N i B κ μ nx 273 := by
  obtain ⟨v, μ1, μ2, e1, e2, hI2⟩ := pr_end (xs (5 * i + 1)) κ B μ hR hB hI
  refine ⟨μ2, nx, hI2, by omega, by omega, fun r kk => ?_⟩
  refine ev_go hc_L (k := 1) (pc' := 274) (L' := [.ref ci_scr, .ref 0, .ref 127, .ref 148, .int (nI (5 * i)), ci_junk, ci_junk, ci_junk]) (S' := [.ref 0]) rfl ?_
  refine ev_go hc_L (k := 4) (pc' := 279) (L' := [.ref ci_scr, .ref 0, .ref 127, .ref 148, .int (nI (5 * i)), ci_junk, ci_junk, ci_junk]) (S' := [.int (nI (5 * i) + 1), .ref ci_scr, .ref 0]) rfl ?_
  refine ev_4 hc_L (i := .iaload) (len := 1) (S' := [.int (xs (5 * i + 1)), .ref 0]) rfl (law_rd (m := 1) (by decide) hN hi) ?_
  refine ev_call (d := 1989) (vs := [.ref 0, .int (xs (5 * i + 1))]) (rest := []) (q := q_X11_end) hc_L (Or.inr rfl) (x := 96) (y := 11) rfl ms_96 rfl rfl (Nat.le_of_ble_eq_true rfl) (kO_recv (K_X11_end e1)) (E_X11_end e1 (by omega)) rfl ?_
  show Ev xs N 1990 287 283 [.ref ci_scr, .ref 0, .ref 127, .ref 148, .int (nI (5 * i)), ci_junk, ci_junk, ci_junk] [.int v] (hp κ μ1) nx r
  refine ev_go hc_L (k := 1) (pc' := 284) (L' := [.ref ci_scr, .ref 0, .ref 127, .ref 148, .int (nI (5 * i)), ci_junk, ci_junk, ci_junk]) (S' := [.ref 127, .int v]) rfl ?_
  refine ev_go hc_L (k := 4) (pc' := 289) (L' := [.ref ci_scr, .ref 0, .ref 127, .ref 148, .int (nI (5 * i)), ci_junk, ci_junk, ci_junk]) (S' := [.int (nI (5 * i) + 1), .ref ci_scr, .ref 127, .int v]) rfl ?_
  refine ev_4 hc_L (i := .iaload) (len := 1) (S' := [.int (xs (5 * i + 1)), .ref 127, .int v]) rfl (law_rd (m := 1) (by decide) hN hi) ?_
  refine ev_call (d := 1989) (vs := [.ref 127, .int (xs (5 * i + 1))]) (rest := [.int v]) (q := q_X12_end) hc_L (Or.inr rfl) (x := 179) (y := 12) rfl ms_179 rfl rfl (Nat.le_of_ble_eq_true rfl) (kO_recv (K_X12_end e2)) (E_X12_end e2 (by omega)) rfl ?_
  show Ev xs N 1990 287 293 [.ref ci_scr, .ref 0, .ref 127, .ref 148, .int (nI (5 * i)), ci_junk, ci_junk, ci_junk] [.int v, .int v] (hp κ μ2) nx r
  refine ev_bt hc_L (pc := 293) rfl rfl rfl ?_
  exact kk
set_option maxRecDepth 20000 in
theorem lc_houses {xs : Nat → Int32} {N i B : Nat} {κ : Kp} {μ : Mem} {nx : ci_N} (hN : N ≤ 2560) (hi : 5 * i + 5 ≤ N) (hR : Ref0 κ) (hB : B ≤ 1000000) (hI : Inv B μ) : LC xs N i B κ μ nx 298 := by
  obtain ⟨v, μ1, μ2, e1, e2, hI2⟩ := pr_houses (xs (5 * i + 1)) κ B μ hR hB hI
  refine ⟨μ2, nx, hI2, by omega, by omega, fun r kk => ?_⟩
  refine ev_go hc_L (k := 1) (pc' := 299) (L' := [.ref ci_scr, .ref 0, .ref 127, .ref 148, .int (nI (5 * i)), ci_junk, ci_junk, ci_junk]) (S' := [.ref 0]) rfl ?_
  refine ev_go hc_L (k := 4) (pc' := 304) (L' := [.ref ci_scr, .ref 0, .ref 127, .ref 148, .int (nI (5 * i)), ci_junk, ci_junk, ci_junk]) (S' := [.int (nI (5 * i) + 1), .ref ci_scr, .ref 0]) rfl ?_
  refine ev_4 hc_L (i := .iaload) (len := 1) (S' := [.int (xs (5 * i + 1)), .ref 0]) rfl (law_rd (m := 1) (by decide) hN hi) ?_
  refine ev_call (d := 1989) (vs := [.ref 0, .int (xs (5 * i + 1))]) (rest := []) (q := q_X11_houses) hc_L (Or.inr rfl) (x := 97) (y := 11) rfl ms_97 rfl rfl (Nat.le_of_ble_eq_true rfl) (kO_recv (K_X11_houses e1)) (E_X11_houses e1 (by omega)) rfl ?_
  show Ev xs N 1990 287 308 [.ref ci_scr, .ref 0, .ref 127, .ref 148, .int (nI (5 * i)), ci_junk, ci_junk, ci_junk] [.int v] (hp κ μ1) nx r
  refine ev_go hc_L (k := 1) (pc' := 309) (L' := [.ref ci_scr, .ref 0, .ref 127, .ref 148, .int (nI (5 * i)), ci_junk, ci_junk, ci_junk]) (S' := [.ref 127, .int v]) rfl ?_
  refine ev_go hc_L (k := 4) (pc' := 314) (L' := [.ref ci_scr, .ref 0, .ref 127, .ref 148, .int (nI (5 * i)), ci_junk, ci_junk, ci_junk]) (S' := [.int (nI (5 * i) + 1), .ref ci_scr, .ref 127, .int v]) rfl ?_
  refine ev_4 hc_L (i := .iaload) (len := 1) (S' := [.int (xs (5 * i + 1)), .ref 127, .int v]) rfl (law_rd (m := 1) (by decide) hN hi) ?_
  refine ev_call (d := 1989) (vs := [.ref 127, .int (xs (5 * i + 1))]) (rest := [.int v]) (q := q_X12_houses) hc_L (Or.inr rfl) (x := 191) (y := 12) rfl ms_191 rfl rfl (Nat.le_of_ble_eq_true rfl) (kO_recv (K_X12_houses e2)) (E_X12_houses e2 (by omega)) rfl ?_
  show Ev xs N 1990 287 318 [.ref ci_scr, .ref 0, .ref 127, .ref 148, .int (nI (5 * i)), ci_junk, ci_junk, ci_junk] [.int v, .int v] (hp κ μ2) nx r
  refine ev_bt hc_L (pc := 318) rfl rfl rfl ?_
  exact kk
set_option maxRecDepth 20000 in
theorem lc_things {xs : Nat → Int32} {N i B : Nat} {κ : Kp} {μ : Mem} {nx : ci_N} (hN : N ≤ 2560) (hi : 5 * i + 5 ≤ N) (hR : Ref0 κ) (hB : B ≤ 1000000) (hI : Inv B μ) : LC xs N i B κ μ nx 323 := by
  obtain ⟨v, μ1, μ2, e1, e2, hI2⟩ := pr_things κ B μ hR hB hI
  refine ⟨μ2, nx, hI2, by omega, by omega, fun r kk => ?_⟩
  refine ev_go hc_L (k := 1) (pc' := 324) (L' := [.ref ci_scr, .ref 0, .ref 127, .ref 148, .int (nI (5 * i)), ci_junk, ci_junk, ci_junk]) (S' := [.ref 0]) rfl ?_
  refine ev_call (d := 1989) (vs := [.ref 0]) (rest := []) (q := q_X11_things) hc_L (Or.inr rfl) (x := 98) (y := 11) rfl ms_98 rfl rfl (Nat.le_of_ble_eq_true rfl) (kO_recv (K_X11_things e1)) (E_X11_things e1 (by omega)) rfl ?_
  show Ev xs N 1990 287 327 [.ref ci_scr, .ref 0, .ref 127, .ref 148, .int (nI (5 * i)), ci_junk, ci_junk, ci_junk] [.int v] (hp κ μ1) nx r
  refine ev_go hc_L (k := 1) (pc' := 328) (L' := [.ref ci_scr, .ref 0, .ref 127, .ref 148, .int (nI (5 * i)), ci_junk, ci_junk, ci_junk]) (S' := [.ref 127, .int v]) rfl ?_
  refine ev_call (d := 1989) (vs := [.ref 127]) (rest := [.int v]) (q := q_X12_things) hc_L (Or.inr rfl) (x := 192) (y := 12) rfl ms_192 rfl rfl (Nat.le_of_ble_eq_true rfl) (kO_recv (K_X12_things e2)) (E_X12_things e2 (by omega)) rfl ?_
  show Ev xs N 1990 287 331 [.ref ci_scr, .ref 0, .ref 127, .ref 148, .int (nI (5 * i)), ci_junk, ci_junk, ci_junk] [.int v, .int v] (hp κ μ2) nx r
  refine ev_bt hc_L (pc := 331) rfl rfl rfl ?_
  exact kk
set_option maxRecDepth 20000 in
theorem lc_kinds {xs : Nat → Int32} {N i B : Nat} {κ : Kp} {μ : Mem} {nx : ci_N} (hN : N ≤ 2560) (hi : 5 * i + 5 ≤ N) (hR : Ref0 κ) (hB : B ≤ 1000000) (hI : Inv B μ) : LC xs N i B κ μ nx 336 := by
  obtain ⟨v, μ1, μ2, e1, e2, hI2⟩ := pr_kinds κ B μ hR hB hI
  refine ⟨μ2, nx, hI2, by omega, by omega, fun r kk => ?_⟩
  refine ev_go hc_L (k := 1) (pc' := 337) (L' := [.ref ci_scr, .ref 0, .ref 127, .ref 148, .int (nI (5 * i)), ci_junk, ci_junk, ci_junk]) (S' := [.ref 0]) rfl ?_
  refine ev_call (d := 1989) (vs := [.ref 0]) (rest := []) (q := q_X11_kinds) hc_L (Or.inr rfl) (x := 99) (y := 11) rfl ms_99 rfl rfl (Nat.le_of_ble_eq_true rfl) (kO_recv (K_X11_kinds e1)) (E_X11_kinds e1 (by omega)) rfl ?_
  show Ev xs N 1990 287 340 [.ref ci_scr, .ref 0, .ref 127, .ref 148, .int (nI (5 * i)), ci_junk, ci_junk, ci_junk] [.int v] (hp κ μ1) nx r
  refine ev_go hc_L (k := 1) (pc' := 341) (L' := [.ref ci_scr, .ref 0, .ref 127, .ref 148, .int (nI (5 * i)), ci_junk, ci_junk, ci_junk]) (S' := [.ref 127, .int v]) rfl ?_
  refine ev_call (d := 1989) (vs := [.ref 127]) (rest := [.int v]) (q := q_X12_kinds) hc_L (Or.inr rfl) (x := 193) (y := 12) rfl ms_193 rfl rfl (Nat.le_of_ble_eq_true rfl) (kO_recv (K_X12_kinds e2)) (E_X12_kinds e2 (by omega)) rfl ?_
  show Ev xs N 1990 287 344 [.ref ci_scr, .ref 0, .ref 127, .ref 148, .int (nI (5 * i)), ci_junk, ci_junk, ci_junk] [.int v, .int v] (hp κ μ2) nx r
  refine ev_bt hc_L (pc := 344) rfl rfl rfl ?_
  exact kk
set_option maxRecDepth 20000 in
theorem lc_rule {xs : Nat → Int32} {N i B : Nat} {κ : Kp} {μ : Mem} {nx : ci_N} (hN : N ≤ 2560) (hi : 5 * i + 5 ≤ N) (hR : Ref0 κ) (hB : B ≤ 1000000) (hI : Inv B μ) : LC xs N i B κ μ nx 349 := by
  obtain ⟨v, μ1, μ2, e1, e2, hI2⟩ := pr_rule κ B μ hR hB hI
  refine ⟨μ2, nx, hI2, by omega, by omega, fun r kk => ?_⟩
  refine ev_go hc_L (k := 1) (pc' := 350) (L' := [.ref ci_scr, .ref 0, .ref 127, .ref 148, .int (nI (5 * i)), ci_junk, ci_junk, ci_junk]) (S' := [.ref 0]) rfl ?_
  refine ev_call (d := 1989) (vs := [.ref 0]) (rest := []) (q := q_X11_rule) hc_L (Or.inr rfl) (x := 100) (y := 11) rfl ms_100 rfl rfl (Nat.le_of_ble_eq_true rfl) (kO_recv (K_X11_rule e1)) (E_X11_rule e1 (by omega)) rfl ?_
  show Ev xs N 1990 287 353 [.ref ci_scr, .ref 0, .ref 127, .ref 148, .int (nI (5 * i)), ci_junk, ci_junk, ci_junk] [.int v] (hp κ μ1) nx r
  refine ev_go hc_L (k := 1) (pc' := 354) (L' := [.ref ci_scr, .ref 0, .ref 127, .ref 148, .int (nI (5 * i)), ci_junk, ci_junk, ci_junk]) (S' := [.ref 127, .int v]) rfl ?_
  refine ev_call (d := 1989) (vs := [.ref 127]) (rest := [.int v]) (q := q_X12_rule) hc_L (Or.inr rfl) (x := 199) (y := 12) rfl ms_199 rfl rfl (Nat.le_of_ble_eq_true rfl) (kO_recv (K_X12_rule e2)) (E_X12_rule e2 (by omega)) rfl ?_
  show Ev xs N 1990 287 357 [.ref ci_scr, .ref 0, .ref 127, .ref 148, .int (nI (5 * i)), ci_junk, ci_junk, ci_junk] [.int v, .int v] (hp κ μ2) nx r
  refine ev_bt hc_L (pc := 357) rfl rfl rfl ?_
  exact kk
set_option maxRecDepth 20000 in
theorem lc_thing {xs : Nat → Int32} {N i B : Nat} {κ : Kp} {μ : Mem} {nx : ci_N} (hN : N ≤ 2560) (hi : 5 * i + 5 ≤ N) (hR : Ref0 κ) (hB : B ≤ 1000000) (hI : Inv B μ) : LC xs N i B κ μ nx 362 := by
  obtain ⟨ov, v0, ν0, e1, -⟩ := pr_thing (xs (5 * i + 1)) (xs (5 * i + 2)) κ B μ μ hR hB hI rfl (fun _ _ => rfl)
  have e1 : F_X11_thing 0 (xs (5 * i + 1)) (xs (5 * i + 2)) (hp κ μ) = some (ov, hp κ μ) := e1
  cases ov with
  | none =>
    obtain ⟨ov, b, ν2, e1', e2, h1, h2, h3, hI2⟩ := pr_thing (xs (5 * i + 1)) (xs (5 * i + 2)) κ B μ μ hR hB hI rfl (fun _ _ => rfl)
    have e1' : F_X11_thing 0 (xs (5 * i + 1)) (xs (5 * i + 2)) (hp κ μ) = some (ov, hp κ μ) := e1'
    have e2 : F_X12_thing 127 (xs (5 * i + 1)) (xs (5 * i + 2)) (hp κ μ) = some (b, hp κ ν2) := e2
    rw [e1] at e1'
    have eo : ov = none := (Prod.mk.inj (Option.some.inj e1')).1.symm
    rw [eo] at h1
    have et : F_X12_thrown 127 (hp κ ν2) = some (1, hp κ ν2) := y_thrown h1
    refine ⟨ν2, (nx.1, nx.2.1 + 1, nx.2.2 + 6), hI2, by show nx.2.1 + 1 ≤ _; omega, by show nx.2.2 + 6 ≤ _; omega, fun r kk => ?_⟩
    refine ev_go hc_L (k := 1) (pc' := 363) (L' := [.ref ci_scr, .ref 0, .ref 127, .ref 148, .int (nI (5 * i)), ci_junk, ci_junk, ci_junk]) (S' := [.ref 0]) rfl ?_
    refine ev_go hc_L (k := 4) (pc' := 368) (L' := [.ref ci_scr, .ref 0, .ref 127, .ref 148, .int (nI (5 * i)), ci_junk, ci_junk, ci_junk]) (S' := [.int (nI (5 * i) + 1), .ref ci_scr, .ref 0]) rfl ?_
    refine ev_4 hc_L (i := .iaload) (len := 1) (S' := [.int (xs (5 * i + 1)), .ref 0]) rfl (law_rd (m := 1) (by decide) hN hi) ?_
    refine ev_go hc_L (k := 4) (pc' := 374) (L' := [.ref ci_scr, .ref 0, .ref 127, .ref 148, .int (nI (5 * i)), ci_junk, ci_junk, ci_junk]) (S' := [.int (nI (5 * i) + 2), .ref ci_scr, .int (xs (5 * i + 1)), .ref 0]) rfl ?_
    refine ev_4 hc_L (i := .iaload) (len := 1) (S' := [.int (xs (5 * i + 2)), .int (xs (5 * i + 1)), .ref 0]) rfl (law_rd (m := 2) (by decide) hN hi) ?_
    refine ev_go hc_L (k := 1) (pc' := 376) (L' := [.ref ci_scr, .ref 0, .ref 127, .ref 148, .int (nI (5 * i)), ci_junk, ci_junk, ci_junk]) (S' := [.ref 148, .int (xs (5 * i + 2)), .int (xs (5 * i + 1)), .ref 0]) rfl ?_
    refine ev_14 (d := 1988) (vs := [.ref 0, .int (xs (5 * i + 1)), .int (xs (5 * i + 2))]) (rest := []) (q := q_X11_thing) (o := 148) hc_L (x := 101) (y := 11) rfl ms_101 rfl rfl (Nat.le_of_ble_eq_true rfl) (kO_recv (K_X11_thing e1)) rfl (E_X11_thing e1 (by omega)) rfl ?_
    show Ev xs N 1990 287 379 [.ref ci_scr, .ref 0, .ref 127, .ref 148, .int (nI (5 * i)), ci_junk, ci_junk, ci_junk] [.int 1] (hp κ μ) (nx.1, nx.2.1 + 1, nx.2.2 + 6) r
    refine ev_go hc_L (k := 2) (pc' := 382) (L' := [.ref ci_scr, .ref 0, .ref 127, .ref 148, .int (nI (5 * i)), .int 1, ci_junk, ci_junk]) (S' := [.ref 127]) rfl ?_
    refine ev_go hc_L (k := 4) (pc' := 387) (L' := [.ref ci_scr, .ref 0, .ref 127, .ref 148, .int (nI (5 * i)), .int 1, ci_junk, ci_junk]) (S' := [.int (nI (5 * i) + 1), .ref ci_scr, .ref 127]) rfl ?_
    refine ev_4 hc_L (i := .iaload) (len := 1) (S' := [.int (xs (5 * i + 1)), .ref 127]) rfl (law_rd (m := 1) (by decide) hN hi) ?_
    refine ev_go hc_L (k := 4) (pc' := 393) (L' := [.ref ci_scr, .ref 0, .ref 127, .ref 148, .int (nI (5 * i)), .int 1, ci_junk, ci_junk]) (S' := [.int (nI (5 * i) + 2), .ref ci_scr, .int (xs (5 * i + 1)), .ref 127]) rfl ?_
    refine ev_4 hc_L (i := .iaload) (len := 1) (S' := [.int (xs (5 * i + 2)), .int (xs (5 * i + 1)), .ref 127]) rfl (law_rd (m := 2) (by decide) hN hi) ?_
    refine ev_call (d := 1989) (vs := [.ref 127, .int (xs (5 * i + 1)), .int (xs (5 * i + 2))]) (rest := []) (q := q_X12_thing) hc_L (Or.inr rfl) (x := 210) (y := 12) rfl ms_210 rfl rfl (Nat.le_of_ble_eq_true rfl) (kO_recv (K_X12_thing e2)) (E_X12_thing e2 (by omega)) rfl ?_
    show Ev xs N 1990 287 397 [.ref ci_scr, .ref 0, .ref 127, .ref 148, .int (nI (5 * i)), .int 1, ci_junk, ci_junk] [.int b] (hp κ ν2) (nx.1, nx.2.1 + 1, nx.2.2 + 6) r
    refine ev_go hc_L (k := 2) (pc' := 400) (L' := [.ref ci_scr, .ref 0, .ref 127, .ref 148, .int (nI (5 * i)), .int 1, .int b, ci_junk]) (S' := [.ref 127]) rfl ?_
    refine ev_call (d := 1989) (vs := [.ref 127]) (rest := []) (q := q_X12_thrown) hc_L (Or.inr rfl) (x := 169) (y := 12) rfl ms_169 rfl rfl (Nat.le_of_ble_eq_true rfl) (kO_recv (K_X12_thrown et)) (E_X12_thrown et (by omega)) rfl ?_
    show Ev xs N 1990 287 403 [.ref ci_scr, .ref 0, .ref 127, .ref 148, .int (nI (5 * i)), .int 1, .int b, ci_junk] [.int 1] (hp κ ν2) (nx.1, nx.2.1 + 1, nx.2.2 + 6) r
    refine ev_go hc_L (k := 1) (pc' := 405) (L' := [.ref ci_scr, .ref 0, .ref 127, .ref 148, .int (nI (5 * i)), .int 1, .int b, ci_junk]) (S' := [.int 1, .int 1]) rfl ?_
    refine ev_bt hc_L (pc := 405) rfl rfl rfl ?_
    refine ev_go hc_L (k := 1) (pc' := 412) (L' := [.ref ci_scr, .ref 0, .ref 127, .ref 148, .int (nI (5 * i)), .int 1, .int b, ci_junk]) (S' := [.int 1]) rfl ?_
    refine ev_bf hc_L (pc := 412) rfl rfl (show ¬ (1 : Int32) = 0 by decide) ?_
    refine ev_go hc_L (k := 1) (pc' := 1752) (L' := [.ref ci_scr, .ref 0, .ref 127, .ref 148, .int (nI (5 * i)), .int 1, .int b, ci_junk]) (S' := []) rfl ?_
    exact ev_weak (law_le _ _) kk
  | some u =>
    obtain ⟨ov, b, ν2, e1', e2, h1, h2, h3, hI2⟩ := pr_thing (xs (5 * i + 1)) (xs (5 * i + 2)) κ B μ (upL μ 148 0 (u.toInt64)) hR hB hI rfl (fun a ha => rowL_n ha)
    have e1' : F_X11_thing 0 (xs (5 * i + 1)) (xs (5 * i + 2)) (hp κ μ) = some (ov, hp κ μ) := e1'
    have e2 : F_X12_thing 127 (xs (5 * i + 1)) (xs (5 * i + 2)) (hp κ (upL μ 148 0 (u.toInt64))) = some (b, hp κ ν2) := e2
    rw [e1] at e1'
    have eo : ov = some u := (Prod.mk.inj (Option.some.inj e1')).1.symm
    rw [eo] at h1
    have hb := h2 u eo
    have et : F_X12_thrown 127 (hp κ ν2) = some (0, hp κ ν2) := y_thrown h1
    have hout : ν2.2 148 0 = u.toInt64 := by rw [h3, rowL_s, pk_uLs]
    refine ⟨ν2, nx, hI2, by omega, by omega, fun r kk => ?_⟩
    refine ev_go hc_L (k := 1) (pc' := 363) (L' := [.ref ci_scr, .ref 0, .ref 127, .ref 148, .int (nI (5 * i)), ci_junk, ci_junk, ci_junk]) (S' := [.ref 0]) rfl ?_
    refine ev_go hc_L (k := 4) (pc' := 368) (L' := [.ref ci_scr, .ref 0, .ref 127, .ref 148, .int (nI (5 * i)), ci_junk, ci_junk, ci_junk]) (S' := [.int (nI (5 * i) + 1), .ref ci_scr, .ref 0]) rfl ?_
    refine ev_4 hc_L (i := .iaload) (len := 1) (S' := [.int (xs (5 * i + 1)), .ref 0]) rfl (law_rd (m := 1) (by decide) hN hi) ?_
    refine ev_go hc_L (k := 4) (pc' := 374) (L' := [.ref ci_scr, .ref 0, .ref 127, .ref 148, .int (nI (5 * i)), ci_junk, ci_junk, ci_junk]) (S' := [.int (nI (5 * i) + 2), .ref ci_scr, .int (xs (5 * i + 1)), .ref 0]) rfl ?_
    refine ev_4 hc_L (i := .iaload) (len := 1) (S' := [.int (xs (5 * i + 2)), .int (xs (5 * i + 1)), .ref 0]) rfl (law_rd (m := 2) (by decide) hN hi) ?_
    refine ev_go hc_L (k := 1) (pc' := 376) (L' := [.ref ci_scr, .ref 0, .ref 127, .ref 148, .int (nI (5 * i)), ci_junk, ci_junk, ci_junk]) (S' := [.ref 148, .int (xs (5 * i + 2)), .int (xs (5 * i + 1)), .ref 0]) rfl ?_
    refine ev_14 (d := 1988) (vs := [.ref 0, .int (xs (5 * i + 1)), .int (xs (5 * i + 2))]) (rest := []) (q := q_X11_thing) (o := 148) hc_L (x := 101) (y := 11) rfl ms_101 rfl rfl (Nat.le_of_ble_eq_true rfl) (kO_recv (K_X11_thing e1)) rfl (E_X11_thing e1 (by omega)) (law_catT u) ?_
    show Ev xs N 1990 287 379 [.ref ci_scr, .ref 0, .ref 127, .ref 148, .int (nI (5 * i)), ci_junk, ci_junk, ci_junk] [.int 0] (hp κ (upL μ 148 0 (u.toInt64))) nx r
    refine ev_go hc_L (k := 2) (pc' := 382) (L' := [.ref ci_scr, .ref 0, .ref 127, .ref 148, .int (nI (5 * i)), .int 0, ci_junk, ci_junk]) (S' := [.ref 127]) rfl ?_
    refine ev_go hc_L (k := 4) (pc' := 387) (L' := [.ref ci_scr, .ref 0, .ref 127, .ref 148, .int (nI (5 * i)), .int 0, ci_junk, ci_junk]) (S' := [.int (nI (5 * i) + 1), .ref ci_scr, .ref 127]) rfl ?_
    refine ev_4 hc_L (i := .iaload) (len := 1) (S' := [.int (xs (5 * i + 1)), .ref 127]) rfl (law_rd (m := 1) (by decide) hN hi) ?_
    refine ev_go hc_L (k := 4) (pc' := 393) (L' := [.ref ci_scr, .ref 0, .ref 127, .ref 148, .int (nI (5 * i)), .int 0, ci_junk, ci_junk]) (S' := [.int (nI (5 * i) + 2), .ref ci_scr, .int (xs (5 * i + 1)), .ref 127]) rfl ?_
    refine ev_4 hc_L (i := .iaload) (len := 1) (S' := [.int (xs (5 * i + 2)), .int (xs (5 * i + 1)), .ref 127]) rfl (law_rd (m := 2) (by decide) hN hi) ?_
    refine ev_call (d := 1989) (vs := [.ref 127, .int (xs (5 * i + 1)), .int (xs (5 * i + 2))]) (rest := []) (q := q_X12_thing) hc_L (Or.inr rfl) (x := 210) (y := 12) rfl ms_210 rfl rfl (Nat.le_of_ble_eq_true rfl) (kO_recv (K_X12_thing e2)) (E_X12_thing e2 (by omega)) rfl ?_
    show Ev xs N 1990 287 397 [.ref ci_scr, .ref 0, .ref 127, .ref 148, .int (nI (5 * i)), .int 0, ci_junk, ci_junk] [.int b] (hp κ ν2) nx r
    refine ev_go hc_L (k := 2) (pc' := 400) (L' := [.ref ci_scr, .ref 0, .ref 127, .ref 148, .int (nI (5 * i)), .int 0, .int b, ci_junk]) (S' := [.ref 127]) rfl ?_
    refine ev_call (d := 1989) (vs := [.ref 127]) (rest := []) (q := q_X12_thrown) hc_L (Or.inr rfl) (x := 169) (y := 12) rfl ms_169 rfl rfl (Nat.le_of_ble_eq_true rfl) (kO_recv (K_X12_thrown et)) (E_X12_thrown et (by omega)) rfl ?_
    show Ev xs N 1990 287 403 [.ref ci_scr, .ref 0, .ref 127, .ref 148, .int (nI (5 * i)), .int 0, .int b, ci_junk] [.int 0] (hp κ ν2) nx r
    refine ev_go hc_L (k := 1) (pc' := 405) (L' := [.ref ci_scr, .ref 0, .ref 127, .ref 148, .int (nI (5 * i)), .int 0, .int b, ci_junk]) (S' := [.int 0, .int 0]) rfl ?_
    refine ev_bt hc_L (pc := 405) rfl rfl rfl ?_
    refine ev_go hc_L (k := 1) (pc' := 412) (L' := [.ref ci_scr, .ref 0, .ref 127, .ref 148, .int (nI (5 * i)), .int 0, .int b, ci_junk]) (S' := [.int 0]) rfl ?_
    refine ev_bt hc_L (pc := 412) rfl rfl (show (0 : Int32) = 0 from rfl) ?_
    refine ev_go hc_L (k := 2) (pc' := 417) (L' := [.ref ci_scr, .ref 0, .ref 127, .ref 148, .int (nI (5 * i)), .int 0, .int b, ci_junk]) (S' := [.int 0, .ref 148]) rfl ?_
    refine ev_4 hc_L (i := .laload) (len := 1) (S' := [.long (ν2.2 148 0)]) rfl law_out ?_
    refine ev_go hc_L (k := 3) (pc' := 422) (L' := [.ref ci_scr, .ref 0, .ref 127, .ref 148, .int (nI (5 * i)), .int 0, .int b, ci_junk]) (S' := [.int (lg_cmp (ν2.2 148 0) b.toInt64)]) rfl ?_
    refine ev_bt hc_L (pc := 422) rfl rfl ((cmp_0 _ _).mpr (by rw [hout, hb])) ?_
    refine ev_go hc_L (k := 1) (pc' := 1752) (L' := [.ref ci_scr, .ref 0, .ref 127, .ref 148, .int (nI (5 * i)), .int 0, .int b, ci_junk]) (S' := []) rfl ?_
    exact ev_weak (law_le _ _) kk
set_option maxRecDepth 20000 in
theorem lc_kind {xs : Nat → Int32} {N i B : Nat} {κ : Kp} {μ : Mem} {nx : ci_N} (hN : N ≤ 2560) (hi : 5 * i + 5 ≤ N) (hR : Ref0 κ) (hB : B ≤ 1000000) (hI : Inv B μ) : LC xs N i B κ μ nx 430 := by
  obtain ⟨ov, v0, ν0, e1, -⟩ := pr_kind (xs (5 * i + 1)) (xs (5 * i + 2)) κ B μ μ hR hB hI rfl (fun _ _ => rfl)
  have e1 : F_X11_kind 0 (xs (5 * i + 1)) (xs (5 * i + 2)) (hp κ μ) = some (ov, hp κ μ) := e1
  cases ov with
  | none =>
    obtain ⟨ov, b, ν2, e1', e2, h1, h2, h3, hI2⟩ := pr_kind (xs (5 * i + 1)) (xs (5 * i + 2)) κ B μ μ hR hB hI rfl (fun _ _ => rfl)
    have e1' : F_X11_kind 0 (xs (5 * i + 1)) (xs (5 * i + 2)) (hp κ μ) = some (ov, hp κ μ) := e1'
    have e2 : F_X12_kind 127 (xs (5 * i + 1)) (xs (5 * i + 2)) (hp κ μ) = some (b, hp κ ν2) := e2
    rw [e1] at e1'
    have eo : ov = none := (Prod.mk.inj (Option.some.inj e1')).1.symm
    rw [eo] at h1
    have et : F_X12_thrown 127 (hp κ ν2) = some (1, hp κ ν2) := y_thrown h1
    refine ⟨ν2, (nx.1, nx.2.1 + 1, nx.2.2 + 6), hI2, by show nx.2.1 + 1 ≤ _; omega, by show nx.2.2 + 6 ≤ _; omega, fun r kk => ?_⟩
    refine ev_go hc_L (k := 1) (pc' := 431) (L' := [.ref ci_scr, .ref 0, .ref 127, .ref 148, .int (nI (5 * i)), ci_junk, ci_junk, ci_junk]) (S' := [.ref 0]) rfl ?_
    refine ev_go hc_L (k := 4) (pc' := 436) (L' := [.ref ci_scr, .ref 0, .ref 127, .ref 148, .int (nI (5 * i)), ci_junk, ci_junk, ci_junk]) (S' := [.int (nI (5 * i) + 1), .ref ci_scr, .ref 0]) rfl ?_
    refine ev_4 hc_L (i := .iaload) (len := 1) (S' := [.int (xs (5 * i + 1)), .ref 0]) rfl (law_rd (m := 1) (by decide) hN hi) ?_
    refine ev_go hc_L (k := 4) (pc' := 442) (L' := [.ref ci_scr, .ref 0, .ref 127, .ref 148, .int (nI (5 * i)), ci_junk, ci_junk, ci_junk]) (S' := [.int (nI (5 * i) + 2), .ref ci_scr, .int (xs (5 * i + 1)), .ref 0]) rfl ?_
    refine ev_4 hc_L (i := .iaload) (len := 1) (S' := [.int (xs (5 * i + 2)), .int (xs (5 * i + 1)), .ref 0]) rfl (law_rd (m := 2) (by decide) hN hi) ?_
    refine ev_go hc_L (k := 1) (pc' := 444) (L' := [.ref ci_scr, .ref 0, .ref 127, .ref 148, .int (nI (5 * i)), ci_junk, ci_junk, ci_junk]) (S' := [.ref 148, .int (xs (5 * i + 2)), .int (xs (5 * i + 1)), .ref 0]) rfl ?_
    refine ev_14 (d := 1988) (vs := [.ref 0, .int (xs (5 * i + 1)), .int (xs (5 * i + 2))]) (rest := []) (q := q_X11_kind) (o := 148) hc_L (x := 102) (y := 11) rfl ms_102 rfl rfl (Nat.le_of_ble_eq_true rfl) (kO_recv (K_X11_kind e1)) rfl (E_X11_kind e1 (by omega)) rfl ?_
    show Ev xs N 1990 287 447 [.ref ci_scr, .ref 0, .ref 127, .ref 148, .int (nI (5 * i)), ci_junk, ci_junk, ci_junk] [.int 1] (hp κ μ) (nx.1, nx.2.1 + 1, nx.2.2 + 6) r
    refine ev_go hc_L (k := 2) (pc' := 450) (L' := [.ref ci_scr, .ref 0, .ref 127, .ref 148, .int (nI (5 * i)), .int 1, ci_junk, ci_junk]) (S' := [.ref 127]) rfl ?_
    refine ev_go hc_L (k := 4) (pc' := 455) (L' := [.ref ci_scr, .ref 0, .ref 127, .ref 148, .int (nI (5 * i)), .int 1, ci_junk, ci_junk]) (S' := [.int (nI (5 * i) + 1), .ref ci_scr, .ref 127]) rfl ?_
    refine ev_4 hc_L (i := .iaload) (len := 1) (S' := [.int (xs (5 * i + 1)), .ref 127]) rfl (law_rd (m := 1) (by decide) hN hi) ?_
    refine ev_go hc_L (k := 4) (pc' := 461) (L' := [.ref ci_scr, .ref 0, .ref 127, .ref 148, .int (nI (5 * i)), .int 1, ci_junk, ci_junk]) (S' := [.int (nI (5 * i) + 2), .ref ci_scr, .int (xs (5 * i + 1)), .ref 127]) rfl ?_
    refine ev_4 hc_L (i := .iaload) (len := 1) (S' := [.int (xs (5 * i + 2)), .int (xs (5 * i + 1)), .ref 127]) rfl (law_rd (m := 2) (by decide) hN hi) ?_
    refine ev_call (d := 1989) (vs := [.ref 127, .int (xs (5 * i + 1)), .int (xs (5 * i + 2))]) (rest := []) (q := q_X12_kind) hc_L (Or.inr rfl) (x := 211) (y := 12) rfl ms_211 rfl rfl (Nat.le_of_ble_eq_true rfl) (kO_recv (K_X12_kind e2)) (E_X12_kind e2 (by omega)) rfl ?_
    show Ev xs N 1990 287 465 [.ref ci_scr, .ref 0, .ref 127, .ref 148, .int (nI (5 * i)), .int 1, ci_junk, ci_junk] [.int b] (hp κ ν2) (nx.1, nx.2.1 + 1, nx.2.2 + 6) r
    refine ev_go hc_L (k := 2) (pc' := 468) (L' := [.ref ci_scr, .ref 0, .ref 127, .ref 148, .int (nI (5 * i)), .int 1, .int b, ci_junk]) (S' := [.ref 127]) rfl ?_
    refine ev_call (d := 1989) (vs := [.ref 127]) (rest := []) (q := q_X12_thrown) hc_L (Or.inr rfl) (x := 169) (y := 12) rfl ms_169 rfl rfl (Nat.le_of_ble_eq_true rfl) (kO_recv (K_X12_thrown et)) (E_X12_thrown et (by omega)) rfl ?_
    show Ev xs N 1990 287 471 [.ref ci_scr, .ref 0, .ref 127, .ref 148, .int (nI (5 * i)), .int 1, .int b, ci_junk] [.int 1] (hp κ ν2) (nx.1, nx.2.1 + 1, nx.2.2 + 6) r
    refine ev_go hc_L (k := 1) (pc' := 473) (L' := [.ref ci_scr, .ref 0, .ref 127, .ref 148, .int (nI (5 * i)), .int 1, .int b, ci_junk]) (S' := [.int 1, .int 1]) rfl ?_
    refine ev_bt hc_L (pc := 473) rfl rfl rfl ?_
    refine ev_go hc_L (k := 1) (pc' := 480) (L' := [.ref ci_scr, .ref 0, .ref 127, .ref 148, .int (nI (5 * i)), .int 1, .int b, ci_junk]) (S' := [.int 1]) rfl ?_
    refine ev_bf hc_L (pc := 480) rfl rfl (show ¬ (1 : Int32) = 0 by decide) ?_
    refine ev_go hc_L (k := 1) (pc' := 1752) (L' := [.ref ci_scr, .ref 0, .ref 127, .ref 148, .int (nI (5 * i)), .int 1, .int b, ci_junk]) (S' := []) rfl ?_
    exact ev_weak (law_le _ _) kk
  | some u =>
    obtain ⟨ov, b, ν2, e1', e2, h1, h2, h3, hI2⟩ := pr_kind (xs (5 * i + 1)) (xs (5 * i + 2)) κ B μ (upL μ 148 0 (u.toInt64)) hR hB hI rfl (fun a ha => rowL_n ha)
    have e1' : F_X11_kind 0 (xs (5 * i + 1)) (xs (5 * i + 2)) (hp κ μ) = some (ov, hp κ μ) := e1'
    have e2 : F_X12_kind 127 (xs (5 * i + 1)) (xs (5 * i + 2)) (hp κ (upL μ 148 0 (u.toInt64))) = some (b, hp κ ν2) := e2
    rw [e1] at e1'
    have eo : ov = some u := (Prod.mk.inj (Option.some.inj e1')).1.symm
    rw [eo] at h1
    have hb := h2 u eo
    have et : F_X12_thrown 127 (hp κ ν2) = some (0, hp κ ν2) := y_thrown h1
    have hout : ν2.2 148 0 = u.toInt64 := by rw [h3, rowL_s, pk_uLs]
    refine ⟨ν2, nx, hI2, by omega, by omega, fun r kk => ?_⟩
    refine ev_go hc_L (k := 1) (pc' := 431) (L' := [.ref ci_scr, .ref 0, .ref 127, .ref 148, .int (nI (5 * i)), ci_junk, ci_junk, ci_junk]) (S' := [.ref 0]) rfl ?_
    refine ev_go hc_L (k := 4) (pc' := 436) (L' := [.ref ci_scr, .ref 0, .ref 127, .ref 148, .int (nI (5 * i)), ci_junk, ci_junk, ci_junk]) (S' := [.int (nI (5 * i) + 1), .ref ci_scr, .ref 0]) rfl ?_
    refine ev_4 hc_L (i := .iaload) (len := 1) (S' := [.int (xs (5 * i + 1)), .ref 0]) rfl (law_rd (m := 1) (by decide) hN hi) ?_
    refine ev_go hc_L (k := 4) (pc' := 442) (L' := [.ref ci_scr, .ref 0, .ref 127, .ref 148, .int (nI (5 * i)), ci_junk, ci_junk, ci_junk]) (S' := [.int (nI (5 * i) + 2), .ref ci_scr, .int (xs (5 * i + 1)), .ref 0]) rfl ?_
    refine ev_4 hc_L (i := .iaload) (len := 1) (S' := [.int (xs (5 * i + 2)), .int (xs (5 * i + 1)), .ref 0]) rfl (law_rd (m := 2) (by decide) hN hi) ?_
    refine ev_go hc_L (k := 1) (pc' := 444) (L' := [.ref ci_scr, .ref 0, .ref 127, .ref 148, .int (nI (5 * i)), ci_junk, ci_junk, ci_junk]) (S' := [.ref 148, .int (xs (5 * i + 2)), .int (xs (5 * i + 1)), .ref 0]) rfl ?_
    refine ev_14 (d := 1988) (vs := [.ref 0, .int (xs (5 * i + 1)), .int (xs (5 * i + 2))]) (rest := []) (q := q_X11_kind) (o := 148) hc_L (x := 102) (y := 11) rfl ms_102 rfl rfl (Nat.le_of_ble_eq_true rfl) (kO_recv (K_X11_kind e1)) rfl (E_X11_kind e1 (by omega)) (law_catT u) ?_
    show Ev xs N 1990 287 447 [.ref ci_scr, .ref 0, .ref 127, .ref 148, .int (nI (5 * i)), ci_junk, ci_junk, ci_junk] [.int 0] (hp κ (upL μ 148 0 (u.toInt64))) nx r
    refine ev_go hc_L (k := 2) (pc' := 450) (L' := [.ref ci_scr, .ref 0, .ref 127, .ref 148, .int (nI (5 * i)), .int 0, ci_junk, ci_junk]) (S' := [.ref 127]) rfl ?_
    refine ev_go hc_L (k := 4) (pc' := 455) (L' := [.ref ci_scr, .ref 0, .ref 127, .ref 148, .int (nI (5 * i)), .int 0, ci_junk, ci_junk]) (S' := [.int (nI (5 * i) + 1), .ref ci_scr, .ref 127]) rfl ?_
    refine ev_4 hc_L (i := .iaload) (len := 1) (S' := [.int (xs (5 * i + 1)), .ref 127]) rfl (law_rd (m := 1) (by decide) hN hi) ?_
    refine ev_go hc_L (k := 4) (pc' := 461) (L' := [.ref ci_scr, .ref 0, .ref 127, .ref 148, .int (nI (5 * i)), .int 0, ci_junk, ci_junk]) (S' := [.int (nI (5 * i) + 2), .ref ci_scr, .int (xs (5 * i + 1)), .ref 127]) rfl ?_
    refine ev_4 hc_L (i := .iaload) (len := 1) (S' := [.int (xs (5 * i + 2)), .int (xs (5 * i + 1)), .ref 127]) rfl (law_rd (m := 2) (by decide) hN hi) ?_
    refine ev_call (d := 1989) (vs := [.ref 127, .int (xs (5 * i + 1)), .int (xs (5 * i + 2))]) (rest := []) (q := q_X12_kind) hc_L (Or.inr rfl) (x := 211) (y := 12) rfl ms_211 rfl rfl (Nat.le_of_ble_eq_true rfl) (kO_recv (K_X12_kind e2)) (E_X12_kind e2 (by omega)) rfl ?_
    show Ev xs N 1990 287 465 [.ref ci_scr, .ref 0, .ref 127, .ref 148, .int (nI (5 * i)), .int 0, ci_junk, ci_junk] [.int b] (hp κ ν2) nx r
    refine ev_go hc_L (k := 2) (pc' := 468) (L' := [.ref ci_scr, .ref 0, .ref 127, .ref 148, .int (nI (5 * i)), .int 0, .int b, ci_junk]) (S' := [.ref 127]) rfl ?_
    refine ev_call (d := 1989) (vs := [.ref 127]) (rest := []) (q := q_X12_thrown) hc_L (Or.inr rfl) (x := 169) (y := 12) rfl ms_169 rfl rfl (Nat.le_of_ble_eq_true rfl) (kO_recv (K_X12_thrown et)) (E_X12_thrown et (by omega)) rfl ?_
    show Ev xs N 1990 287 471 [.ref ci_scr, .ref 0, .ref 127, .ref 148, .int (nI (5 * i)), .int 0, .int b, ci_junk] [.int 0] (hp κ ν2) nx r
    refine ev_go hc_L (k := 1) (pc' := 473) (L' := [.ref ci_scr, .ref 0, .ref 127, .ref 148, .int (nI (5 * i)), .int 0, .int b, ci_junk]) (S' := [.int 0, .int 0]) rfl ?_
    refine ev_bt hc_L (pc := 473) rfl rfl rfl ?_
    refine ev_go hc_L (k := 1) (pc' := 480) (L' := [.ref ci_scr, .ref 0, .ref 127, .ref 148, .int (nI (5 * i)), .int 0, .int b, ci_junk]) (S' := [.int 0]) rfl ?_
    refine ev_bt hc_L (pc := 480) rfl rfl (show (0 : Int32) = 0 from rfl) ?_
    refine ev_go hc_L (k := 2) (pc' := 485) (L' := [.ref ci_scr, .ref 0, .ref 127, .ref 148, .int (nI (5 * i)), .int 0, .int b, ci_junk]) (S' := [.int 0, .ref 148]) rfl ?_
    refine ev_4 hc_L (i := .laload) (len := 1) (S' := [.long (ν2.2 148 0)]) rfl law_out ?_
    refine ev_go hc_L (k := 3) (pc' := 490) (L' := [.ref ci_scr, .ref 0, .ref 127, .ref 148, .int (nI (5 * i)), .int 0, .int b, ci_junk]) (S' := [.int (lg_cmp (ν2.2 148 0) b.toInt64)]) rfl ?_
    refine ev_bt hc_L (pc := 490) rfl rfl ((cmp_0 _ _).mpr (by rw [hout, hb])) ?_
    refine ev_go hc_L (k := 1) (pc' := 1752) (L' := [.ref ci_scr, .ref 0, .ref 127, .ref 148, .int (nI (5 * i)), .int 0, .int b, ci_junk]) (S' := []) rfl ?_
    exact ev_weak (law_le _ _) kk
set_option maxRecDepth 20000 in
theorem lc_house {xs : Nat → Int32} {N i B : Nat} {κ : Kp} {μ : Mem} {nx : ci_N} (hN : N ≤ 2560) (hi : 5 * i + 5 ≤ N) (hR : Ref0 κ) (hB : B ≤ 1000000) (hI : Inv B μ) : LC xs N i B κ μ nx 498 := by
  obtain ⟨ov, v0, ν0, e1, -⟩ := pr_house (xs (5 * i + 1)) (xs (5 * i + 2)) κ B μ μ hR hB hI rfl (fun _ _ => rfl)
  have e1 : F_X11_house 0 (xs (5 * i + 1)) (xs (5 * i + 2)) (hp κ μ) = some (ov, hp κ μ) := e1
  cases ov with
  | none =>
    obtain ⟨ov, b, ν2, e1', e2, h1, h2, h3, hI2⟩ := pr_house (xs (5 * i + 1)) (xs (5 * i + 2)) κ B μ μ hR hB hI rfl (fun _ _ => rfl)
    have e1' : F_X11_house 0 (xs (5 * i + 1)) (xs (5 * i + 2)) (hp κ μ) = some (ov, hp κ μ) := e1'
    have e2 : F_X12_house 127 (xs (5 * i + 1)) (xs (5 * i + 2)) (hp κ μ) = some (b, hp κ ν2) := e2
    rw [e1] at e1'
    have eo : ov = none := (Prod.mk.inj (Option.some.inj e1')).1.symm
    rw [eo] at h1
    have et : F_X12_thrown 127 (hp κ ν2) = some (1, hp κ ν2) := y_thrown h1
    refine ⟨ν2, (nx.1, nx.2.1 + 1, nx.2.2 + 6), hI2, by show nx.2.1 + 1 ≤ _; omega, by show nx.2.2 + 6 ≤ _; omega, fun r kk => ?_⟩
    refine ev_go hc_L (k := 1) (pc' := 499) (L' := [.ref ci_scr, .ref 0, .ref 127, .ref 148, .int (nI (5 * i)), ci_junk, ci_junk, ci_junk]) (S' := [.ref 0]) rfl ?_
    refine ev_go hc_L (k := 4) (pc' := 504) (L' := [.ref ci_scr, .ref 0, .ref 127, .ref 148, .int (nI (5 * i)), ci_junk, ci_junk, ci_junk]) (S' := [.int (nI (5 * i) + 1), .ref ci_scr, .ref 0]) rfl ?_
    refine ev_4 hc_L (i := .iaload) (len := 1) (S' := [.int (xs (5 * i + 1)), .ref 0]) rfl (law_rd (m := 1) (by decide) hN hi) ?_
    refine ev_go hc_L (k := 4) (pc' := 510) (L' := [.ref ci_scr, .ref 0, .ref 127, .ref 148, .int (nI (5 * i)), ci_junk, ci_junk, ci_junk]) (S' := [.int (nI (5 * i) + 2), .ref ci_scr, .int (xs (5 * i + 1)), .ref 0]) rfl ?_
    refine ev_4 hc_L (i := .iaload) (len := 1) (S' := [.int (xs (5 * i + 2)), .int (xs (5 * i + 1)), .ref 0]) rfl (law_rd (m := 2) (by decide) hN hi) ?_
    refine ev_go hc_L (k := 1) (pc' := 512) (L' := [.ref ci_scr, .ref 0, .ref 127, .ref 148, .int (nI (5 * i)), ci_junk, ci_junk, ci_junk]) (S' := [.ref 148, .int (xs (5 * i + 2)), .int (xs (5 * i + 1)), .ref 0]) rfl ?_
    refine ev_14 (d := 1988) (vs := [.ref 0, .int (xs (5 * i + 1)), .int (xs (5 * i + 2))]) (rest := []) (q := q_X11_house) (o := 148) hc_L (x := 103) (y := 11) rfl ms_103 rfl rfl (Nat.le_of_ble_eq_true rfl) (kO_recv (K_X11_house e1)) rfl (E_X11_house e1 (by omega)) rfl ?_
    show Ev xs N 1990 287 515 [.ref ci_scr, .ref 0, .ref 127, .ref 148, .int (nI (5 * i)), ci_junk, ci_junk, ci_junk] [.int 1] (hp κ μ) (nx.1, nx.2.1 + 1, nx.2.2 + 6) r
    refine ev_go hc_L (k := 2) (pc' := 518) (L' := [.ref ci_scr, .ref 0, .ref 127, .ref 148, .int (nI (5 * i)), .int 1, ci_junk, ci_junk]) (S' := [.ref 127]) rfl ?_
    refine ev_go hc_L (k := 4) (pc' := 523) (L' := [.ref ci_scr, .ref 0, .ref 127, .ref 148, .int (nI (5 * i)), .int 1, ci_junk, ci_junk]) (S' := [.int (nI (5 * i) + 1), .ref ci_scr, .ref 127]) rfl ?_
    refine ev_4 hc_L (i := .iaload) (len := 1) (S' := [.int (xs (5 * i + 1)), .ref 127]) rfl (law_rd (m := 1) (by decide) hN hi) ?_
    refine ev_go hc_L (k := 4) (pc' := 529) (L' := [.ref ci_scr, .ref 0, .ref 127, .ref 148, .int (nI (5 * i)), .int 1, ci_junk, ci_junk]) (S' := [.int (nI (5 * i) + 2), .ref ci_scr, .int (xs (5 * i + 1)), .ref 127]) rfl ?_
    refine ev_4 hc_L (i := .iaload) (len := 1) (S' := [.int (xs (5 * i + 2)), .int (xs (5 * i + 1)), .ref 127]) rfl (law_rd (m := 2) (by decide) hN hi) ?_
    refine ev_call (d := 1989) (vs := [.ref 127, .int (xs (5 * i + 1)), .int (xs (5 * i + 2))]) (rest := []) (q := q_X12_house) hc_L (Or.inr rfl) (x := 212) (y := 12) rfl ms_212 rfl rfl (Nat.le_of_ble_eq_true rfl) (kO_recv (K_X12_house e2)) (E_X12_house e2 (by omega)) rfl ?_
    show Ev xs N 1990 287 533 [.ref ci_scr, .ref 0, .ref 127, .ref 148, .int (nI (5 * i)), .int 1, ci_junk, ci_junk] [.int b] (hp κ ν2) (nx.1, nx.2.1 + 1, nx.2.2 + 6) r
    refine ev_go hc_L (k := 2) (pc' := 536) (L' := [.ref ci_scr, .ref 0, .ref 127, .ref 148, .int (nI (5 * i)), .int 1, .int b, ci_junk]) (S' := [.ref 127]) rfl ?_
    refine ev_call (d := 1989) (vs := [.ref 127]) (rest := []) (q := q_X12_thrown) hc_L (Or.inr rfl) (x := 169) (y := 12) rfl ms_169 rfl rfl (Nat.le_of_ble_eq_true rfl) (kO_recv (K_X12_thrown et)) (E_X12_thrown et (by omega)) rfl ?_
    show Ev xs N 1990 287 539 [.ref ci_scr, .ref 0, .ref 127, .ref 148, .int (nI (5 * i)), .int 1, .int b, ci_junk] [.int 1] (hp κ ν2) (nx.1, nx.2.1 + 1, nx.2.2 + 6) r
    refine ev_go hc_L (k := 1) (pc' := 541) (L' := [.ref ci_scr, .ref 0, .ref 127, .ref 148, .int (nI (5 * i)), .int 1, .int b, ci_junk]) (S' := [.int 1, .int 1]) rfl ?_
    refine ev_bt hc_L (pc := 541) rfl rfl rfl ?_
    refine ev_go hc_L (k := 1) (pc' := 548) (L' := [.ref ci_scr, .ref 0, .ref 127, .ref 148, .int (nI (5 * i)), .int 1, .int b, ci_junk]) (S' := [.int 1]) rfl ?_
    refine ev_bf hc_L (pc := 548) rfl rfl (show ¬ (1 : Int32) = 0 by decide) ?_
    refine ev_go hc_L (k := 1) (pc' := 1752) (L' := [.ref ci_scr, .ref 0, .ref 127, .ref 148, .int (nI (5 * i)), .int 1, .int b, ci_junk]) (S' := []) rfl ?_
    exact ev_weak (law_le _ _) kk
  | some u =>
    obtain ⟨ov, b, ν2, e1', e2, h1, h2, h3, hI2⟩ := pr_house (xs (5 * i + 1)) (xs (5 * i + 2)) κ B μ (upL μ 148 0 (u.toInt64)) hR hB hI rfl (fun a ha => rowL_n ha)
    have e1' : F_X11_house 0 (xs (5 * i + 1)) (xs (5 * i + 2)) (hp κ μ) = some (ov, hp κ μ) := e1'
    have e2 : F_X12_house 127 (xs (5 * i + 1)) (xs (5 * i + 2)) (hp κ (upL μ 148 0 (u.toInt64))) = some (b, hp κ ν2) := e2
    rw [e1] at e1'
    have eo : ov = some u := (Prod.mk.inj (Option.some.inj e1')).1.symm
    rw [eo] at h1
    have hb := h2 u eo
    have et : F_X12_thrown 127 (hp κ ν2) = some (0, hp κ ν2) := y_thrown h1
    have hout : ν2.2 148 0 = u.toInt64 := by rw [h3, rowL_s, pk_uLs]
    refine ⟨ν2, nx, hI2, by omega, by omega, fun r kk => ?_⟩
    refine ev_go hc_L (k := 1) (pc' := 499) (L' := [.ref ci_scr, .ref 0, .ref 127, .ref 148, .int (nI (5 * i)), ci_junk, ci_junk, ci_junk]) (S' := [.ref 0]) rfl ?_
    refine ev_go hc_L (k := 4) (pc' := 504) (L' := [.ref ci_scr, .ref 0, .ref 127, .ref 148, .int (nI (5 * i)), ci_junk, ci_junk, ci_junk]) (S' := [.int (nI (5 * i) + 1), .ref ci_scr, .ref 0]) rfl ?_
    refine ev_4 hc_L (i := .iaload) (len := 1) (S' := [.int (xs (5 * i + 1)), .ref 0]) rfl (law_rd (m := 1) (by decide) hN hi) ?_
    refine ev_go hc_L (k := 4) (pc' := 510) (L' := [.ref ci_scr, .ref 0, .ref 127, .ref 148, .int (nI (5 * i)), ci_junk, ci_junk, ci_junk]) (S' := [.int (nI (5 * i) + 2), .ref ci_scr, .int (xs (5 * i + 1)), .ref 0]) rfl ?_
    refine ev_4 hc_L (i := .iaload) (len := 1) (S' := [.int (xs (5 * i + 2)), .int (xs (5 * i + 1)), .ref 0]) rfl (law_rd (m := 2) (by decide) hN hi) ?_
    refine ev_go hc_L (k := 1) (pc' := 512) (L' := [.ref ci_scr, .ref 0, .ref 127, .ref 148, .int (nI (5 * i)), ci_junk, ci_junk, ci_junk]) (S' := [.ref 148, .int (xs (5 * i + 2)), .int (xs (5 * i + 1)), .ref 0]) rfl ?_
    refine ev_14 (d := 1988) (vs := [.ref 0, .int (xs (5 * i + 1)), .int (xs (5 * i + 2))]) (rest := []) (q := q_X11_house) (o := 148) hc_L (x := 103) (y := 11) rfl ms_103 rfl rfl (Nat.le_of_ble_eq_true rfl) (kO_recv (K_X11_house e1)) rfl (E_X11_house e1 (by omega)) (law_catT u) ?_
    show Ev xs N 1990 287 515 [.ref ci_scr, .ref 0, .ref 127, .ref 148, .int (nI (5 * i)), ci_junk, ci_junk, ci_junk] [.int 0] (hp κ (upL μ 148 0 (u.toInt64))) nx r
    refine ev_go hc_L (k := 2) (pc' := 518) (L' := [.ref ci_scr, .ref 0, .ref 127, .ref 148, .int (nI (5 * i)), .int 0, ci_junk, ci_junk]) (S' := [.ref 127]) rfl ?_
    refine ev_go hc_L (k := 4) (pc' := 523) (L' := [.ref ci_scr, .ref 0, .ref 127, .ref 148, .int (nI (5 * i)), .int 0, ci_junk, ci_junk]) (S' := [.int (nI (5 * i) + 1), .ref ci_scr, .ref 127]) rfl ?_
    refine ev_4 hc_L (i := .iaload) (len := 1) (S' := [.int (xs (5 * i + 1)), .ref 127]) rfl (law_rd (m := 1) (by decide) hN hi) ?_
    refine ev_go hc_L (k := 4) (pc' := 529) (L' := [.ref ci_scr, .ref 0, .ref 127, .ref 148, .int (nI (5 * i)), .int 0, ci_junk, ci_junk]) (S' := [.int (nI (5 * i) + 2), .ref ci_scr, .int (xs (5 * i + 1)), .ref 127]) rfl ?_
    refine ev_4 hc_L (i := .iaload) (len := 1) (S' := [.int (xs (5 * i + 2)), .int (xs (5 * i + 1)), .ref 127]) rfl (law_rd (m := 2) (by decide) hN hi) ?_
    refine ev_call (d := 1989) (vs := [.ref 127, .int (xs (5 * i + 1)), .int (xs (5 * i + 2))]) (rest := []) (q := q_X12_house) hc_L (Or.inr rfl) (x := 212) (y := 12) rfl ms_212 rfl rfl (Nat.le_of_ble_eq_true rfl) (kO_recv (K_X12_house e2)) (E_X12_house e2 (by omega)) rfl ?_
    show Ev xs N 1990 287 533 [.ref ci_scr, .ref 0, .ref 127, .ref 148, .int (nI (5 * i)), .int 0, ci_junk, ci_junk] [.int b] (hp κ ν2) nx r
    refine ev_go hc_L (k := 2) (pc' := 536) (L' := [.ref ci_scr, .ref 0, .ref 127, .ref 148, .int (nI (5 * i)), .int 0, .int b, ci_junk]) (S' := [.ref 127]) rfl ?_
    refine ev_call (d := 1989) (vs := [.ref 127]) (rest := []) (q := q_X12_thrown) hc_L (Or.inr rfl) (x := 169) (y := 12) rfl ms_169 rfl rfl (Nat.le_of_ble_eq_true rfl) (kO_recv (K_X12_thrown et)) (E_X12_thrown et (by omega)) rfl ?_
    show Ev xs N 1990 287 539 [.ref ci_scr, .ref 0, .ref 127, .ref 148, .int (nI (5 * i)), .int 0, .int b, ci_junk] [.int 0] (hp κ ν2) nx r
    refine ev_go hc_L (k := 1) (pc' := 541) (L' := [.ref ci_scr, .ref 0, .ref 127, .ref 148, .int (nI (5 * i)), .int 0, .int b, ci_junk]) (S' := [.int 0, .int 0]) rfl ?_
    refine ev_bt hc_L (pc := 541) rfl rfl rfl ?_
    refine ev_go hc_L (k := 1) (pc' := 548) (L' := [.ref ci_scr, .ref 0, .ref 127, .ref 148, .int (nI (5 * i)), .int 0, .int b, ci_junk]) (S' := [.int 0]) rfl ?_
    refine ev_bt hc_L (pc := 548) rfl rfl (show (0 : Int32) = 0 from rfl) ?_
    refine ev_go hc_L (k := 2) (pc' := 553) (L' := [.ref ci_scr, .ref 0, .ref 127, .ref 148, .int (nI (5 * i)), .int 0, .int b, ci_junk]) (S' := [.int 0, .ref 148]) rfl ?_
    refine ev_4 hc_L (i := .laload) (len := 1) (S' := [.long (ν2.2 148 0)]) rfl law_out ?_
    refine ev_go hc_L (k := 3) (pc' := 558) (L' := [.ref ci_scr, .ref 0, .ref 127, .ref 148, .int (nI (5 * i)), .int 0, .int b, ci_junk]) (S' := [.int (lg_cmp (ν2.2 148 0) b.toInt64)]) rfl ?_
    refine ev_bt hc_L (pc := 558) rfl rfl ((cmp_0 _ _).mpr (by rw [hout, hb])) ?_
    refine ev_go hc_L (k := 1) (pc' := 1752) (L' := [.ref ci_scr, .ref 0, .ref 127, .ref 148, .int (nI (5 * i)), .int 0, .int b, ci_junk]) (S' := []) rfl ?_
    exact ev_weak (law_le _ _) kk
set_option maxRecDepth 20000 in
theorem lc_worth {xs : Nat → Int32} {N i B : Nat} {κ : Kp} {μ : Mem} {nx : ci_N} (hN : N ≤ 2560) (hi : 5 * i + 5 ≤ N) (hR : Ref0 κ) (hB : B ≤ 1000000) (hI : Inv B μ) : LC xs N i B κ μ nx 566 := by
  obtain ⟨v, μ1, μ2, e1, e2, hI2⟩ := pr_worth (xs (5 * i + 1)) (xs (5 * i + 2)) κ B μ hR hB hI
  refine ⟨μ2, nx, hI2, by omega, by omega, fun r kk => ?_⟩
  refine ev_go hc_L (k := 1) (pc' := 567) (L' := [.ref ci_scr, .ref 0, .ref 127, .ref 148, .int (nI (5 * i)), ci_junk, ci_junk, ci_junk]) (S' := [.ref 0]) rfl ?_
  refine ev_go hc_L (k := 4) (pc' := 572) (L' := [.ref ci_scr, .ref 0, .ref 127, .ref 148, .int (nI (5 * i)), ci_junk, ci_junk, ci_junk]) (S' := [.int (nI (5 * i) + 1), .ref ci_scr, .ref 0]) rfl ?_
  refine ev_4 hc_L (i := .iaload) (len := 1) (S' := [.int (xs (5 * i + 1)), .ref 0]) rfl (law_rd (m := 1) (by decide) hN hi) ?_
  refine ev_go hc_L (k := 4) (pc' := 578) (L' := [.ref ci_scr, .ref 0, .ref 127, .ref 148, .int (nI (5 * i)), ci_junk, ci_junk, ci_junk]) (S' := [.int (nI (5 * i) + 2), .ref ci_scr, .int (xs (5 * i + 1)), .ref 0]) rfl ?_
  refine ev_4 hc_L (i := .iaload) (len := 1) (S' := [.int (xs (5 * i + 2)), .int (xs (5 * i + 1)), .ref 0]) rfl (law_rd (m := 2) (by decide) hN hi) ?_
  refine ev_call (d := 1989) (vs := [.ref 0, .int (xs (5 * i + 1)), .int (xs (5 * i + 2))]) (rest := []) (q := q_X11_worth) hc_L (Or.inr rfl) (x := 104) (y := 11) rfl ms_104 rfl rfl (Nat.le_of_ble_eq_true rfl) (kO_recv (K_X11_worth e1)) (E_X11_worth e1 (by omega)) rfl ?_
  show Ev xs N 1990 287 582 [.ref ci_scr, .ref 0, .ref 127, .ref 148, .int (nI (5 * i)), ci_junk, ci_junk, ci_junk] [.int v] (hp κ μ1) nx r
  refine ev_go hc_L (k := 1) (pc' := 583) (L' := [.ref ci_scr, .ref 0, .ref 127, .ref 148, .int (nI (5 * i)), ci_junk, ci_junk, ci_junk]) (S' := [.ref 127, .int v]) rfl ?_
  refine ev_go hc_L (k := 4) (pc' := 588) (L' := [.ref ci_scr, .ref 0, .ref 127, .ref 148, .int (nI (5 * i)), ci_junk, ci_junk, ci_junk]) (S' := [.int (nI (5 * i) + 1), .ref ci_scr, .ref 127, .int v]) rfl ?_
  refine ev_4 hc_L (i := .iaload) (len := 1) (S' := [.int (xs (5 * i + 1)), .ref 127, .int v]) rfl (law_rd (m := 1) (by decide) hN hi) ?_
  refine ev_go hc_L (k := 4) (pc' := 594) (L' := [.ref ci_scr, .ref 0, .ref 127, .ref 148, .int (nI (5 * i)), ci_junk, ci_junk, ci_junk]) (S' := [.int (nI (5 * i) + 2), .ref ci_scr, .int (xs (5 * i + 1)), .ref 127, .int v]) rfl ?_
  refine ev_4 hc_L (i := .iaload) (len := 1) (S' := [.int (xs (5 * i + 2)), .int (xs (5 * i + 1)), .ref 127, .int v]) rfl (law_rd (m := 2) (by decide) hN hi) ?_
  refine ev_call (d := 1989) (vs := [.ref 127, .int (xs (5 * i + 1)), .int (xs (5 * i + 2))]) (rest := [.int v]) (q := q_X12_worth) hc_L (Or.inr rfl) (x := 213) (y := 12) rfl ms_213 rfl rfl (Nat.le_of_ble_eq_true rfl) (kO_recv (K_X12_worth e2)) (E_X12_worth e2 (by omega)) rfl ?_
  show Ev xs N 1990 287 598 [.ref ci_scr, .ref 0, .ref 127, .ref 148, .int (nI (5 * i)), ci_junk, ci_junk, ci_junk] [.int v, .int v] (hp κ μ2) nx r
  refine ev_bt hc_L (pc := 598) rfl rfl rfl ?_
  exact kk
set_option maxRecDepth 20000 in
theorem lc_set {xs : Nat → Int32} {N i B : Nat} {κ : Kp} {μ : Mem} {nx : ci_N} (hN : N ≤ 2560) (hi : 5 * i + 5 ≤ N) (hR : Ref0 κ) (hB : B ≤ 1000000) (hI : Inv B μ) : LC xs N i B κ μ nx 603 := by
  obtain ⟨v, μ1, μ2, e1, e2, hI2⟩ := pr_set (xs (5 * i + 1)) κ B μ hR hB hI
  refine ⟨μ2, nx, hI2, by omega, by omega, fun r kk => ?_⟩
  refine ev_go hc_L (k := 1) (pc' := 604) (L' := [.ref ci_scr, .ref 0, .ref 127, .ref 148, .int (nI (5 * i)), ci_junk, ci_junk, ci_junk]) (S' := [.ref 0]) rfl ?_
  refine ev_go hc_L (k := 4) (pc' := 609) (L' := [.ref ci_scr, .ref 0, .ref 127, .ref 148, .int (nI (5 * i)), ci_junk, ci_junk, ci_junk]) (S' := [.int (nI (5 * i) + 1), .ref ci_scr, .ref 0]) rfl ?_
  refine ev_4 hc_L (i := .iaload) (len := 1) (S' := [.int (xs (5 * i + 1)), .ref 0]) rfl (law_rd (m := 1) (by decide) hN hi) ?_
  refine ev_call (d := 1989) (vs := [.ref 0, .int (xs (5 * i + 1))]) (rest := []) (q := q_X11_set) hc_L (Or.inr rfl) (x := 105) (y := 11) rfl ms_105 rfl rfl (Nat.le_of_ble_eq_true rfl) (kO_recv (K_X11_set e1)) (E_X11_set e1 (by omega)) rfl ?_
  show Ev xs N 1990 287 613 [.ref ci_scr, .ref 0, .ref 127, .ref 148, .int (nI (5 * i)), ci_junk, ci_junk, ci_junk] [.int v] (hp κ μ1) nx r
  refine ev_go hc_L (k := 1) (pc' := 614) (L' := [.ref ci_scr, .ref 0, .ref 127, .ref 148, .int (nI (5 * i)), ci_junk, ci_junk, ci_junk]) (S' := [.ref 127, .int v]) rfl ?_
  refine ev_go hc_L (k := 4) (pc' := 619) (L' := [.ref ci_scr, .ref 0, .ref 127, .ref 148, .int (nI (5 * i)), ci_junk, ci_junk, ci_junk]) (S' := [.int (nI (5 * i) + 1), .ref ci_scr, .ref 127, .int v]) rfl ?_
  refine ev_4 hc_L (i := .iaload) (len := 1) (S' := [.int (xs (5 * i + 1)), .ref 127, .int v]) rfl (law_rd (m := 1) (by decide) hN hi) ?_
  refine ev_call (d := 1989) (vs := [.ref 127, .int (xs (5 * i + 1))]) (rest := [.int v]) (q := q_X12_set) hc_L (Or.inr rfl) (x := 214) (y := 12) rfl ms_214 rfl rfl (Nat.le_of_ble_eq_true rfl) (kO_recv (K_X12_set e2)) (E_X12_set e2 (by omega)) rfl ?_
  show Ev xs N 1990 287 623 [.ref ci_scr, .ref 0, .ref 127, .ref 148, .int (nI (5 * i)), ci_junk, ci_junk, ci_junk] [.int v, .int v] (hp κ μ2) nx r
  refine ev_bt hc_L (pc := 623) rfl rfl rfl ?_
  exact kk
set_option maxRecDepth 20000 in
theorem lc_sheet {xs : Nat → Int32} {N i B : Nat} {κ : Kp} {μ : Mem} {nx : ci_N} (hN : N ≤ 2560) (hi : 5 * i + 5 ≤ N) (hR : Ref0 κ) (hB : B ≤ 1000000) (hI : Inv B μ) : LC xs N i B κ μ nx 628 := by
  obtain ⟨v, μ1, μ2, e1, e2, hI2⟩ := pr_sheet (xs (5 * i + 1)) (xs (5 * i + 2)) (xs (5 * i + 3)) (xs (5 * i + 4)) κ B μ hR hB hI
  refine ⟨μ2, nx, hI2, by omega, by omega, fun r kk => ?_⟩
  refine ev_go hc_L (k := 1) (pc' := 629) (L' := [.ref ci_scr, .ref 0, .ref 127, .ref 148, .int (nI (5 * i)), ci_junk, ci_junk, ci_junk]) (S' := [.ref 0]) rfl ?_
  refine ev_go hc_L (k := 4) (pc' := 634) (L' := [.ref ci_scr, .ref 0, .ref 127, .ref 148, .int (nI (5 * i)), ci_junk, ci_junk, ci_junk]) (S' := [.int (nI (5 * i) + 1), .ref ci_scr, .ref 0]) rfl ?_
  refine ev_4 hc_L (i := .iaload) (len := 1) (S' := [.int (xs (5 * i + 1)), .ref 0]) rfl (law_rd (m := 1) (by decide) hN hi) ?_
  refine ev_go hc_L (k := 4) (pc' := 640) (L' := [.ref ci_scr, .ref 0, .ref 127, .ref 148, .int (nI (5 * i)), ci_junk, ci_junk, ci_junk]) (S' := [.int (nI (5 * i) + 2), .ref ci_scr, .int (xs (5 * i + 1)), .ref 0]) rfl ?_
  refine ev_4 hc_L (i := .iaload) (len := 1) (S' := [.int (xs (5 * i + 2)), .int (xs (5 * i + 1)), .ref 0]) rfl (law_rd (m := 2) (by decide) hN hi) ?_
  refine ev_go hc_L (k := 4) (pc' := 646) (L' := [.ref ci_scr, .ref 0, .ref 127, .ref 148, .int (nI (5 * i)), ci_junk, ci_junk, ci_junk]) (S' := [.int (nI (5 * i) + 3), .ref ci_scr, .int (xs (5 * i + 2)), .int (xs (5 * i + 1)), .ref 0]) rfl ?_
  refine ev_4 hc_L (i := .iaload) (len := 1) (S' := [.int (xs (5 * i + 3)), .int (xs (5 * i + 2)), .int (xs (5 * i + 1)), .ref 0]) rfl (law_rd (m := 3) (by decide) hN hi) ?_
  refine ev_go hc_L (k := 4) (pc' := 652) (L' := [.ref ci_scr, .ref 0, .ref 127, .ref 148, .int (nI (5 * i)), ci_junk, ci_junk, ci_junk]) (S' := [.int (nI (5 * i) + 4), .ref ci_scr, .int (xs (5 * i + 3)), .int (xs (5 * i + 2)), .int (xs (5 * i + 1)), .ref 0]) rfl ?_
  refine ev_4 hc_L (i := .iaload) (len := 1) (S' := [.int (xs (5 * i + 4)), .int (xs (5 * i + 3)), .int (xs (5 * i + 2)), .int (xs (5 * i + 1)), .ref 0]) rfl (law_rd (m := 4) (by decide) hN hi) ?_
  refine ev_call (d := 1989) (vs := [.ref 0, .int (xs (5 * i + 1)), .int (xs (5 * i + 2)), .int (xs (5 * i + 3)), .int (xs (5 * i + 4))]) (rest := []) (q := q_X11_sheet) hc_L (Or.inr rfl) (x := 106) (y := 11) rfl ms_106 rfl rfl (Nat.le_of_ble_eq_true rfl) (kO_recv (K_X11_sheet e1)) (E_X11_sheet e1 (by omega)) rfl ?_
  show Ev xs N 1990 287 656 [.ref ci_scr, .ref 0, .ref 127, .ref 148, .int (nI (5 * i)), ci_junk, ci_junk, ci_junk] [.int v] (hp κ μ1) nx r
  refine ev_go hc_L (k := 1) (pc' := 657) (L' := [.ref ci_scr, .ref 0, .ref 127, .ref 148, .int (nI (5 * i)), ci_junk, ci_junk, ci_junk]) (S' := [.ref 127, .int v]) rfl ?_
  refine ev_go hc_L (k := 4) (pc' := 662) (L' := [.ref ci_scr, .ref 0, .ref 127, .ref 148, .int (nI (5 * i)), ci_junk, ci_junk, ci_junk]) (S' := [.int (nI (5 * i) + 1), .ref ci_scr, .ref 127, .int v]) rfl ?_
  refine ev_4 hc_L (i := .iaload) (len := 1) (S' := [.int (xs (5 * i + 1)), .ref 127, .int v]) rfl (law_rd (m := 1) (by decide) hN hi) ?_
  refine ev_go hc_L (k := 4) (pc' := 668) (L' := [.ref ci_scr, .ref 0, .ref 127, .ref 148, .int (nI (5 * i)), ci_junk, ci_junk, ci_junk]) (S' := [.int (nI (5 * i) + 2), .ref ci_scr, .int (xs (5 * i + 1)), .ref 127, .int v]) rfl ?_
  refine ev_4 hc_L (i := .iaload) (len := 1) (S' := [.int (xs (5 * i + 2)), .int (xs (5 * i + 1)), .ref 127, .int v]) rfl (law_rd (m := 2) (by decide) hN hi) ?_
  refine ev_go hc_L (k := 4) (pc' := 674) (L' := [.ref ci_scr, .ref 0, .ref 127, .ref 148, .int (nI (5 * i)), ci_junk, ci_junk, ci_junk]) (S' := [.int (nI (5 * i) + 3), .ref ci_scr, .int (xs (5 * i + 2)), .int (xs (5 * i + 1)), .ref 127, .int v]) rfl ?_
  refine ev_4 hc_L (i := .iaload) (len := 1) (S' := [.int (xs (5 * i + 3)), .int (xs (5 * i + 2)), .int (xs (5 * i + 1)), .ref 127, .int v]) rfl (law_rd (m := 3) (by decide) hN hi) ?_
  refine ev_go hc_L (k := 4) (pc' := 680) (L' := [.ref ci_scr, .ref 0, .ref 127, .ref 148, .int (nI (5 * i)), ci_junk, ci_junk, ci_junk]) (S' := [.int (nI (5 * i) + 4), .ref ci_scr, .int (xs (5 * i + 3)), .int (xs (5 * i + 2)), .int (xs (5 * i + 1)), .ref 127, .int v]) rfl ?_
  refine ev_4 hc_L (i := .iaload) (len := 1) (S' := [.int (xs (5 * i + 4)), .int (xs (5 * i + 3)), .int (xs (5 * i + 2)), .int (xs (5 * i + 1)), .ref 127, .int v]) rfl (law_rd (m := 4) (by decide) hN hi) ?_
  refine ev_call (d := 1989) (vs := [.ref 127, .int (xs (5 * i + 1)), .int (xs (5 * i + 2)), .int (xs (5 * i + 3)), .int (xs (5 * i + 4))]) (rest := [.int v]) (q := q_X12_sheet) hc_L (Or.inr rfl) (x := 215) (y := 12) rfl ms_215 rfl rfl (Nat.le_of_ble_eq_true rfl) (kO_recv (K_X12_sheet e2)) (E_X12_sheet e2 (by omega)) rfl ?_
  show Ev xs N 1990 287 684 [.ref ci_scr, .ref 0, .ref 127, .ref 148, .int (nI (5 * i)), ci_junk, ci_junk, ci_junk] [.int v, .int v] (hp κ μ2) nx r
  refine ev_bt hc_L (pc := 684) rfl rfl rfl ?_
  exact kk
