/-! PURE: the law's loop, calls. -/
set_option maxRecDepth 20000 in
theorem lc_buy {xs : Nat → Int32} {N i B : Nat} {κ : Kp} {μ : Mem} {nx : ci_N} (hN : N ≤ 2560) (hi : 5 * i + 5 ≤ N) (hR : Ref0 κ) (hB : B ≤ 1000000) (hI : Inv B μ) : LC xs N i B κ μ nx 689 := by
  obtain ⟨v, μ1, μ2, e1, e2, hI2⟩ := pr_buy (xs (5 * i + 1)) (xs (5 * i + 2)) κ B μ hR hB hI
  refine ⟨μ2, nx, hI2, by omega, by omega, fun r kk => ?_⟩
  refine ev_go hc_L (k := 1) (pc' := 690) (L' := [.ref ci_scr, .ref 0, .ref 127, .ref 148, .int (nI (5 * i)), ci_junk, ci_junk, ci_junk]) (S' := [.ref 0]) rfl ?_
  refine ev_go hc_L (k := 4) (pc' := 695) (L' := [.ref ci_scr, .ref 0, .ref 127, .ref 148, .int (nI (5 * i)), ci_junk, ci_junk, ci_junk]) (S' := [.int (nI (5 * i) + 1), .ref ci_scr, .ref 0]) rfl ?_
  refine ev_4 hc_L (i := .iaload) (len := 1) (S' := [.int (xs (5 * i + 1)), .ref 0]) rfl (law_rd (m := 1) (by decide) hN hi) ?_
  refine ev_go hc_L (k := 4) (pc' := 701) (L' := [.ref ci_scr, .ref 0, .ref 127, .ref 148, .int (nI (5 * i)), ci_junk, ci_junk, ci_junk]) (S' := [.int (nI (5 * i) + 2), .ref ci_scr, .int (xs (5 * i + 1)), .ref 0]) rfl ?_
  refine ev_4 hc_L (i := .iaload) (len := 1) (S' := [.int (xs (5 * i + 2)), .int (xs (5 * i + 1)), .ref 0]) rfl (law_rd (m := 2) (by decide) hN hi) ?_
  refine ev_call (d := 1989) (vs := [.ref 0, .int (xs (5 * i + 1)), .int (xs (5 * i + 2))]) (rest := []) (q := q_X11_buy) hc_L (Or.inr rfl) (x := 107) (y := 11) rfl ms_107 rfl rfl (Nat.le_of_ble_eq_true rfl) (kO_recv (K_X11_buy e1)) (E_X11_buy e1 (by omega)) rfl ?_
  show Ev xs N 1990 287 705 [.ref ci_scr, .ref 0, .ref 127, .ref 148, .int (nI (5 * i)), ci_junk, ci_junk, ci_junk] [.int v] (hp κ μ1) nx r
  refine ev_go hc_L (k := 1) (pc' := 706) (L' := [.ref ci_scr, .ref 0, .ref 127, .ref 148, .int (nI (5 * i)), ci_junk, ci_junk, ci_junk]) (S' := [.ref 127, .int v]) rfl ?_
  refine ev_go hc_L (k := 4) (pc' := 711) (L' := [.ref ci_scr, .ref 0, .ref 127, .ref 148, .int (nI (5 * i)), ci_junk, ci_junk, ci_junk]) (S' := [.int (nI (5 * i) + 1), .ref ci_scr, .ref 127, .int v]) rfl ?_
  refine ev_4 hc_L (i := .iaload) (len := 1) (S' := [.int (xs (5 * i + 1)), .ref 127, .int v]) rfl (law_rd (m := 1) (by decide) hN hi) ?_
  refine ev_go hc_L (k := 4) (pc' := 717) (L' := [.ref ci_scr, .ref 0, .ref 127, .ref 148, .int (nI (5 * i)), ci_junk, ci_junk, ci_junk]) (S' := [.int (nI (5 * i) + 2), .ref ci_scr, .int (xs (5 * i + 1)), .ref 127, .int v]) rfl ?_
  refine ev_4 hc_L (i := .iaload) (len := 1) (S' := [.int (xs (5 * i + 2)), .int (xs (5 * i + 1)), .ref 127, .int v]) rfl (law_rd (m := 2) (by decide) hN hi) ?_
  refine ev_call (d := 1989) (vs := [.ref 127, .int (xs (5 * i + 1)), .int (xs (5 * i + 2))]) (rest := [.int v]) (q := q_X12_buy) hc_L (Or.inr rfl) (x := 224) (y := 12) rfl ms_224 rfl rfl (Nat.le_of_ble_eq_true rfl) (kO_recv (K_X12_buy e2)) (E_X12_buy e2 (by omega)) rfl ?_
  show Ev xs N 1990 287 721 [.ref ci_scr, .ref 0, .ref 127, .ref 148, .int (nI (5 * i)), ci_junk, ci_junk, ci_junk] [.int v, .int v] (hp κ μ2) nx r
  refine ev_bt hc_L (pc := 721) rfl rfl rfl ?_
  exact kk
set_option maxRecDepth 20000 in
theorem lc_give {xs : Nat → Int32} {N i B : Nat} {κ : Kp} {μ : Mem} {nx : ci_N} (hN : N ≤ 2560) (hi : 5 * i + 5 ≤ N) (hR : Ref0 κ) (hB : B ≤ 1000000) (hI : Inv B μ) : LC xs N i B κ μ nx 726 := by
  obtain ⟨v, μ1, μ2, e1, e2, hI2⟩ := pr_give (xs (5 * i + 1)) (xs (5 * i + 2)) κ B μ hR hB hI
  refine ⟨μ2, nx, hI2, by omega, by omega, fun r kk => ?_⟩
  refine ev_go hc_L (k := 1) (pc' := 727) (L' := [.ref ci_scr, .ref 0, .ref 127, .ref 148, .int (nI (5 * i)), ci_junk, ci_junk, ci_junk]) (S' := [.ref 0]) rfl ?_
  refine ev_go hc_L (k := 4) (pc' := 732) (L' := [.ref ci_scr, .ref 0, .ref 127, .ref 148, .int (nI (5 * i)), ci_junk, ci_junk, ci_junk]) (S' := [.int (nI (5 * i) + 1), .ref ci_scr, .ref 0]) rfl ?_
  refine ev_4 hc_L (i := .iaload) (len := 1) (S' := [.int (xs (5 * i + 1)), .ref 0]) rfl (law_rd (m := 1) (by decide) hN hi) ?_
  refine ev_go hc_L (k := 4) (pc' := 738) (L' := [.ref ci_scr, .ref 0, .ref 127, .ref 148, .int (nI (5 * i)), ci_junk, ci_junk, ci_junk]) (S' := [.int (nI (5 * i) + 2), .ref ci_scr, .int (xs (5 * i + 1)), .ref 0]) rfl ?_
  refine ev_4 hc_L (i := .iaload) (len := 1) (S' := [.int (xs (5 * i + 2)), .int (xs (5 * i + 1)), .ref 0]) rfl (law_rd (m := 2) (by decide) hN hi) ?_
  refine ev_call (d := 1989) (vs := [.ref 0, .int (xs (5 * i + 1)), .int (xs (5 * i + 2))]) (rest := []) (q := q_X11_give) hc_L (Or.inr rfl) (x := 108) (y := 11) rfl ms_108 rfl rfl (Nat.le_of_ble_eq_true rfl) (kO_recv (K_X11_give e1)) (E_X11_give e1 (by omega)) rfl ?_
  show Ev xs N 1990 287 742 [.ref ci_scr, .ref 0, .ref 127, .ref 148, .int (nI (5 * i)), ci_junk, ci_junk, ci_junk] [.int v] (hp κ μ1) nx r
  refine ev_go hc_L (k := 1) (pc' := 743) (L' := [.ref ci_scr, .ref 0, .ref 127, .ref 148, .int (nI (5 * i)), ci_junk, ci_junk, ci_junk]) (S' := [.ref 127, .int v]) rfl ?_
  refine ev_go hc_L (k := 4) (pc' := 748) (L' := [.ref ci_scr, .ref 0, .ref 127, .ref 148, .int (nI (5 * i)), ci_junk, ci_junk, ci_junk]) (S' := [.int (nI (5 * i) + 1), .ref ci_scr, .ref 127, .int v]) rfl ?_
  refine ev_4 hc_L (i := .iaload) (len := 1) (S' := [.int (xs (5 * i + 1)), .ref 127, .int v]) rfl (law_rd (m := 1) (by decide) hN hi) ?_
  refine ev_go hc_L (k := 4) (pc' := 754) (L' := [.ref ci_scr, .ref 0, .ref 127, .ref 148, .int (nI (5 * i)), ci_junk, ci_junk, ci_junk]) (S' := [.int (nI (5 * i) + 2), .ref ci_scr, .int (xs (5 * i + 1)), .ref 127, .int v]) rfl ?_
  refine ev_4 hc_L (i := .iaload) (len := 1) (S' := [.int (xs (5 * i + 2)), .int (xs (5 * i + 1)), .ref 127, .int v]) rfl (law_rd (m := 2) (by decide) hN hi) ?_
  refine ev_call (d := 1989) (vs := [.ref 127, .int (xs (5 * i + 1)), .int (xs (5 * i + 2))]) (rest := [.int v]) (q := q_X12_give) hc_L (Or.inr rfl) (x := 226) (y := 12) rfl ms_226 rfl rfl (Nat.le_of_ble_eq_true rfl) (kO_recv (K_X12_give e2)) (E_X12_give e2 (by omega)) rfl ?_
  show Ev xs N 1990 287 758 [.ref ci_scr, .ref 0, .ref 127, .ref 148, .int (nI (5 * i)), ci_junk, ci_junk, ci_junk] [.int v, .int v] (hp κ μ2) nx r
  refine ev_bt hc_L (pc := 758) rfl rfl rfl ?_
  exact kk
set_option maxRecDepth 20000 in
theorem lc_lend {xs : Nat → Int32} {N i B : Nat} {κ : Kp} {μ : Mem} {nx : ci_N} (hN : N ≤ 2560) (hi : 5 * i + 5 ≤ N) (hR : Ref0 κ) (hB : B ≤ 1000000) (hI : Inv B μ) : LC xs N i B κ μ nx 763 := by
  obtain ⟨v, μ1, μ2, e1, e2, hI2⟩ := pr_lend (xs (5 * i + 1)) (xs (5 * i + 2)) κ B μ hR hB hI
  refine ⟨μ2, nx, hI2, by omega, by omega, fun r kk => ?_⟩
  refine ev_go hc_L (k := 1) (pc' := 764) (L' := [.ref ci_scr, .ref 0, .ref 127, .ref 148, .int (nI (5 * i)), ci_junk, ci_junk, ci_junk]) (S' := [.ref 0]) rfl ?_
  refine ev_go hc_L (k := 4) (pc' := 769) (L' := [.ref ci_scr, .ref 0, .ref 127, .ref 148, .int (nI (5 * i)), ci_junk, ci_junk, ci_junk]) (S' := [.int (nI (5 * i) + 1), .ref ci_scr, .ref 0]) rfl ?_
  refine ev_4 hc_L (i := .iaload) (len := 1) (S' := [.int (xs (5 * i + 1)), .ref 0]) rfl (law_rd (m := 1) (by decide) hN hi) ?_
  refine ev_go hc_L (k := 4) (pc' := 775) (L' := [.ref ci_scr, .ref 0, .ref 127, .ref 148, .int (nI (5 * i)), ci_junk, ci_junk, ci_junk]) (S' := [.int (nI (5 * i) + 2), .ref ci_scr, .int (xs (5 * i + 1)), .ref 0]) rfl ?_
  refine ev_4 hc_L (i := .iaload) (len := 1) (S' := [.int (xs (5 * i + 2)), .int (xs (5 * i + 1)), .ref 0]) rfl (law_rd (m := 2) (by decide) hN hi) ?_
  refine ev_call (d := 1989) (vs := [.ref 0, .int (xs (5 * i + 1)), .int (xs (5 * i + 2))]) (rest := []) (q := q_X11_lend) hc_L (Or.inr rfl) (x := 109) (y := 11) rfl ms_109 rfl rfl (Nat.le_of_ble_eq_true rfl) (kO_recv (K_X11_lend e1)) (E_X11_lend e1 (by omega)) rfl ?_
  show Ev xs N 1990 287 779 [.ref ci_scr, .ref 0, .ref 127, .ref 148, .int (nI (5 * i)), ci_junk, ci_junk, ci_junk] [.int v] (hp κ μ1) nx r
  refine ev_go hc_L (k := 1) (pc' := 780) (L' := [.ref ci_scr, .ref 0, .ref 127, .ref 148, .int (nI (5 * i)), ci_junk, ci_junk, ci_junk]) (S' := [.ref 127, .int v]) rfl ?_
  refine ev_go hc_L (k := 4) (pc' := 785) (L' := [.ref ci_scr, .ref 0, .ref 127, .ref 148, .int (nI (5 * i)), ci_junk, ci_junk, ci_junk]) (S' := [.int (nI (5 * i) + 1), .ref ci_scr, .ref 127, .int v]) rfl ?_
  refine ev_4 hc_L (i := .iaload) (len := 1) (S' := [.int (xs (5 * i + 1)), .ref 127, .int v]) rfl (law_rd (m := 1) (by decide) hN hi) ?_
  refine ev_go hc_L (k := 4) (pc' := 791) (L' := [.ref ci_scr, .ref 0, .ref 127, .ref 148, .int (nI (5 * i)), ci_junk, ci_junk, ci_junk]) (S' := [.int (nI (5 * i) + 2), .ref ci_scr, .int (xs (5 * i + 1)), .ref 127, .int v]) rfl ?_
  refine ev_4 hc_L (i := .iaload) (len := 1) (S' := [.int (xs (5 * i + 2)), .int (xs (5 * i + 1)), .ref 127, .int v]) rfl (law_rd (m := 2) (by decide) hN hi) ?_
  refine ev_call (d := 1989) (vs := [.ref 127, .int (xs (5 * i + 1)), .int (xs (5 * i + 2))]) (rest := [.int v]) (q := q_X12_lend) hc_L (Or.inr rfl) (x := 228) (y := 12) rfl ms_228 rfl rfl (Nat.le_of_ble_eq_true rfl) (kO_recv (K_X12_lend e2)) (E_X12_lend e2 (by omega)) rfl ?_
  show Ev xs N 1990 287 795 [.ref ci_scr, .ref 0, .ref 127, .ref 148, .int (nI (5 * i)), ci_junk, ci_junk, ci_junk] [.int v, .int v] (hp κ μ2) nx r
  refine ev_bt hc_L (pc := 795) rfl rfl rfl ?_
  exact kk
set_option maxRecDepth 20000 in
theorem lc_claim {xs : Nat → Int32} {N i B : Nat} {κ : Kp} {μ : Mem} {nx : ci_N} (hN : N ≤ 2560) (hi : 5 * i + 5 ≤ N) (hR : Ref0 κ) (hB : B ≤ 1000000) (hI : Inv B μ) : LC xs N i B κ μ nx 800 := by
  obtain ⟨v, μ1, μ2, e1, e2, hI2⟩ := pr_claim (xs (5 * i + 1)) (xs (5 * i + 2)) κ B μ hR hB hI
  refine ⟨μ2, nx, hI2, by omega, by omega, fun r kk => ?_⟩
  refine ev_go hc_L (k := 1) (pc' := 801) (L' := [.ref ci_scr, .ref 0, .ref 127, .ref 148, .int (nI (5 * i)), ci_junk, ci_junk, ci_junk]) (S' := [.ref 0]) rfl ?_
  refine ev_go hc_L (k := 4) (pc' := 806) (L' := [.ref ci_scr, .ref 0, .ref 127, .ref 148, .int (nI (5 * i)), ci_junk, ci_junk, ci_junk]) (S' := [.int (nI (5 * i) + 1), .ref ci_scr, .ref 0]) rfl ?_
  refine ev_4 hc_L (i := .iaload) (len := 1) (S' := [.int (xs (5 * i + 1)), .ref 0]) rfl (law_rd (m := 1) (by decide) hN hi) ?_
  refine ev_go hc_L (k := 4) (pc' := 812) (L' := [.ref ci_scr, .ref 0, .ref 127, .ref 148, .int (nI (5 * i)), ci_junk, ci_junk, ci_junk]) (S' := [.int (nI (5 * i) + 2), .ref ci_scr, .int (xs (5 * i + 1)), .ref 0]) rfl ?_
  refine ev_4 hc_L (i := .iaload) (len := 1) (S' := [.int (xs (5 * i + 2)), .int (xs (5 * i + 1)), .ref 0]) rfl (law_rd (m := 2) (by decide) hN hi) ?_
  refine ev_call (d := 1989) (vs := [.ref 0, .int (xs (5 * i + 1)), .int (xs (5 * i + 2))]) (rest := []) (q := q_X11_claim) hc_L (Or.inr rfl) (x := 110) (y := 11) rfl ms_110 rfl rfl (Nat.le_of_ble_eq_true rfl) (kO_recv (K_X11_claim e1)) (E_X11_claim e1 (by omega)) rfl ?_
  show Ev xs N 1990 287 816 [.ref ci_scr, .ref 0, .ref 127, .ref 148, .int (nI (5 * i)), ci_junk, ci_junk, ci_junk] [.int v] (hp κ μ1) nx r
  refine ev_go hc_L (k := 1) (pc' := 817) (L' := [.ref ci_scr, .ref 0, .ref 127, .ref 148, .int (nI (5 * i)), ci_junk, ci_junk, ci_junk]) (S' := [.ref 127, .int v]) rfl ?_
  refine ev_go hc_L (k := 4) (pc' := 822) (L' := [.ref ci_scr, .ref 0, .ref 127, .ref 148, .int (nI (5 * i)), ci_junk, ci_junk, ci_junk]) (S' := [.int (nI (5 * i) + 1), .ref ci_scr, .ref 127, .int v]) rfl ?_
  refine ev_4 hc_L (i := .iaload) (len := 1) (S' := [.int (xs (5 * i + 1)), .ref 127, .int v]) rfl (law_rd (m := 1) (by decide) hN hi) ?_
  refine ev_go hc_L (k := 4) (pc' := 828) (L' := [.ref ci_scr, .ref 0, .ref 127, .ref 148, .int (nI (5 * i)), ci_junk, ci_junk, ci_junk]) (S' := [.int (nI (5 * i) + 2), .ref ci_scr, .int (xs (5 * i + 1)), .ref 127, .int v]) rfl ?_
  refine ev_4 hc_L (i := .iaload) (len := 1) (S' := [.int (xs (5 * i + 2)), .int (xs (5 * i + 1)), .ref 127, .int v]) rfl (law_rd (m := 2) (by decide) hN hi) ?_
  refine ev_call (d := 1989) (vs := [.ref 127, .int (xs (5 * i + 1)), .int (xs (5 * i + 2))]) (rest := [.int v]) (q := q_X12_claim) hc_L (Or.inr rfl) (x := 230) (y := 12) rfl ms_230 rfl rfl (Nat.le_of_ble_eq_true rfl) (kO_recv (K_X12_claim e2)) (E_X12_claim e2 (by omega)) rfl ?_
  show Ev xs N 1990 287 832 [.ref ci_scr, .ref 0, .ref 127, .ref 148, .int (nI (5 * i)), ci_junk, ci_junk, ci_junk] [.int v, .int v] (hp κ μ2) nx r
  refine ev_bt hc_L (pc := 832) rfl rfl rfl ?_
  exact kk
set_option maxRecDepth 20000 in
theorem lc_paint {xs : Nat → Int32} {N i B : Nat} {κ : Kp} {μ : Mem} {nx : ci_N} (hN : N ≤ 2560) (hi : 5 * i + 5 ≤ N) (hR : Ref0 κ) (hB : B ≤ 1000000) (hI : Inv B μ) : LC xs N i B κ μ nx 837 := by
  obtain ⟨v, μ1, μ2, e1, e2, hI2⟩ := pr_paint (xs (5 * i + 1)) (xs (5 * i + 2)) κ B μ hR hB hI
  refine ⟨μ2, nx, hI2, by omega, by omega, fun r kk => ?_⟩
  refine ev_go hc_L (k := 1) (pc' := 838) (L' := [.ref ci_scr, .ref 0, .ref 127, .ref 148, .int (nI (5 * i)), ci_junk, ci_junk, ci_junk]) (S' := [.ref 0]) rfl ?_
  refine ev_go hc_L (k := 4) (pc' := 843) (L' := [.ref ci_scr, .ref 0, .ref 127, .ref 148, .int (nI (5 * i)), ci_junk, ci_junk, ci_junk]) (S' := [.int (nI (5 * i) + 1), .ref ci_scr, .ref 0]) rfl ?_
  refine ev_4 hc_L (i := .iaload) (len := 1) (S' := [.int (xs (5 * i + 1)), .ref 0]) rfl (law_rd (m := 1) (by decide) hN hi) ?_
  refine ev_go hc_L (k := 4) (pc' := 849) (L' := [.ref ci_scr, .ref 0, .ref 127, .ref 148, .int (nI (5 * i)), ci_junk, ci_junk, ci_junk]) (S' := [.int (nI (5 * i) + 2), .ref ci_scr, .int (xs (5 * i + 1)), .ref 0]) rfl ?_
  refine ev_4 hc_L (i := .iaload) (len := 1) (S' := [.int (xs (5 * i + 2)), .int (xs (5 * i + 1)), .ref 0]) rfl (law_rd (m := 2) (by decide) hN hi) ?_
  refine ev_call (d := 1989) (vs := [.ref 0, .int (xs (5 * i + 1)), .int (xs (5 * i + 2))]) (rest := []) (q := q_X11_paint) hc_L (Or.inr rfl) (x := 111) (y := 11) rfl ms_111 rfl rfl (Nat.le_of_ble_eq_true rfl) (kO_recv (K_X11_paint e1)) (E_X11_paint e1 (by omega)) rfl ?_
  show Ev xs N 1990 287 853 [.ref ci_scr, .ref 0, .ref 127, .ref 148, .int (nI (5 * i)), ci_junk, ci_junk, ci_junk] [.int v] (hp κ μ1) nx r
  refine ev_go hc_L (k := 1) (pc' := 854) (L' := [.ref ci_scr, .ref 0, .ref 127, .ref 148, .int (nI (5 * i)), ci_junk, ci_junk, ci_junk]) (S' := [.ref 127, .int v]) rfl ?_
  refine ev_go hc_L (k := 4) (pc' := 859) (L' := [.ref ci_scr, .ref 0, .ref 127, .ref 148, .int (nI (5 * i)), ci_junk, ci_junk, ci_junk]) (S' := [.int (nI (5 * i) + 1), .ref ci_scr, .ref 127, .int v]) rfl ?_
  refine ev_4 hc_L (i := .iaload) (len := 1) (S' := [.int (xs (5 * i + 1)), .ref 127, .int v]) rfl (law_rd (m := 1) (by decide) hN hi) ?_
  refine ev_go hc_L (k := 4) (pc' := 865) (L' := [.ref ci_scr, .ref 0, .ref 127, .ref 148, .int (nI (5 * i)), ci_junk, ci_junk, ci_junk]) (S' := [.int (nI (5 * i) + 2), .ref ci_scr, .int (xs (5 * i + 1)), .ref 127, .int v]) rfl ?_
  refine ev_4 hc_L (i := .iaload) (len := 1) (S' := [.int (xs (5 * i + 2)), .int (xs (5 * i + 1)), .ref 127, .int v]) rfl (law_rd (m := 2) (by decide) hN hi) ?_
  refine ev_call (d := 1989) (vs := [.ref 127, .int (xs (5 * i + 1)), .int (xs (5 * i + 2))]) (rest := [.int v]) (q := q_X12_paint) hc_L (Or.inr rfl) (x := 231) (y := 12) rfl ms_231 rfl rfl (Nat.le_of_ble_eq_true rfl) (kO_recv (K_X12_paint e2)) (E_X12_paint e2 (by omega)) rfl ?_
  show Ev xs N 1990 287 869 [.ref ci_scr, .ref 0, .ref 127, .ref 148, .int (nI (5 * i)), ci_junk, ci_junk, ci_junk] [.int v, .int v] (hp κ μ2) nx r
  refine ev_bt hc_L (pc := 869) rfl rfl rfl ?_
  exact kk
set_option maxRecDepth 20000 in
theorem lc_hours {xs : Nat → Int32} {N i B : Nat} {κ : Kp} {μ : Mem} {nx : ci_N} (hN : N ≤ 2560) (hi : 5 * i + 5 ≤ N) (hR : Ref0 κ) (hB : B ≤ 1000000) (hI : Inv B μ) : LC xs N i B κ μ nx 874 := by
  obtain ⟨v, μ1, μ2, e1, e2, hI2⟩ := pr_hours (xs (5 * i + 1)) κ B μ hR hB hI
  refine ⟨μ2, nx, hI2, by omega, by omega, fun r kk => ?_⟩
  refine ev_go hc_L (k := 1) (pc' := 875) (L' := [.ref ci_scr, .ref 0, .ref 127, .ref 148, .int (nI (5 * i)), ci_junk, ci_junk, ci_junk]) (S' := [.ref 0]) rfl ?_
  refine ev_go hc_L (k := 4) (pc' := 880) (L' := [.ref ci_scr, .ref 0, .ref 127, .ref 148, .int (nI (5 * i)), ci_junk, ci_junk, ci_junk]) (S' := [.int (nI (5 * i) + 1), .ref ci_scr, .ref 0]) rfl ?_
  refine ev_4 hc_L (i := .iaload) (len := 1) (S' := [.int (xs (5 * i + 1)), .ref 0]) rfl (law_rd (m := 1) (by decide) hN hi) ?_
  refine ev_call (d := 1989) (vs := [.ref 0, .int (xs (5 * i + 1))]) (rest := []) (q := q_X11_hours) hc_L (Or.inr rfl) (x := 112) (y := 11) rfl ms_112 rfl rfl (Nat.le_of_ble_eq_true rfl) (kO_recv (K_X11_hours e1)) (E_X11_hours e1 (by omega)) rfl ?_
  show Ev xs N 1990 287 884 [.ref ci_scr, .ref 0, .ref 127, .ref 148, .int (nI (5 * i)), ci_junk, ci_junk, ci_junk] [.int v] (hp κ μ1) nx r
  refine ev_go hc_L (k := 1) (pc' := 885) (L' := [.ref ci_scr, .ref 0, .ref 127, .ref 148, .int (nI (5 * i)), ci_junk, ci_junk, ci_junk]) (S' := [.ref 127, .int v]) rfl ?_
  refine ev_go hc_L (k := 4) (pc' := 890) (L' := [.ref ci_scr, .ref 0, .ref 127, .ref 148, .int (nI (5 * i)), ci_junk, ci_junk, ci_junk]) (S' := [.int (nI (5 * i) + 1), .ref ci_scr, .ref 127, .int v]) rfl ?_
  refine ev_4 hc_L (i := .iaload) (len := 1) (S' := [.int (xs (5 * i + 1)), .ref 127, .int v]) rfl (law_rd (m := 1) (by decide) hN hi) ?_
  refine ev_call (d := 1989) (vs := [.ref 127, .int (xs (5 * i + 1))]) (rest := [.int v]) (q := q_X12_hours) hc_L (Or.inr rfl) (x := 235) (y := 12) rfl ms_235 rfl rfl (Nat.le_of_ble_eq_true rfl) (kO_recv (K_X12_hours e2)) (E_X12_hours e2 (by omega)) rfl ?_
  show Ev xs N 1990 287 894 [.ref ci_scr, .ref 0, .ref 127, .ref 148, .int (nI (5 * i)), ci_junk, ci_junk, ci_junk] [.int v, .int v] (hp κ μ2) nx r
  refine ev_bt hc_L (pc := 894) rfl rfl rfl ?_
  exact kk
set_option maxRecDepth 20000 in
theorem lc_day {xs : Nat → Int32} {N i B : Nat} {κ : Kp} {μ : Mem} {nx : ci_N} (hN : N ≤ 2560) (hi : 5 * i + 5 ≤ N) (hR : Ref0 κ) (hB : B ≤ 1000000) (hI : Inv B μ) : LC xs N i B κ μ nx 899 := by
  obtain ⟨v, μ1, μ2, e1, e2, hI2⟩ := pr_day κ B μ hR hB hI
  refine ⟨μ2, nx, hI2, by omega, by omega, fun r kk => ?_⟩
  refine ev_go hc_L (k := 1) (pc' := 900) (L' := [.ref ci_scr, .ref 0, .ref 127, .ref 148, .int (nI (5 * i)), ci_junk, ci_junk, ci_junk]) (S' := [.ref 0]) rfl ?_
  refine ev_call (d := 1989) (vs := [.ref 0]) (rest := []) (q := q_X11_day) hc_L (Or.inr rfl) (x := 113) (y := 11) rfl ms_113 rfl rfl (Nat.le_of_ble_eq_true rfl) (kO_recv (K_X11_day e1)) (E_X11_day e1 (by omega)) rfl ?_
  show Ev xs N 1990 287 903 [.ref ci_scr, .ref 0, .ref 127, .ref 148, .int (nI (5 * i)), ci_junk, ci_junk, ci_junk] [.int v] (hp κ μ1) nx r
  refine ev_go hc_L (k := 1) (pc' := 904) (L' := [.ref ci_scr, .ref 0, .ref 127, .ref 148, .int (nI (5 * i)), ci_junk, ci_junk, ci_junk]) (S' := [.ref 127, .int v]) rfl ?_
  refine ev_call (d := 1989) (vs := [.ref 127]) (rest := [.int v]) (q := q_X12_day) hc_L (Or.inr rfl) (x := 236) (y := 12) rfl ms_236 rfl rfl (Nat.le_of_ble_eq_true rfl) (kO_recv (K_X12_day e2)) (E_X12_day e2 (by omega)) rfl ?_
  show Ev xs N 1990 287 907 [.ref ci_scr, .ref 0, .ref 127, .ref 148, .int (nI (5 * i)), ci_junk, ci_junk, ci_junk] [.int v, .int v] (hp κ μ2) nx r
  refine ev_bt hc_L (pc := 907) rfl rfl rfl ?_
  exact kk
set_option maxRecDepth 20000 in
theorem lc_undo {xs : Nat → Int32} {N i B : Nat} {κ : Kp} {μ : Mem} {nx : ci_N} (hN : N ≤ 2560) (hi : 5 * i + 5 ≤ N) (hR : Ref0 κ) (hB : B ≤ 1000000) (hI : Inv B μ) : LC xs N i B κ μ nx 912 := by
  obtain ⟨v, μ1, μ2, e1, e2, hI2⟩ := pr_undo κ B μ hR hB hI
  refine ⟨μ2, nx, hI2, by omega, by omega, fun r kk => ?_⟩
  refine ev_go hc_L (k := 1) (pc' := 913) (L' := [.ref ci_scr, .ref 0, .ref 127, .ref 148, .int (nI (5 * i)), ci_junk, ci_junk, ci_junk]) (S' := [.ref 0]) rfl ?_
  refine ev_call (d := 1989) (vs := [.ref 0]) (rest := []) (q := q_X11_undo) hc_L (Or.inr rfl) (x := 114) (y := 11) rfl ms_114 rfl rfl (Nat.le_of_ble_eq_true rfl) (kO_recv (K_X11_undo e1)) (E_X11_undo e1 (by omega)) rfl ?_
  show Ev xs N 1990 287 916 [.ref ci_scr, .ref 0, .ref 127, .ref 148, .int (nI (5 * i)), ci_junk, ci_junk, ci_junk] [.int v] (hp κ μ1) nx r
  refine ev_go hc_L (k := 1) (pc' := 917) (L' := [.ref ci_scr, .ref 0, .ref 127, .ref 148, .int (nI (5 * i)), ci_junk, ci_junk, ci_junk]) (S' := [.ref 127, .int v]) rfl ?_
  refine ev_call (d := 1989) (vs := [.ref 127]) (rest := [.int v]) (q := q_X12_undo) hc_L (Or.inr rfl) (x := 239) (y := 12) rfl ms_239 rfl rfl (Nat.le_of_ble_eq_true rfl) (kO_recv (K_X12_undo e2)) (E_X12_undo e2 (by omega)) rfl ?_
  show Ev xs N 1990 287 920 [.ref ci_scr, .ref 0, .ref 127, .ref 148, .int (nI (5 * i)), ci_junk, ci_junk, ci_junk] [.int v, .int v] (hp κ μ2) nx r
  refine ev_bt hc_L (pc := 920) rfl rfl rfl ?_
  exact kk
set_option maxRecDepth 20000 in
theorem lc_broken {xs : Nat → Int32} {N i B : Nat} {κ : Kp} {μ : Mem} {nx : ci_N} (hN : N ≤ 2560) (hi : 5 * i + 5 ≤ N) (hR : Ref0 κ) (hB : B ≤ 1000000) (hI : Inv B μ) : LC xs N i B κ μ nx 925 := by
  obtain ⟨v, μ1, μ2, e1, e2, hI2⟩ := pr_broken κ B μ hR hB hI
  refine ⟨μ2, nx, hI2, by omega, by omega, fun r kk => ?_⟩
  refine ev_go hc_L (k := 1) (pc' := 926) (L' := [.ref ci_scr, .ref 0, .ref 127, .ref 148, .int (nI (5 * i)), ci_junk, ci_junk, ci_junk]) (S' := [.ref 0]) rfl ?_
  refine ev_call (d := 1989) (vs := [.ref 0]) (rest := []) (q := q_X11_broken) hc_L (Or.inr rfl) (x := 115) (y := 11) rfl ms_115 rfl rfl (Nat.le_of_ble_eq_true rfl) (kO_recv (K_X11_broken e1)) (E_X11_broken e1 (by omega)) rfl ?_
  show Ev xs N 1990 287 929 [.ref ci_scr, .ref 0, .ref 127, .ref 148, .int (nI (5 * i)), ci_junk, ci_junk, ci_junk] [.int v] (hp κ μ1) nx r
  refine ev_go hc_L (k := 1) (pc' := 930) (L' := [.ref ci_scr, .ref 0, .ref 127, .ref 148, .int (nI (5 * i)), ci_junk, ci_junk, ci_junk]) (S' := [.ref 127, .int v]) rfl ?_
  refine ev_call (d := 1989) (vs := [.ref 127]) (rest := [.int v]) (q := q_X12_broken) hc_L (Or.inr rfl) (x := 240) (y := 12) rfl ms_240 rfl rfl (Nat.le_of_ble_eq_true rfl) (kO_recv (K_X12_broken e2)) (E_X12_broken e2 (by omega)) rfl ?_
  show Ev xs N 1990 287 933 [.ref ci_scr, .ref 0, .ref 127, .ref 148, .int (nI (5 * i)), ci_junk, ci_junk, ci_junk] [.int v, .int v] (hp κ μ2) nx r
  refine ev_bt hc_L (pc := 933) rfl rfl rfl ?_
  exact kk
set_option maxRecDepth 20000 in
theorem lc_would {xs : Nat → Int32} {N i B : Nat} {κ : Kp} {μ : Mem} {nx : ci_N} (hN : N ≤ 2560) (hi : 5 * i + 5 ≤ N) (hR : Ref0 κ) (hB : B ≤ 1000000) (hI : Inv B μ) : LC xs N i B κ μ nx 938 := by
  obtain ⟨v, μ1, μ2, e1, e2, hI2⟩ := pr_would (xs (5 * i + 1)) (xs (5 * i + 2)) κ B μ hR hB hI
  refine ⟨μ2, nx, hI2, by omega, by omega, fun r kk => ?_⟩
  refine ev_go hc_L (k := 1) (pc' := 939) (L' := [.ref ci_scr, .ref 0, .ref 127, .ref 148, .int (nI (5 * i)), ci_junk, ci_junk, ci_junk]) (S' := [.ref 0]) rfl ?_
  refine ev_go hc_L (k := 4) (pc' := 944) (L' := [.ref ci_scr, .ref 0, .ref 127, .ref 148, .int (nI (5 * i)), ci_junk, ci_junk, ci_junk]) (S' := [.int (nI (5 * i) + 1), .ref ci_scr, .ref 0]) rfl ?_
  refine ev_4 hc_L (i := .iaload) (len := 1) (S' := [.int (xs (5 * i + 1)), .ref 0]) rfl (law_rd (m := 1) (by decide) hN hi) ?_
  refine ev_go hc_L (k := 4) (pc' := 950) (L' := [.ref ci_scr, .ref 0, .ref 127, .ref 148, .int (nI (5 * i)), ci_junk, ci_junk, ci_junk]) (S' := [.int (nI (5 * i) + 2), .ref ci_scr, .int (xs (5 * i + 1)), .ref 0]) rfl ?_
  refine ev_4 hc_L (i := .iaload) (len := 1) (S' := [.int (xs (5 * i + 2)), .int (xs (5 * i + 1)), .ref 0]) rfl (law_rd (m := 2) (by decide) hN hi) ?_
  refine ev_call (d := 1989) (vs := [.ref 0, .int (xs (5 * i + 1)), .int (xs (5 * i + 2))]) (rest := []) (q := q_X11_would) hc_L (Or.inr rfl) (x := 116) (y := 11) rfl ms_116 rfl rfl (Nat.le_of_ble_eq_true rfl) (kO_recv (K_X11_would e1)) (E_X11_would e1 (by omega)) rfl ?_
  show Ev xs N 1990 287 954 [.ref ci_scr, .ref 0, .ref 127, .ref 148, .int (nI (5 * i)), ci_junk, ci_junk, ci_junk] [.int v] (hp κ μ1) nx r
  refine ev_go hc_L (k := 1) (pc' := 955) (L' := [.ref ci_scr, .ref 0, .ref 127, .ref 148, .int (nI (5 * i)), ci_junk, ci_junk, ci_junk]) (S' := [.ref 127, .int v]) rfl ?_
  refine ev_go hc_L (k := 4) (pc' := 960) (L' := [.ref ci_scr, .ref 0, .ref 127, .ref 148, .int (nI (5 * i)), ci_junk, ci_junk, ci_junk]) (S' := [.int (nI (5 * i) + 1), .ref ci_scr, .ref 127, .int v]) rfl ?_
  refine ev_4 hc_L (i := .iaload) (len := 1) (S' := [.int (xs (5 * i + 1)), .ref 127, .int v]) rfl (law_rd (m := 1) (by decide) hN hi) ?_
  refine ev_go hc_L (k := 4) (pc' := 966) (L' := [.ref ci_scr, .ref 0, .ref 127, .ref 148, .int (nI (5 * i)), ci_junk, ci_junk, ci_junk]) (S' := [.int (nI (5 * i) + 2), .ref ci_scr, .int (xs (5 * i + 1)), .ref 127, .int v]) rfl ?_
  refine ev_4 hc_L (i := .iaload) (len := 1) (S' := [.int (xs (5 * i + 2)), .int (xs (5 * i + 1)), .ref 127, .int v]) rfl (law_rd (m := 2) (by decide) hN hi) ?_
  refine ev_call (d := 1989) (vs := [.ref 127, .int (xs (5 * i + 1)), .int (xs (5 * i + 2))]) (rest := [.int v]) (q := q_X12_would) hc_L (Or.inr rfl) (x := 241) (y := 12) rfl ms_241 rfl rfl (Nat.le_of_ble_eq_true rfl) (kO_recv (K_X12_would e2)) (E_X12_would e2 (by omega)) rfl ?_
  show Ev xs N 1990 287 970 [.ref ci_scr, .ref 0, .ref 127, .ref 148, .int (nI (5 * i)), ci_junk, ci_junk, ci_junk] [.int v, .int v] (hp κ μ2) nx r
  refine ev_bt hc_L (pc := 970) rfl rfl rfl ?_
  exact kk
set_option maxRecDepth 20000 in
theorem lc_rid {xs : Nat → Int32} {N i B : Nat} {κ : Kp} {μ : Mem} {nx : ci_N} (hN : N ≤ 2560) (hi : 5 * i + 5 ≤ N) (hR : Ref0 κ) (hB : B ≤ 1000000) (hI : Inv B μ) : LC xs N i B κ μ nx 975 := by
  obtain ⟨v, μ1, μ2, e1, e2, hI2⟩ := pr_rid (xs (5 * i + 1)) κ B μ hR hB hI
  refine ⟨μ2, nx, hI2, by omega, by omega, fun r kk => ?_⟩
  refine ev_go hc_L (k := 1) (pc' := 976) (L' := [.ref ci_scr, .ref 0, .ref 127, .ref 148, .int (nI (5 * i)), ci_junk, ci_junk, ci_junk]) (S' := [.ref 0]) rfl ?_
  refine ev_go hc_L (k := 4) (pc' := 981) (L' := [.ref ci_scr, .ref 0, .ref 127, .ref 148, .int (nI (5 * i)), ci_junk, ci_junk, ci_junk]) (S' := [.int (nI (5 * i) + 1), .ref ci_scr, .ref 0]) rfl ?_
  refine ev_4 hc_L (i := .iaload) (len := 1) (S' := [.int (xs (5 * i + 1)), .ref 0]) rfl (law_rd (m := 1) (by decide) hN hi) ?_
  refine ev_call (d := 1989) (vs := [.ref 0, .int (xs (5 * i + 1))]) (rest := []) (q := q_X11_rid) hc_L (Or.inr rfl) (x := 117) (y := 11) rfl ms_117 rfl rfl (Nat.le_of_ble_eq_true rfl) (kO_recv (K_X11_rid e1)) (E_X11_rid e1 (by omega)) rfl ?_
  show Ev xs N 1990 287 985 [.ref ci_scr, .ref 0, .ref 127, .ref 148, .int (nI (5 * i)), ci_junk, ci_junk, ci_junk] [.int v] (hp κ μ1) nx r
  refine ev_go hc_L (k := 1) (pc' := 986) (L' := [.ref ci_scr, .ref 0, .ref 127, .ref 148, .int (nI (5 * i)), ci_junk, ci_junk, ci_junk]) (S' := [.ref 127, .int v]) rfl ?_
  refine ev_go hc_L (k := 4) (pc' := 991) (L' := [.ref ci_scr, .ref 0, .ref 127, .ref 148, .int (nI (5 * i)), ci_junk, ci_junk, ci_junk]) (S' := [.int (nI (5 * i) + 1), .ref ci_scr, .ref 127, .int v]) rfl ?_
  refine ev_4 hc_L (i := .iaload) (len := 1) (S' := [.int (xs (5 * i + 1)), .ref 127, .int v]) rfl (law_rd (m := 1) (by decide) hN hi) ?_
  refine ev_call (d := 1989) (vs := [.ref 127, .int (xs (5 * i + 1))]) (rest := [.int v]) (q := q_X12_rid) hc_L (Or.inr rfl) (x := 242) (y := 12) rfl ms_242 rfl rfl (Nat.le_of_ble_eq_true rfl) (kO_recv (K_X12_rid e2)) (E_X12_rid e2 (by omega)) rfl ?_
  show Ev xs N 1990 287 995 [.ref ci_scr, .ref 0, .ref 127, .ref 148, .int (nI (5 * i)), ci_junk, ci_junk, ci_junk] [.int v, .int v] (hp κ μ2) nx r
  refine ev_bt hc_L (pc := 995) rfl rfl rfl ?_
  exact kk
set_option maxRecDepth 20000 in
theorem lc_most {xs : Nat → Int32} {N i B : Nat} {κ : Kp} {μ : Mem} {nx : ci_N} (hN : N ≤ 2560) (hi : 5 * i + 5 ≤ N) (hR : Ref0 κ) (hB : B ≤ 1000000) (hI : Inv B μ) : LC xs N i B κ μ nx 1000 := by
  obtain ⟨v, μ1, μ2, e1, e2, hI2⟩ := pr_most (xs (5 * i + 1)) κ B μ hR hB hI
  refine ⟨μ2, nx, hI2, by omega, by omega, fun r kk => ?_⟩
  refine ev_go hc_L (k := 1) (pc' := 1001) (L' := [.ref ci_scr, .ref 0, .ref 127, .ref 148, .int (nI (5 * i)), ci_junk, ci_junk, ci_junk]) (S' := [.ref 0]) rfl ?_
  refine ev_go hc_L (k := 4) (pc' := 1006) (L' := [.ref ci_scr, .ref 0, .ref 127, .ref 148, .int (nI (5 * i)), ci_junk, ci_junk, ci_junk]) (S' := [.int (nI (5 * i) + 1), .ref ci_scr, .ref 0]) rfl ?_
  refine ev_4 hc_L (i := .iaload) (len := 1) (S' := [.int (xs (5 * i + 1)), .ref 0]) rfl (law_rd (m := 1) (by decide) hN hi) ?_
  refine ev_call (d := 1989) (vs := [.ref 0, .int (xs (5 * i + 1))]) (rest := []) (q := q_X11_most) hc_L (Or.inr rfl) (x := 118) (y := 11) rfl ms_118 rfl rfl (Nat.le_of_ble_eq_true rfl) (kO_recv (K_X11_most e1)) (E_X11_most e1 (by omega)) rfl ?_
  show Ev xs N 1990 287 1010 [.ref ci_scr, .ref 0, .ref 127, .ref 148, .int (nI (5 * i)), ci_junk, ci_junk, ci_junk] [.int v] (hp κ μ1) nx r
  refine ev_go hc_L (k := 1) (pc' := 1011) (L' := [.ref ci_scr, .ref 0, .ref 127, .ref 148, .int (nI (5 * i)), ci_junk, ci_junk, ci_junk]) (S' := [.ref 127, .int v]) rfl ?_
  refine ev_go hc_L (k := 4) (pc' := 1016) (L' := [.ref ci_scr, .ref 0, .ref 127, .ref 148, .int (nI (5 * i)), ci_junk, ci_junk, ci_junk]) (S' := [.int (nI (5 * i) + 1), .ref ci_scr, .ref 127, .int v]) rfl ?_
  refine ev_4 hc_L (i := .iaload) (len := 1) (S' := [.int (xs (5 * i + 1)), .ref 127, .int v]) rfl (law_rd (m := 1) (by decide) hN hi) ?_
  refine ev_call (d := 1989) (vs := [.ref 127, .int (xs (5 * i + 1))]) (rest := [.int v]) (q := q_X12_most) hc_L (Or.inr rfl) (x := 244) (y := 12) rfl ms_244 rfl rfl (Nat.le_of_ble_eq_true rfl) (kO_recv (K_X12_most e2)) (E_X12_most e2 (by omega)) rfl ?_
  show Ev xs N 1990 287 1020 [.ref ci_scr, .ref 0, .ref 127, .ref 148, .int (nI (5 * i)), ci_junk, ci_junk, ci_junk] [.int v, .int v] (hp κ μ2) nx r
  refine ev_bt hc_L (pc := 1020) rfl rfl rfl ?_
  exact kk
