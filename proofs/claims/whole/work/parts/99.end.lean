/-! PURE: the law's loop; the claim. -/
theorem law_rd0 {xs : Nat → Int32} {N i : Nat} {h : ci_H} {S : List Value} (hN : N ≤ 2560) (hi : 5 * i + 5 ≤ N) : ci_st4 .iaload 0 0 h xs N (.int (nI (5 * i)) :: .ref ci_scr :: S) = some (.int (xs (5 * i)) :: S) := by
  have h1 := law_rd (xs := xs) (h := h) (S := S) (m := 0) (by decide) hN hi
  rw [nI_add, Nat.add_zero] at h1
  exact h1
theorem law_def {xs : Nat → Int32} {N i B : Nat} {κ : Kp} {μ : Mem} {nx : ci_N} (hI : Inv B μ) : LC xs N i B κ μ nx 1752 := ⟨μ, nx, hI.up (by omega), by omega, by omega, fun r kk => kk⟩
set_option maxRecDepth 20000 in
theorem law_sw {xs : Nat → Int32} {N i B c : Nat} {κ : Kp} {μ : Mem} {nx : ci_N} (hN : N ≤ 2560) (hi : 5 * i + 5 ≤ N) (hR : Ref0 κ) (hB : B ≤ 1000000) (hI : Inv B μ) (hc : c < 64) : ∃ (μ' : Mem) (nx' : ci_N), Inv (B + 1200) μ' ∧ nx'.2.1 ≤ nx.2.1 + 1 ∧ nx'.2.2 ≤ nx.2.2 + 6 ∧ ∀ r, Ev xs N 1990 287 1752 (LJ i) [] (hp κ μ') nx' r → Ev xs N 1990 287 39 (LJ i) [.int (nI c)] (hp κ μ) nx r := by
  have hh : c = 0 ∨ c = 1 ∨ c = 2 ∨ c = 3 ∨ c = 4 ∨ c = 5 ∨ c = 6 ∨ c = 7 ∨ c = 8 ∨ c = 9 ∨ c = 10 ∨ c = 11 ∨ c = 12 ∨ c = 13 ∨ c = 14 ∨ c = 15 ∨ c = 16 ∨ c = 17 ∨ c = 18 ∨ c = 19 ∨ c = 20 ∨ c = 21 ∨ c = 22 ∨ c = 23 ∨ c = 24 ∨ c = 25 ∨ c = 26 ∨ c = 27 ∨ c = 28 ∨ c = 29 ∨ c = 30 ∨ c = 31 ∨ c = 32 ∨ c = 33 ∨ c = 34 ∨ c = 35 ∨ c = 36 ∨ c = 37 ∨ c = 38 ∨ c = 39 ∨ c = 40 ∨ c = 41 ∨ c = 42 ∨ c = 43 ∨ c = 44 ∨ c = 45 ∨ c = 46 ∨ c = 47 ∨ c = 48 ∨ c = 49 ∨ c = 50 ∨ c = 51 ∨ c = 52 ∨ c = 53 ∨ c = 54 ∨ c = 55 ∨ c = 56 ∨ c = 57 ∨ c = 58 ∨ c = 59 ∨ c = 60 ∨ c = 61 ∨ c = 62 ∨ c = 63 := by omega
  rcases hh with rfl | rfl | rfl | rfl | rfl | rfl | rfl | rfl | rfl | rfl | rfl | rfl | rfl | rfl | rfl | rfl | rfl | rfl | rfl | rfl | rfl | rfl | rfl | rfl | rfl | rfl | rfl | rfl | rfl | rfl | rfl | rfl | rfl | rfl | rfl | rfl | rfl | rfl | rfl | rfl | rfl | rfl | rfl | rfl | rfl | rfl | rfl | rfl | rfl | rfl | rfl | rfl | rfl | rfl | rfl | rfl | rfl | rfl | rfl | rfl | rfl | rfl | rfl | rfl
  · obtain ⟨μ', nx', g1, g2, g3, g4⟩ := lc_sign (xs := xs) (nx := nx) hN hi hR hB hI
    exact ⟨μ', nx', g1, g2, g3, fun r kk => ev_3 hc_L (pc' := 248) (S' := []) rfl rfl (g4 r kk)⟩
  · obtain ⟨μ', nx', g1, g2, g3, g4⟩ := lc_end (xs := xs) (nx := nx) hN hi hR hB hI
    exact ⟨μ', nx', g1, g2, g3, fun r kk => ev_3 hc_L (pc' := 273) (S' := []) rfl rfl (g4 r kk)⟩
  · obtain ⟨μ', nx', g1, g2, g3, g4⟩ := lc_houses (xs := xs) (nx := nx) hN hi hR hB hI
    exact ⟨μ', nx', g1, g2, g3, fun r kk => ev_3 hc_L (pc' := 298) (S' := []) rfl rfl (g4 r kk)⟩
  · obtain ⟨μ', nx', g1, g2, g3, g4⟩ := lc_things (xs := xs) (nx := nx) hN hi hR hB hI
    exact ⟨μ', nx', g1, g2, g3, fun r kk => ev_3 hc_L (pc' := 323) (S' := []) rfl rfl (g4 r kk)⟩
  · obtain ⟨μ', nx', g1, g2, g3, g4⟩ := lc_kinds (xs := xs) (nx := nx) hN hi hR hB hI
    exact ⟨μ', nx', g1, g2, g3, fun r kk => ev_3 hc_L (pc' := 336) (S' := []) rfl rfl (g4 r kk)⟩
  · obtain ⟨μ', nx', g1, g2, g3, g4⟩ := lc_rule (xs := xs) (nx := nx) hN hi hR hB hI
    exact ⟨μ', nx', g1, g2, g3, fun r kk => ev_3 hc_L (pc' := 349) (S' := []) rfl rfl (g4 r kk)⟩
  · obtain ⟨μ', nx', g1, g2, g3, g4⟩ := lc_thing (xs := xs) (nx := nx) hN hi hR hB hI
    exact ⟨μ', nx', g1, g2, g3, fun r kk => ev_3 hc_L (pc' := 362) (S' := []) rfl rfl (g4 r kk)⟩
  · obtain ⟨μ', nx', g1, g2, g3, g4⟩ := lc_kind (xs := xs) (nx := nx) hN hi hR hB hI
    exact ⟨μ', nx', g1, g2, g3, fun r kk => ev_3 hc_L (pc' := 430) (S' := []) rfl rfl (g4 r kk)⟩
  · obtain ⟨μ', nx', g1, g2, g3, g4⟩ := lc_house (xs := xs) (nx := nx) hN hi hR hB hI
    exact ⟨μ', nx', g1, g2, g3, fun r kk => ev_3 hc_L (pc' := 498) (S' := []) rfl rfl (g4 r kk)⟩
  · obtain ⟨μ', nx', g1, g2, g3, g4⟩ := lc_worth (xs := xs) (nx := nx) hN hi hR hB hI
    exact ⟨μ', nx', g1, g2, g3, fun r kk => ev_3 hc_L (pc' := 566) (S' := []) rfl rfl (g4 r kk)⟩
  · obtain ⟨μ', nx', g1, g2, g3, g4⟩ := lc_set (xs := xs) (nx := nx) hN hi hR hB hI
    exact ⟨μ', nx', g1, g2, g3, fun r kk => ev_3 hc_L (pc' := 603) (S' := []) rfl rfl (g4 r kk)⟩
  · obtain ⟨μ', nx', g1, g2, g3, g4⟩ := lc_sheet (xs := xs) (nx := nx) hN hi hR hB hI
    exact ⟨μ', nx', g1, g2, g3, fun r kk => ev_3 hc_L (pc' := 628) (S' := []) rfl rfl (g4 r kk)⟩
  · obtain ⟨μ', nx', g1, g2, g3, g4⟩ := lc_buy (xs := xs) (nx := nx) hN hi hR hB hI
    exact ⟨μ', nx', g1, g2, g3, fun r kk => ev_3 hc_L (pc' := 689) (S' := []) rfl rfl (g4 r kk)⟩
  · obtain ⟨μ', nx', g1, g2, g3, g4⟩ := lc_give (xs := xs) (nx := nx) hN hi hR hB hI
    exact ⟨μ', nx', g1, g2, g3, fun r kk => ev_3 hc_L (pc' := 726) (S' := []) rfl rfl (g4 r kk)⟩
  · obtain ⟨μ', nx', g1, g2, g3, g4⟩ := lc_lend (xs := xs) (nx := nx) hN hi hR hB hI
    exact ⟨μ', nx', g1, g2, g3, fun r kk => ev_3 hc_L (pc' := 763) (S' := []) rfl rfl (g4 r kk)⟩
  · obtain ⟨μ', nx', g1, g2, g3, g4⟩ := lc_claim (xs := xs) (nx := nx) hN hi hR hB hI
    exact ⟨μ', nx', g1, g2, g3, fun r kk => ev_3 hc_L (pc' := 800) (S' := []) rfl rfl (g4 r kk)⟩
  · obtain ⟨μ', nx', g1, g2, g3, g4⟩ := lc_paint (xs := xs) (nx := nx) hN hi hR hB hI
    exact ⟨μ', nx', g1, g2, g3, fun r kk => ev_3 hc_L (pc' := 837) (S' := []) rfl rfl (g4 r kk)⟩
  · obtain ⟨μ', nx', g1, g2, g3, g4⟩ := lc_hours (xs := xs) (nx := nx) hN hi hR hB hI
    exact ⟨μ', nx', g1, g2, g3, fun r kk => ev_3 hc_L (pc' := 874) (S' := []) rfl rfl (g4 r kk)⟩
  · obtain ⟨μ', nx', g1, g2, g3, g4⟩ := lc_day (xs := xs) (nx := nx) hN hi hR hB hI
    exact ⟨μ', nx', g1, g2, g3, fun r kk => ev_3 hc_L (pc' := 899) (S' := []) rfl rfl (g4 r kk)⟩
  · obtain ⟨μ', nx', g1, g2, g3, g4⟩ := lc_undo (xs := xs) (nx := nx) hN hi hR hB hI
    exact ⟨μ', nx', g1, g2, g3, fun r kk => ev_3 hc_L (pc' := 912) (S' := []) rfl rfl (g4 r kk)⟩
  · obtain ⟨μ', nx', g1, g2, g3, g4⟩ := lc_broken (xs := xs) (nx := nx) hN hi hR hB hI
    exact ⟨μ', nx', g1, g2, g3, fun r kk => ev_3 hc_L (pc' := 925) (S' := []) rfl rfl (g4 r kk)⟩
  · obtain ⟨μ', nx', g1, g2, g3, g4⟩ := lc_would (xs := xs) (nx := nx) hN hi hR hB hI
    exact ⟨μ', nx', g1, g2, g3, fun r kk => ev_3 hc_L (pc' := 938) (S' := []) rfl rfl (g4 r kk)⟩
  · obtain ⟨μ', nx', g1, g2, g3, g4⟩ := lc_rid (xs := xs) (nx := nx) hN hi hR hB hI
    exact ⟨μ', nx', g1, g2, g3, fun r kk => ev_3 hc_L (pc' := 975) (S' := []) rfl rfl (g4 r kk)⟩
  · obtain ⟨μ', nx', g1, g2, g3, g4⟩ := lc_most (xs := xs) (nx := nx) hN hi hR hB hI
    exact ⟨μ', nx', g1, g2, g3, fun r kk => ev_3 hc_L (pc' := 1000) (S' := []) rfl rfl (g4 r kk)⟩
  · obtain ⟨μ', nx', g1, g2, g3, g4⟩ := lc_alike (xs := xs) (nx := nx) hN hi hR hB hI
    exact ⟨μ', nx', g1, g2, g3, fun r kk => ev_3 hc_L (pc' := 1025) (S' := []) rfl rfl (g4 r kk)⟩
  · obtain ⟨μ', nx', g1, g2, g3, g4⟩ := lc_trust (xs := xs) (nx := nx) hN hi hR hB hI
    exact ⟨μ', nx', g1, g2, g3, fun r kk => ev_3 hc_L (pc' := 1062) (S' := []) rfl rfl (g4 r kk)⟩
  · obtain ⟨μ', nx', g1, g2, g3, g4⟩ := lc_visit (xs := xs) (nx := nx) hN hi hR hB hI
    exact ⟨μ', nx', g1, g2, g3, fun r kk => ev_3 hc_L (pc' := 1087) (S' := []) rfl rfl (g4 r kk)⟩
  · obtain ⟨μ', nx', g1, g2, g3, g4⟩ := lc_store (xs := xs) (nx := nx) hN hi hR hB hI
    exact ⟨μ', nx', g1, g2, g3, fun r kk => ev_3 hc_L (pc' := 1112) (S' := []) rfl rfl (g4 r kk)⟩
  · obtain ⟨μ', nx', g1, g2, g3, g4⟩ := lc_strike (xs := xs) (nx := nx) hN hi hR hB hI
    exact ⟨μ', nx', g1, g2, g3, fun r kk => ev_3 hc_L (pc' := 1137) (S' := []) rfl rfl (g4 r kk)⟩
  · obtain ⟨μ', nx', g1, g2, g3, g4⟩ := lc_border (xs := xs) (nx := nx) hN hi hR hB hI
    exact ⟨μ', nx', g1, g2, g3, fun r kk => ev_3 hc_L (pc' := 1162) (S' := []) rfl rfl (g4 r kk)⟩
  · obtain ⟨μ', nx', g1, g2, g3, g4⟩ := lc_exchange (xs := xs) (nx := nx) hN hi hR hB hI
    exact ⟨μ', nx', g1, g2, g3, fun r kk => ev_3 hc_L (pc' := 1175) (S' := []) rfl rfl (g4 r kk)⟩
  · obtain ⟨μ', nx', g1, g2, g3, g4⟩ := lc_name (xs := xs) (nx := nx) hN hi hR hB hI
    exact ⟨μ', nx', g1, g2, g3, fun r kk => ev_3 hc_L (pc' := 1212) (S' := []) rfl rfl (g4 r kk)⟩
  · obtain ⟨μ', nx', g1, g2, g3, g4⟩ := lc_deal (xs := xs) (nx := nx) hN hi hR hB hI
    exact ⟨μ', nx', g1, g2, g3, fun r kk => ev_3 hc_L (pc' := 1237) (S' := []) rfl rfl (g4 r kk)⟩
  · obtain ⟨μ', nx', g1, g2, g3, g4⟩ := lc_vote (xs := xs) (nx := nx) hN hi hR hB hI
    exact ⟨μ', nx', g1, g2, g3, fun r kk => ev_3 hc_L (pc' := 1250) (S' := []) rfl rfl (g4 r kk)⟩
  · obtain ⟨μ', nx', g1, g2, g3, g4⟩ := lc_pays (xs := xs) (nx := nx) hN hi hR hB hI
    exact ⟨μ', nx', g1, g2, g3, fun r kk => ev_3 hc_L (pc' := 1263) (S' := []) rfl rfl (g4 r kk)⟩
  · obtain ⟨μ', nx', g1, g2, g3, g4⟩ := lc_coins (xs := xs) (nx := nx) hN hi hR hB hI
    exact ⟨μ', nx', g1, g2, g3, fun r kk => ev_3 hc_L (pc' := 1312) (S' := []) rfl rfl (g4 r kk)⟩
  · obtain ⟨μ', nx', g1, g2, g3, g4⟩ := lc_had (xs := xs) (nx := nx) hN hi hR hB hI
    exact ⟨μ', nx', g1, g2, g3, fun r kk => ev_3 hc_L (pc' := 1337) (S' := []) rfl rfl (g4 r kk)⟩
  · obtain ⟨μ', nx', g1, g2, g3, g4⟩ := lc_heard (xs := xs) (nx := nx) hN hi hR hB hI
    exact ⟨μ', nx', g1, g2, g3, fun r kk => ev_3 hc_L (pc' := 1374) (S' := []) rfl rfl (g4 r kk)⟩
  · obtain ⟨μ', nx', g1, g2, g3, g4⟩ := lc_forget (xs := xs) (nx := nx) hN hi hR hB hI
    exact ⟨μ', nx', g1, g2, g3, fun r kk => ev_3 hc_L (pc' := 1411) (S' := []) rfl rfl (g4 r kk)⟩
  · obtain ⟨μ', nx', g1, g2, g3, g4⟩ := lc_whose (xs := xs) (nx := nx) hN hi hR hB hI
    exact ⟨μ', nx', g1, g2, g3, fun r kk => ev_3 hc_L (pc' := 1424) (S' := []) rfl rfl (g4 r kk)⟩
  · obtain ⟨μ', nx', g1, g2, g3, g4⟩ := lc_ask (xs := xs) (nx := nx) hN hi hR hB hI
    exact ⟨μ', nx', g1, g2, g3, fun r kk => ev_3 hc_L (pc' := 1437) (S' := []) rfl rfl (g4 r kk)⟩
  · obtain ⟨μ', nx', g1, g2, g3, g4⟩ := lc_seen (xs := xs) (nx := nx) hN hi hR hB hI
    exact ⟨μ', nx', g1, g2, g3, fun r kk => ev_3 hc_L (pc' := 1450) (S' := []) rfl rfl (g4 r kk)⟩
  · obtain ⟨μ', nx', g1, g2, g3, g4⟩ := lc_finds (xs := xs) (nx := nx) hN hi hR hB hI
    exact ⟨μ', nx', g1, g2, g3, fun r kk => ev_3 hc_L (pc' := 1499) (S' := []) rfl rfl (g4 r kk)⟩
  · obtain ⟨μ', nx', g1, g2, g3, g4⟩ := lc_rests (xs := xs) (nx := nx) hN hi hR hB hI
    exact ⟨μ', nx', g1, g2, g3, fun r kk => ev_3 hc_L (pc' := 1548) (S' := []) rfl rfl (g4 r kk)⟩
  · obtain ⟨μ', nx', g1, g2, g3, g4⟩ := lc_years (xs := xs) (nx := nx) hN hi hR hB hI
    exact ⟨μ', nx', g1, g2, g3, fun r kk => ev_3 hc_L (pc' := 1585) (S' := []) rfl rfl (g4 r kk)⟩
  · obtain ⟨μ', nx', g1, g2, g3, g4⟩ := lc_keep (xs := xs) (nx := nx) hN hi hR hB hI
    exact ⟨μ', nx', g1, g2, g3, fun r kk => ev_3 hc_L (pc' := 1622) (S' := []) rfl rfl (g4 r kk)⟩
  · obtain ⟨μ', nx', g1, g2, g3, g4⟩ := lc_again (xs := xs) (nx := nx) hN hi hR hB hI
    exact ⟨μ', nx', g1, g2, g3, fun r kk => ev_3 hc_L (pc' := 1647) (S' := []) rfl rfl (g4 r kk)⟩
  · obtain ⟨μ', nx', g1, g2, g3, g4⟩ := lc_count (xs := xs) (nx := nx) hN hi hR hB hI
    exact ⟨μ', nx', g1, g2, g3, fun r kk => ev_3 hc_L (pc' := 1672) (S' := []) rfl rfl (g4 r kk)⟩
  · obtain ⟨μ', nx', g1, g2, g3, g4⟩ := lc_row (xs := xs) (nx := nx) hN hi hR hB hI
    exact ⟨μ', nx', g1, g2, g3, fun r kk => ev_3 hc_L (pc' := 1697) (S' := []) rfl rfl (g4 r kk)⟩
  · obtain ⟨μ', nx', g1, g2, g3, g4⟩ := law_def (xs := xs) (N := N) (i := i) (κ := κ) (nx := nx) hI
    exact ⟨μ', nx', g1, g2, g3, fun r kk => ev_3 hc_L (pc' := 1752) (S' := []) rfl rfl (g4 r kk)⟩
  · obtain ⟨μ', nx', g1, g2, g3, g4⟩ := law_def (xs := xs) (N := N) (i := i) (κ := κ) (nx := nx) hI
    exact ⟨μ', nx', g1, g2, g3, fun r kk => ev_3 hc_L (pc' := 1752) (S' := []) rfl rfl (g4 r kk)⟩
  · obtain ⟨μ', nx', g1, g2, g3, g4⟩ := law_def (xs := xs) (N := N) (i := i) (κ := κ) (nx := nx) hI
    exact ⟨μ', nx', g1, g2, g3, fun r kk => ev_3 hc_L (pc' := 1752) (S' := []) rfl rfl (g4 r kk)⟩
  · obtain ⟨μ', nx', g1, g2, g3, g4⟩ := law_def (xs := xs) (N := N) (i := i) (κ := κ) (nx := nx) hI
    exact ⟨μ', nx', g1, g2, g3, fun r kk => ev_3 hc_L (pc' := 1752) (S' := []) rfl rfl (g4 r kk)⟩
  · obtain ⟨μ', nx', g1, g2, g3, g4⟩ := law_def (xs := xs) (N := N) (i := i) (κ := κ) (nx := nx) hI
    exact ⟨μ', nx', g1, g2, g3, fun r kk => ev_3 hc_L (pc' := 1752) (S' := []) rfl rfl (g4 r kk)⟩
  · obtain ⟨μ', nx', g1, g2, g3, g4⟩ := law_def (xs := xs) (N := N) (i := i) (κ := κ) (nx := nx) hI
    exact ⟨μ', nx', g1, g2, g3, fun r kk => ev_3 hc_L (pc' := 1752) (S' := []) rfl rfl (g4 r kk)⟩
  · obtain ⟨μ', nx', g1, g2, g3, g4⟩ := law_def (xs := xs) (N := N) (i := i) (κ := κ) (nx := nx) hI
    exact ⟨μ', nx', g1, g2, g3, fun r kk => ev_3 hc_L (pc' := 1752) (S' := []) rfl rfl (g4 r kk)⟩
  · obtain ⟨μ', nx', g1, g2, g3, g4⟩ := law_def (xs := xs) (N := N) (i := i) (κ := κ) (nx := nx) hI
    exact ⟨μ', nx', g1, g2, g3, fun r kk => ev_3 hc_L (pc' := 1752) (S' := []) rfl rfl (g4 r kk)⟩
  · obtain ⟨μ', nx', g1, g2, g3, g4⟩ := law_def (xs := xs) (N := N) (i := i) (κ := κ) (nx := nx) hI
    exact ⟨μ', nx', g1, g2, g3, fun r kk => ev_3 hc_L (pc' := 1752) (S' := []) rfl rfl (g4 r kk)⟩
  · obtain ⟨μ', nx', g1, g2, g3, g4⟩ := law_def (xs := xs) (N := N) (i := i) (κ := κ) (nx := nx) hI
    exact ⟨μ', nx', g1, g2, g3, fun r kk => ev_3 hc_L (pc' := 1752) (S' := []) rfl rfl (g4 r kk)⟩
  · obtain ⟨μ', nx', g1, g2, g3, g4⟩ := law_def (xs := xs) (N := N) (i := i) (κ := κ) (nx := nx) hI
    exact ⟨μ', nx', g1, g2, g3, fun r kk => ev_3 hc_L (pc' := 1752) (S' := []) rfl rfl (g4 r kk)⟩
  · obtain ⟨μ', nx', g1, g2, g3, g4⟩ := law_def (xs := xs) (N := N) (i := i) (κ := κ) (nx := nx) hI
    exact ⟨μ', nx', g1, g2, g3, fun r kk => ev_3 hc_L (pc' := 1752) (S' := []) rfl rfl (g4 r kk)⟩
  · obtain ⟨μ', nx', g1, g2, g3, g4⟩ := law_def (xs := xs) (N := N) (i := i) (κ := κ) (nx := nx) hI
    exact ⟨μ', nx', g1, g2, g3, fun r kk => ev_3 hc_L (pc' := 1752) (S' := []) rfl rfl (g4 r kk)⟩
  · obtain ⟨μ', nx', g1, g2, g3, g4⟩ := law_def (xs := xs) (N := N) (i := i) (κ := κ) (nx := nx) hI
    exact ⟨μ', nx', g1, g2, g3, fun r kk => ev_3 hc_L (pc' := 1752) (S' := []) rfl rfl (g4 r kk)⟩
  · obtain ⟨μ', nx', g1, g2, g3, g4⟩ := law_def (xs := xs) (N := N) (i := i) (κ := κ) (nx := nx) hI
    exact ⟨μ', nx', g1, g2, g3, fun r kk => ev_3 hc_L (pc' := 1752) (S' := []) rfl rfl (g4 r kk)⟩
set_option maxRecDepth 20000 in
theorem law_loop {xs : Nat → Int32} {N : Nat} {κ : Kp} (hN : N ≤ 2560) (hR : Ref0 κ) : ∀ (m i : Nat), N / 5 = i + m → ∀ (μ : Mem) (nx : ci_N), Inv (1200 * i) μ → ∃ (h' : ci_H) (nx' : ci_N), nx'.2.1 ≤ nx.2.1 + m ∧ nx'.2.2 ≤ nx.2.2 + 6 * m ∧ Ev xs N 1990 287 23 (LJ i) [] (hp κ μ) nx (some (.int 1), h', nx')
  | 0, i, hm, μ, nx, hI => by
    refine ⟨hp κ μ, nx, by omega, by omega, ?_⟩
    have hc : nI N - 5 < nI (5 * i) := by
      rw [fa_lt, show (nI N - 5).toInt = (N : Int) - (5 : Nat) from pk_sub_toInt (a := N) (b := 5) (by omega) (by decide), nI_toInt (by omega)]
      omega
    refine ev_go hc_L (k := 2) (pc' := 26) (L' := LJ i) (S' := [.ref ci_scr, .int (nI (5 * i))]) rfl ?_
    refine ev_4 hc_L (i := .arraylength) (len := 1) (S' := [.int (nI N), .int (nI (5 * i))]) rfl rfl ?_
    refine ev_go hc_L (k := 2) (pc' := 29) (L' := LJ i) (S' := [.int (nI N - 5), .int (nI (5 * i))]) rfl ?_
    refine ev_bt hc_L (pc := 29) rfl rfl hc ?_
    refine ev_go hc_L (k := 1) (pc' := 1759) (L' := LJ i) (S' := [.int 1]) rfl ?_
    exact ev_8 hc_L (pc := 1759) rfl rfl
  | m + 1, i, hm, μ, nx, hI => by
    have hi : 5 * i + 5 ≤ N := by omega
    have hc : ¬ nI N - 5 < nI (5 * i) := by
      rw [fa_lt, show (nI N - 5).toInt = (N : Int) - (5 : Nat) from pk_sub_toInt (a := N) (b := 5) (by omega) (by decide), nI_toInt (by omega)]
      omega
    obtain ⟨c, c1, c2⟩ := pk_andE (xs (5 * i)) (m := 63) 6 rfl
    obtain ⟨μ', nx', g1, g2, g3, g4⟩ := law_sw (xs := xs) (nx := nx) hN hi hR (show 1200 * i ≤ 1000000 by omega) hI c1
    obtain ⟨h', nx2, k1, k2, k3⟩ := law_loop hN hR m (i + 1) (by omega) μ' nx' (by rw [show 1200 * (i + 1) = 1200 * i + 1200 by omega]; exact g1)
    refine ⟨h', nx2, by omega, by omega, ?_⟩
    refine ev_go hc_L (k := 2) (pc' := 26) (L' := LJ i) (S' := [.ref ci_scr, .int (nI (5 * i))]) rfl ?_
    refine ev_4 hc_L (i := .arraylength) (len := 1) (S' := [.int (nI N), .int (nI (5 * i))]) rfl rfl ?_
    refine ev_go hc_L (k := 2) (pc' := 29) (L' := LJ i) (S' := [.int (nI N - 5), .int (nI (5 * i))]) rfl ?_
    refine ev_bf hc_L (pc := 29) rfl rfl hc ?_
    refine ev_go hc_L (k := 2) (pc' := 35) (L' := LJ i) (S' := [.int (nI (5 * i)), .ref ci_scr]) rfl ?_
    refine ev_4 hc_L (i := .iaload) (len := 1) (S' := [.int (xs (5 * i))]) rfl (law_rd0 hN hi) ?_
    refine ev_go hc_L (k := 2) (pc' := 39) (L' := LJ i) (S' := [.int (xs (5 * i) &&& 63)]) rfl ?_
    rw [c2]
    refine g4 _ ?_
    have e5 : nI (5 * i) + 5 = nI (5 * (i + 1)) := nI_add (5 * i) 5
    refine ev_go hc_L (k := 2) (pc' := 23) (L' := [.ref ci_scr, .ref 0, .ref 127, .ref 148, .int (nI (5 * i) + 5), ci_junk, ci_junk, ci_junk]) (S' := []) rfl ?_
    rw [e5]
    exact k3
set_option maxRecDepth 20000 in
theorem law_start2 {xs : Nat → Int32} {N : Nat} : ∃ (κ : Kp) (μ : Mem), Ref0 κ ∧ Init0 μ ∧ ∀ r, Ev xs N 1990 287 23 [.ref ci_scr, .ref 0, .ref 127, .ref 148, .int 0, ci_junk, ci_junk, ci_junk] [] (hp κ μ) (149, 149, 2647) r → Ev xs N 1990 287 0 (ci_entry [.ref ci_scr] 8) [] ct_h0 (0, 0, 0) r := by
  obtain ⟨κ, μ, h5, hR, hI⟩ := ct_get
  refine ⟨κ, μ, hR, hI, fun r kk => ?_⟩
  have n2 := ct_n2
  have n4 := ct_n4
  unfold ct_5 at h5
  obtain ⟨⟨hh4, nn4⟩, h4, h5⟩ := Option.bind_eq_some_iff.mp h5
  obtain ⟨⟨S5, hh5, nn5⟩, h5, e5⟩ := Option.map_eq_some_iff.mp h5
  rw [h4] at n4
  have n4 : nn4.1 = 148 := Option.some.inj n4
  unfold ct_4 at h4
  obtain ⟨⟨hh3, nn3⟩, h3, h4⟩ := Option.bind_eq_some_iff.mp h4
  obtain ⟨⟨rv4, hh4', nn4'⟩, h4r, e4⟩ := Option.bind_eq_some_iff.mp h4
  unfold ct_3 at h3
  obtain ⟨⟨hh2, nn2⟩, h2, h3⟩ := Option.bind_eq_some_iff.mp h3
  rw [h2] at n2
  have n2 : nn2.1 = 127 := Option.some.inj n2
  obtain ⟨⟨S3, hh3', nn3'⟩, h3, e3⟩ := Option.map_eq_some_iff.mp h3
  unfold ct_2 at h2
  obtain ⟨⟨hh1, nn1⟩, h1, h2⟩ := Option.bind_eq_some_iff.mp h2
  obtain ⟨⟨rv2, hh2', nn2'⟩, h2r, e2⟩ := Option.bind_eq_some_iff.mp h2
  unfold ct_1 at h1
  obtain ⟨⟨S1, hh1', nn1'⟩, h1, e1⟩ := Option.map_eq_some_iff.mp h1
  cases e1
  cases e3
  cases e5
  have hS1 : S1 = [.ref 0] := by
    have : ci_new ci_cls ci_fty 11 ct_h0 (0, 0, 0) [] = some ([.ref 0], va_up ct_h0 0 (.inr (11, ci_dfl ci_fty 11 19)), 1, 1, 19) := rfl
    rw [this] at h1
    cases h1
    rfl
  subst hS1
  have hS3 : S3 = [.ref 127] := by
    have h3' : (if nn2.1 = ci_scr then none else some ([Value.ref nn2.1], va_up hh2 nn2.1 (.inr (12, ci_dfl ci_fty 12 43)), nn2.1 + 1, nn2.2.1 + 1, nn2.2.2 + 43)) = some (S3, hh3, nn3) := h3
    rw [n2, if_neg (by decide)] at h3'
    cases h3'
    rfl
  subst hS3
  have hS5 : S5 = [.ref 148] := by
    have h5' : (if nn4.1 = ci_scr then none else if (1 : Int32) < 0 then none else if Int32.toNatClampNeg 1 ≤ 100000 then some ([Value.ref nn4.1], va_up hh4 nn4.1 (.inl (.long, Int32.toNatClampNeg 1, .inr (.inl (fun _ => 0)))), nn4.1 + 1, nn4.2.1 + 1, nn4.2.2 + Int32.toNatClampNeg 1) else none) = some (S5, hp κ μ, 149, 149, 2647) := h5
    rw [n4, if_neg (by decide), if_neg (by decide), if_pos (by decide)] at h5'
    exact (Option.some.inj (congrArg (Option.map (fun q => q.1)) h5')).symm
  subst hS5
  have hv2 : rv2 = none ∧ hh2' = hh2 ∧ nn2' = nn2 := by
    cases rv2 with
    | none => cases e2; exact ⟨rfl, rfl, rfl⟩
    | some v => cases e2
  obtain ⟨rfl, rfl, rfl⟩ := hv2
  have hv4 : rv4 = none ∧ hh4' = hh4 ∧ nn4' = nn4 := by
    cases rv4 with
    | none => cases e4; exact ⟨rfl, rfl, rfl⟩
    | some v => cases e4
  obtain ⟨rfl, rfl, rfl⟩ := hv4
  refine ev_6 hc_L (i := .new 8) (len := 3) (x := 11) rfl h1 ?_
  refine ev_go hc_L (k := 1) (pc' := 4) (L' := ci_entry [.ref ci_scr] 8) (S' := [.ref 0, .ref 0]) rfl ?_
  refine ev_12 (d := 1989) hc_L (x := 94) (q := q_X11_init) (vs := [.ref 0]) (rest := [.ref 0]) rfl rfl rfl rfl (Nat.le_of_ble_eq_true rfl) rfl ⟨5000, ci_indep _ _ _ _ _ _ _ _ _ (by decide) h2r⟩ ?_
  refine ev_go hc_L (k := 1) (pc' := 8) (L' := [.ref ci_scr, .ref 0, ci_junk, ci_junk, ci_junk, ci_junk, ci_junk, ci_junk]) (S' := []) rfl ?_
  refine ev_6 hc_L (i := .new 26) (len := 3) (x := 12) rfl h3 ?_
  refine ev_go hc_L (k := 1) (pc' := 12) (L' := [.ref ci_scr, .ref 0, ci_junk, ci_junk, ci_junk, ci_junk, ci_junk, ci_junk]) (S' := [.ref 127, .ref 127]) rfl ?_
  refine ev_12 (d := 1989) hc_L (x := 168) (q := q_X12_init) (vs := [.ref 127]) (rest := [.ref 127]) rfl rfl rfl rfl (Nat.le_of_ble_eq_true rfl) rfl ⟨5000, ci_indep _ _ _ _ _ _ _ _ _ (by decide) h4r⟩ ?_
  refine ev_go hc_L (k := 2) (pc' := 17) (L' := [.ref ci_scr, .ref 0, .ref 127, ci_junk, ci_junk, ci_junk, ci_junk, ci_junk]) (S' := [.int 1]) rfl ?_
  refine ev_6 hc_L (i := .newarray .long) (len := 2) (x := 0) rfl h5 ?_
  refine ev_go hc_L (k := 3) (pc' := 23) (L' := [.ref ci_scr, .ref 0, .ref 127, .ref 148, .int 0, ci_junk, ci_junk, ci_junk]) (S' := []) rfl ?_
  exact kk
theorem init_inv {μ : Mem} (h : Init0 μ) : Inv 0 μ := by
  obtain ⟨h1, h2, h3⟩ := h
  have c : ∀ (a x : Nat) (fs : List Nat) (j : Nat), hp_T[a]? = some (6, x, fs) → fs[j]? = some 0 → μ.1 a j = ct_iv a j := h2
  have r : ∀ (a n j : Nat) (t : Nat), hp_T[a]? = some (t, n, []) → (t = 0 ∨ t = 2 ∨ t = 3) → j < n → μ.1 a j = ct_iv a j := fun a n j t h4 h5 h6 => h1 a _ j h4 h5 h6
  refine ⟨⟨2, 0, 0, 2, ⟨⟨c 1 _ _ 5 rfl rfl, c 1 _ _ 6 rfl rfl, c 1 _ _ 7 rfl rfl, c 1 _ _ 8 rfl rfl⟩, ⟨c 127 _ _ 1 rfl rfl, c 127 _ _ 2 rfl rfl, c 127 _ _ 3 rfl rfl, c 127 _ _ 6 rfl rfl⟩, ⟨by decide, by decide⟩, by decide, by decide, by decide, by decide⟩, fun k hk => absurd hk (by omega), ?_, ?_, ⟨fun k hk => absurd hk (by omega), fun k hk => absurd hk (by omega)⟩, ?_, ?_, ?_, ?_, ?_⟩, ?_⟩
  · rw [SR_0]
    have hS : StA μ.1 2 (μ.1 128) := by
      refine ⟨fun t ht => ?_, fun x hx => ?_, ?_⟩
      · have : ∀ t, t < 12 → ct_iv 5 t = ct_iv 128 t ∧ ct_iv 3 t = ct_iv 128 (12 + t) ∧ ct_iv 4 t = ct_iv 128 (24 + t) := by decide +kernel
        obtain ⟨k1, k2, k3⟩ := this t ht
        refine ⟨?_, ?_, ?_⟩
        · show μ.1 5 t = _
          rw [r 5 12 t 0 rfl (Or.inl rfl) ht, r 128 42 t 0 rfl (Or.inl rfl) (by omega)]; exact k1
        · show μ.1 3 t = _
          rw [r 3 12 t 0 rfl (Or.inl rfl) ht, r 128 42 (12 + t) 0 rfl (Or.inl rfl) (by omega)]; exact k2
        · show μ.1 4 t = _
          rw [r 4 12 t 0 rfl (Or.inl rfl) ht, r 128 42 (24 + t) 0 rfl (Or.inl rfl) (by omega)]; exact k3
      · have : ∀ t, t < 5 → ct_iv 6 t = ct_iv 128 (36 + t) := by decide +kernel
        show μ.1 6 x = _
        rw [r 6 5 x 0 rfl (Or.inl rfl) hx, r 128 42 (36 + x) 0 rfl (Or.inl rfl) (by omega)]
        exact this x hx
      · show μ.1 2 4 = _
        rw [c 2 _ _ 4 rfl rfl, r 128 42 41 0 rfl (Or.inl rfl) (by omega)]
        decide +kernel
    exact hS
  · refine ⟨fun t ht => absurd ht (by omega), fun x hx => ⟨100, by omega, ?_⟩, 0, by omega, ?_⟩
    · have : ∀ t, t < 2 → ct_iv 128 (36 + t) = nI 100 := by decide +kernel
      show μ.1 128 (36 + x) = _
      rw [r 128 42 (36 + x) 0 rfl (Or.inl rfl) (by omega)]
      exact this x hx
    · show μ.1 128 41 = _
      rw [r 128 42 41 0 rfl (Or.inl rfl) (by omega)]
      decide +kernel
  · exact ⟨0, by omega, c 11 _ _ 1 rfl rfl, c 127 _ _ 8 rfl rfl, fun i hi => absurd hi (by omega)⟩
  · exact ⟨0, 0, by omega, by omega, c 0 _ _ 13 rfl rfl, c 127 _ _ 33 rfl rfl, c 127 _ _ 34 rfl rfl, fun i hi => absurd hi (by omega)⟩
  · exact ⟨0, 0, by omega, by omega, c 24 _ _ 1 rfl rfl, c 24 _ _ 2 rfl rfl, c 127 _ _ 23 rfl rfl, fun i hi => absurd hi (by omega)⟩
  · refine ⟨0, by omega, c 127 _ _ 39 rfl rfl, fun i hi => ?_⟩
    have hi2 : i = 0 ∨ i = 1 := by omega
    rcases hi2 with rfl | rfl
    · have e147 : cl μ 147 0 = nI 0 := r 147 2 0 0 rfl (Or.inl rfl) (by omega)
      have e146 : cl μ 146 0 = 0 := r 146 2 0 3 rfl (Or.inr (Or.inr rfl)) (by omega)
      have e103 : cl μ 103 0 = 0 := r 103 2 0 3 rfl (Or.inr (Or.inr rfl)) (by omega)
      exact ⟨⟨0, by omega, e147⟩, Or.inl e146, Or.inr ⟨e103, fun z => by rw [e146] at z; exact absurd z.1 (by decide)⟩⟩
    · have e147 : cl μ 147 1 = nI 0 := r 147 2 1 0 rfl (Or.inl rfl) (by omega)
      have e146 : cl μ 146 1 = 0 := r 146 2 1 3 rfl (Or.inr (Or.inr rfl)) (by omega)
      have e103 : cl μ 103 1 = 0 := r 103 2 1 3 rfl (Or.inr (Or.inr rfl)) (by omega)
      exact ⟨⟨0, by omega, e147⟩, Or.inl e146, Or.inr ⟨e103, fun z => by rw [e146] at z; exact absurd z.1 (by decide)⟩⟩
  · exact ⟨0, 0, fun _ => 0, by omega, by omega, c 127 _ _ 19 rfl rfl, c 17 _ _ 2 rfl rfl, fun i hi => absurd hi (by omega), Or.inl ⟨rfl, rfl⟩⟩
  · exact ⟨0, by omega, c 0 _ _ 7 rfl rfl, c 127 _ _ 10 rfl rfl, fun i hi => absurd hi (by omega)⟩
theorem law_pure : Law_pure := by
  intro xs N hN
  have key : ∃ (h' : ci_H) (nx' : ci_N), nx'.2.1 ≤ 149 + 512 ∧ nx'.2.2 ≤ 2647 + 6 * 512 ∧ Ev xs N 1990 287 0 (ci_entry [.ref ci_scr] 8) [] ct_h0 (0, 0, 0) (some (.int 1), h', nx') := by
    obtain ⟨κ0, μ0, hR0, hI0, hgo⟩ := law_start2 (xs := xs) (N := N)
    obtain ⟨h', nx', k1, k2, k3⟩ := law_loop (xs := xs) hN hR0 (N / 5) 0 (by omega) μ0 (149, 149, 2647) (init_inv hI0)
    refine ⟨h', nx', ?_, ?_, ?_⟩
    · have : nx'.2.1 ≤ 149 + N / 5 := k1
      omega
    · have : nx'.2.2 ≤ 2647 + 6 * (N / 5) := k2
      omega
    · exact hgo _ k3
  obtain ⟨h', nx', k1, k2, n, hn⟩ := key
  exact ⟨n, h', nx', hn, by omega, by omega⟩
theorem i_vc : Claimed_1_1 ∧ Claimed_1_2 := i_vc_of law_pure
