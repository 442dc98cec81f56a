/-! PURE: things that come: the class; both readings whole. -/
theorem x_addTL {κ : Kp} {μ : Mem} {tc : Nat} {l : List (Int32 × Int32)} (h7 : μ.1 1 6 = nI tc) (hl : tc + l.length ≤ 12) (hi : Its (μ.1 14) (μ.1 15) 0 l) : ∃ gT gO gK, NeR gT (μ.1 5) tc l.length (fun k => (l.getD k (0, 0)).1) ∧ NeR gO (μ.1 3) tc l.length (fun k => (l.getD k (0, 0)).2) ∧ NeR gK (μ.1 4) tc l.length (fun k => (l.getD k (0, 0)).2) ∧ F_X10_addThings 1 13 (nI l.length) (hp κ μ) = (F_X10_sortThings 1 (hp κ (ntM μ gT gO gK (tc + l.length)))).bind fun h1 => some h1 := by
  have hs : ∀ k ν, k < l.length → (∃ gT gO gK, ν = ntM μ gT gO gK (tc + k) ∧ NeR gT (μ.1 5) tc k (fun k => (l.getD k (0, 0)).1) ∧ NeR gO (μ.1 3) tc k (fun k => (l.getD k (0, 0)).2) ∧ NeR gK (μ.1 4) tc k (fun k => (l.getD k (0, 0)).2)) → ∃ ξ, (∀ n, (fun n k ν => b_X10_addThings_2 1 13 (nI l.length) n (nI k) (hp κ ν)) (n + 1) k ν = (fun n k ν => b_X10_addThings_2 1 13 (nI l.length) n (nI k) (hp κ ν)) n (k + 1) ξ) ∧ ∃ gT gO gK, ξ = ntM μ gT gO gK (tc + (k + 1)) ∧ NeR gT (μ.1 5) tc (k + 1) (fun k => (l.getD k (0, 0)).1) ∧ NeR gO (μ.1 3) tc (k + 1) (fun k => (l.getD k (0, 0)).2) ∧ NeR gK (μ.1 4) tc (k + 1) (fun k => (l.getD k (0, 0)).2) := by
    rintro k ν hk ⟨gT, gO, gK, rfl, n1, n2, n3⟩
    obtain ⟨i1, i2⟩ := hi k hk
    rw [Nat.zero_add] at i1 i2
    have e7 : ∀ gT gO gK c, (ntM μ gT gO gK c).1 1 6 = nI c := fun _ _ _ _ => rfl
    have e14 : ∀ gT gO gK c, (ntM μ gT gO gK c).1 14 k = (l.getD k (0, 0)).1 := fun _ _ _ _ => i1
    have e15 : ∀ gT gO gK c, (ntM μ gT gO gK c).1 15 k = (l.getD k (0, 0)).2 := fun _ _ _ _ => i2
    refine ⟨_, fun n => ?_, _, _, _, rfl, n1.up, n2.up, n3.up⟩
    (try dsimp only)
    rw [b_X10_addThings_2, if_neg (nI_ge hk (by omega)), g1_6, obs, e7, if_neg (show ¬ (12 : Int32) ≤ nI (tc + k) from nI_ge (b := 12) (by omega) (by decide)), g1_0, obs, g2_2, obs, obs, g13_1, obs, r14 (by omega), obs, e14, w5 (by omega), obs, nt_5, g1_0, obs, g2_0, obs, g1_6, obs, e7, g13_2, obs, r15 (by omega), obs, e15, w3 (by omega), obs, nt_3, g1_0, obs, g2_1, obs, g1_6, obs, e7, g13_2, obs, r15 (by omega), obs, e15, w4 (by omega), obs, nt_4, g1_6, obs, e7, nI_1, p1_6, obs, nt_1, nI_1]
    rfl
  obtain ⟨ξ, ⟨gT, gO, gK, hg, n1, n2, n3⟩, h2⟩ := lpf (fun n k ν => b_X10_addThings_2 1 13 (nI l.length) n (nI k) (hp κ ν)) (fun k ν => ∃ gT gO gK, ν = ntM μ gT gO gK (tc + k) ∧ NeR gT (μ.1 5) tc k (fun k => (l.getD k (0, 0)).1) ∧ NeR gO (μ.1 3) tc k (fun k => (l.getD k (0, 0)).2) ∧ NeR gK (μ.1 4) tc k (fun k => (l.getD k (0, 0)).2)) l.length hs μ ⟨μ.1 5, μ.1 3, μ.1 4, (nt_0 h7).symm, ⟨fun _ _ => rfl, fun j hj => absurd hj (Nat.not_lt_zero _)⟩, ⟨fun _ _ => rfl, fun j hj => absurd hj (Nat.not_lt_zero _)⟩, fun _ _ => rfl, fun j hj => absurd hj (Nat.not_lt_zero _)⟩ l.length (Nat.le_refl _)
  subst hg
  refine ⟨gT, gO, gK, n1, n2, n3, ?_⟩
  have h3 := h2 (4999 - l.length + 1)
  (try dsimp only at h3)
  rw [show 4999 - l.length + 1 + l.length = 5000 by omega] at h3
  unfold F_X10_addThings
  rw [if_pos q1]
  refine Eq.trans h3 ?_
  rw [b_X10_addThings_2, if_pos (nI_le (Nat.le_refl _) (by omega))]
  rfl
theorem x_readT {κ : Kp} {μ : Mem} {ln T tc hc : Nat} {tx : Nat → Nat} (h1 : μ.1 11 1 = nI ln) (hl : ln ≤ 80) (hT : T = if ln ≤ 76 then ln else 76) (h : ∀ i, i < ln → tx i < 256 ∧ μ.1 12 i = nI (tx i)) (hk : tc ≤ 12) (hh : hc ≤ 5) : ∃ g f, F_X8_readThings 13 (nI (12 - tc)) (nI hc) (hp κ μ) = some (if (rdl (t1 (pkf tx T) hc) (pkf tx T) (12 - tc) 20 0 0).1 = true ∧ (rdl (t1 (pkf tx T) hc) (pkf tx T) (12 - tc) 20 0 0).2.1 = ln then nI (rdl (t1 (pkf tx T) hc) (pkf tx T) (12 - tc) 20 0 0).2.2.length else -1 - nI (rdl (t1 (pkf tx T) hc) (pkf tx T) (12 - tc) 20 0 0).2.1, hp κ (kxM (upI μ 11 3 (nI T)) (rdl (t1 (pkf tx T) hc) (pkf tx T) (12 - tc) 20 0 0).2.1 g f)) ∧ ((rdl (t1 (pkf tx T) hc) (pkf tx T) (12 - tc) 20 0 0).1 = true → Its g f 0 (rdl (t1 (pkf tx T) hc) (pkf tx T) (12 - tc) 20 0 0).2.2) := by
  have hT2 : T ≤ 76 ∧ T ≤ ln := by split at hT <;> omega
  have hTX : TX (upI μ 11 3 (nI T)).1 T tx := ⟨rfl, by omega, fun i hi => h i (by omega)⟩
  obtain ⟨g, f, e1, -, e3⟩ := x_thingsL (κ := κ) hTX (ln := ln) h1 hl (room := 12 - tc) (by omega) hh 20 0 0 4980 (μ.1 14) (μ.1 15) (by omega) (Nat.zero_le _) (by omega)
  refine ⟨g, f, ?_, e3⟩
  have ho := x_openT (κ := κ) (tp := 76) h1 hl (by decide)
  rw [← hT] at ho
  have ho : F_X9_open 11 76 (hp κ μ) = _ := ho
  unfold F_X8_readThings
  rw [if_pos q13, g13_0, obs, ho, obs]
  rw [Nat.zero_add] at e1
  exact e1
/-- the reference's things -/
theorem y_thingsR {κ : Kp} {ν : Mem} {ln T tc hc : Nat} {tx : Nat → Nat} (h8 : ν.1 127 8 = nI ln) (hl : ln ≤ 80) (h0 : 0 < ln) (hT : T = if ln ≤ 76 then ln else 76) (h : ∀ i, i < ln → tx i < 256 ∧ ν.1 131 i = by8 (tx i)) (h1 : ν.1 127 1 = nI hc) (hh : 1 ≤ hc ∧ hc ≤ 5) (h3 : ν.1 127 2 = nI tc) (hk : tc ≤ 12) : ∃ g', (((rdl (t1 (pkf tx T) hc) (pkf tx T) (12 - tc) 20 0 0).1 = true ∧ (rdl (t1 (pkf tx T) hc) (pkf tx T) (12 - tc) 20 0 0).2.1 = ln ∧ Ity g' 0 (rdl (t1 (pkf tx T) hc) (pkf tx T) (12 - tc) 20 0 0).2.2 ∧ tc + (rdl (t1 (pkf tx T) hc) (pkf tx T) (12 - tc) 20 0 0).2.2.length ≤ 12 ∧ F_X12_things 127 (hp κ ν) = b_X12_things_133 127 (nI (rdl (t1 (pkf tx T) hc) (pkf tx T) (12 - tc) 20 0 0).2.2.length) bigN 0 (hp κ (rdM (rowI (btM (Zr ν) ln 76) 133 g') ln (-1)))) ∨ (¬ ((rdl (t1 (pkf tx T) hc) (pkf tx T) (12 - tc) 20 0 0).1 = true ∧ (rdl (t1 (pkf tx T) hc) (pkf tx T) (12 - tc) 20 0 0).2.1 = ln) ∧ ∃ a' w', F_X12_things 127 (hp κ ν) = some (-1 - nI (rdl (t1 (pkf tx T) hc) (pkf tx T) (12 - tc) 20 0 0).2.1, hp κ (rdM (rowI (btM (Zr ν) ln 76) 133 g') a' w')))) := by
  have z8 : (Zr ν).1 127 8 = nI ln := h8
  have hT2 : T ≤ 76 ∧ T ≤ ln := by split at hT <;> omega
  have hbt : F_X12_beginText 127 76 (hp κ (Zr ν)) = _ := y_beginText (κ := κ) (tp := 76) z8
  have hRD : RD (btM (Zr ν) ln 76) 131 ln 76 T tx := ⟨rfl, Or.inl ⟨rfl, by omega⟩, rfl, rfl, hl, by decide, hT, fun i hi => h i (by omega)⟩
  obtain ⟨g', -, hg⟩ := y_thingsL (κ := κ) hRD hT2.2 (tc := tc) (hc := hc) h1 hh h3 hk 20 0 0 4979 ((btM (Zr ν) ln 76).1 133) (by omega) (Nat.zero_le _) (by omega)
  rw [rowI_id] at hg
  have hF : F_X12_things 127 (hp κ ν) = b_X12_things_24 127 (4979 + 20 + 1) (nI 0) 1 (hp κ (rdM (btM (Zr ν) ln 76) 0 (-1))) := by
    have e13 : (rdM (btM (Zr ν) ln 76) 0 (-1)).1 127 13 = nI ln := rfl
    unfold F_X12_things
    rw [if_pos q127, p11, obs, hbt, obs, g127_13, obs, e13, if_neg (show ¬ nI ln = 0 from fun z => absurd ((i_eq (b := 0) (by omega) (by decide)).mp z) (by omega))]
    rfl
  rw [← hF] at hg
  refine ⟨g', ?_⟩
  rcases hg with ⟨r1, r2, r3, r4, r5⟩ | ⟨r1, r2⟩
  · rw [Nat.zero_add] at r5
    exact Or.inl ⟨r1, r2, r3, r4, r5⟩
  · exact Or.inr ⟨r1, r2⟩
