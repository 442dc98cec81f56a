/-! PURE: pair: kinds. -/
theorem bt2_n {ν : Mem} {ln tp a : Nat} {w : Int32} {z : Nat} (hz : z ≠ 127) : (rdM (btM (Zr ν) ln tp) a w).1 z = ν.1 z := by
  rw [rdM_n hz]
  unfold btM bgM
  rw [rowI_n hz, rowI_n hz, rowI_n hz, rowI_n hz, Zr_n hz]
theorem bt3_n {ν : Mem} {ln tp a : Nat} {w : Int32} {z : Nat} {g : Nat → Int32} (hz : z ≠ 127) (h2 : z ≠ 133) : (rdM (rowI (btM (Zr ν) ln tp) 133 g) a w).1 z = ν.1 z := by
  rw [rdM_n hz, rowI_n h2]
  unfold btM bgM
  rw [rowI_n hz, rowI_n hz, rowI_n hz, rowI_n hz, Zr_n hz]
theorem bt3_j {ν : Mem} {ln tp a : Nat} {w : Int32} {j : Nat} {g : Nat → Int32} (hj : rel 127 j = true ∨ j = 10) (h8 : j ≠ 8) : (rdM (rowI (btM (Zr ν) ln tp) 133 g) a w).1 127 j = ν.1 127 j := by
  have h : j ≠ 11 ∧ j ≠ 12 ∧ j ≠ 13 ∧ j ≠ 14 ∧ j ≠ 15 ∧ j ≠ 16 ∧ j ≠ 20 := by
    rcases hj with hj | hj
    · exact rel_no hj
    · omega
  rw [rdM_j h.2.2.2.2.1 h.2.2.2.2.2.1, rowI_n (by decide)]
  show upd (upd (upd (upd (upd (ν.1 127) 11 0) 12 (nI 131)) 13 (nI ln)) 14 (nI tp)) 8 0 j = _
  rw [pk_un h8, pk_un h.2.2.2.1, pk_un h.2.2.1, pk_un h.2.1, pk_un h.1]
/-- what a text that names nothing, or wrongly, leaves -/
theorem inv_bad {B : Nat} {μ μ1 : Mem} {ln tp a : Nat} {w : Int32} {g : Nat → Int32} (hI : Inv B μ) (m1 : ∀ z, z ≠ 11 → z ≠ 14 → z ≠ 15 → μ1.1 z = μ.1 z) (t1 : μ1.1 11 1 = 0) (hm2 : μ1.2 = μ.2) : Inv (B + 1200) (rdM (rowI (btM (Zr μ1) ln tp) 133 g) a w) := by
  have hru := hI.ru
  have m127 := m1 127 (by decide) (by decide) (by decide)
  refine ⟨?_, row_sm hI.2 ?_ ?_ hm2⟩
  · have h := inv_txr (B := B) (μ := μ) (ξ := rowI (rowI (rowI (rdM (rowI (btM (Zr μ1) ln tp) 133 g) a w) 14 (μ.1 14)) 15 (μ.1 15)) 133 (μ.1 133)) hI.1 ?_ ?_ ?_ ?_ ?_
    · rw [cl_i3] at h
      exact h
    · intro z z1 z2 z3 z4 z5 z6 z7
      by_cases c1 : z = 133
      · subst c1; rw [rowI_s]
      · rw [rowI_n c1]
        by_cases c2 : z = 15
        · subst c2; rw [rowI_s]
        · rw [rowI_n c2]
          by_cases c3 : z = 14
          · subst c3; rw [rowI_s]
          · rw [rowI_n c3, bt3_n z2 c1, m1 z z1 c3 c2]
    · intro j j1 j2 j3
      rw [rowI_n (by decide), rowI_n (by decide), rowI_n (by decide), bt3_j (Or.inl j1) j2, m127]
    · rw [rowI_n (by decide), rowI_n (by decide), rowI_n (by decide), bt3_n (by decide) (by decide)]
      exact t1
    · rfl
    · unfold Ru at hru ⊢
      rw [rowI_n (b := 127) (by decide), rowI_n (b := 127) (by decide), rowI_n (b := 127) (by decide), bt3_j (Or.inl rfl) (by decide), m127, rowI_n (b := 17) (by decide), rowI_n (b := 17) (by decide), rowI_n (b := 17) (by decide), bt3_n (z := 17) (by decide) (by decide), m1 17 (by decide) (by decide) (by decide), rowI_n (b := 134) (by decide), rowI_n (b := 134) (by decide), rowI_n (b := 134) (by decide), bt3_n (z := 134) (by decide) (by decide), m1 134 (by decide) (by decide) (by decide), rowI_n (b := 18) (by decide), rowI_n (b := 18) (by decide), rowI_n (b := 18) (by decide), bt3_n (z := 18) (by decide) (by decide), m1 18 (by decide) (by decide) (by decide)]
      exact hru
  · rw [bt3_n (by decide) (by decide), m1 0 (by decide) (by decide) (by decide)]
  · rw [bt3_j (Or.inr rfl) (by decide), m127]
/-- the reference's kinds -/
theorem y_kindsR {κ : Kp} {ν : Mem} {ln T kc : Nat} {tx : Nat → Nat} (h8 : ν.1 127 8 = nI ln) (hl : ln ≤ 80) (h0 : 0 < ln) (hT : T = if ln ≤ 60 then ln else 60) (h : ∀ i, i < ln → tx i < 256 ∧ ν.1 131 i = by8 (tx i)) (h3 : ν.1 127 3 = nI kc) (hk : kc ≤ 6) : ∃ g', (((rdl (k1 (pkf tx T)) (pkf tx T) (6 - kc) 20 0 0).1 = true ∧ (rdl (k1 (pkf tx T)) (pkf tx T) (6 - kc) 20 0 0).2.1 = ln ∧ Ity g' 0 (rdl (k1 (pkf tx T)) (pkf tx T) (6 - kc) 20 0 0).2.2 ∧ kc + (rdl (k1 (pkf tx T)) (pkf tx T) (6 - kc) 20 0 0).2.2.length ≤ 6 ∧ F_X12_kinds 127 (hp κ ν) = b_X12_kinds_136 127 (nI (rdl (k1 (pkf tx T)) (pkf tx T) (6 - kc) 20 0 0).2.2.length) bigN 0 (hp κ (rdM (rowI (btM (Zr ν) ln 60) 133 g') ln (-1)))) ∨ (¬ ((rdl (k1 (pkf tx T)) (pkf tx T) (6 - kc) 20 0 0).1 = true ∧ (rdl (k1 (pkf tx T)) (pkf tx T) (6 - kc) 20 0 0).2.1 = ln) ∧ ∃ a' w', F_X12_kinds 127 (hp κ ν) = some (-1 - nI (rdl (k1 (pkf tx T)) (pkf tx T) (6 - kc) 20 0 0).2.1, hp κ (rdM (rowI (btM (Zr ν) ln 60) 133 g') a' w')))) := by
  have z8 : (Zr ν).1 127 8 = nI ln := h8
  have hT2 : T ≤ 60 ∧ T ≤ ln := by split at hT <;> omega
  have hbt : F_X12_beginText 127 60 (hp κ (Zr ν)) = _ := y_beginText (κ := κ) (tp := 60) z8
  have hRD : RD (btM (Zr ν) ln 60) 131 ln 60 T tx := ⟨rfl, Or.inl ⟨rfl, by omega⟩, rfl, rfl, hl, by decide, hT, fun i hi => h i (by omega)⟩
  obtain ⟨g', -, hg⟩ := y_kindsL (κ := κ) hRD hT2.2 (kc := kc) h3 hk 20 0 0 4979 ((btM (Zr ν) ln 60).1 133) (by omega) (Nat.zero_le _) (by omega)
  rw [rowI_id] at hg
  have hF : F_X12_kinds 127 (hp κ ν) = b_X12_kinds_24 127 (4979 + 20 + 1) (nI 0) 1 (hp κ (rdM (btM (Zr ν) ln 60) 0 (-1))) := by
    have e13 : (rdM (btM (Zr ν) ln 60) 0 (-1)).1 127 13 = nI ln := rfl
    unfold F_X12_kinds
    rw [if_pos q127, p11, obs, hbt, obs, g127_13, obs, e13, if_neg (show ¬ nI ln = 0 from fun z => absurd ((i_eq (b := 0) (by omega) (by decide)).mp z) (by omega))]
    rfl
  rw [← hF] at hg
  refine ⟨g', ?_⟩
  rcases hg with ⟨r1, r2, r3, r4, r5⟩ | ⟨r1, r2⟩
  · rw [Nat.zero_add] at r5
    exact Or.inl ⟨r1, r2, r3, r4, r5⟩
  · exact Or.inr ⟨r1, r2⟩
