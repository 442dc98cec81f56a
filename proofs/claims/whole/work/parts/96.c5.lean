/-! PURE: pair: rule. -/
theorem xM_0 {μ : Mem} {T : Nat} : upI (upI (upI μ 11 2 0) 11 3 (nI T)) 21 2 0 = xM (upI μ 11 3 (nI T)) 0 [] := by
  refine Prod.ext ?_ rfl
  funext z
  by_cases c1 : z = 11
  · subst c1
    show upd (upd (μ.1 11) 2 0) 3 (nI T) = upd (upd (μ.1 11) 3 (nI T)) 2 (nI 0)
    rw [fa_upd_swap _ (by decide : (2 : Nat) ≠ 3)]
    rfl
  · by_cases c2 : z = 21
    · subst c2; rfl
    · by_cases c3 : z = 22
      · subst c3
        show μ.1 22 = fun i => if i < 0 then ([] : List Int32).getD i 0 else μ.1 22 i
        funext i
        rw [if_neg (Nat.not_lt_zero _)]
      · unfold xM
        rw [rowI_n c2, rowI_n c1, rowI_n c1, rowI_n c3, rowI_n c2, rowI_n c1, rowI_n c1]
section PRV
variable {κ : Kp} {μ : Mem} {ln T : Nat} {tx : Nat → Nat}
theorem x_readR (h1 : μ.1 11 1 = nI ln) (hl : ln ≤ 80) (hT : T = if ln ≤ 40 then ln else 40) (h : ∀ i, i < ln → tx i < 256 ∧ μ.1 12 i = nI (tx i)) (q : Rr) (hq : rp (pkf tx T) 100 0 0 0 = q) : F_X5_read 20 (hp κ μ) = some (if q.1 = true ∧ q.2.1 = ln then 0 else -1 - nI q.2.1, hp κ (xM (upI μ 11 3 (nI T)) q.2.1 q.2.2)) := by
  have hT40 : T ≤ 40 ∧ T ≤ ln := by split at hT <;> omega
  have hTX : TX (upI μ 11 3 (nI T)).1 T tx := ⟨rfl, by omega, fun i hi => h i (by omega)⟩
  have hr := x_reads (κ := κ) hTX hT40.1
  have hpos := rp_pos (tx := tx) (T := T) 100 0 0 0 (Nat.zero_le _)
  rw [hq] at hr hpos
  have e1 : (upI μ 11 2 0).1 11 1 = nI ln := h1
  have e3 : (if (40 : Int32) < nI ln then 40 else nI ln) = nI T := by
    by_cases c : ln ≤ 40
    · rw [if_pos c] at hT
      rw [hT, if_neg (show ¬ (40 : Int32) < nI ln from nI_nlt (a := 40) c (by decide))]
    · rw [if_neg c] at hT
      rw [hT, if_pos (show (40 : Int32) < nI ln from nI_lt (a := 40) (by omega) (by omega))]
      rfl
  have f39 : ∀ ζ : Mem, ζ.1 11 2 = nI q.2.1 → b_X5_read_39 20 (hp κ ζ) = some (-1 - nI q.2.1, hp κ ζ) := fun ζ hζ => by
    unfold b_X5_read_39 F_X9_fault
    rw [g20_0, obs, if_pos q11, g11_2, obs, obs, hζ]
  unfold F_X5_read F_X9_open
  rw [if_pos q20, g20_0, obs, if_pos q11, p11_2, obs, g11_1, obs, e1, e3, p11_3, obs, obs, g20_1, obs, p21_2, obs, xM_0, hr, obs]
  (try dsimp only)
  have m2 : (xM (upI μ 11 3 (nI T)) q.2.1 q.2.2).1 11 2 = nI q.2.1 := rfl
  have m1 : (xM (upI μ 11 3 (nI T)) q.2.1 q.2.2).1 11 1 = nI ln := h1
  have hp2 := hpos.2
  cases hb : q.1 with
  | false =>
    rw [if_pos (show bI false = 0 from rfl), f39 _ m2, if_neg (fun z => nomatch z.1)]
  | true =>
    rw [if_neg (show ¬ bI true = 0 by decide), g20_0, obs]
    unfold F_X9_ended
    rw [if_pos q11, g11_2, obs, m2, g11_1, obs, m1]
    by_cases c : q.2.1 = ln
    · rw [if_pos (show nI q.2.1 = nI ln by rw [c]), obs]
      (try dsimp only)
      rw [if_neg (by decide), if_pos ⟨rfl, c⟩]
    · rw [if_neg (show ¬ nI q.2.1 = nI ln from fun z => c ((i_eq (by omega) (by omega)).mp z)), obs]
      (try dsimp only)
      rw [if_pos rfl, f39 _ m2, if_neg (fun z => c z.2)]
end PRV
theorem rel_no {j : Nat} (h : rel 127 j = true) : j ≠ 11 ∧ j ≠ 12 ∧ j ≠ 13 ∧ j ≠ 14 ∧ j ≠ 15 ∧ j ≠ 16 ∧ j ≠ 20 := by
  refine ⟨?_, ?_, ?_, ?_, ?_, ?_, ?_⟩ <;> (intro z; subst z; exact absurd h (by decide))
theorem bt_n {ν : Mem} {ln a : Nat} {w : Int32} {z : Nat} (hz : z ≠ 127) : (rdM (upI (btM (Zr ν) ln 40) 127 20 0) a w).1 z = ν.1 z := by
  rw [rdM_n hz]
  unfold btM bgM
  rw [rowI_n hz, rowI_n hz, rowI_n hz, rowI_n hz, rowI_n hz, Zr_n hz]
theorem bt_j {ν : Mem} {ln a : Nat} {w : Int32} {j : Nat} (hj : rel 127 j = true ∨ j = 10) (h8 : j ≠ 8) : (rdM (upI (btM (Zr ν) ln 40) 127 20 0) a w).1 127 j = ν.1 127 j := by
  have h : j ≠ 11 ∧ j ≠ 12 ∧ j ≠ 13 ∧ j ≠ 14 ∧ j ≠ 15 ∧ j ≠ 16 ∧ j ≠ 20 := by
    rcases hj with hj | hj
    · exact rel_no hj
    · omega
  rw [rdM_j h.2.2.2.2.1 h.2.2.2.2.2.1]
  show upd (upd (upd (upd (upd (upd (ν.1 127) 11 0) 12 (nI 131)) 13 (nI ln)) 14 (nI 40)) 8 0) 20 0 j = _
  rw [pk_un h.2.2.2.2.2.2, pk_un h8, pk_un h.2.2.2.1, pk_un h.2.2.1, pk_un h.2.1, pk_un h.1]
theorem row_sm {μ ξ : Mem} (h : Row μ) (h0 : ξ.1 0 7 = μ.1 0 7) (h1 : ξ.1 127 10 = μ.1 127 10) (h2 : ξ.2 = μ.2) : Row ξ := by
  obtain ⟨rs, r1, r2, r3, r4⟩ := h
  exact ⟨rs, r1, h0.trans r2, h1.trans r3, fun i hi => by rw [h2]; exact r4 i hi⟩
theorem pr_rule : P0 F_X11_rule F_X12_rule := by
  intro κ B μ hR hB hI
  obtain ⟨ln, hl, t1, t8, htx⟩ : Tx (cl μ) := by
    obtain ⟨⟨hc, tc, kc, lm, -, -, -, -, -, h6, -⟩, -⟩ := hI
    exact h6
  have t1 : μ.1 11 1 = nI ln := t1
  have t8 : μ.1 127 8 = nI ln := t8
  obtain ⟨tx, htx⟩ : ∃ tx : Nat → Nat, ∀ i, i < ln → tx i < 256 ∧ μ.1 12 i = nI (tx i) ∧ μ.1 131 i = by8 (tx i) := by
    refine ⟨fun i => if hi : i < ln then Classical.choose (htx i hi) else 0, fun i hi => ?_⟩
    have := Classical.choose_spec (htx i hi)
    (try dsimp only)
    rw [dif_pos hi]
    exact this
  obtain ⟨T, hT⟩ : ∃ T, T = if ln ≤ 40 then ln else 40 := ⟨_, rfl⟩
  have hT40 : T ≤ 40 ∧ T ≤ ln := by split at hT <;> omega
  generalize hq : rp (pkf tx T) 100 0 0 0 = q
  have hpos := rp_pos (tx := tx) (T := T) 100 0 0 0 (Nat.zero_le _)
  rw [hq] at hpos
  have hru := hI.ru
  by_cases c0 : ln = 0
  · -- no text: no rule
    subst c0
    have hy := (y_rule (κ := κ) (ν := upI μ 17 2 0) (ln := 0) (T := T) (tx := tx) t8 (by decide) hT (fun i hi => absurd hi (Nat.not_lt_zero _)) q (fun z => absurd z (Nat.lt_irrefl _))).2 (Or.inl rfl)
    obtain ⟨a, w, g, y1, y2⟩ := hy
    refine ⟨0, upI μ 17 2 0, _, ?_, y1, ?_, row_sm hI.2 ?_ ?_ rfl⟩
    · unfold F_X11_rule
      rw [if_pos q0, g0_1, obs, g11_1, obs, t1, if_pos (show nI 0 = 0 from rfl), g0_3, obs, p17_2, obs]
    · refine inv_txr hI.1 ?_ ?_ ?_ ?_ ?_
      · intro z z1 z2 z3 z4 z5 z6 z7
        rw [rowI_n z2, rowI_n z5, bt_n z2, rowI_n z3]
      · intro j j1 j2 j3
        rw [rowI_s, pk_un j3, rowI_n (by decide), bt_j (Or.inl j1) j2]
        rfl
      · exact t1
      · rfl
      · exact Ru.of (rn := 0) (tx := tx) (cd := []) (Or.inl ⟨rfl, rfl⟩) ⟨Nat.zero_le _, rfl, fun i hi => absurd hi (Nat.not_lt_zero _)⟩ ⟨Nat.zero_le _, rfl, fun i hi => absurd hi (Nat.not_lt_zero _)⟩
    · rfl
    · rfl
  · have hx := x_readR (κ := κ) t1 hl hT (fun i hi => ⟨(htx i hi).1, (htx i hi).2.1⟩) q hq
    by_cases cy : q.1 = true ∧ q.2.1 = ln
    · -- the rule is told
      rw [if_pos cy] at hx
      generalize hμ1 : upI (rowI (upI (xM (upI μ 11 3 (nI T)) q.2.1 q.2.2) 11 1 0) 18 (va_cpy ((upI (xM (upI μ 11 3 (nI T)) q.2.1 q.2.2) 11 1 0).1 22) ((upI (xM (upI μ 11 3 (nI T)) q.2.1 q.2.2) 11 1 0).1 18) 0 0 40)) 17 2 (nI q.2.2.length) = μ1
      have m1 : ∀ z, z ≠ 11 → z ≠ 17 → z ≠ 18 → z ≠ 21 → z ≠ 22 → μ1.1 z = μ.1 z := fun z z1 z2 z3 z4 z5 => by
        rw [← hμ1, rowI_n z2, rowI_n z3, rowI_n z1]
        unfold xM
        rw [rowI_n z5, rowI_n z4, rowI_n z1, rowI_n z1]
      have hcl : q.2.2.length ≤ 40 := by have := hpos.1; have := hpos.2; omega
      have r1 : μ1.1 17 2 = nI q.2.2.length := by rw [← hμ1]; rfl
      have r2 : ∀ i, i < q.2.2.length → μ1.1 18 i = q.2.2.getD i 0 := fun i hi => by
        rw [← hμ1]
        show (if 0 ≤ i ∧ i < 0 + 40 then (fun i => if i < q.2.2.length then q.2.2.getD i 0 else μ.1 22 i) (0 + (i - 0)) else μ.1 18 i) = _
        rw [if_pos (by omega), Nat.sub_zero, Nat.zero_add]
        show (if i < q.2.2.length then q.2.2.getD i 0 else μ.1 22 i) = _
        rw [if_pos hi]
      have r3 : μ1.1 11 1 = 0 := by rw [← hμ1]; rfl
      have r4 : μ1.2 = μ.2 := by rw [← hμ1]; rfl
      have m127 : μ1.1 127 = μ.1 127 := m1 127 (by decide) (by decide) (by decide) (by decide) (by decide)
      have m131 : μ1.1 131 = μ.1 131 := m1 131 (by decide) (by decide) (by decide) (by decide) (by decide)
      obtain ⟨a, w, g, y1, y2⟩ := (y_rule (κ := κ) (ν := μ1) (ln := ln) (T := T) (tx := tx) (by rw [m127]; exact t8) hl hT (fun i hi => by rw [m131]; exact ⟨(htx i hi).1, (htx i hi).2.2⟩) q (fun _ => hq)).2 (Or.inr cy)
      refine ⟨0, μ1, _, ?_, y1, ?_, row_sm hI.2 ?_ ?_ ?_⟩
      · unfold F_X11_rule
        rw [if_pos q0, g0_1, obs, g11_1, obs, t1, if_neg (show ¬ nI ln = 0 from fun z => c0 ((i_eq (b := 0) (by omega) (by decide)).mp z)), g0_4, obs, hx, obs]
        (try dsimp only)
        rw [g0_1, obs, p11_1, obs, if_pos rfl, g0_3, obs, g0_4, obs, g20_1, obs]
        unfold F_X4_copy
        rw [if_pos q17, g21_0, obs, g17_0, obs, show (40 : Int32) = nI 40 from rfl, cpI_hp rfl rfl (by decide) (by decide), obs, g21_2, obs, p17_2, obs, obs]
        rw [← hμ1]
        rfl
      · refine inv_txr hI.1 ?_ ?_ ?_ ?_ ?_
        · intro z z1 z2 z3 z4 z5 z6 z7
          rw [rowI_n z2, rowI_n z5, bt_n z2, m1 z z1 z3 z4 z6 z7]
        · intro j j1 j2 j3
          rw [rowI_s, pk_un j3, rowI_n (by decide), bt_j (Or.inl j1) j2, m127]
        · rw [rowI_n (by decide), rowI_n (by decide), bt_n (by decide)]
          exact r3
        · rfl
        · have eT : T = ln := by
            have := hpos.2
            have := cy.2
            omega
          refine Ru.of (rn := ln) (tx := tx) (cd := q.2.2) (Or.inr ⟨by omega, ?_⟩) ⟨hcl, ?_, ?_⟩ ⟨by omega, ?_, ?_⟩
          · rw [← eT, hq, eT]
            exact Prod.ext cy.1 (Prod.ext cy.2 rfl)
          · rw [rowI_n (by decide), rowI_n (by decide), bt_n (by decide)]
            exact r1
          · rw [rowI_n (by decide), rowI_n (by decide), bt_n (by decide)]
            exact r2
          · rw [rowI_s, pk_us]
          · intro i hi
            rw [rowI_n (by decide), rowI_s]
            exact ⟨(htx i hi).1, y2 i hi⟩
      · rw [rowI_n (by decide), rowI_n (by decide), bt_n (by decide), m1 0 (by decide) (by decide) (by decide) (by decide) (by decide)]
      · rw [rowI_s, pk_un (by decide), rowI_n (by decide), bt_j (Or.inr rfl) (by decide), m127]
      · exact r4
    · -- a fault
      rw [if_neg cy] at hx
      generalize hμ1 : upI (xM (upI μ 11 3 (nI T)) q.2.1 q.2.2) 11 1 0 = μ1
      have m1 : ∀ z, z ≠ 11 → z ≠ 21 → z ≠ 22 → μ1.1 z = μ.1 z := fun z z1 z4 z5 => by
        rw [← hμ1, rowI_n z1]
        unfold xM
        rw [rowI_n z5, rowI_n z4, rowI_n z1, rowI_n z1]
      have r3 : μ1.1 11 1 = 0 := by rw [← hμ1]; rfl
      have r4 : μ1.2 = μ.2 := by rw [← hμ1]; rfl
      have m127 : μ1.1 127 = μ.1 127 := m1 127 (by decide) (by decide) (by decide)
      have m131 : μ1.1 131 = μ.1 131 := m1 131 (by decide) (by decide) (by decide)
      obtain ⟨a, w, y1⟩ := (y_rule (κ := κ) (ν := μ1) (ln := ln) (T := T) (tx := tx) (by rw [m127]; exact t8) hl hT (fun i hi => by rw [m131]; exact ⟨(htx i hi).1, (htx i hi).2.2⟩) q (fun _ => hq)).1 (fun z => by
        rcases z with z | z
        · exact c0 z
        · exact cy z)
      have hneg : ¬ (-1 : Int32) - nI q.2.1 = 0 := fun z => by
        have em : (-1 : Int32).toInt = -1 := rfl
        have hp2 := hpos.2
        have ec := nI_toInt (show q.2.1 < 2 ^ 31 by omega)
        have := fb_subI (x := (-1 : Int32)) (y := nI q.2.1) (by rw [em, ec]; omega) (by rw [em, ec]; omega)
        rw [z, em, ec] at this
        have e0 : (0 : Int32).toInt = 0 := rfl
        omega
      refine ⟨-1 - nI q.2.1, μ1, _, ?_, y1, ?_, row_sm hI.2 ?_ ?_ ?_⟩
      · unfold F_X11_rule
        rw [if_pos q0, g0_1, obs, g11_1, obs, t1, if_neg (show ¬ nI ln = 0 from fun z => c0 ((i_eq (b := 0) (by omega) (by decide)).mp z)), g0_4, obs, hx, obs]
        (try dsimp only)
        rw [g0_1, obs, p11_1, obs, if_neg hneg, hμ1]
      · refine inv_txr hI.1 ?_ ?_ ?_ ?_ ?_
        · intro z z1 z2 z3 z4 z5 z6 z7
          rw [bt_n z2, m1 z z1 z6 z7]
        · intro j j1 j2 j3
          rw [bt_j (Or.inl j1) j2, m127]
        · rw [bt_n (by decide)]
          exact r3
        · rfl
        · unfold Ru at hru ⊢
          rw [bt_j (Or.inl rfl) (by decide), m127, bt_n (z := 17) (by decide), bt_n (z := 134) (by decide), bt_n (z := 18) (by decide), m1 17 (by decide) (by decide) (by decide), m1 134 (by decide) (by decide) (by decide), m1 18 (by decide) (by decide) (by decide)]
          exact hru
      · rw [bt_n (by decide), m1 0 (by decide) (by decide) (by decide)]
      · rw [bt_j (Or.inr rfl) (by decide), m127]
      · exact r4
