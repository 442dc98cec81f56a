/-! PURE: pair: kinds. -/
theorem ng_pos {p : Nat} (hp0 : p ≤ 80) : (-1 : Int32) - nI p ≤ 0 ∧ ¬ (-1 : Int32) - nI p = 0 := by
  have em : (-1 : Int32).toInt = -1 := rfl
  have e0 : (0 : Int32).toInt = 0 := rfl
  have ec := nI_toInt (show p < 2 ^ 31 by omega)
  have hs := fb_subI (x := (-1 : Int32)) (y := nI p) (by rw [em, ec]; omega) (by rw [em, ec]; omega)
  rw [em, ec] at hs
  refine ⟨by rw [fa_le, hs, e0]; omega, fun z => ?_⟩
  rw [z, e0] at hs
  omega
theorem Inv.tx {B : Nat} {μ : Mem} (hI : Inv B μ) : ∃ (ln : Nat) (tx : Nat → Nat), ln ≤ 80 ∧ μ.1 11 1 = nI ln ∧ μ.1 127 8 = nI ln ∧ ∀ i, i < ln → tx i < 256 ∧ μ.1 12 i = nI (tx i) ∧ μ.1 131 i = by8 (tx i) := by
  obtain ⟨ln, hl, t1, t8, htx⟩ : Tx (cl μ) := by
    obtain ⟨⟨hc, tc, kc, lm, -, -, -, -, -, h6, -⟩, -⟩ := hI
    exact h6
  refine ⟨ln, fun i => if hi : i < ln then Classical.choose (htx i hi) else 0, hl, t1, t8, fun i hi => ?_⟩
  have := Classical.choose_spec (htx i hi)
  (try dsimp only)
  rw [dif_pos hi]
  exact this
theorem Inv.cm {B : Nat} {μ : Mem} (hI : Inv B μ) : ∃ cm, cm ≤ B ∧ μ.1 127 39 = nI cm := by
  obtain ⟨⟨hc, tc, kc, lm, -, -, -, -, -, -, -, -, ⟨cm, s1, s2, -⟩, -⟩, -⟩ := hI
  exact ⟨cm, s1, s2⟩
theorem kset_k {A mu mn mu' mn' : Nat → Int32} {tc k : Nat} (h1 : mu k = mu' k) (h2 : mn k = mn' k) : kset A mu mn tc k = kset A mu' mn' tc k := by
  unfold kset
  rw [h1, h2]
theorem wt_k {A mu mn mu' mn' : Nat → Int32} {kc t : Nat} (h : ∀ k, k < kc → mu k = mu' k ∧ mn k = mn' k) : wt A mu mn kc t = wt A mu' mn' kc t := by
  unfold wt
  refine fb_sm_cong (fun k hk => ?_)
  rw [(h k hk).1, (h k hk).2]
theorem getD_mem {l : List (Int32 × Int32)} {k : Nat} (h : k < l.length) : l.getD k (0, 0) ∈ l := by
  rw [List.getD_eq_getElem?_getD, List.getElem?_eq_getElem h]
  exact List.getElem_mem h
theorem pr_kinds : P0 F_X11_kinds F_X12_kinds := by
  intro κ B μ hR hB hI
  obtain ⟨ln, tx, hl, t1, t8, htx⟩ := hI.tx
  obtain ⟨cm, c1, c2⟩ := hI.cm
  obtain ⟨hc, tc, kc, lm, hb⟩ := hI.bs
  have b1 := hb.b1
  have b2 := hb.b2
  have b3 := hb.b3
  have b4 := hb.b4
  have k7 : μ.1 1 7 = nI kc := hb.1.2.2.1
  have k3 : μ.1 127 3 = nI kc := hb.2.1.2.2.1
  by_cases c0 : ln = 0
  · subst c0
    refine ⟨0, μ, rdM (rowI (btM (Zr μ) 0 60) 133 ((btM (Zr μ) 0 60).1 133)) 0 (-1), ?_, ?_, inv_bad hI (fun _ _ _ _ => rfl) t1 rfl⟩
    · unfold F_X11_kinds
      rw [if_pos q0, g0_1, obs, g11_1, obs, t1, if_pos (show nI 0 = 0 from rfl)]
    · have z8 : (Zr μ).1 127 8 = nI 0 := t8
      have hbt : F_X12_beginText 127 60 (hp κ (Zr μ)) = _ := y_beginText (κ := κ) (tp := 60) z8
      have e13 : (rdM (btM (Zr μ) 0 60) 0 (-1)).1 127 13 = nI 0 := rfl
      unfold F_X12_kinds
      rw [if_pos q127, p11, obs, hbt, obs, g127_13, obs, e13, if_pos (show nI 0 = 0 from rfl), rowI_id]
  · obtain ⟨T, hT⟩ : ∃ T, T = if ln ≤ 60 then ln else 60 := ⟨_, rfl⟩
    have hT2 : T ≤ 60 ∧ T ≤ ln := by split at hT <;> omega
    obtain ⟨g, f, hx, hi⟩ := x_readK (κ := κ) t1 hl hT (fun i hi => ⟨(htx i hi).1, (htx i hi).2.1⟩) b3
    have hok := rdl_ok (tx := tx) (T := T) (room := 6 - kc) (P := KdI) (one := k1 (pkf tx T)) (fun a ha h => k1_ok ha h) (fun a ha => (k1_pos ha).2) 20 0 0 (Nat.zero_le _)
    have e6 : (6 : Int32) - nI kc = nI (6 - kc) := pk_sub (a := 6) b3
    have hne : ¬ nI ln = 0 := fun z => c0 ((i_eq (b := 0) (by omega) (by decide)).mp z)
    have hY := fun (ν : Mem) (v8 : ν.1 127 8 = nI ln) (v131 : ν.1 131 = μ.1 131) (v3 : ν.1 127 3 = nI kc) => y_kindsR (κ := κ) (ν := ν) v8 hl (by omega) hT (fun i hi => by rw [v131]; exact ⟨(htx i hi).1, (htx i hi).2.2⟩) v3 b3
    generalize rdl (k1 (pkf tx T)) (pkf tx T) (6 - kc) 20 0 0 = q at hx hi hok hY
    have hq80 : q.2.1 ≤ 80 := by have := hok.1; omega
    by_cases cy : q.1 = true ∧ q.2.1 = ln
    · obtain ⟨n1, hP⟩ := hok.2 cy.1
      have hIt := hi cy.1
      rw [if_pos cy] at hx
      -- the length fits
      have hfit : kc + q.2.2.length ≤ 6 := by
        obtain ⟨g', hg⟩ := hY μ t8 rfl k3
        rcases hg with ⟨-, -, -, r4, -⟩ | ⟨r1, -⟩
        · exact r4
        · exact absurd cy r1
      generalize hμa : upI (kxM (upI μ 11 3 (nI T)) q.2.1 g f) 11 1 0 = μa at *
      have ma : ∀ z, z ≠ 11 → z ≠ 14 → z ≠ 15 → μa.1 z = μ.1 z := fun z z1 z2 z3 => by
        rw [← hμa, rowI_n z1]
        unfold kxM
        rw [rowI_n z3, rowI_n z2, rowI_n z1, rowI_n z1]
      have ma14 : μa.1 14 = g := by rw [← hμa]; rfl
      have ma15 : μa.1 15 = f := by rw [← hμa]; rfl
      have ma11 : μa.1 11 1 = 0 := by rw [← hμa]; rfl
      have ma2 : μa.2 = μ.2 := by rw [← hμa]; rfl
      have a1 := ma 1 (by decide) (by decide) (by decide)
      have a5 := ma 5 (by decide) (by decide) (by decide)
      have a7 := ma 7 (by decide) (by decide) (by decide)
      have a8 := ma 8 (by decide) (by decide) (by decide)
      obtain ⟨g2, f2, hN, hadd⟩ := x_addKL (κ := κ) (μ := μa) (kc := kc) (l := q.2.2) (by rw [a1]; exact k7) hfit (by rw [ma14, ma15]; exact hIt)
      rw [a7, a8] at hN
      have hKd : ∀ k, k < kc + q.2.2.length → ∃ a b, a < 64 ∧ b < 64 ∧ a ≠ 0 ∧ a &&& b = 0 ∧ g2 k = nI a ∧ f2 k = nI b := fun k hk => by
        by_cases z : k < kc
        · obtain ⟨d1, d2, a, b, d3, d4, d5, d6, d7, d8⟩ := hb.2.2.1 k z
          obtain ⟨x1, x2⟩ := hN.1 k z
          exact ⟨a, b, d3, d4, d5, d6, by rw [x1, d1, d7], by rw [x2, d2, d8]⟩
        · obtain ⟨x1, x2⟩ := hN.2 (k - kc) (by omega)
          rw [show kc + (k - kc) = k by omega] at x1 x2
          obtain ⟨a, b, d3, d4, d5, d6, d7, d8⟩ := hP _ (getD_mem (show k - kc < q.2.2.length by omega))
          exact ⟨a, b, d3, d4, d5, d6, by rw [x1, d7], by rw [x2, d8]⟩
      have hTn : Tn (nkM μa g2 f2 (kc + q.2.2.length)) hc tc (kc + q.2.2.length) lm := by
        have u : (nkM μa g2 f2 (kc + q.2.2.length)).1 1 = upd (μ.1 1) 7 (nI (kc + q.2.2.length)) := by rw [← a1]; rfl
        refine ⟨?_, ?_, ?_, ?_, b1, b2, hfit, b4⟩
        · rw [u, pk_un (by decide)]; exact hb.1.1
        · rw [u, pk_un (by decide)]; exact hb.1.2.1
        · rw [u, pk_us]
        · rw [u, pk_un (by decide)]; exact hb.1.2.2.2.1
      have hsort := x_sort (κ := κ) (μ := nkM μa g2 f2 (kc + q.2.2.length)) (A := μ.1 128) (mu := g2) (mn := f2) hTn (fun t ht => (congrFun a5 t).trans (hb.tr (by omega))) (fun k hk => ⟨rfl, rfl, hKd k hk⟩)
      generalize hμ1 : upI (upI (upI (srM (nkM μa g2 f2 (kc + q.2.2.length)) (μ.1 128) g2 f2 tc (kc + q.2.2.length)) 24 2 0) 103 0 0) 103 1 0 = μ1
      have hso : SoX μ1.1 (μ.1 128) g2 f2 tc (kc + q.2.2.length) := by
        rw [← hμ1]
        exact srM_so (μ := nkM μa g2 f2 (kc + q.2.2.length)) (A := μ.1 128) (mu := g2) (mn := f2) (tc := tc) (kc := kc + q.2.2.length)
      have m1 : ∀ z, z ≠ 1 → z ≠ 7 → z ≠ 8 → z ≠ 9 → z ≠ 10 → z ≠ 11 → z ≠ 14 → z ≠ 15 → z ≠ 24 → z ≠ 103 → μ1.1 z = μ.1 z := fun z z1 z7 z8 z9 z10 z11 z14 z15 z24 z103 => by
        rw [← hμ1, rowI_n z103, rowI_n z103, rowI_n z24]
        unfold srM
        rw [rowI_n z9, rowI_n z10]
        unfold nkM
        rw [rowI_n z1, rowI_n z8, rowI_n z7, ma z z11 z14 z15]
      have h11 : μ1.1 11 1 = 0 := by rw [← hμ1]; exact ma11
      have h1 : μ1.1 1 = upd (μ.1 1) 7 (nI (kc + q.2.2.length)) := by rw [← hμ1, ← a1]; rfl
      have h7 : μ1.1 7 = g2 := by rw [← hμ1]; rfl
      have h8 : μ1.1 8 = f2 := by rw [← hμ1]; rfl
      have h241 : μ1.1 24 1 = μ.1 24 1 := by rw [← hμ1]; exact congrFun (ma 24 (by decide) (by decide) (by decide)) 1
      have h242 : μ1.1 24 2 = 0 := by rw [← hμ1]; rfl
      have h103 : ∀ i, i < 2 → μ1.1 103 i = 0 := fun i hi => by
        rw [← hμ1]
        have : i = 0 ∨ i = 1 := by omega
        rcases this with rfl | rfl <;> rfl
      have hm2 : μ1.2 = μ.2 := by rw [← hμ1]; exact ma2
      have m127 := m1 127 (by decide) (by decide) (by decide) (by decide) (by decide) (by decide) (by decide) (by decide) (by decide) (by decide)
      obtain ⟨g', hg⟩ := hY μ1 (by rw [m127]; exact t8) (m1 131 (by decide) (by decide) (by decide) (by decide) (by decide) (by decide) (by decide) (by decide) (by decide) (by decide)) (by rw [m127]; exact k3)
      rcases hg with ⟨-, -, r3, r4, r5⟩ | ⟨r1, -⟩
      · obtain ⟨g3, f3, hN3, hy⟩ := y_addKL (κ := κ) (μ := rdM (rowI (btM (Zr μ1) ln 60) 133 g') ln (-1)) (kc := kc) (cm := cm) (l := q.2.2) (by rw [bt3_j (Or.inl rfl) (by decide), m127]; exact k3) (by rw [bt3_j (Or.inl rfl) (by decide), m127]; exact c2) hfit r3
        rw [bt3_n (by decide) (by decide), bt3_n (by decide) (by decide), m1 129 (by decide) (by decide) (by decide) (by decide) (by decide) (by decide) (by decide) (by decide) (by decide) (by decide), m1 130 (by decide) (by decide) (by decide) (by decide) (by decide) (by decide) (by decide) (by decide) (by decide) (by decide)] at hN3
        have heq : ∀ k, k < kc + q.2.2.length → g2 k = g3 k ∧ f2 k = f3 k := fun k hk => by
          by_cases z : k < kc
          · obtain ⟨d1, d2, -⟩ := hb.2.2.1 k z
            obtain ⟨x1, x2⟩ := hN.1 k z
            obtain ⟨y1, y2⟩ := hN3.1 k z
            exact ⟨by rw [x1, y1, d1], by rw [x2, y2, d2]⟩
          · obtain ⟨x1, x2⟩ := hN.2 (k - kc) (by omega)
            obtain ⟨y1, y2⟩ := hN3.2 (k - kc) (by omega)
            rw [show kc + (k - kc) = k by omega] at x1 x2 y1 y2
            exact ⟨by rw [x1, y1], by rw [x2, y2]⟩
        generalize hζ : rdM (rowI (btM (Zr μ1) ln 60) 133 g') ln (-1) = ζ at hy
        have zn : ∀ z, z ≠ 127 → z ≠ 133 → ζ.1 z = μ1.1 z := fun z z1 z2 => by rw [← hζ, bt3_n z1 z2]
        have zj : ∀ j, (rel 127 j = true ∨ j = 10) → j ≠ 8 → ζ.1 127 j = μ.1 127 j := fun j j1 j2 => by rw [← hζ, bt3_j j1 j2, m127]
        have z8 : ζ.1 127 8 = 0 := by rw [← hζ]; rfl
        have zm : ζ.2 = μ.2 := by rw [← hζ]; exact hm2
        have xn : ∀ z, z ≠ 127 → z ≠ 129 → z ≠ 130 → z ≠ 133 → (upI (upI (bkM ζ g3 f3 (kc + q.2.2.length)) 127 23 0) 127 39 (nI (cm + 1))).1 z = μ1.1 z := fun z z1 z2 z3 z4 => by
          rw [rowI_n z1, rowI_n z1]
          unfold bkM
          rw [rowI_n z1, rowI_n z3, rowI_n z2, zn z z1 z4]
        have x129 : (upI (upI (bkM ζ g3 f3 (kc + q.2.2.length)) 127 23 0) 127 39 (nI (cm + 1))).1 129 = g3 := rfl
        have x130 : (upI (upI (bkM ζ g3 f3 (kc + q.2.2.length)) 127 23 0) 127 39 (nI (cm + 1))).1 130 = f3 := rfl
        have xj : ∀ j, (rel 127 j = true ∨ j = 10) → j ≠ 8 → j ≠ 3 → j ≠ 23 → j ≠ 39 → (upI (upI (bkM ζ g3 f3 (kc + q.2.2.length)) 127 23 0) 127 39 (nI (cm + 1))).1 127 j = μ.1 127 j := fun j j1 j2 j3 j4 j5 => by
          show upd (upd (upd (ζ.1 127) 3 _) 23 0) 39 _ j = _
          rw [pk_un j5, pk_un j4, pk_un j3, zj j j1 j2]
        refine ⟨nI q.2.2.length, μ1, upI (upI (bkM ζ g3 f3 (kc + q.2.2.length)) 127 23 0) 127 39 (nI (cm + 1)), ?_, ?_, ?_, row_sm hI.2 ?_ ?_ zm⟩
        · unfold F_X11_kinds
          rw [if_pos q0, g0_1, obs, g11_1, obs, t1, if_neg hne, g0_2, obs, g0_0, obs, g1_7, obs, k7, e6, hx, obs]
          (try dsimp only)
          rw [g0_1, obs, p11_1, obs, hμa, if_neg (show ¬ nI q.2.2.length ≤ 0 from nI_ge (b := q.2.2.length) (a := 0) (by omega) (by omega)), g0_0, obs, g0_2, obs, hadd, hsort, obs, obs, x_forget trivial, obs, hμ1]
        · rw [r5, hζ]
          exact hy
        · have X : ∀ z, z ≠ 1 → z ≠ 7 → z ≠ 8 → z ≠ 9 → z ≠ 10 → z ≠ 11 → z ≠ 14 → z ≠ 15 → z ≠ 24 → z ≠ 103 → z ≠ 127 → z ≠ 129 → z ≠ 130 → z ≠ 133 → (upI (upI (bkM ζ g3 f3 (kc + q.2.2.length)) 127 23 0) 127 39 (nI (cm + 1))).1 z = μ.1 z := fun z z1 z7 z8 z9 z10 z11 z14 z15 z24 z103 z127 z129 z130 z133 => (xn z z127 z129 z130 z133).trans (m1 z z1 z7 z8 z9 z10 z11 z14 z15 z24 z103)
          have X128 := X 128 (by decide) (by decide) (by decide) (by decide) (by decide) (by decide) (by decide) (by decide) (by decide) (by decide) (by decide) (by decide) (by decide) (by decide)
          refine inv_new (tc := tc) (tc' := tc) (kc' := kc + q.2.2.length) (hc := hc) (kc := kc) (lm := lm) (cm := cm) hI.1 hb.2.1 c2 hB (by omega) ?_ ?_ ?_ ?_ ?_ ?_ ?_ (Nat.le_refl _) ?_ ?_ ?_ ?_ rfl rfl ?_
          · have x1 := xn 1 (by decide) (by decide) (by decide) (by decide)
            refine ⟨⟨?_, ?_, ?_, ?_⟩, ⟨?_, ?_, rfl, ?_⟩, b1, b2, hfit, b4⟩
            · rw [x1, h1, pk_un (by decide)]; exact hb.1.1
            · rw [x1, h1, pk_un (by decide)]; exact hb.1.2.1
            · rw [x1, h1, pk_us]
            · rw [x1, h1, pk_un (by decide)]; exact hb.1.2.2.2.1
            · rw [xj 1 (Or.inl rfl) (by decide) (by decide) (by decide) (by decide)]; exact hb.2.1.1
            · rw [xj 2 (Or.inl rfl) (by decide) (by decide) (by decide) (by decide)]; exact hb.2.1.2.1
            · rw [xj 6 (Or.inl rfl) (by decide) (by decide) (by decide) (by decide)]; exact hb.2.1.2.2.2.1
          · intro k hk
            obtain ⟨a, b, d3, d4, d5, d6, d7, d8⟩ := hKd k hk
            obtain ⟨y1, y2⟩ := heq k hk
            rw [xn 7 (by decide) (by decide) (by decide) (by decide), xn 8 (by decide) (by decide) (by decide) (by decide), h7, h8, x129, x130]
            exact ⟨y1, y2, a, b, d3, d4, d5, d6, by rw [← y1, d7], by rw [← y2, d8]⟩
          · refine hb.2.2.2.1.congr (fun a ha1 ha2 => X a (by omega) (by omega) (by omega) (by omega) (by omega) (by omega) (by omega) (by omega) (by omega) (by omega) (by omega) (by omega) (by omega) (by omega)) X128
          · rw [X128]
            exact hb.2.2.2.2.1.up (by omega)
          · unfold So
            rw [X128, x129, x130, xn 9 (by decide) (by decide) (by decide) (by decide), xn 10 (by decide) (by decide) (by decide) (by decide)]
            refine ⟨fun k hk => ?_, fun t ht => ?_⟩
            · rw [hso.1 k hk, kset_k (heq k hk).1 (heq k hk).2]
            · rw [hso.2 t ht, wt_k heq]
          · rw [xn 11 (by decide) (by decide) (by decide) (by decide)]
            exact h11
          · show upd (upd (upd (ζ.1 127) 3 (nI (kc + q.2.2.length))) 23 0) 39 (nI (cm + 1)) 8 = 0
            rw [pk_un (by decide), pk_un (by decide), pk_un (by decide)]
            exact z8
          · intro a ha
            have h9 : a = 0 ∨ a = 17 ∨ a = 18 ∨ a = 109 ∨ a = 110 ∨ a = 134 ∨ a = 143 ∨ a = 146 ∨ a = 147 := by
              simpa using ha
            exact X a (by omega) (by omega) (by omega) (by omega) (by omega) (by omega) (by omega) (by omega) (by omega) (by omega) (by omega) (by omega) (by omega) (by omega)
          · intro j hj
            rcases hj with rfl | rfl | rfl
            · exact xj 19 (Or.inl rfl) (by decide) (by decide) (by decide) (by decide)
            · exact xj 33 (Or.inl rfl) (by decide) (by decide) (by decide) (by decide)
            · exact xj 34 (Or.inl rfl) (by decide) (by decide) (by decide) (by decide)
          · rw [xn 24 (by decide) (by decide) (by decide) (by decide)]
            exact h241
          · rw [xn 24 (by decide) (by decide) (by decide) (by decide)]
            exact h242
          · intro i hi
            rw [xn 103 (by decide) (by decide) (by decide) (by decide)]
            exact h103 i hi
        · rw [xn 0 (by decide) (by decide) (by decide) (by decide), m1 0 (by decide) (by decide) (by decide) (by decide) (by decide) (by decide) (by decide) (by decide) (by decide) (by decide)]
        · exact xj 10 (Or.inr rfl) (by decide) (by decide) (by decide) (by decide)
      · exact absurd cy r1
    · rw [if_neg cy] at hx
      obtain ⟨g', hg⟩ := hY (upI (kxM (upI μ 11 3 (nI T)) q.2.1 g f) 11 1 0) t8 rfl k3
      rcases hg with ⟨r1, r2, -⟩ | ⟨-, a', w', hg⟩
      · exact absurd ⟨r1, r2⟩ cy
      · refine ⟨-1 - nI q.2.1, upI (kxM (upI μ 11 3 (nI T)) q.2.1 g f) 11 1 0, _, ?_, hg, inv_bad hI (fun z z1 z2 z3 => ?_) rfl rfl⟩
        · unfold F_X11_kinds
          rw [if_pos q0, g0_1, obs, g11_1, obs, t1, if_neg hne, g0_2, obs, g0_0, obs, g1_7, obs, k7, e6, hx, obs]
          (try dsimp only)
          rw [g0_1, obs, p11_1, obs, if_pos (ng_pos hq80).1]
        · rw [rowI_n z1]
          unfold kxM
          rw [rowI_n z3, rowI_n z2, rowI_n z1, rowI_n z1]
