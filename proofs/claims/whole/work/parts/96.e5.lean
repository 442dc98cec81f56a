/-! PURE: pair: things. -/
def TdI (hc : Nat) (x : Int32 × Int32) : Prop := (∃ a, a < 64 ∧ x.1 = nI a) ∧ hs hc x.2
theorem t1_ok {tx : Nat → Nat} {T a hc : Nat} (ha : a ≤ T) (h : (t1 (pkf tx T) hc a).1 = true) : TdI hc (t1 (pkf tx T) hc a).2.2 := by
  obtain ⟨p1, p2, p3⟩ := lts_pos (tx := tx) (T := T) (no := 0) 6 0 a ha (by decide)
  unfold t1 at h ⊢
  split at h
  next c =>
    rw [if_pos c]
    exact ⟨⟨_, p3, rfl⟩, Or.inl rfl⟩
  next c =>
    rw [if_neg c]
    split at h
    next c2 =>
      rw [if_pos c2]
      exact ⟨⟨_, p3, rfl⟩, Or.inr ⟨_, by omega, rfl⟩⟩
    · cases h
theorem pr_things : P0 F_X11_things F_X12_things := by
  intro κ B μ hR hB hI
  obtain ⟨ln, tx, hl, u1, t8, htx⟩ := hI.tx
  obtain ⟨cm, c1, c2⟩ := hI.cm
  obtain ⟨hc, tc, kc, lm, hb⟩ := hI.bs
  have b1 := hb.b1
  have b2 := hb.b2
  have b3 := hb.b3
  have b4 := hb.b4
  have k7 : μ.1 1 6 = nI tc := hb.1.2.1
  have k3 : μ.1 127 2 = nI tc := hb.2.1.2.1
  have h1h : μ.1 127 1 = nI hc := hb.2.1.1
  by_cases c0 : ln = 0
  · subst c0
    refine ⟨0, μ, rdM (rowI (btM (Zr μ) 0 76) 133 ((btM (Zr μ) 0 76).1 133)) 0 (-1), ?_, ?_, inv_bad hI (fun _ _ _ _ => rfl) u1 rfl⟩
    · unfold F_X11_things
      rw [if_pos q0, g0_1, obs, g11_1, obs, u1, if_pos (show nI 0 = 0 from rfl)]
    · have z8 : (Zr μ).1 127 8 = nI 0 := t8
      have hbt : F_X12_beginText 127 76 (hp κ (Zr μ)) = _ := y_beginText (κ := κ) (tp := 76) z8
      have e13 : (rdM (btM (Zr μ) 0 76) 0 (-1)).1 127 13 = nI 0 := rfl
      unfold F_X12_things
      rw [if_pos q127, p11, obs, hbt, obs, g127_13, obs, e13, if_pos (show nI 0 = 0 from rfl), rowI_id]
  · obtain ⟨T, hT⟩ : ∃ T, T = if ln ≤ 76 then ln else 76 := ⟨_, rfl⟩
    have hT2 : T ≤ 76 ∧ T ≤ ln := by split at hT <;> omega
    obtain ⟨g, f, hx, hi⟩ := x_readT (κ := κ) (hc := hc) (tc := tc) u1 hl hT (fun i hi => ⟨(htx i hi).1, (htx i hi).2.1⟩) b2 b1.2
    have hok := rdl_ok (tx := tx) (T := T) (room := 12 - tc) (P := TdI hc) (one := t1 (pkf tx T) hc) (fun a ha h => t1_ok ha h) (fun a ha => (t1_pos b1.2 ha).2) 20 0 0 (Nat.zero_le _)
    have e6 : (12 : Int32) - nI tc = nI (12 - tc) := pk_sub (a := 12) b2
    have hne : ¬ nI ln = 0 := fun z => c0 ((i_eq (b := 0) (by omega) (by decide)).mp z)
    have hY := fun (ν : Mem) (v8 : ν.1 127 8 = nI ln) (v131 : ν.1 131 = μ.1 131) (v1 : ν.1 127 1 = nI hc) (v3 : ν.1 127 2 = nI tc) => y_thingsR (κ := κ) (ν := ν) v8 hl (by omega) hT (fun i hi => by rw [v131]; exact ⟨(htx i hi).1, (htx i hi).2.2⟩) v1 b1 v3 b2
    generalize rdl (t1 (pkf tx T) hc) (pkf tx T) (12 - tc) 20 0 0 = q at hx hi hok hY
    have hq80 : q.2.1 ≤ 80 := by have := hok.1; omega
    by_cases cy : q.1 = true ∧ q.2.1 = ln
    · obtain ⟨n1, hP⟩ := hok.2 cy.1
      have hIt := hi cy.1
      rw [if_pos cy] at hx
      -- the length fits
      have hfit : tc + q.2.2.length ≤ 12 := by
        obtain ⟨g', hg⟩ := hY μ t8 rfl h1h k3
        rcases hg with ⟨-, -, -, r4, -⟩ | ⟨r1, -⟩
        · exact r4
        · exact absurd cy r1
      generalize hμa : upI (kxM (upI μ 11 3 (nI T)) q.2.1 g f) 11 1 0 = μa at *
      have ma : ∀ z, z ≠ 11 → z ≠ 14 → z ≠ 15 → μa.1 z = μ.1 z := fun z z1 z2 z3 => by
        rw [← hμa, rowI_n z1]
        unfold kxM
        rw [rowI_n z3, rowI_n z2, rowI_n z1, rowI_n z1]
      have ma14 : μa.1 14 = g := by rw [← hμa]; rfl
      have ma15 : μa.1 15 = f := by rw [← hμa]; rfl
      have ma11 : μa.1 11 1 = 0 := by rw [← hμa]; rfl
      have ma2 : μa.2 = μ.2 := by rw [← hμa]; rfl
      have a1 := ma 1 (by decide) (by decide) (by decide)
      have a5 := ma 5 (by decide) (by decide) (by decide)
      have a3 := ma 3 (by decide) (by decide) (by decide)
      have a4 := ma 4 (by decide) (by decide) (by decide)
      have a7 := ma 7 (by decide) (by decide) (by decide)
      have a8 := ma 8 (by decide) (by decide) (by decide)
      obtain ⟨gT, gO, gK, hN1, hN2, hN3, hadd⟩ := x_addTL (κ := κ) (μ := μa) (tc := tc) (l := q.2.2) (by rw [a1]; exact k7) hfit (by rw [ma14, ma15]; exact hIt)
      rw [a5] at hN1
      rw [a3] at hN2
      rw [a4] at hN3
      have u1' : (ntM μa gT gO gK (tc + q.2.2.length)).1 1 = upd (μ.1 1) 6 (nI (tc + q.2.2.length)) := by rw [← a1]; rfl
      have hTn : Tn (ntM μa gT gO gK (tc + q.2.2.length)) hc (tc + q.2.2.length) kc lm := by
        refine ⟨?_, ?_, ?_, ?_, b1, hfit, b3, b4⟩
        · rw [u1', pk_un (by decide)]; exact hb.1.1
        · rw [u1', pk_us]
        · rw [u1', pk_un (by decide)]; exact hb.1.2.2.1
        · rw [u1', pk_un (by decide)]; exact hb.1.2.2.2.1
      have hKx : Kx (ntM μa gT gO gK (tc + q.2.2.length)).1 (μ.1 129) (μ.1 130) kc := fun k hk => by
        obtain ⟨d1, d2, d3⟩ := hb.2.2.1 k hk
        exact ⟨(congrFun a7 k).trans d1, (congrFun a8 k).trans d2, d3⟩
      have hsort := x_sort (κ := κ) (μ := ntM μa gT gO gK (tc + q.2.2.length)) (A := gT) (mu := μ.1 129) (mn := μ.1 130) hTn (fun t ht => rfl) hKx
      generalize hμ1 : upI (upI (upI (srM (ntM μa gT gO gK (tc + q.2.2.length)) gT (μ.1 129) (μ.1 130) (tc + q.2.2.length) kc) 24 2 0) 103 0 0) 103 1 0 = μ1
      have hso : SoX μ1.1 gT (μ.1 129) (μ.1 130) (tc + q.2.2.length) kc := by
        rw [← hμ1]
        exact srM_so (μ := ntM μa gT gO gK (tc + q.2.2.length)) (A := gT) (mu := μ.1 129) (mn := μ.1 130) (tc := tc + q.2.2.length) (kc := kc)
      have m1 : ∀ z, z ≠ 1 → z ≠ 3 → z ≠ 4 → z ≠ 5 → z ≠ 9 → z ≠ 10 → z ≠ 11 → z ≠ 14 → z ≠ 15 → z ≠ 24 → z ≠ 103 → μ1.1 z = μ.1 z := fun z z1 z3 z4 z5 z9 z10 z11 z14 z15 z24 z103 => by
        rw [← hμ1, rowI_n z103, rowI_n z103, rowI_n z24]
        unfold srM
        rw [rowI_n z9, rowI_n z10]
        unfold ntM
        rw [rowI_n z1, rowI_n z4, rowI_n z3, rowI_n z5, ma z z11 z14 z15]
      have h11 : μ1.1 11 1 = 0 := by rw [← hμ1]; exact ma11
      have h1 : μ1.1 1 = upd (μ.1 1) 6 (nI (tc + q.2.2.length)) := by rw [← hμ1, ← a1]; rfl
      have h5 : μ1.1 5 = gT := by rw [← hμ1]; rfl
      have h3 : μ1.1 3 = gO := by rw [← hμ1]; rfl
      have h4 : μ1.1 4 = gK := by rw [← hμ1]; rfl
      have h241 : μ1.1 24 1 = μ.1 24 1 := by rw [← hμ1]; exact congrFun (ma 24 (by decide) (by decide) (by decide)) 1
      have h242 : μ1.1 24 2 = 0 := by rw [← hμ1]; rfl
      have h103 : ∀ i, i < 2 → μ1.1 103 i = 0 := fun i hi => by
        rw [← hμ1]
        have : i = 0 ∨ i = 1 := by omega
        rcases this with rfl | rfl <;> rfl
      have hm2 : μ1.2 = μ.2 := by rw [← hμ1]; exact ma2
      have m127 := m1 127 (by decide) (by decide) (by decide) (by decide) (by decide) (by decide) (by decide) (by decide) (by decide) (by decide) (by decide)
      have m128 := m1 128 (by decide) (by decide) (by decide) (by decide) (by decide) (by decide) (by decide) (by decide) (by decide) (by decide) (by decide)
      obtain ⟨g', hg⟩ := hY μ1 (by rw [m127]; exact t8) (m1 131 (by decide) (by decide) (by decide) (by decide) (by decide) (by decide) (by decide) (by decide) (by decide) (by decide) (by decide)) (by rw [m127]; exact h1h) (by rw [m127]; exact k3)
      rcases hg with ⟨-, -, r3, r4, r5⟩ | ⟨r1, -⟩
      · obtain ⟨A, hA, hy⟩ := y_addTL (κ := κ) (μ := rdM (rowI (btM (Zr μ1) ln 76) 133 g') ln (-1)) (tc := tc) (cm := cm) (l := q.2.2) (by rw [bt3_j (Or.inl rfl) (by decide), m127]; exact k3) (by rw [bt3_j (Or.inl rfl) (by decide), m127]; exact c2) hfit r3
        rw [bt3_n (by decide) (by decide), m128] at hA
        have heq : ∀ t, t < 12 → gT t = A t ∧ gO t = A (12 + t) ∧ gK t = A (24 + t) := fun t ht => by
          by_cases z : t < tc ∨ tc + q.2.2.length ≤ t
          · rw [hN1.1 t z, hN2.1 t z, hN3.1 t z, hA.1 t (by omega) (by omega) (by omega), hA.1 (12 + t) (by omega) (by omega) (by omega), hA.1 (24 + t) (by omega) (by omega) (by omega)]
            exact ⟨hb.tr ht, hb.ow ht, hb.ke ht⟩
          · have e1 := hN1.2 (t - tc) (by omega)
            have e2 := hN2.2 (t - tc) (by omega)
            have e3 := hN3.2 (t - tc) (by omega)
            obtain ⟨y1, y2, y3⟩ := hA.2 (t - tc) (by omega)
            rw [show tc + (t - tc) = t by omega] at e1 e2 e3 y1
            rw [show 12 + tc + (t - tc) = 12 + t by omega] at y2
            rw [show 24 + tc + (t - tc) = 24 + t by omega] at y3
            exact ⟨e1.trans y1.symm, e2.trans y2.symm, e3.trans y3.symm⟩
        have hA36 : ∀ x, 36 ≤ x → A x = μ.1 128 x := fun x hx => hA.1 x (by omega) (by omega) (by omega)
        generalize hζ : rdM (rowI (btM (Zr μ1) ln 76) 133 g') ln (-1) = ζ at hy
        have zn : ∀ z, z ≠ 127 → z ≠ 133 → ζ.1 z = μ1.1 z := fun z z1 z2 => by rw [← hζ, bt3_n z1 z2]
        have zj : ∀ j, (rel 127 j = true ∨ j = 10) → j ≠ 8 → ζ.1 127 j = μ.1 127 j := fun j j1 j2 => by rw [← hζ, bt3_j j1 j2, m127]
        have z8 : ζ.1 127 8 = 0 := by rw [← hζ]; rfl
        have zm : ζ.2 = μ.2 := by rw [← hζ]; exact hm2
        generalize hξ : upI (upI (mtM ζ A (tc + q.2.2.length)) 127 23 0) 127 39 (nI (cm + 1)) = ξ at hy
        have xn : ∀ z, z ≠ 127 → z ≠ 128 → z ≠ 133 → ξ.1 z = μ1.1 z := fun z z1 z2 z4 => by
          rw [← hξ, rowI_n z1, rowI_n z1]
          unfold mtM
          rw [rowI_n z1, rowI_n z2, zn z z1 z4]
        have x128 : ξ.1 128 = A := by rw [← hξ]; rfl
        have x127 : ξ.1 127 = upd (upd (upd (ζ.1 127) 2 (nI (tc + q.2.2.length))) 23 0) 39 (nI (cm + 1)) := by rw [← hξ]; rfl
        have xm : ξ.2 = μ.2 := by rw [← hξ]; exact zm
        have xj : ∀ j, (rel 127 j = true ∨ j = 10) → j ≠ 8 → j ≠ 2 → j ≠ 23 → j ≠ 39 → ξ.1 127 j = μ.1 127 j := fun j j1 j2 j3 j4 j5 => by
          rw [x127, pk_un j5, pk_un j4, pk_un j3, zj j j1 j2]
        have X : ∀ z, z ≠ 1 → z ≠ 3 → z ≠ 4 → z ≠ 5 → z ≠ 9 → z ≠ 10 → z ≠ 11 → z ≠ 14 → z ≠ 15 → z ≠ 24 → z ≠ 103 → z ≠ 127 → z ≠ 128 → z ≠ 133 → ξ.1 z = μ.1 z := fun z z1 z3 z4 z5 z9 z10 z11 z14 z15 z24 z103 z127 z128 z133 => (xn z z127 z128 z133).trans (m1 z z1 z3 z4 z5 z9 z10 z11 z14 z15 z24 z103)
        refine ⟨nI q.2.2.length, μ1, ξ, ?_, ?_, ?_, row_sm hI.2 ?_ ?_ xm⟩
        · unfold F_X11_things
          rw [if_pos q0, g0_1, obs, g11_1, obs, u1, if_neg hne, g0_2, obs, g0_0, obs, g1_6, obs, k7, obs, g1_5, obs, hb.1.1, e6, hx, obs]
          (try dsimp only)
          rw [g0_1, obs, p11_1, obs, hμa, if_neg (show ¬ nI q.2.2.length ≤ 0 from nI_ge (b := q.2.2.length) (a := 0) (by omega) (by omega)), g0_0, obs, g0_2, obs, hadd, hsort, obs, obs, x_forget trivial, obs, hμ1]
        · rw [r5, hζ]
          exact hy
        · refine inv_new (tc := tc) (tc' := tc + q.2.2.length) (kc' := kc) (hc := hc) (kc := kc) (lm := lm) (cm := cm) hI.1 hb.2.1 c2 hB (by omega) ?_ ?_ ?_ ?_ ?_ ?_ ?_ (by omega) ?_ ?_ ?_ ?_ (by rw [x127, pk_un (by decide), pk_us]) (by rw [x127, pk_us]) ?_
          · have x1 := xn 1 (by decide) (by decide) (by decide)
            refine ⟨⟨?_, ?_, ?_, ?_⟩, ⟨?_, ?_, ?_, ?_⟩, b1, hfit, b3, b4⟩
            · rw [x1, h1, pk_un (by decide)]; exact hb.1.1
            · rw [x1, h1, pk_us]
            · rw [x1, h1, pk_un (by decide)]; exact hb.1.2.2.1
            · rw [x1, h1, pk_un (by decide)]; exact hb.1.2.2.2.1
            · rw [xj 1 (Or.inl rfl) (by decide) (by decide) (by decide) (by decide)]; exact hb.2.1.1
            · rw [x127, pk_un (by decide), pk_un (by decide), pk_us]
            · rw [xj 3 (Or.inl rfl) (by decide) (by decide) (by decide) (by decide)]; exact hb.2.1.2.2.1
            · rw [xj 6 (Or.inl rfl) (by decide) (by decide) (by decide) (by decide)]; exact hb.2.1.2.2.2.1
          · intro k hk
            have := hb.2.2.1 k hk
            rw [X 7 (by decide) (by decide) (by decide) (by decide) (by decide) (by decide) (by decide) (by decide) (by decide) (by decide) (by decide) (by decide) (by decide) (by decide), X 8 (by decide) (by decide) (by decide) (by decide) (by decide) (by decide) (by decide) (by decide) (by decide) (by decide) (by decide) (by decide) (by decide) (by decide), X 129 (by decide) (by decide) (by decide) (by decide) (by decide) (by decide) (by decide) (by decide) (by decide) (by decide) (by decide) (by decide) (by decide) (by decide), X 130 (by decide) (by decide) (by decide) (by decide) (by decide) (by decide) (by decide) (by decide) (by decide) (by decide) (by decide) (by decide) (by decide) (by decide)]
            exact this
          · refine SR_0.mpr ⟨fun t ht => ?_, fun x hx => ?_, ?_⟩
            · obtain ⟨y1, y2, y3⟩ := heq t ht
              rw [xn 5 (by decide) (by decide) (by decide), xn 3 (by decide) (by decide) (by decide), xn 4 (by decide) (by decide) (by decide), h5, h3, h4, x128]
              exact ⟨y1, y2, y3⟩
            · rw [X 6 (by decide) (by decide) (by decide) (by decide) (by decide) (by decide) (by decide) (by decide) (by decide) (by decide) (by decide) (by decide) (by decide) (by decide), x128, hA36 _ (by omega)]
              exact hb.co hx
            · rw [X 2 (by decide) (by decide) (by decide) (by decide) (by decide) (by decide) (by decide) (by decide) (by decide) (by decide) (by decide) (by decide) (by decide) (by decide), x128, hA36 _ (by omega)]
              exact hb.hr
          · rw [x128]
            obtain ⟨w1, w2, r, w3, w4⟩ := hb.2.2.2.2.1
            refine ⟨fun t ht => ?_, fun x hx => ?_, r, by omega, ?_⟩
            · by_cases z : t < tc
              · rw [hA.1 t (by omega) (by omega) (by omega), hA.1 (12 + t) (by omega) (by omega) (by omega), hA.1 (24 + t) (by omega) (by omega) (by omega)]
                exact w1 t z
              · obtain ⟨y1, y2, y3⟩ := hA.2 (t - tc) (by omega)
                rw [show tc + (t - tc) = t by omega] at y1
                rw [show 12 + tc + (t - tc) = 12 + t by omega] at y2
                rw [show 24 + tc + (t - tc) = 24 + t by omega] at y3
                obtain ⟨⟨a, d1, d2⟩, d3⟩ := hP _ (getD_mem (show t - tc < q.2.2.length by omega))
                rw [y1, y2, y3]
                exact ⟨⟨a, d1, d2⟩, d3, d3, Iff.rfl⟩
            · rw [hA36 _ (by omega)]
              exact w2 x hx
            · rw [hA36 _ (by omega)]
              exact w4
          · unfold So
            rw [x128, X 129 (by decide) (by decide) (by decide) (by decide) (by decide) (by decide) (by decide) (by decide) (by decide) (by decide) (by decide) (by decide) (by decide) (by decide), X 130 (by decide) (by decide) (by decide) (by decide) (by decide) (by decide) (by decide) (by decide) (by decide) (by decide) (by decide) (by decide) (by decide) (by decide), xn 9 (by decide) (by decide) (by decide), xn 10 (by decide) (by decide) (by decide)]
            have hs2 : SoX μ1.1 A (μ.1 129) (μ.1 130) (tc + q.2.2.length) kc := hso.cA (fun t ht => (heq t (by omega)).1.symm)
            exact hs2
          · rw [xn 11 (by decide) (by decide) (by decide)]
            exact h11
          · rw [x127, pk_un (by decide), pk_un (by decide), pk_un (by decide)]
            exact z8
          · intro a ha
            have h9 : a = 0 ∨ a = 17 ∨ a = 18 ∨ a = 109 ∨ a = 110 ∨ a = 134 ∨ a = 143 ∨ a = 146 ∨ a = 147 := by
              simpa using ha
            exact X a (by omega) (by omega) (by omega) (by omega) (by omega) (by omega) (by omega) (by omega) (by omega) (by omega) (by omega) (by omega) (by omega) (by omega)
          · intro j hj
            rcases hj with rfl | rfl | rfl
            · exact xj 19 (Or.inl rfl) (by decide) (by decide) (by decide) (by decide)
            · exact xj 33 (Or.inl rfl) (by decide) (by decide) (by decide) (by decide)
            · exact xj 34 (Or.inl rfl) (by decide) (by decide) (by decide) (by decide)
          · rw [xn 24 (by decide) (by decide) (by decide)]
            exact h241
          · rw [xn 24 (by decide) (by decide) (by decide)]
            exact h242
          · intro i hi
            rw [xn 103 (by decide) (by decide) (by decide)]
            exact h103 i hi
        · rw [xn 0 (by decide) (by decide) (by decide), m1 0 (by decide) (by decide) (by decide) (by decide) (by decide) (by decide) (by decide) (by decide) (by decide) (by decide) (by decide)]
        · exact xj 10 (Or.inr rfl) (by decide) (by decide) (by decide) (by decide)
      · exact absurd cy r1
    · rw [if_neg cy] at hx
      obtain ⟨g', hg⟩ := hY (upI (kxM (upI μ 11 3 (nI T)) q.2.1 g f) 11 1 0) t8 rfl h1h k3
      rcases hg with ⟨r1, r2, -⟩ | ⟨-, a', w', hg⟩
      · exact absurd ⟨r1, r2⟩ cy
      · refine ⟨-1 - nI q.2.1, upI (kxM (upI μ 11 3 (nI T)) q.2.1 g f) 11 1 0, _, ?_, hg, inv_bad hI (fun z z1 z2 z3 => ?_) rfl rfl⟩
        · unfold F_X11_things
          rw [if_pos q0, g0_1, obs, g11_1, obs, u1, if_neg hne, g0_2, obs, g0_0, obs, g1_6, obs, k7, obs, g1_5, obs, hb.1.1, e6, hx, obs]
          (try dsimp only)
          rw [g0_1, obs, p11_1, obs, if_pos (ng_pos hq80).1]
        · rw [rowI_n z1]
          unfold kxM
          rw [rowI_n z3, rowI_n z2, rowI_n z1, rowI_n z1]
