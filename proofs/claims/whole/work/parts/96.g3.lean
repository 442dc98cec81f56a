/-! PURE: pairs: rid, most. -/
theorem pr_rid : P1 F_X11_rid F_X12_rid := by
  intro x κ B μ hR hB hI
  (try dsimp only)
  obtain ⟨hc, tc, kc, lm, hb⟩ := hI.bs
  have d0 : ¬ (1 : Int32) = 0 := by decide
  have b1 := hb.b1
  have b2 := hb.b2
  have b3 := hb.b3
  have b4 := hb.b4
  rcases ix_hc hb x with ⟨j, hj, rfl⟩ | hx
  · have hk : KP μ tc (nI j) < 4096 := kp_lt b2
    have hk2 : ∀ i, (KP μ tc (nI j)).testBit i = true → i < tc := fun i hi => (kp_sub i hi).1
    obtain ⟨all, hall⟩ : ∃ a, a = KP μ tc (nI j) := ⟨_, rfl⟩
    rw [← hall] at hk hk2
    obtain ⟨m, g, k1, k2, k3, k4⟩ := x_fewest (κ := κ) hb.xc hk hk2
    have hCs : ∀ X, okR (μ.1 128) (μ.1 129) (μ.1 130) tc kc lm all X = true → sub X all ∧ bb (μ.1 128) (μ.1 129) (μ.1 130) tc kc lm (sd all X) = 0 := fun X hX => by
      unfold okR at hX
      rw [Bool.and_eq_true] at hX
      exact ⟨sd_z.mp (of_decide_eq_true hX.1), of_decide_eq_true hX.2⟩
    have hCo : ∀ X, sub X all → bb (μ.1 128) (μ.1 129) (μ.1 130) tc kc lm (sd all X) = 0 → okR (μ.1 128) (μ.1 129) (μ.1 130) tc kc lm all X = true := fun X h1 h2 => by
      unfold okR
      rw [decide_eq_true (sd_z.mpr h1), decide_eq_true h2]
      rfl
    have hC0 : okR (μ.1 128) (μ.1 129) (μ.1 130) tc kc lm all all = true := hCo all sub_rf (by
      rw [sd_z.mpr sub_rf, bb_0]
      intro k hk
      rw [moz b2]
      omega)
    have hbs := bst_r hk hC0 (fun X hX => (hCs X hX).1)
    have hRl : ∀ s, s ≤ all → bst (fun s b => okR (μ.1 128) (μ.1 129) (μ.1 130) tc kc lm all s && decide (cn s < cn b)) all s < 4096 := fun s hs => ((hCs _ (hbs s hs).1).1).lt hk
    obtain ⟨r1, -, r3⟩ := hbs all (Nat.le_refl _)
    have hR4 := hRl all (Nat.le_refl _)
    have hRe := rid_pure (A := μ.1 128) (mu := μ.1 129) (mn := μ.1 130) (kc := kc) hk b2 b4 k2 k3 k4 (hCs _ r1).1 (hCs _ r1).2 (fun X h1 h2 => r3 X (hCo X h1 h2) (by
      have := Nat.le_of_testBit h1
      omega))
    rw [hRe] at k1
    have hY := fun (ν : Mem) (hM : Mn ν hc tc kc lm) (e8 : ν.1 128 = μ.1 128) (e9 : ν.1 129 = μ.1 129) (e0 : ν.1 130 = μ.1 130) (v : Int64) (hv : v = (nI (bst (fun s b => okR (μ.1 128) (μ.1 129) (μ.1 130) tc kc lm all s && decide (cn s < cn b)) all all)).toInt64) => y_ridL (κ := κ) (ν := ν) hM hk v (by rw [e8, e9, e0]; exact hv) (by rw [e8, e9, e0]; exact hRl)
    have hY : ∀ (ν : Mem), Mn ν hc tc kc lm → ν.1 128 = μ.1 128 → ν.1 129 = μ.1 129 → ν.1 130 = μ.1 130 → ∀ (v : Int64), v = (nI (bst (fun s b => okR (μ.1 128) (μ.1 129) (μ.1 130) tc kc lm all s && decide (cn s < cn b)) all all)).toInt64 → b_X12_rid_30 127 (nI all) bigN (nI all) 0 (hp κ ν) = some (nI (cn (bst (fun s b => okR (μ.1 128) (μ.1 129) (μ.1 130) tc kc lm all s && decide (cn s < cn b)) all all)), hp κ (MB (M0 ν) 0 v)) := fun ν hM e8 e9 e0 v hv => by
      have h := hY ν hM e8 e9 e0 v hv
      rw [e8, e9, e0] at h
      exact h
    generalize bst (fun s b => okR (μ.1 128) (μ.1 129) (μ.1 130) tc kc lm all s && decide (cn s < cn b)) all all = R at k1 hY hR4
    have e1 : cl (rowI μ 111 g) = cl μ := cl_row rfl (fun j => by unfold rel; rfl)
    have e2 : cl (TB (T0 (rowI μ 111 g)) 0 (nI R).toInt64) = cl μ := by rw [cl_TB, cl_T0, e1]
    have e3 : cl (Zr (TB (T0 (rowI μ 111 g)) 0 (nI R).toInt64)) = cl μ := cl_Z.trans e2
    have h := hY _ (hb.mv e3).2.1 (f128 e3) (f129 e3) (f130 e3) _ rfl
    refine ⟨nI (cn R), TB (T0 (rowI μ 111 g)) 0 (nI R).toInt64, MB (M0 (Zr (TB (T0 (rowI μ 111 g)) 0 (nI R).toInt64))) 0 (nI R).toInt64, ?_, ?_, ?_⟩
    · unfold F_X11_rid
      rw [if_pos q0, g0_0, obs, X_hasHouse1 hb rfl hj, obs]
      (try dsimp only)
      rw [if_neg d0, g0_0, obs, X_kept hb rfl, obs, ← hall]
      (try dsimp only)
      rw [k1, obs]
      (try dsimp only)
      rw [x_tellOne, obs, bc hR4, obs]
    · unfold F_X12_rid
      rw [if_pos q127, p11, obs, Y_isHouse1 hb e3 hj, obs]
      (try dsimp only)
      rw [if_neg d0, g127_0, obs, Y_kept hb e3, obs, ← hall]
      (try dsimp only)
      exact h
    · refine inv_1 hI.1 ?_ rfl rfl rfl
      rw [cl_MB, cl_M0, e3]
  · refine ⟨-1, μ, Zr μ, ?_, ?_, inv_Z hI⟩
    · unfold F_X11_rid
      simp only [↓reduceIte, obs, q0, q1, q2, q11, q13, q17, q20, q21, q24, q104, q111, q112, q116, q125, q127, g0_0, g0_1, g0_2, g0_3, g0_4, g0_5, g0_6, g0_7, p0_7, g0_8, g0_9, g0_10, g0_11, g0_12, g0_13, p0_13, g0_14, g0_15, g0_16, g0_17, g0_18, g1_0, g1_1, g1_2, g1_3, g1_4, g1_5, p1_5, g1_6, p1_6, g1_7, p1_7, g1_8, p1_8, g2_0, g2_1, g2_2, g2_3, g2_4, p2_4, g11_0, g11_1, p11_1, g11_2, p11_2, g11_3, p11_3, g13_0, g13_1, g13_2, g13_3, g17_0, g17_1, g17_2, p17_2, g20_0, g20_1, g21_0, g21_1, g21_2, p21_2, g24_0, g24_1, p24_1, g24_2, p24_2, g104_0, g104_1, g104_2, g104_3, g104_4, p104_4, g111_0, g111_1, p111_1, g111_2, p111_2, g111_3, p111_3, g112_0, g112_1, g112_2, g112_3, g112_4, p112_4, g116_0, g116_1, g116_2, g116_3, g116_4, g125_0, p125_0, g125_1, p125_1, g127_0, g127_1, p127_1, g127_2, p127_2, g127_3, p127_3, g127_4, g127_5, g127_6, p127_6, g127_7, g127_8, p127_8, g127_9, g127_10, p127_10, g127_11, p127_11, g127_12, g127_13, p127_13, g127_14, p127_14, g127_15, p127_15, g127_16, p127_16, g127_17, g127_18, g127_19, p127_19, g127_20, p127_20, g127_21, g127_22, g127_23, p127_23, g127_24, g127_25, g127_26, g127_27, g127_28, g127_29, p127_29, g127_30, p127_30, g127_31, g127_32, g127_33, p127_33, g127_34, p127_34, g127_35, p127_35, g127_36, p127_36, g127_37, g127_38, p127_38, g127_39, p127_39, g127_40, g127_41, g127_42, X_hasHouse0 hb rfl hx]
    · unfold F_X12_rid
      simp only [if_pos q127, p11, ↓reduceIte, obs, Y_isHouse0 hb cl_Z hx]
theorem pr_most : P1 F_X11_most F_X12_most := by
  intro x κ B μ hR hB hI
  (try dsimp only)
  obtain ⟨hc, tc, kc, lm, hb⟩ := hI.bs
  have d0 : ¬ (1 : Int32) = 0 := by decide
  have b1 := hb.b1
  have b2 := hb.b2
  have b3 := hb.b3
  have b4 := hb.b4
  obtain ⟨rn, tx, cd, w1, w2, w3⟩ := Ru.get hI.ru
  rcases ix_hc hb x with ⟨j, hj, rfl⟩ | hx
  · have hk : kp (fun t => μ.1 128 (24 + t)) tc (nI j) < 4096 := kp_lt b2
    have hf : kp (fun t => μ.1 128 (12 + t)) tc (-1) < 4096 := kp_lt b2
    have hf2 : ∀ i, (kp (fun t => μ.1 128 (12 + t)) tc (-1)).testBit i = true → i < tc := fun i hi => (kp_sub i hi).1
    have hdis : ∀ i, (kp (fun t => μ.1 128 (12 + t)) tc (-1)).testBit i = true → (kp (fun t => μ.1 128 (24 + t)) tc (nI j)).testBit i = false := fun i hi => by
      obtain ⟨i1, i2⟩ := kp_sub i hi
      have i3 := ((hb.2.2.2.2.1.1 i i1).2.2.2).mp i2
      rw [kp_bit, i3, decide_eq_false (p := (-1 : Int32) = nI j) (fun z => nI_m1 (show j < 2 ^ 31 by omega) z.symm), Bool.and_false]
    obtain ⟨m, g, k1, k2, k3, k4⟩ := x_leastM (κ := κ) hb.xc (d := ld (μ.1 128) (μ.1 129) (μ.1 130) tc lm (kp (fun t => μ.1 128 (24 + t)) tc (nI j))) hf hf2 (fun k _ => by unfold ld; omega)
    have hX := C_load (κ := κ) hb.xc hk
    have hN := C_nobodys (κ := κ) hb.xc
    have hKp := C_kept (κ := κ) hb.xc (nI j)
    have hY := fun (ν : Mem) (hM : Mn ν hc tc kc lm) (e8 : ν.1 128 = μ.1 128) (e9 : ν.1 129 = μ.1 129) (e0 : ν.1 130 = μ.1 130) (hbb : ∀ s, bst (fun s b => okM (μ.1 128) (μ.1 129) (μ.1 130) tc kc lm (kp (fun t => μ.1 128 (24 + t)) tc (nI j)) (kp (fun t => μ.1 128 (12 + t)) tc (-1)) s && decide (cn b < cn s)) 0 s < 4096) => y_mostS (κ := κ) (ν := ν) hM (j := j) hf (by rw [e8, e9, e0]; exact hbb)
    have hY : ∀ (ν : Mem), Mn ν hc tc kc lm → ν.1 128 = μ.1 128 → ν.1 129 = μ.1 129 → ν.1 130 = μ.1 130 → (∀ s, bst (fun s b => okM (μ.1 128) (μ.1 129) (μ.1 130) tc kc lm (kp (fun t => μ.1 128 (24 + t)) tc (nI j)) (kp (fun t => μ.1 128 (12 + t)) tc (-1)) s && decide (cn b < cn s)) 0 s < 4096) → b_X12_most_30 127 (nI j) (nI (kp (fun t => μ.1 128 (12 + t)) tc (-1))) bigN 0 1 (hp κ ν) = b_X12_most_82 127 (nI j) (nI (bst (fun s b => okM (μ.1 128) (μ.1 129) (μ.1 130) tc kc lm (kp (fun t => μ.1 128 (24 + t)) tc (nI j)) (kp (fun t => μ.1 128 (12 + t)) tc (-1)) s && decide (cn b < cn s)) 0 (kp (fun t => μ.1 128 (12 + t)) tc (-1) + 1))) bigN 0 0 (hp κ ν) := fun ν hM e8 e9 e0 hbb => by
      have h := hY ν hM e8 e9 e0 hbb
      rw [e8, e9, e0] at h
      exact h
    generalize hke : kp (fun t => μ.1 128 (24 + t)) tc (nI j) = kept at hk hdis k1 k3 k4 hX hKp hY
    generalize hfe : kp (fun t => μ.1 128 (12 + t)) tc (-1) = free at hf hf2 hdis k1 k2 k4 hN hY
    have hCs : ∀ X, okM (μ.1 128) (μ.1 129) (μ.1 130) tc kc lm kept free X = true ↔ (sub X free ∧ Fit (μ.1 128) (μ.1 129) (μ.1 130) tc kc (ld (μ.1 128) (μ.1 129) (μ.1 130) tc lm kept) X) := fun X => by
      unfold okM
      rw [Bool.and_eq_true, akf_iff]
      constructor
      · rintro ⟨h1, h2⟩
        have h1 := sd_z.mp (of_decide_eq_true h1)
        refine ⟨h1, fun k hk => ?_⟩
        have h3 := of_decide_eq_true (h2 k (Nat.zero_le _) (by omega))
        rw [mo_dis (fun t ht => hdis t (h1 t ht)) b2] at h3
        unfold ld
        split at h3 <;> omega
      · rintro ⟨h1, h2⟩
        refine ⟨decide_eq_true (sd_z.mpr h1), fun k _ hk => decide_eq_true ?_⟩
        have h3 := h2 k (by omega)
        rw [mo_dis (fun t ht => hdis t (h1 t ht)) b2]
        unfold ld at h3
        split <;> omega
    have hC0 : okM (μ.1 128) (μ.1 129) (μ.1 130) tc kc lm kept free 0 = true := (hCs 0).mpr ⟨sub_0, fun k hk => by rw [moz b2]; unfold ld; omega⟩
    have hbs := bst_m hC0
    have hRl : ∀ s, bst (fun s b => okM (μ.1 128) (μ.1 129) (μ.1 130) tc kc lm kept free s && decide (cn b < cn s)) 0 s < 4096 := fun s => by
      cases s with
      | zero => show 0 < 4096; omega
      | succ s => exact (((hCs _).mp (hbs s).1).1).lt hf
    obtain ⟨r1, -, r3⟩ := hbs free
    have hr1 := (hCs _).mp r1
    have hRe : m = bst (fun s b => okM (μ.1 128) (μ.1 129) (μ.1 130) tc kc lm kept free s && decide (cn b < cn s)) 0 (free + 1) := by
      have h1 := k4 _ hr1.1 hr1.2
      have h2 := r3 m ((hCs m).mpr ⟨k2, k3⟩) (by have := Nat.le_of_testBit k2; omega)
      rcases h1 with h1 | ⟨h1, h3⟩
      · rcases h2 with h2 | ⟨h2, -⟩ <;> omega
      · rcases h2 with h2 | ⟨h2, h4⟩
        · omega
        · have h3 : m ≤ _ := h3
          have h4 : _ ≤ m := h4
          omega
    have hY := fun ν a1 a2 a3 a4 => hY ν a1 a2 a3 a4 hRl
    rw [← hRe] at hY
    have hm : m < 4096 := k2.lt hf
    have hX2 : Xc (rowI μ 111 g) (μ.1 128) (μ.1 129) (μ.1 130) hc tc kc lm := hb.xc.cg (fun a h1 h2 => rowI_n (by omega))
    have e1 : cl (rowI μ 111 g) = cl μ := cl_row rfl (fun j => by unfold rel; rfl)
    obtain ⟨g2, hg⟩ := x_worthAll (κ := κ) hX2 w1 (w2.mv e1) hm (nI j)
    generalize hu : wsF (fun t => vwr (μ.1 128) (μ.1 129) (μ.1 130) tc kc rn tx t (nI j)) m tc = u at hg
    have e1' : cl (rowI (rowI μ 111 g) 19 g2) = cl μ := (cl_row rfl (fun j => by unfold rel; rfl)).trans e1
    generalize hT : TT (rowI (rowI μ 111 g) 19 g2) (nI m).toInt64 u.toInt64 = ζ
    have e2 : cl ζ = cl μ := by
      rw [← hT]
      unfold TT
      rw [cl_TB, cl_TB, cl_T0, e1']
    have e3 : cl (Zr ζ) = cl μ := cl_Z.trans e2
    obtain ⟨ξ, q1, q2⟩ := y_mostW (κ := κ) (hb.mv e3).2.1 (w3.mv e3) w1 hm (nI j) (nI m).toInt64 u.toInt64 rfl (by rw [f128 e3, f129 e3, f130 e3, hu])
    refine ⟨nI (cn m), ζ, MM ξ (nI m).toInt64 u.toInt64, ?_, ?_, ?_, row_TM (ν := μ) ?_ ?_ ?_⟩
    · unfold F_X11_most
      rw [if_pos q0, g0_0, obs, X_hasHouse1 hb rfl hj, obs]
      (try dsimp only)
      rw [if_neg d0, g0_14, obs, g0_0, obs, obs, hKp, obs]
      (try dsimp only)
      rw [hX, obs]
      (try dsimp only)
      rw [g0_0, obs, hN, obs]
      (try dsimp only)
      rw [k1, obs]
      (try dsimp only)
      rw [hg, obs]
      (try dsimp only)
      rw [x_tellTwo, obs, ← TT, hT, bc hm, obs]
    · unfold F_X12_most
      rw [if_pos q127, p11, obs, Y_isHouse1 hb e3 hj, obs]
      (try dsimp only)
      rw [if_neg d0, g127_0, obs, Y_owned hb e3, obs]
      (try dsimp only)
      rw [show OW μ tc (-1) = free from hfe, hY (Zr ζ) (hb.mv e3).2.1 (f128 e3) (f129 e3) (f130 e3)]
      exact q1
    · have e4 : cl (MM ξ (nI m).toInt64 u.toInt64) = cl μ := by
        unfold MM
        rw [cl_MB, cl_MB, cl_M0, q2.c, e3]
      rw [e4]
      exact hI.1.up (by omega)
    · rw [q2.1 0 (by decide) (by decide), ← hT]
      rfl
    · rw [q2.2.2, ← hT]
      rfl
    · rw [q2.2.2, ← hT]
      rfl
  · refine ⟨-1, μ, Zr μ, ?_, ?_, inv_Z hI⟩
    · unfold F_X11_most
      simp only [↓reduceIte, obs, q0, q1, q2, q11, q13, q17, q20, q21, q24, q104, q111, q112, q116, q125, q127, g0_0, g0_1, g0_2, g0_3, g0_4, g0_5, g0_6, g0_7, p0_7, g0_8, g0_9, g0_10, g0_11, g0_12, g0_13, p0_13, g0_14, g0_15, g0_16, g0_17, g0_18, g1_0, g1_1, g1_2, g1_3, g1_4, g1_5, p1_5, g1_6, p1_6, g1_7, p1_7, g1_8, p1_8, g2_0, g2_1, g2_2, g2_3, g2_4, p2_4, g11_0, g11_1, p11_1, g11_2, p11_2, g11_3, p11_3, g13_0, g13_1, g13_2, g13_3, g17_0, g17_1, g17_2, p17_2, g20_0, g20_1, g21_0, g21_1, g21_2, p21_2, g24_0, g24_1, p24_1, g24_2, p24_2, g104_0, g104_1, g104_2, g104_3, g104_4, p104_4, g111_0, g111_1, p111_1, g111_2, p111_2, g111_3, p111_3, g112_0, g112_1, g112_2, g112_3, g112_4, p112_4, g116_0, g116_1, g116_2, g116_3, g116_4, g125_0, p125_0, g125_1, p125_1, g127_0, g127_1, p127_1, g127_2, p127_2, g127_3, p127_3, g127_4, g127_5, g127_6, p127_6, g127_7, g127_8, p127_8, g127_9, g127_10, p127_10, g127_11, p127_11, g127_12, g127_13, p127_13, g127_14, p127_14, g127_15, p127_15, g127_16, p127_16, g127_17, g127_18, g127_19, p127_19, g127_20, p127_20, g127_21, g127_22, g127_23, p127_23, g127_24, g127_25, g127_26, g127_27, g127_28, g127_29, p127_29, g127_30, p127_30, g127_31, g127_32, g127_33, p127_33, g127_34, p127_34, g127_35, p127_35, g127_36, p127_36, g127_37, g127_38, p127_38, g127_39, p127_39, g127_40, g127_41, g127_42, X_hasHouse0 hb rfl hx]
    · unfold F_X12_most
      simp only [if_pos q127, p11, ↓reduceIte, obs, Y_isHouse0 hb cl_Z hx]
