/-! PURE: pairs: the small calls, 4: count, row, thing, kind, house. -/
theorem ne_lo {x a : Int32} {A k : Nat} (ha : a = nI A) (hA : A < 2 ^ 31) (h : x < a) (hk : A ≤ k) (hk2 : k < 2 ^ 31) : ¬ x = nI k := fun z => by
  subst ha; subst z
  have := (i_lt hk2 hA).mp h
  omega
theorem ne_hi {x b : Int32} {B k : Nat} (hb : b = nI B) (hB : B < 2 ^ 31) (h : b < x) (hk : k ≤ B) : ¬ x = nI k := fun z => by
  subst hb; subst z
  have := (i_lt hB (by omega)).mp h
  omega
section NU
variable {κ : Kp} {μ ν : Mem} {B : Nat}
theorem cl_fst (h : ν.1 = μ.1) : cl ν = cl μ := by unfold cl; rw [h]
theorem inv_nu (hI : Inv B μ) (h1 : ν.1 = μ.1) (h2 : ∀ a, a ≠ 148 → ν.2 a = μ.2 a) : Inv B ν := by
  refine ⟨by rw [cl_fst h1]; exact hI.1, ?_⟩
  obtain ⟨rs, r1, r2, r3, r4⟩ := hI.2
  exact ⟨rs, r1, by rw [h1]; exact r2, by rw [h1]; exact r3, fun i hi => by rw [h2 91 (by decide), h2 132 (by decide)]; exact r4 i hi⟩
/-- thrown -/
def Lo (μ : Mem) : Mem := upI (Zr μ) 127 11 1
theorem inv_Lo (hI : Inv B μ) : Inv (B + 1200) (Lo μ) := inv_keep hI ((cl_up rfl rfl).trans cl_Z) rfl rfl rfl rfl
theorem y_lost : F_X12_lost 127 (hp κ (Zr μ)) = some (0, hp κ (Lo μ)) := by
  unfold F_X12_lost
  simp only [if_pos q127, p127_11, obs]
  rfl
end NU
theorem pr_thing (x y : Int32) : PT Int32 (fun h => F_X11_thing 0 x y h) (fun h => F_X12_thing 127 x y h) := by
  intro κ B μ ν hR hB hI hn1 hn2
  dsimp only
  obtain ⟨hc, tc, kc, lm, hb⟩ := hI.bs
  have e : cl (Zr ν) = cl μ := cl_Z.trans (cl_fst hn1)
  have hJ := inv_nu hI hn1 hn2
  have b2 := hb.b2
  rcases ix_tc hb x with ⟨t, ht, rfl⟩ | hx
  · rcases rng y 0 4 0 4 rfl rfl (by omega) (by omega) with ⟨j, j1, j2, rfl, c1, c2, c3, c4, c5⟩ | ⟨c1, c2, c3⟩ | ⟨c1, c2, c3, c4, c5⟩
    · have hj : j = 0 ∨ j = 1 ∨ j = 2 ∨ j = 3 ∨ j = 4 := by omega
      have t12 : t < 12 := by omega
      have e8 : ∀ i, (Zr ν).1 128 i = μ.1 128 i := fun i => by rw [f128 e]
      rcases hj with rfl | rfl | rfl | rfl | rfl
      · refine ⟨some (μ.1 5 t), μ.1 5 t, Zr ν, ?_, ?_, rfl, fun w hw => Option.some.inj hw, rfl, inv_Z hJ⟩
        · unfold F_X11_thing
          simp only [↓reduceIte, obs, q0, q1, q2, q11, q13, q17, q20, q21, q24, q104, q111, q112, q116, q125, q127, g0_0, g0_1, g0_2, g0_3, g0_4, g0_5, g0_6, g0_7, p0_7, g0_8, g0_9, g0_10, g0_11, g0_12, g0_13, p0_13, g0_14, g0_15, g0_16, g0_17, g0_18, g1_0, g1_1, g1_2, g1_3, g1_4, g1_5, p1_5, g1_6, p1_6, g1_7, p1_7, g1_8, p1_8, g2_0, g2_1, g2_2, g2_3, g2_4, p2_4, g11_0, g11_1, p11_1, g11_2, p11_2, g11_3, p11_3, g13_0, g13_1, g13_2, g13_3, g17_0, g17_1, g17_2, p17_2, g20_0, g20_1, g21_0, g21_1, g21_2, p21_2, g24_0, g24_1, p24_1, g24_2, p24_2, g104_0, g104_1, g104_2, g104_3, g104_4, p104_4, g111_0, g111_1, p111_1, g111_2, p111_2, g111_3, p111_3, g112_0, g112_1, g112_2, g112_3, g112_4, p112_4, g116_0, g116_1, g116_2, g116_3, g116_4, g125_0, p125_0, g125_1, p125_1, g127_0, g127_1, p127_1, g127_2, p127_2, g127_3, p127_3, g127_4, g127_5, g127_6, p127_6, g127_7, g127_8, p127_8, g127_9, g127_10, p127_10, g127_11, p127_11, g127_12, g127_13, p127_13, g127_14, p127_14, g127_15, p127_15, g127_16, p127_16, g127_17, g127_18, g127_19, p127_19, g127_20, p127_20, g127_21, g127_22, g127_23, p127_23, g127_24, g127_25, g127_26, g127_27, g127_28, g127_29, p127_29, g127_30, p127_30, g127_31, g127_32, g127_33, p127_33, g127_34, p127_34, g127_35, p127_35, g127_36, p127_36, g127_37, g127_38, p127_38, g127_39, p127_39, g127_40, g127_41, g127_42, X_hasThing1 hb rfl ht, show ¬ (1 : Int32) = 0 by decide, if_pos (show nI 0 = (0 : Int32) from rfl), r5 t12]
        · unfold F_X12_thing
          simp only [if_pos q127, p11, ↓reduceIte, obs, Y_isThing1 hb e ht, show ¬ (1 : Int32) = 0 by decide, c5, if_pos (show nI 0 = (0 : Int32) from rfl), g127_0, r128 (show t < 42 by omega), e8]
          rw [hb.tr t12]
      · refine ⟨some (μ.1 3 t), μ.1 3 t, Zr ν, ?_, ?_, rfl, fun w hw => Option.some.inj hw, rfl, inv_Z hJ⟩
        · unfold F_X11_thing
          simp only [↓reduceIte, obs, q0, q1, q2, q11, q13, q17, q20, q21, q24, q104, q111, q112, q116, q125, q127, g0_0, g0_1, g0_2, g0_3, g0_4, g0_5, g0_6, g0_7, p0_7, g0_8, g0_9, g0_10, g0_11, g0_12, g0_13, p0_13, g0_14, g0_15, g0_16, g0_17, g0_18, g1_0, g1_1, g1_2, g1_3, g1_4, g1_5, p1_5, g1_6, p1_6, g1_7, p1_7, g1_8, p1_8, g2_0, g2_1, g2_2, g2_3, g2_4, p2_4, g11_0, g11_1, p11_1, g11_2, p11_2, g11_3, p11_3, g13_0, g13_1, g13_2, g13_3, g17_0, g17_1, g17_2, p17_2, g20_0, g20_1, g21_0, g21_1, g21_2, p21_2, g24_0, g24_1, p24_1, g24_2, p24_2, g104_0, g104_1, g104_2, g104_3, g104_4, p104_4, g111_0, g111_1, p111_1, g111_2, p111_2, g111_3, p111_3, g112_0, g112_1, g112_2, g112_3, g112_4, p112_4, g116_0, g116_1, g116_2, g116_3, g116_4, g125_0, p125_0, g125_1, p125_1, g127_0, g127_1, p127_1, g127_2, p127_2, g127_3, p127_3, g127_4, g127_5, g127_6, p127_6, g127_7, g127_8, p127_8, g127_9, g127_10, p127_10, g127_11, p127_11, g127_12, g127_13, p127_13, g127_14, p127_14, g127_15, p127_15, g127_16, p127_16, g127_17, g127_18, g127_19, p127_19, g127_20, p127_20, g127_21, g127_22, g127_23, p127_23, g127_24, g127_25, g127_26, g127_27, g127_28, g127_29, p127_29, g127_30, p127_30, g127_31, g127_32, g127_33, p127_33, g127_34, p127_34, g127_35, p127_35, g127_36, p127_36, g127_37, g127_38, p127_38, g127_39, p127_39, g127_40, g127_41, g127_42, X_hasThing1 hb rfl ht, show ¬ (1 : Int32) = 0 by decide, show ¬ nI 1 = 0 by decide, if_pos (show nI 1 = (1 : Int32) from rfl), r3 t12]
        · unfold F_X12_thing
          simp only [if_pos q127, p11, ↓reduceIte, obs, Y_isThing1 hb e ht, show ¬ (1 : Int32) = 0 by decide, c5, show ¬ nI 1 = 0 by decide, if_pos (show nI 1 = (1 : Int32) from rfl), g127_0, i12, r128 (show 12 + t < 42 by omega), e8]
          rw [hb.ow t12]
      · refine ⟨some (μ.1 4 t), μ.1 4 t, Zr ν, ?_, ?_, rfl, fun w hw => Option.some.inj hw, rfl, inv_Z hJ⟩
        · unfold F_X11_thing
          simp only [↓reduceIte, obs, q0, q1, q2, q11, q13, q17, q20, q21, q24, q104, q111, q112, q116, q125, q127, g0_0, g0_1, g0_2, g0_3, g0_4, g0_5, g0_6, g0_7, p0_7, g0_8, g0_9, g0_10, g0_11, g0_12, g0_13, p0_13, g0_14, g0_15, g0_16, g0_17, g0_18, g1_0, g1_1, g1_2, g1_3, g1_4, g1_5, p1_5, g1_6, p1_6, g1_7, p1_7, g1_8, p1_8, g2_0, g2_1, g2_2, g2_3, g2_4, p2_4, g11_0, g11_1, p11_1, g11_2, p11_2, g11_3, p11_3, g13_0, g13_1, g13_2, g13_3, g17_0, g17_1, g17_2, p17_2, g20_0, g20_1, g21_0, g21_1, g21_2, p21_2, g24_0, g24_1, p24_1, g24_2, p24_2, g104_0, g104_1, g104_2, g104_3, g104_4, p104_4, g111_0, g111_1, p111_1, g111_2, p111_2, g111_3, p111_3, g112_0, g112_1, g112_2, g112_3, g112_4, p112_4, g116_0, g116_1, g116_2, g116_3, g116_4, g125_0, p125_0, g125_1, p125_1, g127_0, g127_1, p127_1, g127_2, p127_2, g127_3, p127_3, g127_4, g127_5, g127_6, p127_6, g127_7, g127_8, p127_8, g127_9, g127_10, p127_10, g127_11, p127_11, g127_12, g127_13, p127_13, g127_14, p127_14, g127_15, p127_15, g127_16, p127_16, g127_17, g127_18, g127_19, p127_19, g127_20, p127_20, g127_21, g127_22, g127_23, p127_23, g127_24, g127_25, g127_26, g127_27, g127_28, g127_29, p127_29, g127_30, p127_30, g127_31, g127_32, g127_33, p127_33, g127_34, p127_34, g127_35, p127_35, g127_36, p127_36, g127_37, g127_38, p127_38, g127_39, p127_39, g127_40, g127_41, g127_42, X_hasThing1 hb rfl ht, show ¬ (1 : Int32) = 0 by decide, show ¬ nI 2 = 0 by decide, show ¬ nI 2 = 1 by decide, if_pos (show nI 2 = (2 : Int32) from rfl), r4 t12]
        · unfold F_X12_thing
          simp only [if_pos q127, p11, ↓reduceIte, obs, Y_isThing1 hb e ht, show ¬ (1 : Int32) = 0 by decide, c5, show ¬ nI 2 = 0 by decide, show ¬ nI 2 = 1 by decide, if_pos (show nI 2 = (2 : Int32) from rfl), g127_0, i24, r128 (show 24 + t < 42 by omega), e8]
          rw [hb.ke t12]
      · refine ⟨some (nI (KO μ kc (μ.1 128 t))), nI (KO μ kc (μ.1 128 t)), Zr ν, ?_, ?_, rfl, fun w hw => Option.some.inj hw, rfl, inv_Z hJ⟩
        · unfold F_X11_thing
          simp only [↓reduceIte, obs, q0, q1, q2, q11, q13, q17, q20, q21, q24, q104, q111, q112, q116, q125, q127, g0_0, g0_1, g0_2, g0_3, g0_4, g0_5, g0_6, g0_7, p0_7, g0_8, g0_9, g0_10, g0_11, g0_12, g0_13, p0_13, g0_14, g0_15, g0_16, g0_17, g0_18, g1_0, g1_1, g1_2, g1_3, g1_4, g1_5, p1_5, g1_6, p1_6, g1_7, p1_7, g1_8, p1_8, g2_0, g2_1, g2_2, g2_3, g2_4, p2_4, g11_0, g11_1, p11_1, g11_2, p11_2, g11_3, p11_3, g13_0, g13_1, g13_2, g13_3, g17_0, g17_1, g17_2, p17_2, g20_0, g20_1, g21_0, g21_1, g21_2, p21_2, g24_0, g24_1, p24_1, g24_2, p24_2, g104_0, g104_1, g104_2, g104_3, g104_4, p104_4, g111_0, g111_1, p111_1, g111_2, p111_2, g111_3, p111_3, g112_0, g112_1, g112_2, g112_3, g112_4, p112_4, g116_0, g116_1, g116_2, g116_3, g116_4, g125_0, p125_0, g125_1, p125_1, g127_0, g127_1, p127_1, g127_2, p127_2, g127_3, p127_3, g127_4, g127_5, g127_6, p127_6, g127_7, g127_8, p127_8, g127_9, g127_10, p127_10, g127_11, p127_11, g127_12, g127_13, p127_13, g127_14, p127_14, g127_15, p127_15, g127_16, p127_16, g127_17, g127_18, g127_19, p127_19, g127_20, p127_20, g127_21, g127_22, g127_23, p127_23, g127_24, g127_25, g127_26, g127_27, g127_28, g127_29, p127_29, g127_30, p127_30, g127_31, g127_32, g127_33, p127_33, g127_34, p127_34, g127_35, p127_35, g127_36, p127_36, g127_37, g127_38, p127_38, g127_39, p127_39, g127_40, g127_41, g127_42, X_hasThing1 hb rfl ht, show ¬ (1 : Int32) = 0 by decide, show ¬ nI 3 = 0 by decide, show ¬ nI 3 = 1 by decide, show ¬ nI 3 = 2 by decide, if_pos (show nI 3 = (3 : Int32) from rfl), X_kindsOf hb rfl ht]
        · unfold F_X12_thing
          simp only [if_pos q127, p11, ↓reduceIte, obs, Y_isThing1 hb e ht, show ¬ (1 : Int32) = 0 by decide, c5, show ¬ nI 3 = 0 by decide, show ¬ nI 3 = 1 by decide, show ¬ nI 3 = 2 by decide, if_pos (show nI 3 = (3 : Int32) from rfl), g127_0, r128 (show t < 42 by omega), e8, Y_kindsOf hb e]
      · refine ⟨some (if μ.1 128 (12 + t) = μ.1 128 (24 + t) then 0 else 1), (if μ.1 128 (12 + t) = μ.1 128 (24 + t) then 0 else 1), Zr ν, ?_, ?_, rfl, fun w hw => Option.some.inj hw, rfl, inv_Z hJ⟩
        · unfold F_X11_thing
          simp only [↓reduceIte, obs, q0, q1, q2, q11, q13, q17, q20, q21, q24, q104, q111, q112, q116, q125, q127, g0_0, g0_1, g0_2, g0_3, g0_4, g0_5, g0_6, g0_7, p0_7, g0_8, g0_9, g0_10, g0_11, g0_12, g0_13, p0_13, g0_14, g0_15, g0_16, g0_17, g0_18, g1_0, g1_1, g1_2, g1_3, g1_4, g1_5, p1_5, g1_6, p1_6, g1_7, p1_7, g1_8, p1_8, g2_0, g2_1, g2_2, g2_3, g2_4, p2_4, g11_0, g11_1, p11_1, g11_2, p11_2, g11_3, p11_3, g13_0, g13_1, g13_2, g13_3, g17_0, g17_1, g17_2, p17_2, g20_0, g20_1, g21_0, g21_1, g21_2, p21_2, g24_0, g24_1, p24_1, g24_2, p24_2, g104_0, g104_1, g104_2, g104_3, g104_4, p104_4, g111_0, g111_1, p111_1, g111_2, p111_2, g111_3, p111_3, g112_0, g112_1, g112_2, g112_3, g112_4, p112_4, g116_0, g116_1, g116_2, g116_3, g116_4, g125_0, p125_0, g125_1, p125_1, g127_0, g127_1, p127_1, g127_2, p127_2, g127_3, p127_3, g127_4, g127_5, g127_6, p127_6, g127_7, g127_8, p127_8, g127_9, g127_10, p127_10, g127_11, p127_11, g127_12, g127_13, p127_13, g127_14, p127_14, g127_15, p127_15, g127_16, p127_16, g127_17, g127_18, g127_19, p127_19, g127_20, p127_20, g127_21, g127_22, g127_23, p127_23, g127_24, g127_25, g127_26, g127_27, g127_28, g127_29, p127_29, g127_30, p127_30, g127_31, g127_32, g127_33, p127_33, g127_34, p127_34, g127_35, p127_35, g127_36, p127_36, g127_37, g127_38, p127_38, g127_39, p127_39, g127_40, g127_41, g127_42, X_hasThing1 hb rfl ht, show ¬ (1 : Int32) = 0 by decide, show ¬ nI 4 = 0 by decide, show ¬ nI 4 = 1 by decide, show ¬ nI 4 = 2 by decide, show ¬ nI 4 = 3 by decide, if_pos (show nI 4 = (4 : Int32) from rfl), X_isLent hb rfl t12]
          split
          · rfl
          · rfl
        · unfold F_X12_thing
          simp only [if_pos q127, p11, ↓reduceIte, obs, Y_isThing1 hb e ht, show ¬ (1 : Int32) = 0 by decide, c5, show ¬ nI 4 = 0 by decide, show ¬ nI 4 = 1 by decide, show ¬ nI 4 = 2 by decide, show ¬ nI 4 = 3 by decide, Y_lentBits hb e, i_bit (small (LB_lt b2)) (show t < 32 by omega)]
          have : (LB μ tc).testBit t = decide (¬ μ.1 128 (12 + t) = μ.1 128 (24 + t)) := by
            unfold LB
            rw [sb_bit]
            simp [ht]
          rw [this]
          by_cases z : μ.1 128 (12 + t) = μ.1 128 (24 + t)
          · simp [z]
          · simp [z]
    · have n0 : ¬ y = 0 := ne_lo (A := 0) (k := 0) rfl (by decide) c1 (by decide) (by decide)
      have n1 : ¬ y = 1 := ne_lo (A := 0) (k := 1) rfl (by decide) c1 (by decide) (by decide)
      have n2 : ¬ y = 2 := ne_lo (A := 0) (k := 2) rfl (by decide) c1 (by decide) (by decide)
      have n3 : ¬ y = 3 := ne_lo (A := 0) (k := 3) rfl (by decide) c1 (by decide) (by decide)
      have n4 : ¬ y = 4 := ne_lo (A := 0) (k := 4) rfl (by decide) c1 (by decide) (by decide)
      refine ⟨none, 0, Lo ν, ?_, ?_, rfl, (fun w hw => nomatch hw), rfl, inv_Lo hJ⟩
      · unfold F_X11_thing
        simp only [↓reduceIte, obs, q0, q1, q2, q11, q13, q17, q20, q21, q24, q104, q111, q112, q116, q125, q127, g0_0, g0_1, g0_2, g0_3, g0_4, g0_5, g0_6, g0_7, p0_7, g0_8, g0_9, g0_10, g0_11, g0_12, g0_13, p0_13, g0_14, g0_15, g0_16, g0_17, g0_18, g1_0, g1_1, g1_2, g1_3, g1_4, g1_5, p1_5, g1_6, p1_6, g1_7, p1_7, g1_8, p1_8, g2_0, g2_1, g2_2, g2_3, g2_4, p2_4, g11_0, g11_1, p11_1, g11_2, p11_2, g11_3, p11_3, g13_0, g13_1, g13_2, g13_3, g17_0, g17_1, g17_2, p17_2, g20_0, g20_1, g21_0, g21_1, g21_2, p21_2, g24_0, g24_1, p24_1, g24_2, p24_2, g104_0, g104_1, g104_2, g104_3, g104_4, p104_4, g111_0, g111_1, p111_1, g111_2, p111_2, g111_3, p111_3, g112_0, g112_1, g112_2, g112_3, g112_4, p112_4, g116_0, g116_1, g116_2, g116_3, g116_4, g125_0, p125_0, g125_1, p125_1, g127_0, g127_1, p127_1, g127_2, p127_2, g127_3, p127_3, g127_4, g127_5, g127_6, p127_6, g127_7, g127_8, p127_8, g127_9, g127_10, p127_10, g127_11, p127_11, g127_12, g127_13, p127_13, g127_14, p127_14, g127_15, p127_15, g127_16, p127_16, g127_17, g127_18, g127_19, p127_19, g127_20, p127_20, g127_21, g127_22, g127_23, p127_23, g127_24, g127_25, g127_26, g127_27, g127_28, g127_29, p127_29, g127_30, p127_30, g127_31, g127_32, g127_33, p127_33, g127_34, p127_34, g127_35, p127_35, g127_36, p127_36, g127_37, g127_38, p127_38, g127_39, p127_39, g127_40, g127_41, g127_42, X_hasThing1 hb rfl ht, show ¬ (1 : Int32) = 0 by decide, n0, n1, n2, n3, n4]
      · unfold F_X12_thing b_X12_thing_22
        simp only [if_pos q127, p11, ↓reduceIte, obs, Y_isThing1 hb e ht, show ¬ (1 : Int32) = 0 by decide, c3, y_lost]
    · have n0 : ¬ y = 0 := ne_hi (B := 4) (k := 0) rfl (by decide) c1 (by decide)
      have n1 : ¬ y = 1 := ne_hi (B := 4) (k := 1) rfl (by decide) c1 (by decide)
      have n2 : ¬ y = 2 := ne_hi (B := 4) (k := 2) rfl (by decide) c1 (by decide)
      have n3 : ¬ y = 3 := ne_hi (B := 4) (k := 3) rfl (by decide) c1 (by decide)
      have n4 : ¬ y = 4 := ne_hi (B := 4) (k := 4) rfl (by decide) c1 (by decide)
      refine ⟨none, 0, Lo ν, ?_, ?_, rfl, (fun w hw => nomatch hw), rfl, inv_Lo hJ⟩
      · unfold F_X11_thing
        simp only [↓reduceIte, obs, q0, q1, q2, q11, q13, q17, q20, q21, q24, q104, q111, q112, q116, q125, q127, g0_0, g0_1, g0_2, g0_3, g0_4, g0_5, g0_6, g0_7, p0_7, g0_8, g0_9, g0_10, g0_11, g0_12, g0_13, p0_13, g0_14, g0_15, g0_16, g0_17, g0_18, g1_0, g1_1, g1_2, g1_3, g1_4, g1_5, p1_5, g1_6, p1_6, g1_7, p1_7, g1_8, p1_8, g2_0, g2_1, g2_2, g2_3, g2_4, p2_4, g11_0, g11_1, p11_1, g11_2, p11_2, g11_3, p11_3, g13_0, g13_1, g13_2, g13_3, g17_0, g17_1, g17_2, p17_2, g20_0, g20_1, g21_0, g21_1, g21_2, p21_2, g24_0, g24_1, p24_1, g24_2, p24_2, g104_0, g104_1, g104_2, g104_3, g104_4, p104_4, g111_0, g111_1, p111_1, g111_2, p111_2, g111_3, p111_3, g112_0, g112_1, g112_2, g112_3, g112_4, p112_4, g116_0, g116_1, g116_2, g116_3, g116_4, g125_0, p125_0, g125_1, p125_1, g127_0, g127_1, p127_1, g127_2, p127_2, g127_3, p127_3, g127_4, g127_5, g127_6, p127_6, g127_7, g127_8, p127_8, g127_9, g127_10, p127_10, g127_11, p127_11, g127_12, g127_13, p127_13, g127_14, p127_14, g127_15, p127_15, g127_16, p127_16, g127_17, g127_18, g127_19, p127_19, g127_20, p127_20, g127_21, g127_22, g127_23, p127_23, g127_24, g127_25, g127_26, g127_27, g127_28, g127_29, p127_29, g127_30, p127_30, g127_31, g127_32, g127_33, p127_33, g127_34, p127_34, g127_35, p127_35, g127_36, p127_36, g127_37, g127_38, p127_38, g127_39, p127_39, g127_40, g127_41, g127_42, X_hasThing1 hb rfl ht, show ¬ (1 : Int32) = 0 by decide, n0, n1, n2, n3, n4]
      · unfold F_X12_thing b_X12_thing_22
        simp only [if_pos q127, p11, ↓reduceIte, obs, Y_isThing1 hb e ht, show ¬ (1 : Int32) = 0 by decide, c5, y_lost]
  · refine ⟨none, 0, Lo ν, ?_, ?_, rfl, (fun w hw => nomatch hw), rfl, inv_Lo hJ⟩
    · unfold F_X11_thing
      simp only [↓reduceIte, obs, q0, q1, q2, q11, q13, q17, q20, q21, q24, q104, q111, q112, q116, q125, q127, g0_0, g0_1, g0_2, g0_3, g0_4, g0_5, g0_6, g0_7, p0_7, g0_8, g0_9, g0_10, g0_11, g0_12, g0_13, p0_13, g0_14, g0_15, g0_16, g0_17, g0_18, g1_0, g1_1, g1_2, g1_3, g1_4, g1_5, p1_5, g1_6, p1_6, g1_7, p1_7, g1_8, p1_8, g2_0, g2_1, g2_2, g2_3, g2_4, p2_4, g11_0, g11_1, p11_1, g11_2, p11_2, g11_3, p11_3, g13_0, g13_1, g13_2, g13_3, g17_0, g17_1, g17_2, p17_2, g20_0, g20_1, g21_0, g21_1, g21_2, p21_2, g24_0, g24_1, p24_1, g24_2, p24_2, g104_0, g104_1, g104_2, g104_3, g104_4, p104_4, g111_0, g111_1, p111_1, g111_2, p111_2, g111_3, p111_3, g112_0, g112_1, g112_2, g112_3, g112_4, p112_4, g116_0, g116_1, g116_2, g116_3, g116_4, g125_0, p125_0, g125_1, p125_1, g127_0, g127_1, p127_1, g127_2, p127_2, g127_3, p127_3, g127_4, g127_5, g127_6, p127_6, g127_7, g127_8, p127_8, g127_9, g127_10, p127_10, g127_11, p127_11, g127_12, g127_13, p127_13, g127_14, p127_14, g127_15, p127_15, g127_16, p127_16, g127_17, g127_18, g127_19, p127_19, g127_20, p127_20, g127_21, g127_22, g127_23, p127_23, g127_24, g127_25, g127_26, g127_27, g127_28, g127_29, p127_29, g127_30, p127_30, g127_31, g127_32, g127_33, p127_33, g127_34, p127_34, g127_35, p127_35, g127_36, p127_36, g127_37, g127_38, p127_38, g127_39, p127_39, g127_40, g127_41, g127_42, X_hasThing0 hb rfl hx]
    · unfold F_X12_thing b_X12_thing_22
      simp only [if_pos q127, p11, ↓reduceIte, obs, Y_isThing0 hb e hx, y_lost]
theorem y_kind_loop {κ : Kp} {μ ν : Mem} {hc tc kc lm B k : Nat} (hb : Bs μ hc tc kc lm B) (e : cl ν = cl μ) (hk : k < kc) : b_X12_kind_57 127 (nI k) bigN 0 0 (hp κ ν) = some (nI (KS μ tc k), hp κ ν) := by
  have b2 := hb.b2
  have b3 := hb.b3
  have hM := (hb.mv e).2.1
  have m2 : ν.1 127 2 = nI tc := hM.2.1
  refine lpk (fun n t => b_X12_kind_57 127 (nI k) n (nI (KS μ t k)) (nI t) (hp κ ν)) tc _ ?_ ?_ bigN 0 (Nat.zero_le _) (by unfold bigN; omega)
  · intro n t ht
    rw [b_X12_kind_57]
    have hko := KO_lt (μ := μ) (x := μ.1 128 t) b3
    simp only [g127_2, m2, obs, if_neg (nI_ge ht (show tc < 2 ^ 31 by omega)), g127_0, r128 (show t < 42 by omega), show ν.1 128 t = μ.1 128 t by rw [f128 e], Y_kindsOf hb e, y_has (show KO μ kc (μ.1 128 t) < 2 ^ 31 by omega) (show k < 32 by omega), b_X12_kind_93, nI_1]
    have e1 : (KO μ kc (μ.1 128 t)).testBit k = io (μ.1 128 t) (μ.1 129 k) (μ.1 130 k) := by
      unfold KO
      rw [sb_bit]
      simp [hk]
    rw [e1]
    unfold KS kset
    cases e2 : io (μ.1 128 t) (μ.1 129 k) (μ.1 130 k) with
    | true => rw [sb_t e2, if_neg (by decide), i_sh1 t (by omega), i_or]
    | false => rw [sb_f e2, if_pos (by decide), i_or0]
  · intro n
    rw [b_X12_kind_57]
    simp only [g127_2, m2, obs, if_pos (nI_le (Nat.le_refl tc) (show tc < 2 ^ 31 by omega))]
theorem pr_kind (x y : Int32) : PT Int32 (fun h => F_X11_kind 0 x y h) (fun h => F_X12_kind 127 x y h) := by
  intro κ B μ ν hR hB hI hn1 hn2
  dsimp only
  obtain ⟨hc, tc, kc, lm, hb⟩ := hI.bs
  have e : cl (Zr ν) = cl μ := cl_Z.trans (cl_fst hn1)
  have hJ := inv_nu hI hn1 hn2
  have b2 := hb.b2
  have b3 := hb.b3
  rcases ix_kc hb x with ⟨t, ht, rfl⟩ | hx
  · have hkd := hb.2.2.1 t ht
    have hof := (hb.of t ht).1
    rcases rng y 0 2 0 2 rfl rfl (by omega) (by omega) with ⟨j, j1, j2, rfl, c1, c2, c3, c4, c5⟩ | ⟨c1, c2, c3⟩ | ⟨c1, c2, c3, c4, c5⟩
    · have hj : j = 0 ∨ j = 1 ∨ j = 2 := by omega
      have t12 : t < 6 := by omega
      rcases hj with rfl | rfl | rfl
      · refine ⟨some (μ.1 7 t), μ.1 7 t, Zr ν, ?_, ?_, rfl, fun w hw => Option.some.inj hw, rfl, inv_Z hJ⟩
        · unfold F_X11_kind
          simp only [↓reduceIte, obs, q0, q1, q2, q11, q13, q17, q20, q21, q24, q104, q111, q112, q116, q125, q127, g0_0, g0_1, g0_2, g0_3, g0_4, g0_5, g0_6, g0_7, p0_7, g0_8, g0_9, g0_10, g0_11, g0_12, g0_13, p0_13, g0_14, g0_15, g0_16, g0_17, g0_18, g1_0, g1_1, g1_2, g1_3, g1_4, g1_5, p1_5, g1_6, p1_6, g1_7, p1_7, g1_8, p1_8, g2_0, g2_1, g2_2, g2_3, g2_4, p2_4, g11_0, g11_1, p11_1, g11_2, p11_2, g11_3, p11_3, g13_0, g13_1, g13_2, g13_3, g17_0, g17_1, g17_2, p17_2, g20_0, g20_1, g21_0, g21_1, g21_2, p21_2, g24_0, g24_1, p24_1, g24_2, p24_2, g104_0, g104_1, g104_2, g104_3, g104_4, p104_4, g111_0, g111_1, p111_1, g111_2, p111_2, g111_3, p111_3, g112_0, g112_1, g112_2, g112_3, g112_4, p112_4, g116_0, g116_1, g116_2, g116_3, g116_4, g125_0, p125_0, g125_1, p125_1, g127_0, g127_1, p127_1, g127_2, p127_2, g127_3, p127_3, g127_4, g127_5, g127_6, p127_6, g127_7, g127_8, p127_8, g127_9, g127_10, p127_10, g127_11, p127_11, g127_12, g127_13, p127_13, g127_14, p127_14, g127_15, p127_15, g127_16, p127_16, g127_17, g127_18, g127_19, p127_19, g127_20, p127_20, g127_21, g127_22, g127_23, p127_23, g127_24, g127_25, g127_26, g127_27, g127_28, g127_29, p127_29, g127_30, p127_30, g127_31, g127_32, g127_33, p127_33, g127_34, p127_34, g127_35, p127_35, g127_36, p127_36, g127_37, g127_38, p127_38, g127_39, p127_39, g127_40, g127_41, g127_42, X_hasKind1 hb rfl ht, show ¬ (1 : Int32) = 0 by decide, if_pos (show nI 0 = (0 : Int32) from rfl), r7 t12]
        · unfold F_X12_kind
          simp only [if_pos q127, p11, ↓reduceIte, obs, Y_isKind1 hb e ht, show ¬ (1 : Int32) = 0 by decide, c5, show ¬ (2 : Int32) ≤ nI 0 by decide, if_pos (show nI 0 = (0 : Int32) from rfl), g127_4, r129 t12, show (Zr ν).1 129 t = μ.1 129 t by rw [f129 e]]
          rw [hkd.1]
      · refine ⟨some (μ.1 8 t), μ.1 8 t, Zr ν, ?_, ?_, rfl, fun w hw => Option.some.inj hw, rfl, inv_Z hJ⟩
        · unfold F_X11_kind
          simp only [↓reduceIte, obs, q0, q1, q2, q11, q13, q17, q20, q21, q24, q104, q111, q112, q116, q125, q127, g0_0, g0_1, g0_2, g0_3, g0_4, g0_5, g0_6, g0_7, p0_7, g0_8, g0_9, g0_10, g0_11, g0_12, g0_13, p0_13, g0_14, g0_15, g0_16, g0_17, g0_18, g1_0, g1_1, g1_2, g1_3, g1_4, g1_5, p1_5, g1_6, p1_6, g1_7, p1_7, g1_8, p1_8, g2_0, g2_1, g2_2, g2_3, g2_4, p2_4, g11_0, g11_1, p11_1, g11_2, p11_2, g11_3, p11_3, g13_0, g13_1, g13_2, g13_3, g17_0, g17_1, g17_2, p17_2, g20_0, g20_1, g21_0, g21_1, g21_2, p21_2, g24_0, g24_1, p24_1, g24_2, p24_2, g104_0, g104_1, g104_2, g104_3, g104_4, p104_4, g111_0, g111_1, p111_1, g111_2, p111_2, g111_3, p111_3, g112_0, g112_1, g112_2, g112_3, g112_4, p112_4, g116_0, g116_1, g116_2, g116_3, g116_4, g125_0, p125_0, g125_1, p125_1, g127_0, g127_1, p127_1, g127_2, p127_2, g127_3, p127_3, g127_4, g127_5, g127_6, p127_6, g127_7, g127_8, p127_8, g127_9, g127_10, p127_10, g127_11, p127_11, g127_12, g127_13, p127_13, g127_14, p127_14, g127_15, p127_15, g127_16, p127_16, g127_17, g127_18, g127_19, p127_19, g127_20, p127_20, g127_21, g127_22, g127_23, p127_23, g127_24, g127_25, g127_26, g127_27, g127_28, g127_29, p127_29, g127_30, p127_30, g127_31, g127_32, g127_33, p127_33, g127_34, p127_34, g127_35, p127_35, g127_36, p127_36, g127_37, g127_38, p127_38, g127_39, p127_39, g127_40, g127_41, g127_42, X_hasKind1 hb rfl ht, show ¬ (1 : Int32) = 0 by decide, show ¬ nI 1 = 0 by decide, if_pos (show nI 1 = (1 : Int32) from rfl), r8 t12]
        · unfold F_X12_kind
          simp only [if_pos q127, p11, ↓reduceIte, obs, Y_isKind1 hb e ht, show ¬ (1 : Int32) = 0 by decide, c5, show ¬ (2 : Int32) ≤ nI 1 by decide, show ¬ nI 1 = 0 by decide, g127_5, r130 t12, show (Zr ν).1 130 t = μ.1 130 t by rw [f130 e]]
          rw [hkd.2.1]
      · refine ⟨some (nI (KS μ tc t)), nI (KS μ tc t), Zr ν, ?_, ?_, rfl, fun w hw => Option.some.inj hw, rfl, inv_Z hJ⟩
        · unfold F_X11_kind
          simp only [↓reduceIte, obs, q0, q1, q2, q11, q13, q17, q20, q21, q24, q104, q111, q112, q116, q125, q127, g0_0, g0_1, g0_2, g0_3, g0_4, g0_5, g0_6, g0_7, p0_7, g0_8, g0_9, g0_10, g0_11, g0_12, g0_13, p0_13, g0_14, g0_15, g0_16, g0_17, g0_18, g1_0, g1_1, g1_2, g1_3, g1_4, g1_5, p1_5, g1_6, p1_6, g1_7, p1_7, g1_8, p1_8, g2_0, g2_1, g2_2, g2_3, g2_4, p2_4, g11_0, g11_1, p11_1, g11_2, p11_2, g11_3, p11_3, g13_0, g13_1, g13_2, g13_3, g17_0, g17_1, g17_2, p17_2, g20_0, g20_1, g21_0, g21_1, g21_2, p21_2, g24_0, g24_1, p24_1, g24_2, p24_2, g104_0, g104_1, g104_2, g104_3, g104_4, p104_4, g111_0, g111_1, p111_1, g111_2, p111_2, g111_3, p111_3, g112_0, g112_1, g112_2, g112_3, g112_4, p112_4, g116_0, g116_1, g116_2, g116_3, g116_4, g125_0, p125_0, g125_1, p125_1, g127_0, g127_1, p127_1, g127_2, p127_2, g127_3, p127_3, g127_4, g127_5, g127_6, p127_6, g127_7, g127_8, p127_8, g127_9, g127_10, p127_10, g127_11, p127_11, g127_12, g127_13, p127_13, g127_14, p127_14, g127_15, p127_15, g127_16, p127_16, g127_17, g127_18, g127_19, p127_19, g127_20, p127_20, g127_21, g127_22, g127_23, p127_23, g127_24, g127_25, g127_26, g127_27, g127_28, g127_29, p127_29, g127_30, p127_30, g127_31, g127_32, g127_33, p127_33, g127_34, p127_34, g127_35, p127_35, g127_36, p127_36, g127_37, g127_38, p127_38, g127_39, p127_39, g127_40, g127_41, g127_42, X_hasKind1 hb rfl ht, show ¬ (1 : Int32) = 0 by decide, show ¬ nI 2 = 0 by decide, show ¬ nI 2 = 1 by decide, if_pos (show nI 2 = (2 : Int32) from rfl), r9 t12, hof]
        · unfold F_X12_kind
          simp only [if_pos q127, p11, ↓reduceIte, obs, Y_isKind1 hb e ht, show ¬ (1 : Int32) = 0 by decide, c5, show (2 : Int32) ≤ nI 2 by decide, y_kind_loop hb e ht]
    · have n0 : ¬ y = 0 := ne_lo (A := 0) (k := 0) rfl (by decide) c1 (by decide) (by decide)
      have n1 : ¬ y = 1 := ne_lo (A := 0) (k := 1) rfl (by decide) c1 (by decide) (by decide)
      have n2 : ¬ y = 2 := ne_lo (A := 0) (k := 2) rfl (by decide) c1 (by decide) (by decide)
      refine ⟨none, 0, Lo ν, ?_, ?_, rfl, (fun w hw => nomatch hw), rfl, inv_Lo hJ⟩
      · unfold F_X11_kind
        simp only [↓reduceIte, obs, q0, q1, q2, q11, q13, q17, q20, q21, q24, q104, q111, q112, q116, q125, q127, g0_0, g0_1, g0_2, g0_3, g0_4, g0_5, g0_6, g0_7, p0_7, g0_8, g0_9, g0_10, g0_11, g0_12, g0_13, p0_13, g0_14, g0_15, g0_16, g0_17, g0_18, g1_0, g1_1, g1_2, g1_3, g1_4, g1_5, p1_5, g1_6, p1_6, g1_7, p1_7, g1_8, p1_8, g2_0, g2_1, g2_2, g2_3, g2_4, p2_4, g11_0, g11_1, p11_1, g11_2, p11_2, g11_3, p11_3, g13_0, g13_1, g13_2, g13_3, g17_0, g17_1, g17_2, p17_2, g20_0, g20_1, g21_0, g21_1, g21_2, p21_2, g24_0, g24_1, p24_1, g24_2, p24_2, g104_0, g104_1, g104_2, g104_3, g104_4, p104_4, g111_0, g111_1, p111_1, g111_2, p111_2, g111_3, p111_3, g112_0, g112_1, g112_2, g112_3, g112_4, p112_4, g116_0, g116_1, g116_2, g116_3, g116_4, g125_0, p125_0, g125_1, p125_1, g127_0, g127_1, p127_1, g127_2, p127_2, g127_3, p127_3, g127_4, g127_5, g127_6, p127_6, g127_7, g127_8, p127_8, g127_9, g127_10, p127_10, g127_11, p127_11, g127_12, g127_13, p127_13, g127_14, p127_14, g127_15, p127_15, g127_16, p127_16, g127_17, g127_18, g127_19, p127_19, g127_20, p127_20, g127_21, g127_22, g127_23, p127_23, g127_24, g127_25, g127_26, g127_27, g127_28, g127_29, p127_29, g127_30, p127_30, g127_31, g127_32, g127_33, p127_33, g127_34, p127_34, g127_35, p127_35, g127_36, p127_36, g127_37, g127_38, p127_38, g127_39, p127_39, g127_40, g127_41, g127_42, X_hasKind1 hb rfl ht, show ¬ (1 : Int32) = 0 by decide, n0, n1, n2]
      · unfold F_X12_kind b_X12_kind_22
        simp only [if_pos q127, p11, ↓reduceIte, obs, Y_isKind1 hb e ht, show ¬ (1 : Int32) = 0 by decide, c3, y_lost]
    · have n0 : ¬ y = 0 := ne_hi (B := 2) (k := 0) rfl (by decide) c1 (by decide)
      have n1 : ¬ y = 1 := ne_hi (B := 2) (k := 1) rfl (by decide) c1 (by decide)
      have n2 : ¬ y = 2 := ne_hi (B := 2) (k := 2) rfl (by decide) c1 (by decide)
      refine ⟨none, 0, Lo ν, ?_, ?_, rfl, (fun w hw => nomatch hw), rfl, inv_Lo hJ⟩
      · unfold F_X11_kind
        simp only [↓reduceIte, obs, q0, q1, q2, q11, q13, q17, q20, q21, q24, q104, q111, q112, q116, q125, q127, g0_0, g0_1, g0_2, g0_3, g0_4, g0_5, g0_6, g0_7, p0_7, g0_8, g0_9, g0_10, g0_11, g0_12, g0_13, p0_13, g0_14, g0_15, g0_16, g0_17, g0_18, g1_0, g1_1, g1_2, g1_3, g1_4, g1_5, p1_5, g1_6, p1_6, g1_7, p1_7, g1_8, p1_8, g2_0, g2_1, g2_2, g2_3, g2_4, p2_4, g11_0, g11_1, p11_1, g11_2, p11_2, g11_3, p11_3, g13_0, g13_1, g13_2, g13_3, g17_0, g17_1, g17_2, p17_2, g20_0, g20_1, g21_0, g21_1, g21_2, p21_2, g24_0, g24_1, p24_1, g24_2, p24_2, g104_0, g104_1, g104_2, g104_3, g104_4, p104_4, g111_0, g111_1, p111_1, g111_2, p111_2, g111_3, p111_3, g112_0, g112_1, g112_2, g112_3, g112_4, p112_4, g116_0, g116_1, g116_2, g116_3, g116_4, g125_0, p125_0, g125_1, p125_1, g127_0, g127_1, p127_1, g127_2, p127_2, g127_3, p127_3, g127_4, g127_5, g127_6, p127_6, g127_7, g127_8, p127_8, g127_9, g127_10, p127_10, g127_11, p127_11, g127_12, g127_13, p127_13, g127_14, p127_14, g127_15, p127_15, g127_16, p127_16, g127_17, g127_18, g127_19, p127_19, g127_20, p127_20, g127_21, g127_22, g127_23, p127_23, g127_24, g127_25, g127_26, g127_27, g127_28, g127_29, p127_29, g127_30, p127_30, g127_31, g127_32, g127_33, p127_33, g127_34, p127_34, g127_35, p127_35, g127_36, p127_36, g127_37, g127_38, p127_38, g127_39, p127_39, g127_40, g127_41, g127_42, X_hasKind1 hb rfl ht, show ¬ (1 : Int32) = 0 by decide, n0, n1, n2]
      · unfold F_X12_kind b_X12_kind_22
        simp only [if_pos q127, p11, ↓reduceIte, obs, Y_isKind1 hb e ht, show ¬ (1 : Int32) = 0 by decide, c5, y_lost]
  · refine ⟨none, 0, Lo ν, ?_, ?_, rfl, (fun w hw => nomatch hw), rfl, inv_Lo hJ⟩
    · unfold F_X11_kind
      simp only [↓reduceIte, obs, q0, q1, q2, q11, q13, q17, q20, q21, q24, q104, q111, q112, q116, q125, q127, g0_0, g0_1, g0_2, g0_3, g0_4, g0_5, g0_6, g0_7, p0_7, g0_8, g0_9, g0_10, g0_11, g0_12, g0_13, p0_13, g0_14, g0_15, g0_16, g0_17, g0_18, g1_0, g1_1, g1_2, g1_3, g1_4, g1_5, p1_5, g1_6, p1_6, g1_7, p1_7, g1_8, p1_8, g2_0, g2_1, g2_2, g2_3, g2_4, p2_4, g11_0, g11_1, p11_1, g11_2, p11_2, g11_3, p11_3, g13_0, g13_1, g13_2, g13_3, g17_0, g17_1, g17_2, p17_2, g20_0, g20_1, g21_0, g21_1, g21_2, p21_2, g24_0, g24_1, p24_1, g24_2, p24_2, g104_0, g104_1, g104_2, g104_3, g104_4, p104_4, g111_0, g111_1, p111_1, g111_2, p111_2, g111_3, p111_3, g112_0, g112_1, g112_2, g112_3, g112_4, p112_4, g116_0, g116_1, g116_2, g116_3, g116_4, g125_0, p125_0, g125_1, p125_1, g127_0, g127_1, p127_1, g127_2, p127_2, g127_3, p127_3, g127_4, g127_5, g127_6, p127_6, g127_7, g127_8, p127_8, g127_9, g127_10, p127_10, g127_11, p127_11, g127_12, g127_13, p127_13, g127_14, p127_14, g127_15, p127_15, g127_16, p127_16, g127_17, g127_18, g127_19, p127_19, g127_20, p127_20, g127_21, g127_22, g127_23, p127_23, g127_24, g127_25, g127_26, g127_27, g127_28, g127_29, p127_29, g127_30, p127_30, g127_31, g127_32, g127_33, p127_33, g127_34, p127_34, g127_35, p127_35, g127_36, p127_36, g127_37, g127_38, p127_38, g127_39, p127_39, g127_40, g127_41, g127_42, X_hasKind0 hb rfl hx]
    · unfold F_X12_kind b_X12_kind_22
      simp only [if_pos q127, p11, ↓reduceIte, obs, Y_isKind0 hb e hx, y_lost]
theorem pr_house (x y : Int32) : PT Int32 (fun h => F_X11_house 0 x y h) (fun h => F_X12_house 127 x y h) := by
  intro κ B μ ν hR hB hI hn1 hn2
  dsimp only
  obtain ⟨hc, tc, kc, lm, hb⟩ := hI.bs
  have e : cl (Zr ν) = cl μ := cl_Z.trans (cl_fst hn1)
  have hJ := inv_nu hI hn1 hn2
  have b1 := hb.b1
  have b2 := hb.b2
  rcases ix_hc hb x with ⟨t, ht, rfl⟩ | hx
  · rcases rng y 0 3 0 3 rfl rfl (by omega) (by omega) with ⟨j, j1, j2, rfl, c1, c2, c3, c4, c5⟩ | ⟨c1, c2, c3⟩ | ⟨c1, c2, c3, c4, c5⟩
    · have hj : j = 0 ∨ j = 1 ∨ j = 2 ∨ j = 3 := by omega
      have t12 : t < 5 := by omega
      rcases hj with rfl | rfl | rfl | rfl
      · refine ⟨some (nI (OW μ tc (nI t))), nI (OW μ tc (nI t)), Zr ν, ?_, ?_, rfl, fun w hw => Option.some.inj hw, rfl, inv_Z hJ⟩
        · unfold F_X11_house
          simp only [↓reduceIte, obs, q0, q1, q2, q11, q13, q17, q20, q21, q24, q104, q111, q112, q116, q125, q127, g0_0, g0_1, g0_2, g0_3, g0_4, g0_5, g0_6, g0_7, p0_7, g0_8, g0_9, g0_10, g0_11, g0_12, g0_13, p0_13, g0_14, g0_15, g0_16, g0_17, g0_18, g1_0, g1_1, g1_2, g1_3, g1_4, g1_5, p1_5, g1_6, p1_6, g1_7, p1_7, g1_8, p1_8, g2_0, g2_1, g2_2, g2_3, g2_4, p2_4, g11_0, g11_1, p11_1, g11_2, p11_2, g11_3, p11_3, g13_0, g13_1, g13_2, g13_3, g17_0, g17_1, g17_2, p17_2, g20_0, g20_1, g21_0, g21_1, g21_2, p21_2, g24_0, g24_1, p24_1, g24_2, p24_2, g104_0, g104_1, g104_2, g104_3, g104_4, p104_4, g111_0, g111_1, p111_1, g111_2, p111_2, g111_3, p111_3, g112_0, g112_1, g112_2, g112_3, g112_4, p112_4, g116_0, g116_1, g116_2, g116_3, g116_4, g125_0, p125_0, g125_1, p125_1, g127_0, g127_1, p127_1, g127_2, p127_2, g127_3, p127_3, g127_4, g127_5, g127_6, p127_6, g127_7, g127_8, p127_8, g127_9, g127_10, p127_10, g127_11, p127_11, g127_12, g127_13, p127_13, g127_14, p127_14, g127_15, p127_15, g127_16, p127_16, g127_17, g127_18, g127_19, p127_19, g127_20, p127_20, g127_21, g127_22, g127_23, p127_23, g127_24, g127_25, g127_26, g127_27, g127_28, g127_29, p127_29, g127_30, p127_30, g127_31, g127_32, g127_33, p127_33, g127_34, p127_34, g127_35, p127_35, g127_36, p127_36, g127_37, g127_38, p127_38, g127_39, p127_39, g127_40, g127_41, g127_42, X_hasHouse1 hb rfl ht, show ¬ (1 : Int32) = 0 by decide, if_pos (show nI 0 = (0 : Int32) from rfl), X_owned hb rfl]
        · unfold F_X12_house
          simp only [if_pos q127, p11, ↓reduceIte, obs, Y_isHouse1 hb e ht, show ¬ (1 : Int32) = 0 by decide, c5, if_pos (show nI 0 = (0 : Int32) from rfl), g127_0, Y_owned hb e]
      · refine ⟨some (nI (KP μ tc (nI t))), nI (KP μ tc (nI t)), Zr ν, ?_, ?_, rfl, fun w hw => Option.some.inj hw, rfl, inv_Z hJ⟩
        · unfold F_X11_house
          simp only [↓reduceIte, obs, q0, q1, q2, q11, q13, q17, q20, q21, q24, q104, q111, q112, q116, q125, q127, g0_0, g0_1, g0_2, g0_3, g0_4, g0_5, g0_6, g0_7, p0_7, g0_8, g0_9, g0_10, g0_11, g0_12, g0_13, p0_13, g0_14, g0_15, g0_16, g0_17, g0_18, g1_0, g1_1, g1_2, g1_3, g1_4, g1_5, p1_5, g1_6, p1_6, g1_7, p1_7, g1_8, p1_8, g2_0, g2_1, g2_2, g2_3, g2_4, p2_4, g11_0, g11_1, p11_1, g11_2, p11_2, g11_3, p11_3, g13_0, g13_1, g13_2, g13_3, g17_0, g17_1, g17_2, p17_2, g20_0, g20_1, g21_0, g21_1, g21_2, p21_2, g24_0, g24_1, p24_1, g24_2, p24_2, g104_0, g104_1, g104_2, g104_3, g104_4, p104_4, g111_0, g111_1, p111_1, g111_2, p111_2, g111_3, p111_3, g112_0, g112_1, g112_2, g112_3, g112_4, p112_4, g116_0, g116_1, g116_2, g116_3, g116_4, g125_0, p125_0, g125_1, p125_1, g127_0, g127_1, p127_1, g127_2, p127_2, g127_3, p127_3, g127_4, g127_5, g127_6, p127_6, g127_7, g127_8, p127_8, g127_9, g127_10, p127_10, g127_11, p127_11, g127_12, g127_13, p127_13, g127_14, p127_14, g127_15, p127_15, g127_16, p127_16, g127_17, g127_18, g127_19, p127_19, g127_20, p127_20, g127_21, g127_22, g127_23, p127_23, g127_24, g127_25, g127_26, g127_27, g127_28, g127_29, p127_29, g127_30, p127_30, g127_31, g127_32, g127_33, p127_33, g127_34, p127_34, g127_35, p127_35, g127_36, p127_36, g127_37, g127_38, p127_38, g127_39, p127_39, g127_40, g127_41, g127_42, X_hasHouse1 hb rfl ht, show ¬ (1 : Int32) = 0 by decide, show ¬ nI 1 = 0 by decide, if_pos (show nI 1 = (1 : Int32) from rfl), X_kept hb rfl]
        · unfold F_X12_house
          simp only [if_pos q127, p11, ↓reduceIte, obs, Y_isHouse1 hb e ht, show ¬ (1 : Int32) = 0 by decide, c5, show ¬ nI 1 = 0 by decide, if_pos (show nI 1 = (1 : Int32) from rfl), g127_0, Y_kept hb e]
      · refine ⟨some (μ.1 6 t), μ.1 6 t, Zr ν, ?_, ?_, rfl, fun w hw => Option.some.inj hw, rfl, inv_Z hJ⟩
        · unfold F_X11_house
          simp only [↓reduceIte, obs, q0, q1, q2, q11, q13, q17, q20, q21, q24, q104, q111, q112, q116, q125, q127, g0_0, g0_1, g0_2, g0_3, g0_4, g0_5, g0_6, g0_7, p0_7, g0_8, g0_9, g0_10, g0_11, g0_12, g0_13, p0_13, g0_14, g0_15, g0_16, g0_17, g0_18, g1_0, g1_1, g1_2, g1_3, g1_4, g1_5, p1_5, g1_6, p1_6, g1_7, p1_7, g1_8, p1_8, g2_0, g2_1, g2_2, g2_3, g2_4, p2_4, g11_0, g11_1, p11_1, g11_2, p11_2, g11_3, p11_3, g13_0, g13_1, g13_2, g13_3, g17_0, g17_1, g17_2, p17_2, g20_0, g20_1, g21_0, g21_1, g21_2, p21_2, g24_0, g24_1, p24_1, g24_2, p24_2, g104_0, g104_1, g104_2, g104_3, g104_4, p104_4, g111_0, g111_1, p111_1, g111_2, p111_2, g111_3, p111_3, g112_0, g112_1, g112_2, g112_3, g112_4, p112_4, g116_0, g116_1, g116_2, g116_3, g116_4, g125_0, p125_0, g125_1, p125_1, g127_0, g127_1, p127_1, g127_2, p127_2, g127_3, p127_3, g127_4, g127_5, g127_6, p127_6, g127_7, g127_8, p127_8, g127_9, g127_10, p127_10, g127_11, p127_11, g127_12, g127_13, p127_13, g127_14, p127_14, g127_15, p127_15, g127_16, p127_16, g127_17, g127_18, g127_19, p127_19, g127_20, p127_20, g127_21, g127_22, g127_23, p127_23, g127_24, g127_25, g127_26, g127_27, g127_28, g127_29, p127_29, g127_30, p127_30, g127_31, g127_32, g127_33, p127_33, g127_34, p127_34, g127_35, p127_35, g127_36, p127_36, g127_37, g127_38, p127_38, g127_39, p127_39, g127_40, g127_41, g127_42, X_hasHouse1 hb rfl ht, show ¬ (1 : Int32) = 0 by decide, show ¬ nI 2 = 0 by decide, show ¬ nI 2 = 1 by decide, if_pos (show nI 2 = (2 : Int32) from rfl), r6 t12]
        · unfold F_X12_house
          simp only [if_pos q127, p11, ↓reduceIte, obs, Y_isHouse1 hb e ht, show ¬ (1 : Int32) = 0 by decide, c5, show ¬ nI 2 = 0 by decide, show ¬ nI 2 = 1 by decide, if_pos (show nI 2 = (2 : Int32) from rfl), g127_0, i36, r128 (show 36 + t < 42 by omega), show (Zr ν).1 128 (36 + t) = μ.1 128 (36 + t) by rw [f128 e]]
          rw [hb.co t12]
      · refine ⟨some (nI (BB μ tc kc lm (KP μ tc (nI t)))), nI (BB μ tc kc lm (KP μ tc (nI t))), Zr ν, ?_, ?_, rfl, fun w hw => Option.some.inj hw, rfl, inv_Z hJ⟩
        · unfold F_X11_house
          simp only [↓reduceIte, obs, q0, q1, q2, q11, q13, q17, q20, q21, q24, q104, q111, q112, q116, q125, q127, g0_0, g0_1, g0_2, g0_3, g0_4, g0_5, g0_6, g0_7, p0_7, g0_8, g0_9, g0_10, g0_11, g0_12, g0_13, p0_13, g0_14, g0_15, g0_16, g0_17, g0_18, g1_0, g1_1, g1_2, g1_3, g1_4, g1_5, p1_5, g1_6, p1_6, g1_7, p1_7, g1_8, p1_8, g2_0, g2_1, g2_2, g2_3, g2_4, p2_4, g11_0, g11_1, p11_1, g11_2, p11_2, g11_3, p11_3, g13_0, g13_1, g13_2, g13_3, g17_0, g17_1, g17_2, p17_2, g20_0, g20_1, g21_0, g21_1, g21_2, p21_2, g24_0, g24_1, p24_1, g24_2, p24_2, g104_0, g104_1, g104_2, g104_3, g104_4, p104_4, g111_0, g111_1, p111_1, g111_2, p111_2, g111_3, p111_3, g112_0, g112_1, g112_2, g112_3, g112_4, p112_4, g116_0, g116_1, g116_2, g116_3, g116_4, g125_0, p125_0, g125_1, p125_1, g127_0, g127_1, p127_1, g127_2, p127_2, g127_3, p127_3, g127_4, g127_5, g127_6, p127_6, g127_7, g127_8, p127_8, g127_9, g127_10, p127_10, g127_11, p127_11, g127_12, g127_13, p127_13, g127_14, p127_14, g127_15, p127_15, g127_16, p127_16, g127_17, g127_18, g127_19, p127_19, g127_20, p127_20, g127_21, g127_22, g127_23, p127_23, g127_24, g127_25, g127_26, g127_27, g127_28, g127_29, p127_29, g127_30, p127_30, g127_31, g127_32, g127_33, p127_33, g127_34, p127_34, g127_35, p127_35, g127_36, p127_36, g127_37, g127_38, p127_38, g127_39, p127_39, g127_40, g127_41, g127_42, X_hasHouse1 hb rfl ht, show ¬ (1 : Int32) = 0 by decide, show ¬ nI 3 = 0 by decide, show ¬ nI 3 = 1 by decide, show ¬ nI 3 = 2 by decide, if_pos (show nI 3 = (3 : Int32) from rfl), X_kept hb rfl, X_broken hb rfl (KP_lt b2)]
        · unfold F_X12_house
          simp only [if_pos q127, p11, ↓reduceIte, obs, Y_isHouse1 hb e ht, show ¬ (1 : Int32) = 0 by decide, c5, show ¬ nI 3 = 0 by decide, show ¬ nI 3 = 1 by decide, show ¬ nI 3 = 2 by decide, g127_0, Y_breaks hb e]
    · have n0 : ¬ y = 0 := ne_lo (A := 0) (k := 0) rfl (by decide) c1 (by decide) (by decide)
      have n1 : ¬ y = 1 := ne_lo (A := 0) (k := 1) rfl (by decide) c1 (by decide) (by decide)
      have n2 : ¬ y = 2 := ne_lo (A := 0) (k := 2) rfl (by decide) c1 (by decide) (by decide)
      have n3 : ¬ y = 3 := ne_lo (A := 0) (k := 3) rfl (by decide) c1 (by decide) (by decide)
      refine ⟨none, 0, Lo ν, ?_, ?_, rfl, (fun w hw => nomatch hw), rfl, inv_Lo hJ⟩
      · unfold F_X11_house
        simp only [↓reduceIte, obs, q0, q1, q2, q11, q13, q17, q20, q21, q24, q104, q111, q112, q116, q125, q127, g0_0, g0_1, g0_2, g0_3, g0_4, g0_5, g0_6, g0_7, p0_7, g0_8, g0_9, g0_10, g0_11, g0_12, g0_13, p0_13, g0_14, g0_15, g0_16, g0_17, g0_18, g1_0, g1_1, g1_2, g1_3, g1_4, g1_5, p1_5, g1_6, p1_6, g1_7, p1_7, g1_8, p1_8, g2_0, g2_1, g2_2, g2_3, g2_4, p2_4, g11_0, g11_1, p11_1, g11_2, p11_2, g11_3, p11_3, g13_0, g13_1, g13_2, g13_3, g17_0, g17_1, g17_2, p17_2, g20_0, g20_1, g21_0, g21_1, g21_2, p21_2, g24_0, g24_1, p24_1, g24_2, p24_2, g104_0, g104_1, g104_2, g104_3, g104_4, p104_4, g111_0, g111_1, p111_1, g111_2, p111_2, g111_3, p111_3, g112_0, g112_1, g112_2, g112_3, g112_4, p112_4, g116_0, g116_1, g116_2, g116_3, g116_4, g125_0, p125_0, g125_1, p125_1, g127_0, g127_1, p127_1, g127_2, p127_2, g127_3, p127_3, g127_4, g127_5, g127_6, p127_6, g127_7, g127_8, p127_8, g127_9, g127_10, p127_10, g127_11, p127_11, g127_12, g127_13, p127_13, g127_14, p127_14, g127_15, p127_15, g127_16, p127_16, g127_17, g127_18, g127_19, p127_19, g127_20, p127_20, g127_21, g127_22, g127_23, p127_23, g127_24, g127_25, g127_26, g127_27, g127_28, g127_29, p127_29, g127_30, p127_30, g127_31, g127_32, g127_33, p127_33, g127_34, p127_34, g127_35, p127_35, g127_36, p127_36, g127_37, g127_38, p127_38, g127_39, p127_39, g127_40, g127_41, g127_42, X_hasHouse1 hb rfl ht, show ¬ (1 : Int32) = 0 by decide, n0, n1, n2, n3]
      · unfold F_X12_house b_X12_house_22
        simp only [if_pos q127, p11, ↓reduceIte, obs, Y_isHouse1 hb e ht, show ¬ (1 : Int32) = 0 by decide, c3, y_lost]
    · have n0 : ¬ y = 0 := ne_hi (B := 3) (k := 0) rfl (by decide) c1 (by decide)
      have n1 : ¬ y = 1 := ne_hi (B := 3) (k := 1) rfl (by decide) c1 (by decide)
      have n2 : ¬ y = 2 := ne_hi (B := 3) (k := 2) rfl (by decide) c1 (by decide)
      have n3 : ¬ y = 3 := ne_hi (B := 3) (k := 3) rfl (by decide) c1 (by decide)
      refine ⟨none, 0, Lo ν, ?_, ?_, rfl, (fun w hw => nomatch hw), rfl, inv_Lo hJ⟩
      · unfold F_X11_house
        simp only [↓reduceIte, obs, q0, q1, q2, q11, q13, q17, q20, q21, q24, q104, q111, q112, q116, q125, q127, g0_0, g0_1, g0_2, g0_3, g0_4, g0_5, g0_6, g0_7, p0_7, g0_8, g0_9, g0_10, g0_11, g0_12, g0_13, p0_13, g0_14, g0_15, g0_16, g0_17, g0_18, g1_0, g1_1, g1_2, g1_3, g1_4, g1_5, p1_5, g1_6, p1_6, g1_7, p1_7, g1_8, p1_8, g2_0, g2_1, g2_2, g2_3, g2_4, p2_4, g11_0, g11_1, p11_1, g11_2, p11_2, g11_3, p11_3, g13_0, g13_1, g13_2, g13_3, g17_0, g17_1, g17_2, p17_2, g20_0, g20_1, g21_0, g21_1, g21_2, p21_2, g24_0, g24_1, p24_1, g24_2, p24_2, g104_0, g104_1, g104_2, g104_3, g104_4, p104_4, g111_0, g111_1, p111_1, g111_2, p111_2, g111_3, p111_3, g112_0, g112_1, g112_2, g112_3, g112_4, p112_4, g116_0, g116_1, g116_2, g116_3, g116_4, g125_0, p125_0, g125_1, p125_1, g127_0, g127_1, p127_1, g127_2, p127_2, g127_3, p127_3, g127_4, g127_5, g127_6, p127_6, g127_7, g127_8, p127_8, g127_9, g127_10, p127_10, g127_11, p127_11, g127_12, g127_13, p127_13, g127_14, p127_14, g127_15, p127_15, g127_16, p127_16, g127_17, g127_18, g127_19, p127_19, g127_20, p127_20, g127_21, g127_22, g127_23, p127_23, g127_24, g127_25, g127_26, g127_27, g127_28, g127_29, p127_29, g127_30, p127_30, g127_31, g127_32, g127_33, p127_33, g127_34, p127_34, g127_35, p127_35, g127_36, p127_36, g127_37, g127_38, p127_38, g127_39, p127_39, g127_40, g127_41, g127_42, X_hasHouse1 hb rfl ht, show ¬ (1 : Int32) = 0 by decide, n0, n1, n2, n3]
      · unfold F_X12_house b_X12_house_22
        simp only [if_pos q127, p11, ↓reduceIte, obs, Y_isHouse1 hb e ht, show ¬ (1 : Int32) = 0 by decide, c5, y_lost]
  · refine ⟨none, 0, Lo ν, ?_, ?_, rfl, (fun w hw => nomatch hw), rfl, inv_Lo hJ⟩
    · unfold F_X11_house
      simp only [↓reduceIte, obs, q0, q1, q2, q11, q13, q17, q20, q21, q24, q104, q111, q112, q116, q125, q127, g0_0, g0_1, g0_2, g0_3, g0_4, g0_5, g0_6, g0_7, p0_7, g0_8, g0_9, g0_10, g0_11, g0_12, g0_13, p0_13, g0_14, g0_15, g0_16, g0_17, g0_18, g1_0, g1_1, g1_2, g1_3, g1_4, g1_5, p1_5, g1_6, p1_6, g1_7, p1_7, g1_8, p1_8, g2_0, g2_1, g2_2, g2_3, g2_4, p2_4, g11_0, g11_1, p11_1, g11_2, p11_2, g11_3, p11_3, g13_0, g13_1, g13_2, g13_3, g17_0, g17_1, g17_2, p17_2, g20_0, g20_1, g21_0, g21_1, g21_2, p21_2, g24_0, g24_1, p24_1, g24_2, p24_2, g104_0, g104_1, g104_2, g104_3, g104_4, p104_4, g111_0, g111_1, p111_1, g111_2, p111_2, g111_3, p111_3, g112_0, g112_1, g112_2, g112_3, g112_4, p112_4, g116_0, g116_1, g116_2, g116_3, g116_4, g125_0, p125_0, g125_1, p125_1, g127_0, g127_1, p127_1, g127_2, p127_2, g127_3, p127_3, g127_4, g127_5, g127_6, p127_6, g127_7, g127_8, p127_8, g127_9, g127_10, p127_10, g127_11, p127_11, g127_12, g127_13, p127_13, g127_14, p127_14, g127_15, p127_15, g127_16, p127_16, g127_17, g127_18, g127_19, p127_19, g127_20, p127_20, g127_21, g127_22, g127_23, p127_23, g127_24, g127_25, g127_26, g127_27, g127_28, g127_29, p127_29, g127_30, p127_30, g127_31, g127_32, g127_33, p127_33, g127_34, p127_34, g127_35, p127_35, g127_36, p127_36, g127_37, g127_38, p127_38, g127_39, p127_39, g127_40, g127_41, g127_42, X_hasHouse0 hb rfl hx]
    · unfold F_X12_house b_X12_house_22
      simp only [if_pos q127, p11, ↓reduceIte, obs, Y_isHouse0 hb e hx, y_lost]
theorem pr_row (x : Int32) : PT Int64 (fun h => F_X11_row 0 x h) (fun h => F_X12_row 127 x h) := by
  intro κ B μ ν hR hB hI hn1 hn2
  dsimp only
  have hJ := inv_nu hI hn1 hn2
  obtain ⟨rs, r1, r2, r3, r4⟩ := hI.2
  have r3' : (Zr ν).1 127 10 = nI rs := by
    show ν.1 127 10 = nI rs
    rw [hn1]
    exact r3
  rcases in_ix (n := rs) (by omega) x (hp κ (Zr ν)) with ⟨j, hj, rfl, c⟩ | ⟨hx, c⟩
  · refine ⟨some (μ.2 91 j), μ.2 91 j, Zr ν, ?_, ?_, rfl, fun w hw => Option.some.inj hw, rfl, inv_Z hJ⟩
    · unfold F_X11_row
      simp only [↓reduceIte, obs, q0, q1, q2, q11, q13, q17, q20, q21, q24, q104, q111, q112, q116, q125, q127, g0_0, g0_1, g0_2, g0_3, g0_4, g0_5, g0_6, g0_7, p0_7, g0_8, g0_9, g0_10, g0_11, g0_12, g0_13, p0_13, g0_14, g0_15, g0_16, g0_17, g0_18, g1_0, g1_1, g1_2, g1_3, g1_4, g1_5, p1_5, g1_6, p1_6, g1_7, p1_7, g1_8, p1_8, g2_0, g2_1, g2_2, g2_3, g2_4, p2_4, g11_0, g11_1, p11_1, g11_2, p11_2, g11_3, p11_3, g13_0, g13_1, g13_2, g13_3, g17_0, g17_1, g17_2, p17_2, g20_0, g20_1, g21_0, g21_1, g21_2, p21_2, g24_0, g24_1, p24_1, g24_2, p24_2, g104_0, g104_1, g104_2, g104_3, g104_4, p104_4, g111_0, g111_1, p111_1, g111_2, p111_2, g111_3, p111_3, g112_0, g112_1, g112_2, g112_3, g112_4, p112_4, g116_0, g116_1, g116_2, g116_3, g116_4, g125_0, p125_0, g125_1, p125_1, g127_0, g127_1, p127_1, g127_2, p127_2, g127_3, p127_3, g127_4, g127_5, g127_6, p127_6, g127_7, g127_8, p127_8, g127_9, g127_10, p127_10, g127_11, p127_11, g127_12, g127_13, p127_13, g127_14, p127_14, g127_15, p127_15, g127_16, p127_16, g127_17, g127_18, g127_19, p127_19, g127_20, p127_20, g127_21, g127_22, g127_23, p127_23, g127_24, g127_25, g127_26, g127_27, g127_28, g127_29, p127_29, g127_30, p127_30, g127_31, g127_32, g127_33, p127_33, g127_34, p127_34, g127_35, p127_35, g127_36, p127_36, g127_37, g127_38, p127_38, g127_39, p127_39, g127_40, g127_41, g127_42, if_neg (nI_pos (show j < 2 ^ 31 by omega)), r2, nI_lt hj (show rs < 2 ^ 31 by omega), r91 (show j < 6 by omega)]
    · unfold F_X12_row
      simp only [if_pos q127, p11, ↓reduceIte, obs, g127_10, r3', c, show ¬ (1 : Int32) = 0 by decide, g127_9, r132 (show j < 20 by omega), show (Zr ν).2 132 j = μ.2 91 j by
        show ν.2 132 j = μ.2 91 j
        rw [hn2 132 (by decide), r4 j hj]]
  · have hcl : (x < 0 ∨ (¬ x < 0 ∧ ¬ x < nI rs)) := by
      rcases pk_ix x (n := rs) (by omega) with h | h | ⟨j, hj, e⟩
      · exact Or.inl h
      · refine Or.inr ⟨fun z => ?_, fun z => ?_⟩
        · rw [fa_le, nI_toInt (by omega)] at h
          rw [fa_lt] at z
          have : (0 : Int32).toInt = 0 := rfl
          omega
        · rw [fa_le] at h
          rw [fa_lt] at z
          omega
      · exact absurd e (hx j hj)
    refine ⟨none, 0, Lo ν, ?_, ?_, rfl, (fun w hw => nomatch hw), rfl, inv_Lo hJ⟩
    · unfold F_X11_row
      rcases hcl with h | ⟨h1, h2⟩
      · simp only [↓reduceIte, obs, q0, q1, q2, q11, q13, q17, q20, q21, q24, q104, q111, q112, q116, q125, q127, g0_0, g0_1, g0_2, g0_3, g0_4, g0_5, g0_6, g0_7, p0_7, g0_8, g0_9, g0_10, g0_11, g0_12, g0_13, p0_13, g0_14, g0_15, g0_16, g0_17, g0_18, g1_0, g1_1, g1_2, g1_3, g1_4, g1_5, p1_5, g1_6, p1_6, g1_7, p1_7, g1_8, p1_8, g2_0, g2_1, g2_2, g2_3, g2_4, p2_4, g11_0, g11_1, p11_1, g11_2, p11_2, g11_3, p11_3, g13_0, g13_1, g13_2, g13_3, g17_0, g17_1, g17_2, p17_2, g20_0, g20_1, g21_0, g21_1, g21_2, p21_2, g24_0, g24_1, p24_1, g24_2, p24_2, g104_0, g104_1, g104_2, g104_3, g104_4, p104_4, g111_0, g111_1, p111_1, g111_2, p111_2, g111_3, p111_3, g112_0, g112_1, g112_2, g112_3, g112_4, p112_4, g116_0, g116_1, g116_2, g116_3, g116_4, g125_0, p125_0, g125_1, p125_1, g127_0, g127_1, p127_1, g127_2, p127_2, g127_3, p127_3, g127_4, g127_5, g127_6, p127_6, g127_7, g127_8, p127_8, g127_9, g127_10, p127_10, g127_11, p127_11, g127_12, g127_13, p127_13, g127_14, p127_14, g127_15, p127_15, g127_16, p127_16, g127_17, g127_18, g127_19, p127_19, g127_20, p127_20, g127_21, g127_22, g127_23, p127_23, g127_24, g127_25, g127_26, g127_27, g127_28, g127_29, p127_29, g127_30, p127_30, g127_31, g127_32, g127_33, p127_33, g127_34, p127_34, g127_35, p127_35, g127_36, p127_36, g127_37, g127_38, p127_38, g127_39, p127_39, g127_40, g127_41, g127_42, h]
      · simp only [↓reduceIte, obs, q0, q1, q2, q11, q13, q17, q20, q21, q24, q104, q111, q112, q116, q125, q127, g0_0, g0_1, g0_2, g0_3, g0_4, g0_5, g0_6, g0_7, p0_7, g0_8, g0_9, g0_10, g0_11, g0_12, g0_13, p0_13, g0_14, g0_15, g0_16, g0_17, g0_18, g1_0, g1_1, g1_2, g1_3, g1_4, g1_5, p1_5, g1_6, p1_6, g1_7, p1_7, g1_8, p1_8, g2_0, g2_1, g2_2, g2_3, g2_4, p2_4, g11_0, g11_1, p11_1, g11_2, p11_2, g11_3, p11_3, g13_0, g13_1, g13_2, g13_3, g17_0, g17_1, g17_2, p17_2, g20_0, g20_1, g21_0, g21_1, g21_2, p21_2, g24_0, g24_1, p24_1, g24_2, p24_2, g104_0, g104_1, g104_2, g104_3, g104_4, p104_4, g111_0, g111_1, p111_1, g111_2, p111_2, g111_3, p111_3, g112_0, g112_1, g112_2, g112_3, g112_4, p112_4, g116_0, g116_1, g116_2, g116_3, g116_4, g125_0, p125_0, g125_1, p125_1, g127_0, g127_1, p127_1, g127_2, p127_2, g127_3, p127_3, g127_4, g127_5, g127_6, p127_6, g127_7, g127_8, p127_8, g127_9, g127_10, p127_10, g127_11, p127_11, g127_12, g127_13, p127_13, g127_14, p127_14, g127_15, p127_15, g127_16, p127_16, g127_17, g127_18, g127_19, p127_19, g127_20, p127_20, g127_21, g127_22, g127_23, p127_23, g127_24, g127_25, g127_26, g127_27, g127_28, g127_29, p127_29, g127_30, p127_30, g127_31, g127_32, g127_33, p127_33, g127_34, p127_34, g127_35, p127_35, g127_36, p127_36, g127_37, g127_38, p127_38, g127_39, p127_39, g127_40, g127_41, g127_42, h1, r2, h2]
    · unfold F_X12_row
      simp only [if_pos q127, p11, ↓reduceIte, obs, g127_10, r3', c, y_lost]
      rfl
