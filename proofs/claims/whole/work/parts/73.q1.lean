/-! PURE: pairs: questions: would, alike, name, had, vote, broken. -/
def it {σ : Type} (f : Nat → σ → σ) (s : σ) : Nat → σ
  | 0 => s
  | k + 1 => f k (it f s k)
theorem it_s {σ : Type} (f : Nat → σ → σ) (s : σ) (k : Nat) : it f s (k + 1) = f k (it f s k) := rfl
theorem y_tell0 {κ : Kp} {ν : Mem} {v : Int64} : F_X12_tell 127 v (hp κ (M0 ν)) = some (hp κ (MB (M0 ν) 0 v)) := y_tell (i := 0) (by decide) rfl
theorem y_tell1 {κ : Kp} {ν : Mem} {i : Nat} (hi : i + 1 < 20) {u v : Int64} : F_X12_tell 127 v (hp κ (MB ν i u)) = some (hp κ (MB (MB ν i u) (i + 1) v)) := y_tell (i := i + 1) hi MB_0
theorem i_nle2 (a b : Int32) : ¬ a ≤ b ↔ b < a := by rw [fa_le, fa_lt]; omega
theorem Y_areBoth1 {κ : Kp} {μ ν : Mem} {hc tc kc lm B t j : Nat} (hb : Bs μ hc tc kc lm B) (e : cl ν = cl μ) (ht : t < tc) (hj : j < hc) : F_X12_areBoth 127 (nI t) (nI j) (hp κ ν) = some (1, hp κ ν) := by
  unfold F_X12_areBoth
  simp only [if_pos q127, ↓reduceIte, obs, Y_isThing1 hb e ht, Y_isHouse1 hb e hj, show ¬ (1 : Int32) = 0 by decide]
theorem Y_areBoth0 {κ : Kp} {μ ν : Mem} {hc tc kc lm B : Nat} {x y : Int32} (hb : Bs μ hc tc kc lm B) (e : cl ν = cl μ) (h : (∀ j, j < tc → x ≠ nI j) ∨ (∀ j, j < hc → y ≠ nI j)) : F_X12_areBoth 127 x y (hp κ ν) = some (0, hp κ ν) := by
  unfold F_X12_areBoth
  rcases ix_tc hb x with ⟨t, ht, rfl⟩ | hx
  · rcases h with h | h
    · exact absurd rfl (h t ht)
    · simp only [if_pos q127, ↓reduceIte, obs, Y_isThing1 hb e ht, Y_isHouse0 hb e h, show ¬ (1 : Int32) = 0 by decide]
  · simp only [if_pos q127, ↓reduceIte, obs, Y_isThing0 hb e hx]
theorem KP_bit {μ : Mem} {tc t : Nat} (ht : t < tc) (x : Int32) : (KP μ tc x).testBit t = decide (μ.1 128 (24 + t) = x) := by
  unfold KP
  rw [kp_bit]
  simp [ht]
theorem or_pow_self {s t : Nat} (h : s.testBit t = true) : s ||| 2 ^ t = s := by
  apply Nat.eq_of_testBit_eq
  intro i
  rw [fb_bit_set]
  by_cases c : i = t
  · subst c; rw [h]; rfl
  · simp [c]
theorem or_pow_ne {s t : Nat} (h : s.testBit t = false) : ¬ s ||| 2 ^ t = s := fun z => by
  have h1 : (s ||| 2 ^ t).testBit t = true := by rw [fb_bit_set]; simp
  rw [z, h] at h1
  cases h1
theorem pow_lt12 {t tc : Nat} (ht : t < tc) (h : tc ≤ 12) : 2 ^ t < 2 ^ 12 := Nat.pow_lt_pow_right (by decide) (by omega)
theorem pr_would : P2 F_X11_would F_X12_would := by
  intro x y κ B μ hR hB hI
  dsimp only
  obtain ⟨hc, tc, kc, lm, hb⟩ := hI.bs
  have b2 := hb.b2
  have e : cl (Zr μ) = cl μ := cl_Z
  rcases ix_hc hb x with ⟨j, hj, rfl⟩ | hx
  · rcases ix_tc hb y with ⟨t, ht, rfl⟩ | hy
    · have hlt : KP μ tc (nI j) ||| 2 ^ t < 4096 := or_l (n := 12) (KP_lt b2) (pow_lt12 ht b2)
      have hk := KP_bit (μ := μ) ht (nI j)
      by_cases c : μ.1 128 (24 + t) = nI j
      · have hk : (KP μ tc (nI j)).testBit t = true := by rw [hk]; exact decide_eq_true c
        refine ⟨0, μ, Zr μ, ?_, ?_, inv_Z hI⟩
        · unfold F_X11_would
          simp only [↓reduceIte, obs, q0, q1, q2, q11, q13, q17, q20, q21, q24, q104, q111, q112, q116, q125, q127, g0_0, g0_1, g0_2, g0_3, g0_4, g0_5, g0_6, g0_7, p0_7, g0_8, g0_9, g0_10, g0_11, g0_12, g0_13, p0_13, g0_14, g0_15, g0_16, g0_17, g0_18, g1_0, g1_1, g1_2, g1_3, g1_4, g1_5, p1_5, g1_6, p1_6, g1_7, p1_7, g1_8, p1_8, g2_0, g2_1, g2_2, g2_3, g2_4, p2_4, g11_0, g11_1, p11_1, g11_2, p11_2, g11_3, p11_3, g13_0, g13_1, g13_2, g13_3, g17_0, g17_1, g17_2, p17_2, g20_0, g20_1, g21_0, g21_1, g21_2, p21_2, g24_0, g24_1, p24_1, g24_2, p24_2, g104_0, g104_1, g104_2, g104_3, g104_4, p104_4, g111_0, g111_1, p111_1, g111_2, p111_2, g111_3, p111_3, g112_0, g112_1, g112_2, g112_3, g112_4, p112_4, g116_0, g116_1, g116_2, g116_3, g116_4, g125_0, p125_0, g125_1, p125_1, g127_0, g127_1, p127_1, g127_2, p127_2, g127_3, p127_3, g127_4, g127_5, g127_6, p127_6, g127_7, g127_8, p127_8, g127_9, g127_10, p127_10, g127_11, p127_11, g127_12, g127_13, p127_13, g127_14, p127_14, g127_15, p127_15, g127_16, p127_16, g127_17, g127_18, g127_19, p127_19, g127_20, p127_20, g127_21, g127_22, g127_23, p127_23, g127_24, g127_25, g127_26, g127_27, g127_28, g127_29, p127_29, g127_30, p127_30, g127_31, g127_32, g127_33, p127_33, g127_34, p127_34, g127_35, p127_35, g127_36, p127_36, g127_37, g127_38, p127_38, g127_39, p127_39, g127_40, g127_41, g127_42, X_hasHouse1 hb rfl hj, X_hasThing1 hb rfl ht, show ¬ (1 : Int32) = 0 by decide, X_kept hb rfl, i_sh1 t (show t < 31 by omega), i_or, or_pow_self hk]
        · unfold F_X12_would
          simp only [if_pos q127, p11, ↓reduceIte, obs, Y_areBoth1 hb e ht hj, show ¬ (1 : Int32) = 0 by decide, g127_0, i24, r128 (show 24 + t < 42 by omega), show (Zr μ).1 128 (24 + t) = nI j from c]
      · have hk : (KP μ tc (nI j)).testBit t = false := by rw [hk]; exact decide_eq_false c
        have hne : ¬ nI (KP μ tc (nI j) ||| 2 ^ t) = nI (KP μ tc (nI j)) := fun z => or_pow_ne hk ((i_eq (small hlt) (small (KP_lt b2))).mp z)
        refine ⟨nI (BB μ tc kc lm (KP μ tc (nI j) ||| 2 ^ t)), μ, Zr μ, ?_, ?_, inv_Z hI⟩
        · unfold F_X11_would
          simp only [↓reduceIte, obs, q0, q1, q2, q11, q13, q17, q20, q21, q24, q104, q111, q112, q116, q125, q127, g0_0, g0_1, g0_2, g0_3, g0_4, g0_5, g0_6, g0_7, p0_7, g0_8, g0_9, g0_10, g0_11, g0_12, g0_13, p0_13, g0_14, g0_15, g0_16, g0_17, g0_18, g1_0, g1_1, g1_2, g1_3, g1_4, g1_5, p1_5, g1_6, p1_6, g1_7, p1_7, g1_8, p1_8, g2_0, g2_1, g2_2, g2_3, g2_4, p2_4, g11_0, g11_1, p11_1, g11_2, p11_2, g11_3, p11_3, g13_0, g13_1, g13_2, g13_3, g17_0, g17_1, g17_2, p17_2, g20_0, g20_1, g21_0, g21_1, g21_2, p21_2, g24_0, g24_1, p24_1, g24_2, p24_2, g104_0, g104_1, g104_2, g104_3, g104_4, p104_4, g111_0, g111_1, p111_1, g111_2, p111_2, g111_3, p111_3, g112_0, g112_1, g112_2, g112_3, g112_4, p112_4, g116_0, g116_1, g116_2, g116_3, g116_4, g125_0, p125_0, g125_1, p125_1, g127_0, g127_1, p127_1, g127_2, p127_2, g127_3, p127_3, g127_4, g127_5, g127_6, p127_6, g127_7, g127_8, p127_8, g127_9, g127_10, p127_10, g127_11, p127_11, g127_12, g127_13, p127_13, g127_14, p127_14, g127_15, p127_15, g127_16, p127_16, g127_17, g127_18, g127_19, p127_19, g127_20, p127_20, g127_21, g127_22, g127_23, p127_23, g127_24, g127_25, g127_26, g127_27, g127_28, g127_29, p127_29, g127_30, p127_30, g127_31, g127_32, g127_33, p127_33, g127_34, p127_34, g127_35, p127_35, g127_36, p127_36, g127_37, g127_38, p127_38, g127_39, p127_39, g127_40, g127_41, g127_42, X_hasHouse1 hb rfl hj, X_hasThing1 hb rfl ht, show ¬ (1 : Int32) = 0 by decide, X_kept hb rfl, i_sh1 t (show t < 31 by omega), i_or, hne, X_broken hb rfl hlt]
        · unfold F_X12_would
          simp only [if_pos q127, p11, ↓reduceIte, obs, Y_areBoth1 hb e ht hj, show ¬ (1 : Int32) = 0 by decide, g127_0, i24, r128 (show 24 + t < 42 by omega), show ¬ (Zr μ).1 128 (24 + t) = nI j from c, Y_kept hb e, i_sh1 t (show t < 31 by omega), i_or, Y_brokenBy hb e hlt]
    · refine ⟨-1, μ, Zr μ, ?_, ?_, inv_Z hI⟩
      · unfold F_X11_would
        simp only [↓reduceIte, obs, q0, q1, q2, q11, q13, q17, q20, q21, q24, q104, q111, q112, q116, q125, q127, g0_0, g0_1, g0_2, g0_3, g0_4, g0_5, g0_6, g0_7, p0_7, g0_8, g0_9, g0_10, g0_11, g0_12, g0_13, p0_13, g0_14, g0_15, g0_16, g0_17, g0_18, g1_0, g1_1, g1_2, g1_3, g1_4, g1_5, p1_5, g1_6, p1_6, g1_7, p1_7, g1_8, p1_8, g2_0, g2_1, g2_2, g2_3, g2_4, p2_4, g11_0, g11_1, p11_1, g11_2, p11_2, g11_3, p11_3, g13_0, g13_1, g13_2, g13_3, g17_0, g17_1, g17_2, p17_2, g20_0, g20_1, g21_0, g21_1, g21_2, p21_2, g24_0, g24_1, p24_1, g24_2, p24_2, g104_0, g104_1, g104_2, g104_3, g104_4, p104_4, g111_0, g111_1, p111_1, g111_2, p111_2, g111_3, p111_3, g112_0, g112_1, g112_2, g112_3, g112_4, p112_4, g116_0, g116_1, g116_2, g116_3, g116_4, g125_0, p125_0, g125_1, p125_1, g127_0, g127_1, p127_1, g127_2, p127_2, g127_3, p127_3, g127_4, g127_5, g127_6, p127_6, g127_7, g127_8, p127_8, g127_9, g127_10, p127_10, g127_11, p127_11, g127_12, g127_13, p127_13, g127_14, p127_14, g127_15, p127_15, g127_16, p127_16, g127_17, g127_18, g127_19, p127_19, g127_20, p127_20, g127_21, g127_22, g127_23, p127_23, g127_24, g127_25, g127_26, g127_27, g127_28, g127_29, p127_29, g127_30, p127_30, g127_31, g127_32, g127_33, p127_33, g127_34, p127_34, g127_35, p127_35, g127_36, p127_36, g127_37, g127_38, p127_38, g127_39, p127_39, g127_40, g127_41, g127_42, X_hasHouse1 hb rfl hj, X_hasThing0 hb rfl hy, show ¬ (1 : Int32) = 0 by decide]
      · unfold F_X12_would
        simp only [if_pos q127, p11, ↓reduceIte, obs, Y_areBoth0 hb e (Or.inl hy)]
  · refine ⟨-1, μ, Zr μ, ?_, ?_, inv_Z hI⟩
    · unfold F_X11_would
      simp only [↓reduceIte, obs, q0, q1, q2, q11, q13, q17, q20, q21, q24, q104, q111, q112, q116, q125, q127, g0_0, g0_1, g0_2, g0_3, g0_4, g0_5, g0_6, g0_7, p0_7, g0_8, g0_9, g0_10, g0_11, g0_12, g0_13, p0_13, g0_14, g0_15, g0_16, g0_17, g0_18, g1_0, g1_1, g1_2, g1_3, g1_4, g1_5, p1_5, g1_6, p1_6, g1_7, p1_7, g1_8, p1_8, g2_0, g2_1, g2_2, g2_3, g2_4, p2_4, g11_0, g11_1, p11_1, g11_2, p11_2, g11_3, p11_3, g13_0, g13_1, g13_2, g13_3, g17_0, g17_1, g17_2, p17_2, g20_0, g20_1, g21_0, g21_1, g21_2, p21_2, g24_0, g24_1, p24_1, g24_2, p24_2, g104_0, g104_1, g104_2, g104_3, g104_4, p104_4, g111_0, g111_1, p111_1, g111_2, p111_2, g111_3, p111_3, g112_0, g112_1, g112_2, g112_3, g112_4, p112_4, g116_0, g116_1, g116_2, g116_3, g116_4, g125_0, p125_0, g125_1, p125_1, g127_0, g127_1, p127_1, g127_2, p127_2, g127_3, p127_3, g127_4, g127_5, g127_6, p127_6, g127_7, g127_8, p127_8, g127_9, g127_10, p127_10, g127_11, p127_11, g127_12, g127_13, p127_13, g127_14, p127_14, g127_15, p127_15, g127_16, p127_16, g127_17, g127_18, g127_19, p127_19, g127_20, p127_20, g127_21, g127_22, g127_23, p127_23, g127_24, g127_25, g127_26, g127_27, g127_28, g127_29, p127_29, g127_30, p127_30, g127_31, g127_32, g127_33, p127_33, g127_34, p127_34, g127_35, p127_35, g127_36, p127_36, g127_37, g127_38, p127_38, g127_39, p127_39, g127_40, g127_41, g127_42, X_hasHouse0 hb rfl hx]
    · unfold F_X12_would
      simp only [if_pos q127, p11, ↓reduceIte, obs, Y_areBoth0 hb e (Or.inr hx)]
theorem pr_alike : P2 F_X11_alike F_X12_alike := by
  intro x y κ B μ hR hB hI
  dsimp only
  obtain ⟨hc, tc, kc, lm, hb⟩ := hI.bs
  have b2 := hb.b2
  rcases ix_tc hb x with ⟨s, hs, rfl⟩ | hx
  · rcases ix_tc hb y with ⟨t, ht, rfl⟩ | hy
    · have es : μ.1 5 s = μ.1 128 s := hb.tr (by omega)
      have et : μ.1 5 t = μ.1 128 t := hb.tr (by omega)
      have e : cl (Zr (TB (TB (T0 μ) 0 (μ.1 128 s &&& μ.1 128 t).toInt64) 1 (nI (KO μ kc (μ.1 128 s)) &&& nI (KO μ kc (μ.1 128 t))).toInt64)) = cl μ := by rw [cl_Z, cl_TB, cl_TB, cl_T0]
      have e2 : cl (M0 (Zr (TB (TB (T0 μ) 0 (μ.1 128 s &&& μ.1 128 t).toInt64) 1 (nI (KO μ kc (μ.1 128 s)) &&& nI (KO μ kc (μ.1 128 t))).toInt64))) = cl μ := by rw [cl_M0, e]
      refine ⟨6 - jbc (μ.1 128 s ^^^ μ.1 128 t), TB (TB (T0 μ) 0 (μ.1 128 s &&& μ.1 128 t).toInt64) 1 (nI (KO μ kc (μ.1 128 s)) &&& nI (KO μ kc (μ.1 128 t))).toInt64, R2 μ (μ.1 128 s &&& μ.1 128 t).toInt64 (nI (KO μ kc (μ.1 128 s)) &&& nI (KO μ kc (μ.1 128 t))).toInt64, ?_, ?_, inv_R2 hI⟩
      · unfold F_X11_alike
        simp only [↓reduceIte, obs, q0, q1, q2, q11, q13, q17, q20, q21, q24, q104, q111, q112, q116, q125, q127, g0_0, g0_1, g0_2, g0_3, g0_4, g0_5, g0_6, g0_7, p0_7, g0_8, g0_9, g0_10, g0_11, g0_12, g0_13, p0_13, g0_14, g0_15, g0_16, g0_17, g0_18, g1_0, g1_1, g1_2, g1_3, g1_4, g1_5, p1_5, g1_6, p1_6, g1_7, p1_7, g1_8, p1_8, g2_0, g2_1, g2_2, g2_3, g2_4, p2_4, g11_0, g11_1, p11_1, g11_2, p11_2, g11_3, p11_3, g13_0, g13_1, g13_2, g13_3, g17_0, g17_1, g17_2, p17_2, g20_0, g20_1, g21_0, g21_1, g21_2, p21_2, g24_0, g24_1, p24_1, g24_2, p24_2, g104_0, g104_1, g104_2, g104_3, g104_4, p104_4, g111_0, g111_1, p111_1, g111_2, p111_2, g111_3, p111_3, g112_0, g112_1, g112_2, g112_3, g112_4, p112_4, g116_0, g116_1, g116_2, g116_3, g116_4, g125_0, p125_0, g125_1, p125_1, g127_0, g127_1, p127_1, g127_2, p127_2, g127_3, p127_3, g127_4, g127_5, g127_6, p127_6, g127_7, g127_8, p127_8, g127_9, g127_10, p127_10, g127_11, p127_11, g127_12, g127_13, p127_13, g127_14, p127_14, g127_15, p127_15, g127_16, p127_16, g127_17, g127_18, g127_19, p127_19, g127_20, p127_20, g127_21, g127_22, g127_23, p127_23, g127_24, g127_25, g127_26, g127_27, g127_28, g127_29, p127_29, g127_30, p127_30, g127_31, g127_32, g127_33, p127_33, g127_34, p127_34, g127_35, p127_35, g127_36, p127_36, g127_37, g127_38, p127_38, g127_39, p127_39, g127_40, g127_41, g127_42, X_hasThing1 hb rfl hs, X_hasThing1 hb rfl ht, show ¬ (1 : Int32) = 0 by decide, r5 (show s < 12 by omega), r5 (show t < 12 by omega), es, et, X_kindsOf hb rfl hs, X_kindsOf hb rfl ht, x_tellTwo, jbc_F]
      · unfold F_X12_alike
        simp only [if_pos q127, p11, ↓reduceIte, obs, Y_isThing1 hb e hs, Y_isThing1 hb e ht, show ¬ (1 : Int32) = 0 by decide, p10, g127_0, r128 (show s < 42 by omega), r128 (show t < 42 by omega), show ∀ u v, (M0 (Zr (TB (TB (T0 μ) 0 u) 1 v))).1 128 = μ.1 128 from fun u v => rfl, y_tell0, show ∀ u v w, (MB (M0 (Zr (TB (TB (T0 μ) 0 u) 1 v))) 0 w).1 128 = μ.1 128 from fun u v w => rfl, Y_kindsOf hb (cl_MB.trans e2), y_tell1 (i := 0) (show 0 + 1 < 20 by decide), show ∀ u v w z, (MB (MB (M0 (Zr (TB (TB (T0 μ) 0 u) 1 v))) 0 w) 1 z).1 128 = μ.1 128 from fun u v w z => rfl, jbc_F]
        rfl
    · refine ⟨-1, μ, Zr μ, ?_, ?_, inv_Z hI⟩
      · unfold F_X11_alike
        simp only [↓reduceIte, obs, q0, q1, q2, q11, q13, q17, q20, q21, q24, q104, q111, q112, q116, q125, q127, g0_0, g0_1, g0_2, g0_3, g0_4, g0_5, g0_6, g0_7, p0_7, g0_8, g0_9, g0_10, g0_11, g0_12, g0_13, p0_13, g0_14, g0_15, g0_16, g0_17, g0_18, g1_0, g1_1, g1_2, g1_3, g1_4, g1_5, p1_5, g1_6, p1_6, g1_7, p1_7, g1_8, p1_8, g2_0, g2_1, g2_2, g2_3, g2_4, p2_4, g11_0, g11_1, p11_1, g11_2, p11_2, g11_3, p11_3, g13_0, g13_1, g13_2, g13_3, g17_0, g17_1, g17_2, p17_2, g20_0, g20_1, g21_0, g21_1, g21_2, p21_2, g24_0, g24_1, p24_1, g24_2, p24_2, g104_0, g104_1, g104_2, g104_3, g104_4, p104_4, g111_0, g111_1, p111_1, g111_2, p111_2, g111_3, p111_3, g112_0, g112_1, g112_2, g112_3, g112_4, p112_4, g116_0, g116_1, g116_2, g116_3, g116_4, g125_0, p125_0, g125_1, p125_1, g127_0, g127_1, p127_1, g127_2, p127_2, g127_3, p127_3, g127_4, g127_5, g127_6, p127_6, g127_7, g127_8, p127_8, g127_9, g127_10, p127_10, g127_11, p127_11, g127_12, g127_13, p127_13, g127_14, p127_14, g127_15, p127_15, g127_16, p127_16, g127_17, g127_18, g127_19, p127_19, g127_20, p127_20, g127_21, g127_22, g127_23, p127_23, g127_24, g127_25, g127_26, g127_27, g127_28, g127_29, p127_29, g127_30, p127_30, g127_31, g127_32, g127_33, p127_33, g127_34, p127_34, g127_35, p127_35, g127_36, p127_36, g127_37, g127_38, p127_38, g127_39, p127_39, g127_40, g127_41, g127_42, X_hasThing1 hb rfl hs, X_hasThing0 hb rfl hy, show ¬ (1 : Int32) = 0 by decide]
      · unfold F_X12_alike
        simp only [if_pos q127, p11, ↓reduceIte, obs, Y_isThing1 hb cl_Z hs, Y_isThing0 hb cl_Z hy, show ¬ (1 : Int32) = 0 by decide]
  · refine ⟨-1, μ, Zr μ, ?_, ?_, inv_Z hI⟩
    · unfold F_X11_alike
      simp only [↓reduceIte, obs, q0, q1, q2, q11, q13, q17, q20, q21, q24, q104, q111, q112, q116, q125, q127, g0_0, g0_1, g0_2, g0_3, g0_4, g0_5, g0_6, g0_7, p0_7, g0_8, g0_9, g0_10, g0_11, g0_12, g0_13, p0_13, g0_14, g0_15, g0_16, g0_17, g0_18, g1_0, g1_1, g1_2, g1_3, g1_4, g1_5, p1_5, g1_6, p1_6, g1_7, p1_7, g1_8, p1_8, g2_0, g2_1, g2_2, g2_3, g2_4, p2_4, g11_0, g11_1, p11_1, g11_2, p11_2, g11_3, p11_3, g13_0, g13_1, g13_2, g13_3, g17_0, g17_1, g17_2, p17_2, g20_0, g20_1, g21_0, g21_1, g21_2, p21_2, g24_0, g24_1, p24_1, g24_2, p24_2, g104_0, g104_1, g104_2, g104_3, g104_4, p104_4, g111_0, g111_1, p111_1, g111_2, p111_2, g111_3, p111_3, g112_0, g112_1, g112_2, g112_3, g112_4, p112_4, g116_0, g116_1, g116_2, g116_3, g116_4, g125_0, p125_0, g125_1, p125_1, g127_0, g127_1, p127_1, g127_2, p127_2, g127_3, p127_3, g127_4, g127_5, g127_6, p127_6, g127_7, g127_8, p127_8, g127_9, g127_10, p127_10, g127_11, p127_11, g127_12, g127_13, p127_13, g127_14, p127_14, g127_15, p127_15, g127_16, p127_16, g127_17, g127_18, g127_19, p127_19, g127_20, p127_20, g127_21, g127_22, g127_23, p127_23, g127_24, g127_25, g127_26, g127_27, g127_28, g127_29, p127_29, g127_30, p127_30, g127_31, g127_32, g127_33, p127_33, g127_34, p127_34, g127_35, p127_35, g127_36, p127_36, g127_37, g127_38, p127_38, g127_39, p127_39, g127_40, g127_41, g127_42, X_hasThing0 hb rfl hx]
    · unfold F_X12_alike
      simp only [if_pos q127, p11, ↓reduceIte, obs, Y_isThing0 hb cl_Z hx]
/-! name, had -/
def HA (μ : Mem) (tc k : Nat) : Nat := sb (fun t => decide (μ.1 128 t &&& nI k = nI k)) tc
def fwr (b t : Int32) : Int32 := if b = -1 then t else if jbc b ≤ jbc t then b else t
theorem HA_lt {μ : Mem} {tc k : Nat} (h : tc ≤ 12) : HA μ tc k < 4096 := sb12 _ h
theorem x_fewer (b t : Int32) (h : ci_H) : F_X11_fewerTraits b t h = some (fwr b t, h) := by
  unfold F_X11_fewerTraits fwr
  simp only [jbc_F, ↓reduceIte, obs, b_X11_fewerTraits_16]
  split
  · rfl
  · split
    · rfl
    · rfl
theorem y_fewer (t b : Int32) (h : ci_H) : F_X12_isFewer t b h = some (if b = -1 then 1 else if jbc b ≤ jbc t then 0 else 1, h) := by
  unfold F_X12_isFewer
  simp only [jbc_F, ↓reduceIte, obs, b_X12_isFewer_16]
  split
  · rfl
  · split
    · rfl
    · rfl
theorem fwr_y (t b : Int32) : (if (if b = -1 then (1 : Int32) else if jbc b ≤ jbc t then 0 else 1) = 0 then b else t) = fwr b t := by
  unfold fwr
  split
  · rfl
  · split
    · rfl
    · rfl
theorem io_0 (x m : Int32) : io x m 0 = decide (x &&& m = m) := by
  unfold io
  have : x &&& 0 = 0 := b_ext (fun i _ => by rw [b_and, b_0, Bool.and_false])
  simp [this]
def nmS (μ : Mem) (tc : Nat) (x : Int32) (k : Nat) (s : Int32 × Int32) : Int32 × Int32 := if nI (HA μ tc k) = x then (s.1 + 1, fwr s.2 (nI k)) else s
theorem X_name {κ : Kp} {μ : Mem} {hc tc kc lm B : Nat} (hb : Bs μ hc tc kc lm B) (x : Int32) : b_X11_name_20 0 x bigN 0 (-1) 0 (hp κ μ) = some ((it (nmS μ tc x) (0, -1) 64).1, hp κ (TB (T0 μ) 0 (it (nmS μ tc x) (0, -1) 64).2.toInt64)) := by
  refine lpk (fun n k => b_X11_name_20 0 x n (it (nmS μ tc x) (0, -1) k).1 (it (nmS μ tc x) (0, -1) k).2 (nI k) (hp κ μ)) 64 _ ?_ ?_ bigN 0 (Nat.zero_le _) (by unfold bigN; omega)
  · intro n k hk
    (try dsimp only)
    rw [b_X11_name_20, it_s]
    simp only [if_neg (show ¬ (64 : Int32) ≤ nI k from nI_ge hk (by decide)), g0_0, obs, X_havingAll hb rfl, x_fewer, b_X11_name_50, nI_1]
    generalize it (nmS μ tc x) (0, -1) k = q
    unfold nmS HA
    split
    · rfl
    · rfl
  · intro n
    (try dsimp only)
    rw [b_X11_name_20]
    simp only [if_pos (show (64 : Int32) ≤ nI 64 by decide), x_tellOne, obs]
theorem Y_name {κ : Kp} {μ ν : Mem} {hc tc kc lm B : Nat} (hb : Bs μ hc tc kc lm B) (e : cl ν = cl μ) (x : Int32) : b_X12_name_22 127 x bigN 0 (-1) 0 (hp κ ν) = some ((it (nmS μ tc x) (0, -1) 64).1, hp κ (MB (M0 ν) 0 (it (nmS μ tc x) (0, -1) 64).2.toInt64)) := by
  have b2 := hb.b2
  have hM := (hb.mv e).2.1
  have m2 : ν.1 127 2 = nI tc := hM.2.1
  refine lpk (fun n k => b_X12_name_22 127 x n (it (nmS μ tc x) (0, -1) k).1 (it (nmS μ tc x) (0, -1) k).2 (nI k) (hp κ ν)) 64 _ ?_ ?_ bigN 0 (Nat.zero_le _) (by unfold bigN; omega)
  · intro n k hk
    (try dsimp only)
    have hp2 : 2 ^ tc ≤ 2 ^ 12 := Nat.pow_le_pow_right (by decide) b2
    have h1 : nI (2 ^ tc) - 1 = nI (2 ^ tc - 1) := pk_sub (b := 1) (Nat.one_le_two_pow)
    have h2 : sb (fun t => (2 ^ tc - 1).testBit t && io (μ.1 128 t) (nI k) 0) tc = HA μ tc k := sb_cong (fun t ht => by
      rw [io_0, Nat.testBit_two_pow_sub_one]
      simp [ht])
    rw [b_X12_name_22, it_s]
    simp only [if_neg (show ¬ (64 : Int32) ≤ nI k from nI_ge hk (by decide)), g127_2, m2, obs, i_sh1 tc (show tc < 31 by omega), h1, Y_withAll hb e (show 2 ^ tc - 1 < 4096 by omega), h2, y_fewer, b_X12_name_65, nI_1]
    generalize it (nmS μ tc x) (0, -1) k = q
    unfold nmS
    split
    · have hf := fwr_y (nI k) q.2
      by_cases c : (if q.2 = -1 then (1 : Int32) else if jbc q.2 ≤ jbc (nI k) then 0 else 1) = 0
      · rw [if_pos c] at hf ⊢
        rw [← hf]
      · rw [if_neg c] at hf ⊢
        rw [← hf]
    · rfl
  · intro n
    (try dsimp only)
    rw [b_X12_name_22]
    simp only [if_pos (show (64 : Int32) ≤ nI 64 by decide), p10, obs, y_tell (i := 0) (show 0 < 20 by decide) (show (M0 ν).1 127 10 = nI 0 from rfl)]
theorem pr_name : P1 F_X11_name F_X12_name := by
  intro x κ B μ hR hB hI
  dsimp only
  obtain ⟨hc, tc, kc, lm, hb⟩ := hI.bs
  rcases ix_things hb x with ⟨s, hs, rfl⟩ | hx
  · refine ⟨(it (nmS μ tc (nI s)) (0, -1) 64).1, TB (T0 μ) 0 (it (nmS μ tc (nI s)) (0, -1) 64).2.toInt64, R1 μ (it (nmS μ tc (nI s)) (0, -1) 64).2.toInt64, ?_, ?_, inv_R1 hI⟩
    · unfold F_X11_name
      simp only [↓reduceIte, obs, q0, q1, q2, q11, q13, q17, q20, q21, q24, q104, q111, q112, q116, q125, q127, g0_0, g0_1, g0_2, g0_3, g0_4, g0_5, g0_6, g0_7, p0_7, g0_8, g0_9, g0_10, g0_11, g0_12, g0_13, p0_13, g0_14, g0_15, g0_16, g0_17, g0_18, g1_0, g1_1, g1_2, g1_3, g1_4, g1_5, p1_5, g1_6, p1_6, g1_7, p1_7, g1_8, p1_8, g2_0, g2_1, g2_2, g2_3, g2_4, p2_4, g11_0, g11_1, p11_1, g11_2, p11_2, g11_3, p11_3, g13_0, g13_1, g13_2, g13_3, g17_0, g17_1, g17_2, p17_2, g20_0, g20_1, g21_0, g21_1, g21_2, p21_2, g24_0, g24_1, p24_1, g24_2, p24_2, g104_0, g104_1, g104_2, g104_3, g104_4, p104_4, g111_0, g111_1, p111_1, g111_2, p111_2, g111_3, p111_3, g112_0, g112_1, g112_2, g112_3, g112_4, p112_4, g116_0, g116_1, g116_2, g116_3, g116_4, g125_0, p125_0, g125_1, p125_1, g127_0, g127_1, p127_1, g127_2, p127_2, g127_3, p127_3, g127_4, g127_5, g127_6, p127_6, g127_7, g127_8, p127_8, g127_9, g127_10, p127_10, g127_11, p127_11, g127_12, g127_13, p127_13, g127_14, p127_14, g127_15, p127_15, g127_16, p127_16, g127_17, g127_18, g127_19, p127_19, g127_20, p127_20, g127_21, g127_22, g127_23, p127_23, g127_24, g127_25, g127_26, g127_27, g127_28, g127_29, p127_29, g127_30, p127_30, g127_31, g127_32, g127_33, p127_33, g127_34, p127_34, g127_35, p127_35, g127_36, p127_36, g127_37, g127_38, p127_38, g127_39, p127_39, g127_40, g127_41, g127_42, X_hasThings1 hb rfl hs, show ¬ (1 : Int32) = 0 by decide, X_name hb]
    · have e : cl (Zr (TB (T0 μ) 0 (it (nmS μ tc (nI s)) (0, -1) 64).2.toInt64)) = cl μ := by rw [cl_Z, cl_TB, cl_T0]
      unfold F_X12_name
      simp only [if_pos q127, p11, ↓reduceIte, obs, Y_areThings1 hb e hs, show ¬ (1 : Int32) = 0 by decide, Y_name hb e]
      rfl
  · refine ⟨-1, μ, Zr μ, ?_, ?_, inv_Z hI⟩
    · unfold F_X11_name
      simp only [↓reduceIte, obs, q0, q1, q2, q11, q13, q17, q20, q21, q24, q104, q111, q112, q116, q125, q127, g0_0, g0_1, g0_2, g0_3, g0_4, g0_5, g0_6, g0_7, p0_7, g0_8, g0_9, g0_10, g0_11, g0_12, g0_13, p0_13, g0_14, g0_15, g0_16, g0_17, g0_18, g1_0, g1_1, g1_2, g1_3, g1_4, g1_5, p1_5, g1_6, p1_6, g1_7, p1_7, g1_8, p1_8, g2_0, g2_1, g2_2, g2_3, g2_4, p2_4, g11_0, g11_1, p11_1, g11_2, p11_2, g11_3, p11_3, g13_0, g13_1, g13_2, g13_3, g17_0, g17_1, g17_2, p17_2, g20_0, g20_1, g21_0, g21_1, g21_2, p21_2, g24_0, g24_1, p24_1, g24_2, p24_2, g104_0, g104_1, g104_2, g104_3, g104_4, p104_4, g111_0, g111_1, p111_1, g111_2, p111_2, g111_3, p111_3, g112_0, g112_1, g112_2, g112_3, g112_4, p112_4, g116_0, g116_1, g116_2, g116_3, g116_4, g125_0, p125_0, g125_1, p125_1, g127_0, g127_1, p127_1, g127_2, p127_2, g127_3, p127_3, g127_4, g127_5, g127_6, p127_6, g127_7, g127_8, p127_8, g127_9, g127_10, p127_10, g127_11, p127_11, g127_12, g127_13, p127_13, g127_14, p127_14, g127_15, p127_15, g127_16, p127_16, g127_17, g127_18, g127_19, p127_19, g127_20, p127_20, g127_21, g127_22, g127_23, p127_23, g127_24, g127_25, g127_26, g127_27, g127_28, g127_29, p127_29, g127_30, p127_30, g127_31, g127_32, g127_33, p127_33, g127_34, p127_34, g127_35, p127_35, g127_36, p127_36, g127_37, g127_38, p127_38, g127_39, p127_39, g127_40, g127_41, g127_42, X_hasThings0 hb rfl hx]
    · unfold F_X12_name
      simp only [if_pos q127, p11, ↓reduceIte, obs, Y_areThings0 hb cl_Z hx]
def hdS (μ : Mem) (tc s : Nat) (x : Int32) (k : Nat) (q : Int32 × Int32 × Int32) : Int32 × Int32 × Int32 := if jbc (nI (HA μ tc k &&& s)) = x then (q.1 + 1, fwr q.2.1 (nI k), q.2.2 + (if jbc (nI k) = 1 then 1 else 0)) else q
theorem X_had {κ : Kp} {μ : Mem} {hc tc kc lm B : Nat} (hb : Bs μ hc tc kc lm B) (x : Int32) (s : Nat) : b_X11_had_44 0 x (nI s) bigN 0 (-1) 0 0 (hp κ μ) = some ((it (hdS μ tc s x) (0, -1, 0) 64).1, hp κ (TB (TB (T0 μ) 0 (it (hdS μ tc s x) (0, -1, 0) 64).2.1.toInt64) 1 (it (hdS μ tc s x) (0, -1, 0) 64).2.2.toInt64)) := by
  refine lpk (fun n k => b_X11_had_44 0 x (nI s) n (it (hdS μ tc s x) (0, -1, 0) k).1 (it (hdS μ tc s x) (0, -1, 0) k).2.1 (it (hdS μ tc s x) (0, -1, 0) k).2.2 (nI k) (hp κ μ)) 64 _ ?_ ?_ bigN 0 (Nat.zero_le _) (by unfold bigN; omega)
  · intro n k hk
    (try dsimp only)
    rw [b_X11_had_44, it_s]
    simp only [if_neg (show ¬ (64 : Int32) ≤ nI k from nI_ge hk (by decide)), g0_0, obs, X_havingAll hb rfl, i_and, jbc_F, x_fewer, b_X11_had_97, b_X11_had_100, nI_1]
    generalize it (hdS μ tc s x) (0, -1, 0) k = q
    unfold hdS HA
    split
    · split
      · rfl
      · rfl
    · rfl
  · intro n
    (try dsimp only)
    rw [b_X11_had_44]
    simp only [if_pos (show (64 : Int32) ≤ nI 64 by decide), x_tellTwo, obs]
theorem Y_had {κ : Kp} {μ ν : Mem} {hc tc kc lm B : Nat} (hb : Bs μ hc tc kc lm B) (e : cl ν = cl μ) (x y : Int32) : b_X12_had_36 127 y x bigN 0 (-1) 0 0 (hp κ ν) = some ((it (hdS μ tc (KP μ tc y) x) (0, -1, 0) 64).1, hp κ (MB (MB (M0 ν) 0 (it (hdS μ tc (KP μ tc y) x) (0, -1, 0) 64).2.1.toInt64) 1 (it (hdS μ tc (KP μ tc y) x) (0, -1, 0) 64).2.2.toInt64)) := by
  have b2 := hb.b2
  refine lpk (fun n k => b_X12_had_36 127 y x n (it (hdS μ tc (KP μ tc y) x) (0, -1, 0) k).1 (it (hdS μ tc (KP μ tc y) x) (0, -1, 0) k).2.1 (it (hdS μ tc (KP μ tc y) x) (0, -1, 0) k).2.2 (nI k) (hp κ ν)) 64 _ ?_ ?_ bigN 0 (Nat.zero_le _) (by unfold bigN; omega)
  · intro n k hk
    (try dsimp only)
    have h2 : sb (fun t => (KP μ tc y).testBit t && io (μ.1 128 t) (nI k) 0) tc = HA μ tc k &&& KP μ tc y := by
      refine st_ext (n := 12) (sb12 _ b2) (and_l (HA_lt b2)) (fun i hi => ?_)
      unfold HA
      rw [Nat.testBit_and, sb_bit, sb_bit, io_0]
      cases decide (i < tc) <;> cases (KP μ tc y).testBit i <;> cases decide (μ.1 128 i &&& nI k = nI k) <;> rfl
    rw [b_X12_had_36, it_s]
    simp only [if_neg (show ¬ (64 : Int32) ≤ nI k from nI_ge hk (by decide)), g127_0, obs, Y_kept hb e, Y_withAll hb e (KP_lt b2), h2, jbc_F, y_fewer, b_X12_had_87, b_X12_had_104, nI_1]
    generalize it (hdS μ tc (KP μ tc y) x) (0, -1, 0) k = q
    unfold hdS
    split
    · have hf := fwr_y (nI k) q.2.1
      by_cases c : (if q.2.1 = -1 then (1 : Int32) else if jbc q.2.1 ≤ jbc (nI k) then 0 else 1) = 0
      · simp only [if_pos c] at hf ⊢
        rw [← hf]
        split
        · rfl
        · rfl
      · simp only [if_neg c] at hf ⊢
        rw [← hf]
        split
        · rfl
        · rfl
    · rfl
  · intro n
    (try dsimp only)
    rw [b_X12_had_36]
    simp only [if_pos (show (64 : Int32) ≤ nI 64 by decide), p10, obs, y_tell (i := 0) (show 0 < 20 by decide) (show (M0 ν).1 127 10 = nI 0 from rfl), y_tell (i := 1) (show 1 < 20 by decide) (MB_0 (i := 0))]
theorem pr_had : P2 F_X11_had F_X12_had := by
  intro x y κ B μ hR hB hI
  dsimp only
  obtain ⟨hc, tc, kc, lm, hb⟩ := hI.bs
  rcases ix_hc hb x with ⟨s, hs, rfl⟩ | hx
  · rcases rng y 0 12 0 12 rfl rfl (by omega) (by omega) with ⟨j, j1, j2, rfl, c1, c2, c3, c4, c5⟩ | ⟨c1, c2, c3⟩ | ⟨c1, c2, c3, c4, c5⟩
    · refine ⟨(it (hdS μ tc (KP μ tc (nI s)) (nI j)) (0, -1, 0) 64).1, TB (TB (T0 μ) 0 (it (hdS μ tc (KP μ tc (nI s)) (nI j)) (0, -1, 0) 64).2.1.toInt64) 1 (it (hdS μ tc (KP μ tc (nI s)) (nI j)) (0, -1, 0) 64).2.2.toInt64, R2 μ (it (hdS μ tc (KP μ tc (nI s)) (nI j)) (0, -1, 0) 64).2.1.toInt64 (it (hdS μ tc (KP μ tc (nI s)) (nI j)) (0, -1, 0) 64).2.2.toInt64, ?_, ?_, inv_R2 hI⟩
      · unfold F_X11_had
        simp only [↓reduceIte, obs, q0, q1, q2, q11, q13, q17, q20, q21, q24, q104, q111, q112, q116, q125, q127, g0_0, g0_1, g0_2, g0_3, g0_4, g0_5, g0_6, g0_7, p0_7, g0_8, g0_9, g0_10, g0_11, g0_12, g0_13, p0_13, g0_14, g0_15, g0_16, g0_17, g0_18, g1_0, g1_1, g1_2, g1_3, g1_4, g1_5, p1_5, g1_6, p1_6, g1_7, p1_7, g1_8, p1_8, g2_0, g2_1, g2_2, g2_3, g2_4, p2_4, g11_0, g11_1, p11_1, g11_2, p11_2, g11_3, p11_3, g13_0, g13_1, g13_2, g13_3, g17_0, g17_1, g17_2, p17_2, g20_0, g20_1, g21_0, g21_1, g21_2, p21_2, g24_0, g24_1, p24_1, g24_2, p24_2, g104_0, g104_1, g104_2, g104_3, g104_4, p104_4, g111_0, g111_1, p111_1, g111_2, p111_2, g111_3, p111_3, g112_0, g112_1, g112_2, g112_3, g112_4, p112_4, g116_0, g116_1, g116_2, g116_3, g116_4, g125_0, p125_0, g125_1, p125_1, g127_0, g127_1, p127_1, g127_2, p127_2, g127_3, p127_3, g127_4, g127_5, g127_6, p127_6, g127_7, g127_8, p127_8, g127_9, g127_10, p127_10, g127_11, p127_11, g127_12, g127_13, p127_13, g127_14, p127_14, g127_15, p127_15, g127_16, p127_16, g127_17, g127_18, g127_19, p127_19, g127_20, p127_20, g127_21, g127_22, g127_23, p127_23, g127_24, g127_25, g127_26, g127_27, g127_28, g127_29, p127_29, g127_30, p127_30, g127_31, g127_32, g127_33, p127_33, g127_34, p127_34, g127_35, p127_35, g127_36, p127_36, g127_37, g127_38, p127_38, g127_39, p127_39, g127_40, g127_41, g127_42, X_hasHouse1 hb rfl hs, show ¬ (1 : Int32) = 0 by decide, c1, c4, X_kept hb rfl, X_had hb]
      · have e : cl (Zr (TB (TB (T0 μ) 0 (it (hdS μ tc (KP μ tc (nI s)) (nI j)) (0, -1, 0) 64).2.1.toInt64) 1 (it (hdS μ tc (KP μ tc (nI s)) (nI j)) (0, -1, 0) 64).2.2.toInt64)) = cl μ := by rw [cl_Z, cl_TB, cl_TB, cl_T0]
        unfold F_X12_had
        simp only [if_pos q127, p11, ↓reduceIte, obs, Y_isHouse1 hb e hs, show ¬ (1 : Int32) = 0 by decide, c5, Y_had hb e]
        rfl
    · refine ⟨-1, μ, Zr μ, ?_, ?_, inv_Z hI⟩
      · unfold F_X11_had
        simp only [↓reduceIte, obs, q0, q1, q2, q11, q13, q17, q20, q21, q24, q104, q111, q112, q116, q125, q127, g0_0, g0_1, g0_2, g0_3, g0_4, g0_5, g0_6, g0_7, p0_7, g0_8, g0_9, g0_10, g0_11, g0_12, g0_13, p0_13, g0_14, g0_15, g0_16, g0_17, g0_18, g1_0, g1_1, g1_2, g1_3, g1_4, g1_5, p1_5, g1_6, p1_6, g1_7, p1_7, g1_8, p1_8, g2_0, g2_1, g2_2, g2_3, g2_4, p2_4, g11_0, g11_1, p11_1, g11_2, p11_2, g11_3, p11_3, g13_0, g13_1, g13_2, g13_3, g17_0, g17_1, g17_2, p17_2, g20_0, g20_1, g21_0, g21_1, g21_2, p21_2, g24_0, g24_1, p24_1, g24_2, p24_2, g104_0, g104_1, g104_2, g104_3, g104_4, p104_4, g111_0, g111_1, p111_1, g111_2, p111_2, g111_3, p111_3, g112_0, g112_1, g112_2, g112_3, g112_4, p112_4, g116_0, g116_1, g116_2, g116_3, g116_4, g125_0, p125_0, g125_1, p125_1, g127_0, g127_1, p127_1, g127_2, p127_2, g127_3, p127_3, g127_4, g127_5, g127_6, p127_6, g127_7, g127_8, p127_8, g127_9, g127_10, p127_10, g127_11, p127_11, g127_12, g127_13, p127_13, g127_14, p127_14, g127_15, p127_15, g127_16, p127_16, g127_17, g127_18, g127_19, p127_19, g127_20, p127_20, g127_21, g127_22, g127_23, p127_23, g127_24, g127_25, g127_26, g127_27, g127_28, g127_29, p127_29, g127_30, p127_30, g127_31, g127_32, g127_33, p127_33, g127_34, p127_34, g127_35, p127_35, g127_36, p127_36, g127_37, g127_38, p127_38, g127_39, p127_39, g127_40, g127_41, g127_42, X_hasHouse1 hb rfl hs, show ¬ (1 : Int32) = 0 by decide, c1]
      · unfold F_X12_had
        simp only [if_pos q127, p11, ↓reduceIte, obs, Y_isHouse1 hb cl_Z hs, show ¬ (1 : Int32) = 0 by decide, c3]
    · refine ⟨-1, μ, Zr μ, ?_, ?_, inv_Z hI⟩
      · unfold F_X11_had
        simp only [↓reduceIte, obs, q0, q1, q2, q11, q13, q17, q20, q21, q24, q104, q111, q112, q116, q125, q127, g0_0, g0_1, g0_2, g0_3, g0_4, g0_5, g0_6, g0_7, p0_7, g0_8, g0_9, g0_10, g0_11, g0_12, g0_13, p0_13, g0_14, g0_15, g0_16, g0_17, g0_18, g1_0, g1_1, g1_2, g1_3, g1_4, g1_5, p1_5, g1_6, p1_6, g1_7, p1_7, g1_8, p1_8, g2_0, g2_1, g2_2, g2_3, g2_4, p2_4, g11_0, g11_1, p11_1, g11_2, p11_2, g11_3, p11_3, g13_0, g13_1, g13_2, g13_3, g17_0, g17_1, g17_2, p17_2, g20_0, g20_1, g21_0, g21_1, g21_2, p21_2, g24_0, g24_1, p24_1, g24_2, p24_2, g104_0, g104_1, g104_2, g104_3, g104_4, p104_4, g111_0, g111_1, p111_1, g111_2, p111_2, g111_3, p111_3, g112_0, g112_1, g112_2, g112_3, g112_4, p112_4, g116_0, g116_1, g116_2, g116_3, g116_4, g125_0, p125_0, g125_1, p125_1, g127_0, g127_1, p127_1, g127_2, p127_2, g127_3, p127_3, g127_4, g127_5, g127_6, p127_6, g127_7, g127_8, p127_8, g127_9, g127_10, p127_10, g127_11, p127_11, g127_12, g127_13, p127_13, g127_14, p127_14, g127_15, p127_15, g127_16, p127_16, g127_17, g127_18, g127_19, p127_19, g127_20, p127_20, g127_21, g127_22, g127_23, p127_23, g127_24, g127_25, g127_26, g127_27, g127_28, g127_29, p127_29, g127_30, p127_30, g127_31, g127_32, g127_33, p127_33, g127_34, p127_34, g127_35, p127_35, g127_36, p127_36, g127_37, g127_38, p127_38, g127_39, p127_39, g127_40, g127_41, g127_42, X_hasHouse1 hb rfl hs, show ¬ (1 : Int32) = 0 by decide, c2, c3]
      · unfold F_X12_had
        simp only [if_pos q127, p11, ↓reduceIte, obs, Y_isHouse1 hb cl_Z hs, show ¬ (1 : Int32) = 0 by decide, c5]
  · refine ⟨-1, μ, Zr μ, ?_, ?_, inv_Z hI⟩
    · unfold F_X11_had
      simp only [↓reduceIte, obs, q0, q1, q2, q11, q13, q17, q20, q21, q24, q104, q111, q112, q116, q125, q127, g0_0, g0_1, g0_2, g0_3, g0_4, g0_5, g0_6, g0_7, p0_7, g0_8, g0_9, g0_10, g0_11, g0_12, g0_13, p0_13, g0_14, g0_15, g0_16, g0_17, g0_18, g1_0, g1_1, g1_2, g1_3, g1_4, g1_5, p1_5, g1_6, p1_6, g1_7, p1_7, g1_8, p1_8, g2_0, g2_1, g2_2, g2_3, g2_4, p2_4, g11_0, g11_1, p11_1, g11_2, p11_2, g11_3, p11_3, g13_0, g13_1, g13_2, g13_3, g17_0, g17_1, g17_2, p17_2, g20_0, g20_1, g21_0, g21_1, g21_2, p21_2, g24_0, g24_1, p24_1, g24_2, p24_2, g104_0, g104_1, g104_2, g104_3, g104_4, p104_4, g111_0, g111_1, p111_1, g111_2, p111_2, g111_3, p111_3, g112_0, g112_1, g112_2, g112_3, g112_4, p112_4, g116_0, g116_1, g116_2, g116_3, g116_4, g125_0, p125_0, g125_1, p125_1, g127_0, g127_1, p127_1, g127_2, p127_2, g127_3, p127_3, g127_4, g127_5, g127_6, p127_6, g127_7, g127_8, p127_8, g127_9, g127_10, p127_10, g127_11, p127_11, g127_12, g127_13, p127_13, g127_14, p127_14, g127_15, p127_15, g127_16, p127_16, g127_17, g127_18, g127_19, p127_19, g127_20, p127_20, g127_21, g127_22, g127_23, p127_23, g127_24, g127_25, g127_26, g127_27, g127_28, g127_29, p127_29, g127_30, p127_30, g127_31, g127_32, g127_33, p127_33, g127_34, p127_34, g127_35, p127_35, g127_36, p127_36, g127_37, g127_38, p127_38, g127_39, p127_39, g127_40, g127_41, g127_42, X_hasHouse0 hb rfl hx]
    · unfold F_X12_had
      simp only [if_pos q127, p11, ↓reduceIte, obs, Y_isHouse0 hb cl_Z hx]
/-! vote -/
def vtP (μ : Mem) (tc kc lm : Nat) (k x : Nat) : Bool := decide (nI (BB μ tc kc lm (KP μ tc (nI x))) = (1 : Int32) <<< (nI k &&& 31))
def vtC (μ : Mem) (hc tc kc lm : Nat) (k : Nat) : Int32 := nI (fb_ct (vtP μ tc kc lm k) hc)
def vtS (μ : Mem) (hc tc kc lm : Nat) (k : Nat) (q : Int32 × Int32) : Int32 × Int32 := if q.2 < vtC μ hc tc kc lm k then (nI k, vtC μ hc tc kc lm k) else q
theorem X_freed {κ : Kp} {μ : Mem} {hc tc kc lm B : Nat} (hb : Bs μ hc tc kc lm B) (k : Nat) : F_X11_freedByStriking 0 (nI k) (hp κ μ) = some (vtC μ hc tc kc lm k, hp κ μ) := by
  have b1 := hb.b1
  have b2 := hb.b2
  have t1 : μ.1 1 5 = nI hc := hb.1.1
  unfold F_X11_freedByStriking
  rw [if_pos q0]
  refine lpk (fun n x => b_X11_freedByStriking_4 0 (nI k) n (nI (fb_ct (vtP μ tc kc lm k) x)) (nI x) (hp κ μ)) hc _ ?_ ?_ bigN 0 (Nat.zero_le _) (by unfold bigN; omega)
  · intro n x hx
    (try dsimp only)
    rw [b_X11_freedByStriking_4, fb_ct_succ]
    simp only [g0_0, g1_5, t1, obs, if_neg (nI_ge hx (show hc < 2 ^ 31 by omega)), X_kept hb rfl, X_broken hb rfl (KP_lt b2), b_X11_freedByStriking_39, nI_1]
    unfold vtP
    by_cases c : nI (BB μ tc kc lm (KP μ tc (nI x))) = (1 : Int32) <<< (nI k &&& 31)
    · simp [c]
    · simp [c]
  · intro n
    (try dsimp only)
    rw [b_X11_freedByStriking_4]
    simp only [g0_0, g1_5, t1, obs, if_pos (nI_le (Nat.le_refl hc) (show hc < 2 ^ 31 by omega))]
    rfl
theorem X_vote {κ : Kp} {μ : Mem} {hc tc kc lm B : Nat} (hb : Bs μ hc tc kc lm B) : b_X11_vote_19 0 bigN 0 (-1) 0 (hp κ μ) = some ((it (vtS μ hc tc kc lm) (0, -1) kc).1, hp κ (TB (T0 μ) 0 (it (vtS μ hc tc kc lm) (0, -1) kc).2.toInt64)) := by
  have b3 := hb.b3
  have t1 : μ.1 1 7 = nI kc := hb.1.2.2.1
  refine lpk (fun n k => b_X11_vote_19 0 n (it (vtS μ hc tc kc lm) (0, -1) k).1 (it (vtS μ hc tc kc lm) (0, -1) k).2 (nI k) (hp κ μ)) kc _ ?_ ?_ bigN 0 (Nat.zero_le _) (by unfold bigN; omega)
  · intro n k hk
    (try dsimp only)
    rw [b_X11_vote_19, it_s]
    simp only [g0_0, g1_7, t1, obs, if_neg (nI_ge hk (show kc < 2 ^ 31 by omega)), X_freed hb, b_X11_vote_48, nI_1]
    generalize it (vtS μ hc tc kc lm) (0, -1) k = q
    unfold vtS
    by_cases c : q.2 < vtC μ hc tc kc lm k
    · rw [if_neg ((i_nle2 _ _).mpr c), if_pos c]
    · rw [if_pos (fa_of_nlt c), if_neg c]
  · intro n
    (try dsimp only)
    rw [b_X11_vote_19]
    simp only [g0_0, g1_7, t1, obs, if_pos (nI_le (Nat.le_refl kc) (show kc < 2 ^ 31 by omega)), x_tellOne]
theorem Y_vote_in {κ : Kp} {μ ν : Mem} {hc tc kc lm B : Nat} (hb : Bs μ hc tc kc lm B) (e : cl ν = cl μ) (k : Nat) (a b : Int32) (r : Int32 → Int32 → Int32 → ci_H → Option (Int32 × ci_H)) : b_X12_vote_35 r 127 a b (nI k) bigN 0 0 (hp κ ν) = r (vtS μ hc tc kc lm k (a, b)).1 (vtS μ hc tc kc lm k (a, b)).2 (nI (k + 1)) (hp κ ν) := by
  have b1 := hb.b1
  have m1 : ν.1 127 1 = nI hc := (hb.mv e).2.1.1
  refine lpk (fun n x => b_X12_vote_35 r 127 a b (nI k) n (nI (fb_ct (vtP μ tc kc lm k) x)) (nI x) (hp κ ν)) hc _ ?_ ?_ bigN 0 (Nat.zero_le _) (by unfold bigN; omega)
  · intro n x hx
    (try dsimp only)
    rw [b_X12_vote_35, fb_ct_succ]
    simp only [g127_1, m1, obs, if_neg (nI_ge hx (show hc < 2 ^ 31 by omega)), g127_0, Y_breaks hb e, b_X12_vote_67, nI_1]
    unfold vtP
    by_cases c : nI (BB μ tc kc lm (KP μ tc (nI x))) = (1 : Int32) <<< (nI k &&& 31)
    · simp [c, nI_1]
    · simp [c]
  · intro n
    (try dsimp only)
    rw [b_X12_vote_35]
    simp only [g127_1, m1, obs, if_pos (nI_le (Nat.le_refl hc) (show hc < 2 ^ 31 by omega)), b_X12_vote_90, nI_1]
    unfold vtS vtC
    split
    · rfl
    · rfl
theorem Y_vote {κ : Kp} {μ ν : Mem} {hc tc kc lm B : Nat} (hb : Bs μ hc tc kc lm B) (e : cl ν = cl μ) : b_X12_vote_21 127 bigN 0 (-1) 0 (hp κ ν) = some ((it (vtS μ hc tc kc lm) (0, -1) kc).1, hp κ (MB (M0 ν) 0 (it (vtS μ hc tc kc lm) (0, -1) kc).2.toInt64)) := by
  have b3 := hb.b3
  have m1 : ν.1 127 3 = nI kc := (hb.mv e).2.1.2.2.1
  refine lpk (fun n k => b_X12_vote_21 127 n (it (vtS μ hc tc kc lm) (0, -1) k).1 (it (vtS μ hc tc kc lm) (0, -1) k).2 (nI k) (hp κ ν)) kc _ ?_ ?_ bigN 0 (Nat.zero_le _) (by unfold bigN; omega)
  · intro n k hk
    (try dsimp only)
    rw [b_X12_vote_21, it_s]
    simp only [g127_3, m1, obs, if_neg (nI_ge hk (show kc < 2 ^ 31 by omega)), Y_vote_in hb e]
  · intro n
    (try dsimp only)
    rw [b_X12_vote_21]
    simp only [g127_3, m1, obs, if_pos (nI_le (Nat.le_refl kc) (show kc < 2 ^ 31 by omega)), p10, y_tell (i := 0) (show 0 < 20 by decide) (show (M0 ν).1 127 10 = nI 0 from rfl)]
theorem pr_vote : P0 F_X11_vote F_X12_vote := by
  intro κ B μ hR hB hI
  obtain ⟨hc, tc, kc, lm, hb⟩ := hI.bs
  have b3 := hb.b3
  have t1 : μ.1 1 7 = nI kc := hb.1.2.2.1
  have m1 : μ.1 127 3 = nI kc := hb.2.1.2.2.1
  by_cases c : kc = 0
  · have c2 : nI kc = 0 := by rw [c]; rfl
    refine ⟨-2, μ, Zr μ, ?_, ?_, inv_Z hI⟩
    · unfold F_X11_vote
      simp only [↓reduceIte, obs, q0, q1, q2, q11, q13, q17, q20, q21, q24, q104, q111, q112, q116, q125, q127, g0_0, g0_1, g0_2, g0_3, g0_4, g0_5, g0_6, g0_7, p0_7, g0_8, g0_9, g0_10, g0_11, g0_12, g0_13, p0_13, g0_14, g0_15, g0_16, g0_17, g0_18, g1_0, g1_1, g1_2, g1_3, g1_4, g1_5, p1_5, g1_6, p1_6, g1_7, p1_7, g1_8, p1_8, g2_0, g2_1, g2_2, g2_3, g2_4, p2_4, g11_0, g11_1, p11_1, g11_2, p11_2, g11_3, p11_3, g13_0, g13_1, g13_2, g13_3, g17_0, g17_1, g17_2, p17_2, g20_0, g20_1, g21_0, g21_1, g21_2, p21_2, g24_0, g24_1, p24_1, g24_2, p24_2, g104_0, g104_1, g104_2, g104_3, g104_4, p104_4, g111_0, g111_1, p111_1, g111_2, p111_2, g111_3, p111_3, g112_0, g112_1, g112_2, g112_3, g112_4, p112_4, g116_0, g116_1, g116_2, g116_3, g116_4, g125_0, p125_0, g125_1, p125_1, g127_0, g127_1, p127_1, g127_2, p127_2, g127_3, p127_3, g127_4, g127_5, g127_6, p127_6, g127_7, g127_8, p127_8, g127_9, g127_10, p127_10, g127_11, p127_11, g127_12, g127_13, p127_13, g127_14, p127_14, g127_15, p127_15, g127_16, p127_16, g127_17, g127_18, g127_19, p127_19, g127_20, p127_20, g127_21, g127_22, g127_23, p127_23, g127_24, g127_25, g127_26, g127_27, g127_28, g127_29, p127_29, g127_30, p127_30, g127_31, g127_32, g127_33, p127_33, g127_34, p127_34, g127_35, p127_35, g127_36, p127_36, g127_37, g127_38, p127_38, g127_39, p127_39, g127_40, g127_41, g127_42, t1, c2]
    · unfold F_X12_vote
      simp only [if_pos q127, p11, ↓reduceIte, obs, g127_3, show (Zr μ).1 127 3 = nI kc from m1, c2]
  · have c2 : ¬ nI kc = 0 := nI_ne0 (by omega) (by omega)
    refine ⟨(it (vtS μ hc tc kc lm) (0, -1) kc).1, TB (T0 μ) 0 (it (vtS μ hc tc kc lm) (0, -1) kc).2.toInt64, R1 μ (it (vtS μ hc tc kc lm) (0, -1) kc).2.toInt64, ?_, ?_, inv_R1 hI⟩
    · unfold F_X11_vote
      simp only [↓reduceIte, obs, q0, q1, q2, q11, q13, q17, q20, q21, q24, q104, q111, q112, q116, q125, q127, g0_0, g0_1, g0_2, g0_3, g0_4, g0_5, g0_6, g0_7, p0_7, g0_8, g0_9, g0_10, g0_11, g0_12, g0_13, p0_13, g0_14, g0_15, g0_16, g0_17, g0_18, g1_0, g1_1, g1_2, g1_3, g1_4, g1_5, p1_5, g1_6, p1_6, g1_7, p1_7, g1_8, p1_8, g2_0, g2_1, g2_2, g2_3, g2_4, p2_4, g11_0, g11_1, p11_1, g11_2, p11_2, g11_3, p11_3, g13_0, g13_1, g13_2, g13_3, g17_0, g17_1, g17_2, p17_2, g20_0, g20_1, g21_0, g21_1, g21_2, p21_2, g24_0, g24_1, p24_1, g24_2, p24_2, g104_0, g104_1, g104_2, g104_3, g104_4, p104_4, g111_0, g111_1, p111_1, g111_2, p111_2, g111_3, p111_3, g112_0, g112_1, g112_2, g112_3, g112_4, p112_4, g116_0, g116_1, g116_2, g116_3, g116_4, g125_0, p125_0, g125_1, p125_1, g127_0, g127_1, p127_1, g127_2, p127_2, g127_3, p127_3, g127_4, g127_5, g127_6, p127_6, g127_7, g127_8, p127_8, g127_9, g127_10, p127_10, g127_11, p127_11, g127_12, g127_13, p127_13, g127_14, p127_14, g127_15, p127_15, g127_16, p127_16, g127_17, g127_18, g127_19, p127_19, g127_20, p127_20, g127_21, g127_22, g127_23, p127_23, g127_24, g127_25, g127_26, g127_27, g127_28, g127_29, p127_29, g127_30, p127_30, g127_31, g127_32, g127_33, p127_33, g127_34, p127_34, g127_35, p127_35, g127_36, p127_36, g127_37, g127_38, p127_38, g127_39, p127_39, g127_40, g127_41, g127_42, t1, c2, X_vote hb]
    · have e : cl (Zr (TB (T0 μ) 0 (it (vtS μ hc tc kc lm) (0, -1) kc).2.toInt64)) = cl μ := by rw [cl_Z, cl_TB, cl_T0]
      unfold F_X12_vote
      simp only [if_pos q127, p11, ↓reduceIte, obs, g127_3, show (Zr (TB (T0 μ) 0 (it (vtS μ hc tc kc lm) (0, -1) kc).2.toInt64)).1 127 3 = nI kc from m1, c2, Y_vote hb e]
      rfl
