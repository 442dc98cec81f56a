/-! PURE: pairs: the small calls, 3. -/
section SGN
variable {κ : Kp} {μ : Mem}
def sgn (μ : Mem) (ln : Nat) (v : Int32) : Mem := upI (upI μ 12 ln v) 11 1 (nI (ln + 1))
def sgm (μ : Mem) (ln : Nat) (v : Int32) : Mem := upI (upI μ 127 8 (nI (ln + 1))) 131 ln v
theorem x_append {ln : Nat} {v : Int32} (h : μ.1 11 1 = nI ln) (hl : ln < 80) : F_X9_append 11 v (hp κ μ) = some (hp κ (sgn μ ln v)) := by
  unfold F_X9_append
  have h8 : ¬ (80 : Int32) ≤ nI ln := nI_ge hl (by decide)
  simp only [↓reduceIte, obs, q0, q1, q2, q11, q13, q17, q20, q21, q24, q104, q111, q112, q116, q125, q127, g0_0, g0_1, g0_2, g0_3, g0_4, g0_5, g0_6, g0_7, p0_7, g0_8, g0_9, g0_10, g0_11, g0_12, g0_13, p0_13, g0_14, g0_15, g0_16, g0_17, g0_18, g1_0, g1_1, g1_2, g1_3, g1_4, g1_5, p1_5, g1_6, p1_6, g1_7, p1_7, g1_8, p1_8, g2_0, g2_1, g2_2, g2_3, g2_4, p2_4, g11_0, g11_1, p11_1, g11_2, p11_2, g11_3, p11_3, g13_0, g13_1, g13_2, g13_3, g17_0, g17_1, g17_2, p17_2, g20_0, g20_1, g21_0, g21_1, g21_2, p21_2, g24_0, g24_1, p24_1, g24_2, p24_2, g104_0, g104_1, g104_2, g104_3, g104_4, p104_4, g111_0, g111_1, p111_1, g111_2, p111_2, g111_3, p111_3, g112_0, g112_1, g112_2, g112_3, g112_4, p112_4, g116_0, g116_1, g116_2, g116_3, g116_4, g125_0, p125_0, g125_1, p125_1, g127_0, g127_1, p127_1, g127_2, p127_2, g127_3, p127_3, g127_4, g127_5, g127_6, p127_6, g127_7, g127_8, p127_8, g127_9, g127_10, p127_10, g127_11, p127_11, g127_12, g127_13, p127_13, g127_14, p127_14, g127_15, p127_15, g127_16, p127_16, g127_17, g127_18, g127_19, p127_19, g127_20, p127_20, g127_21, g127_22, g127_23, p127_23, g127_24, g127_25, g127_26, g127_27, g127_28, g127_29, p127_29, g127_30, p127_30, g127_31, g127_32, g127_33, p127_33, g127_34, p127_34, g127_35, p127_35, g127_36, p127_36, g127_37, g127_38, p127_38, g127_39, p127_39, g127_40, g127_41, g127_42, h, h8, w12 hl, show (upI μ 12 ln v).1 11 1 = nI ln from h, nI_1]
  rfl
theorem x_sign_loop {ln : Nat} {x : Int32} (n : Nat) (h : μ.1 11 1 = nI ln) (hl : ln + 4 ≤ 80) : b_X11_sign_19 0 x (n + 5) 24 (hp κ μ) = some (nI (ln + 4), hp κ (sgn (sgn (sgn (sgn μ ln ((x.toUInt32 >>> ((nI 24).toUInt32 &&& Int32.toUInt32 31)).toInt32 &&& 255)) (ln + 1) ((x.toUInt32 >>> ((nI 16).toUInt32 &&& Int32.toUInt32 31)).toInt32 &&& 255)) (ln + 2) ((x.toUInt32 >>> ((nI 8).toUInt32 &&& Int32.toUInt32 31)).toInt32 &&& 255)) (ln + 3) ((x.toUInt32 >>> ((nI 0).toUInt32 &&& Int32.toUInt32 31)).toInt32 &&& 255))) := by
  have e1 : (24 : Int32) + (-8) = 16 := rfl
  have e2 : (16 : Int32) + (-8) = 8 := rfl
  have e3 : (8 : Int32) + (-8) = 0 := rfl
  have e4 : (0 : Int32) + (-8) = -8 := rfl
  rw [b_X11_sign_19, if_neg (by decide), g0_1, obs, x_append h (by omega), obs, e1]
  rw [b_X11_sign_19, if_neg (by decide), g0_1, obs, x_append (ln := ln + 1) rfl (by omega), obs, e2]
  rw [b_X11_sign_19, if_neg (by decide), g0_1, obs, x_append (ln := ln + 2) rfl (by omega), obs, e3]
  rw [b_X11_sign_19, if_neg (by decide), g0_1, obs, x_append (ln := ln + 3) rfl (by omega), obs, e4]
  rw [b_X11_sign_19, if_pos (by decide), g0_1, obs, g11_1, obs]
  rfl
theorem y_sign_step {ln k : Nat} {x v : Int32} (n : Nat) (h : μ.1 127 8 = nI ln) (hl : ln < 80) (hk : k < 4) (hv : (x >>> ((8 * nI k) &&& 31)).toInt8.toInt32 = v) : b_X12_sign_20 127 x (n + 1) (nI k) (hp κ μ) = b_X12_sign_20 127 x n (nI k + (-1)) (hp κ (sgm μ ln v)) := by
  rw [b_X12_sign_20, if_neg (nI_pos (by omega)), g127_7, obs, g127_8, obs, h, nI_1, p127_8, obs, w131 hl, obs, pk_vb, hv]
  rfl
theorem y_sign_loop {ln : Nat} {x v3 v2 v1 v0 : Int32} (n : Nat) (h : μ.1 127 8 = nI ln) (hl : ln + 4 ≤ 80) (h3 : (x >>> ((8 * nI 3) &&& 31)).toInt8.toInt32 = v3) (h2 : (x >>> ((8 * nI 2) &&& 31)).toInt8.toInt32 = v2) (h1 : (x >>> ((8 * nI 1) &&& 31)).toInt8.toInt32 = v1) (h0 : (x >>> ((8 * nI 0) &&& 31)).toInt8.toInt32 = v0) : b_X12_sign_20 127 x (n + 5) 3 (hp κ μ) = some (nI (ln + 4), hp κ (sgm (sgm (sgm (sgm μ ln v3) (ln + 1) v2) (ln + 2) v1) (ln + 3) v0)) := by
  have e1 : nI 3 + (-1) = nI 2 := rfl
  have e2 : nI 2 + (-1) = nI 1 := rfl
  have e3 : nI 1 + (-1) = nI 0 := rfl
  show b_X12_sign_20 127 x (n + 4 + 1) (nI 3) (hp κ μ) = _
  rw [y_sign_step (n + 4) h (by omega) (by decide) h3, e1, y_sign_step (n + 3) (ln := ln + 1) rfl (by omega) (by decide) h2, e2, y_sign_step (n + 2) (ln := ln + 2) rfl (by omega) (by decide) h1, e3, y_sign_step (n + 1) (ln := ln + 3) rfl (by omega) (by decide) h0]
  rw [b_X12_sign_20, if_pos (by decide), g127_8, obs]
  rfl
theorem sg_by (x : Int32) (k : Nat) (hk : k < 4) : ∃ c, c < 256 ∧ (x.toUInt32 >>> ((nI (8 * k)).toUInt32 &&& Int32.toUInt32 31)).toInt32 &&& 255 = nI c ∧ (x >>> ((8 * nI k) &&& 31)).toInt8.toInt32 = by8 c := by
  obtain ⟨c, hc, e⟩ := pk_andE ((x.toUInt32 >>> ((nI (8 * k)).toUInt32 &&& Int32.toUInt32 31)).toInt32) (m := 255) 8 rfl
  refine ⟨c, hc, e, ?_⟩
  unfold by8
  rw [← e, ← fa_byte_low]
  congr 2
  refine b_ext (fun i hi => ?_)
  have e8 : (8 : Int32) * nI k = nI (8 * k) := pk_mul 8 k
  rw [e8, b_and, b_and, b_255, b_ushr (8 * k) (by omega), b_sshr (8 * k) (by omega) x hi]
  by_cases h8 : i < 8
  · rw [if_pos (by omega)]
  · simp [h8]
end SGN
theorem upd4 (f : Nat → Int32) (n i : Nat) (a b c d : Int32) (h : i < n) : upd (upd (upd (upd f n a) (n + 1) b) (n + 2) c) (n + 3) d i = f i := by
  rw [pk_un (by omega), pk_un (by omega), pk_un (by omega), pk_un (by omega)]
theorem upd4a (f : Nat → Int32) (n : Nat) (a b c d : Int32) : upd (upd (upd (upd f n a) (n + 1) b) (n + 2) c) (n + 3) d n = a := by
  rw [pk_un (by omega), pk_un (by omega), pk_un (by omega), pk_us]
theorem upd4b (f : Nat → Int32) (n : Nat) (a b c d : Int32) : upd (upd (upd (upd f n a) (n + 1) b) (n + 2) c) (n + 3) d (n + 1) = b := by
  rw [pk_un (by omega), pk_un (by omega), pk_us]
theorem upd4c (f : Nat → Int32) (n : Nat) (a b c d : Int32) : upd (upd (upd (upd f n a) (n + 1) b) (n + 2) c) (n + 3) d (n + 2) = c := by
  rw [pk_un (by omega), pk_us]
theorem pr_sign : P1 F_X11_sign F_X12_sign := by
  intro x κ B μ hR hB hI0
  dsimp only
  obtain ⟨hI, hrow⟩ := hI0
  obtain ⟨hc, tc, kc, lm, h1, h2, h3, h4, h5, ⟨ln, t1, t2, t3, t4⟩, h7, h8, h9, h10⟩ := hI.up (B' := B + 1200) (by omega)
  have t2' : μ.1 11 1 = nI ln := t2
  have t3' : μ.1 127 8 = nI ln := t3
  by_cases hl : ln + 4 ≤ 80
  · have c : nI ln + 4 ≤ (80 : Int32) := by
      show nI ln + nI 4 ≤ nI 80
      rw [nI_add]
      exact nI_le hl (by decide)
    obtain ⟨c3, k3, e3, f3⟩ := sg_by x 3 (by decide)
    obtain ⟨c2, k2, e2, f2⟩ := sg_by x 2 (by decide)
    obtain ⟨c1, k1, e1, f1⟩ := sg_by x 1 (by decide)
    obtain ⟨c0, k0, e0, f0⟩ := sg_by x 0 (by decide)
    have hf : F_X11_sign 0 x (hp κ μ) = some (nI (ln + 4), hp κ (sgn (sgn (sgn (sgn μ ln (nI c3)) (ln + 1) (nI c2)) (ln + 2) (nI c1)) (ln + 3) (nI c0))) := by
      unfold F_X11_sign
      simp only [↓reduceIte, obs, q0, q1, q2, q11, q13, q17, q20, q21, q24, q104, q111, q112, q116, q125, q127, g0_0, g0_1, g0_2, g0_3, g0_4, g0_5, g0_6, g0_7, p0_7, g0_8, g0_9, g0_10, g0_11, g0_12, g0_13, p0_13, g0_14, g0_15, g0_16, g0_17, g0_18, g1_0, g1_1, g1_2, g1_3, g1_4, g1_5, p1_5, g1_6, p1_6, g1_7, p1_7, g1_8, p1_8, g2_0, g2_1, g2_2, g2_3, g2_4, p2_4, g11_0, g11_1, p11_1, g11_2, p11_2, g11_3, p11_3, g13_0, g13_1, g13_2, g13_3, g17_0, g17_1, g17_2, p17_2, g20_0, g20_1, g21_0, g21_1, g21_2, p21_2, g24_0, g24_1, p24_1, g24_2, p24_2, g104_0, g104_1, g104_2, g104_3, g104_4, p104_4, g111_0, g111_1, p111_1, g111_2, p111_2, g111_3, p111_3, g112_0, g112_1, g112_2, g112_3, g112_4, p112_4, g116_0, g116_1, g116_2, g116_3, g116_4, g125_0, p125_0, g125_1, p125_1, g127_0, g127_1, p127_1, g127_2, p127_2, g127_3, p127_3, g127_4, g127_5, g127_6, p127_6, g127_7, g127_8, p127_8, g127_9, g127_10, p127_10, g127_11, p127_11, g127_12, g127_13, p127_13, g127_14, p127_14, g127_15, p127_15, g127_16, p127_16, g127_17, g127_18, g127_19, p127_19, g127_20, p127_20, g127_21, g127_22, g127_23, p127_23, g127_24, g127_25, g127_26, g127_27, g127_28, g127_29, p127_29, g127_30, p127_30, g127_31, g127_32, g127_33, p127_33, g127_34, p127_34, g127_35, p127_35, g127_36, p127_36, g127_37, g127_38, p127_38, g127_39, p127_39, g127_40, g127_41, g127_42, t2', c]
      rw [← e3, ← e2, ← e1, ← e0]
      exact x_sign_loop 4995 t2' hl
    have hg := y_sign_loop (κ := κ) (μ := Zr (sgn (sgn (sgn (sgn μ ln (nI c3)) (ln + 1) (nI c2)) (ln + 2) (nI c1)) (ln + 3) (nI c0))) (x := x) 4995 t3' hl f3 f2 f1 f0
    have s : Sm [11, 12, 127, 131] μ (sgm (sgm (sgm (sgm (Zr (sgn (sgn (sgn (sgn μ ln (nI c3)) (ln + 1) (nI c2)) (ln + 2) (nI c1)) (ln + 3) (nI c0))) ln (by8 c3)) (ln + 1) (by8 c2)) (ln + 2) (by8 c1)) (ln + 3) (by8 c0)) := ((((((((((((((((Sm.rf.up rfl).up rfl).up rfl).up rfl).up rfl).up rfl).up rfl).up rfl).up rfl).up rfl).up rfl).up rfl).up rfl).up rfl).up rfl).up rfl).up rfl
    have hg2 : F_X12_sign 127 x (hp κ (sgn (sgn (sgn (sgn μ ln (nI c3)) (ln + 1) (nI c2)) (ln + 2) (nI c1)) (ln + 3) (nI c0))) = some (nI (ln + 4), hp κ (sgm (sgm (sgm (sgm (Zr (sgn (sgn (sgn (sgn μ ln (nI c3)) (ln + 1) (nI c2)) (ln + 2) (nI c1)) (ln + 3) (nI c0))) ln (by8 c3)) (ln + 1) (by8 c2)) (ln + 2) (by8 c1)) (ln + 3) (by8 c0))) := by
      unfold F_X12_sign
      simp only [↓reduceIte, obs, q0, q1, q2, q11, q13, q17, q20, q21, q24, q104, q111, q112, q116, q125, q127, g0_0, g0_1, g0_2, g0_3, g0_4, g0_5, g0_6, g0_7, p0_7, g0_8, g0_9, g0_10, g0_11, g0_12, g0_13, p0_13, g0_14, g0_15, g0_16, g0_17, g0_18, g1_0, g1_1, g1_2, g1_3, g1_4, g1_5, p1_5, g1_6, p1_6, g1_7, p1_7, g1_8, p1_8, g2_0, g2_1, g2_2, g2_3, g2_4, p2_4, g11_0, g11_1, p11_1, g11_2, p11_2, g11_3, p11_3, g13_0, g13_1, g13_2, g13_3, g17_0, g17_1, g17_2, p17_2, g20_0, g20_1, g21_0, g21_1, g21_2, p21_2, g24_0, g24_1, p24_1, g24_2, p24_2, g104_0, g104_1, g104_2, g104_3, g104_4, p104_4, g111_0, g111_1, p111_1, g111_2, p111_2, g111_3, p111_3, g112_0, g112_1, g112_2, g112_3, g112_4, p112_4, g116_0, g116_1, g116_2, g116_3, g116_4, g125_0, p125_0, g125_1, p125_1, g127_0, g127_1, p127_1, g127_2, p127_2, g127_3, p127_3, g127_4, g127_5, g127_6, p127_6, g127_7, g127_8, p127_8, g127_9, g127_10, p127_10, g127_11, p127_11, g127_12, g127_13, p127_13, g127_14, p127_14, g127_15, p127_15, g127_16, p127_16, g127_17, g127_18, g127_19, p127_19, g127_20, p127_20, g127_21, g127_22, g127_23, p127_23, g127_24, g127_25, g127_26, g127_27, g127_28, g127_29, p127_29, g127_30, p127_30, g127_31, g127_32, g127_33, p127_33, g127_34, p127_34, g127_35, p127_35, g127_36, p127_36, g127_37, g127_38, p127_38, g127_39, p127_39, g127_40, g127_41, g127_42, show (upI (sgn (sgn (sgn (sgn μ ln (nI c3)) (ln + 1) (nI c2)) (ln + 2) (nI c1)) (ln + 3) (nI c0)) 127 11 0).1 127 8 = nI ln from t3', c]
      exact hg
    refine ⟨_, _, _, hf, hg2, ⟨hc, tc, kc, lm, h1, h2, h3, h4, h5, ⟨ln + 4, hl, rfl, rfl, ?_⟩, h7, h8.sm s rfl rfl rfl, h9.sm s rfl rfl rfl rfl rfl, h10⟩, hrow⟩
    · intro i hi
      show ∃ c, c < 256 ∧ upd (upd (upd (upd (μ.1 12) ln (nI c3)) (ln + 1) (nI c2)) (ln + 2) (nI c1)) (ln + 3) (nI c0) i = nI c ∧ upd (upd (upd (upd (μ.1 131) ln (by8 c3)) (ln + 1) (by8 c2)) (ln + 2) (by8 c1)) (ln + 3) (by8 c0) i = by8 c
      by_cases z0 : i < ln
      · rw [upd4 _ _ _ _ _ _ _ z0, upd4 _ _ _ _ _ _ _ z0]
        exact t4 i z0
      · have : i = ln ∨ i = ln + 1 ∨ i = ln + 2 ∨ i = ln + 3 := by omega
        rcases this with rfl | rfl | rfl | rfl
        · rw [upd4a, upd4a]; exact ⟨c3, k3, rfl, rfl⟩
        · rw [upd4b, upd4b]; exact ⟨c2, k2, rfl, rfl⟩
        · rw [upd4c, upd4c]; exact ⟨c1, k1, rfl, rfl⟩
        · rw [pk_us, pk_us]; exact ⟨c0, k0, rfl, rfl⟩
  · have c : ¬ nI ln + 4 ≤ (80 : Int32) := by
      show ¬ nI ln + nI 4 ≤ nI 80
      rw [nI_add]
      exact nI_ge (by omega) (by omega)
    refine ⟨-1, μ, Zr μ, ?_, ?_, inv_Z ⟨hI, hrow⟩⟩
    · unfold F_X11_sign
      simp only [↓reduceIte, obs, q0, q1, q2, q11, q13, q17, q20, q21, q24, q104, q111, q112, q116, q125, q127, g0_0, g0_1, g0_2, g0_3, g0_4, g0_5, g0_6, g0_7, p0_7, g0_8, g0_9, g0_10, g0_11, g0_12, g0_13, p0_13, g0_14, g0_15, g0_16, g0_17, g0_18, g1_0, g1_1, g1_2, g1_3, g1_4, g1_5, p1_5, g1_6, p1_6, g1_7, p1_7, g1_8, p1_8, g2_0, g2_1, g2_2, g2_3, g2_4, p2_4, g11_0, g11_1, p11_1, g11_2, p11_2, g11_3, p11_3, g13_0, g13_1, g13_2, g13_3, g17_0, g17_1, g17_2, p17_2, g20_0, g20_1, g21_0, g21_1, g21_2, p21_2, g24_0, g24_1, p24_1, g24_2, p24_2, g104_0, g104_1, g104_2, g104_3, g104_4, p104_4, g111_0, g111_1, p111_1, g111_2, p111_2, g111_3, p111_3, g112_0, g112_1, g112_2, g112_3, g112_4, p112_4, g116_0, g116_1, g116_2, g116_3, g116_4, g125_0, p125_0, g125_1, p125_1, g127_0, g127_1, p127_1, g127_2, p127_2, g127_3, p127_3, g127_4, g127_5, g127_6, p127_6, g127_7, g127_8, p127_8, g127_9, g127_10, p127_10, g127_11, p127_11, g127_12, g127_13, p127_13, g127_14, p127_14, g127_15, p127_15, g127_16, p127_16, g127_17, g127_18, g127_19, p127_19, g127_20, p127_20, g127_21, g127_22, g127_23, p127_23, g127_24, g127_25, g127_26, g127_27, g127_28, g127_29, p127_29, g127_30, p127_30, g127_31, g127_32, g127_33, p127_33, g127_34, p127_34, g127_35, p127_35, g127_36, p127_36, g127_37, g127_38, p127_38, g127_39, p127_39, g127_40, g127_41, g127_42, t2', c]
    · unfold F_X12_sign
      simp only [↓reduceIte, obs, q0, q1, q2, q11, q13, q17, q20, q21, q24, q104, q111, q112, q116, q125, q127, g0_0, g0_1, g0_2, g0_3, g0_4, g0_5, g0_6, g0_7, p0_7, g0_8, g0_9, g0_10, g0_11, g0_12, g0_13, p0_13, g0_14, g0_15, g0_16, g0_17, g0_18, g1_0, g1_1, g1_2, g1_3, g1_4, g1_5, p1_5, g1_6, p1_6, g1_7, p1_7, g1_8, p1_8, g2_0, g2_1, g2_2, g2_3, g2_4, p2_4, g11_0, g11_1, p11_1, g11_2, p11_2, g11_3, p11_3, g13_0, g13_1, g13_2, g13_3, g17_0, g17_1, g17_2, p17_2, g20_0, g20_1, g21_0, g21_1, g21_2, p21_2, g24_0, g24_1, p24_1, g24_2, p24_2, g104_0, g104_1, g104_2, g104_3, g104_4, p104_4, g111_0, g111_1, p111_1, g111_2, p111_2, g111_3, p111_3, g112_0, g112_1, g112_2, g112_3, g112_4, p112_4, g116_0, g116_1, g116_2, g116_3, g116_4, g125_0, p125_0, g125_1, p125_1, g127_0, g127_1, p127_1, g127_2, p127_2, g127_3, p127_3, g127_4, g127_5, g127_6, p127_6, g127_7, g127_8, p127_8, g127_9, g127_10, p127_10, g127_11, p127_11, g127_12, g127_13, p127_13, g127_14, p127_14, g127_15, p127_15, g127_16, p127_16, g127_17, g127_18, g127_19, p127_19, g127_20, p127_20, g127_21, g127_22, g127_23, p127_23, g127_24, g127_25, g127_26, g127_27, g127_28, g127_29, p127_29, g127_30, p127_30, g127_31, g127_32, g127_33, p127_33, g127_34, p127_34, g127_35, p127_35, g127_36, p127_36, g127_37, g127_38, p127_38, g127_39, p127_39, g127_40, g127_41, g127_42, show (upI μ 127 11 0).1 127 8 = nI ln from t3', c]
      rfl
theorem pr_heard : P2 F_X11_heard F_X12_heard := by
  intro x y κ B μ hR hB hI0
  dsimp only
  obtain ⟨hc0, tc0, kc0, lm0, hb⟩ := hI0.bs
  obtain ⟨hI, hrow⟩ := hI0
  obtain ⟨hc, tc, kc, lm, h1, h2, h3, h4, h5, h6, ⟨hd, bs, a1, a2, a3, a4, a5, a6⟩, h8, h9, h10⟩ := hI.up (B' := B + 1200) (by omega)
  have etc : tc0 = tc := by
    have e1 : nI tc0 = nI tc := hb.1.2.1.symm.trans h1.1.2.1
    have := hb.b2
    have := h1.2.2.2.1
    exact (i_eq (by omega) (by omega)).mp e1
  subst etc
  have a3' : μ.1 0 13 = nI hd := a3
  have a4' : μ.1 127 33 = nI hd := a4
  have a5' : μ.1 127 34 = nI bs := a5
  rcases ix_tc hb x with ⟨t, ht, rfl⟩ | hx
  · rcases rng y 0 1 0 1 rfl rfl (by omega) (by omega) with ⟨j, j1, j2, rfl, c1, c2, c3, c4, c5⟩ | ⟨c1, c2, c3⟩ | ⟨c1, c2, c3, c4, c5⟩
    · by_cases hd2 : hd < 12
      · have c6 : nI hd < (12 : Int32) := nI_lt hd2 (by decide)
        have c7 : ¬ nI hd = (12 : Int32) := fun z => by have := (i_eq (a := hd) (b := 12) (by omega) (by decide)).mp z; omega
        have c8 : nI j <<< (nI hd &&& 31) = nI (j * 2 ^ hd) := pk_shlN _ hd (s_l hd (by omega)) (by
          have h9 : 2 ^ hd ≤ 2 ^ 12 := Nat.pow_le_pow_right (by decide) (by omega)
          have : j * 2 ^ hd ≤ 1 * 2 ^ 12 := Nat.mul_le_mul j2 h9
          omega)
        have c9 : (nI bs &&& (((1 : Int32) <<< (nI hd &&& 31)) ^^^ (-1))) ||| (nI j <<< (nI hd &&& 31)) = nI (sd bs (2 ^ hd) ||| j * 2 ^ hd) := by rw [i_sh1 hd (by omega), i_sd, c8, i_or]
        have s : Sm [0, 109, 110, 127, 143] μ (upI (upI (upI (Zr (upI (upI (upI μ 109 hd (nI t)) 110 hd (nI j)) 0 13 (nI (hd + 1)))) 143 hd (nI t)) 127 34 (nI (sd bs (2 ^ hd) ||| j * 2 ^ hd))) 127 33 (nI (hd + 1))) := ((((((Sm.rf.up rfl).up rfl).up rfl).up rfl).up rfl).up rfl).up rfl
        refine ⟨nI (hd + 1), upI (upI (upI μ 109 hd (nI t)) 110 hd (nI j)) 0 13 (nI (hd + 1)), upI (upI (upI (Zr (upI (upI (upI μ 109 hd (nI t)) 110 hd (nI j)) 0 13 (nI (hd + 1)))) 143 hd (nI t)) 127 34 (nI (sd bs (2 ^ hd) ||| j * 2 ^ hd))) 127 33 (nI (hd + 1)), ?_, ?_, ⟨hc, tc0, kc, lm, h1, h2, h3, h4, h5, h6, ⟨hd + 1, sd bs (2 ^ hd) ||| j * 2 ^ hd, by omega, ?_, rfl, rfl, rfl, ?_⟩, h8.sm s rfl rfl rfl, h9.sm s rfl rfl rfl rfl rfl, h10⟩, hrow⟩
        · unfold F_X11_heard
          simp only [↓reduceIte, obs, q0, q1, q2, q11, q13, q17, q20, q21, q24, q104, q111, q112, q116, q125, q127, g0_0, g0_1, g0_2, g0_3, g0_4, g0_5, g0_6, g0_7, p0_7, g0_8, g0_9, g0_10, g0_11, g0_12, g0_13, p0_13, g0_14, g0_15, g0_16, g0_17, g0_18, g1_0, g1_1, g1_2, g1_3, g1_4, g1_5, p1_5, g1_6, p1_6, g1_7, p1_7, g1_8, p1_8, g2_0, g2_1, g2_2, g2_3, g2_4, p2_4, g11_0, g11_1, p11_1, g11_2, p11_2, g11_3, p11_3, g13_0, g13_1, g13_2, g13_3, g17_0, g17_1, g17_2, p17_2, g20_0, g20_1, g21_0, g21_1, g21_2, p21_2, g24_0, g24_1, p24_1, g24_2, p24_2, g104_0, g104_1, g104_2, g104_3, g104_4, p104_4, g111_0, g111_1, p111_1, g111_2, p111_2, g111_3, p111_3, g112_0, g112_1, g112_2, g112_3, g112_4, p112_4, g116_0, g116_1, g116_2, g116_3, g116_4, g125_0, p125_0, g125_1, p125_1, g127_0, g127_1, p127_1, g127_2, p127_2, g127_3, p127_3, g127_4, g127_5, g127_6, p127_6, g127_7, g127_8, p127_8, g127_9, g127_10, p127_10, g127_11, p127_11, g127_12, g127_13, p127_13, g127_14, p127_14, g127_15, p127_15, g127_16, p127_16, g127_17, g127_18, g127_19, p127_19, g127_20, p127_20, g127_21, g127_22, g127_23, p127_23, g127_24, g127_25, g127_26, g127_27, g127_28, g127_29, p127_29, g127_30, p127_30, g127_31, g127_32, g127_33, p127_33, g127_34, p127_34, g127_35, p127_35, g127_36, p127_36, g127_37, g127_38, p127_38, g127_39, p127_39, g127_40, g127_41, g127_42, X_hasThing1 hb rfl ht, show ¬ (1 : Int32) = 0 by decide, c1, c3, a3', c6, w109 hd2, show (upI μ 109 hd (nI t)).1 0 13 = nI hd from a3, w110 hd2, show (upI (upI μ 109 hd (nI t)) 110 hd (nI j)).1 0 13 = nI hd from a3, nI_1]
          rfl
        · unfold F_X12_heard
          have hM : Mn (upI (upI (upI (upI μ 109 hd (nI t)) 110 hd (nI j)) 0 13 (nI (hd + 1))) 127 11 0) hc0 tc0 kc0 lm0 := hb.2.1
          have hT : F_X12_isThing 127 (nI t) (hp κ (upI (upI (upI (upI μ 109 hd (nI t)) 110 hd (nI j)) 0 13 (nI (hd + 1))) 127 11 0)) = some (1, hp κ (upI (upI (upI (upI μ 109 hd (nI t)) 110 hd (nI j)) 0 13 (nI (hd + 1))) 127 11 0)) := by
            rcases y_isThing (κ := κ) hM (nI t) with ⟨i, _, _, h3⟩ | ⟨h1, _⟩
            · exact h3
            · exact absurd rfl (h1 t ht)
          simp only [↓reduceIte, obs, q0, q1, q2, q11, q13, q17, q20, q21, q24, q104, q111, q112, q116, q125, q127, g0_0, g0_1, g0_2, g0_3, g0_4, g0_5, g0_6, g0_7, p0_7, g0_8, g0_9, g0_10, g0_11, g0_12, g0_13, p0_13, g0_14, g0_15, g0_16, g0_17, g0_18, g1_0, g1_1, g1_2, g1_3, g1_4, g1_5, p1_5, g1_6, p1_6, g1_7, p1_7, g1_8, p1_8, g2_0, g2_1, g2_2, g2_3, g2_4, p2_4, g11_0, g11_1, p11_1, g11_2, p11_2, g11_3, p11_3, g13_0, g13_1, g13_2, g13_3, g17_0, g17_1, g17_2, p17_2, g20_0, g20_1, g21_0, g21_1, g21_2, p21_2, g24_0, g24_1, p24_1, g24_2, p24_2, g104_0, g104_1, g104_2, g104_3, g104_4, p104_4, g111_0, g111_1, p111_1, g111_2, p111_2, g111_3, p111_3, g112_0, g112_1, g112_2, g112_3, g112_4, p112_4, g116_0, g116_1, g116_2, g116_3, g116_4, g125_0, p125_0, g125_1, p125_1, g127_0, g127_1, p127_1, g127_2, p127_2, g127_3, p127_3, g127_4, g127_5, g127_6, p127_6, g127_7, g127_8, p127_8, g127_9, g127_10, p127_10, g127_11, p127_11, g127_12, g127_13, p127_13, g127_14, p127_14, g127_15, p127_15, g127_16, p127_16, g127_17, g127_18, g127_19, p127_19, g127_20, p127_20, g127_21, g127_22, g127_23, p127_23, g127_24, g127_25, g127_26, g127_27, g127_28, g127_29, p127_29, g127_30, p127_30, g127_31, g127_32, g127_33, p127_33, g127_34, p127_34, g127_35, p127_35, g127_36, p127_36, g127_37, g127_38, p127_38, g127_39, p127_39, g127_40, g127_41, g127_42, hT, show ¬ (1 : Int32) = 0 by decide, c5]
          simp only [show (upI (upI (upI (upI μ 109 hd (nI t)) 110 hd (nI j)) 0 13 (nI (hd + 1))) 127 11 0).1 127 33 = nI hd from a4, c7, w143 hd2, ↓reduceIte, obs, q0, q1, q2, q11, q13, q17, q20, q21, q24, q104, q111, q112, q116, q125, q127, g0_0, g0_1, g0_2, g0_3, g0_4, g0_5, g0_6, g0_7, p0_7, g0_8, g0_9, g0_10, g0_11, g0_12, g0_13, p0_13, g0_14, g0_15, g0_16, g0_17, g0_18, g1_0, g1_1, g1_2, g1_3, g1_4, g1_5, p1_5, g1_6, p1_6, g1_7, p1_7, g1_8, p1_8, g2_0, g2_1, g2_2, g2_3, g2_4, p2_4, g11_0, g11_1, p11_1, g11_2, p11_2, g11_3, p11_3, g13_0, g13_1, g13_2, g13_3, g17_0, g17_1, g17_2, p17_2, g20_0, g20_1, g21_0, g21_1, g21_2, p21_2, g24_0, g24_1, p24_1, g24_2, p24_2, g104_0, g104_1, g104_2, g104_3, g104_4, p104_4, g111_0, g111_1, p111_1, g111_2, p111_2, g111_3, p111_3, g112_0, g112_1, g112_2, g112_3, g112_4, p112_4, g116_0, g116_1, g116_2, g116_3, g116_4, g125_0, p125_0, g125_1, p125_1, g127_0, g127_1, p127_1, g127_2, p127_2, g127_3, p127_3, g127_4, g127_5, g127_6, p127_6, g127_7, g127_8, p127_8, g127_9, g127_10, p127_10, g127_11, p127_11, g127_12, g127_13, p127_13, g127_14, p127_14, g127_15, p127_15, g127_16, p127_16, g127_17, g127_18, g127_19, p127_19, g127_20, p127_20, g127_21, g127_22, g127_23, p127_23, g127_24, g127_25, g127_26, g127_27, g127_28, g127_29, p127_29, g127_30, p127_30, g127_31, g127_32, g127_33, p127_33, g127_34, p127_34, g127_35, p127_35, g127_36, p127_36, g127_37, g127_38, p127_38, g127_39, p127_39, g127_40, g127_41, g127_42]
          simp only [show (upI (upI (upI (upI (upI μ 109 hd (nI t)) 110 hd (nI j)) 0 13 (nI (hd + 1))) 127 11 0) 143 hd (nI t)).1 127 33 = nI hd from a4, show (upI (upI (upI (upI (upI μ 109 hd (nI t)) 110 hd (nI j)) 0 13 (nI (hd + 1))) 127 11 0) 143 hd (nI t)).1 127 34 = nI bs from a5, c9, ↓reduceIte, obs, q0, q1, q2, q11, q13, q17, q20, q21, q24, q104, q111, q112, q116, q125, q127, g0_0, g0_1, g0_2, g0_3, g0_4, g0_5, g0_6, g0_7, p0_7, g0_8, g0_9, g0_10, g0_11, g0_12, g0_13, p0_13, g0_14, g0_15, g0_16, g0_17, g0_18, g1_0, g1_1, g1_2, g1_3, g1_4, g1_5, p1_5, g1_6, p1_6, g1_7, p1_7, g1_8, p1_8, g2_0, g2_1, g2_2, g2_3, g2_4, p2_4, g11_0, g11_1, p11_1, g11_2, p11_2, g11_3, p11_3, g13_0, g13_1, g13_2, g13_3, g17_0, g17_1, g17_2, p17_2, g20_0, g20_1, g21_0, g21_1, g21_2, p21_2, g24_0, g24_1, p24_1, g24_2, p24_2, g104_0, g104_1, g104_2, g104_3, g104_4, p104_4, g111_0, g111_1, p111_1, g111_2, p111_2, g111_3, p111_3, g112_0, g112_1, g112_2, g112_3, g112_4, p112_4, g116_0, g116_1, g116_2, g116_3, g116_4, g125_0, p125_0, g125_1, p125_1, g127_0, g127_1, p127_1, g127_2, p127_2, g127_3, p127_3, g127_4, g127_5, g127_6, p127_6, g127_7, g127_8, p127_8, g127_9, g127_10, p127_10, g127_11, p127_11, g127_12, g127_13, p127_13, g127_14, p127_14, g127_15, p127_15, g127_16, p127_16, g127_17, g127_18, g127_19, p127_19, g127_20, p127_20, g127_21, g127_22, g127_23, p127_23, g127_24, g127_25, g127_26, g127_27, g127_28, g127_29, p127_29, g127_30, p127_30, g127_31, g127_32, g127_33, p127_33, g127_34, p127_34, g127_35, p127_35, g127_36, p127_36, g127_37, g127_38, p127_38, g127_39, p127_39, g127_40, g127_41, g127_42]
          simp only [show (upI (upI (upI (upI (upI (upI μ 109 hd (nI t)) 110 hd (nI j)) 0 13 (nI (hd + 1))) 127 11 0) 143 hd (nI t)) 127 34 (nI (sd bs (2 ^ hd) ||| j * 2 ^ hd))).1 127 33 = nI hd from a4, nI_1, ↓reduceIte, obs, q0, q1, q2, q11, q13, q17, q20, q21, q24, q104, q111, q112, q116, q125, q127, g0_0, g0_1, g0_2, g0_3, g0_4, g0_5, g0_6, g0_7, p0_7, g0_8, g0_9, g0_10, g0_11, g0_12, g0_13, p0_13, g0_14, g0_15, g0_16, g0_17, g0_18, g1_0, g1_1, g1_2, g1_3, g1_4, g1_5, p1_5, g1_6, p1_6, g1_7, p1_7, g1_8, p1_8, g2_0, g2_1, g2_2, g2_3, g2_4, p2_4, g11_0, g11_1, p11_1, g11_2, p11_2, g11_3, p11_3, g13_0, g13_1, g13_2, g13_3, g17_0, g17_1, g17_2, p17_2, g20_0, g20_1, g21_0, g21_1, g21_2, p21_2, g24_0, g24_1, p24_1, g24_2, p24_2, g104_0, g104_1, g104_2, g104_3, g104_4, p104_4, g111_0, g111_1, p111_1, g111_2, p111_2, g111_3, p111_3, g112_0, g112_1, g112_2, g112_3, g112_4, p112_4, g116_0, g116_1, g116_2, g116_3, g116_4, g125_0, p125_0, g125_1, p125_1, g127_0, g127_1, p127_1, g127_2, p127_2, g127_3, p127_3, g127_4, g127_5, g127_6, p127_6, g127_7, g127_8, p127_8, g127_9, g127_10, p127_10, g127_11, p127_11, g127_12, g127_13, p127_13, g127_14, p127_14, g127_15, p127_15, g127_16, p127_16, g127_17, g127_18, g127_19, p127_19, g127_20, p127_20, g127_21, g127_22, g127_23, p127_23, g127_24, g127_25, g127_26, g127_27, g127_28, g127_29, p127_29, g127_30, p127_30, g127_31, g127_32, g127_33, p127_33, g127_34, p127_34, g127_35, p127_35, g127_36, p127_36, g127_37, g127_38, p127_38, g127_39, p127_39, g127_40, g127_41, g127_42]
          rfl
        · refine or_l (n := 12) (sd_lt a2) ?_
          have h9 : 2 ^ hd ≤ 2 ^ 11 := Nat.pow_le_pow_right (by decide) (by omega)
          have : j * 2 ^ hd ≤ 1 * 2 ^ 11 := Nat.mul_le_mul j2 h9
          omega
        · intro i hi
          show ∃ t_1, t_1 < tc0 ∧ upd (μ.1 109) hd (nI t) i = nI t_1 ∧ upd (μ.1 143) hd (nI t) i = nI t_1 ∧ upd (μ.1 110) hd (nI j) i = if (sd bs (2 ^ hd) ||| j * 2 ^ hd).testBit i then 1 else 0
          by_cases z : i < hd
          · obtain ⟨u, u1, u2, u3, u4⟩ := a6 i z
            have n1 : i ≠ hd := by omega
            refine ⟨u, u1, by rw [pk_un n1]; exact u2, by rw [pk_un n1]; exact u3, ?_⟩
            rw [pk_un n1]
            have hz : (j * 2 ^ hd).testBit i = false := by
              rw [Nat.mul_comm, Nat.testBit_two_pow_mul]
              simp [show ¬ hd ≤ i by omega]
            have hy : (2 ^ hd).testBit i = false := by
              rw [Nat.testBit_two_pow]
              simp [show ¬ hd = i by omega]
            rw [Nat.testBit_or, sd_bit, hz, hy]
            simp only [Bool.not_false, Bool.and_true, Bool.or_false]
            exact u4
          · have e : i = hd := by omega
            subst e
            refine ⟨t, ht, pk_us, pk_us, ?_⟩
            rw [pk_us, Nat.testBit_or, sd_bit, Nat.testBit_two_pow_self, Nat.mul_comm, Nat.testBit_two_pow_mul]
            have : j = 0 ∨ j = 1 := by omega
            rcases this with rfl | rfl
            · simp; rfl
            · simp; rfl
      · have e : hd = 12 := by omega
        subst e
        refine ⟨-1, μ, Zr μ, ?_, ?_, inv_Z ⟨hI, hrow⟩⟩
        · unfold F_X11_heard
          simp only [↓reduceIte, obs, q0, q1, q2, q11, q13, q17, q20, q21, q24, q104, q111, q112, q116, q125, q127, g0_0, g0_1, g0_2, g0_3, g0_4, g0_5, g0_6, g0_7, p0_7, g0_8, g0_9, g0_10, g0_11, g0_12, g0_13, p0_13, g0_14, g0_15, g0_16, g0_17, g0_18, g1_0, g1_1, g1_2, g1_3, g1_4, g1_5, p1_5, g1_6, p1_6, g1_7, p1_7, g1_8, p1_8, g2_0, g2_1, g2_2, g2_3, g2_4, p2_4, g11_0, g11_1, p11_1, g11_2, p11_2, g11_3, p11_3, g13_0, g13_1, g13_2, g13_3, g17_0, g17_1, g17_2, p17_2, g20_0, g20_1, g21_0, g21_1, g21_2, p21_2, g24_0, g24_1, p24_1, g24_2, p24_2, g104_0, g104_1, g104_2, g104_3, g104_4, p104_4, g111_0, g111_1, p111_1, g111_2, p111_2, g111_3, p111_3, g112_0, g112_1, g112_2, g112_3, g112_4, p112_4, g116_0, g116_1, g116_2, g116_3, g116_4, g125_0, p125_0, g125_1, p125_1, g127_0, g127_1, p127_1, g127_2, p127_2, g127_3, p127_3, g127_4, g127_5, g127_6, p127_6, g127_7, g127_8, p127_8, g127_9, g127_10, p127_10, g127_11, p127_11, g127_12, g127_13, p127_13, g127_14, p127_14, g127_15, p127_15, g127_16, p127_16, g127_17, g127_18, g127_19, p127_19, g127_20, p127_20, g127_21, g127_22, g127_23, p127_23, g127_24, g127_25, g127_26, g127_27, g127_28, g127_29, p127_29, g127_30, p127_30, g127_31, g127_32, g127_33, p127_33, g127_34, p127_34, g127_35, p127_35, g127_36, p127_36, g127_37, g127_38, p127_38, g127_39, p127_39, g127_40, g127_41, g127_42, X_hasThing1 hb rfl ht, show ¬ (1 : Int32) = 0 by decide, c1, c3, a3', show ¬ nI 12 < (12 : Int32) by decide]
        · unfold F_X12_heard
          simp only [if_pos q127, p11, ↓reduceIte, obs, g127_33, Y_isThing1 hb (cl_Z (μ := μ)) ht, show ¬ (1 : Int32) = 0 by decide, c5, show (Zr μ).1 127 33 = 12 from a4]
    · refine ⟨-1, μ, Zr μ, ?_, ?_, inv_Z ⟨hI, hrow⟩⟩
      · unfold F_X11_heard
        simp only [↓reduceIte, obs, q0, q1, q2, q11, q13, q17, q20, q21, q24, q104, q111, q112, q116, q125, q127, g0_0, g0_1, g0_2, g0_3, g0_4, g0_5, g0_6, g0_7, p0_7, g0_8, g0_9, g0_10, g0_11, g0_12, g0_13, p0_13, g0_14, g0_15, g0_16, g0_17, g0_18, g1_0, g1_1, g1_2, g1_3, g1_4, g1_5, p1_5, g1_6, p1_6, g1_7, p1_7, g1_8, p1_8, g2_0, g2_1, g2_2, g2_3, g2_4, p2_4, g11_0, g11_1, p11_1, g11_2, p11_2, g11_3, p11_3, g13_0, g13_1, g13_2, g13_3, g17_0, g17_1, g17_2, p17_2, g20_0, g20_1, g21_0, g21_1, g21_2, p21_2, g24_0, g24_1, p24_1, g24_2, p24_2, g104_0, g104_1, g104_2, g104_3, g104_4, p104_4, g111_0, g111_1, p111_1, g111_2, p111_2, g111_3, p111_3, g112_0, g112_1, g112_2, g112_3, g112_4, p112_4, g116_0, g116_1, g116_2, g116_3, g116_4, g125_0, p125_0, g125_1, p125_1, g127_0, g127_1, p127_1, g127_2, p127_2, g127_3, p127_3, g127_4, g127_5, g127_6, p127_6, g127_7, g127_8, p127_8, g127_9, g127_10, p127_10, g127_11, p127_11, g127_12, g127_13, p127_13, g127_14, p127_14, g127_15, p127_15, g127_16, p127_16, g127_17, g127_18, g127_19, p127_19, g127_20, p127_20, g127_21, g127_22, g127_23, p127_23, g127_24, g127_25, g127_26, g127_27, g127_28, g127_29, p127_29, g127_30, p127_30, g127_31, g127_32, g127_33, p127_33, g127_34, p127_34, g127_35, p127_35, g127_36, p127_36, g127_37, g127_38, p127_38, g127_39, p127_39, g127_40, g127_41, g127_42, X_hasThing1 hb rfl ht, show ¬ (1 : Int32) = 0 by decide, c1]
      · unfold F_X12_heard
        simp only [if_pos q127, p11, ↓reduceIte, obs, Y_isThing1 hb (cl_Z (μ := μ)) ht, show ¬ (1 : Int32) = 0 by decide, c3]
    · refine ⟨-1, μ, Zr μ, ?_, ?_, inv_Z ⟨hI, hrow⟩⟩
      · unfold F_X11_heard
        simp only [↓reduceIte, obs, q0, q1, q2, q11, q13, q17, q20, q21, q24, q104, q111, q112, q116, q125, q127, g0_0, g0_1, g0_2, g0_3, g0_4, g0_5, g0_6, g0_7, p0_7, g0_8, g0_9, g0_10, g0_11, g0_12, g0_13, p0_13, g0_14, g0_15, g0_16, g0_17, g0_18, g1_0, g1_1, g1_2, g1_3, g1_4, g1_5, p1_5, g1_6, p1_6, g1_7, p1_7, g1_8, p1_8, g2_0, g2_1, g2_2, g2_3, g2_4, p2_4, g11_0, g11_1, p11_1, g11_2, p11_2, g11_3, p11_3, g13_0, g13_1, g13_2, g13_3, g17_0, g17_1, g17_2, p17_2, g20_0, g20_1, g21_0, g21_1, g21_2, p21_2, g24_0, g24_1, p24_1, g24_2, p24_2, g104_0, g104_1, g104_2, g104_3, g104_4, p104_4, g111_0, g111_1, p111_1, g111_2, p111_2, g111_3, p111_3, g112_0, g112_1, g112_2, g112_3, g112_4, p112_4, g116_0, g116_1, g116_2, g116_3, g116_4, g125_0, p125_0, g125_1, p125_1, g127_0, g127_1, p127_1, g127_2, p127_2, g127_3, p127_3, g127_4, g127_5, g127_6, p127_6, g127_7, g127_8, p127_8, g127_9, g127_10, p127_10, g127_11, p127_11, g127_12, g127_13, p127_13, g127_14, p127_14, g127_15, p127_15, g127_16, p127_16, g127_17, g127_18, g127_19, p127_19, g127_20, p127_20, g127_21, g127_22, g127_23, p127_23, g127_24, g127_25, g127_26, g127_27, g127_28, g127_29, p127_29, g127_30, p127_30, g127_31, g127_32, g127_33, p127_33, g127_34, p127_34, g127_35, p127_35, g127_36, p127_36, g127_37, g127_38, p127_38, g127_39, p127_39, g127_40, g127_41, g127_42, X_hasThing1 hb rfl ht, show ¬ (1 : Int32) = 0 by decide, c1, c3]
      · unfold F_X12_heard
        simp only [if_pos q127, p11, ↓reduceIte, obs, Y_isThing1 hb (cl_Z (μ := μ)) ht, show ¬ (1 : Int32) = 0 by decide, c5]
  · refine ⟨-1, μ, Zr μ, ?_, ?_, inv_Z ⟨hI, hrow⟩⟩
    · unfold F_X11_heard
      simp only [↓reduceIte, obs, q0, q1, q2, q11, q13, q17, q20, q21, q24, q104, q111, q112, q116, q125, q127, g0_0, g0_1, g0_2, g0_3, g0_4, g0_5, g0_6, g0_7, p0_7, g0_8, g0_9, g0_10, g0_11, g0_12, g0_13, p0_13, g0_14, g0_15, g0_16, g0_17, g0_18, g1_0, g1_1, g1_2, g1_3, g1_4, g1_5, p1_5, g1_6, p1_6, g1_7, p1_7, g1_8, p1_8, g2_0, g2_1, g2_2, g2_3, g2_4, p2_4, g11_0, g11_1, p11_1, g11_2, p11_2, g11_3, p11_3, g13_0, g13_1, g13_2, g13_3, g17_0, g17_1, g17_2, p17_2, g20_0, g20_1, g21_0, g21_1, g21_2, p21_2, g24_0, g24_1, p24_1, g24_2, p24_2, g104_0, g104_1, g104_2, g104_3, g104_4, p104_4, g111_0, g111_1, p111_1, g111_2, p111_2, g111_3, p111_3, g112_0, g112_1, g112_2, g112_3, g112_4, p112_4, g116_0, g116_1, g116_2, g116_3, g116_4, g125_0, p125_0, g125_1, p125_1, g127_0, g127_1, p127_1, g127_2, p127_2, g127_3, p127_3, g127_4, g127_5, g127_6, p127_6, g127_7, g127_8, p127_8, g127_9, g127_10, p127_10, g127_11, p127_11, g127_12, g127_13, p127_13, g127_14, p127_14, g127_15, p127_15, g127_16, p127_16, g127_17, g127_18, g127_19, p127_19, g127_20, p127_20, g127_21, g127_22, g127_23, p127_23, g127_24, g127_25, g127_26, g127_27, g127_28, g127_29, p127_29, g127_30, p127_30, g127_31, g127_32, g127_33, p127_33, g127_34, p127_34, g127_35, p127_35, g127_36, p127_36, g127_37, g127_38, p127_38, g127_39, p127_39, g127_40, g127_41, g127_42, X_hasThing0 hb rfl hx]
    · unfold F_X12_heard
      simp only [if_pos q127, p11, ↓reduceIte, obs, Y_isThing0 hb (cl_Z (μ := μ)) hx]
