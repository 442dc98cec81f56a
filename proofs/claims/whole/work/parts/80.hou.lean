/-! PURE: pairs: keep, houses, sheet. -/
theorem InvC.sh {B : Nat} {m m' : Nat → Nat → Int32} (h : InvC B m) (e : ∀ a, ¬ (93 ≤ a ∧ a ≤ 103) → a ≠ 145 → a ≠ 146 → a ≠ 147 → m' a = m a) (hs : ∀ hc tc, tc ≤ 12 → hc ≤ 5 → SR m 2 128 0 → WS (m 128) hc tc B → Sh m hc tc B → Sh m' hc tc B) : InvC B m' := by
  obtain ⟨hc, tc, kc, lm, ⟨h1, h1b, h1c⟩, h2, h3, h4, h5, h6, h7, h8, h9, h10⟩ := h
  have f : ∀ a, (decide (93 ≤ a) && decide (a ≤ 103) || a == 145 || a == 146 || a == 147) = false → m' a = m a := fun a ha => by
    simp only [Bool.or_eq_false_iff, beq_eq_false_iff_ne, Bool.and_eq_false_iff, decide_eq_false_iff_not] at ha
    exact e a (by omega) ha.1.1.2 ha.1.2 ha.2
  refine ⟨hc, tc, kc, lm, ⟨?_, ?_, h1c⟩, ?_, ?_, ?_, ?_, ?_, ?_, ?_, hs hc tc h1c.2.1 h1c.1.2 h3 h4 h9, ?_⟩
  · rw [f 1 rfl]; exact h1
  · rw [f 127 rfl]; exact h1b
  · unfold Kd at h2 ⊢
    rw [f 7 rfl, f 8 rfl, f 129 rfl, f 130 rfl]; exact h2
  · refine h3.congr (fun a h1 h2 => e a (by omega) (by omega) (by omega) (by omega)) (f 128 rfl)
  · rw [f 128 rfl]; exact h4
  · unfold So at h5 ⊢
    rw [f 9 rfl, f 10 rfl, f 128 rfl, f 129 rfl, f 130 rfl]; exact h5
  · unfold Tx at h6 ⊢
    rw [f 11 rfl, f 127 rfl, f 12 rfl, f 131 rfl]; exact h6
  · unfold Hd at h7 ⊢
    rw [f 0 rfl, f 127 rfl, f 109 rfl, f 110 rfl, f 143 rfl]; exact h7
  · exact h8.congr (by rw [f 24 rfl]) (by rw [f 24 rfl]) (by rw [f 127 rfl]) (fun a h1 h2 => e a (by omega) (by omega) (by omega) (by omega)) (f 136 rfl)
  · unfold Ru at h10 ⊢
    rw [f 127 rfl, f 17 rfl, f 134 rfl, f 18 rfl]; exact h10
theorem nar_b1 : vp_nar .boolean 1 = 1 := by decide +kernel
theorem nar_b0 : vp_nar .boolean 0 = 0 := by decide +kernel
theorem cl_sh {μ : Mem} : ∀ a, 93 ≤ a → a ≤ 103 → cl μ a = μ.1 a := fun a h1 h2 => by
  have : a = 93 ∨ a = 94 ∨ a = 95 ∨ a = 96 ∨ a = 97 ∨ a = 98 ∨ a = 99 ∨ a = 100 ∨ a = 101 ∨ a = 102 ∨ a = 103 := by omega
  rcases this with rfl | rfl | rfl | rfl | rfl | rfl | rfl | rfl | rfl | rfl | rfl <;> exact cl_n rfl
theorem pr_keep : P1 F_X11_keep F_X12_keep := by
  intro x κ B μ hR hB hI
  (try dsimp only)
  obtain ⟨hIC, hrow⟩ := hI
  rcases rng x 0 1 0 1 rfl rfl (by omega) (by omega) with ⟨j, j1, j2, rfl, c1, c2, c3, c4, c5⟩ | ⟨c1, c2, c3⟩ | ⟨c1, c2, c3, c4, c5⟩
  · have c6 : nI j < (2 : Int32) := nI_lt (b := 2) (by omega) (by decide)
    have hj : j < 2 := by omega
    have e42 : (42 : Int32) * nI j = nI (42 * j) := pk_mul 42 j
    have hf : F_X11_keep 0 (nI j) (hp κ μ) = some (1, hp κ (upI (cpS μ (93 + 5 * j) 2) 103 j 1)) := by
      unfold F_X11_keep
      simp only [↓reduceIte, obs, q0, q1, q2, q11, q13, q17, q20, q21, q24, q104, q111, q112, q116, q125, q127, g0_0, g0_1, g0_2, g0_3, g0_4, g0_5, g0_6, g0_7, p0_7, g0_8, g0_9, g0_10, g0_11, g0_12, g0_13, p0_13, g0_14, g0_15, g0_16, g0_17, g0_18, g1_0, g1_1, g1_2, g1_3, g1_4, g1_5, p1_5, g1_6, p1_6, g1_7, p1_7, g1_8, p1_8, g2_0, g2_1, g2_2, g2_3, g2_4, p2_4, g11_0, g11_1, p11_1, g11_2, p11_2, g11_3, p11_3, g13_0, g13_1, g13_2, g13_3, g17_0, g17_1, g17_2, p17_2, g20_0, g20_1, g21_0, g21_1, g21_2, p21_2, g24_0, g24_1, p24_1, g24_2, p24_2, g104_0, g104_1, g104_2, g104_3, g104_4, p104_4, g111_0, g111_1, p111_1, g111_2, p111_2, g111_3, p111_3, g112_0, g112_1, g112_2, g112_3, g112_4, p112_4, g116_0, g116_1, g116_2, g116_3, g116_4, g125_0, p125_0, g125_1, p125_1, g127_0, g127_1, p127_1, g127_2, p127_2, g127_3, p127_3, g127_4, g127_5, g127_6, p127_6, g127_7, g127_8, p127_8, g127_9, g127_10, p127_10, g127_11, p127_11, g127_12, g127_13, p127_13, g127_14, p127_14, g127_15, p127_15, g127_16, p127_16, g127_17, g127_18, g127_19, p127_19, g127_20, p127_20, g127_21, g127_22, g127_23, p127_23, g127_24, g127_25, g127_26, g127_27, g127_28, g127_29, p127_29, g127_30, p127_30, g127_31, g127_32, g127_33, p127_33, g127_34, p127_34, g127_35, p127_35, g127_36, p127_36, g127_37, g127_38, p127_38, g127_39, p127_39, g127_40, g127_41, g127_42, c1, c6, rR_hp (κ := κ) (μ := μ) (show hp_T[92]? = some (4, 2, []) from rfl) (Or.inl rfl) hj, hR.2.1 j hj, x_copy (st_h j hj) st_2 (show 93 + 5 * j + 4 < 2 ∨ 2 + 4 < 93 + 5 * j by omega), w103 hj, nar_b1]
    generalize hν : upI (cpS μ (93 + 5 * j) 2) 103 j 1 = ν at hf
    have hg : F_X12_keep 127 (nI j) (hp κ ν) = some (1, hp κ (rowI (upI (upI (Zr ν) 146 j 1) 147 j ((Zr ν).1 127 39)) 145 (fb_put (ν.1 145) (ν.1 128) (42 * j) 42))) := by
      unfold F_X12_keep
      simp only [if_pos q127, p11, ↓reduceIte, obs, c5, show ¬ (1 : Int32) = 0 by decide, g127_41, g127_42, g127_39, g127_0, g127_40, w146 hj, nar_b1, w147 hj, e42, y_lay (κ := κ) (show hp_T[128]? = some (0, 42, []) from rfl) (show hp_T[145]? = some (0, 84, []) from rfl) (show (128 : Nat) ≠ 145 by decide) (show 42 * j + 42 ≤ 84 by omega)]
      rfl
    have n1 : ∀ a, ¬ (93 ≤ a ∧ a ≤ 103) → ν.1 a = μ.1 a := fun a ha => by rw [← hν, rowI_n (by omega), cpS_out (by omega)]
    refine ⟨1, ν, _, hf, hg, ?_, ?_⟩
    · have hcl : ∀ a, ¬ (93 ≤ a ∧ a ≤ 103) → a ≠ 145 → a ≠ 146 → a ≠ 147 → cl (rowI (upI (upI (Zr ν) 146 j 1) 147 j ((Zr ν).1 127 39)) 145 (fb_put (ν.1 145) (ν.1 128) (42 * j) 42)) a = cl μ a := fun a h1 h2 h3 h4 => by
        rw [cl_ne (μ := Zr ν) (by rw [rowI_n h2, rowI_n h4, rowI_n h3]), cl_Z, cl_ne (n1 a h1)]
      refine (hIC.up (B' := B + 1200) (by omega)).sh hcl ?_
      intro hc tc hb2 hb1 hsr hws hsh
      obtain ⟨cm, s1, s2, s3⟩ := hsh
      have s2' : (Zr ν).1 127 39 = nI cm := by show ν.1 127 39 = _; rw [n1 127 (by omega)]; exact s2
      refine ⟨cm, s1, s2', fun i hi => ?_⟩
      have g1 : cl (rowI (upI (upI (Zr ν) 146 j 1) 147 j ((Zr ν).1 127 39)) 145 (fb_put (ν.1 145) (ν.1 128) (42 * j) 42)) 147 = upd (μ.1 147) j (nI cm) := by
        show upd (ν.1 147) j ((Zr ν).1 127 39) = _
        rw [s2', n1 147 (by omega)]
      have g2 : cl (rowI (upI (upI (Zr ν) 146 j 1) 147 j ((Zr ν).1 127 39)) 145 (fb_put (ν.1 145) (ν.1 128) (42 * j) 42)) 146 = upd (μ.1 146) j 1 := by
        show upd (ν.1 146) j 1 = _
        rw [n1 146 (by omega)]
      have g3 : cl (rowI (upI (upI (Zr ν) 146 j 1) 147 j ((Zr ν).1 127 39)) 145 (fb_put (ν.1 145) (ν.1 128) (42 * j) 42)) 145 = fb_put (μ.1 145) (μ.1 128) (42 * j) 42 := by
        show fb_put (ν.1 145) (ν.1 128) (42 * j) 42 = _
        rw [n1 145 (by omega), n1 128 (by omega)]
      have g4 : ∀ a, 93 ≤ a → a ≤ 103 → cl (rowI (upI (upI (Zr ν) 146 j 1) 147 j ((Zr ν).1 127 39)) 145 (fb_put (ν.1 145) (ν.1 128) (42 * j) 42)) a = ν.1 a := fun a h1 h2 => by
        rw [cl_ne (μ := Zr ν) (by rw [rowI_n (by omega), rowI_n (by omega), rowI_n (by omega)]), cl_Z, cl_sh a h1 h2]
      have g5 : ν.1 103 = upd (μ.1 103) j 1 := by rw [← hν, rowI_s, cpS_out (by omega)]
      rw [SR_iff, g1, g2, g3, g4 103 (by omega) (by omega), g5]
      by_cases z : i = j
      · subst z
        rw [pk_us, pk_us, pk_us]
        have e8 : ∀ q, q < 42 → fb_put (μ.1 145) (μ.1 128) (42 * i) 42 (42 * i + q) = μ.1 128 q := fun q hq => by rw [fb_put_in (by omega) (by omega), show 42 * i + q - 42 * i = q by omega]
        refine ⟨⟨cm, Nat.le_refl _, rfl⟩, Or.inr rfl, Or.inl ⟨rfl, rfl, rfl, ?_, ?_⟩⟩
        · have hs : StA μ.1 2 (μ.1 128) := SR_0.mp hsr
          have h2 := cpS_st (a := 93 + 5 * i) hs
          exact (h2.cA e8).cg (fun a h1 h2 => by rw [g4 a (by omega) (by omega), ← hν, rowI_n (by omega)])
        · exact (show WS (μ.1 128) hc tc (B + 1200) from hws).cA e8 hb2 hb1
      · obtain ⟨k1, k2, k3⟩ := s3 i hi
        rw [pk_un z, pk_un z, pk_un z]
        have e8 : ∀ q, q < 42 → fb_put (μ.1 145) (μ.1 128) (42 * j) 42 (42 * i + q) = μ.1 145 (42 * i + q) := fun q hq => by rw [fb_put_out (by omega)]
        refine ⟨k1, k2, ?_⟩
        rcases k3 with ⟨k3, k4, k5, k6, k7⟩ | k3
        · refine Or.inl ⟨k3, k4, k5, ?_, ?_⟩
          · have k6' : StA (cl μ) (93 + 5 * i) (fun q => μ.1 145 (42 * i + q)) := SR_iff.mp k6
            exact (k6'.cA e8).cg (fun a h1 h2 => by rw [g4 a (by omega) (by omega), ← hν, rowI_n (by omega), cpS_out (by omega), cl_sh a (by omega) (by omega)])
          · exact (show WS (fun q => μ.1 145 (42 * i + q)) hc tc (B + 1200) from k7).cA e8 hb2 hb1
        · exact Or.inr k3
    · obtain ⟨rs, r1, r2, r3, r4⟩ := hrow
      refine ⟨rs, r1, ?_, ?_, ?_⟩
      · show ν.1 0 7 = _
        rw [n1 0 (by omega)]; exact r2
      · show ν.1 127 10 = _
        rw [n1 127 (by omega)]; exact r3
      · intro i hi
        show ν.2 91 i = ν.2 132 i
        rw [← hν]; exact r4 i hi
  · refine ⟨0, μ, Zr μ, ?_, ?_, inv_Z ⟨hIC, hrow⟩⟩
    · unfold F_X11_keep
      simp only [↓reduceIte, obs, q0, q1, q2, q11, q13, q17, q20, q21, q24, q104, q111, q112, q116, q125, q127, g0_0, g0_1, g0_2, g0_3, g0_4, g0_5, g0_6, g0_7, p0_7, g0_8, g0_9, g0_10, g0_11, g0_12, g0_13, p0_13, g0_14, g0_15, g0_16, g0_17, g0_18, g1_0, g1_1, g1_2, g1_3, g1_4, g1_5, p1_5, g1_6, p1_6, g1_7, p1_7, g1_8, p1_8, g2_0, g2_1, g2_2, g2_3, g2_4, p2_4, g11_0, g11_1, p11_1, g11_2, p11_2, g11_3, p11_3, g13_0, g13_1, g13_2, g13_3, g17_0, g17_1, g17_2, p17_2, g20_0, g20_1, g21_0, g21_1, g21_2, p21_2, g24_0, g24_1, p24_1, g24_2, p24_2, g104_0, g104_1, g104_2, g104_3, g104_4, p104_4, g111_0, g111_1, p111_1, g111_2, p111_2, g111_3, p111_3, g112_0, g112_1, g112_2, g112_3, g112_4, p112_4, g116_0, g116_1, g116_2, g116_3, g116_4, g125_0, p125_0, g125_1, p125_1, g127_0, g127_1, p127_1, g127_2, p127_2, g127_3, p127_3, g127_4, g127_5, g127_6, p127_6, g127_7, g127_8, p127_8, g127_9, g127_10, p127_10, g127_11, p127_11, g127_12, g127_13, p127_13, g127_14, p127_14, g127_15, p127_15, g127_16, p127_16, g127_17, g127_18, g127_19, p127_19, g127_20, p127_20, g127_21, g127_22, g127_23, p127_23, g127_24, g127_25, g127_26, g127_27, g127_28, g127_29, p127_29, g127_30, p127_30, g127_31, g127_32, g127_33, p127_33, g127_34, p127_34, g127_35, p127_35, g127_36, p127_36, g127_37, g127_38, p127_38, g127_39, p127_39, g127_40, g127_41, g127_42, c1]
    · unfold F_X12_keep
      simp only [if_pos q127, p11, ↓reduceIte, obs, c3]
  · have c6 : ¬ x < (2 : Int32) := by
      rw [fa_lt]
      rw [fa_lt] at c1
      have e1 : (1 : Int32).toInt = 1 := rfl
      have e2 : (2 : Int32).toInt = 2 := rfl
      omega
    refine ⟨0, μ, Zr μ, ?_, ?_, inv_Z ⟨hIC, hrow⟩⟩
    · unfold F_X11_keep
      simp only [↓reduceIte, obs, q0, q1, q2, q11, q13, q17, q20, q21, q24, q104, q111, q112, q116, q125, q127, g0_0, g0_1, g0_2, g0_3, g0_4, g0_5, g0_6, g0_7, p0_7, g0_8, g0_9, g0_10, g0_11, g0_12, g0_13, p0_13, g0_14, g0_15, g0_16, g0_17, g0_18, g1_0, g1_1, g1_2, g1_3, g1_4, g1_5, p1_5, g1_6, p1_6, g1_7, p1_7, g1_8, p1_8, g2_0, g2_1, g2_2, g2_3, g2_4, p2_4, g11_0, g11_1, p11_1, g11_2, p11_2, g11_3, p11_3, g13_0, g13_1, g13_2, g13_3, g17_0, g17_1, g17_2, p17_2, g20_0, g20_1, g21_0, g21_1, g21_2, p21_2, g24_0, g24_1, p24_1, g24_2, p24_2, g104_0, g104_1, g104_2, g104_3, g104_4, p104_4, g111_0, g111_1, p111_1, g111_2, p111_2, g111_3, p111_3, g112_0, g112_1, g112_2, g112_3, g112_4, p112_4, g116_0, g116_1, g116_2, g116_3, g116_4, g125_0, p125_0, g125_1, p125_1, g127_0, g127_1, p127_1, g127_2, p127_2, g127_3, p127_3, g127_4, g127_5, g127_6, p127_6, g127_7, g127_8, p127_8, g127_9, g127_10, p127_10, g127_11, p127_11, g127_12, g127_13, p127_13, g127_14, p127_14, g127_15, p127_15, g127_16, p127_16, g127_17, g127_18, g127_19, p127_19, g127_20, p127_20, g127_21, g127_22, g127_23, p127_23, g127_24, g127_25, g127_26, g127_27, g127_28, g127_29, p127_29, g127_30, p127_30, g127_31, g127_32, g127_33, p127_33, g127_34, p127_34, g127_35, p127_35, g127_36, p127_36, g127_37, g127_38, p127_38, g127_39, p127_39, g127_40, g127_41, g127_42, c3, c6]
    · unfold F_X12_keep
      simp only [if_pos q127, p11, ↓reduceIte, obs, c5]
/-! houses -/
def nhP (A : Nat → Int32) (n : Nat) (t : Nat) : Bool := !(decide (nI n ≤ A (12 + t))) && decide (A (24 + t) < nI n)
section HOU
variable {κ : Kp} {μ ν : Mem} {A mu mn : Nat → Int32} {hc tc kc lm : Nat}
theorem x_needs (h : Xc μ A mu mn hc tc kc lm) (n : Nat) : F_X10_needsHousesFrom 1 (nI n) (hp κ μ) = some (if alp (nhP A n) tc then 0 else 1, hp κ μ) := by
  have b2 := h.b2
  obtain ⟨t1, t2, t3, t4, -⟩ := h.1
  have hS := h.2.1.1
  unfold F_X10_needsHousesFrom
  rw [if_pos q1]
  have h1 := lpa (fun m k => b_X10_needsHousesFrom_2 1 (nI n) m (nI k) (hp κ μ)) (nhP A n) tc (some (0, hp κ μ)) (some (1, hp κ μ)) ?_ ?_ ?_ bigN 0 (Nat.zero_le _) (by unfold bigN; omega) rfl
  · (try dsimp only at h1)
    refine Eq.trans h1 ?_
    split <;> rfl
  · intro m k hk hp
    (try dsimp only)
    unfold nhP at hp
    simp only [Bool.and_eq_true, Bool.not_eq_true', decide_eq_false_iff_not, decide_eq_true_eq] at hp
    rw [b_X10_needsHousesFrom_2]
    simp only [g1_6, t2, obs, if_neg (nI_ge hk (show tc < 2 ^ 31 by omega)), g1_0, g2_0, r3 (show k < 12 by omega), (hS k (by omega)).2.1, hp.1, g2_1, r4 (show k < 12 by omega), (hS k (by omega)).2.2, hp.2, nI_1, ↓reduceIte]
  · intro m k hk hp
    (try dsimp only)
    rw [b_X10_needsHousesFrom_2]
    simp only [g1_6, t2, obs, if_neg (nI_ge hk (show tc < 2 ^ 31 by omega)), g1_0, g2_0, r3 (show k < 12 by omega), (hS k (by omega)).2.1, g2_1, r4 (show k < 12 by omega), (hS k (by omega)).2.2, nI_1]
    unfold nhP at hp
    by_cases c1 : nI n ≤ A (12 + k)
    · rw [if_pos c1]
    · by_cases c2 : A (24 + k) < nI n
      · simp [c1, c2] at hp
      · rw [if_neg c1, if_neg c2]
  · intro m
    (try dsimp only)
    rw [b_X10_needsHousesFrom_2]
    simp only [g1_6, t2, obs, if_pos (nI_le (Nat.le_refl tc) (show tc < 2 ^ 31 by omega))]
def stC (f : Nat → Int32) (a b : Nat) : Nat → Int32 := fun x => if a ≤ x ∧ x < b then 100 else f x
theorem stC_n {f : Nat → Int32} {a b : Nat} (h : b ≤ a) : stC f a b = f := by
  funext x
  unfold stC
  rw [if_neg (by omega)]
theorem stC_s {f : Nat → Int32} {a k : Nat} (h : a ≤ k) : upd (stC f a k) k 100 = stC f a (k + 1) := by
  funext x
  by_cases z : x = k
  · subst z
    rw [pk_us]
    unfold stC
    rw [if_pos (by omega)]
  · rw [pk_un z]
    unfold stC
    by_cases c : a ≤ x ∧ x < k
    · rw [if_pos c, if_pos (by omega)]
    · rw [if_neg c, if_neg (by omega)]
theorem x_settle (h1 : μ.1 1 5 = nI hc) (hh : hc ≤ 5) {n : Nat} (hn : n ≤ 5) : F_X10_settle 1 (nI n) (hp κ μ) = some (hp κ (upI (rowI μ 6 (stC (μ.1 6) hc n)) 1 5 (nI n))) := by
  unfold F_X10_settle
  rw [if_pos q1, g1_5, obs, h1]
  by_cases c : n ≤ hc
  · show b_X10_settle_5 1 (nI n) (4999 + 1) (nI hc) (hp κ μ) = _
    rw [b_X10_settle_5, if_pos (nI_le c (by omega)), p1_5, obs, stC_n c, rowI_id]
  · have h2 := lpk (fun m i => b_X10_settle_5 1 (nI n) m (nI (hc + i)) (hp κ (rowI μ 6 (stC (μ.1 6) hc (hc + i))))) (n - hc) (some (hp κ (upI (rowI μ 6 (stC (μ.1 6) hc n)) 1 5 (nI n)))) ?_ ?_ bigN 0 (by omega) (by unfold bigN; omega)
    · (try dsimp only at h2)
      rw [Nat.add_zero, stC_n (Nat.le_refl hc), rowI_id] at h2
      exact h2
    · intro m i hi
      (try dsimp only)
      rw [b_X10_settle_5, if_neg (nI_ge (show hc + i < n by omega) (by omega)), g1_0, obs, g2_3, obs, w6 (by omega), obs, nI_1]
      show b_X10_settle_5 1 (nI n) m (nI (hc + i + 1)) (hp κ (rowI (rowI μ 6 _) 6 (upd ((rowI μ 6 _).1 6) (hc + i) 100))) = _
      rw [rowI_rowI, rowI_s, stC_s (by omega)]
      rfl
    · intro m
      (try dsimp only)
      rw [show hc + (n - hc) = n by omega, b_X10_settle_5, if_pos (nI_le (Nat.le_refl n) (by omega)), p1_5, obs]
theorem y_hou_loop {n cm : Nat} (hh : hc ≤ 5) (hn : n ≤ 5) (h9 : ν.1 127 39 = nI cm) : b_X12_houses_72 127 (nI n) (nI hc) bigN (nI hc) (hp κ ν) = some (nI hc, hp κ (upI (upI (rowI ν 128 (stC (ν.1 128) (36 + hc) (36 + n))) 127 23 0) 127 39 (nI (cm + 1)))) := by
  have hend : ∀ (m : Nat) (f : Nat → Int32), b_X12_houses_72 127 (nI n) (nI hc) (m + 1) (nI n) (hp κ (rowI ν 128 f)) = some (nI hc, hp κ (upI (upI (rowI ν 128 f) 127 23 0) 127 39 (nI (cm + 1)))) := fun m f => by
    have e : (upI (rowI ν 128 f) 127 23 0).1 127 39 = nI cm := h9
    rw [b_X12_houses_72, if_pos (nI_le (Nat.le_refl n) (by omega)), p127_23, obs, g127_39, obs, e, nI_1, p127_39, obs]
  by_cases c : n ≤ hc
  · have e : (upI ν 127 23 0).1 127 39 = nI cm := h9
    show b_X12_houses_72 127 (nI n) (nI hc) (4999 + 1) (nI hc) (hp κ ν) = _
    rw [b_X12_houses_72, if_pos (nI_le c (by omega)), p127_23, obs, g127_39, obs, e, nI_1, p127_39, obs, stC_n (by omega), rowI_id]
  · have h2 := lpk (fun m i => b_X12_houses_72 127 (nI n) (nI hc) m (nI (hc + i)) (hp κ (rowI ν 128 (stC (ν.1 128) (36 + hc) (36 + (hc + i)))))) (n - hc) (some (nI hc, hp κ (upI (upI (rowI ν 128 (stC (ν.1 128) (36 + hc) (36 + n))) 127 23 0) 127 39 (nI (cm + 1))))) ?_ ?_ bigN 0 (by omega) (by unfold bigN; omega)
    · (try dsimp only at h2)
      rw [Nat.add_zero, stC_n (Nat.le_refl _), rowI_id] at h2
      exact h2
    · intro m i hi
      (try dsimp only)
      rw [b_X12_houses_72, if_neg (nI_ge (show hc + i < n by omega) (by omega)), g127_0, obs, i36, w128 (by omega), obs, nI_1]
      show b_X12_houses_72 127 (nI n) (nI hc) m (nI (hc + i + 1)) (hp κ (rowI (rowI ν 128 _) 128 (upd ((rowI ν 128 _).1 128) (36 + (hc + i)) 100))) = _
      rw [rowI_rowI, rowI_s, stC_s (by omega)]
      rfl
    · intro m
      (try dsimp only)
      rw [show hc + (n - hc) = n by omega]
      exact hend m _
theorem y_houses (hM : Mn ν hc tc kc lm) {n cm : Nat} (hn : n ≤ 5) (h9 : ν.1 127 39 = nI cm) : b_X12_houses_18 127 (nI n) bigN 0 (hp κ ν) = if alp (nhP (ν.1 128) n) tc then some (nI hc, hp κ (upI (upI (rowI (upI ν 127 1 (nI n)) 128 (stC (ν.1 128) (36 + hc) (36 + n))) 127 23 0) 127 39 (nI (cm + 1)))) else some (-1, hp κ ν) := by
  obtain ⟨t1, t2, t3, t4, t5, b2, -⟩ := hM
  have h1 := lpa (fun m k => b_X12_houses_18 127 (nI n) m (nI k) (hp κ ν)) (nhP (ν.1 128) n) tc (some (nI hc, hp κ (upI (upI (rowI (upI ν 127 1 (nI n)) 128 (stC (ν.1 128) (36 + hc) (36 + n))) 127 23 0) 127 39 (nI (cm + 1))))) (some (-1, hp κ ν)) ?_ ?_ ?_ bigN 0 (Nat.zero_le _) (by unfold bigN; omega) rfl
  · exact h1
  · intro m k hk hp
    (try dsimp only)
    unfold nhP at hp
    simp only [Bool.and_eq_true, Bool.not_eq_true', decide_eq_false_iff_not, decide_eq_true_eq] at hp
    rw [b_X12_houses_18]
    simp only [g127_2, t2, obs, if_neg (nI_ge hk (show tc < 2 ^ 31 by omega)), g127_0, i12, i24, r128 (show 12 + k < 42 by omega), r128 (show 24 + k < 42 by omega), hp.1, hp.2, nI_1, ↓reduceIte]
  · intro m k hk hp
    (try dsimp only)
    rw [b_X12_houses_18]
    simp only [g127_2, t2, obs, if_neg (nI_ge hk (show tc < 2 ^ 31 by omega)), g127_0, i12, i24, r128 (show 12 + k < 42 by omega), r128 (show 24 + k < 42 by omega), nI_1]
    unfold nhP at hp
    by_cases c1 : nI n ≤ ν.1 128 (12 + k)
    · rw [if_pos c1]
    · by_cases c2 : ν.1 128 (24 + k) < nI n
      · simp [c1, c2] at hp
      · rw [if_neg c1, if_neg c2]
  · intro m
    (try dsimp only)
    rw [b_X12_houses_18]
    simp only [g127_2, t2, obs, if_pos (nI_le (Nat.le_refl tc) (show tc < 2 ^ 31 by omega)), g127_1, t1, p127_1]
    have h3 := y_hou_loop (κ := κ) (ν := upI ν 127 1 (nI n)) (hc := hc) (n := n) (cm := cm) t5.2 hn h9
    exact h3
theorem x_forget (hv : True) : F_X11_forgetStates 0 (hp κ μ) = some (hp κ (upI (upI (upI μ 24 2 0) 103 0 0) 103 1 0)) := by
  unfold F_X11_forgetStates
  rw [if_pos q0, g0_5, obs, p24_2, obs]
  show b_X11_forgetStates_10 0 (4997 + 1 + 1 + 1) 0 _ = _
  rw [b_X11_forgetStates_10, if_neg (by decide), g0_9, obs, show (0 : Int32) = nI 0 from rfl, w103 (by decide), obs, show nI 0 + 1 = nI 1 from rfl, b_X11_forgetStates_10, if_neg (by decide), g0_9, obs, w103 (by decide), obs, show nI 1 + 1 = nI 2 from rfl, b_X11_forgetStates_10, if_pos (by decide)]
  rw [show nI 0 = (0 : Int32) from rfl, nar_b0]
end HOU
theorem pr_houses : P1 F_X11_houses F_X12_houses := by
  intro x κ B μ hR hB hI
  (try dsimp only)
  obtain ⟨hc0, tc0, kc0, lm0, hb⟩ := hI.bs
  obtain ⟨hIC, hrow⟩ := hI
  obtain ⟨hc, tc, kc, lm, h1, h2, h3, h4, h5, h6, h7, h8, ⟨cm, s1, s2, s3⟩, h10⟩ := hIC.up (B' := B + 1200) (by omega)
  have hb2 : Bs μ hc tc kc lm (B + 1200) := ⟨⟨h1.1.1, h1.1.2.1, h1.1.2.2.1, h1.1.2.2.2, h1.2.2⟩, ⟨h1.2.1.1, h1.2.1.2.1, h1.2.1.2.2.1, h1.2.1.2.2.2, h1.2.2⟩, h2, h3, h4, h5⟩
  have hX := hb2.xc
  have s2' : μ.1 127 39 = nI cm := s2
  have b1 := hX.b1
  have b2 := hX.b2
  obtain ⟨od, un, p1, p2, p3, p4, p5, p6⟩ := h8
  rcases rng x 1 5 1 5 rfl rfl (by omega) (by omega) with ⟨n, j1, j2, rfl, c1, c2, c3, c4, c5⟩ | ⟨c1, c2, c3⟩ | ⟨c1, c2, c3, c4, c5⟩
  · by_cases c : alp (nhP (μ.1 128) n) tc = true
    · have hal := alp_iff.mp c
      have hf : F_X11_houses 0 (nI n) (hp κ μ) = some (nI hc, hp κ (upI (upI (upI (upI (rowI μ 6 (stC (μ.1 6) hc n)) 1 5 (nI n)) 24 2 0) 103 0 0) 103 1 0)) := by
        unfold F_X11_houses
        simp only [↓reduceIte, obs, q0, q1, q2, q11, q13, q17, q20, q21, q24, q104, q111, q112, q116, q125, q127, g0_0, g0_1, g0_2, g0_3, g0_4, g0_5, g0_6, g0_7, p0_7, g0_8, g0_9, g0_10, g0_11, g0_12, g0_13, p0_13, g0_14, g0_15, g0_16, g0_17, g0_18, g1_0, g1_1, g1_2, g1_3, g1_4, g1_5, p1_5, g1_6, p1_6, g1_7, p1_7, g1_8, p1_8, g2_0, g2_1, g2_2, g2_3, g2_4, p2_4, g11_0, g11_1, p11_1, g11_2, p11_2, g11_3, p11_3, g13_0, g13_1, g13_2, g13_3, g17_0, g17_1, g17_2, p17_2, g20_0, g20_1, g21_0, g21_1, g21_2, p21_2, g24_0, g24_1, p24_1, g24_2, p24_2, g104_0, g104_1, g104_2, g104_3, g104_4, p104_4, g111_0, g111_1, p111_1, g111_2, p111_2, g111_3, p111_3, g112_0, g112_1, g112_2, g112_3, g112_4, p112_4, g116_0, g116_1, g116_2, g116_3, g116_4, g125_0, p125_0, g125_1, p125_1, g127_0, g127_1, p127_1, g127_2, p127_2, g127_3, p127_3, g127_4, g127_5, g127_6, p127_6, g127_7, g127_8, p127_8, g127_9, g127_10, p127_10, g127_11, p127_11, g127_12, g127_13, p127_13, g127_14, p127_14, g127_15, p127_15, g127_16, p127_16, g127_17, g127_18, g127_19, p127_19, g127_20, p127_20, g127_21, g127_22, g127_23, p127_23, g127_24, g127_25, g127_26, g127_27, g127_28, g127_29, p127_29, g127_30, p127_30, g127_31, g127_32, g127_33, p127_33, g127_34, p127_34, g127_35, p127_35, g127_36, p127_36, g127_37, g127_38, p127_38, g127_39, p127_39, g127_40, g127_41, g127_42, c1, c3, x_needs hX n, if_pos c, show μ.1 1 5 = nI hc from h1.1.1, x_settle (κ := κ) (μ := μ) (n := n) h1.1.1 b1.2 j2, x_forget trivial]
      have hM : Mn (Zr (upI (upI (upI (upI (rowI μ 6 (stC (μ.1 6) hc n)) 1 5 (nI n)) 24 2 0) 103 0 0) 103 1 0)) hc tc kc lm := hb2.2.1
      have hg : F_X12_houses 127 (nI n) (hp κ (upI (upI (upI (upI (rowI μ 6 (stC (μ.1 6) hc n)) 1 5 (nI n)) 24 2 0) 103 0 0) 103 1 0)) = some (nI hc, hp κ (upI (upI (rowI (upI (Zr (upI (upI (upI (upI (rowI μ 6 (stC (μ.1 6) hc n)) 1 5 (nI n)) 24 2 0) 103 0 0) 103 1 0)) 127 1 (nI n)) 128 (stC (μ.1 128) (36 + hc) (36 + n))) 127 23 0) 127 39 (nI (cm + 1)))) := by
        unfold F_X12_houses
        simp only [if_pos q127, p11, ↓reduceIte, obs, c5, show ¬ (1 : Int32) = 0 by decide]
        rw [y_houses hM j2 (cm := cm) s2']
        exact if_pos c
      have s : Sm [1, 6, 24, 103, 127, 128] μ (upI (upI (rowI (upI (Zr (upI (upI (upI (upI (rowI μ 6 (stC (μ.1 6) hc n)) 1 5 (nI n)) 24 2 0) 103 0 0) 103 1 0)) 127 1 (nI n)) 128 (stC (μ.1 128) (36 + hc) (36 + n))) 127 23 0) 127 39 (nI (cm + 1))) := (((((((((Sm.rf.up rfl).up rfl).up rfl).up rfl).up rfl).up rfl).up rfl).up rfl).up rfl).up rfl
      have hlt : ∀ v : Int32, v < nI n → hs hc v → hs n v := fun v hv hh => by
        rcases hh with hh | ⟨j, hj, rfl⟩
        · exact Or.inl hh
        · exact Or.inr ⟨j, (i_lt (by omega) (by omega)).mp hv, rfl⟩
      refine ⟨nI hc, _, _, hf, hg, ⟨n, tc, kc, lm, ⟨⟨rfl, h1.1.2.1, h1.1.2.2.1, h1.1.2.2.2⟩, ⟨rfl, h1.2.1.2.1, h1.2.1.2.2.1, h1.2.1.2.2.2⟩, ⟨j1, j2⟩, h1.2.2.2⟩, h2, ?_, ?_, ?_, h6, h7, ?_, ?_, h10⟩, hrow⟩
      · refine ⟨fun t ht => ?_, fun q hq => ?_, ?_⟩
        · have e : ∀ q, q < 36 → stC (μ.1 128) (36 + hc) (36 + n) q = μ.1 128 q := fun q hq => if_neg (by omega)
          show μ.1 5 t = stC (μ.1 128) (36 + hc) (36 + n) (0 + t) ∧ μ.1 3 t = stC (μ.1 128) (36 + hc) (36 + n) (0 + 12 + t) ∧ μ.1 4 t = stC (μ.1 128) (36 + hc) (36 + n) (0 + 24 + t)
          rw [e _ (by omega), e _ (by omega), e _ (by omega)]
          exact h3.1 t ht
        · show stC (μ.1 6) hc n q = stC (μ.1 128) (36 + hc) (36 + n) (0 + 36 + q)
          have := h3.2.1 q hq
          have e : μ.1 6 q = μ.1 128 (0 + 36 + q) := this
          unfold stC
          by_cases c : hc ≤ q ∧ q < n
          · rw [if_pos c, if_pos (by omega)]
          · rw [if_neg c, if_neg (by omega), e]
        · show μ.1 2 4 = stC (μ.1 128) (36 + hc) (36 + n) (0 + 41)
          have e : μ.1 2 4 = μ.1 128 (0 + 41) := h3.2.2
          unfold stC
          rw [if_neg (by omega), e]
      · show WS (stC (μ.1 128) (36 + hc) (36 + n)) n tc (B + 1200)
        obtain ⟨w1, w2, w3⟩ := h4
        have e : ∀ q, q < 36 → stC (μ.1 128) (36 + hc) (36 + n) q = μ.1 128 q := fun q hq => if_neg (by omega)
        refine ⟨fun t ht => ?_, fun q hq => ?_, ?_⟩
        · rw [e _ (by omega), e _ (by omega), e _ (by omega)]
          obtain ⟨v1, v2, v3, v4⟩ := w1 t ht
          have hp := hal t ht
          unfold nhP at hp
          simp only [Bool.and_eq_true, Bool.not_eq_true', decide_eq_false_iff_not, decide_eq_true_eq] at hp
          exact ⟨v1, hlt _ (fa_of_nle hp.1) v2, hlt _ hp.2 v3, v4⟩
        · unfold stC
          by_cases c : hc ≤ q
          · rw [if_pos (by omega)]
            exact ⟨100, by omega, rfl⟩
          · rw [if_neg (by omega)]
            exact w2 q (by omega)
        · have : stC (μ.1 128) (36 + hc) (36 + n) 41 = μ.1 128 41 := if_neg (by omega)
          rw [this]
          exact w3
      · show SoX μ.1 (stC (μ.1 128) (36 + hc) (36 + n)) (μ.1 129) (μ.1 130) tc kc
        have h5' : SoX μ.1 (μ.1 128) (μ.1 129) (μ.1 130) tc kc := h5
        exact h5'.cA (fun t ht => if_neg (by omega))
      · exact ⟨od, 0, p1, by omega, p3, rfl, rfl, fun i hi => absurd hi (by omega)⟩
      · refine ⟨cm + 1, ?_, rfl, fun i hi => ?_⟩
        · obtain ⟨hc', tc', kc', lm', g1, g2, g3, g4, g5, g6, g7, g8, ⟨cm', s1', s2'', -⟩, g10⟩ := hIC
          have : nI cm = nI cm' := s2'.symm.trans s2''
          have := (i_eq (by omega) (by omega)).mp this
          omega
        · obtain ⟨⟨c, k1, k2⟩, k3, k4⟩ := s3 i hi
          refine ⟨⟨c, by omega, k2⟩, k3, Or.inr ⟨?_, fun z => ?_⟩⟩
          · show upd (upd (μ.1 103) 0 0) 1 0 i = 0
            have : i = 0 ∨ i = 1 := by omega
            rcases this with rfl | rfl
            · rw [pk_un (by decide), pk_us]
            · rw [pk_us]
          · have e : nI c = nI (cm + 1) := k2.symm.trans z.2
            have := (i_eq (by omega) (by omega)).mp e
            omega
    · refine ⟨-1, μ, Zr μ, ?_, ?_, inv_Z ⟨hIC, hrow⟩⟩
      · unfold F_X11_houses
        simp only [↓reduceIte, obs, q0, q1, q2, q11, q13, q17, q20, q21, q24, q104, q111, q112, q116, q125, q127, g0_0, g0_1, g0_2, g0_3, g0_4, g0_5, g0_6, g0_7, p0_7, g0_8, g0_9, g0_10, g0_11, g0_12, g0_13, p0_13, g0_14, g0_15, g0_16, g0_17, g0_18, g1_0, g1_1, g1_2, g1_3, g1_4, g1_5, p1_5, g1_6, p1_6, g1_7, p1_7, g1_8, p1_8, g2_0, g2_1, g2_2, g2_3, g2_4, p2_4, g11_0, g11_1, p11_1, g11_2, p11_2, g11_3, p11_3, g13_0, g13_1, g13_2, g13_3, g17_0, g17_1, g17_2, p17_2, g20_0, g20_1, g21_0, g21_1, g21_2, p21_2, g24_0, g24_1, p24_1, g24_2, p24_2, g104_0, g104_1, g104_2, g104_3, g104_4, p104_4, g111_0, g111_1, p111_1, g111_2, p111_2, g111_3, p111_3, g112_0, g112_1, g112_2, g112_3, g112_4, p112_4, g116_0, g116_1, g116_2, g116_3, g116_4, g125_0, p125_0, g125_1, p125_1, g127_0, g127_1, p127_1, g127_2, p127_2, g127_3, p127_3, g127_4, g127_5, g127_6, p127_6, g127_7, g127_8, p127_8, g127_9, g127_10, p127_10, g127_11, p127_11, g127_12, g127_13, p127_13, g127_14, p127_14, g127_15, p127_15, g127_16, p127_16, g127_17, g127_18, g127_19, p127_19, g127_20, p127_20, g127_21, g127_22, g127_23, p127_23, g127_24, g127_25, g127_26, g127_27, g127_28, g127_29, p127_29, g127_30, p127_30, g127_31, g127_32, g127_33, p127_33, g127_34, p127_34, g127_35, p127_35, g127_36, p127_36, g127_37, g127_38, p127_38, g127_39, p127_39, g127_40, g127_41, g127_42, c1, c3, x_needs hX n, if_neg c, show ¬ (1 : Int32) = 0 by decide]
      · have hM : Mn (Zr μ) hc tc kc lm := hb2.2.1
        unfold F_X12_houses
        simp only [if_pos q127, p11, ↓reduceIte, obs, c5, show ¬ (1 : Int32) = 0 by decide]
        rw [y_houses hM j2 (cm := cm) s2']
        exact if_neg c
  · refine ⟨-1, μ, Zr μ, ?_, ?_, inv_Z ⟨hIC, hrow⟩⟩
    · unfold F_X11_houses
      simp only [↓reduceIte, obs, q0, q1, q2, q11, q13, q17, q20, q21, q24, q104, q111, q112, q116, q125, q127, g0_0, g0_1, g0_2, g0_3, g0_4, g0_5, g0_6, g0_7, p0_7, g0_8, g0_9, g0_10, g0_11, g0_12, g0_13, p0_13, g0_14, g0_15, g0_16, g0_17, g0_18, g1_0, g1_1, g1_2, g1_3, g1_4, g1_5, p1_5, g1_6, p1_6, g1_7, p1_7, g1_8, p1_8, g2_0, g2_1, g2_2, g2_3, g2_4, p2_4, g11_0, g11_1, p11_1, g11_2, p11_2, g11_3, p11_3, g13_0, g13_1, g13_2, g13_3, g17_0, g17_1, g17_2, p17_2, g20_0, g20_1, g21_0, g21_1, g21_2, p21_2, g24_0, g24_1, p24_1, g24_2, p24_2, g104_0, g104_1, g104_2, g104_3, g104_4, p104_4, g111_0, g111_1, p111_1, g111_2, p111_2, g111_3, p111_3, g112_0, g112_1, g112_2, g112_3, g112_4, p112_4, g116_0, g116_1, g116_2, g116_3, g116_4, g125_0, p125_0, g125_1, p125_1, g127_0, g127_1, p127_1, g127_2, p127_2, g127_3, p127_3, g127_4, g127_5, g127_6, p127_6, g127_7, g127_8, p127_8, g127_9, g127_10, p127_10, g127_11, p127_11, g127_12, g127_13, p127_13, g127_14, p127_14, g127_15, p127_15, g127_16, p127_16, g127_17, g127_18, g127_19, p127_19, g127_20, p127_20, g127_21, g127_22, g127_23, p127_23, g127_24, g127_25, g127_26, g127_27, g127_28, g127_29, p127_29, g127_30, p127_30, g127_31, g127_32, g127_33, p127_33, g127_34, p127_34, g127_35, p127_35, g127_36, p127_36, g127_37, g127_38, p127_38, g127_39, p127_39, g127_40, g127_41, g127_42, c1]
    · unfold F_X12_houses
      simp only [if_pos q127, p11, ↓reduceIte, obs, c3]
  · refine ⟨-1, μ, Zr μ, ?_, ?_, inv_Z ⟨hIC, hrow⟩⟩
    · unfold F_X11_houses
      simp only [↓reduceIte, obs, q0, q1, q2, q11, q13, q17, q20, q21, q24, q104, q111, q112, q116, q125, q127, g0_0, g0_1, g0_2, g0_3, g0_4, g0_5, g0_6, g0_7, p0_7, g0_8, g0_9, g0_10, g0_11, g0_12, g0_13, p0_13, g0_14, g0_15, g0_16, g0_17, g0_18, g1_0, g1_1, g1_2, g1_3, g1_4, g1_5, p1_5, g1_6, p1_6, g1_7, p1_7, g1_8, p1_8, g2_0, g2_1, g2_2, g2_3, g2_4, p2_4, g11_0, g11_1, p11_1, g11_2, p11_2, g11_3, p11_3, g13_0, g13_1, g13_2, g13_3, g17_0, g17_1, g17_2, p17_2, g20_0, g20_1, g21_0, g21_1, g21_2, p21_2, g24_0, g24_1, p24_1, g24_2, p24_2, g104_0, g104_1, g104_2, g104_3, g104_4, p104_4, g111_0, g111_1, p111_1, g111_2, p111_2, g111_3, p111_3, g112_0, g112_1, g112_2, g112_3, g112_4, p112_4, g116_0, g116_1, g116_2, g116_3, g116_4, g125_0, p125_0, g125_1, p125_1, g127_0, g127_1, p127_1, g127_2, p127_2, g127_3, p127_3, g127_4, g127_5, g127_6, p127_6, g127_7, g127_8, p127_8, g127_9, g127_10, p127_10, g127_11, p127_11, g127_12, g127_13, p127_13, g127_14, p127_14, g127_15, p127_15, g127_16, p127_16, g127_17, g127_18, g127_19, p127_19, g127_20, p127_20, g127_21, g127_22, g127_23, p127_23, g127_24, g127_25, g127_26, g127_27, g127_28, g127_29, p127_29, g127_30, p127_30, g127_31, g127_32, g127_33, p127_33, g127_34, p127_34, g127_35, p127_35, g127_36, p127_36, g127_37, g127_38, p127_38, g127_39, p127_39, g127_40, g127_41, g127_42, c1, c3]
    · unfold F_X12_houses
      simp only [if_pos q127, p11, ↓reduceIte, obs, c5]
