/-! PURE: pairs: exchange. -/
noncomputable def exP (μ : Mem) (tc kc lm : Nat) (a b : Nat) (x y : Nat) : Bool := decide (μ.1 128 (24 + x) = nI a) && decide (μ.1 128 (24 + y) = nI b) && decide (BB μ tc kc lm (sd (KP μ tc (nI a)) (2 ^ x) ||| 2 ^ y) = 0) && decide (BB μ tc kc lm (sd (KP μ tc (nI b)) (2 ^ y) ||| 2 ^ x) = 0)
theorem ex_set {s x y : Nat} (hx : s.testBit x = true) (hy : s.testBit y = false) : s ^^^ (2 ^ x ||| 2 ^ y) = sd s (2 ^ x) ||| 2 ^ y := by
  apply Nat.eq_of_testBit_eq
  intro i
  rw [Nat.testBit_xor, fb_bit_set, fb_bit_set, sd_bit, Nat.testBit_two_pow]
  by_cases c1 : i = x
  · subst c1
    by_cases c2 : i = y
    · subst c2; rw [hx] at hy; cases hy
    · simp [hx, c2]
  · by_cases c2 : i = y
    · subst c2; simp [hy]
    · simp [c1, c2, show ¬ x = i from fun z => c1 z.symm]
section EXC
variable {κ : Kp} {μ ν : Mem} {hc tc kc lm B a b : Nat}
theorem ex_lt {s x y : Nat} (b2 : tc ≤ 12) (hs : s < 4096) (hx : x < tc) (hy : y < tc) : sd s (2 ^ x) ||| 2 ^ y < 4096 := or_l (n := 12) (sd_lt hs) (pow_lt12 hy b2)
theorem X_exch_in (hb : Bs μ hc tc kc lm B) (ha : a < hc) (hbb : b < hc) (hab : a ≠ b) {x : Nat} (hx : x < tc) (s : Nat × Nat × Nat) (hs : s.1 ≤ 200) (r : Int32 → Int32 → ci_H → Option (Int32 × ci_H)) : b_X11_exchange_73 r 0 (nI (KP μ tc (nI a))) (nI (KP μ tc (nI b))) (nI x) bigN (nI s.1) 0 (hp κ (prX μ s)) = r (nI (prI (exP μ tc kc lm a b) tc x s).1) (nI (x + 1)) (hp κ (prX μ (prI (exP μ tc kc lm a b) tc x s))) := by
  have b1 := hb.b1
  have b2 := hb.b2
  have b3 := hb.b3
  have t2 : ∀ q, (prX μ q).1 1 6 = nI tc := fun q => by rw [prX_127.2]; exact hb.1.2.1
  refine lpk (fun n y => b_X11_exchange_73 r 0 (nI (KP μ tc (nI a))) (nI (KP μ tc (nI b))) (nI x) n (nI (it (prS (exP μ tc kc lm a b) x) s y).1) (nI y) (hp κ (prX μ (it (prS (exP μ tc kc lm a b) x) s y)))) tc _ ?_ ?_ bigN 0 (Nat.zero_le _) (by unfold bigN; omega)
  · intro n y hy
    (try dsimp only)
    have hbd := prS_b (P := exP μ tc kc lm a b) (x := x) (s := s) y
    rw [it_s]
    generalize it (prS (exP μ tc kc lm a b) x) s y = q at hbd
    have ez : nI q.1 = 0 ↔ q.1 = 0 := i_eq0 (by omega)
    have hX := KP_bit (μ := μ) hx (nI a)
    have hY := KP_bit (μ := μ) hy (nI b)
    rw [b_X11_exchange_73]
    simp only [g0_0, g1_6, t2, obs, if_neg (nI_ge hy (show tc < 2 ^ 31 by omega)), i_bit (small (KP_lt b2)) (show x < 32 by omega), i_bit (small (KP_lt b2)) (show y < 32 by omega), b_X11_exchange_108, b_X11_exchange_109, b_X11_exchange_174, b_X11_exchange_171, nI_1, ↓reduceIte]
    unfold prS
    by_cases cx : μ.1 128 (24 + x) = nI a
    · have hX1 : (KP μ tc (nI a)).testBit x = true := by rw [hX]; exact decide_eq_true cx
      by_cases cy : μ.1 128 (24 + y) = nI b
      · have hY1 : (KP μ tc (nI b)).testBit y = true := by rw [hY]; exact decide_eq_true cy
        have nab : ¬ nI b = nI a := fun z => hab ((i_eq (by omega) (by omega)).mp z).symm
        have hXy : (KP μ tc (nI a)).testBit y = false := by rw [KP_bit hy, cy]; exact decide_eq_false nab
        have hYx : (KP μ tc (nI b)).testBit x = false := by rw [KP_bit hx, cx]; exact decide_eq_false (fun z => nab z.symm)
        have l1 := ex_lt (s := KP μ tc (nI a)) b2 (KP_lt b2) hx hy
        have l2 := ex_lt (s := KP μ tc (nI b)) b2 (KP_lt b2) hy hx
        have k1 := BB_lt (μ := μ) (tc := tc) (lm := lm) (s := sd (KP μ tc (nI a)) (2 ^ x) ||| 2 ^ y) b3
        have k2 := BB_lt (μ := μ) (tc := tc) (lm := lm) (s := sd (KP μ tc (nI b)) (2 ^ y) ||| 2 ^ x) b3
        have e1 : nI (KP μ tc (nI a)) ^^^ ((1 : Int32) <<< (nI x &&& 31) ||| (1 : Int32) <<< (nI y &&& 31)) = nI (sd (KP μ tc (nI a)) (2 ^ x) ||| 2 ^ y) := by rw [i_sh1 x (by omega), i_sh1 y (by omega), i_or, i_xor, ex_set hX1 hXy]
        have e2 : nI (KP μ tc (nI b)) ^^^ ((1 : Int32) <<< (nI x &&& 31) ||| (1 : Int32) <<< (nI y &&& 31)) = nI (sd (KP μ tc (nI b)) (2 ^ y) ||| 2 ^ x) := by rw [i_sh1 x (by omega), i_sh1 y (by omega), i_or, i_xor, Nat.or_comm, ex_set hY1 hYx]
        simp only [hX1, hY1, ↓reduceIte, show ¬ (1 : Int32) = 0 by decide, e1, e2, X_broken hb prX_cl l1, X_broken hb prX_cl l2, obs, i_eq0 (show BB μ tc kc lm (sd (KP μ tc (nI a)) (2 ^ x) ||| 2 ^ y) < 2 ^ 31 by omega), i_eq0 (show BB μ tc kc lm (sd (KP μ tc (nI b)) (2 ^ y) ||| 2 ^ x) < 2 ^ 31 by omega)]
        unfold exP
        by_cases z1 : BB μ tc kc lm (sd (KP μ tc (nI a)) (2 ^ x) ||| 2 ^ y) = 0
        · by_cases z2 : BB μ tc kc lm (sd (KP μ tc (nI b)) (2 ^ y) ||| 2 ^ x) = 0
          · simp only [cx, cy, z1, z2, decide_true, Bool.and_self, ↓reduceIte, g0_0, obs, X_broken hb prX_cl l2, i_eq0 (show BB μ tc kc lm (sd (KP μ tc (nI b)) (2 ^ y) ||| 2 ^ x) < 2 ^ 31 by omega)]
            by_cases z : q.1 = 0
            · rw [if_pos (ez.mpr z), x_prT z, obs, if_pos (show nI 0 = 0 from rfl)]
            · rw [if_neg (fun w => z (ez.mp w)), x_prN z, if_pos (show nI 0 = 0 from rfl)]
          · simp only [z1, z2, decide_false, Bool.and_false, Bool.false_eq_true, ↓reduceIte, g0_0, obs, X_broken hb prX_cl l2, i_eq0 (show BB μ tc kc lm (sd (KP μ tc (nI b)) (2 ^ y) ||| 2 ^ x) < 2 ^ 31 by omega)]
        · simp only [z1, decide_false, Bool.and_false, Bool.false_and, Bool.false_eq_true, ↓reduceIte]
      · have hY1 : (KP μ tc (nI b)).testBit y = false := by rw [hY]; exact decide_eq_false cy
        unfold exP
        simp only [hX1, hY1, cy, decide_false, Bool.and_false, Bool.false_and, Bool.false_eq_true, ↓reduceIte, show ¬ (1 : Int32) = 0 by decide]
    · have hX1 : (KP μ tc (nI a)).testBit x = false := by rw [hX]; exact decide_eq_false cx
      unfold exP
      simp only [hX1, cx, decide_false, Bool.false_and, Bool.false_eq_true, ↓reduceIte]
  · intro n
    (try dsimp only)
    rw [b_X11_exchange_73]
    simp only [g0_0, g1_6, t2, obs, if_pos (nI_le (Nat.le_refl tc) (show tc < 2 ^ 31 by omega)), nI_1]
    rfl
theorem X_exch (hb : Bs μ hc tc kc lm B) (ha : a < hc) (hbb : b < hc) (hab : a ≠ b) : b_X11_exchange_58 0 (nI (KP μ tc (nI a))) (nI (KP μ tc (nI b))) bigN 0 0 (hp κ (T0 μ)) = some (nI (prO (exP μ tc kc lm a b) tc tc).1, hp κ (prX μ (prO (exP μ tc kc lm a b) tc tc))) := by
  have b2 := hb.b2
  have t2 : ∀ q, (prX μ q).1 1 6 = nI tc := fun q => by rw [prX_127.2]; exact hb.1.2.1
  refine lpk (fun n x => b_X11_exchange_58 0 (nI (KP μ tc (nI a))) (nI (KP μ tc (nI b))) n (nI (prO (exP μ tc kc lm a b) tc x).1) (nI x) (hp κ (prX μ (prO (exP μ tc kc lm a b) tc x)))) tc _ ?_ ?_ bigN 0 (Nat.zero_le _) (by unfold bigN; omega)
  · intro n x hx
    (try dsimp only)
    have hbd := prO_b (P := exP μ tc kc lm a b) (K := tc) x
    have h9 : tc * x ≤ 12 * 12 := Nat.mul_le_mul b2 (by omega)
    rw [b_X11_exchange_58]
    simp only [g0_0, g1_6, t2, obs, if_neg (nI_ge hx (show tc < 2 ^ 31 by omega)), X_exch_in hb ha hbb hab hx (prO (exP μ tc kc lm a b) tc x) (by omega)]
    rfl
  · intro n
    (try dsimp only)
    rw [b_X11_exchange_58]
    simp only [g0_0, g1_6, t2, obs, if_pos (nI_le (Nat.le_refl tc) (show tc < 2 ^ 31 by omega))]
theorem Y_exch_in (hb : Bs μ hc tc kc lm B) (e : cl ν = cl μ) (ha : a < hc) (hbb : b < hc) {x : Nat} (hx : x < tc) (s : Nat × Nat × Nat) (hs : s.1 ≤ 200) (r : Int32 → Int32 → ci_H → Option (Int32 × ci_H)) : b_X12_exchange_50 r 127 (nI a) (nI b) (nI x) bigN (nI s.1) 0 (hp κ (prY ν s)) = r (nI (prI (exP μ tc kc lm a b) tc x s).1) (nI (x + 1)) (hp κ (prY ν (prI (exP μ tc kc lm a b) tc x s))) := by
  have b1 := hb.b1
  have b2 := hb.b2
  have b3 := hb.b3
  have m2 : ∀ q, (prY ν q).1 127 2 = nI tc := fun q => by rw [prY_127 (by decide)]; exact (hb.mv e).2.1.2.1
  have ec : ∀ q, cl (prY ν q) = cl μ := fun q => prY_cl.trans e
  have m8 : ∀ q i, (prY ν q).1 128 i = μ.1 128 i := fun q i => by rw [f128 (ec q)]
  refine lpk (fun n y => b_X12_exchange_50 r 127 (nI a) (nI b) (nI x) n (nI (it (prS (exP μ tc kc lm a b) x) s y).1) (nI y) (hp κ (prY ν (it (prS (exP μ tc kc lm a b) x) s y)))) tc _ ?_ ?_ bigN 0 (Nat.zero_le _) (by unfold bigN; omega)
  · intro n y hy
    (try dsimp only)
    have hbd := prS_b (P := exP μ tc kc lm a b) (x := x) (s := s) y
    rw [it_s]
    generalize it (prS (exP μ tc kc lm a b) x) s y = q at hbd
    have ez : nI q.1 = 0 ↔ q.1 = 0 := i_eq0 (by omega)
    have l1 := ex_lt (s := KP μ tc (nI a)) b2 (KP_lt b2) hx hy
    have l2 := ex_lt (s := KP μ tc (nI b)) b2 (KP_lt b2) hy hx
    have k1 := BB_lt (μ := μ) (tc := tc) (lm := lm) (s := sd (KP μ tc (nI a)) (2 ^ x) ||| 2 ^ y) b3
    have k2 := BB_lt (μ := μ) (tc := tc) (lm := lm) (s := sd (KP μ tc (nI b)) (2 ^ y) ||| 2 ^ x) b3
    rw [b_X12_exchange_50]
    simp only [g127_2, m2, obs, if_neg (nI_ge hy (show tc < 2 ^ 31 by omega)), g127_0, i24, r128 (show 24 + x < 42 by omega), r128 (show 24 + y < 42 by omega), m8, Y_kept hb (ec q), i_sh1 x (show x < 31 by omega), i_sh1 y (show y < 31 by omega), i_sd, i_or, Y_brokenBy hb (ec q) l1, Y_brokenBy hb (ec q) l2, i_eq0 (show BB μ tc kc lm (sd (KP μ tc (nI a)) (2 ^ x) ||| 2 ^ y) < 2 ^ 31 by omega), i_eq0 (show BB μ tc kc lm (sd (KP μ tc (nI b)) (2 ^ y) ||| 2 ^ x) < 2 ^ 31 by omega), b_X12_exchange_186, b_X12_exchange_183, nI_1]
    unfold prS
    unfold exP
    by_cases cx : μ.1 128 (24 + x) = nI a
    · by_cases cy : μ.1 128 (24 + y) = nI b
      · by_cases z1 : BB μ tc kc lm (sd (KP μ tc (nI a)) (2 ^ x) ||| 2 ^ y) = 0
        · by_cases z2 : BB μ tc kc lm (sd (KP μ tc (nI b)) (2 ^ y) ||| 2 ^ x) = 0
          · simp only [cx, cy, z1, z2, decide_true, Bool.and_self, ↓reduceIte]
            by_cases z : q.1 = 0
            · rw [if_pos (ez.mpr z), bnd2, y_prT z, obs]
            · rw [if_neg (fun w => z (ez.mp w)), y_prN z]
          · simp only [cx, cy, z1, z2, decide_false, Bool.and_false, Bool.false_eq_true, ↓reduceIte]
        · simp only [cx, cy, z1, decide_false, Bool.and_false, Bool.false_and, Bool.false_eq_true, ↓reduceIte]
      · simp only [cx, cy, decide_false, Bool.and_false, Bool.false_and, Bool.false_eq_true, ↓reduceIte]
    · simp only [cx, decide_false, Bool.false_and, Bool.false_eq_true, ↓reduceIte]
  · intro n
    (try dsimp only)
    rw [b_X12_exchange_50]
    simp only [g127_2, m2, obs, if_pos (nI_le (Nat.le_refl tc) (show tc < 2 ^ 31 by omega)), nI_1]
    rfl
theorem Y_exch (hb : Bs μ hc tc kc lm B) (e : cl ν = cl μ) (ha : a < hc) (hbb : b < hc) : b_X12_exchange_38 127 (nI a) (nI b) bigN 0 0 (hp κ (M0 ν)) = some (nI (prO (exP μ tc kc lm a b) tc tc).1, hp κ (prY ν (prO (exP μ tc kc lm a b) tc tc))) := by
  have b2 := hb.b2
  have m2 : ∀ q, (prY ν q).1 127 2 = nI tc := fun q => by rw [prY_127 (by decide)]; exact (hb.mv e).2.1.2.1
  refine lpk (fun n x => b_X12_exchange_38 127 (nI a) (nI b) n (nI (prO (exP μ tc kc lm a b) tc x).1) (nI x) (hp κ (prY ν (prO (exP μ tc kc lm a b) tc x)))) tc _ ?_ ?_ bigN 0 (Nat.zero_le _) (by unfold bigN; omega)
  · intro n x hx
    (try dsimp only)
    have hbd := prO_b (P := exP μ tc kc lm a b) (K := tc) x
    have h9 : tc * x ≤ 12 * 12 := Nat.mul_le_mul b2 (by omega)
    rw [b_X12_exchange_38]
    simp only [g127_2, m2, obs, if_neg (nI_ge hx (show tc < 2 ^ 31 by omega)), Y_exch_in hb e ha hbb hx (prO (exP μ tc kc lm a b) tc x) (by omega)]
    rfl
  · intro n
    (try dsimp only)
    rw [b_X12_exchange_38]
    simp only [g127_2, m2, obs, if_pos (nI_le (Nat.le_refl tc) (show tc < 2 ^ 31 by omega))]
end EXC
theorem pr_exchange : P2 F_X11_exchange F_X12_exchange := by
  intro x y κ B μ hR hB hI
  dsimp only
  obtain ⟨hc, tc, kc, lm, hb⟩ := hI.bs
  have b1 := hb.b1
  rcases ix_hc hb x with ⟨a, ha, rfl⟩ | hx
  · rcases ix_hc hb y with ⟨b, hbb, rfl⟩ | hy
    · by_cases c : a = b
      · subst c
        refine ⟨-1, μ, Zr μ, ?_, ?_, inv_Z hI⟩
        · unfold F_X11_exchange
          simp only [↓reduceIte, obs, q0, q1, q2, q11, q13, q17, q20, q21, q24, q104, q111, q112, q116, q125, q127, g0_0, g0_1, g0_2, g0_3, g0_4, g0_5, g0_6, g0_7, p0_7, g0_8, g0_9, g0_10, g0_11, g0_12, g0_13, p0_13, g0_14, g0_15, g0_16, g0_17, g0_18, g1_0, g1_1, g1_2, g1_3, g1_4, g1_5, p1_5, g1_6, p1_6, g1_7, p1_7, g1_8, p1_8, g2_0, g2_1, g2_2, g2_3, g2_4, p2_4, g11_0, g11_1, p11_1, g11_2, p11_2, g11_3, p11_3, g13_0, g13_1, g13_2, g13_3, g17_0, g17_1, g17_2, p17_2, g20_0, g20_1, g21_0, g21_1, g21_2, p21_2, g24_0, g24_1, p24_1, g24_2, p24_2, g104_0, g104_1, g104_2, g104_3, g104_4, p104_4, g111_0, g111_1, p111_1, g111_2, p111_2, g111_3, p111_3, g112_0, g112_1, g112_2, g112_3, g112_4, p112_4, g116_0, g116_1, g116_2, g116_3, g116_4, g125_0, p125_0, g125_1, p125_1, g127_0, g127_1, p127_1, g127_2, p127_2, g127_3, p127_3, g127_4, g127_5, g127_6, p127_6, g127_7, g127_8, p127_8, g127_9, g127_10, p127_10, g127_11, p127_11, g127_12, g127_13, p127_13, g127_14, p127_14, g127_15, p127_15, g127_16, p127_16, g127_17, g127_18, g127_19, p127_19, g127_20, p127_20, g127_21, g127_22, g127_23, p127_23, g127_24, g127_25, g127_26, g127_27, g127_28, g127_29, p127_29, g127_30, p127_30, g127_31, g127_32, g127_33, p127_33, g127_34, p127_34, g127_35, p127_35, g127_36, p127_36, g127_37, g127_38, p127_38, g127_39, p127_39, g127_40, g127_41, g127_42, X_hasHouse1 hb rfl ha, show ¬ (1 : Int32) = 0 by decide]
        · unfold F_X12_exchange
          simp only [if_pos q127, p11, ↓reduceIte, obs, Y_isHouse1 hb cl_Z ha, show ¬ (1 : Int32) = 0 by decide]
      · have c1 : ¬ nI a = nI b := fun z => c ((i_eq (by omega) (by omega)).mp z)
        refine ⟨nI (prO (exP μ tc kc lm a b) tc tc).1, prX μ (prO (exP μ tc kc lm a b) tc tc), prY (Zr (prX μ (prO (exP μ tc kc lm a b) tc tc))) (prO (exP μ tc kc lm a b) tc tc), ?_, ?_, inv_pr hI _⟩
        · unfold F_X11_exchange
          simp only [↓reduceIte, obs, q0, q1, q2, q11, q13, q17, q20, q21, q24, q104, q111, q112, q116, q125, q127, g0_0, g0_1, g0_2, g0_3, g0_4, g0_5, g0_6, g0_7, p0_7, g0_8, g0_9, g0_10, g0_11, g0_12, g0_13, p0_13, g0_14, g0_15, g0_16, g0_17, g0_18, g1_0, g1_1, g1_2, g1_3, g1_4, g1_5, p1_5, g1_6, p1_6, g1_7, p1_7, g1_8, p1_8, g2_0, g2_1, g2_2, g2_3, g2_4, p2_4, g11_0, g11_1, p11_1, g11_2, p11_2, g11_3, p11_3, g13_0, g13_1, g13_2, g13_3, g17_0, g17_1, g17_2, p17_2, g20_0, g20_1, g21_0, g21_1, g21_2, p21_2, g24_0, g24_1, p24_1, g24_2, p24_2, g104_0, g104_1, g104_2, g104_3, g104_4, p104_4, g111_0, g111_1, p111_1, g111_2, p111_2, g111_3, p111_3, g112_0, g112_1, g112_2, g112_3, g112_4, p112_4, g116_0, g116_1, g116_2, g116_3, g116_4, g125_0, p125_0, g125_1, p125_1, g127_0, g127_1, p127_1, g127_2, p127_2, g127_3, p127_3, g127_4, g127_5, g127_6, p127_6, g127_7, g127_8, p127_8, g127_9, g127_10, p127_10, g127_11, p127_11, g127_12, g127_13, p127_13, g127_14, p127_14, g127_15, p127_15, g127_16, p127_16, g127_17, g127_18, g127_19, p127_19, g127_20, p127_20, g127_21, g127_22, g127_23, p127_23, g127_24, g127_25, g127_26, g127_27, g127_28, g127_29, p127_29, g127_30, p127_30, g127_31, g127_32, g127_33, p127_33, g127_34, p127_34, g127_35, p127_35, g127_36, p127_36, g127_37, g127_38, p127_38, g127_39, p127_39, g127_40, g127_41, g127_42, X_hasHouse1 hb rfl ha, X_hasHouse1 hb rfl hbb, show ¬ (1 : Int32) = 0 by decide, c1, X_kept hb rfl, x_tellNothing, X_exch hb ha hbb c]
        · have e : cl (Zr (prX μ (prO (exP μ tc kc lm a b) tc tc))) = cl μ := cl_Z.trans prX_cl
          unfold F_X12_exchange
          simp only [if_pos q127, p11, p10, ↓reduceIte, obs, Y_isHouse1 hb e ha, Y_isHouse1 hb e hbb, show ¬ (1 : Int32) = 0 by decide, c1, Y_exch hb e ha hbb]
    · refine ⟨-1, μ, Zr μ, ?_, ?_, inv_Z hI⟩
      · unfold F_X11_exchange
        simp only [↓reduceIte, obs, q0, q1, q2, q11, q13, q17, q20, q21, q24, q104, q111, q112, q116, q125, q127, g0_0, g0_1, g0_2, g0_3, g0_4, g0_5, g0_6, g0_7, p0_7, g0_8, g0_9, g0_10, g0_11, g0_12, g0_13, p0_13, g0_14, g0_15, g0_16, g0_17, g0_18, g1_0, g1_1, g1_2, g1_3, g1_4, g1_5, p1_5, g1_6, p1_6, g1_7, p1_7, g1_8, p1_8, g2_0, g2_1, g2_2, g2_3, g2_4, p2_4, g11_0, g11_1, p11_1, g11_2, p11_2, g11_3, p11_3, g13_0, g13_1, g13_2, g13_3, g17_0, g17_1, g17_2, p17_2, g20_0, g20_1, g21_0, g21_1, g21_2, p21_2, g24_0, g24_1, p24_1, g24_2, p24_2, g104_0, g104_1, g104_2, g104_3, g104_4, p104_4, g111_0, g111_1, p111_1, g111_2, p111_2, g111_3, p111_3, g112_0, g112_1, g112_2, g112_3, g112_4, p112_4, g116_0, g116_1, g116_2, g116_3, g116_4, g125_0, p125_0, g125_1, p125_1, g127_0, g127_1, p127_1, g127_2, p127_2, g127_3, p127_3, g127_4, g127_5, g127_6, p127_6, g127_7, g127_8, p127_8, g127_9, g127_10, p127_10, g127_11, p127_11, g127_12, g127_13, p127_13, g127_14, p127_14, g127_15, p127_15, g127_16, p127_16, g127_17, g127_18, g127_19, p127_19, g127_20, p127_20, g127_21, g127_22, g127_23, p127_23, g127_24, g127_25, g127_26, g127_27, g127_28, g127_29, p127_29, g127_30, p127_30, g127_31, g127_32, g127_33, p127_33, g127_34, p127_34, g127_35, p127_35, g127_36, p127_36, g127_37, g127_38, p127_38, g127_39, p127_39, g127_40, g127_41, g127_42, X_hasHouse1 hb rfl ha, X_hasHouse0 hb rfl hy, show ¬ (1 : Int32) = 0 by decide]
      · unfold F_X12_exchange
        simp only [if_pos q127, p11, ↓reduceIte, obs, Y_isHouse1 hb cl_Z ha, Y_isHouse0 hb cl_Z hy, show ¬ (1 : Int32) = 0 by decide]
  · refine ⟨-1, μ, Zr μ, ?_, ?_, inv_Z hI⟩
    · unfold F_X11_exchange
      simp only [↓reduceIte, obs, q0, q1, q2, q11, q13, q17, q20, q21, q24, q104, q111, q112, q116, q125, q127, g0_0, g0_1, g0_2, g0_3, g0_4, g0_5, g0_6, g0_7, p0_7, g0_8, g0_9, g0_10, g0_11, g0_12, g0_13, p0_13, g0_14, g0_15, g0_16, g0_17, g0_18, g1_0, g1_1, g1_2, g1_3, g1_4, g1_5, p1_5, g1_6, p1_6, g1_7, p1_7, g1_8, p1_8, g2_0, g2_1, g2_2, g2_3, g2_4, p2_4, g11_0, g11_1, p11_1, g11_2, p11_2, g11_3, p11_3, g13_0, g13_1, g13_2, g13_3, g17_0, g17_1, g17_2, p17_2, g20_0, g20_1, g21_0, g21_1, g21_2, p21_2, g24_0, g24_1, p24_1, g24_2, p24_2, g104_0, g104_1, g104_2, g104_3, g104_4, p104_4, g111_0, g111_1, p111_1, g111_2, p111_2, g111_3, p111_3, g112_0, g112_1, g112_2, g112_3, g112_4, p112_4, g116_0, g116_1, g116_2, g116_3, g116_4, g125_0, p125_0, g125_1, p125_1, g127_0, g127_1, p127_1, g127_2, p127_2, g127_3, p127_3, g127_4, g127_5, g127_6, p127_6, g127_7, g127_8, p127_8, g127_9, g127_10, p127_10, g127_11, p127_11, g127_12, g127_13, p127_13, g127_14, p127_14, g127_15, p127_15, g127_16, p127_16, g127_17, g127_18, g127_19, p127_19, g127_20, p127_20, g127_21, g127_22, g127_23, p127_23, g127_24, g127_25, g127_26, g127_27, g127_28, g127_29, p127_29, g127_30, p127_30, g127_31, g127_32, g127_33, p127_33, g127_34, p127_34, g127_35, p127_35, g127_36, p127_36, g127_37, g127_38, p127_38, g127_39, p127_39, g127_40, g127_41, g127_42, X_hasHouse0 hb rfl hx]
    · unfold F_X12_exchange
      simp only [if_pos q127, p11, ↓reduceIte, obs, Y_isHouse0 hb cl_Z hx]
