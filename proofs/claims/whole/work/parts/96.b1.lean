/-! PURE: what is lent, and what it is worth. -/
def kpF (K : Nat → Int32) (S : Nat) : Nat → Int32
  | 0 => 0
  | u + 1 => if S.testBit u = true then kpF K S u ||| ((1 : Int32) <<< (K u &&& 31)) else kpF K S u
def wsF (V : Nat → Int32) (S : Nat) : Nat → Int32
  | 0 => 0
  | u + 1 => if S.testBit u = true then wsF V S u + V u else wsF V S u
section TRU
variable {κ : Kp} {μ : Mem} {A mu mn : Nat → Int32} {hc tc kc lm B rn : Nat} {tx : Nat → Nat} {cd : List Int32}
theorem x_worthAll (h : Xc μ A mu mn hc tc kc lm) (hw : Rw rn tx cd) (hx : RX μ.1 cd) {S : Nat} (hS : S < 4096) (y : Int32) : ∃ g, F_X11_worthOfAll 0 (nI S) y (hp κ μ) = some (wsF (fun t => vwr A mu mn tc kc rn tx t y) S tc, hp κ (rowI μ 19 g)) := by
  have b2 := h.b2
  have t2 : ∀ g, (rowI μ 19 g).1 1 6 = nI tc := fun g => h.1.2.1
  have hs : ∀ k ν, k < tc → (fun _ ν => ∃ g, ν = rowI μ 19 g) k ν → ∃ ξ, (∀ n, (fun n k ν => b_X11_worthOfAll_5 0 (nI S) y n (wsF (fun t => vwr A mu mn tc kc rn tx t y) S k) (nI k) (hp κ ν)) (n + 1) k ν = (fun n k ν => b_X11_worthOfAll_5 0 (nI S) y n (wsF (fun t => vwr A mu mn tc kc rn tx t y) S k) (nI k) (hp κ ν)) n (k + 1) ξ) ∧ (fun _ ν => ∃ g, ν = rowI μ 19 g) (k + 1) ξ := by
    rintro k ν hk ⟨g, rfl⟩
    by_cases c : S.testBit k = true
    · have c1 : ¬ ((nI S >>> (nI k &&& 31)) &&& 1 = 0) := fun z => by
        have := (i_bit0 (show S < 2 ^ 31 by omega) (show k < 32 by omega)).mp z
        rw [c] at this
        cases this
      obtain ⟨g2, hg2⟩ := x_value (κ := κ) (h.r19 (g := g)) hw (show RX (rowI μ 19 g).1 cd from hx) hk y
      refine ⟨rowI μ 19 g2, fun n => ?_, g2, rfl⟩
      rw [rowI_rowI] at hg2
      (try dsimp only)
      rw [b_X11_worthOfAll_5, g0_0, obs, g1_6, obs, t2, if_neg (nI_ge hk (by omega)), if_neg c1, g0_3, obs, obs, hg2, obs, b_X11_worthOfAll_43, nI_1, show wsF (fun t => vwr A mu mn tc kc rn tx t y) S (k + 1) = wsF (fun t => vwr A mu mn tc kc rn tx t y) S k + vwr A mu mn tc kc rn tx k y from if_pos c]
    · have c1 : (nI S >>> (nI k &&& 31)) &&& 1 = 0 := (i_bit0 (by omega) (by omega)).mpr (by simpa using c)
      refine ⟨rowI μ 19 g, fun n => ?_, g, rfl⟩
      (try dsimp only)
      rw [b_X11_worthOfAll_5, g0_0, obs, g1_6, obs, t2, if_neg (nI_ge hk (by omega)), if_pos c1, b_X11_worthOfAll_43, nI_1, show wsF (fun t => vwr A mu mn tc kc rn tx t y) S (k + 1) = wsF (fun t => vwr A mu mn tc kc rn tx t y) S k from if_neg c]
  obtain ⟨ξ, ⟨g, hg⟩, h2⟩ := lpf (fun n k ν => b_X11_worthOfAll_5 0 (nI S) y n (wsF (fun t => vwr A mu mn tc kc rn tx t y) S k) (nI k) (hp κ ν)) (fun _ ν => ∃ g, ν = rowI μ 19 g) tc hs μ ⟨μ.1 19, rowI_id.symm⟩ tc (Nat.le_refl _)
  refine ⟨g, ?_⟩
  subst hg
  unfold F_X11_worthOfAll
  rw [if_pos q0]
  have h3 := h2 (4999 - tc + 1)
  (try dsimp only at h3)
  rw [show 4999 - tc + 1 + tc = 5000 by omega] at h3
  refine Eq.trans h3 ?_
  rw [b_X11_worthOfAll_5, g0_0, obs, g1_6, obs, t2, if_pos (nI_le (Nat.le_refl _) (by omega))]
theorem x_keepS (h : Xc μ A mu mn hc tc kc lm) {S : Nat} (hS : S < 4096) (hk0 : ∀ t, t < tc → S.testBit t = true → ¬ A (24 + t) = -1) : F_X10_keepersOf 1 (nI S) (hp κ μ) = some (kpF (fun t => A (24 + t)) S tc, hp κ μ) := by
  have b2 := h.b2
  have t2 : μ.1 1 6 = nI tc := h.1.2.1
  unfold F_X10_keepersOf
  rw [if_pos q1]
  refine lpk (fun n u => b_X10_keepersOf_4 1 (nI S) n (kpF (fun t => A (24 + t)) S u) (nI u) (hp κ μ)) tc (some (kpF (fun t => A (24 + t)) S tc, hp κ μ)) ?_ ?_ bigN 0 (Nat.zero_le _) (by unfold bigN; omega)
  · intro n u hu
    (try dsimp only)
    by_cases c : S.testBit u = true
    · have c1 : ¬ ((nI S >>> (nI u &&& 31)) &&& 1 = 0) := fun z => by
        have := (i_bit0 (show S < 2 ^ 31 by omega) (show u < 32 by omega)).mp z
        rw [c] at this
        cases this
      have e4 : μ.1 4 u = A (24 + u) := (h.2.1.1 u (by omega)).2.2
      rw [b_X10_keepersOf_4, g1_6, obs, t2, if_neg (nI_ge hu (by omega)), if_neg c1, g1_0, obs, g2_1, obs, r4 (by omega), obs, e4, if_neg (hk0 u hu c), obs, g2_1, obs, r4 (by omega), obs, e4, b_X10_keepersOf_47, nI_1, show kpF (fun t => A (24 + t)) S (u + 1) = kpF (fun t => A (24 + t)) S u ||| ((1 : Int32) <<< (A (24 + u) &&& 31)) from if_pos c]
    · have c1 : (nI S >>> (nI u &&& 31)) &&& 1 = 0 := (i_bit0 (by omega) (by omega)).mpr (by simpa using c)
      rw [b_X10_keepersOf_4, g1_6, obs, t2, if_neg (nI_ge hu (by omega)), if_pos c1, b_X10_keepersOf_47, nI_1, show kpF (fun t => A (24 + t)) S (u + 1) = kpF (fun t => A (24 + t)) S u from if_neg c]
  · intro n
    (try dsimp only)
    rw [b_X10_keepersOf_4, g1_6, obs, t2, if_pos (nI_le (Nat.le_refl _) (by omega))]
theorem y_trustL (hM : Mn μ hc tc kc lm) (hy : RY μ.1 rn tx) (hw : Rw rn tx cd) {S : Nat} (hS : S < 4096) (y : Int32) (v u : Int64) (hv : v = (nI S).toInt64) (hu : u = (wsF (fun t => vwr (μ.1 128) (μ.1 129) (μ.1 130) tc kc rn tx t y) S tc).toInt64) : ∃ ξ, b_X12_trust_38 127 y (nI S) bigN 0 0 0 (hp κ μ) = some (kpF (fun t => μ.1 128 (24 + t)) S tc, hp κ (MM ξ v u)) ∧ Fw μ ξ := by
  have b2 : tc ≤ 12 := hM.2.2.2.2.2.1
  have t2 : μ.1 127 2 = nI tc := hM.2.1
  have hs : ∀ k ν, k < tc → (fun _ ν => Fw μ ν) k ν → ∃ ξ, (∀ n, (fun n k ν => b_X12_trust_38 127 y (nI S) n (kpF (fun t => μ.1 128 (24 + t)) S k) (wsF (fun t => vwr (μ.1 128) (μ.1 129) (μ.1 130) tc kc rn tx t y) S k) (nI k) (hp κ ν)) (n + 1) k ν = (fun n k ν => b_X12_trust_38 127 y (nI S) n (kpF (fun t => μ.1 128 (24 + t)) S k) (wsF (fun t => vwr (μ.1 128) (μ.1 129) (μ.1 130) tc kc rn tx t y) S k) (nI k) (hp κ ν)) n (k + 1) ξ) ∧ (fun _ ν => Fw μ ν) (k + 1) ξ := by
    intro k ν hk hν
    have f2 : ν.1 127 2 = nI tc := (hν.2.1 2 (by omega) (by omega)).trans t2
    have e128 : ν.1 128 = μ.1 128 := hν.1 128 (by decide) (by decide)
    have e129 : ν.1 129 = μ.1 129 := hν.1 129 (by decide) (by decide)
    have e130 : ν.1 130 = μ.1 130 := hν.1 130 (by decide) (by decide)
    by_cases c : S.testBit k = true
    · have hM2 : Mn ν hc tc kc lm := hM.mv hν.c
      have hy2 : RY ν.1 rn tx := by
        unfold RY
        rw [hν.2.1 19 (by omega) (by omega), hν.1 134 (by decide) (by decide)]
        exact hy
      obtain ⟨ζ, k1, k2⟩ := y_worthOf (κ := κ) hM2 hy2 hw hk y
      rw [e128, e129, e130] at k1
      refine ⟨ζ, fun n => ?_, hν.tr k2⟩
      (try dsimp only)
      rw [b_X12_trust_38, g127_2, obs, f2, if_neg (nI_ge hk (by omega)), y_has (by omega) (by omega), obs, if_pos c]
      (try dsimp only)
      rw [if_neg (by decide), g127_0, obs, i24, r128 (by omega), obs, e128, k1, obs, b_X12_trust_86, nI_1, show kpF (fun t => μ.1 128 (24 + t)) S (k + 1) = kpF (fun t => μ.1 128 (24 + t)) S k ||| ((1 : Int32) <<< (μ.1 128 (24 + k) &&& 31)) from if_pos c, show wsF (fun t => vwr (μ.1 128) (μ.1 129) (μ.1 130) tc kc rn tx t y) S (k + 1) = wsF (fun t => vwr (μ.1 128) (μ.1 129) (μ.1 130) tc kc rn tx t y) S k + vwr (μ.1 128) (μ.1 129) (μ.1 130) tc kc rn tx k y from if_pos c]
    · refine ⟨ν, fun n => ?_, hν⟩
      (try dsimp only)
      rw [b_X12_trust_38, g127_2, obs, f2, if_neg (nI_ge hk (by omega)), y_has (by omega) (by omega), obs, if_neg c]
      (try dsimp only)
      rw [if_pos rfl, b_X12_trust_86, nI_1, show kpF (fun t => μ.1 128 (24 + t)) S (k + 1) = kpF (fun t => μ.1 128 (24 + t)) S k from if_neg c, show wsF (fun t => vwr (μ.1 128) (μ.1 129) (μ.1 130) tc kc rn tx t y) S (k + 1) = wsF (fun t => vwr (μ.1 128) (μ.1 129) (μ.1 130) tc kc rn tx t y) S k from if_neg c]
  obtain ⟨ξ, hξ, h2⟩ := lpf (fun n k ν => b_X12_trust_38 127 y (nI S) n (kpF (fun t => μ.1 128 (24 + t)) S k) (wsF (fun t => vwr (μ.1 128) (μ.1 129) (μ.1 130) tc kc rn tx t y) S k) (nI k) (hp κ ν)) (fun _ ν => Fw μ ν) tc hs μ ⟨fun _ _ _ => rfl, fun _ _ _ => rfl, rfl⟩ tc (Nat.le_refl _)
  refine ⟨ξ, ?_, hξ⟩
  have h3 := h2 (4999 - tc + 1)
  (try dsimp only at h3)
  rw [show 4999 - tc + 1 + tc = 5000 by omega] at h3
  refine Eq.trans h3 ?_
  rw [b_X12_trust_38, g127_2, obs, hξ.2.1 2 (by omega) (by omega), t2, if_pos (nI_le (Nat.le_refl _) (by omega)), p10, obs, ← hv, ← hu, (y_tell2 (v := v) (u := u)).1, obs, (y_tell2 (v := v) (u := u)).2, obs]
end TRU
theorem pr_trust : P1 F_X11_trust F_X12_trust := by
  intro x κ B μ hR hB hI
  obtain ⟨hc, tc, kc, lm, hb⟩ := hI.bs
  have d0 : ¬ (1 : Int32) = 0 := by decide
  have b1 := hb.b1
  have b2 := hb.b2
  obtain ⟨rn, tx, cd, w1, w2, w3⟩ := Ru.get hI.ru
  rcases ix_hc hb x with ⟨j, hj, rfl⟩ | hx
  · have hS : OW μ tc (nI j) &&& LB μ tc < 4096 := Nat.lt_of_le_of_lt Nat.and_le_left (OW_lt b2)
    have hk0 : ∀ t, t < tc → (OW μ tc (nI j) &&& LB μ tc).testBit t = true → ¬ μ.1 128 (24 + t) = -1 := fun t ht hbt z => by
      have h1 := ((hb.2.2.2.2.1.1 t ht).2.2.2).mpr z
      rw [Nat.testBit_and] at hbt
      have h2 : (OW μ tc (nI j)).testBit t = true := by
        cases e : (OW μ tc (nI j)).testBit t with
        | true => rfl
        | false => rw [e] at hbt; cases hbt
      unfold OW at h2
      rw [kp_bit] at h2
      have h3 : μ.1 128 (12 + t) = nI j := by
        have := (Bool.and_eq_true _ _).mp h2
        exact of_decide_eq_true this.2
      exact nI_m1 (show j < 2 ^ 31 by omega) (h3.symm.trans h1)
    obtain ⟨g, hg⟩ := x_worthAll (κ := κ) hb.xc w1 (w2.mv rfl) hS (nI j)
    generalize hu : wsF (fun t => vwr (μ.1 128) (μ.1 129) (μ.1 130) tc kc rn tx t (nI j)) (OW μ tc (nI j) &&& LB μ tc) tc = u at hg
    have e1 : cl (rowI μ 19 g) = cl μ := cl_row rfl (fun j => by unfold rel; rfl)
    generalize hT : TT (rowI μ 19 g) (nI (OW μ tc (nI j) &&& LB μ tc)).toInt64 u.toInt64 = ζ
    have e2 : cl ζ = cl μ := by
      rw [← hT]
      unfold TT
      rw [cl_TB, cl_TB, cl_T0, e1]
    have e3 : cl (Zr ζ) = cl μ := cl_Z.trans e2
    have hX2 : Xc ζ (μ.1 128) (μ.1 129) (μ.1 130) hc tc kc lm := by
      have := (hb.mv e2).xc
      rw [f128 e2, f129 e2, f130 e2] at this
      exact this
    have hk := x_keepS (κ := κ) hX2 hS hk0
    obtain ⟨ξ, k1, k2⟩ := y_trustL (κ := κ) (hb.mv e3).2.1 (w3.mv e3) w1 hS (nI j) (nI (OW μ tc (nI j) &&& LB μ tc)).toInt64 u.toInt64 rfl (by rw [f128 e3, f129 e3, f130 e3, hu])
    rw [f128 e3] at k1
    refine ⟨kpF (fun t => μ.1 128 (24 + t)) (OW μ tc (nI j) &&& LB μ tc) tc, ζ, MM ξ (nI (OW μ tc (nI j) &&& LB μ tc)).toInt64 u.toInt64, ?_, ?_, ?_, row_TM (ν := μ) ?_ ?_ ?_⟩
    · unfold F_X11_trust
      simp only [↓reduceIte, obs, q0, q1, q2, q11, q13, q17, q20, q21, q24, q104, q111, q112, q116, q125, q127, g0_0, g0_1, g0_2, g0_3, g0_4, g0_5, g0_6, g0_7, p0_7, g0_8, g0_9, g0_10, g0_11, g0_12, g0_13, p0_13, g0_14, g0_15, g0_16, g0_17, g0_18, g1_0, g1_1, g1_2, g1_3, g1_4, g1_5, p1_5, g1_6, p1_6, g1_7, p1_7, g1_8, p1_8, g2_0, g2_1, g2_2, g2_3, g2_4, p2_4, g11_0, g11_1, p11_1, g11_2, p11_2, g11_3, p11_3, g13_0, g13_1, g13_2, g13_3, g17_0, g17_1, g17_2, p17_2, g20_0, g20_1, g21_0, g21_1, g21_2, p21_2, g24_0, g24_1, p24_1, g24_2, p24_2, g104_0, g104_1, g104_2, g104_3, g104_4, p104_4, g111_0, g111_1, p111_1, g111_2, p111_2, g111_3, p111_3, g112_0, g112_1, g112_2, g112_3, g112_4, p112_4, g116_0, g116_1, g116_2, g116_3, g116_4, g125_0, p125_0, g125_1, p125_1, g127_0, g127_1, p127_1, g127_2, p127_2, g127_3, p127_3, g127_4, g127_5, g127_6, p127_6, g127_7, g127_8, p127_8, g127_9, g127_10, p127_10, g127_11, p127_11, g127_12, g127_13, p127_13, g127_14, p127_14, g127_15, p127_15, g127_16, p127_16, g127_17, g127_18, g127_19, p127_19, g127_20, p127_20, g127_21, g127_22, g127_23, p127_23, g127_24, g127_25, g127_26, g127_27, g127_28, g127_29, p127_29, g127_30, p127_30, g127_31, g127_32, g127_33, p127_33, g127_34, p127_34, g127_35, p127_35, g127_36, p127_36, g127_37, g127_38, p127_38, g127_39, p127_39, g127_40, g127_41, g127_42, X_hasHouse1 hb rfl hj, d0, X_owned hb rfl, X_lentOnes hb rfl, i_and, hg, x_tellTwo]
      rw [← TT, hT]
      simp only [↓reduceIte, obs, q0, q1, q2, q11, q13, q17, q20, q21, q24, q104, q111, q112, q116, q125, q127, g0_0, g0_1, g0_2, g0_3, g0_4, g0_5, g0_6, g0_7, p0_7, g0_8, g0_9, g0_10, g0_11, g0_12, g0_13, p0_13, g0_14, g0_15, g0_16, g0_17, g0_18, g1_0, g1_1, g1_2, g1_3, g1_4, g1_5, p1_5, g1_6, p1_6, g1_7, p1_7, g1_8, p1_8, g2_0, g2_1, g2_2, g2_3, g2_4, p2_4, g11_0, g11_1, p11_1, g11_2, p11_2, g11_3, p11_3, g13_0, g13_1, g13_2, g13_3, g17_0, g17_1, g17_2, p17_2, g20_0, g20_1, g21_0, g21_1, g21_2, p21_2, g24_0, g24_1, p24_1, g24_2, p24_2, g104_0, g104_1, g104_2, g104_3, g104_4, p104_4, g111_0, g111_1, p111_1, g111_2, p111_2, g111_3, p111_3, g112_0, g112_1, g112_2, g112_3, g112_4, p112_4, g116_0, g116_1, g116_2, g116_3, g116_4, g125_0, p125_0, g125_1, p125_1, g127_0, g127_1, p127_1, g127_2, p127_2, g127_3, p127_3, g127_4, g127_5, g127_6, p127_6, g127_7, g127_8, p127_8, g127_9, g127_10, p127_10, g127_11, p127_11, g127_12, g127_13, p127_13, g127_14, p127_14, g127_15, p127_15, g127_16, p127_16, g127_17, g127_18, g127_19, p127_19, g127_20, p127_20, g127_21, g127_22, g127_23, p127_23, g127_24, g127_25, g127_26, g127_27, g127_28, g127_29, p127_29, g127_30, p127_30, g127_31, g127_32, g127_33, p127_33, g127_34, p127_34, g127_35, p127_35, g127_36, p127_36, g127_37, g127_38, p127_38, g127_39, p127_39, g127_40, g127_41, g127_42, hk]
    · unfold F_X12_trust
      simp only [if_pos q127, p11, ↓reduceIte, obs, Y_isHouse1 hb e3 hj, d0, Y_lentBits hb e3, g127_0, Y_owned hb e3, i_and]
      rw [Nat.and_comm]
      exact k1
    · have e4 : cl (MM ξ (nI (OW μ tc (nI j) &&& LB μ tc)).toInt64 u.toInt64) = cl μ := by
        unfold MM
        rw [cl_MB, cl_MB, cl_M0, k2.c, e3]
      rw [e4]
      exact hI.1.up (by omega)
    · rw [k2.1 0 (by decide) (by decide), ← hT]
      rfl
    · rw [k2.2.2, ← hT]
      rfl
    · rw [k2.2.2, ← hT]
      rfl
  · refine ⟨-1, μ, Zr μ, ?_, ?_, inv_Z hI⟩
    · unfold F_X11_trust
      simp only [↓reduceIte, obs, q0, q1, q2, q11, q13, q17, q20, q21, q24, q104, q111, q112, q116, q125, q127, g0_0, g0_1, g0_2, g0_3, g0_4, g0_5, g0_6, g0_7, p0_7, g0_8, g0_9, g0_10, g0_11, g0_12, g0_13, p0_13, g0_14, g0_15, g0_16, g0_17, g0_18, g1_0, g1_1, g1_2, g1_3, g1_4, g1_5, p1_5, g1_6, p1_6, g1_7, p1_7, g1_8, p1_8, g2_0, g2_1, g2_2, g2_3, g2_4, p2_4, g11_0, g11_1, p11_1, g11_2, p11_2, g11_3, p11_3, g13_0, g13_1, g13_2, g13_3, g17_0, g17_1, g17_2, p17_2, g20_0, g20_1, g21_0, g21_1, g21_2, p21_2, g24_0, g24_1, p24_1, g24_2, p24_2, g104_0, g104_1, g104_2, g104_3, g104_4, p104_4, g111_0, g111_1, p111_1, g111_2, p111_2, g111_3, p111_3, g112_0, g112_1, g112_2, g112_3, g112_4, p112_4, g116_0, g116_1, g116_2, g116_3, g116_4, g125_0, p125_0, g125_1, p125_1, g127_0, g127_1, p127_1, g127_2, p127_2, g127_3, p127_3, g127_4, g127_5, g127_6, p127_6, g127_7, g127_8, p127_8, g127_9, g127_10, p127_10, g127_11, p127_11, g127_12, g127_13, p127_13, g127_14, p127_14, g127_15, p127_15, g127_16, p127_16, g127_17, g127_18, g127_19, p127_19, g127_20, p127_20, g127_21, g127_22, g127_23, p127_23, g127_24, g127_25, g127_26, g127_27, g127_28, g127_29, p127_29, g127_30, p127_30, g127_31, g127_32, g127_33, p127_33, g127_34, p127_34, g127_35, p127_35, g127_36, p127_36, g127_37, g127_38, p127_38, g127_39, p127_39, g127_40, g127_41, g127_42, X_hasHouse0 hb rfl hx]
    · unfold F_X12_trust
      simp only [if_pos q127, p11, ↓reduceIte, obs, Y_isHouse0 hb cl_Z hx]
