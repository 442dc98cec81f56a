/-! PURE: pairs: ask, rests. -/
/-- how many are left at worst -/
noncomputable def akV (μ : Mem) (F t : Nat) : Nat := @ite Nat (∃ j, j < 5 ∧ μ.1 128 (24 + t) = nI j ∧ F.testBit j = true) (Classical.propDecidable _) 1 0
def akM (a y : Nat) : Nat := if y < a - y then a - y else y
theorem ak_1 {μ : Mem} {F t : Nat} : akV μ F t ≤ 1 := by unfold akV; split <;> omega
noncomputable def akS (μ : Mem) (F : Nat) (t : Nat) (s : Option (Nat × Nat)) : Option (Nat × Nat) := match s with
  | none => some (t, akM (cn F) (akV μ F t))
  | some q => if akM (cn F) (akV μ F t) < q.2 then some (t, akM (cn F) (akV μ F t)) else some q
theorem cn_5 {s : Nat} (h : s < 32) : cn s ≤ 5 := by
  have : ∀ s, s < 32 → cn s ≤ 5 := by decide +kernel
  exact this s h
theorem cn_sub1 {F q : Nat} (hF : F < 32) (hq : q < 32) {j : Nat} (h : ∀ x, q.testBit x = decide (x = j)) : cn (F &&& q) = if F.testBit j then 1 else 0 := by
  have : ∀ F, F < 32 → ∀ j, j < 5 → cn (F &&& 2 ^ j) = if F.testBit j then 1 else 0 := by decide +kernel
  have hj : j < 5 := by
    have h1 := h j
    rw [decide_eq_true rfl] at h1
    by_cases c : j < 5
    · exact c
    · have : 2 ^ 5 ≤ 2 ^ j := Nat.pow_le_pow_right (by decide) (by omega)
      rw [Nat.testBit_lt_two_pow (show q < 2 ^ j by omega)] at h1
      cases h1
  have e : q = 2 ^ j := by
    apply Nat.eq_of_testBit_eq
    intro i
    rw [h i, Nat.testBit_two_pow]
    by_cases c : i = j
    · simp [c]
    · simp [c, show ¬ j = i from fun z => c z.symm]
  rw [e]
  exact this F hF j hj
theorem X_akv {μ : Mem} {hc tc kc lm B t F q : Nat} (hb : Bs μ hc tc kc lm B) (hF : F < 32) (hFh : ∀ x, F.testBit x = true → x < hc) (hq : q < 32) (h3 : ∀ x, q.testBit x = (decide (x < hc) && decide (μ.1 128 (24 + t) = nI x))) (ht : t < tc) : cn (F &&& q) = akV μ F t := by
  have b1 := hb.b1
  rcases (hb.2.2.2.2.1.1 t ht).2.2.1 with k1 | ⟨j, k1, k2⟩
  · have e : q = 0 := by
      apply Nat.eq_of_testBit_eq
      intro i
      rw [h3 i, Nat.zero_testBit, k1]
      by_cases c : i < hc
      · have : ¬ (-1 : Int32) = nI i := fun z => by
          have h3 : (-1 : Int32).toInt = (nI i).toInt := by rw [← z]
          rw [nI_toInt (by omega)] at h3
          have : (-1 : Int32).toInt = -1 := rfl
          omega
        simp [this]
      · simp [c]
    rw [e, Nat.and_zero, cn_0]
    unfold akV
    rw [if_neg]
    rintro ⟨j, j1, j2, -⟩
    rw [k1] at j2
    have h3 : (-1 : Int32).toInt = (nI j).toInt := by rw [← j2]
    rw [nI_toInt (by omega)] at h3
    have : (-1 : Int32).toInt = -1 := rfl
    omega
  · have hx : ∀ x, q.testBit x = decide (x = j) := fun x => by
      rw [h3 x, k2]
      by_cases c : x < hc
      · have : (nI j = nI x) ↔ x = j := ⟨fun z => ((i_eq (by omega) (by omega)).mp z).symm, fun z => by rw [z]⟩
        simp [c, this]
      · simp [c, show ¬ x = j by omega]
    rw [cn_sub1 hF hq hx]
    unfold akV
    cases c : F.testBit j with
    | true => rw [if_pos rfl, if_pos ⟨j, by omega, k2, c⟩]
    | false =>
      rw [if_neg (by decide), if_neg]
      rintro ⟨i, i1, i2, i3⟩
      rw [k2] at i2
      have := (i_eq (by omega) (by omega)).mp i2
      subst this
      rw [c] at i3
      cases i3
theorem akM_i {a y : Nat} (ha : a ≤ 5) (hy : y ≤ 1) (hya : y ≤ a) : (if nI y < nI a - nI y then nI a - nI y else nI y) = nI (akM a y) := by
  rw [pk_sub hya]
  unfold akM
  by_cases c : y < a - y
  · rw [if_pos c, if_pos (nI_lt c (by omega))]
  · rw [if_neg c, if_neg (nI_nlt (by omega) (by omega))]
def akX (s : Option (Nat × Nat)) : Int32 × Int32 := match s with
  | none => (0, 6)
  | some q => (nI q.1, nI q.2)
def akY (s : Option (Nat × Nat)) : Int32 × Int32 := match s with
  | none => (-1, 1000000)
  | some q => (nI q.1, nI q.2)
theorem akV_le {μ : Mem} {F t : Nat} (hF : F < 32) : akV μ F t ≤ cn F := by
  have : ∀ F, F < 32 → ∀ j, j < 5 → F.testBit j = true → 1 ≤ cn F := by decide +kernel
  unfold akV
  split
  next h => obtain ⟨j, j1, -, j3⟩ := h; exact this F hF j j1 j3
  · omega
theorem akS_b {μ : Mem} {F : Nat} (hF : F < 32) : ∀ k, ∀ q, it (akS μ F) none k = some q → q.2 ≤ 5
  | 0, q, h => by cases h
  | k + 1, q, h => by
    have h5 := cn_5 hF
    have h6 : akM (cn F) (akV μ F k) ≤ 5 := by
      have := akV_le (μ := μ) (t := k) hF
      unfold akM
      split <;> omega
    rw [it_s] at h
    cases e : it (akS μ F) none k with
    | none => rw [e] at h; cases h; exact h6
    | some w =>
      rw [e] at h
      unfold akS at h
      dsimp only at h
      split at h
      · cases h; exact h6
      · cases h; exact akS_b hF k _ e
theorem akS_some {μ : Mem} {F : Nat} : ∀ k, 0 < k → ∃ q, it (akS μ F) none k = some q
  | 0, h => absurd h (by omega)
  | k + 1, _ => by
    rw [it_s]
    unfold akS
    split
    · exact ⟨_, rfl⟩
    · split
      · exact ⟨_, rfl⟩
      · exact ⟨_, rfl⟩
theorem X_ask {κ : Kp} {μ : Mem} {hc tc kc lm B F : Nat} (hb : Bs μ hc tc kc lm B) (hF : F < 32) (hFh : ∀ x, F.testBit x = true → x < hc) : b_X11_ask_36 0 (nI F) (nI (cn F)) bigN 0 6 0 (hp κ μ) = some ((akX (it (akS μ F) none tc)).1, hp κ (TB (T0 μ) 0 (akX (it (akS μ F) none tc)).2.toInt64)) := by
  have b2 := hb.b2
  have t2 : μ.1 1 6 = nI tc := hb.1.2.1
  refine lpk (fun n t => b_X11_ask_36 0 (nI F) (nI (cn F)) n (akX (it (akS μ F) none t)).1 (akX (it (akS μ F) none t)).2 (nI t) (hp κ μ)) tc _ ?_ ?_ bigN 0 (Nat.zero_le _) (by unfold bigN; omega)
  · intro n t ht
    (try dsimp only)
    obtain ⟨q, k1, k2, k3⟩ := X_keepers (κ := κ) hb (rfl : cl μ = cl μ) ht
    have hv := akV_le (μ := μ) (t := t) hF
    have h5 := cn_5 hF
    have hv1 := ak_1 (μ := μ) (F := F) (t := t)
    have hm : akM (cn F) (akV μ F t) ≤ 5 := by unfold akM; split <;> omega
    rw [b_X11_ask_36]
    simp only [g0_0, g1_6, t2, obs, if_neg (nI_ge ht (show tc < 2 ^ 31 by omega)), i_sh1 t (show t < 31 by omega), k1, i_and, bc (show F &&& q < 4096 from and_l (by omega)), X_akv hb hF hFh k2 k3 ht, akM_i h5 hv1 hv, b_X11_ask_91, nI_1]
    rw [it_s]
    have hbd := akS_b (μ := μ) hF t
    generalize it (akS μ F) none t = s at hbd
    cases s with
    | none =>
      unfold akX akS
      dsimp only
      rw [if_neg (show ¬ (6 : Int32) ≤ nI (akM (cn F) (akV μ F t)) from nI_ge (b := 6) (by omega) (by decide))]
    | some w =>
      have := hbd w rfl
      unfold akX akS
      dsimp only
      by_cases c : akM (cn F) (akV μ F t) < w.2
      · rw [if_pos c, if_neg (nI_ge c (by omega))]
      · rw [if_neg c, if_pos (nI_le (by omega) (by omega))]
  · intro n
    (try dsimp only)
    rw [b_X11_ask_36]
    simp only [g0_0, g1_6, t2, obs, if_pos (nI_le (Nat.le_refl tc) (show tc < 2 ^ 31 by omega)), x_tellOne]
theorem Y_ask {κ : Kp} {μ ν : Mem} {hc tc kc lm B F : Nat} (hb : Bs μ hc tc kc lm B) (e : cl ν = cl μ) (hF : F < 32) : b_X12_ask_33 127 (nI F) bigN (-1) 1000000 0 (hp κ ν) = some ((akY (it (akS μ F) none tc)).1, hp κ (MB (M0 ν) 0 (akY (it (akS μ F) none tc)).2.toInt64)) := by
  have b1 := hb.b1
  have b2 := hb.b2
  have m2 : ν.1 127 2 = nI tc := (hb.mv e).2.1.2.1
  refine lpk (fun n t => b_X12_ask_33 127 (nI F) n (akY (it (akS μ F) none t)).1 (akY (it (akS μ F) none t)).2 (nI t) (hp κ ν)) tc _ ?_ ?_ bigN 0 (Nat.zero_le _) (by unfold bigN; omega)
  · intro n t ht
    (try dsimp only)
    have hv := akV_le (μ := μ) (t := t) hF
    have h5 := cn_5 hF
    have hv1 := ak_1 (μ := μ) (F := F) (t := t)
    have hm : akM (cn F) (akV μ F t) ≤ 5 := by unfold akM; split <;> omega
    have fin : ∀ (a b : Int32), (a, b) = akY (it (akS μ F) none t) → b_X12_ask_77 (fun x0 x1 x2 x3 => b_X12_ask_33 127 (nI F) n x0 x1 x2 x3) 127 (nI F) a b (nI t) (nI (akV μ F t)) (hp κ ν) = b_X12_ask_33 127 (nI F) n (akY (it (akS μ F) none (t + 1))).1 (akY (it (akS μ F) none (t + 1))).2 (nI (t + 1)) (hp κ ν) := fun a b hab => by
      unfold b_X12_ask_77
      simp only [bc (show F < 4096 by omega), obs, akM_i h5 hv1 hv, b_X12_ask_108, nI_1]
      rw [it_s]
      have hbd := akS_b (μ := μ) hF t
      generalize it (akS μ F) none t = s at hbd hab
      cases s with
      | none =>
        cases hab
        unfold akY akS
        dsimp only
        rw [if_pos (show nI (akM (cn F) (akV μ F t)) < (1000000 : Int32) from nI_lt (b := 1000000) (by omega) (by decide))]
      | some w =>
        have := hbd w rfl
        cases hab
        unfold akY akS
        dsimp only
        by_cases c : akM (cn F) (akV μ F t) < w.2
        · rw [if_pos c, if_pos (nI_lt c (by omega))]
        · rw [if_neg c, if_neg (nI_nlt (by omega) (by omega))]
    rw [b_X12_ask_33]
    simp only [g127_2, m2, obs, if_neg (nI_ge ht (show tc < 2 ^ 31 by omega)), g127_0, i24, r128 (show 24 + t < 42 by omega), show ν.1 128 (24 + t) = μ.1 128 (24 + t) by rw [f128 e], b_X12_ask_76]
    rcases (hb.2.2.2.2.1.1 t ht).2.2.1 with k1 | ⟨j, k1, k2⟩
    · have hz : akV μ F t = 0 := by
        unfold akV
        rw [if_neg]
        rintro ⟨j, j1, j2, -⟩
        rw [k1] at j2
        have h3 : (-1 : Int32).toInt = (nI j).toInt := by rw [← j2]
        rw [nI_toInt (by omega)] at h3
        have : (-1 : Int32).toInt = -1 := rfl
        omega
      rw [k1, if_pos (by decide)]
      have := fin _ _ rfl
      rw [hz] at this
      exact this
    · rw [k2, if_neg (nI_pos (by omega)), y_has (by omega) (by omega), obs]
      dsimp only
      cases c : F.testBit j with
      | true =>
        have hz : akV μ F t = 1 := by unfold akV; rw [if_pos ⟨j, by omega, k2, c⟩]
        have := fin _ _ rfl
        rw [hz] at this
        rw [if_neg (by decide)]
        exact this
      | false =>
        have hz : akV μ F t = 0 := by
          unfold akV
          rw [if_neg]
          rintro ⟨i, i1, i2, i3⟩
          rw [k2] at i2
          have := (i_eq (by omega) (by omega)).mp i2
          subst this
          rw [c] at i3
          cases i3
        have := fin _ _ rfl
        rw [hz] at this
        rw [if_pos (by decide)]
        exact this
  · intro n
    (try dsimp only)
    rw [b_X12_ask_33]
    simp only [g127_2, m2, obs, if_pos (nI_le (Nat.le_refl tc) (show tc < 2 ^ 31 by omega)), p10, y_tell0]
theorem pr_ask : P0 F_X11_ask F_X12_ask := by
  intro κ B μ hR hB hI
  obtain ⟨hc, tc, kc, lm, hb⟩ := hI.bs
  obtain ⟨hd, bs, tt, a1, a2, a3, a4, a5, a6⟩ := hI.hd hb
  have b1 := hb.b1
  have b2 := hb.b2
  have hlt := FH_lt (μ := μ) (i := hd) (tt := tt) (bs := bs) b1.2
  have hFh : ∀ x, (FH μ hc hd tt bs).testBit x = true → x < hc := fun x hx => by
    unfold FH at hx
    rw [sb_bit, Bool.and_eq_true] at hx
    exact of_decide_eq_true hx.1
  have t2 : μ.1 1 6 = nI tc := hb.1.2.1
  have m2 : μ.1 127 2 = nI tc := hb.2.1.2.1
  have xf := X_fit (κ := κ) hb a1 a3 (fun i hi => ⟨(a6 i hi).1, (a6 i hi).2.1, (a6 i hi).2.2.2⟩)
  have yf : ∀ ν : Mem, cl ν = cl μ → ν.1 127 33 = nI hd → ν.1 127 34 = nI bs → ν.1 143 = μ.1 143 → F_X12_fits 127 (hp κ ν) = some (nI (FH μ hc hd tt bs), hp κ ν) := fun ν e h1 h2 h3 => Y_fit hb e a1 a2 h1 h2 (fun i hi => ⟨(a6 i hi).1, by rw [h3]; exact (a6 i hi).2.2.1⟩)
  by_cases c : FH μ hc hd tt bs = 0 ∨ tc = 0
  · refine ⟨-2, μ, Zr μ, ?_, ?_, inv_Z hI⟩
    · unfold F_X11_ask
      simp only [if_pos q0, ↓reduceIte, obs, xf]
      by_cases c1 : FH μ hc hd tt bs = 0
      · rw [if_pos (by rw [c1]; rfl)]
      · have c2 : tc = 0 := by omega
        rw [if_neg (fun z => c1 ((i_eq0 (by omega)).mp z))]
        simp only [g0_0, g1_6, t2, obs]
        rw [if_pos (by rw [c2]; rfl)]
    · unfold F_X12_ask
      simp only [if_pos q127, p11, ↓reduceIte, obs, yf (Zr μ) cl_Z a4 a5 rfl]
      by_cases c1 : FH μ hc hd tt bs = 0
      · rw [if_pos (by rw [c1]; rfl)]
      · have c2 : tc = 0 := by omega
        rw [if_neg (fun z => c1 ((i_eq0 (by omega)).mp z))]
        simp only [g127_2, show (Zr μ).1 127 2 = nI tc from m2, obs]
        rw [if_pos (by rw [c2]; rfl)]
  · have c1 : ¬ nI (FH μ hc hd tt bs) = 0 := fun z => c (Or.inl ((i_eq0 (by omega)).mp z))
    have c2 : ¬ nI tc = 0 := fun z => c (Or.inr ((i_eq0 (by omega)).mp z))
    obtain ⟨q, hq⟩ := akS_some (μ := μ) (F := FH μ hc hd tt bs) tc (by omega)
    have xa := X_ask (κ := κ) hb hlt hFh
    rw [hq] at xa
    refine ⟨nI q.1, TB (T0 μ) 0 (nI q.2).toInt64, R1 μ (nI q.2).toInt64, ?_, ?_, inv_R1 hI⟩
    · unfold F_X11_ask
      simp only [if_pos q0, ↓reduceIte, obs, xf, c1, g0_0, g1_6, t2, c2, bc (show FH μ hc hd tt bs < 4096 by omega)]
      exact xa
    · have e : cl (Zr (TB (T0 μ) 0 (nI q.2).toInt64)) = cl μ := by rw [cl_Z, cl_TB, cl_T0]
      have ya := Y_ask (κ := κ) hb e hlt
      rw [hq] at ya
      unfold F_X12_ask
      simp only [if_pos q127, p11, ↓reduceIte, obs, yf (Zr (TB (T0 μ) 0 (nI q.2).toInt64)) e a4 a5 rfl, c1, g127_2, show (Zr (TB (T0 μ) 0 (nI q.2).toInt64)).1 127 2 = nI tc from m2, c2]
      exact ya
