/-! PURE: pairs: questions: broken, whose, ask. -/
def alp (p : Nat → Bool) : Nat → Bool
  | 0 => true
  | k + 1 => alp p k && p k
theorem alp_no {p : Nat → Bool} : ∀ {K k : Nat}, k < K → p k = false → alp p K = false
  | 0, k, h, _ => absurd h (by omega)
  | K + 1, k, h, hp => by
    show (alp p K && p K) = false
    by_cases c : k = K
    · subst c; rw [hp, Bool.and_false]
    · rw [alp_no (show k < K by omega) hp, Bool.false_and]
theorem alp_iff {p : Nat → Bool} : ∀ {K : Nat}, alp p K = true ↔ ∀ k, k < K → p k = true
  | 0 => ⟨fun _ k hk => absurd hk (by omega), fun _ => rfl⟩
  | K + 1 => by
    show (alp p K && p K) = true ↔ _
    rw [Bool.and_eq_true, alp_iff]
    constructor
    · intro ⟨h1, h2⟩ k hk
      by_cases c : k = K
      · subst c; exact h2
      · exact h1 k (by omega)
    · intro h
      exact ⟨fun k hk => h k (by omega), h K (by omega)⟩
theorem alp_cong {p q : Nat → Bool} {K : Nat} (h : ∀ k, k < K → p k = q k) : alp p K = alp q K := by
  cases e : alp q K with
  | true => exact alp_iff.mpr (fun k hk => by rw [h k hk]; exact alp_iff.mp e k hk)
  | false =>
    cases e2 : alp p K with
    | false => rfl
    | true =>
      have : alp q K = true := alp_iff.mpr (fun k hk => by rw [← h k hk]; exact alp_iff.mp e2 k hk)
      rw [e] at this
      cases this
/-- a loop that ends with no at the first k that isn't so -/
theorem lpa {ρ : Type} (B : Nat → Nat → Option ρ) (p : Nat → Bool) (K : Nat) (yes no : Option ρ) (hs : ∀ n k, k < K → p k = true → B (n + 1) k = B n (k + 1)) (hx : ∀ n k, k < K → p k = false → B (n + 1) k = no) (he : ∀ n, B (n + 1) K = yes) : ∀ n k, k ≤ K → K - k < n → alp p k = true → B n k = if alp p K then yes else no := by
  intro n
  induction n with
  | zero => intro k h1 h2; exact absurd h2 (by omega)
  | succ n ih =>
    intro k h1 h2 h3
    by_cases c : k = K
    · subst c
      rw [h3, he]
      rfl
    · cases hp : p k with
      | true =>
        rw [hs n k (by omega) hp]
        exact ih (k + 1) (by omega) (by omega) (by show (alp p k && p k) = true; rw [h3, hp]; rfl)
      | false =>
        rw [hx n k (by omega) hp, alp_no (show k < K by omega) hp]
        rfl
/-! broken -/
def obK (μ : Mem) (tc kc lm x : Nat) : Nat := cn (BB μ tc kc lm (KP μ tc (nI x)))
def ovK (μ : Mem) (tc lm x : Nat) (k : Nat) : Nat := fb_sm (fun k => MO μ tc (KP μ tc (nI x)) k - lm) k
theorem i_pos_sub {a b : Nat} (ha : a < 2 ^ 30) (hb : b < 2 ^ 30) : (0 < nI a - nI b) ↔ b < a := by
  rw [fa_lt, pk_sub_toInt ha hb]
  have : (0 : Int32).toInt = 0 := rfl
  omega
theorem i_sub_max {a b : Nat} (ha : a < 2 ^ 30) (hb : b < 2 ^ 30) : (if 0 < nI a - nI b then nI a - nI b else 0) = nI (a - b) := by
  by_cases c : b < a
  · rw [if_pos ((i_pos_sub ha hb).mpr c)]
    exact pk_sub (by omega)
  · rw [if_neg (fun z => c ((i_pos_sub ha hb).mp z)), show a - b = 0 by omega]
    rfl
theorem MO_le {μ : Mem} {tc s k : Nat} : MO μ tc s k ≤ tc := mo_le _ _ _ _ _ _
theorem X_tooMany {κ : Kp} {μ : Mem} {hc tc kc lm B : Nat} (hb : Bs μ hc tc kc lm B) (x : Nat) : F_X10_tooManyIn 1 (nI (KP μ tc (nI x))) (hp κ μ) = some (nI (ovK μ tc lm x kc), hp κ μ) := by
  have b2 := hb.b2
  have b3 := hb.b3
  have b4 := hb.b4
  obtain ⟨t1, t2, t3, t4, -⟩ := hb.1
  unfold F_X10_tooManyIn
  rw [if_pos q1]
  refine lpk (fun n k => b_X10_tooManyIn_4 1 (nI (KP μ tc (nI x))) n (nI (ovK μ tc lm x k)) (nI k) (hp κ μ)) kc _ ?_ ?_ bigN 0 (Nat.zero_le _) (by unfold bigN; omega)
  · intro n k hk
    (try dsimp only)
    have e1 : cn (KP μ tc (nI x) &&& KS μ tc k) = MO μ tc (KP μ tc (nI x)) k := cn_kset b2
    have h1 : MO μ tc (KP μ tc (nI x)) k ≤ tc := MO_le
    rw [b_X10_tooManyIn_4]
    simp only [g1_7, t3, obs, if_neg (nI_ge hk (show kc < 2 ^ 31 by omega)), g1_3, r9 (show k < 6 by omega), (hb.of k hk).1, i_and, bc (show KP μ tc (nI x) &&& KS μ tc k < 4096 from and_l (KP_lt b2)), e1, g1_8, t4, i_sub_max (show MO μ tc (KP μ tc (nI x)) k < 2 ^ 30 by omega) (show lm < 2 ^ 30 by omega), nI_add, nI_1]
    rfl
  · intro n
    (try dsimp only)
    rw [b_X10_tooManyIn_4]
    simp only [g1_7, t3, obs, if_pos (nI_le (Nat.le_refl kc) (show kc < 2 ^ 31 by omega))]
theorem X_brk {κ : Kp} {μ : Mem} {hc tc kc lm B : Nat} (hb : Bs μ hc tc kc lm B) : b_X11_broken_6 0 bigN 0 0 0 (hp κ μ) = some (nI (BH μ hc tc kc lm), hp κ (TB (TB (T0 μ) 0 (nI (fb_sm (obK μ tc kc lm) hc)).toInt64) 1 (nI (fb_sm (fun x => ovK μ tc lm x kc) hc)).toInt64)) := by
  have b1 := hb.b1
  have b2 := hb.b2
  have b3 := hb.b3
  have t1 : μ.1 1 5 = nI hc := hb.1.1
  refine lpk (fun n x => b_X11_broken_6 0 n (nI (fb_sm (obK μ tc kc lm) x)) (nI (fb_sm (fun x => ovK μ tc lm x kc) x)) (nI x) (hp κ μ)) hc _ ?_ ?_ bigN 0 (Nat.zero_le _) (by unfold bigN; omega)
  · intro n x hx
    (try dsimp only)
    have h1 := BB_lt (μ := μ) (tc := tc) (lm := lm) (s := KP μ tc (nI x)) b3
    rw [b_X11_broken_6]
    simp only [g0_0, g1_5, t1, obs, if_neg (nI_ge hx (show hc < 2 ^ 31 by omega)), X_kept hb rfl, X_broken hb rfl (KP_lt b2), bc (show BB μ tc kc lm (KP μ tc (nI x)) < 4096 by omega), X_tooMany hb, nI_add, nI_1]
    rfl
  · intro n
    (try dsimp only)
    rw [b_X11_broken_6]
    have e : ∀ u v, cl (TB (TB (T0 μ) 0 u) 1 v) = cl μ := fun u v => by rw [cl_TB, cl_TB, cl_T0]
    simp only [g0_0, g1_5, t1, obs, if_pos (nI_le (Nat.le_refl hc) (show hc < 2 ^ 31 by omega)), x_tellTwo, X_breakers hb (e _ _)]
theorem Y_brk_in {κ : Kp} {μ ν : Mem} {hc tc kc lm B : Nat} (hb : Bs μ hc tc kc lm B) (e : cl ν = cl μ) (x a b : Nat) (r : Int32 → Int32 → Int32 → ci_H → Option (Int32 × ci_H)) : b_X12_broken_22 r 127 (nI x) bigN (nI a) (nI b) 0 (hp κ ν) = r (nI (a + obK μ tc kc lm x)) (nI (b + ovK μ tc lm x kc)) (nI (x + 1)) (hp κ ν) := by
  have b2 := hb.b2
  have b3 := hb.b3
  have b4 := hb.b4
  have hM := (hb.mv e).2.1
  have m3 : ν.1 127 3 = nI kc := hM.2.2.1
  have m6 : ν.1 127 6 = nI lm := hM.2.2.2.1
  have eo : obK μ tc kc lm x = fb_ct (fun k => decide (lm < MO μ tc (KP μ tc (nI x)) k)) kc := cn_sb (tc := kc) (by omega) _
  have h1 := lpk (fun n k => b_X12_broken_22 r 127 (nI x) n (nI (a + fb_ct (fun k => decide (lm < MO μ tc (KP μ tc (nI x)) k)) k)) (nI (b + ovK μ tc lm x k)) (nI k) (hp κ ν)) kc (r (nI (a + obK μ tc kc lm x)) (nI (b + ovK μ tc lm x kc)) (nI (x + 1)) (hp κ ν)) ?_ ?_ bigN 0 (Nat.zero_le _) (by unfold bigN; omega)
  · exact h1
  · intro n k hk
    (try dsimp only)
    have h1 : MO μ tc (KP μ tc (nI x)) k ≤ tc := MO_le
    have e1 : ovK μ tc lm x (k + 1) = ovK μ tc lm x k + (MO μ tc (KP μ tc (nI x)) k - lm) := rfl
    rw [b_X12_broken_22, fb_ct_succ, e1]
    simp only [g127_3, m3, obs, if_neg (nI_ge hk (show kc < 2 ^ 31 by omega)), g127_0, Y_kept hb e, Y_manyOf hb e (KP_lt b2) (show k < 6 by omega), g127_6, m6, b_X12_broken_73, nI_1]
    by_cases c : lm < MO μ tc (KP μ tc (nI x)) k
    · rw [if_pos ((i_pos_sub (by omega) (by omega)).mpr c), pk_sub (by omega), nI_add]
      simp only [c, decide_true, ↓reduceIte, Nat.add_assoc]
    · rw [if_neg (fun z => c ((i_pos_sub (by omega) (by omega)).mp z)), show MO μ tc (KP μ tc (nI x)) k - lm = 0 by omega]
      simp only [c, decide_false, Bool.false_eq_true, ↓reduceIte, Nat.add_zero]
  · intro n
    (try dsimp only)
    rw [b_X12_broken_22]
    simp only [g127_3, m3, obs, if_pos (nI_le (Nat.le_refl kc) (show kc < 2 ^ 31 by omega)), nI_1, eo]
theorem Y_brk {κ : Kp} {μ ν : Mem} {hc tc kc lm B : Nat} (hb : Bs μ hc tc kc lm B) (e : cl ν = cl μ) : b_X12_broken_11 127 bigN 0 0 0 (hp κ ν) = some (nI (BH μ hc tc kc lm), hp κ (MB (MB (M0 ν) 0 (nI (fb_sm (obK μ tc kc lm) hc)).toInt64) 1 (nI (fb_sm (fun x => ovK μ tc lm x kc) hc)).toInt64)) := by
  have b1 := hb.b1
  have m1 : ν.1 127 1 = nI hc := (hb.mv e).2.1.1
  refine lpk (fun n x => b_X12_broken_11 127 n (nI (fb_sm (obK μ tc kc lm) x)) (nI (fb_sm (fun x => ovK μ tc lm x kc) x)) (nI x) (hp κ ν)) hc _ ?_ ?_ bigN 0 (Nat.zero_le _) (by unfold bigN; omega)
  · intro n x hx
    (try dsimp only)
    rw [b_X12_broken_11]
    simp only [g127_1, m1, obs, if_neg (nI_ge hx (show hc < 2 ^ 31 by omega)), Y_brk_in hb e]
    rfl
  · intro n
    (try dsimp only)
    rw [b_X12_broken_11]
    have e2 : ∀ u v, cl (MB (MB (M0 ν) 0 u) (0 + 1) v) = cl μ := fun u v => by rw [cl_MB, cl_MB, cl_M0, e]
    simp only [g127_1, m1, obs, if_pos (nI_le (Nat.le_refl hc) (show hc < 2 ^ 31 by omega)), p10, y_tell0, y_tell1 (i := 0) (show 0 + 1 < 20 by decide), g127_0, Y_brokenHouses hb (e2 _ _)]
theorem pr_broken : P0 F_X11_broken F_X12_broken := by
  intro κ B μ hR hB hI
  obtain ⟨hc, tc, kc, lm, hb⟩ := hI.bs
  refine ⟨nI (BH μ hc tc kc lm), TB (TB (T0 μ) 0 (nI (fb_sm (obK μ tc kc lm) hc)).toInt64) 1 (nI (fb_sm (fun x => ovK μ tc lm x kc) hc)).toInt64, R2 μ (nI (fb_sm (obK μ tc kc lm) hc)).toInt64 (nI (fb_sm (fun x => ovK μ tc lm x kc) hc)).toInt64, ?_, ?_, inv_R2 hI⟩
  · unfold F_X11_broken
    simp only [if_pos q0, X_brk hb]
  · have e : ∀ u v, cl (Zr (TB (TB (T0 μ) 0 u) 1 v)) = cl μ := fun u v => by rw [cl_Z, cl_TB, cl_TB, cl_T0]
    unfold F_X12_broken
    simp only [if_pos q127, p11, ↓reduceIte, obs, Y_brk hb (e _ _)]
    rfl
/-! whose, ask -/
theorem X_keepers {κ : Kp} {μ ν : Mem} {hc tc kc lm B t : Nat} (hb : Bs μ hc tc kc lm B) (e : cl ν = cl μ) (ht : t < tc) : ∃ q, F_X10_keepersOf 1 (nI (2 ^ t)) (hp κ ν) = some (nI q, hp κ ν) ∧ q < 32 ∧ ∀ x, q.testBit x = (decide (x < hc) && decide (μ.1 128 (24 + t) = nI x)) := by
  have b1 := hb.b1
  have b2 := hb.b2
  have hv := hb.mv e
  have t2 : ν.1 1 6 = nI tc := hv.1.2.1
  have hw := (hb.2.2.2.2.1.1 t ht).2.2.1
  have hbit : ∀ u, u < tc → (2 ^ t).testBit u = decide (u = t) := fun u _ => by
    rw [Nat.testBit_two_pow]
    by_cases c : u = t
    · simp [c]
    · simp [c, show ¬ t = u from fun z => c z.symm]
  have h2t : 2 ^ t < 2 ^ 31 := Nat.pow_lt_pow_right (by decide) (by omega)
  have go : ∀ q : Nat, (μ.1 128 (24 + t) = -1 ∧ q = 0 ∨ ∃ j, j < hc ∧ μ.1 128 (24 + t) = nI j ∧ q = 2 ^ j) → F_X10_keepersOf 1 (nI (2 ^ t)) (hp κ ν) = some (nI q, hp κ ν) := fun q hq => by
    unfold F_X10_keepersOf
    rw [if_pos q1]
    have h1 := lpk (fun n u => b_X10_keepersOf_4 1 (nI (2 ^ t)) n (nI (if t < u then q else 0)) (nI u) (hp κ ν)) tc (some (nI q, hp κ ν)) ?_ ?_ bigN 0 (Nat.zero_le _) (by unfold bigN; omega)
    · exact h1
    · intro n u hu
      (try dsimp only)
      rw [b_X10_keepersOf_4]
      simp only [g1_6, t2, obs, if_neg (nI_ge hu (show tc < 2 ^ 31 by omega)), b_X10_keepersOf_47, nI_1]
      by_cases c : u = t
      · subst c
        have c1 : ¬ ((nI (2 ^ u) >>> (nI u &&& 31)) &&& 1 = 0) := fun z => by
          have := (i_bit0 h2t (by omega)).mp z
          rw [hbit u hu] at this
          simp at this
        have e4 : ν.1 4 u = μ.1 128 (24 + u) := by rw [hv.ke (by omega), f128 e]
        simp only [if_neg c1, g1_0, g2_1, r4 (show u < 12 by omega), obs, e4]
        rw [if_neg (Nat.lt_irrefl u), if_pos (Nat.lt_succ_self u)]
        rcases hq with ⟨k1, k2⟩ | ⟨j, k1, k2, k3⟩
        · rw [if_pos k1, k2]
        · rw [if_neg (by
            rw [k2]
            intro z
            have h3 : (nI j).toInt = (-1 : Int32).toInt := by rw [z]
            rw [nI_toInt (by omega)] at h3
            have : (-1 : Int32).toInt = -1 := rfl
            omega), k2, i_sh1 j (by omega), i_or, Nat.zero_or, k3]
      · have c1 : (nI (2 ^ t) >>> (nI u &&& 31)) &&& 1 = 0 := (i_bit0 h2t (by omega)).mpr (by rw [hbit u hu]; simp [c])
        rw [if_pos c1]
        congr 2
        by_cases c2 : t < u
        · rw [if_pos c2, if_pos (by omega)]
        · rw [if_neg c2, if_neg (by omega)]
    · intro n
      (try dsimp only)
      rw [b_X10_keepersOf_4]
      simp only [g1_6, t2, obs, if_pos (nI_le (Nat.le_refl tc) (show tc < 2 ^ 31 by omega)), if_pos ht]
  rcases hw with k1 | ⟨j, k1, k2⟩
  · refine ⟨0, go 0 (Or.inl ⟨k1, rfl⟩), by decide, fun x => ?_⟩
    rw [Nat.zero_testBit, k1]
    by_cases c : x < hc
    · have : ¬ (-1 : Int32) = nI x := fun z => by
        have h3 : (-1 : Int32).toInt = (nI x).toInt := by rw [← z]
        rw [nI_toInt (by omega)] at h3
        have : (-1 : Int32).toInt = -1 := rfl
        omega
      simp [this]
    · simp [c]
  · refine ⟨2 ^ j, go _ (Or.inr ⟨j, k1, k2, rfl⟩), Nat.pow_lt_pow_right (by decide) (show j < 5 by omega), fun x => ?_⟩
    rw [Nat.testBit_two_pow, k2]
    by_cases c : x < hc
    · have : (nI j = nI x) ↔ j = x := i_eq (by omega) (by omega)
      simp [c, this]
    · simp [c, show ¬ j = x by omega]
/-- the houses that fit what was heard -/
def FH (μ : Mem) (hc i : Nat) (tt : Nat → Nat) (bs : Nat) : Nat := sb (fun x => alp (fun k => decide (decide (μ.1 128 (24 + tt k) = nI x) = bs.testBit k)) i) hc
theorem X_fit {κ : Kp} {μ : Mem} {hc tc kc lm B hd bs : Nat} {tt : Nat → Nat} (hb : Bs μ hc tc kc lm B) (hd1 : hd ≤ 12) (h0 : μ.1 0 13 = nI hd) (hh : ∀ i, i < hd → tt i < tc ∧ μ.1 109 i = nI (tt i) ∧ μ.1 110 i = if bs.testBit i then 1 else 0) : F_X11_fittingHouses 0 (hp κ μ) = some (nI (FH μ hc hd tt bs), hp κ μ) := by
  have b1 := hb.b1
  have b2 := hb.b2
  have t1 : μ.1 1 5 = nI hc := hb.1.1
  have hp5 : 2 ^ hc ≤ 2 ^ 5 := Nat.pow_le_pow_right (by decide) b1.2
  unfold F_X11_fittingHouses
  have e0 : (1 : Int32) <<< (nI hc &&& 31) - 1 = nI (FH μ hc 0 tt bs) := by
    rw [i_sh1 hc (by omega), show nI (2 ^ hc) - 1 = nI (2 ^ hc - 1) from pk_sub (b := 1) Nat.one_le_two_pow]
    refine congrArg nI (st_ext (n := 5) (by omega) (sb_le _ b1.2) (fun i hi => ?_))
    unfold FH
    rw [Nat.testBit_two_pow_sub_one, sb_bit]
    simp [alp]
  simp only [if_pos q0, g0_0, g1_5, t1, obs, e0]
  refine lpk (fun n i => b_X11_fittingHouses_14 0 n (nI (FH μ hc i tt bs)) (nI i) (hp κ μ)) hd _ ?_ ?_ bigN 0 (Nat.zero_le _) (by unfold bigN; omega)
  · intro n i hi
    (try dsimp only)
    obtain ⟨u1, u2, u3⟩ := hh i hi
    obtain ⟨q, k1, k2, k3⟩ := X_keepers (κ := κ) hb (rfl : cl μ = cl μ) u1
    rw [b_X11_fittingHouses_14]
    simp only [g0_13, h0, obs, if_neg (nI_ge hi (show hd < 2 ^ 31 by omega)), g0_0, g0_11, r109 (show i < 12 by omega), u2, i_sh1 (tt i) (show tt i < 31 by omega), k1, g0_12, r110 (show i < 12 by omega), u3, b_X11_fittingHouses_56, nI_1]
    have ext : ∀ s, s < 2 ^ 5 → (∀ x, x < hc → s.testBit x = (alp (fun k => decide (decide (μ.1 128 (24 + tt k) = nI x) = bs.testBit k)) i && decide (decide (μ.1 128 (24 + tt i) = nI x) = bs.testBit i))) → (∀ x, hc ≤ x → s.testBit x = false) → s = FH μ hc (i + 1) tt bs := fun s h1 h2 h3 => by
      refine st_ext (n := 5) h1 (sb_le _ b1.2) (fun x hx => ?_)
      unfold FH
      rw [sb_bit]
      by_cases c : x < hc
      · rw [h2 x c]
        simp only [c, decide_true, Bool.true_and]
        rfl
      · rw [h3 x (by omega)]
        simp [c]
    have hF : FH μ hc i tt bs < 2 ^ 5 := sb_le _ b1.2
    have hFb : ∀ x, (FH μ hc i tt bs).testBit x = (decide (x < hc) && alp (fun k => decide (decide (μ.1 128 (24 + tt k) = nI x) = bs.testBit k)) i) := fun x => sb_bit _ _ _
    cases hbt : bs.testBit i with
    | true =>
      rw [if_pos (by simp), i_and]
      rw [ext (FH μ hc i tt bs &&& q) (and_l hF) (fun x hx => by rw [Nat.testBit_and, hFb, k3, hbt]; simp [hx]) (fun x hx => by rw [Nat.testBit_and, hFb]; simp [show ¬ x < hc by omega])]
    | false =>
      rw [if_neg (by simp), i_sd]
      rw [ext (sd (FH μ hc i tt bs) q) (sd_lt hF) (fun x hx => by rw [sd_bit, hFb, k3, hbt]; simp [hx]) (fun x hx => by rw [sd_bit, hFb]; simp [show ¬ x < hc by omega])]
  · intro n
    (try dsimp only)
    rw [b_X11_fittingHouses_14]
    simp only [g0_13, h0, obs, if_pos (nI_le (Nat.le_refl hd) (show hd < 2 ^ 31 by omega))]
theorem Y_fit {κ : Kp} {μ ν : Mem} {hc tc kc lm B hd bs : Nat} {tt : Nat → Nat} (hb : Bs μ hc tc kc lm B) (e : cl ν = cl μ) (hd1 : hd ≤ 12) (hbs : bs < 4096) (h0 : ν.1 127 33 = nI hd) (h1 : ν.1 127 34 = nI bs) (hh : ∀ i, i < hd → tt i < tc ∧ ν.1 143 i = nI (tt i)) : F_X12_fits 127 (hp κ ν) = some (nI (FH μ hc hd tt bs), hp κ ν) := by
  have b1 := hb.b1
  have b2 := hb.b2
  have m1 : ν.1 127 1 = nI hc := (hb.mv e).2.1.1
  unfold F_X12_fits
  rw [if_pos q127]
  have inner : ∀ (r : Int32 → Int32 → ci_H → Option (Int32 × ci_H)) (l1 : Int32) (x : Nat), x < hc → b_X12_fits_17 r 127 l1 (nI x) bigN 1 0 (hp κ ν) = r (l1 ||| (if alp (fun k => decide (decide (μ.1 128 (24 + tt k) = nI x) = bs.testBit k)) hd then nI (2 ^ x) else 0)) (nI (x + 1)) (hp κ ν) := fun r l1 x hx => by
    refine lpk (fun n k => b_X12_fits_17 r 127 l1 (nI x) n (if alp (fun k => decide (decide (μ.1 128 (24 + tt k) = nI x) = bs.testBit k)) k then 1 else 0) (nI k) (hp κ ν)) hd _ ?_ ?_ bigN 0 (Nat.zero_le _) (by unfold bigN; omega)
    · intro n k hk
      (try dsimp only)
      obtain ⟨u1, u2⟩ := hh k hk
      rw [b_X12_fits_17]
      simp only [g127_33, h0, obs, if_neg (nI_ge hk (show hd < 2 ^ 31 by omega))]
      show _ = b_X12_fits_17 r 127 l1 (nI x) n (if (alp (fun k => decide (decide (μ.1 128 (24 + tt k) = nI x) = bs.testBit k)) k && decide (decide (μ.1 128 (24 + tt k) = nI x) = bs.testBit k)) = true then 1 else 0) (nI (k + 1)) (hp κ ν)
      cases hal : alp (fun k => decide (decide (μ.1 128 (24 + tt k) = nI x) = bs.testBit k)) k with
      | false =>
        simp only [Bool.false_eq_true, ↓reduceIte, b_X12_fits_70, b_X12_fits_71, nI_1, Bool.false_and]
      | true =>
        simp only [↓reduceIte, show ¬ (1 : Int32) = 0 by decide, g127_0, g127_32, r143 (show k < 12 by omega), u2, obs, i24, r128 (show 24 + tt k < 42 by omega), show ν.1 128 (24 + tt k) = μ.1 128 (24 + tt k) by rw [f128 e], b_X12_fits_54, g127_34, h1, y_has (small hbs) (show k < 32 by omega), b_X12_fits_70, b_X12_fits_71, nI_1, Bool.true_and]
        by_cases c1 : μ.1 128 (24 + tt k) = nI x
        · cases c2 : bs.testBit k with
          | true => simp [c1]
          | false => simp [c1]
        · cases c2 : bs.testBit k with
          | true => simp [c1]
          | false => simp [c1]
    · intro n
      (try dsimp only)
      rw [b_X12_fits_17]
      simp only [g127_33, h0, obs, if_pos (nI_le (Nat.le_refl hd) (show hd < 2 ^ 31 by omega)), b_X12_fits_90, nI_1, i_sh1 x (show x < 31 by omega)]
      cases hal : alp (fun k => decide (decide (μ.1 128 (24 + tt k) = nI x) = bs.testBit k)) hd with
      | false => simp
      | true => simp
  refine lpk (fun n x => b_X12_fits_4 127 n (nI (sb (fun x => alp (fun k => decide (decide (μ.1 128 (24 + tt k) = nI x) = bs.testBit k)) hd) x)) (nI x) (hp κ ν)) hc _ ?_ ?_ bigN 0 (Nat.zero_le _) (by unfold bigN; omega)
  · intro n x hx
    (try dsimp only)
    rw [b_X12_fits_4]
    simp only [g127_1, m1, obs, if_neg (nI_ge hx (show hc < 2 ^ 31 by omega)), inner _ _ x hx]
    cases hal : alp (fun k => decide (decide (μ.1 128 (24 + tt k) = nI x) = bs.testBit k)) hd with
    | false => rw [sb_f (p := fun x => alp (fun k => decide (decide (μ.1 128 (24 + tt k) = nI x) = bs.testBit k)) hd) hal, if_neg (by decide), i_or0]
    | true => rw [sb_t (p := fun x => alp (fun k => decide (decide (μ.1 128 (24 + tt k) = nI x) = bs.testBit k)) hd) hal, if_pos rfl, i_or]
  · intro n
    (try dsimp only)
    rw [b_X12_fits_4]
    simp only [g127_1, m1, obs, if_pos (nI_le (Nat.le_refl hc) (show hc < 2 ^ 31 by omega))]
    rfl
theorem Inv.hd {B : Nat} {μ : Mem} (h : Inv B μ) {hc tc kc lm : Nat} (hb : Bs μ hc tc kc lm B) : ∃ (hd bs : Nat) (tt : Nat → Nat), hd ≤ 12 ∧ bs < 4096 ∧ μ.1 0 13 = nI hd ∧ μ.1 127 33 = nI hd ∧ μ.1 127 34 = nI bs ∧ ∀ i, i < hd → tt i < tc ∧ μ.1 109 i = nI (tt i) ∧ μ.1 143 i = nI (tt i) ∧ μ.1 110 i = if bs.testBit i then 1 else 0 := by
  obtain ⟨hc', tc', kc', lm', h1, -, -, -, -, -, ⟨hd, bs, a1, a2, a3, a4, a5, a6⟩, -⟩ := h.1
  have etc : tc = tc' := by
    have e1 : nI tc = nI tc' := hb.1.2.1.symm.trans h1.1.2.1
    have := hb.b2
    have := h1.2.2.2.1
    exact (i_eq (by omega) (by omega)).mp e1
  subst etc
  exact ⟨hd, bs, fun i => (μ.1 109 i).toNatClampNeg, a1, a2, a3, a4, a5, fun i hi => by
    obtain ⟨t, u1, u2, u3, u4⟩ := a6 i hi
    have u2 : μ.1 109 i = nI t := u2
    have u3 : μ.1 143 i = nI t := u3
    have u4 : μ.1 110 i = if bs.testBit i then 1 else 0 := u4
    have := hb.b2
    (try dsimp only)
    rw [u2, nI_clamp (by omega)]
    exact ⟨u1, rfl, u3, u4⟩⟩
theorem FH_lt {μ : Mem} {hc i : Nat} {tt : Nat → Nat} {bs : Nat} (h : hc ≤ 5) : FH μ hc i tt bs < 32 := sb_le _ (m := 5) h
theorem pr_whose : P0 F_X11_whose F_X12_whose := by
  intro κ B μ hR hB hI
  obtain ⟨hc, tc, kc, lm, hb⟩ := hI.bs
  obtain ⟨hd, bs, tt, a1, a2, a3, a4, a5, a6⟩ := hI.hd hb
  have b1 := hb.b1
  have hlt := FH_lt (μ := μ) (i := hd) (tt := tt) (bs := bs) b1.2
  refine ⟨nI (FH μ hc hd tt bs), TB (T0 μ) 0 (nI (cn (FH μ hc hd tt bs))).toInt64, R1 μ (nI (cn (FH μ hc hd tt bs))).toInt64, ?_, ?_, inv_R1 hI⟩
  · unfold F_X11_whose
    simp only [if_pos q0, ↓reduceIte, obs, X_fit hb a1 a3 (fun i hi => ⟨(a6 i hi).1, (a6 i hi).2.1, (a6 i hi).2.2.2⟩), bc (show FH μ hc hd tt bs < 4096 by omega), x_tellOne]
  · have e : cl (M0 (Zr (TB (T0 μ) 0 (nI (cn (FH μ hc hd tt bs))).toInt64))) = cl μ := by rw [cl_M0, cl_Z, cl_TB, cl_T0]
    have f1 : F_X12_fits 127 (hp κ (M0 (Zr (TB (T0 μ) 0 (nI (cn (FH μ hc hd tt bs))).toInt64)))) = some (nI (FH μ hc hd tt bs), hp κ (M0 (Zr (TB (T0 μ) 0 (nI (cn (FH μ hc hd tt bs))).toInt64)))) := Y_fit hb e a1 a2 a4 a5 (fun i hi => ⟨(a6 i hi).1, (a6 i hi).2.2.1⟩)
    have f2 : F_X12_fits 127 (hp κ (MB (M0 (Zr (TB (T0 μ) 0 (nI (cn (FH μ hc hd tt bs))).toInt64))) 0 (nI (cn (FH μ hc hd tt bs))).toInt64)) = some (nI (FH μ hc hd tt bs), hp κ (MB (M0 (Zr (TB (T0 μ) 0 (nI (cn (FH μ hc hd tt bs))).toInt64))) 0 (nI (cn (FH μ hc hd tt bs))).toInt64)) := Y_fit hb (cl_MB.trans e) a1 a2 a4 a5 (fun i hi => ⟨(a6 i hi).1, (a6 i hi).2.2.1⟩)
    unfold F_X12_whose
    simp only [if_pos q127, p11, p10, ↓reduceIte, obs, f1, bc (show FH μ hc hd tt bs < 4096 by omega), y_tell0, f2]
    rfl
