/-! PURE: what the town answers. -/
def Tn (μ : Mem) (hc tc kc lm : Nat) : Prop := μ.1 1 5 = nI hc ∧ μ.1 1 6 = nI tc ∧ μ.1 1 7 = nI kc ∧ μ.1 1 8 = nI lm ∧ (1 ≤ hc ∧ hc ≤ 5) ∧ tc ≤ 12 ∧ kc ≤ 6 ∧ 1 ≤ lm ∧ lm ≤ 4
/-- the things of each kind -/
def Of (μ : Mem) (ks : Nat → Nat) (kc : Nat) : Prop := ∀ k, k < kc → μ.1 9 k = nI (ks k) ∧ ks k < 4096
theorem and_l {a b n : Nat} (h : a < n) : a &&& b < n := Nat.lt_of_le_of_lt Nat.and_le_left h
theorem and_r {a b n : Nat} (h : b < n) : a &&& b < n := Nat.lt_of_le_of_lt Nat.and_le_right h
theorem or_l {a b : Nat} {n : Nat} (h : a < 2 ^ n) (h2 : b < 2 ^ n) : a ||| b < 2 ^ n := Nat.or_lt_two_pow h h2
theorem sb12 (p : Nat → Bool) {n : Nat} (h : n ≤ 12) : sb p n < 4096 := sb_le p (m := 12) h
theorem i_nle {a b : Nat} (ha : a < 2 ^ 31) (hb : b < 2 ^ 31) (h : b < a) : ¬ nI a ≤ nI b := fun z => absurd ((i_le ha hb).mp z) (by omega)
theorem i_yle {a b : Nat} (ha : a < 2 ^ 31) (hb : b < 2 ^ 31) (h : a ≤ b) : nI a ≤ nI b := (i_le ha hb).mpr h
theorem i_eq {a b : Nat} (ha : a < 2 ^ 31) (hb : b < 2 ^ 31) : nI a = nI b ↔ a = b := nI_eq ha hb
theorem i_eq0 {a : Nat} (ha : a < 2 ^ 31) : nI a = 0 ↔ a = 0 := nI_eq (b := 0) ha (by decide)
section TOWN
variable {κ : Kp} {μ : Mem} {hc tc kc lm : Nat} {ks : Nat → Nat}
theorem x_keptBy (hT : Tn μ hc tc kc lm) (x : Int32) : F_X10_keptBy 1 x (hp κ μ) = some (nI (sb (fun t => decide (μ.1 4 t = x)) tc), hp κ μ) := by
  obtain ⟨t1, t2, t3, t4, t5, t6, t7, t8⟩ := hT
  unfold F_X10_keptBy
  rw [if_pos q1]
  refine lpk (fun n k => b_X10_keptBy_4 1 x n (nI (sb (fun t => decide (μ.1 4 t = x)) k)) (nI k) (hp κ μ)) tc _ ?_ ?_ bigN 0 (Nat.zero_le _) (by unfold bigN; omega)
  · intro n k hk
    rw [b_X10_keptBy_4]
    simp only [g1_6, t2, Option.bind_some, g1_0, g2_1, r4 (show k < 12 by omega), if_neg (nI_ge hk (show tc < 2 ^ 31 by omega)), b_X10_keptBy_31, nI_1, i_sh1 k (show k < 31 by omega), i_or]
    by_cases e : μ.1 4 k = x
    · rw [if_pos e, sb_t (decide_eq_true e)]
    · rw [if_neg e, sb_f (decide_eq_false e)]
  · intro n
    rw [b_X10_keptBy_4]
    simp only [g1_6, t2, Option.bind_some, if_pos (nI_le (Nat.le_refl tc) (show tc < 2 ^ 31 by omega))]
theorem x_ownedBy (hT : Tn μ hc tc kc lm) (x : Int32) : F_X10_ownedBy 1 x (hp κ μ) = some (nI (sb (fun t => decide (μ.1 3 t = x)) tc), hp κ μ) := by
  obtain ⟨t1, t2, t3, t4, t5, t6, t7, t8⟩ := hT
  unfold F_X10_ownedBy
  rw [if_pos q1]
  refine lpk (fun n k => b_X10_ownedBy_4 1 x n (nI (sb (fun t => decide (μ.1 3 t = x)) k)) (nI k) (hp κ μ)) tc _ ?_ ?_ bigN 0 (Nat.zero_le _) (by unfold bigN; omega)
  · intro n k hk
    rw [b_X10_ownedBy_4]
    simp only [g1_6, t2, Option.bind_some, g1_0, g2_0, r3 (show k < 12 by omega), if_neg (nI_ge hk (show tc < 2 ^ 31 by omega)), b_X10_ownedBy_31, nI_1, i_sh1 k (show k < 31 by omega), i_or]
    by_cases e : μ.1 3 k = x
    · rw [if_pos e, sb_t (decide_eq_true e)]
    · rw [if_neg e, sb_f (decide_eq_false e)]
  · intro n
    rw [b_X10_ownedBy_4]
    simp only [g1_6, t2, Option.bind_some, if_pos (nI_le (Nat.le_refl tc) (show tc < 2 ^ 31 by omega))]
theorem x_nobodys (hT : Tn μ hc tc kc lm) : F_X10_nobodys 1 (hp κ μ) = some (nI (sb (fun t => decide (μ.1 3 t = -1)) tc), hp κ μ) := by
  unfold F_X10_nobodys
  rw [if_pos q1, x_ownedBy hT]
  rfl
theorem x_havingAll (hT : Tn μ hc tc kc lm) (x : Int32) : F_X10_havingAll 1 x (hp κ μ) = some (nI (sb (fun t => decide (μ.1 5 t &&& x = x)) tc), hp κ μ) := by
  obtain ⟨t1, t2, t3, t4, t5, t6, t7, t8⟩ := hT
  unfold F_X10_havingAll
  rw [if_pos q1]
  refine lpk (fun n k => b_X10_havingAll_4 1 x n (nI (sb (fun t => decide (μ.1 5 t &&& x = x)) k)) (nI k) (hp κ μ)) tc _ ?_ ?_ bigN 0 (Nat.zero_le _) (by unfold bigN; omega)
  · intro n k hk
    rw [b_X10_havingAll_4]
    simp only [g1_6, t2, Option.bind_some, g1_0, g2_2, r5 (show k < 12 by omega), if_neg (nI_ge hk (show tc < 2 ^ 31 by omega)), b_X10_havingAll_33, nI_1, i_sh1 k (show k < 31 by omega), i_or]
    by_cases e : μ.1 5 k &&& x = x
    · rw [if_pos e, sb_t (decide_eq_true e)]
    · rw [if_neg e, sb_f (decide_eq_false e)]
  · intro n
    rw [b_X10_havingAll_4]
    simp only [g1_6, t2, Option.bind_some, if_pos (nI_le (Nat.le_refl tc) (show tc < 2 ^ 31 by omega))]
theorem x_isLent {t : Nat} (ht : t < 12) : F_X10_isLent 1 (nI t) (hp κ μ) = some (if μ.1 3 t = μ.1 4 t then 0 else 1, hp κ μ) := by
  unfold F_X10_isLent
  simp only [if_pos q1, g1_0, g2_0, g2_1, Option.bind_some, r3 ht, r4 ht]
  split <;> rfl
theorem x_lentOnes (hT : Tn μ hc tc kc lm) : F_X10_lentOnes 1 (hp κ μ) = some (nI (sb (fun t => decide (¬ μ.1 3 t = μ.1 4 t)) tc), hp κ μ) := by
  obtain ⟨t1, t2, t3, t4, t5, t6, t7, t8⟩ := hT
  unfold F_X10_lentOnes
  rw [if_pos q1]
  refine lpk (fun n k => b_X10_lentOnes_4 1 n (nI (sb (fun t => decide (¬ μ.1 3 t = μ.1 4 t)) k)) (nI k) (hp κ μ)) tc _ ?_ ?_ bigN 0 (Nat.zero_le _) (by unfold bigN; omega)
  · intro n k hk
    rw [b_X10_lentOnes_4]
    simp only [g1_6, t2, Option.bind_some, x_isLent (show k < 12 by omega), if_neg (nI_ge hk (show tc < 2 ^ 31 by omega)), b_X10_lentOnes_26, nI_1, i_sh1 k (show k < 31 by omega), i_or]
    by_cases e : μ.1 3 k = μ.1 4 k
    · rw [if_pos e, if_pos rfl, sb_f (decide_eq_false (fun z => z e))]
    · rw [if_neg e, if_neg (by decide), sb_t (decide_eq_true e)]
  · intro n
    rw [b_X10_lentOnes_4]
    simp only [g1_6, t2, Option.bind_some, if_pos (nI_le (Nat.le_refl tc) (show tc < 2 ^ 31 by omega))]
theorem x_brokenIn (hT : Tn μ hc tc kc lm) (hO : Of μ ks kc) {s : Nat} (hs : s < 4096) : F_X10_brokenIn 1 (nI s) (hp κ μ) = some (nI (sb (fun t => decide (lm < cn (s &&& ks t))) kc), hp κ μ) := by
  obtain ⟨t1, t2, t3, t4, t5, t6, t7, t8⟩ := hT
  unfold F_X10_brokenIn
  rw [if_pos q1]
  refine lpk (fun n k => b_X10_brokenIn_4 1 (nI s) n (nI (sb (fun t => decide (lm < cn (s &&& ks t))) k)) (nI k) (hp κ μ)) kc _ ?_ ?_ bigN 0 (Nat.zero_le _) (by unfold bigN; omega)
  · intro n k hk
    rw [b_X10_brokenIn_4]
    simp only [g1_7, t3, Option.bind_some, g1_3, r9 (show k < 6 by omega), (hO k hk).1, i_and, bc (and_l hs), g1_8, t4, if_neg (nI_ge hk (show kc < 2 ^ 31 by omega)), b_X10_brokenIn_36, nI_1, i_sh1 k (show k < 31 by omega), i_or]
    have hc := cn_le (s &&& ks k)
    by_cases e : lm < cn (s &&& ks k)
    · rw [if_neg (i_nle (by omega) (by omega) e), sb_t (decide_eq_true e)]
    · rw [if_pos (i_yle (by omega) (by omega) (by omega)), sb_f (decide_eq_false e)]
  · intro n
    rw [b_X10_brokenIn_4]
    simp only [g1_7, t3, Option.bind_some, if_pos (nI_le (Nat.le_refl kc) (show kc < 2 ^ 31 by omega))]
/-- the kinds that these break -/
def bk (ks : Nat → Nat) (kc lm s : Nat) : Nat := sb (fun k => decide (lm < cn (s &&& ks k))) kc
theorem bk_lt {s : Nat} (h : kc ≤ 6) : bk ks kc lm s < 64 := sb_le _ (m := 6) h
theorem x_breakers (hT : Tn μ hc tc kc lm) (hO : Of μ ks kc) : F_X10_breakers 1 (hp κ μ) = some (nI (sb (fun t => decide (¬ bk ks kc lm (sb (fun u => decide (μ.1 4 u = nI t)) tc) = 0)) hc), hp κ μ) := by
  obtain ⟨t1, t2, t3, t4, t5, t6, t7, t8⟩ := hT
  unfold F_X10_breakers
  rw [if_pos q1]
  refine lpk (fun n k => b_X10_breakers_4 1 n (nI (sb (fun t => decide (¬ bk ks kc lm (sb (fun u => decide (μ.1 4 u = nI t)) tc) = 0)) k)) (nI k) (hp κ μ)) hc _ ?_ ?_ bigN 0 (Nat.zero_le _) (by unfold bigN; omega)
  · intro n k hk
    rw [b_X10_breakers_4]
    simp only [g1_5, t1, Option.bind_some, x_keptBy ⟨t1, t2, t3, t4, t5, t6, t7, t8⟩, x_brokenIn ⟨t1, t2, t3, t4, t5, t6, t7, t8⟩ hO (sb12 _ t6), if_neg (nI_ge hk (show hc < 2 ^ 31 by omega)), b_X10_breakers_30, nI_1, i_sh1 k (show k < 31 by omega), i_or]
    have hb := bk_lt (ks := ks) (lm := lm) (s := sb (fun t => decide (μ.1 4 t = nI k)) tc) t7
    show (if nI (bk ks kc lm (sb (fun t => decide (μ.1 4 t = nI k)) tc)) = 0 then _ else _) = _
    by_cases e : bk ks kc lm (sb (fun t => decide (μ.1 4 t = nI k)) tc) = 0
    · rw [if_pos ((i_eq0 (by omega)).mpr e), sb_f (decide_eq_false (fun z => z e))]
    · rw [if_neg (fun z => e ((i_eq0 (by omega)).mp z)), sb_t (decide_eq_true e)]
  · intro n
    rw [b_X10_breakers_4]
    simp only [g1_5, t1, Option.bind_some, if_pos (nI_le (Nat.le_refl hc) (show hc < 2 ^ 31 by omega))]
theorem x_hasHouse (hT : Tn μ hc tc kc lm) (x : Int32) : (∃ j, j < hc ∧ x = nI j ∧ F_X10_hasHouse 1 x (hp κ μ) = some (1, hp κ μ)) ∨ ((∀ j, j < hc → x ≠ nI j) ∧ F_X10_hasHouse 1 x (hp κ μ) = some (0, hp κ μ)) := by
  obtain ⟨t1, t2, t3, t4, t5, t6, t7, t8⟩ := hT
  unfold F_X10_hasHouse
  simp only [if_pos q1, g1_5, t1, Option.bind_some]
  rcases pk_ix x (n := hc) (by omega) with h | h | ⟨j, h1, rfl⟩
  · refine Or.inr ⟨fun j hj e => ?_, by rw [if_pos h]⟩
    rw [e] at h
    exact nI_pos (by omega) h
  · refine Or.inr ⟨fun j hj e => ?_, ?_⟩
    · rw [e] at h
      exact nI_ge hj (by omega) h
    · by_cases h0 : x < 0
      · rw [if_pos h0]
      · rw [if_neg h0, if_pos h]
  · exact Or.inl ⟨j, h1, rfl, by rw [if_neg (nI_pos (by omega)), if_neg (nI_ge h1 (by omega))]⟩
theorem x_hasThing (hT : Tn μ hc tc kc lm) (x : Int32) : (∃ j, j < tc ∧ x = nI j ∧ F_X10_hasThing 1 x (hp κ μ) = some (1, hp κ μ)) ∨ ((∀ j, j < tc → x ≠ nI j) ∧ F_X10_hasThing 1 x (hp κ μ) = some (0, hp κ μ)) := by
  obtain ⟨t1, t2, t3, t4, t5, t6, t7, t8⟩ := hT
  unfold F_X10_hasThing
  simp only [if_pos q1, g1_6, t2, Option.bind_some]
  rcases pk_ix x (n := tc) (by omega) with h | h | ⟨j, h1, rfl⟩
  · refine Or.inr ⟨fun j hj e => ?_, by rw [if_pos h]⟩
    rw [e] at h
    exact nI_pos (by omega) h
  · refine Or.inr ⟨fun j hj e => ?_, ?_⟩
    · rw [e] at h
      exact nI_ge hj (by omega) h
    · by_cases h0 : x < 0
      · rw [if_pos h0]
      · rw [if_neg h0, if_pos h]
  · exact Or.inl ⟨j, h1, rfl, by rw [if_neg (nI_pos (by omega)), if_neg (nI_ge h1 (by omega))]⟩
theorem x_hasKind (hT : Tn μ hc tc kc lm) (x : Int32) : (∃ j, j < kc ∧ x = nI j ∧ F_X10_hasKind 1 x (hp κ μ) = some (1, hp κ μ)) ∨ ((∀ j, j < kc → x ≠ nI j) ∧ F_X10_hasKind 1 x (hp κ μ) = some (0, hp κ μ)) := by
  obtain ⟨t1, t2, t3, t4, t5, t6, t7, t8⟩ := hT
  unfold F_X10_hasKind
  simp only [if_pos q1, g1_7, t3, Option.bind_some]
  rcases pk_ix x (n := kc) (by omega) with h | h | ⟨j, h1, rfl⟩
  · refine Or.inr ⟨fun j hj e => ?_, by rw [if_pos h]⟩
    rw [e] at h
    exact nI_pos (by omega) h
  · refine Or.inr ⟨fun j hj e => ?_, ?_⟩
    · rw [e] at h
      exact nI_ge hj (by omega) h
    · by_cases h0 : x < 0
      · rw [if_pos h0]
      · rw [if_neg h0, if_pos h]
  · exact Or.inl ⟨j, h1, rfl, by rw [if_neg (nI_pos (by omega)), if_neg (nI_ge h1 (by omega))]⟩
theorem x_hasThings (hT : Tn μ hc tc kc lm) (x : Int32) : (∃ s, s < 2 ^ tc ∧ x = nI s ∧ F_X10_hasThings 1 x (hp κ μ) = some (1, hp κ μ)) ∨ ((∀ s, s < 2 ^ tc → x ≠ nI s) ∧ F_X10_hasThings 1 x (hp κ μ) = some (0, hp κ μ)) := by
  obtain ⟨t1, t2, t3, t4, t5, t6, t7, t8⟩ := hT
  have hp2 : 2 ^ tc ≤ 4096 := Nat.pow_le_pow_right (by decide) t6
  unfold F_X10_hasThings
  simp only [if_pos q1, g1_6, t2, Option.bind_some, i_sh1 tc (show tc < 31 by omega)]
  rcases pk_ix x (n := 2 ^ tc) (by omega) with h | h | ⟨j, h1, rfl⟩
  · refine Or.inr ⟨fun j hj e => ?_, by rw [if_pos h]⟩
    rw [e] at h
    exact nI_pos (by omega) h
  · refine Or.inr ⟨fun j hj e => ?_, ?_⟩
    · rw [e] at h
      exact nI_ge hj (by omega) h
    · by_cases h0 : x < 0
      · rw [if_pos h0]
      · rw [if_neg h0, if_pos h]
  · exact Or.inl ⟨j, h1, rfl, by rw [if_neg (nI_pos (by omega)), if_neg (nI_ge h1 (by omega))]⟩
end TOWN
