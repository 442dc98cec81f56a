/-! PURE: what the reference's helpers answer. -/
def Mn (μ : Mem) (hc tc kc lm : Nat) : Prop := μ.1 127 1 = nI hc ∧ μ.1 127 2 = nI tc ∧ μ.1 127 3 = nI kc ∧ μ.1 127 6 = nI lm ∧ (1 ≤ hc ∧ hc ≤ 5) ∧ tc ≤ 12 ∧ kc ≤ 6 ∧ 1 ≤ lm ∧ lm ≤ 4
theorem i12 (k : Nat) : (12 : Int32) + nI k = nI (12 + k) := nI_add 12 k
theorem i24 (k : Nat) : (24 : Int32) + nI k = nI (24 + k) := nI_add 24 k
theorem i36 (k : Nat) : (36 : Int32) + nI k = nI (36 + k) := nI_add 36 k
theorem i_or0 (a : Nat) : nI a ||| 0 = nI a := by rw [show (0 : Int32) = nI 0 from rfl, i_or, Nat.or_zero]
theorem i_add0 (a : Nat) : nI a + 0 = nI a := nI_add a 0
/-- those for which f is x -/
def kp (f : Nat → Int32) (tc : Nat) (x : Int32) : Nat := sb (fun t => decide (f t = x)) tc
theorem kp_lt {f : Nat → Int32} {tc : Nat} {x : Int32} (h : tc ≤ 12) : kp f tc x < 4096 := sb12 _ h
theorem kp_bit (f : Nat → Int32) (tc : Nat) (x : Int32) (i : Nat) : (kp f tc x).testBit i = (decide (i < tc) && decide (f i = x)) := sb_bit _ _ _
/-- whether traits x are of a kind that must have m and must not have n -/
def io (x m n : Int32) : Bool := decide (x &&& m = m) && decide (x &&& n = 0)
def mo (A mu mn : Nat → Int32) (tc s k : Nat) : Nat := fb_ct (fun t => s.testBit t && io (A t) (mu k) (mn k)) tc
theorem mo_le (A mu mn : Nat → Int32) (tc s k : Nat) : mo A mu mn tc s k ≤ tc := fb_ct_le _ _
def kset (A mu mn : Nat → Int32) (tc k : Nat) : Nat := sb (fun t => io (A t) (mu k) (mn k)) tc
def bb (A mu mn : Nat → Int32) (tc kc lm s : Nat) : Nat := sb (fun k => decide (lm < mo A mu mn tc s k)) kc
theorem bb_lt {A mu mn : Nat → Int32} {tc kc lm s : Nat} (h : kc ≤ 6) : bb A mu mn tc kc lm s < 64 := sb_le _ (m := 6) h
theorem cn_kset {A mu mn : Nat → Int32} {tc s k : Nat} (h : tc ≤ 12) : cn (s &&& kset A mu mn tc k) = mo A mu mn tc s k := cn_and h _
theorem bk_bb {A mu mn : Nat → Int32} {tc kc lm s : Nat} (h : tc ≤ 12) : bk (kset A mu mn tc) kc lm s = bb A mu mn tc kc lm s := sb_cong (fun k _ => by rw [cn_kset h])
/-- the houses that break something -/
def bh (A mu mn : Nat → Int32) (hc tc kc lm : Nat) : Nat := sb (fun x => decide (¬ bb A mu mn tc kc lm (kp (fun t => A (24 + t)) tc (nI x)) = 0)) hc
section MOD
variable {κ : Kp} {μ : Mem} {hc tc kc lm : Nat}
theorem y_isOf (x m n : Int32) : F_X12_isOf 127 x m n (hp κ μ) = some (if io x m n then 1 else 0, hp κ μ) := by
  unfold F_X12_isOf io
  rw [if_pos q127]
  by_cases e1 : x &&& m = m
  · by_cases e2 : x &&& n = 0
    · rw [if_pos e1, if_pos e2]; simp [e1, e2]
    · rw [if_pos e1, if_neg e2]; simp [e1, e2]
  · rw [if_neg e1]; simp [e1]
theorem y_has {s k : Nat} (hs : s < 2 ^ 31) (hk : k < 32) (h : ci_H) : F_X12_has (nI s) (nI k) h = some (if s.testBit k then 1 else 0, h) := by
  unfold F_X12_has
  cases e : s.testBit k with
  | true => rw [if_pos ((i_bit1 hs hk).mpr e)]; rfl
  | false => rw [if_neg (fun z => by rw [(i_bit1 hs hk).mp z] at e; cases e)]; rfl
theorem in_ix {n : Nat} (hn : n ≤ 5000) (x : Int32) (h : ci_H) : (∃ j, j < n ∧ x = nI j ∧ F_X12_in x 0 (nI n - 1) h = some (1, h)) ∨ ((∀ j, j < n → x ≠ nI j) ∧ F_X12_in x 0 (nI n - 1) h = some (0, h)) := by
  unfold F_X12_in
  have e1 : (nI n - 1).toInt = (n : Int) - 1 := pk_sub_toInt (a := n) (b := 1) (by omega) (by decide)
  rcases pk_ix x (n := n) (by omega) with h1 | h1 | ⟨j, h1, rfl⟩
  · refine Or.inr ⟨fun j hj e => ?_, by rw [if_pos h1]⟩
    rw [e] at h1
    exact nI_pos (by omega) h1
  · have h2 : nI n - 1 < x := by
      rw [fa_lt, e1]
      have h3 := (fa_le _ _).mp h1
      rw [nI_toInt (by omega)] at h3
      omega
    refine Or.inr ⟨fun j hj e => ?_, ?_⟩
    · rw [e] at h1
      exact nI_ge hj (by omega) h1
    · by_cases h0 : x < 0
      · rw [if_pos h0]
      · rw [if_neg h0, if_pos h2]
  · refine Or.inl ⟨j, h1, rfl, ?_⟩
    rw [if_neg (nI_pos (by omega)), if_neg]
    rw [fa_lt, e1, nI_toInt (by omega)]
    omega
/-- v in low .. high -/
theorem in_yes {x a b : Int32} (h1 : a ≤ x) (h2 : x ≤ b) (h : ci_H) : F_X12_in x a b h = some (1, h) := by
  unfold F_X12_in
  rw [if_neg (fun z => absurd z (by rw [fa_lt]; rw [fa_le] at h1; omega)), if_neg (fun z => absurd z (by rw [fa_lt]; rw [fa_le] at h2; omega))]
theorem in_no {x a b : Int32} (h0 : ¬ (a ≤ x ∧ x ≤ b)) (h : ci_H) : F_X12_in x a b h = some (0, h) := by
  unfold F_X12_in
  by_cases h1 : x < a
  · rw [if_pos h1]
  · by_cases h2 : b < x
    · rw [if_neg h1, if_pos h2]
    · exact absurd ⟨by rw [fa_le]; rw [fa_lt] at h1; omega, by rw [fa_le]; rw [fa_lt] at h2; omega⟩ h0
theorem y_isHouse (hT : Mn μ hc tc kc lm) (x : Int32) : (∃ j, j < hc ∧ x = nI j ∧ F_X12_isHouse 127 x (hp κ μ) = some (1, hp κ μ)) ∨ ((∀ j, j < hc → x ≠ nI j) ∧ F_X12_isHouse 127 x (hp κ μ) = some (0, hp κ μ)) := by
  obtain ⟨t1, t2, t3, t4, t5, t6, t7, t8⟩ := hT
  unfold F_X12_isHouse
  simp only [if_pos q127, g127_1, t1, Option.bind_some]
  rcases in_ix (n := hc) (by omega) x (hp κ μ) with ⟨j, h1, h2, h3⟩ | ⟨h1, h2⟩
  · exact Or.inl ⟨j, h1, h2, by rw [h3]; rfl⟩
  · exact Or.inr ⟨h1, by rw [h2]; rfl⟩
theorem y_isThing (hT : Mn μ hc tc kc lm) (x : Int32) : (∃ j, j < tc ∧ x = nI j ∧ F_X12_isThing 127 x (hp κ μ) = some (1, hp κ μ)) ∨ ((∀ j, j < tc → x ≠ nI j) ∧ F_X12_isThing 127 x (hp κ μ) = some (0, hp κ μ)) := by
  obtain ⟨t1, t2, t3, t4, t5, t6, t7, t8⟩ := hT
  unfold F_X12_isThing
  simp only [if_pos q127, g127_2, t2, Option.bind_some]
  rcases in_ix (n := tc) (by omega) x (hp κ μ) with ⟨j, h1, h2, h3⟩ | ⟨h1, h2⟩
  · exact Or.inl ⟨j, h1, h2, by rw [h3]; rfl⟩
  · exact Or.inr ⟨h1, by rw [h2]; rfl⟩
theorem y_isKind (hT : Mn μ hc tc kc lm) (x : Int32) : (∃ j, j < kc ∧ x = nI j ∧ F_X12_isKind 127 x (hp κ μ) = some (1, hp κ μ)) ∨ ((∀ j, j < kc → x ≠ nI j) ∧ F_X12_isKind 127 x (hp κ μ) = some (0, hp κ μ)) := by
  obtain ⟨t1, t2, t3, t4, t5, t6, t7, t8⟩ := hT
  unfold F_X12_isKind
  simp only [if_pos q127, g127_3, t3, Option.bind_some]
  rcases in_ix (n := kc) (by omega) x (hp κ μ) with ⟨j, h1, h2, h3⟩ | ⟨h1, h2⟩
  · exact Or.inl ⟨j, h1, h2, by rw [h3]; rfl⟩
  · exact Or.inr ⟨h1, by rw [h2]; rfl⟩
theorem y_areThings (hT : Mn μ hc tc kc lm) (x : Int32) : (∃ s, s < 2 ^ tc ∧ x = nI s ∧ F_X12_areThings 127 x (hp κ μ) = some (1, hp κ μ)) ∨ ((∀ s, s < 2 ^ tc → x ≠ nI s) ∧ F_X12_areThings 127 x (hp κ μ) = some (0, hp κ μ)) := by
  obtain ⟨t1, t2, t3, t4, t5, t6, t7, t8⟩ := hT
  have hp2 : 2 ^ tc ≤ 4096 := Nat.pow_le_pow_right (by decide) t6
  unfold F_X12_areThings
  simp only [if_pos q127, g127_2, t2, Option.bind_some, i_sh1 tc (show tc < 31 by omega)]
  rcases in_ix (n := 2 ^ tc) (by omega) x (hp κ μ) with ⟨j, h1, h2, h3⟩ | ⟨h1, h2⟩
  · exact Or.inl ⟨j, h1, h2, by rw [h3]; rfl⟩
  · exact Or.inr ⟨h1, by rw [h2]; rfl⟩
theorem y_kindsOf (hT : Mn μ hc tc kc lm) (x : Int32) : F_X12_kindsOf 127 x (hp κ μ) = some (nI (sb (fun t => io x (μ.1 129 t) (μ.1 130 t)) kc), hp κ μ) := by
  obtain ⟨t1, t2, t3, t4, t5, t6, t7, t8⟩ := hT
  unfold F_X12_kindsOf
  rw [if_pos q127]
  refine lpk (fun n k => b_X12_kindsOf_4 127 x n (nI (sb (fun t => io x (μ.1 129 t) (μ.1 130 t)) k)) (nI k) (hp κ μ)) kc _ ?_ ?_ bigN 0 (Nat.zero_le _) (by unfold bigN; omega)
  · intro n k hk
    rw [b_X12_kindsOf_4]
    simp only [g127_3, t3, Option.bind_some, g127_4, r129 (show k < 6 by omega), g127_5, r130 (show k < 6 by omega), y_isOf, if_neg (nI_ge hk (show kc < 2 ^ 31 by omega)), b_X12_kindsOf_40, nI_1, i_sh1 k (show k < 31 by omega), i_or, i_or0, i_add0]
    cases e : io x (μ.1 129 k) (μ.1 130 k) with
    | true => rw [if_neg (by decide), sb_t e]
    | false => rw [if_pos (by decide), sb_f e]
  · intro n
    rw [b_X12_kindsOf_4]
    simp only [g127_3, t3, Option.bind_some, if_pos (nI_le (Nat.le_refl kc) (show kc < 2 ^ 31 by omega))]
    try rfl
theorem y_keptBy (hT : Mn μ hc tc kc lm) {m : Nat} (hm : hp_T[m]? = some (0, 42, [])) (x : Int32) : F_X12_keptBy 127 m x (hp κ μ) = some (nI (sb (fun t => decide (μ.1 m (24 + t) = x)) tc), hp κ μ) := by
  obtain ⟨t1, t2, t3, t4, t5, t6, t7, t8⟩ := hT
  unfold F_X12_keptBy
  rw [if_pos q127]
  refine lpk (fun n k => b_X12_keptBy_5 127 m x n (nI (sb (fun t => decide (μ.1 m (24 + t) = x)) k)) (nI k) (hp κ μ)) tc _ ?_ ?_ bigN 0 (Nat.zero_le _) (by unfold bigN; omega)
  · intro n k hk
    rw [b_X12_keptBy_5]
    simp only [g127_2, t2, Option.bind_some, i24, rI_hp hm (show 24 + k < 42 by omega), if_neg (nI_ge hk (show tc < 2 ^ 31 by omega)), b_X12_keptBy_34, nI_1, i_sh1 k (show k < 31 by omega), i_or, i_or0, i_add0]
    by_cases e : μ.1 m (24 + k) = x
    · rw [if_pos e, sb_t (decide_eq_true e)]
    · rw [if_neg e, sb_f (decide_eq_false e)]
  · intro n
    rw [b_X12_keptBy_5]
    simp only [g127_2, t2, Option.bind_some, if_pos (nI_le (Nat.le_refl tc) (show tc < 2 ^ 31 by omega))]
    try rfl
theorem y_ownedBy (hT : Mn μ hc tc kc lm) {m : Nat} (hm : hp_T[m]? = some (0, 42, [])) (x : Int32) : F_X12_ownedBy 127 m x (hp κ μ) = some (nI (sb (fun t => decide (μ.1 m (12 + t) = x)) tc), hp κ μ) := by
  obtain ⟨t1, t2, t3, t4, t5, t6, t7, t8⟩ := hT
  unfold F_X12_ownedBy
  rw [if_pos q127]
  refine lpk (fun n k => b_X12_ownedBy_5 127 m x n (nI (sb (fun t => decide (μ.1 m (12 + t) = x)) k)) (nI k) (hp κ μ)) tc _ ?_ ?_ bigN 0 (Nat.zero_le _) (by unfold bigN; omega)
  · intro n k hk
    rw [b_X12_ownedBy_5]
    simp only [g127_2, t2, Option.bind_some, i12, rI_hp hm (show 12 + k < 42 by omega), if_neg (nI_ge hk (show tc < 2 ^ 31 by omega)), b_X12_ownedBy_34, nI_1, i_sh1 k (show k < 31 by omega), i_or, i_or0, i_add0]
    by_cases e : μ.1 m (12 + k) = x
    · rw [if_pos e, sb_t (decide_eq_true e)]
    · rw [if_neg e, sb_f (decide_eq_false e)]
  · intro n
    rw [b_X12_ownedBy_5]
    simp only [g127_2, t2, Option.bind_some, if_pos (nI_le (Nat.le_refl tc) (show tc < 2 ^ 31 by omega))]
    try rfl
theorem y_lentBits (hT : Mn μ hc tc kc lm) : F_X12_lentBits 127 (hp κ μ) = some (nI (sb (fun t => decide (¬ μ.1 128 (12 + t) = μ.1 128 (24 + t))) tc), hp κ μ) := by
  obtain ⟨t1, t2, t3, t4, t5, t6, t7, t8⟩ := hT
  unfold F_X12_lentBits
  rw [if_pos q127]
  refine lpk (fun n k => b_X12_lentBits_4 127 n (nI (sb (fun t => decide (¬ μ.1 128 (12 + t) = μ.1 128 (24 + t))) k)) (nI k) (hp κ μ)) tc _ ?_ ?_ bigN 0 (Nat.zero_le _) (by unfold bigN; omega)
  · intro n k hk
    rw [b_X12_lentBits_4]
    simp only [g127_2, t2, Option.bind_some, g127_0, i12, i24, r128 (show 12 + k < 42 by omega), r128 (show 24 + k < 42 by omega), if_neg (nI_ge hk (show tc < 2 ^ 31 by omega)), b_X12_lentBits_41, nI_1, i_sh1 k (show k < 31 by omega), i_or, i_or0, i_add0]
    by_cases e : μ.1 128 (12 + k) = μ.1 128 (24 + k)
    · rw [if_pos e, sb_f (decide_eq_false (fun z => z e))]
    · rw [if_neg e, sb_t (decide_eq_true e)]
  · intro n
    rw [b_X12_lentBits_4]
    simp only [g127_2, t2, Option.bind_some, if_pos (nI_le (Nat.le_refl tc) (show tc < 2 ^ 31 by omega))]
    try rfl
theorem y_manyOf (hT : Mn μ hc tc kc lm) {m : Nat} (hm : hp_T[m]? = some (0, 42, [])) {s q : Nat} (hs : s < 2 ^ 31) (hq : q < 6) : F_X12_manyOf 127 m (nI s) (nI q) (hp κ μ) = some (nI (mo (μ.1 m) (μ.1 129) (μ.1 130) tc s q), hp κ μ) := by
  obtain ⟨t1, t2, t3, t4, t5, t6, t7, t8⟩ := hT
  unfold F_X12_manyOf
  rw [if_pos q127]
  refine lpk (fun n k => b_X12_manyOf_6 127 m (nI s) (nI q) n (nI (fb_ct (fun t => s.testBit t && io (μ.1 m t) (μ.1 129 q) (μ.1 130 q)) k)) (nI k) (hp κ μ)) tc _ ?_ ?_ bigN 0 (Nat.zero_le _) (by unfold bigN; omega)
  · intro n k hk
    rw [b_X12_manyOf_6]
    simp only [g127_2, t2, Option.bind_some, y_has hs (show k < 32 by omega), rI_hp hm (show k < 42 by omega), g127_4, r129 hq, g127_5, r130 hq, y_isOf, if_neg (nI_ge hk (show tc < 2 ^ 31 by omega)), b_X12_manyOf_54, b_X12_manyOf_53, nI_1, i_sh1 k (show k < 31 by omega), i_or, i_or0, i_add0]
    rw [fb_ct_succ]
    cases e : s.testBit k with
    | false => rw [if_pos (by decide), Bool.false_and]; rfl
    | true =>
      rw [if_neg (by decide), Bool.true_and]
      cases e2 : io (μ.1 m k) (μ.1 129 q) (μ.1 130 q) with
      | true => rw [if_neg (by decide)]; rfl
      | false => rw [if_pos (by decide)]; rfl
  · intro n
    rw [b_X12_manyOf_6]
    simp only [g127_2, t2, Option.bind_some, if_pos (nI_le (Nat.le_refl tc) (show tc < 2 ^ 31 by omega))]
    try rfl
theorem y_brokenBy (hT : Mn μ hc tc kc lm) {m : Nat} (hm : hp_T[m]? = some (0, 42, [])) {s : Nat} (hs : s < 2 ^ 31) : F_X12_brokenBy 127 m (nI s) (hp κ μ) = some (nI (bb (μ.1 m) (μ.1 129) (μ.1 130) tc kc lm s), hp κ μ) := by
  obtain ⟨t1, t2, t3, t4, t5, t6, t7, t8⟩ := hT
  unfold F_X12_brokenBy
  rw [if_pos q127]
  refine lpk (fun n k => b_X12_brokenBy_5 127 m (nI s) n (nI (sb (fun t => decide (lm < mo (μ.1 m) (μ.1 129) (μ.1 130) tc s t)) k)) (nI k) (hp κ μ)) kc _ ?_ ?_ bigN 0 (Nat.zero_le _) (by unfold bigN; omega)
  · intro n k hk
    rw [b_X12_brokenBy_5]
    simp only [g127_3, t3, Option.bind_some, y_manyOf ⟨t1, t2, t3, t4, t5, t6, t7, t8⟩ hm hs (show k < 6 by omega), g127_6, t4, if_neg (nI_ge hk (show kc < 2 ^ 31 by omega)), b_X12_brokenBy_38, nI_1, i_sh1 k (show k < 31 by omega), i_or, i_or0, i_add0]
    have hc := mo_le (μ.1 m) (μ.1 129) (μ.1 130) tc s k
    by_cases e : lm < mo (μ.1 m) (μ.1 129) (μ.1 130) tc s k
    · rw [if_neg (i_nle (by omega) (by omega) e), sb_t (decide_eq_true e)]
    · rw [if_pos (i_yle (by omega) (by omega) (by omega)), sb_f (decide_eq_false e)]
  · intro n
    rw [b_X12_brokenBy_5]
    simp only [g127_3, t3, Option.bind_some, if_pos (nI_le (Nat.le_refl kc) (show kc < 2 ^ 31 by omega))]
    try rfl
theorem y_kept (hT : Mn μ hc tc kc lm) {m : Nat} (hm : hp_T[m]? = some (0, 42, [])) (x : Int32) : F_X12_keptBy 127 m x (hp κ μ) = some (nI (kp (fun t => μ.1 m (24 + t)) tc x), hp κ μ) := y_keptBy hT hm x
theorem y_owned (hT : Mn μ hc tc kc lm) {m : Nat} (hm : hp_T[m]? = some (0, 42, [])) (x : Int32) : F_X12_ownedBy 127 m x (hp κ μ) = some (nI (kp (fun t => μ.1 m (12 + t)) tc x), hp κ μ) := y_ownedBy hT hm x
theorem x_kept (hT : Tn μ hc tc kc lm) (x : Int32) : F_X10_keptBy 1 x (hp κ μ) = some (nI (kp (μ.1 4) tc x), hp κ μ) := x_keptBy hT x
theorem x_owned (hT : Tn μ hc tc kc lm) (x : Int32) : F_X10_ownedBy 1 x (hp κ μ) = some (nI (kp (μ.1 3) tc x), hp κ μ) := x_ownedBy hT x
theorem small {n : Nat} (h : n < 4096) : n < 2 ^ 31 := by omega
theorem y_breaks (hT : Mn μ hc tc kc lm) {m : Nat} (hm : hp_T[m]? = some (0, 42, [])) (x : Int32) : F_X12_breaks 127 m x (hp κ μ) = some (nI (bb (μ.1 m) (μ.1 129) (μ.1 130) tc kc lm (kp (fun t => μ.1 m (24 + t)) tc x)), hp κ μ) := by
  have t6 := hT.2.2.2.2.2.1
  unfold F_X12_breaks
  simp only [if_pos q127, y_kept hT hm, Option.bind_some, y_brokenBy hT hm (small (kp_lt t6))]
theorem y_brokenHouses (hT : Mn μ hc tc kc lm) {m : Nat} (hm : hp_T[m]? = some (0, 42, [])) : F_X12_brokenHouses 127 m (hp κ μ) = some (nI (bh (μ.1 m) (μ.1 129) (μ.1 130) hc tc kc lm), hp κ μ) := by
  obtain ⟨t1, t2, t3, t4, t5, t6, t7, t8⟩ := hT
  unfold F_X12_brokenHouses
  rw [if_pos q127]
  refine lpk (fun n k => b_X12_brokenHouses_4 127 m n (nI (sb (fun t => decide (¬ bb (μ.1 m) (μ.1 129) (μ.1 130) tc kc lm (kp (fun u => μ.1 m (24 + u)) tc (nI t)) = 0)) k)) (nI k) (hp κ μ)) hc _ ?_ ?_ bigN 0 (Nat.zero_le _) (by unfold bigN; omega)
  · intro n k hk
    rw [b_X12_brokenHouses_4]
    simp only [g127_1, t1, Option.bind_some, y_breaks ⟨t1, t2, t3, t4, t5, t6, t7, t8⟩ hm, if_neg (nI_ge hk (show hc < 2 ^ 31 by omega)), b_X12_brokenHouses_29, nI_1, i_sh1 k (show k < 31 by omega), i_or, i_or0, i_add0]
    have hb := bb_lt (A := μ.1 m) (mu := μ.1 129) (mn := μ.1 130) (tc := tc) (lm := lm) (s := kp (fun u => μ.1 m (24 + u)) tc (nI k)) t7
    by_cases e : bb (μ.1 m) (μ.1 129) (μ.1 130) tc kc lm (kp (fun u => μ.1 m (24 + u)) tc (nI k)) = 0
    · rw [if_pos ((i_eq0 (by omega)).mpr e), sb_f (decide_eq_false (fun z => z e))]
    · rw [if_neg (fun z => e ((i_eq0 (by omega)).mp z)), sb_t (decide_eq_true e)]
  · intro n
    rw [b_X12_brokenHouses_4]
    simp only [g127_1, t1, Option.bind_some, if_pos (nI_le (Nat.le_refl hc) (show hc < 2 ^ 31 by omega))]
    try rfl
theorem y_withAll (hT : Mn μ hc tc kc lm) {s : Nat} (hs : s < 2 ^ 31) (x : Int32) : F_X12_withAll 127 (nI s) x (hp κ μ) = some (nI (sb (fun t => s.testBit t && io (μ.1 128 t) x 0) tc), hp κ μ) := by
  obtain ⟨t1, t2, t3, t4, t5, t6, t7, t8⟩ := hT
  unfold F_X12_withAll
  rw [if_pos q127]
  refine lpk (fun n k => b_X12_withAll_5 127 (nI s) x n (nI (sb (fun t => s.testBit t && io (μ.1 128 t) x 0) k)) (nI k) (hp κ μ)) tc _ ?_ ?_ bigN 0 (Nat.zero_le _) (by unfold bigN; omega)
  · intro n k hk
    rw [b_X12_withAll_5]
    simp only [g127_2, t2, Option.bind_some, y_has hs (show k < 32 by omega), g127_0, r128 (show k < 42 by omega), y_isOf, if_neg (nI_ge hk (show tc < 2 ^ 31 by omega)), b_X12_withAll_48, b_X12_withAll_47, nI_1, i_sh1 k (show k < 31 by omega), i_or, i_or0, i_add0]
    cases e : s.testBit k with
    | false => rw [if_pos (by decide), sb_f (by rw [e, Bool.false_and])]
    | true =>
      rw [if_neg (by decide)]
      cases e2 : io (μ.1 128 k) x 0 with
      | true => rw [if_neg (by decide), sb_t (by rw [e, e2]; rfl)]
      | false => rw [if_pos (by decide), sb_f (by rw [e, e2]; rfl)]
  · intro n
    rw [b_X12_withAll_5]
    simp only [g127_2, t2, Option.bind_some, if_pos (nI_le (Nat.le_refl tc) (show tc < 2 ^ 31 by omega))]
    try rfl
end MOD
