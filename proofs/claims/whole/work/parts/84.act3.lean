/-! PURE: pairs: give, lend, claim, paint. -/
def rmM (ν : Mem) (un : Nat) : Mem := upI (rowI ν 136 (rem (ν.1 136) (ν.1 128) un)) 127 23 (nI (if un < 12 then un + 1 else 12))
section YACT
variable {κ : Kp} {ν : Mem} {hc tc kc lm B un : Nat}
theorem y_rem (h : ν.1 127 23 = nI un) (hu : un ≤ 12) : F_X12_remember 127 128 (hp κ ν) = some (hp κ (rmM ν un)) := y_remember rfl (by decide) (by decide) h hu
theorem y_areBoth (hM : Mn ν hc tc kc lm) (x y : Int32) : F_X12_areBoth 127 x y (hp κ ν) = some (if isI tc x && isI hc y then 1 else 0, hp κ ν) := by
  have b1 := hM.2.2.2.2.1
  have b2 := hM.2.2.2.2.2.1
  unfold F_X12_areBoth
  rcases y_isThing (κ := κ) hM x with ⟨t, ht, rfl, h1⟩ | ⟨hx, h1⟩
  · rcases y_isHouse (κ := κ) hM y with ⟨j, hj, rfl, h2⟩ | ⟨hy, h2⟩
    · simp only [if_pos q127, h1, h2, obs, show ¬ (1 : Int32) = 0 by decide, ↓reduceIte, isI_y ht (show tc ≤ 5000 by omega), isI_y hj (show hc ≤ 5000 by omega), Bool.and_self]
    · simp only [if_pos q127, h1, h2, obs, show ¬ (1 : Int32) = 0 by decide, ↓reduceIte, isI_n (show hc ≤ 5000 by omega) hy, Bool.and_false, Bool.false_eq_true]
  · simp only [if_pos q127, h1, obs, ↓reduceIte, isI_n (show tc ≤ 5000 by omega) hx, Bool.false_and, Bool.false_eq_true]
theorem isI_of {n : Nat} {x : Int32} (hn : n ≤ 5000) (h : isI n x = true) : ∃ j, j < n ∧ x = nI j := by
  rcases ix_n hn x with h2 | h2
  · exact h2
  · rw [isI_n hn h2] at h; cases h
theorem y_isNobodys {t : Nat} (ht : t < 12) : F_X12_isNobodys 127 (nI t) (hp κ ν) = some (if ν.1 128 (12 + t) = -1 then 1 else 0, hp κ ν) := by
  unfold F_X12_isNobodys
  rw [if_pos q127, g127_0, obs, i12, r128 (by omega), obs]
  split <;> rfl
theorem y_belong {t : Nat} (ht : t < 12) (y : Int32) : F_X12_belong 128 (nI t) y (hp κ ν) = some (hp κ (rowI ν 128 (hnd (ν.1 128) t y))) := by
  unfold F_X12_belong
  rw [i12, w128 (by omega), obs, i24, w128 (by omega), obs]
  show some (hp κ (rowI (rowI ν 128 _) 128 (upd ((rowI ν 128 _).1 128) _ _))) = _
  rw [rowI_rowI, rowI_s]
  rfl
theorem y_refGive (hM : Mn ν hc tc kc lm) (hW : WS (ν.1 128) hc tc B) (x y : Int32) : F_X12_refusesGive 127 x y (hp κ ν) = some (rfc (givP (ν.1 128) hc tc x y).1, hp κ ν) := by
  have b1 := hM.2.2.2.2.1
  have b2 := hM.2.2.2.2.2.1
  unfold F_X12_refusesGive givP
  rw [if_pos q127, y_areBoth hM, obs]
  cases c : isI tc x && isI hc y with
  | false => rfl
  | true =>
    rw [Bool.and_eq_true] at c
    obtain ⟨t, ht, rfl⟩ := isI_of (by omega) c.1
    obtain ⟨j, hj, rfl⟩ := isI_of (by omega) c.2
    have h5 := (hW.1 t ht).2.1
    simp only [↓reduceIte, show ¬ (1 : Int32) = 0 by decide, y_isNobodys (show t < 12 by omega), obs, g127_0, i12, i24, r128 (show 12 + t < 42 by omega), r128 (show 24 + t < 42 by omega), cx_n (show t < 2 ^ 31 by omega)]
    by_cases c1 : ν.1 128 (12 + t) = -1
    · simp only [c1, ↓reduceIte, show ¬ (1 : Int32) = 0 by decide]
      rfl
    · have hge := hs_ge b1.2 h5 c1
      by_cases c2 : ν.1 128 (12 + t) = ν.1 128 (24 + t)
      · simp only [if_neg c1, if_pos c2, ↓reduceIte]
        by_cases c3 : ν.1 128 (12 + t) = nI j
        · simp only [if_pos c3]
          rfl
        · simp only [if_neg c3]
          unfold rfc
          rw [if_pos hge.1]
      · simp only [if_neg c1, if_neg c2, ↓reduceIte]
        rfl
theorem y_refLend (hM : Mn ν hc tc kc lm) (hW : WS (ν.1 128) hc tc B) (x y : Int32) : F_X12_refusesLend 127 x y (hp κ ν) = some (rfc (lenP (ν.1 128) hc tc x y).1, hp κ ν) := by
  have b1 := hM.2.2.2.2.1
  have b2 := hM.2.2.2.2.2.1
  unfold F_X12_refusesLend lenP
  rw [if_pos q127, y_areBoth hM, obs]
  cases c : isI tc x && isI hc y with
  | false => rfl
  | true =>
    rw [Bool.and_eq_true] at c
    obtain ⟨t, ht, rfl⟩ := isI_of (by omega) c.1
    obtain ⟨j, hj, rfl⟩ := isI_of (by omega) c.2
    obtain ⟨-, -, h5, h6⟩ := hW.1 t ht
    simp only [↓reduceIte, show ¬ (1 : Int32) = 0 by decide, y_isNobodys (show t < 12 by omega), obs, g127_0, i12, i24, r128 (show 12 + t < 42 by omega), r128 (show 24 + t < 42 by omega), cx_n (show t < 2 ^ 31 by omega)]
    by_cases c1 : ν.1 128 (24 + t) = -1
    · simp only [if_pos c1, if_pos (h6.mpr c1), ↓reduceIte, show ¬ (1 : Int32) = 0 by decide]
      rfl
    · have hge := hs_ge b1.2 h5 c1
      simp only [if_neg c1, if_neg (fun z => c1 (h6.mp z)), ↓reduceIte]
      by_cases c3 : ν.1 128 (24 + t) = nI j
      · simp only [if_pos c3]
        rfl
      · simp only [if_neg c3]
        unfold rfc
        rw [if_pos hge.1]
theorem y_refClaim (hM : Mn ν hc tc kc lm) (hW : WS (ν.1 128) hc tc B) (x y : Int32) : F_X12_refusesClaim 127 x y (hp κ ν) = some (rfc (claP (ν.1 128) (ν.1 129) (ν.1 130) hc tc kc lm x y).1, hp κ ν) := by
  have b1 := hM.2.2.2.2.1
  have b2 := hM.2.2.2.2.2.1
  have b3 := hM.2.2.2.2.2.2.1
  unfold F_X12_refusesClaim claP
  rw [if_pos q127, y_areBoth hM, obs]
  cases c : isI tc x && isI hc y with
  | false => rfl
  | true =>
    rw [Bool.and_eq_true] at c
    obtain ⟨t, ht, rfl⟩ := isI_of (by omega) c.1
    obtain ⟨j, hj, rfl⟩ := isI_of (by omega) c.2
    obtain ⟨-, h5, -, h6⟩ := hW.1 t ht
    have hlt : bb (ν.1 128) (ν.1 129) (ν.1 130) tc kc lm (kp (fun t => ν.1 128 (24 + t)) tc (ν.1 128 (24 + t))) &&& sb (fun k => io (ν.1 128 t) (ν.1 129 k) (ν.1 130 k)) kc < 2 ^ 31 := by
      have := bb_lt (A := ν.1 128) (mu := ν.1 129) (mn := ν.1 130) (tc := tc) (lm := lm) (s := kp (fun t => ν.1 128 (24 + t)) tc (ν.1 128 (24 + t))) b3
      exact and_l (by omega)
    simp only [↓reduceIte, show ¬ (1 : Int32) = 0 by decide, y_isNobodys (show t < 12 by omega), obs, g127_0, i12, i24, r128 (show 12 + t < 42 by omega), r128 (show 24 + t < 42 by omega), r128 (show t < 42 by omega), cx_n (show t < 2 ^ 31 by omega), y_breaks hM (show hp_T[128]? = some (0, 42, []) from rfl), y_kindsOf hM, i_and, i_eq0 hlt]
    by_cases c1 : ν.1 128 (12 + t) = -1
    · simp only [c1, ↓reduceIte, show ¬ (1 : Int32) = 0 by decide]
      rfl
    · have hge := hs_ge b1.2 h5 c1
      simp only [if_neg c1, ↓reduceIte]
      by_cases c2 : ν.1 128 (24 + t) = nI j
      · simp only [if_pos c2, ite_self]
        rfl
      · simp only [if_neg c2]
        by_cases c3 : ν.1 128 (12 + t) = nI j
        · simp only [if_pos c3]
          rfl
        · simp only [if_neg c3]
          split
          · rfl
          · unfold rfc
            rw [if_pos hge.1]
theorem rfc_0 {v : Int32} (h : 0 ≤ v) : rfc v = 0 := if_pos h
theorem rfc_n {v : Int32} (h : v < 0) : rfc v = v ∧ ¬ 0 ≤ rfc v := by
  have : ¬ 0 ≤ v := fun z => by rw [fa_le] at z; rw [fa_lt] at h; omega
  unfold rfc
  rw [if_neg this]
  exact ⟨rfl, this⟩
theorem Mn.z (h : Mn ν hc tc kc lm) : Mn (Zr ν) hc tc kc lm := h
theorem ge_1 : ¬ (0 : Int32) ≤ -1 := by decide
theorem ge_2 : ¬ (0 : Int32) ≤ -2 := by decide
theorem ge_3 : ¬ (0 : Int32) ≤ -3 := by decide
theorem ge_4 : ¬ (0 : Int32) ≤ -4 := by decide
theorem givP_ok {A : Nat → Int32} {x y : Int32} (h : 0 ≤ (givP A hc tc x y).1) (b1 : hc ≤ 5) (b2 : tc ≤ 12) : ∃ t, t < tc ∧ x = nI t ∧ givP A hc tc x y = (A (12 + t), hnd A t y) := by
  unfold givP at h ⊢
  split at h
  next c =>
    rw [if_pos c]
    rw [Bool.and_eq_true] at c
    obtain ⟨t, ht, rfl⟩ := isI_of (by omega) c.1
    refine ⟨t, ht, rfl, ?_⟩
    rw [cx_n (by omega)] at h ⊢
    split at h
    · exact absurd h (by first | exact ge_1 | exact ge_2 | exact ge_3 | exact ge_4)
    · split at h
      · split at h
        · exact absurd h (by first | exact ge_1 | exact ge_2 | exact ge_3 | exact ge_4)
        next n1 n2 n3 => rw [if_neg n1, if_pos n2, if_neg n3]
      · exact absurd h (by first | exact ge_1 | exact ge_2 | exact ge_3 | exact ge_4)
  · exact absurd h (by first | exact ge_1 | exact ge_2 | exact ge_3 | exact ge_4)
theorem lenP_ok {A : Nat → Int32} {x y : Int32} (h : 0 ≤ (lenP A hc tc x y).1) (b1 : hc ≤ 5) (b2 : tc ≤ 12) : ∃ t, t < tc ∧ x = nI t ∧ lenP A hc tc x y = (A (24 + t), upd A (24 + t) y) := by
  unfold lenP at h ⊢
  split at h
  next c =>
    rw [if_pos c]
    rw [Bool.and_eq_true] at c
    obtain ⟨t, ht, rfl⟩ := isI_of (by omega) c.1
    refine ⟨t, ht, rfl, ?_⟩
    rw [cx_n (by omega)] at h ⊢
    split at h
    · exact absurd h (by first | exact ge_1 | exact ge_2 | exact ge_3 | exact ge_4)
    · split at h
      · exact absurd h (by first | exact ge_1 | exact ge_2 | exact ge_3 | exact ge_4)
      next n1 n2 => rw [if_neg n1, if_neg n2]
  · exact absurd h (by first | exact ge_1 | exact ge_2 | exact ge_3 | exact ge_4)
theorem claP_ok {A mu mn : Nat → Int32} {x y : Int32} (h : 0 ≤ (claP A mu mn hc tc kc lm x y).1) (b1 : hc ≤ 5) (b2 : tc ≤ 12) : ∃ t, t < tc ∧ x = nI t ∧ claP A mu mn hc tc kc lm x y = (A (12 + t), hnd A t y) := by
  unfold claP at h ⊢
  split at h
  next c =>
    rw [if_pos c]
    rw [Bool.and_eq_true] at c
    obtain ⟨t, ht, rfl⟩ := isI_of (by omega) c.1
    refine ⟨t, ht, rfl, ?_⟩
    rw [cx_n (by omega)] at h ⊢
    split at h
    · exact absurd h (by first | exact ge_1 | exact ge_2 | exact ge_3 | exact ge_4)
    · split at h
      · exact absurd h (by first | exact ge_1 | exact ge_2 | exact ge_3 | exact ge_4)
      · split at h
        · exact absurd h (by first | exact ge_1 | exact ge_2 | exact ge_3 | exact ge_4)
        · split at h
          · exact absurd h (by first | exact ge_1 | exact ge_2 | exact ge_3 | exact ge_4)
          next n1 n2 n3 n4 => rw [if_neg n1, if_neg n2, if_neg n3, if_neg n4]
  · exact absurd h (by first | exact ge_1 | exact ge_2 | exact ge_3 | exact ge_4)
theorem YA.no {ξ : Mem} {r : Ac} (h : r.1 < 0) (hs : SmR ν ξ) (h1 : ξ.1 128 = ν.1 128) (h2 : ξ.1 136 = ν.1 136) (h3 : ξ.1 127 23 = ν.1 127 23) : YA ν ξ un r := ⟨hs, Or.inl ⟨h, h1, h2, h3⟩⟩
theorem ya_rem {r : Ac} (h : 0 ≤ r.1) : YA ν (rowI (rmM (Zr ν) un) 128 r.2) un r := ⟨(((SmR.rf.up (Or.inl rfl)).row (Or.inr (Or.inr (Or.inl rfl)))).up (Or.inr rfl)).row (Or.inl rfl), Or.inr ⟨h, rfl, rfl, rfl⟩⟩
theorem lt_or {v : Int32} : v < 0 ∨ 0 ≤ v := by
  by_cases c : v < 0
  · exact Or.inl c
  · exact Or.inr (fa_of_nlt c)
theorem y_give (hM : Mn ν hc tc kc lm) (hW : WS (ν.1 128) hc tc B) (h : ν.1 127 23 = nI un) (hu : un ≤ 12) (x y : Int32) : ∃ ξ, F_X12_give 127 x y (hp κ ν) = some ((givP (ν.1 128) hc tc x y).1, hp κ ξ) ∧ YA ν ξ un (givP (ν.1 128) hc tc x y) ∧ RwK ν ξ := by
  have b1 := hM.2.2.2.2.1
  have b2 := hM.2.2.2.2.2.1
  have hr := y_refGive (κ := κ) (ν := Zr ν) hM.z (B := B) hW x y
  have e8 : (Zr ν).1 128 = ν.1 128 := rfl
  rw [e8] at hr
  unfold F_X12_give
  rw [if_pos q127, p11, obs, hr, obs]
  rcases lt_or (v := (givP (ν.1 128) hc tc x y).1) with c | c
  · rw [(rfc_n c).1]
    refine ⟨Zr ν, if_neg (by have := rfc_n c; rw [this.1] at this; exact this.2), YA.no c (SmR.rf.up (Or.inl rfl)) rfl rfl rfl, rfl, rfl⟩
  · obtain ⟨t, ht, rfl, e⟩ := givP_ok c b1.2 b2
    rw [rfc_0 c]
    refine ⟨rowI (rmM (Zr ν) un) 128 (givP (ν.1 128) hc tc (nI t) y).2, ?_, ya_rem c, rfl, rfl⟩
    (try dsimp only)
    have e9 : (rmM (Zr ν) un).1 128 = ν.1 128 := rfl
    rw [if_pos (by decide), g127_0, obs, y_rem (ν := Zr ν) (un := un) h hu, obs, g127_0, obs, i12, r128 (by omega), obs, obs, y_belong (by omega), obs, e9, e]
theorem y_claim (hM : Mn ν hc tc kc lm) (hW : WS (ν.1 128) hc tc B) (h : ν.1 127 23 = nI un) (hu : un ≤ 12) (x y : Int32) : ∃ ξ, F_X12_claim 127 x y (hp κ ν) = some ((claP (ν.1 128) (ν.1 129) (ν.1 130) hc tc kc lm x y).1, hp κ ξ) ∧ YA ν ξ un (claP (ν.1 128) (ν.1 129) (ν.1 130) hc tc kc lm x y) ∧ RwK ν ξ := by
  have b1 := hM.2.2.2.2.1
  have b2 := hM.2.2.2.2.2.1
  have hr := y_refClaim (κ := κ) (ν := Zr ν) hM.z (B := B) hW x y
  have e8 : (Zr ν).1 128 = ν.1 128 ∧ (Zr ν).1 129 = ν.1 129 ∧ (Zr ν).1 130 = ν.1 130 := ⟨rfl, rfl, rfl⟩
  rw [e8.1, e8.2.1, e8.2.2] at hr
  unfold F_X12_claim
  rw [if_pos q127, p11, obs, hr, obs]
  rcases lt_or (v := (claP (ν.1 128) (ν.1 129) (ν.1 130) hc tc kc lm x y).1) with c | c
  · rw [(rfc_n c).1]
    refine ⟨Zr ν, if_neg (by have := rfc_n c; rw [this.1] at this; exact this.2), YA.no c (SmR.rf.up (Or.inl rfl)) rfl rfl rfl, rfl, rfl⟩
  · obtain ⟨t, ht, rfl, e⟩ := claP_ok c b1.2 b2
    rw [rfc_0 c]
    refine ⟨rowI (rmM (Zr ν) un) 128 (claP (ν.1 128) (ν.1 129) (ν.1 130) hc tc kc lm (nI t) y).2, ?_, ya_rem c, rfl, rfl⟩
    (try dsimp only)
    have e9 : (rmM (Zr ν) un).1 128 = ν.1 128 := rfl
    rw [if_pos (by decide), g127_0, obs, y_rem (ν := Zr ν) (un := un) h hu, obs, g127_0, obs, i12, r128 (by omega), obs, obs, y_belong (by omega), obs, e9, e]
theorem y_lend (hM : Mn ν hc tc kc lm) (hW : WS (ν.1 128) hc tc B) (h : ν.1 127 23 = nI un) (hu : un ≤ 12) (x y : Int32) : ∃ ξ, F_X12_lend 127 x y (hp κ ν) = some ((lenP (ν.1 128) hc tc x y).1, hp κ ξ) ∧ YA ν ξ un (lenP (ν.1 128) hc tc x y) ∧ RwK ν ξ := by
  have b1 := hM.2.2.2.2.1
  have b2 := hM.2.2.2.2.2.1
  have hr := y_refLend (κ := κ) (ν := Zr ν) hM.z (B := B) hW x y
  have e8 : (Zr ν).1 128 = ν.1 128 := rfl
  rw [e8] at hr
  unfold F_X12_lend
  rw [if_pos q127, p11, obs, hr, obs]
  rcases lt_or (v := (lenP (ν.1 128) hc tc x y).1) with c | c
  · rw [(rfc_n c).1]
    refine ⟨Zr ν, if_neg (by have := rfc_n c; rw [this.1] at this; exact this.2), YA.no c (SmR.rf.up (Or.inl rfl)) rfl rfl rfl, rfl, rfl⟩
  · obtain ⟨t, ht, rfl, e⟩ := lenP_ok c b1.2 b2
    rw [rfc_0 c]
    refine ⟨rowI (rmM (Zr ν) un) 128 (lenP (ν.1 128) hc tc (nI t) y).2, ?_, ya_rem c, rfl, rfl⟩
    (try dsimp only)
    have e9 : (rmM (Zr ν) un).1 128 = ν.1 128 := rfl
    rw [if_pos (by decide), g127_0, obs, y_rem (ν := Zr ν) (un := un) h hu, obs, g127_0, obs, i24, r128 (by omega), obs, obs, w128 (by omega), obs, e]
    rfl
theorem y_paint (hM : Mn ν hc tc kc lm) (h : ν.1 127 23 = nI un) (hu : un ≤ 12) (hW : WS (ν.1 128) hc tc B) (x y : Int32) : ∃ ξ, F_X12_paint 127 x y (hp κ ν) = some ((paiP (ν.1 128) tc x y).1, hp κ ξ) ∧ YA ν ξ un (paiP (ν.1 128) tc x y) ∧ RwK ν ξ := by
  have b1 := hM.2.2.2.2.1
  have b2 := hM.2.2.2.2.2.1
  have hno : ∀ r : Ac, r = (-1, ν.1 128) → YA ν (Zr ν) un r ∧ RwK ν (Zr ν) := fun r hr => by
    subst hr
    exact ⟨YA.no ng_1 (SmR.rf.up (Or.inl rfl)) rfl rfl rfl, rfl, rfl⟩
  unfold F_X12_paint
  rcases y_isThing (κ := κ) (μ := Zr ν) hM.z x with ⟨t, ht, rfl, h1⟩ | ⟨hx, h1⟩
  · rcases rng y 0 5 0 5 rfl rfl (by omega) (by omega) with ⟨j, j1, j2, rfl, c1, c2, c3, c4, c5⟩ | ⟨c1, c2, c3⟩ | ⟨c1, c2, c3, c4, c5⟩
    · have e : paiP (ν.1 128) tc (nI t) (nI j) = (ν.1 128 t ^^^ nI (2 ^ j), upd (ν.1 128) t (ν.1 128 t ^^^ nI (2 ^ j))) := by
        unfold paiP
        rw [isI_y ht (by omega), isI_y (show j < 6 by omega) (by omega), cx_n (by omega), cx_n (by omega)]
        rfl
      have c0 : 0 ≤ (paiP (ν.1 128) tc (nI t) (nI j)).1 := by
        rcases paiP_o hW b1.2 b2 (nI t) (nI j) with ⟨o1, o2⟩ | ⟨o1, -⟩
        · rw [e] at o2
          exfalso
          obtain ⟨⟨w, hw, ew⟩, -⟩ := hW.1 t ht
          rw [e, ew, i_xor] at o1
          have hp : 2 ^ j < 2 ^ 6 := Nat.pow_lt_pow_right (by decide) (by omega)
          have hx : w ^^^ 2 ^ j < 2 ^ 6 := Nat.xor_lt_two_pow (n := 6) hw hp
          exact nI_pos (by omega) o1
        · exact o1
      refine ⟨rowI (rmM (Zr ν) un) 128 (paiP (ν.1 128) tc (nI t) (nI j)).2, ?_, ya_rem c0, rfl, rfl⟩
      have e9 : (rmM (Zr ν) un).1 128 t = ν.1 128 t := rfl
      have e10 : ∀ v, (upI (rmM (Zr ν) un) 128 t v).1 128 t = v := fun v => by rw [rowI_s, pk_us]
      rw [if_pos q127, p11, obs, h1, obs]
      (try dsimp only)
      rw [if_neg (by decide), c5, obs]
      (try dsimp only)
      rw [if_neg (by decide), g127_0, obs, y_rem (ν := Zr ν) (un := un) h hu, obs, g127_0, obs, r128 (by omega), obs, e9, i_sh1 j (by omega), w128 (by omega), obs, g127_0, obs, r128 (by omega), obs, e10, e]
      rfl
    · have n6 : isI 6 y = false := isI_n (by omega) (fun j hj z => ne_lo (A := 0) (k := j) rfl (by omega) c1 (by omega) (by omega) z)
      have e : paiP (ν.1 128) tc (nI t) y = (-1, ν.1 128) := by
        unfold paiP
        rw [n6, Bool.and_false]
        rfl
      refine ⟨Zr ν, ?_, hno _ e⟩
      rw [if_pos q127, p11, obs, h1, obs, e]
      (try dsimp only)
      rw [if_neg (by decide), c3, obs]
      rfl
    · have n6 : isI 6 y = false := isI_n (by omega) (fun j hj z => ne_hi (B := 5) (k := j) rfl (by omega) c1 (by omega) z)
      have e : paiP (ν.1 128) tc (nI t) y = (-1, ν.1 128) := by
        unfold paiP
        rw [n6, Bool.and_false]
        rfl
      refine ⟨Zr ν, ?_, hno _ e⟩
      rw [if_pos q127, p11, obs, h1, obs, e]
      (try dsimp only)
      rw [if_neg (by decide), c5, obs]
      rfl
  · have e : paiP (ν.1 128) tc x y = (-1, ν.1 128) := by
      unfold paiP
      rw [isI_n (by omega) hx, Bool.false_and]
      rfl
    refine ⟨Zr ν, ?_, hno _ e⟩
    rw [if_pos q127, p11, obs, h1, obs, e]
    rfl
end YACT
theorem AcO.up {A : Nat → Int32} {hc tc B B' : Nat} {r : Ac} (h : AcO A hc tc B r) (hB : B ≤ B') : AcO A hc tc B' r := by
  rcases h with h | ⟨h1, h2, h3⟩
  · exact Or.inl h
  · exact Or.inr ⟨h1, h2, h3.up hB⟩
theorem bnd_eta {α β : Type} (o : Option (α × β)) : (o.bind fun q => some (q.1, q.2)) = o := by cases o <;> rfl
theorem pr_give : P2 F_X11_give F_X12_give := by
  intro x y κ B μ hR hB hI
  have h := act_pair (κ := κ) hR hB hI 103 x y F_X12_give (fun A _ _ hc tc _ _ _ => givP A hc tc x y) (fun A mu mn hc tc kc lm b1 b2 hW => (givP_o hW b1 b2 x y).up (by omega)) (fun ν A mu mn hc tc kc lm _ _ hX hW => by
    obtain ⟨ξ, h1, h2⟩ := C_given (κ := κ) hX x y
    refine ⟨ξ, ?_, h2⟩
    unfold F_X11_acted
    rw [if_pos q0, if_neg (by decide), if_neg (by decide), if_neg (by decide), if_neg (by decide), if_neg (by decide), if_pos rfl, g0_0, obs, h1, obs]) (fun ν hc tc kc lm un _ _ hM hW hu1 hu2 => y_give hM hW hu1 hu2 x y)
  (try dsimp only)
  unfold F_X11_give
  rw [if_pos q0, bnd_eta]
  exact h
theorem pr_lend : P2 F_X11_lend F_X12_lend := by
  intro x y κ B μ hR hB hI
  have h := act_pair (κ := κ) hR hB hI 108 x y F_X12_lend (fun A _ _ hc tc _ _ _ => lenP A hc tc x y) (fun A mu mn hc tc kc lm b1 b2 hW => (lenP_o hW b1 b2 x y).up (by omega)) (fun ν A mu mn hc tc kc lm _ _ hX hW => by
    obtain ⟨ξ, h1, h2⟩ := C_lent (κ := κ) hX x y
    refine ⟨ξ, ?_, h2⟩
    unfold F_X11_acted
    rw [if_pos q0, if_neg (by decide), if_neg (by decide), if_neg (by decide), if_neg (by decide), if_neg (by decide), if_neg (by decide), if_neg (by decide), if_neg (by decide), if_neg (by decide), if_neg (by decide), if_pos rfl, g0_0, obs, h1, obs]) (fun ν hc tc kc lm un _ _ hM hW hu1 hu2 => y_lend hM hW hu1 hu2 x y)
  (try dsimp only)
  unfold F_X11_lend
  rw [if_pos q0, bnd_eta]
  exact h
theorem pr_claim : P2 F_X11_claim F_X12_claim := by
  intro x y κ B μ hR hB hI
  have h := act_pair (κ := κ) hR hB hI 99 x y F_X12_claim (fun A mu mn hc tc kc lm _ => claP A mu mn hc tc kc lm x y) (fun A mu mn hc tc kc lm b1 b2 hW => (claP_o hW b1 b2 x y).up (by omega)) (fun ν A mu mn hc tc kc lm _ _ hX hW => by
    obtain ⟨ξ, h1, h2⟩ := C_claimed (κ := κ) hX x y
    refine ⟨ξ, ?_, h2⟩
    unfold F_X11_acted
    rw [if_pos q0, if_neg (by decide), if_pos rfl, g0_0, obs, h1, obs]) (fun ν hc tc kc lm un _ _ hM hW hu1 hu2 => y_claim hM hW hu1 hu2 x y)
  (try dsimp only)
  unfold F_X11_claim
  rw [if_pos q0, bnd_eta]
  exact h
theorem pr_paint : P2 F_X11_paint F_X12_paint := by
  intro x y κ B μ hR hB hI
  have h := act_pair (κ := κ) hR hB hI 112 x y F_X12_paint (fun A _ _ _ tc _ _ _ => paiP A tc x y) (fun A mu mn hc tc kc lm b1 b2 hW => (paiP_o hW b1 b2 x y).up (by omega)) (fun ν A mu mn hc tc kc lm _ _ hX hW => by
    obtain ⟨ξ, h1, h2⟩ := C_painted (κ := κ) hX x y
    refine ⟨ξ, ?_, h2⟩
    unfold F_X11_acted
    rw [if_pos q0, if_neg (by decide), if_neg (by decide), if_neg (by decide), if_neg (by decide), if_neg (by decide), if_neg (by decide), if_neg (by decide), if_neg (by decide), if_neg (by decide), if_neg (by decide), if_neg (by decide), if_neg (by decide), if_neg (by decide), if_neg (by decide), if_pos rfl, g0_0, obs, h1, obs]) (fun ν hc tc kc lm un _ _ hM hW hu1 hu2 => y_paint hM hu1 hu2 hW x y)
  (try dsimp only)
  unfold F_X11_paint
  rw [if_pos q0, bnd_eta]
  exact h
