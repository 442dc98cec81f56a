/-! PURE: acts, over a state told apart. -/
def isI (n : Nat) (x : Int32) : Bool := decide (0 ≤ x) && decide (x < nI n)
theorem isI_y {n j : Nat} (hj : j < n) (hn : n ≤ 5000) : isI n (nI j) = true := by
  unfold isI
  rw [Bool.and_eq_true]
  exact ⟨decide_eq_true (nI_le (a := 0) (by omega) (by omega)), decide_eq_true (nI_lt hj (by omega))⟩
theorem isI_n {n : Nat} {x : Int32} (hn : n ≤ 5000) (h : ∀ j, j < n → x ≠ nI j) : isI n x = false := by
  unfold isI
  rcases ix_n hn x with ⟨j, hj, rfl⟩ | h2
  · exact absurd rfl (h j hj)
  · rcases pk_ix x (n := n) (by omega) with h1 | h1 | ⟨j, hj, e⟩
    · have : ¬ (0 : Int32) ≤ x := fun z => by rw [fa_le] at z; rw [fa_lt] at h1; omega
      simp [this]
    · have : ¬ x < nI n := fun z => by rw [fa_le] at h1; rw [fa_lt] at z; omega
      simp [this]
    · exact absurd e (h j hj)
def cx (x : Int32) : Nat := x.toNatClampNeg
theorem cx_n {j : Nat} (h : j < 2 ^ 31) : cx (nI j) = j := nI_clamp (by omega)
def hnd (A : Nat → Int32) (t : Nat) (y : Int32) : Nat → Int32 := upd (upd A (12 + t) y) (24 + t) y
/-- refused below 0, the state as it was -/
abbrev Ac : Type := Int32 × (Nat → Int32)
def givP (A : Nat → Int32) (hc tc : Nat) (x y : Int32) : Ac := if isI tc x && isI hc y then (if A (12 + cx x) = -1 then (-2, A) else if A (12 + cx x) = A (24 + cx x) then (if A (12 + cx x) = y then (-3, A) else (A (12 + cx x), hnd A (cx x) y)) else (-2, A)) else (-1, A)
def lenP (A : Nat → Int32) (hc tc : Nat) (x y : Int32) : Ac := if isI tc x && isI hc y then (if A (24 + cx x) = -1 then (-2, A) else if A (24 + cx x) = y then (-3, A) else (A (24 + cx x), upd A (24 + cx x) y)) else (-1, A)
def claP (A mu mn : Nat → Int32) (hc tc kc lm : Nat) (x y : Int32) : Ac := if isI tc x && isI hc y then (if A (12 + cx x) = -1 then (-2, A) else if A (12 + cx x) = y then (-3, A) else if A (24 + cx x) = y then (-3, A) else if bb A mu mn tc kc lm (kp (fun t => A (24 + t)) tc (A (24 + cx x))) &&& sb (fun k => io (A (cx x)) (mu k) (mn k)) kc = 0 then (-4, A) else (A (12 + cx x), hnd A (cx x) y)) else (-1, A)
def paiP (A : Nat → Int32) (tc : Nat) (x y : Int32) : Ac := if isI tc x && isI 6 y then (A (cx x) ^^^ nI (2 ^ cx y), upd A (cx x) (A (cx x) ^^^ nI (2 ^ cx y))) else (-1, A)
/-- what an act leaves: refused, or a good state -/
def AcO (A : Nat → Int32) (hc tc B : Nat) (r : Ac) : Prop := (r.1 < 0 ∧ r.2 = A) ∨ (0 ≤ r.1 ∧ ¬ r.1 < 0 ∧ WS r.2 hc tc B)
theorem ng_1 : (-1 : Int32) < 0 := by decide
theorem ng_2 : (-2 : Int32) < 0 := by decide
theorem ng_3 : (-3 : Int32) < 0 := by decide
theorem ng_4 : (-4 : Int32) < 0 := by decide
theorem hs_ge {hc : Nat} {v : Int32} (hh : hc ≤ 5) (h : hs hc v) (hn : ¬ v = -1) : 0 ≤ v ∧ ¬ v < 0 := by
  rcases h with h | ⟨j, hj, rfl⟩
  · exact absurd h hn
  · exact ⟨nI_le (a := 0) (by omega) (by omega), nI_pos (by omega)⟩
theorem nI_m1 {j : Nat} (h : j < 2 ^ 31) : ¬ nI j = -1 := fun z => by
  have := nI_toInt h
  rw [z] at this
  have e : (-1 : Int32).toInt = -1 := rfl
  omega
theorem hnd_ws {A : Nat → Int32} {hc tc B t j : Nat} (h : WS A hc tc B) (ht : t < tc) (b2 : tc ≤ 12) (hj : j < hc) (b1 : hc ≤ 5) : WS (hnd A t (nI j)) hc tc B := by
  obtain ⟨h1, h2, r, h3, h4⟩ := h
  unfold hnd
  refine ⟨fun u hu => ?_, fun x hx => ?_, r, h3, ?_⟩
  · obtain ⟨v1, v2, v3, v4⟩ := h1 u hu
    rw [pk_un (j := u) (by omega), pk_un (j := u) (by omega), pk_un (j := 12 + u) (by omega)]
    by_cases z : u = t
    · subst z
      rw [pk_us, pk_us]
      exact ⟨v1, Or.inr ⟨j, hj, rfl⟩, Or.inr ⟨j, hj, rfl⟩, Iff.rfl⟩
    · rw [pk_un (by omega), pk_un (by omega), pk_un (by omega)]
      exact ⟨v1, v2, v3, v4⟩
  · rw [pk_un (by omega), pk_un (by omega)]
    exact h2 x hx
  · rw [pk_un (by omega), pk_un (by omega)]
    exact h4
section ACO
variable {A mu mn : Nat → Int32} {hc tc kc lm B : Nat}
theorem givP_o (h : WS A hc tc B) (b1 : hc ≤ 5) (b2 : tc ≤ 12) (x y : Int32) : AcO A hc tc B (givP A hc tc x y) := by
  unfold givP
  split
  next c =>
    rw [Bool.and_eq_true] at c
    obtain ⟨t, ht, rfl⟩ : ∃ j, j < tc ∧ x = nI j := by
      rcases ix_n (n := tc) (by omega) x with h | h
      · exact h
      · rw [isI_n (by omega) h] at c; cases c.1
    obtain ⟨j, hj, rfl⟩ : ∃ j, j < hc ∧ y = nI j := by
      rcases ix_n (n := hc) (by omega) y with h | h
      · exact h
      · rw [isI_n (by omega) h] at c; cases c.2
    rw [cx_n (by omega)]
    split
    · exact Or.inl ⟨by first | exact ng_1 | exact ng_2 | exact ng_3 | exact ng_4, rfl⟩
    next n1 =>
      split
      · split
        · exact Or.inl ⟨by first | exact ng_1 | exact ng_2 | exact ng_3 | exact ng_4, rfl⟩
        · have := hs_ge b1 (h.1 t ht).2.1 n1
          exact Or.inr ⟨this.1, this.2, hnd_ws h ht b2 hj b1⟩
      · exact Or.inl ⟨by first | exact ng_1 | exact ng_2 | exact ng_3 | exact ng_4, rfl⟩
  · exact Or.inl ⟨by first | exact ng_1 | exact ng_2 | exact ng_3 | exact ng_4, rfl⟩
theorem lenP_o (h : WS A hc tc B) (b1 : hc ≤ 5) (b2 : tc ≤ 12) (x y : Int32) : AcO A hc tc B (lenP A hc tc x y) := by
  unfold lenP
  split
  next c =>
    rw [Bool.and_eq_true] at c
    obtain ⟨t, ht, rfl⟩ : ∃ j, j < tc ∧ x = nI j := by
      rcases ix_n (n := tc) (by omega) x with h | h
      · exact h
      · rw [isI_n (by omega) h] at c; cases c.1
    obtain ⟨j, hj, rfl⟩ : ∃ j, j < hc ∧ y = nI j := by
      rcases ix_n (n := hc) (by omega) y with h | h
      · exact h
      · rw [isI_n (by omega) h] at c; cases c.2
    rw [cx_n (by omega)]
    split
    · exact Or.inl ⟨by first | exact ng_1 | exact ng_2 | exact ng_3 | exact ng_4, rfl⟩
    next n1 =>
      split
      · exact Or.inl ⟨by first | exact ng_1 | exact ng_2 | exact ng_3 | exact ng_4, rfl⟩
      · have := hs_ge b1 (h.1 t ht).2.2.1 n1
        refine Or.inr ⟨this.1, this.2, ?_⟩
        show WS (upd A (24 + t) (nI j)) hc tc B
        obtain ⟨h1, h2, r, h3, h4⟩ := h
        refine ⟨fun u hu => ?_, fun x hx => ?_, r, h3, ?_⟩
        · obtain ⟨v1, v2, v3, v4⟩ := h1 u hu
          rw [pk_un (j := u) (by omega), pk_un (j := 12 + u) (by omega)]
          by_cases z : u = t
          · subst z
            rw [pk_us]
            refine ⟨v1, v2, Or.inr ⟨j, hj, rfl⟩, fun z => absurd (v4.mp z) n1, fun z => absurd z (nI_m1 (by omega))⟩
          · rw [pk_un (by omega)]
            exact ⟨v1, v2, v3, v4⟩
        · rw [pk_un (by omega)]
          exact h2 x hx
        · rw [pk_un (by omega)]
          exact h4
  · exact Or.inl ⟨by first | exact ng_1 | exact ng_2 | exact ng_3 | exact ng_4, rfl⟩
theorem claP_o (h : WS A hc tc B) (b1 : hc ≤ 5) (b2 : tc ≤ 12) (x y : Int32) : AcO A hc tc B (claP A mu mn hc tc kc lm x y) := by
  unfold claP
  split
  next c =>
    rw [Bool.and_eq_true] at c
    obtain ⟨t, ht, rfl⟩ : ∃ j, j < tc ∧ x = nI j := by
      rcases ix_n (n := tc) (by omega) x with h | h
      · exact h
      · rw [isI_n (by omega) h] at c; cases c.1
    obtain ⟨j, hj, rfl⟩ : ∃ j, j < hc ∧ y = nI j := by
      rcases ix_n (n := hc) (by omega) y with h | h
      · exact h
      · rw [isI_n (by omega) h] at c; cases c.2
    rw [cx_n (by omega)]
    split
    · exact Or.inl ⟨by first | exact ng_1 | exact ng_2 | exact ng_3 | exact ng_4, rfl⟩
    next n1 =>
      split
      · exact Or.inl ⟨by first | exact ng_1 | exact ng_2 | exact ng_3 | exact ng_4, rfl⟩
      · split
        · exact Or.inl ⟨by first | exact ng_1 | exact ng_2 | exact ng_3 | exact ng_4, rfl⟩
        · split
          · exact Or.inl ⟨by first | exact ng_1 | exact ng_2 | exact ng_3 | exact ng_4, rfl⟩
          · have := hs_ge b1 (h.1 t ht).2.1 n1
            exact Or.inr ⟨this.1, this.2, hnd_ws h ht b2 hj b1⟩
  · exact Or.inl ⟨by first | exact ng_1 | exact ng_2 | exact ng_3 | exact ng_4, rfl⟩
theorem paiP_o (h : WS A hc tc B) (b1 : hc ≤ 5) (b2 : tc ≤ 12) (x y : Int32) : AcO A hc tc B (paiP A tc x y) := by
  unfold paiP
  split
  next c =>
    rw [Bool.and_eq_true] at c
    obtain ⟨t, ht, rfl⟩ : ∃ j, j < tc ∧ x = nI j := by
      rcases ix_n (n := tc) (by omega) x with h | h
      · exact h
      · rw [isI_n (by omega) h] at c; cases c.1
    obtain ⟨j, hj, rfl⟩ : ∃ j, j < 6 ∧ y = nI j := by
      rcases ix_n (n := 6) (by omega) y with h | h
      · exact h
      · rw [isI_n (by omega) h] at c; cases c.2
    rw [cx_n (by omega), cx_n (by omega)]
    obtain ⟨⟨w, hw, ew⟩, -⟩ := h.1 t ht
    have hp : 2 ^ j < 2 ^ 6 := Nat.pow_lt_pow_right (by decide) hj
    have hx : w ^^^ 2 ^ j < 2 ^ 6 := Nat.xor_lt_two_pow (n := 6) hw hp
    rw [ew, i_xor]
    refine Or.inr ⟨nI_le (a := 0) (by omega) (by omega), nI_pos (by omega), ?_⟩
    show WS (upd A t (nI (w ^^^ 2 ^ j))) hc tc B
    obtain ⟨h1, h2, r, h3, h4⟩ := h
    refine ⟨fun u hu => ?_, fun x hx => ?_, r, h3, ?_⟩
    · obtain ⟨v1, v2, v3, v4⟩ := h1 u hu
      rw [pk_un (j := 24 + u) (by omega), pk_un (j := 12 + u) (by omega)]
      by_cases z : u = t
      · subst z
        rw [pk_us]
        exact ⟨⟨_, hx, rfl⟩, v2, v3, v4⟩
      · rw [pk_un z]
        exact ⟨v1, v2, v3, v4⟩
    · rw [pk_un (by omega)]
      exact h2 x hx
    · rw [pk_un (by omega)]
      exact h4
  · exact Or.inl ⟨by first | exact ng_1 | exact ng_2 | exact ng_3 | exact ng_4, rfl⟩
end ACO
/-! the class -/
def XA (μ ν : Mem) (A' mu mn : Nat → Int32) (hc tc kc lm : Nat) : Prop := Xc ν A' mu mn hc tc kc lm ∧ Sm [2, 3, 4, 5, 6, 9, 10, 19] μ ν ∧ ν.2 = μ.2
section XACT
variable {κ : Kp} {μ ν : Mem} {A mu mn : Nat → Int32} {hc tc kc lm B : Nat}
theorem XA.rf (h : Xc μ A mu mn hc tc kc lm) : XA μ μ A mu mn hc tc kc lm := ⟨h, Sm.rf, rfl⟩
theorem Sm.tr {l : List Nat} {μ ν ξ : Mem} (h : Sm l μ ν) (h2 : Sm l ν ξ) : Sm l μ ξ := fun a ha => (h2 a ha).trans (h a ha)
theorem XA.tr {ξ : Mem} {A' A'' : Nat → Int32} (h : XA μ ν A' mu mn hc tc kc lm) (h2 : XA ν ξ A'' mu mn hc tc kc lm) : XA μ ξ A'' mu mn hc tc kc lm := ⟨h2.1, h.2.1.tr h2.2.1, h2.2.2.trans h.2.2⟩
theorem Xc.cA {A' : Nat → Int32} (h : Xc μ A mu mn hc tc kc lm) (e : ∀ q, q < 42 → A' q = A q) : Xc μ A' mu mn hc tc kc lm := by
  have b2 := h.b2
  obtain ⟨h1, h2, h3, h4⟩ := h
  have h2' : StA μ.1 2 A := h2
  exact ⟨h1, h2'.cA e, h3, h4.cA (fun t ht => e t (by omega))⟩
theorem hand_xa (h : Xc μ A mu mn hc tc kc lm) {t : Nat} (ht : t < 12) (y : Int32) : XA μ (upI (upI μ 3 t y) 4 t y) (hnd A t y) mu mn hc tc kc lm := by
  have b2 := h.b2
  obtain ⟨h1, ⟨s1, s2, s3⟩, h3, h4⟩ := h
  refine ⟨⟨h1.cg rfl, ⟨fun u hu => ?_, fun x hx => ?_, ?_⟩, h3.cg rfl rfl, ?_⟩, (Sm.rf.up rfl).up rfl, rfl⟩
  · obtain ⟨v1, v2, v3⟩ := s1 u hu
    unfold hnd
    rw [pk_un (j := u) (by omega), pk_un (j := u) (by omega), pk_un (j := 12 + u) (by omega)]
    refine ⟨v1, ?_, ?_⟩
    · show upd (μ.1 3) t y u = _
      by_cases z : u = t
      · subst z; rw [pk_us, pk_us]
      · rw [pk_un z, pk_un (by omega)]; exact v2
    · show upd (μ.1 4) t y u = _
      by_cases z : u = t
      · subst z; rw [pk_us, pk_us]
      · rw [pk_un z, pk_un (by omega), pk_un (by omega)]; exact v3
  · unfold hnd
    rw [pk_un (by omega), pk_un (by omega)]
    exact s2 x hx
  · unfold hnd
    rw [pk_un (by omega), pk_un (by omega)]
    exact s3
  · have h4' : SoX (upI (upI μ 3 t y) 4 t y).1 A mu mn tc kc := h4
    exact h4'.cA (fun u hu => by unfold hnd; rw [pk_un (by omega), pk_un (by omega)])
theorem x_hand {t : Nat} (ht : t < 12) (y : Int32) : F_X10_hand 1 (nI t) y (hp κ μ) = some (hp κ (upI (upI μ 3 t y) 4 t y)) := by
  unfold F_X10_hand
  rw [if_pos q1, g1_0, obs, g2_0, obs, w3 ht, obs, g1_0, obs, g2_1, obs, w4 ht, obs]
theorem C_given (h : Xc μ A mu mn hc tc kc lm) (x y : Int32) : ∃ ν, F_X10_given 1 x y (hp κ μ) = some ((givP A hc tc x y).1, hp κ ν) ∧ XA μ ν (givP A hc tc x y).2 mu mn hc tc kc lm := by
  have b1 := h.b1
  have b2 := h.b2
  unfold F_X10_given givP
  rcases ix_n (n := tc) (by omega) x with ⟨t, ht, rfl⟩ | hx
  · rcases ix_n (n := hc) (by omega) y with ⟨j, hj, rfl⟩ | hy
    · simp only [if_pos q1, C_hasThing1 h ht, C_hasHouse1 h hj, obs, show ¬ (1 : Int32) = 0 by decide, ↓reduceIte, isI_y ht (show tc ≤ 5000 by omega), isI_y hj (show hc ≤ 5000 by omega), Bool.and_self, cx_n (show t < 2 ^ 31 by omega), g1_0, g2_0, r3 (show t < 12 by omega), (h.2.1.1 t (by omega)).2.1, C_isLent h (show t < 12 by omega), x_hand (show t < 12 by omega)]
      by_cases c1 : A (12 + t) = -1
      · simp only [c1, ↓reduceIte]
        exact ⟨μ, rfl, XA.rf h⟩
      · by_cases c2 : A (12 + t) = A (24 + t)
        · by_cases c3 : A (12 + t) = nI j
          · have n1 : ¬ nI j = -1 := nI_m1 (by omega)
            rw [c3] at c2
            simp only [c3, n1, ← c2, ↓reduceIte]
            exact ⟨μ, rfl, XA.rf h⟩
          · simp only [c1, c3, if_pos c2, ↓reduceIte]
            exact ⟨_, rfl, hand_xa h (by omega) _⟩
        · simp only [c1, if_neg c2, ↓reduceIte, show ¬ (1 : Int32) = 0 by decide]
          exact ⟨μ, rfl, XA.rf h⟩
    · simp only [if_pos q1, C_hasThing1 h ht, C_hasHouse0 h hy, obs, show ¬ (1 : Int32) = 0 by decide, ↓reduceIte, isI_n (show hc ≤ 5000 by omega) hy, Bool.and_false, Bool.false_eq_true]
      exact ⟨μ, rfl, XA.rf h⟩
  · simp only [if_pos q1, C_hasThing0 h hx, obs, ↓reduceIte, isI_n (show tc ≤ 5000 by omega) hx, Bool.false_and, Bool.false_eq_true]
    exact ⟨μ, rfl, XA.rf h⟩
theorem C_lent (h : Xc μ A mu mn hc tc kc lm) (x y : Int32) : ∃ ν, F_X10_lent 1 x y (hp κ μ) = some ((lenP A hc tc x y).1, hp κ ν) ∧ XA μ ν (lenP A hc tc x y).2 mu mn hc tc kc lm := by
  have b1 := h.b1
  have b2 := h.b2
  unfold F_X10_lent lenP
  rcases ix_n (n := tc) (by omega) x with ⟨t, ht, rfl⟩ | hx
  · rcases ix_n (n := hc) (by omega) y with ⟨j, hj, rfl⟩ | hy
    · simp only [if_pos q1, C_hasThing1 h ht, C_hasHouse1 h hj, obs, show ¬ (1 : Int32) = 0 by decide, ↓reduceIte, isI_y ht (show tc ≤ 5000 by omega), isI_y hj (show hc ≤ 5000 by omega), Bool.and_self, cx_n (show t < 2 ^ 31 by omega), g1_0, g2_1, r4 (show t < 12 by omega), (h.2.1.1 t (by omega)).2.2, w4 (show t < 12 by omega)]
      by_cases c1 : A (24 + t) = -1
      · simp only [c1, ↓reduceIte]
        exact ⟨μ, rfl, XA.rf h⟩
      · by_cases c3 : A (24 + t) = nI j
        · have n1 : ¬ nI j = -1 := nI_m1 (by omega)
          simp only [c3, n1, ↓reduceIte]
          exact ⟨μ, rfl, XA.rf h⟩
        · simp only [c1, c3, ↓reduceIte]
          refine ⟨_, rfl, ?_⟩
          obtain ⟨h1, ⟨s1, s2, s3⟩, h3, h4⟩ := h
          refine ⟨⟨h1.cg rfl, ⟨fun u hu => ?_, fun x hx => ?_, ?_⟩, h3.cg rfl rfl, ?_⟩, Sm.rf.up rfl, rfl⟩
          · obtain ⟨v1, v2, v3⟩ := s1 u hu
            rw [pk_un (j := u) (by omega), pk_un (j := 12 + u) (by omega)]
            refine ⟨v1, v2, ?_⟩
            show upd (μ.1 4) t (nI j) u = _
            by_cases z : u = t
            · subst z; rw [pk_us, pk_us]
            · rw [pk_un z, pk_un (by omega)]; exact v3
          · rw [pk_un (by omega)]
            exact s2 x hx
          · rw [pk_un (by omega)]
            exact s3
          · have h4' : SoX (upI μ 4 t (nI j)).1 A mu mn tc kc := h4
            exact h4'.cA (fun u hu => by rw [pk_un (by omega)])
    · simp only [if_pos q1, C_hasThing1 h ht, C_hasHouse0 h hy, obs, show ¬ (1 : Int32) = 0 by decide, ↓reduceIte, isI_n (show hc ≤ 5000 by omega) hy, Bool.and_false, Bool.false_eq_true]
      exact ⟨μ, rfl, XA.rf h⟩
  · simp only [if_pos q1, C_hasThing0 h hx, obs, ↓reduceIte, isI_n (show tc ≤ 5000 by omega) hx, Bool.false_and, Bool.false_eq_true]
    exact ⟨μ, rfl, XA.rf h⟩
theorem C_claimed (h : Xc μ A mu mn hc tc kc lm) (x y : Int32) : ∃ ν, F_X10_claimed 1 x y (hp κ μ) = some ((claP A mu mn hc tc kc lm x y).1, hp κ ν) ∧ XA μ ν (claP A mu mn hc tc kc lm x y).2 mu mn hc tc kc lm := by
  have b1 := h.b1
  have b2 := h.b2
  have b3 := h.b3
  unfold F_X10_claimed claP
  rcases ix_n (n := tc) (by omega) x with ⟨t, ht, rfl⟩ | hx
  · rcases ix_n (n := hc) (by omega) y with ⟨j, hj, rfl⟩ | hy
    · have hlt : bb A mu mn tc kc lm (kp (fun t => A (24 + t)) tc (A (24 + t))) &&& sb (fun k => io (A t) (mu k) (mn k)) kc < 2 ^ 31 := by
        have := bb_lt (A := A) (mu := mu) (mn := mn) (tc := tc) (lm := lm) (s := kp (fun t => A (24 + t)) tc (A (24 + t))) b3
        exact and_l (by omega)
      simp only [if_pos q1, C_hasThing1 h ht, C_hasHouse1 h hj, obs, show ¬ (1 : Int32) = 0 by decide, ↓reduceIte, isI_y ht (show tc ≤ 5000 by omega), isI_y hj (show hc ≤ 5000 by omega), Bool.and_self, cx_n (show t < 2 ^ 31 by omega), g1_0, g2_0, g2_1, r3 (show t < 12 by omega), r4 (show t < 12 by omega), (h.2.1.1 t (by omega)).2.1, (h.2.1.1 t (by omega)).2.2, C_kept h, C_broken h (kp_lt b2), C_kindsOf h ht, i_and, i_eq0 hlt, x_hand (show t < 12 by omega)]
      by_cases c1 : A (12 + t) = -1
      · simp only [c1, ↓reduceIte]
        exact ⟨μ, rfl, XA.rf h⟩
      · by_cases c3 : A (12 + t) = nI j
        · have n1 : ¬ nI j = -1 := nI_m1 (by omega)
          simp only [c3, n1, ↓reduceIte]
          exact ⟨μ, rfl, XA.rf h⟩
        · by_cases c4 : A (24 + t) = nI j
          · simp only [c1, c3, if_pos c4, ↓reduceIte]
            exact ⟨μ, rfl, XA.rf h⟩
          · simp only [c1, c3, if_neg c4, ↓reduceIte]
            split
            · exact ⟨μ, rfl, XA.rf h⟩
            · exact ⟨_, rfl, hand_xa h (by omega) _⟩
    · simp only [if_pos q1, C_hasThing1 h ht, C_hasHouse0 h hy, obs, show ¬ (1 : Int32) = 0 by decide, ↓reduceIte, isI_n (show hc ≤ 5000 by omega) hy, Bool.and_false, Bool.false_eq_true]
      exact ⟨μ, rfl, XA.rf h⟩
  · simp only [if_pos q1, C_hasThing0 h hx, obs, ↓reduceIte, isI_n (show tc ≤ 5000 by omega) hx, Bool.false_and, Bool.false_eq_true]
    exact ⟨μ, rfl, XA.rf h⟩
theorem C_painted (h : Xc μ A mu mn hc tc kc lm) (x y : Int32) : ∃ ν, F_X10_painted 1 x y (hp κ μ) = some ((paiP A tc x y).1, hp κ ν) ∧ XA μ ν (paiP A tc x y).2 mu mn hc tc kc lm := by
  have b1 := h.b1
  have b2 := h.b2
  unfold F_X10_painted paiP
  rcases ix_n (n := tc) (by omega) x with ⟨t, ht, rfl⟩ | hx
  · rcases rng y 0 5 0 5 rfl rfl (by omega) (by omega) with ⟨j, j1, j2, rfl, c1, c2, c3, c4, c5⟩ | ⟨c1, c2, c3⟩ | ⟨c1, c2, c3, c4, c5⟩
    · have c6 : nI j < (6 : Int32) := nI_lt (b := 6) (by omega) (by decide)
      obtain ⟨h1, ⟨s1, s2, s3⟩, h3, h4⟩ := h
      have hA : ∀ u, u < tc → (upI μ 5 t (A t ^^^ nI (2 ^ j))).1 5 u = upd A t (A t ^^^ nI (2 ^ j)) u := fun u hu => by
        rw [rowI_s]
        by_cases z : u = t
        · subst z; rw [pk_us, pk_us]
        · rw [pk_un z, pk_un z]; exact (s1 u (by omega)).1
      have hsort := x_sort (κ := κ) (μ := upI μ 5 t (A t ^^^ nI (2 ^ j))) (A := upd A t (A t ^^^ nI (2 ^ j))) (h1.cg rfl) hA (h3.cg rfl rfl)
      have e9 : (srM (upI μ 5 t (A t ^^^ nI (2 ^ j))) (upd A t (A t ^^^ nI (2 ^ j))) mu mn tc kc).1 5 t = A t ^^^ nI (2 ^ j) := by
        rw [srM_n (by decide) (by decide), rowI_s, pk_us]
      simp only [if_pos q1, C_hasThing1 (κ := κ) ⟨h1, ⟨s1, s2, s3⟩, h3, h4⟩ ht, obs, show ¬ (1 : Int32) = 0 by decide, ↓reduceIte, isI_y ht (show tc ≤ 5000 by omega), isI_y (show j < 6 by omega) (show 6 ≤ 5000 by omega), Bool.and_self, cx_n (show t < 2 ^ 31 by omega), cx_n (show j < 2 ^ 31 by omega), c1, c6, g1_0, g2_2, r5 (show t < 12 by omega), (s1 t (by omega)).1, i_sh1 j (show j < 31 by omega), w5 (show t < 12 by omega), hsort, e9]
      refine ⟨_, rfl, ⟨h1.cg rfl, ⟨fun u hu => ?_, fun x hx => ?_, ?_⟩, h3.cg rfl rfl, srM_so⟩, ((Sm.rf.up rfl).up rfl).up rfl, rfl⟩
      · obtain ⟨v1, v2, v3⟩ := s1 u hu
        rw [pk_un (j := 24 + u) (by omega), pk_un (j := 12 + u) (by omega)]
        refine ⟨?_, v2, v3⟩
        show upd (μ.1 5) t (A t ^^^ nI (2 ^ j)) u = _
        by_cases z : u = t
        · subst z; rw [pk_us, pk_us]
        · rw [pk_un z, pk_un z]; exact v1
      · rw [pk_un (by omega)]
        exact s2 x hx
      · rw [pk_un (by omega)]
        exact s3
    · have n6 : isI 6 y = false := isI_n (by omega) (fun j hj z => ne_lo (A := 0) (k := j) rfl (by omega) c1 (by omega) (by omega) z)
      simp only [if_pos q1, C_hasThing1 h ht, obs, show ¬ (1 : Int32) = 0 by decide, ↓reduceIte, c1, n6, Bool.and_false, Bool.false_eq_true]
      exact ⟨μ, rfl, XA.rf h⟩
    · have n6 : isI 6 y = false := isI_n (by omega) (fun j hj z => ne_hi (B := 5) (k := j) rfl (by omega) c1 (by omega) z)
      have c6 : ¬ y < (6 : Int32) := by
        rw [fa_lt]
        rw [fa_lt] at c1
        have e1 : (5 : Int32).toInt = 5 := rfl
        have e2 : (6 : Int32).toInt = 6 := rfl
        omega
      simp only [if_pos q1, C_hasThing1 h ht, obs, show ¬ (1 : Int32) = 0 by decide, ↓reduceIte, c3, c6, n6, Bool.and_false, Bool.false_eq_true]
      exact ⟨μ, rfl, XA.rf h⟩
  · simp only [if_pos q1, C_hasThing0 h hx, obs, ↓reduceIte, isI_n (show tc ≤ 5000 by omega) hx, Bool.false_and, Bool.false_eq_true]
    exact ⟨μ, rfl, XA.rf h⟩
end XACT
