/-! PURE: letters, read by the class and by the reference. -/
def lts (pk : Nat → Nat) (no : Nat) : Nat → Nat → Nat → Nat × Nat
  | 0, b, a => (b, a)
  | n + 1, b, a => if 97 ≤ pk a ∧ pk a < 103 ∧ b < 2 ^ (pk a - 97) ∧ no.testBit (pk a - 97) = false then lts pk no n (b ||| 2 ^ (pk a - 97)) (a + 1) else (b, a)
theorem sh_0 : ∀ b, b < 64 → ∀ k, k < 6 → ((nI b >>> (nI k &&& 31) = 0) ↔ b < 2 ^ k) := by decide +kernel
theorem lts_s {pk : Nat → Nat} {no n b a : Nat} : lts pk no (n + 1) b a = if 97 ≤ pk a ∧ pk a < 103 ∧ b < 2 ^ (pk a - 97) ∧ no.testBit (pk a - 97) = false then lts pk no n (b ||| 2 ^ (pk a - 97)) (a + 1) else (b, a) := rfl
theorem or_64 {b k : Nat} (hb : b < 64) (hk : k < 6) : b ||| 2 ^ k < 64 := Nat.or_lt_two_pow (n := 6) hb (Nat.pow_lt_pow_right (by decide) hk)
theorem lts_pos {tx : Nat → Nat} {T no : Nat} : ∀ n b a, a ≤ T → b < 64 → a ≤ (lts (pkf tx T) no n b a).2 ∧ (lts (pkf tx T) no n b a).2 ≤ T ∧ (lts (pkf tx T) no n b a).1 < 64
  | 0, b, a, h, hb => ⟨Nat.le_refl _, h, hb⟩
  | n + 1, b, a, h, hb => by
    rw [lts_s]
    split
    next c =>
      have c3 : a < T := pk_T (c := pkf tx T a) rfl (by omega)
      obtain ⟨h1, h2, h3⟩ := lts_pos (tx := tx) (T := T) (no := no) n (b ||| 2 ^ (pkf tx T a - 97)) (a + 1) (by omega) (or_64 hb (by omega))
      exact ⟨by omega, h2, h3⟩
    · exact ⟨Nat.le_refl _, h, hb⟩
section LET
variable {κ : Kp} {T : Nat} {tx : Nat → Nat} {no : Nat}
theorem x_letL (hno : no < 64) : ∀ (n k b a : Nat) (ν : Mem), TX ν.1 T tx → ν.1 11 2 = nI a → a ≤ T → b < 64 → n + k = 6 → ∀ F, b_X9_letters_4 11 (nI no) (F + n + 1) (nI b) (nI k) (hp κ ν) = some (nI (lts (pkf tx T) no n b a).1, hp κ (upI ν 11 2 (nI (lts (pkf tx T) no n b a).2)))
  | 0, k, b, a, ν, h, ha, hT, hb, hk, F => by
    rw [b_X9_letters_4, if_pos (show (6 : Int32) ≤ nI k from nI_le (a := 6) (by omega) (by omega))]
    show some (nI b, hp κ ν) = some (nI b, hp κ (upI ν 11 2 (nI a)))
    rw [← ha, upI_id]
  | n + 1, k, b, a, ν, h, ha, hT, hb, hk, F => by
    have e : upI ν 11 2 (nI a) = ν := by rw [← ha, upI_id]
    have e0 : (0 : Int32).toInt = 0 := rfl
    show b_X9_letters_4 11 (nI no) (F + n + 1 + 1) (nI b) (nI k) (hp κ ν) = _
    rw [b_X9_letters_4, if_neg (show ¬ (6 : Int32) ≤ nI k from nI_ge (b := 6) (by omega) (by decide)), x_peek h ha hT, obs, lts_s]
    (try dsimp only)
    by_cases c3 : a < T
    · have e2 : pkf tx T a = tx a := if_pos c3
      have ht := (h.2.2 a c3).1
      rw [if_pos c3, e2]
      by_cases c1 : 97 ≤ tx a
      · have e9 : nI (tx a) - 97 = nI (tx a - 97) := pk_sub (b := 97) c1
        rw [e9, if_neg (nI_pos (by omega))]
        by_cases c2 : tx a < 103
        · rw [if_neg (show ¬ (6 : Int32) ≤ nI (tx a - 97) from nI_ge (b := 6) (by omega) (by decide))]
          have hs := sh_0 b hb (tx a - 97) (by omega)
          by_cases c4 : b < 2 ^ (tx a - 97)
          · rw [if_pos (hs.mpr c4)]
            have hi := i_bit0 (n := no) (k := tx a - 97) (by omega) (by omega)
            cases c5 : no.testBit (tx a - 97) with
            | false =>
              have ih := x_letL hno n (k + 1) (b ||| 2 ^ (tx a - 97)) (a + 1) (upI ν 11 2 (nI (a + 1))) h.up rfl (by omega) (or_64 hb (by omega)) (by omega) F
              rw [if_pos (hi.mpr c5), g11_2, obs, ha, nI_1, p11_2, obs, i_sh1 _ (by omega), i_or, nI_1, if_pos ⟨c1, c2, c4, rfl⟩, ih, upI_2]
            | true =>
              rw [if_neg (fun z => by have := hi.mp z; rw [c5] at this; cases this), if_neg (fun z => nomatch z.2.2.2), e]
          · rw [if_neg (fun z => c4 (hs.mp z)), if_neg (fun z => c4 z.2.2.1), e]
        · rw [if_pos (show (6 : Int32) ≤ nI (tx a - 97) from nI_le (a := 6) (by omega) (by omega)), if_neg (fun z => c2 z.2.1), e]
      · rw [if_pos (show nI (tx a) - 97 < 0 by rw [fa_lt, show (97 : Int32) = nI 97 from rfl, pk_sub_toInt (by omega) (by omega)]; omega), if_neg (fun z => c1 z.1), e]
    · have e2 : pkf tx T a = 999 := if_neg c3
      rw [if_neg c3, e2, if_pos (show (-1 : Int32) - 97 < 0 by decide), if_neg (by omega), e]
theorem x_letters {ν : Mem} {a : Nat} (hno : no < 64) (h : TX ν.1 T tx) (ha : ν.1 11 2 = nI a) (hT : a ≤ T) : F_X9_letters 11 (nI no) (hp κ ν) = some (nI (lts (pkf tx T) no 6 0 a).1, hp κ (upI ν 11 2 (nI (lts (pkf tx T) no 6 0 a).2))) := by
  unfold F_X9_letters
  rw [if_pos q11]
  exact x_letL hno 6 0 0 a ν h ha hT (by decide) rfl 4993
end LET
/-- a letter stands here, or one is missing -/
def ltf (pk : Nat → Nat) (ls : Nat) (q : Nat × Nat) : Prop := (97 ≤ pk q.2 ∧ pk q.2 < 103) ∨ cn q.1 < ls
section LEU
variable {κ : Kp} {ν : Mem} {m ln tp T : Nat} {tx : Nat → Nat} {no ls : Nat}
theorem cn_64 : ∀ b, b < 64 → cn b ≤ 6 := by decide +kernel
theorem y_letL (h : RD ν m ln tp T tx) (hno : no < 64) (hls : ls ≤ 1) : ∀ (n b hh a F : Nat), a ≤ T → hh ≤ 6 → b < 2 ^ hh → (hh = 0 ∨ 2 ^ (hh - 1) ≤ b) → 6 - hh ≤ n → ∃ w, b_X12_letters_5 127 (nI no) (nI ls) (F + n + 2) (nI b) (nI hh - 1) (hp κ (rdM ν a (-1))) = some (nI (lts (pkf tx T) no n b a).1, hp κ (rdM ν (lts (pkf tx T) no n b a).2 w)) ∧ ((ltf (pkf tx T) ls (lts (pkf tx T) no n b a) ∧ w = nI (lts (pkf tx T) no n b a).2) ∨ (¬ ltf (pkf tx T) ls (lts (pkf tx T) no n b a) ∧ w = -1)) := by
  have hT := h.T80
  have e0 : (0 : Int32).toInt = 0 := rfl
  have stop : ∀ (b : Nat) (l4 : Int32) (a F : Nat), ∀ r : Nat, b_X12_letters_5 127 (nI no) (nI ls) (F + 1) (nI b) l4 (hp κ (rdM ν a (nI r))) = (if nI r = -1 then b_X12_letters_5 127 (nI no) (nI ls) (F + 1) (nI b) l4 (hp κ (rdM ν a (nI r))) else some (nI b, hp κ (rdM ν a (nI r)))) := by
    intro b l4 a F r
    split
    · rfl
    next c =>
      rw [b_X12_letters_5, y_fine, obs]
      (try dsimp only)
      rw [if_neg c, if_pos rfl]
  have hend : ∀ (b hh a F : Nat), a ≤ T → b < 64 → hh ≤ 6 → (∀ k, k < 6 → pkf tx T a = 97 + k → ¬ (hh ≤ k ∧ no.testBit k = false)) → ∃ w, b_X12_letters_5 127 (nI no) (nI ls) (F + 2) (nI b) (nI hh - 1) (hp κ (rdM ν a (-1))) = some (nI b, hp κ (rdM ν a w)) ∧ ((ltf (pkf tx T) ls (b, a) ∧ w = nI a) ∨ (¬ ltf (pkf tx T) ls (b, a) ∧ w = -1)) := by
    intro b hh a F ha hb hh6 hno2
    have e1 : nI hh - 1 + 1 = nI hh := by
      rw [Int32.sub_add_cancel]
    -- a fault, here
    have flt : ∀ r5, r5 = (fun x0 x1 x2 => b_X12_letters_5 127 (nI no) (nI ls) (F + 1) x0 x1 x2) → b_X12_letters_34 r5 127 (nI no) (nI ls) (nI b) (nI hh - 1) (hp κ (rdM ν a (-1))) = some (nI b, hp κ (rdM ν a (nI a))) := by
      intro r5 hr
      subst hr
      have f65 : b_X12_letters_65 (fun x0 x1 x2 => b_X12_letters_5 127 (nI no) (nI ls) (F + 1) x0 x1 x2) 127 (nI no) (nI ls) (nI b) (nI hh - 1) (hp κ (rdM ν a (-1))) = some (nI b, hp κ (rdM ν a (nI a))) := by
        unfold b_X12_letters_65 b_X12_letters_97
        rw [g127_15, obs, rdM_a, y_fault, obs, if_pos rfl]
        (try dsimp only)
        rw [stop, if_neg (nI_m1 (by omega))]
      unfold b_X12_letters_34
      rw [y_here h ha, obs, e1]
      (try dsimp only)
      by_cases c : ∃ k, k < 6 ∧ pkf tx T a = 97 + k ∧ hh ≤ k
      · obtain ⟨k, k1, k2, k3⟩ := c
        have c3 : a < T := pk_T k2 (by omega)
        have e2 : tx a = 97 + k := (show pkf tx T a = tx a from if_pos c3).symm.trans k2
        have e9 : nI (tx a) - 97 = nI k := by
          rw [e2]
          have := pk_sub (a := 97 + k) (b := 97) (by omega)
          rw [Nat.add_sub_cancel_left] at this
          exact this
        have hbit : no.testBit k = true := by
          cases z : no.testBit k with
          | true => rfl
          | false => exact absurd ⟨k3, z⟩ (hno2 k k1 k2)
        rw [if_pos c3, e9, in_yes (nI_le k3 (by omega)) (show nI k ≤ (5 : Int32) from nI_le (b := 5) (by omega) (by decide)), obs]
        (try dsimp only)
        rw [if_neg (by decide), y_has (by omega) (by omega), obs, hbit]
        (try dsimp only)
        rw [if_pos rfl, if_neg (by decide)]
        exact f65
      · have hno3 : ¬ (nI hh ≤ (if a < T then nI (tx a) else -1) - 97 ∧ (if a < T then nI (tx a) else -1) - 97 ≤ 5) := by
          rintro ⟨z1, z2⟩
          by_cases c3 : a < T
          · have e2 : pkf tx T a = tx a := if_pos c3
            have := (h.2.2.2.2.2.2.2 a c3).1
            rw [if_pos c3, show (97 : Int32) = nI 97 from rfl, fa_le, pk_sub_toInt (by omega) (by omega)] at z1
            rw [if_pos c3, show (97 : Int32) = nI 97 from rfl, fa_le, pk_sub_toInt (by omega) (by omega)] at z2
            have e5 : (5 : Int32).toInt = 5 := rfl
            rw [nI_toInt (by omega)] at z1
            exact c ⟨tx a - 97, by omega, by omega, by omega⟩
          · rw [if_neg c3, fa_le, nI_toInt (by omega)] at z1
            have : ((-1 : Int32) - 97).toInt = -98 := rfl
            omega
        rw [in_no hno3, obs]
        (try dsimp only)
        rw [if_pos rfl]
        exact f65
    show ∃ w, b_X12_letters_5 127 (nI no) (nI ls) (F + 1 + 1) (nI b) (nI hh - 1) (hp κ (rdM ν a (-1))) = _ ∧ _
    rw [b_X12_letters_5, y_fine, obs]
    (try dsimp only)
    rw [if_pos rfl, if_neg (by decide), bc (by omega), obs]
    (try dsimp only)
    have hcn := cn_64 b hb
    by_cases c1 : cn b < ls
    · refine ⟨nI a, ?_, Or.inl ⟨Or.inr c1, rfl⟩⟩
      rw [if_pos (nI_lt c1 (by omega))]
      exact flt _ rfl
    · rw [if_neg (nI_nlt (by omega) (by omega)), y_here h ha, obs]
      (try dsimp only)
      by_cases c2 : 97 ≤ pkf tx T a ∧ pkf tx T a < 103
      · have c3 : a < T := pk_T (c := pkf tx T a) rfl (by omega)
        have e2 : pkf tx T a = tx a := if_pos c3
        have c2' := c2
        rw [e2] at c2'
        refine ⟨nI a, ?_, Or.inl ⟨Or.inl c2, rfl⟩⟩
        rw [if_pos c3, in_yes (show (97 : Int32) ≤ nI (tx a) from nI_le (a := 97) c2'.1 (by omega)) (show nI (tx a) ≤ (102 : Int32) from nI_le (b := 102) (by omega) (by decide)), obs]
        (try dsimp only)
        rw [if_neg (by decide)]
        exact flt _ rfl
      · refine ⟨-1, ?_, Or.inr ⟨fun z => by rcases z with z | z; exact c2 z; exact c1 z, rfl⟩⟩
        have hno4 : ¬ ((97 : Int32) ≤ (if a < T then nI (tx a) else -1) ∧ (if a < T then nI (tx a) else -1) ≤ (102 : Int32)) := by
          by_cases c3 : a < T
          · have e2 : pkf tx T a = tx a := if_pos c3
            have := (h.2.2.2.2.2.2.2 a c3).1
            rw [if_pos c3]
            rintro ⟨z1, z2⟩
            have z1' : 97 ≤ tx a := (i_le (a := 97) (by omega) (by omega)).mp z1
            have z2' : tx a ≤ 102 := (i_le (b := 102) (by omega) (by omega)).mp z2
            rw [e2] at c2
            omega
          · rw [if_neg c3]
            rintro ⟨z, -⟩
            exact absurd z (by decide)
        rw [in_no hno4, obs]
        (try dsimp only)
        rw [if_pos rfl]
  intro n
  induction n with
  | zero =>
    intro b hh a F ha hh6 hb1 hb2 hn
    have : hh = 6 := by omega
    subst this
    exact hend b 6 a F ha hb1 (by decide) (fun k hk _ z => by omega)
  | succ n ih =>
    intro b hh a F ha hh6 hb1 hb2 hn
    have hb64 : b < 64 := Nat.lt_of_lt_of_le hb1 (Nat.pow_le_pow_right (n := 2) (by decide) hh6)
    rw [lts_s]
    have hbk : ∀ k, k < 6 → (b < 2 ^ k ↔ hh ≤ k) := fun k hk => by
      constructor
      · intro z
        rcases hb2 with z2 | z2
        · omega
        · by_cases c : hh ≤ k
          · exact c
          · have := Nat.pow_le_pow_right (n := 2) (by decide) (show k ≤ hh - 1 by omega)
            omega
      · intro z
        exact Nat.lt_of_lt_of_le hb1 (Nat.pow_le_pow_right (by decide) z)
    by_cases c : 97 ≤ pkf tx T a ∧ pkf tx T a < 103 ∧ b < 2 ^ (pkf tx T a - 97) ∧ no.testBit (pkf tx T a - 97) = false
    · rw [if_pos c]
      obtain ⟨c1, c2, c4, c5⟩ := c
      have c3 : a < T := pk_T (c := pkf tx T a) rfl (by omega)
      have e2 : pkf tx T a = tx a := if_pos c3
      have hk := (hbk (pkf tx T a - 97) (by omega)).mp c4
      obtain ⟨w, k1, k2⟩ := ih (b ||| 2 ^ (pkf tx T a - 97)) (pkf tx T a - 97 + 1) (a + 1) F (by omega) (by omega) (Nat.or_lt_two_pow (Nat.lt_of_lt_of_le c4 (Nat.pow_le_pow_right (by decide) (by omega))) (Nat.pow_lt_pow_right (by decide) (by omega))) (Or.inr (by rw [Nat.add_sub_cancel]; exact Nat.right_le_or)) (by omega)
      refine ⟨w, ?_, k2⟩
      refine Eq.trans ?_ k1
      have e1 : nI hh - 1 + 1 = nI hh := by rw [Int32.sub_add_cancel]
      have e9 : nI (tx a) - 97 = nI (pkf tx T a - 97) := by rw [e2]; exact pk_sub (b := 97) (by omega)
      have e10 : nI (pkf tx T a - 97 + 1) - 1 = nI (pkf tx T a - 97) := pk_sub (a := pkf tx T a - 97 + 1) (b := 1) (by omega)
      have h34 : b_X12_letters_34 (fun x0 x1 x2 => b_X12_letters_5 127 (nI no) (nI ls) (F + n + 2) x0 x1 x2) 127 (nI no) (nI ls) (nI b) (nI hh - 1) (hp κ (rdM ν a (-1))) = b_X12_letters_5 127 (nI no) (nI ls) (F + n + 2) (nI (b ||| 2 ^ (pkf tx T a - 97))) (nI (pkf tx T a - 97 + 1) - 1) (hp κ (rdM ν (a + 1) (-1))) := by
        unfold b_X12_letters_34
        rw [y_here h ha, obs, e1]
        (try dsimp only)
        rw [if_pos c3, e9, in_yes (nI_le hk (by omega)) (show nI (pkf tx T a - 97) ≤ (5 : Int32) from nI_le (b := 5) (by omega) (by decide)), obs]
        (try dsimp only)
        rw [if_neg (by decide), y_has (by omega) (by omega), obs, c5]
        (try dsimp only)
        rw [if_neg (show ¬ false = true by decide), if_pos rfl, g127_15, obs, rdM_a, nI_1, p127_15, obs, rdM_15, b_X12_letters_97, i_sh1 _ (by omega), i_or, e10]
      show b_X12_letters_5 127 (nI no) (nI ls) (F + n + 2 + 1) (nI b) (nI hh - 1) (hp κ (rdM ν a (-1))) = _
      rw [b_X12_letters_5, y_fine, obs]
      (try dsimp only)
      rw [if_pos rfl, if_neg (by decide), bc (by omega), obs]
      (try dsimp only)
      by_cases c6 : nI (cn b) < nI ls
      · rw [if_pos c6]
        exact h34
      · rw [if_neg c6, y_here h ha, obs]
        (try dsimp only)
        rw [if_pos c3, in_yes (show (97 : Int32) ≤ nI (tx a) from nI_le (a := 97) (by omega) (by omega)) (show nI (tx a) ≤ (102 : Int32) from nI_le (b := 102) (by omega) (by decide)), obs]
        (try dsimp only)
        rw [if_neg (by decide)]
        exact h34
    · rw [if_neg c]
      have := hend b hh a (F + n + 1) ha hb64 hh6 (fun k hk e z => c ⟨by omega, by omega, by rw [e, Nat.add_sub_cancel_left]; exact (hbk k hk).mpr z.1, by rw [e, Nat.add_sub_cancel_left]; exact z.2⟩)
      exact this
theorem y_letters (h : RD ν m ln tp T tx) (hno : no < 64) (hls : ls ≤ 1) {a : Nat} (ha : a ≤ T) : ∃ w, F_X12_letters 127 (nI no) (nI ls) (hp κ (rdM ν a (-1))) = some (nI (lts (pkf tx T) no 6 0 a).1, hp κ (rdM ν (lts (pkf tx T) no 6 0 a).2 w)) ∧ ((ltf (pkf tx T) ls (lts (pkf tx T) no 6 0 a) ∧ w = nI (lts (pkf tx T) no 6 0 a).2) ∨ (¬ ltf (pkf tx T) ls (lts (pkf tx T) no 6 0 a) ∧ w = -1)) := by
  obtain ⟨w, h1, h2⟩ := y_letL (κ := κ) h hno hls 6 0 0 a 4992 ha (by decide) (by decide) (Or.inl rfl) (by decide)
  refine ⟨w, ?_, h2⟩
  unfold F_X12_letters
  rw [if_pos q127]
  exact h1
end LEU
