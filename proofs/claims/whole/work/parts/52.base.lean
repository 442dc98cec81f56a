/-! PURE: sets as numbers, loops. -/
theorem lpk {ρ : Type} (B : Nat → Nat → Option ρ) (K : Nat) (r : Option ρ) (hs : ∀ n k, k < K → B (n + 1) k = B n (k + 1)) (he : ∀ n, B (n + 1) K = r) : ∀ n k, k ≤ K → K - k < n → B n k = r := by
  intro n
  induction n with
  | zero => intro k _ h; omega
  | succ n ih =>
    intro k hk hn
    by_cases e : k = K
    · subst e; exact he n
    · rw [hs n k (by omega)]
      exact ih (k + 1) (by omega) (by omega)
/-- a loop that may end early -/
theorem lpx {ρ : Type} (B : Nat → Nat → Option ρ) (p : Nat → Bool) (K : Nat) (r : Nat → Option ρ) (hs : ∀ n k, k < K → p k = false → B (n + 1) k = B n (k + 1)) (hx : ∀ n k, k < K → p k = true → B (n + 1) k = r k) (he : ∀ n, B (n + 1) K = r K) : ∀ n k, k ≤ K → K - k < n → ∃ j, k ≤ j ∧ j ≤ K ∧ (∀ i, k ≤ i → i < j → p i = false) ∧ (j < K → p j = true) ∧ B n k = r j := by
  intro n
  induction n with
  | zero => intro k _ h; omega
  | succ n ih =>
    intro k hk hn
    by_cases e : k = K
    · subst e; exact ⟨k, Nat.le_refl _, Nat.le_refl _, fun i h1 h2 => absurd h1 (by omega), fun h => absurd h (Nat.lt_irrefl _), he n⟩
    · cases hp : p k with
      | true => exact ⟨k, Nat.le_refl _, hk, fun i h1 h2 => absurd h1 (by omega), fun _ => hp, hx n k (by omega) hp⟩
      | false =>
        obtain ⟨j, h1, h2, h3, h4, h5⟩ := ih (k + 1) (by omega) (by omega)
        refine ⟨j, by omega, h2, fun i g1 g2 => ?_, h4, by rw [hs n k (by omega) hp]; exact h5⟩
        by_cases e2 : i = k
        · rw [e2]; exact hp
        · exact h3 i (by omega) g2
/-- the set of those below n that have a property -/
def sb (p : Nat → Bool) : Nat → Nat
  | 0 => 0
  | n + 1 => sb p n ||| (if p n then 2 ^ n else 0)
theorem sb_bit (p : Nat → Bool) : ∀ n i, (sb p n).testBit i = (decide (i < n) && p i)
  | 0, i => by show (0 : Nat).testBit i = _; rw [Nat.zero_testBit]; simp
  | n + 1, i => by
    show (sb p n ||| (if p n then 2 ^ n else 0)).testBit i = _
    rw [Nat.testBit_or, sb_bit p n i]
    cases h : p n with
    | true =>
      rw [if_pos rfl, Nat.testBit_two_pow]
      by_cases e : n = i
      · subst e; simp [h]
      · by_cases e2 : i < n
        · simp [e2, e, Nat.lt_succ_of_lt e2]
        · have : ¬ i < n + 1 := by omega
          simp [e2, e, this]
    | false =>
      rw [if_neg (by decide), Nat.zero_testBit]
      by_cases e : i = n
      · subst e; simp [h]
      · by_cases e2 : i < n
        · simp [e2, Nat.lt_succ_of_lt e2]
        · have : ¬ i < n + 1 := by omega
          simp [e2, this]
theorem sb_lt (p : Nat → Bool) : ∀ n, sb p n < 2 ^ n
  | 0 => by show 0 < 1; decide
  | n + 1 => by
    show (sb p n ||| (if p n then 2 ^ n else 0)) < _
    refine Nat.or_lt_two_pow (Nat.lt_trans (sb_lt p n) (Nat.pow_lt_pow_right (by decide) (Nat.lt_succ_self n))) ?_
    split
    · exact Nat.pow_lt_pow_right (by decide) (Nat.lt_succ_self n)
    · exact Nat.two_pow_pos _
theorem sb_le (p : Nat → Bool) {n m : Nat} (h : n ≤ m) : sb p n < 2 ^ m := Nat.lt_of_lt_of_le (sb_lt p n) (Nat.pow_le_pow_right (by decide) h)
theorem sb_cong {p q : Nat → Bool} : ∀ {n : Nat}, (∀ k, k < n → p k = q k) → sb p n = sb q n
  | 0, _ => rfl
  | n + 1, h => by
    show (sb p n ||| (if p n then 2 ^ n else 0)) = (sb q n ||| (if q n then 2 ^ n else 0))
    rw [sb_cong (fun k hk => h k (Nat.lt_succ_of_lt hk)), h n (Nat.lt_succ_self n)]
theorem sb_s {p : Nat → Bool} {n : Nat} : sb p (n + 1) = sb p n ||| (if p n then 2 ^ n else 0) := rfl
theorem sb_t {p : Nat → Bool} {n : Nat} (h : p n = true) : sb p (n + 1) = sb p n ||| 2 ^ n := by rw [sb_s, h]; rfl
theorem sb_f {p : Nat → Bool} {n : Nat} (h : p n = false) : sb p (n + 1) = sb p n := by rw [sb_s, h]; exact Nat.or_zero _
/-- equal sets -/
theorem st_ext {a b n : Nat} (ha : a < 2 ^ n) (hb : b < 2 ^ n) (h : ∀ i, i < n → a.testBit i = b.testBit i) : a = b := by
  refine Nat.eq_of_testBit_eq (fun i => ?_)
  by_cases e : i < n
  · exact h i e
  · rw [Nat.testBit_lt_two_pow (Nat.lt_of_lt_of_le ha (Nat.pow_le_pow_right (by decide) (by omega))), Nat.testBit_lt_two_pow (Nat.lt_of_lt_of_le hb (Nat.pow_le_pow_right (by decide) (by omega)))]
/-- what is in a but not in b -/
def sd (a b : Nat) : Nat := a ^^^ (a &&& b)
theorem sd_bit (a b i : Nat) : (sd a b).testBit i = (a.testBit i && !b.testBit i) := by
  unfold sd
  rw [Nat.testBit_xor, Nat.testBit_and]
  cases a.testBit i <;> cases b.testBit i <;> rfl
theorem sd_lt {a b n : Nat} (ha : a < 2 ^ n) : sd a b < 2 ^ n := Nat.xor_lt_two_pow ha (Nat.lt_of_le_of_lt Nat.and_le_left ha)
theorem sd_or (a b : Nat) : sd a b ||| (a &&& b) = a := by
  refine Nat.eq_of_testBit_eq (fun i => ?_)
  rw [Nat.testBit_or, sd_bit, Nat.testBit_and]
  cases a.testBit i <;> cases b.testBit i <;> rfl
/-- how many -/
def cn (s : Nat) : Nat := fb_ct s.testBit 12
theorem i_and (a b : Nat) : nI a &&& nI b = nI (a &&& b) := fa_and a b
theorem i_or (a b : Nat) : nI a ||| nI b = nI (a ||| b) := fa_or a b
theorem i_xor (a b : Nat) : nI a ^^^ nI b = nI (a ^^^ b) := fb_xorI a b
theorem i_sd (a b : Nat) : nI a &&& (nI b ^^^ (-1)) = nI (sd a b) := by
  have h : ∀ x y : Int32, x &&& (y ^^^ (-1)) = x ^^^ (x &&& y) := by
    intro x y
    refine b_ext (fun i hi => ?_)
    rw [b_and, b_xor, b_xor, b_and, b_m1 i hi]
    cases bt x i <;> cases bt y i <;> rfl
  rw [h, i_and, i_xor]
  rfl
theorem i_sh1 : ∀ k, k < 31 → (1 : Int32) <<< (nI k &&& 31) = nI (2 ^ k) := by
  intro k hk
  have h := pk_shlN (n := 1) (nI k &&& 31) k (s_l k (by omega)) (by rw [Nat.one_mul]; exact Nat.lt_trans (Nat.pow_lt_pow_right (by decide) hk) (by decide))
  rw [Nat.one_mul] at h
  exact h
theorem i_shr {n k : Nat} (hn : n < 2 ^ 31) (hk : k < 32) : nI n >>> (nI k &&& 31) = nI (n / 2 ^ k) := pk_shrN hn _ k (s_l k hk)
theorem i_bit {n k : Nat} (hn : n < 2 ^ 31) (hk : k < 32) : (nI n >>> (nI k &&& 31)) &&& 1 = if n.testBit k then 1 else 0 := by
  rw [i_shr hn hk, show (1 : Int32) = nI 1 from rfl, i_and, Nat.and_one_is_mod, Nat.testBit_eq_decide_div_mod_eq]
  rcases Nat.mod_two_eq_zero_or_one (n / 2 ^ k) with h | h
  · rw [h]; rfl
  · rw [h]; rfl
theorem i_bit0 {n k : Nat} (hn : n < 2 ^ 31) (hk : k < 32) : ((nI n >>> (nI k &&& 31)) &&& 1 = 0) ↔ n.testBit k = false := by
  rw [i_bit hn hk]
  cases n.testBit k <;> decide
theorem i_bit1 {n k : Nat} (hn : n < 2 ^ 31) (hk : k < 32) : ((nI n >>> (nI k &&& 31)) &&& 1 = 1) ↔ n.testBit k = true := by
  rw [i_bit hn hk]
  cases n.testBit k <;> decide
theorem i_lit (n : Nat) : (OfNat.ofNat n : Int32) = nI n := rfl
theorem i_le {a b : Nat} (ha : a < 2 ^ 31) (hb : b < 2 ^ 31) : nI a ≤ nI b ↔ a ≤ b := nI_leI ha hb
theorem i_lt {a b : Nat} (ha : a < 2 ^ 31) (hb : b < 2 ^ 31) : nI a < nI b ↔ a < b := nI_ltI ha hb
