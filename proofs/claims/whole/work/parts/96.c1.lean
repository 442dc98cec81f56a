/-! PURE: the class's reader of a text. -/
def TX (m : Nat → Nat → Int32) (T : Nat) (tx : Nat → Nat) : Prop := m 11 3 = nI T ∧ T ≤ 80 ∧ ∀ i, i < T → tx i < 256 ∧ m 12 i = nI (tx i)
section XRD
variable {κ : Kp} {ν : Mem} {T a : Nat} {tx : Nat → Nat}
theorem TX.up (h : TX ν.1 T tx) {v : Int32} : TX (upI ν 11 2 v).1 T tx := h
theorem x_peek (h : TX ν.1 T tx) (ha : ν.1 11 2 = nI a) (hT : a ≤ T) : F_X9_peek 11 (hp κ ν) = some (if a < T then nI (tx a) else -1, hp κ ν) := by
  obtain ⟨h1, h2, h3⟩ := h
  unfold F_X9_peek
  rw [if_pos q11, g11_2, obs, ha, if_neg (nI_pos (by omega)), obs, g11_3, obs, h1]
  by_cases c : a < T
  · rw [if_neg (nI_ge c (by omega)), g11_0, obs, obs, r12 (by omega), obs, (h3 a c).2, if_pos c]
  · rw [if_pos (nI_le (by omega) (by omega)), if_neg c]
theorem hx_eq (h : TX ν.1 T tx) {c : Nat} (hc : c < 256) : ((if a < T then nI (tx a) else -1) = nI c) ↔ pkf tx T a = c := by
  unfold pkf
  by_cases c1 : a < T
  · rw [if_pos c1, if_pos c1]
    have := (h.2.2 a c1).1
    exact i_eq (by omega) (by omega)
  · rw [if_neg c1, if_neg c1]
    exact ⟨fun z => absurd z.symm (nI_m1 (by omega)), fun z => absurd z (by omega)⟩
theorem x_step (ha : ν.1 11 2 = nI a) : F_X9_step 11 (hp κ ν) = some (hp κ (upI ν 11 2 (nI (a + 1)))) := by
  unfold F_X9_step
  rw [if_pos q11, g11_2, obs, ha, nI_1, p11_2, obs]
theorem x_takes (h : TX ν.1 T tx) (ha : ν.1 11 2 = nI a) (hT : a ≤ T) {c : Nat} (hc : c < 256) : F_X9_takes 11 (nI c) (hp κ ν) = if pkf tx T a = c then some (1, hp κ (upI ν 11 2 (nI (a + 1)))) else some (0, hp κ ν) := by
  unfold F_X9_takes
  rw [if_pos q11, x_peek h ha hT, obs]
  (try dsimp only)
  by_cases c1 : pkf tx T a = c
  · rw [if_pos c1, if_pos ((hx_eq h hc).mpr c1), g11_2, obs, ha, nI_1, p11_2, obs]
  · rw [if_neg c1, if_neg (fun z => c1 ((hx_eq h hc).mp z))]
theorem x_oneOf (h : TX ν.1 T tx) (ha : ν.1 11 2 = nI a) (hT : a ≤ T) {c k : Nat} (hc : c + k ≤ 256) : F_X9_oneOf 11 (nI c) (nI k) (hp κ ν) = if c ≤ pkf tx T a ∧ pkf tx T a < c + k then some (nI (pkf tx T a - c), hp κ (upI ν 11 2 (nI (a + 1)))) else some (-1, hp κ ν) := by
  unfold F_X9_oneOf
  rw [if_pos q11, x_peek h ha hT, obs]
  (try dsimp only)
  have e0 : (0 : Int32).toInt = 0 := rfl
  by_cases c3 : a < T
  · have e2 : pkf tx T a = tx a := if_pos c3
    have ht := (h.2.2 a c3).1
    rw [if_pos c3, e2]
    by_cases c1 : c ≤ tx a
    · rw [pk_sub c1, if_neg (nI_pos (by omega))]
      by_cases c2 : tx a < c + k
      · rw [if_pos (nI_lt (by omega) (by omega)), if_pos ⟨c1, c2⟩, g11_2, obs, ha, nI_1, p11_2, obs]
      · rw [if_neg (nI_nlt (by omega) (by omega)), if_neg (by omega)]
    · rw [if_pos (show nI (tx a) - nI c < 0 by rw [fa_lt, pk_sub_toInt (by omega) (by omega)]; omega), if_neg (by omega)]
  · have e2 : pkf tx T a = 999 := if_neg c3
    have em : (-1 : Int32).toInt = -1 := rfl
    have ec := nI_toInt (show c < 2 ^ 31 by omega)
    have hneg : (-1 : Int32) - nI c < 0 := by
      rw [fa_lt, fb_subI (by rw [em, ec]; omega) (by rw [em, ec]; omega), em, ec, e0]
      omega
    rw [if_neg c3, e2, if_pos hneg, if_neg (show ¬ (c ≤ 999 ∧ 999 < c + k) by omega)]
theorem upd_id {f : Nat → Int32} {j : Nat} : upd f j (f j) = f := by
  funext i
  by_cases c : i = j
  · subst c; rw [pk_us]
  · rw [pk_un c]
theorem upI_id {ν : Mem} {z j : Nat} : upI ν z j (ν.1 z j) = ν := by
  show rowI ν z (upd (ν.1 z) j (ν.1 z j)) = ν
  rw [upd_id, rowI_id]
theorem upI_2 {u v : Int32} : upI (upI ν 11 2 u) 11 2 v = upI ν 11 2 v := by
  show rowI (rowI ν 11 _) 11 (upd ((rowI ν 11 _).1 11) 2 v) = _
  rw [rowI_rowI, rowI_s, fa_upd_twice]
theorem x_numL {mo : Nat} (hmo : mo ≤ 3) : ∀ (n k v a : Nat) (l : Nat) (ν : Mem), TX ν.1 T tx → ν.1 11 2 = nI a → a ≤ T → k + n = mo → l < 10 → ∀ f, b_X9_number_14 11 (nI mo) (f + n + 2) (nI l) (nI v) (nI k) (hp κ ν) = some (nI (rgo (pkf tx T) n v a).1, hp κ (upI ν 11 2 (nI (rgo (pkf tx T) n v a).2)))
  | 0, k, v, a, l, ν, h, ha, hT, hk, hl, f => by
    have e : k = mo := by omega
    subst e
    rw [b_X9_number_14, if_pos (nI_le (Nat.le_refl _) (by omega))]
    show some (nI v, hp κ ν) = some (nI v, hp κ (upI ν 11 2 (nI a)))
    rw [← ha, upI_id]
  | n + 1, k, v, a, l, ν, h, ha, hT, hk, hl, f => by
    have ho : F_X9_oneOf 11 48 10 (hp κ ν) = _ := x_oneOf (κ := κ) h ha hT (c := 48) (k := 10) (by decide)
    rw [rgo_s]
    rw [show f + (n + 1) + 2 = f + n + 2 + 1 by omega, b_X9_number_14, if_neg (nI_ge (by omega) (by omega)), if_neg (nI_pos (by omega)), ho]
    by_cases c : 48 ≤ pkf tx T a ∧ pkf tx T a ≤ 57
    · have c3 : a < T := pk_T (c := pkf tx T a) rfl (by omega)
      rw [if_pos (show 48 ≤ pkf tx T a ∧ pkf tx T a < 48 + 10 by omega), obs, if_pos c]
      (try dsimp only)
      have e10 : (10 : Int32) * nI v = nI (10 * v) := pk_mul 10 v
      rw [if_pos (show (0 : Int32) ≤ nI (pkf tx T a - 48) from nI_le (a := 0) (by omega) (by omega)), b_X9_number_47, e10, nI_add, nI_1]
      have := x_numL hmo n (k + 1) (10 * v + (pkf tx T a - 48)) (a + 1) (pkf tx T a - 48) (upI ν 11 2 (nI (a + 1))) h.up rfl (by omega) (by omega) (by omega) f
      rw [upI_2] at this
      exact this
    · rw [if_neg (by omega), obs, if_neg c]
      (try dsimp only)
      rw [if_neg (by decide), b_X9_number_47, nI_1, b_X9_number_14]
      have e : upI ν 11 2 (nI a) = ν := by rw [← ha, upI_id]
      rw [e]
      by_cases c2 : nI mo ≤ nI (k + 1)
      · rw [if_pos c2]
      · rw [if_neg c2, if_pos (by decide)]
theorem x_number (h : TX ν.1 T tx) (ha : ν.1 11 2 = nI a) (hT : a ≤ T) {mo : Nat} (hmo : mo ≤ 3) (h1 : 1 ≤ mo) : F_X9_number 11 (nI mo) (hp κ ν) = match rnm (pkf tx T) mo a with
    | some q => some (nI q.1, hp κ (upI ν 11 2 (nI q.2)))
    | none => some (-1, hp κ ν) := by
  have ho : F_X9_oneOf 11 48 10 (hp κ ν) = _ := x_oneOf (κ := κ) h ha hT (c := 48) (k := 10) (by decide)
  unfold F_X9_number rnm
  rw [if_pos q11, ho]
  by_cases c : 48 ≤ pkf tx T a ∧ pkf tx T a ≤ 57
  · have c3 : a < T := pk_T (c := pkf tx T a) rfl (by omega)
    rw [if_pos (by omega), if_pos c, obs]
    have := x_numL (κ := κ) (T := T) (tx := tx) hmo (mo - 1) 1 (pkf tx T a - 48) (a + 1) (pkf tx T a - 48) (upI ν 11 2 (nI (a + 1))) h.up rfl (by omega) (by omega) (by omega) (4998 - (mo - 1))
    rw [upI_2, show 4998 - (mo - 1) + (mo - 1) + 2 = 5000 by omega] at this
    exact this
  · rw [if_neg (by omega), if_neg c, obs]
    (try dsimp only)
    show b_X9_number_14 11 (nI mo) (4999 + 1) (-1) (-1) 1 (hp κ ν) = _
    rw [b_X9_number_14]
    by_cases c2 : nI mo ≤ 1
    · rw [if_pos c2]
    · rw [if_neg c2, if_pos (by decide)]
end XRD
