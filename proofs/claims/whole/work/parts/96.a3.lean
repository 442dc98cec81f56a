/-! PURE: the reference's reader. -/
def rdM (ν : Mem) (a : Nat) (w : Int32) : Mem := upI (upI ν 127 15 (nI a)) 127 16 w
/-- row m is read, T signs of it -/
def RD (ν : Mem) (m ln tp T : Nat) (tx : Nat → Nat) : Prop := ν.1 127 12 = nI m ∧ ((m = 131 ∧ T ≤ 80) ∨ (m = 134 ∧ T ≤ 40)) ∧ ν.1 127 13 = nI ln ∧ ν.1 127 14 = nI tp ∧ ln ≤ 80 ∧ tp ≤ 80 ∧ T = (if ln ≤ tp then ln else tp) ∧ ∀ i, i < T → tx i < 256 ∧ ν.1 m i = by8 (tx i)
theorem rdM_15 {ν : Mem} {a b : Nat} {w : Int32} : upI (rdM ν a w) 127 15 (nI b) = rdM ν b w := by
  refine Prod.ext ?_ rfl
  funext z
  show (if z = 127 then upd ((rdM ν a w).1 127) 15 (nI b) else (rdM ν a w).1 z) = (rdM ν b w).1 z
  by_cases c : z = 127
  · subst c
    rw [if_pos rfl]
    show upd (upd (upd (ν.1 127) 15 (nI a)) 16 w) 15 (nI b) = upd (upd (ν.1 127) 15 (nI b)) 16 w
    rw [fa_upd_swap _ (by decide : (16 : Nat) ≠ 15), fa_upd_twice]
  · rw [if_neg c]
    unfold rdM
    rw [rowI_n c, rowI_n c, rowI_n c, rowI_n c]
theorem rdM_16 {ν : Mem} {a : Nat} {w u : Int32} : upI (rdM ν a w) 127 16 u = rdM ν a u := by
  refine Prod.ext ?_ rfl
  funext z
  show (if z = 127 then upd ((rdM ν a w).1 127) 16 u else (rdM ν a w).1 z) = (rdM ν a u).1 z
  by_cases c : z = 127
  · subst c
    rw [if_pos rfl]
    show upd (upd (upd (ν.1 127) 15 (nI a)) 16 w) 16 u = upd (upd (ν.1 127) 15 (nI a)) 16 u
    rw [fa_upd_twice]
  · rw [if_neg c]
    unfold rdM
    rw [rowI_n c, rowI_n c, rowI_n c, rowI_n c]
theorem rdM_j {ν : Mem} {a j : Nat} {w : Int32} (h1 : j ≠ 15) (h2 : j ≠ 16) : (rdM ν a w).1 127 j = ν.1 127 j := by
  show upd (upd (ν.1 127) 15 (nI a)) 16 w j = _
  rw [pk_un h2, pk_un h1]
theorem rdM_n {ν : Mem} {a z : Nat} {w : Int32} (h : z ≠ 127) : (rdM ν a w).1 z = ν.1 z := by
  unfold rdM
  rw [rowI_n h, rowI_n h]
theorem rdM_a {ν : Mem} {a : Nat} {w : Int32} : (rdM ν a w).1 127 15 = nI a := rfl
theorem rdM_w {ν : Mem} {a : Nat} {w : Int32} : (rdM ν a w).1 127 16 = w := rfl
theorem by8_255 {c : Nat} (hc : c < 256) : by8 c &&& 255 = nI c := by
  unfold by8
  rw [bp_b, show (255 : Int32) = nI 255 from rfl, i_and]
  have := Nat.and_two_pow_sub_one_eq_mod c 8
  rw [show 2 ^ 8 - 1 = 255 from rfl] at this
  rw [this, Nat.mod_eq_of_lt hc]
section RDR
variable {κ : Kp} {ν : Mem} {m ln tp T : Nat} {tx : Nat → Nat}
theorem y_fine {a : Nat} {w : Int32} : F_X12_fine 127 (hp κ (rdM ν a w)) = some (if w = -1 then 1 else 0, hp κ (rdM ν a w)) := by
  unfold F_X12_fine
  rw [if_pos q127, g127_16, obs, rdM_w]
  split <;> rfl
theorem RD.T80 (h : RD ν m ln tp T tx) : T ≤ 80 := by
  obtain ⟨-, h2, -⟩ := h
  omega
theorem pk_T {c a : Nat} (h : pkf tx T a = c) (hc : c ≠ 999) : a < T := by
  unfold pkf at h
  split at h
  next h1 => exact h1
  · exact absurd h.symm hc
theorem y_here (h : RD ν m ln tp T tx) {a : Nat} {w : Int32} (ha : a ≤ T) : F_X12_here 127 (hp κ (rdM ν a w)) = some (if a < T then nI (tx a) else -1, hp κ (rdM ν a w)) := by
  obtain ⟨h1, h2, h3, h4, h5, h6, h7, h8⟩ := h
  unfold F_X12_here
  rw [if_pos q127, g127_15, obs, rdM_a, g127_13, obs, rdM_j (by decide) (by decide), h3]
  by_cases c1 : ln ≤ a
  · rw [if_pos (nI_le c1 (by omega)), if_neg (show ¬ a < T by split at h7 <;> omega)]
  · rw [if_neg (nI_ge (by omega) (by omega)), obs, g127_14, obs, rdM_j (by decide) (by decide), h4]
    by_cases c2 : tp ≤ a
    · rw [if_pos (nI_le c2 (by omega)), if_neg (show ¬ a < T by split at h7 <;> omega)]
    · have c3 : a < T := by split at h7 <;> omega
      obtain ⟨k1, k2⟩ := h8 a c3
      rw [if_neg (nI_ge (by omega) (by omega)), if_pos c3]
      rcases h2 with ⟨rfl, h2⟩ | ⟨rfl, h2⟩
      · rw [g127_12 (k := 131) (by rw [rdM_j (by decide) (by decide)]; exact h1) (by decide) (by decide), obs, obs, r131 (by omega), obs, rdM_n (by decide), k2, by8_255 k1]
      · rw [g127_12 (k := 134) (by rw [rdM_j (by decide) (by decide)]; exact h1) (by decide) (by decide), obs, obs, r134 (by omega), obs, rdM_n (by decide), k2, by8_255 k1]
theorem hv_eq (h : RD ν m ln tp T tx) {a c : Nat} (hc : c < 256) : ((if a < T then nI (tx a) else -1) = nI c) ↔ pkf tx T a = c := by
  unfold pkf
  by_cases c1 : a < T
  · rw [if_pos c1, if_pos c1]
    have := (h.2.2.2.2.2.2.2 a c1).1
    exact i_eq (by omega) (by omega)
  · rw [if_neg c1, if_neg c1]
    exact ⟨fun z => absurd z.symm (nI_m1 (by omega)), fun z => absurd z (by omega)⟩
theorem y_passes (h : RD ν m ln tp T tx) {a c : Nat} (ha : a ≤ T) (hc : c < 256) : F_X12_passes 127 (nI c) (hp κ (rdM ν a (-1))) = if pkf tx T a = c then some (1, hp κ (rdM ν (a + 1) (-1))) else some (0, hp κ (rdM ν a (-1))) := by
  unfold F_X12_passes
  rw [if_pos q127, y_fine, obs]
  (try dsimp only)
  rw [if_pos rfl, if_neg (by decide), y_here h ha, obs]
  (try dsimp only)
  by_cases c1 : pkf tx T a = c
  · rw [if_pos c1, if_pos ((hv_eq h hc).mpr c1), g127_15, obs, rdM_a, nI_1, p127_15, obs, rdM_15]
  · rw [if_neg c1, if_neg (fun z => c1 ((hv_eq h hc).mp z))]
theorem y_passesB {a : Nat} {w : Int32} (hw : ¬ w = -1) (c : Int32) : F_X12_passes 127 c (hp κ (rdM ν a w)) = some (0, hp κ (rdM ν a w)) := by
  unfold F_X12_passes
  rw [if_pos q127, y_fine, obs]
  (try dsimp only)
  rw [if_neg hw, if_pos rfl]
theorem y_fault {a : Nat} {w u : Int32} : F_X12_fault 127 u (hp κ (rdM ν a w)) = some (hp κ (rdM ν a (if w = -1 then u else w))) := by
  unfold F_X12_fault
  rw [if_pos q127, y_fine, obs]
  (try dsimp only)
  by_cases c : w = -1
  · rw [if_pos c, if_pos c, if_neg (by decide), p127_16, obs, rdM_16]
  · rw [if_neg c, if_neg c, if_pos rfl]
theorem y_oneOf (h : RD ν m ln tp T tx) {a c k : Nat} (ha : a ≤ T) (hk : 1 ≤ k) (hc : c + k ≤ 128) : F_X12_oneOf 127 (nI c) (nI k) (hp κ (rdM ν a (-1))) = if c ≤ pkf tx T a ∧ pkf tx T a < c + k then some (nI (pkf tx T a - c), hp κ (rdM ν (a + 1) (-1))) else some (0, hp κ (rdM ν a (nI a))) := by
  have h0 := h
  obtain ⟨h1, h2, h3, h4, h5, h6, h7, h8⟩ := h
  have e1 : nI c + nI k - 1 = nI (c + k - 1) := by
    rw [nI_add]
    exact pk_sub (a := c + k) (b := 1) (by omega)
  unfold F_X12_oneOf
  rw [if_pos q127, y_fine, obs]
  (try dsimp only)
  rw [if_pos rfl, if_neg (by decide), y_here h0 ha, obs, e1]
  (try dsimp only)
  by_cases c1 : c ≤ pkf tx T a ∧ pkf tx T a < c + k
  · have c3 : a < T := pk_T (c := pkf tx T a) rfl (by omega)
    have e2 : pkf tx T a = tx a := if_pos c3
    rw [e2] at c1
    rw [if_pos c3, in_yes (nI_le (by omega) (by omega)) (nI_le (by omega) (by omega)), obs]
    (try dsimp only)
    obtain ⟨k1, k2⟩ := h8 a c3
    have e3 : nI (a + 1) - 1 = nI a := pk_sub (a := a + 1) (b := 1) (by omega)
    have e4 : by8 (tx a) = nI (tx a) := fa_byte_small (by omega)
    rw [if_neg (by decide), e2, if_pos c1, g127_15, obs, rdM_a, nI_1, p127_15, obs, rdM_15]
    rcases h2 with ⟨rfl, h2⟩ | ⟨rfl, h2⟩
    · rw [g127_12 (k := 131) (by rw [rdM_j (by decide) (by decide)]; exact h1) (by decide) (by decide), obs, g127_15, obs, rdM_a, e3, r131 (by omega), obs, rdM_n (by decide), k2, e4, pk_sub c1.1]
    · rw [g127_12 (k := 134) (by rw [rdM_j (by decide) (by decide)]; exact h1) (by decide) (by decide), obs, g127_15, obs, rdM_a, e3, r134 (by omega), obs, rdM_n (by decide), k2, e4, pk_sub c1.1]
  · have hno : ¬ (nI c ≤ (if a < T then nI (tx a) else -1) ∧ (if a < T then nI (tx a) else -1) ≤ nI (c + k - 1)) := by
      by_cases c3 : a < T
      · have e2 : pkf tx T a = tx a := if_pos c3
        have := (h8 a c3).1
        rw [if_pos c3, i_le (by omega) (by omega), i_le (by omega) (by omega)]
        rw [e2] at c1
        omega
      · rw [if_neg c3]
        rintro ⟨z, -⟩
        rw [fa_le, nI_toInt (by omega)] at z
        have : (-1 : Int32).toInt = -1 := rfl
        omega
    rw [in_no hno, obs]
    (try dsimp only)
    rw [if_pos rfl, if_neg c1, g127_15, obs, rdM_a, y_fault, obs, if_pos rfl]
theorem rgo_s {pk : Nat → Nat} {n v a : Nat} : rgo pk (n + 1) v a = if 48 ≤ pk a ∧ pk a ≤ 57 then rgo pk n (10 * v + (pk a - 48)) (a + 1) else (v, a) := rfl
theorem y_numL (h : RD ν m ln tp T tx) {mo : Nat} (hmo : mo ≤ 3) : ∀ (n k v a : Nat), k + n = mo → a ≤ T → 1 ≤ k → ∀ f, b_X12_number_11 127 (nI mo) (f + n + 1) (nI v) (nI k) (hp κ (rdM ν a (-1))) = some (nI (rgo (pkf tx T) n v a).1, hp κ (rdM ν (rgo (pkf tx T) n v a).2 (-1)))
  | 0, k, v, a, hk, ha, h1, f => by
    have e : k = mo := by omega
    subst e
    rw [b_X12_number_11, if_pos (nI_le (Nat.le_refl _) (by omega))]
    rfl
  | n + 1, k, v, a, hk, ha, h1, f => by
    show b_X12_number_11 127 (nI mo) (f + n + 1 + 1) (nI v) (nI k) (hp κ (rdM ν a (-1))) = _
    rw [b_X12_number_11, if_neg (nI_ge (by omega) (by omega)), y_fine, obs]
    (try dsimp only)
    rw [if_pos rfl, if_neg (by decide), y_here h ha, obs, rgo_s]
    (try dsimp only)
    by_cases c1 : 48 ≤ pkf tx T a ∧ pkf tx T a ≤ 57
    · have c3 : a < T := pk_T (c := pkf tx T a) rfl (by omega)
      have e2 : pkf tx T a = tx a := if_pos c3
      have c1' := c1
      rw [e2] at c1'
      have ho := y_oneOf (κ := κ) h (a := a) (c := 48) (k := 10) ha (by decide) (by decide)
      rw [if_pos (show 48 ≤ pkf tx T a ∧ pkf tx T a < 48 + 10 by omega)] at ho
      rw [if_pos c3, in_yes (show (48 : Int32) ≤ nI (tx a) from nI_le (a := 48) c1'.1 (by omega)) (show nI (tx a) ≤ (57 : Int32) from nI_le (b := 57) c1'.2 (by decide)), obs]
      (try dsimp only)
      have ho2 : F_X12_oneOf 127 48 10 (hp κ (rdM ν a (-1))) = some (nI (pkf tx T a - 48), hp κ (rdM ν (a + 1) (-1))) := ho
      rw [if_neg (by decide), ho2, obs]
      (try dsimp only)
      have e10 : (10 : Int32) * nI v = nI (10 * v) := pk_mul 10 v
      rw [e10, nI_add, nI_1, if_pos c1]
      exact y_numL h hmo n (k + 1) _ (a + 1) (by omega) (by omega) (by omega) f
    · have hno : ¬ ((48 : Int32) ≤ (if a < T then nI (tx a) else -1) ∧ (if a < T then nI (tx a) else -1) ≤ (57 : Int32)) := by
        by_cases c3 : a < T
        · have e2 : pkf tx T a = tx a := if_pos c3
          have := (h.2.2.2.2.2.2.2 a c3).1
          rw [if_pos c3]
          rintro ⟨z1, z2⟩
          have z1' : 48 ≤ tx a := (i_le (a := 48) (by omega) (by omega)).mp z1
          have z2' : tx a ≤ 57 := (i_le (b := 57) (by omega) (by omega)).mp z2
          rw [e2] at c1
          omega
        · rw [if_neg c3]
          rintro ⟨z, -⟩
          exact absurd z (by decide)
      rw [in_no hno, obs, if_neg c1]
      rfl
theorem y_number (h : RD ν m ln tp T tx) {mo a : Nat} (hmo : mo ≤ 3) (h1 : 1 ≤ mo) (ha : a ≤ T) : F_X12_number 127 (nI mo) (hp κ (rdM ν a (-1))) = match rnm (pkf tx T) mo a with
    | some q => some (nI q.1, hp κ (rdM ν q.2 (-1)))
    | none => some (0, hp κ (rdM ν a (nI a))) := by
  have ho := y_oneOf (κ := κ) h (a := a) (c := 48) (k := 10) ha (by decide) (by decide)
  have ho2 : F_X12_oneOf 127 48 10 (hp κ (rdM ν a (-1))) = if 48 ≤ pkf tx T a ∧ pkf tx T a < 48 + 10 then some (nI (pkf tx T a - 48), hp κ (rdM ν (a + 1) (-1))) else some (0, hp κ (rdM ν a (nI a))) := ho
  have hT := h.T80
  unfold F_X12_number rnm
  rw [if_pos q127, ho2]
  by_cases c1 : 48 ≤ pkf tx T a ∧ pkf tx T a ≤ 57
  · have c3 : a < T := pk_T (c := pkf tx T a) rfl (by omega)
    rw [if_pos (by omega), if_pos c1, obs]
    have := y_numL (κ := κ) h hmo (mo - 1) 1 (pkf tx T a - 48) (a + 1) (by omega) (by omega) (by omega) (4999 - (mo - 1))
    rw [show 4999 - (mo - 1) + (mo - 1) + 1 = 5000 by omega] at this
    exact this
  · rw [if_neg (by omega), if_neg c1, obs]
    (try dsimp only)
    show b_X12_number_11 127 (nI mo) (4999 + 1) 0 1 (hp κ (rdM ν a (nI a))) = _
    rw [b_X12_number_11]
    by_cases c2 : nI mo ≤ 1
    · rw [if_pos c2]
    · rw [if_neg c2, y_fine, obs]
      (try dsimp only)
      rw [if_neg (nI_m1 (by omega)), if_pos rfl]
end RDR
