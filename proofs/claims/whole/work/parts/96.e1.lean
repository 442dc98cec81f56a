/-! PURE: a list of things, read by the class. -/
section TXR
variable {κ : Kp} {μ : Mem} {T ln hc : Nat} {tx : Nat → Nat} {g f : Nat → Int32} {a b : Nat}
theorem x_readsThing (h : TX μ.1 T tx) (ha : a ≤ T) {i : Nat} (hi : i < 20) (hh : hc ≤ 5) : F_X8_readsThing 13 (nI i) (nI hc) (hp κ (kxM μ a g f)) = some (bI (t1 (pkf tx T) hc a).1, hp κ (kxM μ (t1 (pkf tx T) hc a).2.1 (upd g i (t1 (pkf tx T) hc a).2.2.1) (upd f i (t1 (pkf tx T) hc a).2.2.2))) := by
  obtain ⟨p1, p2, p3⟩ := lts_pos (tx := tx) (T := T) (no := 0) 6 0 a ha (by decide)
  have hl := x_letters (κ := κ) (ν := kxM μ a g f) (a := a) (no := 0) (T := T) (tx := tx) (by decide) h rfl ha
  have hl : F_X9_letters 11 0 (hp κ (kxM μ a g f)) = _ := hl
  unfold F_X8_readsThing t1
  generalize lts (pkf tx T) 0 6 0 a = q at hl p1 p2 p3
  have ht : F_X9_takes 11 45 (hp κ (kxM μ q.2 (upd g i (nI q.1)) f)) = _ := x_takes (κ := κ) (ν := kxM μ q.2 (upd g i (nI q.1)) f) (a := q.2) (T := T) (tx := tx) h rfl p2 (c := 45) (by decide)
  rw [if_pos q13, g13_1, obs, g13_0, obs, hl, obs]
  (try dsimp only)
  rw [kx_11, w14 hi, obs, kx_14, g13_0, obs, ht]
  by_cases c1 : pkf tx T q.2 = 45
  · rw [if_pos c1, if_pos c1, obs, kx_11]
    (try dsimp only)
    rw [if_neg (show ¬ (1 : Int32) = 0 by decide), g13_2, obs, w15 hi, obs, kx_15]
    rfl
  · have ho : F_X9_oneOf 11 48 (nI hc) (hp κ (kxM μ q.2 (upd g i (nI q.1)) f)) = _ := x_oneOf (κ := κ) (ν := kxM μ q.2 (upd g i (nI q.1)) f) (a := q.2) (T := T) (tx := tx) h rfl p2 (c := 48) (k := hc) (by omega)
    rw [if_neg c1, if_neg c1, obs]
    (try dsimp only)
    rw [if_pos rfl, g13_2, obs, g13_0, obs, ho]
    by_cases c2 : 48 ≤ pkf tx T q.2 ∧ pkf tx T q.2 < 48 + hc
    · have e15 : ∀ g' b', (kxM μ b' g' (upd f i (nI (pkf tx T q.2 - 48)))).1 15 i = nI (pkf tx T q.2 - 48) := fun g' b' => pk_us
      rw [if_pos c2, if_pos c2, obs]
      (try dsimp only)
      rw [kx_11, w15 hi, obs, kx_15, g13_2, obs, r15 hi, obs, e15, if_neg (nI_pos (by omega))]
      rfl
    · have e15 : ∀ g' b', (kxM μ b' g' (upd f i (-1))).1 15 i = -1 := fun g' b' => pk_us
      rw [if_neg c2, if_neg c2, obs]
      (try dsimp only)
      rw [w15 hi, obs, kx_15, g13_2, obs, r15 hi, obs, e15, if_pos (by decide)]
      rfl
theorem tx_f39 : b_X8_readThings_76 13 (hp κ (kxM μ a g f)) = some (-1 - nI a, hp κ (kxM μ a g f)) := by
  have e : (kxM μ a g f).1 11 2 = nI a := rfl
  unfold b_X8_readThings_76 F_X9_fault
  rw [g13_0, obs, if_pos q11, g11_2, obs, obs, e]
theorem x_thingsL (h : TX μ.1 T tx) (h1 : μ.1 11 1 = nI ln) (hl : ln ≤ 80) {room : Nat} (hr : room ≤ 12) (hh : hc ≤ 5) : ∀ (n i a F : Nat) (g f : Nat → Int32), i ≤ 12 → a ≤ T → room - i < n → ∃ g' f', b_X8_readThings_11 13 (nI room) (nI hc) (F + n) (nI i) (hp κ (kxM μ a g f)) = some (if (rdl (t1 (pkf tx T) hc) (pkf tx T) room n i a).1 = true ∧ (rdl (t1 (pkf tx T) hc) (pkf tx T) room n i a).2.1 = ln then nI (i + (rdl (t1 (pkf tx T) hc) (pkf tx T) room n i a).2.2.length) else -1 - nI (rdl (t1 (pkf tx T) hc) (pkf tx T) room n i a).2.1, hp κ (kxM μ (rdl (t1 (pkf tx T) hc) (pkf tx T) room n i a).2.1 g' f')) ∧ (∀ k, k < i → g' k = g k ∧ f' k = f k) ∧ ((rdl (t1 (pkf tx T) hc) (pkf tx T) room n i a).1 = true → Its g' f' i (rdl (t1 (pkf tx T) hc) (pkf tx T) room n i a).2.2) := by
  have hT := h.2.1
  intro n
  induction n with
  | zero => intro i a F g f _ _ hn; omega
  | succ n ih =>
    intro i a F g f hi12 ha hn
    show ∃ g' f', b_X8_readThings_11 13 (nI room) (nI hc) (F + n + 1) (nI i) (hp κ (kxM μ a g f)) = _ ∧ _
    rw [rdl_s, b_X8_readThings_11]
    by_cases c0 : room ≤ i
    · rw [if_pos (nI_le c0 (by omega)), if_pos c0, tx_f39]
      exact ⟨g, f, by rw [if_neg (fun z => nomatch z.1)], fun _ _ => ⟨rfl, rfl⟩, fun z => nomatch z⟩
    · obtain ⟨p1, p2⟩ := t1_pos (tx := tx) hh ha
      have hk := x_readsThing (κ := κ) (g := g) (f := f) h ha (i := i) (by omega) hh
      rw [if_neg (nI_ge (by omega) (by omega)), if_neg (show ¬ (20 : Int32) ≤ nI i from nI_ge (b := 20) (by omega) (by decide)), hk, obs, if_neg c0]
      (try dsimp only)
      generalize t1 (pkf tx T) hc a = q at p1 p2
      cases hb : q.1 with
      | false =>
        rw [if_pos (show bI false = 0 from rfl), tx_f39, if_neg (show ¬ false = true by decide)]
        exact ⟨_, _, by rw [if_neg (fun z => nomatch z.1)], fun k hk => ⟨pk_un (by omega), pk_un (by omega)⟩, fun z => nomatch z⟩
      | true =>
        have ht : F_X9_takes 11 59 (hp κ (kxM μ q.2.1 (upd g i q.2.2.1) (upd f i q.2.2.2))) = _ := x_takes (κ := κ) (ν := kxM μ q.2.1 (upd g i q.2.2.1) (upd f i q.2.2.2)) (a := q.2.1) (T := T) (tx := tx) h rfl p2 (c := 59) (by decide)
        rw [if_neg (show ¬ bI true = 0 by decide), g13_0, obs, ht, if_pos rfl]
        by_cases c1 : pkf tx T q.2.1 = 59
        · have c3 := pk_T c1 (by decide)
          obtain ⟨g', f', e1, k2, k3⟩ := ih (i + 1) (q.2.1 + 1) F (upd g i q.2.2.1) (upd f i q.2.2.2) (by omega) (by omega) (by omega)
          rw [if_pos c1, if_pos c1, obs, kx_11]
          (try dsimp only)
          rw [if_neg (by decide), nI_1, e1]
          refine ⟨g', f', ?_, fun k hk => ?_, fun hz => ?_⟩
          · rw [List.length_cons, show i + (((rdl (t1 (pkf tx T) hc) (pkf tx T) room n (i + 1) (q.2.1 + 1)).2.2).length + 1) = i + 1 + ((rdl (t1 (pkf tx T) hc) (pkf tx T) room n (i + 1) (q.2.1 + 1)).2.2).length by omega]
          · obtain ⟨r1, r2⟩ := k2 k (by omega)
            rw [r1, r2, pk_un (by omega), pk_un (by omega)]
            exact ⟨rfl, rfl⟩
          · obtain ⟨r1, r2⟩ := k2 i (by omega)
            exact Its.cons (by rw [r1, pk_us]) (by rw [r2, pk_us]) (k3 hz)
        · have m2 : (kxM μ q.2.1 (upd g i q.2.2.1) (upd f i q.2.2.2)).1 11 2 = nI q.2.1 := rfl
          have m1 : (kxM μ q.2.1 (upd g i q.2.2.1) (upd f i q.2.2.2)).1 11 1 = nI ln := h1
          rw [if_neg c1, if_neg c1, obs]
          (try dsimp only)
          rw [if_pos rfl, g13_0, obs]
          unfold F_X9_ended
          rw [if_pos q11, g11_2, obs, m2, g11_1, obs, m1]
          refine ⟨upd g i q.2.2.1, upd f i q.2.2.2, ?_, fun k hk => ⟨pk_un (by omega), pk_un (by omega)⟩, fun _ => Its.cons pk_us pk_us (fun k hk => absurd hk (Nat.not_lt_zero _))⟩
          by_cases c2 : q.2.1 = ln
          · rw [if_pos (show nI q.2.1 = nI ln by rw [c2]), obs]
            (try dsimp only)
            rw [if_neg (by decide), if_pos ⟨rfl, c2⟩, nI_1]
            rfl
          · rw [if_neg (show ¬ nI q.2.1 = nI ln from fun z => c2 ((i_eq (by omega) (by omega)).mp z)), obs]
            (try dsimp only)
            unfold F_X9_fault
            rw [if_pos rfl, g13_0, obs, if_pos q11, g11_2, obs, obs, m2, if_neg (fun z => c2 z.2)]
end TXR
