/-! PURE: a list of kinds or of things, read. -/
abbrev It : Type := Bool × Nat × Int32 × Int32
def k1 (pk : Nat → Nat) (a : Nat) : It := if (lts pk 0 6 0 a).1 = 0 then (false, (lts pk 0 6 0 a).2, 0, 0) else if pk (lts pk 0 6 0 a).2 = 33 then (if (lts pk (lts pk 0 6 0 a).1 6 0 ((lts pk 0 6 0 a).2 + 1)).1 = 0 then (false, (lts pk (lts pk 0 6 0 a).1 6 0 ((lts pk 0 6 0 a).2 + 1)).2, nI (lts pk 0 6 0 a).1, 0) else (true, (lts pk (lts pk 0 6 0 a).1 6 0 ((lts pk 0 6 0 a).2 + 1)).2, nI (lts pk 0 6 0 a).1, nI (lts pk (lts pk 0 6 0 a).1 6 0 ((lts pk 0 6 0 a).2 + 1)).1)) else (true, (lts pk 0 6 0 a).2, nI (lts pk 0 6 0 a).1, 0)
def t1 (pk : Nat → Nat) (hc a : Nat) : It := if pk (lts pk 0 6 0 a).2 = 45 then (true, (lts pk 0 6 0 a).2 + 1, nI (lts pk 0 6 0 a).1, -1) else if 48 ≤ pk (lts pk 0 6 0 a).2 ∧ pk (lts pk 0 6 0 a).2 < 48 + hc then (true, (lts pk 0 6 0 a).2 + 1, nI (lts pk 0 6 0 a).1, nI (pk (lts pk 0 6 0 a).2 - 48)) else (false, (lts pk 0 6 0 a).2, nI (lts pk 0 6 0 a).1, -1)
abbrev Il : Type := Bool × Nat × List (Int32 × Int32)
def rdl (one : Nat → It) (pk : Nat → Nat) (room : Nat) : Nat → Nat → Nat → Il
  | 0, _, a => (false, a, [])
  | n + 1, i, a => if room ≤ i then (false, a, []) else if (one a).1 = true then (if pk (one a).2.1 = 59 then ((rdl one pk room n (i + 1) ((one a).2.1 + 1)).1, (rdl one pk room n (i + 1) ((one a).2.1 + 1)).2.1, (one a).2.2 :: (rdl one pk room n (i + 1) ((one a).2.1 + 1)).2.2) else (true, (one a).2.1, [(one a).2.2])) else (false, (one a).2.1, [])
theorem rdl_s {one : Nat → It} {pk : Nat → Nat} {room n i a : Nat} : rdl one pk room (n + 1) i a = if room ≤ i then (false, a, []) else if (one a).1 = true then (if pk (one a).2.1 = 59 then ((rdl one pk room n (i + 1) ((one a).2.1 + 1)).1, (rdl one pk room n (i + 1) ((one a).2.1 + 1)).2.1, (one a).2.2 :: (rdl one pk room n (i + 1) ((one a).2.1 + 1)).2.2) else (true, (one a).2.1, [(one a).2.2])) else (false, (one a).2.1, []) := rfl
theorem k1_pos {tx : Nat → Nat} {T a : Nat} (ha : a ≤ T) : a ≤ (k1 (pkf tx T) a).2.1 ∧ (k1 (pkf tx T) a).2.1 ≤ T := by
  obtain ⟨h1, h2, h3⟩ := lts_pos (tx := tx) (T := T) (no := 0) 6 0 a ha (by decide)
  unfold k1
  split
  · exact ⟨h1, h2⟩
  · split
    next c =>
      have c3 := pk_T c (by decide)
      obtain ⟨k1, k2, k3⟩ := lts_pos (tx := tx) (T := T) (no := (lts (pkf tx T) 0 6 0 a).1) 6 0 ((lts (pkf tx T) 0 6 0 a).2 + 1) (by omega) (by decide)
      split
      · exact ⟨Nat.le_trans h1 (Nat.le_trans (Nat.le_succ _) k1), k2⟩
      · exact ⟨Nat.le_trans h1 (Nat.le_trans (Nat.le_succ _) k1), k2⟩
    · exact ⟨h1, h2⟩
theorem t1_pos {tx : Nat → Nat} {T a hc : Nat} (hh : hc ≤ 5) (ha : a ≤ T) : a ≤ (t1 (pkf tx T) hc a).2.1 ∧ (t1 (pkf tx T) hc a).2.1 ≤ T := by
  obtain ⟨h1, h2, h3⟩ := lts_pos (tx := tx) (T := T) (no := 0) 6 0 a ha (by decide)
  unfold t1
  split
  next c =>
    have c3 := pk_T c (by decide)
    exact ⟨Nat.le_trans h1 (Nat.le_succ _), c3⟩
  · split
    next c =>
      have c3 : (lts (pkf tx T) 0 6 0 a).2 < T := pk_T (c := pkf tx T (lts (pkf tx T) 0 6 0 a).2) rfl (by omega)
      exact ⟨Nat.le_trans h1 (Nat.le_succ _), c3⟩
    · exact ⟨h1, h2⟩
/-- the class's list: items behind place i -/
def kxM (μ : Mem) (a : Nat) (g f : Nat → Int32) : Mem := rowI (rowI (upI μ 11 2 (nI a)) 14 g) 15 f
section KXR
variable {κ : Kp} {μ : Mem} {T ln : Nat} {tx : Nat → Nat} {g f : Nat → Int32} {a b : Nat}
theorem kx_11 : upI (kxM μ a g f) 11 2 (nI b) = kxM μ b g f := by
  refine Prod.ext ?_ rfl
  funext z
  by_cases c1 : z = 11
  · subst c1
    show upd (upd (μ.1 11) 2 (nI a)) 2 (nI b) = upd (μ.1 11) 2 (nI b)
    rw [fa_upd_twice]
  · rw [rowI_n c1]
    by_cases c2 : z = 14
    · subst c2; rfl
    · by_cases c3 : z = 15
      · subst c3; rfl
      · unfold kxM
        rw [rowI_n c3, rowI_n c2, rowI_n c1, rowI_n c3, rowI_n c2, rowI_n c1]
theorem kx_14 {i : Nat} {v : Int32} : upI (kxM μ a g f) 14 i v = kxM μ a (upd g i v) f := by
  refine Prod.ext ?_ rfl
  funext z
  by_cases c1 : z = 14
  · subst c1; rfl
  · rw [rowI_n c1]
    by_cases c2 : z = 15
    · subst c2; rfl
    · unfold kxM
      rw [rowI_n c2, rowI_n c1, rowI_n c2, rowI_n c1]
theorem kx_15 {i : Nat} {v : Int32} : upI (kxM μ a g f) 15 i v = kxM μ a g (upd f i v) := by
  refine Prod.ext ?_ rfl
  funext z
  by_cases c1 : z = 15
  · subst c1; rfl
  · rw [rowI_n c1]
    unfold kxM
    rw [rowI_n c1, rowI_n c1]
theorem x_readsKind (h : TX μ.1 T tx) (ha : a ≤ T) {i : Nat} (hi : i < 20) : F_X8_readsKind 13 (nI i) (hp κ (kxM μ a g f)) = some (bI (k1 (pkf tx T) a).1, hp κ (kxM μ (k1 (pkf tx T) a).2.1 (upd g i (k1 (pkf tx T) a).2.2.1) (upd f i (k1 (pkf tx T) a).2.2.2))) := by
  obtain ⟨p1, p2, p3⟩ := lts_pos (tx := tx) (T := T) (no := 0) 6 0 a ha (by decide)
  have hl := x_letters (κ := κ) (ν := kxM μ a g f) (a := a) (no := 0) (T := T) (tx := tx) (by decide) h rfl ha
  have hl : F_X9_letters 11 0 (hp κ (kxM μ a g f)) = _ := hl
  unfold F_X8_readsKind k1
  generalize lts (pkf tx T) 0 6 0 a = q at hl p1 p2 p3
  have e14 : ∀ f' b', (kxM μ b' (upd g i (nI q.1)) f').1 14 i = nI q.1 := fun f' b' => pk_us
  rw [if_pos q13, g13_1, obs, g13_0, obs, hl, obs]
  (try dsimp only)
  rw [kx_11, w14 hi, obs, kx_14, g13_2, obs, w15 hi, obs, kx_15, g13_1, obs, r14 hi, obs, e14]
  by_cases c0 : q.1 = 0
  · rw [if_pos (show nI q.1 = 0 by rw [c0]; rfl), if_pos c0, c0]
    rfl
  · have ht : F_X9_takes 11 33 (hp κ (kxM μ q.2 (upd g i (nI q.1)) (upd f i 0))) = _ := x_takes (κ := κ) (ν := kxM μ q.2 (upd g i (nI q.1)) (upd f i 0)) (a := q.2) (T := T) (tx := tx) h rfl p2 (c := 33) (by decide)
    rw [if_neg (show ¬ nI q.1 = 0 from fun z => c0 ((i_eq (b := 0) (by omega) (by decide)).mp z)), if_neg c0, g13_0, obs, ht]
    by_cases c1 : pkf tx T q.2 = 33
    · have c3 := pk_T c1 (by decide)
      have hl2 := x_letters (κ := κ) (ν := kxM μ (q.2 + 1) (upd g i (nI q.1)) (upd f i 0)) (a := q.2 + 1) (no := q.1) (T := T) (tx := tx) p3 h rfl (by omega)
      obtain ⟨s1, s2, s3⟩ := lts_pos (tx := tx) (T := T) (no := q.1) 6 0 (q.2 + 1) (by omega) (by decide)
      generalize lts (pkf tx T) q.1 6 0 (q.2 + 1) = r at hl2 s1 s2 s3
      have e15 : ∀ g' b', (kxM μ b' g' (upd (upd f i 0) i (nI r.1))).1 15 i = nI r.1 := fun g' b' => pk_us
      rw [if_pos c1, if_pos c1, obs, kx_11]
      (try dsimp only)
      rw [if_neg (by decide), g13_2, obs, g13_0, obs, g13_1, obs, r14 hi, obs, e14, hl2, obs]
      (try dsimp only)
      rw [kx_11, w15 hi, obs, kx_15, g13_2, obs, r15 hi, obs, e15, fa_upd_twice]
      by_cases c2 : r.1 = 0
      · rw [if_pos (show nI r.1 = 0 by rw [c2]; rfl), if_pos c2, c2]
        rfl
      · rw [if_neg (show ¬ nI r.1 = 0 from fun z => c2 ((i_eq (b := 0) (by omega) (by decide)).mp z)), if_neg c2]
        rfl
    · rw [if_neg c1, if_neg c1, obs]
      (try dsimp only)
      rw [if_pos rfl]
      rfl
theorem kx_f39 : b_X8_readKinds_75 13 (hp κ (kxM μ a g f)) = some (-1 - nI a, hp κ (kxM μ a g f)) := by
  have e : (kxM μ a g f).1 11 2 = nI a := rfl
  unfold b_X8_readKinds_75 F_X9_fault
  rw [g13_0, obs, if_pos q11, g11_2, obs, obs, e]
/-- items i, i + 1 .. lie in the rows -/
def Its (g f : Nat → Int32) (i : Nat) (l : List (Int32 × Int32)) : Prop := ∀ k, k < l.length → g (i + k) = (l.getD k (0, 0)).1 ∧ f (i + k) = (l.getD k (0, 0)).2
theorem Its.cons {g f : Nat → Int32} {i : Nat} {x : Int32 × Int32} {l : List (Int32 × Int32)} (h1 : g i = x.1) (h2 : f i = x.2) (h : Its g f (i + 1) l) : Its g f i (x :: l) := by
  intro k hk
  cases k with
  | zero => exact ⟨h1, h2⟩
  | succ k =>
    have := h k (by simpa using hk)
    rw [show i + (k + 1) = i + 1 + k by omega]
    exact this
theorem x_kindsL (h : TX μ.1 T tx) (h1 : μ.1 11 1 = nI ln) (hl : ln ≤ 80) {room : Nat} (hr : room ≤ 12) : ∀ (n i a F : Nat) (g f : Nat → Int32), i ≤ 12 → a ≤ T → room - i < n → ∃ g' f', b_X8_readKinds_11 13 (nI room) (F + n) (nI i) (hp κ (kxM μ a g f)) = some (if (rdl (k1 (pkf tx T)) (pkf tx T) room n i a).1 = true ∧ (rdl (k1 (pkf tx T)) (pkf tx T) room n i a).2.1 = ln then nI (i + (rdl (k1 (pkf tx T)) (pkf tx T) room n i a).2.2.length) else -1 - nI (rdl (k1 (pkf tx T)) (pkf tx T) room n i a).2.1, hp κ (kxM μ (rdl (k1 (pkf tx T)) (pkf tx T) room n i a).2.1 g' f')) ∧ (∀ k, k < i → g' k = g k ∧ f' k = f k) ∧ ((rdl (k1 (pkf tx T)) (pkf tx T) room n i a).1 = true → Its g' f' i (rdl (k1 (pkf tx T)) (pkf tx T) room n i a).2.2) := by
  have hT := h.2.1
  intro n
  induction n with
  | zero => intro i a F g f _ _ hn; omega
  | succ n ih =>
    intro i a F g f hi12 ha hn
    show ∃ g' f', b_X8_readKinds_11 13 (nI room) (F + n + 1) (nI i) (hp κ (kxM μ a g f)) = _ ∧ _
    rw [rdl_s, b_X8_readKinds_11]
    by_cases c0 : room ≤ i
    · rw [if_pos (nI_le c0 (by omega)), if_pos c0, kx_f39]
      exact ⟨g, f, by rw [if_neg (fun z => nomatch z.1)], fun _ _ => ⟨rfl, rfl⟩, fun z => nomatch z⟩
    · obtain ⟨p1, p2⟩ := k1_pos (tx := tx) ha
      have hk := x_readsKind (κ := κ) (g := g) (f := f) h ha (i := i) (by omega)
      rw [if_neg (nI_ge (by omega) (by omega)), if_neg (show ¬ (20 : Int32) ≤ nI i from nI_ge (b := 20) (by omega) (by decide)), hk, obs, if_neg c0]
      (try dsimp only)
      generalize k1 (pkf tx T) a = q at p1 p2
      cases hb : q.1 with
      | false =>
        rw [if_pos (show bI false = 0 from rfl), kx_f39, if_neg (show ¬ false = true by decide)]
        exact ⟨_, _, by rw [if_neg (fun z => nomatch z.1)], fun k hk => ⟨pk_un (by omega), pk_un (by omega)⟩, fun z => nomatch z⟩
      | true =>
        have ht : F_X9_takes 11 59 (hp κ (kxM μ q.2.1 (upd g i q.2.2.1) (upd f i q.2.2.2))) = _ := x_takes (κ := κ) (ν := kxM μ q.2.1 (upd g i q.2.2.1) (upd f i q.2.2.2)) (a := q.2.1) (T := T) (tx := tx) h rfl p2 (c := 59) (by decide)
        rw [if_neg (show ¬ bI true = 0 by decide), g13_0, obs, ht, if_pos rfl]
        by_cases c1 : pkf tx T q.2.1 = 59
        · have c3 := pk_T c1 (by decide)
          obtain ⟨g', f', e1, k2, k3⟩ := ih (i + 1) (q.2.1 + 1) F (upd g i q.2.2.1) (upd f i q.2.2.2) (by omega) (by omega) (by omega)
          rw [if_pos c1, if_pos c1, obs, kx_11]
          (try dsimp only)
          rw [if_neg (by decide), nI_1, e1]
          refine ⟨g', f', ?_, fun k hk => ?_, fun hz => ?_⟩
          · rw [List.length_cons, show i + (((rdl (k1 (pkf tx T)) (pkf tx T) room n (i + 1) (q.2.1 + 1)).2.2).length + 1) = i + 1 + ((rdl (k1 (pkf tx T)) (pkf tx T) room n (i + 1) (q.2.1 + 1)).2.2).length by omega]
          · obtain ⟨r1, r2⟩ := k2 k (by omega)
            rw [r1, r2, pk_un (by omega), pk_un (by omega)]
            exact ⟨rfl, rfl⟩
          · obtain ⟨r1, r2⟩ := k2 i (by omega)
            exact Its.cons (by rw [r1, pk_us]) (by rw [r2, pk_us]) (k3 hz)
        · have m2 : (kxM μ q.2.1 (upd g i q.2.2.1) (upd f i q.2.2.2)).1 11 2 = nI q.2.1 := rfl
          have m1 : (kxM μ q.2.1 (upd g i q.2.2.1) (upd f i q.2.2.2)).1 11 1 = nI ln := h1
          rw [if_neg c1, if_neg c1, obs]
          (try dsimp only)
          rw [if_pos rfl, g13_0, obs]
          unfold F_X9_ended
          rw [if_pos q11, g11_2, obs, m2, g11_1, obs, m1]
          refine ⟨upd g i q.2.2.1, upd f i q.2.2.2, ?_, fun k hk => ⟨pk_un (by omega), pk_un (by omega)⟩, fun _ => Its.cons pk_us pk_us (fun k hk => absurd hk (Nat.not_lt_zero _))⟩
          by_cases c2 : q.2.1 = ln
          · rw [if_pos (show nI q.2.1 = nI ln by rw [c2]), obs]
            (try dsimp only)
            rw [if_neg (by decide), if_pos ⟨rfl, c2⟩, nI_1]
            rfl
          · rw [if_neg (show ¬ nI q.2.1 = nI ln from fun z => c2 ((i_eq (by omega) (by omega)).mp z)), obs]
            (try dsimp only)
            unfold F_X9_fault
            rw [if_pos rfl, g13_0, obs, if_pos q11, g11_2, obs, obs, m2, if_neg (fun z => c2 z.2)]
end KXR
