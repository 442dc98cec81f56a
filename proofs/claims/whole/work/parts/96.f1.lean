/-! PURE: a day's acts, read by the class. -/
abbrev Ai : Type := Bool × Nat × Int32 × Int32 × Int32
def a1 (pk : Nat → Nat) (a : Nat) : Ai :=
  if pk a = 104 then (match rnm pk 2 (a + 1) with
    | some q => (true, q.2, 104, nI q.1, 0)
    | none => (false, a + 1, 0, 0, 0))
  else if pk a = 98 ∨ pk a = 103 ∨ pk a = 108 ∨ pk a = 99 ∨ pk a = 112 then
    (if 97 ≤ pk (a + 1) ∧ pk (a + 1) < 97 + 12 then
      (if pk a = 112 then (if 97 ≤ pk (a + 2) ∧ pk (a + 2) < 97 + 6 then (true, a + 3, 112, nI (pk (a + 1) - 97), nI (pk (a + 2) - 97)) else (false, a + 2, 0, 0, 0))
      else (if 48 ≤ pk (a + 2) ∧ pk (a + 2) < 48 + 10 then (true, a + 3, nI (pk a), nI (pk (a + 1) - 97), nI (pk (a + 2) - 48)) else (false, a + 2, 0, 0, 0)))
    else (false, a + 1, 0, 0, 0))
  else (false, a, 0, 0, 0)
abbrev Da : Type := Bool × Nat × List (Int32 × Int32 × Int32)
def rda (pk : Nat → Nat) : Nat → Nat → Da
  | 0, a => (false, a, [])
  | n + 1, a => if (a1 pk a).1 = true then (if pk (a1 pk a).2.1 = 59 then ((rda pk n ((a1 pk a).2.1 + 1)).1, (rda pk n ((a1 pk a).2.1 + 1)).2.1, (a1 pk a).2.2 :: (rda pk n ((a1 pk a).2.1 + 1)).2.2) else (true, (a1 pk a).2.1, [(a1 pk a).2.2])) else (false, (a1 pk a).2.1, [])
theorem rda_s {pk : Nat → Nat} {n a : Nat} : rda pk (n + 1) a = if (a1 pk a).1 = true then (if pk (a1 pk a).2.1 = 59 then ((rda pk n ((a1 pk a).2.1 + 1)).1, (rda pk n ((a1 pk a).2.1 + 1)).2.1, (a1 pk a).2.2 :: (rda pk n ((a1 pk a).2.1 + 1)).2.2) else (true, (a1 pk a).2.1, [(a1 pk a).2.2])) else (false, (a1 pk a).2.1, []) := rfl
theorem rnm_lt2 {pk : Nat → Nat} {a : Nat} {q : Nat × Nat} (h : rnm pk 2 a = some q) : q.1 < 100 := by
  unfold rnm at h
  split at h
  next c =>
    have h2 := rgo_lt (pk := pk) 1 (pk a - 48) (a + 1)
    have h3 : rgo pk 1 (pk a - 48) (a + 1) = q := by injection h
    rw [h3] at h2
    omega
  · cases h
/-- an act that is one -/
def AcI (x : Int32 × Int32 × Int32) : Prop := (x.1 = 104 ∧ ∃ n, n < 100 ∧ x.2.1 = nI n) ∨ (x.1 = 112 ∧ ∃ j, j < 6 ∧ x.2.2 = nI j) ∨ x.1 = 98 ∨ x.1 = 103 ∨ x.1 = 108 ∨ x.1 = 99
theorem a1_ok {tx : Nat → Nat} {T a : Nat} (ha : a ≤ T) : (a1 (pkf tx T) a).2.1 ≤ T ∧ ((a1 (pkf tx T) a).1 = true → a + 2 ≤ (a1 (pkf tx T) a).2.1 ∧ AcI (a1 (pkf tx T) a).2.2) := by
  unfold a1
  split
  next c =>
    have c3 := pk_T c (by decide)
    split
    next q hq =>
      have := rnm_pos hq (by omega)
      exact ⟨this.2, fun _ => ⟨by show a + 2 ≤ q.2; omega, Or.inl ⟨rfl, q.1, rnm_lt2 hq, rfl⟩⟩⟩
    · exact ⟨c3, fun z => nomatch z⟩
  · split
    next c =>
      have c3 : a < T := pk_T (c := pkf tx T a) rfl (by omega)
      split
      next c2 =>
        have c4 : a + 1 < T := pk_T (c := pkf tx T (a + 1)) rfl (by omega)
        split
        · split
          next c5 =>
            have c6 : a + 2 < T := pk_T (c := pkf tx T (a + 2)) rfl (by omega)
            exact ⟨c6, fun _ => ⟨by show a + 2 ≤ a + 3; omega, Or.inr (Or.inl ⟨rfl, _, by omega, rfl⟩)⟩⟩
          · exact ⟨c4, fun z => nomatch z⟩
        next c7 =>
          split
          next c5 =>
            have c6 : a + 2 < T := pk_T (c := pkf tx T (a + 2)) rfl (by omega)
            refine ⟨c6, fun _ => ⟨by show a + 2 ≤ a + 3; omega, Or.inr (Or.inr ?_)⟩⟩
            (try dsimp only)
            rcases c with c | c | c | c | c
            · rw [c]; exact Or.inl rfl
            · rw [c]; exact Or.inr (Or.inl rfl)
            · rw [c]; exact Or.inr (Or.inr (Or.inl rfl))
            · rw [c]; exact Or.inr (Or.inr (Or.inr rfl))
            · exact absurd c c7
          · exact ⟨c4, fun z => nomatch z⟩
      · exact ⟨c3, fun z => nomatch z⟩
    · exact ⟨ha, fun z => nomatch z⟩
theorem rda_ok {tx : Nat → Nat} {T : Nat} : ∀ n a, a ≤ T → (rda (pkf tx T) n a).2.1 ≤ T ∧ (rda (pkf tx T) n a).2.2.length ≤ n ∧ ∀ x, x ∈ (rda (pkf tx T) n a).2.2 → AcI x
  | 0, a, ha => ⟨ha, Nat.le_refl _, fun x hx => nomatch hx⟩
  | n + 1, a, ha => by
    obtain ⟨h1, h2⟩ := a1_ok (tx := tx) ha
    rw [rda_s]
    split
    next c =>
      have h2 := h2 c
      split
      next c1 =>
        have c3 := pk_T c1 (by decide)
        obtain ⟨k1, k2, k3⟩ := rda_ok n ((a1 (pkf tx T) a).2.1 + 1) c3
        refine ⟨k1, Nat.succ_le_succ k2, fun x hx => ?_⟩
        rcases List.mem_cons.mp hx with rfl | hx
        · exact h2.2
        · exact k3 x hx
      · refine ⟨h1, by show 1 ≤ n + 1; omega, fun x hx => ?_⟩
        rcases List.mem_cons.mp hx with rfl | hx
        · exact h2.2
        · exact nomatch hx
    · exact ⟨h1, Nat.zero_le _, fun x hx => nomatch hx⟩
/-- items i, i + 1 .. lie in the rows -/
def It3 (g f e : Nat → Int32) (i : Nat) (l : List (Int32 × Int32 × Int32)) : Prop := ∀ k, k < l.length → g (i + k) = (l.getD k (0, 0, 0)).1 ∧ f (i + k) = (l.getD k (0, 0, 0)).2.1 ∧ e (i + k) = (l.getD k (0, 0, 0)).2.2
theorem It3.cons {g f e : Nat → Int32} {i : Nat} {x : Int32 × Int32 × Int32} {l : List (Int32 × Int32 × Int32)} (h1 : g i = x.1) (h2 : f i = x.2.1) (h3 : e i = x.2.2) (h : It3 g f e (i + 1) l) : It3 g f e i (x :: l) := by
  intro k hk
  cases k with
  | zero => exact ⟨h1, h2, h3⟩
  | succ k =>
    have := h k (by simpa using hk)
    rw [show i + (k + 1) = i + 1 + k by omega]
    exact this
section DXR
variable {κ : Kp} {μ : Mem} {T ln : Nat} {tx : Nat → Nat} {g f e : Nat → Int32} {a b : Nat}
theorem dx_16 {i : Nat} {v : Int32} : upI (kxM (rowI μ 16 e) a g f) 16 i v = kxM (rowI μ 16 (upd e i v)) a g f := by
  refine Prod.ext ?_ rfl
  funext z
  by_cases c1 : z = 16
  · subst c1; rfl
  · rw [rowI_n c1]
    by_cases c2 : z = 15
    · subst c2; rfl
    · by_cases c3 : z = 14
      · subst c3; rfl
      · by_cases c4 : z = 11
        · subst c4; rfl
        · unfold kxM
          rw [rowI_n c2, rowI_n c3, rowI_n c4, rowI_n c1, rowI_n c2, rowI_n c3, rowI_n c4, rowI_n c1]
theorem x_act60 (h : TX μ.1 T tx) {i c : Nat} (hi : i < 20) (hc : pkf tx T a = c) (hcc : c = 98 ∨ c = 103 ∨ c = 108 ∨ c = 99 ∨ c = 112 ∨ c = 104) (he : e i = 0) : ∃ f' e', b_X8_readsAct_60 13 (nI i) (nI c) (hp κ (kxM (rowI μ 16 e) a g f)) = some (bI (a1 (pkf tx T) a).1, hp κ (kxM (rowI μ 16 e') (a1 (pkf tx T) a).2.1 g f')) ∧ (∀ k, k ≠ i → f' k = f k ∧ e' k = e k) ∧ ((a1 (pkf tx T) a).1 = true → nI c = (a1 (pkf tx T) a).2.2.1 ∧ f' i = (a1 (pkf tx T) a).2.2.2.1 ∧ e' i = (a1 (pkf tx T) a).2.2.2.2) := by
  have c3 : a < T := pk_T hc (by omega)
  have hT := h.2.1
  have hs : F_X9_step 11 (hp κ (kxM (rowI μ 16 e) a g f)) = _ := x_step (κ := κ) (ν := kxM (rowI μ 16 e) a g f) (a := a) rfl
  unfold b_X8_readsAct_60
  rw [g13_0, obs, hs, obs, kx_11]
  by_cases c104 : c = 104
  · have hn : F_X9_number 11 2 (hp κ (kxM (rowI μ 16 e) (a + 1) g f)) = _ := x_number (κ := κ) (ν := kxM (rowI μ 16 e) (a + 1) g f) (a := a + 1) (T := T) (tx := tx) h rfl (by omega) (mo := 2) (by decide) (by decide)
    rw [if_pos (show nI c = 104 by rw [c104]; rfl), g13_2, obs, g13_0, obs, hn]
    unfold a1
    rw [if_pos (hc.trans c104)]
    cases hr : rnm (pkf tx T) 2 (a + 1) with
    | none =>
      have e15 : (kxM (rowI μ 16 e) (a + 1) g (upd f i (-1))).1 15 i = -1 := pk_us
      (try dsimp only)
      rw [obs]
      (try dsimp only)
      rw [w15 hi, obs, kx_15, g13_2, obs, r15 hi, obs, e15, if_pos (by decide)]
      exact ⟨upd f i (-1), e, rfl, fun k hk => ⟨pk_un hk, rfl⟩, fun z => nomatch z⟩
    | some q =>
      have hq := rnm_lt2 hr
      have e15 : (kxM (rowI μ 16 e) q.2 g (upd f i (nI q.1))).1 15 i = nI q.1 := pk_us
      (try dsimp only)
      rw [obs]
      (try dsimp only)
      rw [kx_11, w15 hi, obs, kx_15, g13_2, obs, r15 hi, obs, e15, if_neg (nI_pos (by omega))]
      exact ⟨upd f i (nI q.1), e, rfl, fun k hk => ⟨pk_un hk, rfl⟩, fun _ => ⟨by rw [c104]; rfl, pk_us, he⟩⟩
  · have n104 : ¬ nI c = 104 := fun z => c104 ((i_eq (b := 104) (by omega) (by decide)).mp z)
    have ho : F_X9_oneOf 11 97 12 (hp κ (kxM (rowI μ 16 e) (a + 1) g f)) = _ := x_oneOf (κ := κ) (ν := kxM (rowI μ 16 e) (a + 1) g f) (a := a + 1) (T := T) (tx := tx) h rfl (by omega) (c := 97) (k := 12) (by decide)
    rw [if_neg n104, g13_2, obs, g13_0, obs, ho]
    unfold a1
    rw [if_neg (show ¬ pkf tx T a = 104 by omega), if_pos (show pkf tx T a = 98 ∨ pkf tx T a = 103 ∨ pkf tx T a = 108 ∨ pkf tx T a = 99 ∨ pkf tx T a = 112 by omega)]
    by_cases c1 : 97 ≤ pkf tx T (a + 1) ∧ pkf tx T (a + 1) < 97 + 12
    · have c4 : a + 1 < T := pk_T (c := pkf tx T (a + 1)) rfl (by omega)
      have e15 : (kxM (rowI μ 16 e) (a + 2) g (upd f i (nI (pkf tx T (a + 1) - 97)))).1 15 i = nI (pkf tx T (a + 1) - 97) := pk_us
      rw [if_pos c1, if_pos c1, obs]
      (try dsimp only)
      rw [kx_11, w15 hi, obs, kx_15, g13_2, obs, r15 hi, obs, e15, if_pos (show (0 : Int32) ≤ nI (pkf tx T (a + 1) - 97) from nI_le (a := 0) (by omega) (by omega)), g13_3, obs]
      by_cases c112 : c = 112
      · have ho2 : F_X9_oneOf 11 97 6 (hp κ (kxM (rowI μ 16 e) (a + 2) g (upd f i (nI (pkf tx T (a + 1) - 97))))) = _ := x_oneOf (κ := κ) (ν := kxM (rowI μ 16 e) (a + 2) g (upd f i (nI (pkf tx T (a + 1) - 97)))) (a := a + 2) (T := T) (tx := tx) h rfl (by omega) (c := 97) (k := 6) (by decide)
        rw [if_pos (show nI c = 112 by rw [c112]; rfl), g13_0, obs, ho2, if_pos (show pkf tx T a = 112 by omega)]
        by_cases c2 : 97 ≤ pkf tx T (a + 2) ∧ pkf tx T (a + 2) < 97 + 6
        · have e16 : (kxM (rowI μ 16 (upd e i (nI (pkf tx T (a + 2) - 97)))) (a + 3) g (upd f i (nI (pkf tx T (a + 1) - 97)))).1 16 i = nI (pkf tx T (a + 2) - 97) := pk_us
          unfold b_X8_readsAct_166
          rw [if_pos c2, if_pos c2, obs]
          (try dsimp only)
          rw [kx_11, w16 hi, obs, dx_16, g13_3, obs, r16 hi, obs, e16, if_neg (nI_pos (by omega))]
          exact ⟨_, _, rfl, fun k hk => ⟨pk_un hk, pk_un hk⟩, fun _ => ⟨by rw [c112]; rfl, pk_us, pk_us⟩⟩
        · have e16 : (kxM (rowI μ 16 (upd e i (-1))) (a + 2) g (upd f i (nI (pkf tx T (a + 1) - 97)))).1 16 i = -1 := pk_us
          unfold b_X8_readsAct_166
          rw [if_neg c2, if_neg c2, obs]
          (try dsimp only)
          rw [w16 hi, obs, dx_16, g13_3, obs, r16 hi, obs, e16, if_pos (by decide)]
          exact ⟨_, _, rfl, fun k hk => ⟨pk_un hk, pk_un hk⟩, fun z => nomatch z⟩
      · have n112 : ¬ nI c = 112 := fun z => c112 ((i_eq (b := 112) (by omega) (by decide)).mp z)
        have ho2 : F_X9_oneOf 11 48 10 (hp κ (kxM (rowI μ 16 e) (a + 2) g (upd f i (nI (pkf tx T (a + 1) - 97))))) = _ := x_oneOf (κ := κ) (ν := kxM (rowI μ 16 e) (a + 2) g (upd f i (nI (pkf tx T (a + 1) - 97)))) (a := a + 2) (T := T) (tx := tx) h rfl (by omega) (c := 48) (k := 10) (by decide)
        rw [if_neg n112, g13_0, obs, ho2, if_neg (show ¬ pkf tx T a = 112 by omega)]
        by_cases c2 : 48 ≤ pkf tx T (a + 2) ∧ pkf tx T (a + 2) < 48 + 10
        · have e16 : (kxM (rowI μ 16 (upd e i (nI (pkf tx T (a + 2) - 48)))) (a + 3) g (upd f i (nI (pkf tx T (a + 1) - 97)))).1 16 i = nI (pkf tx T (a + 2) - 48) := pk_us
          unfold b_X8_readsAct_166
          rw [if_pos c2, if_pos c2, obs]
          (try dsimp only)
          rw [kx_11, w16 hi, obs, dx_16, g13_3, obs, r16 hi, obs, e16, if_neg (nI_pos (by omega))]
          exact ⟨_, _, rfl, fun k hk => ⟨pk_un hk, pk_un hk⟩, fun _ => ⟨by rw [hc], pk_us, pk_us⟩⟩
        · have e16 : (kxM (rowI μ 16 (upd e i (-1))) (a + 2) g (upd f i (nI (pkf tx T (a + 1) - 97)))).1 16 i = -1 := pk_us
          unfold b_X8_readsAct_166
          rw [if_neg c2, if_neg c2, obs]
          (try dsimp only)
          rw [w16 hi, obs, dx_16, g13_3, obs, r16 hi, obs, e16, if_pos (by decide)]
          exact ⟨_, _, rfl, fun k hk => ⟨pk_un hk, pk_un hk⟩, fun z => nomatch z⟩
    · have e15 : (kxM (rowI μ 16 e) (a + 1) g (upd f i (-1))).1 15 i = -1 := pk_us
      rw [if_neg c1, if_neg c1, obs]
      (try dsimp only)
      rw [w15 hi, obs, kx_15, g13_2, obs, r15 hi, obs, e15, if_neg (by decide)]
      exact ⟨upd f i (-1), e, rfl, fun k hk => ⟨pk_un hk, rfl⟩, fun z => nomatch z⟩
theorem x_readsAct (h : TX μ.1 T tx) (ha : a ≤ T) {i : Nat} (hi : i < 20) : ∃ g' f' e', F_X8_readsAct 13 (nI i) (hp κ (kxM (rowI μ 16 e) a g f)) = some (bI (a1 (pkf tx T) a).1, hp κ (kxM (rowI μ 16 e') (a1 (pkf tx T) a).2.1 g' f')) ∧ (∀ k, k ≠ i → g' k = g k ∧ f' k = f k ∧ e' k = e k) ∧ ((a1 (pkf tx T) a).1 = true → g' i = (a1 (pkf tx T) a).2.2.1 ∧ f' i = (a1 (pkf tx T) a).2.2.2.1 ∧ e' i = (a1 (pkf tx T) a).2.2.2.2) := by
  have hpk : F_X9_peek 11 (hp κ (kxM (rowI μ 16 e) a g f)) = _ := x_peek (κ := κ) (ν := kxM (rowI μ 16 e) a g f) (a := a) (T := T) (tx := tx) h rfl ha
  have hq : ∀ c, c < 256 → (((if a < T then nI (tx a) else -1) = nI c) ↔ pkf tx T a = c) := fun c hc => hx_eq (a := a) h hc
  generalize (if a < T then nI (tx a) else -1) = v at hpk hq
  unfold F_X8_readsAct
  rw [if_pos q13, g13_0, obs, hpk, obs]
  (try dsimp only)
  rw [g13_1, obs, w14 hi, obs, kx_14, g13_3, obs, w16 hi, obs, dx_16]
  have key : ∀ c, c < 256 → (c = 98 ∨ c = 103 ∨ c = 108 ∨ c = 99 ∨ c = 112 ∨ c = 104) → v = nI c → ∃ g' f' e', b_X8_readsAct_60 13 (nI i) v (hp κ (kxM (rowI μ 16 (upd e i 0)) a (upd g i v) f)) = some (bI (a1 (pkf tx T) a).1, hp κ (kxM (rowI μ 16 e') (a1 (pkf tx T) a).2.1 g' f')) ∧ (∀ k, k ≠ i → g' k = g k ∧ f' k = f k ∧ e' k = e k) ∧ ((a1 (pkf tx T) a).1 = true → g' i = (a1 (pkf tx T) a).2.2.1 ∧ f' i = (a1 (pkf tx T) a).2.2.2.1 ∧ e' i = (a1 (pkf tx T) a).2.2.2.2) := fun c hc hcc hv => by
    subst hv
    obtain ⟨f', e', k1, k2, k3⟩ := x_act60 (κ := κ) (g := upd g i (nI c)) (f := f) (e := upd e i 0) h hi ((hq c hc).mp rfl) hcc pk_us
    refine ⟨_, f', e', k1, fun k hk => ⟨pk_un hk, (k2 k hk).1, ((k2 k hk).2).trans (pk_un hk)⟩, fun z => ⟨pk_us.trans (k3 z).1, (k3 z).2⟩⟩
  by_cases c1 : v = 98
  · rw [if_pos c1]; exact key 98 (by decide) (by omega) c1
  rw [if_neg c1]
  by_cases c2 : v = 103
  · rw [if_pos c2]; exact key 103 (by decide) (by omega) c2
  rw [if_neg c2]
  by_cases c3 : v = 108
  · rw [if_pos c3]; exact key 108 (by decide) (by omega) c3
  rw [if_neg c3]
  by_cases c4 : v = 99
  · rw [if_pos c4]; exact key 99 (by decide) (by omega) c4
  rw [if_neg c4]
  by_cases c5 : v = 112
  · rw [if_pos c5]; exact key 112 (by decide) (by omega) c5
  rw [if_neg c5]
  by_cases c6 : v = 104
  · rw [if_pos c6]; exact key 104 (by decide) (by omega) c6
  rw [if_neg c6]
  have m1 : ¬ pkf tx T a = 98 := fun z => c1 ((hq 98 (by decide)).mpr z)
  have m2 : ¬ pkf tx T a = 103 := fun z => c2 ((hq 103 (by decide)).mpr z)
  have m3 : ¬ pkf tx T a = 108 := fun z => c3 ((hq 108 (by decide)).mpr z)
  have m4 : ¬ pkf tx T a = 99 := fun z => c4 ((hq 99 (by decide)).mpr z)
  have m5 : ¬ pkf tx T a = 112 := fun z => c5 ((hq 112 (by decide)).mpr z)
  have m6 : ¬ pkf tx T a = 104 := fun z => c6 ((hq 104 (by decide)).mpr z)
  unfold a1
  rw [if_neg m6, if_neg (by omega)]
  exact ⟨_, _, _, rfl, fun k hk => ⟨pk_un hk, rfl, pk_un hk⟩, fun z => nomatch z⟩
theorem dx_f70 : b_X8_readDay_70 13 (hp κ (kxM μ a g f)) = some (-1 - nI a, hp κ (kxM μ a g f)) := by
  have e : (kxM μ a g f).1 11 2 = nI a := rfl
  unfold b_X8_readDay_70 F_X9_fault
  rw [g13_0, obs, if_pos q11, g11_2, obs, obs, e]
theorem x_dayL (h : TX μ.1 T tx) (h1 : μ.1 11 1 = nI ln) (hl : ln ≤ 80) : ∀ (n i a F : Nat) (g f e : Nat → Int32), i + n = 20 → a ≤ T → ∃ g' f' e', b_X8_readDay_11 13 (F + n + 1) (nI i) (hp κ (kxM (rowI μ 16 e) a g f)) = some (if (rda (pkf tx T) n a).1 = true ∧ (rda (pkf tx T) n a).2.1 = ln then nI (i + (rda (pkf tx T) n a).2.2.length) else -1 - nI (rda (pkf tx T) n a).2.1, hp κ (kxM (rowI μ 16 e') (rda (pkf tx T) n a).2.1 g' f')) ∧ (∀ k, k < i → g' k = g k ∧ f' k = f k ∧ e' k = e k) ∧ ((rda (pkf tx T) n a).1 = true → It3 g' f' e' i (rda (pkf tx T) n a).2.2) := by
  have hT := h.2.1
  intro n
  induction n with
  | zero =>
    intro i a F g f e hi ha
    rw [b_X8_readDay_11, if_pos (show (20 : Int32) ≤ nI i from nI_le (a := 20) (by omega) (by omega)), dx_f70]
    exact ⟨g, f, e, by rw [if_neg (fun z => nomatch z.1)]; rfl, fun _ _ => ⟨rfl, rfl, rfl⟩, fun z => nomatch z⟩
  | succ n ih =>
    intro i a F g f e hi ha
    show ∃ g' f' e', b_X8_readDay_11 13 (F + n + 1 + 1) (nI i) (hp κ (kxM (rowI μ 16 e) a g f)) = _ ∧ _
    obtain ⟨p1, p2⟩ := a1_ok (tx := tx) ha
    obtain ⟨g1, f1, e1, hk, k2, k3⟩ := x_readsAct (κ := κ) (g := g) (f := f) (e := e) h ha (i := i) (by omega)
    rw [rda_s, b_X8_readDay_11, if_neg (show ¬ (20 : Int32) ≤ nI i from nI_ge (b := 20) (by omega) (by decide)), hk, obs]
    (try dsimp only)
    generalize a1 (pkf tx T) a = q at p1 p2 k3
    cases hb : q.1 with
    | false =>
      rw [if_pos (show bI false = 0 from rfl), dx_f70, if_neg (show ¬ false = true by decide)]
      exact ⟨_, _, _, by rw [if_neg (fun z => nomatch z.1)], fun k hk => k2 k (by omega), fun z => nomatch z⟩
    | true =>
      have k3 := k3 hb
      have ht : F_X9_takes 11 59 (hp κ (kxM (rowI μ 16 e1) q.2.1 g1 f1)) = _ := x_takes (κ := κ) (ν := kxM (rowI μ 16 e1) q.2.1 g1 f1) (a := q.2.1) (T := T) (tx := tx) h rfl p1 (c := 59) (by decide)
      rw [if_neg (show ¬ bI true = 0 by decide), g13_0, obs, ht, if_pos rfl]
      by_cases c1 : pkf tx T q.2.1 = 59
      · have c3 := pk_T c1 (by decide)
        obtain ⟨g', f', e', r1, r2, r3⟩ := ih (i + 1) (q.2.1 + 1) F g1 f1 e1 (by omega) (by omega)
        rw [if_pos c1, if_pos c1, obs, kx_11]
        (try dsimp only)
        rw [if_neg (by decide), nI_1, r1]
        refine ⟨g', f', e', ?_, fun k hk => ?_, fun hz => ?_⟩
        · rw [List.length_cons, show i + (((rda (pkf tx T) n (q.2.1 + 1)).2.2).length + 1) = i + 1 + ((rda (pkf tx T) n (q.2.1 + 1)).2.2).length by omega]
        · obtain ⟨s1, s2, s3⟩ := r2 k (by omega)
          rw [s1, s2, s3]
          exact k2 k (by omega)
        · obtain ⟨s1, s2, s3⟩ := r2 i (by omega)
          exact It3.cons (s1.trans k3.1) (s2.trans k3.2.1) (s3.trans k3.2.2) (r3 hz)
      · have m2 : (kxM (rowI μ 16 e1) q.2.1 g1 f1).1 11 2 = nI q.2.1 := rfl
        have m1 : (kxM (rowI μ 16 e1) q.2.1 g1 f1).1 11 1 = nI ln := h1
        rw [if_neg c1, if_neg c1, obs]
        (try dsimp only)
        rw [if_pos rfl, g13_0, obs]
        unfold F_X9_ended
        rw [if_pos q11, g11_2, obs, m2, g11_1, obs, m1]
        refine ⟨g1, f1, e1, ?_, fun k hk => k2 k (by omega), fun _ => It3.cons k3.1 k3.2.1 k3.2.2 (fun k hk => absurd hk (Nat.not_lt_zero _))⟩
        by_cases c2 : q.2.1 = ln
        · rw [if_pos (show nI q.2.1 = nI ln by rw [c2]), obs]
          (try dsimp only)
          rw [if_neg (by decide), if_pos ⟨rfl, c2⟩, nI_1]
          rfl
        · rw [if_neg (show ¬ nI q.2.1 = nI ln from fun z => c2 ((i_eq (by omega) (by omega)).mp z)), obs]
          (try dsimp only)
          unfold F_X9_fault
          rw [if_pos rfl, g13_0, obs, if_pos q11, g11_2, obs, obs, m2, if_neg (fun z => c2 z.2)]
/-- the class's day, read -/
theorem x_readD {ν : Mem} (h1 : ν.1 11 1 = nI ln) (hl : ln ≤ 80) (hT : T = if ln ≤ 60 then ln else 60) (h : ∀ i, i < ln → tx i < 256 ∧ ν.1 12 i = nI (tx i)) : ∃ g f e, F_X8_readDay 13 (hp κ ν) = some (if (rda (pkf tx T) 20 0).1 = true ∧ (rda (pkf tx T) 20 0).2.1 = ln then nI (rda (pkf tx T) 20 0).2.2.length else -1 - nI (rda (pkf tx T) 20 0).2.1, hp κ (kxM (rowI (upI ν 11 3 (nI T)) 16 e) (rda (pkf tx T) 20 0).2.1 g f)) ∧ ((rda (pkf tx T) 20 0).1 = true → It3 g f e 0 (rda (pkf tx T) 20 0).2.2) := by
  have hT2 : T ≤ 60 ∧ T ≤ ln := by split at hT <;> omega
  have hTX : TX (upI ν 11 3 (nI T)).1 T tx := ⟨rfl, by omega, fun i hi => h i (by omega)⟩
  obtain ⟨g, f, e, k1, -, k3⟩ := x_dayL (κ := κ) hTX (ln := ln) h1 hl 20 0 0 4979 (ν.1 14) (ν.1 15) (ν.1 16) (by omega) (Nat.zero_le _)
  refine ⟨g, f, e, ?_, k3⟩
  have ho := x_openT (κ := κ) (tp := 60) h1 hl (by decide)
  rw [← hT] at ho
  have ho : F_X9_open 11 60 (hp κ ν) = _ := ho
  have e16 : rowI (upI ν 11 3 (nI T)) 16 (ν.1 16) = upI ν 11 3 (nI T) := rowI_id
  unfold F_X8_readDay
  rw [if_pos q13, g13_0, obs, ho, obs]
  rw [Nat.zero_add, e16] at k1
  exact k1
end DXR
