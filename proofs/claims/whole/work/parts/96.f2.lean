/-! PURE: a day's acts, read by the reference. -/
/-- acts lie in row 139 (the third number of h is free) -/
def Iy3 (g : Nat → Int32) (i : Nat) (l : List (Int32 × Int32 × Int32)) : Prop := ∀ k, k < l.length → g (3 * (i + k)) = (l.getD k (0, 0, 0)).1 ∧ g (3 * (i + k) + 1) = (l.getD k (0, 0, 0)).2.1 ∧ ((l.getD k (0, 0, 0)).1 = 104 ∨ g (3 * (i + k) + 2) = (l.getD k (0, 0, 0)).2.2)
theorem Iy3.cons {g : Nat → Int32} {i : Nat} {x : Int32 × Int32 × Int32} {l : List (Int32 × Int32 × Int32)} (h1 : g (3 * i) = x.1) (h2 : g (3 * i + 1) = x.2.1) (h3 : x.1 = 104 ∨ g (3 * i + 2) = x.2.2) (h : Iy3 g (i + 1) l) : Iy3 g i (x :: l) := by
  intro k hk
  cases k with
  | zero => exact ⟨h1, h2, h3⟩
  | succ k =>
    have := h k (by simpa using hk)
    rw [show i + (k + 1) = i + 1 + k by omega]
    exact this
section DYR
variable {κ : Kp} {ν : Mem} {m ln tp T : Nat} {tx : Nat → Nat}
theorem RD.r139 (h : RD ν m ln tp T tx) {g : Nat → Int32} : RD (rowI ν 139 g) m ln tp T tx := by
  obtain ⟨h1, h2, h3⟩ := h
  rcases h2 with ⟨rfl, h2⟩ | ⟨rfl, h2⟩
  · exact ⟨h1, Or.inl ⟨rfl, h2⟩, h3⟩
  · exact ⟨h1, Or.inr ⟨rfl, h2⟩, h3⟩
theorem rd_139 {g : Nat → Int32} {a j : Nat} {w v : Int32} : upI (rdM (rowI ν 139 g) a w) 139 j v = rdM (rowI ν 139 (upd g j v)) a w := by
  refine Prod.ext ?_ rfl
  funext z
  by_cases c : z = 139
  · subst c; rfl
  · rw [rowI_n c]
    by_cases c2 : z = 127
    · subst c2; rfl
    · rw [rdM_n c2, rdM_n c2, rowI_n c, rowI_n c]
/-- behind the sign of an act -/
theorem y_act59 (h : RD ν m ln tp T tx) {i a c : Nat} (hi : i < 80) (hc : pkf tx T a = c) (hcc : c = 98 ∨ c = 103 ∨ c = 108 ∨ c = 99 ∨ c = 112 ∨ c = 104) (g : Nat → Int32) : ∃ g', (∀ k, k < 3 * i → g' k = g k) ∧ (((a1 (pkf tx T) a).1 = false ∧ b_X12_readAct_59 127 (nI (3 * i)) (nI c) (if c = 112 ∨ c = 104 then 0 else 1) (hp κ (rdM (rowI ν 139 g) a (-1))) = some (hp κ (rdM (rowI ν 139 g') (a1 (pkf tx T) a).2.1 (nI (a1 (pkf tx T) a).2.1)))) ∨ ((a1 (pkf tx T) a).1 = true ∧ g' (3 * i) = (a1 (pkf tx T) a).2.2.1 ∧ g' (3 * i + 1) = (a1 (pkf tx T) a).2.2.2.1 ∧ ((a1 (pkf tx T) a).2.2.1 = 104 ∨ g' (3 * i + 2) = (a1 (pkf tx T) a).2.2.2.2) ∧ b_X12_readAct_59 127 (nI (3 * i)) (nI c) (if c = 112 ∨ c = 104 then 0 else 1) (hp κ (rdM (rowI ν 139 g) a (-1))) = some (hp κ (rdM (rowI ν 139 g') (a1 (pkf tx T) a).2.1 (-1))))) := by
  have hT := h.T80
  have c3 : a < T := pk_T hc (by omega)
  have e1 : nI (3 * i) + 1 = nI (3 * i + 1) := nI_1 _
  have e2 : nI (3 * i) + 2 = nI (3 * i + 2) := nI_add (a := 3 * i) (b := 2)
  unfold b_X12_readAct_59
  rw [g127_15, obs, rdM_a, nI_1, p127_15, obs, rdM_15, g127_26, obs, w139 (by omega), obs, rd_139, g127_26, obs, e1]
  by_cases c104 : c = 104
  · have hn : F_X12_number 127 2 (hp κ (rdM (rowI ν 139 (upd g (3 * i) (nI c))) (a + 1) (-1))) = _ := y_number (κ := κ) (ν := rowI ν 139 (upd g (3 * i) (nI c))) h.r139 (mo := 2) (a := a + 1) (by decide) (by decide) (by omega)
    have n112 : ¬ nI c = 112 := fun z => absurd ((i_eq (b := 112) (by omega) (by decide)).mp z) (by omega)
    unfold a1
    rw [if_pos (show nI c = 104 by rw [c104]; rfl), hn, if_pos (hc.trans c104), if_pos (Or.inr c104)]
    cases hr : rnm (pkf tx T) 2 (a + 1) with
    | none =>
      unfold b_X12_readAct_105 b_X12_readAct_126
      (try dsimp only)
      rw [obs]
      (try dsimp only)
      rw [w139 (by omega), obs, rd_139, if_pos rfl, if_neg n112]
      exact ⟨_, fun k hk => by rw [pk_un (by omega), pk_un (by omega)], Or.inl ⟨rfl, rfl⟩⟩
    | some q =>
      unfold b_X12_readAct_105 b_X12_readAct_126
      (try dsimp only)
      rw [obs]
      (try dsimp only)
      rw [w139 (by omega), obs, rd_139, if_pos rfl, if_neg n112]
      exact ⟨_, fun k hk => by rw [pk_un (by omega), pk_un (by omega)], Or.inr ⟨rfl, by rw [pk_un (by omega), pk_us, c104]; rfl, pk_us, Or.inl rfl, rfl⟩⟩
  · have n104 : ¬ nI c = 104 := fun z => c104 ((i_eq (b := 104) (by omega) (by decide)).mp z)
    have ho : F_X12_oneOf 127 97 12 (hp κ (rdM (rowI ν 139 (upd g (3 * i) (nI c))) (a + 1) (-1))) = _ := y_oneOf (κ := κ) (ν := rowI ν 139 (upd g (3 * i) (nI c))) h.r139 (a := a + 1) (c := 97) (k := 12) (by omega) (by decide) (by decide)
    unfold a1
    rw [if_neg n104, ho, if_neg (show ¬ pkf tx T a = 104 by omega), if_pos (show pkf tx T a = 98 ∨ pkf tx T a = 103 ∨ pkf tx T a = 108 ∨ pkf tx T a = 99 ∨ pkf tx T a = 112 by omega)]
    by_cases c1 : 97 ≤ pkf tx T (a + 1) ∧ pkf tx T (a + 1) < 97 + 12
    · have c4 : a + 1 < T := pk_T (c := pkf tx T (a + 1)) rfl (by omega)
      rw [if_pos c1, if_pos c1, obs]
      (try dsimp only)
      by_cases c112 : c = 112
      · have ho2 : F_X12_oneOf 127 97 6 (hp κ (rdM (rowI ν 139 (upd (upd g (3 * i) (nI c)) (3 * i + 1) (nI (pkf tx T (a + 1) - 97)))) (a + 2) (-1))) = _ := y_oneOf (κ := κ) (ν := rowI ν 139 (upd (upd g (3 * i) (nI c)) (3 * i + 1) (nI (pkf tx T (a + 1) - 97)))) h.r139 (a := a + 2) (c := 97) (k := 6) (by omega) (by decide) (by decide)
        unfold b_X12_readAct_105 b_X12_readAct_126
        rw [w139 (by omega), obs, rd_139, if_pos (Or.inl c112), if_pos rfl, if_pos (show nI c = 112 by rw [c112]; rfl), g127_26, obs, ho2, if_pos (show pkf tx T a = 112 by omega), e2]
        by_cases c2 : 97 ≤ pkf tx T (a + 2) ∧ pkf tx T (a + 2) < 97 + 6
        · rw [if_pos c2, if_pos c2, obs]
          (try dsimp only)
          rw [w139 (by omega), obs, rd_139]
          exact ⟨_, fun k hk => by rw [pk_un (by omega), pk_un (by omega), pk_un (by omega)], Or.inr ⟨rfl, by rw [pk_un (by omega), pk_un (by omega), pk_us, c112]; rfl, by rw [pk_un (by omega), pk_us], Or.inr pk_us, rfl⟩⟩
        · rw [if_neg c2, if_neg c2, obs]
          (try dsimp only)
          rw [w139 (by omega), obs, rd_139]
          exact ⟨_, fun k hk => by rw [pk_un (by omega), pk_un (by omega), pk_un (by omega)], Or.inl ⟨rfl, rfl⟩⟩
      · have n112 : ¬ nI c = 112 := fun z => c112 ((i_eq (b := 112) (by omega) (by decide)).mp z)
        have ho2 : F_X12_oneOf 127 48 10 (hp κ (rdM (rowI ν 139 (upd (upd g (3 * i) (nI c)) (3 * i + 1) (nI (pkf tx T (a + 1) - 97)))) (a + 2) (-1))) = _ := y_oneOf (κ := κ) (ν := rowI ν 139 (upd (upd g (3 * i) (nI c)) (3 * i + 1) (nI (pkf tx T (a + 1) - 97)))) h.r139 (a := a + 2) (c := 48) (k := 10) (by omega) (by decide) (by decide)
        unfold b_X12_readAct_105 b_X12_readAct_126
        rw [w139 (by omega), obs, rd_139, if_neg (show ¬ (c = 112 ∨ c = 104) by omega), if_neg (show ¬ (1 : Int32) = 0 by decide), g127_26, obs, ho2, if_neg (show ¬ pkf tx T a = 112 by omega), e2]
        by_cases c2 : 48 ≤ pkf tx T (a + 2) ∧ pkf tx T (a + 2) < 48 + 10
        · rw [if_pos c2, if_pos c2, obs]
          (try dsimp only)
          rw [w139 (by omega), obs, rd_139, if_neg n112]
          exact ⟨_, fun k hk => by rw [pk_un (by omega), pk_un (by omega), pk_un (by omega)], Or.inr ⟨rfl, by rw [pk_un (by omega), pk_un (by omega), pk_us, hc], by rw [pk_un (by omega), pk_us], Or.inr pk_us, rfl⟩⟩
        · rw [if_neg c2, if_neg c2, obs]
          (try dsimp only)
          rw [w139 (by omega), obs, rd_139, if_neg n112]
          exact ⟨_, fun k hk => by rw [pk_un (by omega), pk_un (by omega), pk_un (by omega)], Or.inl ⟨rfl, rfl⟩⟩
    · rw [if_neg c1, if_neg c1, obs]
      (try dsimp only)
      have hw : ¬ nI (a + 1) = -1 := nI_m1 (by omega)
      by_cases c112 : c = 112
      · unfold b_X12_readAct_105 b_X12_readAct_126
        rw [w139 (by omega), obs, rd_139, if_pos (Or.inl c112), if_pos rfl, if_pos (show nI c = 112 by rw [c112]; rfl), g127_26, obs, y_oneOfB hw, obs, e2]
        (try dsimp only)
        rw [w139 (by omega), obs, rd_139]
        exact ⟨_, fun k hk => by rw [pk_un (by omega), pk_un (by omega), pk_un (by omega)], Or.inl ⟨rfl, rfl⟩⟩
      · have n112 : ¬ nI c = 112 := fun z => c112 ((i_eq (b := 112) (by omega) (by decide)).mp z)
        unfold b_X12_readAct_105 b_X12_readAct_126
        rw [w139 (by omega), obs, rd_139, if_neg (show ¬ (c = 112 ∨ c = 104) by omega), if_neg (show ¬ (1 : Int32) = 0 by decide), g127_26, obs, y_oneOfB hw, obs, e2]
        (try dsimp only)
        rw [w139 (by omega), obs, rd_139, if_neg n112]
        exact ⟨_, fun k hk => by rw [pk_un (by omega), pk_un (by omega), pk_un (by omega)], Or.inl ⟨rfl, rfl⟩⟩
theorem y_readAct (h : RD ν m ln tp T tx) {i a : Nat} (hi : i < 80) (ha : a ≤ T) (g : Nat → Int32) : ∃ g', (∀ k, k < 3 * i → g' k = g k) ∧ (((a1 (pkf tx T) a).1 = false ∧ ∃ a', F_X12_readAct 127 (nI (3 * i)) (hp κ (rdM (rowI ν 139 g) a (-1))) = some (hp κ (rdM (rowI ν 139 g') a' (nI (a1 (pkf tx T) a).2.1)))) ∨ ((a1 (pkf tx T) a).1 = true ∧ g' (3 * i) = (a1 (pkf tx T) a).2.2.1 ∧ g' (3 * i + 1) = (a1 (pkf tx T) a).2.2.2.1 ∧ ((a1 (pkf tx T) a).2.2.1 = 104 ∨ g' (3 * i + 2) = (a1 (pkf tx T) a).2.2.2.2) ∧ F_X12_readAct 127 (nI (3 * i)) (hp κ (rdM (rowI ν 139 g) a (-1))) = some (hp κ (rdM (rowI ν 139 g') (a1 (pkf tx T) a).2.1 (-1))))) := by
  have hT := h.T80
  have hpk : F_X12_here 127 (hp κ (rdM (rowI ν 139 g) a (-1))) = _ := y_here (κ := κ) (ν := rowI ν 139 g) (a := a) (w := -1) h.r139 ha
  have hq : ∀ c, c < 256 → (((if a < T then nI (tx a) else -1) = nI c) ↔ pkf tx T a = c) := fun c hc => hv_eq (a := a) h hc
  generalize (if a < T then nI (tx a) else -1) = v at hpk hq
  unfold F_X12_readAct
  rw [if_pos q127, hpk, obs]
  (try dsimp only)
  have key : ∀ c, c < 256 → (c = 98 ∨ c = 103 ∨ c = 108 ∨ c = 99 ∨ c = 112 ∨ c = 104) → v = nI c → ∃ g', (∀ k, k < 3 * i → g' k = g k) ∧ (((a1 (pkf tx T) a).1 = false ∧ ∃ a', b_X12_readAct_59 127 (nI (3 * i)) v (if c = 112 ∨ c = 104 then 0 else 1) (hp κ (rdM (rowI ν 139 g) a (-1))) = some (hp κ (rdM (rowI ν 139 g') a' (nI (a1 (pkf tx T) a).2.1)))) ∨ ((a1 (pkf tx T) a).1 = true ∧ g' (3 * i) = (a1 (pkf tx T) a).2.2.1 ∧ g' (3 * i + 1) = (a1 (pkf tx T) a).2.2.2.1 ∧ ((a1 (pkf tx T) a).2.2.1 = 104 ∨ g' (3 * i + 2) = (a1 (pkf tx T) a).2.2.2.2) ∧ b_X12_readAct_59 127 (nI (3 * i)) v (if c = 112 ∨ c = 104 then 0 else 1) (hp κ (rdM (rowI ν 139 g) a (-1))) = some (hp κ (rdM (rowI ν 139 g') (a1 (pkf tx T) a).2.1 (-1))))) := fun c hc hcc hv => by
    subst hv
    obtain ⟨g', k1, k2⟩ := y_act59 (κ := κ) h hi ((hq c hc).mp rfl) hcc g
    refine ⟨g', k1, ?_⟩
    rcases k2 with ⟨k2, k3⟩ | k2
    · exact Or.inl ⟨k2, _, k3⟩
    · exact Or.inr k2
  by_cases c1 : v = 98
  · unfold b_X12_readAct_29 b_X12_readAct_34
    rw [if_pos c1, if_neg (show ¬ (1 : Int32) = 0 by decide)]
    exact key 98 (by decide) (by omega) c1
  rw [if_neg c1]
  by_cases c2 : v = 103
  · unfold b_X12_readAct_29 b_X12_readAct_34
    rw [if_pos c2, if_neg (show ¬ (1 : Int32) = 0 by decide)]
    exact key 103 (by decide) (by omega) c2
  rw [if_neg c2]
  by_cases c3 : v = 108
  · unfold b_X12_readAct_29 b_X12_readAct_34
    rw [if_pos c3, if_neg (show ¬ (1 : Int32) = 0 by decide)]
    exact key 108 (by decide) (by omega) c3
  rw [if_neg c3]
  by_cases c4 : v = 99
  · unfold b_X12_readAct_29 b_X12_readAct_34
    rw [if_pos c4, if_neg (show ¬ (1 : Int32) = 0 by decide)]
    exact key 99 (by decide) (by omega) c4
  rw [if_neg c4]
  unfold b_X12_readAct_34
  rw [if_pos rfl]
  by_cases c5 : v = 112
  · rw [if_pos c5]; exact key 112 (by decide) (by omega) c5
  rw [if_neg c5]
  by_cases c6 : v = 104
  · rw [if_pos c6]; exact key 104 (by decide) (by omega) c6
  rw [if_neg c6]
  have m1 : ¬ pkf tx T a = 98 := fun z => c1 ((hq 98 (by decide)).mpr z)
  have m2 : ¬ pkf tx T a = 103 := fun z => c2 ((hq 103 (by decide)).mpr z)
  have m3 : ¬ pkf tx T a = 108 := fun z => c3 ((hq 108 (by decide)).mpr z)
  have m4 : ¬ pkf tx T a = 99 := fun z => c4 ((hq 99 (by decide)).mpr z)
  have m5 : ¬ pkf tx T a = 112 := fun z => c5 ((hq 112 (by decide)).mpr z)
  have m6 : ¬ pkf tx T a = 104 := fun z => c6 ((hq 104 (by decide)).mpr z)
  have e1 : nI (3 * i) + 1 = nI (3 * i + 1) := nI_1 _
  unfold a1 b_X12_readAct_59
  rw [if_neg m6, if_neg (by omega), g127_15, obs, rdM_a, y_fault, obs, if_pos rfl, g127_15, obs, rdM_a, nI_1, p127_15, obs, rdM_15, g127_26, obs, w139 (by omega), obs, rd_139, g127_26, obs, e1, if_neg c6, y_oneOfB (nI_m1 (by omega)), obs]
  (try dsimp only)
  unfold b_X12_readAct_105 b_X12_readAct_126
  rw [w139 (by omega), obs, rd_139, if_pos rfl, if_neg c5]
  exact ⟨_, fun k hk => by rw [pk_un (by omega), pk_un (by omega)], Or.inl ⟨rfl, _, rfl⟩⟩
theorem y_dEndB {n : Int32} {a p : Nat} (h : ν.1 127 13 = nI ln) (hl : ln ≤ 80) (hp0 : p < 2 ^ 31) : b_X12_day_57 127 n (hp κ (rdM ν a (nI p))) = some (-1 - nI p, hp κ (rdM ν a (nI p))) := by
  have hr := y_wasRight (κ := κ) (ν := ν) (a := a) (w := nI p) h (Or.inr ⟨p, hp0, rfl⟩) (by omega) (fun z => absurd z (nI_m1 hp0))
  rw [if_neg (fun z => nI_m1 hp0 z.1), if_neg (nI_m1 hp0)] at hr
  unfold b_X12_day_57
  rw [hr, obs]
  (try dsimp only)
  rw [if_pos rfl, g127_16, obs, rdM_w]
/-- the acts are read: what is done then -/
def dTl (κ : Kp) (n : Int32) (μ : Mem) : Option (Int32 × ci_H) := (F_X12_lay 128 137 0 (hp κ μ)).bind fun h6 => b_X12_day_85 127 n bigN 0 h6
theorem y_dEnd {n : Int32} {a : Nat} (h : ν.1 127 13 = nI ln) (hl : ln ≤ 80) (ha : a ≤ ln) : b_X12_day_57 127 n (hp κ (rdM ν a (-1))) = if a = ln then dTl κ n (rdM ν a (-1)) else some (-1 - nI a, hp κ (rdM ν a (nI a))) := by
  have hr := y_wasRight (κ := κ) (ν := ν) (a := a) (w := -1) h (Or.inl rfl) (by omega) (fun _ => by omega)
  rw [if_pos rfl] at hr
  unfold b_X12_day_57
  rw [hr, obs]
  (try dsimp only)
  by_cases c : a = ln
  · rw [if_pos (show (-1 : Int32) = -1 ∧ ln ≤ a from ⟨rfl, by omega⟩), if_neg (show ¬ (1 : Int32) = 0 by decide), if_pos c, if_pos (show ln ≤ a by omega), g127_0, obs, g127_24, obs]
    rfl
  · rw [if_neg (show ¬ ((-1 : Int32) = -1 ∧ ln ≤ a) from fun z => by have := z.2; omega), if_pos rfl, if_neg c, if_neg (by omega), g127_16, obs, rdM_w]
theorem y_dayL (h : RD ν m ln tp T tx) (hln : T ≤ ln) (hT60 : T ≤ 60) : ∀ (n i a F : Nat) (g : Nat → Int32), i + n = 20 → 3 * i ≤ a → a ≤ T → ∃ g', (∀ k, k < 3 * i → g' k = g k) ∧ (((rda (pkf tx T) n a).1 = true ∧ (rda (pkf tx T) n a).2.1 = ln ∧ Iy3 g' i (rda (pkf tx T) n a).2.2 ∧ b_X12_day_26 127 (F + n + 2) (nI i) 1 (hp κ (rdM (rowI ν 139 g) a (-1))) = dTl κ (nI (i + (rda (pkf tx T) n a).2.2.length)) (rdM (rowI ν 139 g') ln (-1))) ∨ (¬ ((rda (pkf tx T) n a).1 = true ∧ (rda (pkf tx T) n a).2.1 = ln) ∧ ∃ a' w', b_X12_day_26 127 (F + n + 2) (nI i) 1 (hp κ (rdM (rowI ν 139 g) a (-1))) = some (-1 - nI (rda (pkf tx T) n a).2.1, hp κ (rdM (rowI ν 139 g') a' w')))) := by
  have hT := h.T80
  have hl : ln ≤ 80 := h.2.2.2.2.1
  have e13 : ∀ g : Nat → Int32, (rowI ν 139 g).1 127 13 = nI ln := fun g => h.2.2.1
  have z0 : ∀ (F i : Nat) (hh : ci_H), b_X12_day_26 127 (F + 1) (nI i) 0 hh = b_X12_day_57 127 (nI i) hh := fun F i hh => by
    rw [b_X12_day_26, if_pos rfl]
  have e3 : ∀ i : Nat, (3 : Int32) * nI i = nI (3 * i) := fun i => pk_mul 3 i
  intro n
  induction n with
  | zero =>
    intro i a F g hi h3 ha
    have e999 : pkf tx T a = 999 := if_neg (by omega)
    have ea : a1 (pkf tx T) a = (false, a, 0, 0, 0) := by
      unfold a1
      rw [if_neg (by omega), if_neg (by omega)]
    show ∃ g', _ ∧ ((_ ∧ _ ∧ _ ∧ b_X12_day_26 127 (F + 1 + 1) (nI i) 1 (hp κ (rdM (rowI ν 139 g) a (-1))) = _) ∨ (_ ∧ ∃ a' w', b_X12_day_26 127 (F + 1 + 1) (nI i) 1 (hp κ (rdM (rowI ν 139 g) a (-1))) = _))
    obtain ⟨g', k0, hk⟩ := y_readAct (κ := κ) h (i := i) (a := a) (by omega) ha g
    rw [ea] at hk
    rw [b_X12_day_26, if_neg (by decide), y_fine, obs]
    (try dsimp only)
    rw [if_pos rfl, if_neg (show ¬ (1 : Int32) = 0 by decide), e3]
    rcases hk with ⟨-, a', hk⟩ | ⟨hb, -⟩
    · refine ⟨g', k0, Or.inr ⟨(fun z => nomatch z.1), a', nI a, ?_⟩⟩
      have hk : _ = some (hp κ (rdM (rowI ν 139 g') a' (nI a))) := hk
      rw [hk, obs, y_passesB (nI_m1 (by omega)), obs]
      (try dsimp only)
      rw [nI_1, z0, y_dEndB (e13 g') hl (by omega)]
      rfl
    · cases hb
  | succ n ih =>
    intro i a F g hi h3 ha
    show ∃ g', _ ∧ ((_ ∧ _ ∧ _ ∧ b_X12_day_26 127 (F + n + 2 + 1) (nI i) 1 (hp κ (rdM (rowI ν 139 g) a (-1))) = _) ∨ (_ ∧ ∃ a' w', b_X12_day_26 127 (F + n + 2 + 1) (nI i) 1 (hp κ (rdM (rowI ν 139 g) a (-1))) = _))
    obtain ⟨g', k0, hk⟩ := y_readAct (κ := κ) h (i := i) (a := a) (by omega) ha g
    obtain ⟨p1, p2⟩ := a1_ok (tx := tx) ha
    rw [b_X12_day_26, if_neg (by decide), y_fine, obs, rda_s]
    (try dsimp only)
    rw [if_pos rfl, if_neg (show ¬ (1 : Int32) = 0 by decide), e3]
    generalize a1 (pkf tx T) a = q at hk p1 p2
    rcases hk with ⟨hb, a', hk⟩ | ⟨hb, f1, f2, f3, hk⟩
    · refine ⟨g', k0, Or.inr ?_⟩
      rw [if_neg (by rw [hb]; decide), hk, obs, y_passesB (nI_m1 (by omega)), obs]
      (try dsimp only)
      rw [nI_1, show F + n + 2 = F + n + 1 + 1 from rfl, z0, y_dEndB (e13 g') hl (by omega)]
      exact ⟨(fun z => nomatch z.1), _, _, rfl⟩
    · have p2 := p2 hb
      have hps : F_X12_passes 127 59 (hp κ (rdM (rowI ν 139 g') q.2.1 (-1))) = _ := y_passes (κ := κ) (ν := rowI ν 139 g') h.r139 (a := q.2.1) (c := 59) p1 (by decide)
      rw [if_pos hb, hk, obs, hps]
      by_cases c1 : pkf tx T q.2.1 = 59
      · have c3 := pk_T c1 (by decide)
        obtain ⟨g2, r0, hr⟩ := ih (i + 1) (q.2.1 + 1) F g' (by omega) (by omega) (by omega)
        rw [if_pos c1, if_pos c1, obs]
        (try dsimp only)
        rw [nI_1]
        refine ⟨g2, fun k hk => (r0 k (by omega)).trans (k0 k hk), ?_⟩
        rcases hr with ⟨r1, r2, r3, r5⟩ | ⟨r1, a', w', r2⟩
        · refine Or.inl ⟨r1, r2, Iy3.cons ((r0 _ (by omega)).trans f1) ((r0 _ (by omega)).trans f2) ?_ r3, ?_⟩
          · rcases f3 with f3 | f3
            · exact Or.inl f3
            · exact Or.inr ((r0 _ (by omega)).trans f3)
          · have e : i + ((rda (pkf tx T) n (q.2.1 + 1)).2.2.length + 1) = i + 1 + (rda (pkf tx T) n (q.2.1 + 1)).2.2.length := by omega
            rw [r5, List.length_cons, e]
        · exact Or.inr ⟨r1, a', w', r2⟩
      · rw [if_neg c1, if_neg c1, obs]
        (try dsimp only)
        rw [nI_1, show F + n + 2 = F + n + 1 + 1 from rfl, z0, y_dEnd (e13 g') hl (by omega)]
        by_cases c2 : q.2.1 = ln
        · rw [if_pos c2]
          exact ⟨g', k0, Or.inl ⟨rfl, c2, Iy3.cons f1 f2 f3 (fun k hk => absurd hk (Nat.not_lt_zero _)), by rw [c2]; rfl⟩⟩
        · rw [if_neg c2]
          exact ⟨g', k0, Or.inr ⟨fun z => c2 z.2, _, _, rfl⟩⟩
/-- the reference's day, read -/
theorem y_dayR (h8 : ν.1 127 8 = nI ln) (hl : ln ≤ 80) (hT : T = if ln ≤ 60 then ln else 60) (h : ∀ i, i < ln → tx i < 256 ∧ ν.1 131 i = by8 (tx i)) : ∃ g', ((ln = 0 ∧ F_X12_day 127 (hp κ ν) = dTl κ 0 (rdM (rowI (btM (Zr ν) ln 60) 139 g') ln (-1))) ∨ (0 < ln ∧ (rda (pkf tx T) 20 0).1 = true ∧ (rda (pkf tx T) 20 0).2.1 = ln ∧ Iy3 g' 0 (rda (pkf tx T) 20 0).2.2 ∧ F_X12_day 127 (hp κ ν) = dTl κ (nI (rda (pkf tx T) 20 0).2.2.length) (rdM (rowI (btM (Zr ν) ln 60) 139 g') ln (-1))) ∨ (0 < ln ∧ ¬ ((rda (pkf tx T) 20 0).1 = true ∧ (rda (pkf tx T) 20 0).2.1 = ln) ∧ ∃ a' w', F_X12_day 127 (hp κ ν) = some (-1 - nI (rda (pkf tx T) 20 0).2.1, hp κ (rdM (rowI (btM (Zr ν) ln 60) 139 g') a' w')))) := by
  have z8 : (Zr ν).1 127 8 = nI ln := h8
  have hT2 : T ≤ 60 ∧ T ≤ ln := by split at hT <;> omega
  have hbt : F_X12_beginText 127 60 (hp κ (Zr ν)) = _ := y_beginText (κ := κ) (tp := 60) z8
  have hRD : RD (btM (Zr ν) ln 60) 131 ln 60 T tx := ⟨rfl, Or.inl ⟨rfl, by omega⟩, rfl, rfl, hl, by decide, hT, fun i hi => h i (by omega)⟩
  have e13 : (rdM (btM (Zr ν) ln 60) 0 (-1)).1 127 13 = nI ln := rfl
  by_cases c0 : ln = 0
  · subst c0
    refine ⟨(btM (Zr ν) 0 60).1 139, Or.inl ⟨rfl, ?_⟩⟩
    have hE := y_dEnd (κ := κ) (ν := btM (Zr ν) 0 60) (n := 0) (a := 0) (ln := 0) rfl (by decide) (Nat.le_refl _)
    rw [if_pos rfl] at hE
    unfold F_X12_day b_X12_day_25
    rw [if_pos q127, p11, obs, hbt, obs, g127_13, obs, e13, if_pos (show nI 0 ≤ 0 by decide), rowI_id, ← hE]
    show b_X12_day_26 127 (4999 + 1) 0 0 _ = _
    rw [b_X12_day_26, if_pos rfl]
  · obtain ⟨g', -, hg⟩ := y_dayL (κ := κ) hRD hT2.2 hT2.1 20 0 0 4978 ((btM (Zr ν) ln 60).1 139) (by omega) (by omega) (Nat.zero_le _)
    rw [rowI_id] at hg
    have hF : F_X12_day 127 (hp κ ν) = b_X12_day_26 127 (4978 + 20 + 2) (nI 0) 1 (hp κ (rdM (btM (Zr ν) ln 60) 0 (-1))) := by
      unfold F_X12_day b_X12_day_25
      rw [if_pos q127, p11, obs, hbt, obs, g127_13, obs, e13, if_neg (show ¬ nI ln ≤ 0 from nI_ge (b := ln) (a := 0) (by omega) (by omega))]
      rfl
    rw [← hF] at hg
    refine ⟨g', ?_⟩
    rcases hg with ⟨r1, r2, r3, r5⟩ | ⟨r1, r2⟩
    · rw [Nat.zero_add] at r5
      exact Or.inr (Or.inl ⟨by omega, r1, r2, r3, r5⟩)
    · exact Or.inr (Or.inr ⟨by omega, r1, r2⟩)
end DYR
