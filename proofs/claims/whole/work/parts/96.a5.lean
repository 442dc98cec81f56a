/-! PURE: a rule, read and computed by the reference, all levels. -/
def ltI (c : Int32) : Int32 := if c = 116 then 0 else if c = 107 then 1 else if c = 104 then 2 else if c = 110 then 3 else if c = 105 then 4 else if c = 111 then 5 else -1
def ltN (c : Int32) : Nat := if c = 116 then 0 else if c = 107 then 1 else if c = 104 then 2 else if c = 110 then 3 else if c = 105 then 4 else 5
def Lq (ν : Mem) (c : Int32) : Int32 := if ν.1 127 20 = 0 then 0 else ν.1 135 (ltN c)
theorem y_letO (c : Int32) (h : ci_H) : F_X12_letterOf c h = some (ltI c, h) := by
  unfold F_X12_letterOf ltI
  by_cases h1 : c = 116
  · rw [if_pos h1, if_pos h1]
  rw [if_neg h1, if_neg h1]
  by_cases h2 : c = 107
  · rw [if_pos h2, if_pos h2]
  rw [if_neg h2, if_neg h2]
  by_cases h3 : c = 104
  · rw [if_pos h3, if_pos h3]
  rw [if_neg h3, if_neg h3]
  by_cases h4 : c = 110
  · rw [if_pos h4, if_pos h4]
  rw [if_neg h4, if_neg h4]
  by_cases h5 : c = 105
  · rw [if_pos h5, if_pos h5]
  rw [if_neg h5, if_neg h5]
  by_cases h6 : c = 111
  · rw [if_pos h6, if_pos h6]
  rw [if_neg h6, if_neg h6]
theorem lt_yes {c : Nat} (h : c = 116 ∨ c = 107 ∨ c = 104 ∨ c = 110 ∨ c = 105 ∨ c = 111) : ∃ k, k < 6 ∧ ltI (nI c) = nI k ∧ ltN (nI c) = k := by
  rcases h with h | h | h | h | h | h <;> subst h
  · exact ⟨0, by decide, rfl, rfl⟩
  · exact ⟨1, by decide, rfl, rfl⟩
  · exact ⟨2, by decide, rfl, rfl⟩
  · exact ⟨3, by decide, rfl, rfl⟩
  · exact ⟨4, by decide, rfl, rfl⟩
  · exact ⟨5, by decide, rfl, rfl⟩
theorem lt_no {c : Int32} (h : ¬ (c = 116 ∨ c = 107 ∨ c = 104 ∨ c = 110 ∨ c = 105 ∨ c = 111)) : ltI c = -1 := by
  unfold ltI
  rw [if_neg (fun z => h (Or.inl z)), if_neg (fun z => h (Or.inr (Or.inl z))), if_neg (fun z => h (Or.inr (Or.inr (Or.inl z)))), if_neg (fun z => h (Or.inr (Or.inr (Or.inr (Or.inl z))))), if_neg (fun z => h (Or.inr (Or.inr (Or.inr (Or.inr (Or.inl z)))))), if_neg (fun z => h (Or.inr (Or.inr (Or.inr (Or.inr (Or.inr z))))))]
section LVP
variable {κ : Kp} {ν : Mem} {m ln tp T : Nat} {tx : Nat → Nat}
theorem rnm_no {pk : Nat → Nat} {mo a : Nat} (h : ¬ (48 ≤ pk a ∧ pk a ≤ 57)) : rnm pk mo a = none := by
  unfold rnm
  rw [if_neg h]
/-- a part that is neither '-' nor a parenthesis that opens -/
theorem y_part67 (h : RD ν m ln tp T tx) {rc : Nat → Nat → Int32 → ci_H → Option (Int32 × ci_H)} {d a : Nat} {r : Rv} (ha : a ≤ T) (hc : ¬ (pkf tx T a = 40 ∧ d < 4)) : ∃ v a' w, b_X12_part_67 rc 127 (if a < T then nI (tx a) else -1) (hp κ (rdM ν a (-1))) = some (v, hp κ (rdM ν a' w)) ∧ RS (tV (pkf tx T) (Lq ν) d a r) v a' w := by
  have hT := h.T80
  unfold b_X12_part_67 tV
  by_cases c1 : 48 ≤ pkf tx T a ∧ pkf tx T a ≤ 57
  · have c3 : a < T := pk_T (c := pkf tx T a) rfl (by omega)
    have e2 : pkf tx T a = tx a := if_pos c3
    have c1' := c1
    rw [e2] at c1'
    have hn := y_number (κ := κ) h (mo := 3) (a := a) (by decide) (by decide) ha
    rw [show nI 3 = (3 : Int32) from rfl] at hn
    have hs : ∃ q, rnm (pkf tx T) 3 a = some q := by
      unfold rnm
      rw [if_pos c1]
      exact ⟨_, rfl⟩
    obtain ⟨q, hq⟩ := hs
    rw [hq] at hn ⊢
    refine ⟨nI q.1, q.2, -1, ?_, Or.inl ⟨rfl, rfl, rfl, rfl⟩⟩
    rw [if_pos c3, in_yes (show (48 : Int32) ≤ nI (tx a) from nI_le (a := 48) c1'.1 (by omega)) (show nI (tx a) ≤ (57 : Int32) from nI_le (b := 57) c1'.2 (by decide)), obs]
    (try dsimp only)
    rw [if_neg (by decide), hn, obs]
  · have hno : ¬ ((48 : Int32) ≤ (if a < T then nI (tx a) else -1) ∧ (if a < T then nI (tx a) else -1) ≤ (57 : Int32)) := by
      by_cases c3 : a < T
      · have e2 : pkf tx T a = tx a := if_pos c3
        have := (h.2.2.2.2.2.2.2 a c3).1
        rw [if_pos c3]
        rintro ⟨z1, z2⟩
        have z1' : 48 ≤ tx a := (i_le (a := 48) (by omega) (by omega)).mp z1
        have z2' : tx a ≤ 57 := (i_le (b := 57) (by omega) (by omega)).mp z2
        rw [e2] at c1
        omega
      · rw [if_neg c3]
        rintro ⟨z, -⟩
        exact absurd z (by decide)
    rw [rnm_no c1, in_no hno, obs]
    (try dsimp only)
    rw [if_pos rfl, if_neg hc, y_letO, obs]
    (try dsimp only)
    by_cases c2 : pkf tx T a = 116 ∨ pkf tx T a = 107 ∨ pkf tx T a = 104 ∨ pkf tx T a = 110 ∨ pkf tx T a = 105 ∨ pkf tx T a = 111
    · have c3 : a < T := by
        rcases c2 with c | c | c | c | c | c <;> exact pk_T c (by decide)
      have e2 : pkf tx T a = tx a := if_pos c3
      obtain ⟨k, k1, k2, k3⟩ := lt_yes c2
      rw [if_pos c2, if_pos c3, ← e2, k2, if_neg (nI_m1 (by omega)), g127_15, obs, rdM_a, nI_1, p127_15, obs, rdM_15, g127_20, obs, rdM_j (by decide) (by decide)]
      by_cases c4 : ν.1 127 20 = 0
      · rw [if_pos c4]
        refine ⟨0, a + 1, -1, rfl, Or.inl ⟨rfl, ?_, rfl, rfl⟩⟩
        show (0 : Int32) = Lq ν (nI (pkf tx T a))
        unfold Lq
        rw [if_pos c4]
      · rw [if_neg c4, g127_21, obs, y_letO, obs]
        (try dsimp only)
        rw [k2, r135 k1, obs, rdM_n (by decide)]
        refine ⟨_, a + 1, -1, rfl, Or.inl ⟨rfl, ?_, rfl, rfl⟩⟩
        show ν.1 135 k = Lq ν (nI (pkf tx T a))
        unfold Lq
        rw [if_neg c4, k3]
    · have hl : ltI (if a < T then nI (tx a) else -1) = -1 := lt_no (fun z => c2 (by
        rcases z with z | z | z | z | z | z
        · exact Or.inl ((hv_eq h (c := 116) (by decide)).mp z)
        · exact Or.inr (Or.inl ((hv_eq h (c := 107) (by decide)).mp z))
        · exact Or.inr (Or.inr (Or.inl ((hv_eq h (c := 104) (by decide)).mp z)))
        · exact Or.inr (Or.inr (Or.inr (Or.inl ((hv_eq h (c := 110) (by decide)).mp z))))
        · exact Or.inr (Or.inr (Or.inr (Or.inr (Or.inl ((hv_eq h (c := 105) (by decide)).mp z)))))
        · exact Or.inr (Or.inr (Or.inr (Or.inr (Or.inr ((hv_eq h (c := 111) (by decide)).mp z)))))))
      rw [if_neg c2, hl, if_pos rfl, g127_15, obs, rdM_a, y_fault, obs, if_pos rfl]
      exact ⟨0, a, nI a, rfl, Or.inr ⟨rfl, rfl⟩⟩
theorem y_need (h : RD ν m ln tp T tx) {a c : Nat} (ha : a ≤ T) (hc : c < 256) : F_X12_need 127 (nI c) (hp κ (rdM ν a (-1))) = some (if pkf tx T a = c then hp κ (rdM ν (a + 1) (-1)) else hp κ (rdM ν a (nI a))) := by
  unfold F_X12_need
  rw [if_pos q127, y_passes h ha hc]
  by_cases c1 : pkf tx T a = c
  · rw [if_pos c1, if_pos c1, obs]
    (try dsimp only)
    rw [if_neg (by decide)]
  · rw [if_neg c1, if_neg c1, obs]
    (try dsimp only)
    rw [if_pos rfl, g127_15, obs, rdM_a, y_fault, obs, if_pos rfl]
theorem y_needB {a : Nat} {w : Int32} (hw : ¬ w = -1) (c : Int32) : F_X12_need 127 c (hp κ (rdM ν a w)) = some (hp κ (rdM ν a w)) := by
  unfold F_X12_need
  rw [if_pos q127, y_passesB hw, obs]
  (try dsimp only)
  rw [if_pos rfl, g127_15, obs, y_fault, obs, if_neg hw]
theorem y_partL (h : RD ν m ln tp T tx) (hT : T ≤ 40) {d f : Nat} (hd : d ≤ 4) (H0 : d < 4 → ∀ n a, a ≤ T → 4 * (3 - d) + (T - a) + 4 ≤ n → LvO κ ν (fun h => FG_X12_held n 0 127 (nI (d + 1)) h) a (rv (pkf tx T) (Lq ν) f 0 (d + 1) a)) : ∀ n a, a ≤ T → 4 * (4 - d) + (T - a) + 1 ≤ n → LvO κ ν (fun h => FG_X12_held n 3 127 (nI d) h) a (rv (pkf tx T) (Lq ν) (f + 2) 3 d a) := by
  intro n
  induction n with
  | zero => intro a _ hn; omega
  | succ n ih =>
    intro a ha hn
    show ∃ v a' w, G_X12_part (fun j a0 a1 h => FG_X12_held n j a0 a1 h) 127 (nI d) (hp κ (rdM ν a (-1))) = some (v, hp κ (rdM ν a' w)) ∧ RS _ v a' w
    have hps := y_passes (κ := κ) h (a := a) (c := 45) ha (by decide)
    have hps2 : F_X12_passes 127 45 (hp κ (rdM ν a (-1))) = if pkf tx T a = 45 then some (1, hp κ (rdM ν (a + 1) (-1))) else some (0, hp κ (rdM ν a (-1))) := hps
    unfold G_X12_part
    rw [if_pos q127, hps2]
    by_cases c : pkf tx T a = 45
    · have c3 := pk_T c (by decide)
      obtain ⟨v, a', w, g1, g2⟩ := ih (a + 1) (by omega) (by omega)
      have g1 : FG_X12_held n 3 127 (nI d) (hp κ (rdM ν (a + 1) (-1))) = some (v, hp κ (rdM ν a' w)) := g1
      rw [if_pos c, obs]
      (try dsimp only)
      rw [if_neg (by decide), g1, obs, rv3_m (f := f + 1) hT c]
      refine ⟨-v, a', w, rfl, ?_⟩
      rcases g2 with ⟨r1, r2, r3, r4⟩ | ⟨r1, r2⟩
      · exact Or.inl ⟨r1, by rw [r2], r3, r4⟩
      · exact Or.inr ⟨r1, r2⟩
    · rw [if_neg c, obs]
      (try dsimp only)
      rw [if_pos rfl, y_fine, obs]
      (try dsimp only)
      rw [if_pos rfl, if_neg (by decide), y_here h ha, obs, rv3_n (f := f + 1) c, rv_e4 (j := 0)]
      (try dsimp only)
      by_cases c4 : pkf tx T a = 40
      · have hv : (if a < T then nI (tx a) else -1) = (40 : Int32) := (hv_eq h (a := a) (c := 40) (by decide)).mpr c4
        by_cases c5 : d < 4
        · have c3 := pk_T c4 (by decide)
          obtain ⟨v, a2, w2, g1, g2⟩ := H0 c5 n (a + 1) (by omega) (by omega)
          have g1 : FG_X12_held n 0 127 (nI (d + 1)) (hp κ (rdM ν (a + 1) (-1))) = some (v, hp κ (rdM ν a2 w2)) := g1
          have gp := rv_pos (tx := tx) (T := T) (L := Lq ν) f 0 (d + 1) (a + 1) (by omega)
          rw [if_pos hv, if_neg (show ¬ (4 : Int32) ≤ nI d from nI_ge (b := 4) c5 (by decide)), g127_15, obs, rdM_a, nI_1, p127_15, obs, rdM_15, nI_1, g1, obs]
          (try dsimp only)
          unfold tV
          rw [rnm_no (by omega)]
          (try dsimp only)
          rw [if_pos ⟨c4, c5⟩]
          generalize rv (pkf tx T) (Lq ν) f 0 (d + 1) (a + 1) = r at g2 gp
          obtain ⟨p1, p2, p3⟩ := gp
          rcases g2 with ⟨r1, r2, r3, r4⟩ | ⟨r1, r2⟩
          · subst r3
            subst r4
            have hnd : F_X12_need 127 41 (hp κ (rdM ν r.2.1 (-1))) = some (if pkf tx T r.2.1 = 41 then hp κ (rdM ν (r.2.1 + 1) (-1)) else hp κ (rdM ν r.2.1 (nI r.2.1))) := y_need h (c := 41) p2 (by decide)
            rw [hnd, obs, if_pos r1]
            by_cases c6 : pkf tx T r.2.1 = 41
            · rw [if_pos c6, if_pos c6]
              exact ⟨v, _, _, rfl, Or.inl ⟨rfl, r2, rfl, rfl⟩⟩
            · rw [if_neg c6, if_neg c6]
              exact ⟨v, _, _, rfl, Or.inr ⟨rfl, rfl⟩⟩
          · rw [y_needB (by rw [r2]; exact nI_m1 (by omega)), obs, if_neg (by rw [r1]; decide)]
            exact ⟨v, _, _, rfl, Or.inr ⟨r1, r2⟩⟩
        · have hk := y_part67 (κ := κ) h (rc := fun j a0 a1 h => FG_X12_held n j a0 a1 h) (d := d) (r := rv (pkf tx T) (Lq ν) f 0 (d + 1) (a + 1)) ha (fun z => c5 z.2)
          rw [if_pos hv, if_pos (show (4 : Int32) ≤ nI d from nI_le (a := 4) (by omega) (by omega))]
          exact hk
      · have hv : ¬ (if a < T then nI (tx a) else -1) = (40 : Int32) := fun z => c4 ((hv_eq h (a := a) (c := 40) (by decide)).mp z)
        have hk := y_part67 (κ := κ) h (rc := fun j a0 a1 h => FG_X12_held n j a0 a1 h) (d := d) (r := rv (pkf tx T) (Lq ν) f 0 (d + 1) (a + 1)) ha (fun z => c4 z.1)
        rw [if_neg hv]
        exact hk
theorem y_heldL (h : RD ν m ln tp T tx) {rc : Nat → Nat → Int32 → ci_H → Option (Int32 × ci_H)} {rd : Nat → Rv} {dd : Int32} {a : Nat} (ha : a ≤ T) (hr : ∀ x, a ≤ x → x ≤ T → LvO κ ν (fun h => rc 1 127 dd h) x (rd x) ∧ PB T x (rd x)) : LvO κ ν (fun h => G_X12_held rc 127 dd h) a (cV (pkf tx T) (rd a) rd) := by
  have hT := h.T80
  obtain ⟨⟨v, a1, w1, g1, g2⟩, g3⟩ := hr a (Nat.le_refl _) ha
  have g1 : rc 1 127 dd (hp κ (rdM ν a (-1))) = some (v, hp κ (rdM ν a1 w1)) := g1
  show ∃ v a' w, G_X12_held rc 127 dd (hp κ (rdM ν a (-1))) = some (v, hp κ (rdM ν a' w)) ∧ RS _ v a' w
  unfold G_X12_held cV
  rw [if_pos q127, g1, obs]
  (try dsimp only)
  generalize rd a = q at g2 g3
  obtain ⟨p1, p2, p3⟩ := g3
  rcases g2 with ⟨r1, r2, r3, r4⟩ | ⟨r1, r2⟩
  · subst r3
    subst r4
    have k60 : F_X12_passes 127 60 (hp κ (rdM ν q.2.1 (-1))) = if pkf tx T q.2.1 = 60 then some (1, hp κ (rdM ν (q.2.1 + 1) (-1))) else some (0, hp κ (rdM ν q.2.1 (-1))) := y_passes h (c := 60) p2 (by decide)
    have k62 : F_X12_passes 127 62 (hp κ (rdM ν q.2.1 (-1))) = if pkf tx T q.2.1 = 62 then some (1, hp κ (rdM ν (q.2.1 + 1) (-1))) else some (0, hp κ (rdM ν q.2.1 (-1))) := y_passes h (c := 62) p2 (by decide)
    have k61 : F_X12_passes 127 61 (hp κ (rdM ν q.2.1 (-1))) = if pkf tx T q.2.1 = 61 then some (1, hp κ (rdM ν (q.2.1 + 1) (-1))) else some (0, hp κ (rdM ν q.2.1 (-1))) := y_passes h (c := 61) p2 (by decide)
    rw [if_pos r1, k60]
    by_cases c : pkf tx T q.2.1 = 60 ∨ pkf tx T q.2.1 = 62 ∨ pkf tx T q.2.1 = 61
    · have c3 : q.2.1 < T := by
        rcases c with c | c | c <;> exact pk_T c (by decide)
      obtain ⟨⟨v2, a2, w2, f1, f2⟩, f3⟩ := hr (q.2.1 + 1) (by omega) (by omega)
      have f1 : rc 1 127 dd (hp κ (rdM ν (q.2.1 + 1) (-1))) = some (v2, hp κ (rdM ν a2 w2)) := f1
      have go : RS ((rd (q.2.1 + 1)).1, (rd (q.2.1 + 1)).2.1, opv (nI (pkf tx T q.2.1)) q.2.2 (rd (q.2.1 + 1)).2.2) (opv (nI (pkf tx T q.2.1)) v v2) a2 w2 := by
        rcases f2 with ⟨s1, s2, s3, s4⟩ | ⟨s1, s2⟩
        · exact Or.inl ⟨s1, by rw [r2, s2], s3, s4⟩
        · exact Or.inr ⟨s1, s2⟩
      refine ⟨_, a2, w2, ?_, by rw [if_pos c]; exact go⟩
      rcases c with c | c | c
      · have e : opv (nI (pkf tx T q.2.1)) v v2 = if v2 ≤ v then 0 else 1 := by rw [c]; rfl
        rw [e, if_pos c, obs]
        (try dsimp only)
        rw [if_neg (by decide), f1, obs]
        (try dsimp only)
        split <;> rfl
      · have e : opv (nI (pkf tx T q.2.1)) v v2 = if v ≤ v2 then 0 else 1 := by rw [c]; rfl
        rw [e, if_neg (by omega), obs]
        (try dsimp only)
        rw [if_pos rfl, k62, if_pos c, obs]
        (try dsimp only)
        rw [if_neg (by decide), f1, obs]
        (try dsimp only)
        split <;> rfl
      · have e : opv (nI (pkf tx T q.2.1)) v v2 = if v = v2 then 1 else 0 := by rw [c]; rfl
        rw [e, if_neg (by omega), obs]
        (try dsimp only)
        rw [if_pos rfl, k62, if_neg (by omega), obs]
        (try dsimp only)
        rw [if_pos rfl, k61, if_pos c, obs]
        (try dsimp only)
        rw [if_neg (by decide), f1, obs]
        (try dsimp only)
        split <;> rfl
    · rw [if_neg c, if_neg (fun z => c (Or.inl z)), obs]
      (try dsimp only)
      rw [if_pos rfl, k62, if_neg (fun z => c (Or.inr (Or.inl z))), obs]
      (try dsimp only)
      rw [if_pos rfl, k61, if_neg (fun z => c (Or.inr (Or.inr z))), obs]
      (try dsimp only)
      rw [if_pos rfl]
      exact ⟨v, _, _, rfl, Or.inl ⟨r1, r2, rfl, rfl⟩⟩
  · have hw : ¬ w1 = -1 := by rw [r2]; exact nI_m1 (by omega)
    rw [if_neg (by rw [r1]; decide), y_passesB hw, obs]
    (try dsimp only)
    rw [if_pos rfl, y_passesB hw, obs]
    (try dsimp only)
    rw [if_pos rfl, y_passesB hw, obs]
    (try dsimp only)
    rw [if_pos rfl]
    exact ⟨v, _, _, rfl, Or.inr ⟨r1, r2⟩⟩
theorem y_levels (h : RD ν m ln tp T tx) (hT : T ≤ 40) : ∀ f j d a n, j ≤ 3 → d ≤ 4 → a ≤ T → 5 * (5 - d) ≤ f + j → 4 * (4 - d) + (T - a) + (4 - j) ≤ n → LvO κ ν (fun h => FG_X12_held n j 127 (nI d) h) a (rv (pkf tx T) (Lq ν) f j d a) := by
  intro f
  induction f using Nat.strongRecOn with
  | _ f ih =>
    intro j d a n hj hd ha hf hn
    obtain ⟨f, rfl⟩ : ∃ f2, f = f2 + 1 := ⟨f - 1, by omega⟩
    obtain ⟨n, rfl⟩ : ∃ n2, n = n2 + 1 := ⟨n - 1, by omega⟩
    have hb : bigN = (4959 : Nat) + 40 + 1 := rfl
    have hj4 : j = 0 ∨ j = 1 ∨ j = 2 ∨ j = 3 := by omega
    rcases hj4 with rfl | rfl | rfl | rfl
    · rw [rv_e0]
      exact y_heldL h ha (fun x h1 h2 => ⟨ih f (by omega) 1 d x n (by omega) hd h2 (by omega) (by omega), rv_pos f 1 d x h2⟩)
    · rw [rv_e1]
      have hr : ∀ x, a ≤ x → x ≤ T → LvO κ ν (fun h => FG_X12_held n 2 127 (nI d) h) x (rv (pkf tx T) (Lq ν) f 2 d x) ∧ PB T x (rv (pkf tx T) (Lq ν) f 2 d x) := fun x h1 h2 => ⟨ih f (by omega) 2 d x n (by omega) hd h2 (by omega) (by omega), rv_pos f 2 d x h2⟩
      obtain ⟨⟨v, a1, w1, g1, g2⟩, g3⟩ := hr a (Nat.le_refl _) ha
      obtain ⟨v', a', w', k1, k2⟩ := y_sumLp (κ := κ) h (rc := fun j a0 a1 h => FG_X12_held n j a0 a1 h) hr 40 _ v a1 w1 4959 g2 g3.1 g3.2.1 (by omega)
      refine ⟨v', a', w', ?_, k2⟩
      show G_X12_sum (fun j a0 a1 h => FG_X12_held n j a0 a1 h) 127 (nI d) (hp κ (rdM ν a (-1))) = _
      have g1 : FG_X12_held n 2 127 (nI d) (hp κ (rdM ν a (-1))) = some (v, hp κ (rdM ν a1 w1)) := g1
      unfold G_X12_sum
      rw [if_pos q127]
      (try dsimp only)
      rw [g1, obs]
      exact k1
    · rw [rv_e2]
      have hr : ∀ x, a ≤ x → x ≤ T → LvO κ ν (fun h => FG_X12_held n 3 127 (nI d) h) x (rv (pkf tx T) (Lq ν) f 3 d x) ∧ PB T x (rv (pkf tx T) (Lq ν) f 3 d x) := fun x h1 h2 => ⟨ih f (by omega) 3 d x n (by omega) hd h2 (by omega) (by omega), rv_pos f 3 d x h2⟩
      obtain ⟨⟨v, a1, w1, g1, g2⟩, g3⟩ := hr a (Nat.le_refl _) ha
      obtain ⟨v', a', w', k1, k2⟩ := y_proL (κ := κ) h (rc := fun j a0 a1 h => FG_X12_held n j a0 a1 h) hr 40 _ v a1 w1 4959 g2 g3.1 g3.2.1 (by omega)
      refine ⟨v', a', w', ?_, k2⟩
      show G_X12_product (fun j a0 a1 h => FG_X12_held n j a0 a1 h) 127 (nI d) (hp κ (rdM ν a (-1))) = _
      have g1 : FG_X12_held n 3 127 (nI d) (hp κ (rdM ν a (-1))) = some (v, hp κ (rdM ν a1 w1)) := g1
      unfold G_X12_product
      rw [if_pos q127]
      (try dsimp only)
      rw [g1, obs]
      exact k1
    · obtain ⟨f, rfl⟩ : ∃ f2, f = f2 + 1 := ⟨f - 1, by omega⟩
      exact y_partL h hT hd (fun hd4 n a ha hn => ih f (by omega) 0 (d + 1) a n (by omega) (by omega) ha (by omega) (by omega)) (n + 1) a ha (by omega)
theorem y_held (h : RD ν m ln tp T tx) (hT : T ≤ 40) : LvO κ ν (fun h => F_X12_held 127 0 h) 0 (rv (pkf tx T) (Lq ν) 100 0 0 0) :=
  y_levels h hT 100 0 0 0 100 (by decide) (by decide) (Nat.zero_le _) (by decide) (by omega)
end LVP
