/-! PURE: dealing: the most worth. -/
def At (al : Nat → Nat → Bool) (w : Nat → Nat → Nat) : Nat → Nat → Nat → Nat → Prop
  | 0, _, _, v => v = 0
  | n + 1, F, S, v => At al w n F S v ∨ (F.testBit n = true ∧ ∃ i, S.testBit i = true ∧ al i n = true ∧ ∃ v', At al w n F (sd S (2 ^ i)) v' ∧ v = v' + w i n)
theorem sd1_bit {S i j : Nat} : (sd S (2 ^ i)).testBit j = (S.testBit j && !decide (i = j)) := by rw [sd_bit, Nat.testBit_two_pow]
theorem sd1_n {S i j : Nat} (h : j ≠ i) : (sd S (2 ^ i)).testBit j = S.testBit j := by
  rw [sd1_bit, decide_eq_false (fun z => h z.symm)]
  simp
theorem sd1_s {S i : Nat} : (sd S (2 ^ i)).testBit i = false := by
  rw [sd1_bit, decide_eq_true rfl]
  simp
theorem sd1_y {S i j : Nat} (h : (sd S (2 ^ i)).testBit j = true) : S.testBit j = true ∧ j ≠ i := by
  rw [sd1_bit, Bool.and_eq_true] at h
  refine ⟨h.1, fun z => ?_⟩
  have := h.2
  rw [z, decide_eq_true rfl] at this
  cases this
theorem sd1_c {S i j : Nat} : sd (sd S (2 ^ i)) (2 ^ j) = sd (sd S (2 ^ j)) (2 ^ i) := by
  apply Nat.eq_of_testBit_eq
  intro k
  rw [sd1_bit, sd1_bit, sd1_bit, sd1_bit, Bool.and_assoc, Bool.and_assoc, Bool.and_comm (!decide (i = k))]
theorem sd1_sub {S S' i : Nat} (h : sub S S') : sub (sd S (2 ^ i)) (sd S' (2 ^ i)) := fun j hj => by
  obtain ⟨h1, h2⟩ := sd1_y hj
  rw [sd1_n h2]
  exact h j h1
section ATS
variable {al : Nat → Nat → Bool} {w : Nat → Nat → Nat}
theorem At_s {n F S v : Nat} : At al w (n + 1) F S v ↔ (At al w n F S v ∨ (F.testBit n = true ∧ ∃ i, S.testBit i = true ∧ al i n = true ∧ ∃ v', At al w n F (sd S (2 ^ i)) v' ∧ v = v' + w i n)) := Iff.rfl
theorem At_cg : ∀ (n : Nat) {F F' S v : Nat}, (∀ t, t < n → F.testBit t = F'.testBit t) → At al w n F S v → At al w n F' S v
  | 0, F, F', S, v, _, h => h
  | n + 1, F, F', S, v, e, h => by
    rcases h with h | ⟨h1, i, h2, h3, v', h4, h5⟩
    · exact Or.inl (At_cg n (fun t ht => e t (by omega)) h)
    · exact Or.inr ⟨by rw [← e n (by omega)]; exact h1, i, h2, h3, v', At_cg n (fun t ht => e t (by omega)) h4, h5⟩
theorem At_mono : ∀ (n : Nat) {F S S' v : Nat}, sub S S' → At al w n F S v → At al w n F S' v
  | 0, F, S, S', v, _, h => h
  | n + 1, F, S, S', v, e, h => by
    rcases h with h | ⟨h1, i, h2, h3, v', h4, h5⟩
    · exact Or.inl (At_mono n e h)
    · exact Or.inr ⟨h1, i, e i h2, h3, v', At_mono n (sd1_sub e) h4, h5⟩
theorem At_S0 : ∀ (n : Nat) {F v : Nat}, At al w n F 0 v ↔ v = 0
  | 0, F, v => Iff.rfl
  | n + 1, F, v => by
    rw [At_s, At_S0 n]
    constructor
    · rintro (h | ⟨-, i, h2, -⟩)
      · exact h
      · rw [Nat.zero_testBit] at h2; cases h2
    · exact Or.inl
theorem At_le (hw : ∀ i t, w i t ≤ 999) : ∀ (n : Nat) {F S v : Nat}, S < 4096 → At al w n F S v → v ≤ 1000 * cn S
  | 0, F, S, v, _, h => by
    have h : v = 0 := h
    omega
  | n + 1, F, S, v, hS, h => by
    rcases h with h | ⟨h1, i, h2, h3, v', h4, h5⟩
    · exact At_le hw n hS h
    · have h6 := At_le hw n (sd_lt (n := 12) hS) h4
      have hsb : sub (2 ^ i) S := fun j hj => by
        rw [Nat.testBit_two_pow] at hj
        rw [← of_decide_eq_true hj]
        exact h2
      have h7 := cn_sd hsb
      have h8 : 0 < cn (2 ^ i) := (cn_pos (hsb.lt hS)).mpr (fun z => by have := Nat.two_pow_pos i; omega)
      have := hw i n
      omega
/-- one house more -/
theorem At_ex : ∀ (n : Nat) {F S i v : Nat}, S.testBit i = true → (At al w n F S v ↔ (At al w n F (sd S (2 ^ i)) v ∨ ∃ t, t < n ∧ F.testBit t = true ∧ al i t = true ∧ ∃ v', At al w n (sd F (2 ^ t)) (sd S (2 ^ i)) v' ∧ v = v' + w i t))
  | 0, F, S, i, v, _ => ⟨Or.inl, fun h => by
    rcases h with h | ⟨t, ht, -⟩
    · exact h
    · omega⟩
  | n + 1, F, S, i, v, hi => by
    have hF : ∀ {S v : Nat}, At al w n (sd F (2 ^ n)) S v ↔ At al w n F S v := ⟨At_cg n (fun t ht => sd1_n (by omega)), At_cg n (fun t ht => (sd1_n (by omega)).symm)⟩
    constructor
    · rintro (h | ⟨h1, j, h2, h3, v', h4, h5⟩)
      · rcases (At_ex n hi).mp h with h | ⟨t, ht, k1, k2, v', k3, k4⟩
        · exact Or.inl (Or.inl h)
        · exact Or.inr ⟨t, by omega, k1, k2, v', Or.inl k3, k4⟩
      · by_cases c : j = i
        · subst c
          exact Or.inr ⟨n, by omega, h1, h3, v', Or.inl (hF.mpr h4), h5⟩
        · have hi2 : (sd S (2 ^ j)).testBit i = true := by rw [sd1_n (fun z => c z.symm)]; exact hi
          have hj2 : (sd S (2 ^ i)).testBit j = true := by rw [sd1_n c]; exact h2
          rcases (At_ex n hi2).mp h4 with h | ⟨t, ht, k1, k2, v'', k3, k4⟩
          · exact Or.inl (Or.inr ⟨h1, j, hj2, h3, v', by rw [sd1_c]; exact h, h5⟩)
          · refine Or.inr ⟨t, by omega, k1, k2, v'' + w j n, Or.inr ⟨by rw [sd1_n (by omega)]; exact h1, j, hj2, h3, v'', by rw [sd1_c (S := S)]; exact k3, rfl⟩, by omega⟩
    · rintro (h | ⟨t, ht, k1, k2, v', k3, k4⟩)
      · exact At_mono (n + 1) sub_sd h
      · by_cases c : t = n
        · subst c
          rcases k3 with k3 | ⟨k5, -⟩
          · exact Or.inr ⟨k1, i, hi, k2, v', hF.mp k3, k4⟩
          · rw [sd1_s] at k5; cases k5
        · rcases k3 with k3 | ⟨k5, j, k6, k7, v'', k8, k9⟩
          · exact Or.inl ((At_ex n hi).mpr (Or.inr ⟨t, by omega, k1, k2, v', k3, k4⟩))
          · obtain ⟨hj, hji⟩ := sd1_y k6
            have hi2 : (sd S (2 ^ j)).testBit i = true := by rw [sd1_n (fun z => hji z.symm)]; exact hi
            have h8 : At al w n F (sd S (2 ^ j)) (v'' + w i t) := (At_ex n hi2).mpr (Or.inr ⟨t, by omega, k1, k2, v'', by rw [sd1_c (S := S)]; exact k8, rfl⟩)
            exact Or.inr ⟨(sd1_y k5).1, j, hj, k7, v'' + w i t, h8, by omega⟩
end ATS
def Mx (P : Nat → Prop) (m : Nat) : Prop := P m ∧ ∀ v, P v → v ≤ m
theorem Mx.uniq {P : Nat → Prop} {a b : Nat} (h1 : Mx P a) (h2 : Mx P b) : a = b := Nat.le_antisymm (h2.2 a h1.1) (h1.2 b h2.1)
theorem Mx.iff {P Q : Nat → Prop} {a : Nat} (h : Mx P a) (e : ∀ v, P v ↔ Q v) : Mx Q a := ⟨(e a).mp h.1, fun v hv => h.2 v ((e v).mpr hv)⟩
theorem Mx.or {P Q : Nat → Prop} {a b : Nat} (h1 : Mx P a) (h2 : Mx Q b) : Mx (fun v => P v ∨ Q v) (if a < b then b else a) := by
  by_cases c : a < b
  · rw [if_pos c]
    refine ⟨Or.inr h2.1, fun v hv => ?_⟩
    rcases hv with hv | hv
    · have := h1.2 v hv; omega
    · exact h2.2 v hv
  · rw [if_neg c]
    refine ⟨Or.inl h1.1, fun v hv => ?_⟩
    rcases hv with hv | hv
    · exact h1.2 v hv
    · have := h2.2 v hv; omega
theorem Mx.add {P : Nat → Prop} {a c : Nat} (h : Mx P a) : Mx (fun v => ∃ v', P v' ∧ v = v' + c) (a + c) := ⟨⟨a, h.1, rfl⟩, fun v hv => by
  obtain ⟨v', h1, h2⟩ := hv
  have := h.2 v' h1
  omega⟩
abbrev Pd : Type := Nat × List Int32
def bdF (al : Nat → Nat → Bool) (w : Nat → Nat → Nat) (rec : Nat → Pd) (free h : Nat) (acc : Pd) : Nat → Pd
  | 0 => acc
  | t + 1 => if (free.testBit t && al h t) = true then (if (bdF al w rec free h acc t).1 < (rec (sd free (2 ^ t))).1 + w h t then ((rec (sd free (2 ^ t))).1 + w h t, nI t :: (rec (sd free (2 ^ t))).2) else bdF al w rec free h acc t) else bdF al w rec free h acc t
theorem bdF_s {al : Nat → Nat → Bool} {w : Nat → Nat → Nat} {rec : Nat → Pd} {free h : Nat} {acc : Pd} {t : Nat} : bdF al w rec free h acc (t + 1) = if (free.testBit t && al h t) = true then (if (bdF al w rec free h acc t).1 < (rec (sd free (2 ^ t))).1 + w h t then ((rec (sd free (2 ^ t))).1 + w h t, nI t :: (rec (sd free (2 ^ t))).2) else bdF al w rec free h acc t) else bdF al w rec free h acc t := rfl
def bd (al : Nat → Nat → Bool) (w : Nat → Nat → Nat) (tc : Nat) : Nat → Nat → Nat → Pd
  | 0, _, _ => (0, [])
  | n + 1, h, free => bdF al w (fun fr => bd al w tc n (h + 1) fr) free h ((bd al w tc n (h + 1) free).1, -1 :: (bd al w tc n (h + 1) free).2) tc
theorem bd_s {al : Nat → Nat → Bool} {w : Nat → Nat → Nat} {tc n h free : Nat} : bd al w tc (n + 1) h free = bdF al w (fun fr => bd al w tc n (h + 1) fr) free h ((bd al w tc n (h + 1) free).1, -1 :: (bd al w tc n (h + 1) free).2) tc := rfl
section BDS
variable {al : Nat → Nat → Bool} {w : Nat → Nat → Nat} {tc : Nat}
/-- what the first house gets -/
theorem bdF_spec {rec : Nat → Pd} {free h : Nat} {acc : Pd} : ∀ k, acc.1 ≤ (bdF al w rec free h acc k).1 ∧ (∀ t, t < k → free.testBit t = true → al h t = true → (rec (sd free (2 ^ t))).1 + w h t ≤ (bdF al w rec free h acc k).1) ∧ ((bdF al w rec free h acc k = acc) ∨ (acc.1 < (bdF al w rec free h acc k).1 ∧ ∃ t, t < k ∧ free.testBit t = true ∧ al h t = true ∧ bdF al w rec free h acc k = ((rec (sd free (2 ^ t))).1 + w h t, nI t :: (rec (sd free (2 ^ t))).2) ∧ ∀ t', t' < t → free.testBit t' = true → al h t' = true → (rec (sd free (2 ^ t'))).1 + w h t' < (bdF al w rec free h acc k).1))
  | 0 => ⟨Nat.le_refl _, fun t ht => absurd ht (Nat.not_lt_zero _), Or.inl rfl⟩
  | k + 1 => by
    obtain ⟨h1, h2, h3⟩ := bdF_spec (rec := rec) (free := free) (h := h) (acc := acc) k
    rw [bdF_s]
    generalize bdF al w rec free h acc k = R at h1 h2 h3
    by_cases c : (free.testBit k && al h k) = true
    · rw [if_pos c]
      rw [Bool.and_eq_true] at c
      by_cases c2 : R.1 < (rec (sd free (2 ^ k))).1 + w h k
      · rw [if_pos c2]
        refine ⟨by show acc.1 ≤ (rec (sd free (2 ^ k))).1 + w h k; omega, fun t ht t1 t2 => ?_, Or.inr ⟨by show acc.1 < (rec (sd free (2 ^ k))).1 + w h k; omega, k, by omega, c.1, c.2, rfl, fun t' ht t1 t2 => ?_⟩⟩
        · show _ ≤ (rec (sd free (2 ^ k))).1 + w h k
          by_cases z : t = k
          · subst z; exact Nat.le_refl _
          · have := h2 t (by omega) t1 t2; omega
        · show _ < (rec (sd free (2 ^ k))).1 + w h k
          have := h2 t' ht t1 t2
          omega
      · rw [if_neg c2]
        refine ⟨h1, fun t ht t1 t2 => ?_, ?_⟩
        · by_cases z : t = k
          · subst z; omega
          · exact h2 t (by omega) t1 t2
        · rcases h3 with h3 | ⟨h3, t, t1, t2⟩
          · exact Or.inl h3
          · exact Or.inr ⟨h3, t, by omega, t2⟩
    · rw [if_neg c]
      refine ⟨h1, fun t ht t1 t2 => ?_, ?_⟩
      · by_cases z : t = k
        · subst z
          exact absurd (by rw [t1, t2]; rfl) c
        · exact h2 t (by omega) t1 t2
      · rcases h3 with h3 | ⟨h3, t, t1, t2⟩
        · exact Or.inl h3
        · exact Or.inr ⟨h3, t, by omega, t2⟩
/-- houses h .. h + n - 1 -/
def hS (h n : Nat) : Nat := sb (fun i => decide (h ≤ i)) (h + n)
theorem hS_bit {h n i : Nat} : (hS h n).testBit i = (decide (i < h + n) && decide (h ≤ i)) := sb_bit _ _ _
theorem hS_0 {h : Nat} : hS h 0 = 0 := by
  apply Nat.eq_of_testBit_eq
  intro i
  rw [hS_bit, Nat.zero_testBit]
  by_cases c : i < h + 0
  · rw [decide_eq_false (show ¬ h ≤ i by omega), Bool.and_false]
  · rw [decide_eq_false c, Bool.false_and]
theorem hS_s {h n : Nat} : sd (hS h (n + 1)) (2 ^ h) = hS (h + 1) n := by
  apply Nat.eq_of_testBit_eq
  intro i
  rw [sd1_bit, hS_bit, hS_bit, show h + (n + 1) = h + 1 + n by omega, Bool.and_assoc]
  congr 1
  by_cases c : h = i
  · rw [decide_eq_true c, decide_eq_false (show ¬ h + 1 ≤ i by omega)]
    simp
  · rw [decide_eq_false c]
    have : decide (h ≤ i) = decide (h + 1 ≤ i) := decide_eq_decide.mpr ⟨fun z => by omega, fun z => by omega⟩
    rw [this]
    simp
theorem bd_mx : ∀ (n h free : Nat), Mx (At al w tc free (hS h n)) (bd al w tc n h free).1
  | 0, h, free => by
    rw [hS_0]
    exact ⟨(At_S0 tc).mpr rfl, fun v hv => by rw [At_S0] at hv; omega⟩
  | n + 1, h, free => by
    have ih := fun fr => bd_mx n (h + 1) fr
    have hb : (hS h (n + 1)).testBit h = true := by
      rw [hS_bit, decide_eq_true (show h < h + (n + 1) by omega), decide_eq_true (Nat.le_refl h)]
      rfl
    have hex := fun v => At_ex (al := al) (w := w) tc (F := free) (v := v) hb
    rw [bd_s]
    obtain ⟨h1, h2, h3⟩ := bdF_spec (al := al) (w := w) (rec := fun fr => bd al w tc n (h + 1) fr) (free := free) (h := h) (acc := ((bd al w tc n (h + 1) free).1, -1 :: (bd al w tc n (h + 1) free).2)) tc
    generalize bdF al w (fun fr => bd al w tc n (h + 1) fr) free h ((bd al w tc n (h + 1) free).1, -1 :: (bd al w tc n (h + 1) free).2) tc = R at h1 h2 h3
    refine ⟨(hex _).mpr ?_, fun v hv => ?_⟩
    · rw [hS_s]
      rcases h3 with h3 | ⟨-, t, t1, t2, t3, t4, -⟩
      · rw [h3]
        exact Or.inl (ih free).1
      · rw [t4]
        exact Or.inr ⟨t, t1, t2, t3, _, (ih (sd free (2 ^ t))).1, rfl⟩
    · rcases (hex v).mp hv with hv | ⟨t, t1, t2, t3, v', t4, t5⟩
      · rw [hS_s] at hv
        exact Nat.le_trans ((ih free).2 v hv) h1
      · rw [hS_s] at t4
        have k1 := (ih (sd free (2 ^ t))).2 v' t4
        have k2 := h2 t t1 t2 t3
        have k2 : (bd al w tc n (h + 1) (sd free (2 ^ t))).1 + w h t ≤ R.1 := k2
        omega
theorem bd_len : ∀ (n h free : Nat), (bd al w tc n h free).2.length = n
  | 0, h, free => rfl
  | n + 1, h, free => by
    rw [bd_s]
    rcases (bdF_spec (al := al) (w := w) (rec := fun fr => bd al w tc n (h + 1) fr) (free := free) (h := h) (acc := ((bd al w tc n (h + 1) free).1, -1 :: (bd al w tc n (h + 1) free).2)) tc).2.2 with h3 | ⟨-, t, -, -, -, t4, -⟩
    · rw [h3]
      show (bd al w tc n (h + 1) free).2.length + 1 = n + 1
      rw [bd_len n]
    · rw [t4]
      show (bd al w tc n (h + 1) (sd free (2 ^ t))).2.length + 1 = n + 1
      rw [bd_len n]
end BDS
/-! the reference's record -/
def Rs (G : List Int32 → (Nat → Int32) → Prop) (o : Pd) (sm b : Nat) (f : Nat → Int32) (b' : Nat) (f' : Nat → Int32) : Prop := (b ≤ sm + o.1 → b' = sm + o.1 + 1 ∧ G o.2 f') ∧ (¬ b ≤ sm + o.1 → b' = b ∧ f' = f)
theorem Rs.bt {G : List Int32 → (Nat → Int32) → Prop} {a c : Pd} {sm b b1 b2 : Nat} {f f1 f2 : Nat → Int32} (H1 : Rs G a sm b f b1 f1) (H2 : Rs G c sm b1 f1 b2 f2) : Rs G (if a.1 < c.1 then c else a) sm b f b2 f2 := by
  by_cases z : a.1 < c.1
  · rw [if_pos z]
    refine ⟨fun hl => ?_, fun hn => ?_⟩
    · by_cases c2 : b ≤ sm + a.1
      · exact H2.1 (by rw [(H1.1 c2).1]; omega)
      · exact H2.1 (by rw [(H1.2 c2).1]; exact hl)
    · obtain ⟨e1, e2⟩ := H1.2 (by omega)
      obtain ⟨e3, e4⟩ := H2.2 (by rw [e1]; exact hn)
      exact ⟨e3.trans e1, e4.trans e2⟩
  · rw [if_neg z]
    refine ⟨fun hl => ?_, fun hn => ?_⟩
    · obtain ⟨e1, e2⟩ := H1.1 hl
      obtain ⟨e3, e4⟩ := H2.2 (by rw [e1]; omega)
      rw [e3, e4]
      exact ⟨e1, e2⟩
    · obtain ⟨e1, e2⟩ := H1.2 hn
      obtain ⟨e3, e4⟩ := H2.2 (by rw [e1]; omega)
      exact ⟨e3.trans e1, e4.trans e2⟩
