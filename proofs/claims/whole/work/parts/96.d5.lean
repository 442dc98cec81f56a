/-! PURE: pair: kinds. -/
theorem lts_no {pk : Nat → Nat} {no : Nat} : ∀ n b a, b &&& no = 0 → (lts pk no n b a).1 &&& no = 0
  | 0, b, a, h => h
  | n + 1, b, a, h => by
    rw [lts_s]
    split
    next c =>
      refine lts_no n _ _ ?_
      apply Nat.eq_of_testBit_eq
      intro i
      have h1 : (b &&& no).testBit i = false := by rw [h, Nat.zero_testBit]
      rw [Nat.testBit_and] at h1
      rw [Nat.testBit_and, Nat.zero_testBit, fb_bit_set]
      by_cases z : i = pk a - 97
      · rw [z, c.2.2.2, Bool.and_false]
      · rw [decide_eq_false z, Bool.or_false]
        exact h1
    · exact h
def KdI (x : Int32 × Int32) : Prop := ∃ a b, a < 64 ∧ b < 64 ∧ a ≠ 0 ∧ a &&& b = 0 ∧ x.1 = nI a ∧ x.2 = nI b
theorem k1_ok {tx : Nat → Nat} {T a : Nat} (ha : a ≤ T) (h : (k1 (pkf tx T) a).1 = true) : KdI (k1 (pkf tx T) a).2.2 := by
  obtain ⟨p1, p2, p3⟩ := lts_pos (tx := tx) (T := T) (no := 0) 6 0 a ha (by decide)
  unfold k1 at h ⊢
  split at h
  · cases h
  next c0 =>
    rw [if_neg c0]
    split at h
    next c1 =>
      rw [if_pos c1]
      have c3 := pk_T c1 (by decide)
      obtain ⟨s1, s2, s3⟩ := lts_pos (tx := tx) (T := T) (no := (lts (pkf tx T) 0 6 0 a).1) 6 0 ((lts (pkf tx T) 0 6 0 a).2 + 1) (by omega) (by decide)
      split at h
      · cases h
      next c2 =>
        rw [if_neg c2]
        refine ⟨_, _, p3, s3, c0, ?_, rfl, rfl⟩
        rw [Nat.and_comm]
        exact lts_no 6 0 _ (Nat.zero_and _)
    next c1 =>
      rw [if_neg c1]
      exact ⟨_, 0, p3, by decide, c0, Nat.and_zero _, rfl, rfl⟩
theorem rdl_ok {one : Nat → It} {tx : Nat → Nat} {T room : Nat} {P : Int32 × Int32 → Prop} (ho : ∀ a, a ≤ T → (one a).1 = true → P (one a).2.2) (hp1 : ∀ a, a ≤ T → (one a).2.1 ≤ T) : ∀ n i a, a ≤ T → (rdl one (pkf tx T) room n i a).2.1 ≤ T ∧ ((rdl one (pkf tx T) room n i a).1 = true → 1 ≤ (rdl one (pkf tx T) room n i a).2.2.length ∧ ∀ x, x ∈ (rdl one (pkf tx T) room n i a).2.2 → P x)
  | 0, i, a, h => ⟨h, fun z => nomatch z⟩
  | n + 1, i, a, h => by
    rw [rdl_s]
    split
    · exact ⟨h, fun z => nomatch z⟩
    · split
      next hb =>
        split
        next c =>
          have c3 := pk_T c (by decide)
          obtain ⟨h1, h2⟩ := rdl_ok ho hp1 (room := room) n (i + 1) ((one a).2.1 + 1) (by omega)
          refine ⟨h1, fun z => ⟨by show 1 ≤ (_ :: _ : List (Int32 × Int32)).length; rw [List.length_cons]; omega, fun x hx => ?_⟩⟩
          rcases List.mem_cons.mp hx with hx | hx
          · rw [hx]; exact ho a h hb
          · exact (h2 z).2 x hx
        · refine ⟨hp1 a h, fun _ => ⟨Nat.le_refl _, fun x hx => ?_⟩⟩
          rw [List.mem_singleton.mp hx]
          exact ho a h hb
      · exact ⟨hp1 a h, fun z => nomatch z⟩
theorem kx_0 {μ : Mem} {T : Nat} : upI (upI μ 11 2 0) 11 3 (nI T) = kxM (upI μ 11 3 (nI T)) 0 (μ.1 14) (μ.1 15) := by
  refine Prod.ext ?_ rfl
  funext z
  by_cases c1 : z = 11
  · subst c1
    show upd (upd (μ.1 11) 2 0) 3 (nI T) = upd (upd (μ.1 11) 3 (nI T)) 2 (nI 0)
    rw [fa_upd_swap _ (by decide : (2 : Nat) ≠ 3)]
    rfl
  · rw [rowI_n c1, rowI_n c1]
    by_cases c2 : z = 14
    · subst c2; rfl
    · by_cases c3 : z = 15
      · subst c3; rfl
      · unfold kxM
        rw [rowI_n c3, rowI_n c2, rowI_n c1, rowI_n c1]
theorem cl_i3 {ξ : Mem} {f1 f2 f3 : Nat → Int32} : cl (rowI (rowI (rowI ξ 14 f1) 15 f2) 133 f3) = cl ξ := by
  rw [cl_row rfl (fun j => rfl), cl_row rfl (fun j => rfl), cl_row rfl (fun j => rfl)]
theorem x_openT {κ : Kp} {μ : Mem} {ln tp : Nat} (h1 : μ.1 11 1 = nI ln) (hl : ln ≤ 80) (ht : tp ≤ 80) : F_X9_open 11 (nI tp) (hp κ μ) = some (hp κ (kxM (upI μ 11 3 (nI (if ln ≤ tp then ln else tp))) 0 (μ.1 14) (μ.1 15))) := by
  have e1 : (upI μ 11 2 0).1 11 1 = nI ln := h1
  have e3 : (if nI tp < nI ln then nI tp else nI ln) = nI (if ln ≤ tp then ln else tp) := by
    by_cases c : ln ≤ tp
    · rw [if_pos c, if_neg (nI_nlt c (by omega))]
    · rw [if_neg c, if_pos (nI_lt (by omega) (by omega))]
  unfold F_X9_open
  rw [if_pos q11, p11_2, obs, g11_1, obs, e1, e3, p11_3, obs, kx_0]
theorem x_readK {κ : Kp} {μ : Mem} {ln T kc : Nat} {tx : Nat → Nat} (h1 : μ.1 11 1 = nI ln) (hl : ln ≤ 80) (hT : T = if ln ≤ 60 then ln else 60) (h : ∀ i, i < ln → tx i < 256 ∧ μ.1 12 i = nI (tx i)) (hk : kc ≤ 6) : ∃ g f, F_X8_readKinds 13 (nI (6 - kc)) (hp κ μ) = some (if (rdl (k1 (pkf tx T)) (pkf tx T) (6 - kc) 20 0 0).1 = true ∧ (rdl (k1 (pkf tx T)) (pkf tx T) (6 - kc) 20 0 0).2.1 = ln then nI (rdl (k1 (pkf tx T)) (pkf tx T) (6 - kc) 20 0 0).2.2.length else -1 - nI (rdl (k1 (pkf tx T)) (pkf tx T) (6 - kc) 20 0 0).2.1, hp κ (kxM (upI μ 11 3 (nI T)) (rdl (k1 (pkf tx T)) (pkf tx T) (6 - kc) 20 0 0).2.1 g f)) ∧ ((rdl (k1 (pkf tx T)) (pkf tx T) (6 - kc) 20 0 0).1 = true → Its g f 0 (rdl (k1 (pkf tx T)) (pkf tx T) (6 - kc) 20 0 0).2.2) := by
  have hT2 : T ≤ 60 ∧ T ≤ ln := by split at hT <;> omega
  have hTX : TX (upI μ 11 3 (nI T)).1 T tx := ⟨rfl, by omega, fun i hi => h i (by omega)⟩
  obtain ⟨g, f, e1, -, e3⟩ := x_kindsL (κ := κ) hTX (ln := ln) h1 hl (room := 6 - kc) (by omega) 20 0 0 4980 (μ.1 14) (μ.1 15) (by omega) (Nat.zero_le _) (by omega)
  refine ⟨g, f, ?_, e3⟩
  have ho := x_openT (κ := κ) (tp := 60) h1 hl (by decide)
  rw [← hT] at ho
  have ho : F_X9_open 11 60 (hp κ μ) = _ := ho
  unfold F_X8_readKinds
  rw [if_pos q13, g13_0, obs, ho, obs]
  rw [Nat.zero_add] at e1
  exact e1
