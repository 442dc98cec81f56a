/-! PURE: a rule, read and computed by the reference. -/
def PB (T a : Nat) (q : Rv) : Prop := a ≤ q.2.1 ∧ q.2.1 ≤ T ∧ (q.1 = true → a < q.2.1)
section POS
variable {tx : Nat → Nat} {T : Nat} {L : Int32 → Int32}
theorem rgo_pos : ∀ n v a, a ≤ T → a ≤ (rgo (pkf tx T) n v a).2 ∧ (rgo (pkf tx T) n v a).2 ≤ T
  | 0, v, a, h => ⟨Nat.le_refl _, h⟩
  | n + 1, v, a, h => by
    rw [rgo_s]
    split
    next c =>
      have c3 : a < T := pk_T (c := pkf tx T a) rfl (by omega)
      obtain ⟨h1, h2⟩ := rgo_pos n (10 * v + (pkf tx T a - 48)) (a + 1) (by omega)
      exact ⟨by omega, h2⟩
    · exact ⟨Nat.le_refl _, h⟩
theorem rnm_pos {mo a : Nat} {q : Nat × Nat} (h : rnm (pkf tx T) mo a = some q) (ha : a ≤ T) : a < q.2 ∧ q.2 ≤ T := by
  unfold rnm at h
  split at h
  next c =>
    have c3 : a < T := pk_T (c := pkf tx T a) rfl (by omega)
    have e := Option.some.inj h
    obtain ⟨h1, h2⟩ := rgo_pos (tx := tx) (T := T) (mo - 1) (pkf tx T a - 48) (a + 1) (by omega)
    rw [e] at h1 h2
    exact ⟨by omega, h2⟩
  · cases h
theorem rmi_pos : ∀ n b a, a ≤ T → a ≤ (rmi (pkf tx T) n b a).2 ∧ (rmi (pkf tx T) n b a).2 ≤ T
  | 0, b, a, h => ⟨Nat.le_refl _, h⟩
  | n + 1, b, a, h => by
    unfold rmi
    split
    next c =>
      have c3 : a < T := pk_T c (by decide)
      obtain ⟨h1, h2⟩ := rmi_pos n (!b) (a + 1) (by omega)
      exact ⟨by omega, h2⟩
    · exact ⟨Nat.le_refl _, h⟩
theorem rvl_pos {rc : Nat → Rv} {o1 o2 a0 : Nat} (h1 : o1 ≠ 999) (h2 : o2 ≠ 999) (hr : ∀ x, x ≤ T → PB T x (rc x)) : ∀ n q, PB T a0 q → PB T a0 (rvl (pkf tx T) rc o1 o2 n q)
  | 0, q, h => h
  | n + 1, q, h => by
    unfold rvl
    split
    next hq =>
      split
      next ho =>
        have c3 : q.2.1 < T := by
          rcases ho with ho | ho
          · exact pk_T ho h1
          · exact pk_T ho h2
        obtain ⟨k1, k2, k3⟩ := hr (q.2.1 + 1) (by omega)
        have := h.1
        exact rvl_pos h1 h2 hr n _ ⟨by show a0 ≤ (rc (q.2.1 + 1)).2.1; omega, k2, fun _ => by show a0 < (rc (q.2.1 + 1)).2.1; omega⟩
      · exact h
    · exact h
theorem rv_pos : ∀ f j d a, a ≤ T → PB T a (rv (pkf tx T) L f j d a)
  | 0, j, d, a, h => ⟨Nat.le_refl _, h, fun z => nomatch z⟩
  | f + 1, 0, d, a, h => by
    rw [rv_e0]
    have h1 := rv_pos f 1 d a h
    have h2 : ∀ x, x ≤ T → PB T x (rv (pkf tx T) L f 1 d x) := fun x hx => rv_pos f 1 d x hx
    generalize rv (pkf tx T) L f 1 d a = q at h1
    unfold cV
    split
    next hq =>
      split
      next ho =>
        have c3 : q.2.1 < T := by
          rcases ho with ho | ho | ho
          · exact pk_T ho (by decide)
          · exact pk_T ho (by decide)
          · exact pk_T ho (by decide)
        obtain ⟨k1, k2, k3⟩ := h2 (q.2.1 + 1) (by omega)
        have := h1.1
        refine ⟨?_, k2, fun _ => ?_⟩
        · show a ≤ (rv (pkf tx T) L f 1 d (q.2.1 + 1)).2.1
          omega
        · show a < (rv (pkf tx T) L f 1 d (q.2.1 + 1)).2.1
          omega
      · exact h1
    · exact h1
  | f + 1, 1, d, a, h => by
    rw [rv_e1]
    exact rvl_pos (by decide) (by decide) (fun x hx => rv_pos f 2 d x hx) 40 _ (rv_pos f 2 d a h)
  | f + 1, 2, d, a, h => by
    rw [rv_e2]
    exact rvl_pos (by decide) (by decide) (fun x hx => rv_pos f 3 d x hx) 40 _ (rv_pos f 3 d a h)
  | f + 1, 3, d, a, h => by
    rw [rv_e3]
    obtain ⟨h1, h2⟩ := rmi_pos (tx := tx) 40 false a h
    obtain ⟨k1, k2, k3⟩ := rv_pos f 4 d _ h2
    exact ⟨Nat.le_trans h1 k1, k2, fun z => Nat.lt_of_le_of_lt h1 (k3 z)⟩
  | f + 1, j + 4, d, a, h => by
    rw [rv_e4]
    unfold tV
    cases hm : rnm (pkf tx T) 3 a with
    | some q =>
      obtain ⟨h1, h2⟩ := rnm_pos hm h
      exact ⟨Nat.le_of_lt h1, h2, fun _ => h1⟩
    | none =>
      (try dsimp only)
      split
      next c =>
        have c3 : a < T := pk_T c.1 (by decide)
        have h1 := rv_pos f 0 (d + 1) (a + 1) (by omega)
        generalize rv (pkf tx T) L f 0 (d + 1) (a + 1) = q at h1
        obtain ⟨k1, k2, k3⟩ := h1
        split
        next hq =>
          split
          next c4 =>
            have c5 : q.2.1 < T := pk_T c4 (by decide)
            refine ⟨?_, ?_, fun _ => ?_⟩
            · show a ≤ q.2.1 + 1; omega
            · show q.2.1 + 1 ≤ T; omega
            · show a < q.2.1 + 1; omega
          · refine ⟨?_, k2, fun z => nomatch z⟩
            show a ≤ q.2.1
            omega
        · exact ⟨by omega, k2, fun z => by have := k3 z; omega⟩
      · split
        next c =>
          have c3 : a < T := by
            rcases c with c | c | c | c | c | c <;> exact pk_T c (by decide)
          exact ⟨by show a ≤ a + 1; omega, by show a + 1 ≤ T; omega, fun _ => by show a < a + 1; omega⟩
        · exact ⟨Nat.le_refl _, h, fun z => nomatch z⟩
theorem rmi_neg {pk : Nat → Nat} : ∀ n b a, rmi pk n (!b) a = (!(rmi pk n b a).1, (rmi pk n b a).2)
  | 0, b, a => rfl
  | n + 1, b, a => by
    unfold rmi
    split
    · exact rmi_neg n (!b) (a + 1)
    · rfl
theorem rmi_st : ∀ n b a, T - a ≤ n → rmi (pkf tx T) n b a = rmi (pkf tx T) (n + 1) b a
  | 0, b, a, h => by
    show (b, a) = (if pkf tx T a = 45 then rmi (pkf tx T) 0 (!b) (a + 1) else (b, a))
    rw [if_neg]
    intro c
    have := pk_T c (by decide)
    omega
  | n + 1, b, a, h => by
    have ih := rmi_st n (!b) (a + 1) (by omega)
    show (if pkf tx T a = 45 then rmi (pkf tx T) n (!b) (a + 1) else (b, a)) = (if pkf tx T a = 45 then rmi (pkf tx T) (n + 1) (!b) (a + 1) else (b, a))
    rw [ih]
/-- a sign more: the negative -/
theorem rv3_m {f d a : Nat} (hT : T ≤ 40) (hc : pkf tx T a = 45) : rv (pkf tx T) L (f + 1) 3 d a = ((rv (pkf tx T) L (f + 1) 3 d (a + 1)).1, (rv (pkf tx T) L (f + 1) 3 d (a + 1)).2.1, -(rv (pkf tx T) L (f + 1) 3 d (a + 1)).2.2) := by
  have c3 := pk_T hc (by decide)
  have e1 : rmi (pkf tx T) 40 false a = rmi (pkf tx T) 39 true (a + 1) := by
    show (if pkf tx T a = 45 then rmi (pkf tx T) 39 (!false) (a + 1) else (false, a)) = _
    rw [if_pos hc]
    rfl
  have e2 : rmi (pkf tx T) 39 true (a + 1) = (!(rmi (pkf tx T) 40 false (a + 1)).1, (rmi (pkf tx T) 40 false (a + 1)).2) := by
    rw [rmi_st 39 true (a + 1) (by omega)]
    exact rmi_neg 40 false (a + 1)
  rw [rv_e3, rv_e3, e1, e2]
  (try dsimp only)
  cases (rmi (pkf tx T) 40 false (a + 1)).1 with
  | false => rfl
  | true =>
    simp only [Bool.not_true, Bool.false_eq_true, ↓reduceIte]
    rw [Int32.neg_neg]
theorem rv3_n {f d a : Nat} (hc : ¬ pkf tx T a = 45) : rv (pkf tx T) L (f + 1) 3 d a = rv (pkf tx T) L f 4 d a := by
  have e1 : rmi (pkf tx T) 40 false a = (false, a) := by
    show (if pkf tx T a = 45 then rmi (pkf tx T) 39 (!false) (a + 1) else (false, a)) = _
    rw [if_neg hc]
  rw [rv_e3, e1]
  rfl
end POS
def RS (q : Rv) (v : Int32) (a : Nat) (w : Int32) : Prop := (q.1 = true ∧ v = q.2.2 ∧ a = q.2.1 ∧ w = -1) ∨ (q.1 = false ∧ w = nI q.2.1)
def LvO (κ : Kp) (ν : Mem) (F : ci_H → Option (Int32 × ci_H)) (x : Nat) (q : Rv) : Prop := ∃ v a w, F (hp κ (rdM ν x (-1))) = some (v, hp κ (rdM ν a w)) ∧ RS q v a w
section LVL
variable {κ : Kp} {ν : Mem} {m ln tp T : Nat} {tx : Nat → Nat} {L : Int32 → Int32}
theorem y_sumLp (h : RD ν m ln tp T tx) {rc : Nat → Nat → Int32 → ci_H → Option (Int32 × ci_H)} {rd : Nat → Rv} {dd : Int32} {x0 : Nat} (hr : ∀ x, x0 ≤ x → x ≤ T → LvO κ ν (fun h => rc 2 127 dd h) x (rd x) ∧ PB T x (rd x)) : ∀ (n : Nat) (q : Rv) (v : Int32) (a : Nat) (w : Int32) (F : Nat), RS q v a w → x0 ≤ q.2.1 → q.2.1 ≤ T → T - q.2.1 ≤ n → ∃ v' a' w', b_X12_sum_6 rc 127 dd (F + n + 1) v (hp κ (rdM ν a w)) = some (v', hp κ (rdM ν a' w')) ∧ RS (rvl (pkf tx T) rd 43 45 n q) v' a' w' := by
  intro n
  have hT := h.T80
  induction n with
  | zero =>
    intro q v a w F hq hx hpq hn
    refine ⟨v, a, w, ?_, hq⟩
    rcases hq with ⟨q1, q2, q3, q4⟩ | ⟨q1, q2⟩
    · subst q3
      subst q4
      have hh := y_here (κ := κ) h (a := q.2.1) (w := -1) hpq
      rw [if_neg (show ¬ q.2.1 < T by omega)] at hh
      rw [b_X12_sum_6, y_fine, obs]
      (try dsimp only)
      rw [if_pos rfl, if_neg (by decide), hh, obs]
      (try dsimp only)
      rw [if_neg (by decide), hh, obs]
      (try dsimp only)
      rw [if_neg (by decide)]
    · rw [b_X12_sum_6, y_fine, obs]
      (try dsimp only)
      rw [if_neg (show ¬ w = -1 from fun z => nI_m1 (show q.2.1 < 2 ^ 31 by omega) (q2.symm.trans z)), if_pos rfl]
  | succ n ih =>
    intro q v a w F hq hx hpq hn
    show ∃ v' a' w', b_X12_sum_6 rc 127 dd (F + n + 1 + 1) v (hp κ (rdM ν a w)) = _ ∧ _
    rcases hq with ⟨q1, q2, q3, q4⟩ | ⟨q1, q2⟩
    · subst q3
      subst q4
      have hh := y_here (κ := κ) h (a := q.2.1) (w := -1) hpq
      by_cases c : pkf tx T q.2.1 = 43 ∨ pkf tx T q.2.1 = 45
      · have c3 : q.2.1 < T := by
          rcases c with c | c
          · exact pk_T c (by decide)
          · exact pk_T c (by decide)
        obtain ⟨⟨v2, a2, w2, g1, g2⟩, g3⟩ := hr (q.2.1 + 1) (by omega) (by omega)
        have g1 : rc 2 127 dd (hp κ (rdM ν (q.2.1 + 1) (-1))) = some (v2, hp κ (rdM ν a2 w2)) := g1
        have e : rvl (pkf tx T) rd 43 45 (n + 1) q = rvl (pkf tx T) rd 43 45 n ((rd (q.2.1 + 1)).1, (rd (q.2.1 + 1)).2.1, opv (nI (pkf tx T q.2.1)) q.2.2 (rd (q.2.1 + 1)).2.2) := by
          show (if q.1 = true then (if pkf tx T q.2.1 = 43 ∨ pkf tx T q.2.1 = 45 then _ else q) else q) = _
          rw [if_pos q1, if_pos c]
        rw [e]
        have go : ∀ v3, (v3 = opv (nI (pkf tx T q.2.1)) v v2) → ∃ v' a' w', b_X12_sum_6 rc 127 dd (F + n + 1) v3 (hp κ (rdM ν a2 w2)) = some (v', hp κ (rdM ν a' w')) ∧ RS (rvl (pkf tx T) rd 43 45 n ((rd (q.2.1 + 1)).1, (rd (q.2.1 + 1)).2.1, opv (nI (pkf tx T q.2.1)) q.2.2 (rd (q.2.1 + 1)).2.2)) v' a' w' := fun v3 h3 => by
          refine ih _ v3 a2 w2 F ?_ (by have := g3.1; show x0 ≤ (rd (q.2.1 + 1)).2.1; omega) g3.2.1 (by have := g3.1; show T - (rd (q.2.1 + 1)).2.1 ≤ n; omega)
          rcases g2 with ⟨r1, r2, r3, r4⟩ | ⟨r1, r2⟩
          · exact Or.inl ⟨r1, by rw [h3, q2, r2], r3, r4⟩
          · exact Or.inr ⟨r1, r2⟩
        rcases c with c | c
        · have hv : (if q.2.1 < T then nI (tx q.2.1) else -1) = (43 : Int32) := (hv_eq h (a := q.2.1) (c := 43) (by decide)).mpr c
          obtain ⟨v', a', w', k1, k2⟩ := go (v + v2) (by rw [c]; rfl)
          refine ⟨v', a', w', ?_, k2⟩
          rw [b_X12_sum_6, y_fine, obs]
          (try dsimp only)
          rw [if_pos rfl, if_neg (by decide), hh, obs]
          (try dsimp only)
          rw [if_pos hv]
          unfold b_X12_sum_31 b_X12_sum_45 b_X12_sum_78
          rw [hh, obs]
          (try dsimp only)
          rw [if_pos hv, g127_15, obs, rdM_a, nI_1, p127_15, obs, rdM_15, g1, obs]
          (try dsimp only)
          rw [if_neg (by decide)]
          exact k1
        · have hv : (if q.2.1 < T then nI (tx q.2.1) else -1) = (45 : Int32) := (hv_eq h (a := q.2.1) (c := 45) (by decide)).mpr c
          have hn43 : ¬ (if q.2.1 < T then nI (tx q.2.1) else -1) = 43 := fun z => by
            have := (hv_eq h (a := q.2.1) (c := 43) (by decide)).mp z
            omega
          obtain ⟨v', a', w', k1, k2⟩ := go (v - v2) (by rw [c]; rfl)
          refine ⟨v', a', w', ?_, k2⟩
          rw [b_X12_sum_6, y_fine, obs]
          (try dsimp only)
          rw [if_pos rfl, if_neg (by decide), hh, obs]
          (try dsimp only)
          rw [if_neg hn43, hh, obs]
          (try dsimp only)
          rw [if_pos hv]
          unfold b_X12_sum_31 b_X12_sum_45 b_X12_sum_78
          rw [hh, obs]
          (try dsimp only)
          rw [if_neg hn43, g127_15, obs, rdM_a, nI_1, p127_15, obs, rdM_15, g1, obs]
          (try dsimp only)
          rw [if_pos rfl]
          exact k1
      · have e : rvl (pkf tx T) rd 43 45 (n + 1) q = q := by
          show (if q.1 = true then (if pkf tx T q.2.1 = 43 ∨ pkf tx T q.2.1 = 45 then _ else q) else q) = _
          rw [if_pos q1, if_neg c]
        have hn43 : ¬ (if q.2.1 < T then nI (tx q.2.1) else -1) = 43 := fun z => c (Or.inl ((hv_eq h (a := q.2.1) (c := 43) (by decide)).mp z))
        have hn45 : ¬ (if q.2.1 < T then nI (tx q.2.1) else -1) = 45 := fun z => c (Or.inr ((hv_eq h (a := q.2.1) (c := 45) (by decide)).mp z))
        rw [e]
        refine ⟨v, q.2.1, -1, ?_, Or.inl ⟨q1, q2, rfl, rfl⟩⟩
        rw [b_X12_sum_6, y_fine, obs]
        (try dsimp only)
        rw [if_pos rfl, if_neg (by decide), hh, obs]
        (try dsimp only)
        rw [if_neg hn43, hh, obs]
        (try dsimp only)
        rw [if_neg hn45]
    · have e : rvl (pkf tx T) rd 43 45 (n + 1) q = q := by
        show (if q.1 = true then _ else q) = _
        rw [if_neg (by rw [q1]; decide)]
      rw [e]
      refine ⟨v, a, w, ?_, Or.inr ⟨q1, q2⟩⟩
      rw [b_X12_sum_6, y_fine, obs]
      (try dsimp only)
      rw [if_neg (show ¬ w = -1 from fun z => nI_m1 (show q.2.1 < 2 ^ 31 by omega) (q2.symm.trans z)), if_pos rfl]
theorem y_proL (h : RD ν m ln tp T tx) {rc : Nat → Nat → Int32 → ci_H → Option (Int32 × ci_H)} {rd : Nat → Rv} {dd : Int32} {x0 : Nat} (hr : ∀ x, x0 ≤ x → x ≤ T → LvO κ ν (fun h => rc 3 127 dd h) x (rd x) ∧ PB T x (rd x)) : ∀ (n : Nat) (q : Rv) (v : Int32) (a : Nat) (w : Int32) (F : Nat), RS q v a w → x0 ≤ q.2.1 → q.2.1 ≤ T → T - q.2.1 ≤ n → ∃ v' a' w', b_X12_product_6 rc 127 dd (F + n + 1) v (hp κ (rdM ν a w)) = some (v', hp κ (rdM ν a' w')) ∧ RS (rvl (pkf tx T) rd 42 47 n q) v' a' w' := by
  intro n
  have hT := h.T80
  induction n with
  | zero =>
    intro q v a w F hq hx hpq hn
    refine ⟨v, a, w, ?_, hq⟩
    rcases hq with ⟨q1, q2, q3, q4⟩ | ⟨q1, q2⟩
    · subst q3
      subst q4
      have hh := y_here (κ := κ) h (a := q.2.1) (w := -1) hpq
      rw [if_neg (show ¬ q.2.1 < T by omega)] at hh
      rw [b_X12_product_6, y_fine, obs]
      (try dsimp only)
      rw [if_pos rfl, if_neg (by decide), hh, obs]
      (try dsimp only)
      rw [if_neg (by decide), hh, obs]
      (try dsimp only)
      rw [if_neg (by decide)]
    · rw [b_X12_product_6, y_fine, obs]
      (try dsimp only)
      rw [if_neg (show ¬ w = -1 from fun z => nI_m1 (show q.2.1 < 2 ^ 31 by omega) (q2.symm.trans z)), if_pos rfl]
  | succ n ih =>
    intro q v a w F hq hx hpq hn
    show ∃ v' a' w', b_X12_product_6 rc 127 dd (F + n + 1 + 1) v (hp κ (rdM ν a w)) = _ ∧ _
    rcases hq with ⟨q1, q2, q3, q4⟩ | ⟨q1, q2⟩
    · subst q3
      subst q4
      have hh := y_here (κ := κ) h (a := q.2.1) (w := -1) hpq
      by_cases c : pkf tx T q.2.1 = 42 ∨ pkf tx T q.2.1 = 47
      · have c3 : q.2.1 < T := by
          rcases c with c | c
          · exact pk_T c (by decide)
          · exact pk_T c (by decide)
        obtain ⟨⟨v2, a2, w2, g1, g2⟩, g3⟩ := hr (q.2.1 + 1) (by omega) (by omega)
        have g1 : rc 3 127 dd (hp κ (rdM ν (q.2.1 + 1) (-1))) = some (v2, hp κ (rdM ν a2 w2)) := g1
        have e : rvl (pkf tx T) rd 42 47 (n + 1) q = rvl (pkf tx T) rd 42 47 n ((rd (q.2.1 + 1)).1, (rd (q.2.1 + 1)).2.1, opv (nI (pkf tx T q.2.1)) q.2.2 (rd (q.2.1 + 1)).2.2) := by
          show (if q.1 = true then (if pkf tx T q.2.1 = 42 ∨ pkf tx T q.2.1 = 47 then _ else q) else q) = _
          rw [if_pos q1, if_pos c]
        rw [e]
        have go : ∀ v3, (v3 = opv (nI (pkf tx T q.2.1)) v v2) → ∃ v' a' w', b_X12_product_6 rc 127 dd (F + n + 1) v3 (hp κ (rdM ν a2 w2)) = some (v', hp κ (rdM ν a' w')) ∧ RS (rvl (pkf tx T) rd 42 47 n ((rd (q.2.1 + 1)).1, (rd (q.2.1 + 1)).2.1, opv (nI (pkf tx T q.2.1)) q.2.2 (rd (q.2.1 + 1)).2.2)) v' a' w' := fun v3 h3 => by
          refine ih _ v3 a2 w2 F ?_ (by have := g3.1; show x0 ≤ (rd (q.2.1 + 1)).2.1; omega) g3.2.1 (by have := g3.1; show T - (rd (q.2.1 + 1)).2.1 ≤ n; omega)
          rcases g2 with ⟨r1, r2, r3, r4⟩ | ⟨r1, r2⟩
          · exact Or.inl ⟨r1, by rw [h3, q2, r2], r3, r4⟩
          · exact Or.inr ⟨r1, r2⟩
        rcases c with c | c
        · have hv : (if q.2.1 < T then nI (tx q.2.1) else -1) = (42 : Int32) := (hv_eq h (a := q.2.1) (c := 42) (by decide)).mpr c
          obtain ⟨v', a', w', k1, k2⟩ := go (v * v2) (by rw [c]; rfl)
          refine ⟨v', a', w', ?_, k2⟩
          rw [b_X12_product_6, y_fine, obs]
          (try dsimp only)
          rw [if_pos rfl, if_neg (by decide), hh, obs]
          (try dsimp only)
          rw [if_pos hv]
          unfold b_X12_product_31 b_X12_product_45 b_X12_product_87
          rw [hh, obs]
          (try dsimp only)
          rw [if_pos hv, g127_15, obs, rdM_a, nI_1, p127_15, obs, rdM_15, g1, obs]
          (try dsimp only)
          rw [if_neg (by decide)]
          exact k1
        · have hv : (if q.2.1 < T then nI (tx q.2.1) else -1) = (47 : Int32) := (hv_eq h (a := q.2.1) (c := 47) (by decide)).mpr c
          have hn43 : ¬ (if q.2.1 < T then nI (tx q.2.1) else -1) = 42 := fun z => by
            have := (hv_eq h (a := q.2.1) (c := 42) (by decide)).mp z
            omega
          obtain ⟨v', a', w', k1, k2⟩ := go (if v2 = 0 then 0 else v / v2) (by rw [c]; rfl)
          refine ⟨v', a', w', ?_, k2⟩
          rw [b_X12_product_6, y_fine, obs]
          (try dsimp only)
          rw [if_pos rfl, if_neg (by decide), hh, obs]
          (try dsimp only)
          rw [if_neg hn43, hh, obs]
          (try dsimp only)
          rw [if_pos hv]
          unfold b_X12_product_31 b_X12_product_45 b_X12_product_87
          rw [hh, obs]
          (try dsimp only)
          rw [if_neg hn43, g127_15, obs, rdM_a, nI_1, p127_15, obs, rdM_15, g1, obs]
          (try dsimp only)
          rw [if_pos rfl]
          by_cases z : v2 = 0
          · rw [if_pos z] at k1 ⊢
            exact k1
          · rw [if_neg z] at k1 ⊢
            unfold dvI
            rw [if_neg z, obs]
            exact k1
      · have e : rvl (pkf tx T) rd 42 47 (n + 1) q = q := by
          show (if q.1 = true then (if pkf tx T q.2.1 = 42 ∨ pkf tx T q.2.1 = 47 then _ else q) else q) = _
          rw [if_pos q1, if_neg c]
        have hn43 : ¬ (if q.2.1 < T then nI (tx q.2.1) else -1) = 42 := fun z => c (Or.inl ((hv_eq h (a := q.2.1) (c := 42) (by decide)).mp z))
        have hn45 : ¬ (if q.2.1 < T then nI (tx q.2.1) else -1) = 47 := fun z => c (Or.inr ((hv_eq h (a := q.2.1) (c := 47) (by decide)).mp z))
        rw [e]
        refine ⟨v, q.2.1, -1, ?_, Or.inl ⟨q1, q2, rfl, rfl⟩⟩
        rw [b_X12_product_6, y_fine, obs]
        (try dsimp only)
        rw [if_pos rfl, if_neg (by decide), hh, obs]
        (try dsimp only)
        rw [if_neg hn43, hh, obs]
        (try dsimp only)
        rw [if_neg hn45]
    · have e : rvl (pkf tx T) rd 42 47 (n + 1) q = q := by
        show (if q.1 = true then _ else q) = _
        rw [if_neg (by rw [q1]; decide)]
      rw [e]
      refine ⟨v, a, w, ?_, Or.inr ⟨q1, q2⟩⟩
      rw [b_X12_product_6, y_fine, obs]
      (try dsimp only)
      rw [if_neg (show ¬ w = -1 from fun z => nI_m1 (show q.2.1 < 2 ^ 31 by omega) (q2.symm.trans z)), if_pos rfl]
end LVL
