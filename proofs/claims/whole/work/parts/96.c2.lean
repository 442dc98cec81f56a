/-! PURE: a rule, read by the class. -/
def xM (μ : Mem) (a : Nat) (cd : List Int32) : Mem := rowI (upI (upI μ 11 2 (nI a)) 21 2 (nI cd.length)) 22 (fun i => if i < cd.length then cd.getD i 0 else μ.1 22 i)
theorem xM_11 {μ : Mem} {a b : Nat} {cd : List Int32} : upI (xM μ a cd) 11 2 (nI b) = xM μ b cd := by
  refine Prod.ext ?_ rfl
  funext z
  by_cases c1 : z = 11
  · subst c1
    show upd (upd (μ.1 11) 2 (nI a)) 2 (nI b) = upd (μ.1 11) 2 (nI b)
    rw [fa_upd_twice]
  · rw [rowI_n c1]
    by_cases c2 : z = 22
    · subst c2; rfl
    · by_cases c3 : z = 21
      · subst c3; rfl
      · unfold xM
        rw [rowI_n c2, rowI_n c3, rowI_n c1, rowI_n c2, rowI_n c3, rowI_n c1]
theorem getD_app {l : List Int32} {v : Int32} {i : Nat} (h : i < l.length) : (l ++ [v]).getD i 0 = l.getD i 0 := by
  rw [List.getD_eq_getElem?_getD, List.getD_eq_getElem?_getD, List.getElem?_append_left h]
theorem getD_end {l : List Int32} {v : Int32} : (l ++ [v]).getD l.length 0 = v := by
  rw [List.getD_eq_getElem?_getD, List.getElem?_append_right (Nat.le_refl _), Nat.sub_self]
  rfl
theorem xM_add {μ : Mem} {a : Nat} {cd : List Int32} {v : Int32} : upI (upI (xM μ a cd) 22 cd.length v) 21 2 (nI (cd.length + 1)) = xM μ a (cd ++ [v]) := by
  have hl : (cd ++ [v]).length = cd.length + 1 := by simp
  refine Prod.ext ?_ rfl
  funext z
  by_cases c1 : z = 22
  · subst c1
    show upd (fun i => if i < cd.length then cd.getD i 0 else μ.1 22 i) cd.length v = fun i => if i < (cd ++ [v]).length then (cd ++ [v]).getD i 0 else μ.1 22 i
    funext i
    rw [hl]
    by_cases z1 : i = cd.length
    · subst z1
      rw [pk_us, if_pos (Nat.lt_succ_self _), getD_end]
    · rw [pk_un z1]
      by_cases z2 : i < cd.length
      · rw [if_pos z2, if_pos (by omega), getD_app z2]
      · rw [if_neg z2, if_neg (by omega)]
  · by_cases c2 : z = 21
    · subst c2
      show upd (upd (μ.1 21) 2 (nI cd.length)) 2 (nI (cd.length + 1)) = upd (μ.1 21) 2 (nI (cd ++ [v]).length)
      rw [fa_upd_twice, hl]
    · unfold xM
      rw [rowI_n c2, rowI_n c1, rowI_n c1, rowI_n c2, rowI_n c1, rowI_n c2]
def PR (T a : Nat) (q : Rr) : Prop := q.2.2.length + a ≤ q.2.1 ∧ q.2.1 ≤ T
section PRS
variable {tx : Nat → Nat} {T : Nat}
theorem rp_e3 {pk : Nat → Nat} {f d a : Nat} : rp pk (f + 1) 3 d a = ((rp pk f 4 d (rmi pk 40 false a).2).1, (rp pk f 4 d (rmi pk 40 false a).2).2.1, (rp pk f 4 d (rmi pk 40 false a).2).2.2 ++ (if (rp pk f 4 d (rmi pk 40 false a).2).1 = true ∧ (rmi pk 40 false a).1 = true then [sg 126] else [])) := rfl
theorem rmi_odd : ∀ n b a, (rmi (pkf tx T) n b a).1 = b ∨ a < (rmi (pkf tx T) n b a).2
  | 0, b, a => Or.inl rfl
  | n + 1, b, a => by
    unfold rmi
    split
    next c =>
      right
      have c3 := pk_T c (by decide)
      have := (rmi_pos (tx := tx) (T := T) n (!b) (a + 1) (by omega)).1
      omega
    · exact Or.inl rfl
theorem rlp_pos {rc : Nat → Rr} {o1 o2 a0 : Nat} (h1 : o1 ≠ 999) (h2 : o2 ≠ 999) (hr : ∀ x, x ≤ T → PR T x (rc x)) : ∀ n q, PR T a0 q → PR T a0 (rlp (pkf tx T) rc o1 o2 n q)
  | 0, q, h => h
  | n + 1, q, h => by
    unfold rlp
    split
    · split
      next ho =>
        have c3 : q.2.1 < T := by
          rcases ho with ho | ho
          · exact pk_T ho h1
          · exact pk_T ho h2
        obtain ⟨k1, k2⟩ := hr (q.2.1 + 1) (by omega)
        have := h.1
        refine rlp_pos h1 h2 hr n _ ⟨?_, k2⟩
        show (q.2.2 ++ (rc (q.2.1 + 1)).2.2 ++ [sg (nI (pkf tx T q.2.1))]).length + a0 ≤ (rc (q.2.1 + 1)).2.1
        rw [List.length_append, List.length_append, List.length_singleton]
        omega
      · exact h
    · exact h
theorem rp_pos : ∀ f j d a, a ≤ T → PR T a (rp (pkf tx T) f j d a)
  | 0, j, d, a, h => ⟨by show 0 + a ≤ a; omega, h⟩
  | f + 1, 0, d, a, h => by
    rw [rp_e0]
    have h1 := rp_pos f 1 d a h
    have h2 : ∀ x, x ≤ T → PR T x (rp (pkf tx T) f 1 d x) := fun x hx => rp_pos f 1 d x hx
    generalize rp (pkf tx T) f 1 d a = q at h1
    unfold cR
    split
    · split
      next ho =>
        have c3 : q.2.1 < T := by
          rcases ho with ho | ho | ho
          · exact pk_T ho (by decide)
          · exact pk_T ho (by decide)
          · exact pk_T ho (by decide)
        obtain ⟨k1, k2⟩ := h2 (q.2.1 + 1) (by omega)
        have := h1.1
        refine ⟨?_, k2⟩
        show (q.2.2 ++ (rp (pkf tx T) f 1 d (q.2.1 + 1)).2.2 ++ (if (rp (pkf tx T) f 1 d (q.2.1 + 1)).1 = true then [sg (nI (pkf tx T q.2.1))] else [])).length + a ≤ (rp (pkf tx T) f 1 d (q.2.1 + 1)).2.1
        rw [List.length_append, List.length_append]
        split
        · rw [List.length_singleton]
          omega
        · rw [List.length_nil]
          omega
      · exact h1
    · exact h1
  | f + 1, 1, d, a, h => by
    rw [rp_e1]
    exact rlp_pos (by decide) (by decide) (fun x hx => rp_pos f 2 d x hx) 40 _ (rp_pos f 2 d a h)
  | f + 1, 2, d, a, h => by
    rw [rp_e2]
    exact rlp_pos (by decide) (by decide) (fun x hx => rp_pos f 3 d x hx) 40 _ (rp_pos f 3 d a h)
  | f + 1, 3, d, a, h => by
    rw [rp_e3]
    obtain ⟨h1, h2⟩ := rmi_pos (tx := tx) 40 false a h
    have h3 := rmi_odd (tx := tx) (T := T) 40 false a
    obtain ⟨k1, k2⟩ := rp_pos f 4 d _ h2
    refine ⟨?_, k2⟩
    show ((rp (pkf tx T) f 4 d (rmi (pkf tx T) 40 false a).2).2.2 ++ (if (rp (pkf tx T) f 4 d (rmi (pkf tx T) 40 false a).2).1 = true ∧ (rmi (pkf tx T) 40 false a).1 = true then [sg 126] else [])).length + a ≤ (rp (pkf tx T) f 4 d (rmi (pkf tx T) 40 false a).2).2.1
    rw [List.length_append]
    split
    next c =>
      rw [List.length_singleton]
      rcases h3 with h3 | h3
      · rw [c.2] at h3
        cases h3
      · omega
    · rw [List.length_nil]
      omega
  | f + 1, j + 4, d, a, h => by
    rw [rp_e4]
    unfold tR
    cases hm : rnm (pkf tx T) 3 a with
    | some q =>
      obtain ⟨h1, h2⟩ := rnm_pos hm h
      exact ⟨by show 1 + a ≤ q.2; omega, h2⟩
    | none =>
      (try dsimp only)
      split
      next c =>
        have c3 : a < T := pk_T c.1 (by decide)
        have h1 := rp_pos f 0 (d + 1) (a + 1) (by omega)
        generalize rp (pkf tx T) f 0 (d + 1) (a + 1) = q at h1
        obtain ⟨k1, k2⟩ := h1
        split
        · split
          next c4 =>
            have c5 : q.2.1 < T := pk_T c4 (by decide)
            exact ⟨by show q.2.2.length + a ≤ q.2.1 + 1; omega, by show q.2.1 + 1 ≤ T; omega⟩
          · exact ⟨by show q.2.2.length + a ≤ q.2.1; omega, k2⟩
        · exact ⟨by omega, k2⟩
      · split
        next c =>
          have c3 : a < T := by
            rcases c with c | c | c | c | c | c <;> exact pk_T c (by decide)
          exact ⟨by show 1 + a ≤ a + 1; omega, by show a + 1 ≤ T; omega⟩
        · exact ⟨by show 0 + a ≤ a; omega, h⟩
end PRS
def bI (b : Bool) : Int32 := if b = true then 1 else 0
def LvX (κ : Kp) (μ : Mem) (F : ci_H → Option (Int32 × ci_H)) (a : Nat) (pre : List Int32) (q : Rr) : Prop := F (hp κ (xM μ a pre)) = some (bI q.1, hp κ (xM μ q.2.1 (pre ++ q.2.2)))
section XLV
variable {κ : Kp} {μ : Mem} {T : Nat} {tx : Nat → Nat}
theorem xM_TX (h : TX μ.1 T tx) {a : Nat} {pre : List Int32} : TX (xM μ a pre).1 T tx := h
theorem xM_a {a : Nat} {pre : List Int32} : (xM μ a pre).1 11 2 = nI a := rfl
theorem x_addPart {a : Nat} {pre : List Int32} {v : Int32} (hl : pre.length < 40) : F_X4_addPart 21 v (hp κ (xM μ a pre)) = some (hp κ (xM μ a (pre ++ [v]))) := by
  have e : (xM μ a pre).1 21 2 = nI pre.length := rfl
  have e2 : ∀ f, (rowI (xM μ a pre) 22 f).1 21 2 = nI pre.length := fun _ => rfl
  unfold F_X4_addPart
  rw [if_pos q21, g21_2, obs, e, if_neg (show ¬ (40 : Int32) ≤ nI pre.length from nI_ge (b := 40) hl (by decide)), g21_0, obs, obs, w22 hl, obs, g21_2, obs, e2, nI_1, p21_2, obs, xM_add]
theorem x_addSign {a : Nat} {pre : List Int32} {v : Int32} (hl : pre.length < 40) : F_X4_addSign 21 v (hp κ (xM μ a pre)) = some (hp κ (xM μ a (pre ++ [sg v]))) := by
  unfold F_X4_addSign
  rw [if_pos q21, x_addPart hl, obs]
  rfl
theorem bI_01 (b : Bool) : (bI b = 0 ∨ bI b = 1) ∧ (bI b = 0 ↔ b = false) := by
  cases b
  · exact ⟨Or.inl rfl, fun _ => rfl, fun _ => rfl⟩
  · exact ⟨Or.inr rfl, fun z => absurd z (by decide), fun z => nomatch z⟩
theorem xs_sum (h : TX μ.1 T tx) (hT : T ≤ 40) {rc : Nat → Nat → Int32 → ci_H → Option (Int32 × ci_H)} {rd : Nat → Rr} {dd : Int32} {pre : List Int32} {a0 : Nat} (hpre : pre.length ≤ a0) (hr : ∀ x p, x ≤ T → p.length ≤ x → LvX κ μ (fun h => rc 2 20 dd h) x p (rd x)) (hq : ∀ x, x ≤ T → PR T x (rd x)) : ∀ (n k : Nat) (q : Rr) (F : Nat), n + k = 40 → PR T a0 q → b_X5_readsSum_8 rc 20 dd (F + n + 1) (bI q.1) (nI k) (hp κ (xM μ q.2.1 (pre ++ q.2.2))) = some (bI (rlp (pkf tx T) rd 43 45 n q).1, hp κ (xM μ (rlp (pkf tx T) rd 43 45 n q).2.1 (pre ++ (rlp (pkf tx T) rd 43 45 n q).2.2))) := by
  intro n
  induction n with
  | zero =>
    intro k q F hk hp0
    rw [b_X5_readsSum_8, if_pos (show (40 : Int32) ≤ nI k from nI_le (a := 40) (by omega) (by omega)), if_pos (bI_01 _).1]
    rfl
  | succ n ih =>
    intro k q F hk hp0
    show b_X5_readsSum_8 rc 20 dd (F + n + 1 + 1) _ _ _ = _
    rw [b_X5_readsSum_8, if_neg (show ¬ (40 : Int32) ≤ nI k from nI_ge (b := 40) (by omega) (by decide))]
    cases hb : q.1 with
    | false =>
      have e : rlp (pkf tx T) rd 43 45 (n + 1) q = q := by
        show (if q.1 = true then _ else q) = _
        rw [if_neg (by rw [hb]; decide)]
      rw [e, hb, if_pos (show bI false = 0 from rfl), if_pos (bI_01 _).1]
    | true =>
      have hpk := x_peek (κ := κ) (xM_TX (a := q.2.1) (pre := pre ++ q.2.2) h) xM_a hp0.2
      rw [if_neg (show ¬ bI true = 0 by decide), g20_0, obs, hpk, obs]
      (try dsimp only)
      by_cases c : pkf tx T q.2.1 = 43 ∨ pkf tx T q.2.1 = 45
      · have c3 : q.2.1 < T := by
          rcases c with c | c
          · exact pk_T c (by decide)
          · exact pk_T c (by decide)
        have hv : (if q.2.1 < T then nI (tx q.2.1) else -1) = nI (pkf tx T q.2.1) := by
          unfold pkf
          rw [if_pos c3, if_pos c3]
        have hl : (pre ++ q.2.2).length ≤ q.2.1 + 1 := by
          rw [List.length_append]
          have := hp0.1
          omega
        have g1 : rc 2 20 dd (hp κ (xM μ (q.2.1 + 1) (pre ++ q.2.2))) = some (bI (rd (q.2.1 + 1)).1, hp κ (xM μ (rd (q.2.1 + 1)).2.1 (pre ++ q.2.2 ++ (rd (q.2.1 + 1)).2.2))) := hr (q.2.1 + 1) (pre ++ q.2.2) (by omega) hl
        obtain ⟨g2, g3⟩ := hq (q.2.1 + 1) (by omega)
        have hl2 : (pre ++ q.2.2 ++ (rd (q.2.1 + 1)).2.2).length < 40 := by
          rw [List.length_append, List.length_append]
          have := hp0.1
          omega
        have e : rlp (pkf tx T) rd 43 45 (n + 1) q = rlp (pkf tx T) rd 43 45 n ((rd (q.2.1 + 1)).1, (rd (q.2.1 + 1)).2.1, q.2.2 ++ (rd (q.2.1 + 1)).2.2 ++ [sg (nI (pkf tx T q.2.1))]) := by
          show (if q.1 = true then (if pkf tx T q.2.1 = 43 ∨ pkf tx T q.2.1 = 45 then _ else q) else q) = _
          rw [if_pos hb, if_pos c]
        have go : b_X5_readsSum_44 rc (fun x0 x1 x2 => b_X5_readsSum_8 rc 20 dd (F + n + 1) x0 x1 x2) 20 dd (nI k) (nI (pkf tx T q.2.1)) (hp κ (xM μ q.2.1 (pre ++ q.2.2))) = some (bI (rlp (pkf tx T) rd 43 45 (n + 1) q).1, hp κ (xM μ (rlp (pkf tx T) rd 43 45 (n + 1) q).2.1 (pre ++ (rlp (pkf tx T) rd 43 45 (n + 1) q).2.2))) := by
          rw [e]
          have h9 := ih (k + 1) ((rd (q.2.1 + 1)).1, (rd (q.2.1 + 1)).2.1, q.2.2 ++ (rd (q.2.1 + 1)).2.2 ++ [sg (nI (pkf tx T q.2.1))]) F (by omega) ⟨by
            show (q.2.2 ++ (rd (q.2.1 + 1)).2.2 ++ [sg (nI (pkf tx T q.2.1))]).length + a0 ≤ (rd (q.2.1 + 1)).2.1
            rw [List.length_append, List.length_append, List.length_singleton]
            have := hp0.1
            omega, g3⟩
          unfold b_X5_readsSum_44
          rw [g20_0, obs, x_step xM_a, obs, xM_11, g1, obs]
          (try dsimp only)
          rw [g20_1, obs, x_addSign hl2, obs, nI_1]
          (try dsimp only at h9)
          rw [← List.append_assoc, ← List.append_assoc] at h9
          exact h9
        rw [hv]
        rcases c with c | c
        · rw [if_pos (show nI (pkf tx T q.2.1) = 43 by rw [c]; rfl)]
          exact go
        · rw [if_neg (show ¬ nI (pkf tx T q.2.1) = 43 by rw [c]; decide), if_pos (show nI (pkf tx T q.2.1) = 45 by rw [c]; rfl)]
          exact go
      · have e : rlp (pkf tx T) rd 43 45 (n + 1) q = q := by
          show (if q.1 = true then (if pkf tx T q.2.1 = 43 ∨ pkf tx T q.2.1 = 45 then _ else q) else q) = _
          rw [if_pos hb, if_neg c]
        rw [e, hb, if_neg (show ¬ (if q.2.1 < T then nI (tx q.2.1) else -1) = (43 : Int32) from fun z => c (Or.inl ((hx_eq h (c := 43) (by decide)).mp z))), if_neg (show ¬ (if q.2.1 < T then nI (tx q.2.1) else -1) = (45 : Int32) from fun z => c (Or.inr ((hx_eq h (c := 45) (by decide)).mp z))), if_pos (bI_01 _).1]
theorem xs_pro (h : TX μ.1 T tx) (hT : T ≤ 40) {rc : Nat → Nat → Int32 → ci_H → Option (Int32 × ci_H)} {rd : Nat → Rr} {dd : Int32} {pre : List Int32} {a0 : Nat} (hpre : pre.length ≤ a0) (hr : ∀ x p, x ≤ T → p.length ≤ x → LvX κ μ (fun h => rc 3 20 dd h) x p (rd x)) (hq : ∀ x, x ≤ T → PR T x (rd x)) : ∀ (n k : Nat) (q : Rr) (F : Nat), n + k = 40 → PR T a0 q → b_X5_readsProduct_8 rc 20 dd (F + n + 1) (bI q.1) (nI k) (hp κ (xM μ q.2.1 (pre ++ q.2.2))) = some (bI (rlp (pkf tx T) rd 42 47 n q).1, hp κ (xM μ (rlp (pkf tx T) rd 42 47 n q).2.1 (pre ++ (rlp (pkf tx T) rd 42 47 n q).2.2))) := by
  intro n
  induction n with
  | zero =>
    intro k q F hk hp0
    rw [b_X5_readsProduct_8, if_pos (show (40 : Int32) ≤ nI k from nI_le (a := 40) (by omega) (by omega)), if_pos (bI_01 _).1]
    rfl
  | succ n ih =>
    intro k q F hk hp0
    show b_X5_readsProduct_8 rc 20 dd (F + n + 1 + 1) _ _ _ = _
    rw [b_X5_readsProduct_8, if_neg (show ¬ (40 : Int32) ≤ nI k from nI_ge (b := 40) (by omega) (by decide))]
    cases hb : q.1 with
    | false =>
      have e : rlp (pkf tx T) rd 42 47 (n + 1) q = q := by
        show (if q.1 = true then _ else q) = _
        rw [if_neg (by rw [hb]; decide)]
      rw [e, hb, if_pos (show bI false = 0 from rfl), if_pos (bI_01 _).1]
    | true =>
      have hpk := x_peek (κ := κ) (xM_TX (a := q.2.1) (pre := pre ++ q.2.2) h) xM_a hp0.2
      rw [if_neg (show ¬ bI true = 0 by decide), g20_0, obs, hpk, obs]
      (try dsimp only)
      by_cases c : pkf tx T q.2.1 = 42 ∨ pkf tx T q.2.1 = 47
      · have c3 : q.2.1 < T := by
          rcases c with c | c
          · exact pk_T c (by decide)
          · exact pk_T c (by decide)
        have hv : (if q.2.1 < T then nI (tx q.2.1) else -1) = nI (pkf tx T q.2.1) := by
          unfold pkf
          rw [if_pos c3, if_pos c3]
        have hl : (pre ++ q.2.2).length ≤ q.2.1 + 1 := by
          rw [List.length_append]
          have := hp0.1
          omega
        have g1 : rc 3 20 dd (hp κ (xM μ (q.2.1 + 1) (pre ++ q.2.2))) = some (bI (rd (q.2.1 + 1)).1, hp κ (xM μ (rd (q.2.1 + 1)).2.1 (pre ++ q.2.2 ++ (rd (q.2.1 + 1)).2.2))) := hr (q.2.1 + 1) (pre ++ q.2.2) (by omega) hl
        obtain ⟨g2, g3⟩ := hq (q.2.1 + 1) (by omega)
        have hl2 : (pre ++ q.2.2 ++ (rd (q.2.1 + 1)).2.2).length < 40 := by
          rw [List.length_append, List.length_append]
          have := hp0.1
          omega
        have e : rlp (pkf tx T) rd 42 47 (n + 1) q = rlp (pkf tx T) rd 42 47 n ((rd (q.2.1 + 1)).1, (rd (q.2.1 + 1)).2.1, q.2.2 ++ (rd (q.2.1 + 1)).2.2 ++ [sg (nI (pkf tx T q.2.1))]) := by
          show (if q.1 = true then (if pkf tx T q.2.1 = 42 ∨ pkf tx T q.2.1 = 47 then _ else q) else q) = _
          rw [if_pos hb, if_pos c]
        have go : b_X5_readsProduct_44 rc (fun x0 x1 x2 => b_X5_readsProduct_8 rc 20 dd (F + n + 1) x0 x1 x2) 20 dd (nI k) (nI (pkf tx T q.2.1)) (hp κ (xM μ q.2.1 (pre ++ q.2.2))) = some (bI (rlp (pkf tx T) rd 42 47 (n + 1) q).1, hp κ (xM μ (rlp (pkf tx T) rd 42 47 (n + 1) q).2.1 (pre ++ (rlp (pkf tx T) rd 42 47 (n + 1) q).2.2))) := by
          rw [e]
          have h9 := ih (k + 1) ((rd (q.2.1 + 1)).1, (rd (q.2.1 + 1)).2.1, q.2.2 ++ (rd (q.2.1 + 1)).2.2 ++ [sg (nI (pkf tx T q.2.1))]) F (by omega) ⟨by
            show (q.2.2 ++ (rd (q.2.1 + 1)).2.2 ++ [sg (nI (pkf tx T q.2.1))]).length + a0 ≤ (rd (q.2.1 + 1)).2.1
            rw [List.length_append, List.length_append, List.length_singleton]
            have := hp0.1
            omega, g3⟩
          unfold b_X5_readsProduct_44
          rw [g20_0, obs, x_step xM_a, obs, xM_11, g1, obs]
          (try dsimp only)
          rw [g20_1, obs, x_addSign hl2, obs, nI_1]
          (try dsimp only at h9)
          rw [← List.append_assoc, ← List.append_assoc] at h9
          exact h9
        rw [hv]
        rcases c with c | c
        · rw [if_pos (show nI (pkf tx T q.2.1) = 42 by rw [c]; rfl)]
          exact go
        · rw [if_neg (show ¬ nI (pkf tx T q.2.1) = 42 by rw [c]; decide), if_pos (show nI (pkf tx T q.2.1) = 47 by rw [c]; rfl)]
          exact go
      · have e : rlp (pkf tx T) rd 42 47 (n + 1) q = q := by
          show (if q.1 = true then (if pkf tx T q.2.1 = 42 ∨ pkf tx T q.2.1 = 47 then _ else q) else q) = _
          rw [if_pos hb, if_neg c]
        rw [e, hb, if_neg (show ¬ (if q.2.1 < T then nI (tx q.2.1) else -1) = (42 : Int32) from fun z => c (Or.inl ((hx_eq h (c := 42) (by decide)).mp z))), if_neg (show ¬ (if q.2.1 < T then nI (tx q.2.1) else -1) = (47 : Int32) from fun z => c (Or.inr ((hx_eq h (c := 47) (by decide)).mp z))), if_pos (bI_01 _).1]
theorem xs_exp (h : TX μ.1 T tx) (hT : T ≤ 40) {rc : Nat → Nat → Int32 → ci_H → Option (Int32 × ci_H)} {rd : Nat → Rr} {dd : Int32} {pre : List Int32} {a : Nat} (ha : a ≤ T) (hpre : pre.length ≤ a) (hr : ∀ x p, x ≤ T → p.length ≤ x → LvX κ μ (fun h => rc 1 20 dd h) x p (rd x)) (hq : ∀ x, x ≤ T → PR T x (rd x)) : LvX κ μ (fun h => G_X5_readsExpression rc 20 dd h) a pre (cR (pkf tx T) (rd a) rd) := by
  have g0 : rc 1 20 dd (hp κ (xM μ a pre)) = some (bI (rd a).1, hp κ (xM μ (rd a).2.1 (pre ++ (rd a).2.2))) := hr a pre ha hpre
  have hp0 := hq a ha
  show G_X5_readsExpression rc 20 dd (hp κ (xM μ a pre)) = _
  unfold G_X5_readsExpression cR
  rw [if_pos q20, g0, obs]
  generalize rd a = q at hp0
  (try dsimp only)
  cases hb : q.1 with
  | false =>
    rw [if_pos (show bI false = 0 from rfl), if_neg (by decide), hb]
    rfl
  | true =>
    have hpk := x_peek (κ := κ) (xM_TX (a := q.2.1) (pre := pre ++ q.2.2) h) xM_a hp0.2
    rw [if_neg (show ¬ bI true = 0 by decide), g20_0, obs, hpk, obs, if_pos rfl]
    (try dsimp only)
    by_cases c : pkf tx T q.2.1 = 60 ∨ pkf tx T q.2.1 = 62 ∨ pkf tx T q.2.1 = 61
    · have c3 : q.2.1 < T := by
        rcases c with c | c | c <;> exact pk_T c (by decide)
      have hv : (if q.2.1 < T then nI (tx q.2.1) else -1) = nI (pkf tx T q.2.1) := by
        unfold pkf
        rw [if_pos c3, if_pos c3]
      have hl : (pre ++ q.2.2).length ≤ q.2.1 + 1 := by
        rw [List.length_append]
        have := hp0.1
        omega
      have g1 : rc 1 20 dd (hp κ (xM μ (q.2.1 + 1) (pre ++ q.2.2))) = some (bI (rd (q.2.1 + 1)).1, hp κ (xM μ (rd (q.2.1 + 1)).2.1 (pre ++ q.2.2 ++ (rd (q.2.1 + 1)).2.2))) := hr (q.2.1 + 1) (pre ++ q.2.2) (by omega) hl
      obtain ⟨g2, g3⟩ := hq (q.2.1 + 1) (by omega)
      have hl2 : (pre ++ q.2.2 ++ (rd (q.2.1 + 1)).2.2).length < 40 := by
        rw [List.length_append, List.length_append]
        have := hp0.1
        omega
      have go : b_X5_readsExpression_38 rc 20 dd (nI (pkf tx T q.2.1)) (hp κ (xM μ q.2.1 (pre ++ q.2.2))) = some (bI (rd (q.2.1 + 1)).1, hp κ (xM μ (rd (q.2.1 + 1)).2.1 (pre ++ (q.2.2 ++ (rd (q.2.1 + 1)).2.2 ++ (if (rd (q.2.1 + 1)).1 = true then [sg (nI (pkf tx T q.2.1))] else []))))) := by
        unfold b_X5_readsExpression_38
        rw [g20_0, obs, x_step xM_a, obs, xM_11, g1, obs]
        (try dsimp only)
        cases hb2 : (rd (q.2.1 + 1)).1 with
        | false => rw [if_pos (show bI false = 0 from rfl), if_neg (by decide), List.append_nil, List.append_assoc]; rfl
        | true => rw [if_neg (show ¬ bI true = 0 by decide), g20_1, obs, x_addSign hl2, obs, if_pos rfl, List.append_assoc, List.append_assoc, List.append_assoc]; rfl
      rw [hv, if_pos c]
      rcases c with c | c | c
      · rw [if_pos (show nI (pkf tx T q.2.1) = 60 by rw [c]; rfl)]
        exact go
      · rw [if_neg (show ¬ nI (pkf tx T q.2.1) = 60 by rw [c]; decide), if_pos (show nI (pkf tx T q.2.1) = 62 by rw [c]; rfl)]
        exact go
      · rw [if_neg (show ¬ nI (pkf tx T q.2.1) = 60 by rw [c]; decide), if_neg (show ¬ nI (pkf tx T q.2.1) = 62 by rw [c]; decide), if_pos (show nI (pkf tx T q.2.1) = 61 by rw [c]; rfl)]
        exact go
    · rw [if_neg c, if_neg (show ¬ (if q.2.1 < T then nI (tx q.2.1) else -1) = (60 : Int32) from fun z => c (Or.inl ((hx_eq h (c := 60) (by decide)).mp z))), if_neg (show ¬ (if q.2.1 < T then nI (tx q.2.1) else -1) = (62 : Int32) from fun z => c (Or.inr (Or.inl ((hx_eq h (c := 62) (by decide)).mp z)))), if_neg (show ¬ (if q.2.1 < T then nI (tx q.2.1) else -1) = (61 : Int32) from fun z => c (Or.inr (Or.inr ((hx_eq h (c := 61) (by decide)).mp z)))), hb]
      rfl
theorem xs_sgL (h : TX μ.1 T tx) {rc : Nat → Nat → Int32 → ci_H → Option (Int32 × ci_H)} {dd : Int32} {pre : List Int32} : ∀ (n k : Nat) (b : Bool) (a F : Nat), a ≤ T → n + k = 40 → b_X5_readsSigned_4 rc 20 dd (F + n + 1) (bI b) (nI k) (hp κ (xM μ a pre)) = b_X5_readsSigned_38 rc 20 dd (bI (rmi (pkf tx T) n b a).1) (hp κ (xM μ (rmi (pkf tx T) n b a).2 pre))
  | 0, k, b, a, F, ha, hk => by
    rw [b_X5_readsSigned_4, if_pos (show (40 : Int32) ≤ nI k from nI_le (a := 40) (by omega) (by omega))]
    rfl
  | n + 1, k, b, a, F, ha, hk => by
    have ht : F_X9_takes 11 45 (hp κ (xM μ a pre)) = _ := x_takes (κ := κ) (xM_TX (a := a) (pre := pre) h) xM_a ha (c := 45) (by decide)
    show b_X5_readsSigned_4 rc 20 dd (F + n + 1 + 1) (bI b) (nI k) (hp κ (xM μ a pre)) = _
    rw [b_X5_readsSigned_4, if_neg (show ¬ (40 : Int32) ≤ nI k from nI_ge (b := 40) (by omega) (by decide)), g20_0, obs, ht]
    unfold rmi
    by_cases c : pkf tx T a = 45
    · have c3 := pk_T c (by decide)
      have ih := xs_sgL h (rc := rc) (dd := dd) (pre := pre) n (k + 1) (!b) (a + 1) F (by omega) (by omega)
      rw [if_pos c, if_pos c, obs]
      (try dsimp only)
      rw [if_neg (by decide), xM_11, ← ih]
      cases b
      · rw [if_pos (show bI false = 0 from rfl), b_X5_readsSigned_31, nI_1]
        rfl
      · rw [if_neg (show ¬ bI true = 0 by decide), b_X5_readsSigned_31, nI_1]
        rfl
    · rw [if_neg c, if_neg c, obs]
      (try dsimp only)
      rw [if_pos rfl]
end XLV
