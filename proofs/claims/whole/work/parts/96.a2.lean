/-! PURE: a rule, computed by the class. -/
def SK (g : Nat → Int32) : List Int32 → Prop
  | [] => True
  | x :: r => g r.length = x ∧ SK g r
theorem SK_up {g : Nat → Int32} {j : Nat} {v : Int32} : ∀ {r : List Int32}, r.length ≤ j → SK g r → SK (upd g j v) r
  | [], _, _ => trivial
  | x :: r, hj, h => by
    have hj : r.length + 1 ≤ j := hj
    exact ⟨by rw [pk_un (by omega)]; exact h.1, SK_up (by omega) h.2⟩
def lvI (A mu mn : Nat → Int32) (tc kc t : Nat) (y c : Int32) : Int32 := if c = 104 then y else if c = 105 then nI t else if c = 107 then nI (cn (sb (fun k => io (A t) (mu k) (mn k)) kc)) else if c = 110 then nI (cn (kp (fun t => A (24 + t)) tc y)) else if c = 116 then jbc (A t) else (if A (12 + t) = y then 1 else 0)
theorem stp_len {L : Int32 → Int32} {c : Int32} {st st' : List Int32} (h : stp L c st = some st') : st'.length ≤ st.length + 1 := by
  unfold stp at h
  split at h
  · cases h; exact Nat.le_refl _
  · split at h
    · split at h
      · cases h
        simp only [List.length_cons]
        omega
      · cases h
    · split at h
      · split at h
        · cases h
          simp only [List.length_cons]
          omega
        · cases h
      · cases h; exact Nat.le_refl _
section RUL
variable {κ : Kp} {μ : Mem} {A mu mn : Nat → Int32} {hc tc kc lm B : Nat}
theorem x_letter (h : Xc μ A mu mn hc tc kc lm) {t : Nat} (ht : t < tc) (y c : Int32) : F_X4_letter c 1 (nI t) y (hp κ μ) = some (lvI A mu mn tc kc t y c, hp κ μ) := by
  have b2 := h.b2
  have b3 := h.b3
  have hS := h.2.1.1 t (by omega)
  have hk : sb (fun k => io (A t) (mu k) (mn k)) kc < 4096 := Nat.lt_of_lt_of_le (sb_le _ (m := 6) b3) (by decide)
  have hE : ((gR (hp κ μ) 1 10 0).bind fun v54 => (gR (hp κ μ) v54 6 0).bind fun v55 => (rI (hp κ μ) v55 (nI t)).bind fun v56 => if v56 = y then (some ((1 : Int32), hp κ μ)) else (some (0, hp κ μ))) = some (if A (12 + t) = y then 1 else 0, hp κ μ) := by
    rw [g1_0, obs, g2_0, obs, r3 (by omega), obs, hS.2.1]
    split <;> rfl
  unfold F_X4_letter lvI
  by_cases c1 : c = 104
  · rw [if_pos c1, if_pos c1]
  by_cases c2 : c = 105
  · rw [if_neg c1, if_neg c1, if_pos c2, if_pos c2]
  by_cases c3 : c = 107
  · subst c3
    rw [if_neg c1, if_neg c1, if_neg c2, if_neg c2, if_neg (by decide), if_pos rfl, if_pos rfl, C_kindsOf h ht, obs]
    (try dsimp only)
    rw [bc hk, obs]
  by_cases c4 : c = 110
  · subst c4
    rw [if_neg c1, if_neg c1, if_neg c2, if_neg c2, if_neg (by decide), if_neg c3, if_neg (by decide), if_neg (by decide), if_pos rfl, if_neg c3, if_pos rfl, C_kept h, obs]
    (try dsimp only)
    rw [bc (kp_lt b2), obs]
  by_cases c5 : c = 116
  · subst c5
    rw [if_neg c1, if_neg c1, if_neg c2, if_neg c2, if_neg (by decide), if_neg c3, if_neg (by decide), if_neg (by decide), if_neg c4, if_neg (by decide), if_neg (by decide), if_neg (by decide), if_neg (by decide), if_neg (by decide), if_pos rfl, if_neg c3, if_neg c4, if_pos rfl, g1_0, obs, g2_2, obs, r5 (by omega), obs, hS.1, jbc_F, obs]
  · simp only [c1, c2, c3, c4, c5, ↓reduceIte, hE, ite_self]
theorem x_isOp (c : Int32) (h : ci_H) : F_X4_isOperation c h = some (if isOp c then 1 else 0, h) := by
  unfold F_X4_isOperation isOp
  by_cases h1 : c = 42
  · subst h1; rfl
  by_cases h2 : c = 43
  · subst h2; rfl
  by_cases h3 : c = 45
  · subst h3; rfl
  by_cases h4 : c = 47
  · subst h4; rfl
  by_cases h5 : c = 60
  · subst h5; rfl
  by_cases h6 : c = 61
  · subst h6; rfl
  by_cases h7 : c = 62
  · subst h7; rfl
  simp only [h1, h2, h3, h4, h5, h6, h7, ↓reduceIte, ite_self, decide_false, Bool.or_self, Bool.false_eq_true]
theorem x_oper (c x y : Int32) (h : ci_H) : F_X4_operated c x y h = some (opv c x y, h) := by
  unfold F_X4_operated opv
  by_cases h1 : c = 42
  · simp only [h1, ↓reduceIte]
  by_cases h2 : c = 43
  · subst h2; rfl
  by_cases h3 : c = 45
  · subst h3; rfl
  by_cases h4 : c = 60
  · subst h4
    simp only [↓reduceIte, show ¬ (60 : Int32) = 42 by decide, show ¬ (60 : Int32) = 43 by decide, show ¬ (60 : Int32) = 45 by decide]
    split <;> rfl
  by_cases h5 : c = 61
  · subst h5
    simp only [↓reduceIte, show ¬ (61 : Int32) = 42 by decide, show ¬ (61 : Int32) = 43 by decide, show ¬ (61 : Int32) = 45 by decide, show ¬ (61 : Int32) = 60 by decide]
    split <;> rfl
  by_cases h6 : c = 62
  · subst h6
    simp only [↓reduceIte, show ¬ (62 : Int32) = 42 by decide, show ¬ (62 : Int32) = 43 by decide, show ¬ (62 : Int32) = 45 by decide, show ¬ (62 : Int32) = 60 by decide, show ¬ (62 : Int32) = 61 by decide]
    split <;> rfl
  simp only [h1, h2, h3, h4, h5, h6, ↓reduceIte]
  by_cases hy : y = 0
  · rw [if_pos hy, if_pos hy]
  · rw [if_neg hy, if_neg hy]
    unfold dvI
    rw [if_neg hy, obs]
theorem Xc.r19 {g : Nat → Int32} (h : Xc μ A mu mn hc tc kc lm) : Xc (rowI μ 19 g) A mu mn hc tc kc lm := h
theorem x_computed (h : Xc μ A mu mn hc tc kc lm) {t : Nat} (ht : t < tc) (y : Int32) {cd : List Int32} {v : Int32} (hl : cd.length ≤ 40) (h17 : μ.1 17 2 = nI cd.length) (h18 : ∀ i, i < cd.length → μ.1 18 i = cd.getD i 0) (hex : ex (lvI A mu mn tc kc t y) cd [] = some [v]) : ∃ g, F_X4_computed 17 1 (nI t) y (hp κ μ) = some (v, hp κ (rowI μ 19 g)) := by
  unfold F_X4_computed
  rw [if_pos q17]
  obtain ⟨⟨ξ, st⟩, ⟨⟨g, hg1, hg2⟩, hg3⟩, hgo⟩ := lpf (fun f i (s : Mem × List Int32) => b_X4_computed_6 17 1 (nI t) y f (nI s.2.length) (nI i) (hp κ s.1)) (fun i s => (∃ g, s.1 = rowI μ 19 g ∧ SK g s.2) ∧ ex (lvI A mu mn tc kc t y) (cd.take i) [] = some s.2 ∧ s.2.length ≤ i) cd.length (fun i s hi hQ => by
    obtain ⟨ξ, st⟩ := s
    obtain ⟨⟨g, hg1, hg2⟩, hg3, hg4⟩ := hQ
    have hg1 : ξ = rowI μ 19 g := hg1
    have hg3 : ex (lvI A mu mn tc kc t y) (cd.take i) [] = some st := hg3
    have hg4 : st.length ≤ i := hg4
    subst hg1
    have hX : Xc (rowI μ 19 g) A mu mn hc tc kc lm := h.r19
    have ecd : cd.getD i 0 = cd[i] := by rw [List.getD_eq_getElem?_getD, List.getElem?_eq_getElem hi]; rfl
    have hex2 : ex (lvI A mu mn tc kc t y) (cd.take (i + 1)) [] = (stp (lvI A mu mn tc kc t y) cd[i] st) := by
      rw [List.take_succ_eq_append_getElem hi, ex_app, hg3]
      show (stp _ cd[i] st).bind (ex _ []) = _
      cases stp (lvI A mu mn tc kc t y) cd[i] st <;> rfl
    have hsome : ∃ st', stp (lvI A mu mn tc kc t y) cd[i] st = some st' := by
      have h1 := ex_app (lvI A mu mn tc kc t y) (cd.take (i + 1)) (cd.drop (i + 1)) []
      rw [List.take_append_drop, hex, hex2] at h1
      cases h2 : stp (lvI A mu mn tc kc t y) cd[i] st with
      | none => rw [h2] at h1; cases h1
      | some st' => exact ⟨st', rfl⟩
    obtain ⟨st', hst⟩ := hsome
    have hlen := stp_len hst
    have m17 : ∀ g, (rowI μ 19 g).1 17 2 = nI cd.length := fun g => h17
    have m18 : ∀ g, (rowI μ 19 g).1 18 i = cd[i] := fun g => by rw [← ecd]; exact h18 i hi
    have key : ∀ g' : Nat → Int32, SK g' st' → (∀ f, b_X4_computed_6 17 1 (nI t) y (f + 1) (nI st.length) (nI i) (hp κ (rowI μ 19 g)) = b_X4_computed_6 17 1 (nI t) y f (nI st'.length) (nI (i + 1)) (hp κ (rowI μ 19 g'))) → ∃ ξ : Mem × List Int32, (∀ n, (fun f i (s : Mem × List Int32) => b_X4_computed_6 17 1 (nI t) y f (nI s.2.length) (nI i) (hp κ s.1)) (n + 1) i (rowI μ 19 g, st) = (fun f i (s : Mem × List Int32) => b_X4_computed_6 17 1 (nI t) y f (nI s.2.length) (nI i) (hp κ s.1)) n (i + 1) ξ) ∧ (∃ g, ξ.1 = rowI μ 19 g ∧ SK g ξ.2) ∧ ex (lvI A mu mn tc kc t y) (cd.take (i + 1)) [] = some ξ.2 ∧ ξ.2.length ≤ i + 1 := fun g' h1 h2 => ⟨(rowI μ 19 g', st'), h2, ⟨g', rfl, h1⟩, hex2.trans hst, by show st'.length ≤ i + 1; omega⟩
    have hpush : ∀ (w : Int32) (f : Nat), b_X4_computed_155 (fun x0 x1 x2 => b_X4_computed_6 17 1 (nI t) y f x0 x1 x2) 17 1 (nI t) y (nI st.length) (nI i) 19 (nI st.length) w (hp κ (rowI μ 19 g)) = b_X4_computed_6 17 1 (nI t) y f (nI (st.length + 1)) (nI (i + 1)) (hp κ (rowI μ 19 (upd g st.length w))) := fun w f => by
      unfold b_X4_computed_155 b_X4_computed_159
      rw [w19 (by omega), obs, nI_1, nI_1]
      show b_X4_computed_6 17 1 (nI t) y f _ _ (hp κ (rowI (rowI μ 19 g) 19 (upd ((rowI μ 19 g).1 19) st.length w))) = _
      rw [rowI_rowI, rowI_s]
    unfold stp at hst
    generalize cd[i] = c at hst m18
    by_cases c0 : 0 ≤ c
    · rw [if_pos c0] at hst
      cases hst
      refine key (upd g st.length c) ⟨pk_us, SK_up (Nat.le_refl _) hg2⟩ (fun f => ?_)
      rw [b_X4_computed_6, g17_2, obs, m17, if_neg (nI_ge hi (by omega)), g17_0, obs, r18 (by omega), obs, m18, if_pos c0]
      unfold b_X4_computed_85
      rw [if_neg (fun z => by rw [z] at c0; exact absurd c0 (by decide)), if_neg (show ¬ (40 : Int32) ≤ nI st.length from nI_ge (b := 40) (by omega) (by decide)), g17_1, obs, if_neg (fun z => by rw [fa_lt] at z; rw [fa_le] at c0; omega), hpush]
      rfl
    · rw [if_neg c0] at hst
      by_cases c1 : isOp (c ^^^ (-1)) = true
      · rw [if_pos c1] at hst
        match st, hst, hg2, hg4, hlen, hpush, key with
        | y2 :: x2 :: r, hst, hg2, hg4, hlen, hpush, key =>
          cases hst
          obtain ⟨k1, k2, k3⟩ := hg2
          have hl2 : r.length + 2 ≤ i := hg4
          refine key (upd g r.length (opv (c ^^^ (-1)) x2 y2)) ⟨pk_us, SK_up (Nat.le_refl _) k3⟩ (fun f => ?_)
          have e1 : nI (y2 :: x2 :: r).length + (-1) = nI (r.length + 1) := nI_dn (r.length + 1)
          have e2 : nI (r.length + 1) - 1 = nI r.length := pk_sub (a := r.length + 1) (b := 1) (by omega)
          have e3 : g r.length = x2 := k2
          have e4 : g (r.length + 1) = y2 := k1
          rw [b_X4_computed_6, g17_2, obs, m17, if_neg (nI_ge hi (by omega)), g17_0, obs, r18 (by omega), obs, m18, if_neg c0, x_isOp, obs]
          (try dsimp only)
          rw [c1, if_neg (by decide), if_pos (show (2 : Int32) ≤ nI (y2 :: x2 :: r).length from nI_le (a := 2) (by show 2 ≤ r.length + 2; omega) (by show r.length + 2 < _; omega)), g17_1, obs, obs, e1, e2, r19 (by omega), obs, obs, r19 (by omega), obs, rowI_s, e3, e4, x_oper, obs]
          (try dsimp only)
          rw [w19 (by omega), obs]
          unfold b_X4_computed_159
          rw [nI_1]
          show b_X4_computed_6 17 1 (nI t) y f _ _ (hp κ (rowI (rowI μ 19 g) 19 (upd ((rowI μ 19 g).1 19) r.length _))) = _
          rw [rowI_rowI, rowI_s]
          rfl
        | [y2], hst, _, _, _, _, _ => cases hst
        | [], hst, _, _, _, _, _ => cases hst
      · rw [if_neg c1] at hst
        have c1' : isOp (c ^^^ (-1)) = false := ts_nt c1
        have hstart : ∀ f, b_X4_computed_6 17 1 (nI t) y (f + 1) (nI st.length) (nI i) (hp κ (rowI μ 19 g)) = b_X4_computed_85 (fun x0 x1 x2 => b_X4_computed_6 17 1 (nI t) y f x0 x1 x2) 17 1 (nI t) y (nI st.length) (nI i) c (hp κ (rowI μ 19 g)) := fun f => by
          rw [b_X4_computed_6, g17_2, obs, m17, if_neg (nI_ge hi (by omega)), g17_0, obs, r18 (by omega), obs, m18, if_neg c0, x_isOp, obs, c1']
          rfl
        by_cases c2 : c = -127
        · rw [if_pos c2] at hst
          match st, hst, hg2, hg4, hlen, hpush, key, hstart with
          | x2 :: r, hst, hg2, hg4, hlen, hpush, key, hstart =>
            cases hst
            obtain ⟨k1, k3⟩ := hg2
            have hl2 : r.length + 1 ≤ i := hg4
            refine key (upd g r.length (-x2)) ⟨pk_us, SK_up (Nat.le_refl _) k3⟩ (fun f => ?_)
            have e2 : nI (x2 :: r).length - 1 = nI r.length := pk_sub (a := r.length + 1) (b := 1) (by omega)
            rw [hstart]
            unfold b_X4_computed_85 b_X4_computed_159
            rw [if_pos c2, if_pos (show (1 : Int32) ≤ nI (x2 :: r).length from nI_le (a := 1) (by show 1 ≤ r.length + 1; omega) (by show r.length + 1 < _; omega)), g17_1, obs, obs, e2, r19 (by omega), obs, rowI_s, k1, w19 (by omega), obs, nI_1]
            show b_X4_computed_6 17 1 (nI t) y f _ _ (hp κ (rowI (rowI μ 19 g) 19 (upd ((rowI μ 19 g).1 19) r.length _))) = _
            rw [rowI_rowI, rowI_s]
            rfl
          | [], hst, _, _, _, _, _, _ => cases hst
        · rw [if_neg c2] at hst
          cases hst
          refine key (upd g st.length (lvI A mu mn tc kc t y (c ^^^ (-1)))) ⟨pk_us, SK_up (Nat.le_refl _) hg2⟩ (fun f => ?_)
          rw [hstart]
          unfold b_X4_computed_85
          rw [if_neg c2, if_neg (show ¬ (40 : Int32) ≤ nI st.length from nI_ge (b := 40) (by omega) (by decide)), g17_1, obs, if_pos (fa_of_nle c0), x_letter hX ht, obs]
          (try dsimp only)
          rw [hpush]
          rfl) (μ, []) ⟨⟨μ.1 19, by rw [rowI_id], trivial⟩, rfl, Nat.le_refl _⟩ cd.length (Nat.le_refl _)
  have hg1 : ξ = rowI μ 19 g := hg1
  obtain ⟨hg3, -⟩ := hg3
  have hg3 : ex (lvI A mu mn tc kc t y) (cd.take cd.length) [] = some st := hg3
  rw [List.take_length, hex] at hg3
  cases hg3
  subst hg1
  refine ⟨g, ?_⟩
  have h9 := hgo (4999 - cd.length + 1)
  (try dsimp only at h9)
  rw [show 4999 - cd.length + 1 + cd.length = 5000 by omega] at h9
  refine Eq.trans h9 ?_
  have e19 : g 0 = v := hg2.1
  have m17 : (rowI μ 19 g).1 17 2 = nI cd.length := h17
  rw [b_X4_computed_6, g17_2, obs, m17, if_pos (nI_le (Nat.le_refl _) (by omega)), g17_1, obs, show (0 : Int32) = nI 0 from rfl, r19 (by decide), obs, rowI_s, e19]
def clw (v : Int32) : Int32 := if 0 < (if v < 999 then v else 999) then (if v < 999 then v else 999) else 0
theorem clw_n (v : Int32) : ∃ c, c ≤ 999 ∧ clw v = nI c := by
  unfold clw
  by_cases c1 : v < 999
  · rw [if_pos c1]
    by_cases c2 : 0 < v
    · rw [if_pos c2]
      have e1 : (999 : Int32).toInt = 999 := rfl
      have e0 : (0 : Int32).toInt = 0 := rfl
      rw [fa_lt] at c1 c2
      obtain ⟨j, hj, h⟩ := nI_of2 (M := 999) (n := 999) rfl (x := v) (fun z => by rw [fa_lt] at z; omega) (by rw [fa_le]; omega)
      exact ⟨j, hj, h⟩
    · rw [if_neg c2]
      exact ⟨0, by omega, rfl⟩
  · rw [if_neg c1, if_pos (by decide)]
    exact ⟨999, by omega, rfl⟩
end RUL
