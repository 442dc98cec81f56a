/-! PURE: a rule, read by the class: all levels. -/
section XLW
variable {κ : Kp} {μ : Mem} {T : Nat} {tx : Nat → Nat}
theorem xs_sig (h : TX μ.1 T tx) (hT : T ≤ 40) {rc : Nat → Nat → Int32 → ci_H → Option (Int32 × ci_H)} {f d : Nat} {dd : Int32} {pre : List Int32} {a : Nat} (ha : a ≤ T) (hpre : pre.length ≤ a) (hr : ∀ x p, x ≤ T → p.length ≤ x → LvX κ μ (fun h => rc 4 20 dd h) x p (rp (pkf tx T) f 4 d x)) : LvX κ μ (fun h => G_X5_readsSigned rc 20 dd h) a pre (rp (pkf tx T) (f + 1) 3 d a) := by
  obtain ⟨h1, h2⟩ := rmi_pos (tx := tx) (T := T) 40 false a ha
  have h3 := rmi_odd (tx := tx) (T := T) 40 false a
  have hl := xs_sgL (κ := κ) h (rc := rc) (dd := dd) (pre := pre) 40 0 false a 4959 ha rfl
  have hl : b_X5_readsSigned_4 rc 20 dd bigN 0 0 (hp κ (xM μ a pre)) = _ := hl
  have g0 : rc 4 20 dd (hp κ (xM μ (rmi (pkf tx T) 40 false a).2 pre)) = some (bI (rp (pkf tx T) f 4 d (rmi (pkf tx T) 40 false a).2).1, hp κ (xM μ (rp (pkf tx T) f 4 d (rmi (pkf tx T) 40 false a).2).2.1 (pre ++ (rp (pkf tx T) f 4 d (rmi (pkf tx T) 40 false a).2).2.2))) := hr _ pre h2 (by omega)
  have hp0 := rp_pos (tx := tx) (T := T) f 4 d _ h2
  show G_X5_readsSigned rc 20 dd (hp κ (xM μ a pre)) = _
  rw [rp_e3]
  unfold G_X5_readsSigned
  rw [if_pos q20, hl]
  unfold b_X5_readsSigned_38
  rw [g0, obs]
  (try dsimp only)
  cases hb : (rp (pkf tx T) f 4 d (rmi (pkf tx T) 40 false a).2).1 with
  | false =>
    rw [if_pos (show bI false = 0 from rfl), if_neg (fun z => nomatch z.1), List.append_nil]
    rfl
  | true =>
    rw [if_neg (show ¬ bI true = 0 by decide)]
    cases hm : (rmi (pkf tx T) 40 false a).1 with
    | false =>
      rw [if_pos (show bI false = 0 from rfl), if_neg (fun z => nomatch z.2), List.append_nil]
      rfl
    | true =>
      have : a < (rmi (pkf tx T) 40 false a).2 := by
        rcases h3 with h3 | h3
        · rw [hm] at h3; cases h3
        · exact h3
      rw [if_neg (show ¬ bI true = 0 by decide), g20_1, obs, x_addSign (by rw [List.length_append]; have := hp0.1; have := hp0.2; omega), obs, if_pos ⟨rfl, rfl⟩, List.append_assoc]
      rfl
theorem xs_77 {rc : Nat → Nat → Int32 → ci_H → Option (Int32 × ci_H)} (h : TX μ.1 T tx) (hT : T ≤ 40) {pre : List Int32} {a d : Nat} {r : Rr} (ha : a ≤ T) (hpre : pre.length ≤ a) (hm : rnm (pkf tx T) 3 a = none) (hc : ¬ (pkf tx T a = 40 ∧ d < 4)) : b_X5_readsThing_77 rc 20 (if a < T then nI (tx a) else -1) (hp κ (xM μ a pre)) = some (bI (tR (pkf tx T) d a r).1, hp κ (xM μ (tR (pkf tx T) d a r).2.1 (pre ++ (tR (pkf tx T) d a r).2.2))) := by
  unfold b_X5_readsThing_77 tR
  rw [hm]
  (try dsimp only)
  rw [if_neg hc]
  by_cases c : pkf tx T a = 116 ∨ pkf tx T a = 107 ∨ pkf tx T a = 104 ∨ pkf tx T a = 110 ∨ pkf tx T a = 105 ∨ pkf tx T a = 111
  · have c3 : a < T := by
      rcases c with c | c | c | c | c | c <;> exact pk_T c (by decide)
    have e2 : tx a = pkf tx T a := (if_pos c3).symm
    have go : b_X5_readsThing_115 rc 20 (nI (pkf tx T a)) (hp κ (xM μ a pre)) = some (1, hp κ (xM μ (a + 1) (pre ++ [sg (nI (pkf tx T a))]))) := by
      unfold b_X5_readsThing_115
      rw [g20_0, obs, x_step xM_a, obs, xM_11, g20_1, obs, x_addSign (by omega), obs]
    rw [if_pos c, if_pos c3, e2, go]
    rcases c with c | c | c | c | c | c <;> rw [c] <;> rfl
  · have n1 : ∀ k : Nat, k < 256 → pkf tx T a ≠ k → ¬ (if a < T then nI (tx a) else -1) = nI k := fun k hk hn z => hn ((hx_eq h hk).mp z)
    rw [if_neg c, if_neg (show ¬ (if a < T then nI (tx a) else -1) = (116 : Int32) from n1 116 (by decide) (fun z => c (by omega))), if_neg (show ¬ (if a < T then nI (tx a) else -1) = (107 : Int32) from n1 107 (by decide) (fun z => c (by omega))), if_neg (show ¬ (if a < T then nI (tx a) else -1) = (104 : Int32) from n1 104 (by decide) (fun z => c (by omega))), if_neg (show ¬ (if a < T then nI (tx a) else -1) = (110 : Int32) from n1 110 (by decide) (fun z => c (by omega))), if_neg (show ¬ (if a < T then nI (tx a) else -1) = (105 : Int32) from n1 105 (by decide) (fun z => c (by omega))), if_neg (show ¬ (if a < T then nI (tx a) else -1) = (111 : Int32) from n1 111 (by decide) (fun z => c (by omega))), List.append_nil]
    rfl
theorem xs_thg (h : TX μ.1 T tx) (hT : T ≤ 40) {rc : Nat → Nat → Int32 → ci_H → Option (Int32 × ci_H)} {f d : Nat} {pre : List Int32} {a : Nat} (hd : d ≤ 4) (ha : a ≤ T) (hpre : pre.length ≤ a) (hr : d < 4 → ∀ x p, x ≤ T → p.length ≤ x → LvX κ μ (fun h => rc 0 20 (nI (d + 1)) h) x p (rp (pkf tx T) f 0 (d + 1) x)) : LvX κ μ (fun h => G_X5_readsThing rc 20 (nI d) h) a pre (rp (pkf tx T) (f + 1) 4 d a) := by
  have hn := x_number (κ := κ) (xM_TX (a := a) (pre := pre) h) xM_a ha (mo := 3) (by decide) (by decide)
  have hn : F_X9_number 11 3 (hp κ (xM μ a pre)) = _ := hn
  show G_X5_readsThing rc 20 (nI d) (hp κ (xM μ a pre)) = _
  rw [rp_e4 (j := 0)]
  unfold G_X5_readsThing
  rw [if_pos q20, g20_0, obs, hn]
  cases hm : rnm (pkf tx T) 3 a with
  | some q =>
    have hq := rnm_pos hm ha
    have hq2 := rnm_lt hm
    (try dsimp only)
    rw [obs]
    (try dsimp only)
    rw [if_neg (nI_pos (by omega)), g20_1, obs, xM_11]
    unfold F_X4_addNumber
    rw [if_pos q21, x_addPart (by omega), obs, obs]
    unfold tR
    rw [hm]
    rfl
  | none =>
    (try dsimp only)
    rw [obs]
    (try dsimp only)
    have hpk := x_peek (κ := κ) (xM_TX (a := a) (pre := pre) h) xM_a ha
    rw [if_pos (by decide), g20_0, obs, hpk, obs]
    (try dsimp only)
    by_cases c4 : pkf tx T a = 40
    · have hv : (if a < T then nI (tx a) else -1) = (40 : Int32) := (hx_eq h (c := 40) (by decide)).mpr c4
      by_cases c5 : d < 4
      · have c3 := pk_T c4 (by decide)
        have g1 : rc 0 20 (nI (d + 1)) (hp κ (xM μ (a + 1) pre)) = some (bI (rp (pkf tx T) f 0 (d + 1) (a + 1)).1, hp κ (xM μ (rp (pkf tx T) f 0 (d + 1) (a + 1)).2.1 (pre ++ (rp (pkf tx T) f 0 (d + 1) (a + 1)).2.2))) := hr c5 (a + 1) pre (by omega) (by omega)
        have gp := rp_pos (tx := tx) (T := T) f 0 (d + 1) (a + 1) (by omega)
        rw [if_pos hv, if_neg (show ¬ (4 : Int32) ≤ nI d from nI_ge (b := 4) c5 (by decide)), g20_0, obs, x_step xM_a, obs, xM_11, nI_1, g1, obs]
        (try dsimp only)
        unfold tR
        rw [hm]
        (try dsimp only)
        rw [if_pos (show pkf tx T a = 40 ∧ d < 4 from ⟨c4, c5⟩)]
        generalize rp (pkf tx T) f 0 (d + 1) (a + 1) = r at gp
        cases hb : r.1 with
        | false =>
          rw [if_pos (show bI false = 0 from rfl), if_neg (by decide), hb]
          rfl
        | true =>
          have ht : F_X9_takes 11 41 (hp κ (xM μ r.2.1 (pre ++ r.2.2))) = _ := x_takes (κ := κ) (xM_TX (a := r.2.1) (pre := pre ++ r.2.2) h) xM_a gp.2 (c := 41) (by decide)
          rw [if_neg (show ¬ bI true = 0 by decide), g20_0, obs, ht, if_pos rfl]
          by_cases c6 : pkf tx T r.2.1 = 41
          · rw [if_pos c6, if_pos c6, obs]
            (try dsimp only)
            rw [if_neg (by decide), xM_11]
            rfl
          · rw [if_neg c6, if_neg c6, obs]
            (try dsimp only)
            rw [if_pos rfl]
            rfl
      · rw [if_pos hv, if_pos (show (4 : Int32) ≤ nI d from nI_le (a := 4) (by omega) (by omega))]
        exact xs_77 h hT ha hpre hm (fun z => c5 z.2)
    · rw [if_neg (show ¬ (if a < T then nI (tx a) else -1) = (40 : Int32) from fun z => c4 ((hx_eq h (c := 40) (by decide)).mp z))]
      exact xs_77 h hT ha hpre hm (fun z => c4 z.1)
theorem xs_levels (h : TX μ.1 T tx) (hT : T ≤ 40) : ∀ f j d a (pre : List Int32), j ≤ 4 → d ≤ 4 → a ≤ T → pre.length ≤ a → 5 * (5 - d) ≤ f + j → LvX κ μ (fun h => FG_X5_readsExpression f j 20 (nI d) h) a pre (rp (pkf tx T) f j d a) := by
  intro f
  induction f with
  | zero => intro j d a pre hj hd ha hl hf; omega
  | succ f ih =>
    intro j d a pre hj hd ha hl hf
    have hj4 : j = 0 ∨ j = 1 ∨ j = 2 ∨ j = 3 ∨ j = 4 := by omega
    rcases hj4 with rfl | rfl | rfl | rfl | rfl
    · rw [rp_e0]
      exact xs_exp h hT ha hl (rc := fun j a0 a1 h => FG_X5_readsExpression f j a0 a1 h) (rd := fun x => rp (pkf tx T) f 1 d x) (fun x p h1 h2 => ih 1 d x p (by omega) hd h1 h2 (by omega)) (fun x hx => rp_pos f 1 d x hx)
    · rw [rp_e1]
      have g0 : FG_X5_readsExpression f 2 20 (nI d) (hp κ (xM μ a pre)) = _ := ih 2 d a pre (by omega) hd ha hl (by omega)
      have k1 := xs_sum (κ := κ) h hT (rc := fun j a0 a1 h => FG_X5_readsExpression f j a0 a1 h) (rd := fun x => rp (pkf tx T) f 2 d x) (dd := nI d) hl (fun x p h1 h2 => ih 2 d x p (by omega) hd h1 h2 (by omega)) (fun x hx => rp_pos f 2 d x hx) 40 0 (rp (pkf tx T) f 2 d a) 4959 rfl (rp_pos f 2 d a ha)
      show G_X5_readsSum (fun j a0 a1 h => FG_X5_readsExpression f j a0 a1 h) 20 (nI d) (hp κ (xM μ a pre)) = _
      unfold G_X5_readsSum
      rw [if_pos q20]
      (try dsimp only)
      rw [g0, obs]
      exact k1
    · rw [rp_e2]
      have g0 : FG_X5_readsExpression f 3 20 (nI d) (hp κ (xM μ a pre)) = _ := ih 3 d a pre (by omega) hd ha hl (by omega)
      have k1 := xs_pro (κ := κ) h hT (rc := fun j a0 a1 h => FG_X5_readsExpression f j a0 a1 h) (rd := fun x => rp (pkf tx T) f 3 d x) (dd := nI d) hl (fun x p h1 h2 => ih 3 d x p (by omega) hd h1 h2 (by omega)) (fun x hx => rp_pos f 3 d x hx) 40 0 (rp (pkf tx T) f 3 d a) 4959 rfl (rp_pos f 3 d a ha)
      show G_X5_readsProduct (fun j a0 a1 h => FG_X5_readsExpression f j a0 a1 h) 20 (nI d) (hp κ (xM μ a pre)) = _
      unfold G_X5_readsProduct
      rw [if_pos q20]
      (try dsimp only)
      rw [g0, obs]
      exact k1
    · exact xs_sig h hT ha hl (rc := fun j a0 a1 h => FG_X5_readsExpression f j a0 a1 h) (fun x p h1 h2 => ih 4 d x p (by omega) hd h1 h2 (by omega))
    · exact xs_thg h hT hd ha hl (rc := fun j a0 a1 h => FG_X5_readsExpression f j a0 a1 h) (fun h4 x p h1 h2 => ih 0 (d + 1) x p (by omega) (by omega) h1 h2 (by omega))
theorem x_reads (h : TX μ.1 T tx) (hT : T ≤ 40) : F_X5_readsExpression 20 0 (hp κ (xM μ 0 [])) = some (bI (rp (pkf tx T) 100 0 0 0).1, hp κ (xM μ (rp (pkf tx T) 100 0 0 0).2.1 (rp (pkf tx T) 100 0 0 0).2.2)) :=
  xs_levels h hT 100 0 0 0 [] (by decide) (by decide) (Nat.zero_le _) (Nat.le_refl _) (by decide)
end XLW
