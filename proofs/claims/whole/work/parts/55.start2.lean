/-! PURE: the constructors read no script; the law's run up to its loop. -/
def ci_nol (q : ci_Y) : Bool := (ci_code q).all fun o => match o with
  | some w => decide (w.1 ≠ .arraylength) && decide (w.2.2.2.2.2 = 7 ∨ w.2.2.2.2.2 = 11 ∨ w.2.2.2.2.2 = 12 ∨ w.2.2.2.2.2 = 13 → w.2.2.2.1 < 287) && decide (w.2.2.2.2.2 ≠ 14 ∧ (w.2.2.2.2.2 < 16))
  | none => true
set_option maxRecDepth 100000 in
theorem ci_nols : ((ci_tab.take 287).all ci_nol) = true := by decide +kernel
theorem ci_nolM {M : Nat} (h : M < 287) : ci_nol (ci_Ms M) = true := by
  have h1 : ci_Ms M = ci_tab.getD M ci_q0 := rfl
  rw [h1, List.getD_eq_getElem?_getD]
  cases hc : ci_tab[M]? with
  | none => rfl
  | some q =>
    have h2 : (ci_tab.take 287)[M]? = some q := by rw [List.getElem?_take, if_pos h]; exact hc
    exact List.all_eq_true.mp ci_nols q (List.mem_of_getElem? h2)
theorem ci_nol_at {q : ci_Y} (h : ci_nol q = true) {pc : Nat} {w : ci_I} (hw : (ci_code q)[pc]? = some (some w)) : w.1 ≠ .arraylength ∧ (w.2.2.2.2.2 = 7 ∨ w.2.2.2.2.2 = 11 ∨ w.2.2.2.2.2 = 12 ∨ w.2.2.2.2.2 = 13 → w.2.2.2.1 < 287) ∧ w.2.2.2.2.2 ≠ 14 ∧ w.2.2.2.2.2 < 16 := by
  have h1 := List.all_eq_true.mp h _ (List.mem_of_getElem? hw)
  dsimp only at h1
  rw [Bool.and_eq_true, Bool.and_eq_true] at h1
  exact ⟨of_decide_eq_true h1.1.1, of_decide_eq_true h1.1.2, of_decide_eq_true h1.2⟩
theorem ci_in_none (j : Int32) : ci_in j 0 = false := decide_eq_false (fun h => h (Or.inr (Nat.zero_le _)))
theorem st4_indep {i : Instr} {x y : Nat} {h : ci_H} {xs : Nat → Int32} {N : Nat} {S S' : List Value} (hi : i ≠ .arraylength) (hs : ci_st4 i x y h (fun _ => 0) 0 S = some S') : ci_st4 i x y h xs N S = some S' := by
  cases i with
  | arraylength => exact absurd rfl hi
  | iaload =>
    have hs : ci_ial h (fun _ => 0) 0 S = some S' := hs
    show ci_ial h xs N S = some S'
    unfold ci_ial at hs ⊢
    split at hs
    · (try dsimp only)
      split at hs
      · rw [ci_in_none] at hs; cases hs
      next hk => rw [if_neg hk]; exact hs
    · cases hs
  | _ => exact hs
section IND
variable {xs : Nat → Int32} {N : Nat}
set_option maxHeartbeats 4000000 in
theorem ci_indep : ∀ (n d M pc : Nat) (L S : List Value) (h : ci_H) (nx : ci_N) (r : Option Value × ci_H × ci_N), M < 287 → ci_run ci_Ms ci_cls ci_fty (fun _ => 0) 0 n d M pc L S h nx = some r → ci_run ci_Ms ci_cls ci_fty xs N n d M pc L S h nx = some r := by
  intro n
  induction n with
  | zero => intro d M pc L S h nx r hM hr; cases hr
  | succ n ih =>
    intro d M pc L S h nx r hM hr
    unfold ci_run at hr ⊢
    split at hr
    next i len v x y g hcode =>
      obtain ⟨n1, n2, n3, n4⟩ := ci_nol_at (ci_nolM hM) hcode
      split at hr
      · (try dsimp only); split at hr
        next q hq => exact ih _ _ _ _ _ _ _ _ hM hr
        · cases hr
      · (try dsimp only); split at hr
        next q hq => exact ih _ _ _ _ _ _ _ _ hM hr
        · cases hr
      · (try dsimp only); split at hr
        next q hq => exact ih _ _ _ _ _ _ _ _ hM hr
        · cases hr
      · (try dsimp only); split at hr
        next q hq => rw [st4_indep n1 hq]; exact ih _ _ _ _ _ _ _ _ hM hr
        · cases hr
      · (try dsimp only); split at hr
        next q hq => exact ih _ _ _ _ _ _ _ _ hM hr
        · cases hr
      · (try dsimp only); split at hr
        next q hq => exact ih _ _ _ _ _ _ _ _ hM hr
        · cases hr
      · (try dsimp only); exact hr
      · (try dsimp only); exact hr
      · (try dsimp only); split at hr
        next q hq => exact ih _ _ _ _ _ _ _ _ hM hr
        · cases hr
      · (try dsimp only); split at hr
        next q hq => exact ih _ _ _ _ _ _ _ _ hM hr
        · cases hr
      · exact absurd rfl n3
      next hn1 hn2 hn3 hn4 hn5 hn6 hn8 hn9 hn10 hn15 hn14 =>
        have hx : x < 287 ∨ g = 0 := by
          have n4 : g < 16 := n4
          have n2 : g = 7 ∨ g = 11 ∨ g = 12 ∨ g = 13 → x < 287 := n2
          have hn1 : ¬ g = 1 := fun z => hn1 z
          have hn2 : ¬ g = 2 := fun z => hn2 z
          have hn3 : ¬ g = 3 := fun z => hn3 z
          have hn4 : ¬ g = 4 := fun z => hn4 z
          have hn5 : ¬ g = 5 := fun z => hn5 z
          have hn6 : ¬ g = 6 := fun z => hn6 z
          have hn8 : ¬ g = 8 := fun z => hn8 z
          have hn9 : ¬ g = 9 := fun z => hn9 z
          have hn10 : ¬ g = 10 := fun z => hn10 z
          have hn15 : ¬ g = 15 := fun z => hn15 z
          have hn14 : ¬ g = 14 := fun z => hn14 z
          have : g = 7 ∨ g = 11 ∨ g = 12 ∨ g = 13 ∨ g = 0 := by omega
          rcases this with e | e | e | e | e
          · exact Or.inl (n2 (Or.inl e))
          · exact Or.inl (n2 (Or.inr (Or.inl e)))
          · exact Or.inl (n2 (Or.inr (Or.inr (Or.inl e))))
          · exact Or.inl (n2 (Or.inr (Or.inr (Or.inr e))))
          · exact Or.inr e
        · rcases d with _ | d'
          · cases hr
          · (try dsimp only at hr ⊢)
            split at hr
            next hc =>
              rw [if_pos hc]
              have hx : x < 287 := by
                rcases hx with e | e
                · exact e
                · subst e; cases hc.2.2.2
              split at hr
              next q hq =>
                rw [ih _ _ _ _ _ _ _ _ hx hq]
                (try dsimp only)
                split at hr
                · cases hr
                next hth => rw [if_neg hth]; exact ih _ _ _ _ _ _ _ _ hM hr
              · cases hr
            · cases hr
    · cases hr
end IND
theorem ct_get : ∃ (κ : Kp) (μ : Mem), ct_5 = some (hp κ μ, 149, 149, 2647) ∧ Ref0 κ ∧ Init0 μ := by
  have h := ct_ok
  cases hc : ct_5 with
  | none => rw [hc] at h; cases h
  | some q =>
    rw [hc] at h
    have h1 : (ct_all q.1 0 hp_T && decide (q.2 = (149, 149, 2647))) = true := Option.some.inj h
    rw [Bool.and_eq_true] at h1
    obtain ⟨h2, h3⟩ := h1
    have h3 : q.2 = (149, 149, 2647) := of_decide_eq_true h3
    have hg : ∀ (a : Nat) (s : Nat × Nat × List Nat), hp_T[a]? = some s → ct_cell a s (q.1 a) = true := fun a s hs => by
      have h4 := ct_all_get hp_T 0 a s h2 hs
      rw [Nat.zero_add] at h4
      exact h4
    have he : q.1 = hp (ct_K q.1) (ct_M q.1) := by
      funext a
      unfold hp
      cases hs : hp_T[a]? with
      | none => rfl
      | some s => exact (ct_one (hg a s hs)).1
    refine ⟨ct_K q.1, ct_M q.1, ?_, ⟨fun j hj => ?_, fun j hj => ?_, fun j hj => ?_⟩, fun a s j hs ht hj => (ct_one (hg a s hs)).2.1 ht j hj, fun a x fs j hs hj => (ct_one (hg a _ hs)).2.2.1 rfl j hj, fun a n fs j hs hj => (ct_one (hg a _ hs)).2.2.2.1 rfl j hj⟩
    · rw [← he, ← h3]
    · exact (ct_one (hg 25 (4, 13, []) rfl)).2.2.2.2 (Or.inl rfl) j hj
    · exact (ct_one (hg 92 (4, 2, []) rfl)).2.2.2.2 (Or.inl rfl) j hj
    · exact (ct_one (hg 117 (5, 5, []) rfl)).2.2.2.2 (Or.inr rfl) j hj
