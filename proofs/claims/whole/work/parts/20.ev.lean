/-! PURE: what a run of the clean interpreter comes to, without the number of its steps. -/
section EVM
variable {Ms : Nat → ci_Y} {cl : List vw_C} {fty : Nat → Nat → FieldType} {xs : Nat → Int32} {N : Nat}
/-- more steps do no harm -/
theorem ci_more : ∀ (n d M pc : Nat) (L S : List Value) (h : ci_H) (nx : ci_N) (r : Option Value × ci_H × ci_N), ci_run Ms cl fty xs N n d M pc L S h nx = some r → ∀ k, ci_run Ms cl fty xs N (n + k) d M pc L S h nx = some r := by
  intro n
  induction n with
  | zero => intro d M pc L S h nx r hr; cases hr
  | succ n ih =>
    intro d M pc L S h nx r hr k
    rw [show n + 1 + k = (n + k) + 1 by omega]
    unfold ci_run at hr ⊢
    split at hr
    next i len v x y g hcode =>
      split at hr
      · (try dsimp only); split at hr
        next q hq => exact ih _ _ _ _ _ _ _ _ hr k
        · cases hr
      · (try dsimp only); split at hr
        next q hq => exact ih _ _ _ _ _ _ _ _ hr k
        · cases hr
      · (try dsimp only); split at hr
        next q hq => exact ih _ _ _ _ _ _ _ _ hr k
        · cases hr
      · (try dsimp only); split at hr
        next q hq => exact ih _ _ _ _ _ _ _ _ hr k
        · cases hr
      · (try dsimp only); split at hr
        next q hq => exact ih _ _ _ _ _ _ _ _ hr k
        · cases hr
      · (try dsimp only); split at hr
        next q hq => exact ih _ _ _ _ _ _ _ _ hr k
        · cases hr
      · (try dsimp only); exact hr
      · (try dsimp only); exact hr
      · (try dsimp only); split at hr
        next q hq => exact ih _ _ _ _ _ _ _ _ hr k
        · cases hr
      · (try dsimp only); split at hr
        next q hq => exact ih _ _ _ _ _ _ _ _ hr k
        · cases hr
      · rcases d with _ | _ | d'
        · cases hr
        · cases hr
        · (try dsimp only at hr ⊢)
          split at hr
          next o S1 =>
            split at hr
            next hc =>
              rw [if_pos hc]
              split at hr
              next q hq =>
                rw [ih _ _ _ _ _ _ _ _ hq k]
                (try dsimp only)
                split at hr
                next u hu => exact ih _ _ _ _ _ _ _ _ hr k
                · cases hr
              · cases hr
            · cases hr
          · cases hr
      next hn1 hn2 hn3 hn4 hn5 hn6 hn8 hn9 hn10 hn15 hn14 =>
        · rcases d with _ | d'
          · cases hr
          · (try dsimp only at hr ⊢)
            split at hr
            next hc =>
              rw [if_pos hc]
              split at hr
              next q hq =>
                rw [ih _ _ _ _ _ _ _ _ hq k]
                (try dsimp only)
                split at hr
                · cases hr
                next hth => rw [if_neg hth]; exact ih _ _ _ _ _ _ _ _ hr k
              · cases hr
            · cases hr
    · cases hr
end EVM
/-- method M, at depth d, from this place and state, ends with r -/
def Ev (xs : Nat → Int32) (N d M pc : Nat) (L S : List Value) (h : ci_H) (nx : ci_N) (r : Option Value × ci_H × ci_N) : Prop := ∃ n, ci_run ci_Ms ci_cls ci_fty xs N n d M pc L S h nx = some r
-- what isn't known of the locals may be anything
def ci_le (L L' : List Value) : Prop := L'.length = L.length ∧ ∀ (i : Nat) (v : Value), L[i]? = some v → v ≠ ci_junk → L'[i]? = some v
theorem ci_le_n : ci_le [] [] := ⟨rfl, fun i v h => by simp at h⟩
theorem ci_le_c {v v' : Value} {L L' : List Value} (h : v = ci_junk ∨ v = v') (hl : ci_le L L') : ci_le (v :: L) (v' :: L') := by
  refine ⟨by rw [List.length_cons, List.length_cons, hl.1], fun i w hi hw => ?_⟩
  cases i with
  | zero =>
    cases hi
    rcases h with h | h
    · exact absurd h hw
    · rw [h]; rfl
  | succ i => rw [List.getElem?_cons_succ] at hi ⊢; exact hl.2 i w hi hw
theorem ci_le_rf {L : List Value} : ci_le L L := ⟨rfl, fun _ _ h _ => h⟩
theorem ci_clr_get2 {L : List Value} {i j : Nat} {v : Value} (h : L[j]? = some v) (hc : ¬ (j + 1 = i ∧ v.category = 2)) : (ci_clr L i)[j]? = some v := by
  unfold ci_clr
  split
  next hp =>
    by_cases e : j = i - 1
    · exfalso
      have hi : i ≠ 0 := by
        intro z
        subst z
        cases hp
      have hj : j + 1 = i := by omega
      subst hj
      unfold ci_p2 at hp
      simp only [h] at hp
      cases v with
      | long x => exact hc ⟨rfl, rfl⟩
      | double x => exact hc ⟨rfl, rfl⟩
      | _ => cases hp
    · rw [List.getElem?_set_ne (Ne.symm e)]; exact h
  next => exact h
theorem ci_le.set {L L' : List Value} (hl : ci_le L L') (i : Nat) (v : Value) : ci_le ((ci_clr L i).set i v) ((ci_clr L' i).set i v) := by
  refine ⟨by rw [List.length_set, List.length_set, ci_clr_len, ci_clr_len]; exact hl.1, fun j w hj hw => ?_⟩
  by_cases e : j = i
  · subst e
    have hlt : j < (ci_clr L j).length := by have := (List.getElem?_eq_some_iff.mp hj).1; rw [List.length_set] at this; exact this
    rw [List.getElem?_set_self hlt] at hj
    rw [List.getElem?_set_self (by rw [ci_clr_len, hl.1, ← ci_clr_len L j]; exact hlt)]
    exact hj
  · rw [List.getElem?_set_ne (Ne.symm e)] at hj ⊢
    obtain ⟨h1, h2⟩ := ci_clr_get hj hw
    exact ci_clr_get2 (hl.2 j w h1 hw) h2
theorem ci_le.set1 {L L' : List Value} (hl : ci_le L L') (i : Nat) (v : Value) : ci_le (L.set i v) (L'.set i v) := by
  refine ⟨by rw [List.length_set, List.length_set]; exact hl.1, fun j w hj hw => ?_⟩
  by_cases e : j = i
  · subst e
    have hlt : j < L.length := by have := (List.getElem?_eq_some_iff.mp hj).1; rw [List.length_set] at this; exact this
    rw [List.getElem?_set_self hlt] at hj
    rw [List.getElem?_set_self (by rw [hl.1]; exact hlt)]
    exact hj
  · rw [List.getElem?_set_ne (Ne.symm e)] at hj ⊢
    exact hl.2 j w hj hw
theorem ci_le.st1 {L L' S S' : List Value} (hl : ci_le L L') {i : Instr} {v : Int32} {x : Nat} (h : ci_st1 i v x L S = some S') : ci_st1 i v x L' S = some S' := by
  have hi : ∀ k, ci_ldi L k S = some S' → ci_ldi L' k S = some S' := fun k h => by obtain ⟨y, h1, rfl⟩ := ci_ldi_inv h; unfold ci_ldi; rw [hl.2 k _ h1 (by simp [ci_junk])]
  have hj : ∀ k, ci_ldl L k S = some S' → ci_ldl L' k S = some S' := fun k h => by obtain ⟨y, h1, rfl⟩ := ci_ldl_inv h; unfold ci_ldl; rw [hl.2 k _ h1 (by simp [ci_junk])]
  have ha : ∀ k, ci_lda L k S = some S' → ci_lda L' k S = some S' := fun k h => by obtain ⟨y, h1, rfl⟩ := ci_lda_inv h; unfold ci_lda; rw [hl.2 k _ h1 (by simp [ci_junk])]
  cases i with
  | iload_n k => exact hi _ h
  | iload k => exact hi _ h
  | lload_n k => exact hj _ h
  | lload k => exact hj _ h
  | aload_n k => exact ha _ h
  | aload k => exact ha _ h
  | _ => exact h
theorem ci_le.st2 {L L' S L1 S1 : List Value} (hl : ci_le L L') {i : Instr} {v : Int32} (h : ci_st2 i v L S = some (L1, S1)) : ∃ L2, ci_st2 i v L' S = some (L2, S1) ∧ ci_le L1 L2 := by
  have hi : ∀ k, ci_sti L k S = some (L1, S1) → ∃ L2, ci_sti L' k S = some (L2, S1) ∧ ci_le L1 L2 := fun k h => by
    obtain ⟨y, rfl, h1⟩ := ci_sti_inv h
    obtain ⟨g1, rfl⟩ := ci_set_inv h1
    refine ⟨_, ?_, hl.set k (.int y)⟩
    simp only [ci_sti, ci_set, hl.1, if_pos g1, Option.map_some]
  have hj : ∀ k, ci_stl L k S = some (L1, S1) → ∃ L2, ci_stl L' k S = some (L2, S1) ∧ ci_le L1 L2 := fun k h => by
    obtain ⟨y, rfl, h1⟩ := ci_stl_inv h
    obtain ⟨g1, rfl⟩ := ci_set2_inv h1
    refine ⟨_, ?_, (hl.set k (.long y)).set1 (k + 1) ci_junk⟩
    simp only [ci_stl, ci_set2, hl.1, if_pos g1, Option.map_some]
  have ha : ∀ k, ci_sta L k S = some (L1, S1) → ∃ L2, ci_sta L' k S = some (L2, S1) ∧ ci_le L1 L2 := fun k h => by
    obtain ⟨y, rfl, h1⟩ := ci_sta_inv h
    obtain ⟨g1, rfl⟩ := ci_set_inv h1
    refine ⟨_, ?_, hl.set k (.ref y)⟩
    simp only [ci_sta, ci_set, hl.1, if_pos g1, Option.map_some]
  cases i with
  | istore_n k => exact hi _ h
  | istore k => exact hi _ h
  | lstore_n k => exact hj _ h
  | lstore k => exact hj _ h
  | astore_n k => exact ha _ h
  | astore k => exact ha _ h
  | iinc k n =>
    have h : ci_inc L k v S = some (L1, S1) := h
    obtain ⟨y, h0, rfl, h1⟩ := ci_inc_inv h
    obtain ⟨g1, rfl⟩ := ci_set_inv h1
    refine ⟨_, ?_, hl.set k (.int (y + v))⟩
    show ci_inc L' k v S1 = _
    simp only [ci_inc, hl.2 k _ h0 (by simp [ci_junk]), ci_set, hl.1, if_pos g1, Option.map_some]
  | _ => cases h
theorem ci_weak {xs : Nat → Int32} {N : Nat} : ∀ (n d M pc : Nat) (L L' S : List Value) (h : ci_H) (nx : ci_N) (r : Option Value × ci_H × ci_N), ci_le L L' → ci_run ci_Ms ci_cls ci_fty xs N n d M pc L S h nx = some r → ci_run ci_Ms ci_cls ci_fty xs N n d M pc L' S h nx = some r := by
  intro n
  induction n with
  | zero => intro d M pc L L' S h nx r hl hr; cases hr
  | succ n ih =>
    intro d M pc L L' S h nx r hl hr
    unfold ci_run at hr ⊢
    split at hr
    next i len v x y g hcode =>
      split at hr
      · (try dsimp only); split at hr
        next q hq => rw [hl.st1 hq]; exact ih _ _ _ _ _ _ _ _ _ hl hr
        · cases hr
      · (try dsimp only); split at hr
        next q hq => obtain ⟨L2, h2, h3⟩ := hl.st2 (L1 := q.1) (S1 := q.2) hq; rw [h2]; exact ih _ _ _ _ _ _ _ _ _ h3 hr
        · cases hr
      · (try dsimp only); split at hr
        next q hq => exact ih _ _ _ _ _ _ _ _ _ hl hr
        · cases hr
      · (try dsimp only); split at hr
        next q hq => exact ih _ _ _ _ _ _ _ _ _ hl hr
        · cases hr
      · (try dsimp only); split at hr
        next q hq => exact ih _ _ _ _ _ _ _ _ _ hl hr
        · cases hr
      · (try dsimp only); split at hr
        next q hq => exact ih _ _ _ _ _ _ _ _ _ hl hr
        · cases hr
      · (try dsimp only); exact hr
      · (try dsimp only); exact hr
      · (try dsimp only); split at hr
        next q hq => exact ih _ _ _ _ _ _ _ _ _ hl hr
        · cases hr
      · (try dsimp only); split at hr
        next q hq => exact ih _ _ _ _ _ _ _ _ _ hl hr
        · cases hr
      · rcases d with _ | _ | d'
        · cases hr
        · cases hr
        · (try dsimp only at hr ⊢)
          split at hr
          next o S1 =>
            split at hr
            next hc =>
              rw [if_pos hc]
              split at hr
              next q hq =>
                (try dsimp only)
                split at hr
                next u hu => exact ih _ _ _ _ _ _ _ _ _ hl hr
                · cases hr
              · cases hr
            · cases hr
          · cases hr
      next hn1 hn2 hn3 hn4 hn5 hn6 hn8 hn9 hn10 hn15 hn14 =>
        · rcases d with _ | d'
          · cases hr
          · (try dsimp only at hr ⊢)
            split at hr
            next hc =>
              rw [if_pos hc]
              split at hr
              next q hq =>
                (try dsimp only)
                split at hr
                · cases hr
                next hth => rw [if_neg hth]; exact ih _ _ _ _ _ _ _ _ _ hl hr
              · cases hr
            · cases hr
    · cases hr
