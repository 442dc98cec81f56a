/-! PURE: a list of things, read by the reference. -/
section TYR
variable {κ : Kp} {ν : Mem} {m ln tp T tc hc : Nat} {tx : Nat → Nat}
theorem y_oneOfB {a : Nat} {w : Int32} (hw : ¬ w = -1) (c k : Int32) : F_X12_oneOf 127 c k (hp κ (rdM ν a w)) = some (0, hp κ (rdM ν a w)) := by
  unfold F_X12_oneOf
  rw [if_pos q127, y_fine, obs]
  (try dsimp only)
  rw [if_neg hw, if_pos rfl]
theorem y_tEndB {n : Int32} {a p : Nat} (h : ν.1 127 13 = nI ln) (hl : ln ≤ 80) (hp0 : p < 2 ^ 31) : b_X12_things_117 127 n (hp κ (rdM ν a (nI p))) = some (-1 - nI p, hp κ (rdM ν a (nI p))) := by
  have hr := y_wasRight (κ := κ) (ν := ν) (a := a) (w := nI p) h (Or.inr ⟨p, hp0, rfl⟩) (by omega) (fun z => absurd z (nI_m1 hp0))
  rw [if_neg (fun z => nI_m1 hp0 z.1), if_neg (nI_m1 hp0)] at hr
  unfold b_X12_things_117
  rw [hr, obs]
  (try dsimp only)
  rw [if_pos rfl, g127_16, obs, rdM_w]
theorem y_tEnd {n : Int32} {a : Nat} (h : ν.1 127 13 = nI ln) (hl : ln ≤ 80) (ha : a ≤ ln) : b_X12_things_117 127 n (hp κ (rdM ν a (-1))) = if a = ln then b_X12_things_133 127 n bigN 0 (hp κ (rdM ν a (-1))) else some (-1 - nI a, hp κ (rdM ν a (nI a))) := by
  have hr := y_wasRight (κ := κ) (ν := ν) (a := a) (w := -1) h (Or.inl rfl) (by omega) (fun _ => by omega)
  rw [if_pos rfl] at hr
  unfold b_X12_things_117
  rw [hr, obs]
  (try dsimp only)
  by_cases c : a = ln
  · rw [if_pos (show (-1 : Int32) = -1 ∧ ln ≤ a from ⟨rfl, by omega⟩), if_neg (show ¬ (1 : Int32) = 0 by decide), if_pos c, if_pos (show ln ≤ a by omega)]
  · rw [if_neg (show ¬ ((-1 : Int32) = -1 ∧ ln ≤ a) from fun z => by have := z.2; omega), if_pos rfl, if_neg c, if_neg (by omega), g127_16, obs, rdM_w]
/-- one thing: the loop goes on behind it -/
theorem y_thing1 (h : RD ν m ln tp T tx) (h1 : ν.1 127 1 = nI hc) (hh : 1 ≤ hc ∧ hc ≤ 5) {i a : Nat} (hi : i < 12) (ha : a ≤ T) (r24 : Int32 → Int32 → ci_H → Option (Int32 × ci_H)) (g : Nat → Int32) : ∃ g', (∀ k, k < 2 * i → g' k = g k) ∧ ((∃ p, p < 2 ^ 31 ∧ p = (t1 (pkf tx T) hc a).2.1 ∧ (t1 (pkf tx T) hc a).1 = false ∧ ((F_X12_letters 127 0 0 (hp κ (rdM (rowI ν 133 g) a (-1)))).bind fun q9 => (wI q9.2 133 (2 * nI i) q9.1).bind fun h10 => (gR h10 127 12 17).bind fun v11 => (F_X12_passes 127 45 h10).bind fun q12 => if q12.1 = 0 then ((gI q12.2 127 12 1).bind fun v14 => (F_X12_oneOf 127 48 v14 q12.2).bind fun q15 => b_X12_things_103 r24 127 (nI i) v11 ((2 * nI i) + 1) q15.1 q15.2) else (b_X12_things_103 r24 127 (nI i) v11 ((2 * nI i) + 1) (-1) q12.2)) = r24 (nI i + 1) 0 (hp κ (rdM (rowI ν 133 g') p (nI p)))) ∨ ((t1 (pkf tx T) hc a).1 = true ∧ g' (2 * i) = (t1 (pkf tx T) hc a).2.2.1 ∧ g' (2 * i + 1) = (t1 (pkf tx T) hc a).2.2.2 ∧ ((F_X12_letters 127 0 0 (hp κ (rdM (rowI ν 133 g) a (-1)))).bind fun q9 => (wI q9.2 133 (2 * nI i) q9.1).bind fun h10 => (gR h10 127 12 17).bind fun v11 => (F_X12_passes 127 45 h10).bind fun q12 => if q12.1 = 0 then ((gI q12.2 127 12 1).bind fun v14 => (F_X12_oneOf 127 48 v14 q12.2).bind fun q15 => b_X12_things_103 r24 127 (nI i) v11 ((2 * nI i) + 1) q15.1 q15.2) else (b_X12_things_103 r24 127 (nI i) v11 ((2 * nI i) + 1) (-1) q12.2)) = (if pkf tx T (t1 (pkf tx T) hc a).2.1 = 59 then r24 (nI i + 1) 1 (hp κ (rdM (rowI ν 133 g') ((t1 (pkf tx T) hc a).2.1 + 1) (-1))) else r24 (nI i + 1) 0 (hp κ (rdM (rowI ν 133 g') (t1 (pkf tx T) hc a).2.1 (-1)))))) := by
  have hT := h.T80
  obtain ⟨p1, p2, p3⟩ := lts_pos (tx := tx) (T := T) (no := 0) 6 0 a ha (by decide)
  obtain ⟨w, hl, hw⟩ := y_letters (κ := κ) (ν := rowI ν 133 g) (no := 0) (ls := 0) h.r133 (by decide) (by decide) ha
  have hl : F_X12_letters 127 0 0 (hp κ (rdM (rowI ν 133 g) a (-1))) = _ := hl
  have e2i : (2 : Int32) * nI i = nI (2 * i) := pk_mul 2 i
  have e2i1 : nI (2 * i) + 1 = nI (2 * i + 1) := nI_1 _
  have e1 : ∀ g' b w, (rdM (rowI ν 133 g') b w).1 127 1 = nI hc := fun _ _ _ => h1
  unfold t1
  generalize lts (pkf tx T) 0 6 0 a = q at hl hw p1 p2 p3
  rw [hl, obs, e2i, e2i1]
  (try dsimp only)
  have tailB : ∀ (g0 : Nat → Int32) (a0 p : Nat) (v : Int32), p < 2 ^ 31 → b_X12_things_103 r24 127 (nI i) 133 (nI (2 * i + 1)) v (hp κ (rdM (rowI ν 133 g0) a0 (nI p))) = r24 (nI i + 1) 0 (hp κ (rdM (rowI ν 133 (upd g0 (2 * i + 1) v)) a0 (nI p))) := fun g0 a0 p v hp0 => by
    unfold b_X12_things_103 b_X12_things_104
    rw [w133 (by omega), obs, rd_133, y_passesB (nI_m1 hp0), obs]
  have tail : ∀ (g0 : Nat → Int32) (a0 : Nat) (v : Int32), a0 ≤ T → b_X12_things_103 r24 127 (nI i) 133 (nI (2 * i + 1)) v (hp κ (rdM (rowI ν 133 g0) a0 (-1))) = if pkf tx T a0 = 59 then r24 (nI i + 1) 1 (hp κ (rdM (rowI ν 133 (upd g0 (2 * i + 1) v)) (a0 + 1) (-1))) else r24 (nI i + 1) 0 (hp κ (rdM (rowI ν 133 (upd g0 (2 * i + 1) v)) a0 (-1))) := fun g0 a0 v ha0 => by
    have hps : F_X12_passes 127 59 (hp κ (rdM (rowI ν 133 (upd g0 (2 * i + 1) v)) a0 (-1))) = _ := y_passes (κ := κ) h.r133 (a := a0) (c := 59) ha0 (by decide)
    unfold b_X12_things_103 b_X12_things_104
    rw [w133 (by omega), obs, rd_133, hps]
    by_cases c : pkf tx T a0 = 59
    · rw [if_pos c, if_pos c, obs]
    · rw [if_neg c, if_neg c, obs]
  rw [w133 (by omega), obs, rd_133, g127_17, obs]
  rcases hw with ⟨w1, rfl⟩ | ⟨w1, rfl⟩
  · have w2 : 97 ≤ pkf tx T q.2 ∧ pkf tx T q.2 < 103 := by
      rcases w1 with w1 | w1
      · exact w1
      · exact absurd w1 (Nat.not_lt_zero _)
    rw [y_passesB (nI_m1 (by omega)), obs]
    (try dsimp only)
    rw [if_pos rfl, g127_1, obs, y_oneOfB (nI_m1 (by omega)), obs]
    (try dsimp only)
    rw [tailB _ _ _ _ (by omega), if_neg (by omega), if_neg (by omega)]
    exact ⟨upd (upd g (2 * i) (nI q.1)) (2 * i + 1) 0, fun k hk => by rw [pk_un (by omega), pk_un (by omega)], Or.inl ⟨q.2, by omega, rfl, rfl, rfl⟩⟩
  · have hps : F_X12_passes 127 45 (hp κ (rdM (rowI ν 133 (upd g (2 * i) (nI q.1))) q.2 (-1))) = _ := y_passes (κ := κ) h.r133 (a := q.2) (c := 45) p2 (by decide)
    rw [hps]
    by_cases c1 : pkf tx T q.2 = 45
    · have c3 := pk_T c1 (by decide)
      rw [if_pos c1, if_pos c1, obs]
      (try dsimp only)
      rw [if_neg (show ¬ (1 : Int32) = 0 by decide), tail _ _ _ (by omega)]
      exact ⟨upd (upd g (2 * i) (nI q.1)) (2 * i + 1) (-1), fun k hk => by rw [pk_un (by omega), pk_un (by omega)], Or.inr ⟨rfl, by rw [pk_un (by omega), pk_us], pk_us, rfl⟩⟩
    · have ho : F_X12_oneOf 127 48 (nI hc) (hp κ (rdM (rowI ν 133 (upd g (2 * i) (nI q.1))) q.2 (-1))) = _ := y_oneOf (κ := κ) h.r133 (a := q.2) (c := 48) (k := hc) p2 hh.1 (by omega)
      rw [if_neg c1, if_neg c1, obs]
      (try dsimp only)
      rw [if_pos rfl, g127_1, obs, e1, ho]
      by_cases c2 : 48 ≤ pkf tx T q.2 ∧ pkf tx T q.2 < 48 + hc
      · have c3 : q.2 < T := pk_T (c := pkf tx T q.2) rfl (by omega)
        rw [if_pos c2, if_pos c2, obs]
        (try dsimp only)
        rw [tail _ _ _ (by omega)]
        exact ⟨upd (upd g (2 * i) (nI q.1)) (2 * i + 1) (nI (pkf tx T q.2 - 48)), fun k hk => by rw [pk_un (by omega), pk_un (by omega)], Or.inr ⟨rfl, by rw [pk_un (by omega), pk_us], pk_us, rfl⟩⟩
      · rw [if_neg c2, if_neg c2, obs]
        (try dsimp only)
        rw [tailB _ _ _ _ (by omega)]
        exact ⟨upd (upd g (2 * i) (nI q.1)) (2 * i + 1) 0, fun k hk => by rw [pk_un (by omega), pk_un (by omega)], Or.inl ⟨q.2, by omega, rfl, rfl, rfl⟩⟩
/-- all things -/
theorem y_thingsL (h : RD ν m ln tp T tx) (hln : T ≤ ln) (h1 : ν.1 127 1 = nI hc) (hh : 1 ≤ hc ∧ hc ≤ 5) (h3 : ν.1 127 2 = nI tc) (hkc : tc ≤ 12) : ∀ (n i a F : Nat) (g : Nat → Int32), tc + i ≤ 12 → a ≤ T → 12 - tc - i < n → ∃ g', (∀ k, k < 2 * i → g' k = g k) ∧ (((rdl (t1 (pkf tx T) hc) (pkf tx T) (12 - tc) n i a).1 = true ∧ (rdl (t1 (pkf tx T) hc) (pkf tx T) (12 - tc) n i a).2.1 = ln ∧ Ity g' i (rdl (t1 (pkf tx T) hc) (pkf tx T) (12 - tc) n i a).2.2 ∧ tc + i + (rdl (t1 (pkf tx T) hc) (pkf tx T) (12 - tc) n i a).2.2.length ≤ 12 ∧ b_X12_things_24 127 (F + n + 1) (nI i) 1 (hp κ (rdM (rowI ν 133 g) a (-1))) = b_X12_things_133 127 (nI (i + (rdl (t1 (pkf tx T) hc) (pkf tx T) (12 - tc) n i a).2.2.length)) bigN 0 (hp κ (rdM (rowI ν 133 g') ln (-1)))) ∨ (¬ ((rdl (t1 (pkf tx T) hc) (pkf tx T) (12 - tc) n i a).1 = true ∧ (rdl (t1 (pkf tx T) hc) (pkf tx T) (12 - tc) n i a).2.1 = ln) ∧ ∃ a' w', b_X12_things_24 127 (F + n + 1) (nI i) 1 (hp κ (rdM (rowI ν 133 g) a (-1))) = some (-1 - nI (rdl (t1 (pkf tx T) hc) (pkf tx T) (12 - tc) n i a).2.1, hp κ (rdM (rowI ν 133 g') a' w')))) := by
  have hT := h.T80
  have hl : ln ≤ 80 := h.2.2.2.2.1
  have e13 : ∀ g : Nat → Int32, (rowI ν 133 g).1 127 13 = nI ln := fun g => h.2.2.1
  have e3 : ∀ (g : Nat → Int32) a w, (rdM (rowI ν 133 g) a w).1 127 2 = nI tc := fun g a w => h3
  intro n
  induction n with
  | zero => intro i a F g _ _ hn; omega
  | succ n ih =>
    intro i a F g hi ha hn
    have z0 : ∀ (F i : Nat) (hh : ci_H), b_X12_things_24 127 (F + 1) (nI i) 0 hh = b_X12_things_117 127 (nI i) hh := fun F i hh => by
      rw [b_X12_things_24, if_pos rfl]
    show ∃ g', _ ∧ ((_ ∧ _ ∧ _ ∧ _ ∧ b_X12_things_24 127 (F + n + 1 + 1) (nI i) 1 (hp κ (rdM (rowI ν 133 g) a (-1))) = _) ∨ (_ ∧ ∃ a' w', b_X12_things_24 127 (F + n + 1 + 1) (nI i) 1 (hp κ (rdM (rowI ν 133 g) a (-1))) = _))
    rw [b_X12_things_24, if_neg (by decide), y_fine, obs, rdl_s]
    (try dsimp only)
    rw [if_pos rfl, if_neg (show ¬ (1 : Int32) = 0 by decide), g127_2, obs, e3, nI_add]
    by_cases c0 : tc + i = 12
    · rw [if_pos (show nI (tc + i) = 12 by rw [c0]; rfl), if_pos (show 12 - tc ≤ i by omega), g127_15, obs, rdM_a, y_fault, obs, if_pos rfl]
      refine ⟨g, fun _ _ => rfl, Or.inr ⟨(fun z => nomatch z.1), a, nI a, ?_⟩⟩
      unfold b_X12_things_104
      rw [y_passesB (nI_m1 (by omega)), obs, nI_1]
      (try dsimp only)
      rw [z0, y_tEndB (e13 g) hl (by omega)]
    · obtain ⟨g', k0, hk⟩ := y_thing1 (κ := κ) h h1 hh (i := i) (a := a) (by omega) ha (fun x0 x1 x2 => b_X12_things_24 127 (F + n + 1) x0 x1 x2) g
      obtain ⟨p1, p2⟩ := t1_pos (tx := tx) hh.2 ha
      rw [if_neg (show ¬ nI (tc + i) = 12 from fun z => c0 ((i_eq (b := 12) (by omega) (by decide)).mp z)), if_neg (show ¬ 12 - tc ≤ i by omega), g127_17, obs]
      generalize t1 (pkf tx T) hc a = q at hk p1 p2
      rcases hk with ⟨p, hp0, hp1, hp2, hk⟩ | ⟨hb, f1, f2, hk⟩
      · rw [hk]
        (try dsimp only)
        rw [nI_1, z0, y_tEndB (e13 g') hl hp0, if_neg (by rw [hp2]; decide), hp1]
        exact ⟨g', k0, Or.inr ⟨(fun z => nomatch z.1), _, _, rfl⟩⟩
      · rw [hk, if_pos hb]
        by_cases c1 : pkf tx T q.2.1 = 59
        · have c3 := pk_T c1 (by decide)
          obtain ⟨g2, r0, hr⟩ := ih (i + 1) (q.2.1 + 1) F g' (by omega) (by omega) (by omega)
          rw [if_pos c1, if_pos c1]
          (try dsimp only)
          rw [nI_1]
          refine ⟨g2, fun k hk => (r0 k (by omega)).trans (k0 k hk), ?_⟩
          rcases hr with ⟨r1, r2, r3, r4, r5⟩ | ⟨r1, a', w', r2⟩
          · refine Or.inl ⟨r1, r2, Ity.cons ((r0 _ (by omega)).trans f1) ((r0 _ (by omega)).trans f2) r3, by rw [List.length_cons]; omega, ?_⟩
            have e : i + ((rdl (t1 (pkf tx T) hc) (pkf tx T) (12 - tc) n (i + 1) (q.2.1 + 1)).2.2.length + 1) = i + 1 + (rdl (t1 (pkf tx T) hc) (pkf tx T) (12 - tc) n (i + 1) (q.2.1 + 1)).2.2.length := by omega
            rw [r5, List.length_cons, e]
          · exact Or.inr ⟨r1, a', w', r2⟩
        · rw [if_neg c1, if_neg c1]
          (try dsimp only)
          rw [nI_1, z0, y_tEnd (e13 g') hl (by omega)]
          by_cases c2 : q.2.1 = ln
          · rw [if_pos c2]
            exact ⟨g', k0, Or.inl ⟨rfl, c2, Ity.cons f1 f2 (fun k hk => absurd hk (Nat.not_lt_zero _)), by show tc + i + 1 ≤ 12; omega, by rw [c2]; rfl⟩⟩
          · rw [if_neg c2]
            exact ⟨g', k0, Or.inr ⟨fun z => c2 z.2, _, _, rfl⟩⟩
end TYR
