/-! PURE: a list of kinds, read by the reference. -/
section KYR
variable {κ : Kp} {ν : Mem} {m ln tp T kc : Nat} {tx : Nat → Nat}
theorem RD.r133 (h : RD ν m ln tp T tx) {g : Nat → Int32} : RD (rowI ν 133 g) m ln tp T tx := by
  obtain ⟨h1, h2, h3⟩ := h
  rcases h2 with ⟨rfl, h2⟩ | ⟨rfl, h2⟩
  · exact ⟨h1, Or.inl ⟨rfl, h2⟩, h3⟩
  · exact ⟨h1, Or.inr ⟨rfl, h2⟩, h3⟩
theorem rd_133 {g : Nat → Int32} {a j : Nat} {w v : Int32} : upI (rdM (rowI ν 133 g) a w) 133 j v = rdM (rowI ν 133 (upd g j v)) a w := by
  refine Prod.ext ?_ rfl
  funext z
  by_cases c : z = 133
  · subst c; rfl
  · rw [rowI_n c]
    by_cases c2 : z = 127
    · subst c2; rfl
    · rw [rdM_n c2, rdM_n c2, rowI_n c, rowI_n c]
theorem y_kEndB {n : Int32} {a p : Nat} (h : ν.1 127 13 = nI ln) (hl : ln ≤ 80) (hp0 : p < 2 ^ 31) : b_X12_kinds_120 127 n (hp κ (rdM ν a (nI p))) = some (-1 - nI p, hp κ (rdM ν a (nI p))) := by
  have hr := y_wasRight (κ := κ) (ν := ν) (a := a) (w := nI p) h (Or.inr ⟨p, hp0, rfl⟩) (by omega) (fun z => absurd z (nI_m1 hp0))
  rw [if_neg (fun z => nI_m1 hp0 z.1), if_neg (nI_m1 hp0)] at hr
  unfold b_X12_kinds_120
  rw [hr, obs]
  (try dsimp only)
  rw [if_pos rfl, g127_16, obs, rdM_w]
theorem y_kEnd {n : Int32} {a : Nat} (h : ν.1 127 13 = nI ln) (hl : ln ≤ 80) (ha : a ≤ ln) : b_X12_kinds_120 127 n (hp κ (rdM ν a (-1))) = if a = ln then b_X12_kinds_136 127 n bigN 0 (hp κ (rdM ν a (-1))) else some (-1 - nI a, hp κ (rdM ν a (nI a))) := by
  have hr := y_wasRight (κ := κ) (ν := ν) (a := a) (w := -1) h (Or.inl rfl) (by omega) (fun _ => by omega)
  rw [if_pos rfl] at hr
  unfold b_X12_kinds_120
  rw [hr, obs]
  (try dsimp only)
  by_cases c : a = ln
  · rw [if_pos (show (-1 : Int32) = -1 ∧ ln ≤ a from ⟨rfl, by omega⟩), if_neg (show ¬ (1 : Int32) = 0 by decide), if_pos c, if_pos (show ln ≤ a by omega)]
  · rw [if_neg (show ¬ ((-1 : Int32) = -1 ∧ ln ≤ a) from fun z => by have := z.2; omega), if_pos rfl, if_neg c, if_neg (by omega), g127_16, obs, rdM_w]
/-- items lie in row 133 -/
def Ity (g : Nat → Int32) (i : Nat) (l : List (Int32 × Int32)) : Prop := ∀ k, k < l.length → g (2 * (i + k)) = (l.getD k (0, 0)).1 ∧ g (2 * (i + k) + 1) = (l.getD k (0, 0)).2
theorem Ity.cons {g : Nat → Int32} {i : Nat} {x : Int32 × Int32} {l : List (Int32 × Int32)} (h1 : g (2 * i) = x.1) (h2 : g (2 * i + 1) = x.2) (h : Ity g (i + 1) l) : Ity g i (x :: l) := by
  intro k hk
  cases k with
  | zero => exact ⟨h1, h2⟩
  | succ k =>
    have := h k (by simpa using hk)
    rw [show i + (k + 1) = i + 1 + k by omega]
    exact this
/-- one kind: the loop goes on behind it -/
theorem y_kind1 (h : RD ν m ln tp T tx) {i a : Nat} (hi : i < 6) (ha : a ≤ T) (r24 : Int32 → Int32 → ci_H → Option (Int32 × ci_H)) (g : Nat → Int32) : ∃ g', (∀ k, k < 2 * i → g' k = g k) ∧ ((∃ p, p < 2 ^ 31 ∧ (p = (k1 (pkf tx T) a).2.1 ∧ ((k1 (pkf tx T) a).1 = false ∨ p < T ∧ pkf tx T p ≠ 59)) ∧ ((F_X12_letters 127 0 1 (hp κ (rdM (rowI ν 133 g) a (-1)))).bind fun q9 => (wI q9.2 133 (2 * nI i) q9.1).bind fun h10 => (gR h10 127 12 17).bind fun v11 => (F_X12_passes 127 33 h10).bind fun q12 => if q12.1 = 0 then (b_X12_kinds_106 r24 127 (nI i) v11 ((2 * nI i) + 1) 0 q12.2) else ((gR q12.2 127 12 17).bind fun v14 => (rI q12.2 v14 (2 * nI i)).bind fun v15 => (F_X12_letters 127 v15 1 q12.2).bind fun q16 => b_X12_kinds_106 r24 127 (nI i) v11 ((2 * nI i) + 1) q16.1 q16.2)) = r24 (nI i + 1) 0 (hp κ (rdM (rowI ν 133 g') p (nI p)))) ∨ ((k1 (pkf tx T) a).1 = true ∧ g' (2 * i) = (k1 (pkf tx T) a).2.2.1 ∧ g' (2 * i + 1) = (k1 (pkf tx T) a).2.2.2 ∧ ((F_X12_letters 127 0 1 (hp κ (rdM (rowI ν 133 g) a (-1)))).bind fun q9 => (wI q9.2 133 (2 * nI i) q9.1).bind fun h10 => (gR h10 127 12 17).bind fun v11 => (F_X12_passes 127 33 h10).bind fun q12 => if q12.1 = 0 then (b_X12_kinds_106 r24 127 (nI i) v11 ((2 * nI i) + 1) 0 q12.2) else ((gR q12.2 127 12 17).bind fun v14 => (rI q12.2 v14 (2 * nI i)).bind fun v15 => (F_X12_letters 127 v15 1 q12.2).bind fun q16 => b_X12_kinds_106 r24 127 (nI i) v11 ((2 * nI i) + 1) q16.1 q16.2)) = (if pkf tx T (k1 (pkf tx T) a).2.1 = 59 then r24 (nI i + 1) 1 (hp κ (rdM (rowI ν 133 g') ((k1 (pkf tx T) a).2.1 + 1) (-1))) else r24 (nI i + 1) 0 (hp κ (rdM (rowI ν 133 g') (k1 (pkf tx T) a).2.1 (-1)))))) := by
  have hT := h.T80
  obtain ⟨p1, p2, p3⟩ := lts_pos (tx := tx) (T := T) (no := 0) 6 0 a ha (by decide)
  obtain ⟨w, hl, hw⟩ := y_letters (κ := κ) (ν := rowI ν 133 g) (no := 0) (ls := 1) h.r133 (by decide) (by decide) ha
  have hl : F_X12_letters 127 0 1 (hp κ (rdM (rowI ν 133 g) a (-1))) = _ := hl
  have e2i : (2 : Int32) * nI i = nI (2 * i) := pk_mul 2 i
  have e2i1 : nI (2 * i) + 1 = nI (2 * i + 1) := nI_1 _
  have cn1 : ∀ b, b < 64 → (cn b < 1 ↔ b = 0) := by decide +kernel
  unfold k1
  generalize lts (pkf tx T) 0 6 0 a = q at hl hw p1 p2 p3
  rw [hl, obs, e2i, e2i1]
  (try dsimp only)
  -- the tail, with a fault already there
  have tailB : ∀ (g0 : Nat → Int32) (a0 p : Nat) (v : Int32), p < 2 ^ 31 → b_X12_kinds_106 r24 127 (nI i) 133 (nI (2 * i + 1)) v (hp κ (rdM (rowI ν 133 g0) a0 (nI p))) = r24 (nI i + 1) 0 (hp κ (rdM (rowI ν 133 (upd g0 (2 * i + 1) v)) a0 (nI p))) := fun g0 a0 p v hp0 => by
    unfold b_X12_kinds_106 b_X12_kinds_107
    rw [w133 (by omega), obs, rd_133, y_passesB (nI_m1 hp0), obs]
  have tail : ∀ (g0 : Nat → Int32) (a0 : Nat) (v : Int32), a0 ≤ T → b_X12_kinds_106 r24 127 (nI i) 133 (nI (2 * i + 1)) v (hp κ (rdM (rowI ν 133 g0) a0 (-1))) = if pkf tx T a0 = 59 then r24 (nI i + 1) 1 (hp κ (rdM (rowI ν 133 (upd g0 (2 * i + 1) v)) (a0 + 1) (-1))) else r24 (nI i + 1) 0 (hp κ (rdM (rowI ν 133 (upd g0 (2 * i + 1) v)) a0 (-1))) := fun g0 a0 v ha0 => by
    have hps : F_X12_passes 127 59 (hp κ (rdM (rowI ν 133 (upd g0 (2 * i + 1) v)) a0 (-1))) = _ := y_passes (κ := κ) h.r133 (a := a0) (c := 59) ha0 (by decide)
    unfold b_X12_kinds_106 b_X12_kinds_107
    rw [w133 (by omega), obs, rd_133, hps]
    by_cases c : pkf tx T a0 = 59
    · rw [if_pos c, if_pos c, obs]
    · rw [if_neg c, if_neg c, obs]
  rw [w133 (by omega), obs, rd_133, g127_17, obs]
  rcases hw with ⟨w1, rfl⟩ | ⟨w1, rfl⟩
  · -- a letter out of order, or none
    rw [y_passesB (nI_m1 (by omega)), obs]
    (try dsimp only)
    rw [if_pos rfl, tailB _ _ _ _ (by omega)]
    refine ⟨upd (upd g (2 * i) (nI q.1)) (2 * i + 1) 0, fun k hk => by rw [pk_un (by omega), pk_un (by omega)], Or.inl ⟨q.2, by omega, ?_, rfl⟩⟩
    by_cases c0 : q.1 = 0
    · rw [if_pos c0]
      exact ⟨rfl, Or.inl rfl⟩
    · rcases w1 with w1 | w1
      · have c3 : q.2 < T := pk_T (c := pkf tx T q.2) rfl (by omega)
        rw [if_neg c0, if_neg (by omega)]
        exact ⟨rfl, Or.inr ⟨c3, by omega⟩⟩
      · exact absurd ((cn1 q.1 p3).mp w1) c0
  · have c0 : ¬ q.1 = 0 := fun z => w1 (Or.inr ((cn1 q.1 p3).mpr z))
    have hps : F_X12_passes 127 33 (hp κ (rdM (rowI ν 133 (upd g (2 * i) (nI q.1))) q.2 (-1))) = _ := y_passes (κ := κ) h.r133 (a := q.2) (c := 33) p2 (by decide)
    rw [hps, if_neg c0]
    by_cases c1 : pkf tx T q.2 = 33
    · have c3 := pk_T c1 (by decide)
      obtain ⟨s1, s2, s3⟩ := lts_pos (tx := tx) (T := T) (no := q.1) 6 0 (q.2 + 1) (by omega) (by decide)
      obtain ⟨w, hl2, hw2⟩ := y_letters (κ := κ) (ν := rowI ν 133 (upd g (2 * i) (nI q.1))) (no := q.1) (ls := 1) h.r133 p3 (by decide) (a := q.2 + 1) (by omega)
      have hl2 : F_X12_letters 127 (nI q.1) 1 (hp κ (rdM (rowI ν 133 (upd g (2 * i) (nI q.1))) (q.2 + 1) (-1))) = _ := hl2
      have e133 : (rdM (rowI ν 133 (upd g (2 * i) (nI q.1))) (q.2 + 1) (-1)).1 133 (2 * i) = nI q.1 := pk_us
      generalize lts (pkf tx T) q.1 6 0 (q.2 + 1) = r at hl2 hw2 s1 s2 s3
      rw [if_pos c1, if_pos c1, obs]
      (try dsimp only)
      rw [if_neg (show ¬ (1 : Int32) = 0 by decide), g127_17, obs, r133 (by omega), obs, e133, hl2, obs]
      (try dsimp only)
      refine ⟨upd (upd g (2 * i) (nI q.1)) (2 * i + 1) (nI r.1), fun k hk => by rw [pk_un (by omega), pk_un (by omega)], ?_⟩
      rcases hw2 with ⟨w2, rfl⟩ | ⟨w2, rfl⟩
      · rw [tailB _ _ _ _ (by omega)]
        refine Or.inl ⟨r.2, by omega, ?_, rfl⟩
        by_cases c2 : r.1 = 0
        · rw [if_pos c2]
          exact ⟨rfl, Or.inl rfl⟩
        · rcases w2 with w2 | w2
          · have c4 : r.2 < T := pk_T (c := pkf tx T r.2) rfl (by omega)
            rw [if_neg c2]
            exact ⟨rfl, Or.inr ⟨c4, by omega⟩⟩
          · exact absurd ((cn1 r.1 s3).mp w2) c2
      · have c2 : ¬ r.1 = 0 := fun z => w2 (Or.inr ((cn1 r.1 s3).mpr z))
        rw [tail _ _ _ s2, if_neg c2]
        exact Or.inr ⟨rfl, by rw [pk_un (by omega), pk_us], pk_us, rfl⟩
    · rw [if_neg c1, if_neg c1, obs]
      (try dsimp only)
      rw [if_pos rfl, tail _ _ _ p2]
      exact ⟨upd (upd g (2 * i) (nI q.1)) (2 * i + 1) 0, fun k hk => by rw [pk_un (by omega), pk_un (by omega)], Or.inr ⟨rfl, by rw [pk_un (by omega), pk_us], pk_us, rfl⟩⟩
/-- all kinds -/
theorem y_kindsL (h : RD ν m ln tp T tx) (hln : T ≤ ln) (h3 : ν.1 127 3 = nI kc) (hkc : kc ≤ 6) : ∀ (n i a F : Nat) (g : Nat → Int32), kc + i ≤ 6 → a ≤ T → 6 - kc - i < n → ∃ g', (∀ k, k < 2 * i → g' k = g k) ∧ (((rdl (k1 (pkf tx T)) (pkf tx T) (6 - kc) n i a).1 = true ∧ (rdl (k1 (pkf tx T)) (pkf tx T) (6 - kc) n i a).2.1 = ln ∧ Ity g' i (rdl (k1 (pkf tx T)) (pkf tx T) (6 - kc) n i a).2.2 ∧ kc + i + (rdl (k1 (pkf tx T)) (pkf tx T) (6 - kc) n i a).2.2.length ≤ 6 ∧ b_X12_kinds_24 127 (F + n + 1) (nI i) 1 (hp κ (rdM (rowI ν 133 g) a (-1))) = b_X12_kinds_136 127 (nI (i + (rdl (k1 (pkf tx T)) (pkf tx T) (6 - kc) n i a).2.2.length)) bigN 0 (hp κ (rdM (rowI ν 133 g') ln (-1)))) ∨ (¬ ((rdl (k1 (pkf tx T)) (pkf tx T) (6 - kc) n i a).1 = true ∧ (rdl (k1 (pkf tx T)) (pkf tx T) (6 - kc) n i a).2.1 = ln) ∧ ∃ a' w', b_X12_kinds_24 127 (F + n + 1) (nI i) 1 (hp κ (rdM (rowI ν 133 g) a (-1))) = some (-1 - nI (rdl (k1 (pkf tx T)) (pkf tx T) (6 - kc) n i a).2.1, hp κ (rdM (rowI ν 133 g') a' w')))) := by
  have hT := h.T80
  have hl : ln ≤ 80 := h.2.2.2.2.1
  have e13 : ∀ g : Nat → Int32, (rowI ν 133 g).1 127 13 = nI ln := fun g => h.2.2.1
  have e3 : ∀ (g : Nat → Int32) a w, (rdM (rowI ν 133 g) a w).1 127 3 = nI kc := fun g a w => h3
  intro n
  induction n with
  | zero => intro i a F g _ _ hn; omega
  | succ n ih =>
    intro i a F g hi ha hn
    have z0 : ∀ (F i : Nat) (hh : ci_H), b_X12_kinds_24 127 (F + 1) (nI i) 0 hh = b_X12_kinds_120 127 (nI i) hh := fun F i hh => by
      rw [b_X12_kinds_24, if_pos rfl]
    show ∃ g', _ ∧ ((_ ∧ _ ∧ _ ∧ _ ∧ b_X12_kinds_24 127 (F + n + 1 + 1) (nI i) 1 (hp κ (rdM (rowI ν 133 g) a (-1))) = _) ∨ (_ ∧ ∃ a' w', b_X12_kinds_24 127 (F + n + 1 + 1) (nI i) 1 (hp κ (rdM (rowI ν 133 g) a (-1))) = _))
    rw [b_X12_kinds_24, if_neg (by decide), y_fine, obs, rdl_s]
    (try dsimp only)
    rw [if_pos rfl, if_neg (show ¬ (1 : Int32) = 0 by decide), g127_3, obs, e3, nI_add]
    by_cases c0 : kc + i = 6
    · rw [if_pos (show nI (kc + i) = 6 by rw [c0]; rfl), if_pos (show 6 - kc ≤ i by omega), g127_15, obs, rdM_a, y_fault, obs, if_pos rfl]
      refine ⟨g, fun _ _ => rfl, Or.inr ⟨(fun z => nomatch z.1), a, nI a, ?_⟩⟩
      unfold b_X12_kinds_107
      rw [y_passesB (nI_m1 (by omega)), obs, nI_1]
      (try dsimp only)
      rw [z0, y_kEndB (e13 g) hl (by omega)]
    · obtain ⟨g', k0, hk⟩ := y_kind1 (κ := κ) h (i := i) (a := a) (by omega) ha (fun x0 x1 x2 => b_X12_kinds_24 127 (F + n + 1) x0 x1 x2) g
      obtain ⟨p1, p2⟩ := k1_pos (tx := tx) ha
      rw [if_neg (show ¬ nI (kc + i) = 6 from fun z => c0 ((i_eq (b := 6) (by omega) (by decide)).mp z)), if_neg (show ¬ 6 - kc ≤ i by omega), g127_17, obs]
      generalize k1 (pkf tx T) a = q at hk p1 p2
      rcases hk with ⟨p, hp0, ⟨hp1, hp2⟩, hk⟩ | ⟨hb, f1, f2, hk⟩
      · rw [hk]
        (try dsimp only)
        rw [nI_1, z0, y_kEndB (e13 g') hl hp0]
        rcases hp2 with hp2 | ⟨hp2, hp3⟩
        · rw [if_neg (by rw [hp2]; decide), hp1]
          exact ⟨g', k0, Or.inr ⟨(fun z => nomatch z.1), _, _, rfl⟩⟩
        · by_cases hb : q.1 = true
          · rw [if_pos hb, if_neg (by rw [← hp1]; exact hp3), hp1]
            exact ⟨g', k0, Or.inr ⟨fun z => by have := z.2; have : q.2.1 = ln := this; omega, _, _, rfl⟩⟩
          · rw [if_neg hb, hp1]
            exact ⟨g', k0, Or.inr ⟨(fun z => nomatch z.1), _, _, rfl⟩⟩
      · rw [hk, if_pos hb]
        by_cases c1 : pkf tx T q.2.1 = 59
        · have c3 := pk_T c1 (by decide)
          obtain ⟨g2, r0, hr⟩ := ih (i + 1) (q.2.1 + 1) F g' (by omega) (by omega) (by omega)
          rw [if_pos c1, if_pos c1]
          (try dsimp only)
          rw [nI_1]
          refine ⟨g2, fun k hk => (r0 k (by omega)).trans (k0 k hk), ?_⟩
          rcases hr with ⟨r1, r2, r3, r4, r5⟩ | ⟨r1, a', w', r2⟩
          · refine Or.inl ⟨r1, r2, Ity.cons ((r0 _ (by omega)).trans f1) ((r0 _ (by omega)).trans f2) r3, by rw [List.length_cons]; omega, ?_⟩
            have e : i + ((rdl (k1 (pkf tx T)) (pkf tx T) (6 - kc) n (i + 1) (q.2.1 + 1)).2.2.length + 1) = i + 1 + (rdl (k1 (pkf tx T)) (pkf tx T) (6 - kc) n (i + 1) (q.2.1 + 1)).2.2.length := by omega
            rw [r5, List.length_cons, e]
          · exact Or.inr ⟨r1, a', w', r2⟩
        · rw [if_neg c1, if_neg c1]
          (try dsimp only)
          rw [nI_1, z0, y_kEnd (e13 g') hl (by omega)]
          by_cases c2 : q.2.1 = ln
          · rw [if_pos c2]
            exact ⟨g', k0, Or.inl ⟨rfl, c2, Ity.cons f1 f2 (fun k hk => absurd hk (Nat.not_lt_zero _)), by show kc + i + 1 ≤ 6; omega, by rw [c2]; rfl⟩⟩
          · rw [if_neg c2]
            exact ⟨g', k0, Or.inr ⟨fun z => c2 z.2, _, _, rfl⟩⟩
end KYR
