/-! PURE: pairs: border. -/
theorem io_or (y m x n : Int32) : io y (m ||| x) n = (io y m n && decide (y &&& x = x)) := by
  have h : (y &&& (m ||| x) = m ||| x) ↔ (y &&& m = m ∧ y &&& x = x) := by
    constructor
    · intro h
      have hb : ∀ i, (bt y i && (bt m i || bt x i)) = (bt m i || bt x i) := fun i => by rw [← b_or, ← b_and, h]
      constructor
      · refine b_ext (fun i _ => ?_)
        have := hb i
        rw [b_and]
        cases h1 : bt y i <;> cases h2 : bt m i <;> simp_all
      · refine b_ext (fun i _ => ?_)
        have := hb i
        rw [b_and]
        cases h1 : bt y i <;> cases h2 : bt x i <;> simp_all
    · rintro ⟨h1, h2⟩
      refine b_ext (fun i _ => ?_)
      have e1 : bt (y &&& m) i = bt m i := by rw [h1]
      have e2 : bt (y &&& x) i = bt x i := by rw [h2]
      rw [b_and] at e1 e2
      rw [b_and, b_or]
      cases h3 : bt y i <;> cases h4 : bt m i <;> cases h5 : bt x i <;> simp_all
  unfold io
  by_cases c1 : y &&& m = m
  · by_cases c2 : y &&& x = x
    · rw [decide_eq_true (h.mpr ⟨c1, c2⟩), decide_eq_true c1, decide_eq_true c2, Bool.and_true]
    · rw [decide_eq_false (fun z => c2 (h.mp z).2), decide_eq_false c2, Bool.false_and, Bool.and_false]
  · rw [decide_eq_false (fun z => c1 (h.mp z).1), decide_eq_false c1, Bool.false_and, Bool.false_and]
def nar (mu : Nat → Int32) (k tr : Nat) : Nat → Int32 := upd mu k (mu k ||| nI (2 ^ tr))
theorem kset_nar {A mu mn : Nat → Int32} {tc k tr : Nat} : kset A (nar mu k tr) mn tc k = kset A mu mn tc k &&& sb (fun t => decide (A t &&& nI (2 ^ tr) = nI (2 ^ tr))) tc := by
  apply Nat.eq_of_testBit_eq
  intro i
  unfold kset nar
  rw [Nat.testBit_and, sb_bit, sb_bit, sb_bit, pk_us, io_or]
  cases decide (i < tc) <;> simp
theorem kset_nar2 {A mu mn : Nat → Int32} {tc k tr j : Nat} (h : j ≠ k) : kset A (nar mu k tr) mn tc j = kset A mu mn tc j := by
  unfold kset nar
  rw [pk_un h]
def brV (A mu mn : Nat → Int32) (hc tc kc lm k tr : Nat) : Nat := cn (bh A (nar mu k tr) mn hc tc kc lm)
def brS (A mu mn : Nat → Int32) (hc tc kc lm : Nat) (nm : Nat → Nat) (k tr : Nat) (s : Option (Nat × Nat)) : Option (Nat × Nat) := if (nm k).testBit tr then s else match s with
  | none => some (6 * k + tr, brV A mu mn hc tc kc lm k tr)
  | some q => if brV A mu mn hc tc kc lm k tr < q.2 then some (6 * k + tr, brV A mu mn hc tc kc lm k tr) else some q
def brX (s : Option (Nat × Nat)) : Int32 × Int32 := match s with
  | none => (-2, 6)
  | some q => (nI q.1, nI q.2)
def brY (s : Option (Nat × Nat)) : Int32 × Int32 := match s with
  | none => (-1, 1000000)
  | some q => (nI q.1, nI q.2)
def brI (A mu mn : Nat → Int32) (hc tc kc lm : Nat) (nm : Nat → Nat) (k : Nat) (s : Option (Nat × Nat)) : Option (Nat × Nat) := it (brS A mu mn hc tc kc lm nm k) s 6
def brO (s : Option (Nat × Nat)) : Prop := ∀ q, s = some q → q.1 ≤ 100 ∧ q.2 ≤ 5
section BRD
variable {κ : Kp} {μ ν : Mem} {hc tc kc lm B : Nat} {nm : Nat → Nat} {A mu mn : Nat → Int32}
theorem brV_le (b1 : hc ≤ 5) (k tr : Nat) : brV A mu mn hc tc kc lm k tr ≤ 5 := cn_5 (sb_le _ (m := 5) b1)
theorem brS_o (b1 : hc ≤ 5) {k tr : Nat} {s : Option (Nat × Nat)} (hk : k < 6) (ht : tr < 6) (h : brO s) : brO (brS A mu mn hc tc kc lm nm k tr s) := by
  have hv := brV_le (A := A) (mu := mu) (mn := mn) (tc := tc) (kc := kc) (lm := lm) b1 k tr
  unfold brS
  split
  · exact h
  · split
    · intro q hq
      cases hq
      exact ⟨by show 6 * k + tr ≤ 100; omega, hv⟩
    next p =>
      split
      · intro q hq
        cases hq
        exact ⟨by show 6 * k + tr ≤ 100; omega, hv⟩
      · exact h
theorem brI_o (b1 : hc ≤ 5) {k : Nat} (hk : k < 6) {s : Option (Nat × Nat)} (h : brO s) : ∀ n, n ≤ 6 → brO (it (brS A mu mn hc tc kc lm nm k) s n)
  | 0, _ => h
  | n + 1, hn => brS_o b1 hk (by omega) (brI_o b1 hk h n (by omega))
theorem brK_o (b1 : hc ≤ 5) : ∀ n, n ≤ 6 → brO (it (brI A mu mn hc tc kc lm nm) none n)
  | 0, _ => fun q hq => nomatch hq
  | n + 1, hn => brI_o b1 (by omega) (brK_o b1 n (by omega)) 6 (Nat.le_refl _)
theorem x_narrow (hb : Bs μ hc tc kc lm B) {k tr : Nat} (hk : k < kc) (ht : tr < 6) : F_X11_breakingIfNarrowed 0 (nI k) (nI tr) (hp κ μ) = some (nI (brV (μ.1 128) (μ.1 129) (μ.1 130) hc tc kc lm k tr), hp κ μ) := by
  have b1 := hb.b1
  have b2 := hb.b2
  have b3 := hb.b3
  have hO := hb.of
  have e1 : μ.1 9 k = nI (KS μ tc k) := (hO k hk).1
  have hT2 : Tn (upI μ 9 k (nI (KS μ tc k &&& sb (fun t => decide (μ.1 128 t &&& nI (2 ^ tr) = nI (2 ^ tr))) tc))) hc tc kc lm := hb.1.cg rfl
  have hO2 : Of (upI μ 9 k (nI (KS μ tc k &&& sb (fun t => decide (μ.1 128 t &&& nI (2 ^ tr) = nI (2 ^ tr))) tc))) (kset (μ.1 128) (nar (μ.1 129) k tr) (μ.1 130) tc) kc := fun j hj => by
    refine ⟨?_, kset_lt b2⟩
    rw [rowI_s]
    by_cases c : j = k
    · subst c
      rw [pk_us, kset_nar]
      rfl
    · rw [pk_un c, kset_nar2 c]
      exact (hO j hj).1
  have hbr := x_breakers (κ := κ) hT2 hO2
  have e2 : sb (fun t => decide (¬ bk (kset (μ.1 128) (nar (μ.1 129) k tr) (μ.1 130) tc) kc lm (sb (fun u => decide ((upI μ 9 k (nI (KS μ tc k &&& sb (fun t => decide (μ.1 128 t &&& nI (2 ^ tr) = nI (2 ^ tr))) tc))).1 4 u = nI t)) tc) = 0)) hc = bh (μ.1 128) (nar (μ.1 129) k tr) (μ.1 130) hc tc kc lm := by
    unfold bh
    refine sb_cong (fun x _ => ?_)
    have e3 : sb (fun u => decide ((upI μ 9 k (nI (KS μ tc k &&& sb (fun t => decide (μ.1 128 t &&& nI (2 ^ tr) = nI (2 ^ tr))) tc))).1 4 u = nI x)) tc = kp (fun t => μ.1 128 (24 + t)) tc (nI x) := sb_cong (fun t ht => by rw [rowI_n (by decide), hb.ke (by omega)])
    rw [e3, bk_bb b2]
  rw [e2] at hbr
  have hl : bh (μ.1 128) (nar (μ.1 129) k tr) (μ.1 130) hc tc kc lm < 4096 := Nat.lt_of_lt_of_le (sb_le _ (m := 5) b1.2) (by decide)
  unfold F_X11_breakingIfNarrowed
  rw [if_pos q0, g0_0, obs, g1_3, obs, r9 (by omega), obs, e1, obs, g1_3, obs, obs, i_sh1 tr (by omega), X_havingAll hb rfl, obs]
  (try dsimp only)
  rw [i_and, w9 (by omega), obs, g0_0, obs, hbr, obs]
  (try dsimp only)
  rw [bc hl, obs]
  (try dsimp only)
  rw [g0_0, obs, g1_3, obs, w9 (by omega), obs]
  have e4 : upI (upI μ 9 k (nI (KS μ tc k &&& sb (fun t => decide (μ.1 128 t &&& nI (2 ^ tr) = nI (2 ^ tr))) tc))) 9 k (nI (KS μ tc k)) = μ := by
    show rowI (rowI μ 9 _) 9 (upd ((rowI μ 9 _).1 9) k _) = μ
    rw [rowI_rowI, rowI_s, fa_upd_twice, fa_upd_same e1, rowI_id]
  rw [e4]
  rfl
theorem X_border_in (hb : Bs μ hc tc kc lm B) {k : Nat} (hk : k < kc) (hn : nm k < 64) (he : μ.1 7 k ||| μ.1 8 k = nI (nm k)) (s : Option (Nat × Nat)) (hs : brO s) (r : Int32 → Int32 → Int32 → ci_H → Option (Int32 × ci_H)) : b_X11_border_43 r 0 (nI k) (nI (nm k)) bigN (brX s).1 (brX s).2 0 (hp κ μ) = r (brX (brI (μ.1 128) (μ.1 129) (μ.1 130) hc tc kc lm nm k s)).1 (brX (brI (μ.1 128) (μ.1 129) (μ.1 130) hc tc kc lm nm k s)).2 (nI (k + 1)) (hp κ μ) := by
  have b1 := hb.b1
  have b3 := hb.b3
  refine lpk (fun n tr => b_X11_border_43 r 0 (nI k) (nI (nm k)) n (brX (it (brS (μ.1 128) (μ.1 129) (μ.1 130) hc tc kc lm nm k) s tr)).1 (brX (it (brS (μ.1 128) (μ.1 129) (μ.1 130) hc tc kc lm nm k) s tr)).2 (nI tr) (hp κ μ)) 6 _ ?_ ?_ bigN 0 (Nat.zero_le _) (by unfold bigN; omega)
  · intro n tr htr
    (try dsimp only)
    have hO := brI_o (A := μ.1 128) (mu := μ.1 129) (mn := μ.1 130) (tc := tc) (kc := kc) (lm := lm) (nm := nm) b1.2 (show k < 6 by omega) hs tr (by omega)
    rw [it_s]
    generalize it (brS (μ.1 128) (μ.1 129) (μ.1 130) hc tc kc lm nm k) s tr = q at hO
    have hv := brV_le (A := μ.1 128) (mu := μ.1 129) (mn := μ.1 130) (tc := tc) (kc := kc) (lm := lm) b1.2 k tr
    rw [b_X11_border_43, if_neg (show ¬ (6 : Int32) ≤ nI tr from nI_ge (b := 6) htr (by decide)), i_bit (by omega) (by omega)]
    unfold b_X11_border_72 b_X11_border_91 brS
    have h6 : (6 : Int32) * nI k + nI tr = nI (6 * k + tr) := by
      have e : (6 : Int32) * nI k = nI (6 * k) := pk_mul 6 k
      rw [e, nI_add]
    cases c : (nm k).testBit tr with
    | true =>
      rw [if_neg (show ¬ (if true = true then (1 : Int32) else 0) = 0 by decide)]
      simp only [↓reduceIte]
      have hle : (brX q).2 ≤ 6 := by
        cases q with
        | none => decide
        | some p => exact nI_le (b := 6) (by have := (hO p rfl).2; omega) (by decide)
      rw [if_pos hle, nI_1]
    | false =>
      rw [if_pos (show (if false = true then (1 : Int32) else 0) = 0 by decide), x_narrow hb hk htr, obs]
      (try dsimp only)
      simp only [Bool.false_eq_true, ↓reduceIte]
      generalize brV (μ.1 128) (μ.1 129) (μ.1 130) hc tc kc lm k tr = v at hv
      cases q with
      | none =>
        rw [if_neg (show ¬ (brX none).2 ≤ nI v from nI_ge (b := 6) (by omega) (by decide)), h6, nI_1]
        rfl
      | some p =>
        have h5 := (hO p rfl).2
        (try dsimp only)
        by_cases c2 : v < p.2
        · rw [if_neg (show ¬ (brX (some p)).2 ≤ nI v from nI_ge c2 (by omega)), if_pos c2, h6, nI_1]
          rfl
        · rw [if_pos (show (brX (some p)).2 ≤ nI v from nI_le (by omega) (by omega)), if_neg c2, nI_1]
  · intro n
    (try dsimp only)
    rw [b_X11_border_43, if_pos (by decide), nI_1]
    rfl
theorem Y_border_in (hb : Bs μ hc tc kc lm B) (e : cl ν = cl μ) {k a b : Nat} (hk : k < kc) (ha : μ.1 129 k = nI a) (hbn : μ.1 130 k = nI b) (ha2 : a < 64) (hb2 : b < 64) (he : nm k = a ||| b) (s : Option (Nat × Nat)) (hs : brO s) (r : Int32 → Int32 → Int32 → ci_H → Option (Int32 × ci_H)) : b_X12_border_24 r 127 (nI k) bigN (brY s).1 (brY s).2 0 (hp κ ν) = r (brY (brI (μ.1 128) (μ.1 129) (μ.1 130) hc tc kc lm nm k s)).1 (brY (brI (μ.1 128) (μ.1 129) (μ.1 130) hc tc kc lm nm k s)).2 (nI (k + 1)) (hp κ ν) := by
  have b1 := hb.b1
  have b3 := hb.b3
  have f8 := f128 e
  have f9 := f129 e
  have f0 := f130 e
  have hab : a ||| b < 64 := or_l (n := 6) ha2 hb2
  refine lpk (fun n tr => b_X12_border_24 r 127 (nI k) n (brY (it (brS (μ.1 128) (μ.1 129) (μ.1 130) hc tc kc lm nm k) s tr)).1 (brY (it (brS (μ.1 128) (μ.1 129) (μ.1 130) hc tc kc lm nm k) s tr)).2 (nI tr) (hp κ ν)) 6 _ ?_ ?_ bigN 0 (Nat.zero_le _) (by unfold bigN; omega)
  · intro n tr htr
    (try dsimp only)
    have hO := brI_o (A := μ.1 128) (mu := μ.1 129) (mn := μ.1 130) (tc := tc) (kc := kc) (lm := lm) (nm := nm) b1.2 (show k < 6 by omega) hs tr (by omega)
    rw [it_s]
    generalize it (brS (μ.1 128) (μ.1 129) (μ.1 130) hc tc kc lm nm k) s tr = q at hO
    have hv := brV_le (A := μ.1 128) (mu := μ.1 129) (mn := μ.1 130) (tc := tc) (kc := kc) (lm := lm) b1.2 k tr
    have h6 : (6 : Int32) * nI k + nI tr = nI (6 * k + tr) := by
      have e : (6 : Int32) * nI k = nI (6 * k) := pk_mul 6 k
      rw [e, nI_add]
    rw [b_X12_border_24, if_neg (show ¬ (6 : Int32) ≤ nI tr from nI_ge (b := 6) htr (by decide)), g127_4, obs, r129 (by omega), obs, g127_5, obs, r130 (by omega), obs, f9, f0, ha, hbn, i_or, y_has (by omega) (by omega), obs]
    unfold b_X12_border_116 brS
    (try dsimp only)
    rw [he]
    cases c : (a ||| b).testBit tr with
    | true =>
      rw [if_neg (show ¬ (if true = true then (1 : Int32) else 0) = 0 by decide), nI_1]
      simp only [↓reduceIte]
    | false =>
      have hM2 : Mn (upI ν 129 k (nI a ||| nI (2 ^ tr))) hc tc kc lm := (hb.mv e).2.1
      have hbh := y_brokenHouses (κ := κ) hM2 (m := 128) rfl
      have g8 : (upI ν 129 k (nI a ||| nI (2 ^ tr))).1 128 = μ.1 128 ∧ (upI ν 129 k (nI a ||| nI (2 ^ tr))).1 130 = μ.1 130 ∧ (upI ν 129 k (nI a ||| nI (2 ^ tr))).1 129 = nar (μ.1 129) k tr := by
        refine ⟨f8, f0, ?_⟩
        rw [rowI_s, f9]
        unfold nar
        rw [ha]
      rw [g8.1, g8.2.1, g8.2.2] at hbh
      have hl : bh (μ.1 128) (nar (μ.1 129) k tr) (μ.1 130) hc tc kc lm < 4096 := Nat.lt_of_lt_of_le (sb_le _ (m := 5) b1.2) (by decide)
      have er : upI (upI ν 129 k (nI a ||| nI (2 ^ tr))) 129 k ((nI a ||| nI (2 ^ tr)) &&& (nI (2 ^ tr) ^^^ (-1))) = ν := by
        have ea : sd (a ||| 2 ^ tr) (2 ^ tr) = a := by
          apply Nat.eq_of_testBit_eq
          intro i
          rw [sd_bit, fb_bit_set, Nat.testBit_two_pow]
          by_cases ci : i = tr
          · subst ci
            rw [Nat.testBit_or, Bool.or_eq_false_iff] at c
            simp [c.1]
          · simp [ci, show ¬ tr = i from fun z => ci z.symm]
        rw [i_or, i_sd, ea]
        show rowI (rowI ν 129 _) 129 (upd ((rowI ν 129 _).1 129) k _) = ν
        rw [rowI_rowI, rowI_s, fa_upd_twice, fa_upd_same (by rw [f9, ha]), rowI_id]
      rw [if_pos (show (if false = true then (1 : Int32) else 0) = 0 by decide), g127_4, obs, r129 (by omega), obs, f9, ha, i_sh1 tr (by omega), w129 (by omega), obs, g127_0, obs, hbh, obs]
      (try dsimp only)
      rw [bc hl, obs]
      (try dsimp only)
      rw [g127_4, obs, r129 (by omega), obs, rowI_s, pk_us, w129 (by omega), obs, er]
      simp only [Bool.false_eq_true, ↓reduceIte]
      rw [show cn (bh (μ.1 128) (nar (μ.1 129) k tr) (μ.1 130) hc tc kc lm) = brV (μ.1 128) (μ.1 129) (μ.1 130) hc tc kc lm k tr from rfl]
      generalize brV (μ.1 128) (μ.1 129) (μ.1 130) hc tc kc lm k tr = v at hv
      cases q with
      | none =>
        rw [if_pos (show nI v < (brY none).2 from nI_lt (b := 1000000) (by omega) (by decide)), h6, nI_1]
        rfl
      | some p =>
        have h5 := (hO p rfl).2
        (try dsimp only)
        by_cases c2 : v < p.2
        · rw [if_pos (show nI v < (brY (some p)).2 from nI_lt c2 (by omega)), if_pos c2, h6, nI_1]
          rfl
        · rw [if_neg (show ¬ nI v < (brY (some p)).2 from nI_nlt (by omega) (by omega)), if_neg c2, nI_1]
  · intro n
    (try dsimp only)
    rw [b_X12_border_24, if_pos (by decide), nI_1]
    rfl
end BRD
theorem pr_border : P0 F_X11_border F_X12_border := by
  intro κ B μ hR hB hI
  (try dsimp only)
  obtain ⟨hc, tc, kc, lm, hb⟩ := hI.bs
  have b1 := hb.b1
  have b3 := hb.b3
  have hK := hb.2.2.1
  obtain ⟨nm, hnm⟩ : ∃ nm : Nat → Nat, ∀ k, k < kc → ∃ a b, μ.1 129 k = nI a ∧ μ.1 130 k = nI b ∧ μ.1 7 k = nI a ∧ μ.1 8 k = nI b ∧ a < 64 ∧ b < 64 ∧ nm k = a ||| b := by
    refine ⟨fun k => if h : k < kc then (Classical.choose (hK k h).2.2) ||| (Classical.choose (Classical.choose_spec (hK k h).2.2)) else 0, fun k hk => ?_⟩
    obtain ⟨h1, h2, h3⟩ := hK k hk
    obtain ⟨g1, g2, g3, g4, g5, g6⟩ := Classical.choose_spec (Classical.choose_spec (hK k hk).2.2)
    exact ⟨_, _, g5, g6, h1.trans g5, h2.trans g6, g1, g2, dif_pos hk⟩
  have hS := brK_o (A := μ.1 128) (mu := μ.1 129) (mn := μ.1 130) (tc := tc) (kc := kc) (lm := lm) (nm := nm) b1.2
  have hf : F_X11_border 0 (hp κ μ) = match it (brI (μ.1 128) (μ.1 129) (μ.1 130) hc tc kc lm nm) none kc with
      | none => some (-2, hp κ μ)
      | some q => some (nI q.1, hp κ (TB (T0 μ) 0 (nI q.2).toInt64)) := by
    unfold F_X11_border
    rw [if_pos q0]
    refine lpk (fun n k => b_X11_border_8 0 n (brX (it (brI (μ.1 128) (μ.1 129) (μ.1 130) hc tc kc lm nm) none k)).1 (brX (it (brI (μ.1 128) (μ.1 129) (μ.1 130) hc tc kc lm nm) none k)).2 (nI k) (hp κ μ)) kc _ ?_ ?_ bigN 0 (Nat.zero_le _) (by unfold bigN; omega)
    · intro n k hk
      (try dsimp only)
      obtain ⟨a, b, g1, g2, g3, g4, g5, g6, g7⟩ := hnm k hk
      have hab : a ||| b < 64 := or_l (n := 6) g5 g6
      rw [b_X11_border_8, g0_0, obs, g1_7, obs, hb.1.2.2.1, if_neg (nI_ge hk (by omega)), obs, g1_1, obs, r7 (by omega), obs, obs, g1_2, obs, r8 (by omega), obs, g3, g4, i_or, ← g7, X_border_in hb hk (by rw [g7]; exact hab) (by rw [g3, g4, i_or, g7]) _ (hS k (by omega))]
      rfl
    · intro n
      (try dsimp only)
      rw [b_X11_border_8, g0_0, obs, g1_7, obs, hb.1.2.2.1, if_pos (nI_le (Nat.le_refl kc) (by omega))]
      have hO := hS kc b3
      generalize it (brI (μ.1 128) (μ.1 129) (μ.1 130) hc tc kc lm nm) none kc = z at hO
      cases z with
      | none => rfl
      | some q =>
        have := (hO q rfl).1
        rw [if_neg (show ¬ (brX (some q)).1 < 0 from nI_pos (by omega)), x_tellOne, obs]
        rfl
  have hg : ∀ ν : Mem, cl ν = cl μ → F_X12_border 127 (hp κ ν) = match it (brI (μ.1 128) (μ.1 129) (μ.1 130) hc tc kc lm nm) none kc with
      | none => some (-2, hp κ (Zr ν))
      | some q => some (nI q.1, hp κ (MB (M0 (Zr ν)) 0 (nI q.2).toInt64)) := fun ν e => by
    unfold F_X12_border
    rw [if_pos q127, p11, obs]
    have e2 : cl (Zr ν) = cl μ := cl_Z.trans e
    refine lpk (fun n k => b_X12_border_13 127 n (brY (it (brI (μ.1 128) (μ.1 129) (μ.1 130) hc tc kc lm nm) none k)).1 (brY (it (brI (μ.1 128) (μ.1 129) (μ.1 130) hc tc kc lm nm) none k)).2 (nI k) (hp κ (Zr ν))) kc _ ?_ ?_ bigN 0 (Nat.zero_le _) (by unfold bigN; omega)
    · intro n k hk
      (try dsimp only)
      obtain ⟨a, b, g1, g2, g3, g4, g5, g6, g7⟩ := hnm k hk
      rw [b_X12_border_13, g127_3, obs, (hb.mv e2).2.1.2.2.1, if_neg (nI_ge hk (by omega)), Y_border_in hb e2 hk g1 g2 g5 g6 g7 _ (hS k (by omega))]
      rfl
    · intro n
      (try dsimp only)
      rw [b_X12_border_13, g127_3, obs, (hb.mv e2).2.1.2.2.1, if_pos (nI_le (Nat.le_refl kc) (by omega))]
      have hO := hS kc b3
      generalize it (brI (μ.1 128) (μ.1 129) (μ.1 130) hc tc kc lm nm) none kc = z at hO
      cases z with
      | none => rfl
      | some q =>
        have := (hO q rfl).1
        rw [if_neg (show ¬ (brY (some q)).1 = -1 from nI_m1 (by omega)), p10, obs, y_tell0, obs]
        rfl
  cases c : it (brI (μ.1 128) (μ.1 129) (μ.1 130) hc tc kc lm nm) none kc with
  | none =>
    rw [c] at hf
    have h2 := hg μ rfl
    rw [c] at h2
    exact ⟨-2, μ, Zr μ, hf, h2, inv_Z hI⟩
  | some q =>
    rw [c] at hf
    have h2 := hg (TB (T0 μ) 0 (nI q.2).toInt64) (by rw [cl_TB, cl_T0])
    rw [c] at h2
    exact ⟨nI q.1, _, _, hf, h2, inv_R1 hI⟩
