/-! PURE: pairs: sheet. -/
def clm (v : Int32) : Int32 := if 0 < (if v < 9999 then v else 9999) then (if v < 9999 then v else 9999) else 0
theorem clm_n (v : Int32) : ∃ c, c ≤ 9999 ∧ clm v = nI c := by
  unfold clm
  by_cases c1 : v < 9999
  · rw [if_pos c1]
    by_cases c2 : 0 < v
    · rw [if_pos c2]
      have e1 : (9999 : Int32).toInt = 9999 := rfl
      have e0 : (0 : Int32).toInt = 0 := rfl
      rw [fa_lt] at c1 c2
      obtain ⟨j, hj, h⟩ := nI_of2 (M := 9999) (n := 9999) rfl (x := v) (fun z => by rw [fa_lt] at z; omega) (by rw [fa_le]; omega)
      exact ⟨j, hj, h⟩
    · rw [if_neg c2]
      exact ⟨0, by omega, rfl⟩
  · rw [if_neg c1, if_pos (by decide)]
    exact ⟨9999, by omega, rfl⟩
def shE (k v : Int32) : Int32 := if k = 0 then clm v.toInt8.toInt32 else if k = 1 then clm v.toInt16.toInt32 else clm v
theorem shE_n (k v : Int32) : ∃ c, c ≤ 9999 ∧ shE k v = nI c := by
  unfold shE
  split
  · exact clm_n _
  · split
    · exact clm_n _
    · exact clm_n _
theorem x_entry (k v : Int32) (h : ci_H) : F_X11_sheetEntry k v h = some (shE k v, h) := by
  unfold F_X11_sheetEntry b_X11_sheetEntry_20 shE clm
  by_cases c : k = 0
  · rw [if_pos c, if_pos c]
  · by_cases c2 : k = 1
    · rw [if_neg c, if_neg c, if_pos c2, if_pos c2]
    · rw [if_neg c, if_neg c, if_neg c2, if_neg c2]
/-- what house x gets: en entries -/
def shC (k : Int32) (en : Nat) (f st : Int32) (x : Nat) : Int32 := if x < en then shE k (f + nI x * st) else 0
theorem shC_n (k : Int32) (en : Nat) (f st : Int32) (x : Nat) : ∃ c, c ≤ 9999 ∧ shC k en f st x = nI c := by
  unfold shC
  split
  · exact shE_n _ _
  · exact ⟨0, by omega, rfl⟩
def shS (k : Int32) (en : Nat) (f st : Int32) (n : Nat) : Int32 := it (fun x s => s + shC k en f st x) 0 n
theorem sh_step (f st : Int32) (x : Nat) : f + nI x * st + st = f + nI (x + 1) * st := by
  rw [← nI_1, Int32.add_mul, Int32.one_mul, Int32.add_assoc]
section SHT
variable {κ : Kp} {μ ν : Mem} {hc tc kc lm : Nat}
theorem x_sheet {en : Nat} (h1 : μ.1 1 5 = nI hc) (hh : hc ≤ 5) (he : en ≤ 5) (k f st : Int32) : b_X11_sheet_46 0 k f st (nI en) bigN 0 0 (hp κ μ) = some (if k = 3 then -3 else shS k en f st hc, hp κ (rowI μ 6 (fa_fill (shC k en f st) (μ.1 6) hc))) := by
  have h2 := lpk (fun n x => b_X11_sheet_46 0 k f st (nI en) n (shS k en f st x) (nI x) (hp κ (rowI μ 6 (fa_fill (shC k en f st) (μ.1 6) x)))) hc (some (if k = 3 then -3 else shS k en f st hc, hp κ (rowI μ 6 (fa_fill (shC k en f st) (μ.1 6) hc)))) ?_ ?_ bigN 0 (Nat.zero_le _) (by unfold bigN; omega)
  · (try dsimp only at h2)
    rw [fa_fill_0, rowI_id] at h2
    exact h2
  · intro n x hx
    (try dsimp only)
    have e1 : ∀ g, (rowI μ 6 g).1 1 5 = nI hc := fun g => h1
    have e2 : rowI (rowI μ 6 (fa_fill (shC k en f st) (μ.1 6) x)) 6 (upd ((rowI μ 6 (fa_fill (shC k en f st) (μ.1 6) x)).1 6) x (shC k en f st x)) = rowI μ 6 (fa_fill (shC k en f st) (μ.1 6) (x + 1)) := by rw [rowI_rowI, rowI_s, fa_fill_succ]
    rw [b_X11_sheet_46]
    simp only [g0_0, g1_5, e1, obs, if_neg (nI_ge hx (show hc < 2 ^ 31 by omega)), b_X11_sheet_80, g1_0, g2_3, x_entry, w6 (show x < 5 by omega), nI_1]
    have e3 : shS k en f st (x + 1) = shS k en f st x + shC k en f st x := rfl
    rw [e3, ← e2]
    by_cases c : x < en
    · have e4 : shC k en f st x = shE k (f + nI x * st) := if_pos c
      rw [if_neg (nI_ge c (by omega)), e4]
    · have e4 : shC k en f st x = 0 := if_neg c
      rw [if_pos (nI_le (by omega) (by omega)), e4]
  · intro n
    (try dsimp only)
    have e1 : ∀ g, (rowI μ 6 g).1 1 5 = nI hc := fun g => h1
    rw [b_X11_sheet_46]
    simp only [g0_0, g1_5, e1, obs, if_pos (nI_le (Nat.le_refl hc) (show hc < 2 ^ 31 by omega))]
    split <;> rfl
theorem y_sheet {en : Nat} (h1 : ν.1 127 1 = nI hc) (hh : hc ≤ 5) (he : en ≤ 5) (k n f st : Int32) (hk : (k = 3 ∧ en = 0) ∨ (¬ k = 3 ∧ n = nI en)) : b_X12_sheet_42 127 k n st bigN 0 f 0 (hp κ ν) = some (if k = 3 then -3 else shS k en f st hc, hp κ (rowI ν 128 (fb_put (ν.1 128) (shC k en f st) 36 hc))) := by
  have h2 := lpk (fun m x => b_X12_sheet_42 127 k n st m (shS k en f st x) (f + nI x * st) (nI x) (hp κ (rowI ν 128 (fb_put (ν.1 128) (shC k en f st) 36 x)))) hc (some (if k = 3 then -3 else shS k en f st hc, hp κ (rowI ν 128 (fb_put (ν.1 128) (shC k en f st) 36 hc)))) ?_ ?_ bigN 0 (Nat.zero_le _) (by unfold bigN; omega)
  · (try dsimp only at h2)
    have e0 : f + nI 0 * st = f := by
      rw [show nI 0 = (0 : Int32) from rfl, Int32.zero_mul, Int32.add_zero]
    rw [fb_put_0, rowI_id, e0] at h2
    exact h2
  · intro m x hx
    (try dsimp only)
    have e1 : ∀ g, (rowI ν 128 g).1 127 1 = nI hc := fun g => h1
    have e2 : rowI (rowI ν 128 (fb_put (ν.1 128) (shC k en f st) 36 x)) 128 (upd ((rowI ν 128 (fb_put (ν.1 128) (shC k en f st) 36 x)).1 128) (36 + x) (shC k en f st x)) = rowI ν 128 (fb_put (ν.1 128) (shC k en f st) 36 (x + 1)) := by rw [rowI_rowI, rowI_s, fb_put_succ]
    have e3 : shS k en f st (x + 1) = shS k en f st x + shC k en f st x := rfl
    have e5 : ∀ (g : Nat → Int32) (v : Int32), (upI (rowI ν 128 g) 128 (36 + x) v).1 128 (36 + x) = v := fun g v => by rw [rowI_s, pk_us]
    rw [b_X12_sheet_42]
    simp only [g127_1, e1, obs, if_neg (nI_ge hx (show hc < 2 ^ 31 by omega)), b_X12_sheet_74, b_X12_sheet_96, b_X12_sheet_112, g127_0, i36, w128 (show 36 + x < 42 by omega), r128 (show 36 + x < 42 by omega), e5, nI_1, sh_step, e3, ← e2]
    rcases hk with ⟨hk, he0⟩ | ⟨hk, hn⟩
    · have e4 : shC k en f st x = 0 := if_neg (by omega)
      subst hk
      simp only [show ¬ (3 : Int32) = 0 by decide, show ¬ (3 : Int32) = 1 by decide, ↓reduceIte, e4]
    · subst hn
      by_cases c : x < en
      · have c1 : nI x < nI en := nI_lt c (by omega)
        have e4 : shC k en f st x = shE k (f + nI x * st) := if_pos c
        rw [e4]
        unfold shE clm
        by_cases k0 : k = 0
        · subst k0
          simp only [↓reduceIte, show ¬ (0 : Int32) = 3 by decide, c1]
        · by_cases k1 : k = 1
          · subst k1
            simp only [↓reduceIte, show ¬ (1 : Int32) = 3 by decide, show ¬ (1 : Int32) = 0 by decide, c1]
          · simp only [↓reduceIte, k0, k1, hk, c1]
      · have c1 : ¬ nI x < nI en := nI_nlt (by omega) (by omega)
        have e4 : shC k en f st x = 0 := if_neg c
        rw [e4]
        by_cases k0 : k = 0
        · subst k0
          simp only [↓reduceIte, show ¬ (0 : Int32) = 3 by decide, c1]
        · by_cases k1 : k = 1
          · subst k1
            simp only [↓reduceIte, show ¬ (1 : Int32) = 3 by decide, show ¬ (1 : Int32) = 0 by decide, c1]
          · simp only [↓reduceIte, k0, k1, hk, c1]
  · intro m
    (try dsimp only)
    have e1 : ∀ g, (rowI ν 128 g).1 127 1 = nI hc := fun g => h1
    rw [b_X12_sheet_42]
    simp only [g127_1, e1, obs, if_pos (nI_le (Nat.le_refl hc) (show hc < 2 ^ 31 by omega))]
    split <;> rfl
end SHT
theorem inv_sheet {κ : Kp} {B : Nat} {μ : Mem} (hI : Inv B μ) (hB : B ≤ 1000000) (k f st : Int32) {en : Nat} (he : en ≤ 5) (hc tc kc lm : Nat) (hb : Bs μ hc tc kc lm B) : Inv (B + 1200) (rowI (Zr (rowI μ 6 (fa_fill (shC k en f st) (μ.1 6) hc))) 128 (fb_put (μ.1 128) (shC k en f st) 36 hc)) := by
  obtain ⟨hIC, hrow⟩ := hI
  obtain ⟨hc', tc', kc', lm', hir, hsr, hws, hso, hpa⟩ := hIC.ir
  have hT := hir.tn
  have eh : hc = hc' := (i_eq (by have := hb.b1; omega) (by have := hT.2.2.2.2.1; omega)).mp (hb.1.1.symm.trans hT.1)
  subst eh
  have b1 := hT.2.2.2.2.1
  have b2 := hT.2.2.2.2.2.1
  obtain ⟨od, un, hP⟩ := PaM_iff.mp hpa
  refine ⟨inv_st hir ((SmX.rf.row (a := 6) rfl (fun _ => rfl)).z.row (a := 128) rfl (fun _ => rfl)) (by omega) ?_ ?_ ?_ (PaM_iff.mpr ⟨od, un, hP.kp (by omega) rfl rfl rfl rfl (fun j h1 h2 a h3 h4 => by rw [rowI_n (by omega)]; unfold Zr; rw [rowI_n (by omega), rowI_n (by omega)])⟩), hrow⟩
  · show CS _ (fb_put (μ.1 128) (shC k en f st) 36 hc)
    have hS : StA μ.1 2 (μ.1 128) := SR_0.mp hsr
    obtain ⟨s1, s2, s3⟩ := hS
    refine ⟨fun t ht => ?_, fun x hx => ?_, ?_⟩
    · rw [fb_put_out (by omega), fb_put_out (by omega), fb_put_out (by omega)]
      exact s1 t ht
    · show fa_fill (shC k en f st) (μ.1 6) hc x = _
      by_cases c : x < hc
      · rw [fa_fill_in c, fb_put_in (by omega) (by omega)]
        congr 1
        omega
      · rw [fa_fill_out (by omega), fb_put_out (by omega)]
        exact s2 x hx
    · rw [fb_put_out (by omega)]
      exact s3
  · show WS (fb_put (μ.1 128) (shC k en f st) 36 hc) hc tc' (B + 1200)
    obtain ⟨w1, w2, r, w3, w4⟩ := hws
    refine ⟨fun t ht => ?_, fun x hx => ?_, r, by omega, ?_⟩
    · rw [fb_put_out (by omega), fb_put_out (by omega), fb_put_out (by omega)]
      exact w1 t ht
    · rw [fb_put_in (by omega) (by omega), show 36 + x - 36 = x by omega]
      exact shC_n _ _ _ _ _
    · rw [fb_put_out (by omega)]
      exact w4
  · show SoX μ.1 (fb_put (μ.1 128) (shC k en f st) 36 hc) (μ.1 129) (μ.1 130) tc' kc'
    have h5 : SoX μ.1 (μ.1 128) (μ.1 129) (μ.1 130) tc' kc' := hso
    exact h5.cA (fun t ht => fb_put_out (by omega))
theorem pr_sheet : P4 F_X11_sheet F_X12_sheet := by
  intro x y f st κ B μ hR hB hI
  (try dsimp only)
  obtain ⟨hc, tc, kc, lm, hb⟩ := hI.bs
  have b1 := hb.b1
  rcases rng x 0 3 0 3 rfl rfl (by omega) (by omega) with ⟨k, j1, j2, rfl, c1, c2, c3, c4, c5⟩ | ⟨c1, c2, c3⟩ | ⟨c1, c2, c3, c4, c5⟩
  · by_cases c6 : y ≤ 5
    · have go : ∀ en, en ≤ 5 → ((nI k = 3 ∧ en = 0) ∨ (¬ nI k = 3 ∧ y = nI en)) → F_X11_sheet 0 (nI k) y f st (hp κ μ) = b_X11_sheet_46 0 (nI k) f st (nI en) bigN 0 0 (hp κ μ) → F_X12_sheet 127 (nI k) y f st (hp κ (rowI μ 6 (fa_fill (shC (nI k) en f st) (μ.1 6) hc))) = b_X12_sheet_42 127 (nI k) y st bigN 0 f 0 (hp κ (Zr (rowI μ 6 (fa_fill (shC (nI k) en f st) (μ.1 6) hc)))) → ∃ (v : Int32) (μ1 μ2 : Mem), F_X11_sheet 0 (nI k) y f st (hp κ μ) = some (v, hp κ μ1) ∧ F_X12_sheet 127 (nI k) y f st (hp κ μ1) = some (v, hp κ μ2) ∧ Inv (B + 1200) μ2 := fun en he hk h1 h2 => by
        refine ⟨_, _, _, h1.trans (x_sheet hb.1.1 b1.2 he _ _ _), h2.trans (y_sheet (ν := Zr (rowI μ 6 (fa_fill (shC (nI k) en f st) (μ.1 6) hc))) hb.2.1.1 b1.2 he _ _ _ _ hk), ?_⟩
        exact inv_sheet (κ := κ) hI hB (nI k) f st he hc tc kc lm hb
      by_cases c7 : nI k = 3
      · refine go 0 (by omega) (Or.inl ⟨c7, rfl⟩) ?_ ?_
        · unfold F_X11_sheet b_X11_sheet_28 b_X11_sheet_38
          have e0 : nI 0 = (0 : Int32) := rfl
          rw [e0]
          simp only [↓reduceIte, obs, q0, q1, q2, q11, q13, q17, q20, q21, q24, q104, q111, q112, q116, q125, q127, g0_0, g0_1, g0_2, g0_3, g0_4, g0_5, g0_6, g0_7, p0_7, g0_8, g0_9, g0_10, g0_11, g0_12, g0_13, p0_13, g0_14, g0_15, g0_16, g0_17, g0_18, g1_0, g1_1, g1_2, g1_3, g1_4, g1_5, p1_5, g1_6, p1_6, g1_7, p1_7, g1_8, p1_8, g2_0, g2_1, g2_2, g2_3, g2_4, p2_4, g11_0, g11_1, p11_1, g11_2, p11_2, g11_3, p11_3, g13_0, g13_1, g13_2, g13_3, g17_0, g17_1, g17_2, p17_2, g20_0, g20_1, g21_0, g21_1, g21_2, p21_2, g24_0, g24_1, p24_1, g24_2, p24_2, g104_0, g104_1, g104_2, g104_3, g104_4, p104_4, g111_0, g111_1, p111_1, g111_2, p111_2, g111_3, p111_3, g112_0, g112_1, g112_2, g112_3, g112_4, p112_4, g116_0, g116_1, g116_2, g116_3, g116_4, g125_0, p125_0, g125_1, p125_1, g127_0, g127_1, p127_1, g127_2, p127_2, g127_3, p127_3, g127_4, g127_5, g127_6, p127_6, g127_7, g127_8, p127_8, g127_9, g127_10, p127_10, g127_11, p127_11, g127_12, g127_13, p127_13, g127_14, p127_14, g127_15, p127_15, g127_16, p127_16, g127_17, g127_18, g127_19, p127_19, g127_20, p127_20, g127_21, g127_22, g127_23, p127_23, g127_24, g127_25, g127_26, g127_27, g127_28, g127_29, p127_29, g127_30, p127_30, g127_31, g127_32, g127_33, p127_33, g127_34, p127_34, g127_35, p127_35, g127_36, p127_36, g127_37, g127_38, p127_38, g127_39, p127_39, g127_40, g127_41, g127_42, c6, c7, show ¬ (3 : Int32) < 0 by decide, show ¬ (3 : Int32) < 3 by decide]
        · unfold F_X12_sheet b_X12_sheet_33
          have c8 : (3 : Int32) ≤ nI k := by rw [c7]; decide
          simp only [if_pos q127, p11, ↓reduceIte, obs, c5, show ¬ (1 : Int32) = 0 by decide, c6, c8]
      · have c8 : ¬ (3 : Int32) ≤ nI k := fun z => by
          have h1 : 3 ≤ k := (i_le (a := 3) (by omega) (by omega)).mp z
          have : k = 3 := by omega
          subst this
          exact c7 rfl
        by_cases c9 : 0 ≤ y
        · obtain ⟨en, he, rfl⟩ := nI_of2 (M := 5) (n := 5) rfl (x := y) (fun z => by rw [fa_lt] at z; rw [fa_le] at c9; omega) c6
          refine go en he (Or.inr ⟨c7, rfl⟩) ?_ ?_
          · unfold F_X11_sheet b_X11_sheet_28 b_X11_sheet_38
            simp only [↓reduceIte, obs, q0, q1, q2, q11, q13, q17, q20, q21, q24, q104, q111, q112, q116, q125, q127, g0_0, g0_1, g0_2, g0_3, g0_4, g0_5, g0_6, g0_7, p0_7, g0_8, g0_9, g0_10, g0_11, g0_12, g0_13, p0_13, g0_14, g0_15, g0_16, g0_17, g0_18, g1_0, g1_1, g1_2, g1_3, g1_4, g1_5, p1_5, g1_6, p1_6, g1_7, p1_7, g1_8, p1_8, g2_0, g2_1, g2_2, g2_3, g2_4, p2_4, g11_0, g11_1, p11_1, g11_2, p11_2, g11_3, p11_3, g13_0, g13_1, g13_2, g13_3, g17_0, g17_1, g17_2, p17_2, g20_0, g20_1, g21_0, g21_1, g21_2, p21_2, g24_0, g24_1, p24_1, g24_2, p24_2, g104_0, g104_1, g104_2, g104_3, g104_4, p104_4, g111_0, g111_1, p111_1, g111_2, p111_2, g111_3, p111_3, g112_0, g112_1, g112_2, g112_3, g112_4, p112_4, g116_0, g116_1, g116_2, g116_3, g116_4, g125_0, p125_0, g125_1, p125_1, g127_0, g127_1, p127_1, g127_2, p127_2, g127_3, p127_3, g127_4, g127_5, g127_6, p127_6, g127_7, g127_8, p127_8, g127_9, g127_10, p127_10, g127_11, p127_11, g127_12, g127_13, p127_13, g127_14, p127_14, g127_15, p127_15, g127_16, p127_16, g127_17, g127_18, g127_19, p127_19, g127_20, p127_20, g127_21, g127_22, g127_23, p127_23, g127_24, g127_25, g127_26, g127_27, g127_28, g127_29, p127_29, g127_30, p127_30, g127_31, g127_32, g127_33, p127_33, g127_34, p127_34, g127_35, p127_35, g127_36, p127_36, g127_37, g127_38, p127_38, g127_39, p127_39, g127_40, g127_41, g127_42, c1, c3, c6, c7, c9]
          · unfold F_X12_sheet b_X12_sheet_33
            simp only [if_pos q127, p11, ↓reduceIte, obs, c5, show ¬ (1 : Int32) = 0 by decide, c6, c8, c9]
        · refine ⟨-2, μ, Zr μ, ?_, ?_, inv_Z hI⟩
          · unfold F_X11_sheet
            simp only [↓reduceIte, obs, q0, q1, q2, q11, q13, q17, q20, q21, q24, q104, q111, q112, q116, q125, q127, g0_0, g0_1, g0_2, g0_3, g0_4, g0_5, g0_6, g0_7, p0_7, g0_8, g0_9, g0_10, g0_11, g0_12, g0_13, p0_13, g0_14, g0_15, g0_16, g0_17, g0_18, g1_0, g1_1, g1_2, g1_3, g1_4, g1_5, p1_5, g1_6, p1_6, g1_7, p1_7, g1_8, p1_8, g2_0, g2_1, g2_2, g2_3, g2_4, p2_4, g11_0, g11_1, p11_1, g11_2, p11_2, g11_3, p11_3, g13_0, g13_1, g13_2, g13_3, g17_0, g17_1, g17_2, p17_2, g20_0, g20_1, g21_0, g21_1, g21_2, p21_2, g24_0, g24_1, p24_1, g24_2, p24_2, g104_0, g104_1, g104_2, g104_3, g104_4, p104_4, g111_0, g111_1, p111_1, g111_2, p111_2, g111_3, p111_3, g112_0, g112_1, g112_2, g112_3, g112_4, p112_4, g116_0, g116_1, g116_2, g116_3, g116_4, g125_0, p125_0, g125_1, p125_1, g127_0, g127_1, p127_1, g127_2, p127_2, g127_3, p127_3, g127_4, g127_5, g127_6, p127_6, g127_7, g127_8, p127_8, g127_9, g127_10, p127_10, g127_11, p127_11, g127_12, g127_13, p127_13, g127_14, p127_14, g127_15, p127_15, g127_16, p127_16, g127_17, g127_18, g127_19, p127_19, g127_20, p127_20, g127_21, g127_22, g127_23, p127_23, g127_24, g127_25, g127_26, g127_27, g127_28, g127_29, p127_29, g127_30, p127_30, g127_31, g127_32, g127_33, p127_33, g127_34, p127_34, g127_35, p127_35, g127_36, p127_36, g127_37, g127_38, p127_38, g127_39, p127_39, g127_40, g127_41, g127_42, c1, c3, c6, c7, c9]
          · unfold F_X12_sheet
            simp only [if_pos q127, p11, ↓reduceIte, obs, c5, show ¬ (1 : Int32) = 0 by decide, c6, c8, c9]
    · refine ⟨-1, μ, Zr μ, ?_, ?_, inv_Z hI⟩
      · unfold F_X11_sheet
        simp only [↓reduceIte, obs, q0, q1, q2, q11, q13, q17, q20, q21, q24, q104, q111, q112, q116, q125, q127, g0_0, g0_1, g0_2, g0_3, g0_4, g0_5, g0_6, g0_7, p0_7, g0_8, g0_9, g0_10, g0_11, g0_12, g0_13, p0_13, g0_14, g0_15, g0_16, g0_17, g0_18, g1_0, g1_1, g1_2, g1_3, g1_4, g1_5, p1_5, g1_6, p1_6, g1_7, p1_7, g1_8, p1_8, g2_0, g2_1, g2_2, g2_3, g2_4, p2_4, g11_0, g11_1, p11_1, g11_2, p11_2, g11_3, p11_3, g13_0, g13_1, g13_2, g13_3, g17_0, g17_1, g17_2, p17_2, g20_0, g20_1, g21_0, g21_1, g21_2, p21_2, g24_0, g24_1, p24_1, g24_2, p24_2, g104_0, g104_1, g104_2, g104_3, g104_4, p104_4, g111_0, g111_1, p111_1, g111_2, p111_2, g111_3, p111_3, g112_0, g112_1, g112_2, g112_3, g112_4, p112_4, g116_0, g116_1, g116_2, g116_3, g116_4, g125_0, p125_0, g125_1, p125_1, g127_0, g127_1, p127_1, g127_2, p127_2, g127_3, p127_3, g127_4, g127_5, g127_6, p127_6, g127_7, g127_8, p127_8, g127_9, g127_10, p127_10, g127_11, p127_11, g127_12, g127_13, p127_13, g127_14, p127_14, g127_15, p127_15, g127_16, p127_16, g127_17, g127_18, g127_19, p127_19, g127_20, p127_20, g127_21, g127_22, g127_23, p127_23, g127_24, g127_25, g127_26, g127_27, g127_28, g127_29, p127_29, g127_30, p127_30, g127_31, g127_32, g127_33, p127_33, g127_34, p127_34, g127_35, p127_35, g127_36, p127_36, g127_37, g127_38, p127_38, g127_39, p127_39, g127_40, g127_41, g127_42, c1, c3, c6]
      · unfold F_X12_sheet
        simp only [if_pos q127, p11, ↓reduceIte, obs, c5, show ¬ (1 : Int32) = 0 by decide, c6]
  · refine ⟨-1, μ, Zr μ, ?_, ?_, inv_Z hI⟩
    · unfold F_X11_sheet
      simp only [↓reduceIte, obs, q0, q1, q2, q11, q13, q17, q20, q21, q24, q104, q111, q112, q116, q125, q127, g0_0, g0_1, g0_2, g0_3, g0_4, g0_5, g0_6, g0_7, p0_7, g0_8, g0_9, g0_10, g0_11, g0_12, g0_13, p0_13, g0_14, g0_15, g0_16, g0_17, g0_18, g1_0, g1_1, g1_2, g1_3, g1_4, g1_5, p1_5, g1_6, p1_6, g1_7, p1_7, g1_8, p1_8, g2_0, g2_1, g2_2, g2_3, g2_4, p2_4, g11_0, g11_1, p11_1, g11_2, p11_2, g11_3, p11_3, g13_0, g13_1, g13_2, g13_3, g17_0, g17_1, g17_2, p17_2, g20_0, g20_1, g21_0, g21_1, g21_2, p21_2, g24_0, g24_1, p24_1, g24_2, p24_2, g104_0, g104_1, g104_2, g104_3, g104_4, p104_4, g111_0, g111_1, p111_1, g111_2, p111_2, g111_3, p111_3, g112_0, g112_1, g112_2, g112_3, g112_4, p112_4, g116_0, g116_1, g116_2, g116_3, g116_4, g125_0, p125_0, g125_1, p125_1, g127_0, g127_1, p127_1, g127_2, p127_2, g127_3, p127_3, g127_4, g127_5, g127_6, p127_6, g127_7, g127_8, p127_8, g127_9, g127_10, p127_10, g127_11, p127_11, g127_12, g127_13, p127_13, g127_14, p127_14, g127_15, p127_15, g127_16, p127_16, g127_17, g127_18, g127_19, p127_19, g127_20, p127_20, g127_21, g127_22, g127_23, p127_23, g127_24, g127_25, g127_26, g127_27, g127_28, g127_29, p127_29, g127_30, p127_30, g127_31, g127_32, g127_33, p127_33, g127_34, p127_34, g127_35, p127_35, g127_36, p127_36, g127_37, g127_38, p127_38, g127_39, p127_39, g127_40, g127_41, g127_42, c1]
    · unfold F_X12_sheet
      simp only [if_pos q127, p11, ↓reduceIte, obs, c3]
  · refine ⟨-1, μ, Zr μ, ?_, ?_, inv_Z hI⟩
    · unfold F_X11_sheet
      simp only [↓reduceIte, obs, q0, q1, q2, q11, q13, q17, q20, q21, q24, q104, q111, q112, q116, q125, q127, g0_0, g0_1, g0_2, g0_3, g0_4, g0_5, g0_6, g0_7, p0_7, g0_8, g0_9, g0_10, g0_11, g0_12, g0_13, p0_13, g0_14, g0_15, g0_16, g0_17, g0_18, g1_0, g1_1, g1_2, g1_3, g1_4, g1_5, p1_5, g1_6, p1_6, g1_7, p1_7, g1_8, p1_8, g2_0, g2_1, g2_2, g2_3, g2_4, p2_4, g11_0, g11_1, p11_1, g11_2, p11_2, g11_3, p11_3, g13_0, g13_1, g13_2, g13_3, g17_0, g17_1, g17_2, p17_2, g20_0, g20_1, g21_0, g21_1, g21_2, p21_2, g24_0, g24_1, p24_1, g24_2, p24_2, g104_0, g104_1, g104_2, g104_3, g104_4, p104_4, g111_0, g111_1, p111_1, g111_2, p111_2, g111_3, p111_3, g112_0, g112_1, g112_2, g112_3, g112_4, p112_4, g116_0, g116_1, g116_2, g116_3, g116_4, g125_0, p125_0, g125_1, p125_1, g127_0, g127_1, p127_1, g127_2, p127_2, g127_3, p127_3, g127_4, g127_5, g127_6, p127_6, g127_7, g127_8, p127_8, g127_9, g127_10, p127_10, g127_11, p127_11, g127_12, g127_13, p127_13, g127_14, p127_14, g127_15, p127_15, g127_16, p127_16, g127_17, g127_18, g127_19, p127_19, g127_20, p127_20, g127_21, g127_22, g127_23, p127_23, g127_24, g127_25, g127_26, g127_27, g127_28, g127_29, p127_29, g127_30, p127_30, g127_31, g127_32, g127_33, p127_33, g127_34, p127_34, g127_35, p127_35, g127_36, p127_36, g127_37, g127_38, p127_38, g127_39, p127_39, g127_40, g127_41, g127_42, c1, c3]
    · unfold F_X12_sheet
      simp only [if_pos q127, p11, ↓reduceIte, obs, c5]
