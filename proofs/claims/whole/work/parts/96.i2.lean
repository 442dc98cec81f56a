/-! PURE: deal: the class. -/
def gn (al : Nat → Nat → Bool) (w : Nat → Nat → Nat) (x t : Nat) : Int32 := if al x t = true then nI (w x t) else -1
theorem gT : ∀ x, x < 5 → hp_T[118 + x]? = some (0, 12, []) := by
  intro x hx
  have : x = 0 ∨ x = 1 ∨ x = 2 ∨ x = 3 ∨ x = 4 := by omega
  rcases this with rfl | rfl | rfl | rfl | rfl <;> rfl
theorem and_b0 {s k : Nat} : s &&& 2 ^ k = 0 ↔ s.testBit k = false := by
  constructor
  · intro h
    have h1 : (s &&& 2 ^ k).testBit k = false := by rw [h, Nat.zero_testBit]
    rw [Nat.testBit_and, Nat.testBit_two_pow_self, Bool.and_true] at h1
    exact h1
  · intro h
    apply Nat.eq_of_testBit_eq
    intro i
    rw [Nat.testBit_and, Nat.zero_testBit, Nat.testBit_two_pow]
    by_cases c : k = i
    · rw [← c, h, Bool.false_and]
    · rw [decide_eq_false c, Bool.and_false]
/-- a set of houses from first on -/
def hx (fi s : Nat) : Nat := s * 2 ^ fi
theorem hx_bit {fi s i : Nat} : (hx fi s).testBit i = (decide (fi ≤ i) && s.testBit (i - fi)) := Nat.testBit_mul_two_pow _ _ _
theorem hx_sd {fi s k : Nat} : sd (hx fi s) (2 ^ (fi + k)) = hx fi (sd s (2 ^ k)) := by
  apply Nat.eq_of_testBit_eq
  intro i
  rw [sd1_bit, hx_bit, hx_bit, sd1_bit, Bool.and_assoc]
  by_cases c : fi ≤ i
  · have : decide (fi + k = i) = decide (k = i - fi) := decide_eq_decide.mpr ⟨fun z => by omega, fun z => by omega⟩
    rw [this]
  · rw [decide_eq_false c, Bool.false_and, Bool.false_and]
theorem hx_lt {fi s m : Nat} (hs : s < 2 ^ m) (h5 : fi + m ≤ 5) : hx fi s < 4096 := by
  refine Nat.lt_pow_two_of_testBit (n := 12) _ (fun i hi => ?_)
  rw [hx_bit, Nat.testBit_lt_two_pow (Nat.lt_of_lt_of_le hs (Nat.pow_le_pow_right (by decide) (show m ≤ i - fi by omega))), Bool.and_false]
theorem hx_top {fi m : Nat} : hx fi (2 ^ m - 1) = hS fi m := by
  apply Nat.eq_of_testBit_eq
  intro i
  rw [hx_bit, hS_bit, Nat.testBit_two_pow_sub_one]
  by_cases c : fi ≤ i
  · have : decide (i - fi < m) = decide (i < fi + m) := decide_eq_decide.mpr ⟨fun z => by omega, fun z => by omega⟩
    rw [this, decide_eq_true c, Bool.true_and, Bool.and_true]
  · rw [decide_eq_false c, Bool.false_and, Bool.and_false]
theorem hx_0 {fi : Nat} : hx fi 0 = 0 := Nat.zero_mul _
/-- the table, things below t done -/
def DpOk (al : Nat → Nat → Bool) (w : Nat → Nat → Nat) (fi m t F : Nat) (g : Nat → Int32) : Prop := ∀ s, s < 2 ^ m → ∃ c, g s = nI c ∧ Mx (At al w t F (hx fi s)) c
section DPX
variable {κ : Kp} {μ : Mem} {al : Nat → Nat → Bool} {w : Nat → Nat → Nat} {hc tc fi m : Nat}
theorem up123 {g : Nat → Int32} {s : Nat} {v : Int32} : upI (rowI μ 123 g) 123 s v = rowI μ 123 (upd g s v) := by
  show rowI (rowI μ 123 g) 123 (upd ((rowI μ 123 g).1 123) s v) = _
  rw [rowI_rowI, rowI_s]
/-- what houses from fi on, k of them, may add by thing t -/
def Pk (al : Nat → Nat → Bool) (w : Nat → Nat → Nat) (fi t F S k v : Nat) : Prop := At al w t F S v ∨ ∃ i, fi ≤ i ∧ i < fi + k ∧ S.testBit i = true ∧ al i t = true ∧ ∃ v', At al w t F (sd S (2 ^ i)) v' ∧ v = v' + w i t
theorem Pk_at {t F S k v : Nat} (hF : F.testBit t = true) (h : Pk al w fi t F S k v) : At al w (t + 1) F S v := by
  rcases h with h | ⟨i, -, -, h3, h4, h5⟩
  · exact Or.inl h
  · exact Or.inr ⟨hF, i, h3, h4, h5⟩
theorem x_addIn (hR : Ref0 κ) (hw : ∀ i t, w i t ≤ 999) (h5 : hc ≤ 5) (hm : fi + m = hc) (h15 : μ.1 1 5 = nI hc) (hG : ∀ x, x < hc → ∀ t, t < tc → μ.1 (118 + x) t = gn al w x t) (b2 : tc ≤ 12) {t F s : Nat} (ht : t < tc) (hF : F.testBit t = true) (hs : s < 2 ^ m) (g : Nat → Int32) (hgs : ∃ c, g s = nI c ∧ Mx (At al w t F (hx fi s)) c) (hg : ∀ s', s' < s → ∃ c, g s' = nI c ∧ Mx (At al w t F (hx fi s')) c) (r : Int32 → ci_H → Option ci_H) : ∃ c, Mx (At al w (t + 1) F (hx fi s)) c ∧ b_X1_addThing_13 r 116 (nI t) (nI fi) (nI s) bigN (nI fi) (hp κ (rowI μ 123 g)) = r (nI s + (-1)) (hp κ (rowI μ 123 (upd g s (nI c)))) := by
  have hp5 : 2 ^ m ≤ 2 ^ 5 := Nat.pow_le_pow_right (by decide) (by omega)
  have hSl := hx_lt (s := s) hs (show fi + m ≤ 5 by omega)
  have e15 : ∀ g, (rowI μ 123 g).1 1 5 = nI hc := fun g => h15
  obtain ⟨c0, c01, c02⟩ := hgs
  obtain ⟨ξ, ⟨c, hξ, hc1⟩, h2⟩ := lpf (fun n k ν => b_X1_addThing_13 r 116 (nI t) (nI fi) (nI s) n (nI (fi + k)) (hp κ ν)) (fun k ν => ∃ c, ν = rowI μ 123 (upd g s (nI c)) ∧ Mx (Pk al w fi t F (hx fi s) k) c) m (fun k ν hk hQ => by
    obtain ⟨c, rfl, hM⟩ := hQ
    have hcb : c ≤ 12000 := by
      have h1 := At_le hw (t + 1) hSl (Pk_at hF hM.1)
      have h2 := cn_le (hx fi s)
      omega
    have hx5 : fi + k < hc := by omega
    have eR : rR (hp κ (rowI μ 123 (upd g s (nI c)))) 117 (nI (fi + k)) = some (118 + (fi + k)) := (rR_hp rfl (Or.inr rfl) (by omega)).trans (hR.2.2 _ (by omega))
    have eG : rI (hp κ (rowI μ 123 (upd g s (nI c)))) (118 + (fi + k)) (nI t) = some (gn al w (fi + k) t) := by
      rw [rI_hp (gT _ (by omega)) (by omega), rowI_n (by omega), hG _ hx5 t ht]
    have ebit : (hx fi s).testBit (fi + k) = s.testBit k := by
      rw [hx_bit, decide_eq_true (Nat.le_add_right fi k), Nat.add_sub_cancel_left, Bool.true_and]
    have hstep : ∀ v, Pk al w fi t F (hx fi s) (k + 1) v ↔ (Pk al w fi t F (hx fi s) k v ∨ (s.testBit k = true ∧ al (fi + k) t = true ∧ ∃ v', At al w t F (sd (hx fi s) (2 ^ (fi + k))) v' ∧ v = v' + w (fi + k) t)) := fun v => by
      constructor
      · rintro (h | ⟨i, i1, i2, i3, i4, i5⟩)
        · exact Or.inl (Or.inl h)
        · by_cases z : i = fi + k
          · subst z
            exact Or.inr ⟨by rw [← ebit]; exact i3, i4, i5⟩
          · exact Or.inl (Or.inr ⟨i, i1, by omega, i3, i4, i5⟩)
      · rintro ((h | ⟨i, i1, i2, i3, i4, i5⟩) | ⟨i3, i4, i5⟩)
        · exact Or.inl h
        · exact Or.inr ⟨i, i1, by omega, i3, i4, i5⟩
        · exact Or.inr ⟨fi + k, by omega, by omega, by rw [ebit]; exact i3, i4, i5⟩
    have ek : (1 : Int32) <<< ((nI (fi + k) - nI fi) &&& 31) = nI (2 ^ k) := by
      rw [pk_sub (by omega), Nat.add_sub_cancel_left]
      exact i_sh1 k (by omega)
    have hskip : (¬ (s.testBit k = true ∧ al (fi + k) t = true)) → Mx (Pk al w fi t F (hx fi s) (k + 1)) c := fun hn => hM.iff (fun v => by
      rw [hstep v]
      exact ⟨Or.inl, fun z => z.elim id (fun y => absurd ⟨y.1, y.2.1⟩ hn)⟩)
    have hand : s &&& 2 ^ k < 2 ^ 31 := Nat.lt_of_le_of_lt Nat.and_le_left (by omega)
    by_cases cb : s.testBit k = true
    · have nb : ¬ nI (s &&& 2 ^ k) = 0 := fun z => by
        have := and_b0.mp ((i_eq0 hand).mp z)
        rw [cb] at this
        cases this
      by_cases ca : al (fi + k) t = true
      · have hlt : sd s (2 ^ k) < s := by
          have h1 : sub (2 ^ k) s := fun j hj => by
            rw [Nat.testBit_two_pow] at hj
            rw [← of_decide_eq_true hj]
            exact cb
          have h2 := sd_add h1 (by omega)
          have := Nat.two_pow_pos k
          omega
        obtain ⟨c1, c11, c12⟩ := hg (sd s (2 ^ k)) hlt
        rw [← hx_sd] at c12
        have hc1b : c1 ≤ 12000 := by
          have h1 := At_le hw t (sd_lt (n := 12) hSl) c12.1
          have h2 := cn_le (sd (hx fi s) (2 ^ (fi + k)))
          omega
        have hwb := hw (fi + k) t
        have egn : gn al w (fi + k) t = nI (w (fi + k) t) := if_pos ca
        have emx : (if nI c < nI c1 + nI (w (fi + k) t) then nI c1 + nI (w (fi + k) t) else nI c) = nI (if c < c1 + w (fi + k) t then c1 + w (fi + k) t else c) := by
          rw [nI_add]
          by_cases z : c < c1 + w (fi + k) t
          · rw [if_pos z, if_pos (nI_lt z (by omega))]
          · rw [if_neg z, if_neg (nI_nlt (by omega) (by omega))]
        have r1 : (rowI μ 123 (upd g s (nI c))).1 123 s = nI c := pk_us
        have r2 : (rowI μ 123 (upd g s (nI c))).1 123 (sd s (2 ^ k)) = nI c1 := (pk_un (by omega)).trans c11
        refine ⟨rowI μ 123 (upd g s (nI (if c < c1 + w (fi + k) t then c1 + w (fi + k) t else c))), fun n => ?_, _, rfl, ?_⟩
        · (try dsimp only)
          rw [b_X1_addThing_13, g116_0, obs, g1_5, obs, e15, if_neg (nI_ge hx5 (by omega)), g116_2, obs, eR, obs, eG, obs, ek, i_and, if_neg nb, egn, if_neg (nI_pos (by omega)), g116_3, obs, obs, r123 (by omega), obs, r1, obs, i_sd, r123 (by omega), obs, r2, emx, w123 (by omega), obs, up123, fa_upd_twice, b_X1_addThing_89, nI_1]
          rfl
        · refine (hM.or (c12.add (c := w (fi + k) t))).iff (fun v => ?_)
          rw [hstep v]
          exact ⟨fun z => z.imp id (fun y => ⟨cb, ca, y⟩), fun z => z.imp id (fun y => y.2.2)⟩
      · have egn : gn al w (fi + k) t = -1 := if_neg ca
        refine ⟨_, fun n => ?_, c, rfl, hskip (fun z => ca z.2)⟩
        (try dsimp only)
        rw [b_X1_addThing_13, g116_0, obs, g1_5, obs, e15, if_neg (nI_ge hx5 (by omega)), g116_2, obs, eR, obs, eG, obs, ek, i_and, if_neg nb, egn, if_pos (by decide), b_X1_addThing_89, nI_1]
        rfl
    · have nb : nI (s &&& 2 ^ k) = 0 := by
        rw [and_b0.mpr (by simpa using cb)]
        rfl
      refine ⟨_, fun n => ?_, c, rfl, hskip (fun z => cb z.1)⟩
      (try dsimp only)
      rw [b_X1_addThing_13, g116_0, obs, g1_5, obs, e15, if_neg (nI_ge hx5 (by omega)), g116_2, obs, eR, obs, eG, obs, ek, i_and, if_pos nb, b_X1_addThing_89, nI_1]
      rfl) (rowI μ 123 g) ⟨c0, by rw [← c01, upd_id], c02.iff (fun v => ⟨Or.inl, fun z => by
        rcases z with z | ⟨i, i1, i2, -⟩
        · exact z
        · omega⟩)⟩ m (Nat.le_refl _)
  refine ⟨c, hc1.iff (fun v => ⟨Pk_at hF, fun z => ?_⟩), ?_⟩
  · rcases z with z | ⟨-, i, i3, i4, i5⟩
    · exact Or.inl z
    · have hb := i3
      rw [hx_bit, Bool.and_eq_true] at hb
      have h1 := of_decide_eq_true hb.1
      have h2 : i - fi < m := by
        refine Classical.byContradiction (fun y => ?_)
        have := Nat.testBit_lt_two_pow (Nat.lt_of_lt_of_le hs (Nat.pow_le_pow_right (by decide) (show m ≤ i - fi by omega)))
        rw [this] at hb
        cases hb.2
      exact Or.inr ⟨i, h1, by omega, i3, i4, i5⟩
  · have h3 := h2 (4999 - m + 1)
    (try dsimp only at h3)
    rw [show 4999 - m + 1 + m = 5000 by omega] at h3
    refine Eq.trans h3 ?_
    rw [hξ, b_X1_addThing_13, g116_0, obs, g1_5, obs, e15, if_pos (nI_le (by omega) (by omega))]
theorem x_addThing (hR : Ref0 κ) (hw : ∀ i t, w i t ≤ 999) (h5 : hc ≤ 5) (hm : fi + m = hc) (h15 : μ.1 1 5 = nI hc) (hG : ∀ x, x < hc → ∀ t, t < tc → μ.1 (118 + x) t = gn al w x t) (b2 : tc ≤ 12) {t F : Nat} (ht : t < tc) (hF : F.testBit t = true) {g : Nat → Int32} (hg : DpOk al w fi m t F g) : ∃ g', F_X1_addThing 116 (nI t) (nI fi) (nI (2 ^ m)) (hp κ (rowI μ 123 g)) = some (hp κ (rowI μ 123 g')) ∧ DpOk al w fi m (t + 1) F g' := by
  have hp5 : 2 ^ m ≤ 2 ^ 5 := Nat.pow_le_pow_right (by decide) (by omega)
  have hp0 := Nat.two_pow_pos m
  obtain ⟨ξ, ⟨g', hξ, hg1, hg2⟩, h2⟩ := lpf (fun n k ν => b_X1_addThing_5 116 (nI t) (nI fi) n (nI (2 ^ m - 1 - k)) (hp κ ν)) (fun k ν => ∃ g', ν = rowI μ 123 g' ∧ (∀ s, s ≤ 2 ^ m - 1 - k → g' s = g s) ∧ ∀ s, 2 ^ m - 1 - k < s → s < 2 ^ m → ∃ c, g' s = nI c ∧ Mx (At al w (t + 1) F (hx fi s)) c) (2 ^ m - 1) (fun k ν hk hQ => by
    obtain ⟨g', rfl, q1, q2⟩ := hQ
    obtain ⟨c, k1, k2⟩ := x_addIn (κ := κ) (μ := μ) hR hw h5 hm h15 hG b2 ht hF (s := 2 ^ m - 1 - k) (by omega) g' (by rw [q1 _ (Nat.le_refl _)]; exact hg _ (by omega)) (fun s' hs' => by rw [q1 s' (by omega)]; exact hg s' (by omega)) (fun x0 x1 => b_X1_addThing_5 116 (nI t) (nI fi) 0 x0 x1)
    refine ⟨rowI μ 123 (upd g' (2 ^ m - 1 - k) (nI c)), fun n => ?_, _, rfl, fun s hs => ?_, fun s h1 h2 => ?_⟩
    · obtain ⟨c', k1', k2'⟩ := x_addIn (κ := κ) (μ := μ) hR hw h5 hm h15 hG b2 ht hF (s := 2 ^ m - 1 - k) (by omega) g' (by rw [q1 _ (Nat.le_refl _)]; exact hg _ (by omega)) (fun s' hs' => by rw [q1 s' (by omega)]; exact hg s' (by omega)) (fun x0 x1 => b_X1_addThing_5 116 (nI t) (nI fi) n x0 x1)
      (try dsimp only)
      rw [b_X1_addThing_5, if_neg (show ¬ nI (2 ^ m - 1 - k) ≤ 0 from nI_ge (a := 0) (by omega) (by omega)), k2', k1.uniq k1']
      (try dsimp only)
      rw [show 2 ^ m - 1 - k = (2 ^ m - 1 - (k + 1)) + 1 by omega, nI_dn]
    · rw [pk_un (by omega)]
      exact q1 s (by omega)
    · by_cases z : s = 2 ^ m - 1 - k
      · subst z
        exact ⟨c, pk_us, k1⟩
      · rw [pk_un z]
        exact q2 s (by omega) h2) (rowI μ 123 g) ⟨g, rfl, fun _ _ => rfl, fun s h1 h2 => by omega⟩ (2 ^ m - 1) (Nat.le_refl _)
  refine ⟨g', ?_, fun s hs => ?_⟩
  · have h3 := h2 (4999 - (2 ^ m - 1) + 1)
    (try dsimp only at h3)
    rw [show 4999 - (2 ^ m - 1) + 1 + (2 ^ m - 1) = 5000 by omega, Nat.sub_zero] at h3
    unfold F_X1_addThing
    rw [if_pos q116, show nI (2 ^ m) - 1 = nI (2 ^ m - 1) from pk_sub (b := 1) (by omega)]
    refine Eq.trans h3 ?_
    rw [hξ, b_X1_addThing_5, if_pos (show nI (2 ^ m - 1 - (2 ^ m - 1)) ≤ 0 by rw [Nat.sub_self]; decide)]
  · by_cases z : s = 0
    · subst z
      rw [hg1 0 (by omega)]
      obtain ⟨c, c1, c2⟩ := hg 0 hp0
      refine ⟨c, c1, c2.iff (fun v => ?_)⟩
      rw [hx_0, At_S0, At_S0]
    · exact hg2 s (by omega) hs
theorem x_bestFrom (hR : Ref0 κ) (hw : ∀ i t, w i t ≤ 999) (h5 : hc ≤ 5) (hm : fi + m = hc) (h15 : μ.1 1 5 = nI hc) (h16 : μ.1 1 6 = nI tc) (hG : ∀ x, x < hc → ∀ t, t < tc → μ.1 (118 + x) t = gn al w x t) (b2 : tc ≤ 12) {F : Nat} (hF : F < 4096) (g : Nat → Int32) : ∃ g', F_X1_bestFrom 116 (nI fi) (nI F) (hp κ (rowI μ 123 g)) = some (nI (bd al w tc m fi F).1, hp κ (rowI μ 123 g')) := by
  have hp5 : 2 ^ m ≤ 2 ^ 5 := Nat.pow_le_pow_right (by decide) (by omega)
  have hp0 := Nat.two_pow_pos m
  have e15 : ∀ g, (rowI μ 123 g).1 1 5 = nI hc := fun g => h15
  have e16 : ∀ g, (rowI μ 123 g).1 1 6 = nI tc := fun g => h16
  -- all 0
  obtain ⟨ξ, ⟨g1, hξ, hg1⟩, h2⟩ := lpf (fun n k ν => b_X1_bestFrom_19 116 (nI fi) (nI F) (nI (2 ^ m)) n (nI k) (hp κ ν)) (fun k ν => ∃ g', ν = rowI μ 123 g' ∧ ∀ s, s < k → g' s = nI 0) (2 ^ m) (fun k ν hk hQ => by
    obtain ⟨g', rfl, q⟩ := hQ
    refine ⟨rowI μ 123 (upd g' k 0), fun n => ?_, _, rfl, fun s hs => ?_⟩
    · (try dsimp only)
      rw [b_X1_bestFrom_19, if_neg (nI_ge hk (by omega)), g116_3, obs, w123 (by omega), obs, up123, nI_1]
    · by_cases z : s = k
      · subst z; rw [pk_us]; rfl
      · rw [pk_un z]; exact q s (by omega)) (rowI μ 123 g) ⟨g, rfl, fun s hs => absurd hs (Nat.not_lt_zero _)⟩ (2 ^ m) (Nat.le_refl _)
  have hD0 : DpOk al w fi m 0 F g1 := fun s hs => ⟨0, hg1 s hs, rfl, fun v hv => by have hv : v = 0 := hv; omega⟩
  -- thing by thing
  obtain ⟨ζ, ⟨g2, hζ, hg2⟩, h4⟩ := lpf (fun n k ν => b_X1_bestFrom_42 116 (nI fi) (nI F) (nI (2 ^ m)) n (nI k) (hp κ ν)) (fun k ν => ∃ g', ν = rowI μ 123 g' ∧ DpOk al w fi m k F g') tc (fun k ν hk hQ => by
    obtain ⟨g', rfl, q⟩ := hQ
    by_cases cb : F.testBit k = true
    · have c1 : ¬ ((nI F >>> (nI k &&& 31)) &&& 1 = 0) := fun z => by
        have := (i_bit0 (show F < 2 ^ 31 by omega) (show k < 32 by omega)).mp z
        rw [cb] at this
        cases this
      obtain ⟨g3, k1, k2⟩ := x_addThing (κ := κ) (μ := μ) hR hw h5 hm h15 hG b2 hk cb q
      refine ⟨rowI μ 123 g3, fun n => ?_, g3, rfl, k2⟩
      (try dsimp only)
      rw [b_X1_bestFrom_42, g116_0, obs, g1_6, obs, e16, if_neg (nI_ge hk (by omega)), if_neg c1, k1, obs, b_X1_bestFrom_71, nI_1]
    · have c1 : (nI F >>> (nI k &&& 31)) &&& 1 = 0 := (i_bit0 (by omega) (by omega)).mpr (by simpa using cb)
      refine ⟨rowI μ 123 g', fun n => ?_, g', rfl, fun s hs => ?_⟩
      · (try dsimp only)
        rw [b_X1_bestFrom_42, g116_0, obs, g1_6, obs, e16, if_neg (nI_ge hk (by omega)), if_pos c1, b_X1_bestFrom_71, nI_1]
      · obtain ⟨c, c2, c3⟩ := q s hs
        exact ⟨c, c2, c3.iff (fun v => ⟨Or.inl, fun z => z.elim id (fun y => absurd y.1 cb)⟩)⟩) (rowI μ 123 g1) ⟨g1, rfl, hD0⟩ tc (Nat.le_refl _)
  obtain ⟨c, c1, c2⟩ := hg2 (2 ^ m - 1) (by omega)
  rw [hx_top] at c2
  have ec : c = (bd al w tc m fi F).1 := c2.uniq (bd_mx m fi F)
  refine ⟨g2, ?_⟩
  have h3 := h2 (4999 - 2 ^ m + 1)
  (try dsimp only at h3)
  rw [show 4999 - 2 ^ m + 1 + 2 ^ m = 5000 by omega] at h3
  have h6 := h4 (4999 - tc + 1)
  (try dsimp only at h6)
  rw [show 4999 - tc + 1 + tc = 5000 by omega] at h6
  have esh : (1 : Int32) <<< ((if 0 < nI hc - nI fi then nI hc - nI fi else 0) &&& 31) = nI (2 ^ m) := by
    rw [pk_sub (show fi ≤ hc by omega), show hc - fi = m by omega]
    by_cases z : 0 < m
    · rw [if_pos (show (0 : Int32) < nI m from nI_lt (a := 0) z (by omega))]
      exact i_sh1 m (by omega)
    · have : m = 0 := by omega
      subst this
      rfl
  unfold F_X1_bestFrom
  rw [if_pos q116, g116_0, obs, g1_5, obs, e15, esh]
  refine Eq.trans h3 ?_
  rw [hξ, b_X1_bestFrom_19, if_pos (nI_le (Nat.le_refl _) (by omega))]
  refine Eq.trans h6 ?_
  have er : (rowI μ 123 g2).1 123 (2 ^ m - 1) = nI c := c1
  rw [hζ, b_X1_bestFrom_42, g116_0, obs, g1_6, obs, e16, if_pos (nI_le (Nat.le_refl _) (by omega)), g116_3, obs, show nI (2 ^ m) - 1 = nI (2 ^ m - 1) from pk_sub (b := 1) (by omega), r123 (by omega), obs, er, ec]
end DPX
