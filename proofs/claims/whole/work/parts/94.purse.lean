/-! PURE: the purse. -/
theorem lpf {τ σ : Type} (B : Nat → Nat → σ → τ) (Q : Nat → σ → Prop) (K : Nat) (hs : ∀ k ν, k < K → Q k ν → ∃ ξ, (∀ n, B (n + 1) k ν = B n (k + 1) ξ) ∧ Q (k + 1) ξ) (μ : σ) (h0 : Q 0 μ) : ∀ k, k ≤ K → ∃ ξ, Q k ξ ∧ ∀ n, B (n + k) 0 μ = B n k ξ
  | 0, _ => ⟨μ, h0, fun n => rfl⟩
  | k + 1, hk => by
    obtain ⟨ξ, h1, h2⟩ := lpf B Q K hs μ h0 k (by omega)
    obtain ⟨ζ, h3, h4⟩ := hs k ξ (by omega) h1
    refine ⟨ζ, h4, fun n => ?_⟩
    rw [show n + (k + 1) = (n + 1) + k by omega, h2, h3]
theorem uN_or2 (x y : Int64) : uN (x ||| y) = uN x ||| uN y := by
  unfold uN
  rw [Int64.toUInt64_or, UInt64.toNat_or]
def wv (a i x y : Nat) : Int32 := nI a * nI x + (nI i - 2) * nI y
theorem wv_int {a i x y : Nat} (ha : a ≤ 2) (hi : i ≤ 4) (hx : x ≤ 50) (hy : y ≤ 50) : (wv a i x y).toInt = (a : Int) * x + ((i : Int) - 2) * y := by
  have h1 : (nI i - 2).toInt = (i : Int) - 2 := pk_sub_toInt (a := i) (b := 2) (by omega) (by decide)
  have hy2 : (nI y).toInt = (y : Int) := nI_toInt (by omega)
  have hax : a * x ≤ 2 * 50 := Nat.mul_le_mul ha hx
  have h3 : (nI a * nI x).toInt = (a : Int) * x := by
    rw [pk_mul, nI_toInt (by omega)]
    exact Int.natCast_mul a x
  have hax2 : (0 : Int) ≤ (a : Int) * x ∧ (a : Int) * x ≤ 100 := by
    rw [← Int.natCast_mul]
    omega
  have hiy : -100 ≤ ((i : Int) - 2) * y ∧ ((i : Int) - 2) * y ≤ 100 := by
    have : i = 0 ∨ i = 1 ∨ i = 2 ∨ i = 3 ∨ i = 4 := by omega
    rcases this with rfl | rfl | rfl | rfl | rfl <;> constructor <;> omega
  have h2 : ((nI i - 2) * nI y).toInt = ((i : Int) - 2) * y := by
    rw [fb_mulI (by rw [h1, hy2]; omega) (by rw [h1, hy2]; omega), h1, hy2]
  unfold wv
  rw [fb_addI (by rw [h3, h2]; omega) (by rw [h3, h2]; omega), h3, h2]
def av (a i x y : Nat) : Nat := ((a : Int) * x + ((i : Int) - 2) * y).natAbs
theorem av_le {a i x y : Nat} (ha : a ≤ 2) (hi : i ≤ 4) (hx : x ≤ 50) (hy : y ≤ 50) : av a i x y ≤ 200 := by
  have hax2 : (0 : Int) ≤ (a : Int) * x ∧ (a : Int) * x ≤ 100 := by
    have hax : a * x ≤ 2 * 50 := Nat.mul_le_mul ha hx
    rw [← Int.natCast_mul]
    omega
  have hiy : -100 ≤ ((i : Int) - 2) * y ∧ ((i : Int) - 2) * y ≤ 100 := by
    have : i = 0 ∨ i = 1 ∨ i = 2 ∨ i = 3 ∨ i = 4 := by omega
    rcases this with rfl | rfl | rfl | rfl | rfl <;> constructor <;> omega
  unfold av
  omega
theorem av_abs {a i x y : Nat} (ha : a ≤ 2) (hi : i ≤ 4) (hx : x ≤ 50) (hy : y ≤ 50) : (if 0 ≤ wv a i x y then wv a i x y else 0 - wv a i x y) = nI (av a i x y) := by
  have h := wv_int ha hi hx hy
  have hb := av_le ha hi hx hy
  have e0 : (0 : Int32).toInt = 0 := rfl
  have e : (av a i x y : Int) = if 0 ≤ (a : Int) * x + ((i : Int) - 2) * y then (a : Int) * x + ((i : Int) - 2) * y else -((a : Int) * x + ((i : Int) - 2) * y) := by
    unfold av
    split <;> omega
  generalize (a : Int) * x + ((i : Int) - 2) * y = z at h e
  by_cases c : 0 ≤ wv a i x y
  · rw [if_pos c, fa_eq, nI_toInt (by omega), h, e, if_pos]
    rw [fa_le, h, e0] at c
    exact c
  · rw [if_neg c]
    have c2 : ¬ 0 ≤ z := fun w => c (by rw [fa_le, h, e0]; exact w)
    rw [if_neg c2] at e
    rw [fa_eq, nI_toInt (by omega), fb_subI (by rw [h, e0]; omega) (by rw [h, e0]; omega), h, e, e0]
    omega
/-- the sums that can be paid -/
def py (x y s : Nat) : Prop := ∃ a i, a ≤ 2 ∧ i ≤ 4 ∧ av a i x y = s
def pyR (x y s : Nat) : Prop := ∃ a i : Nat, a ≤ 4 ∧ i ≤ 4 ∧ ((a : Int) - 2) * x + ((i : Int) - 2) * y = s
theorem py_iff {x y s : Nat} (h1 : 1 ≤ s) : py x y s ↔ pyR x y s := by
  constructor
  · rintro ⟨a, i, ha, hi, e⟩
    unfold av at e
    by_cases c : 0 ≤ (a : Int) * x + ((i : Int) - 2) * y
    · refine ⟨a + 2, i, by omega, hi, ?_⟩
      have : ((a + 2 : Nat) : Int) - 2 = a := by omega
      rw [this]
      omega
    · refine ⟨2 - a, 4 - i, by omega, by omega, ?_⟩
      have e1 : ((2 - a : Nat) : Int) - 2 = -(a : Int) := by omega
      have e2 : ((4 - i : Nat) : Int) - 2 = -((i : Int) - 2) := by omega
      rw [e1, e2, Int.neg_mul, Int.neg_mul]
      omega
  · rintro ⟨a, i, ha, hi, e⟩
    by_cases c : 2 ≤ a
    · refine ⟨a - 2, i, by omega, hi, ?_⟩
      unfold av
      have : ((a - 2 : Nat) : Int) = (a : Int) - 2 := by omega
      rw [this, e]
      rfl
    · refine ⟨2 - a, 4 - i, by omega, by omega, ?_⟩
      unfold av
      have e1 : ((2 - a : Nat) : Int) = -((a : Int) - 2) := by omega
      have e2 : ((4 - i : Nat) : Int) - 2 = -((i : Int) - 2) := by omega
      rw [e1, e2, Int.neg_mul, Int.neg_mul, ← Int.neg_add, e, Int.natAbs_neg]
      rfl
noncomputable def pm (x y v s : Nat) : Bool := @decide (1 ≤ s ∧ s ≤ v ∧ py x y s) (Classical.propDecidable _)
theorem pm_t {x y v s : Nat} : pm x y v s = true ↔ 1 ≤ s ∧ s ≤ v ∧ py x y s := by
  unfold pm
  exact @decide_eq_true_iff _ (Classical.propDecidable _)
/-- the purse holds these sums -/
def Pu (μ : Mem) (m : Nat → Bool) : Prop := ∀ i, i < 64 → (uN (μ.2 125 0)).testBit i = m i ∧ (uN (μ.2 125 1)).testBit i = m (64 + i)
def PuF (μ ξ : Mem) : Prop := ξ.1 = μ.1 ∧ ∀ a, a ≠ 125 → ξ.2 a = μ.2 a
theorem n64' {i : Nat} (h : i < 64) : ¬ (64 : Int32) ≤ nI i := nI_ge (b := 64) h (by decide)
section PUR
variable {κ : Kp} {μ ν : Mem}
theorem uN_bit2 {x : Int64} {k i : Nat} (hk : k < 64) : (uN (x ||| lN (1 * 2 ^ k))).testBit i = ((uN x).testBit i || decide (i = k)) := by
  rw [uN_or2, Nat.one_mul, uN_lN (by have : 2 ^ k ≤ 2 ^ 63 := Nat.pow_le_pow_right (by decide) (by omega); omega), fb_bit_set]
theorem x_pmark {s v : Nat} {m : Nat → Bool} (hs : s ≤ 200) (hv : v ≤ 99) (h : Pu μ m) : ∃ ξ, F_X3_mark 125 (nI s) (nI v) (hp κ μ) = some (hp κ ξ) ∧ PuF μ ξ ∧ Pu ξ (fun j => m j || (decide (1 ≤ s ∧ s ≤ v) && decide (j = s))) := by
  unfold F_X3_mark
  by_cases c1 : s < 1
  · refine ⟨μ, by rw [if_pos q125, if_pos (show nI s < 1 from nI_lt (b := 1) c1 (by decide))], ⟨rfl, fun _ _ => rfl⟩, fun i hi => ?_⟩
    have := h i hi
    rw [decide_eq_false (show ¬ (1 ≤ s ∧ s ≤ v) by omega)]
    simpa using this
  · by_cases c2 : s ≤ v
    · have d : decide (1 ≤ s ∧ s ≤ v) = true := decide_eq_true (by omega)
      by_cases c3 : 64 ≤ s
      · have e1 : nI s - 64 = nI (s - 64) := pk_sub (b := 64) c3
        have e2 : Int64.ofNat 1 <<< ((nI (s - 64)).toInt64 &&& 63) = lN (1 * 2 ^ (s - 64)) := wb_shl 1 (by omega)
        refine ⟨upL μ 125 1 (μ.2 125 1 ||| lN (1 * 2 ^ (s - 64))), ?_, ⟨rfl, fun a ha => rowL_n ha⟩, fun i hi => ?_⟩
        · rw [if_pos q125, if_neg (show ¬ nI s < 1 from nI_nlt (b := 1) (by omega) (by omega)), if_pos (nI_le c2 (by omega)), if_pos (show (64 : Int32) ≤ nI s from nI_le (a := 64) c3 (by omega)), g125_1, obs, e1, e2, p125_1, obs]
        · obtain ⟨h1, h2⟩ := h i hi
          rw [d, rowL_s, pk_uLn (by decide), pk_uLs, uN_bit2 (by omega), h1, h2]
          have n1 : decide (i = s) = false := decide_eq_false (by omega)
          have n2 : decide (64 + i = s) = decide (i = s - 64) := by
            by_cases z : i = s - 64
            · rw [decide_eq_true z, decide_eq_true (by omega)]
            · rw [decide_eq_false z, decide_eq_false (by omega)]
          (try dsimp only)
          rw [n1, n2]
          simp
      · have e2 : Int64.ofNat 1 <<< ((nI s).toInt64 &&& 63) = lN (1 * 2 ^ s) := wb_shl 1 (by omega)
        refine ⟨upL μ 125 0 (μ.2 125 0 ||| lN (1 * 2 ^ s)), ?_, ⟨rfl, fun a ha => rowL_n ha⟩, fun i hi => ?_⟩
        · rw [if_pos q125, if_neg (show ¬ nI s < 1 from nI_nlt (b := 1) (by omega) (by omega)), if_pos (nI_le c2 (by omega)), if_neg (n64' (by omega)), g125_0, obs, e2, p125_0, obs]
        · obtain ⟨h1, h2⟩ := h i hi
          rw [d, rowL_s, pk_uLs, pk_uLn (by decide), uN_bit2 (by omega), h1, h2]
          have n1 : decide (64 + i = s) = false := decide_eq_false (by omega)
          (try dsimp only)
          rw [n1]
          simp
    · refine ⟨μ, by rw [if_pos q125, if_neg (show ¬ nI s < 1 from nI_nlt (b := 1) (by omega) (by omega)), if_neg (nI_ge (by omega) (by omega))], ⟨rfl, fun _ _ => rfl⟩, fun i hi => ?_⟩
      have := h i hi
      rw [decide_eq_false (show ¬ (1 ≤ s ∧ s ≤ v) by omega)]
      simpa using this
theorem PuF.tr {ξ ζ : Mem} (h : PuF μ ξ) (h2 : PuF ξ ζ) : PuF μ ζ := ⟨h2.1.trans h.1, fun a ha => (h2.2 a ha).trans (h.2 a ha)⟩
/-- behind j pairs (a, i): which sums are marked -/
noncomputable def pmJ (x y v a n : Nat) (s : Nat) : Bool := @decide (1 ≤ s ∧ s ≤ v ∧ ∃ b i, (b < a ∧ i ≤ 4 ∨ b = a ∧ i < n) ∧ av b i x y = s) (Classical.propDecidable _)
theorem pmJ_t {x y v a n s : Nat} : pmJ x y v a n s = true ↔ 1 ≤ s ∧ s ≤ v ∧ ∃ b i, (b < a ∧ i ≤ 4 ∨ b = a ∧ i < n) ∧ av b i x y = s := by
  unfold pmJ
  exact @decide_eq_true_iff _ (Classical.propDecidable _)
theorem bool_iff {a b : Bool} (h : a = true ↔ b = true) : a = b := by
  cases a <;> cases b <;> simp_all
theorem pmJ_s {x y v a n s : Nat} : pmJ x y v a (n + 1) s = (pmJ x y v a n s || (decide (1 ≤ av a n x y ∧ av a n x y ≤ v) && decide (s = av a n x y))) := by
  refine bool_iff ?_
  rw [Bool.or_eq_true, Bool.and_eq_true, pmJ_t, pmJ_t, decide_eq_true_iff, decide_eq_true_iff]
  constructor
  · rintro ⟨h1, h2, b, i, h3 | h3, h4⟩
    · exact Or.inl ⟨h1, h2, b, i, Or.inl h3, h4⟩
    · by_cases c : i = n
      · refine Or.inr ⟨?_, ?_⟩
        · rw [← c, ← h3.1, h4]; exact ⟨h1, h2⟩
        · rw [← c, ← h3.1, h4]
      · exact Or.inl ⟨h1, h2, b, i, Or.inr ⟨h3.1, by omega⟩, h4⟩
  · rintro (⟨h1, h2, b, i, h3, h4⟩ | ⟨h1, h2⟩)
    · refine ⟨h1, h2, b, i, ?_, h4⟩
      rcases h3 with h3 | h3
      · exact Or.inl h3
      · exact Or.inr ⟨h3.1, by omega⟩
    · rw [h2]
      exact ⟨h1.1, h1.2, a, n, Or.inr ⟨rfl, by omega⟩, rfl⟩
theorem pmJ_n {x y v a : Nat} : pmJ x y v a 5 = pmJ x y v (a + 1) 0 := by
  funext s
  refine bool_iff ?_
  rw [pmJ_t, pmJ_t]
  constructor
  · rintro ⟨h1, h2, b, i, h3, h4⟩
    exact ⟨h1, h2, b, i, Or.inl (by omega), h4⟩
  · rintro ⟨h1, h2, b, i, h3, h4⟩
    refine ⟨h1, h2, b, i, ?_, h4⟩
    by_cases c : b = a
    · exact Or.inr (by omega)
    · exact Or.inl (by omega)
theorem pmJ_e {x y v : Nat} : pmJ x y v 3 0 = pm x y v := by
  funext s
  refine bool_iff ?_
  rw [pmJ_t, pm_t]
  constructor
  · rintro ⟨h1, h2, b, i, h3, h4⟩
    exact ⟨h1, h2, b, i, by omega, by omega, h4⟩
  · rintro ⟨h1, h2, b, i, h3, h4, h5⟩
    exact ⟨h1, h2, b, i, Or.inl (by omega), h5⟩
theorem l5_s : ∀ i, i < 5 → (nI i - 2 + 1 = nI (i + 1) - 2 ∧ ¬ (2 : Int32) < nI i - 2) := by decide
theorem x_payable {x y v : Nat} (hx : x ≤ 50) (hy : y ≤ 50) (hv : v ≤ 99) : ∃ ξ, F_X3_payable 125 (nI x) (nI y) (nI v) (hp κ μ) = some (nI (fb_ct (pm x y v) 128), hp κ ξ) ∧ PuF μ ξ ∧ Pu ξ (pm x y v) := by
  unfold F_X3_payable
  have hin : ∀ (a : Nat) (ξ : Mem), a ≤ 2 → Pu ξ (pmJ x y v a 0) → ∃ ζ, (∀ r : Int32 → ci_H → Option (Int32 × ci_H), b_X3_payable_23 r 125 (nI x) (nI y) (nI v) (nI a) bigN (-2) (hp κ ξ) = r (nI (a + 1)) (hp κ ζ)) ∧ PuF ξ ζ ∧ Pu ζ (pmJ x y v (a + 1) 0) := fun a ξ ha hQ0 => by
    obtain ⟨ζ, h1, h2⟩ := lpf (fun f i (ζ : Mem) (r : Int32 → ci_H → Option (Int32 × ci_H)) => b_X3_payable_23 r 125 (nI x) (nI y) (nI v) (nI a) f (nI i - 2) (hp κ ζ)) (fun i ζ => PuF ξ ζ ∧ Pu ζ (pmJ x y v a i)) 5 (fun i ζ hi hQ => by
      obtain ⟨ζ2, g1, g2, g3⟩ := x_pmark (κ := κ) (s := av a i x y) (v := v) (av_le ha (by omega) hx hy) hv hQ.2
      refine ⟨ζ2, fun f => ?_, hQ.1.tr g2, ?_⟩
      · funext r
        (try dsimp only)
        have := av_abs ha (show i ≤ 4 by omega) hx hy
        unfold wv at this
        rw [b_X3_payable_23, if_neg (l5_s i hi).2, this, g1, obs, (l5_s i hi).1]
      · have e : (fun j => pmJ x y v a i j || (decide (1 ≤ av a i x y ∧ av a i x y ≤ v) && decide (j = av a i x y))) = pmJ x y v a (i + 1) := by
          funext j
          exact pmJ_s.symm
        rw [e] at g3
        exact g3) ξ ⟨⟨rfl, fun _ _ => rfl⟩, hQ0⟩ 5 (Nat.le_refl 5)
    refine ⟨ζ, fun r => ?_, h1.1, by rw [← pmJ_n]; exact h1.2⟩
    refine Eq.trans (congrFun (h2 4995) r) ?_
    (try dsimp only)
    rw [b_X3_payable_23, if_pos (by decide), nI_1]
  rw [if_pos q125, p125_0, obs, p125_1, obs]
  have h0 : Pu (upL (upL μ 125 0 (Int64.ofNat 0)) 125 1 (Int64.ofNat 0)) (pmJ x y v 0 0) := fun i hi => by
    have e : ∀ s, pmJ x y v 0 0 s = false := fun s => by
      cases c : pmJ x y v 0 0 s with
      | false => rfl
      | true =>
        obtain ⟨-, -, b, i, h, -⟩ := pmJ_t.mp c
        omega
    rw [rowL_s, pk_uLn (by decide), pk_uLs, rowL_s, pk_uLs, e, e, show uN (Int64.ofNat 0) = 0 from uN_lN (n := 0) (by decide), Nat.zero_testBit]
    exact ⟨rfl, rfl⟩
  have f0 : PuF μ (upL (upL μ 125 0 (Int64.ofNat 0)) 125 1 (Int64.ofNat 0)) := ⟨rfl, fun a ha => by rw [rowL_n ha, rowL_n ha]⟩
  obtain ⟨ξ, h1, h2⟩ := lpe (fun f a (ζ : Mem) => b_X3_payable_13 125 (nI x) (nI y) (nI v) f (nI a) (hp κ ζ)) (fun a ζ => PuF μ ζ ∧ Pu ζ (pmJ x y v a 0)) 3 (fun a ζ ha hQ => by
    obtain ⟨ζ2, g1, g2, g3⟩ := hin a ζ (by omega) hQ.2
    refine ⟨ζ2, fun f => ?_, hQ.1.tr g2, g3⟩
    (try dsimp only)
    rw [b_X3_payable_13, if_neg (show ¬ (2 : Int32) < nI a from nI_nlt (a := 2) (by omega) (by decide)), g1]) _ ⟨f0, h0⟩ 3 (Nat.le_refl 3)
  rw [pmJ_e] at h1
  refine ⟨ξ, ?_, h1⟩
  refine Eq.trans (h2 4997) ?_
  (try dsimp only)
  have c1 : fb_ct (uN (ξ.2 125 0)).testBit 64 = fb_ct (pm x y v) 64 := fb_ct_cong (fun i hi => (h1.2 i hi).1)
  have c2 : fb_ct (uN (ξ.2 125 1)).testBit 64 = fb_ct (fun i => pm x y v (64 + i)) 64 := fb_ct_cong (fun i hi => (h1.2 i hi).2)
  rw [b_X3_payable_13, if_pos (by decide), g125_0, obs, pop64, obs]
  (try dsimp only)
  rw [g125_1, obs, pop64, obs, nI_add, c1, c2, ← fb_ct_split (pm x y v) 64 64]
theorem x_isMarked {m : Nat → Bool} (h : Pu μ m) {s : Nat} (hs : s < 128) : F_X3_isMarked 125 (nI s) (hp κ μ) = some (if m s then 1 else 0, hp κ μ) := by
  have key : ∀ (x : Int64) (k : Nat), k < 64 → b_X3_isMarked_24 (x >>> ((nI k).toInt64 &&& 63)) (hp κ μ) = some (if (uN x).testBit k then 1 else 0, hp κ μ) := fun x k hk => by
    have hb : (x >>> ((nI k).toInt64 &&& 63)) &&& Int64.ofNat 1 = Int64.ofNat 0 ↔ (uN x).testBit k = false := by
      have e1 : ((nI k).toInt64 &&& 63) = lN k := wb_c k hk
      rw [e1]
      have e2 : ∀ i, i < 64 → (x >>> lN k).toBitVec.getLsbD i = if k + i < 64 then x.toBitVec.getLsbD (k + i) else x.toBitVec.msb := fun i hi => by
        rw [Int64.toBitVec_shiftRight]
        have e3 : ((lN k).toBitVec.smod 64).toNat = k := by
          rw [lN_bv, wb_sm k hk]
          show (BitVec.ofNat 64 k).toNat = k
          rw [BitVec.toNat_ofNat, Nat.mod_eq_of_lt (by omega)]
        rw [BitVec.sshiftRight_eq', BitVec.getLsbD_sshiftRight, e3]
        simp [hi]
      have h1 : (uN ((x >>> lN k) &&& Int64.ofNat 1)) = uN (x >>> lN k) % 2 := by
        rw [uN_and, show uN (Int64.ofNat 1) = 1 from uN_lN (n := 1) (by decide)]
        exact Nat.and_two_pow_sub_one_eq_mod _ 1
      have h2 : (uN (x >>> lN k)).testBit 0 = (uN x).testBit k := by
        have := e2 0 (by decide)
        rw [Nat.add_zero, if_pos hk] at this
        exact this
      rw [Nat.testBit_zero] at h2
      constructor
      · intro z
        rw [z, show uN (Int64.ofNat 0) = 0 from uN_lN (n := 0) (by decide)] at h1
        rw [← h2, ← h1]
        rfl
      · intro z
        rw [z] at h2
        have h3 := of_decide_eq_false h2
        apply uN_inj
        rw [h1, show uN (Int64.ofNat 0) = 0 from uN_lN (n := 0) (by decide)]
        omega
    unfold b_X3_isMarked_24
    cases c : (uN x).testBit k with
    | false => rw [if_pos ((cmp_0 _ _).mpr (hb.mpr c))]; rfl
    | true => rw [if_neg (fun z => by rw [hb.mp ((cmp_0 _ _).mp z)] at c; cases c)]; rfl
  unfold F_X3_isMarked
  by_cases c : 64 ≤ s
  · rw [if_pos q125, if_pos (show (64 : Int32) ≤ nI s from nI_le (a := 64) c (by omega)), g125_1, obs, show nI s - 64 = nI (s - 64) from pk_sub (b := 64) c, key _ _ (by omega), (h (s - 64) (by omega)).2, show 64 + (s - 64) = s by omega]
  · rw [if_pos q125, if_neg (n64' (by omega)), g125_0, obs, key _ _ (by omega), (h s (by omega)).1]
end PUR
