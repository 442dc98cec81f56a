/-! PURE: pairs: seen, finds. -/
theorem cmp_0 (x y : Int64) : lg_cmp x y = 0 ↔ x = y := by
  unfold lg_cmp
  constructor
  · intro h
    split at h
    · cases h
    · split at h
      next c => exact c
      · cases h
  · intro h
    subst h
    rw [if_neg (fun z => by rw [gt_iff_lt, fa_lt64] at z; omega), if_pos rfl]
theorem lN_0 {a : Nat} (h : a < 2 ^ 63) : lN a = Int64.ofNat 0 ↔ a = 0 := fb_lN_inj (b := 0) h (by decide)
theorem dv_n {a d : Nat} (ha : a < 2 ^ 31) (h0 : 0 < d) (hd : d < 2 ^ 31) : dvI (nI a) (nI d) = some (nI (a / d)) := by
  unfold dvI
  rw [if_neg (fun z => by have := (i_eq0 hd).mp z; omega), pk_div ha h0 hd]
theorem dv_l {a d : Nat} (ha : a < 2 ^ 63) (h0 : 0 < d) (hd : d < 2 ^ 63) : dvL (lN a) (lN d) = some (lN (a / d)) := by
  unfold dvL
  rw [if_neg (fun z => by have := (lN_0 hd).mp z; omega), pk_lDiv ha h0 hd]
theorem rm_l {a d : Nat} (ha : a < 2 ^ 63) (h0 : 0 < d) (hd : d < 2 ^ 63) : rmL (lN a) (lN d) = some (lN (a % d)) := by
  unfold rmL
  rw [if_neg (fun z => by have := (lN_0 hd).mp z; omega), pk_lRem ha h0 hd]
theorem half_mod {b c k : Nat} (h0 : 0 < c) (hc : c < b) (hb : b < 2 ^ (k + 1)) : b % c < 2 ^ k := by
  rw [Nat.pow_succ] at hb
  by_cases h : c ≤ 2 ^ k
  · exact Nat.lt_of_lt_of_le (Nat.mod_lt b h0) h
  · have : b % c = b - c := by
      rw [Nat.mod_eq_sub_mod (by omega), Nat.mod_eq_of_lt (by omega)]
    omega
theorem gcd_st {a b : Nat} : Nat.gcd a b = Nat.gcd b (a % b) := by
  rw [Nat.gcd_comm a b, Nat.gcd_rec b a, Nat.gcd_comm]
theorem n64 {i : Nat} (h : i < 64) : ¬ (64 : Int32) ≤ nI i := nI_ge (b := 64) h (by decide)
theorem n6l {i : Nat} (h : i < 6) : ¬ (6 : Int32) ≤ nI i := nI_ge (b := 6) h (by decide)
def gm (g : Nat) : Int32 := if 1 < nI g then nI g else 1
theorem x_gcd (h : ci_H) : ∀ (k a b i n : Nat), a < 2 ^ 30 → b < 2 ^ k → k ≤ 30 → i + 2 * k ≤ 62 → b_X11_commonDivisor_7 (n + 2 * k + 1) (nI a) (nI b) (nI i) h = some (gm (Nat.gcd a b), h)
  | 0, a, b, i, n, ha, hb, hk, hi => by
    have e : b = 0 := by have : 2 ^ 0 = 1 := rfl; omega
    subst e
    rw [Nat.gcd_zero_right, b_X11_commonDivisor_7, if_neg (n64 (show _ < 64 by omega)), if_pos (show nI 0 = 0 from rfl)]
    rfl
  | k + 1, a, b, i, n, ha, hb, hk, hi => by
    have hb30 : b < 2 ^ 30 := Nat.lt_of_lt_of_le hb (Nat.pow_le_pow_right (by decide) hk)
    show b_X11_commonDivisor_7 (n + 2 * k + 1 + 1 + 1) (nI a) (nI b) (nI i) h = _
    by_cases c : b = 0
    · subst c
      rw [Nat.gcd_zero_right, b_X11_commonDivisor_7, if_neg (n64 (show _ < 64 by omega)), if_pos (show nI 0 = 0 from rfl)]
      rfl
    · have hlt := Nat.mod_lt a (show 0 < b by omega)
      rw [b_X11_commonDivisor_7, if_neg (n64 (show _ < 64 by omega)), if_neg (fun z => c ((i_eq0 (by omega)).mp z)), rm_n (by omega) (by omega) (by omega), obs, nI_1, gcd_st]
      by_cases c2 : a % b = 0
      · rw [c2, Nat.gcd_zero_right, b_X11_commonDivisor_7, if_neg (n64 (show _ < 64 by omega)), if_pos (show nI 0 = 0 from rfl)]
        rfl
      · rw [b_X11_commonDivisor_7, if_neg (n64 (show _ < 64 by omega)), if_neg (fun z => c2 ((i_eq0 (by omega)).mp z)), rm_n (by omega) (by omega) (by omega), obs, nI_1, gcd_st]
        exact x_gcd h k _ _ (i + 1 + 1) n (by omega) (half_mod (by omega) hlt hb) (by omega) (by omega)
theorem y_gcd (h : ci_H) : ∀ (k a b n : Nat), a < 2 ^ 30 → b < 2 ^ k → k ≤ 30 → FG_X12_common (n + 2 * k + 1) 0 (lN a) (lN b) h = some (lN (Nat.gcd a b), h)
  | 0, a, b, n, ha, hb, hk => by
    have e : b = 0 := by have : 2 ^ 0 = 1 := rfl; omega
    subst e
    rw [Nat.gcd_zero_right, FG_X12_common]
    unfold G_X12_common
    rw [if_pos ((cmp_0 (lN 0) (Int64.ofNat 0)).mpr rfl)]
  | k + 1, a, b, n, ha, hb, hk => by
    have hb30 : b < 2 ^ 30 := Nat.lt_of_lt_of_le hb (Nat.pow_le_pow_right (by decide) hk)
    show FG_X12_common (n + 2 * k + 1 + 1 + 1) 0 (lN a) (lN b) h = _
    by_cases c : b = 0
    · subst c
      rw [Nat.gcd_zero_right, FG_X12_common]
      unfold G_X12_common
      rw [if_pos ((cmp_0 (lN 0) (Int64.ofNat 0)).mpr rfl)]
    · have hlt := Nat.mod_lt a (show 0 < b by omega)
      rw [FG_X12_common]
      unfold G_X12_common
      rw [if_neg (fun z => c ((lN_0 (by omega)).mp ((cmp_0 _ _).mp z))), rm_l (by omega) (by omega) (by omega), obs, gcd_st]
      (try dsimp only)
      by_cases c2 : a % b = 0
      · rw [c2, Nat.gcd_zero_right, FG_X12_common]
        unfold G_X12_common
        rw [if_pos ((cmp_0 (lN 0) (Int64.ofNat 0)).mpr rfl), obs]
      · rw [FG_X12_common]
        unfold G_X12_common
        rw [if_neg (fun z => c2 ((lN_0 (by omega)).mp ((cmp_0 _ _).mp z))), rm_l (by omega) (by omega) (by omega), obs, gcd_st]
        (try dsimp only)
        rw [y_gcd h k _ _ n (by omega) (half_mod (by omega) hlt hb) (by omega), obs, obs]
theorem x_power {p n : Nat} (hn : n ≤ 4000) (h : ci_H) : F_X11_power (nI p) (nI n) h = some (nI (p ^ n), h) := by
  unfold F_X11_power
  refine lpk (fun f i => b_X11_power_4 (nI p) (nI n) f (nI (p ^ i)) (nI i) h) n _ ?_ ?_ bigN 0 (Nat.zero_le _) (by unfold bigN; omega)
  · intro f i hi
    (try dsimp only)
    rw [b_X11_power_4, if_neg (nI_ge hi (by omega)), pk_mul, nI_1, ← Nat.pow_succ]
  · intro f
    (try dsimp only)
    rw [b_X11_power_4, if_pos (nI_le (Nat.le_refl n) (by omega))]
/-- how likely, and of how many -/
def lkI (p : Nat) (m q : Nat → Bool) : Nat → Nat × Nat
  | 0 => (1, 1)
  | n + 1 => if m n then ((lkI p m q n).1 * (if q n then p else 10 - p), (lkI p m q n).2 * 10) else lkI p m q n
theorem lkI_e (p : Nat) (m q : Nat → Bool) : ∀ n, lkI p m q n = (p ^ fb_ct (fun i => m i && q i) n * (10 - p) ^ fb_ct (fun i => m i && !q i) n, 10 ^ fb_ct m n)
  | 0 => rfl
  | n + 1 => by
    have h := lkI_e p m q n
    unfold lkI
    rw [fb_ct_succ, fb_ct_succ, fb_ct_succ, h]
    cases hm : m n with
    | false => simp [hm]
    | true =>
      cases hq : q n with
      | false =>
        simp [hm, hq]
        rw [Nat.pow_succ, Nat.pow_succ]
        exact ⟨by rw [Nat.mul_assoc], rfl⟩
      | true =>
        simp [hm, hq]
        rw [Nat.pow_succ, Nat.pow_succ]
        exact ⟨by rw [Nat.mul_assoc, Nat.mul_comm _ p, ← Nat.mul_assoc], rfl⟩
theorem ct_6 {p : Nat → Bool} (h : ∀ k, 6 ≤ k → p k = false) : fb_ct p 12 = fb_ct p 6 := by
  have h1 := fb_ct_split p 6 6
  have h2 : fb_ct (fun k => p (6 + k)) 6 = 0 := fb_ct_zero.mpr (fun k _ => h _ (by omega))
  rw [h2] at h1
  exact h1
def lkN (p a b w : Nat) : Nat × Nat := lkI p (a ||| b).testBit (fun i => decide (w.testBit i = a.testBit i)) 6
theorem lkN_cn {p a b w : Nat} (ha : a < 64) (hb : b < 64) : lkN p a b w = (p ^ cn (sd (a ||| b) (w ^^^ a)) * (10 - p) ^ (cn (a ||| b) - cn (sd (a ||| b) (w ^^^ a))), 10 ^ cn (a ||| b)) := by
  have hab : a ||| b < 2 ^ 6 := or_l (n := 6) ha hb
  have hz : ∀ k, 6 ≤ k → (a ||| b).testBit k = false := fun k hk => Nat.testBit_lt_two_pow (Nat.lt_of_lt_of_le hab (Nat.pow_le_pow_right (by decide) hk))
  unfold lkN
  rw [lkI_e]
  have e0 : cn (a ||| b) = fb_ct (a ||| b).testBit 6 := ct_6 hz
  have e1 : cn (sd (a ||| b) (w ^^^ a)) = fb_ct (fun i => (a ||| b).testBit i && decide (w.testBit i = a.testBit i)) 6 := by
    unfold cn
    rw [ct_6 (fun k hk => by rw [sd_bit, hz k hk]; rfl)]
    refine fb_ct_cong (fun k _ => ?_)
    rw [sd_bit, Nat.testBit_xor]
    cases (a ||| b).testBit k <;> cases w.testBit k <;> cases a.testBit k <;> rfl
  have e2 : fb_ct (fun i => (a ||| b).testBit i && decide (w.testBit i = a.testBit i)) 6 + fb_ct (fun i => (a ||| b).testBit i && !decide (w.testBit i = a.testBit i)) 6 = fb_ct (a ||| b).testBit 6 := by
    rw [← fb_ct_or (fun k _ z => by
      obtain ⟨z1, z2⟩ := z
      rw [Bool.and_eq_true] at z1 z2
      rw [z1.2] at z2
      cases z2.2)]
    refine fb_ct_cong (fun k _ => ?_)
    cases (a ||| b).testBit k <;> cases decide (w.testBit k = a.testBit k) <;> rfl
  rw [e0, e1, show fb_ct (a ||| b).testBit 6 - fb_ct (fun i => (a ||| b).testBit i && decide (w.testBit i = a.testBit i)) 6 = fb_ct (fun i => (a ||| b).testBit i && !decide (w.testBit i = a.testBit i)) 6 by omega]
theorem pow10 : ∀ n, n ≤ 6 → 10 ^ n ≤ 1000000 := by decide
theorem lkI_le (p : Nat) (m q : Nat → Bool) (hp : p ≤ 10) : ∀ n, (lkI p m q n).1 ≤ (lkI p m q n).2 ∧ 0 < (lkI p m q n).2 ∧ (lkI p m q n).2 ≤ 10 ^ n
  | 0 => ⟨Nat.le_refl _, Nat.one_pos, Nat.le_refl _⟩
  | n + 1 => by
    obtain ⟨h1, h2, h3⟩ := lkI_le p m q hp n
    unfold lkI
    split
    · refine ⟨Nat.mul_le_mul h1 (by split <;> omega), by omega, ?_⟩
      rw [Nat.pow_succ]
      exact Nat.mul_le_mul_right 10 h3
    · exact ⟨h1, h2, Nat.le_trans h3 (Nat.pow_le_pow_right (by decide) (by omega))⟩
theorem lkN_b {p a b w : Nat} (hp : p ≤ 10) : (lkN p a b w).1 ≤ 1000000 ∧ 0 < (lkN p a b w).2 ∧ (lkN p a b w).2 ≤ 1000000 := by
  obtain ⟨h1, h2, h3⟩ := lkI_le p (a ||| b).testBit (fun i => decide (w.testBit i = a.testBit i)) hp 6
  exact ⟨Nat.le_trans h1 h3, h2, h3⟩
theorem rowL_rowL {μ : Mem} {a : Nat} {f g : Nat → Int64} : rowL (rowL μ a f) a g = rowL μ a g := by
  unfold rowL
  congr 1
  funext b
  (try dsimp only)
  split <;> rfl
def lwF (f : Nat → Int64) (l w : Nat) : Nat → Int64 := fun j => if j = 36 then lN w else if j = 35 then lN l else f j
theorem lwF_u {f : Nat → Int64} {l w l2 w2 : Nat} : vp_updL (vp_updL (lwF f l w) 35 (lN l2)) 36 (lN w2) = lwF f l2 w2 := by
  funext j
  by_cases c1 : j = 36
  · subst c1
    rw [pk_uLs]
    rfl
  · rw [pk_uLn c1]
    by_cases c2 : j = 35
    · subst c2
      rw [pk_uLs]
      rfl
    · rw [pk_uLn c2]
      unfold lwF
      rw [if_neg c1, if_neg c2, if_neg c1, if_neg c2]
section LKX
variable {κ : Kp} {μ ν : Mem} {hc tc kc lm B : Nat}
theorem x_likely {t k p a b w : Nat} (ht : t < 12) (hk : k < 6) (hpp : p ≤ 10) (e7 : μ.1 7 k = nI a) (e8 : μ.1 8 k = nI b) (e5 : μ.1 5 t = nI w) (ha : a < 64) (hb : b < 64) : F_X11_likely 0 (nI t) (nI k) (nI p) (hp κ μ) = some (nI (lkN p a b w).1, hp κ μ) := by
  have hab : a ||| b < 64 := or_l (n := 6) ha hb
  have hsd : sd (a ||| b) (w ^^^ a) < 4096 := Nat.lt_of_lt_of_le (sd_lt (n := 6) hab) (by decide)
  have hle : cn (sd (a ||| b) (w ^^^ a)) ≤ cn (a ||| b) := cn_mono (fun i hi => by rw [sd_bit, Bool.and_eq_true] at hi; exact hi.1)
  have h12 := cn_le (a ||| b)
  unfold F_X11_likely
  rw [if_pos q0, g0_0, obs, g1_1, obs, r7 hk, obs, e7, obs, g1_2, obs, r8 hk, obs, e8, obs, g1_0, obs, g2_2, obs, r5 ht, obs, e5, obs, g1_1, obs, r7 hk, obs, e7, i_or, i_xor, i_sd, bc hsd, obs]
  (try dsimp only)
  rw [bc (by omega), obs]
  (try dsimp only)
  rw [x_power (by omega), obs]
  (try dsimp only)
  rw [show (10 : Int32) - nI p = nI (10 - p) from pk_sub (a := 10) hpp, pk_sub hle, x_power (by omega), obs]
  (try dsimp only)
  rw [pk_mul, lkN_cn ha hb]
theorem x_namedBy {k a b : Nat} (hk : k < 6) (e7 : μ.1 7 k = nI a) (e8 : μ.1 8 k = nI b) (ha : a < 64) (hb : b < 64) : F_X10_namedBy 1 (nI k) (hp κ μ) = some (nI (cn (a ||| b)), hp κ μ) := by
  have hab : a ||| b < 64 := or_l (n := 6) ha hb
  unfold F_X10_namedBy
  rw [if_pos q1, g1_1, obs, r7 hk, obs, e7, g1_2, obs, r8 hk, obs, e8, i_or, bc (by omega), obs]
theorem y_sees {t k p a b w : Nat} (ht : t < 42) (hk : k < 6) (hpp : p ≤ 10) (e9 : ν.1 129 k = nI a) (e0 : ν.1 130 k = nI b) (e8 : ν.1 128 t = nI w) (ha : a < 64) (hb : b < 64) (hw : w < 64) : F_X12_seesBy 127 (nI t) (nI k) (nI p) (hp κ ν) = some (hp κ (rowL ν 127 (lwF (ν.2 127) (lkN p a b w).1 (lkN p a b w).2))) := by
  have hab : a ||| b < 64 := or_l (n := 6) ha hb
  unfold F_X12_seesBy
  rw [if_pos q127, p127_35, obs, p127_36, obs]
  have e1 : upL (upL ν 127 35 (Int64.ofNat 1)) 127 36 (Int64.ofNat 1) = rowL ν 127 (lwF (ν.2 127) 1 1) := by
    show rowL (rowL ν 127 _) 127 (vp_updL ((rowL ν 127 _).2 127) 36 _) = _
    rw [rowL_rowL, rowL_s]
    congr 1
  rw [e1]
  refine lpk (fun f i => b_X12_seesBy_13 127 (nI t) (nI k) (nI p) f (nI i) (hp κ (rowL ν 127 (lwF (ν.2 127) (lkI p (a ||| b).testBit (fun i => decide (w.testBit i = a.testBit i)) i).1 (lkI p (a ||| b).testBit (fun i => decide (w.testBit i = a.testBit i)) i).2)))) 6 _ ?_ ?_ bigN 0 (Nat.zero_le _) (by unfold bigN; omega)
  · intro f i hi
    (try dsimp only)
    have es : lkI p (a ||| b).testBit (fun i => decide (w.testBit i = a.testBit i)) (i + 1) = if (a ||| b).testBit i then ((lkI p (a ||| b).testBit (fun i => decide (w.testBit i = a.testBit i)) i).1 * (if decide (w.testBit i = a.testBit i) then p else 10 - p), (lkI p (a ||| b).testBit (fun i => decide (w.testBit i = a.testBit i)) i).2 * 10) else lkI p (a ||| b).testBit (fun i => decide (w.testBit i = a.testBit i)) i := rfl
    rw [es]
    generalize lkI p (a ||| b).testBit (fun i => decide (w.testBit i = a.testBit i)) i = s
    have m9 : ∀ g, (rowL ν 127 g).1 129 k = nI a := fun g => e9
    have m0 : ∀ g, (rowL ν 127 g).1 130 k = nI b := fun g => e0
    have m8 : ∀ g, (rowL ν 127 g).1 128 t = nI w := fun g => e8
    have fin : ∀ (z : Nat), b_X12_seesBy_84 (fun x0 x1 => b_X12_seesBy_13 127 (nI t) (nI k) (nI p) f x0 x1) 127 (nI t) (nI k) (nI p) (nI i) 127 (lN s.1) (lN z) (hp κ (rowL ν 127 (lwF (ν.2 127) s.1 s.2))) = b_X12_seesBy_13 127 (nI t) (nI k) (nI p) f (nI (i + 1)) (hp κ (rowL ν 127 (lwF (ν.2 127) (s.1 * z) (s.2 * 10)))) := fun z => by
      unfold b_X12_seesBy_84 b_X12_seesBy_100
      have e2 : (upL (rowL ν 127 (lwF (ν.2 127) s.1 s.2)) 127 35 (lN s.1 * lN z)).2 127 36 = lN s.2 := by
        rw [rowL_s, pk_uLn (by decide), rowL_s]
        rfl
      rw [p127_35, obs, g127_36, obs, e2, p127_36, obs, nI_1]
      have e3 : lN s.2 * Int64.ofNat 10 = lN (s.2 * 10) := lN_mul s.2 10
      rw [e3, lN_mul]
      show b_X12_seesBy_13 127 (nI t) (nI k) (nI p) f (nI (i + 1)) (hp κ (rowL (rowL (rowL ν 127 _) 127 (vp_updL ((rowL ν 127 _).2 127) 35 _)) 127 (vp_updL ((rowL (rowL ν 127 _) 127 _).2 127) 36 _))) = _
      rw [rowL_s, rowL_rowL, rowL_rowL, rowL_s, lwF_u]
    rw [b_X12_seesBy_13, if_neg (n6l hi), g127_4, obs, r129 hk, obs, m9, g127_5, obs, r130 hk, obs, m0, i_or, y_has (by omega) (by omega), obs]
    (try dsimp only)
    cases c : (a ||| b).testBit i with
    | false =>
      rw [if_pos (by decide)]
      unfold b_X12_seesBy_100
      rw [nI_1]
      simp only [Bool.false_eq_true, ↓reduceIte]
    | true =>
      have e35 : (rowL ν 127 (lwF (ν.2 127) s.1 s.2)).2 127 35 = lN s.1 := by
        rw [rowL_s]
        rfl
      rw [if_neg (by decide), g127_35, obs, e35, g127_0, obs, r128 ht, obs, m8, y_has (by omega) (by omega), obs]
      (try dsimp only)
      rw [g127_4, obs, r129 hk, obs, m9, y_has (by omega) (by omega), obs]
      (try dsimp only)
      rw [nI_l (show p < 2 ^ 31 by omega), show (10 : Int32) - nI p = nI (10 - p) from pk_sub (a := 10) hpp, nI_l (show 10 - p < 2 ^ 31 by omega), fin, fin]
      simp only [↓reduceIte]
      by_cases c2 : w.testBit i = a.testBit i
      · rw [c2, if_pos rfl, if_pos (decide_eq_true rfl)]
      · rw [if_neg (show ¬ decide (w.testBit i = a.testBit i) = true from fun z => c2 (of_decide_eq_true z)), if_neg]
        cases h1 : w.testBit i <;> cases h2 : a.testBit i <;> simp_all
  · intro f
    (try dsimp only)
    rw [b_X12_seesBy_13, if_pos (by decide)]
    rfl
end LKX
theorem pr_seen : P3 F_X11_seen F_X12_seen := by
  intro x y z κ B μ hR hB hI
  (try dsimp only)
  obtain ⟨hc, tc, kc, lm, hb⟩ := hI.bs
  have b2 := hb.b2
  have b3 := hb.b3
  have d0 : ¬ (1 : Int32) = 0 := by decide
  rcases ix_tc hb x with ⟨t, ht, rfl⟩ | hx
  · rcases ix_kc hb y with ⟨k, hk, rfl⟩ | hy
    · rcases rng z 0 10 0 10 rfl rfl (by omega) (by omega) with ⟨p, j1, j2, rfl, c1, c2, c3, c4, c5⟩ | ⟨c1, c2, c3⟩ | ⟨c1, c2, c3, c4, c5⟩
      · obtain ⟨e7, e8, a, b, ha, hbb, -, -, e9, e0⟩ := hb.2.2.1 k hk
        obtain ⟨⟨w, hw, ew⟩, -⟩ := hb.2.2.2.2.1.1 t ht
        obtain ⟨l1, l2, l3⟩ := lkN_b (p := p) (a := a) (b := b) (w := w) j2
        have hL := x_likely (κ := κ) (μ := μ) (show t < 12 by omega) (show k < 6 by omega) j2 (e7.trans e9) (e8.trans e0) ((hb.tr (by omega)).trans ew) ha hbb
        have hW : (lkN p a b w).2 = 10 ^ cn (a ||| b) := by rw [lkN_cn ha hbb]
        have hcn : cn (a ||| b) ≤ 12 := cn_le _
        have hy0 : ∀ ν : Mem, cl ν = cl μ → F_X12_seesBy 127 (nI t) (nI k) (nI p) (hp κ ν) = some (hp κ (rowL ν 127 (lwF (ν.2 127) (lkN p a b w).1 (lkN p a b w).2))) := fun ν e => y_sees (by omega) (by omega) j2 (by rw [f129 e]; exact e9) (by rw [f130 e]; exact e0) (by rw [f128 e]; exact ew) ha hbb hw
        generalize (lkN p a b w).1 = L at l1 hL hy0
        generalize (lkN p a b w).2 = W at l2 l3 hW hy0
        have hg0 : 0 < Nat.gcd L W := Nat.gcd_pos_of_pos_right L l2
        have hgL : Nat.gcd L W ≤ W := Nat.gcd_le_right L l2
        have hgm : gm (Nat.gcd L W) = nI (Nat.gcd L W) := by
          unfold gm
          by_cases c : 1 < Nat.gcd L W
          · rw [if_pos (show (1 : Int32) < nI (Nat.gcd L W) from nI_lt (a := 1) c (by omega))]
          · have e : Nat.gcd L W = 1 := by omega
            rw [e]
            rfl
        have hdL : L / Nat.gcd L W < 2 ^ 31 := Nat.lt_of_le_of_lt (Nat.div_le_self _ _) (by omega)
        have hdW : W / Nat.gcd L W < 2 ^ 31 := Nat.lt_of_le_of_lt (Nat.div_le_self _ _) (by omega)
        have hX := x_gcd (hp κ μ) 20 L W 0 4959 (by omega) (by omega) (by omega) (by omega)
        refine ⟨0, TT μ (lN (L / Nat.gcd L W)) (lN (W / Nat.gcd L W)), MM (rowL (Zr (TT μ (lN (L / Nat.gcd L W)) (lN (W / Nat.gcd L W)))) 127 (lwF ((Zr (TT μ (lN (L / Nat.gcd L W)) (lN (W / Nat.gcd L W)))).2 127) L W)) (lN (L / Nat.gcd L W)) (lN (W / Nat.gcd L W)), ?_, ?_, ?_⟩
        · unfold F_X11_seen
          rw [if_pos q0, g0_0, obs, X_hasThing1 hb rfl ht, obs]
          (try dsimp only)
          rw [if_neg d0, g0_0, obs, X_hasKind1 hb rfl hk, obs]
          (try dsimp only)
          rw [if_neg d0, if_neg c1, if_pos c4, hL, obs]
          (try dsimp only)
          rw [g0_0, obs, x_namedBy (by omega) (e7.trans e9) (e8.trans e0) ha hbb, obs]
          (try dsimp only)
          rw [show (10 : Int32) = nI 10 from rfl, x_power (by omega), obs, ← hW]
          unfold F_X11_commonDivisor
          (try dsimp only)
          have hX2 : b_X11_commonDivisor_7 bigN (nI L) (nI W) 0 (hp κ μ) = some (gm (Nat.gcd L W), hp κ μ) := hX
          rw [hX2, obs]
          (try dsimp only)
          rw [hgm, dv_n (by omega) hg0 (by omega), obs, dv_n (by omega) hg0 (by omega), obs, nI_l hdL, nI_l hdW, x_tellTwo, obs]
          rfl
        · have e : cl (Zr (TT μ (lN (L / Nat.gcd L W)) (lN (W / Nat.gcd L W)))) = cl μ := by
            unfold TT
            rw [cl_Z, cl_TB, cl_TB, cl_T0]
          unfold F_X12_seen
          rw [if_pos q127, p11, obs]
          generalize Zr (TT μ (lN (L / Nat.gcd L W)) (lN (W / Nat.gcd L W))) = ν at e ⊢
          rw [Y_isThing1 hb e ht, obs]
          (try dsimp only)
          rw [if_neg d0, Y_isKind1 hb e hk, obs]
          (try dsimp only)
          rw [if_neg d0, c5, obs]
          (try dsimp only)
          rw [if_neg d0, hy0 ν e, obs, g127_35, obs, g127_36, obs]
          have e35 : (rowL ν 127 (lwF (ν.2 127) L W)).2 127 35 = lN L := by rw [rowL_s]; rfl
          have e36 : (rowL ν 127 (lwF (ν.2 127) L W)).2 127 36 = lN W := by rw [rowL_s]; rfl
          have f35 : (M0 (rowL ν 127 (lwF (ν.2 127) L W))).2 127 35 = lN L := e35
          have f36 : (MB (M0 (rowL ν 127 (lwF (ν.2 127) L W))) 0 (lN (L / Nat.gcd L W))).2 127 36 = lN W := e36
          have hY : F_X12_common (lN L) (lN W) (hp κ (rowL ν 127 (lwF (ν.2 127) L W))) = some (lN (Nat.gcd L W), hp κ (rowL ν 127 (lwF (ν.2 127) L W))) := y_gcd _ 20 L W 59 (by omega) (by omega) (by omega)
          rw [e35, e36, hY, obs]
          (try dsimp only)
          rw [p10, obs, g127_35, obs, f35, dv_l (by omega) hg0 (by omega), obs, y_tell0, obs, g127_36, obs, f36, dv_l (by omega) hg0 (by omega), obs, y_tell1 (i := 0) (by decide), obs]
          rfl
        · refine ⟨?_, row_TM (ν := μ) rfl rfl rfl⟩
          have e : cl (MM (rowL (Zr (TT μ (lN (L / Nat.gcd L W)) (lN (W / Nat.gcd L W)))) 127 (lwF ((Zr (TT μ (lN (L / Nat.gcd L W)) (lN (W / Nat.gcd L W)))).2 127) L W)) (lN (L / Nat.gcd L W)) (lN (W / Nat.gcd L W))) = cl μ := by
            unfold MM TT
            rw [cl_MB, cl_MB, cl_M0, cl_L, cl_Z, cl_TB, cl_TB, cl_T0]
          rw [e]
          exact hI.1.up (by omega)
      · refine ⟨-1, μ, Zr μ, ?_, ?_, inv_Z hI⟩
        · unfold F_X11_seen
          simp only [↓reduceIte, obs, q0, q1, q2, q11, q13, q17, q20, q21, q24, q104, q111, q112, q116, q125, q127, g0_0, g0_1, g0_2, g0_3, g0_4, g0_5, g0_6, g0_7, p0_7, g0_8, g0_9, g0_10, g0_11, g0_12, g0_13, p0_13, g0_14, g0_15, g0_16, g0_17, g0_18, g1_0, g1_1, g1_2, g1_3, g1_4, g1_5, p1_5, g1_6, p1_6, g1_7, p1_7, g1_8, p1_8, g2_0, g2_1, g2_2, g2_3, g2_4, p2_4, g11_0, g11_1, p11_1, g11_2, p11_2, g11_3, p11_3, g13_0, g13_1, g13_2, g13_3, g17_0, g17_1, g17_2, p17_2, g20_0, g20_1, g21_0, g21_1, g21_2, p21_2, g24_0, g24_1, p24_1, g24_2, p24_2, g104_0, g104_1, g104_2, g104_3, g104_4, p104_4, g111_0, g111_1, p111_1, g111_2, p111_2, g111_3, p111_3, g112_0, g112_1, g112_2, g112_3, g112_4, p112_4, g116_0, g116_1, g116_2, g116_3, g116_4, g125_0, p125_0, g125_1, p125_1, g127_0, g127_1, p127_1, g127_2, p127_2, g127_3, p127_3, g127_4, g127_5, g127_6, p127_6, g127_7, g127_8, p127_8, g127_9, g127_10, p127_10, g127_11, p127_11, g127_12, g127_13, p127_13, g127_14, p127_14, g127_15, p127_15, g127_16, p127_16, g127_17, g127_18, g127_19, p127_19, g127_20, p127_20, g127_21, g127_22, g127_23, p127_23, g127_24, g127_25, g127_26, g127_27, g127_28, g127_29, p127_29, g127_30, p127_30, g127_31, g127_32, g127_33, p127_33, g127_34, p127_34, g127_35, p127_35, g127_36, p127_36, g127_37, g127_38, p127_38, g127_39, p127_39, g127_40, g127_41, g127_42, X_hasThing1 hb rfl ht, X_hasKind1 hb rfl hk, d0, c1]
        · unfold F_X12_seen
          simp only [if_pos q127, p11, ↓reduceIte, obs, Y_isThing1 hb cl_Z ht, Y_isKind1 hb cl_Z hk, d0, c3]
      · refine ⟨-1, μ, Zr μ, ?_, ?_, inv_Z hI⟩
        · unfold F_X11_seen
          simp only [↓reduceIte, obs, q0, q1, q2, q11, q13, q17, q20, q21, q24, q104, q111, q112, q116, q125, q127, g0_0, g0_1, g0_2, g0_3, g0_4, g0_5, g0_6, g0_7, p0_7, g0_8, g0_9, g0_10, g0_11, g0_12, g0_13, p0_13, g0_14, g0_15, g0_16, g0_17, g0_18, g1_0, g1_1, g1_2, g1_3, g1_4, g1_5, p1_5, g1_6, p1_6, g1_7, p1_7, g1_8, p1_8, g2_0, g2_1, g2_2, g2_3, g2_4, p2_4, g11_0, g11_1, p11_1, g11_2, p11_2, g11_3, p11_3, g13_0, g13_1, g13_2, g13_3, g17_0, g17_1, g17_2, p17_2, g20_0, g20_1, g21_0, g21_1, g21_2, p21_2, g24_0, g24_1, p24_1, g24_2, p24_2, g104_0, g104_1, g104_2, g104_3, g104_4, p104_4, g111_0, g111_1, p111_1, g111_2, p111_2, g111_3, p111_3, g112_0, g112_1, g112_2, g112_3, g112_4, p112_4, g116_0, g116_1, g116_2, g116_3, g116_4, g125_0, p125_0, g125_1, p125_1, g127_0, g127_1, p127_1, g127_2, p127_2, g127_3, p127_3, g127_4, g127_5, g127_6, p127_6, g127_7, g127_8, p127_8, g127_9, g127_10, p127_10, g127_11, p127_11, g127_12, g127_13, p127_13, g127_14, p127_14, g127_15, p127_15, g127_16, p127_16, g127_17, g127_18, g127_19, p127_19, g127_20, p127_20, g127_21, g127_22, g127_23, p127_23, g127_24, g127_25, g127_26, g127_27, g127_28, g127_29, p127_29, g127_30, p127_30, g127_31, g127_32, g127_33, p127_33, g127_34, p127_34, g127_35, p127_35, g127_36, p127_36, g127_37, g127_38, p127_38, g127_39, p127_39, g127_40, g127_41, g127_42, X_hasThing1 hb rfl ht, X_hasKind1 hb rfl hk, d0, c3, c2]
        · unfold F_X12_seen
          simp only [if_pos q127, p11, ↓reduceIte, obs, Y_isThing1 hb cl_Z ht, Y_isKind1 hb cl_Z hk, d0, c5]
    · refine ⟨-1, μ, Zr μ, ?_, ?_, inv_Z hI⟩
      · unfold F_X11_seen
        simp only [↓reduceIte, obs, q0, q1, q2, q11, q13, q17, q20, q21, q24, q104, q111, q112, q116, q125, q127, g0_0, g0_1, g0_2, g0_3, g0_4, g0_5, g0_6, g0_7, p0_7, g0_8, g0_9, g0_10, g0_11, g0_12, g0_13, p0_13, g0_14, g0_15, g0_16, g0_17, g0_18, g1_0, g1_1, g1_2, g1_3, g1_4, g1_5, p1_5, g1_6, p1_6, g1_7, p1_7, g1_8, p1_8, g2_0, g2_1, g2_2, g2_3, g2_4, p2_4, g11_0, g11_1, p11_1, g11_2, p11_2, g11_3, p11_3, g13_0, g13_1, g13_2, g13_3, g17_0, g17_1, g17_2, p17_2, g20_0, g20_1, g21_0, g21_1, g21_2, p21_2, g24_0, g24_1, p24_1, g24_2, p24_2, g104_0, g104_1, g104_2, g104_3, g104_4, p104_4, g111_0, g111_1, p111_1, g111_2, p111_2, g111_3, p111_3, g112_0, g112_1, g112_2, g112_3, g112_4, p112_4, g116_0, g116_1, g116_2, g116_3, g116_4, g125_0, p125_0, g125_1, p125_1, g127_0, g127_1, p127_1, g127_2, p127_2, g127_3, p127_3, g127_4, g127_5, g127_6, p127_6, g127_7, g127_8, p127_8, g127_9, g127_10, p127_10, g127_11, p127_11, g127_12, g127_13, p127_13, g127_14, p127_14, g127_15, p127_15, g127_16, p127_16, g127_17, g127_18, g127_19, p127_19, g127_20, p127_20, g127_21, g127_22, g127_23, p127_23, g127_24, g127_25, g127_26, g127_27, g127_28, g127_29, p127_29, g127_30, p127_30, g127_31, g127_32, g127_33, p127_33, g127_34, p127_34, g127_35, p127_35, g127_36, p127_36, g127_37, g127_38, p127_38, g127_39, p127_39, g127_40, g127_41, g127_42, X_hasThing1 hb rfl ht, X_hasKind0 hb rfl hy, d0]
      · unfold F_X12_seen
        simp only [if_pos q127, p11, ↓reduceIte, obs, Y_isThing1 hb cl_Z ht, Y_isKind0 hb cl_Z hy, d0]
  · refine ⟨-1, μ, Zr μ, ?_, ?_, inv_Z hI⟩
    · unfold F_X11_seen
      simp only [↓reduceIte, obs, q0, q1, q2, q11, q13, q17, q20, q21, q24, q104, q111, q112, q116, q125, q127, g0_0, g0_1, g0_2, g0_3, g0_4, g0_5, g0_6, g0_7, p0_7, g0_8, g0_9, g0_10, g0_11, g0_12, g0_13, p0_13, g0_14, g0_15, g0_16, g0_17, g0_18, g1_0, g1_1, g1_2, g1_3, g1_4, g1_5, p1_5, g1_6, p1_6, g1_7, p1_7, g1_8, p1_8, g2_0, g2_1, g2_2, g2_3, g2_4, p2_4, g11_0, g11_1, p11_1, g11_2, p11_2, g11_3, p11_3, g13_0, g13_1, g13_2, g13_3, g17_0, g17_1, g17_2, p17_2, g20_0, g20_1, g21_0, g21_1, g21_2, p21_2, g24_0, g24_1, p24_1, g24_2, p24_2, g104_0, g104_1, g104_2, g104_3, g104_4, p104_4, g111_0, g111_1, p111_1, g111_2, p111_2, g111_3, p111_3, g112_0, g112_1, g112_2, g112_3, g112_4, p112_4, g116_0, g116_1, g116_2, g116_3, g116_4, g125_0, p125_0, g125_1, p125_1, g127_0, g127_1, p127_1, g127_2, p127_2, g127_3, p127_3, g127_4, g127_5, g127_6, p127_6, g127_7, g127_8, p127_8, g127_9, g127_10, p127_10, g127_11, p127_11, g127_12, g127_13, p127_13, g127_14, p127_14, g127_15, p127_15, g127_16, p127_16, g127_17, g127_18, g127_19, p127_19, g127_20, p127_20, g127_21, g127_22, g127_23, p127_23, g127_24, g127_25, g127_26, g127_27, g127_28, g127_29, p127_29, g127_30, p127_30, g127_31, g127_32, g127_33, p127_33, g127_34, p127_34, g127_35, p127_35, g127_36, p127_36, g127_37, g127_38, p127_38, g127_39, p127_39, g127_40, g127_41, g127_42, X_hasThing0 hb rfl hx]
    · unfold F_X12_seen
      simp only [if_pos q127, p11, ↓reduceIte, obs, Y_isThing0 hb cl_Z hx]
