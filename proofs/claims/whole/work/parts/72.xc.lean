/-! PURE: the class over a state told apart. -/
/-- the class's state holds A -/
def CS (m : Nat → Nat → Int32) (A : Nat → Int32) : Prop := (∀ t, t < 12 → m 5 t = A t ∧ m 3 t = A (12 + t) ∧ m 4 t = A (24 + t)) ∧ (∀ x, x < 5 → m 6 x = A (36 + x)) ∧ m 2 4 = A 41
def SoX (m : Nat → Nat → Int32) (A mu mn : Nat → Int32) (tc kc : Nat) : Prop := (∀ k, k < kc → m 9 k = nI (kset A mu mn tc k)) ∧ ∀ t, t < tc → m 10 t = nI (wt A mu mn kc t)
def Xc (μ : Mem) (A mu mn : Nat → Int32) (hc tc kc lm : Nat) : Prop := Tn μ hc tc kc lm ∧ CS μ.1 A ∧ Kx μ.1 mu mn kc ∧ SoX μ.1 A mu mn tc kc
theorem Bs.xc {μ : Mem} {hc tc kc lm B : Nat} (h : Bs μ hc tc kc lm B) : Xc μ (μ.1 128) (μ.1 129) (μ.1 130) hc tc kc lm :=
  ⟨h.1, ⟨fun t ht => ⟨h.tr ht, h.ow ht, h.ke ht⟩, fun x hx => h.co hx, h.hr⟩, h.2.2.1, h.2.2.2.2.2⟩
section CL
variable {κ : Kp} {μ : Mem} {A mu mn : Nat → Int32} {hc tc kc lm : Nat}
theorem Xc.b1 (h : Xc μ A mu mn hc tc kc lm) : 1 ≤ hc ∧ hc ≤ 5 := h.1.2.2.2.2.1
theorem Xc.b2 (h : Xc μ A mu mn hc tc kc lm) : tc ≤ 12 := h.1.2.2.2.2.2.1
theorem Xc.b3 (h : Xc μ A mu mn hc tc kc lm) : kc ≤ 6 := h.1.2.2.2.2.2.2.1
theorem Xc.b4 (h : Xc μ A mu mn hc tc kc lm) : 1 ≤ lm ∧ lm ≤ 4 := h.1.2.2.2.2.2.2.2
theorem kset_lt {k : Nat} (h : tc ≤ 12) : kset A mu mn tc k < 4096 := sb12 _ h
theorem Xc.of (h : Xc μ A mu mn hc tc kc lm) : Of μ (kset A mu mn tc) kc := fun k hk => ⟨h.2.2.2.1 k hk, kset_lt h.b2⟩
theorem C_kept (h : Xc μ A mu mn hc tc kc lm) (x : Int32) : F_X10_keptBy 1 x (hp κ μ) = some (nI (kp (fun t => A (24 + t)) tc x), hp κ μ) := by
  have e1 : kp (μ.1 4) tc x = kp (fun t => A (24 + t)) tc x := sb_cong (fun t ht => by have := h.b2; rw [(h.2.1.1 t (by omega)).2.2])
  rw [x_kept h.1, e1]
theorem C_owned (h : Xc μ A mu mn hc tc kc lm) (x : Int32) : F_X10_ownedBy 1 x (hp κ μ) = some (nI (kp (fun t => A (12 + t)) tc x), hp κ μ) := by
  have e1 : kp (μ.1 3) tc x = kp (fun t => A (12 + t)) tc x := sb_cong (fun t ht => by have := h.b2; rw [(h.2.1.1 t (by omega)).2.1])
  rw [x_owned h.1, e1]
theorem C_nobodys (h : Xc μ A mu mn hc tc kc lm) : F_X10_nobodys 1 (hp κ μ) = some (nI (kp (fun t => A (12 + t)) tc (-1)), hp κ μ) := by
  unfold F_X10_nobodys
  rw [if_pos q1, C_owned h]
  rfl
theorem C_broken (h : Xc μ A mu mn hc tc kc lm) {s : Nat} (hs : s < 4096) : F_X10_brokenIn 1 (nI s) (hp κ μ) = some (nI (bb A mu mn tc kc lm s), hp κ μ) := by
  rw [← bk_bb h.b2]
  exact x_brokenIn h.1 h.of hs
theorem C_breakers (h : Xc μ A mu mn hc tc kc lm) : F_X10_breakers 1 (hp κ μ) = some (nI (bh A mu mn hc tc kc lm), hp κ μ) := by
  rw [x_breakers h.1 h.of]
  congr 2
  refine congrArg nI (sb_cong (fun x _ => ?_))
  have e1 : sb (fun u => decide (μ.1 4 u = nI x)) tc = kp (fun t => A (24 + t)) tc (nI x) := sb_cong (fun t ht => by have := h.b2; rw [(h.2.1.1 t (by omega)).2.2])
  rw [e1, bk_bb h.b2]
theorem C_kindsOf (h : Xc μ A mu mn hc tc kc lm) {t : Nat} (ht : t < tc) : F_X10_kindsOf 1 (nI t) (hp κ μ) = some (nI (sb (fun k => io (A t) (mu k) (mn k)) kc), hp κ μ) := by
  have hO := h.of
  have t6 := h.b2
  have t7 := h.b3
  obtain ⟨t1, t2, t3, t4, -⟩ := h.1
  unfold F_X10_kindsOf
  rw [if_pos q1]
  refine lpk (fun n k => b_X10_kindsOf_4 1 (nI t) n (nI (sb (fun k => io (A t) (mu k) (mn k)) k)) (nI k) (hp κ μ)) kc _ ?_ ?_ bigN 0 (Nat.zero_le _) (by unfold bigN; omega)
  · intro n k hk
    (try dsimp only)
    rw [b_X10_kindsOf_4]
    have hks := kset_lt (A := A) (mu := mu) (mn := mn) (k := k) t6
    simp only [g1_7, t3, obs, g1_3, r9 (show k < 6 by omega), (hO k hk).1, if_neg (nI_ge hk (show kc < 2 ^ 31 by omega)), nI_1, i_bit (show kset A mu mn tc k < 2 ^ 31 by omega) (show t < 32 by omega)]
    have e1 : (kset A mu mn tc k).testBit t = io (A t) (mu k) (mn k) := by
      unfold kset
      rw [sb_bit]
      simp [ht]
    rw [e1]
    cases e2 : io (A t) (mu k) (mn k) with
    | true =>
      rw [if_pos rfl, i_sh1 k (by omega), i_or, sb_t e2]
    | false =>
      rw [if_neg (by decide)]
      have e3 : (0 : Int32) <<< (nI k &&& 31) = nI 0 := by
        have h9 := pk_shlN (n := 0) (nI k &&& 31) k (s_l k (by omega)) (by rw [Nat.zero_mul]; decide)
        rw [Nat.zero_mul] at h9
        exact h9
      rw [e3, i_or, Nat.or_zero, sb_f e2]
  · intro n
    (try dsimp only)
    rw [b_X10_kindsOf_4]
    simp only [g1_7, t3, obs, if_pos (nI_le (Nat.le_refl kc) (show kc < 2 ^ 31 by omega))]
theorem C_isLent (h : Xc μ A mu mn hc tc kc lm) {t : Nat} (ht : t < 12) : F_X10_isLent 1 (nI t) (hp κ μ) = some (if A (12 + t) = A (24 + t) then 0 else 1, hp κ μ) := by
  rw [x_isLent ht, (h.2.1.1 t ht).2.1, (h.2.1.1 t ht).2.2]
theorem C_hasHouse1 (h : Xc μ A mu mn hc tc kc lm) {j : Nat} (hj : j < hc) : F_X10_hasHouse 1 (nI j) (hp κ μ) = some (1, hp κ μ) := by
  rcases x_hasHouse h.1 (nI j) with ⟨i, _, _, h3⟩ | ⟨h1, _⟩
  · exact h3
  · exact absurd rfl (h1 j hj)
theorem C_hasHouse0 (h : Xc μ A mu mn hc tc kc lm) {x : Int32} (hx : ∀ j, j < hc → x ≠ nI j) : F_X10_hasHouse 1 x (hp κ μ) = some (0, hp κ μ) := by
  rcases x_hasHouse h.1 x with ⟨i, h1, h2, _⟩ | ⟨_, h2⟩
  · exact absurd h2 (hx i h1)
  · exact h2
theorem C_hasThing1 (h : Xc μ A mu mn hc tc kc lm) {j : Nat} (hj : j < tc) : F_X10_hasThing 1 (nI j) (hp κ μ) = some (1, hp κ μ) := by
  rcases x_hasThing h.1 (nI j) with ⟨i, _, _, h3⟩ | ⟨h1, _⟩
  · exact h3
  · exact absurd rfl (h1 j hj)
theorem C_hasThing0 (h : Xc μ A mu mn hc tc kc lm) {x : Int32} (hx : ∀ j, j < tc → x ≠ nI j) : F_X10_hasThing 1 x (hp κ μ) = some (0, hp κ μ) := by
  rcases x_hasThing h.1 x with ⟨i, h1, h2, _⟩ | ⟨_, h2⟩
  · exact absurd h2 (hx i h1)
  · exact h2
end CL
theorem ix_n {n : Nat} (hn : n ≤ 5000) (x : Int32) : (∃ j, j < n ∧ x = nI j) ∨ (∀ j, j < n → x ≠ nI j) := by
  rcases pk_ix x (n := n) (by omega) with h1 | h1 | h1
  · exact Or.inr (fun j hj e => by rw [e] at h1; exact nI_pos (by omega) h1)
  · exact Or.inr (fun j hj e => by rw [e] at h1; exact nI_ge hj (by omega) h1)
  · exact Or.inl h1
/-! loads: digits of 32 -/
def dg (d : Nat → Nat) (kc : Nat) : Nat := fb_sm (fun k => d k * 32 ^ k) kc
theorem dg_lt {d : Nat → Nat} : ∀ {n : Nat}, (∀ k, k < n → d k < 32) → dg d n < 32 ^ n
  | 0, _ => Nat.lt_add_one 0
  | n + 1, h => by
    have h1 := dg_lt (d := d) (n := n) (fun k hk => h k (by omega))
    have h2 := h n (by omega)
    unfold dg at h1 ⊢
    rw [fb_sm_succ, Nat.pow_succ]
    have h3 : d n * 32 ^ n ≤ 31 * 32 ^ n := Nat.mul_le_mul_right _ (by omega)
    omega
theorem dg_add (d e : Nat → Nat) (n : Nat) : dg d n + dg e n = dg (fun k => d k + e k) n := by
  unfold dg
  rw [← fb_sm_add]
  exact fb_sm_cong (fun k _ => (Nat.add_mul _ _ _).symm)
theorem dg_dig {d : Nat → Nat} : ∀ {n : Nat}, (∀ k, k < n → d k < 32) → ∀ k, k < n → dg d n / 32 ^ k % 32 = d k
  | 0, _, k, hk => absurd hk (by omega)
  | n + 1, h, k, hk => by
    have h1 := dg_lt (d := d) (n := n) (fun k hk => h k (by omega))
    have e : dg d (n + 1) = dg d n + d n * 32 ^ n := rfl
    rw [e]
    by_cases c : k = n
    · subst c
      rw [Nat.add_mul_div_right _ _ (Nat.pow_pos (by decide)), Nat.div_eq_of_lt h1, Nat.zero_add, Nat.mod_eq_of_lt (h k hk)]
    · have h2 := dg_dig (d := d) (n := n) (fun k hk => h k (by omega)) k (by omega)
      have e2 : d n * 32 ^ n = (d n * 32 ^ (n - k)) * 32 ^ k := by
        rw [Nat.mul_assoc, ← Nat.pow_add]
        congr 2
        omega
      rw [e2, Nat.add_mul_div_right _ _ (Nat.pow_pos (by decide))]
      have e3 : d n * 32 ^ (n - k) = (d n * 32 ^ (n - k - 1)) * 32 := by
        rw [Nat.mul_assoc, ← Nat.pow_succ]
        congr 2
        omega
      rw [e3, Nat.add_mul_mod_self_right, h2]
theorem dg_bit {d : Nat → Nat} {n k : Nat} (h : ∀ k, k < n → d k < 32) (hk : k < n) : (dg d n).testBit (5 * k + 4) = decide (16 ≤ d k) := by
  have h1 := dg_dig h k hk
  have h2 := h k hk
  rw [Nat.testBit_eq_decide_div_mod_eq]
  have e : 2 ^ (5 * k + 4) = 32 ^ k * 16 := by rw [Nat.pow_add, Nat.pow_mul]
  rw [e, ← Nat.div_div_eq_div_mul]
  have h3 : dg d n / 32 ^ k / 16 % 2 = (dg d n / 32 ^ k % 32) / 16 := by omega
  rw [h3, h1]
  by_cases c : 16 ≤ d k
  · have : d k / 16 = 1 := by omega
    simp [this, c]
  · have : d k / 16 = 0 := by omega
    simp [this, c]
theorem ov_bit : ∀ i, i < 32 → (554189328 : Nat).testBit i = (decide (i % 5 = 4) && decide (i < 30)) := by decide +kernel
theorem dg_over {d : Nat → Nat} {n : Nat} (hn : n ≤ 6) (h : ∀ k, k < n → d k < 32) : (dg d n &&& 554189328 = 0) ↔ ∀ k, k < n → d k < 16 := by
  constructor
  · intro h0 k hk
    have h1 : (dg d n &&& 554189328).testBit (5 * k + 4) = false := by rw [h0]; exact Nat.zero_testBit _
    rw [Nat.testBit_and, dg_bit h hk, ov_bit _ (by omega)] at h1
    have e1 : (5 * k + 4) % 5 = 4 := by omega
    have e2 : 5 * k + 4 < 30 := by omega
    simp [e1, e2] at h1
    exact h1
  · intro h0
    apply Nat.eq_of_testBit_eq
    intro i
    rw [Nat.testBit_and, Nat.zero_testBit]
    by_cases c : i < 32
    · rw [ov_bit i c]
      by_cases c1 : i % 5 = 4 ∧ i < 30
      · have e : i = 5 * (i / 5) + 4 := by omega
        by_cases c2 : i / 5 < n
        · rw [e, dg_bit h c2]
          have := h0 _ c2
          simp [show ¬ 16 ≤ d (i / 5) by omega]
        · have h3 : dg d n < 2 ^ i := by
            have h4 := dg_lt h
            have e5 : 32 ^ n = 2 ^ (5 * n) := by rw [Nat.pow_mul]
            rw [e5] at h4
            exact Nat.lt_of_lt_of_le h4 (Nat.pow_le_pow_right (by decide) (by omega))
          rw [Nat.testBit_lt_two_pow h3, Bool.false_and]
      · have : (decide (i % 5 = 4) && decide (i < 30)) = false := by
          rw [Bool.and_eq_false_iff]
          by_cases c2 : i % 5 = 4
          · exact Or.inr (decide_eq_false (fun z => c1 ⟨c2, z⟩))
          · exact Or.inl (decide_eq_false c2)
        rw [this, Bool.and_false]
    · have h3 : (554189328 : Nat) < 2 ^ i := Nat.lt_of_lt_of_le (show 554189328 < 2 ^ 30 by decide) (Nat.pow_le_pow_right (by decide) (by omega))
      rw [Nat.testBit_lt_two_pow h3, Bool.and_false]
section LD
variable {κ : Kp} {μ : Mem} {A mu mn : Nat → Int32} {hc tc kc lm : Nat}
theorem wt_dg (A mu mn : Nat → Int32) (kc t : Nat) : wt A mu mn kc t = dg (fun k => if io (A t) (mu k) (mn k) then 1 else 0) kc := by
  unfold wt dg
  refine fb_sm_cong (fun k _ => ?_)
  show (if io (A t) (mu k) (mn k) = true then 32 ^ k else 0) = (if io (A t) (mu k) (mn k) = true then 1 else 0) * 32 ^ k
  split
  · rw [Nat.one_mul]
  · rw [Nat.zero_mul]
/-- a thing may come to a house with the digits d -/
def okt (A mu mn : Nat → Int32) (kc : Nat) (d : Nat → Nat) (t : Nat) : Bool := (List.range kc).all fun k => !(io (A t) (mu k) (mn k)) || decide (d k < 15)
theorem okt_iff {d : Nat → Nat} {t : Nat} : okt A mu mn kc d t = true ↔ ∀ k, k < kc → io (A t) (mu k) (mn k) = true → d k < 15 := by
  unfold okt
  rw [List.all_eq_true]
  constructor
  · intro h k hk hi
    have := h k (List.mem_range.mpr hk)
    rw [hi] at this
    simpa using this
  · intro h k hk
    have hk := List.mem_range.mp hk
    cases c : io (A t) (mu k) (mn k) with
    | false => rfl
    | true => simpa using h k hk c
theorem C_fits (h : Xc μ A mu mn hc tc kc lm) {d : Nat → Nat} (hd : ∀ k, k < kc → d k ≤ 15) {t : Nat} (ht : t < tc) : F_X10_fits 1 (nI (dg d kc)) (nI t) (hp κ μ) = some (if okt A mu mn kc d t then 1 else 0, hp κ μ) := by
  have b2 := h.b2
  have b3 := h.b3
  unfold F_X10_fits
  have e1 : μ.1 10 t = nI (wt A mu mn kc t) := h.2.2.2.2 t ht
  rw [if_pos q1, g1_4, obs, r10 (by omega), obs, e1, wt_dg, nI_add, dg_add, show (554189328 : Int32) = nI 554189328 from rfl, i_and]
  have hlt : ∀ k, k < kc → d k + (if io (A t) (mu k) (mn k) then 1 else 0) < 32 := fun k hk => by have := hd k hk; split <;> omega
  have hov := dg_over b3 hlt
  have hsm : dg (fun k => d k + (if io (A t) (mu k) (mn k) then 1 else 0)) kc &&& 554189328 < 2 ^ 31 := and_r (by decide)
  have hc1 : (okt A mu mn kc d t = true) ↔ ∀ k, k < kc → d k + (if io (A t) (mu k) (mn k) then 1 else 0) < 16 := by
    rw [okt_iff]
    constructor
    · intro h k hk
      have h1 := hd k hk
      have h2 := h k hk
      split
      next c => have := h2 c; omega
      · omega
    · intro h k hk c
      have h1 := h k hk
      rw [if_pos c] at h1
      omega
  by_cases c : okt A mu mn kc d t = true
  · rw [if_pos c, if_pos (by rw [hov.mpr (hc1.mp c)]; rfl)]
  · rw [if_neg c, if_neg (fun z => c (hc1.mpr (hov.mp ((i_eq0 hsm).mp z))))]
/-- how full of each kind: these things -/
def ld (A mu mn : Nat → Int32) (tc lm s : Nat) (k : Nat) : Nat := 15 - (lm - mo A mu mn tc s k)
theorem dg_or {d : Nat → Nat} {k : Nat} (h : ∀ j, j < k → d j < 32) : dg d k ||| d k * 2 ^ (5 * k) = dg d (k + 1) := by
  have h1 := dg_lt h
  have e : 32 ^ k = 2 ^ (5 * k) := by rw [Nat.pow_mul]
  rw [e] at h1
  have h3 := Nat.two_pow_add_eq_or_of_lt h1 (d k)
  rw [Nat.or_comm, Nat.mul_comm (d k), ← h3]
  unfold dg
  rw [fb_sm_succ, e, Nat.mul_comm (d k)]
  omega
theorem C_load (h : Xc μ A mu mn hc tc kc lm) {s : Nat} (hs : s < 4096) : F_X10_loadOf 1 (nI s) (hp κ μ) = some (nI (dg (ld A mu mn tc lm s) kc), hp κ μ) := by
  have hO := h.of
  have t6 := h.b2
  have t7 := h.b3
  have t8 := h.b4
  obtain ⟨t1, t2, t3, t4, -⟩ := h.1
  have hl : ∀ k, ld A mu mn tc lm s k < 32 := fun k => by unfold ld; omega
  unfold F_X10_loadOf
  rw [if_pos q1]
  refine lpk (fun n k => b_X10_loadOf_4 1 (nI s) n (nI (dg (ld A mu mn tc lm s) k)) (nI k) (hp κ μ)) kc _ ?_ ?_ bigN 0 (Nat.zero_le _) (by unfold bigN; omega)
  · intro n k hk
    (try dsimp only)
    rw [b_X10_loadOf_4]
    have hks := kset_lt (A := A) (mu := mu) (mn := mn) (k := k) t6
    have e5 : (5 : Int32) * nI k = nI (5 * k) := pk_mul 5 k
    have hmo : mo A mu mn tc s k ≤ 12 := Nat.le_trans (mo_le _ _ _ _ _ _) t6
    have e6 : (15 : Int32) - (if 0 < nI lm - nI (mo A mu mn tc s k) then nI lm - nI (mo A mu mn tc s k) else 0) = nI (ld A mu mn tc lm s k) := by
      unfold ld
      by_cases c : mo A mu mn tc s k < lm
      · have e7 : nI lm - nI (mo A mu mn tc s k) = nI (lm - mo A mu mn tc s k) := pk_sub (by omega)
        rw [e7, if_pos (show (0 : Int32) < nI (lm - mo A mu mn tc s k) from nI_lt (a := 0) (Nat.sub_pos_of_lt c) (by omega))]
        exact pk_sub (a := 15) (by omega)
      · have e8 : lm - mo A mu mn tc s k = 0 := by omega
        rw [e8, if_neg]
        · rfl
        · intro z
          rw [fa_lt, pk_sub_toInt (by omega) (by omega)] at z
          have : (0 : Int32).toInt = 0 := rfl
          omega
    simp only [g1_7, t3, obs, if_neg (nI_ge hk (show kc < 2 ^ 31 by omega)), g1_8, t4, g1_3, r9 (show k < 6 by omega), (hO k hk).1, i_and, bc (show s &&& kset A mu mn tc k < 4096 from and_l hs), cn_kset t6, e5, nI_1]
    rw [e6, pk_shlN _ (5 * k) (s_l (5 * k) (by omega)) (by
      have h9 : 2 ^ (5 * k) ≤ 2 ^ 25 := Nat.pow_le_pow_right (by decide) (by omega)
      have h8 : ld A mu mn tc lm s k * 2 ^ (5 * k) ≤ 15 * 2 ^ 25 := Nat.mul_le_mul (by unfold ld; omega) h9
      omega), i_or, dg_or (fun j _ => hl j)]
  · intro n
    (try dsimp only)
    rw [b_X10_loadOf_4]
    simp only [g1_7, t3, obs, if_pos (nI_le (Nat.le_refl kc) (show kc < 2 ^ 31 by omega))]
end LD
