/-! PURE: bitCount, highestOneBit, numberOfTrailingZeros of small sets. -/
def jbc (x : Int32) : Int32 := ((F_J6_bitCount_0f7a4 x ct_h0).map (fun q => q.1)).getD 0
theorem jbc_F (x : Int32) (h : ci_H) : F_J6_bitCount_0f7a4 x h = some (jbc x, h) := rfl
set_option maxRecDepth 100000 in
theorem jbc_s : ∀ s, s < 4096 → jbc (nI s) = nI (cn s) := by decide +kernel
theorem bc {s : Nat} (hs : s < 4096) (h : ci_H) : F_J6_bitCount_0f7a4 (nI s) h = some (nI (cn s), h) := by rw [jbc_F, jbc_s s hs]
theorem jlz_h (x : Int32) (h : ci_H) : F_J6_numberOfLeadingZeros_0f7a4 x h = (F_J6_numberOfLeadingZeros_0f7a4 x ct_h0).map (fun q => (q.1, h)) := by
  unfold F_J6_numberOfLeadingZeros_0f7a4 b_J6_numberOfLeadingZeros_0f7a4_33 b_J6_numberOfLeadingZeros_0f7a4_48 b_J6_numberOfLeadingZeros_0f7a4_61 b_J6_numberOfLeadingZeros_0f7a4_73
  repeat' split
  all_goals rfl
theorem jho_h (x : Int32) (h : ci_H) : F_J6_highestOneBit_0f7a4 x h = (F_J6_highestOneBit_0f7a4 x ct_h0).map (fun q => (q.1, h)) := by
  unfold F_J6_highestOneBit_0f7a4
  rw [jlz_h x h]
  cases e : F_J6_numberOfLeadingZeros_0f7a4 x ct_h0 with
  | none => rfl
  | some q => rfl
/-- the greatest one, as a set -/
def hb (s : Nat) : Nat := if s = 0 then 0 else 2 ^ s.log2
set_option maxRecDepth 100000 in
theorem jho_s : ∀ s, s < 4096 → (F_J6_highestOneBit_0f7a4 (nI s) ct_h0).map (fun q => q.1) = some (nI (hb s)) := by decide +kernel
theorem ho {s : Nat} (hs : s < 4096) (h : ci_H) : F_J6_highestOneBit_0f7a4 (nI s) h = some (nI (hb s), h) := by
  rw [jho_h]
  have h1 := jho_s s hs
  cases e : F_J6_highestOneBit_0f7a4 (nI s) ct_h0 with
  | none => rw [e] at h1; cases h1
  | some q => rw [e] at h1; have h1 : q.1 = _ := Option.some.inj h1; rw [← h1]; rfl
theorem jtz_h (x : Int32) (h : ci_H) : F_J6_numberOfTrailingZeros_0f7a4 x h = (F_J6_numberOfTrailingZeros_0f7a4 x ct_h0).map (fun q => (q.1, h)) := by
  unfold F_J6_numberOfTrailingZeros_0f7a4 b_J6_numberOfTrailingZeros_0f7a4_34 b_J6_numberOfTrailingZeros_0f7a4_49 b_J6_numberOfTrailingZeros_0f7a4_62 b_J6_numberOfTrailingZeros_0f7a4_74
  repeat' split
  all_goals rfl
theorem jtz_s : ∀ k, k < 12 → (F_J6_numberOfTrailingZeros_0f7a4 (nI (2 ^ k)) ct_h0).map (fun q => q.1) = some (nI k) := by decide +kernel
theorem tz {k : Nat} (hk : k < 12) (h : ci_H) : F_J6_numberOfTrailingZeros_0f7a4 (nI (2 ^ k)) h = some (nI k, h) := by
  rw [jtz_h]
  have h1 := jtz_s k hk
  cases e : F_J6_numberOfTrailingZeros_0f7a4 (nI (2 ^ k)) ct_h0 with
  | none => rw [e] at h1; cases h1
  | some q => rw [e] at h1; have h1 : q.1 = _ := Option.some.inj h1; rw [← h1]; rfl
theorem hb_pos {s : Nat} (h : s ≠ 0) : hb s = 2 ^ s.log2 := if_neg h
theorem cn_le (s : Nat) : cn s ≤ 12 := fb_ct_le _ _
theorem cn_0 : cn 0 = 0 := by decide
/-- a count over a set that a property makes -/
theorem cn_and {s tc : Nat} (htc : tc ≤ 12) (p : Nat → Bool) : cn (s &&& sb p tc) = fb_ct (fun t => s.testBit t && p t) tc := by
  unfold cn
  have h1 : fb_ct (s &&& sb p tc).testBit 12 = fb_ct (fun t => s.testBit t && (decide (t < tc) && p t)) 12 := fb_ct_cong (fun k _ => by rw [Nat.testBit_and, sb_bit])
  rw [h1, show 12 = tc + (12 - tc) by omega, fb_ct_split]
  have h2 : fb_ct (fun k => s.testBit (tc + k) && (decide (tc + k < tc) && p (tc + k))) (12 - tc) = 0 := fb_ct_zero.mpr (fun k _ => by
    have : ¬ tc + k < tc := by omega
    simp [this])
  rw [h2, Nat.add_zero]
  exact fb_ct_cong (fun k hk => by simp [hk])
theorem cn_sb {tc : Nat} (htc : tc ≤ 12) (p : Nat → Bool) : cn (sb p tc) = fb_ct p tc := by
  have h := cn_and (s := 4095) htc p
  have e : 4095 &&& sb p tc = sb p tc := by
    have : (4095 : Nat) = 2 ^ 12 - 1 := rfl
    rw [Nat.and_comm, this, Nat.and_two_pow_sub_one_eq_mod, Nat.mod_eq_of_lt (sb_le p htc)]
  rw [e] at h
  rw [h]
  refine fb_ct_cong (fun k hk => ?_)
  have h4 : ∀ k, k < 12 → (4095 : Nat).testBit k = true := by decide
  rw [h4 k (by omega), Bool.true_and]
