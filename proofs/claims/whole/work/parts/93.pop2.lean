/-! PURE: how many bits a long has, 2. -/
theorem uN_and (x y : Int64) : uN (x &&& y) = uN x &&& uN y := by
  unfold uN
  rw [Int64.toUInt64_and, UInt64.toNat_and]
theorem uN_sub {x y : Int64} (h : uN y ≤ uN x) : uN (x - y) = uN x - uN y := by
  have h1 : uN (x - y + y) = uN x := by rw [Int64.sub_add_cancel]
  rw [uN_add] at h1
  have h2 := uN_lt (x - y)
  have h3 := uN_lt x
  have h4 := uN_lt y
  omega
theorem uN_lN {n : Nat} (h : n < 18446744073709551616) : uN (lN n) = n := by
  unfold uN
  show (lN n).toBitVec.toNat = n
  exact lN_nat h
def j1 (x : Int64) : Int64 := x - ((x.toUInt64 >>> ((nI 1).toInt64.toUInt64 &&& Int64.toUInt64 63)).toInt64 &&& lN 6148914691236517205)
def j2 (x : Int64) : Int64 := (x &&& lN 3689348814741910323) + ((x.toUInt64 >>> ((nI 2).toInt64.toUInt64 &&& Int64.toUInt64 63)).toInt64 &&& lN 3689348814741910323)
def j3 (x : Int64) : Int64 := (x + (x.toUInt64 >>> ((nI 4).toInt64.toUInt64 &&& Int64.toUInt64 63)).toInt64) &&& lN 1085102592571150095
def j4 (k : Nat) (x : Int64) : Int64 := x + (x.toUInt64 >>> ((nI k).toInt64.toUInt64 &&& Int64.toUInt64 63)).toInt64
theorem J13_e (x : Int64) (h : ci_H) : F_J13_bitCount_95d88 x h = some ((j4 32 (j4 16 (j4 8 (j3 (j2 (j1 x)))))).toInt32 &&& 127, h) := rfl
theorem mk85 : mk 85 8 = 6148914691236517205 := by decide +kernel
theorem mk51 : mk 51 8 = 3689348814741910323 := by decide +kernel
theorem mk15 : mk 15 8 = 1085102592571150095 := by decide +kernel
theorem u_j1 (x : Int64) : uN (j1 x) = s1 8 (uN x) := by
  unfold j1 s1
  have e : uN ((x.toUInt64 >>> ((nI 1).toInt64.toUInt64 &&& Int64.toUInt64 63)).toInt64 &&& lN 6148914691236517205) = uN x / 2 &&& mk 85 8 := by
    rw [uN_and, uN_sk x (by decide), uN_lN (by decide), mk85]
  have h : uN x / 2 &&& mk 85 8 ≤ uN x / 2 := Nat.and_le_left
  rw [uN_sub (by rw [e]; omega), e]
theorem u_j2 (x : Int64) : uN (j2 x) = s2 8 (uN x) := by
  unfold j2 s2
  have e : uN ((x.toUInt64 >>> ((nI 2).toInt64.toUInt64 &&& Int64.toUInt64 63)).toInt64 &&& lN 3689348814741910323) = uN x / 4 &&& mk 51 8 := by
    rw [uN_and, uN_sk x (by decide), uN_lN (by decide), mk51]
  rw [uN_add, e, uN_and, uN_lN (by decide), ← mk51, Nat.mod_eq_of_lt]
  have h1 : uN x &&& mk 51 8 ≤ mk 51 8 := Nat.and_le_right
  have h2 : uN x / 4 &&& mk 51 8 ≤ mk 51 8 := Nat.and_le_right
  have h3 := mk51
  omega
theorem s2_le (k x : Nat) : s2 k x ≤ 2 * mk 51 k := by
  unfold s2
  have h1 : x &&& mk 51 k ≤ mk 51 k := Nat.and_le_right
  have h2 : x / 4 &&& mk 51 k ≤ mk 51 k := Nat.and_le_right
  omega
theorem u_j3 (x : Int64) (h : uN x ≤ 2 * mk 51 8) : uN (j3 x) = s3 8 (uN x) := by
  unfold j3 s3
  have h3 := mk51
  rw [uN_and, uN_add, uN_sk x (by decide), uN_lN (by decide), mk15, Nat.mod_eq_of_lt]
  show uN x + uN x / 16 < _
  omega
theorem u_j4 (x : Int64) {k : Nat} (hk : k < 64) (h : uN x + uN x / 2 ^ k < 18446744073709551616) : uN (j4 k x) = uN x + uN x / 2 ^ k := by
  unfold j4
  rw [uN_add, uN_sk x hk, Nat.mod_eq_of_lt h]
theorem toI32_and (x : Int64) : x.toInt32 &&& 127 = nI (uN x % 128) := by
  obtain ⟨n, hn, rfl⟩ := wb_of x
  rw [lN_i, show (127 : Int32) = nI 127 from rfl, i_and, uN_lN hn]
  have := Nat.and_two_pow_sub_one_eq_mod n 7
  rw [show 2 ^ 7 - 1 = 127 from rfl, show 2 ^ 7 = 128 from rfl] at this
  rw [this]
theorem pop64 (x : Int64) (h : ci_H) : F_J13_bitCount_95d88 x h = some (nI (fb_ct (uN x).testBit 64), h) := by
  have e3 : uN (j3 (j2 (j1 x))) = pD 8 (uN x) := by
    rw [u_j3 _ (by rw [u_j2]; exact s2_le _ _), u_j2, u_j1, s3_D]
  have hm : ∀ n, p3 (n % 256) ≤ 8 := fun n => p3_le _ (Nat.mod_lt _ (by decide))
  obtain ⟨f1, f2, f3, f4⟩ := fold8 (hm (uN x)) (hm (uN x / 256)) (hm (uN x / 256 / 256)) (hm (uN x / 256 / 256 / 256)) (hm (uN x / 256 / 256 / 256 / 256)) (hm (uN x / 256 / 256 / 256 / 256 / 256)) (hm (uN x / 256 / 256 / 256 / 256 / 256 / 256)) (hm (uN x / 256 / 256 / 256 / 256 / 256 / 256 / 256)) _ _ _ rfl rfl rfl
  have eD : pD 8 (uN x) = p3 (uN x % 256) + 256 * (p3 (uN x / 256 % 256) + 256 * (p3 (uN x / 256 / 256 % 256) + 256 * (p3 (uN x / 256 / 256 / 256 % 256) + 256 * (p3 (uN x / 256 / 256 / 256 / 256 % 256) + 256 * (p3 (uN x / 256 / 256 / 256 / 256 / 256 % 256) + 256 * (p3 (uN x / 256 / 256 / 256 / 256 / 256 / 256 % 256) + 256 * (p3 (uN x / 256 / 256 / 256 / 256 / 256 / 256 / 256 % 256) + 256 * 0))))))) := rfl
  have eP : pP 8 (uN x) = p3 (uN x % 256) + (p3 (uN x / 256 % 256) + (p3 (uN x / 256 / 256 % 256) + (p3 (uN x / 256 / 256 / 256 % 256) + (p3 (uN x / 256 / 256 / 256 / 256 % 256) + (p3 (uN x / 256 / 256 / 256 / 256 / 256 % 256) + (p3 (uN x / 256 / 256 / 256 / 256 / 256 / 256 % 256) + (p3 (uN x / 256 / 256 / 256 / 256 / 256 / 256 / 256 % 256) + 0))))))) := rfl
  rw [← eD] at f1 f2 f3 f4
  rw [← eP, pP_ct] at f1
  have e8 : uN (j4 8 (j3 (j2 (j1 x)))) = pD 8 (uN x) + pD 8 (uN x) / 256 := by
    rw [u_j4 _ (by decide) (by rw [e3]; exact f3), e3]
  have e16 : uN (j4 16 (j4 8 (j3 (j2 (j1 x))))) = (pD 8 (uN x) + pD 8 (uN x) / 256) + (pD 8 (uN x) + pD 8 (uN x) / 256) / 65536 := by
    rw [u_j4 _ (by decide) (by rw [e8]; exact f4), e8]
  have e32 : uN (j4 32 (j4 16 (j4 8 (j3 (j2 (j1 x)))))) = ((pD 8 (uN x) + pD 8 (uN x) / 256) + (pD 8 (uN x) + pD 8 (uN x) / 256) / 65536) + ((pD 8 (uN x) + pD 8 (uN x) / 256) + (pD 8 (uN x) + pD 8 (uN x) / 256) / 65536) / 4294967296 := by
    rw [u_j4 _ (by decide) (by rw [e16]; exact f2), e16]
  rw [J13_e, toI32_and, e32, f1]
