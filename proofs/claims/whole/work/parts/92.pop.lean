/-! PURE: how many bits a long has. -/
theorem and_sp {b c m d : Nat} (hb : b < 256) (hc : c < 256) : (b + 256 * m) &&& (c + 256 * d) = (b &&& c) + 256 * (m &&& d) := by
  apply Nat.eq_of_testBit_eq
  intro i
  have hbc : b &&& c < 2 ^ 8 := and_l hb
  rw [Nat.testBit_and, Nat.add_comm b, Nat.add_comm c, Nat.add_comm (b &&& c), show (256 : Nat) = 2 ^ 8 from rfl, Nat.testBit_two_pow_mul_add m hb, Nat.testBit_two_pow_mul_add d hc, Nat.testBit_two_pow_mul_add (m &&& d) hbc]
  by_cases h : i < 8
  · rw [if_pos h, if_pos h, if_pos h, Nat.testBit_and]
  · rw [if_neg h, if_neg h, if_neg h, Nat.testBit_and]
def mk (c : Nat) : Nat → Nat
  | 0 => 0
  | k + 1 => c + 256 * mk c k
def p1 (b : Nat) : Nat := b - (b / 2 &&& 85)
def p2 (b : Nat) : Nat := (p1 b &&& 51) + (p1 b / 4 &&& 51)
def p3 (b : Nat) : Nat := p2 b / 16 + p2 b % 16
def s1 (k n : Nat) : Nat := n - (n / 2 &&& mk 85 k)
def s2 (k x : Nat) : Nat := (x &&& mk 51 k) + (x / 4 &&& mk 51 k)
def s3 (k y : Nat) : Nat := (y + y / 16) &&& mk 15 k
theorem bt1 : ∀ b, b < 256 → ∀ r, r < 2 → (b / 2 + 128 * r) &&& 85 = b / 2 &&& 85 ∧ b / 2 &&& 85 ≤ b := by decide +kernel
theorem bt2 : ∀ b, b < 256 → ∀ r, r < 4 → (b / 4 + 64 * r) &&& 51 = b / 4 &&& 51 := by decide +kernel
theorem bt3 : ∀ b, b < 256 → ∀ r, r < 5 → (p2 b + p2 b / 16 + 16 * r) &&& 15 = p3 b ∧ p2 b + p2 b / 16 + 16 * r < 256 ∧ p2 b % 16 ≤ 4 ∧ p3 b ≤ 8 := by decide +kernel
theorem s1_s {k b m : Nat} (hb : b < 256) : s1 (k + 1) (b + 256 * m) = p1 b + 256 * s1 k m := by
  show (b + 256 * m) - ((b + 256 * m) / 2 &&& (85 + 256 * mk 85 k)) = (b - (b / 2 &&& 85)) + 256 * (m - (m / 2 &&& mk 85 k))
  have e : (b + 256 * m) / 2 = (b / 2 + 128 * (m % 2)) + 256 * (m / 2) := by omega
  obtain ⟨h1, h2⟩ := bt1 b hb (m % 2) (Nat.mod_lt _ (by decide))
  rw [e, and_sp (by omega) (by decide), h1]
  have h3 : m / 2 &&& mk 85 k ≤ m / 2 := Nat.and_le_left
  omega
theorem p1_lt {b : Nat} (hb : b < 256) : p1 b < 256 := by unfold p1; omega
theorem s2_s {k b m : Nat} (hb : b < 256) : s2 (k + 1) (b + 256 * m) = ((b &&& 51) + (b / 4 &&& 51)) + 256 * s2 k m := by
  show ((b + 256 * m) &&& (51 + 256 * mk 51 k)) + ((b + 256 * m) / 4 &&& (51 + 256 * mk 51 k)) = ((b &&& 51) + (b / 4 &&& 51)) + 256 * ((m &&& mk 51 k) + (m / 4 &&& mk 51 k))
  have e : (b + 256 * m) / 4 = (b / 4 + 64 * (m % 4)) + 256 * (m / 4) := by omega
  have h1 := bt2 b hb (m % 4) (Nat.mod_lt _ (by decide))
  rw [e, and_sp hb (by decide), and_sp (by omega) (by decide), h1]
  omega
theorem s12_s {k b m : Nat} (hb : b < 256) : s2 (k + 1) (s1 (k + 1) (b + 256 * m)) = p2 b + 256 * s2 k (s1 k m) := by
  rw [s1_s hb, s2_s (p1_lt hb)]
  rfl
theorem s12_n : ∀ k m, s2 k (s1 k m) % 16 ≤ 4
  | 0, m => by
    have : s2 0 (s1 0 m) = 0 := by
      show (s1 0 m &&& 0) + (s1 0 m / 4 &&& 0) = 0
      rw [Nat.and_zero, Nat.and_zero]
    rw [this]
    decide
  | k + 1, m => by
    have e : m = m % 256 + 256 * (m / 256) := by omega
    rw [e, s12_s (Nat.mod_lt _ (by decide))]
    have h := (bt3 (m % 256) (Nat.mod_lt _ (by decide)) 0 (by decide)).2.2.1
    omega
def pD : Nat → Nat → Nat
  | 0, _ => 0
  | k + 1, n => p3 (n % 256) + 256 * pD k (n / 256)
theorem s3_D : ∀ k n, s3 k (s2 k (s1 k n)) = pD k n
  | 0, n => by
    show _ &&& 0 = 0
    rw [Nat.and_zero]
  | k + 1, n => by
    have e : n = n % 256 + 256 * (n / 256) := by omega
    have hm := Nat.mod_lt n (show 0 < 256 by decide)
    have ih := s3_D k (n / 256)
    have hn := s12_n k (n / 256)
    have e1 : s2 (k + 1) (s1 (k + 1) n) = p2 (n % 256) + 256 * s2 k (s1 k (n / 256)) := by
      have h := s12_s (k := k) (b := n % 256) (m := n / 256) hm
      rw [← e] at h
      exact h
    rw [e1]
    obtain ⟨h1, h2, -, -⟩ := bt3 (n % 256) hm (s2 k (s1 k (n / 256)) % 16) (by omega)
    generalize s2 k (s1 k (n / 256)) = Y at ih hn h1 h2
    unfold s3 at ih ⊢
    have e2 : (p2 (n % 256) + 256 * Y) + (p2 (n % 256) + 256 * Y) / 16 = (p2 (n % 256) + p2 (n % 256) / 16 + 16 * (Y % 16)) + 256 * (Y + Y / 16) := by omega
    rw [e2]
    show _ &&& (15 + 256 * mk 15 k) = p3 (n % 256) + 256 * pD k (n / 256)
    rw [and_sp h2 (by decide), h1, ih]
def pP : Nat → Nat → Nat
  | 0, _ => 0
  | k + 1, n => p3 (n % 256) + pP k (n / 256)
theorem p3_le (b : Nat) (hb : b < 256) : p3 b ≤ 8 := (bt3 b hb 0 (by decide)).2.2.2
theorem dv_sp {lo hi d : Nat} (h0 : 0 < d) (h : lo < d) : (lo + d * hi) / d = hi := by
  rw [Nat.add_mul_div_left _ _ h0, Nat.div_eq_of_lt h, Nat.zero_add]
theorem f8a {a b c B C D : Nat} (hB : B = b + 256 * C) (hC : C = c + 256 * D) : (a + 256 * B) + B = (a + b + 256 * (b + c)) + 65536 * (C + D) := by omega
theorem f8b {c d e C D E F : Nat} (hC : C = c + 256 * D) (hD : D = d + 256 * E) (hE : E = e + 256 * F) : C + D = (c + d + 256 * (d + e)) + 65536 * (E + F) := by omega
theorem f8c {l m S T U : Nat} (h1 : S = m + 65536 * T) : (l + 65536 * S) + S = (l + 65536 * m + m + 65536 * T) + 4294967296 * T := by omega
theorem f8d {x T n U : Nat} (h : T = n + 65536 * U) : (x + 65536 * T) + 4294967296 * T = (x + 65536 * n) + 4294967296 * (T + U) := by omega
theorem f8e {e f g h E F G H : Nat} (hE : E = e + 256 * F) (hF : F = f + 256 * G) (hG : G = g + 256 * H) (hH : H = h) : E + F + (G + H) = (e + f + g + h) + 256 * (F + G + H) := by omega
theorem f8f {x e y z w : Nat} : (x + 256 * y + 4294967296 * z) + (e + 256 * w) = (x + e) + 128 * (2 * y + 33554432 * z + 2 * w) := by omega
theorem fold8 {a b c d e f g h : Nat} (ha : a ≤ 8) (hb : b ≤ 8) (hc : c ≤ 8) (hd : d ≤ 8) (he : e ≤ 8) (hf : f ≤ 8) (hg : g ≤ 8) (hh : h ≤ 8) (i j k : Nat) (hi : i = a + 256 * (b + 256 * (c + 256 * (d + 256 * (e + 256 * (f + 256 * (g + 256 * (h + 256 * 0)))))))) (hj : j = i + i / 256) (hk : k = j + j / 65536) : (k + k / 4294967296) % 128 = a + (b + (c + (d + (e + (f + (g + (h + 0))))))) ∧ k + k / 4294967296 < 18446744073709551616 ∧ j < 18446744073709551616 ∧ k < 18446744073709551616 := by
  obtain ⟨H, hH⟩ : ∃ H, H = h + 256 * 0 := ⟨_, rfl⟩
  rw [← hH] at hi
  obtain ⟨G, hG⟩ : ∃ G, G = g + 256 * H := ⟨_, rfl⟩
  rw [← hG] at hi
  obtain ⟨F, hF⟩ : ∃ F, F = f + 256 * G := ⟨_, rfl⟩
  rw [← hF] at hi
  obtain ⟨E, hE⟩ : ∃ E, E = e + 256 * F := ⟨_, rfl⟩
  rw [← hE] at hi
  obtain ⟨D, hD⟩ : ∃ D, D = d + 256 * E := ⟨_, rfl⟩
  rw [← hD] at hi
  obtain ⟨C, hC⟩ : ∃ C, C = c + 256 * D := ⟨_, rfl⟩
  rw [← hC] at hi
  obtain ⟨B, hB⟩ : ∃ B, B = b + 256 * C := ⟨_, rfl⟩
  rw [← hB] at hi
  have bH : H ≤ 8 := by rw [hH]; exact hh
  have bG : G < 256 * 10 := by omega
  have bF : F < 65536 * 11 := by omega
  have bE : E < 16777216 * 12 := by omega
  have bD : D < 4294967296 * 13 := by omega
  have bC : C < 1099511627776 * 14 := by omega
  have bB : B < 281474976710656 * 15 := by omega
  have i1 : i / 256 = B := by rw [hi]; exact dv_sp (by decide) (by omega)
  have j1 : j = (a + b + 256 * (b + c)) + 65536 * (C + D) := by rw [hj, i1, hi]; exact f8a hB hC
  have j2 : j / 65536 = C + D := by rw [j1]; exact dv_sp (by decide) (by omega)
  have cd := f8b hC hD hE
  have ef := f8b hE hF hG
  have k1 : k = (((a + b + 256 * (b + c)) + 65536 * (c + d + 256 * (d + e)) + (c + d + 256 * (d + e))) + 65536 * (e + f + 256 * (f + g))) + 4294967296 * (E + F + (G + H)) := by
    rw [hk, j2, j1, f8c (U := 0) cd, f8d ef]
  have k2 : k / 4294967296 = E + F + (G + H) := by rw [k1]; exact dv_sp (by decide) (by omega)
  have jB : j < 72057594037927936 * 17 := by rw [hj, i1]; omega
  have kB : k < 72057594037927936 * 18 := by rw [hk, j2]; omega
  refine ⟨?_, ?_, ?_, ?_⟩
  · have h1 : k + k / 4294967296 = ((a + b + c + d) + (e + f + g + h)) + 128 * (2 * ((b + c) + 256 * (c + d + 256 * (d + e)) + (d + e) + 256 * (e + f + 256 * (f + g))) + 33554432 * (E + F + (G + H)) + 2 * (F + G + H)) := by
      rw [k2, k1]
      have h2 := f8e hE hF hG (show H = h from hH)
      rw [← f8f]
      omega
    rw [h1, Nat.add_mul_mod_self_left, Nat.mod_eq_of_lt (by omega)]
    omega
  · rw [k2]; omega
  · omega
  · omega
theorem p3_ct : ∀ b, b < 256 → p3 b = fb_ct b.testBit 8 := by decide +kernel
theorem pP_ct : ∀ k n, pP k n = fb_ct n.testBit (8 * k)
  | 0, n => rfl
  | k + 1, n => by
    have h := fb_ct_split n.testBit 8 (8 * k)
    rw [show 8 * (k + 1) = 8 + 8 * k by omega, h]
    show p3 (n % 256) + pP k (n / 256) = _
    rw [pP_ct k (n / 256), p3_ct _ (Nat.mod_lt _ (by decide))]
    congr 1
    · refine fb_ct_cong (fun i hi => ?_)
      rw [show (256 : Nat) = 2 ^ 8 from rfl, Nat.testBit_mod_two_pow]
      simp [hi]
    · refine fb_ct_cong (fun i _ => ?_)
      rw [show (256 : Nat) = 2 ^ 8 from rfl, Nat.testBit_div_two_pow, Nat.add_comm]
