/-! PURE: an hour, over sets. -/
def szL (s : Nat) : Nat → Nat × Nat
  | 0 => (s, 0)
  | n + 1 => (sd (szL s n).1 (hb (szL s n).1), (szL s n).2 ||| hb (szL s n).1)
def szK (ks : Nat → Nat) (lm kept k sz : Nat) : Nat := sz ||| (szL (sd kept sz &&& ks k) (cn (sd kept sz &&& ks k) - lm)).2
def szA (ks : Nat → Nat) (lm kept : Nat) : Nat → Nat := it (szK ks lm kept) 0
def tkn (A : Nat → Int32) (S : Nat) : Nat → Int32 := fun q => if (12 ≤ q ∧ q < 24 ∧ S.testBit (q - 12) = true) ∨ (24 ≤ q ∧ q < 36 ∧ S.testBit (q - 24) = true) then -1 else A q
def hrS (A mu mn : Nat → Int32) (hc tc kc lm : Nat) : Nat := szA (kset A mu mn tc) lm (kp (fun t => A (24 + t)) tc (nI (cx (A 41) % hc))) kc
def hrA (A mu mn : Nat → Int32) (hc tc kc lm : Nat) : Nat → Int32 := upd (tkn A (hrS A mu mn hc tc kc lm)) 41 (A 41 + 1)
theorem hb_bit {s : Nat} (h : s ≠ 0) (i : Nat) : (hb s).testBit i = decide (s.log2 = i) := by
  rw [hb_pos h, Nat.testBit_two_pow]
theorem log2_bit {s : Nat} (h : s ≠ 0) : s.testBit s.log2 = true := by
  rw [Nat.testBit_eq_decide_div_mod_eq]
  have h1 := Nat.log2_self_le h
  have h2 := Nat.lt_log2_self (n := s)
  have h3 : s / 2 ^ s.log2 = 1 := by
    apply Nat.div_eq_of_lt_le
    · rw [Nat.one_mul]; exact h1
    · rw [Nat.pow_succ] at h2
      omega
  rw [h3]
  rfl
theorem log2_top {s i : Nat} (h : s.testBit i = true) : i ≤ s.log2 := by
  by_cases c : s = 0
  · subst c
    rw [Nat.zero_testBit] at h
    cases h
  · have h1 := Nat.ge_two_pow_of_testBit h
    exact (Nat.le_log2 c).mpr h1
theorem hb_0 : hb 0 = 0 := rfl
theorem cn_mono {a b : Nat} (h : ∀ i, a.testBit i = true → b.testBit i = true) : cn a ≤ cn b := fb_ct_sub (fun k _ hk => h k hk)
theorem szL_bit (s : Nat) : ∀ n i, (szL s n).1.testBit i = (s.testBit i && !(szL s n).2.testBit i)
  | 0, i => by
    show s.testBit i = (s.testBit i && !(0 : Nat).testBit i)
    rw [Nat.zero_testBit]
    simp
  | n + 1, i => by
    have h := szL_bit s n i
    show (sd (szL s n).1 (hb (szL s n).1)).testBit i = (s.testBit i && !((szL s n).2 ||| hb (szL s n).1).testBit i)
    rw [sd_bit, Nat.testBit_or, h]
    cases s.testBit i <;> cases (szL s n).2.testBit i <;> simp
theorem szL_sub (s : Nat) : ∀ n i, (szL s n).2.testBit i = true → s.testBit i = true
  | 0, i => fun h => by
    have : (0 : Nat).testBit i = true := h
    rw [Nat.zero_testBit] at this
    cases this
  | n + 1, i => fun h => by
    have h' : ((szL s n).2 ||| hb (szL s n).1).testBit i = true := h
    rw [Nat.testBit_or, Bool.or_eq_true] at h'
    rcases h' with h' | h'
    · exact szL_sub s n i h'
    · by_cases c : (szL s n).1 = 0
      · rw [c, hb_0, Nat.zero_testBit] at h'
        cases h'
      · rw [hb_bit c] at h'
        have e := of_decide_eq_true h'
        have h2 := log2_bit c
        rw [e, szL_bit, Bool.and_eq_true] at h2
        exact h2.1
theorem lt_bits {a b n : Nat} (h : ∀ i, a.testBit i = true → b.testBit i = true) (hb : b < 2 ^ n) : a < 2 ^ n := by
  apply Nat.lt_pow_two_of_testBit
  intro i hi
  cases e : a.testBit i with
  | false => rfl
  | true =>
    have h1 := h i e
    rw [Nat.testBit_lt_two_pow (Nat.lt_of_lt_of_le hb (Nat.pow_le_pow_right (by decide) hi))] at h1
    cases h1
theorem szL_lt1 {s : Nat} (hs : s < 4096) (n : Nat) : (szL s n).1 < 4096 := lt_bits (n := 12) (fun i h => by rw [szL_bit, Bool.and_eq_true] at h; exact h.1) hs
theorem szL_lt2 {s : Nat} (hs : s < 4096) (n : Nat) : (szL s n).2 < 4096 := lt_bits (n := 12) (szL_sub s n) hs
theorem cn_pos {s : Nat} (hs : s < 4096) : 0 < cn s ↔ s ≠ 0 := by
  constructor
  · intro h e
    rw [e, cn_0] at h
    omega
  · intro h
    have h1 := log2_bit h
    have h2 : s.log2 < 12 := (Nat.log2_lt h).mpr hs
    exact fb_ct_pos.mpr ⟨_, h2, h1⟩
theorem cn_hb {s : Nat} (hs : s < 4096) (h : s ≠ 0) : cn (sd s (hb s)) + 1 = cn s := by
  have h2 : s.log2 < 12 := (Nat.log2_lt h).mpr hs
  have h1 := log2_bit h
  unfold cn
  have h3 := fb_ct_upd s.testBit false h2
  rw [h1] at h3
  have e : fb_ct (sd s (hb s)).testBit 12 = fb_ct (fun k => if k = s.log2 then false else s.testBit k) 12 := fb_ct_cong (fun k _ => by
    rw [sd_bit, hb_bit h]
    by_cases c : k = s.log2
    · subst c; simp
    · rw [if_neg c, decide_eq_false (fun z => c z.symm)]; simp)
  rw [e]
  simpa using h3
theorem szL_cn {s : Nat} (hs : s < 4096) : ∀ n, n ≤ cn s → cn (szL s n).1 = cn s - n
  | 0, _ => rfl
  | n + 1, h => by
    have h1 := szL_cn hs n (by omega)
    have h2 := (cn_pos (szL_lt1 hs n)).mp (by omega)
    have h3 := cn_hb (szL_lt1 hs n) h2
    show cn (sd (szL s n).1 (hb (szL s n).1)) = _
    omega
section SZ
variable {ks : Nat → Nat} {lm kept : Nat}
theorem szK_sub {k sz : Nat} (h : ∀ i, sz.testBit i = true → kept.testBit i = true) : ∀ i, (szK ks lm kept k sz).testBit i = true → kept.testBit i = true := fun i hi => by
  unfold szK at hi
  rw [Nat.testBit_or, Bool.or_eq_true] at hi
  rcases hi with hi | hi
  · exact h i hi
  · have := szL_sub _ _ i hi
    rw [Nat.testBit_and, sd_bit, Bool.and_eq_true, Bool.and_eq_true] at this
    exact this.1.1
theorem szA_sub : ∀ k i, (szA ks lm kept k).testBit i = true → kept.testBit i = true
  | 0 => fun i hi => by
    have : (0 : Nat).testBit i = true := hi
    rw [Nat.zero_testBit] at this
    cases this
  | k + 1 => szK_sub (szA_sub k)
theorem szA_lt (hk : kept < 4096) (k : Nat) : szA ks lm kept k < 4096 := lt_bits (n := 12) (szA_sub k) hk
/-- what is left of a kind -/
theorem sz_those (sz k n : Nat) : (szL (sd kept sz &&& ks k) n).1 = sd kept (sz ||| (szL (sd kept sz &&& ks k) n).2) &&& ks k := by
  apply Nat.eq_of_testBit_eq
  intro i
  rw [szL_bit, Nat.testBit_and, Nat.testBit_and, sd_bit, sd_bit, Nat.testBit_or]
  cases kept.testBit i <;> cases sz.testBit i <;> cases (ks k).testBit i <;> simp
theorem szK_quiet (hk : kept < 4096) (sz k : Nat) : cn (sd kept (szK ks lm kept k sz) &&& ks k) ≤ lm := by
  unfold szK
  rw [← sz_those]
  have hs : sd kept sz &&& ks k < 4096 := and_l (sd_lt (n := 12) hk)
  rw [szL_cn hs _ (by omega)]
  omega
theorem szK_up (k sz : Nat) : ∀ i, sz.testBit i = true → (szK ks lm kept k sz).testBit i = true := fun i hi => by
  unfold szK
  rw [Nat.testBit_or, hi]
  rfl
theorem szA_quiet (hk : kept < 4096) : ∀ n k, k < n → cn (sd kept (szA ks lm kept n) &&& ks k) ≤ lm
  | 0, k, h => absurd h (by omega)
  | n + 1, k, h => by
    by_cases c : k = n
    · subst c
      exact szK_quiet hk _ _
    · have h1 := szA_quiet hk n k (by omega)
      refine Nat.le_trans (cn_mono (fun i hi => ?_)) h1
      rw [Nat.testBit_and, sd_bit, Bool.and_eq_true, Bool.and_eq_true] at hi ⊢
      refine ⟨⟨hi.1.1, ?_⟩, hi.2⟩
      cases e : (szA ks lm kept n).testBit i with
      | false => rfl
      | true =>
        have := szK_up (ks := ks) (lm := lm) (kept := kept) n (szA ks lm kept n) i e
        have h2 := hi.1.2
        rw [show szA ks lm kept (n + 1) = szK ks lm kept n (szA ks lm kept n) from rfl, this] at h2
        cases h2
theorem szA_none (n : Nat) (h : ∀ k, k < n → cn (kept &&& ks k) ≤ lm) : szA ks lm kept n = 0 := by
  induction n with
  | zero => rfl
  | succ n ih =>
    have h1 := ih (fun k hk => h k (by omega))
    show szK ks lm kept n (szA ks lm kept n) = 0
    rw [h1]
    unfold szK
    have e : sd kept 0 = kept := by
      apply Nat.eq_of_testBit_eq
      intro i
      rw [sd_bit, Nat.zero_testBit]
      simp
    rw [e, show cn (kept &&& ks n) - lm = 0 by have := h n (by omega); omega]
    exact Nat.or_zero 0
end SZ
theorem sz_cong {ks ks' : Nat → Nat} {lm kept : Nat} : ∀ {n : Nat}, (∀ k, k < n → ks' k = ks k) → szA ks' lm kept n = szA ks lm kept n
  | 0, _ => rfl
  | n + 1, h => by
    show szK ks' lm kept n (szA ks' lm kept n) = szK ks lm kept n (szA ks lm kept n)
    rw [sz_cong (n := n) (fun k hk => h k (by omega))]
    unfold szK
    rw [h n (by omega)]
section TKN
variable {A mu mn : Nat → Int32} {hc tc kc lm B : Nat}
theorem tkn_t {S q : Nat} (h : q < 12 ∨ 36 ≤ q) : tkn A S q = A q := if_neg (by omega)
theorem tkn_o {S t : Nat} (h : t < 12) : tkn A S (12 + t) = if S.testBit t = true then -1 else A (12 + t) := by
  unfold tkn
  rw [show 12 + t - 12 = t by omega]
  by_cases c : S.testBit t = true
  · rw [if_pos (Or.inl ⟨by omega, by omega, c⟩), if_pos c]
  · rw [if_neg (fun z => by
      rcases z with z | z
      · exact c z.2.2
      · omega), if_neg c]
theorem tkn_k {S t : Nat} (h : t < 12) : tkn A S (24 + t) = if S.testBit t = true then -1 else A (24 + t) := by
  unfold tkn
  rw [show 24 + t - 24 = t by omega]
  by_cases c : S.testBit t = true
  · rw [if_pos (Or.inr ⟨by omega, by omega, c⟩), if_pos c]
  · rw [if_neg (fun z => by
      rcases z with z | z
      · omega
      · exact c z.2.2), if_neg c]
theorem tkn_0 : tkn A 0 = A := by
  funext q
  unfold tkn
  rw [if_neg]
  rintro (z | z)
  · rw [Nat.zero_testBit] at z; cases z.2.2
  · rw [Nat.zero_testBit] at z; cases z.2.2
theorem tkn_or {S t : Nat} (h : t < 12) : hnd (tkn A S) t (-1) = tkn A (S ||| 2 ^ t) := by
  funext q
  unfold hnd
  by_cases c1 : q = 24 + t
  · subst c1
    rw [pk_us, tkn_k h, if_pos (by rw [fb_bit_set]; simp)]
  · rw [pk_un c1]
    by_cases c2 : q = 12 + t
    · subst c2
      rw [pk_us, tkn_o h, if_pos (by rw [fb_bit_set]; simp)]
    · rw [pk_un c2]
      unfold tkn
      have e : ((12 ≤ q ∧ q < 24 ∧ (S ||| 2 ^ t).testBit (q - 12) = true) ∨ (24 ≤ q ∧ q < 36 ∧ (S ||| 2 ^ t).testBit (q - 24) = true)) ↔ ((12 ≤ q ∧ q < 24 ∧ S.testBit (q - 12) = true) ∨ (24 ≤ q ∧ q < 36 ∧ S.testBit (q - 24) = true)) := by
        rw [fb_bit_set, fb_bit_set]
        constructor
        · rintro (⟨z1, z2, z3⟩ | ⟨z1, z2, z3⟩)
          · have : decide (q - 12 = t) = false := decide_eq_false (by omega)
            rw [this, Bool.or_false] at z3
            exact Or.inl ⟨z1, z2, z3⟩
          · have : decide (q - 24 = t) = false := decide_eq_false (by omega)
            rw [this, Bool.or_false] at z3
            exact Or.inr ⟨z1, z2, z3⟩
        · rintro (⟨z1, z2, z3⟩ | ⟨z1, z2, z3⟩)
          · exact Or.inl ⟨z1, z2, by rw [z3]; rfl⟩
          · exact Or.inr ⟨z1, z2, by rw [z3]; rfl⟩
      simp only [e]
theorem kset_tkn {S k : Nat} (b2 : tc ≤ 12) : kset (tkn A S) mu mn tc k = kset A mu mn tc k := kset_cg (fun t ht => tkn_t (by omega))
theorem kept_tkn {S x : Nat} (b2 : tc ≤ 12) (hx : x < 2 ^ 31) : kp (fun t => tkn A S (24 + t)) tc (nI x) = sd (kp (fun t => A (24 + t)) tc (nI x)) S := by
  apply Nat.eq_of_testBit_eq
  intro i
  rw [sd_bit, kp_bit, kp_bit]
  by_cases c : i < tc
  · rw [tkn_k (by omega)]
    by_cases c2 : S.testBit i = true
    · rw [if_pos c2, c2, decide_eq_false (p := (-1 : Int32) = nI x) (fun z => nI_m1 hx z.symm)]
      simp
    · rw [if_neg c2, ts_nt c2]
      simp
  · simp [c]
theorem mo_tkn {S s k : Nat} (b2 : tc ≤ 12) : mo (tkn A S) mu mn tc s k = mo A mu mn tc s k := fb_ct_cong (fun t ht => by rw [tkn_t (by omega)])
theorem kp_sub {f : Nat → Int32} {x : Int32} : ∀ i, (kp f tc x).testBit i = true → i < tc ∧ f i = x := fun i hi => by
  rw [kp_bit, Bool.and_eq_true] at hi
  exact ⟨of_decide_eq_true hi.1, of_decide_eq_true hi.2⟩
theorem hrS_sub : ∀ i, (hrS A mu mn hc tc kc lm).testBit i = true → i < tc ∧ A (24 + i) = nI (cx (A 41) % hc) := fun i hi => kp_sub i (szA_sub _ _ hi)
theorem hrS_lt (b2 : tc ≤ 12) : hrS A mu mn hc tc kc lm < 4096 := szA_lt (kp_lt b2) _
theorem hrA_41 : hrA A mu mn hc tc kc lm 41 = A 41 + 1 := pk_us
theorem hrA_n {q : Nat} (h : q ≠ 41) : hrA A mu mn hc tc kc lm q = tkn A (hrS A mu mn hc tc kc lm) q := pk_un h
theorem hrA_ws (h : WS A hc tc B) (b1 : hc ≤ 5) (b2 : tc ≤ 12) (hB : B ≤ 2000000) : WS (hrA A mu mn hc tc kc lm) hc tc (B + 1) := by
  obtain ⟨h1, h2, r, h3, h4⟩ := h
  refine ⟨fun t ht => ?_, fun x hx => ?_, r + 1, by omega, ?_⟩
  · obtain ⟨v1, v2, v3, v4⟩ := h1 t ht
    rw [hrA_n (q := t) (by omega), hrA_n (q := 12 + t) (by omega), hrA_n (q := 24 + t) (by omega), tkn_t (by omega), tkn_o (by omega), tkn_k (by omega)]
    by_cases c : (hrS A mu mn hc tc kc lm).testBit t = true
    · rw [if_pos c, if_pos c]
      exact ⟨v1, Or.inl rfl, Or.inl rfl, Iff.rfl⟩
    · rw [if_neg c, if_neg c]
      exact ⟨v1, v2, v3, v4⟩
  · rw [hrA_n (by omega), tkn_t (by omega)]
    exact h2 x hx
  · rw [hrA_41, h4, nI_1]
theorem kset_hrA (b2 : tc ≤ 12) {k : Nat} : kset (hrA A mu mn hc tc kc lm) mu mn tc k = kset A mu mn tc k := kset_cg (fun t ht => by rw [hrA_n (by omega), tkn_t (by omega)])
theorem kept_hrA (b2 : tc ≤ 12) {x : Nat} (hx : x < 2 ^ 31) : kp (fun t => hrA A mu mn hc tc kc lm (24 + t)) tc (nI x) = sd (kp (fun t => A (24 + t)) tc (nI x)) (hrS A mu mn hc tc kc lm) := by
  rw [← kept_tkn b2 hx]
  exact sb_cong (fun t ht => by simp only [hrA_n (show 24 + t ≠ 41 by omega)])
/-- nothing is to be taken from house x -/
def qu (A mu mn : Nat → Int32) (tc kc lm x : Nat) : Prop := ∀ k, k < kc → cn (kp (fun t => A (24 + t)) tc (nI x) &&& kset A mu mn tc k) ≤ lm
theorem qu_keep (b2 : tc ≤ 12) {x : Nat} (hx : x < 2 ^ 31) (h : qu A mu mn tc kc lm x) : qu (hrA A mu mn hc tc kc lm) mu mn tc kc lm x := fun k hk => by
  rw [kset_hrA b2, kept_hrA b2 hx]
  refine Nat.le_trans (cn_mono (fun i hi => ?_)) (h k hk)
  rw [Nat.testBit_and, sd_bit, Bool.and_eq_true, Bool.and_eq_true] at hi
  rw [Nat.testBit_and, hi.1.1, hi.2]
  rfl
theorem qu_new (b1 : hc ≤ 5) (b2 : tc ≤ 12) (b0 : 1 ≤ hc) : qu (hrA A mu mn hc tc kc lm) mu mn tc kc lm (cx (A 41) % hc) := fun k hk => by
  have := Nat.mod_lt (cx (A 41)) (show 0 < hc by omega)
  rw [kset_hrA b2, kept_hrA b2 (by omega)]
  exact szA_quiet (kp_lt b2) _ _ hk
theorem qu_none (h : qu A mu mn tc kc lm (cx (A 41) % hc)) : hrS A mu mn hc tc kc lm = 0 := szA_none _ h
/-- hours on end: what was taken, and the state -/
def hrI (A mu mn : Nat → Int32) (hc tc kc lm : Nat) : Nat → Nat × (Nat → Int32)
  | 0 => (0, A)
  | n + 1 => ((hrI A mu mn hc tc kc lm n).1 ||| hrS (hrI A mu mn hc tc kc lm n).2 mu mn hc tc kc lm, hrA (hrI A mu mn hc tc kc lm n).2 mu mn hc tc kc lm)
theorem hrI_41 {r : Nat} (h : A 41 = nI r) : ∀ n, (hrI A mu mn hc tc kc lm n).2 41 = nI (r + n)
  | 0 => h
  | n + 1 => by
    show hrA (hrI A mu mn hc tc kc lm n).2 mu mn hc tc kc lm 41 = _
    rw [hrA_41, hrI_41 h n, nI_1]
    rfl
theorem hrI_ws (h : WS A hc tc B) (b1 : hc ≤ 5) (b2 : tc ≤ 12) (hB : B ≤ 1500000) : ∀ n, n ≤ 1000 → WS (hrI A mu mn hc tc kc lm n).2 hc tc (B + n)
  | 0, _ => h
  | n + 1, hn => hrA_ws (B := B + n) (hrI_ws h b1 b2 hB n (by omega)) b1 b2 (by omega)
theorem hrI_lt (b2 : tc ≤ 12) : ∀ n, (hrI A mu mn hc tc kc lm n).1 < 4096
  | 0 => by show 0 < 4096; omega
  | n + 1 => or_l (n := 12) (hrI_lt b2 n) (hrS_lt b2)
theorem hrI_qu (b1 : 1 ≤ hc ∧ hc ≤ 5) (b2 : tc ≤ 12) {r : Nat} (h : A 41 = nI r) (hr : r ≤ 2000000) : ∀ n, n ≤ 1000 → ∀ j, j < n → qu (hrI A mu mn hc tc kc lm n).2 mu mn tc kc lm ((r + j) % hc)
  | 0, _, j, hj => absurd hj (by omega)
  | n + 1, hn, j, hj => by
    have hlt := Nat.mod_lt (r + j) (show 0 < hc by omega)
    by_cases c : j = n
    · subst c
      have e := hrI_41 (mu := mu) (mn := mn) (hc := hc) (tc := tc) (kc := kc) (lm := lm) h j
      have h2 := qu_new (A := (hrI A mu mn hc tc kc lm j).2) (mu := mu) (mn := mn) (kc := kc) (lm := lm) b1.2 b2 b1.1
      rw [e, cx_n (by omega)] at h2
      exact h2
    · exact qu_keep b2 (by omega) (hrI_qu b1 b2 h hr n (by omega) j (by omega))
theorem hrI_still (b1 : 1 ≤ hc ∧ hc ≤ 5) (b2 : tc ≤ 12) {r : Nat} (h : A 41 = nI r) (hr : r ≤ 2000000) : ∀ m, m ≤ 900 → hrI A mu mn hc tc kc lm (hc + m) = ((hrI A mu mn hc tc kc lm hc).1, upd (hrI A mu mn hc tc kc lm hc).2 41 (nI (r + hc + m)))
  | 0, _ => by
    have e := hrI_41 (mu := mu) (mn := mn) (hc := hc) (tc := tc) (kc := kc) (lm := lm) h hc
    show hrI A mu mn hc tc kc lm hc = _
    rw [fa_upd_same (by rw [e]; rfl)]
  | m + 1, hm => by
    have ih := hrI_still b1 b2 h hr m (by omega)
    have e := hrI_41 (mu := mu) (mn := mn) (hc := hc) (tc := tc) (kc := kc) (lm := lm) h (hc + m)
    have hj : ∃ j, j < hc + m ∧ (r + j) % hc = (r + (hc + m)) % hc := by
      refine ⟨m, by omega, ?_⟩
      rw [show r + (hc + m) = (r + m) + hc by omega, Nat.add_mod_right]
    obtain ⟨j, hj1, hj2⟩ := hj
    have hq := hrI_qu (mu := mu) (mn := mn) (kc := kc) (lm := lm) b1 b2 h hr (hc + m) (by omega) j hj1
    have hS : hrS (hrI A mu mn hc tc kc lm (hc + m)).2 mu mn hc tc kc lm = 0 := by
      refine qu_none ?_
      rw [e, cx_n (by omega), ← hj2]
      exact hq
    show ((hrI A mu mn hc tc kc lm (hc + m)).1 ||| hrS (hrI A mu mn hc tc kc lm (hc + m)).2 mu mn hc tc kc lm, hrA (hrI A mu mn hc tc kc lm (hc + m)).2 mu mn hc tc kc lm) = _
    unfold hrA
    rw [hS, tkn_0, Nat.or_zero, e, ih, nI_1]
    dsimp only
    rw [fa_upd_twice, show r + (hc + m) + 1 = r + hc + (m + 1) by omega]
end TKN
