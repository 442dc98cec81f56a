/-! PURE: sets: sums; the greatest, or the least, of as many. -/
theorem or_add : ∀ (n a b : Nat), a < 2 ^ n → b < 2 ^ n → (∀ t, b.testBit t = true → a.testBit t = false) → a ||| b = a + b
  | 0, a, b, ha, hb, _ => by
    have e1 : a = 0 := by omega
    have e2 : b = 0 := by omega
    rw [e1, e2]
    rfl
  | n + 1, a, b, ha, hb, h => by
    have ih := or_add n (a / 2) (b / 2) (by rw [Nat.pow_succ] at ha; omega) (by rw [Nat.pow_succ] at hb; omega) (fun t ht => by
      rw [Nat.testBit_div_two] at ht ⊢
      exact h _ ht)
    have h1 : (a ||| b) / 2 = a / 2 ||| b / 2 := Nat.or_div_two
    have h2 : (a ||| b).testBit 0 = (a.testBit 0 || b.testBit 0) := Nat.testBit_or _ _ _
    have h3 := h 0
    rw [Nat.testBit_zero, Nat.testBit_zero, Nat.testBit_zero] at h2
    rw [Nat.testBit_zero, Nat.testBit_zero] at h3
    have m1 := Nat.mod_two_eq_zero_or_one a
    have m2 := Nat.mod_two_eq_zero_or_one b
    have m3 := Nat.mod_two_eq_zero_or_one (a ||| b)
    rcases m1 with m1 | m1 <;> rcases m2 with m2 | m2 <;> rcases m3 with m3 | m3 <;> simp [m1, m2, m3] at h2 h3 <;> omega
/-- all of a is in b -/
def sub (a b : Nat) : Prop := ∀ i, a.testBit i = true → b.testBit i = true
theorem sub.lt {a b : Nat} (h : sub a b) (hb : b < 4096) : a < 4096 := Nat.lt_of_le_of_lt (Nat.le_of_testBit h) hb
theorem sub_rf {a : Nat} : sub a a := fun _ h => h
theorem sub_0 {a : Nat} : sub 0 a := fun i h => by rw [Nat.zero_testBit] at h; cases h
theorem sub_sd {a b : Nat} : sub (sd a b) a := fun i h => by
  rw [sd_bit, Bool.and_eq_true] at h
  exact h.1
theorem sub_and {a b : Nat} : sub (a &&& b) b := fun i h => by
  rw [Nat.testBit_and, Bool.and_eq_true] at h
  exact h.2
theorem sub_andl {a b : Nat} : sub (a &&& b) a := fun i h => by
  rw [Nat.testBit_and, Bool.and_eq_true] at h
  exact h.1
theorem sd_or2 {a b : Nat} (h : sub b a) : sd a b ||| b = a := by
  apply Nat.eq_of_testBit_eq
  intro i
  rw [Nat.testBit_or, sd_bit]
  have := h i
  cases e1 : a.testBit i <;> cases e2 : b.testBit i <;> simp_all
theorem sd_dis {a b : Nat} : ∀ t, b.testBit t = true → (sd a b).testBit t = false := fun t h => by
  rw [sd_bit, h]
  simp
theorem sd_add {a b : Nat} (h : sub b a) (ha : a < 4096) : sd a b + b = a := by
  have h1 := or_add 12 (sd a b) b (sd_lt (n := 12) ha) (h.lt ha) sd_dis
  rw [← h1, sd_or2 h]
theorem cn_sd {a b : Nat} (h : sub b a) : cn (sd a b) + cn b = cn a := by
  rw [← cn_dis sd_dis, sd_or2 h]
theorem sub_eq {a b : Nat} (h : sub a b) (hb : b < 4096) (hc : cn b ≤ cn a) : a = b := by
  have h1 := cn_sd h
  have h2 : sd b a = 0 := by
    by_cases c : sd b a = 0
    · exact c
    · have := (cn_pos (sd_lt (n := 12) hb)).mpr c
      omega
  have h3 := sd_add h hb
  omega
theorem cn_sub {a b : Nat} (h : sub a b) : cn a ≤ cn b := cn_mono h
section FIT
variable {A mu mn : Nat → Int32} {tc kc : Nat}
theorem mo_dis {a b k : Nat} (h : ∀ t, b.testBit t = true → a.testBit t = false) (b2 : tc ≤ 12) : mo A mu mn tc (a ||| b) k = mo A mu mn tc a k + mo A mu mn tc b k := by
  rw [← cn_kset b2, ← cn_kset b2, ← cn_kset b2, Nat.and_or_distrib_right]
  exact cn_dis (fun t ht => by
    rw [Nat.testBit_and, Bool.and_eq_true] at ht
    rw [Nat.testBit_and, h t ht.1]
    rfl)
theorem mo_mono {a b k : Nat} (h : sub a b) : mo A mu mn tc a k ≤ mo A mu mn tc b k := fb_ct_sub (fun t _ ht => by
  rw [Bool.and_eq_true] at ht ⊢
  exact ⟨h t ht.1, ht.2⟩)
theorem moz {k : Nat} (b2 : tc ≤ 12) : mo A mu mn tc 0 k = 0 := by
  rw [← cn_kset b2, Nat.zero_and, cn_0]
/-- these may come behind digits d -/
def Fit (A mu mn : Nat → Int32) (tc kc : Nat) (d : Nat → Nat) (S : Nat) : Prop := ∀ k, k < kc → d k + mo A mu mn tc S k ≤ 15
def dpl (A mu mn : Nat → Int32) (d : Nat → Nat) (t : Nat) : Nat → Nat := fun k => d k + (if io (A t) (mu k) (mn k) then 1 else 0)
theorem fit_set {d : Nat → Nat} {S t : Nat} (ht : t < tc) (hn : S.testBit t = false) : Fit A mu mn tc kc d (S ||| 2 ^ t) ↔ (okt A mu mn kc d t = true ∧ Fit A mu mn tc kc (dpl A mu mn d t) S) := by
  unfold Fit dpl
  rw [okt_iff]
  constructor
  · intro h
    refine ⟨fun k hk hi => ?_, fun k hk => ?_⟩
    · have := h k hk
      rw [mo_set ht hn, hi, if_pos rfl] at this
      omega
    · have := h k hk
      rw [mo_set ht hn] at this
      omega
  · rintro ⟨-, h⟩ k hk
    have := h k hk
    rw [mo_set ht hn]
    omega
def Cnd (A mu mn : Nat → Int32) (tc kc rest : Nat) (d : Nat → Nat) (taken x : Nat) : Prop := ∃ S, sub S rest ∧ x = taken ||| S ∧ Fit A mu mn tc kc d S
theorem oth_bit {rest i : Nat} (hr : rest ≠ 0) : (sd rest (hb rest)).testBit i = (rest.testBit i && !decide (rest.log2 = i)) := by
  rw [sd_bit, hb_bit hr]
theorem Cnd_iff {rest taken x : Nat} {d : Nat → Nat} (hr : rest ≠ 0) (ht : rest.log2 < tc) : (Cnd A mu mn tc kc (sd rest (hb rest)) d taken x ∨ (okt A mu mn kc d rest.log2 = true ∧ Cnd A mu mn tc kc (sd rest (hb rest)) (dpl A mu mn d rest.log2) (taken ||| 2 ^ rest.log2) x)) ↔ Cnd A mu mn tc kc rest d taken x := by
  constructor
  · rintro (⟨S, h1, h2, h3⟩ | ⟨h0, S, h1, h2, h3⟩)
    · exact ⟨S, fun i hi => sub_sd i (h1 i hi), h2, h3⟩
    · have hn : S.testBit rest.log2 = false := by
        cases e : S.testBit rest.log2 with
        | false => rfl
        | true =>
          have := h1 _ e
          rw [oth_bit hr] at this
          simp at this
      refine ⟨S ||| 2 ^ rest.log2, fun i hi => ?_, ?_, (fit_set ht hn).mpr ⟨h0, h3⟩⟩
      · rw [Nat.testBit_or, Bool.or_eq_true] at hi
        rcases hi with hi | hi
        · exact sub_sd i (h1 i hi)
        · rw [Nat.testBit_two_pow] at hi
          rw [← of_decide_eq_true hi]
          exact log2_bit hr
      · rw [h2, Nat.or_assoc, Nat.or_comm (2 ^ rest.log2)]
  · rintro ⟨S, h1, h2, h3⟩
    cases e : S.testBit rest.log2 with
    | false =>
      refine Or.inl ⟨S, fun i hi => ?_, h2, h3⟩
      rw [oth_bit hr, h1 i hi, decide_eq_false (fun z => by rw [z, hi] at e; cases e)]
      rfl
    | true =>
      have es : sd S (2 ^ rest.log2) ||| 2 ^ rest.log2 = S := sd_or2 (fun i hi => by
        rw [Nat.testBit_two_pow] at hi
        rw [← of_decide_eq_true hi]
        exact e)
      have hn : (sd S (2 ^ rest.log2)).testBit rest.log2 = false := sd_dis _ (by rw [Nat.testBit_two_pow, decide_eq_true rfl])
      rw [← es, fit_set ht hn] at h3
      refine Or.inr ⟨h3.1, sd S (2 ^ rest.log2), fun i hi => ?_, ?_, h3.2⟩
      · rw [sd_bit, Bool.and_eq_true] at hi
        rw [oth_bit hr, h1 i hi.1]
        have := hi.2
        rw [Nat.testBit_two_pow] at this
        rw [this]
        rfl
      · rw [Nat.or_assoc, Nat.or_comm (2 ^ rest.log2), es]
        exact h2
theorem Cnd_lo {rest taken x y : Nat} {d d' : Nat → Nat} (hr : rest ≠ 0) (hrl : rest < 4096) (htk : taken < 4096) (hd : ∀ i, rest.testBit i = true → taken.testBit i = false) (hx : Cnd A mu mn tc kc (sd rest (hb rest)) d taken x) (hy : Cnd A mu mn tc kc (sd rest (hb rest)) d' (taken ||| 2 ^ rest.log2) y) : x ≤ y := by
  obtain ⟨S, h1, h2, -⟩ := hx
  obtain ⟨S', h1', h2', -⟩ := hy
  have hL : rest.log2 < 12 := (Nat.log2_lt hr).mpr hrl
  have hlt : S < 2 ^ rest.log2 := by
    refine Nat.lt_pow_two_of_testBit _ (fun i hi => ?_)
    cases e : S.testBit i with
    | false => rfl
    | true =>
      have h3 := h1 i e
      rw [oth_bit hr, Bool.and_eq_true] at h3
      have h4 := log2_top h3.1
      have h5 : i = rest.log2 := by omega
      rw [h5] at h3
      simp at h3
  have hp : 2 ^ rest.log2 < 2 ^ 12 := Nat.pow_lt_pow_right (by decide) hL
  have e1 : taken ||| S = taken + S := or_add 12 _ _ htk (by omega) (fun t ht => hd t (sub_sd t (h1 t ht)))
  have e2 : taken ||| 2 ^ rest.log2 = taken + 2 ^ rest.log2 := or_add 12 _ _ htk hp (fun t ht => by
    rw [Nat.testBit_two_pow] at ht
    rw [← of_decide_eq_true ht]
    exact hd _ (log2_bit hr))
  have e3 : taken ||| 2 ^ rest.log2 ≤ taken ||| 2 ^ rest.log2 ||| S' := Nat.left_le_or
  omega
end FIT
def bet (gf : Bool) (x m : Nat) : Prop := cn x < cn m ∨ (cn x = cn m ∧ (if gf = true then x ≤ m else m ≤ x))
def Qs (gf : Bool) (C : Nat → Prop) (b : Int32) (c : Nat) (b' : Int32) (c' : Nat) : Prop := (b' = b ∧ c' = c ∧ ∀ x, C x → cn x < c) ∨ ∃ m, C m ∧ c ≤ cn m ∧ b' = nI m ∧ c' = cn m + 1 ∧ ∀ x, C x → bet gf x m
theorem Qs.seq {gf : Bool} {C1 C2 : Nat → Prop} {b b1 b2 : Int32} {c c1 c2 : Nat} (h1 : Qs gf C1 b c b1 c1) (h2 : Qs gf C2 b1 c1 b2 c2) (ho : ∀ x y, C1 x → C2 y → (if gf = true then y ≤ x else x ≤ y)) : Qs gf (fun x => C1 x ∨ C2 x) b c b2 c2 := by
  rcases h1 with ⟨p1, p2, p3⟩ | ⟨m, p1, p2, p3, p4, p5⟩
  · rcases h2 with ⟨r1, r2, r3⟩ | ⟨m2, r1, r2, r3, r4, r5⟩
    · refine Or.inl ⟨r1.trans p1, r2.trans p2, fun x hx => ?_⟩
      rcases hx with hx | hx
      · exact p3 x hx
      · rw [← p2]; exact r3 x hx
    · refine Or.inr ⟨m2, Or.inr r1, by omega, r3, r4, fun x hx => ?_⟩
      rcases hx with hx | hx
      · have := p3 x hx
        exact Or.inl (by omega)
      · exact r5 x hx
  · rcases h2 with ⟨r1, r2, r3⟩ | ⟨m2, r1, r2, r3, r4, r5⟩
    · refine Or.inr ⟨m, Or.inl p1, p2, r1.trans p3, r2.trans p4, fun x hx => ?_⟩
      rcases hx with hx | hx
      · exact p5 x hx
      · have h3 := r3 x hx
        by_cases z : cn x = cn m
        · exact Or.inr ⟨z, ho m x p1 hx⟩
        · exact Or.inl (by omega)
    · refine Or.inr ⟨m2, Or.inr r1, by omega, r3, r4, fun x hx => ?_⟩
      rcases hx with hx | hx
      · have := p5 x hx
        refine Or.inl ?_
        rcases this with h | ⟨h, -⟩ <;> omega
      · exact r5 x hx
theorem Qs.iff {gf : Bool} {C C' : Nat → Prop} {b b' : Int32} {c c' : Nat} (h : Qs gf C b c b' c') (e : ∀ x, C x ↔ C' x) : Qs gf C' b c b' c' := by
  have : C = C' := funext fun x => propext (e x)
  rw [← this]
  exact h
/-! the class's search -/
def lkM (μ : Mem) (b : Int32) (c : Nat) : Mem := upI (upI μ 111 2 b) 111 3 (nI c - 1)
theorem lk_n {μ : Mem} {b : Int32} {c z : Nat} (h : z ≠ 111) : (lkM μ b c).1 z = μ.1 z := by
  unfold lkM
  rw [rowI_n h, rowI_n h]
theorem lk_set {μ : Mem} {b v : Int32} {c m : Nat} : upI (upI (lkM μ b c) 111 2 v) 111 3 (nI m) = lkM μ v (m + 1) := by
  refine Prod.ext ?_ rfl
  funext z
  by_cases e : z = 111
  · subst e
    have e1 : nI (m + 1) - 1 = nI m := pk_sub (a := m + 1) (b := 1) (by omega)
    show upd (upd (upd (upd (μ.1 111) 2 b) 3 (nI c - 1)) 2 v) 3 (nI m) = upd (upd (μ.1 111) 2 v) 3 (nI (m + 1) - 1)
    rw [e1, fa_upd_swap _ (show (3 : Nat) ≠ 2 by decide), fa_upd_twice, fa_upd_twice]
  · rw [rowI_n e, rowI_n e, lk_n e, lk_n e]
theorem lt_m1 {c a : Nat} (hc : c < 2 ^ 30) (ha : a < 2 ^ 30) : (nI c - 1 < nI a) ↔ c ≤ a := by
  rw [show (nI c - 1 : Int32) = nI c - nI 1 from rfl, fa_lt, pk_sub_toInt (b := 1) (by omega) (by decide), nI_toInt (by omega)]
  omega
section LOOK
variable {κ : Kp} {μ : Mem} {A mu mn : Nat → Int32} {hc tc kc lm : Nat}
theorem x_lk112 {gf : Bool} (hg : μ.1 111 1 = bI gf) (rc : Nat → Nat → Int32 → Int32 → Int32 → ci_H → Option ci_H) {l2 l3 l7 b : Int32} {c : Nat} : b_X0_look_112 rc 111 l2 l3 l7 (hp κ (lkM μ b c)) = if gf = true then rc 0 111 l7 l2 l3 (hp κ (lkM μ b c)) else some (hp κ (lkM μ b c)) := by
  have e1 : (lkM μ b c).1 111 1 = bI gf := hg
  unfold b_X0_look_112
  rw [g111_1, obs, e1]
  cases gf with
  | true =>
    rw [if_neg (show ¬ bI true = 0 by decide), if_pos rfl]
    cases rc 0 111 l7 l2 l3 (hp κ (lkM μ b c)) <;> rfl
  | false => rw [if_pos (show bI false = 0 from rfl), if_neg (by decide)]
theorem x_look (h : Xc μ A mu mn hc tc kc lm) {gf : Bool} (hg : μ.1 111 1 = bI gf) : ∀ (n F rest taken c : Nat) (d : Nat → Nat) (b : Int32), rest < 2 ^ n → n ≤ 12 → (∀ i, rest.testBit i = true → i < tc) → taken < 4096 → (∀ i, rest.testBit i = true → taken.testBit i = false) → (∀ k, k < kc → d k ≤ 15) → c ≤ 13 → ∃ b' c', FG_X0_look (F + n + 1) 0 111 (nI rest) (nI (dg d kc)) (nI taken) (hp κ (lkM μ b c)) = some (hp κ (lkM μ b' c')) ∧ Qs gf (Cnd A mu mn tc kc rest d taken) b c b' c' ∧ c' ≤ 13 := by
  have b2 := h.b2
  have b3 := h.b3
  have hXl : ∀ b c, Xc (lkM μ b c) A mu mn hc tc kc lm := fun b c => h.cg (fun a h1 h2 => lk_n (by omega))
  intro n
  induction n with
  | zero =>
    intro F rest taken c d b hr hn hrt htk hdis hd hc
    have e0 : rest = 0 := by omega
    subst e0
    have e3 : (lkM μ b c).1 111 3 = nI c - 1 := rfl
    have hcn := cn_le taken
    have hC : ∀ x, Cnd A mu mn tc kc 0 d taken x ↔ x = taken := fun x => by
      constructor
      · rintro ⟨S, s1, s2, -⟩
        have : S = 0 := Nat.eq_of_testBit_eq (fun i => by
          cases e : S.testBit i with
          | false => rw [Nat.zero_testBit]
          | true => have := s1 i e; rw [Nat.zero_testBit] at this; cases this)
        rw [s2, this, Nat.or_zero]
      · intro e
        exact ⟨0, sub_rf, by rw [e, Nat.or_zero], fun k hk => by rw [moz b2]; exact hd k hk⟩
    show ∃ b' c', G_X0_look _ 111 (nI 0) (nI (dg d kc)) (nI taken) (hp κ (lkM μ b c)) = _ ∧ _
    unfold G_X0_look
    rw [if_pos q111, i_or, Nat.or_zero, bc htk, obs]
    (try dsimp only)
    rw [g111_3, obs, e3]
    by_cases c1 : c ≤ cn taken
    · rw [if_pos ((lt_m1 (by omega) (by omega)).mpr c1), if_pos (show nI 0 = 0 from rfl), p111_2, obs, p111_3, obs, lk_set]
      refine ⟨_, _, rfl, Or.inr ⟨taken, (hC _).mpr rfl, c1, rfl, rfl, fun x hx => ?_⟩, by omega⟩
      rw [(hC x).mp hx]
      exact Or.inr ⟨rfl, by split <;> exact Nat.le_refl _⟩
    · rw [if_neg (fun z => c1 ((lt_m1 (by omega) (by omega)).mp z))]
      refine ⟨b, c, rfl, Or.inl ⟨rfl, rfl, fun x hx => ?_⟩, hc⟩
      rw [(hC x).mp hx]
      omega
  | succ n ih =>
    intro F rest taken c d b hr hn hrt htk hdis hd hc
    by_cases hr0 : rest < 2 ^ n
    · have := ih (F + 1) rest taken c d b hr0 (by omega) hrt htk hdis hd hc
      rw [show F + 1 + n + 1 = F + (n + 1) + 1 by omega] at this
      exact this
    have hp12 : 2 ^ (n + 1) ≤ 2 ^ 12 := Nat.pow_le_pow_right (by decide) hn
    have hrl : rest < 4096 := by omega
    have hr0 : rest ≠ 0 := fun z => by rw [z] at hr0; exact hr0 (Nat.two_pow_pos n)
    have hL : rest.log2 < 12 := (Nat.log2_lt hr0).mpr hrl
    have hLn : rest.log2 < n + 1 := (Nat.log2_lt hr0).mpr hr
    have hLt : rest.log2 < tc := hrt _ (log2_bit hr0)
    have e3 : (lkM μ b c).1 111 3 = nI c - 1 := rfl
    have hcn := cn_le (taken ||| rest)
    have hor : taken ||| rest < 4096 := or_l (n := 12) htk hrl
    -- the two ways
    have hol : sd rest (hb rest) < 2 ^ n := by
      refine Nat.lt_pow_two_of_testBit _ (fun i hi => ?_)
      rw [oth_bit hr0]
      cases e : rest.testBit i with
      | false => rfl
      | true =>
        have := log2_top e
        rw [decide_eq_true (show rest.log2 = i by omega)]
        rfl
    have hop : 2 ^ rest.log2 < 2 ^ 12 := Nat.pow_lt_pow_right (by decide) hL
    have W : ∀ b c, c ≤ 13 → ∃ b' c', FG_X0_look (F + n + 1) 0 111 (nI (sd rest (hb rest))) (nI (dg d kc)) (nI taken) (hp κ (lkM μ b c)) = some (hp κ (lkM μ b' c')) ∧ Qs gf (Cnd A mu mn tc kc (sd rest (hb rest)) d taken) b c b' c' ∧ c' ≤ 13 := fun b c hc => ih F _ taken c d b hol (by omega) (fun i hi => hrt i (sub_sd i hi)) htk (fun i hi => hdis i (sub_sd i hi)) hd hc
    have Wi : okt A mu mn kc d rest.log2 = true → ∀ b c, c ≤ 13 → ∃ b' c', FG_X0_look (F + n + 1) 0 111 (nI (sd rest (hb rest))) (nI (dg d kc) + nI (wt A mu mn kc rest.log2)) (nI taken ||| nI (2 ^ rest.log2)) (hp κ (lkM μ b c)) = some (hp κ (lkM μ b' c')) ∧ Qs gf (Cnd A mu mn tc kc (sd rest (hb rest)) (dpl A mu mn d rest.log2) (taken ||| 2 ^ rest.log2)) b c b' c' ∧ c' ≤ 13 := fun hok b c hc => by
      rw [wt_dg, nI_add, dg_add, i_or]
      refine ih F _ (taken ||| 2 ^ rest.log2) c (dpl A mu mn d rest.log2) b hol (by omega) (fun i hi => hrt i (sub_sd i hi)) (or_l (n := 12) htk hop) (fun i hi => ?_) (fun k hk => ?_) hc
      · rw [Nat.testBit_or, hdis i (sub_sd i hi), Nat.testBit_two_pow, Bool.false_or]
        rw [oth_bit hr0, Bool.and_eq_true] at hi
        have := hi.2
        simpa using this
      · have h1 := hd k hk
        have h2 := okt_iff.mp hok k hk
        unfold dpl
        split
        next c => have := h2 c; omega
        · omega
    have hfit : ∀ b c, F_X10_fits 1 (nI (dg d kc)) (nI rest.log2) (hp κ (lkM μ b c)) = _ := fun b c => C_fits (κ := κ) (hXl b c) hd hLt
    have e10 : ∀ b c, (lkM μ b c).1 10 rest.log2 = nI (wt A mu mn kc rest.log2) := fun b c => (hXl b c).2.2.2.2 _ hLt
    have hC := fun x => Cnd_iff (A := A) (mu := mu) (mn := mn) (kc := kc) (taken := taken) (x := x) (d := d) hr0 hLt
    show ∃ b' c', G_X0_look (fun j a0 a1 a2 a3 h => FG_X0_look (F + n + 1) j a0 a1 a2 a3 h) 111 (nI rest) (nI (dg d kc)) (nI taken) (hp κ (lkM μ b c)) = _ ∧ _
    unfold G_X0_look
    rw [if_pos q111, i_or, bc hor, obs]
    (try dsimp only)
    rw [g111_3, obs, e3]
    by_cases c1 : c ≤ cn (taken ||| rest)
    · rw [if_pos ((lt_m1 (by omega) (by omega)).mpr c1), if_neg (fun z => hr0 ((i_eq0 (by omega)).mp z)), ho hrl, obs]
      (try dsimp only)
      rw [i_sd, hb_pos hr0, tz hL, obs]
      (try dsimp only)
      have e1 : ∀ b c, (lkM μ b c).1 111 1 = bI gf := fun _ _ => hg
      rw [← hb_pos hr0, g111_1, obs, e1]
      have n12 : ¬ (12 : Int32) ≤ nI rest.log2 := nI_ge (b := 12) hL (by decide)
      cases gf with
      | false =>
        obtain ⟨b1, c1', w1, w2, w3⟩ := W b c hc
        rw [if_pos (show bI false = 0 from rfl), w1, obs]
        unfold b_X0_look_70
        rw [if_neg n12, g111_0, obs, hfit, obs]
        (try dsimp only)
        by_cases co : okt A mu mn kc d rest.log2 = true
        · obtain ⟨b2', c2', v1, v2, v3⟩ := Wi co b1 c1' w3
          rw [if_pos co, if_neg (show ¬ (1 : Int32) = 0 by decide), g111_0, obs, g1_4, obs, r10 hL, obs, e10, hb_pos hr0]
          rw [hb_pos hr0] at v1
          rw [v1, obs, x_lk112 hg, if_neg (by decide)]
          refine ⟨b2', c2', rfl, (w2.seq v2 (fun x y hx hy => ?_)).iff (fun x => ?_), v3⟩
          · exact Cnd_lo hr0 hrl htk hdis hx hy
          · rw [← hC x]
            exact ⟨fun z => z.imp id (fun w => ⟨co, w⟩), fun z => z.imp id (fun w => w.2)⟩
        · rw [if_neg co, if_pos rfl, x_lk112 hg, if_neg (by decide)]
          refine ⟨b1, c1', rfl, w2.iff (fun x => ?_), w3⟩
          rw [← hC x]
          exact ⟨Or.inl, fun z => z.elim id (fun w => absurd w.1 co)⟩
      | true =>
        rw [if_neg (show ¬ bI true = 0 by decide)]
        unfold b_X0_look_70
        rw [if_neg n12, g111_0, obs, hfit, obs]
        (try dsimp only)
        by_cases co : okt A mu mn kc d rest.log2 = true
        · obtain ⟨b1, c1', v1, v2, v3⟩ := Wi co b c hc
          obtain ⟨b2', c2', w1, w2, w3⟩ := W b1 c1' v3
          rw [if_pos co, if_neg (show ¬ (1 : Int32) = 0 by decide), g111_0, obs, g1_4, obs, r10 hL, obs, e10]
          rw [hb_pos hr0] at v1 w1
          rw [hb_pos hr0, v1, obs, x_lk112 hg, if_pos rfl, w1]
          refine ⟨b2', c2', rfl, (v2.seq w2 (fun x y hx hy => ?_)).iff (fun x => ?_), w3⟩
          · exact Cnd_lo hr0 hrl htk hdis hy hx
          · rw [← hC x]
            exact ⟨fun z => z.elim (fun w => Or.inr ⟨co, w⟩) Or.inl, fun z => z.elim Or.inr (fun w => Or.inl w.2)⟩
        · obtain ⟨b2', c2', w1, w2, w3⟩ := W b c hc
          rw [if_neg co, if_pos rfl, x_lk112 hg, if_pos rfl, w1]
          refine ⟨b2', c2', rfl, w2.iff (fun x => ?_), w3⟩
          rw [← hC x]
          exact ⟨Or.inl, fun z => z.elim id (fun w => absurd w.1 co)⟩
    · rw [if_neg (fun z => c1 ((lt_m1 (by omega) (by omega)).mp z))]
      refine ⟨b, c, rfl, Or.inl ⟨rfl, rfl, fun x hx => ?_⟩, hc⟩
      obtain ⟨S, s1, s2, -⟩ := hx
      have : cn x ≤ cn (taken ||| rest) := cn_mono (fun i hi => by
        rw [s2, Nat.testBit_or, Bool.or_eq_true] at hi
        rw [Nat.testBit_or, Bool.or_eq_true]
        exact hi.imp id (s1 i))
      omega
/-- the best of all -/
theorem x_lookAll (h : Xc μ A mu mn hc tc kc lm) {gf : Bool} (hg : μ.1 111 1 = bI gf) {pool : Nat} {d : Nat → Nat} (hp1 : pool < 4096) (hp2 : ∀ i, pool.testBit i = true → i < tc) (hd : ∀ k, k < kc → d k ≤ 15) (b : Int32) : ∃ m c', F_X0_look 111 (nI pool) (nI (dg d kc)) 0 (hp κ (lkM μ b 0)) = some (hp κ (lkM μ (nI m) c')) ∧ sub m pool ∧ Fit A mu mn tc kc d m ∧ ∀ x, sub x pool → Fit A mu mn tc kc d x → bet gf x m := by
  obtain ⟨b', c', h1, h2, -⟩ := x_look (κ := κ) h hg 12 87 pool 0 0 d b hp1 (by decide) hp2 (by decide) (fun i _ => Nat.zero_testBit i) hd (by decide)
  have hC : ∀ x, Cnd A mu mn tc kc pool d 0 x ↔ (sub x pool ∧ Fit A mu mn tc kc d x) := fun x => by
    constructor
    · rintro ⟨S, s1, s2, s3⟩
      rw [Nat.zero_or] at s2
      rw [s2]
      exact ⟨s1, s3⟩
    · rintro ⟨s1, s2⟩
      exact ⟨x, s1, (Nat.zero_or x).symm, s2⟩
  rcases h2 with ⟨-, -, h3⟩ | ⟨m, m1, -, m3, -, m5⟩
  · have := h3 0 ((hC 0).mpr ⟨sub_0, fun k hk => by rw [moz h.b2]; exact hd k hk⟩)
    omega
  · have := (hC m).mp m1
    refine ⟨m, c', ?_, this.1, this.2, fun x x1 x2 => m5 x ((hC x).mpr ⟨x1, x2⟩)⟩
    rw [← m3]
    exact h1
end LOOK
