/-! PURE: states copied, laid, remembered; things sorted. -/
def isSt (a : Nat) : Prop := hp_T[a]? = some (6, 6, [a + 4, a + 5, a + 6, a + 7, 0]) ∧ hp_T[a + 1]? = some (0, 12, []) ∧ hp_T[a + 2]? = some (0, 12, []) ∧ hp_T[a + 3]? = some (0, 12, []) ∧ hp_T[a + 4]? = some (0, 5, [])
theorem st_2 : isSt 2 := ⟨rfl, rfl, rfl, rfl, rfl⟩
theorem st_p : ∀ j, j < 13 → isSt (26 + 5 * j) := by
  intro j hj
  have : j = 0 ∨ j = 1 ∨ j = 2 ∨ j = 3 ∨ j = 4 ∨ j = 5 ∨ j = 6 ∨ j = 7 ∨ j = 8 ∨ j = 9 ∨ j = 10 ∨ j = 11 ∨ j = 12 := by omega
  rcases this with rfl | rfl | rfl | rfl | rfl | rfl | rfl | rfl | rfl | rfl | rfl | rfl | rfl <;> exact ⟨rfl, rfl, rfl, rfl, rfl⟩
theorem st_h : ∀ j, j < 2 → isSt (93 + 5 * j) := by
  intro j hj
  have : j = 0 ∨ j = 1 := by omega
  rcases this with rfl | rfl <;> exact ⟨rfl, rfl, rfl, rfl, rfl⟩
theorem st_s : isSt 104 := ⟨rfl, rfl, rfl, rfl, rfl⟩
def cpS (μ : Mem) (a b : Nat) : Mem := upI (rowI (rowI (rowI (rowI μ (a + 1) (va_cpy (μ.1 (b + 1)) (μ.1 (a + 1)) 0 0 12)) (a + 2) (va_cpy (μ.1 (b + 2)) (μ.1 (a + 2)) 0 0 12)) (a + 3) (va_cpy (μ.1 (b + 3)) (μ.1 (a + 3)) 0 0 12)) (a + 4) (va_cpy (μ.1 (b + 4)) (μ.1 (a + 4)) 0 0 5)) a 4 (μ.1 b 4)
section CP
variable {κ : Kp} {μ : Mem}
theorem x_copy {a b : Nat} (ha : isSt a) (hb : isSt b) (hd : a + 4 < b ∨ b + 4 < a) : F_X6_copy a b (hp κ μ) = some (hp κ (cpS μ a b)) := by
  obtain ⟨a0, a1, a2, a3, a4⟩ := ha
  obtain ⟨b0, b1, b2, b3, b4⟩ := hb
  unfold F_X6_copy cpS
  have k1 : kO (hp κ μ) a = some 6 := kO_hp a0
  have ga : ∀ ν : Mem, gR (hp κ ν) a 6 0 = some (a + 1) ∧ gR (hp κ ν) a 6 1 = some (a + 2) ∧ gR (hp κ ν) a 6 2 = some (a + 3) ∧ gR (hp κ ν) a 6 3 = some (a + 4) := fun ν => ⟨gR_hp a0 rfl, gR_hp a0 rfl, gR_hp a0 rfl, gR_hp a0 rfl⟩
  have gb : ∀ ν : Mem, gR (hp κ ν) b 6 0 = some (b + 1) ∧ gR (hp κ ν) b 6 1 = some (b + 2) ∧ gR (hp κ ν) b 6 2 = some (b + 3) ∧ gR (hp κ ν) b 6 3 = some (b + 4) := fun ν => ⟨gR_hp b0 rfl, gR_hp b0 rfl, gR_hp b0 rfl, gR_hp b0 rfl⟩
  have gh : ∀ ν : Mem, gI (hp κ ν) b 6 4 = some (ν.1 b 4) := fun ν => gI_hp b0 rfl
  have pa : ∀ (ν : Mem) (v : Int32), pF (hp κ ν) a 6 4 (.int v) = some (hp κ (upI ν a 4 v)) := fun ν v => pF_hp a0 rfl rfl
  have c1 : ∀ ν : Mem, cpI (hp κ ν) (b + 1) 0 (a + 1) 0 12 = some (hp κ (rowI ν (a + 1) (va_cpy (ν.1 (b + 1)) (ν.1 (a + 1)) 0 0 12))) := fun ν => cpI_hp (k := 12) b1 a1 (by decide) (by decide)
  have c2 : ∀ ν : Mem, cpI (hp κ ν) (b + 2) 0 (a + 2) 0 12 = some (hp κ (rowI ν (a + 2) (va_cpy (ν.1 (b + 2)) (ν.1 (a + 2)) 0 0 12))) := fun ν => cpI_hp (k := 12) b2 a2 (by decide) (by decide)
  have c3 : ∀ ν : Mem, cpI (hp κ ν) (b + 3) 0 (a + 3) 0 12 = some (hp κ (rowI ν (a + 3) (va_cpy (ν.1 (b + 3)) (ν.1 (a + 3)) 0 0 12))) := fun ν => cpI_hp (k := 12) b3 a3 (by decide) (by decide)
  have c4 : ∀ ν : Mem, cpI (hp κ ν) (b + 4) 0 (a + 4) 0 5 = some (hp κ (rowI ν (a + 4) (va_cpy (ν.1 (b + 4)) (ν.1 (a + 4)) 0 0 5))) := fun ν => cpI_hp (k := 5) b4 a4 (by decide) (by decide)
  rw [if_pos k1]
  simp only [(ga _).1, (ga _).2.1, (ga _).2.2.1, (ga _).2.2.2, (gb _).1, (gb _).2.1, (gb _).2.2.1, (gb _).2.2.2, obs, c1, c2, c3, c4, gh, pa]
  have n1 : b + 2 ≠ a + 1 := by omega
  have n2 : a + 2 ≠ a + 1 := by omega
  have n3 : b + 3 ≠ a + 1 := by omega
  have n4 : a + 3 ≠ a + 1 := by omega
  have n5 : b + 4 ≠ a + 1 := by omega
  have n6 : a + 4 ≠ a + 1 := by omega
  have n7 : b + 3 ≠ a + 2 := by omega
  have n8 : a + 3 ≠ a + 2 := by omega
  have n9 : b + 4 ≠ a + 2 := by omega
  have n10 : a + 4 ≠ a + 2 := by omega
  have n11 : b + 4 ≠ a + 3 := by omega
  have n12 : a + 4 ≠ a + 3 := by omega
  have n13 : b ≠ a + 1 := by omega
  have n14 : b ≠ a + 2 := by omega
  have n15 : b ≠ a + 3 := by omega
  have n16 : b ≠ a + 4 := by omega
  simp only [rowI_n n1, rowI_n n2, rowI_n n3, rowI_n n4, rowI_n n5, rowI_n n6, rowI_n n7, rowI_n n8, rowI_n n9, rowI_n n10, rowI_n n11, rowI_n n12, rowI_n n13, rowI_n n14, rowI_n n15, rowI_n n16]
theorem cpS_out {a b c : Nat} (h : c < a ∨ a + 4 < c) : (cpS μ a b).1 c = μ.1 c := by
  unfold cpS
  rw [rowI_n (by omega), rowI_n (by omega), rowI_n (by omega), rowI_n (by omega), rowI_n (by omega)]
theorem cpS_2 {a b : Nat} : (cpS μ a b).2 = μ.2 := rfl
theorem cpS_in {a b t : Nat} (h : t < 12) : (cpS μ a b).1 (a + 1) t = μ.1 (b + 1) t ∧ (cpS μ a b).1 (a + 2) t = μ.1 (b + 2) t ∧ (cpS μ a b).1 (a + 3) t = μ.1 (b + 3) t := by
  have e : ∀ f g : Nat → Int32, va_cpy f g 0 0 12 t = f t := fun f g => by
    rw [pk_cpy_in (by omega) (by omega)]
    congr 1
    omega
  unfold cpS
  refine ⟨?_, ?_, ?_⟩
  · rw [rowI_n (by omega), rowI_n (by omega), rowI_n (by omega), rowI_n (by omega), rowI_s, e]
  · rw [rowI_n (by omega), rowI_n (by omega), rowI_n (by omega), rowI_s, e]
  · rw [rowI_n (by omega), rowI_n (by omega), rowI_s, e]
theorem cpS_co {a b x : Nat} (h : x < 5) : (cpS μ a b).1 (a + 4) x = μ.1 (b + 4) x := by
  unfold cpS
  rw [rowI_n (by omega), rowI_s, pk_cpy_in (by omega) (by omega), Nat.zero_add, Nat.sub_zero]
theorem cpS_hr {a b : Nat} : (cpS μ a b).1 a 4 = μ.1 b 4 := by
  unfold cpS
  rw [rowI_s, pk_us]
theorem y_lay {s d off n : Nat} (hs : hp_T[s]? = some (0, 42, [])) (hd : hp_T[d]? = some (0, n, [])) (hn : s ≠ d) (ho : off + 42 ≤ n) : F_X12_lay s d (nI off) (hp κ μ) = some (hp κ (rowI μ d (fb_put (μ.1 d) (μ.1 s) off 42))) := by
  unfold F_X12_lay
  have hn1 : n ≤ 1000 := hp_n hd
  have h1 := lpk (fun n k => b_X12_lay_2 s d (nI off) n (nI k) (hp κ (rowI μ d (fb_put (μ.1 d) (μ.1 s) off k)))) 42 (some (hp κ (rowI μ d (fb_put (μ.1 d) (μ.1 s) off 42)))) ?_ ?_ bigN 0 (Nat.zero_le _) (by unfold bigN; omega)
  · (try dsimp only at h1)
    rw [fb_put_0, rowI_id] at h1
    exact h1
  · intro n k hk
    (try dsimp only)
    rw [b_X12_lay_2, if_neg (show ¬ (42 : Int32) ≤ nI k from nI_ge hk (by decide)), rI_hp hs hk, obs, rowI_n hn, nI_add, wI_hp hd (by omega), obs, nI_1]
    show b_X12_lay_2 s d (nI off) n (nI (k + 1)) (hp κ (rowI (rowI μ d _) d (upd ((rowI μ d _).1 d) (off + k) (μ.1 s k)))) = _
    rw [rowI_rowI, rowI_s, fb_put_succ]
  · intro n
    (try dsimp only)
    rw [b_X12_lay_2, if_pos (by decide)]
/-- what remember makes of the row of undos -/
def rem (f A : Nat → Int32) (un : Nat) : Nat → Int32 := if un < 12 then fb_put f A (42 * un) 42 else fb_put (fun i => if i < 462 then f (i + 42) else f i) A 462 42
theorem y_remember {s un : Nat} (hs : hp_T[s]? = some (0, 42, [])) (hn : s ≠ 136) (hn2 : s ≠ 127) (hu : μ.1 127 23 = nI un) (hu2 : un ≤ 12) : F_X12_remember 127 s (hp κ μ) = some (hp κ (upI (rowI μ 136 (rem (μ.1 136) (μ.1 s) un)) 127 23 (nI (if un < 12 then un + 1 else 12)))) := by
  have h49 : ∀ (ν : Mem) (u : Nat), ν.1 127 23 = nI u → u < 12 → b_X12_remember_49 127 s (hp κ ν) = some (hp κ (upI (rowI ν 136 (fb_put (ν.1 136) (ν.1 s) (42 * u) 42)) 127 23 (nI (u + 1)))) := fun ν u h1 h2 => by
    unfold b_X12_remember_49
    have e : (42 : Int32) * nI u = nI (42 * u) := pk_mul 42 u
    simp only [g127_22, g127_23, h1, obs, e, y_lay hs (show hp_T[136]? = some (0, 504, []) from rfl) hn (show 42 * u + 42 ≤ 504 by omega)]
    simp only [show (rowI ν 136 (fb_put (ν.1 136) (ν.1 s) (42 * u) 42)).1 127 23 = nI u from h1, nI_1, p127_23, obs]
  unfold F_X12_remember rem
  by_cases c : un < 12
  · have c1 : ¬ nI un = (12 : Int32) := fun z => by have := (i_eq (a := un) (b := 12) (by omega) (by decide)).mp z; omega
    rw [if_pos q127, g127_23, obs, hu, if_neg c1, if_pos c, if_pos c, h49 μ un hu c]
  · have e : un = 12 := by omega
    subst e
    rw [if_pos q127, g127_23, obs, hu, if_pos (show nI 12 = (12 : Int32) from rfl), if_neg c, if_neg c]
    have h1 := lpk (fun n k => b_X12_remember_11 127 s n (nI k) (hp κ (rowI μ 136 (fun i => if i < k then μ.1 136 (i + 42) else μ.1 136 i)))) 462 (some (hp κ (upI (rowI μ 136 (fb_put (fun i => if i < 462 then μ.1 136 (i + 42) else μ.1 136 i) (μ.1 s) 462 42)) 127 23 (nI 12)))) ?_ ?_ bigN 0 (Nat.zero_le _) (by unfold bigN; omega)
    · (try dsimp only at h1)
      have e0 : (fun i => if i < 0 then μ.1 136 (i + 42) else μ.1 136 i) = μ.1 136 := by
        funext i
        rw [if_neg (by omega)]
      rw [e0, rowI_id] at h1
      exact h1
    · intro n k hk
      (try dsimp only)
      rw [b_X12_remember_11, if_neg (show ¬ (462 : Int32) ≤ nI k from nI_ge hk (by decide)), g127_22, obs, obs, show nI k + 42 = nI (k + 42) from nI_add k 42, r136 (show k + 42 < 504 by omega), obs, rowI_s, w136 (show k < 504 by omega), obs, nI_1]
      show b_X12_remember_11 127 s n (nI (k + 1)) (hp κ (rowI (rowI μ 136 _) 136 (upd ((rowI μ 136 _).1 136) k _))) = _
      rw [rowI_rowI, rowI_s]
      congr 3
      funext i
      by_cases z : i = k
      · subst z
        rw [pk_us, if_neg (by omega), if_pos (by omega)]
      · rw [pk_un z]
        by_cases z2 : i < k
        · rw [if_pos z2, if_pos (by omega)]
        · rw [if_neg z2, if_neg (by omega)]
    · intro n
      (try dsimp only)
      rw [b_X12_remember_11, if_pos (by decide), g127_23, obs]
      have e1 : (rowI μ 136 (fun i => if i < 462 then μ.1 136 (i + 42) else μ.1 136 i)).1 127 23 = nI 12 := hu
      rw [e1, show nI 12 - 1 = nI 11 from rfl, p127_23, obs, h49 _ 11 (by rw [rowI_s, pk_us]) (by decide)]
      have e2 : (upI (rowI μ 136 (fun i => if i < 462 then μ.1 136 (i + 42) else μ.1 136 i)) 127 23 (nI 11)).1 136 = (fun i => if i < 462 then μ.1 136 (i + 42) else μ.1 136 i) := rfl
      have e3 : (upI (rowI μ 136 (fun i => if i < 462 then μ.1 136 (i + 42) else μ.1 136 i)) 127 23 (nI 11)).1 s = μ.1 s := by rw [rowI_n hn2, rowI_n hn]
      rw [e2, e3]
      congr 2
      refine Prod.ext ?_ rfl
      funext a
      unfold upI rowI
      (try dsimp only)
      by_cases z1 : a = 127
      · subst z1
        simp only [↓reduceIte, show ¬ (127 : Nat) = 136 by decide]
        exact fa_upd_twice _ _ _ _
      · simp only [if_neg z1]
        by_cases z2 : a = 136
        · simp only [if_pos z2]
        · simp only [if_neg z2]
/-! the ring -/
theorem x_place {i od : Nat} (h : μ.1 24 1 = nI od) (ho : od < 13) (hi : i ≤ 12) : F_X2_place 24 (nI i) (hp κ μ) = some (nI ((od + i) % 13), hp κ μ) := by
  unfold F_X2_place
  rw [if_pos q24, g24_1, obs, h, nI_add]
  unfold rmI
  rw [if_neg (by decide)]
  rw [show (13 : Int32) = nI 13 from rfl, pk_rem (by omega) (by decide) (by decide)]
  rfl
theorem x_mark {od un : Nat} (hR : Ref0 κ) (h1 : μ.1 24 1 = nI od) (h2 : μ.1 24 2 = nI un) (ho : od < 13) (hu : un ≤ 12) : F_X2_mark 24 2 (hp κ μ) = some (hp κ (cpS μ (26 + 5 * ((od + un) % 13)) 2)) := by
  have hl : (od + un) % 13 < 13 := Nat.mod_lt _ (by decide)
  unfold F_X2_mark
  rw [if_pos q24, g24_0, obs, g24_2, obs, h2, x_place h1 ho hu, obs]
  (try dsimp only)
  rw [rR_hp (show hp_T[25]? = some (4, 13, []) from rfl) (Or.inl rfl) hl, hR.1 _ hl, obs, x_copy (st_p _ hl) st_2 (by omega), obs]
theorem x_hold {od un : Nat} (h1 : μ.1 24 1 = nI od) (h2 : μ.1 24 2 = nI un) (ho : od < 13) (hu : un ≤ 12) : F_X2_hold 24 (hp κ μ) = some (hp κ (if un < 12 then upI μ 24 2 (nI (un + 1)) else upI μ 24 1 (nI ((od + 1) % 13)))) := by
  unfold F_X2_hold
  rw [if_pos q24, g24_2, obs, h2]
  by_cases c : un < 12
  · rw [if_neg (show ¬ (12 : Int32) ≤ nI un from nI_ge c (by decide)), obs, nI_1, p24_2, obs, if_pos c]
  · rw [if_pos (show (12 : Int32) ≤ nI un from nI_le (a := 12) (by omega) (by omega)), show (1 : Int32) = nI 1 from rfl, x_place h1 ho (by decide), obs, p24_1, obs, if_neg c]
end CP
/-! things sorted -/
theorem io_cls {x m n : Int32} {a b : Nat} (hm : m = nI a) (hn : n = nI b) (hab : a &&& b = 0) : (x &&& (m ||| n) = m) ↔ io x m n = true := by
  have hd : ∀ i, i < 32 → ¬ (bt m i = true ∧ bt n i = true) := fun i hi ⟨h1, h2⟩ => by
    have h0 : m &&& n = 0 := by rw [hm, hn, i_and, hab]; rfl
    have h3 : bt (m &&& n) i = false := by rw [h0, b_0]
    rw [b_and, h1, h2] at h3
    cases h3
  unfold io
  constructor
  · intro h
    have hb : ∀ i, (bt x i && (bt m i || bt n i)) = bt m i := fun i => by rw [← b_or, ← b_and, h]
    have e1 : x &&& m = m := b_ext (fun i hi => by
      have := hb i
      rw [b_and]
      cases h1 : bt x i <;> cases h2 : bt m i <;> simp_all)
    have e2 : x &&& n = 0 := b_ext (fun i hi => by
      have h3 := hb i
      have h4 := hd i hi
      rw [b_and, b_0]
      cases h1 : bt x i <;> cases h2 : bt m i <;> cases h5 : bt n i <;> simp_all)
    simp [e1, e2]
  · intro h
    rw [Bool.and_eq_true] at h
    have e1 := of_decide_eq_true h.1
    have e2 := of_decide_eq_true h.2
    refine b_ext (fun i hi => ?_)
    have h1 : bt (x &&& m) i = bt m i := by rw [e1]
    have h2 : bt (x &&& n) i = false := by rw [e2, b_0]
    rw [b_and] at h1 h2
    rw [b_and, b_or]
    cases h3 : bt x i <;> cases h4 : bt m i <;> cases h5 : bt n i <;> simp_all
theorem wt_lt (A mu mn : Nat → Int32) (t : Nat) : ∀ k, wt A mu mn k t < 32 ^ k
  | 0 => Nat.lt_add_one 0
  | k + 1 => by
    have h := wt_lt A mu mn t k
    unfold wt at h ⊢
    rw [fb_sm_succ, Nat.pow_succ]
    split <;> omega
theorem wt_or {A mu mn : Nat → Int32} {t k : Nat} (h : io (A t) (mu k) (mn k) = true) : wt A mu mn k t ||| 2 ^ (5 * k) = wt A mu mn (k + 1) t := by
  have h1 := wt_lt A mu mn t k
  have e : 32 ^ k = 2 ^ (5 * k) := by rw [Nat.pow_mul]
  have h2 : wt A mu mn (k + 1) t = wt A mu mn k t + 32 ^ k := by
    unfold wt
    rw [fb_sm_succ]
    simp only [h, ↓reduceIte]
  rw [h2, Nat.or_comm]
  rw [e] at h1 ⊢
  have h3 := Nat.two_pow_add_eq_or_of_lt h1 1
  rw [Nat.mul_one] at h3
  omega
theorem wt_no {A mu mn : Nat → Int32} {t k : Nat} (h : io (A t) (mu k) (mn k) = false) : wt A mu mn (k + 1) t = wt A mu mn k t := by
  unfold wt
  rw [fb_sm_succ]
  simp [h]
section SO
variable {κ : Kp} {μ : Mem} {hc tc kc lm : Nat} {A mu mn : Nat → Int32}
def srW (μ : Mem) (A mu mn : Nat → Int32) (tc k : Nat) : Nat → Int32 := fun u => if u < tc then nI (wt A mu mn k u) else μ.1 10 u
def srK (μ : Mem) (A mu mn : Nat → Int32) (tc : Nat) (k : Nat) : Nat → Int32 := fa_fill (fun k => nI (kset A mu mn tc k)) (μ.1 9) k
def srM (μ : Mem) (A mu mn : Nat → Int32) (tc k : Nat) : Mem := rowI (rowI μ 10 (srW μ A mu mn tc k)) 9 (srK μ A mu mn tc k)
def Kx (m : Nat → Nat → Int32) (mu mn : Nat → Int32) (kc : Nat) : Prop := ∀ k, k < kc → m 7 k = mu k ∧ m 8 k = mn k ∧ ∃ a b, a < 64 ∧ b < 64 ∧ a ≠ 0 ∧ a &&& b = 0 ∧ mu k = nI a ∧ mn k = nI b
theorem x_sort_in (hT : Tn μ hc tc kc lm) (hA : ∀ t, t < tc → μ.1 5 t = A t) (hK : Kx μ.1 mu mn kc) {k : Nat} (hk : k < kc) (r : Int32 → ci_H → Option ci_H) : b_X10_sortThings_52 r 1 (nI k) (mu k ||| mn k) bigN 0 0 (hp κ (srM μ A mu mn tc k)) = r (nI (k + 1)) (hp κ (srM μ A mu mn tc (k + 1))) := by
  obtain ⟨t1, t2, t3, t4, t5, t6, t7, t8⟩ := hT
  obtain ⟨k1, k2, a, b, k3, k4, k5, k6, k7, k8⟩ := hK k hk
  have h1 := lpk (fun n t => b_X10_sortThings_52 r 1 (nI k) (mu k ||| mn k) n (nI (kset A mu mn t k)) (nI t) (hp κ (rowI (rowI μ 10 (fa_fill (srW μ A mu mn tc (k + 1)) (srW μ A mu mn tc k) t)) 9 (srK μ A mu mn tc k)))) tc (r (nI (k + 1)) (hp κ (srM μ A mu mn tc (k + 1)))) ?_ ?_ bigN 0 (Nat.zero_le _) (by unfold bigN; omega)
  · (try dsimp only at h1)
    rw [fa_fill_0] at h1
    exact h1
  · intro n t ht
    (try dsimp only)
    rw [b_X10_sortThings_52]
    have e5 : 5 * nI k = nI (5 * k) := pk_mul 5 k
    simp only [g1_6, show ∀ f g, (rowI (rowI μ 10 f) 9 g).1 1 6 = nI tc from fun f g => t2, obs, if_neg (nI_ge ht (show tc < 2 ^ 31 by omega)), g1_0, g2_2, r5 (show t < 12 by omega), show ∀ f g, (rowI (rowI μ 10 f) 9 g).1 5 t = A t from fun f g => hA t ht, g1_1, r7 (show k < 6 by omega), show ∀ f g, (rowI (rowI μ 10 f) 9 g).1 7 k = mu k from fun f g => k1, g1_4, r10 (show t < 12 by omega), w10 (show t < 12 by omega), b_X10_sortThings_104, nI_1, e5, i_sh1 (5 * k) (show 5 * k < 31 by omega), i_sh1 t (show t < 31 by omega)]
    by_cases c : A t &&& (mu k ||| mn k) = mu k
    · have hio := (io_cls k7 k8 k6).mp c
      rw [if_pos c, i_or]
      have e1 : kset A mu mn t k ||| 2 ^ t = kset A mu mn (t + 1) k := (sb_t hio).symm
      rw [e1]
      congr 2
      show rowI (rowI (rowI μ 10 _) 9 _) 10 (upd ((rowI (rowI μ 10 _) 9 _).1 10) t _) = _
      have e2 : ∀ f g, (rowI (rowI μ 10 f) 9 g).1 10 = f := fun f g => rfl
      rw [e2]
      have e3 : fa_fill (srW μ A mu mn tc (k + 1)) (srW μ A mu mn tc k) t t ||| nI (2 ^ (5 * k)) = srW μ A mu mn tc (k + 1) t := by
        rw [fa_fill_out (Nat.le_refl t)]
        unfold srW
        rw [if_pos ht, if_pos ht, i_or, wt_or hio]
      rw [e3, fa_fill_succ]
      refine Prod.ext ?_ rfl
      funext z
      unfold rowI
      (try dsimp only)
      by_cases z1 : z = 9
      · subst z1; rfl
      · simp only [if_neg z1]
        by_cases z2 : z = 10
        · simp only [if_pos z2]
        · simp only [if_neg z2]
    · have hio : io (A t) (mu k) (mn k) = false := by
        cases h : io (A t) (mu k) (mn k) with
        | false => rfl
        | true => exact absurd ((io_cls k7 k8 k6).mpr h) c
      rw [if_neg c]
      have e1 : kset A mu mn (t + 1) k = kset A mu mn t k := sb_f hio
      rw [e1]
      congr 4
      funext u
      unfold fa_fill
      by_cases z1 : u < t
      · rw [if_pos z1, if_pos (by omega)]
      · rw [if_neg z1]
        by_cases z2 : u < t + 1
        · have : u = t := by omega
          subst this
          rw [if_pos z2]
          unfold srW
          rw [if_pos ht, if_pos ht, wt_no hio]
        · rw [if_neg z2]
  · intro n
    (try dsimp only)
    rw [b_X10_sortThings_52]
    simp only [g1_6, show ∀ f g, (rowI (rowI μ 10 f) 9 g).1 1 6 = nI tc from fun f g => t2, obs, if_pos (nI_le (Nat.le_refl tc) (show tc < 2 ^ 31 by omega)), g1_3, w9 (show k < 6 by omega), nI_1]
    congr 2
    show rowI (rowI (rowI μ 10 _) 9 _) 9 (upd ((rowI (rowI μ 10 _) 9 _).1 9) k _) = _
    rw [rowI_rowI, rowI_s]
    unfold srM srK
    rw [fa_fill_succ (fun k => nI (kset A mu mn tc k))]
    have e2 : fa_fill (srW μ A mu mn tc (k + 1)) (srW μ A mu mn tc k) tc = srW μ A mu mn tc (k + 1) := by
      funext u
      unfold fa_fill
      by_cases z1 : u < tc
      · rw [if_pos z1]
      · rw [if_neg z1]
        unfold srW
        rw [if_neg z1, if_neg z1]
    rw [e2]
theorem x_sort (hT : Tn μ hc tc kc lm) (hA : ∀ t, t < tc → μ.1 5 t = A t) (hK : Kx μ.1 mu mn kc) : F_X10_sortThings 1 (hp κ μ) = some (hp κ (srM μ A mu mn tc kc)) := by
  have hT0 := hT
  obtain ⟨t1, t2, t3, t4, t5, t6, t7, t8⟩ := hT
  unfold F_X10_sortThings
  rw [if_pos q1]
  have h25 : b_X10_sortThings_25 1 bigN 0 (hp κ (srM μ A mu mn tc 0)) = some (hp κ (srM μ A mu mn tc kc)) := by
    refine lpk (fun n k => b_X10_sortThings_25 1 n (nI k) (hp κ (srM μ A mu mn tc k))) kc _ ?_ ?_ bigN 0 (Nat.zero_le _) (by unfold bigN; omega)
    · intro n k hk
      (try dsimp only)
      obtain ⟨k1, k2, -⟩ := hK k hk
      rw [b_X10_sortThings_25]
      simp only [g1_7, show (srM μ A mu mn tc k).1 1 7 = nI kc from t3, obs, if_neg (nI_ge hk (show kc < 2 ^ 31 by omega)), g1_1, r7 (show k < 6 by omega), show (srM μ A mu mn tc k).1 7 k = mu k from k1, g1_2, r8 (show k < 6 by omega), show (srM μ A mu mn tc k).1 8 k = mn k from k2]
      exact x_sort_in hT0 hA hK hk _
    · intro n
      (try dsimp only)
      rw [b_X10_sortThings_25]
      simp only [g1_7, show (srM μ A mu mn tc kc).1 1 7 = nI kc from t3, obs, if_pos (nI_le (Nat.le_refl kc) (show kc < 2 ^ 31 by omega))]
  have h1 := lpk (fun n t => b_X10_sortThings_2 1 n (nI t) (hp κ (rowI μ 10 (fa_fill (fun _ => 0) (μ.1 10) t)))) tc (some (hp κ (srM μ A mu mn tc kc))) ?_ ?_ bigN 0 (Nat.zero_le _) (by unfold bigN; omega)
  · (try dsimp only at h1)
    rw [fa_fill_0, rowI_id] at h1
    exact h1
  · intro n t ht
    (try dsimp only)
    rw [b_X10_sortThings_2]
    simp only [g1_6, show ∀ f, (rowI μ 10 f).1 1 6 = nI tc from fun f => t2, obs, if_neg (nI_ge ht (show tc < 2 ^ 31 by omega)), g1_4, w10 (show t < 12 by omega), nI_1]
    show b_X10_sortThings_2 1 n (nI (t + 1)) (hp κ (rowI (rowI μ 10 _) 10 (upd ((rowI μ 10 _).1 10) t 0))) = _
    rw [rowI_rowI, rowI_s, fa_fill_succ (fun _ => (0 : Int32))]
  · intro n
    (try dsimp only)
    rw [b_X10_sortThings_2]
    simp only [g1_6, show ∀ f, (rowI μ 10 f).1 1 6 = nI tc from fun f => t2, obs, if_pos (nI_le (Nat.le_refl tc) (show tc < 2 ^ 31 by omega))]
    have e : rowI μ 10 (fa_fill (fun _ => (0 : Int32)) (μ.1 10) tc) = srM μ A mu mn tc 0 := by
      unfold srM srK
      rw [fa_fill_0]
      refine Prod.ext ?_ rfl
      funext z
      unfold rowI
      (try dsimp only)
      by_cases z1 : z = 9
      · subst z1; rfl
      · simp only [if_neg z1]
        by_cases z2 : z = 10
        · simp only [if_pos z2]
          rfl
        · simp only [if_neg z2]
    rw [e]
    exact h25
end SO
