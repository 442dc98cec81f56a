/-! PURE: a thing bought. -/
def buyV (A mu mn : Nat → Int32) (tc kc rn : Nat) (tx : Nat → Nat) (x y : Int32) : Int32 := A (36 + cx y) - vwr A mu mn tc kc rn tx (cx x) y
def buyP (A mu mn : Nat → Int32) (hc tc kc lm rn : Nat) (tx : Nat → Nat) (x y : Int32) : Ac := if isI tc x && isI hc y then (if A (12 + cx x) = -1 then (if 0 ≤ buyV A mu mn tc kc rn tx x y then (if okt A mu mn kc (ld A mu mn tc lm (kp (fun t => A (24 + t)) tc y)) (cx x) = true then (buyV A mu mn tc kc rn tx x y, hnd (upd A (36 + cx y) (buyV A mu mn tc kc rn tx x y)) (cx x) y) else (-4, A)) else (-3, A)) else (-2, A)) else (-1, A)
theorem mo_set {A mu mn : Nat → Int32} {tc s t k : Nat} (ht : t < tc) (hn : s.testBit t = false) : mo A mu mn tc (s ||| 2 ^ t) k = mo A mu mn tc s k + (if io (A t) (mu k) (mn k) then 1 else 0) := by
  have h := fb_ct_upd (fun u => s.testBit u && io (A u) (mu k) (mn k)) (io (A t) (mu k) (mn k)) ht
  (try dsimp only at h)
  rw [hn, Bool.false_and] at h
  have e : mo A mu mn tc (s ||| 2 ^ t) k = fb_ct (fun u => if u = t then io (A t) (mu k) (mn k) else (s.testBit u && io (A u) (mu k) (mn k))) tc := by
    unfold mo
    refine fb_ct_cong (fun u hu => ?_)
    rw [fb_bit_set]
    by_cases c : u = t
    · subst c
      rw [if_pos rfl, decide_eq_true rfl, Bool.or_true, Bool.true_and]
    · rw [if_neg c, decide_eq_false c, Bool.or_false]
  rw [e]
  unfold mo
  simpa using h
theorem okt_bb {A mu mn : Nat → Int32} {tc kc lm s t : Nat} (hl : 1 ≤ lm ∧ lm ≤ 4) (ht : t < tc) (hn : s.testBit t = false) : (okt A mu mn kc (ld A mu mn tc lm s) t = true) ↔ bb A mu mn tc kc lm (s ||| 2 ^ t) &&& sb (fun k => io (A t) (mu k) (mn k)) kc = 0 := by
  rw [okt_iff]
  constructor
  · intro h
    apply Nat.eq_of_testBit_eq
    intro k
    rw [Nat.testBit_and, Nat.zero_testBit]
    unfold bb
    rw [sb_bit, sb_bit]
    by_cases c : k < kc
    · cases ci : io (A t) (mu k) (mn k) with
      | false => rw [Bool.and_false, Bool.and_false]
      | true =>
        have h1 := h k c ci
        unfold ld at h1
        rw [mo_set ht hn, ci, if_pos rfl, decide_eq_false (show ¬ lm < mo A mu mn tc s k + 1 by omega), Bool.and_false, Bool.false_and]
    · rw [decide_eq_false c, Bool.false_and, Bool.false_and]
  · intro h k hk ci
    have h1 : (bb A mu mn tc kc lm (s ||| 2 ^ t) &&& sb (fun k => io (A t) (mu k) (mn k)) kc).testBit k = false := by rw [h, Nat.zero_testBit]
    rw [Nat.testBit_and] at h1
    unfold bb at h1
    rw [sb_bit, sb_bit, ci, decide_eq_true hk, Bool.and_true, Bool.and_true, Bool.true_and, mo_set ht hn, ci, if_pos rfl] at h1
    have h2 := of_decide_eq_false h1
    unfold ld
    omega
theorem Fw.sr {ν ξ : Mem} (h : Fw ν ξ) : SmR ν ξ := by
  refine ⟨fun a a1 _ a3 _ _ => h.1 a a1 a3, fun j hj _ => ?_⟩
  have e : cl ξ 127 j = cl ν 127 j := by rw [h.c]
  rw [cl_r hj, cl_r hj] at e
  exact e
theorem Fw.z {ν : Mem} {v : Int32} {j : Nat} (hj : j = 20) : Fw ν (upI ν 127 j v) := ⟨fun z z1 _ => rowI_n z1, fun i _ hi => by rw [rowI_s, pk_un (by omega)], rfl⟩
section BUY
variable {κ : Kp} {μ ν : Mem} {A mu mn : Nat → Int32} {hc tc kc lm B rn un : Nat} {tx : Nat → Nat} {cd : List Int32}
theorem buyV_n (h : WS A hc tc B) {t j : Nat} (ht : t < tc) (b2 : tc ≤ 12) (hj : j < hc) (b1 : hc ≤ 5) : (∃ c, c ≤ 9999 ∧ buyV A mu mn tc kc rn tx (nI t) (nI j) = nI c ∧ vwr A mu mn tc kc rn tx t (nI j) ≤ A (36 + j)) ∨ (¬ 0 ≤ buyV A mu mn tc kc rn tx (nI t) (nI j) ∧ ¬ vwr A mu mn tc kc rn tx t (nI j) ≤ A (36 + j)) := by
  obtain ⟨c, hc1, hc2⟩ := h.2.1 j hj
  obtain ⟨v, hv1, hv2⟩ : ∃ v, v ≤ 999 ∧ vwr A mu mn tc kc rn tx t (nI j) = nI v := clw_n _
  unfold buyV
  rw [cx_n (by omega), cx_n (by omega), hc2, hv2]
  by_cases z : v ≤ c
  · refine Or.inl ⟨c - v, by omega, pk_sub z, nI_le z (by omega)⟩
  · refine Or.inr ⟨fun w => ?_, nI_ge (by omega) (by omega)⟩
    rw [fa_le, pk_sub_toInt (by omega) (by omega)] at w
    have : (0 : Int32).toInt = 0 := rfl
    omega
theorem coin_ws (h : WS A hc tc B) (b2 : tc ≤ 12) (b1 : hc ≤ 5) {j c : Nat} (hj : j < hc) (hc1 : c ≤ 9999) : WS (upd A (36 + j) (nI c)) hc tc B := by
  obtain ⟨h1, h2, r, h3, h4⟩ := h
  refine ⟨fun u hu => ?_, fun x hx => ?_, r, h3, ?_⟩
  · rw [pk_un (j := u) (by omega), pk_un (j := 12 + u) (by omega), pk_un (j := 24 + u) (by omega)]
    exact h1 u hu
  · by_cases z : x = j
    · subst z
      exact ⟨c, hc1, pk_us⟩
    · rw [pk_un (by omega)]
      exact h2 x hx
  · rw [pk_un (by omega)]
    exact h4
theorem buyP_o (h : WS A hc tc B) (b1 : hc ≤ 5) (b2 : tc ≤ 12) (x y : Int32) : AcO A hc tc B (buyP A mu mn hc tc kc lm rn tx x y) := by
  unfold buyP
  split
  next c =>
    rw [Bool.and_eq_true] at c
    obtain ⟨t, ht, rfl⟩ := isI_of (by omega) c.1
    obtain ⟨j, hj, rfl⟩ := isI_of (by omega) c.2
    have hV := buyV_n (mu := mu) (mn := mn) (kc := kc) (rn := rn) (tx := tx) h ht b2 hj b1
    rw [cx_n (by omega), cx_n (by omega)]
    split
    · split
      next n1 =>
        split
        · rcases hV with ⟨c, h1, h2, -⟩ | ⟨h1, -⟩
          · rw [h2]
            exact Or.inr ⟨nI_le (a := 0) (by omega) (by omega), nI_pos (by omega), hnd_ws (coin_ws h b2 b1 hj h1) ht b2 hj b1⟩
          · exact absurd n1 h1
        · exact Or.inl ⟨ng_4, rfl⟩
      · exact Or.inl ⟨ng_3, rfl⟩
    · exact Or.inl ⟨ng_2, rfl⟩
  · exact Or.inl ⟨ng_1, rfl⟩
theorem coin_xa (h : Xc μ A mu mn hc tc kc lm) {j : Nat} (hj : j < 5) (v : Int32) : XA μ (upI μ 6 j v) (upd A (36 + j) v) mu mn hc tc kc lm := by
  have b2 := h.b2
  obtain ⟨h1, ⟨s1, s2, s3⟩, h3, h4⟩ := h
  refine ⟨⟨h1.cg rfl, ⟨fun u hu => ?_, fun x hx => ?_, ?_⟩, h3.cg rfl rfl, ?_⟩, Sm.rf.up rfl, rfl⟩
  · rw [pk_un (j := u) (by omega), pk_un (j := 12 + u) (by omega), pk_un (j := 24 + u) (by omega)]
    exact s1 u hu
  · show upd (μ.1 6) j v x = _
    by_cases z : x = j
    · subst z; rw [pk_us, pk_us]
    · rw [pk_un z, pk_un (by omega)]; exact s2 x hx
  · rw [pk_un (by omega)]
    exact s3
  · have h4' : SoX (upI μ 6 j v).1 A mu mn tc kc := h4
    exact h4'.cA (fun u hu => by rw [pk_un (by omega)])
theorem r19_xa (h : Xc μ A mu mn hc tc kc lm) {g : Nat → Int32} : XA μ (rowI μ 19 g) A mu mn hc tc kc lm := ⟨h.r19, fun a ha => rowI_n (fun z => by subst z; cases ha), rfl⟩
theorem C_bought (h : Xc μ A mu mn hc tc kc lm) (hW : WS A hc tc B) (hw : Rw rn tx cd) (hx : RX μ.1 cd) (x y : Int32) : ∃ ν, F_X11_bought 0 x y (hp κ μ) = some ((buyP A mu mn hc tc kc lm rn tx x y).1, hp κ ν) ∧ XA μ ν (buyP A mu mn hc tc kc lm rn tx x y).2 mu mn hc tc kc lm := by
  have b1 := h.b1
  have b2 := h.b2
  have b4 := h.b4
  unfold F_X11_bought buyP
  rcases ix_n (n := tc) (by omega) x with ⟨t, ht, rfl⟩ | hx0
  · rcases ix_n (n := hc) (by omega) y with ⟨j, hj, rfl⟩ | hy0
    · have hV := buyV_n (mu := mu) (mn := mn) (kc := kc) (rn := rn) (tx := tx) hW ht b2 hj b1.2
      have eV : buyV A mu mn tc kc rn tx (nI t) (nI j) = A (36 + j) - vwr A mu mn tc kc rn tx t (nI j) := by
        unfold buyV
        rw [cx_n (by omega), cx_n (by omega)]
      rw [eV] at hV ⊢
      rw [if_pos q0, g0_0, obs, C_hasThing1 h ht, obs]
      (try dsimp only)
      rw [if_neg (by decide), g0_0, obs, C_hasHouse1 h hj, obs]
      (try dsimp only)
      rw [if_neg (by decide), g0_0, obs, g1_0, obs, g2_0, obs, r3 (by omega), obs, (h.2.1.1 t (by omega)).2.1, isI_y ht (by omega), isI_y hj (by omega), Bool.and_self, if_pos rfl, cx_n (show t < 2 ^ 31 by omega), cx_n (show j < 2 ^ 31 by omega)]
      by_cases c1 : A (12 + t) = -1
      · obtain ⟨g, hg⟩ := x_value (κ := κ) h hw hx ht (nI j)
        have h' : Xc (rowI μ 19 g) A mu mn hc tc kc lm := h.r19
        have hs : kp (fun t => A (24 + t)) tc (nI j) < 4096 := kp_lt b2
        rw [if_pos c1, if_pos c1, obs, g1_0, obs, g2_3, obs, r6 (by omega), obs, h.2.1.2.1 j (by omega), g0_3, obs, obs, hg, obs]
        (try dsimp only)
        by_cases c2 : 0 ≤ A (36 + j) - vwr A mu mn tc kc rn tx t (nI j)
        · rw [if_pos c2, if_pos c2, g0_0, obs, obs, obs, C_kept h', obs]
          (try dsimp only)
          rw [C_load h' hs, obs]
          (try dsimp only)
          rw [C_fits h' (fun k hk => by unfold ld; omega) ht, obs]
          (try dsimp only)
          by_cases c3 : okt A mu mn kc (ld A mu mn tc lm (kp (fun t => A (24 + t)) tc (nI j))) t = true
          · rw [if_pos c3, if_neg (by decide), if_pos c3, g0_0, obs, g1_0, obs, g2_3, obs, w6 (by omega), obs, g0_0, obs, x_hand (by omega), obs]
            refine ⟨_, rfl, (r19_xa h).tr ((coin_xa h' (show j < 5 by omega) (A (36 + j) - vwr A mu mn tc kc rn tx t (nI j))).tr ?_)⟩
            exact hand_xa (coin_xa h' (show j < 5 by omega) _).1 (by omega) _
          · rw [if_neg c3, if_pos rfl, if_neg c3]
            exact ⟨_, rfl, r19_xa h⟩
        · rw [if_neg c2, if_neg c2]
          exact ⟨_, rfl, r19_xa h⟩
      · rw [if_neg c1, if_neg c1]
        exact ⟨μ, rfl, XA.rf h⟩
    · simp only [if_pos q0, g0_0, C_hasThing1 h ht, C_hasHouse0 h hy0, obs, show ¬ (1 : Int32) = 0 by decide, ↓reduceIte, isI_n (show hc ≤ 5000 by omega) hy0, Bool.and_false, Bool.false_eq_true]
      exact ⟨μ, rfl, XA.rf h⟩
  · simp only [if_pos q0, g0_0, C_hasThing0 h hx0, obs, ↓reduceIte, isI_n (show tc ≤ 5000 by omega) hx0, Bool.false_and, Bool.false_eq_true]
    exact ⟨μ, rfl, XA.rf h⟩
theorem y_wouldBreak (hM : Mn ν hc tc kc lm) {t j : Nat} (ht : t < tc) (hn : ¬ ν.1 128 (24 + t) = nI j) : F_X12_wouldBreak 127 (nI j) (nI t) (hp κ ν) = some (if okt (ν.1 128) (ν.1 129) (ν.1 130) kc (ld (ν.1 128) (ν.1 129) (ν.1 130) tc lm (kp (fun t => ν.1 128 (24 + t)) tc (nI j))) t = true then 0 else 1, hp κ ν) := by
  have b2 := hM.2.2.2.2.2.1
  have b3 := hM.2.2.2.2.2.2.1
  have b4 := hM.2.2.2.2.2.2.2
  have hs : kp (fun t => ν.1 128 (24 + t)) tc (nI j) < 4096 := kp_lt b2
  have hbit : (kp (fun t => ν.1 128 (24 + t)) tc (nI j)).testBit t = false := by
    rw [kp_bit, decide_eq_false hn, Bool.and_false]
  have h2 : 2 ^ t < 2 ^ 12 := Nat.pow_lt_pow_right (by decide) (by omega)
  have hor : kp (fun t => ν.1 128 (24 + t)) tc (nI j) ||| 2 ^ t < 2 ^ 12 := Nat.or_lt_two_pow hs h2
  have hbb := bb_lt (A := ν.1 128) (mu := ν.1 129) (mn := ν.1 130) (tc := tc) (lm := lm) (s := kp (fun t => ν.1 128 (24 + t)) tc (nI j) ||| 2 ^ t) b3
  have ho := okt_bb (A := ν.1 128) (mu := ν.1 129) (mn := ν.1 130) (kc := kc) (s := kp (fun t => ν.1 128 (24 + t)) tc (nI j)) b4 ht hbit
  unfold F_X12_wouldBreak
  rw [if_pos q127, g127_0, obs, obs, y_kept hM (show hp_T[128]? = some (0, 42, []) from rfl), obs]
  (try dsimp only)
  rw [i_sh1 t (by omega), i_or, y_brokenBy hM (show hp_T[128]? = some (0, 42, []) from rfl) (by omega), obs]
  (try dsimp only)
  rw [g127_0, obs, r128 (by omega), obs, y_kindsOf hM, obs]
  (try dsimp only)
  rw [i_and]
  by_cases c : okt (ν.1 128) (ν.1 129) (ν.1 130) kc (ld (ν.1 128) (ν.1 129) (ν.1 130) tc lm (kp (fun t => ν.1 128 (24 + t)) tc (nI j))) t = true
  · rw [if_pos c, ho.mp c, if_pos (show nI 0 = 0 from rfl)]
  · rw [if_neg c, if_neg (fun z => c (ho.mpr ((i_eq0 (and_l (by omega))).mp z)))]
theorem y_refBuy (hM : Mn ν hc tc kc lm) (hW : WS (ν.1 128) hc tc B) (hw : Rw rn tx cd) (hy : RY ν.1 rn tx) (x y : Int32) : ∃ ξ, F_X12_refusesBuy 127 x y (hp κ ν) = some (rfc (buyP (ν.1 128) (ν.1 129) (ν.1 130) hc tc kc lm rn tx x y).1, hp κ ξ) ∧ Fw ν ξ := by
  have b1 := hM.2.2.2.2.1
  have b2 := hM.2.2.2.2.2.1
  have hrf : Fw ν ν := ⟨fun _ _ _ => rfl, fun _ _ _ => rfl, rfl⟩
  unfold F_X12_refusesBuy buyP
  rw [if_pos q127, y_areBoth hM, obs]
  cases c : isI tc x && isI hc y with
  | false => exact ⟨ν, rfl, hrf⟩
  | true =>
    rw [Bool.and_eq_true] at c
    obtain ⟨t, ht, rfl⟩ := isI_of (by omega) c.1
    obtain ⟨j, hj, rfl⟩ := isI_of (by omega) c.2
    obtain ⟨-, h5, -, h6⟩ := hW.1 t ht
    have hV := buyV_n (mu := ν.1 129) (mn := ν.1 130) (kc := kc) (rn := rn) (tx := tx) hW ht b2 hj b1.2
    rw [cx_n (show t < 2 ^ 31 by omega)]
    (try dsimp only)
    rw [if_pos rfl, if_neg (by decide), y_isNobodys (by omega), obs, if_pos rfl]
    (try dsimp only)
    by_cases c1 : ν.1 128 (12 + t) = -1
    · obtain ⟨ξ, k1, k2⟩ := y_worthOf (κ := κ) hM hy hw ht (nI j)
      have e128 : ξ.1 128 = ν.1 128 := k2.1 128 (by decide) (by decide)
      have e129 : ξ.1 129 = ν.1 129 := k2.1 129 (by decide) (by decide)
      have e130 : ξ.1 130 = ν.1 130 := k2.1 130 (by decide) (by decide)
      refine ⟨ξ, ?_, k2⟩
      rw [if_pos c1, if_pos c1, if_neg (by decide), g127_0, obs, i36, r128 (by omega), obs, k1, obs]
      (try dsimp only)
      rcases hV with ⟨v, v1, v2, v3⟩ | ⟨v2, v3⟩
      · have hk := y_wouldBreak (κ := κ) (hM.mv k2.c) (t := t) (j := j) ht (by rw [e128, h6.mp c1]; exact fun z => nI_m1 (by omega) z.symm)
        rw [e128, e129, e130] at hk
        rw [if_pos v3, hk, obs, v2, if_pos (show (0 : Int32) ≤ nI v from nI_le (a := 0) (by omega) (by omega))]
        (try dsimp only)
        by_cases c3 : okt (ν.1 128) (ν.1 129) (ν.1 130) kc (ld (ν.1 128) (ν.1 129) (ν.1 130) tc lm (kp (fun t => ν.1 128 (24 + t)) tc (nI j))) t = true
        · rw [if_pos c3, if_pos rfl, if_pos c3, rfc, if_pos (show (0 : Int32) ≤ nI v from nI_le (a := 0) (by omega) (by omega))]
        · rw [if_neg c3, if_neg (by decide), if_neg c3]
          rfl
      · rw [if_neg v3, if_neg v2]
        rfl
    · rw [if_neg c1, if_pos rfl, if_neg c1]
      exact ⟨ν, rfl, hrf⟩
theorem buyP_ok {x y : Int32} (h : 0 ≤ (buyP A mu mn hc tc kc lm rn tx x y).1) (b1 : hc ≤ 5) (b2 : tc ≤ 12) : ∃ t j, t < tc ∧ j < hc ∧ x = nI t ∧ y = nI j ∧ buyP A mu mn hc tc kc lm rn tx x y = (A (36 + j) - vwr A mu mn tc kc rn tx t (nI j), hnd (upd A (36 + j) (A (36 + j) - vwr A mu mn tc kc rn tx t (nI j))) t (nI j)) := by
  unfold buyP at h ⊢
  split at h
  next c =>
    rw [if_pos c]
    rw [Bool.and_eq_true] at c
    obtain ⟨t, ht, rfl⟩ := isI_of (by omega) c.1
    obtain ⟨j, hj, rfl⟩ := isI_of (by omega) c.2
    have eV : buyV A mu mn tc kc rn tx (nI t) (nI j) = A (36 + j) - vwr A mu mn tc kc rn tx t (nI j) := by
      unfold buyV
      rw [cx_n (by omega), cx_n (by omega)]
    refine ⟨t, j, ht, hj, rfl, rfl, ?_⟩
    rw [cx_n (show t < 2 ^ 31 by omega), cx_n (show j < 2 ^ 31 by omega), eV] at h ⊢
    split at h
    · split at h
      · split at h
        next n1 n2 n3 => rw [if_pos n1, if_pos n2, if_pos n3]
        · exact absurd h ge_4
      · exact absurd h ge_3
    · exact absurd h ge_2
  · exact absurd h ge_1
theorem y_buy (hM : Mn ν hc tc kc lm) (hW : WS (ν.1 128) hc tc B) (hw : Rw rn tx cd) (hy : RY ν.1 rn tx) (h : ν.1 127 23 = nI un) (hu : un ≤ 12) (x y : Int32) : ∃ ξ, F_X12_buy 127 x y (hp κ ν) = some ((buyP (ν.1 128) (ν.1 129) (ν.1 130) hc tc kc lm rn tx x y).1, hp κ ξ) ∧ YA ν ξ un (buyP (ν.1 128) (ν.1 129) (ν.1 130) hc tc kc lm rn tx x y) ∧ RwK ν ξ := by
  have b1 := hM.2.2.2.2.1
  have b2 := hM.2.2.2.2.2.1
  obtain ⟨ξ, hr, k2⟩ := y_refBuy (κ := κ) (ν := Zr ν) hM.z (B := B) hW hw hy x y
  have e8 : (Zr ν).1 128 = ν.1 128 ∧ (Zr ν).1 129 = ν.1 129 ∧ (Zr ν).1 130 = ν.1 130 := ⟨rfl, rfl, rfl⟩
  rw [e8.1, e8.2.1, e8.2.2] at hr
  have s1 : SmR ν ξ := (SmR.rf.up (Or.inl rfl)).tr k2.sr
  have x128 : ξ.1 128 = ν.1 128 := k2.1 128 (by decide) (by decide)
  have x136 : ξ.1 136 = ν.1 136 := k2.1 136 (by decide) (by decide)
  have x23 : ξ.1 127 23 = ν.1 127 23 := k2.2.1 23 (by omega) (by omega)
  have x10 : ξ.1 127 10 = ν.1 127 10 := k2.2.1 10 (by omega) (by omega)
  unfold F_X12_buy
  rw [if_pos q127, p11, obs, hr, obs]
  rcases lt_or (v := (buyP (ν.1 128) (ν.1 129) (ν.1 130) hc tc kc lm rn tx x y).1) with c | c
  · rw [(rfc_n c).1]
    refine ⟨ξ, if_neg (by have := rfc_n c; rw [this.1] at this; exact this.2), YA.no c s1 x128 x136 x23, x10, k2.2.2⟩
  · obtain ⟨t, j, ht, hj, rfl, rfl, e⟩ := buyP_ok c b1.2 b2
    rw [rfc_0 c]
    (try dsimp only)
    have hM2 : Mn (rmM ξ un) hc tc kc lm := by
      have h1 : Mn ξ hc tc kc lm := (hM.z).mv k2.c
      exact h1
    have hy2 : RY (rmM ξ un).1 rn tx := by
      have h1 : (rmM ξ un).1 127 19 = ν.1 127 19 := k2.2.1 19 (by omega) (by omega)
      have h2 : (rmM ξ un).1 134 = ν.1 134 := k2.1 134 (by decide) (by decide)
      unfold RY
      rw [h1, h2]
      exact hy
    have r128' : (rmM ξ un).1 128 = ν.1 128 := x128
    have r129 : (rmM ξ un).1 129 = ν.1 129 := k2.1 129 (by decide) (by decide)
    have r130 : (rmM ξ un).1 130 = ν.1 130 := k2.1 130 (by decide) (by decide)
    obtain ⟨ζ, z1, z2⟩ := y_worthOf (κ := κ) hM2 hy2 hw ht (nI j)
    rw [r128', r129, r130] at z1
    have z128 : ζ.1 128 = ν.1 128 := (z2.1 128 (by decide) (by decide)).trans r128'
    refine ⟨rowI (upI ζ 128 (36 + j) (ν.1 128 (36 + j) - vwr (ν.1 128) (ν.1 129) (ν.1 130) tc kc rn tx t (nI j))) 128 (hnd (upd (ν.1 128) (36 + j) (ν.1 128 (36 + j) - vwr (ν.1 128) (ν.1 129) (ν.1 130) tc kc rn tx t (nI j))) t (nI j)), ?_, ⟨?_, Or.inr ⟨c, ?_, ?_, ?_⟩⟩, ?_, ?_⟩
    · rw [if_pos (by decide), g127_0, obs, y_rem (ν := ξ) (un := un) (x23.trans h) hu, obs]
      unfold F_X12_goBuy
      rw [if_pos q127, g127_0, obs, i36, r128 (by omega), obs, r128', z1, obs]
      (try dsimp only)
      rw [w128 (by omega), obs, g127_0, obs, y_belong (by omega), obs, rowI_s, z128, g127_0, obs, r128 (by omega), obs, rowI_s, obs, e]
      have : hnd (upd (ν.1 128) (36 + j) (ν.1 128 (36 + j) - vwr (ν.1 128) (ν.1 129) (ν.1 130) tc kc rn tx t (nI j))) t (nI j) (36 + j) = ν.1 128 (36 + j) - vwr (ν.1 128) (ν.1 129) (ν.1 130) tc kc rn tx t (nI j) := by
        unfold hnd
        rw [pk_un (by omega), pk_un (by omega), pk_us]
      rw [this]
    · exact (((((s1.row (Or.inr (Or.inr (Or.inl rfl)))).up (Or.inr rfl)).tr z2.sr).row (Or.inl rfl)).row (Or.inl rfl))
    · rw [rowI_s, e]
    · rw [rowI_n (by decide), rowI_n (by decide), z2.1 136 (by decide) (by decide)]
      show rem (ξ.1 136) (ξ.1 128) un = _
      rw [x136, x128]
    · rw [rowI_n (by decide), rowI_n (by decide), z2.2.1 23 (by omega) (by omega)]
      rfl
    · rw [rowI_n (by decide), rowI_n (by decide), z2.2.1 10 (by omega) (by omega)]
      exact x10
    · show ζ.2 = ν.2
      rw [z2.2.2]
      exact k2.2.2
end BUY
theorem RX.sx {μ ν : Mem} {cd : List Int32} (h : RX (cl μ) cd) (s : SmX μ ν) : RX ν.1 cd := by
  have h17 : ν.1 17 = cl μ 17 := (cl_x s (a := 17) rfl)
  have h18 : ν.1 18 = cl μ 18 := (cl_x s (a := 18) rfl)
  unfold RX
  rw [h17, h18]
  exact h
theorem RY.sx {μ ν : Mem} {rn : Nat} {tx : Nat → Nat} (h : RY (cl μ) rn tx) (s : SmX μ ν) : RY ν.1 rn tx := by
  have h19 : ν.1 127 19 = cl μ 127 19 := (cl_xr s (a := 127) (j := 19) rfl (by decide))
  have h134 : ν.1 134 = cl μ 134 := (cl_x s (a := 134) rfl)
  unfold RY
  rw [h19, h134]
  exact h
theorem pr_buy : P2 F_X11_buy F_X12_buy := by
  intro x y κ B μ hR hB hI
  obtain ⟨rn, tx, cd, w1, w2, w3⟩ := Ru.get hI.ru
  have h := act_pair (κ := κ) hR hB hI 98 x y F_X12_buy (fun A mu mn hc tc kc lm _ => buyP A mu mn hc tc kc lm rn tx x y) (fun A mu mn hc tc kc lm b1 b2 hW => (buyP_o hW b1 b2 x y).up (by omega)) (fun ν A mu mn hc tc kc lm hs _ hX hW => by
    obtain ⟨ξ, h1, h2⟩ := C_bought (κ := κ) hX hW w1 (w2.sx hs) x y
    refine ⟨ξ, ?_, h2⟩
    unfold F_X11_acted
    rw [if_pos q0, if_pos rfl, h1, obs]) (fun ν hc tc kc lm un hs _ hM hW hu1 hu2 => y_buy hM hW w1 (w3.sx hs) hu1 hu2 x y)
  (try dsimp only)
  unfold F_X11_buy
  rw [if_pos q0, bnd_eta]
  exact h
