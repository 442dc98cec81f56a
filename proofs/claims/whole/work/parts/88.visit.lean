/-! PURE: pairs: visit, years. -/
theorem mod2 {a d : Nat} (h : a < 2 * d) : a % d = if a < d then a else a - d := by
  by_cases c : a < d
  · rw [if_pos c, Nat.mod_eq_of_lt c]
  · rw [if_neg c, Nat.mod_eq_sub_mod (by omega), Nat.mod_eq_of_lt (by omega)]
section VIS
variable {κ : Kp} {ν : Mem} {A mu mn : Nat → Int32} {hc tc kc lm B : Nat}
theorem hrI_kset (b2 : tc ≤ 12) {k : Nat} : ∀ n, kset (hrI A mu mn hc tc kc lm n).2 mu mn tc k = kset A mu mn tc k
  | 0 => rfl
  | n + 1 => (kset_hrA b2).trans (hrI_kset b2 n)
theorem hrI_kept (b1 : 1 ≤ hc ∧ hc ≤ 5) (b2 : tc ≤ 12) {r x : Nat} (h : A 41 = nI r) (hr : r ≤ 2000000) (hx : x < 5) : ∀ n, n ≤ 1000 → (∀ j, j < n → (r + j) % hc ≠ x) → kp (fun t => (hrI A mu mn hc tc kc lm n).2 (24 + t)) tc (nI x) = kp (fun t => A (24 + t)) tc (nI x)
  | 0, _, _ => rfl
  | n + 1, hn, hj => by
    have ih := hrI_kept b1 b2 h hr hx n (by omega) (fun j h => hj j (by omega))
    have e := hrI_41 (mu := mu) (mn := mn) (hc := hc) (tc := tc) (kc := kc) (lm := lm) h n
    show kp (fun t => hrA (hrI A mu mn hc tc kc lm n).2 mu mn hc tc kc lm (24 + t)) tc (nI x) = _
    rw [kept_hrA b2 (by omega), ih]
    apply Nat.eq_of_testBit_eq
    intro i
    rw [sd_bit]
    cases c : (hrS (hrI A mu mn hc tc kc lm n).2 mu mn hc tc kc lm).testBit i with
    | false => simp
    | true =>
      obtain ⟨c1, c2⟩ := hrS_sub i c
      have hlt := Nat.mod_lt (r + n) (show 0 < hc by omega)
      rw [e, cx_n (by omega)] at c2
      have h2 : (kp (fun t => A (24 + t)) tc (nI x)).testBit i = false := by
        rw [← ih, kp_bit, c2, decide_eq_false (p := nI ((r + n) % hc) = nI x) (fun z => hj n (by omega) ((i_eq (by omega) (by omega)).mp z)), Bool.and_false]
      rw [h2]
      rfl
def vN (hc v x : Nat) : Nat := if v ≤ x then x - v else x + hc - v
theorem vN_at {r x : Nat} (hx : x < hc) (h0 : 1 ≤ hc) : (r + vN hc (r % hc) x) % hc = x ∧ (∀ j, j < vN hc (r % hc) x → (r + j) % hc ≠ x) ∧ vN hc (r % hc) x < hc := by
  have hv := Nat.mod_lt r (show 0 < hc by omega)
  have e : ∀ j, (r + j) % hc = (r % hc + j) % hc := fun j => (Nat.mod_add_mod r hc j).symm
  generalize r % hc = v at hv e
  have hN : vN hc v x < hc := by unfold vN; split <;> omega
  refine ⟨?_, fun j hj => ?_, hN⟩
  · rw [e, mod2 (by omega)]
    unfold vN
    split <;> split <;> omega
  · rw [e, mod2 (by omega)]
    unfold vN at hj
    split at hj <;> split <;> omega
theorem x_ahead {x v : Nat} (hx : x < hc) (hv : v < hc) (b1 : hc ≤ 5) : (if 0 ≤ nI x - nI v then nI x - nI v else nI x - nI v + nI hc) = nI (vN hc v x) := by
  unfold vN
  have e0 : (0 : Int32).toInt = 0 := rfl
  by_cases c : v ≤ x
  · rw [if_pos c, pk_sub c, if_pos (show (0 : Int32) ≤ nI (x - v) from nI_le (a := 0) (by omega) (by omega))]
  · rw [if_neg c, if_neg (fun z => by rw [fa_le, pk_sub_toInt (by omega) (by omega)] at z; omega), ← pk_sub (a := x + hc) (by omega), ← nI_add, Int32.sub_eq_add_neg, Int32.sub_eq_add_neg, Int32.add_assoc, Int32.add_comm (-nI v), ← Int32.add_assoc]
theorem y_visit_loop (hM : Mn ν hc tc kc lm) {r x : Nat} (h41 : ν.1 138 41 = nI r) (hr : r ≤ 1500000) (hx : x < hc) : b_X12_visit_29 127 (nI x) bigN 0 (hp κ ν) = some (nI (vN hc (r % hc) x), hp κ (MB (rowI (M0 (rowI ν 138 (hrI (ν.1 138) (ν.1 129) (ν.1 130) hc tc kc lm (vN hc (r % hc) x)).2)) 138 (hrI (ν.1 138) (ν.1 129) (ν.1 130) hc tc kc lm (vN hc (r % hc) x + 1)).2) 0 (nI (szA (kset (ν.1 138) (ν.1 129) (ν.1 130) tc) lm (kp (fun t => ν.1 138 (24 + t)) tc (nI x)) kc)).toInt64)) := by
  have b1 := hM.2.2.2.2.1
  have b2 := hM.2.2.2.2.2.1
  obtain ⟨v1, v2, v3⟩ := vN_at (r := r) hx b1.1
  generalize vN hc (r % hc) x = N at v1 v2 v3
  have h0 := lpk (fun f i => b_X12_visit_29 127 (nI x) f (nI i) (hp κ (rowI ν 138 (hrI (ν.1 138) (ν.1 129) (ν.1 130) hc tc kc lm i).2))) N (some (nI N, hp κ (MB (rowI (M0 (rowI ν 138 (hrI (ν.1 138) (ν.1 129) (ν.1 130) hc tc kc lm N).2)) 138 (hrI (ν.1 138) (ν.1 129) (ν.1 130) hc tc kc lm (N + 1)).2) 0 (nI (szA (kset (ν.1 138) (ν.1 129) (ν.1 130) tc) lm (kp (fun t => ν.1 138 (24 + t)) tc (nI x)) kc)).toInt64))) ?_ ?_ bigN 0 (Nat.zero_le _) (by unfold bigN; omega)
  · (try dsimp only at h0)
    rw [show (hrI (ν.1 138) (ν.1 129) (ν.1 130) hc tc kc lm 0).2 = ν.1 138 from rfl, rowI_id] at h0
    exact h0
  · intro f i hi
    (try dsimp only)
    have h4 := hrI_41 (mu := ν.1 129) (mn := ν.1 130) (hc := hc) (tc := tc) (kc := kc) (lm := lm) h41 i
    have h5 := y_goHour (κ := κ) (hM.rw (m := 138) (f := (hrI (ν.1 138) (ν.1 129) (ν.1 130) hc tc kc lm i).2) (by decide)) (m := 138) rfl (by decide) (by decide) (by decide) (r := r + i) (by rw [rowI_s]; exact h4) (by omega)
    rw [rowI_s, rowI_n (by decide), rowI_n (by decide), rowI_rowI] at h5
    have e1 : (rowI ν 138 (hrI (ν.1 138) (ν.1 129) (ν.1 130) hc tc kc lm i).2).1 127 1 = nI hc := hM.1
    have hne : ¬ nI ((r + i) % hc) = nI x := fun z => v2 i hi ((i_eq (by have := Nat.mod_lt (r + i) (show 0 < hc by omega); omega) (by omega)).mp z)
    rw [b_X12_visit_29, g127_25, obs, show (41 : Int32) = nI 41 from rfl, r138 (by omega), obs, rowI_s, h4, g127_1, obs, e1, rm_n (by omega) (by omega) (by omega), obs, if_neg hne, obs, h5, obs]
    (try dsimp only)
    rw [nI_1]
    rfl
  · intro f
    (try dsimp only)
    have h4 := hrI_41 (mu := ν.1 129) (mn := ν.1 130) (hc := hc) (tc := tc) (kc := kc) (lm := lm) h41 N
    have hM2 : Mn (M0 (rowI ν 138 (hrI (ν.1 138) (ν.1 129) (ν.1 130) hc tc kc lm N).2)) hc tc kc lm := hM
    have h5 := y_goHour (κ := κ) hM2 (m := 138) rfl (by decide) (by decide) (by decide) (r := r + N) h4 (by omega)
    have e1 : (rowI ν 138 (hrI (ν.1 138) (ν.1 129) (ν.1 130) hc tc kc lm N).2).1 127 1 = nI hc := hM.1
    have e8 : (M0 (rowI ν 138 (hrI (ν.1 138) (ν.1 129) (ν.1 130) hc tc kc lm N).2)).1 138 = (hrI (ν.1 138) (ν.1 129) (ν.1 130) hc tc kc lm N).2 := rfl
    have e9 : (M0 (rowI ν 138 (hrI (ν.1 138) (ν.1 129) (ν.1 130) hc tc kc lm N).2)).1 129 = ν.1 129 ∧ (M0 (rowI ν 138 (hrI (ν.1 138) (ν.1 129) (ν.1 130) hc tc kc lm N).2)).1 130 = ν.1 130 := ⟨rfl, rfl⟩
    rw [e8, e9.1, e9.2] at h5
    have hS : hrS (hrI (ν.1 138) (ν.1 129) (ν.1 130) hc tc kc lm N).2 (ν.1 129) (ν.1 130) hc tc kc lm = szA (kset (ν.1 138) (ν.1 129) (ν.1 130) tc) lm (kp (fun t => ν.1 138 (24 + t)) tc (nI x)) kc := by
      unfold hrS
      rw [h4, cx_n (by omega), v1, hrI_kept b1 b2 h41 (by omega) (by omega) N (by omega) v2]
      exact sz_cong (fun k _ => hrI_kset b2 N)
    rw [hS] at h5
    rw [b_X12_visit_29, g127_25, obs, show (41 : Int32) = nI 41 from rfl, r138 (by omega), obs, rowI_s, h4, g127_1, obs, e1, rm_n (by omega) (by omega) (by omega), obs, v1, if_pos rfl, p10, obs, g127_25, obs, h5, obs]
    (try dsimp only)
    rw [y_tell (i := 0) (by decide) rfl, obs]
    rfl
end VIS
theorem pr_visit : P1 F_X11_visit F_X12_visit := by
  intro x κ B μ hR hB hI
  (try dsimp only)
  obtain ⟨hc, tc, kc, lm, hb⟩ := hI.bs
  have b1 := hb.b1
  have b2 := hb.b2
  have hX := hb.xc
  obtain ⟨r, hr1, hr2⟩ := hb.2.2.2.2.1.2.2
  rcases ix_hc hb x with ⟨j, hj, rfl⟩ | hx
  · have hv := Nat.mod_lt r (show 0 < hc by omega)
    generalize hSe : szA (kset (μ.1 128) (μ.1 129) (μ.1 130) tc) lm (kp (fun t => μ.1 128 (24 + t)) tc (nI j)) kc = S
    have hsz := C_seized (κ := κ) hX (x := j)
    rw [hSe] at hsz
    have hf : F_X11_visit 0 (nI j) (hp κ μ) = some (nI (vN hc (r % hc) j), hp κ (TB (T0 μ) 0 (nI S).toInt64)) := by
      unfold F_X11_visit
      rw [if_pos q0, g0_0, obs, X_hasHouse1 hb rfl hj, obs]
      (try dsimp only)
      have e1 : (TB (T0 μ) 0 (nI S).toInt64).1 1 5 = nI hc := hb.1.1
      have e2 : (TB (T0 μ) 0 (nI S).toInt64).1 2 4 = nI r := hb.hr.trans hr2
      rw [if_neg (by decide), g0_0, obs, hsz, obs]
      (try dsimp only)
      rw [x_tellOne, obs, g0_0, obs, x_visited e1 e2 b1 (by omega), obs]
      (try dsimp only)
      rw [← x_ahead hj hv b1.2]
      split
      · rfl
      · rw [g0_0, obs, g1_5, obs, e1]
    have hM : Mn (rowI (Zr (TB (T0 μ) 0 (nI S).toInt64)) 138 (fb_put (μ.1 138) (μ.1 128) 0 42)) hc tc kc lm := hb.2.1
    have hA : ∀ q, q < 42 → fb_put (μ.1 138) (μ.1 128) 0 42 q = μ.1 128 q := fun q hq => by rw [fb_put_in (by omega) (by omega), Nat.sub_zero]
    have hg := y_visit_loop (κ := κ) hM (r := r) (x := j) (by rw [rowI_s, hA 41 (by omega)]; exact hr2) (by omega) hj
    rw [rowI_s] at hg
    have e3 : (rowI (Zr (TB (T0 μ) 0 (nI S).toInt64)) 138 (fb_put (μ.1 138) (μ.1 128) 0 42)).1 129 = μ.1 129 ∧ (rowI (Zr (TB (T0 μ) 0 (nI S).toInt64)) 138 (fb_put (μ.1 138) (μ.1 128) 0 42)).1 130 = μ.1 130 := ⟨rfl, rfl⟩
    have e4 : szA (kset (fb_put (μ.1 138) (μ.1 128) 0 42) (μ.1 129) (μ.1 130) tc) lm (kp (fun t => fb_put (μ.1 138) (μ.1 128) 0 42 (24 + t)) tc (nI j)) kc = S := by
      rw [← hSe]
      have e5 : kp (fun t => fb_put (μ.1 138) (μ.1 128) 0 42 (24 + t)) tc (nI j) = kp (fun t => μ.1 128 (24 + t)) tc (nI j) := sb_cong (fun t ht => by simp only [hA (24 + t) (by omega)])
      rw [e5]
      exact sz_cong (fun k _ => kset_cg (fun t ht => hA t (by omega)))
    rw [e3.1, e3.2, e4, rowI_rowI] at hg
    generalize hrI (fb_put (μ.1 138) (μ.1 128) 0 42) (μ.1 129) (μ.1 130) hc tc kc lm (vN hc (r % hc) j) = h1 at hg
    generalize hrI (fb_put (μ.1 138) (μ.1 128) 0 42) (μ.1 129) (μ.1 130) hc tc kc lm (vN hc (r % hc) j + 1) = h2 at hg
    refine ⟨_, _, MB (rowI (M0 (rowI (Zr (TB (T0 μ) 0 (nI S).toInt64)) 138 h1.snd)) 138 h2.snd) 0 (nI S).toInt64, hf, ?_, ?_⟩
    · unfold F_X12_visit
      rw [if_pos q127, p11, obs, Y_isHouse1 hb (by rw [cl_Z, cl_TB, cl_T0]) hj, obs]
      (try dsimp only)
      rw [if_neg (by decide), g127_0, obs, g127_25, obs, show (0 : Int32) = nI 0 from rfl, y_lay (s := 128) (d := 138) (off := 0) rfl rfl (by decide) (by decide), obs]
      exact hg
    · exact inv_1 hI.1 (by rw [cl_MB, cl_row rfl (fun _ => rfl), cl_M0, cl_row rfl (fun _ => rfl), cl_Z, cl_TB, cl_T0]) rfl rfl rfl
  · refine ⟨-1, μ, Zr μ, ?_, ?_, inv_Z hI⟩
    · unfold F_X11_visit
      simp only [↓reduceIte, obs, q0, q1, q2, q11, q13, q17, q20, q21, q24, q104, q111, q112, q116, q125, q127, g0_0, g0_1, g0_2, g0_3, g0_4, g0_5, g0_6, g0_7, p0_7, g0_8, g0_9, g0_10, g0_11, g0_12, g0_13, p0_13, g0_14, g0_15, g0_16, g0_17, g0_18, g1_0, g1_1, g1_2, g1_3, g1_4, g1_5, p1_5, g1_6, p1_6, g1_7, p1_7, g1_8, p1_8, g2_0, g2_1, g2_2, g2_3, g2_4, p2_4, g11_0, g11_1, p11_1, g11_2, p11_2, g11_3, p11_3, g13_0, g13_1, g13_2, g13_3, g17_0, g17_1, g17_2, p17_2, g20_0, g20_1, g21_0, g21_1, g21_2, p21_2, g24_0, g24_1, p24_1, g24_2, p24_2, g104_0, g104_1, g104_2, g104_3, g104_4, p104_4, g111_0, g111_1, p111_1, g111_2, p111_2, g111_3, p111_3, g112_0, g112_1, g112_2, g112_3, g112_4, p112_4, g116_0, g116_1, g116_2, g116_3, g116_4, g125_0, p125_0, g125_1, p125_1, g127_0, g127_1, p127_1, g127_2, p127_2, g127_3, p127_3, g127_4, g127_5, g127_6, p127_6, g127_7, g127_8, p127_8, g127_9, g127_10, p127_10, g127_11, p127_11, g127_12, g127_13, p127_13, g127_14, p127_14, g127_15, p127_15, g127_16, p127_16, g127_17, g127_18, g127_19, p127_19, g127_20, p127_20, g127_21, g127_22, g127_23, p127_23, g127_24, g127_25, g127_26, g127_27, g127_28, g127_29, p127_29, g127_30, p127_30, g127_31, g127_32, g127_33, p127_33, g127_34, p127_34, g127_35, p127_35, g127_36, p127_36, g127_37, g127_38, p127_38, g127_39, p127_39, g127_40, g127_41, g127_42, X_hasHouse0 hb rfl hx]
    · unfold F_X12_visit
      simp only [if_pos q127, p11, ↓reduceIte, obs, Y_isHouse0 hb cl_Z hx]
/-! years -/
theorem ush16 (v : Int32) : ∃ w, w < 65536 ∧ (v.toUInt32 >>> ((16 : Int32).toUInt32 &&& Int32.toUInt32 31)).toInt32 = nI w := by
  have h1 : ∀ i, bt ((v.toUInt32 >>> ((nI 16).toUInt32 &&& Int32.toUInt32 31)).toInt32) i = bt v (16 + i) := fun i => b_ushr 16 (by decide) v i
  obtain ⟨n, hn, e⟩ := wb_of32 ((v.toUInt32 >>> ((nI 16).toUInt32 &&& Int32.toUInt32 31)).toInt32)
  refine ⟨n, ?_, e⟩
  apply Nat.lt_pow_two_of_testBit (n := 16)
  intro i hi
  by_cases c : i < 32
  · have h2 := h1 i
    rw [e, b_big (i := 16 + i) (by omega)] at h2
    have h3 : bt (nI n) i = n.testBit i := by
      unfold bt
      show (BitVec.ofNat 32 n).getLsbD i = _
      rw [BitVec.getLsbD_ofNat]
      simp [c]
    rw [h3] at h2
    exact h2
  · exact Nat.testBit_lt_two_pow (Nat.lt_of_lt_of_le hn (Nat.pow_le_pow_right (by decide) (by omega)))
noncomputable def dr (v : Int32) (n : Nat) : Nat := Classical.choose (ush16 v) % n
theorem dr_rm {v : Int32} {n : Nat} (h0 : 0 < n) (hn : n < 2 ^ 31) : rmI ((v.toUInt32 >>> ((16 : Int32).toUInt32 &&& Int32.toUInt32 31)).toInt32) (nI n) = some (nI (dr v n)) := by
  obtain ⟨h1, h2⟩ := Classical.choose_spec (ush16 v)
  rw [h2, rm_n (by omega) h0 hn]
  rfl
theorem dr_lt {v : Int32} {n : Nat} (h0 : 0 < n) : dr v n < n := Nat.mod_lt _ h0
def nx (v : Int32) : Int32 := v * 1103515245 + 12345
/-- seed, given, taken, state -/
abbrev Ys : Type := Int32 × Nat × Nat × (Nat → Int32)
noncomputable def yrH (hc tc : Nat) (q : Ys) : Nat → Int32 := if q.2.2.2 (12 + dr (nx q.1) tc) = -1 then q.2.2.2 else hnd q.2.2.2 (dr (nx q.1) tc) (nI (dr (nx (nx q.1)) hc))
noncomputable def yrS (mu mn : Nat → Int32) (hc tc kc lm : Nat) (q : Ys) : Ys := (nx (nx q.1), (if q.2.2.2 (12 + dr (nx q.1) tc) = -1 then q.2.1 else q.2.1 + 1), q.2.2.1 ||| hrS (yrH hc tc q) mu mn hc tc kc lm, hrA (yrH hc tc q) mu mn hc tc kc lm)
noncomputable def yrI (seed : Int32) (A mu mn : Nat → Int32) (hc tc kc lm : Nat) : Nat → Ys
  | 0 => (seed, 0, 0, A)
  | n + 1 => yrS mu mn hc tc kc lm (yrI seed A mu mn hc tc kc lm n)
def YO (hc tc B : Nat) (q : Ys) : Prop := WS q.2.2.2 hc tc B ∧ q.2.2.1 < 4096 ∧ ∀ t, q.2.2.1.testBit t = true → t < tc ∧ q.2.2.2 (24 + t) = -1 ∧ q.2.2.2 (12 + t) = -1
section YRS
variable {κ : Kp} {μ ν : Mem} {A mu mn : Nat → Int32} {hc tc kc lm B : Nat}
theorem yrH_ws {q : Ys} (h : WS q.2.2.2 hc tc B) (b1 : 1 ≤ hc ∧ hc ≤ 5) (b2 : tc ≤ 12) (b0 : 1 ≤ tc) : WS (yrH hc tc q) hc tc B := by
  unfold yrH
  split
  · exact h
  · exact hnd_ws h (dr_lt (by omega)) b2 (dr_lt (by omega)) b1.2
theorem yrS_o {q : Ys} (h : YO hc tc B q) (b1 : 1 ≤ hc ∧ hc ≤ 5) (b2 : tc ≤ 12) (b0 : 1 ≤ tc) (hB : B ≤ 2000000) : YO hc tc (B + 1) (yrS mu mn hc tc kc lm q) ∧ ∀ t, (hrS (yrH hc tc q) mu mn hc tc kc lm).testBit t = true → q.2.2.1.testBit t = false := by
  obtain ⟨h1, h2, h3⟩ := h
  have hW := yrH_ws h1 b1 b2 b0
  have hk : ∀ t, q.2.2.1.testBit t = true → t < tc ∧ yrH hc tc q (24 + t) = -1 ∧ yrH hc tc q (12 + t) = -1 := fun t ht => by
    obtain ⟨k1, k2, k3⟩ := h3 t ht
    refine ⟨k1, ?_⟩
    unfold yrH
    split
    · exact ⟨k2, k3⟩
    next c =>
      have hd := dr_lt (v := nx q.1) (n := tc) (by omega)
      have n1 : t ≠ dr (nx q.1) tc := fun z => by rw [← z] at c; exact c k3
      unfold hnd
      rw [pk_un (j := 24 + t) (by omega), pk_un (j := 24 + t) (by omega), pk_un (j := 12 + t) (by omega), pk_un (j := 12 + t) (by omega)]
      exact ⟨k2, k3⟩
  have hdis : ∀ t, (hrS (yrH hc tc q) mu mn hc tc kc lm).testBit t = true → q.2.2.1.testBit t = false := fun t ht => by
    cases c : q.2.2.1.testBit t with
    | false => rfl
    | true =>
      obtain ⟨k1, k2, k3⟩ := hk t c
      obtain ⟨j1, j2⟩ := hrS_sub t ht
      rw [k2] at j2
      have hlt := Nat.mod_lt (cx (yrH hc tc q 41)) (show 0 < hc by omega)
      exact absurd j2.symm (nI_m1 (by omega))
  refine ⟨⟨hrA_ws hW b1.2 b2 hB, or_l (n := 12) h2 (hrS_lt b2), fun t ht => ?_⟩, hdis⟩
  have ht' : (q.2.2.1 ||| hrS (yrH hc tc q) mu mn hc tc kc lm).testBit t = true := ht
  show t < tc ∧ hrA (yrH hc tc q) mu mn hc tc kc lm (24 + t) = -1 ∧ hrA (yrH hc tc q) mu mn hc tc kc lm (12 + t) = -1
  rw [Nat.testBit_or, Bool.or_eq_true] at ht'
  have hlt : t < tc := by
    rcases ht' with c | c
    · exact (hk t c).1
    · exact (hrS_sub t c).1
  rw [hrA_n (q := 24 + t) (by omega), hrA_n (q := 12 + t) (by omega), tkn_k (by omega), tkn_o (by omega)]
  refine ⟨hlt, ?_⟩
  by_cases c : (hrS (yrH hc tc q) mu mn hc tc kc lm).testBit t = true
  · rw [if_pos c, if_pos c]
    exact ⟨rfl, rfl⟩
  · rw [if_neg c, if_neg c]
    rcases ht' with c2 | c2
    · exact (hk t c2).2
    · exact absurd c2 c
theorem yrI_o (h : WS A hc tc B) (b1 : 1 ≤ hc ∧ hc ≤ 5) (b2 : tc ≤ 12) (b0 : 1 ≤ tc) (hB : B ≤ 1500000) (seed : Int32) : ∀ n, n ≤ 1000 → YO hc tc (B + n) (yrI seed A mu mn hc tc kc lm n)
  | 0, _ => ⟨h, by show 0 < 4096; omega, fun t ht => by
      have : (0 : Nat).testBit t = true := ht
      rw [Nat.zero_testBit] at this
      cases this⟩
  | n + 1, hn => (yrS_o (B := B + n) (yrI_o h b1 b2 b0 hB seed n (by omega)) b1 b2 b0 (by omega)).1
theorem yrI_g (seed : Int32) : ∀ n, (yrI seed A mu mn hc tc kc lm n).2.1 ≤ n
  | 0 => Nat.le_refl _
  | n + 1 => by
    have h1 := yrI_g seed n
    have e : (yrI seed A mu mn hc tc kc lm (n + 1)).2.1 = if (yrI seed A mu mn hc tc kc lm n).2.2.2 (12 + dr (nx (yrI seed A mu mn hc tc kc lm n).1) tc) = -1 then (yrI seed A mu mn hc tc kc lm n).2.1 else (yrI seed A mu mn hc tc kc lm n).2.1 + 1 := rfl
    rw [e]
    split
    · exact Nat.le_trans h1 (Nat.le_succ n)
    · exact Nat.succ_le_succ h1
theorem cn_dis {a b : Nat} (h : ∀ t, b.testBit t = true → a.testBit t = false) : cn (a ||| b) = cn a + cn b := by
  unfold cn
  rw [← fb_ct_or (fun k _ z => by rw [h k z.2] at z; cases z.1)]
  exact fb_ct_cong (fun k _ => Nat.testBit_or _ _ _)
theorem x_drawn {v : Int32} {n : Nat} (h0 : 0 < n) (hn : n < 2 ^ 31) (h : ci_H) : F_X11_drawn v (nI n) h = some (nI (dr v n), h) := by
  unfold F_X11_drawn
  rw [if_pos (show (1 : Int32) ≤ nI n from nI_le (a := 1) (by omega) (by omega)), dr_rm h0 hn, obs]
theorem y_draw {v : Int32} {n : Nat} (hv : ν.1 127 38 = v) (h0 : 0 < n) (hn : n < 2 ^ 31) : F_X12_draw 127 (nI n) (hp κ ν) = some (nI (dr (nx v) n), hp κ (upI ν 127 38 (nx v))) := by
  unfold F_X12_draw
  rw [if_pos q127, g127_38, obs, hv, p127_38, obs, g127_38, obs, rowI_s, pk_us]
  show ((rmI (((nx v).toUInt32 >>> ((16 : Int32).toUInt32 &&& Int32.toUInt32 31)).toInt32) (nI n)).bind _) = _
  rw [dr_rm h0 hn, obs]
  rfl
theorem C_years (h : Xc μ A mu mn hc tc kc lm) (hW : WS A hc tc B) (hB : B ≤ 1500000) (b0 : 1 ≤ tc) {n : Nat} (hn : n ≤ 60) (seed : Int32) : ∃ ξ, XA μ ξ (yrI seed A mu mn hc tc kc lm n).2.2.2 mu mn hc tc kc lm ∧ b_X11_years_51 0 (nI n) bigN seed 0 0 0 (hp κ μ) = b_X11_years_51 0 (nI n) (4999 - n + 1) (yrI seed A mu mn hc tc kc lm n).1 (nI (yrI seed A mu mn hc tc kc lm n).2.1) (nI (yrI seed A mu mn hc tc kc lm n).2.2.1) (nI n) (hp κ ξ) := by
  have b1 := h.b1
  have b2 := h.b2
  obtain ⟨ξ, hx1, hx2⟩ := lpe (fun f i (ν : Mem) => b_X11_years_51 0 (nI n) f (yrI seed A mu mn hc tc kc lm i).1 (nI (yrI seed A mu mn hc tc kc lm i).2.1) (nI (yrI seed A mu mn hc tc kc lm i).2.2.1) (nI i) (hp κ ν)) (fun i ν => XA μ ν (yrI seed A mu mn hc tc kc lm i).2.2.2 mu mn hc tc kc lm) n (fun i ν hi hQ => by
    have hO := yrI_o (mu := mu) (mn := mn) (kc := kc) (lm := lm) hW b1 b2 b0 hB seed i (by omega)
    have hstep : yrI seed A mu mn hc tc kc lm (i + 1) = yrS mu mn hc tc kc lm (yrI seed A mu mn hc tc kc lm i) := rfl
    rw [hstep]
    generalize yrI seed A mu mn hc tc kc lm i = q at hQ hO
    have hd := dr_lt (v := nx q.1) (n := tc) (by omega)
    have hWh := yrH_ws (hc := hc) (tc := tc) hO.1 b1 b2 b0
    obtain ⟨r, hr1, hr2⟩ := hWh.2.2
    have hH : ∃ ζ, XA μ ζ (yrH hc tc q) mu mn hc tc kc lm ∧ ζ = (if q.2.2.2 (12 + dr (nx q.1) tc) = -1 then ν else upI (upI ν 3 (dr (nx q.1) tc) (nI (dr (nx (nx q.1)) hc))) 4 (dr (nx q.1) tc) (nI (dr (nx (nx q.1)) hc))) := by
      refine ⟨_, ?_, rfl⟩
      unfold yrH
      split
      · exact hQ
      · exact hQ.tr (hand_xa hQ.1 (by omega) _)
    obtain ⟨ζ, hz1, hz2⟩ := hH
    obtain ⟨ξ, g1, g2⟩ := C_passHour (κ := κ) hz1.1 (r := r) hr2 (by omega)
    refine ⟨ξ, fun f => ?_, hz1.tr g2⟩
    (try dsimp only)
    have e3 : ν.1 3 (dr (nx q.1) tc) = q.2.2.2 (12 + dr (nx q.1) tc) := (hQ.1.2.1.1 _ (by omega)).2.1
    rw [b_X11_years_51, if_neg (nI_ge hi (by omega))]
    unfold F_X11_nextRandom b_X11_years_124
    simp only [obs, g0_0, g1_6, hQ.1.1.2.1, g1_5, hQ.1.1.1]
    rw [show q.1 * 1103515245 + 12345 = nx q.1 from rfl, show nx q.1 * 1103515245 + 12345 = nx (nx q.1) from rfl, x_drawn (by omega) (by omega)]
    simp only [obs, g0_0, g1_5, hQ.1.1.1]
    rw [x_drawn (by omega) (by omega)]
    simp only [obs, g0_0, g1_0, g2_0, r3 (show dr (nx q.1) tc < 12 by omega), e3]
    unfold yrS
    by_cases c : q.2.2.2 (12 + dr (nx q.1) tc) = -1
    · rw [if_pos c] at hz2
      subst hz2
      simp only [if_pos c, g1, obs, i_or, nI_1]
    · rw [if_neg c] at hz2
      subst hz2
      simp only [if_neg c, x_hand (show dr (nx q.1) tc < 12 by omega), obs, g0_0, g1, i_or, nI_1]) μ (XA.rf h) n (Nat.le_refl n)
  refine ⟨ξ, hx1, ?_⟩
  have h9 := hx2 (4999 - n + 1)
  (try dsimp only at h9)
  rw [show 4999 - n + 1 + n = 5000 by omega] at h9
  exact h9
def yrM (ν : Mem) (q : Ys) : Mem := rowI (upI ν 127 38 q.1) 138 q.2.2.2
theorem yrM_u {v w : Int32} {g : Nat → Int32} : upI (rowI (upI ν 127 38 v) 138 g) 127 38 w = rowI (upI ν 127 38 w) 138 g := by
  refine Prod.ext ?_ rfl
  funext z
  show (if z = 127 then upd ((rowI (upI ν 127 38 v) 138 g).1 127) 38 w else if z = 138 then g else if z = 127 then upd (ν.1 127) 38 v else ν.1 z) = (if z = 138 then g else if z = 127 then upd (ν.1 127) 38 w else ν.1 z)
  by_cases c : z = 127
  · subst c
    simp only [↓reduceIte, show ¬ (127 : Nat) = 138 by decide]
    exact fa_upd_twice _ _ _ _
  · simp only [if_neg c]
theorem y_years_step (hM : Mn ν hc tc kc lm) (hB : B ≤ 2000000) (b0 : 1 ≤ tc) {n i : Nat} (hn : n ≤ 60) (hi : i < n) (q : Ys) (hO : YO hc tc B q) (f : Nat) : b_X12_years_52 127 (nI n) (f + 1) (nI (cn q.2.2.1)) (nI q.2.1) (nI i) (hp κ (yrM ν q)) = b_X12_years_52 127 (nI n) f (nI (cn (yrS (ν.1 129) (ν.1 130) hc tc kc lm q).2.2.1)) (nI (yrS (ν.1 129) (ν.1 130) hc tc kc lm q).2.1) (nI (i + 1)) (hp κ (yrM ν (yrS (ν.1 129) (ν.1 130) hc tc kc lm q))) := by
  have b1 := hM.2.2.2.2.1
  have b2 := hM.2.2.2.2.2.1
  obtain ⟨seed, gv, tkS, A⟩ := q
  have hd := dr_lt (v := nx seed) (n := tc) (by omega)
  have hWh := yrH_ws (hc := hc) (tc := tc) hO.1 b1 b2 b0
  obtain ⟨r, hr1, hr2⟩ := hWh.2.2
  have hdis := (yrS_o (mu := ν.1 129) (mn := ν.1 130) (kc := kc) (lm := lm) hO b1 b2 b0 hB).2
  have hSl := hrS_lt (A := yrH hc tc (seed, gv, tkS, A)) (mu := ν.1 129) (mn := ν.1 130) (hc := hc) (kc := kc) (lm := lm) b2
  have hM2 : Mn (rowI (upI ν 127 38 (nx (nx seed))) 138 (yrH hc tc (seed, gv, tkS, A))) hc tc kc lm := hM
  have hg := y_goHour (κ := κ) hM2 (m := 138) rfl (by decide) (by decide) (by decide) (r := r) (by rw [rowI_s]; exact hr2) (by omega)
  rw [rowI_s, rowI_rowI] at hg
  have e9 : (rowI (upI ν 127 38 (nx (nx seed))) 138 (yrH hc tc (seed, gv, tkS, A))).1 129 = ν.1 129 ∧ (rowI (upI ν 127 38 (nx (nx seed))) 138 (yrH hc tc (seed, gv, tkS, A))).1 130 = ν.1 130 := ⟨rfl, rfl⟩
  rw [e9.1, e9.2] at hg
  have m2 : (rowI (upI ν 127 38 seed) 138 A).1 127 2 = nI tc := hM.2.1
  have m1 : (rowI (upI ν 127 38 (nx seed)) 138 A).1 127 1 = nI hc := hM.1
  unfold yrM
  (try dsimp only)
  rw [b_X12_years_52, if_neg (nI_ge hi (by omega)), g127_2, obs, m2, y_draw (ν := rowI (upI ν 127 38 seed) 138 A) (v := seed) rfl (by omega) (by omega), obs, yrM_u]
  (try dsimp only)
  rw [g127_1, obs, m1, y_draw (ν := rowI (upI ν 127 38 (nx seed)) 138 A) (v := nx seed) rfl (by omega) (by omega), obs, yrM_u]
  (try dsimp only)
  rw [g127_25, obs, i12, r138 (show 12 + dr (nx seed) tc < 42 by omega), obs, rowI_s]
  unfold b_X12_years_106 yrS
  (try dsimp only)
  rw [cn_dis hdis]
  by_cases c : A (12 + dr (nx seed) tc) = -1
  · have ey : yrH hc tc (seed, gv, tkS, A) = A := by unfold yrH; exact if_pos c
    rw [ey] at hg hSl ⊢
    rw [if_pos c, if_pos c, g127_25, obs, hg, obs]
    (try dsimp only)
    rw [bc hSl, obs]
    (try dsimp only)
    rw [nI_add, nI_1]
  · have ey : yrH hc tc (seed, gv, tkS, A) = hnd A (dr (nx seed) tc) (nI (dr (nx (nx seed)) hc)) := by unfold yrH; exact if_neg c
    rw [ey] at hg hSl ⊢
    rw [if_neg c, if_neg c, obs, y_belongM (κ := κ) (m := 138) rfl (show dr (nx seed) tc < 12 by omega), obs, g127_25, obs, rowI_s, rowI_rowI, hg, obs]
    (try dsimp only)
    rw [bc hSl, obs]
    (try dsimp only)
    rw [nI_add, nI_1, nI_1]
theorem y_years (hM : Mn ν hc tc kc lm) (hW : WS (ν.1 138) hc tc B) (hB : B ≤ 1500000) (b0 : 1 ≤ tc) {n : Nat} (hn : n ≤ 60) (seed : Int32) (h38 : ν.1 127 38 = seed) : ∃ u, b_X12_years_52 127 (nI n) bigN 0 0 0 (hp κ ν) = some (nI (cn (yrI seed (ν.1 138) (ν.1 129) (ν.1 130) hc tc kc lm n).2.2.1), hp κ (MM (yrM ν (yrI seed (ν.1 138) (ν.1 129) (ν.1 130) hc tc kc lm n)) (nI (yrI seed (ν.1 138) (ν.1 129) (ν.1 130) hc tc kc lm n).2.1).toInt64 u)) ∧ u = (nI (cn (bh (yrI seed (ν.1 138) (ν.1 129) (ν.1 130) hc tc kc lm n).2.2.2 (ν.1 129) (ν.1 130) hc tc kc lm))).toInt64 := by
  have b1 := hM.2.2.2.2.1
  have b2 := hM.2.2.2.2.2.1
  refine ⟨_, ?_, rfl⟩
  have h0 := lpk (fun f i => b_X12_years_52 127 (nI n) f (nI (cn (yrI seed (ν.1 138) (ν.1 129) (ν.1 130) hc tc kc lm i).2.2.1)) (nI (yrI seed (ν.1 138) (ν.1 129) (ν.1 130) hc tc kc lm i).2.1) (nI i) (hp κ (yrM ν (yrI seed (ν.1 138) (ν.1 129) (ν.1 130) hc tc kc lm i)))) n (some (nI (cn (yrI seed (ν.1 138) (ν.1 129) (ν.1 130) hc tc kc lm n).2.2.1), hp κ (MM (yrM ν (yrI seed (ν.1 138) (ν.1 129) (ν.1 130) hc tc kc lm n)) (nI (yrI seed (ν.1 138) (ν.1 129) (ν.1 130) hc tc kc lm n).2.1).toInt64 (nI (cn (bh (yrI seed (ν.1 138) (ν.1 129) (ν.1 130) hc tc kc lm n).2.2.2 (ν.1 129) (ν.1 130) hc tc kc lm))).toInt64))) ?_ ?_ bigN 0 (Nat.zero_le _) (by unfold bigN; omega)
  · have e : yrM ν (yrI seed (ν.1 138) (ν.1 129) (ν.1 130) hc tc kc lm 0) = ν := by
      show rowI (upI ν 127 38 seed) 138 (ν.1 138) = ν
      have e : upI ν 127 38 seed = ν := by
        rw [← h38]
        show rowI ν 127 (upd (ν.1 127) 38 (ν.1 127 38)) = ν
        rw [fa_upd_same rfl, rowI_id]
      rw [e, rowI_id]
    have e1 : cn (yrI seed (ν.1 138) (ν.1 129) (ν.1 130) hc tc kc lm 0).2.2.1 = 0 := cn_0
    have e2 : (yrI seed (ν.1 138) (ν.1 129) (ν.1 130) hc tc kc lm 0).2.1 = 0 := rfl
    (try dsimp only at h0)
    rw [e, e1, e2] at h0
    exact h0
  · intro f i hi
    have hO := yrI_o (mu := ν.1 129) (mn := ν.1 130) (kc := kc) (lm := lm) hW b1 b2 b0 hB seed i (by omega)
    exact y_years_step hM (by omega) b0 hn hi _ hO f
  · intro f
    (try dsimp only)
    generalize yrI seed (ν.1 138) (ν.1 129) (ν.1 130) hc tc kc lm n = q
    have hM2 : Mn (MB (M0 (yrM ν q)) 0 (nI q.2.1).toInt64) hc tc kc lm := hM
    have hbh := y_brokenHouses (κ := κ) hM2 (m := 138) rfl
    have e8 : (MB (M0 (yrM ν q)) 0 (nI q.2.1).toInt64).1 138 = q.2.2.2 ∧ (MB (M0 (yrM ν q)) 0 (nI q.2.1).toInt64).1 129 = ν.1 129 ∧ (MB (M0 (yrM ν q)) 0 (nI q.2.1).toInt64).1 130 = ν.1 130 := ⟨rfl, rfl, rfl⟩
    rw [e8.1, e8.2.1, e8.2.2] at hbh
    have hl : bh q.2.2.2 (ν.1 129) (ν.1 130) hc tc kc lm < 4096 := Nat.lt_of_lt_of_le (sb_le _ (m := 5) b1.2) (by decide)
    rw [b_X12_years_52, if_pos (nI_le (Nat.le_refl n) (by omega)), p10, obs, y_tell0, obs, g127_25, obs, hbh, obs]
    (try dsimp only)
    rw [bc hl, obs]
    (try dsimp only)
    rw [y_tell1 (i := 0) (by decide), obs]
    rfl
end YRS
theorem bh_cg {A A' mu mn : Nat → Int32} {hc tc kc lm : Nat} (b2 : tc ≤ 12) (e : ∀ q, q < 42 → A' q = A q) : bh A' mu mn hc tc kc lm = bh A mu mn hc tc kc lm := by
  unfold bh
  refine sb_cong (fun x _ => ?_)
  have e1 : kp (fun t => A' (24 + t)) tc (nI x) = kp (fun t => A (24 + t)) tc (nI x) := sb_cong (fun t ht => by simp only [e (24 + t) (by omega)])
  have e2 : ∀ s, bb A' mu mn tc kc lm s = bb A mu mn tc kc lm s := fun s => sb_cong (fun k _ => by
    have : mo A' mu mn tc s k = mo A mu mn tc s k := fb_ct_cong (fun t ht => by rw [e t (by omega)])
    rw [this])
  rw [e1, e2]
theorem hrS_cg {A A' mu mn : Nat → Int32} {hc tc kc lm : Nat} (b2 : tc ≤ 12) (e : ∀ q, q < 42 → A' q = A q) : hrS A' mu mn hc tc kc lm = hrS A mu mn hc tc kc lm := by
  unfold hrS
  have e1 : kp (fun t => A' (24 + t)) tc (nI (cx (A 41) % hc)) = kp (fun t => A (24 + t)) tc (nI (cx (A 41) % hc)) := sb_cong (fun t ht => by simp only [e (24 + t) (by omega)])
  rw [e 41 (by omega), e1]
  exact sz_cong (fun k _ => kset_cg (fun t ht => e t (by omega)))
theorem hrA_cg {A A' mu mn : Nat → Int32} {hc tc kc lm : Nat} (b2 : tc ≤ 12) (e : ∀ q, q < 42 → A' q = A q) : ∀ q, q < 42 → hrA A' mu mn hc tc kc lm q = hrA A mu mn hc tc kc lm q := fun q hq => by
  unfold hrA
  rw [hrS_cg b2 e, e 41 (by omega)]
  by_cases c : q = 41
  · subst c; rw [pk_us, pk_us]
  · rw [pk_un c, pk_un c]
    unfold tkn
    rw [e q hq]
theorem hnd_cg {A A' : Nat → Int32} {t : Nat} {y : Int32} (e : ∀ q, q < 42 → A' q = A q) : ∀ q, q < 42 → hnd A' t y q = hnd A t y q := fun q hq => by
  unfold hnd
  by_cases c1 : q = 24 + t
  · subst c1; rw [pk_us, pk_us]
  · rw [pk_un c1, pk_un c1]
    by_cases c2 : q = 12 + t
    · subst c2; rw [pk_us, pk_us]
    · rw [pk_un c2, pk_un c2]; exact e q hq
theorem yrI_cg {A A' mu mn : Nat → Int32} {hc tc kc lm : Nat} (b0 : 1 ≤ tc) (b2 : tc ≤ 12) (e : ∀ q, q < 42 → A' q = A q) (seed : Int32) : ∀ n, (yrI seed A' mu mn hc tc kc lm n).1 = (yrI seed A mu mn hc tc kc lm n).1 ∧ (yrI seed A' mu mn hc tc kc lm n).2.1 = (yrI seed A mu mn hc tc kc lm n).2.1 ∧ (yrI seed A' mu mn hc tc kc lm n).2.2.1 = (yrI seed A mu mn hc tc kc lm n).2.2.1 ∧ ∀ q, q < 42 → (yrI seed A' mu mn hc tc kc lm n).2.2.2 q = (yrI seed A mu mn hc tc kc lm n).2.2.2 q
  | 0 => ⟨rfl, rfl, rfl, e⟩
  | n + 1 => by
    obtain ⟨h1, h2, h3, h4⟩ := yrI_cg (mu := mu) (mn := mn) (hc := hc) (kc := kc) (lm := lm) b0 b2 e seed n
    have es : ∀ A0, yrI seed A0 mu mn hc tc kc lm (n + 1) = yrS mu mn hc tc kc lm (yrI seed A0 mu mn hc tc kc lm n) := fun A0 => rfl
    rw [es, es]
    generalize yrI seed A' mu mn hc tc kc lm n = p at h1 h2 h3 h4
    generalize yrI seed A mu mn hc tc kc lm n = q at h1 h2 h3 h4
    have hd := dr_lt (v := nx q.1) (n := tc) (by omega)
    have e5 : p.2.2.2 (12 + dr (nx q.1) tc) = q.2.2.2 (12 + dr (nx q.1) tc) := h4 _ (by omega)
    have e6 : ∀ i, i < 42 → yrH hc tc p i = yrH hc tc q i := fun i hi => by
      unfold yrH
      rw [h1, e5]
      split
      · exact h4 i hi
      · exact hnd_cg h4 i hi
    unfold yrS
    (try dsimp only)
    rw [h1, h2, h3, e5, hrS_cg b2 e6]
    exact ⟨rfl, rfl, rfl, hrA_cg b2 e6⟩
theorem yr_tr {seed : Int32} {A mu mn : Nat → Int32} {hc tc kc lm : Nat} (b2 : tc ≤ 12) {t : Nat} (ht : t < 12) : ∀ n, (yrI seed A mu mn hc tc kc lm n).2.2.2 t = A t
  | 0 => rfl
  | n + 1 => by
    have h := yr_tr (seed := seed) (A := A) (mu := mu) (mn := mn) (hc := hc) (kc := kc) (lm := lm) b2 ht n
    show hrA (yrH hc tc (yrI seed A mu mn hc tc kc lm n)) mu mn hc tc kc lm t = A t
    rw [hrA_n (by omega), tkn_t (by omega), ← h]
    unfold yrH
    split
    · rfl
    · unfold hnd
      rw [pk_un (by omega), pk_un (by omega)]
set_option maxRecDepth 20000 in
theorem pr_years : P2 F_X11_years F_X12_years := by
  intro seed x κ B μ hR hB hI
  (try dsimp only)
  obtain ⟨hc, tc, kc, lm, hb⟩ := hI.bs
  have b1 := hb.b1
  have b2 := hb.b2
  have hX := hb.xc
  have hws : WS (μ.1 128) hc tc B := hb.2.2.2.2.1
  have t2 : μ.1 1 6 = nI tc := hb.1.2.1
  have m2 : ∀ ν : Mem, ν.1 127 2 = μ.1 127 2 → ν.1 127 2 = nI tc := fun ν h => h.trans hb.2.1.2.1
  by_cases c0 : tc = 0
  · subst c0
    refine ⟨-2, μ, Zr μ, ?_, ?_, inv_Z hI⟩
    · unfold F_X11_years
      rw [if_pos q0, g0_0, obs, g1_6, obs, t2]
      rfl
    · unfold F_X12_years
      have e : (Zr μ).1 127 2 = nI 0 := hb.2.1.2.1
      rw [if_pos q127, p11, obs, g127_2, obs, e]
      rfl
  · have n0 : ¬ nI tc = 0 := fun z => c0 ((i_eq0 (by omega)).mp z)
    rcases rng x 1 60 1 60 rfl rfl (by omega) (by omega) with ⟨n, j1, j2, rfl, c1, c2, c3, c4, c5⟩ | ⟨c1, c2, c3⟩ | ⟨c1, c2, c3, c4, c5⟩
    · have hXc : Xc (cpS μ 104 2) (μ.1 128) (μ.1 129) (μ.1 130) hc tc kc lm := ⟨hX.1.cg rfl, hX.2.1, hX.2.2.1.cg rfl rfl, hX.2.2.2⟩
      obtain ⟨ξ, hx1, hx2⟩ := C_years (κ := κ) hXc hws (by omega) (by omega) j2 seed
      have hO := yrI_o (mu := μ.1 129) (mn := μ.1 130) (kc := kc) (lm := lm) hws b1 b2 (by omega) (by omega) seed n (by omega)
      generalize hY : yrI seed (μ.1 128) (μ.1 129) (μ.1 130) hc tc kc lm n = Y at hx1 hx2 hO
      have hbl : bh Y.2.2.2 (μ.1 129) (μ.1 130) hc tc kc lm < 4096 := Nat.lt_of_lt_of_le (sb_le _ (m := 5) b1.2) (by decide)
      generalize hv : (nI Y.2.1).toInt64 = v
      generalize hu : (nI (cn (bh Y.2.2.2 (μ.1 129) (μ.1 130) hc tc kc lm))).toInt64 = u
      have nx1 : ∀ a, [2, 3, 4, 5, 6, 9, 10, 19].contains a = false → ξ.1 a = (cpS μ 104 2).1 a := fun a ha => hx1.2.1 a ha
      have hf : F_X11_years 0 seed (nI n) (hp κ μ) = some (nI (cn Y.2.2.1), hp κ (TT (cpS ξ 2 104) v u)) := by
        unfold F_X11_years
        rw [if_pos q0, g0_0, obs, g1_6, obs, t2, if_neg n0, if_neg c1, if_pos c4, g0_10, obs, obs, g1_0, obs, x_copy st_s st_2 (by decide), obs, hx2, b_X11_years_51, if_pos (nI_le (Nat.le_refl n) (by omega)), g0_0, obs, C_breakers hx1.1, obs]
        (try dsimp only)
        rw [bc hbl, obs]
        (try dsimp only)
        rw [g0_0, obs, g1_0, obs, g0_10, obs, x_copy st_2 st_s (by decide), obs, hv, hu, x_tellTwo, obs, bc hO.2.1, obs]
        rfl
      generalize hν : TT (cpS ξ 2 104) v u = ν at hf
      have en : ∀ a, a ≠ 0 → ¬ (2 ≤ a ∧ a ≤ 6) → ¬ (104 ≤ a ∧ a ≤ 108) → a ≠ 9 → a ≠ 10 → a ≠ 19 → ν.1 a = μ.1 a := fun a a1 a2 a3 a4 a5 a6 => by
        rw [← hν, TT_n a1, cpS_out (by omega), nx1 a (by simp only [List.contains_eq_mem, List.mem_cons, List.not_mem_nil, or_false, decide_eq_false_iff_not, not_or]; omega), cpS_out (by omega)]
      have e127 : ν.1 127 = μ.1 127 := en 127 (by omega) (by omega) (by omega) (by omega) (by omega) (by omega)
      have e128 : ν.1 128 = μ.1 128 := en 128 (by omega) (by omega) (by omega) (by omega) (by omega) (by omega)
      have e129 : ν.1 129 = μ.1 129 := en 129 (by omega) (by omega) (by omega) (by omega) (by omega) (by omega)
      have e130 : ν.1 130 = μ.1 130 := en 130 (by omega) (by omega) (by omega) (by omega) (by omega) (by omega)
      have hMν : Mn ν hc tc kc lm := by
        unfold Mn
        rw [e127]
        exact hb.2.1
      have hA : ∀ q, q < 42 → fb_put (ν.1 138) (ν.1 128) 0 42 q = μ.1 128 q := fun q hq => by rw [fb_put_in (by omega) (by omega), Nat.sub_zero, e128]
      have hM2 : Mn (rowI (upI (Zr ν) 127 38 seed) 138 (fb_put (ν.1 138) (ν.1 128) 0 42)) hc tc kc lm := hMν
      obtain ⟨u', hg1, hg2⟩ := y_years (κ := κ) hM2 (B := B) (by rw [rowI_s]; exact hws.cA hA b2 b1.2) (by omega) (by omega) j2 seed rfl
      have e9 : (rowI (upI (Zr ν) 127 38 seed) 138 (fb_put (ν.1 138) (ν.1 128) 0 42)).1 129 = μ.1 129 ∧ (rowI (upI (Zr ν) 127 38 seed) 138 (fb_put (ν.1 138) (ν.1 128) 0 42)).1 130 = μ.1 130 := ⟨e129, e130⟩
      rw [rowI_s, e9.1, e9.2] at hg1 hg2
      have hcg := yrI_cg (mu := μ.1 129) (mn := μ.1 130) (hc := hc) (kc := kc) (lm := lm) (by omega) b2 hA seed n
      rw [hY] at hcg
      generalize yrI seed (fb_put (ν.1 138) (ν.1 128) 0 42) (μ.1 129) (μ.1 130) hc tc kc lm n = Y' at hg1 hg2 hcg
      rw [hcg.2.1, hcg.2.2.1, hv] at hg1
      rw [bh_cg b2 hcg.2.2.2, hu] at hg2
      subst hg2
      refine ⟨_, ν, MM (yrM (rowI (upI (Zr ν) 127 38 seed) 138 (fb_put (ν.1 138) (ν.1 128) 0 42)) Y') v u', hf, ?_, ?_, ?_⟩
      · unfold F_X12_years
        have e : (Zr ν).1 127 2 = nI tc := hMν.2.1
        rw [if_pos q127, p11, obs, g127_2, obs, e, if_neg n0, c5, obs]
        (try dsimp only)
        rw [if_neg (by decide), p127_38, obs, g127_0, obs, g127_25, obs, show (0 : Int32) = nI 0 from rfl, y_lay (s := 128) (d := 138) (off := 0) rfl rfl (by decide) (by decide), obs]
        exact hg1
      · obtain ⟨hc', tc', kc', lm', hir, hsr, hws', hso, hpa⟩ := hI.1.ir
        have hT := hir.tn
        have eh : hc = hc' := (i_eq (by omega) (by have := hT.2.2.2.2.1; omega)).mp (hb.1.1.symm.trans hT.1)
        have et : tc = tc' := (i_eq (by omega) (by have := hT.2.2.2.2.2.1; omega)).mp (hb.1.2.1.symm.trans hT.2.1)
        have ek : kc = kc' := (i_eq (by have := hb.b3; omega) (by have := hT.2.2.2.2.2.2.1; omega)).mp (hb.1.2.2.1.symm.trans hT.2.2.1)
        subst eh; subst et; subst ek
        obtain ⟨od, un, hP⟩ := PaM_iff.mp hpa
        have sx1 : SmX μ ξ := by
          have h1 : SmX μ (cpS μ 104 2) := ((((SmX.rf.row (a := 105) rfl (fun _ => rfl)).row (a := 106) rfl (fun _ => rfl)).row (a := 107) rfl (fun _ => rfl)).row (a := 108) rfl (fun _ => rfl)).up (a := 104) (j := 4) rfl (Or.inl rfl)
          exact h1.tr (SmX.sm hx1.2.1 rfl)
        have sx2 : SmX μ ν := by rw [← hν]; exact TT_sx sx1.cp2
        have sx3 : SmX μ (MM (yrM (rowI (upI (Zr ν) 127 38 seed) 138 (fb_put (ν.1 138) (ν.1 128) 0 42)) Y') v u') := MM_sx ((((sx2.z.up (a := 127) (j := 38) rfl (Or.inl rfl)).row (a := 138) rfl (fun _ => rfl)).up (a := 127) (j := 38) rfl (Or.inl rfl)).row (a := 138) rfl (fun _ => rfl))
        have n3 : ∀ a, a ≠ 127 → a ≠ 138 → (MM (yrM (rowI (upI (Zr ν) 127 38 seed) 138 (fb_put (ν.1 138) (ν.1 128) 0 42)) Y') v u').1 a = ν.1 a := fun a a1 a2 => by
          unfold yrM
          rw [MM_n a1, rowI_n a2, rowI_n a1, rowI_n a2, rowI_n a1, Zr_n a1]
        have j23 : (MM (yrM (rowI (upI (Zr ν) 127 38 seed) 138 (fb_put (ν.1 138) (ν.1 128) 0 42)) Y') v u').1 127 23 = μ.1 127 23 := by
          rw [MM_j (by decide)]
          show ν.1 127 23 = _
          rw [e127]
        generalize MM (yrM (rowI (upI (Zr ν) 127 38 seed) 138 (fb_put (ν.1 138) (ν.1 128) 0 42)) Y') v u' = ζ at sx3 n3 j23 ⊢
        refine inv_st hir sx3 (by omega) ?_ ?_ ?_ (PaM_iff.mpr ⟨od, un, hP.kp (by omega) ?_ ?_ j23 ?_ ?_⟩)
        · rw [n3 128 (by decide) (by decide), e128]
          have h1 : StA μ.1 2 (μ.1 128) := hX.2.1
          have h2 : StA (cpS μ 104 2).1 104 (μ.1 128) := cpS_st (a := 104) h1
          have h3 : StA ξ.1 104 (μ.1 128) := h2.cg (fun a h4 h5 => nx1 a (by simp only [List.contains_eq_mem, List.mem_cons, List.not_mem_nil, or_false, decide_eq_false_iff_not, not_or]; omega))
          have h4 : StA (cpS ξ 2 104).1 2 (μ.1 128) := cpS_st (a := 2) h3
          exact h4.cg (fun a h5 h6 => by rw [n3 a (by omega) (by omega), ← hν, TT_n (by omega)])
        · rw [n3 128 (by decide) (by decide), e128]
          exact hws.up (by omega)
        · rw [n3 128 (by decide) (by decide), n3 129 (by decide) (by decide), n3 130 (by decide) (by decide), e128, e129, e130]
          have h1 := hx1.1.2.2.2
          have h2 : SoX ξ.1 (μ.1 128) (μ.1 129) (μ.1 130) tc kc := by
            have h5 : ∀ t, t < tc → Y.2.2.2 t = μ.1 128 t := fun t ht => by
              have hk := yr_tr (seed := seed) (A := μ.1 128) (mu := μ.1 129) (mn := μ.1 130) (hc := hc) (kc := kc) (lm := lm) b2 (t := t) (by omega) n
              rw [hY] at hk
              exact hk
            exact h1.cA (fun t ht => (h5 t ht).symm)
          unfold SoX at h2 ⊢
          rw [n3 9 (by decide) (by decide), n3 10 (by decide) (by decide), ← hν, TT_n (by decide), TT_n (by decide), cpS_out (by decide), cpS_out (by decide)]
          exact h2
        · rw [n3 24 (by decide) (by decide), en 24 (by omega) (by omega) (by omega) (by omega) (by omega) (by omega)]
        · rw [n3 24 (by decide) (by decide), en 24 (by omega) (by omega) (by omega) (by omega) (by omega) (by omega)]
        · rw [n3 136 (by decide) (by decide), en 136 (by omega) (by omega) (by omega) (by omega) (by omega) (by omega)]
        · intro j hj hn a h1 h2
          rw [n3 a (by omega) (by omega), en a (by omega) (by omega) (by omega) (by omega) (by omega) (by omega)]
      · refine row_TM (ν := μ) ?_ ?_ ?_
        · show ν.1 0 7 = 2
          rw [← hν]; rfl
        · show ν.2 91 0 = v
          rw [← hν]; rfl
        · show ν.2 91 1 = u'
          rw [← hν]; rfl
    · refine ⟨-1, μ, Zr μ, ?_, ?_, inv_Z hI⟩
      · unfold F_X11_years
        rw [if_pos q0, g0_0, obs, g1_6, obs, t2, if_neg n0, if_pos c1]
      · unfold F_X12_years
        have e : (Zr μ).1 127 2 = nI tc := hb.2.1.2.1
        rw [if_pos q127, p11, obs, g127_2, obs, e, if_neg n0, c3, obs]
        rfl
    · refine ⟨-1, μ, Zr μ, ?_, ?_, inv_Z hI⟩
      · unfold F_X11_years
        rw [if_pos q0, g0_0, obs, g1_6, obs, t2, if_neg n0, if_neg c3, if_neg c2]
      · unfold F_X12_years
        have e : (Zr μ).1 127 2 = nI tc := hb.2.1.2.1
        rw [if_pos q127, p11, obs, g127_2, obs, e, if_neg n0, c5, obs]
        rfl
