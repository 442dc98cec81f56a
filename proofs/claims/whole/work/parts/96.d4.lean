/-! PURE: kinds that come. -/
def nkM (μ : Mem) (g f : Nat → Int32) (c : Nat) : Mem := upI (rowI (rowI μ 7 g) 8 f) 1 7 (nI c)
def bkM (μ : Mem) (g f : Nat → Int32) (c : Nat) : Mem := upI (rowI (rowI μ 129 g) 130 f) 127 3 (nI c)
/-- behind c0 items: the new ones -/
def New (g f g0 f0 : Nat → Int32) (c0 k : Nat) (l : List (Int32 × Int32)) : Prop := (∀ j, j < c0 → g j = g0 j ∧ f j = f0 j) ∧ ∀ j, j < k → g (c0 + j) = (l.getD j (0, 0)).1 ∧ f (c0 + j) = (l.getD j (0, 0)).2
section ADK
variable {κ : Kp} {μ : Mem} {g f : Nat → Int32} {c d j : Nat} {v : Int32}
theorem nk_7 : upI (nkM μ g f c) 7 j v = nkM μ (upd g j v) f c := by
  refine Prod.ext ?_ rfl
  funext z
  by_cases c1 : z = 7
  · subst c1; rfl
  · rw [rowI_n c1]
    by_cases c2 : z = 8
    · subst c2; rfl
    · by_cases c3 : z = 1
      · subst c3; rfl
      · unfold nkM
        rw [rowI_n c3, rowI_n c2, rowI_n c1, rowI_n c3, rowI_n c2, rowI_n c1]
theorem nk_8 : upI (nkM μ g f c) 8 j v = nkM μ g (upd f j v) c := by
  refine Prod.ext ?_ rfl
  funext z
  by_cases c1 : z = 8
  · subst c1; rfl
  · rw [rowI_n c1]
    by_cases c3 : z = 1
    · subst c3; rfl
    · unfold nkM
      rw [rowI_n c3, rowI_n c1, rowI_n c3, rowI_n c1]
theorem nk_1 : upI (nkM μ g f c) 1 7 (nI d) = nkM μ g f d := by
  refine Prod.ext ?_ rfl
  funext z
  by_cases c1 : z = 1
  · subst c1
    show upd (upd (μ.1 1) 7 (nI c)) 7 (nI d) = upd (μ.1 1) 7 (nI d)
    rw [fa_upd_twice]
  · rw [rowI_n c1]
    unfold nkM
    rw [rowI_n c1, rowI_n c1]
theorem nk_0 (h : μ.1 1 7 = nI c) : nkM μ (μ.1 7) (μ.1 8) c = μ := by
  unfold nkM
  rw [rowI_id, rowI_id, ← h, upI_id]
theorem bk_7 : upI (bkM μ g f c) 129 j v = bkM μ (upd g j v) f c := by
  refine Prod.ext ?_ rfl
  funext z
  by_cases c1 : z = 129
  · subst c1; rfl
  · rw [rowI_n c1]
    by_cases c2 : z = 130
    · subst c2; rfl
    · by_cases c3 : z = 127
      · subst c3; rfl
      · unfold bkM
        rw [rowI_n c3, rowI_n c2, rowI_n c1, rowI_n c3, rowI_n c2, rowI_n c1]
theorem bk_8 : upI (bkM μ g f c) 130 j v = bkM μ g (upd f j v) c := by
  refine Prod.ext ?_ rfl
  funext z
  by_cases c1 : z = 130
  · subst c1; rfl
  · rw [rowI_n c1]
    by_cases c3 : z = 127
    · subst c3; rfl
    · unfold bkM
      rw [rowI_n c3, rowI_n c1, rowI_n c3, rowI_n c1]
theorem bk_1 : upI (bkM μ g f c) 127 3 (nI d) = bkM μ g f d := by
  refine Prod.ext ?_ rfl
  funext z
  by_cases c1 : z = 127
  · subst c1
    show upd (upd (μ.1 127) 3 (nI c)) 3 (nI d) = upd (μ.1 127) 3 (nI d)
    rw [fa_upd_twice]
  · rw [rowI_n c1]
    unfold bkM
    rw [rowI_n c1, rowI_n c1]
theorem bk_0 (h : μ.1 127 3 = nI c) : bkM μ (μ.1 129) (μ.1 130) c = μ := by
  unfold bkM
  rw [rowI_id, rowI_id, ← h, upI_id]
theorem New.up {g f g0 f0 : Nat → Int32} {c0 k : Nat} {l : List (Int32 × Int32)} (h : New g f g0 f0 c0 k l) : New (upd g (c0 + k) (l.getD k (0, 0)).1) (upd f (c0 + k) (l.getD k (0, 0)).2) g0 f0 c0 (k + 1) l := by
  obtain ⟨h1, h2⟩ := h
  refine ⟨fun j hj => ?_, fun j hj => ?_⟩
  · rw [pk_un (by omega), pk_un (by omega)]
    exact h1 j hj
  · by_cases z : j = k
    · subst z
      rw [pk_us, pk_us]
      exact ⟨rfl, rfl⟩
    · rw [pk_un (by omega), pk_un (by omega)]
      exact h2 j (by omega)
theorem x_addKL {kc : Nat} {l : List (Int32 × Int32)} (h7 : μ.1 1 7 = nI kc) (hl : kc + l.length ≤ 6) (hi : Its (μ.1 14) (μ.1 15) 0 l) : ∃ g f, New g f (μ.1 7) (μ.1 8) kc l.length l ∧ F_X10_addKinds 1 13 (nI l.length) (hp κ μ) = (F_X10_sortThings 1 (hp κ (nkM μ g f (kc + l.length)))).bind fun h1 => some h1 := by
  have hs : ∀ k ν, k < l.length → (∃ g f, ν = nkM μ g f (kc + k) ∧ New g f (μ.1 7) (μ.1 8) kc k l) → ∃ ξ, (∀ n, (fun n k ν => b_X10_addKinds_2 1 13 (nI l.length) n (nI k) (hp κ ν)) (n + 1) k ν = (fun n k ν => b_X10_addKinds_2 1 13 (nI l.length) n (nI k) (hp κ ν)) n (k + 1) ξ) ∧ ∃ g f, ξ = nkM μ g f (kc + (k + 1)) ∧ New g f (μ.1 7) (μ.1 8) kc (k + 1) l := by
    rintro k ν hk ⟨g, f, rfl, hn⟩
    obtain ⟨i1, i2⟩ := hi k hk
    rw [Nat.zero_add] at i1 i2
    have e7 : ∀ g f c, (nkM μ g f c).1 1 7 = nI c := fun _ _ _ => rfl
    have e14 : ∀ g f c, (nkM μ g f c).1 14 k = (l.getD k (0, 0)).1 := fun _ _ _ => i1
    have e15 : ∀ g f c, (nkM μ g f c).1 15 k = (l.getD k (0, 0)).2 := fun _ _ _ => i2
    refine ⟨_, fun n => ?_, _, _, rfl, hn.up⟩
    (try dsimp only)
    rw [b_X10_addKinds_2, if_neg (nI_ge hk (by omega)), g1_7, obs, e7, if_neg (show ¬ (6 : Int32) ≤ nI (kc + k) from nI_ge (b := 6) (by omega) (by decide)), g1_1, obs, obs, g13_1, obs, r14 (by omega), obs, e14, w7 (by omega), obs, nk_7, g1_2, obs, g1_7, obs, e7, g13_2, obs, r15 (by omega), obs, e15, w8 (by omega), obs, nk_8, g1_7, obs, e7, nI_1, p1_7, obs, nk_1, nI_1]
    rfl
  obtain ⟨ξ, ⟨g, f, hg, hn⟩, h2⟩ := lpf (fun n k ν => b_X10_addKinds_2 1 13 (nI l.length) n (nI k) (hp κ ν)) (fun k ν => ∃ g f, ν = nkM μ g f (kc + k) ∧ New g f (μ.1 7) (μ.1 8) kc k l) l.length hs μ ⟨μ.1 7, μ.1 8, (nk_0 h7).symm, fun _ _ => ⟨rfl, rfl⟩, fun j hj => absurd hj (Nat.not_lt_zero _)⟩ l.length (Nat.le_refl _)
  subst hg
  refine ⟨g, f, hn, ?_⟩
  have h3 := h2 (4999 - l.length + 1)
  (try dsimp only at h3)
  rw [show 4999 - l.length + 1 + l.length = 5000 by omega] at h3
  unfold F_X10_addKinds
  rw [if_pos q1]
  refine Eq.trans h3 ?_
  rw [b_X10_addKinds_2, if_pos (nI_le (Nat.le_refl _) (by omega))]
  rfl
theorem y_addKL {kc cm : Nat} {l : List (Int32 × Int32)} (h3 : μ.1 127 3 = nI kc) (h39 : μ.1 127 39 = nI cm) (hl : kc + l.length ≤ 6) (hi : Ity (μ.1 133) 0 l) : ∃ g f, New g f (μ.1 129) (μ.1 130) kc l.length l ∧ b_X12_kinds_136 127 (nI l.length) bigN 0 (hp κ μ) = some (nI l.length, hp κ (upI (upI (bkM μ g f (kc + l.length)) 127 23 0) 127 39 (nI (cm + 1)))) := by
  have hs : ∀ k ν, k < l.length → (∃ g f, ν = bkM μ g f (kc + k) ∧ New g f (μ.1 129) (μ.1 130) kc k l) → ∃ ξ, (∀ n, (fun n k ν => b_X12_kinds_136 127 (nI l.length) n (nI k) (hp κ ν)) (n + 1) k ν = (fun n k ν => b_X12_kinds_136 127 (nI l.length) n (nI k) (hp κ ν)) n (k + 1) ξ) ∧ ∃ g f, ξ = bkM μ g f (kc + (k + 1)) ∧ New g f (μ.1 129) (μ.1 130) kc (k + 1) l := by
    rintro k ν hk ⟨g, f, rfl, hn⟩
    obtain ⟨i1, i2⟩ := hi k hk
    rw [Nat.zero_add] at i1 i2
    have e3 : ∀ g f c, (bkM μ g f c).1 127 3 = nI c := fun _ _ _ => rfl
    have e14 : ∀ g f c, (bkM μ g f c).1 133 (2 * k) = (l.getD k (0, 0)).1 := fun _ _ _ => i1
    have e15 : ∀ g f c, (bkM μ g f c).1 133 (2 * k + 1) = (l.getD k (0, 0)).2 := fun _ _ _ => i2
    have e2 : (2 : Int32) * nI k = nI (2 * k) := pk_mul 2 k
    refine ⟨_, fun n => ?_, _, _, rfl, hn.up⟩
    (try dsimp only)
    rw [b_X12_kinds_136, if_neg (nI_ge hk (by omega)), g127_4, obs, g127_3, obs, e3, g127_17, obs, e2, r133 (by omega), obs, e14, w129 (by omega), obs, bk_7, g127_5, obs, g127_3, obs, e3, g127_17, obs, nI_1, r133 (by omega), obs, e15, w130 (by omega), obs, bk_8, g127_3, obs, e3, nI_1, p127_3, obs, bk_1, nI_1]
    rfl
  obtain ⟨ξ, ⟨g, f, hg, hn⟩, h2⟩ := lpf (fun n k ν => b_X12_kinds_136 127 (nI l.length) n (nI k) (hp κ ν)) (fun k ν => ∃ g f, ν = bkM μ g f (kc + k) ∧ New g f (μ.1 129) (μ.1 130) kc k l) l.length hs μ ⟨μ.1 129, μ.1 130, (bk_0 h3).symm, fun _ _ => ⟨rfl, rfl⟩, fun j hj => absurd hj (Nat.not_lt_zero _)⟩ l.length (Nat.le_refl _)
  subst hg
  refine ⟨g, f, hn, ?_⟩
  have h4 := h2 (4999 - l.length + 1)
  (try dsimp only at h4)
  rw [show 4999 - l.length + 1 + l.length = 5000 by omega] at h4
  refine Eq.trans h4 ?_
  have e39 : (upI (bkM μ g f (kc + l.length)) 127 23 0).1 127 39 = nI cm := h39
  rw [b_X12_kinds_136, if_pos (nI_le (Nat.le_refl _) (by omega)), p127_23, obs, g127_39, obs, e39, nI_1, p127_39, obs]
end ADK
/-- behind things or kinds that came: what must hold -/
theorem inv_new {B cm hc tc kc lm tc' kc' : Nat} {μ ξ : Mem} (hIC : InvC B (cl μ)) (hM : Mn μ hc tc kc lm) (h39 : μ.1 127 39 = nI cm) (hB : B ≤ 1000000) (hcm : cm ≤ 1000000) (hCn : Cn ξ.1 hc tc' kc' lm) (hKd : Kd ξ.1 kc') (hSR : SR ξ.1 2 128 0) (hWS : WS (ξ.1 128) hc tc' (B + 1200)) (hSo : So ξ.1 tc' kc') (t1 : ξ.1 11 1 = 0) (t8 : ξ.1 127 8 = 0) (htc : tc ≤ tc') (e : ∀ a, [0, 17, 18, 109, 110, 134, 143, 146, 147].contains a = true → ξ.1 a = μ.1 a) (e7 : ∀ j, j = 19 ∨ j = 33 ∨ j = 34 → ξ.1 127 j = μ.1 127 j) (p1 : ξ.1 24 1 = μ.1 24 1) (p2 : ξ.1 24 2 = 0) (p23 : ξ.1 127 23 = 0) (s39 : ξ.1 127 39 = nI (cm + 1)) (s103 : ∀ i, i < 2 → ξ.1 103 i = 0) : InvC (B + 1200) (cl ξ) := by
  obtain ⟨hc0, tc0, kc0, lm0, ⟨c1, c2, c3⟩, -, -, -, -, -, h7, h8, ⟨cm0, s1, s2, s3⟩, h10⟩ := hIC
  have etc : tc0 = tc := by
    have h1 : μ.1 127 2 = nI tc0 := c2.2.1
    have := h1.symm.trans hM.2.1
    have b1 := c3.2.1
    have b2 := hM.2.2.2.2.2.1
    exact (i_eq (by omega) (by omega)).mp this
  have ecm : cm0 = cm := by
    have h1 : μ.1 127 39 = nI cm0 := s2
    have h2 := h1.symm.trans h39
    exact (i_eq (by omega) (by omega)).mp h2
  subst etc
  subst ecm
  have F : ∀ a, [0, 17, 18, 109, 110, 134, 143, 146, 147].contains a = true → cl ξ a = cl μ a := fun a ha => by
    funext j
    unfold cl
    rw [e a ha]
  have f7 : ∀ j, rel 127 j = true → j = 19 ∨ j = 33 ∨ j = 34 → cl ξ 127 j = cl μ 127 j := fun j j1 j2 => by
    rw [cl_r j1, cl_r j1, e7 j j2]
  refine ⟨hc, tc', kc', lm, ?_, ?_, ?_, ?_, ?_, ?_, ?_, ?_, ?_, ?_⟩
  · exact hCn
  · exact hKd
  · unfold SR at hSR ⊢
    exact hSR
  · exact hWS
  · exact hSo
  · exact ⟨0, by omega, by rw [cl_r rfl]; exact t1, by rw [cl_r rfl]; exact t8, fun i hi => absurd hi (Nat.not_lt_zero _)⟩
  · unfold Hd at h7 ⊢
    rw [F 0 rfl, f7 33 rfl (by omega), f7 34 rfl (by omega), F 109 rfl, F 110 rfl, F 143 rfl]
    obtain ⟨hd, bs, d1, d2, d3, d4, d5, d6⟩ := h7
    refine ⟨hd, bs, d1, d2, d3, d4, d5, fun i hi => ?_⟩
    obtain ⟨t, x1, x2, x3, x4⟩ := d6 i hi
    exact ⟨t, by omega, x2, x3, x4⟩
  · obtain ⟨od, un, q1, q2, q3, -⟩ := h8
    refine ⟨od, 0, q1, by omega, ?_, ?_, ?_, fun i hi => absurd hi (Nat.not_lt_zero _)⟩
    · rw [cl_n rfl, p1]
      exact q3
    · rw [cl_n rfl, p2]
      rfl
    · rw [cl_r rfl, p23]
      rfl
  · refine ⟨cm0 + 1, by omega, ?_, fun i hi => ?_⟩
    · rw [cl_r rfl, s39]
    · obtain ⟨⟨c, r1, r2⟩, r3, -⟩ := s3 i hi
      rw [F 146 rfl, F 147 rfl]
      refine ⟨⟨c, by omega, r2⟩, r3, Or.inr ⟨?_, fun z => ?_⟩⟩
      · rw [cl_n rfl]
        exact s103 i hi
      · have := r2.symm.trans z.2
        have := (i_eq (by omega) (by omega)).mp this
        omega
  · unfold Ru at h10 ⊢
    rw [f7 19 rfl (by omega), F 17 rfl, F 134 rfl, F 18 rfl]
    exact h10
