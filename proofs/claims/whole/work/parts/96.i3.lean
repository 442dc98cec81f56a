/-! PURE: deal: the class's choice. -/
def dM (μ : Mem) (g d : Nat → Int32) : Mem := rowI (rowI μ 124 d) 123 g
section LCX
variable {κ : Kp} {μ : Mem} {al : Nat → Nat → Bool} {w : Nat → Nat → Nat} {hc tc : Nat}
theorem dM_124 {g d : Nat → Int32} {k : Nat} {v : Int32} : upI (dM μ g d) 124 k v = dM μ g (upd d k v) := by
  refine Prod.ext ?_ rfl
  funext z
  by_cases c : z = 124
  · subst c; rfl
  · rw [rowI_n c]
    unfold dM
    by_cases c2 : z = 123
    · subst c2; rfl
    · rw [rowI_n c2, rowI_n c, rowI_n c2, rowI_n c]
theorem bd_b (hw : ∀ i t, w i t ≤ 999) {n x F : Nat} (h : x + n ≤ 5) : (bd al w tc n x F).1 ≤ 12000 := by
  have h1 : hS x n < 4096 := Nat.lt_of_lt_of_le (sb_le _ (m := 5) h) (by decide)
  have h2 := At_le hw tc h1 (bd_mx (al := al) (w := w) (tc := tc) n x F).1
  have h3 := cn_le (hS x n)
  omega
theorem x_least2 (hR : Ref0 κ) (hw : ∀ i t, w i t ≤ 999) (h5 : hc ≤ 5) (h15 : μ.1 1 5 = nI hc) (h16 : μ.1 1 6 = nI tc) (hG : ∀ x, x < hc → ∀ t, t < tc → μ.1 (118 + x) t = gn al w x t) (b2 : tc ≤ 12) {F x n : Nat} (hF : F < 4096) (hn : x + (n + 1) = hc) (g : Nat → Int32) : ∃ g', F_X1_leastChoice 116 (nI x) (nI F) (nI (bd al w tc (n + 1) x F).1) (hp κ (rowI μ 123 g)) = some ((bd al w tc (n + 1) x F).2.getD 0 0, hp κ (rowI μ 123 g')) := by
  have e16 : ∀ g, (rowI μ 123 g).1 1 6 = nI tc := fun g => h16
  obtain ⟨g1, k1⟩ := x_bestFrom (κ := κ) (μ := μ) hR hw h5 (fi := x + 1) (m := n) (by omega) h15 h16 hG b2 hF g
  have hb0 := bd_b (al := al) (tc := tc) (F := F) hw (show x + (n + 1) ≤ 5 by omega)
  have hb1 := bd_b (al := al) (tc := tc) (F := F) hw (show x + 1 + n ≤ 5 by omega)
  unfold F_X1_leastChoice
  rw [if_pos q116, nI_1, k1, obs]
  (try dsimp only)
  rw [bd_s] at hb0 ⊢
  obtain ⟨-, s2, s3⟩ := bdF_spec (al := al) (w := w) (rec := fun fr => bd al w tc n (x + 1) fr) (free := F) (h := x) (acc := ((bd al w tc n (x + 1) F).1, -1 :: (bd al w tc n (x + 1) F).2)) tc
  generalize bdF al w (fun fr => bd al w tc n (x + 1) fr) F x ((bd al w tc n (x + 1) F).1, -1 :: (bd al w tc n (x + 1) F).2) tc = R at s2 s3 hb0
  rcases s3 with s3 | ⟨s3, t, t1, t2, t3, t4, t5⟩
  · rw [s3, if_pos rfl]
    exact ⟨g1, rfl⟩
  · have s3 : (bd al w tc n (x + 1) F).1 < R.1 := s3
    rw [if_neg (fun z => absurd ((i_eq (by omega) (by omega)).mp z) (by omega))]
    have eR : ∀ g, rR (hp κ (rowI μ 123 g)) 117 (nI x) = some (118 + x) := fun g => (rR_hp rfl (Or.inr rfl) (by omega)).trans (hR.2.2 _ (by omega))
    have eG : ∀ g u, u < tc → rI (hp κ (rowI μ 123 g)) (118 + x) (nI u) = some (gn al w x u) := fun g u hu => by
      rw [rI_hp (gT _ (by omega)) (by omega), rowI_n (by omega), hG _ (by omega) u hu]
    -- a thing that may come: what the class compares
    have hval : ∀ u, u < tc → F.testBit u = true → al x u = true → ∀ g, ∃ g', ∀ n', b_X1_leastChoice_17 116 (nI x) (nI F) (nI R.1) (n' + 1) (nI u) (hp κ (rowI μ 123 g)) = if (bd al w tc n (x + 1) (sd F (2 ^ u))).1 + w x u = R.1 then some (nI u, hp κ (rowI μ 123 g')) else b_X1_leastChoice_17 116 (nI x) (nI F) (nI R.1) n' (nI (u + 1)) (hp κ (rowI μ 123 g')) := fun u hu f1 f2 g => by
      obtain ⟨g', k2⟩ := x_bestFrom (κ := κ) (μ := μ) hR hw h5 (fi := x + 1) (m := n) (by omega) h15 h16 hG b2 (F := sd F (2 ^ u)) (sd_lt (n := 12) hF) g
      have hb2 := bd_b (al := al) (tc := tc) (F := sd F (2 ^ u)) hw (show x + 1 + n ≤ 5 by omega)
      have hwu := hw x u
      refine ⟨g', fun n' => ?_⟩
      have hand : F &&& 2 ^ u < 2 ^ 31 := Nat.lt_of_le_of_lt Nat.and_le_left (by omega)
      have nb : ¬ nI (F &&& 2 ^ u) = 0 := fun z => by
        have := and_b0.mp ((i_eq0 hand).mp z)
        rw [f1] at this
        cases this
      have egn : gn al w x u = nI (w x u) := if_pos f2
      rw [b_X1_leastChoice_17, g116_0, obs, g1_6, obs, e16, if_neg (nI_ge hu (by omega)), g116_2, obs, eR, obs, eG _ _ hu, obs, i_sh1 u (by omega), i_and, if_neg nb, egn, if_neg (nI_pos (by omega)), i_sd, nI_1, k2, obs]
      (try dsimp only)
      rw [nI_add, Nat.add_comm (w x u)]
      by_cases z : (bd al w tc n (x + 1) (sd F (2 ^ u))).1 + w x u = R.1
      · rw [if_pos z, if_pos (by rw [z])]
      · rw [if_neg z, if_neg (fun y => z ((i_eq (by omega) (by omega)).mp y)), b_X1_leastChoice_81, nI_1]
    have hskip : ∀ u, u < tc → ¬ (F.testBit u = true ∧ al x u = true) → ∀ g n', b_X1_leastChoice_17 116 (nI x) (nI F) (nI R.1) (n' + 1) (nI u) (hp κ (rowI μ 123 g)) = b_X1_leastChoice_17 116 (nI x) (nI F) (nI R.1) n' (nI (u + 1)) (hp κ (rowI μ 123 g)) := fun u hu f g n' => by
      rw [b_X1_leastChoice_17, g116_0, obs, g1_6, obs, e16, if_neg (nI_ge hu (by omega)), g116_2, obs, eR, obs, eG _ _ hu, obs, i_sh1 u (by omega), i_and]
      by_cases f1 : F.testBit u = true
      · have hand : F &&& 2 ^ u < 2 ^ 31 := Nat.lt_of_le_of_lt Nat.and_le_left (by omega)
        have nb : ¬ nI (F &&& 2 ^ u) = 0 := fun z => by
          have := and_b0.mp ((i_eq0 hand).mp z)
          rw [f1] at this
          cases this
        have egn : gn al w x u = -1 := if_neg (fun z => f ⟨f1, z⟩)
        rw [if_neg nb, egn, if_pos (by decide), b_X1_leastChoice_81, nI_1]
      · rw [if_pos (show nI (F &&& 2 ^ u) = 0 by rw [and_b0.mpr (by simpa using f1)]; rfl), b_X1_leastChoice_81, nI_1]
    obtain ⟨ξ, ⟨g2, hξ⟩, h2⟩ := lpf (fun n' k ν => b_X1_leastChoice_17 116 (nI x) (nI F) (nI R.1) n' (nI k) (hp κ ν)) (fun _ ν => ∃ g', ν = rowI μ 123 g') t (fun k ν hk hQ => by
      obtain ⟨g', rfl⟩ := hQ
      by_cases c : F.testBit k = true ∧ al x k = true
      · obtain ⟨g2, k2⟩ := hval k (by omega) c.1 c.2 g'
        have hne := t5 k hk c.1 c.2
        have hne : (bd al w tc n (x + 1) (sd F (2 ^ k))).1 + w x k < R.1 := hne
        refine ⟨rowI μ 123 g2, fun n' => ?_, g2, rfl⟩
        (try dsimp only)
        rw [k2 n', if_neg (by omega)]
      · exact ⟨_, fun n' => hskip k (by omega) c g' n', g', rfl⟩) (rowI μ 123 g1) ⟨g1, rfl⟩ t (Nat.le_refl _)
    obtain ⟨g3, k3⟩ := hval t t1 t2 t3 g2
    refine ⟨g3, ?_⟩
    have h3 := h2 (4999 - t + 1)
    (try dsimp only at h3)
    rw [show 4999 - t + 1 + t = 5000 by omega] at h3
    refine Eq.trans h3 ?_
    rw [hξ, k3, if_pos (by rw [t4]), t4]
    rfl
/-- what each house gets -/
theorem x_dealL (hR : Ref0 κ) (hw : ∀ i t, w i t ≤ 999) (h5 : hc ≤ 5) (h15 : μ.1 1 5 = nI hc) (h16 : μ.1 1 6 = nI tc) (hG : ∀ x, x < hc → ∀ t, t < tc → μ.1 (118 + x) t = gn al w x t) (b2 : tc ≤ 12) (l2 : Int32) : ∀ (n x FF F : Nat) (g d : Nat → Int32), x + n = hc → F < 4096 → ∃ g' d', b_X1_mostWorth_45 116 l2 (FF + n + 1) (nI F) (nI (bd al w tc n x F).1) (nI x) (hp κ (dM μ g d)) = some (l2, hp κ (dM μ g' d')) ∧ (∀ k, k < x → d' k = d k) ∧ ∀ k, k < n → d' (x + k) = (bd al w tc n x F).2.getD k 0 := by
  have e15 : ∀ g d, (dM μ g d).1 1 5 = nI hc := fun g d => h15
  intro n
  induction n with
  | zero =>
    intro x FF F g d hx _
    refine ⟨g, d, ?_, fun _ _ => rfl, fun k hk => absurd hk (Nat.not_lt_zero _)⟩
    rw [b_X1_mostWorth_45, g116_0, obs, g1_5, obs, e15, if_pos (nI_le (by omega) (by omega))]
  | succ n ih =>
    intro x FF F g d hx hF
    have hG2 : ∀ y, y < hc → ∀ t, t < tc → (rowI μ 124 d).1 (118 + y) t = gn al w y t := fun y hy t ht => by rw [rowI_n (by omega)]; exact hG y hy t ht
    obtain ⟨g1, k1⟩ := x_least2 (κ := κ) (μ := rowI μ 124 d) hR hw h5 h15 h16 hG2 b2 hF hx g
    have k1 : F_X1_leastChoice 116 (nI x) (nI F) (nI (bd al w tc (n + 1) x F).1) (hp κ (dM μ g d)) = some ((bd al w tc (n + 1) x F).2.getD 0 0, hp κ (dM μ g1 d)) := k1
    show ∃ g' d', b_X1_mostWorth_45 116 l2 (FF + n + 1 + 1) (nI F) (nI (bd al w tc (n + 1) x F).1) (nI x) (hp κ (dM μ g d)) = _ ∧ _
    rw [b_X1_mostWorth_45, g116_0, obs, g1_5, obs, e15, if_neg (nI_ge (by omega) (by omega)), k1, obs]
    (try dsimp only)
    rw [g116_4, obs, w124 (by omega), obs, dM_124]
    have hb0 := bd_b (al := al) (tc := tc) (F := F) hw (show x + (n + 1) ≤ 5 by omega)
    rw [bd_s] at hb0 ⊢
    obtain ⟨-, -, s3⟩ := bdF_spec (al := al) (w := w) (rec := fun fr => bd al w tc n (x + 1) fr) (free := F) (h := x) (acc := ((bd al w tc n (x + 1) F).1, -1 :: (bd al w tc n (x + 1) F).2)) tc
    generalize bdF al w (fun fr => bd al w tc n (x + 1) fr) F x ((bd al w tc n (x + 1) F).1, -1 :: (bd al w tc n (x + 1) F).2) tc = R at s3 hb0
    have fin : ∀ (F' : Nat) (d2 : Nat → Int32) (hd : Int32), F' < 4096 → R.2 = hd :: (bd al w tc n (x + 1) F').2 → (∀ k, k < x + 1 → d2 k = upd d x hd k) → ∃ g' d', b_X1_mostWorth_45 116 l2 (FF + n + 1) (nI F') (nI (bd al w tc n (x + 1) F').1) (nI x + 1) (hp κ (dM μ g1 d2)) = some (l2, hp κ (dM μ g' d')) ∧ (∀ k, k < x → d' k = d k) ∧ ∀ k, k < n + 1 → d' (x + k) = R.2.getD k 0 := fun F' d2 hd hF' hR2 hd2 => by
      obtain ⟨g', d', q1, q2, q3⟩ := ih (x + 1) FF F' g1 d2 (by omega) hF'
      rw [nI_1]
      refine ⟨g', d', q1, fun k hk => ?_, fun k hk => ?_⟩
      · rw [q2 k (by omega), hd2 k (by omega), pk_un (by omega)]
      · rw [hR2]
        cases k with
        | zero =>
          show d' x = hd
          rw [q2 x (by omega), hd2 x (by omega), pk_us]
        | succ k =>
          have := q3 k (by omega)
          rw [show x + 1 + k = x + (k + 1) by omega] at this
          exact this
    rcases s3 with s3 | ⟨-, t, t1, t2, t3, t4, -⟩
    · rw [s3] at hb0 fin ⊢
      rw [if_pos (show ((-1 :: (bd al w tc n (x + 1) F).2).getD 0 0 : Int32) < 0 from ng_1), b_X1_mostWorth_103]
      exact fin F _ (-1) hF rfl (fun _ _ => rfl)
    · have eR : ∀ g d, rR (hp κ (dM μ g d)) 117 (nI x) = some (118 + x) := fun g d => (rR_hp rfl (Or.inr rfl) (by omega)).trans (hR.2.2 _ (by omega))
      have eG : ∀ g d, rI (hp κ (dM μ g d)) (118 + x) (nI t) = some (gn al w x t) := fun g d => by
        unfold dM
        rw [rI_hp (gT _ (by omega)) (by omega), rowI_n (by omega), rowI_n (by omega), hG _ (by omega) t t1]
      have egn : gn al w x t = nI (w x t) := if_pos t3
      rw [t4] at hb0 fin ⊢
      have e0 : ((nI t :: (bd al w tc n (x + 1) (sd F (2 ^ t))).2).getD 0 0 : Int32) = nI t := rfl
      have esb : nI ((bd al w tc n (x + 1) (sd F (2 ^ t))).1 + w x t) - nI (w x t) = nI (bd al w tc n (x + 1) (sd F (2 ^ t))).1 := by
        rw [pk_sub (by omega), Nat.add_sub_cancel]
      (try dsimp only)
      rw [e0, if_neg (nI_pos (by omega)), g116_2, obs, eR, obs, eG, obs, egn, i_sh1 t (by omega), i_sd, esb, b_X1_mostWorth_103]
      exact fin (sd F (2 ^ t)) _ (nI t) (sd_lt (n := 12) hF) rfl (fun _ _ => rfl)
end LCX
/-! what a thing is worth to a house, told as a table -/
section FIL
variable {κ : Kp} {μ : Mem} {A mu mn : Nat → Int32} {hc tc kc lm rn : Nat} {tx : Nat → Nat} {cd : List Int32}
def alD (A mu mn : Nat → Int32) (tc kc lm : Nat) : Nat → Nat → Bool := fun x t => (kp (fun t => A (12 + t)) tc (-1)).testBit t && okt A mu mn kc (ld A mu mn tc lm (kp (fun t => A (24 + t)) tc (nI x))) t
def wD (A mu mn : Nat → Int32) (tc kc rn : Nat) (tx : Nat → Nat) : Nat → Nat → Nat := fun x t => cx (vwr A mu mn tc kc rn tx t (nI x))
theorem wD_le : ∀ x t, wD A mu mn tc kc rn tx x t ≤ 999 := fun x t => by
  obtain ⟨v, hv1, hv2⟩ : ∃ v, v ≤ 999 ∧ vwr A mu mn tc kc rn tx t (nI x) = nI v := clw_n _
  unfold wD
  rw [hv2, cx_n (by omega)]
  exact hv1
theorem wD_nI {x t : Nat} : nI (wD A mu mn tc kc rn tx x t) = vwr A mu mn tc kc rn tx t (nI x) := by
  obtain ⟨v, hv1, hv2⟩ : ∃ v, v ≤ 999 ∧ vwr A mu mn tc kc rn tx t (nI x) = nI v := clw_n _
  unfold wD
  rw [hv2, cx_n (by omega)]
theorem x_fill (hR : Ref0 κ) (h : Xc μ A mu mn hc tc kc lm) (hw : Rw rn tx cd) (hX : RX μ.1 cd) {x : Nat} (hx : x < hc) : ∃ ν, F_X1_fillGains 116 (nI x) (nI (kp (fun t => A (12 + t)) tc (-1))) (hp κ μ) = some (hp κ ν) ∧ (∀ z, z ≠ 19 → z ≠ 118 + x → ν.1 z = μ.1 z) ∧ ν.2 = μ.2 ∧ ∀ t, t < tc → ν.1 (118 + x) t = gn (alD A mu mn tc kc lm) (wD A mu mn tc kc rn tx) x t := by
  have b1 := h.b1
  have b2 := h.b2
  have hf : kp (fun t => A (12 + t)) tc (-1) < 4096 := kp_lt b2
  have hk : kp (fun t => A (24 + t)) tc (nI x) < 4096 := kp_lt b2
  have eR : ∀ ν : Mem, rR (hp κ ν) 117 (nI x) = some (118 + x) := fun ν => (rR_hp rfl (Or.inr rfl) (by omega)).trans (hR.2.2 _ (by omega))
  obtain ⟨ξ, ⟨q1, q2, q3⟩, h2⟩ := lpf (fun n t ν => b_X1_fillGains_19 116 (nI x) (nI (kp (fun t => A (12 + t)) tc (-1))) (nI (dg (ld A mu mn tc lm (kp (fun t => A (24 + t)) tc (nI x))) kc)) n (nI t) (hp κ ν)) (fun k ν => (∀ z, z ≠ 19 → z ≠ 118 + x → ν.1 z = μ.1 z) ∧ ν.2 = μ.2 ∧ ∀ t, t < k → ν.1 (118 + x) t = gn (alD A mu mn tc kc lm) (wD A mu mn tc kc rn tx) x t) tc (fun t ν ht hQ => by
    obtain ⟨q1, q2, q3⟩ := hQ
    have hX2 : Xc ν A mu mn hc tc kc lm := h.cg (fun a h1 h2 => q1 a (by omega) (by omega))
    have e16 : ν.1 1 6 = nI tc := hX2.1.2.1
    have keep : ∀ (g : Nat → Int32) (v : Int32), v = gn (alD A mu mn tc kc lm) (wD A mu mn tc kc rn tx) x t → (∀ z, z ≠ 19 → z ≠ 118 + x → (upI (rowI ν 19 g) (118 + x) t v).1 z = μ.1 z) ∧ (upI (rowI ν 19 g) (118 + x) t v).2 = μ.2 ∧ ∀ u, u < t + 1 → (upI (rowI ν 19 g) (118 + x) t v).1 (118 + x) u = gn (alD A mu mn tc kc lm) (wD A mu mn tc kc rn tx) x u := fun g v hv => by
      refine ⟨fun z z1 z2 => by rw [rowI_n z2, rowI_n z1]; exact q1 z z1 z2, q2, fun u hu => ?_⟩
      rw [rowI_s]
      by_cases z : u = t
      · subst z; rw [pk_us]; exact hv
      · rw [pk_un z, rowI_n (by omega)]; exact q3 u (by omega)
    have e19 : rowI ν 19 (ν.1 19) = ν := rowI_id
    have hno : ¬ alD A mu mn tc kc lm x t = true → (b_X1_fillGains_57 · 116 (nI x) (nI (kp (fun t => A (12 + t)) tc (-1))) (nI (dg (ld A mu mn tc lm (kp (fun t => A (24 + t)) tc (nI x))) kc)) (nI t) (hp κ ν)) = fun r => r (nI (t + 1)) (hp κ (upI ν (118 + x) t (-1))) := fun _ => by
      funext r
      unfold b_X1_fillGains_57 b_X1_fillGains_58 b_X1_fillGains_91
      rw [g116_2, obs, eR, obs, if_pos rfl, wI_hp (gT _ (by omega)) (by omega), obs, nI_1]
    by_cases cb : (kp (fun t => A (12 + t)) tc (-1)).testBit t = true
    · have c1 : ¬ ((nI (kp (fun t => A (12 + t)) tc (-1)) >>> (nI t &&& 31)) &&& 1 = 0) := fun z => by
        have := (i_bit0 (show kp (fun t => A (12 + t)) tc (-1) < 2 ^ 31 by omega) (show t < 32 by omega)).mp z
        rw [cb] at this
        cases this
      have hfit := C_fits (κ := κ) hX2 (d := ld A mu mn tc lm (kp (fun t => A (24 + t)) tc (nI x))) (fun k _ => by unfold ld; omega) ht
      by_cases co : okt A mu mn kc (ld A mu mn tc lm (kp (fun t => A (24 + t)) tc (nI x))) t = true
      · have hal : alD A mu mn tc kc lm x t = true := by
          unfold alD
          rw [cb, co]
          rfl
        obtain ⟨g, hg⟩ := x_value (κ := κ) hX2 hw (by
          unfold RX
          rw [q1 17 (by omega) (by omega), q1 18 (by omega) (by omega)]
          exact hX) ht (nI x)
        refine ⟨upI (rowI ν 19 g) (118 + x) t (vwr A mu mn tc kc rn tx t (nI x)), fun n => ?_, keep g _ (by unfold gn; rw [if_pos hal, wD_nI])⟩
        (try dsimp only)
        rw [b_X1_fillGains_19, g116_0, obs, g1_6, obs, e16, if_neg (nI_ge ht (by omega)), if_neg c1, obs, hfit, obs]
        (try dsimp only)
        unfold b_X1_fillGains_58 b_X1_fillGains_91
        rw [if_pos co, if_neg (show ¬ (1 : Int32) = 0 by decide), g116_2, obs, eR, obs, if_neg (show ¬ (1 : Int32) = 0 by decide), g116_1, obs, g116_0, obs, hg, obs]
        (try dsimp only)
        rw [wI_hp (gT _ (by omega)) (by omega), obs, nI_1]
      · have hal : ¬ alD A mu mn tc kc lm x t = true := fun z => by
          unfold alD at z
          rw [Bool.and_eq_true] at z
          exact co z.2
        refine ⟨upI (rowI ν 19 (ν.1 19)) (118 + x) t (-1), fun n => ?_, keep _ _ (by unfold gn; rw [if_neg hal])⟩
        (try dsimp only)
        rw [b_X1_fillGains_19, g116_0, obs, g1_6, obs, e16, if_neg (nI_ge ht (by omega)), if_neg c1, obs, hfit, obs]
        (try dsimp only)
        rw [if_neg co, if_pos rfl, congrFun (hno hal) _, e19]
    · have c1 : (nI (kp (fun t => A (12 + t)) tc (-1)) >>> (nI t &&& 31)) &&& 1 = 0 := (i_bit0 (by omega) (by omega)).mpr (by simpa using cb)
      have hal : ¬ alD A mu mn tc kc lm x t = true := fun z => by
        unfold alD at z
        rw [Bool.and_eq_true] at z
        exact cb z.1
      refine ⟨upI (rowI ν 19 (ν.1 19)) (118 + x) t (-1), fun n => ?_, keep _ _ (by unfold gn; rw [if_neg hal])⟩
      (try dsimp only)
      rw [b_X1_fillGains_19, g116_0, obs, g1_6, obs, e16, if_neg (nI_ge ht (by omega)), if_pos c1, congrFun (hno hal) _, e19]) μ ⟨fun _ _ _ => rfl, rfl, fun t ht => absurd ht (Nat.not_lt_zero _)⟩ tc (Nat.le_refl _)
  refine ⟨ξ, ?_, q1, q2, q3⟩
  have h3 := h2 (4999 - tc + 1)
  (try dsimp only at h3)
  rw [show 4999 - tc + 1 + tc = 5000 by omega] at h3
  have e16 : ξ.1 1 6 = nI tc := by rw [q1 1 (by omega) (by omega)]; exact h.1.2.1
  unfold F_X1_fillGains
  rw [if_pos q116, g116_0, obs, obs, C_kept h, obs]
  (try dsimp only)
  rw [C_load h hk, obs]
  (try dsimp only)
  refine Eq.trans h3 ?_
  rw [b_X1_fillGains_19, g116_0, obs, g1_6, obs, e16, if_pos (nI_le (Nat.le_refl _) (by omega))]
theorem x_mostWorth (hR : Ref0 κ) (h : Xc μ A mu mn hc tc kc lm) (hw : Rw rn tx cd) (hX : RX μ.1 cd) : ∃ ν, F_X1_mostWorth 116 (hp κ μ) = some (nI (bd (alD A mu mn tc kc lm) (wD A mu mn tc kc rn tx) tc hc 0 (kp (fun t => A (12 + t)) tc (-1))).1, hp κ ν) ∧ (∀ z, z ≠ 19 → z < 118 ∨ 124 < z → ν.1 z = μ.1 z) ∧ ν.2 = μ.2 ∧ ∀ k, k < hc → ν.1 124 k = (bd (alD A mu mn tc kc lm) (wD A mu mn tc kc rn tx) tc hc 0 (kp (fun t => A (12 + t)) tc (-1))).2.getD k 0 := by
  have b1 := h.b1
  have b2 := h.b2
  have hf : kp (fun t => A (12 + t)) tc (-1) < 4096 := kp_lt b2
  obtain ⟨ξ, ⟨q1, q2, q3⟩, h2⟩ := lpf (fun n x ν => b_X1_mostWorth_10 116 (nI (kp (fun t => A (12 + t)) tc (-1))) n (nI x) (hp κ ν)) (fun k ν => (∀ z, z ≠ 19 → z < 118 ∨ 122 < z → ν.1 z = μ.1 z) ∧ ν.2 = μ.2 ∧ ∀ x, x < k → ∀ t, t < tc → ν.1 (118 + x) t = gn (alD A mu mn tc kc lm) (wD A mu mn tc kc rn tx) x t) hc (fun x ν hx hQ => by
    obtain ⟨q1, q2, q3⟩ := hQ
    have hX2 : Xc ν A mu mn hc tc kc lm := h.cg (fun a h1 h2 => q1 a (by omega) (by omega))
    have e15 : ν.1 1 5 = nI hc := hX2.1.1
    obtain ⟨ν2, k1, k2, k3, k4⟩ := x_fill (κ := κ) (rn := rn) (tx := tx) hR hX2 hw (by
      unfold RX
      rw [q1 17 (by omega) (by omega), q1 18 (by omega) (by omega)]
      exact hX) hx
    refine ⟨ν2, fun n => ?_, fun z z1 z2 => by rw [k2 z z1 (by omega)]; exact q1 z z1 z2, k3.trans q2, fun y hy t ht => ?_⟩
    · (try dsimp only)
      rw [b_X1_mostWorth_10, g116_0, obs, g1_5, obs, e15, if_neg (nI_ge hx (by omega)), k1, obs, nI_1]
    · by_cases z : y = x
      · subst z
        exact k4 t ht
      · rw [k2 _ (by omega) (by omega)]
        exact q3 y (by omega) t ht) μ ⟨fun _ _ _ => rfl, rfl, fun x hx => absurd hx (Nat.not_lt_zero _)⟩ hc (Nat.le_refl _)
  have hX2 : Xc ξ A mu mn hc tc kc lm := h.cg (fun a h1 h2 => q1 a (by omega) (by omega))
  have h15 : ξ.1 1 5 = nI hc := hX2.1.1
  have h16 : ξ.1 1 6 = nI tc := hX2.1.2.1
  obtain ⟨g1, k1⟩ := x_bestFrom (κ := κ) (μ := ξ) hR wD_le b1.2 (fi := 0) (m := hc) (by omega) h15 h16 q3 b2 hf (ξ.1 123)
  rw [rowI_id] at k1
  have k1 : F_X1_bestFrom 116 0 (nI (kp (fun t => A (12 + t)) tc (-1))) (hp κ ξ) = _ := k1
  have eD : rowI ξ 123 g1 = dM ξ g1 (ξ.1 124) := by
    unfold dM
    rw [rowI_id]
  obtain ⟨g2, d2, l1, -, l3⟩ := x_dealL (κ := κ) (μ := ξ) hR wD_le b1.2 h15 h16 q3 b2 (nI (bd (alD A mu mn tc kc lm) (wD A mu mn tc kc rn tx) tc hc 0 (kp (fun t => A (12 + t)) tc (-1))).1) hc 0 (4999 - hc) (kp (fun t => A (12 + t)) tc (-1)) g1 (ξ.1 124) (by omega) hf
  rw [show 4999 - hc + hc + 1 = 5000 by omega, ← eD] at l1
  refine ⟨dM ξ g2 d2, ?_, fun z z1 z2 => ?_, q2, fun k hk => ?_⟩
  · have h3 := h2 (4999 - hc + 1)
    (try dsimp only at h3)
    rw [show 4999 - hc + 1 + hc = 5000 by omega] at h3
    unfold F_X1_mostWorth
    rw [if_pos q116, g116_0, obs, C_nobodys h, obs]
    (try dsimp only)
    refine Eq.trans h3 ?_
    rw [b_X1_mostWorth_10, g116_0, obs, g1_5, obs, h15, if_pos (nI_le (Nat.le_refl _) (by omega)), k1, obs]
    exact l1
  · unfold dM
    rw [rowI_n (by omega), rowI_n (by omega)]
    exact q1 z z1 (by omega)
  · have := l3 k hk
    rw [Nat.zero_add] at this
    exact this
end FIL
