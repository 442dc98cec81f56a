/-! PURE: an hour: class and reference. -/
theorem lpe {ρ σ : Type} (B : Nat → Nat → σ → Option ρ) (Q : Nat → σ → Prop) (K : Nat) (hs : ∀ k ν, k < K → Q k ν → ∃ ξ, (∀ n, B (n + 1) k ν = B n (k + 1) ξ) ∧ Q (k + 1) ξ) (μ : σ) (h0 : Q 0 μ) : ∀ k, k ≤ K → ∃ ξ, Q k ξ ∧ ∀ n, B (n + k) 0 μ = B n k ξ
  | 0, _ => ⟨μ, h0, fun n => rfl⟩
  | k + 1, hk => by
    obtain ⟨ξ, h1, h2⟩ := lpe B Q K hs μ h0 k (by omega)
    obtain ⟨ζ, h3, h4⟩ := hs k ξ (by omega) h1
    refine ⟨ζ, h4, fun n => ?_⟩
    rw [show n + (k + 1) = (n + 1) + k by omega, h2, h3]
theorem rm_n {a d : Nat} (ha : a < 2 ^ 31) (h0 : 0 < d) (hd : d < 2 ^ 31) : rmI (nI a) (nI d) = some (nI (a % d)) := by
  unfold rmI
  rw [if_neg (fun z => by have := (i_eq0 hd).mp z; omega), pk_rem ha h0 hd]
theorem nI_dn (a : Nat) : nI (a + 1) + (-1) = nI a := by
  rw [← nI_1, Int32.add_assoc]
  exact i_add0 a
section HXC
variable {κ : Kp} {μ ν : Mem} {A mu mn : Nat → Int32} {hc tc kc lm B : Nat}
theorem x_visited {r : Nat} (h1 : μ.1 1 5 = nI hc) (h2 : μ.1 2 4 = nI r) (b1 : 1 ≤ hc ∧ hc ≤ 5) (hr : r ≤ 2000000) : F_X10_visited 1 (hp κ μ) = some (nI (r % hc), hp κ μ) := by
  unfold F_X10_visited
  rw [if_pos q1, g1_5, obs, h1, if_pos (show (1 : Int32) ≤ nI hc from nI_le (a := 1) (by omega) (by omega)), g1_0, obs, g2_4, obs, h2, obs, rm_n (by omega) (by omega) (by omega), obs]
theorem x_seize_in {those sz k : Nat} (ht : those < 4096) (b4 : lm ≤ 4) (l2 : Int32) (r : Int32 → Int32 → ci_H → Option (Int32 × ci_H)) : b_X10_seizedFrom_50 r 1 l2 (nI k) (nI (cn those) - nI lm) bigN (nI sz) (nI those) 0 (hp κ μ) = r (nI (sz ||| (szL those (cn those - lm)).2)) (nI (k + 1)) (hp κ μ) := by
  have hcn := cn_le those
  have h1 := lpk (fun n i => b_X10_seizedFrom_50 r 1 l2 (nI k) (nI (cn those) - nI lm) n (nI (sz ||| (szL those i).2)) (nI (szL those i).1) (nI i) (hp κ μ)) (cn those - lm) (r (nI (sz ||| (szL those (cn those - lm)).2)) (nI (k + 1)) (hp κ μ)) ?_ ?_ bigN 0 (Nat.zero_le _) (by unfold bigN; omega)
  · (try dsimp only at h1)
    rw [show (szL those 0).2 = 0 from rfl, Nat.or_zero] at h1
    exact h1
  · intro n i hi
    (try dsimp only)
    rw [b_X10_seizedFrom_50, pk_sub (by omega), if_neg (nI_ge hi (by omega)), ho (szL_lt1 ht i), obs]
    (try dsimp only)
    rw [i_or, i_sd, nI_1, Nat.or_assoc]
    rfl
  · intro n
    (try dsimp only)
    have c : nI (cn those) - nI lm ≤ nI (cn those - lm) := by
      rw [fa_le, pk_sub_toInt (by omega) (by omega), nI_toInt (by omega)]
      omega
    rw [b_X10_seizedFrom_50, if_pos c, nI_1]
theorem C_seized (h : Xc μ A mu mn hc tc kc lm) {x : Nat} : F_X10_seizedFrom 1 (nI x) (hp κ μ) = some (nI (szA (kset A mu mn tc) lm (kp (fun t => A (24 + t)) tc (nI x)) kc), hp κ μ) := by
  have b2 := h.b2
  have b3 := h.b3
  have b4 := h.b4
  have hO := h.of
  obtain ⟨t1, t2, t3, t4, -⟩ := h.1
  unfold F_X10_seizedFrom
  rw [if_pos q1, C_kept h, obs]
  (try dsimp only)
  refine lpk (fun n k => b_X10_seizedFrom_11 1 (nI (kp (fun t => A (24 + t)) tc (nI x))) n (nI (szA (kset A mu mn tc) lm (kp (fun t => A (24 + t)) tc (nI x)) k)) (nI k) (hp κ μ)) kc _ ?_ ?_ bigN 0 (Nat.zero_le _) (by unfold bigN; omega)
  · intro n k hk
    (try dsimp only)
    have hlt : sd (kp (fun t => A (24 + t)) tc (nI x)) (szA (kset A mu mn tc) lm (kp (fun t => A (24 + t)) tc (nI x)) k) &&& kset A mu mn tc k < 4096 := and_l (sd_lt (n := 12) (kp_lt b2))
    rw [b_X10_seizedFrom_11]
    simp only [g1_7, t3, obs, if_neg (nI_ge hk (show kc < 2 ^ 31 by omega)), g1_3, r9 (show k < 6 by omega), (hO k hk).1, i_sd, i_and, bc hlt, g1_8, t4]
    rw [x_seize_in hlt b4.2]
    rfl
  · intro n
    (try dsimp only)
    rw [b_X10_seizedFrom_11]
    simp only [g1_7, t3, obs, if_pos (nI_le (Nat.le_refl kc) (show kc < 2 ^ 31 by omega))]
def tk (S : Nat) (f : Nat → Int32) (n : Nat) : Nat → Int32 := fun u => if u < n ∧ S.testBit u = true then -1 else f u
theorem tk_0 {S : Nat} {f : Nat → Int32} : tk S f 0 = f := by
  funext u
  unfold tk
  rw [if_neg (by omega)]
theorem tk_t {S t : Nat} {f : Nat → Int32} (h : S.testBit t = true) : upd (tk S f t) t (-1) = tk S f (t + 1) := by
  funext u
  by_cases c : u = t
  · subst c
    rw [pk_us]
    unfold tk
    rw [if_pos ⟨by omega, h⟩]
  · rw [pk_un c]
    unfold tk
    by_cases c2 : u < t ∧ S.testBit u = true
    · rw [if_pos c2, if_pos ⟨by omega, c2.2⟩]
    · rw [if_neg c2, if_neg (fun z => c2 ⟨by omega, z.2⟩)]
theorem tk_f {S t : Nat} {f : Nat → Int32} (h : S.testBit t = false) : tk S f t = tk S f (t + 1) := by
  funext u
  unfold tk
  by_cases c2 : u < t ∧ S.testBit u = true
  · rw [if_pos c2, if_pos ⟨by omega, c2.2⟩]
  · rw [if_neg c2, if_neg (fun z => c2 ⟨by
      have : u ≠ t := fun w => by rw [w, h] at z; cases z.2
      omega, z.2⟩)]
def phM (μ : Mem) (S n : Nat) : Mem := rowI (rowI μ 3 (tk S (μ.1 3) n)) 4 (tk S (μ.1 4) n)
theorem phM_0 {S : Nat} : phM μ S 0 = μ := by
  unfold phM
  rw [tk_0, tk_0, rowI_id, rowI_id]
theorem phM_hand {S t : Nat} (h : S.testBit t = true) : upI (upI (phM μ S t) 3 t (-1)) 4 t (-1) = phM μ S (t + 1) := by
  unfold phM
  refine Prod.ext ?_ rfl
  funext z
  show (if z = 4 then upd _ t (-1) else if z = 3 then upd _ t (-1) else if z = 4 then _ else if z = 3 then _ else μ.1 z) = (if z = 4 then tk S (μ.1 4) (t + 1) else if z = 3 then tk S (μ.1 3) (t + 1) else μ.1 z)
  by_cases c4 : z = 4
  · rw [if_pos c4, if_pos c4]
    exact tk_t h
  · simp only [if_neg c4]
    by_cases c3 : z = 3
    · simp only [if_pos c3]
      exact tk_t h
    · simp only [if_neg c3]
theorem phM_skip {S t : Nat} (h : S.testBit t = false) : phM μ S t = phM μ S (t + 1) := by
  unfold phM
  rw [tk_f h, tk_f h]
theorem C_passHour (h : Xc μ A mu mn hc tc kc lm) {r : Nat} (h41 : A 41 = nI r) (hr : r ≤ 2000000) : ∃ ν, F_X10_passHour 1 (hp κ μ) = some (nI (hrS A mu mn hc tc kc lm), hp κ ν) ∧ XA μ ν (hrA A mu mn hc tc kc lm) mu mn hc tc kc lm := by
  have b1 := h.b1
  have b2 := h.b2
  have hS : hrS A mu mn hc tc kc lm < 4096 := hrS_lt b2
  have e : szA (kset A mu mn tc) lm (kp (fun t => A (24 + t)) tc (nI (r % hc))) kc = hrS A mu mn hc tc kc lm := by
    unfold hrS
    rw [h41, cx_n (by omega)]
  refine ⟨upI (phM μ (hrS A mu mn hc tc kc lm) tc) 2 4 (nI (r + 1)), ?_, ?_⟩
  · unfold F_X10_passHour
    rw [if_pos q1, x_visited (r := r) h.1.1 (h.2.1.2.2.trans h41) b1 hr, obs]
    (try dsimp only)
    rw [C_seized h, obs, e]
    (try dsimp only)
    generalize hrS A mu mn hc tc kc lm = S at hS
    have h1 := lpk (fun n t => b_X10_passHour_11 1 (nI S) n (nI t) (hp κ (phM μ S t))) tc (some (nI S, hp κ (upI (phM μ S tc) 2 4 (nI (r + 1))))) ?_ ?_ bigN 0 (Nat.zero_le _) (by unfold bigN; omega)
    · (try dsimp only at h1)
      rw [phM_0] at h1
      exact h1
    · intro n t ht
      (try dsimp only)
      have e1 : (phM μ S t).1 1 6 = nI tc := h.1.2.1
      rw [b_X10_passHour_11, g1_6, obs, e1, if_neg (nI_ge ht (by omega)), i_bit (small hS) (by omega)]
      unfold b_X10_passHour_33
      cases c : S.testBit t with
      | true => rw [if_neg (by decide), x_hand (by omega), obs, phM_hand c, nI_1]
      | false => rw [if_pos (by decide), phM_skip c, nI_1]
    · intro n
      (try dsimp only)
      have e1 : (phM μ S tc).1 1 6 = nI tc := h.1.2.1
      have e2 : (phM μ S tc).1 2 4 = nI r := h.2.1.2.2.trans h41
      rw [b_X10_passHour_11, g1_6, obs, e1, if_pos (nI_le (Nat.le_refl tc) (by omega)), g1_0, obs, g2_4, obs, e2, nI_1, p2_4, obs]
  · obtain ⟨g1, ⟨s1, s2, s3⟩, g3, g4⟩ := h
    have hsub : ∀ i, (hrS A mu mn hc tc kc lm).testBit i = true → i < tc := fun i hi => (hrS_sub i hi).1
    refine ⟨⟨g1.cg rfl, ⟨fun u hu => ?_, fun x hx => ?_, ?_⟩, g3.cg rfl rfl, ?_⟩, ((Sm.rf.up rfl).up rfl).up rfl, rfl⟩
    · obtain ⟨v1, v2, v3⟩ := s1 u hu
      rw [hrA_n (q := u) (by omega), hrA_n (q := 12 + u) (by omega), hrA_n (q := 24 + u) (by omega), tkn_t (by omega), tkn_o hu, tkn_k hu]
      refine ⟨v1, ?_, ?_⟩
      · show tk (hrS A mu mn hc tc kc lm) (μ.1 3) tc u = _
        unfold tk
        by_cases c : (hrS A mu mn hc tc kc lm).testBit u = true
        · rw [if_pos c, if_pos ⟨hsub u c, c⟩]
        · rw [if_neg c, if_neg (fun z => c z.2)]; exact v2
      · show tk (hrS A mu mn hc tc kc lm) (μ.1 4) tc u = _
        unfold tk
        by_cases c : (hrS A mu mn hc tc kc lm).testBit u = true
        · rw [if_pos c, if_pos ⟨hsub u c, c⟩]
        · rw [if_neg c, if_neg (fun z => c z.2)]; exact v3
    · rw [hrA_n (by omega), tkn_t (by omega)]
      exact s2 x hx
    · rw [hrA_41, h41, nI_1]
      rfl
    · have g4' : SoX (upI (phM μ (hrS A mu mn hc tc kc lm) tc) 2 4 (nI (r + 1))).1 A mu mn tc kc := g4
      exact g4'.cA (fun u hu => by rw [hrA_n (by omega), tkn_t (by omega)])
end HXC
section HYC
variable {κ : Kp} {ν : Mem} {A : Nat → Int32} {hc tc kc lm B m : Nat}
theorem Mn.rw {f : Nat → Int32} (h : Mn ν hc tc kc lm) (hn : m ≠ 127) : Mn (rowI ν m f) hc tc kc lm := h.cg (fun j _ _ => by rw [rowI_n (Ne.symm hn)])
theorem y_belongM (hm : hp_T[m]? = some (0, 42, [])) {t : Nat} (ht : t < 12) (y : Int32) : F_X12_belong m (nI t) y (hp κ ν) = some (hp κ (rowI ν m (hnd (ν.1 m) t y))) := by
  unfold F_X12_belong
  rw [i12, wI_hp hm (by omega), obs, i24, wI_hp hm (by omega), obs]
  show some (hp κ (rowI (rowI ν m _) m (upd ((rowI ν m _).1 m) _ _))) = _
  rw [rowI_rowI, rowI_s]
  rfl
theorem y_lastOf (hM : Mn ν hc tc kc lm) (hm : hp_T[m]? = some (0, 42, [])) {s k : Nat} (hs : s < 4096) (hk : k < 6) (h0 : s &&& kset (ν.1 m) (ν.1 129) (ν.1 130) tc k ≠ 0) : F_X12_lastOf 127 m (nI s) (nI k) (hp κ ν) = some (nI (s &&& kset (ν.1 m) (ν.1 129) (ν.1 130) tc k).log2, hp κ ν) := by
  have b2 := hM.2.2.2.2.2.1
  have hb : ∀ t, t < tc → (s &&& kset (ν.1 m) (ν.1 129) (ν.1 130) tc k).testBit t = (s.testBit t && io (ν.1 m t) (ν.1 129 k) (ν.1 130 k)) := fun t ht => by
    rw [Nat.testBit_and]
    unfold kset
    rw [sb_bit]
    simp [ht]
  have hL := log2_bit h0
  have hLt : (s &&& kset (ν.1 m) (ν.1 129) (ν.1 130) tc k).log2 < tc := by
    have h1 := hL
    rw [Nat.testBit_and, Bool.and_eq_true] at h1
    have h2 := h1.2
    unfold kset at h2
    rw [sb_bit, Bool.and_eq_true] at h2
    exact of_decide_eq_true h2.1
  have htop : ∀ t, (s &&& kset (ν.1 m) (ν.1 129) (ν.1 130) tc k).log2 < t → (s &&& kset (ν.1 m) (ν.1 129) (ν.1 130) tc k).testBit t = false := fun t ht => by
    cases e : (s &&& kset (ν.1 m) (ν.1 129) (ν.1 130) tc k).testBit t with
    | false => rfl
    | true => have := log2_top e; omega
  generalize (s &&& kset (ν.1 m) (ν.1 129) (ν.1 130) tc k).log2 = L at hL hLt htop
  unfold F_X12_lastOf
  rw [if_pos q127, g127_2, obs, hM.2.1, show nI tc - 1 = nI (tc - 1) from pk_sub (b := 1) (by omega)]
  have step : ∀ (n t : Nat), t < tc → b_X12_lastOf_8 127 m (nI s) (nI k) (n + 1) (nI t) (hp κ ν) = if (s.testBit t && io (ν.1 m t) (ν.1 129 k) (ν.1 130 k)) = true then some (nI t, hp κ ν) else b_X12_lastOf_8 127 m (nI s) (nI k) n (nI t + (-1)) (hp κ ν) := fun n t ht => by
    rw [b_X12_lastOf_8, y_has (small hs) (by omega), obs]
    unfold b_X12_lastOf_40
    (try dsimp only)
    cases c : s.testBit t with
    | false => rw [if_pos (by decide), Bool.false_and, if_neg (by decide)]
    | true =>
      rw [if_neg (by decide), rI_hp hm (by omega), obs, g127_4, obs, r129 hk, obs, g127_5, obs, r130 hk, obs, y_isOf, obs]
      (try dsimp only)
      cases c2 : io (ν.1 m t) (ν.1 129 k) (ν.1 130 k) with
      | false => rw [if_pos (by decide), Bool.and_false, if_neg (by decide)]
      | true => rw [if_neg (by decide), if_pos (by decide)]
  have h1 := lpk (fun n j => b_X12_lastOf_8 127 m (nI s) (nI k) n (nI (tc - 1 - j)) (hp κ ν)) (tc - 1 - L) (some (nI L, hp κ ν)) ?_ ?_ bigN 0 (Nat.zero_le _) (by unfold bigN; omega)
  · exact h1
  · intro n j hj
    (try dsimp only)
    rw [step n _ (by omega), ← hb _ (by omega), htop _ (by omega), if_neg (by decide), show tc - 1 - j = (tc - 1 - (j + 1)) + 1 by omega, nI_dn]
  · intro n
    (try dsimp only)
    rw [show tc - 1 - (tc - 1 - L) = L by omega, step n _ hLt, ← hb _ hLt, hL, if_pos rfl]
theorem y_goHour_in (hM : Mn ν hc tc kc lm) (hm : hp_T[m]? = some (0, 42, [])) (n1 : m ≠ 127) (n2 : m ≠ 129) (n3 : m ≠ 130) {k x sz : Nat} (hk : k < kc) (hx : x < 2 ^ 31) (r : Int32 → Int32 → ci_H → Option (Int32 × ci_H)) : b_X12_goHour_24 r 127 m (nI x) (nI k) bigN (nI sz) (hp κ (rowI ν m (tkn A sz))) = r (nI (szK (kset A (ν.1 129) (ν.1 130) tc) lm (kp (fun t => A (24 + t)) tc (nI x)) k sz)) (nI (k + 1)) (hp κ (rowI ν m (tkn A (szK (kset A (ν.1 129) (ν.1 130) tc) lm (kp (fun t => A (24 + t)) tc (nI x)) k sz)))) := by
  have b2 := hM.2.2.2.2.2.1
  have b3 := hM.2.2.2.2.2.2.1
  have b4 := hM.2.2.2.2.2.2.2
  have hkl : kp (fun t => A (24 + t)) tc (nI x) < 4096 := kp_lt b2
  generalize hke : kp (fun t => A (24 + t)) tc (nI x) = kept at hkl
  have hth : sd kept sz &&& kset A (ν.1 129) (ν.1 130) tc k < 4096 := and_l (sd_lt (n := 12) hkl)
  have hcn := cn_le (sd kept sz &&& kset A (ν.1 129) (ν.1 130) tc k)
  have hkeep : ∀ S, F_X12_keptBy 127 m (nI x) (hp κ (rowI ν m (tkn A S))) = some (nI (sd kept S), hp κ (rowI ν m (tkn A S))) := fun S => by
    rw [y_kept (hM.rw n1) hm, rowI_s, kept_tkn b2 hx, hke]
  have hmany : ∀ S, F_X12_manyOf 127 m (nI (sd kept S)) (nI k) (hp κ (rowI ν m (tkn A S))) = some (nI (cn (sd kept S &&& kset A (ν.1 129) (ν.1 130) tc k)), hp κ (rowI ν m (tkn A S))) := fun S => by
    rw [y_manyOf (hM.rw n1) hm (small (sd_lt (n := 12) hkl)) (by omega), rowI_s, rowI_n (Ne.symm n2), rowI_n (Ne.symm n3), mo_tkn b2, ← cn_kset b2]
  have hlm : ∀ f, (rowI ν m f).1 127 6 = nI lm := fun f => by rw [rowI_n (Ne.symm n1)]; exact hM.2.2.2.1
  have h1 := lpk (fun n i => b_X12_goHour_24 r 127 m (nI x) (nI k) n (nI (sz ||| (szL (sd kept sz &&& kset A (ν.1 129) (ν.1 130) tc k) i).2)) (hp κ (rowI ν m (tkn A (sz ||| (szL (sd kept sz &&& kset A (ν.1 129) (ν.1 130) tc k) i).2))))) (cn (sd kept sz &&& kset A (ν.1 129) (ν.1 130) tc k) - lm) (r (nI (szK (kset A (ν.1 129) (ν.1 130) tc) lm kept k sz)) (nI (k + 1)) (hp κ (rowI ν m (tkn A (szK (kset A (ν.1 129) (ν.1 130) tc) lm kept k sz))))) ?_ ?_ bigN 0 (Nat.zero_le _) (by unfold bigN; omega)
  · (try dsimp only at h1)
    rw [show (szL (sd kept sz &&& kset A (ν.1 129) (ν.1 130) tc k) 0).2 = 0 from rfl, Nat.or_zero] at h1
    exact h1
  · intro n i hi
    (try dsimp only)
    have ht := sz_those (ks := kset A (ν.1 129) (ν.1 130) tc) (kept := kept) sz k i
    have hc1 := szL_cn hth i (by omega)
    have hl1 := szL_lt1 hth i
    have hne : (szL (sd kept sz &&& kset A (ν.1 129) (ν.1 130) tc k) i).1 ≠ 0 := (cn_pos hl1).mp (by omega)
    have e2 : (szL (sd kept sz &&& kset A (ν.1 129) (ν.1 130) tc k) (i + 1)).2 = (szL (sd kept sz &&& kset A (ν.1 129) (ν.1 130) tc k) i).2 ||| hb (szL (sd kept sz &&& kset A (ν.1 129) (ν.1 130) tc k) i).1 := rfl
    rw [e2, ← Nat.or_assoc]
    rw [ht] at hc1 hl1 hne ⊢
    generalize sz ||| (szL (sd kept sz &&& kset A (ν.1 129) (ν.1 130) tc k) i).2 = S at hc1 hl1 hne ⊢
    have hL : (sd kept S &&& kset A (ν.1 129) (ν.1 130) tc k).log2 < 12 := (Nat.log2_lt hne).mpr hl1
    have ekt : kset ((rowI ν m (tkn A S)).1 m) ((rowI ν m (tkn A S)).1 129) ((rowI ν m (tkn A S)).1 130) tc k = kset A (ν.1 129) (ν.1 130) tc k := by rw [rowI_s, rowI_n (Ne.symm n2), rowI_n (Ne.symm n3), kset_tkn b2]
    have hlast : F_X12_lastOf 127 m (nI (sd kept S)) (nI k) (hp κ (rowI ν m (tkn A S))) = some (nI (sd kept S &&& kset A (ν.1 129) (ν.1 130) tc k).log2, hp κ (rowI ν m (tkn A S))) := by
      have := y_lastOf (κ := κ) (hM.rw (f := tkn A S) n1) hm (s := sd kept S) (k := k) (sd_lt (n := 12) hkl) (by omega) (by rw [ekt]; exact hne)
      rw [ekt] at this
      exact this
    rw [b_X12_goHour_24, hkeep, obs, hmany, obs, g127_6, obs, hlm]
    (try dsimp only)
    rw [if_neg (i_nle (by omega) (by omega) (by omega)), hkeep, obs, hlast, obs, y_belongM hm hL, obs, rowI_rowI, rowI_s, tkn_or hL, i_sh1 _ (by omega), i_or, hb_pos hne]
  · intro n
    (try dsimp only)
    have ht := sz_those (ks := kset A (ν.1 129) (ν.1 130) tc) (kept := kept) sz k (cn (sd kept sz &&& kset A (ν.1 129) (ν.1 130) tc k) - lm)
    have hc1 := szL_cn hth (cn (sd kept sz &&& kset A (ν.1 129) (ν.1 130) tc k) - lm) (by omega)
    rw [ht] at hc1
    unfold szK
    rw [b_X12_goHour_24, hkeep, obs, hmany, obs, g127_6, obs, hlm]
    (try dsimp only)
    rw [if_pos (i_yle (by omega) (by omega) (by omega)), nI_1]
theorem y_goHour (hM : Mn ν hc tc kc lm) (hm : hp_T[m]? = some (0, 42, [])) (n1 : m ≠ 127) (n2 : m ≠ 129) (n3 : m ≠ 130) {r : Nat} (h41 : ν.1 m 41 = nI r) (hr : r ≤ 2000000) : F_X12_goHour 127 m (hp κ ν) = some (nI (hrS (ν.1 m) (ν.1 129) (ν.1 130) hc tc kc lm), hp κ (rowI ν m (hrA (ν.1 m) (ν.1 129) (ν.1 130) hc tc kc lm))) := by
  have b1 := hM.2.2.2.2.1
  have b3 := hM.2.2.2.2.2.2.1
  have hlt := Nat.mod_lt r (show 0 < hc by omega)
  unfold F_X12_goHour
  rw [if_pos q127, show (41 : Int32) = nI 41 from rfl, rI_hp hm (by omega), obs, g127_1, obs, hM.1, h41, rm_n (by omega) (by omega) (by omega), obs]
  have e : szA (kset (ν.1 m) (ν.1 129) (ν.1 130) tc) lm (kp (fun t => ν.1 m (24 + t)) tc (nI (r % hc))) kc = hrS (ν.1 m) (ν.1 129) (ν.1 130) hc tc kc lm := by
    unfold hrS
    rw [h41, cx_n (by omega)]
  have h1 := lpk (fun n k => b_X12_goHour_15 127 m (nI (r % hc)) n (nI (szA (kset (ν.1 m) (ν.1 129) (ν.1 130) tc) lm (kp (fun t => ν.1 m (24 + t)) tc (nI (r % hc))) k)) (nI k) (hp κ (rowI ν m (tkn (ν.1 m) (szA (kset (ν.1 m) (ν.1 129) (ν.1 130) tc) lm (kp (fun t => ν.1 m (24 + t)) tc (nI (r % hc))) k))))) kc (some (nI (hrS (ν.1 m) (ν.1 129) (ν.1 130) hc tc kc lm), hp κ (rowI ν m (hrA (ν.1 m) (ν.1 129) (ν.1 130) hc tc kc lm)))) ?_ ?_ bigN 0 (Nat.zero_le _) (by unfold bigN; omega)
  · (try dsimp only at h1)
    rw [show szA (kset (ν.1 m) (ν.1 129) (ν.1 130) tc) lm (kp (fun t => ν.1 m (24 + t)) tc (nI (r % hc))) 0 = 0 from rfl, tkn_0, rowI_id] at h1
    exact h1
  · intro n k hk
    (try dsimp only)
    have e3 : ∀ f, (rowI ν m f).1 127 3 = nI kc := fun f => by rw [rowI_n (Ne.symm n1)]; exact hM.2.2.1
    rw [b_X12_goHour_15, g127_3, obs, e3, if_neg (nI_ge hk (by omega)), y_goHour_in hM hm n1 n2 n3 hk (by omega)]
    rfl
  · intro n
    (try dsimp only)
    have e3 : ∀ f, (rowI ν m f).1 127 3 = nI kc := fun f => by rw [rowI_n (Ne.symm n1)]; exact hM.2.2.1
    rw [b_X12_goHour_15, g127_3, obs, e3, if_pos (nI_le (Nat.le_refl kc) (by omega)), show (41 : Int32) = nI 41 from rfl, rI_hp hm (by omega), obs, wI_hp hm (by omega), obs, e]
    show some (_, hp κ (rowI (rowI ν m _) m (upd ((rowI ν m _).1 m) 41 _))) = _
    rw [rowI_rowI, rowI_s, tkn_t (by omega)]
    rfl
theorem y_goHours (hM : Mn ν hc tc kc lm) (hm : hp_T[m]? = some (0, 42, [])) (n1 : m ≠ 127) (n2 : m ≠ 129) (n3 : m ≠ 130) {r n : Nat} (h41 : ν.1 m 41 = nI r) (hr : r ≤ 1500000) (hn : n ≤ 60) : F_X12_goHours 127 m (nI n) (hp κ ν) = some (nI (hrI (ν.1 m) (ν.1 129) (ν.1 130) hc tc kc lm n).1, hp κ (rowI ν m (hrI (ν.1 m) (ν.1 129) (ν.1 130) hc tc kc lm n).2)) := by
  unfold F_X12_goHours
  rw [if_pos q127]
  have h1 := lpk (fun f i => b_X12_goHours_5 127 m (nI n) f (nI (hrI (ν.1 m) (ν.1 129) (ν.1 130) hc tc kc lm i).1) (nI i) (hp κ (rowI ν m (hrI (ν.1 m) (ν.1 129) (ν.1 130) hc tc kc lm i).2))) n (some (nI (hrI (ν.1 m) (ν.1 129) (ν.1 130) hc tc kc lm n).1, hp κ (rowI ν m (hrI (ν.1 m) (ν.1 129) (ν.1 130) hc tc kc lm n).2))) ?_ ?_ bigN 0 (Nat.zero_le _) (by unfold bigN; omega)
  · (try dsimp only at h1)
    rw [show (hrI (ν.1 m) (ν.1 129) (ν.1 130) hc tc kc lm 0).2 = ν.1 m from rfl, rowI_id] at h1
    exact h1
  · intro f i hi
    (try dsimp only)
    have h4 := hrI_41 (mu := ν.1 129) (mn := ν.1 130) (hc := hc) (tc := tc) (kc := kc) (lm := lm) h41 i
    have h5 := y_goHour (κ := κ) (hM.rw (f := (hrI (ν.1 m) (ν.1 129) (ν.1 130) hc tc kc lm i).2) n1) hm n1 n2 n3 (r := r + i) (by rw [rowI_s]; exact h4) (by omega)
    rw [rowI_s, rowI_n (Ne.symm n2), rowI_n (Ne.symm n3), rowI_rowI] at h5
    rw [b_X12_goHours_5, if_neg (nI_ge hi (by omega)), h5, obs]
    (try dsimp only)
    rw [i_or, nI_1]
    rfl
  · intro f
    (try dsimp only)
    rw [b_X12_goHours_5, if_pos (nI_le (Nat.le_refl n) (by omega))]
end HYC
