/-! PURE: store: the reference. -/
def gsM (ν : Mem) (T : Nat → Int32) (bm : Nat) (f : Nat → Int32) : Mem := upI (rowI (rowI ν 138 T) 141 f) 127 29 (nI bm)
section GSM
variable {κ : Kp} {ν : Mem} {T f : Nat → Int32} {bm : Nat}
theorem gs_n {z : Nat} (h1 : z ≠ 127) (h2 : z ≠ 138) (h3 : z ≠ 141) : (gsM ν T bm f).1 z = ν.1 z := by
  unfold gsM
  rw [rowI_n h1, rowI_n h3, rowI_n h2]
theorem gs_j {j : Nat} (h : j ≠ 29) : (gsM ν T bm f).1 127 j = ν.1 127 j := by
  unfold gsM
  rw [rowI_s, pk_un h, rowI_n (by decide), rowI_n (by decide)]
theorem gs_138 {q : Nat} {v : Int32} : upI (gsM ν T bm f) 138 q v = gsM ν (upd T q v) bm f := by
  refine Prod.ext ?_ rfl
  funext z
  by_cases c : z = 138
  · subst c; rfl
  · rw [rowI_n c]
    by_cases c1 : z = 127
    · subst c1; rfl
    · by_cases c2 : z = 141
      · subst c2; rfl
      · rw [gs_n c1 c c2, gs_n c1 c c2]
theorem gs_141 {q : Nat} {v : Int32} : upI (gsM ν T bm f) 141 q v = gsM ν T bm (upd f q v) := by
  refine Prod.ext ?_ rfl
  funext z
  by_cases c : z = 141
  · subst c; rfl
  · rw [rowI_n c]
    by_cases c1 : z = 127
    · subst c1; rfl
    · by_cases c2 : z = 138
      · subst c2; rfl
      · rw [gs_n c1 c2 c, gs_n c1 c2 c]
theorem gs_29 {b' : Nat} : upI (gsM ν T bm f) 127 29 (nI b') = gsM ν T b' f := by
  refine Prod.ext ?_ rfl
  funext z
  by_cases c : z = 127
  · subst c
    show upd (upd (ν.1 127) 29 (nI bm)) 29 (nI b') = upd (ν.1 127) 29 (nI b')
    rw [fa_upd_twice]
  · rw [rowI_n c]
    unfold gsM
    rw [rowI_n c, rowI_n c]
theorem Mn.gs {hc tc kc lm : Nat} (h : Mn ν hc tc kc lm) : Mn (gsM ν T bm f) hc tc kc lm := by
  unfold Mn
  rw [gs_j (by decide), gs_j (by decide), gs_j (by decide), gs_j (by decide)]
  exact h
end GSM
/-- what is kept, told things from t on aside -/
def dcS (T : Nat → Int32) (S tc t x : Nat) : Nat := sb (fun u => decide (T (24 + u) = nI x) && !(S.testBit u && decide (t ≤ u))) tc
section DCS
variable {T A mu mn : Nat → Int32} {S tc kc t x h : Nat}
theorem dc_end : dcS T S tc tc x = kp (fun u => T (24 + u)) tc (nI x) := sb_cong (fun u hu => by
  rw [decide_eq_false (show ¬ tc ≤ u by omega), Bool.and_false]
  simp)
theorem dc_0 : dcS T S tc 0 x = sd (kp (fun u => T (24 + u)) tc (nI x)) S := by
  apply Nat.eq_of_testBit_eq
  intro i
  unfold dcS
  rw [sb_bit, sd_bit, kp_bit, decide_eq_true (Nat.zero_le i), Bool.and_true, Bool.and_assoc]
theorem dc_skip (hs : ¬ S.testBit t = true) : dcS T S tc (t + 1) x = dcS T S tc t x := sb_cong (fun u hu => by
  by_cases c : u = t
  · subst c
    rw [show S.testBit u = false by simpa using hs, Bool.false_and, Bool.false_and]
  · have e : decide (t + 1 ≤ u) = decide (t ≤ u) := decide_eq_decide.mpr ⟨fun z => by omega, fun z => by omega⟩
    rw [e])
theorem dc_bit (hs : S.testBit t = true) : (dcS T S tc t x).testBit t = false := by
  unfold dcS
  rw [sb_bit, hs, decide_eq_true (Nat.le_refl t)]
  simp
theorem dc_put (hs : S.testBit t = true) (ht : t < tc) (hx : x < 2 ^ 31) (hh : h < 2 ^ 31) : dcS (upd T (24 + t) (nI h)) S tc (t + 1) x = if x = h then dcS T S tc t x ||| 2 ^ t else dcS T S tc t x := by
  apply Nat.eq_of_testBit_eq
  intro u
  by_cases c : u = t
  · subst c
    have e1 : (dcS (upd T (24 + u) (nI h)) S tc (u + 1) x).testBit u = decide (x = h) := by
      unfold dcS
      rw [sb_bit, pk_us, decide_eq_true ht, decide_eq_false (show ¬ u + 1 ≤ u by omega), Bool.and_false, Bool.true_and]
      have : decide (nI h = nI x) = decide (x = h) := decide_eq_decide.mpr ⟨fun z => ((i_eq hh hx).mp z).symm, fun z => by rw [z]⟩
      rw [this]
      simp
    rw [e1]
    by_cases z : x = h
    · rw [if_pos z, Nat.testBit_or, Nat.testBit_two_pow_self, decide_eq_true z, Bool.or_true]
    · rw [if_neg z, dc_bit hs, decide_eq_false z]
  · have e1 : (dcS (upd T (24 + t) (nI h)) S tc (t + 1) x).testBit u = (dcS T S tc t x).testBit u := by
      unfold dcS
      have e : decide (t + 1 ≤ u) = decide (t ≤ u) := decide_eq_decide.mpr ⟨fun z => by omega, fun z => by omega⟩
      rw [sb_bit, sb_bit, pk_un (by omega), e]
    rw [e1]
    by_cases z : x = h
    · rw [if_pos z, Nat.testBit_or, Nat.testBit_two_pow_of_ne (fun w => c w.symm), Bool.or_false]
    · rw [if_neg z]
/-- the digits that belong to a row of keepers -/
def RelD (A mu mn T : Nat → Int32) (hc tc kc lm S t : Nat) (D : Nat → Nat → Nat) : Prop := ∀ x, x < hc → ∀ k, k < kc → D x k = 15 - lm + mo A mu mn tc (dcS T S tc t x) k
theorem RelD.skip {hc lm : Nat} {D : Nat → Nat → Nat} (H : RelD A mu mn T hc tc kc lm S t D) (hs : ¬ S.testBit t = true) : RelD A mu mn T hc tc kc lm S (t + 1) D := fun x hx k hk => by
  rw [dc_skip hs]
  exact H x hx k hk
theorem RelD.put {hc lm : Nat} {D : Nat → Nat → Nat} (H : RelD A mu mn T hc tc kc lm S t D) (hs : S.testBit t = true) (ht : t < tc) (h5 : hc ≤ 5) (hh : h < hc) : RelD A mu mn (upd T (24 + t) (nI h)) hc tc kc lm S (t + 1) (upD A mu mn D h t) := fun x hx k hk => by
  rw [dc_put hs ht (by omega) (by omega)]
  by_cases c : x = h
  · subst c
    rw [if_pos rfl, upD_s, H x hx k hk, mo_set ht (dc_bit hs)]
    omega
  · rw [if_neg c, upD_n c]
    exact H x hx k hk
theorem RelD.leaf {hc lm : Nat} {D : Nat → Nat → Nat} (H : RelD A mu mn T hc tc kc lm S tc D) (b2 : tc ≤ 12) (b4 : 1 ≤ lm ∧ lm ≤ 4) (hT : ∀ q, q < 12 → T q = A q) : bh T mu mn hc tc kc lm = 0 ↔ gdD hc kc D = true := by
  have em : ∀ s k, mo T mu mn tc s k = mo A mu mn tc s k := fun s k => fb_ct_cong (fun u hu => by rw [hT u (by omega)])
  rw [gdD_iff]
  constructor
  · intro h x hx k hk
    have h1 : (bh T mu mn hc tc kc lm).testBit x = false := by rw [h, Nat.zero_testBit]
    unfold bh at h1
    rw [sb_bit, decide_eq_true hx, Bool.true_and] at h1
    have h2 : bb T mu mn tc kc lm (kp (fun t => T (24 + t)) tc (nI x)) = 0 := Classical.byContradiction (fun z => of_decide_eq_false h1 z)
    have h3 := (bb_0.mp h2) k hk
    rw [em] at h3
    rw [H x hx k hk, dc_end]
    omega
  · intro h
    apply Nat.eq_of_testBit_eq
    intro x
    unfold bh
    rw [sb_bit, Nat.zero_testBit]
    by_cases c : x < hc
    · have h2 : bb T mu mn tc kc lm (kp (fun t => T (24 + t)) tc (nI x)) = 0 := bb_0.mpr (fun k hk => by
        have h3 := h x c k hk
        rw [H x c k hk, dc_end] at h3
        rw [em]
        omega)
      rw [h2, decide_eq_false (p := ¬ (0 : Nat) = 0) (fun z => z rfl), Bool.and_false]
    · rw [decide_eq_false c, Bool.false_and]
end DCS
section GST
variable {κ : Kp} {ν : Mem} {hc tc kc lm S : Nat}
theorem y_gs37 (hM : Mn ν hc tc kc lm) (rc : Nat → Nat → Int32 → Int32 → Int32 → ci_H → Option ci_H) {T f : Nat → Int32} {bm : Nat} : ∃ f', b_X12_goStore_37 rc 127 bigN 0 (hp κ (gsM ν T bm f)) = some (hp κ (gsM ν T bm f')) ∧ ∀ u, u < tc → f' u = T (24 + u) := by
  have b2 := hM.2.2.2.2.2.1
  have e2 : ∀ f, (gsM ν T bm f).1 127 2 = nI tc := fun f => (hM.gs (T := T) (bm := bm) (f := f)).2.1
  have e138 : ∀ f, (gsM ν T bm f).1 138 = T := fun _ => rfl
  have hs : ∀ k ξ, k < tc → (∃ f', ξ = gsM ν T bm f' ∧ ∀ u, u < k → f' u = T (24 + u)) → ∃ ζ, (∀ n, (fun n k ξ => b_X12_goStore_37 rc 127 n (nI k) (hp κ ξ)) (n + 1) k ξ = (fun n k ξ => b_X12_goStore_37 rc 127 n (nI k) (hp κ ξ)) n (k + 1) ζ) ∧ ∃ f', ζ = gsM ν T bm f' ∧ ∀ u, u < k + 1 → f' u = T (24 + u) := by
    rintro k ξ hk ⟨f', rfl, hf⟩
    refine ⟨gsM ν T bm (upd f' k (T (24 + k))), fun n => ?_, _, rfl, fun u hu => ?_⟩
    · (try dsimp only)
      rw [b_X12_goStore_37, g127_2, obs, e2, if_neg (nI_ge hk (by omega)), g127_28, obs, g127_25, obs, i24, r138 (by omega), obs, e138, w141 (by omega), obs, gs_141, nI_1]
    · by_cases z : u = k
      · subst z; rw [pk_us]
      · rw [pk_un z]; exact hf u (by omega)
  obtain ⟨ξ, ⟨f', hf1, hf2⟩, h2⟩ := lpf (fun n k ξ => b_X12_goStore_37 rc 127 n (nI k) (hp κ ξ)) (fun k ξ => ∃ f', ξ = gsM ν T bm f' ∧ ∀ u, u < k → f' u = T (24 + u)) tc hs (gsM ν T bm f) ⟨f, rfl, fun u hu => absurd hu (Nat.not_lt_zero _)⟩ tc (Nat.le_refl _)
  subst hf1
  refine ⟨f', ?_, hf2⟩
  have h3 := h2 (4999 - tc + 1)
  (try dsimp only at h3)
  rw [show 4999 - tc + 1 + tc = 5000 by omega] at h3
  refine Eq.trans h3 ?_
  rw [b_X12_goStore_37, g127_2, obs, e2, if_pos (nI_le (Nat.le_refl _) (by omega))]
theorem y_goStore (hM : Mn ν hc tc kc lm) (hS : S < 4096) : ∀ (n t F mv bm : Nat) (T f : Nat → Int32) (D : Nat → Nat → Nat), t + n = tc → (∀ q, q < 12 → T q = ν.1 128 q) → (∀ u, S.testBit u = true → t ≤ u → u < tc → T (24 + u) = ν.1 128 (24 + u)) → RelD (ν.1 128) (ν.1 129) (ν.1 130) T hc tc kc lm S t D → mv + n ≤ 12 → bm ≤ 1000000 → ∃ bm' f', FG_X12_goStore (F + n + 1) 0 127 (nI S) (nI t) (nI mv) (hp κ (gsM ν T bm f)) = some (hp κ (gsM ν T bm' f')) ∧ bm' ≤ 1000000 ∧ Res (fun p f' => ∀ u, u < tc → f' u = asg T (tl S n t) p (24 + u)) (opt (ν.1 128) (ν.1 129) (ν.1 130) hc kc (tl S n t) D) mv bm f bm' f' := by
  have b1 := hM.2.2.2.2.1
  have b2 := hM.2.2.2.2.2.1
  have b3 := hM.2.2.2.2.2.2.1
  have b4 := hM.2.2.2.2.2.2.2
  have e29 : ∀ T bm f, (gsM ν T bm f).1 127 29 = nI bm := fun _ _ _ => rfl
  have e2 : ∀ T bm f, (gsM ν T bm f).1 127 2 = nI tc := fun T bm f => (hM.gs (T := T) (bm := bm) (f := f)).2.1
  have e1 : ∀ T bm f, (gsM ν T bm f).1 127 1 = nI hc := fun T bm f => (hM.gs (T := T) (bm := bm) (f := f)).1
  have e128 : ∀ T bm f, (gsM ν T bm f).1 128 = ν.1 128 := fun _ _ _ => rfl
  intro n
  induction n with
  | zero =>
    intro t F mv bm T f D ht hT hK hD hmv hbm
    have ht : t = tc := ht
    subst ht
    show ∃ bm' f', G_X12_goStore (fun j a0 a1 a2 a3 h => FG_X12_goStore F j a0 a1 a2 a3 h) 127 (nI S) (nI t) (nI mv) (hp κ (gsM ν T bm f)) = _ ∧ _
    unfold G_X12_goStore
    rw [if_pos q127, g127_29, obs, e29]
    by_cases c : mv < bm
    · have hbh := y_brokenHouses (κ := κ) (hM.gs (T := T) (bm := bm) (f := f)) (m := 138) rfl
      have e8 : (gsM ν T bm f).1 138 = T ∧ (gsM ν T bm f).1 129 = ν.1 129 ∧ (gsM ν T bm f).1 130 = ν.1 130 := ⟨rfl, rfl, rfl⟩
      rw [e8.1, e8.2.1, e8.2.2] at hbh
      have hbl : bh T (ν.1 129) (ν.1 130) hc t kc lm < 2 ^ 5 := sb_le _ (m := 5) b1.2
      have hlf := hD.leaf b2 b4 hT
      rw [if_pos (nI_lt c (by omega)), g127_2, obs, e2, if_pos rfl, g127_25, obs, hbh, obs]
      (try dsimp only)
      have eo : opt (ν.1 128) (ν.1 129) (ν.1 130) hc kc (tl S 0 t) D = if gdD hc kc D = true then some (0, []) else none := rfl
      rw [eo]
      by_cases c2 : gdD hc kc D = true
      · obtain ⟨f', k1, k2⟩ := y_gs37 (κ := κ) (ν := ν) hM (fun j a0 a1 a2 a3 h => FG_X12_goStore F j a0 a1 a2 a3 h) (T := T) (f := f) (bm := mv)
        rw [hlf.mpr c2, if_pos (show nI 0 = 0 from rfl), p127_29, obs, gs_29, k1, if_pos c2]
        refine ⟨mv, f', rfl, by omega, fun x hx _ => ?_, fun hn => ?_⟩
        · injection hx with hx
          subst hx
          exact ⟨rfl, k2⟩
        · exact absurd (show mv + 0 < bm by omega) (hn (0, []) rfl)
      · rw [if_neg (fun z => c2 (hlf.mp ((i_eq0 (by omega)).mp z))), if_neg c2]
        exact ⟨bm, f, rfl, hbm, Res.no⟩
    · rw [if_neg (nI_nlt (by omega) (by omega))]
      exact ⟨bm, f, rfl, hbm, Res.far (by omega)⟩
  | succ n ih =>
    intro t F mv bm T f D ht hT hK hD hmv hbm
    show ∃ bm' f', G_X12_goStore (fun j a0 a1 a2 a3 h => FG_X12_goStore (F + n + 1) j a0 a1 a2 a3 h) 127 (nI S) (nI t) (nI mv) (hp κ (gsM ν T bm f)) = _ ∧ _
    unfold G_X12_goStore
    rw [if_pos q127, g127_29, obs, e29]
    by_cases c : mv < bm
    · rw [if_pos (nI_lt c (by omega)), g127_2, obs, e2, if_neg (fun z => absurd ((i_eq (by omega) (by omega)).mp z) (by omega)), y_has (by omega) (by omega), obs]
      (try dsimp only)
      rw [tl_s]
      by_cases cS : S.testBit t = true
      · rw [if_pos cS, if_neg (show ¬ (1 : Int32) = 0 by decide), if_pos cS]
        have hTu : ∀ (T' : Nat → Int32) v, (∀ q, q ≠ 24 + t → T' q = T q) → upd T' (24 + t) v = upd T (24 + t) v := fun T' v h => by
          funext q
          by_cases z : q = 24 + t
          · subst z; rw [pk_us, pk_us]
          · rw [pk_un z, pk_un z, h q z]
        obtain ⟨ξ, ⟨T', bm', f', hξ, hT', hbm', hR⟩, hx2⟩ := lpe (fun n' k (ξ : Mem) => b_X12_goStore_91 (fun j a0 a1 a2 a3 h => FG_X12_goStore (F + n + 1) j a0 a1 a2 a3 h) 127 (nI S) (nI t) (nI mv) n' (nI k) (hp κ ξ)) (fun k ξ => ∃ T' bm' f', ξ = gsM ν T' bm' f' ∧ (∀ q, q ≠ 24 + t → T' q = T q) ∧ bm' ≤ 1000000 ∧ Res (fun p f' => ∀ u, u < tc → f' u = asg T (t :: tl S n (t + 1)) p (24 + u)) (mnO (fun h => shO h (cst (ν.1 128) t h) (opt (ν.1 128) (ν.1 129) (ν.1 130) hc kc (tl S n (t + 1)) (upD (ν.1 128) (ν.1 129) (ν.1 130) D h t))) k) mv bm f bm' f') hc (fun k ξ hk hQ => by
          obtain ⟨T', bm', f', rfl, hT', hbm', hR⟩ := hQ
          obtain ⟨bm2, f2, k1, k2, k3⟩ := ih (t + 1) F (mv + cst (ν.1 128) t k) bm' (upd T (24 + t) (nI k)) f' (upD (ν.1 128) (ν.1 129) (ν.1 130) D k t) (by omega) (fun q hq => by rw [pk_un (by omega)]; exact hT q hq) (fun u h1 h2 h3 => by rw [pk_un (by omega)]; exact hK u h1 (by omega) h3) (hD.put cS (by omega) b1.2 hk) (by have := cst_le (A := ν.1 128) (t := t) (h := k); omega) hbm'
          refine ⟨gsM ν (upd T (24 + t) (nI k)) bm2 f2, fun n' => ?_, _, bm2, f2, rfl, fun q hq => pk_un hq, k2, ?_⟩
          · have hcs : cst (ν.1 128) t k = (if ν.1 128 (24 + t) = nI k then 0 else 1) := rfl
            (try dsimp only)
            rw [b_X12_goStore_91, g127_1, obs, e1, if_neg (nI_ge hk (by omega)), g127_25, obs, i24, w138 (by omega), obs, gs_138, hTu T' _ hT', g127_0, obs, r128 (by omega), obs, e128]
            rw [hcs] at k1
            unfold b_X12_goStore_136
            by_cases cc : ν.1 128 (24 + t) = nI k
            · rw [if_pos cc] at k1
              rw [if_pos cc.symm, nI_1, Int32.add_zero]
              have k1 : FG_X12_goStore (F + n + 1) 0 127 (nI S) (nI (t + 1)) (nI mv) _ = _ := k1
              (try dsimp only)
              rw [k1, obs, nI_1]
            · rw [if_neg cc] at k1
              rw [if_neg (fun z => cc z.symm), nI_1, nI_1]
              (try dsimp only)
              rw [k1, obs, nI_1]
          · rw [mnO_s]
            exact hR.bt (Res.sh k3)) (gsM ν T bm f) ⟨T, bm, f, rfl, fun _ _ => rfl, hbm, Res.no⟩ hc (Nat.le_refl _)
        have h3 := hx2 (4999 - hc + 1)
        (try dsimp only at h3)
        rw [show 4999 - hc + 1 + hc = 5000 by omega] at h3
        refine ⟨bm', f', ?_, hbm', hR⟩
        refine Eq.trans h3 ?_
        subst hξ
        have eT : upd T' (24 + t) (ν.1 128 (24 + t)) = T := by
          rw [hTu T' _ hT']
          funext q
          by_cases z : q = 24 + t
          · subst z
            rw [pk_us]
            exact (hK t cS (Nat.le_refl _) (by omega)).symm
          · rw [pk_un z]
        rw [b_X12_goStore_91, g127_1, obs, e1, if_pos (nI_le (Nat.le_refl _) (by omega)), g127_25, obs, g127_0, obs, i24, r128 (by omega), obs, e128, w138 (by omega), obs, gs_138, eT]
      · rw [if_neg cS, if_pos rfl, if_neg cS, nI_1]
        obtain ⟨bm2, f2, k1, k2, k3⟩ := ih (t + 1) F mv bm T f D (by omega) hT (fun u h1 h2 h3 => hK u h1 (by omega) h3) (hD.skip cS) (by omega) hbm
        rw [k1, obs]
        exact ⟨bm2, f2, rfl, k2, k3⟩
    · rw [if_neg (nI_nlt (by omega) (by omega))]
      exact ⟨bm, f, rfl, hbm, Res.far (by omega)⟩
end GST
