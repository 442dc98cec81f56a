/-! PURE: pairs: finds. -/
theorem dvL_1000 (x : Int64) : dvL x (Int64.ofNat 1000) = some (x / Int64.ofNat 1000) := by
  unfold dvL
  rw [if_neg (by decide)]
/-- chances shifted -/
def shf (q : Int64) (f : Nat → Int64) : Nat → Int64 := fun j => if j = 0 then (f 0 * (Int64.ofNat 1000 - q)) / Int64.ofNat 1000 else (f j * (Int64.ofNat 1000 - q) + f (j - 1) * q) / Int64.ofNat 1000
/-- from j on shifted -/
def shP (q : Int64) (f : Nat → Int64) (j : Nat) : Nat → Int64 := fun i => if j ≤ i ∧ i ≤ 12 then shf q f i else f i
theorem shP_13 {q : Int64} {f : Nat → Int64} : shP q f 13 = f := by
  funext i
  unfold shP
  rw [if_neg (by omega)]
theorem shP_s {q : Int64} {f : Nat → Int64} {j : Nat} (h : j ≤ 12) : vp_updL (shP q f (j + 1)) j (shf q f j) = shP q f j := by
  funext i
  by_cases c : i = j
  · subst c
    rw [pk_uLs]
    unfold shP
    rw [if_pos (by omega)]
  · rw [pk_uLn c]
    unfold shP
    by_cases c2 : j + 1 ≤ i ∧ i ≤ 12
    · rw [if_pos c2, if_pos (by omega)]
    · rw [if_neg c2, if_neg (by omega)]
theorem i64_add0 (x : Int64) : x + Int64.ofNat 0 = x := Int64.add_zero x
def st0 (f : Nat → Int64) (j : Nat) : Nat → Int64 := fun i => if i < j then (if i = 0 then Int64.ofNat 1000000 else Int64.ofNat 0) else f i
def sz0 (f : Nat → Int64) (j : Nat) : Nat → Int64 := fun i => if i < j then Int64.ofNat 0 else f i
section CHN
variable {κ : Kp} {μ ν : Mem} {f : Nat → Int64}
theorem x_start : F_X11_startChances 0 (hp κ μ) = some (hp κ (rowL μ 126 (st0 (μ.2 126) 13))) := by
  unfold F_X11_startChances
  rw [if_pos q0]
  have h := lpk (fun n j => b_X11_startChances_2 0 n (nI j) (hp κ (rowL μ 126 (sz0 (μ.2 126) j)))) 13 (some (hp κ (rowL μ 126 (st0 (μ.2 126) 13)))) ?_ ?_ bigN 0 (Nat.zero_le _) (by unfold bigN; omega)
  · (try dsimp only at h)
    have e : sz0 (μ.2 126) 0 = μ.2 126 := by funext i; unfold sz0; rw [if_neg (by omega)]
    have e2 : rowL μ 126 (μ.2 126) = μ := by
      unfold rowL
      refine Prod.ext rfl ?_
      funext b
      (try dsimp only)
      split
      next h => rw [h]
      · rfl
    rw [e, e2] at h
    exact h
  · intro n j hj
    (try dsimp only)
    rw [b_X11_startChances_2, if_neg (show ¬ (12 : Int32) < nI j from nI_nlt (a := 12) (by omega) (by decide)), g0_18, obs, w126 hj, obs, nI_1]
    show b_X11_startChances_2 0 n (nI (j + 1)) (hp κ (rowL (rowL μ 126 _) 126 (vp_updL ((rowL μ 126 _).2 126) j _))) = _
    rw [rowL_rowL, rowL_s]
    congr 3
    funext i
    by_cases c : i = j
    · subst c
      rw [pk_uLs]
      unfold sz0
      rw [if_pos (by omega)]
    · rw [pk_uLn c]
      unfold sz0
      by_cases c2 : i < j
      · rw [if_pos c2, if_pos (by omega)]
      · rw [if_neg c2, if_neg (by omega)]
  · intro n
    (try dsimp only)
    rw [b_X11_startChances_2, if_pos (by decide), g0_18, obs, show (0 : Int32) = nI 0 from rfl, w126 (by decide), obs]
    show some (hp κ (rowL (rowL μ 126 _) 126 (vp_updL ((rowL μ 126 _).2 126) 0 _))) = _
    rw [rowL_rowL, rowL_s]
    congr 3
    funext i
    by_cases c : i = 0
    · subst c
      rw [pk_uLs]
      unfold st0
      rw [if_pos (by omega), if_pos rfl]
    · rw [pk_uLn c]
      unfold sz0 st0
      by_cases c2 : i < 13
      · rw [if_pos c2, if_pos c2, if_neg c]
      · rw [if_neg c2, if_neg c2]
theorem x_shift (q : Int64) : F_X11_shiftChances 0 q (hp κ (rowL μ 126 f)) = some (hp κ (rowL μ 126 (shP q f 0))) := by
  unfold F_X11_shiftChances
  rw [if_pos q0]
  have h := lpk (fun n i => b_X11_shiftChances_3 0 q n (nI (12 - i)) (hp κ (rowL μ 126 (shP q f (13 - i))))) 12 (some (hp κ (rowL μ 126 (shP q f 0)))) ?_ ?_ bigN 0 (Nat.zero_le _) (by unfold bigN; omega)
  · (try dsimp only at h)
    rw [show 13 - 0 = 13 from rfl, shP_13] at h
    exact h
  · intro n i hi
    (try dsimp only)
    obtain ⟨j, hj⟩ : ∃ j, 12 - i = j + 1 := ⟨12 - i - 1, by omega⟩
    have e1 : nI (j + 1) - 1 = nI j := pk_sub (a := j + 1) (b := 1) (by omega)
    have e2 : shP q f (j + 1 + 1) (j + 1) = f (j + 1) := by unfold shP; rw [if_neg (by omega)]
    have e3 : shP q f (j + 1 + 1) j = f j := by unfold shP; rw [if_neg (by omega)]
    have e4 : (f (j + 1) * (Int64.ofNat 1000 - q) + f j * q) / Int64.ofNat 1000 = shf q f (j + 1) := by
      unfold shf
      rw [if_neg (by omega)]
      rfl
    rw [hj, show 13 - i = j + 1 + 1 by omega, b_X11_shiftChances_3, if_neg (show ¬ nI (j + 1) ≤ 0 from nI_ge (a := 0) (by omega) (by omega)), g0_18, obs, obs, r126 (by omega), obs, obs, e1, r126 (by omega), obs, rowL_s, e2, e3, dvL_1000, obs, e4, w126 (by omega), obs, nI_dn]
    show b_X11_shiftChances_3 0 q n (nI j) (hp κ (rowL (rowL μ 126 _) 126 (vp_updL ((rowL μ 126 _).2 126) (j + 1) _))) = _
    rw [rowL_rowL, rowL_s, shP_s (by omega), show 12 - (i + 1) = j by omega, show 13 - (i + 1) = j + 1 by omega]
  · intro n
    (try dsimp only)
    have e2 : shP q f 1 0 = f 0 := by unfold shP; rw [if_neg (by omega)]
    have e4 : (f 0 * (Int64.ofNat 1000 - q)) / Int64.ofNat 1000 = shf q f 0 := by
      unfold shf
      rw [if_pos rfl]
    rw [show 12 - 12 = 0 from rfl, show 13 - 12 = 1 from rfl, b_X11_shiftChances_3, if_pos (by decide), g0_18, obs, obs, show (0 : Int32) = nI 0 from rfl, r126 (by decide), obs, rowL_s, e2, dvL_1000, obs, e4, w126 (by decide), obs]
    show some (hp κ (rowL (rowL μ 126 _) 126 (vp_updL ((rowL μ 126 _).2 126) 0 _))) = _
    rw [rowL_rowL, rowL_s, shP_s (by omega)]
def ixd (i : Nat) : Int32 := if i ≤ 12 then nI (12 - i) else -1
theorem y_shift (q : Int64) (t x k p : Int32) (r : Int32 → ci_H → Option (Int32 × ci_H)) : b_X12_finds_124 r 127 x k p t q bigN 12 (hp κ (rowL ν 144 f)) = r (t + 1) (hp κ (rowL ν 144 (shP q f 0))) := by
  have h := lpk (fun n i => b_X12_finds_124 r 127 x k p t q n (ixd i) (hp κ (rowL ν 144 (shP q f (13 - i))))) 13 (r (t + 1) (hp κ (rowL ν 144 (shP q f 0)))) ?_ ?_ bigN 0 (Nat.zero_le _) (by unfold bigN; omega)
  · (try dsimp only at h)
    rw [show 13 - 0 = 13 from rfl, shP_13] at h
    exact h
  · intro n i hi
    (try dsimp only)
    by_cases h12 : i = 12
    · subst h12
      have e2 : shP q f 1 0 = f 0 := by unfold shP; rw [if_neg (by omega)]
      have e4 : (f 0 * (Int64.ofNat 1000 - q)) / Int64.ofNat 1000 = shf q f 0 := by
        unfold shf
        rw [if_pos rfl]
      rw [show ixd 12 = nI 0 from rfl, show ixd (12 + 1) = -1 from rfl, show 13 - 12 = 1 from rfl, b_X12_finds_124, if_neg (nI_pos (by decide)), g127_37, obs, obs, r144 (by decide), obs, rowL_s, e2, if_pos (show nI 0 = 0 from rfl)]
      unfold b_X12_finds_170
      rw [i64_add0, dvL_1000, obs, e4, w144 (by decide), obs]
      show b_X12_finds_124 r 127 x k p t q n (nI 0 + -1) (hp κ (rowL (rowL ν 144 _) 144 (vp_updL ((rowL ν 144 _).2 144) 0 _))) = _
      rw [rowL_rowL, rowL_s, shP_s (by omega)]
      rfl
    obtain ⟨j, hj⟩ : ∃ j, 12 - i = j + 1 := ⟨12 - i - 1, by omega⟩
    have hj1 : ixd i = nI (j + 1) := by unfold ixd; rw [if_pos (by omega), hj]
    have hj2 : ixd (i + 1) = nI j := by unfold ixd; rw [if_pos (by omega), show 12 - (i + 1) = j by omega]
    have e1 : nI (j + 1) - 1 = nI j := pk_sub (a := j + 1) (b := 1) (by omega)
    have e2 : shP q f (j + 1 + 1) (j + 1) = f (j + 1) := by unfold shP; rw [if_neg (by omega)]
    have e3 : shP q f (j + 1 + 1) j = f j := by unfold shP; rw [if_neg (by omega)]
    have e4 : (f (j + 1) * (Int64.ofNat 1000 - q) + f j * q) / Int64.ofNat 1000 = shf q f (j + 1) := by
      unfold shf
      rw [if_neg (by omega)]
      rfl
    rw [hj1, hj2, show 13 - i = j + 1 + 1 by omega, b_X12_finds_124, if_neg (nI_pos (by omega)), g127_37, obs, obs, r144 (by omega), obs, rowL_s, e2, if_neg (fun z => by have := (i_eq0 (by omega)).mp z; omega), obs, e1, r144 (by omega), obs, rowL_s, e3]
    unfold b_X12_finds_170
    rw [dvL_1000, obs, e4, w144 (by omega), obs, nI_dn]
    show b_X12_finds_124 r 127 x k p t q n (nI j) (hp κ (rowL (rowL ν 144 _) 144 (vp_updL ((rowL ν 144 _).2 144) (j + 1) _))) = _
    rw [rowL_rowL, rowL_s, shP_s (by omega), show 13 - (i + 1) = j + 1 by omega]
  · intro n
    (try dsimp only)
    rw [show ixd 13 = -1 from rfl, b_X12_finds_124, if_pos (by decide)]
    rfl
theorem y_start (x k p : Int32) : b_X12_finds_36 127 x k p bigN 0 (hp κ ν) = b_X12_finds_71 127 x k p bigN 0 (hp κ (rowL ν 144 (st0 (ν.2 144) 13))) := by
  have h := lpk (fun n j => b_X12_finds_36 127 x k p n (nI j) (hp κ (rowL ν 144 (st0 (ν.2 144) j)))) 13 (b_X12_finds_71 127 x k p bigN 0 (hp κ (rowL ν 144 (st0 (ν.2 144) 13)))) ?_ ?_ bigN 0 (Nat.zero_le _) (by unfold bigN; omega)
  · (try dsimp only at h)
    have e : st0 (ν.2 144) 0 = ν.2 144 := by funext i; unfold st0; rw [if_neg (by omega)]
    have e2 : rowL ν 144 (ν.2 144) = ν := by
      unfold rowL
      refine Prod.ext rfl ?_
      funext b
      (try dsimp only)
      split
      next h => rw [h]
      · rfl
    rw [e, e2] at h
    exact h
  · intro n j hj
    (try dsimp only)
    have hu : vp_updL (st0 (ν.2 144) j) j (if j = 0 then Int64.ofNat 1000000 else Int64.ofNat 0) = st0 (ν.2 144) (j + 1) := by
      funext i
      by_cases c : i = j
      · subst c
        rw [pk_uLs]
        unfold st0
        rw [if_pos (show i < i + 1 by omega)]
      · rw [pk_uLn c]
        unfold st0
        by_cases c2 : i < j
        · rw [if_pos c2, if_pos (show i < j + 1 by omega)]
        · rw [if_neg c2, if_neg (show ¬ i < j + 1 by omega)]
    have hw : ∀ v, b_X12_finds_61 (fun x0 x1 => b_X12_finds_36 127 x k p n x0 x1) 127 x k p (nI j) 144 (nI j) v (hp κ (rowL ν 144 (st0 (ν.2 144) j))) = b_X12_finds_36 127 x k p n (nI (j + 1)) (hp κ (rowL ν 144 (vp_updL (st0 (ν.2 144) j) j v))) := fun v => by
      unfold b_X12_finds_61
      rw [w144 hj, obs, nI_1]
      show b_X12_finds_36 127 x k p n (nI (j + 1)) (hp κ (rowL (rowL ν 144 _) 144 (vp_updL ((rowL ν 144 _).2 144) j _))) = _
      rw [rowL_rowL, rowL_s]
    rw [b_X12_finds_36, if_neg (show ¬ (12 : Int32) < nI j from nI_nlt (a := 12) (by omega) (by decide)), g127_37, obs, hw, hw, ← hu]
    by_cases c : j = 0
    · subst c
      rw [if_pos (show nI 0 = 0 from rfl), if_pos rfl]
    · rw [if_neg (fun z => c ((i_eq0 (by omega)).mp z)), if_neg c]
  · intro n
    (try dsimp only)
    rw [b_X12_finds_36, if_pos (by decide)]
def smL (f : Nat → Int64) (a n : Nat) : Int64 := it (fun i s => s + f (a + i)) (Int64.ofNat 0) n
theorem x_sumL {a : Nat} (ha : a ≤ 13) : b_X11_finds_137 0 bigN (Int64.ofNat 0) (nI a) (hp κ (rowL μ 126 f)) = some ((smL f a (13 - a)).toInt32, hp κ (rowL μ 126 f)) := by
  refine lpk (fun n i => b_X11_finds_137 0 n (smL f a i) (nI (a + i)) (hp κ (rowL μ 126 f))) (13 - a) _ ?_ ?_ bigN 0 (Nat.zero_le _) (by unfold bigN; omega)
  · intro n i hi
    (try dsimp only)
    rw [b_X11_finds_137, if_neg (show ¬ (12 : Int32) < nI (a + i) from nI_nlt (a := 12) (by omega) (by decide)), g0_18, obs, r126 (by omega), obs, rowL_s, nI_1]
    rfl
  · intro n
    (try dsimp only)
    rw [show a + (13 - a) = 13 by omega, b_X11_finds_137, if_pos (by decide)]
theorem y_sumL {a : Nat} (ha : a ≤ 13) : b_X12_finds_199 127 bigN (Int64.ofNat 0) (nI a) (hp κ (rowL ν 144 f)) = some ((smL f a (13 - a)).toInt32, hp κ (rowL ν 144 f)) := by
  refine lpk (fun n i => b_X12_finds_199 127 n (smL f a i) (nI (a + i)) (hp κ (rowL ν 144 f))) (13 - a) _ ?_ ?_ bigN 0 (Nat.zero_le _) (by unfold bigN; omega)
  · intro n i hi
    (try dsimp only)
    rw [b_X12_finds_199, if_neg (show ¬ (12 : Int32) < nI (a + i) from nI_nlt (a := 12) (by omega) (by decide)), g127_37, obs, r144 (by omega), obs, rowL_s, nI_1]
    rfl
  · intro n
    (try dsimp only)
    rw [show a + (13 - a) = 13 by omega, b_X12_finds_199, if_pos (by decide)]
end CHN
/-- the chances behind t things: those kept by s, each as likely as L t of W -/
def chF (s W : Nat) (L : Nat → Nat) : Nat → (Nat → Int64) → (Nat → Int64) := fun t f => if s.testBit t then shP (lN (1000 * L t / W)) f 0 else f
theorem smL_cg {f g : Nat → Int64} {a : Nat} : ∀ n, (∀ i, i < n → f (a + i) = g (a + i)) → smL f a n = smL g a n
  | 0, _ => rfl
  | n + 1, h => by
    show smL f a n + f (a + n) = smL g a n + g (a + n)
    rw [smL_cg n (fun i hi => h i (by omega)), h n (by omega)]
theorem shP_cg {f g : Nat → Int64} {q : Int64} (h : ∀ i, i < 13 → f i = g i) : ∀ i, i < 13 → shP q f 0 i = shP q g 0 i := fun i hi => by
  unfold shP shf
  rw [if_pos (show 0 ≤ i ∧ i ≤ 12 by omega), if_pos (show 0 ≤ i ∧ i ≤ 12 by omega), h 0 (by omega), h i hi]
  by_cases c : i = 0
  · rw [if_pos c, if_pos c]
  · rw [if_neg c, if_neg c, h (i - 1) (by omega)]
theorem chI_cg {s W : Nat} {L : Nat → Nat} {f g : Nat → Int64} (h : ∀ i, i < 13 → f i = g i) : ∀ n, ∀ i, i < 13 → it (chF s W L) f n i = it (chF s W L) g n i
  | 0 => h
  | n + 1 => fun i hi => by
    have ih := chI_cg (s := s) (W := W) (L := L) h n
    rw [it_s, it_s]
    unfold chF
    split
    · exact shP_cg ih i hi
    · exact ih i hi
theorem pr_finds : P3 F_X11_finds F_X12_finds := by
  intro x y z κ B μ hR hB hI
  (try dsimp only)
  obtain ⟨hc, tc, kc, lm, hb⟩ := hI.bs
  have b2 := hb.b2
  have b3 := hb.b3
  have b4 := hb.b4
  have d0 : ¬ (1 : Int32) = 0 := by decide
  rcases ix_hc hb x with ⟨j, hj, rfl⟩ | hx
  · rcases ix_kc hb y with ⟨k, hk, rfl⟩ | hy
    · rcases rng z 0 10 0 10 rfl rfl (by omega) (by omega) with ⟨p, j1, j2, rfl, c1, c2, c3, c4, c5⟩ | ⟨c1, c2, c3⟩ | ⟨c1, c2, c3, c4, c5⟩
      · obtain ⟨e7, e8, a, b, ha, hbb, -, -, e9, e0⟩ := hb.2.2.1 k hk
        obtain ⟨wv, hwv⟩ : ∃ wv : Nat → Nat, ∀ t, t < tc → wv t < 64 ∧ μ.1 128 t = nI (wv t) := ⟨fun t => if h : t < tc then Classical.choose (hb.2.2.2.2.1.1 t h).1 else 0, fun t ht => by
          (try dsimp only)
          rw [dif_pos ht]
          exact Classical.choose_spec (hb.2.2.2.2.1.1 t ht).1⟩
        have hW : ∀ t, (lkN p a b (wv t)).2 = 10 ^ cn (a ||| b) := fun t => by rw [lkN_cn ha hbb]
        have hB2 : ∀ t, (lkN p a b (wv t)).1 ≤ 1000000 := fun t => (lkN_b j2).1
        have hW1 : 0 < 10 ^ cn (a ||| b) ∧ 10 ^ cn (a ||| b) ≤ 1000000 := by
          have h1 := (lkN_b (p := p) (a := a) (b := b) (w := wv 0) j2).2
          rw [hW 0] at h1
          exact h1
        have hcn : cn (a ||| b) ≤ 12 := cn_le _
        have hxl : ∀ (t : Nat) (g : Nat → Int64), t < tc → F_X11_likely 0 (nI t) (nI k) (nI p) (hp κ (rowL μ 126 g)) = some (nI (lkN p a b (wv t)).1, hp κ (rowL μ 126 g)) := fun t g ht => x_likely (μ := rowL μ 126 g) (show t < 12 by omega) (show k < 6 by omega) j2 (e7.trans e9) (e8.trans e0) ((hb.tr (by omega)).trans (hwv t ht).2) ha hbb
        have hyl : ∀ (t : Nat) (ν : Mem), cl ν = cl μ → t < tc → F_X12_seesBy 127 (nI t) (nI k) (nI p) (hp κ ν) = some (hp κ (rowL ν 127 (lwF (ν.2 127) (lkN p a b (wv t)).1 (10 ^ cn (a ||| b))))) := fun t ν e ht => by
          rw [← hW t]
          exact y_sees (by omega) (by omega) j2 (by rw [f129 e]; exact e9) (by rw [f130 e]; exact e0) (by rw [f128 e]; exact (hwv t ht).2) ha hbb (hwv t ht).1
        generalize hL : (fun t => (lkN p a b (wv t)).1) = L
        have hLt : ∀ t, (lkN p a b (wv t)).1 = L t := fun t => by rw [← hL]
        simp only [hLt] at hxl hyl hB2
        generalize hWe : 10 ^ cn (a ||| b) = W at hW1 hyl
        have hmx : (if (1 : Int32) < nI W then nI W else 1) = nI W := by
          by_cases c : 1 < W
          · rw [if_pos (show (1 : Int32) < nI W from nI_lt (a := 1) c (by omega))]
          · have e : W = 1 := by omega
            rw [e]
            rfl
        have hdv : ∀ t, dvL (Int64.ofNat 1000 * (nI (L t)).toInt64) (nI W).toInt64 = some (lN (1000 * L t / W)) := fun t => by
          have h1 := hB2 t
          rw [nI_l (by omega), nI_l (by omega), show Int64.ofNat 1000 * lN (L t) = lN (1000 * L t) from lN_mul 1000 (L t), dv_l (by omega) hW1.1 (by omega)]
        have hdy : ∀ t, dvL (Int64.ofNat 1000 * lN (L t)) (lN W) = some (lN (1000 * L t / W)) := fun t => by
          have h1 := hB2 t
          rw [show Int64.ofNat 1000 * lN (L t) = lN (1000 * L t) from lN_mul 1000 (L t), dv_l (by omega) hW1.1 (by omega)]
        have hxt : ∀ g, (rowL μ 126 g).1 1 6 = nI tc ∧ (rowL μ 126 g).1 1 8 = nI lm := fun g => ⟨hb.1.2.1, hb.1.2.2.2.1⟩
        have hX : b_X11_finds_70 0 (nI k) (nI p) (nI (KP μ tc (nI j))) (nI W) bigN 0 (hp κ (rowL μ 126 (st0 (μ.2 126) 13))) = some ((smL (it (chF (KP μ tc (nI j)) W L) (st0 (μ.2 126) 13) tc) (lm + 1) (13 - (lm + 1))).toInt32, hp κ (rowL μ 126 (it (chF (KP μ tc (nI j)) W L) (st0 (μ.2 126) 13) tc))) := by
          refine lpk (fun n t => b_X11_finds_70 0 (nI k) (nI p) (nI (KP μ tc (nI j))) (nI W) n (nI t) (hp κ (rowL μ 126 (it (chF (KP μ tc (nI j)) W L) (st0 (μ.2 126) 13) t)))) tc _ ?_ ?_ bigN 0 (Nat.zero_le _) (by unfold bigN; omega)
          · intro n t ht
            (try dsimp only)
            rw [it_s]
            generalize it (chF (KP μ tc (nI j)) W L) (st0 (μ.2 126) 13) t = g
            rw [b_X11_finds_70, g0_0, obs, g1_6, obs, (hxt g).1, if_neg (nI_ge ht (by omega)), i_bit (small (KP_lt b2)) (by omega)]
            unfold b_X11_finds_117 chF
            cases c : (KP μ tc (nI j)).testBit t with
            | false =>
              rw [if_pos (show (if false = true then (1 : Int32) else 0) = 0 by decide), nI_1]
              simp only [Bool.false_eq_true, ↓reduceIte]
            | true =>
              rw [if_neg (show ¬ (if true = true then (1 : Int32) else 0) = 0 by decide), hxl t g ht, obs]
              (try dsimp only)
              rw [hdv, obs, x_shift, obs, nI_1]
              simp only [↓reduceIte]
          · intro n
            (try dsimp only)
            generalize it (chF (KP μ tc (nI j)) W L) (st0 (μ.2 126) 13) tc = g
            rw [b_X11_finds_70, g0_0, obs, g1_6, obs, (hxt g).1, if_pos (nI_le (Nat.le_refl tc) (by omega)), obs, g1_8, obs, (hxt g).2, nI_1, x_sumL (by omega)]
        have hf : F_X11_finds 0 (nI j) (nI k) (nI p) (hp κ μ) = some ((smL (it (chF (KP μ tc (nI j)) W L) (st0 (μ.2 126) 13) tc) (lm + 1) (13 - (lm + 1))).toInt32, hp κ (rowL μ 126 (it (chF (KP μ tc (nI j)) W L) (st0 (μ.2 126) 13) tc))) := by
          unfold F_X11_finds
          rw [if_pos q0, g0_0, obs, X_hasHouse1 hb rfl hj, obs]
          (try dsimp only)
          rw [if_neg d0, g0_0, obs, X_hasKind1 hb rfl hk, obs]
          (try dsimp only)
          rw [if_neg d0, if_neg c1, if_pos c4, g0_0, obs, X_kept hb rfl, obs]
          (try dsimp only)
          rw [g0_0, obs, x_namedBy (by omega) (e7.trans e9) (e8.trans e0) ha hbb, obs]
          (try dsimp only)
          rw [show (10 : Int32) = nI 10 from rfl, x_power (by omega), obs, hWe]
          (try dsimp only)
          rw [x_start, obs, hmx]
          exact hX
        obtain ⟨ν, hν⟩ : ∃ ν, ν = rowL μ 126 (it (chF (KP μ tc (nI j)) W L) (st0 (μ.2 126) 13) tc) := ⟨_, rfl⟩
        have eν : cl ν = cl μ := by rw [hν]; exact cl_L
        obtain ⟨ξ, hx1, hx2⟩ := lpe (fun n t (ξ : Mem) => b_X12_finds_71 127 (nI j) (nI k) (nI p) n (nI t) (hp κ (rowL ξ 144 (it (chF (KP μ tc (nI j)) W L) (st0 ((Zr ν).2 144) 13) t)))) (fun t ξ => ξ.1 = (Zr ν).1 ∧ ∀ q, q ≠ 127 → ξ.2 q = (Zr ν).2 q) tc (fun t ξ ht hQ => by
          have ez : ∀ g, cl (rowL ξ 144 g) = cl μ := fun g => by
            rw [cl_L, cl_fst hQ.1, cl_Z, eν]
          have m2 : ∀ g, (rowL ξ 144 g).1 127 2 = nI tc := fun g => ((hb.mv (ez g)).2.1).2.1
          by_cases c : μ.1 128 (24 + t) = nI j
          · have ct : (KP μ tc (nI j)).testBit t = true := by rw [KP_bit ht]; exact decide_eq_true c
            refine ⟨rowL ξ 127 (lwF (ξ.2 127) (L t) W), fun n => ?_, hQ.1, fun q hq => by rw [rowL_n hq]; exact hQ.2 q hq⟩
            (try dsimp only)
            rw [it_s]
            generalize it (chF (KP μ tc (nI j)) W L) (st0 ((Zr ν).2 144) 13) t = g
            have e1 : ∀ h, rowL (rowL ξ 144 g) 127 h = rowL (rowL ξ 127 h) 144 g := fun h => by
              unfold rowL
              refine Prod.ext rfl ?_
              funext z
              (try dsimp only)
              by_cases z1 : z = 127
              · subst z1; rfl
              · simp only [if_neg z1]
            have e2 : (rowL ξ 144 g).2 127 = ξ.2 127 := rowL_n (by decide)
            have f35 : ∀ h, (rowL (rowL ξ 127 (lwF (ξ.2 127) (L t) W)) 144 h).2 127 35 = lN (L t) := fun h => by rw [rowL_n (by decide), rowL_s]; rfl
            have f36 : ∀ h, (rowL (rowL ξ 127 (lwF (ξ.2 127) (L t) W)) 144 h).2 127 36 = lN W := fun h => by rw [rowL_n (by decide), rowL_s]; rfl
            rw [b_X12_finds_71, g127_2, obs, m2, if_neg (nI_ge ht (by omega)), g127_0, obs, i24, r128 (by omega), obs, f128 (ez g), if_pos c, hyl t _ (ez g) ht, obs, e2, e1, g127_35, obs, f35, g127_36, obs, f36, hdy, obs, y_shift, nI_1]
            unfold chF
            rw [if_pos ct]
          · have ct : (KP μ tc (nI j)).testBit t = false := by rw [KP_bit ht]; exact decide_eq_false c
            refine ⟨ξ, fun n => ?_, hQ⟩
            (try dsimp only)
            rw [it_s]
            generalize it (chF (KP μ tc (nI j)) W L) (st0 ((Zr ν).2 144) 13) t = g
            rw [b_X12_finds_71, g127_2, obs, m2, if_neg (nI_ge ht (by omega)), g127_0, obs, i24, r128 (by omega), obs, f128 (ez g), if_neg c]
            unfold b_X12_finds_182 chF
            rw [ct, nI_1]
            simp only [Bool.false_eq_true, ↓reduceIte]) (Zr ν) ⟨rfl, fun _ _ => rfl⟩ tc (Nat.le_refl tc)
        have h9 := hx2 (4999 - tc + 1)
        (try dsimp only at h9)
        rw [show 4999 - tc + 1 + tc = 5000 by omega] at h9
        have ez : ∀ g, cl (rowL ξ 144 g) = cl μ := fun g => by
          rw [cl_L, cl_fst hx1.1, cl_Z, eν]
        have hsum : smL (it (chF (KP μ tc (nI j)) W L) (st0 ((Zr ν).2 144) 13) tc) (lm + 1) (13 - (lm + 1)) = smL (it (chF (KP μ tc (nI j)) W L) (st0 (μ.2 126) 13) tc) (lm + 1) (13 - (lm + 1)) := smL_cg _ (fun i hi => chI_cg (fun i hi => by
          unfold st0
          rw [if_pos hi, if_pos hi]) tc _ (by omega))
        refine ⟨_, ν, rowL ξ 144 (it (chF (KP μ tc (nI j)) W L) (st0 ((Zr ν).2 144) 13) tc), by rw [hν]; exact hf, ?_, ?_⟩
        · unfold F_X12_finds
          rw [if_pos q127, p11, obs, Y_isHouse1 hb (cl_Z.trans eν) hj, obs]
          (try dsimp only)
          rw [if_neg d0, Y_isKind1 hb (cl_Z.trans eν) hk, obs]
          (try dsimp only)
          rw [if_neg d0, c5, obs]
          (try dsimp only)
          rw [if_neg d0, y_start]
          refine Eq.trans h9 ?_
          rw [← hsum]
          have m2 := ((hb.mv (ez (it (chF (KP μ tc (nI j)) W L) (st0 ((Zr ν).2 144) 13) tc))).2.1)
          generalize it (chF (KP μ tc (nI j)) W L) (st0 ((Zr ν).2 144) 13) tc = g at m2
          rw [b_X12_finds_71, g127_2, obs, m2.2.1, if_pos (nI_le (Nat.le_refl tc) (by omega)), g127_6, obs, m2.2.2.2.1, nI_1, y_sumL (by omega)]
        · refine inv_keep hI (ez _) ?_ ?_ ?_ ?_
          · show ξ.1 0 7 = _
            rw [hx1.1, hν]; rfl
          · show ξ.1 127 10 = _
            rw [hx1.1, hν]; rfl
          · rw [rowL_n (by decide), hx1.2 91 (by decide), hν]; rfl
          · rw [rowL_n (by decide), hx1.2 132 (by decide), hν]; rfl
      · refine ⟨-1, μ, Zr μ, ?_, ?_, inv_Z hI⟩
        · unfold F_X11_finds
          simp only [↓reduceIte, obs, q0, q1, q2, q11, q13, q17, q20, q21, q24, q104, q111, q112, q116, q125, q127, g0_0, g0_1, g0_2, g0_3, g0_4, g0_5, g0_6, g0_7, p0_7, g0_8, g0_9, g0_10, g0_11, g0_12, g0_13, p0_13, g0_14, g0_15, g0_16, g0_17, g0_18, g1_0, g1_1, g1_2, g1_3, g1_4, g1_5, p1_5, g1_6, p1_6, g1_7, p1_7, g1_8, p1_8, g2_0, g2_1, g2_2, g2_3, g2_4, p2_4, g11_0, g11_1, p11_1, g11_2, p11_2, g11_3, p11_3, g13_0, g13_1, g13_2, g13_3, g17_0, g17_1, g17_2, p17_2, g20_0, g20_1, g21_0, g21_1, g21_2, p21_2, g24_0, g24_1, p24_1, g24_2, p24_2, g104_0, g104_1, g104_2, g104_3, g104_4, p104_4, g111_0, g111_1, p111_1, g111_2, p111_2, g111_3, p111_3, g112_0, g112_1, g112_2, g112_3, g112_4, p112_4, g116_0, g116_1, g116_2, g116_3, g116_4, g125_0, p125_0, g125_1, p125_1, g127_0, g127_1, p127_1, g127_2, p127_2, g127_3, p127_3, g127_4, g127_5, g127_6, p127_6, g127_7, g127_8, p127_8, g127_9, g127_10, p127_10, g127_11, p127_11, g127_12, g127_13, p127_13, g127_14, p127_14, g127_15, p127_15, g127_16, p127_16, g127_17, g127_18, g127_19, p127_19, g127_20, p127_20, g127_21, g127_22, g127_23, p127_23, g127_24, g127_25, g127_26, g127_27, g127_28, g127_29, p127_29, g127_30, p127_30, g127_31, g127_32, g127_33, p127_33, g127_34, p127_34, g127_35, p127_35, g127_36, p127_36, g127_37, g127_38, p127_38, g127_39, p127_39, g127_40, g127_41, g127_42, X_hasHouse1 hb rfl hj, X_hasKind1 hb rfl hk, d0, c1]
        · unfold F_X12_finds
          simp only [if_pos q127, p11, ↓reduceIte, obs, Y_isHouse1 hb cl_Z hj, Y_isKind1 hb cl_Z hk, d0, c3]
      · refine ⟨-1, μ, Zr μ, ?_, ?_, inv_Z hI⟩
        · unfold F_X11_finds
          simp only [↓reduceIte, obs, q0, q1, q2, q11, q13, q17, q20, q21, q24, q104, q111, q112, q116, q125, q127, g0_0, g0_1, g0_2, g0_3, g0_4, g0_5, g0_6, g0_7, p0_7, g0_8, g0_9, g0_10, g0_11, g0_12, g0_13, p0_13, g0_14, g0_15, g0_16, g0_17, g0_18, g1_0, g1_1, g1_2, g1_3, g1_4, g1_5, p1_5, g1_6, p1_6, g1_7, p1_7, g1_8, p1_8, g2_0, g2_1, g2_2, g2_3, g2_4, p2_4, g11_0, g11_1, p11_1, g11_2, p11_2, g11_3, p11_3, g13_0, g13_1, g13_2, g13_3, g17_0, g17_1, g17_2, p17_2, g20_0, g20_1, g21_0, g21_1, g21_2, p21_2, g24_0, g24_1, p24_1, g24_2, p24_2, g104_0, g104_1, g104_2, g104_3, g104_4, p104_4, g111_0, g111_1, p111_1, g111_2, p111_2, g111_3, p111_3, g112_0, g112_1, g112_2, g112_3, g112_4, p112_4, g116_0, g116_1, g116_2, g116_3, g116_4, g125_0, p125_0, g125_1, p125_1, g127_0, g127_1, p127_1, g127_2, p127_2, g127_3, p127_3, g127_4, g127_5, g127_6, p127_6, g127_7, g127_8, p127_8, g127_9, g127_10, p127_10, g127_11, p127_11, g127_12, g127_13, p127_13, g127_14, p127_14, g127_15, p127_15, g127_16, p127_16, g127_17, g127_18, g127_19, p127_19, g127_20, p127_20, g127_21, g127_22, g127_23, p127_23, g127_24, g127_25, g127_26, g127_27, g127_28, g127_29, p127_29, g127_30, p127_30, g127_31, g127_32, g127_33, p127_33, g127_34, p127_34, g127_35, p127_35, g127_36, p127_36, g127_37, g127_38, p127_38, g127_39, p127_39, g127_40, g127_41, g127_42, X_hasHouse1 hb rfl hj, X_hasKind1 hb rfl hk, d0, c3, c2]
        · unfold F_X12_finds
          simp only [if_pos q127, p11, ↓reduceIte, obs, Y_isHouse1 hb cl_Z hj, Y_isKind1 hb cl_Z hk, d0, c5]
    · refine ⟨-1, μ, Zr μ, ?_, ?_, inv_Z hI⟩
      · unfold F_X11_finds
        simp only [↓reduceIte, obs, q0, q1, q2, q11, q13, q17, q20, q21, q24, q104, q111, q112, q116, q125, q127, g0_0, g0_1, g0_2, g0_3, g0_4, g0_5, g0_6, g0_7, p0_7, g0_8, g0_9, g0_10, g0_11, g0_12, g0_13, p0_13, g0_14, g0_15, g0_16, g0_17, g0_18, g1_0, g1_1, g1_2, g1_3, g1_4, g1_5, p1_5, g1_6, p1_6, g1_7, p1_7, g1_8, p1_8, g2_0, g2_1, g2_2, g2_3, g2_4, p2_4, g11_0, g11_1, p11_1, g11_2, p11_2, g11_3, p11_3, g13_0, g13_1, g13_2, g13_3, g17_0, g17_1, g17_2, p17_2, g20_0, g20_1, g21_0, g21_1, g21_2, p21_2, g24_0, g24_1, p24_1, g24_2, p24_2, g104_0, g104_1, g104_2, g104_3, g104_4, p104_4, g111_0, g111_1, p111_1, g111_2, p111_2, g111_3, p111_3, g112_0, g112_1, g112_2, g112_3, g112_4, p112_4, g116_0, g116_1, g116_2, g116_3, g116_4, g125_0, p125_0, g125_1, p125_1, g127_0, g127_1, p127_1, g127_2, p127_2, g127_3, p127_3, g127_4, g127_5, g127_6, p127_6, g127_7, g127_8, p127_8, g127_9, g127_10, p127_10, g127_11, p127_11, g127_12, g127_13, p127_13, g127_14, p127_14, g127_15, p127_15, g127_16, p127_16, g127_17, g127_18, g127_19, p127_19, g127_20, p127_20, g127_21, g127_22, g127_23, p127_23, g127_24, g127_25, g127_26, g127_27, g127_28, g127_29, p127_29, g127_30, p127_30, g127_31, g127_32, g127_33, p127_33, g127_34, p127_34, g127_35, p127_35, g127_36, p127_36, g127_37, g127_38, p127_38, g127_39, p127_39, g127_40, g127_41, g127_42, X_hasHouse1 hb rfl hj, X_hasKind0 hb rfl hy, d0]
      · unfold F_X12_finds
        simp only [if_pos q127, p11, ↓reduceIte, obs, Y_isHouse1 hb cl_Z hj, Y_isKind0 hb cl_Z hy, d0]
  · refine ⟨-1, μ, Zr μ, ?_, ?_, inv_Z hI⟩
    · unfold F_X11_finds
      simp only [↓reduceIte, obs, q0, q1, q2, q11, q13, q17, q20, q21, q24, q104, q111, q112, q116, q125, q127, g0_0, g0_1, g0_2, g0_3, g0_4, g0_5, g0_6, g0_7, p0_7, g0_8, g0_9, g0_10, g0_11, g0_12, g0_13, p0_13, g0_14, g0_15, g0_16, g0_17, g0_18, g1_0, g1_1, g1_2, g1_3, g1_4, g1_5, p1_5, g1_6, p1_6, g1_7, p1_7, g1_8, p1_8, g2_0, g2_1, g2_2, g2_3, g2_4, p2_4, g11_0, g11_1, p11_1, g11_2, p11_2, g11_3, p11_3, g13_0, g13_1, g13_2, g13_3, g17_0, g17_1, g17_2, p17_2, g20_0, g20_1, g21_0, g21_1, g21_2, p21_2, g24_0, g24_1, p24_1, g24_2, p24_2, g104_0, g104_1, g104_2, g104_3, g104_4, p104_4, g111_0, g111_1, p111_1, g111_2, p111_2, g111_3, p111_3, g112_0, g112_1, g112_2, g112_3, g112_4, p112_4, g116_0, g116_1, g116_2, g116_3, g116_4, g125_0, p125_0, g125_1, p125_1, g127_0, g127_1, p127_1, g127_2, p127_2, g127_3, p127_3, g127_4, g127_5, g127_6, p127_6, g127_7, g127_8, p127_8, g127_9, g127_10, p127_10, g127_11, p127_11, g127_12, g127_13, p127_13, g127_14, p127_14, g127_15, p127_15, g127_16, p127_16, g127_17, g127_18, g127_19, p127_19, g127_20, p127_20, g127_21, g127_22, g127_23, p127_23, g127_24, g127_25, g127_26, g127_27, g127_28, g127_29, p127_29, g127_30, p127_30, g127_31, g127_32, g127_33, p127_33, g127_34, p127_34, g127_35, p127_35, g127_36, p127_36, g127_37, g127_38, p127_38, g127_39, p127_39, g127_40, g127_41, g127_42, X_hasHouse0 hb rfl hx]
    · unfold F_X12_finds
      simp only [if_pos q127, p11, ↓reduceIte, obs, Y_isHouse0 hb cl_Z hx]
