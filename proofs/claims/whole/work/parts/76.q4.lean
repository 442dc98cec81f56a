/-! PURE: pairs: exchange, rests. -/
def prS (P : Nat → Nat → Bool) (x y : Nat) (s : Nat × Nat × Nat) : Nat × Nat × Nat := if P x y then (s.1 + 1, if s.1 = 0 then (x, y) else s.2) else s
def prI (P : Nat → Nat → Bool) (K x : Nat) (s : Nat × Nat × Nat) : Nat × Nat × Nat := it (prS P x) s K
def prO (P : Nat → Nat → Bool) (K x : Nat) : Nat × Nat × Nat := it (prI P K) (0, 0, 0) x
theorem prS_b {P : Nat → Nat → Bool} {x : Nat} {s : Nat × Nat × Nat} : ∀ y, (it (prS P x) s y).1 ≤ s.1 + y
  | 0 => Nat.le_refl _
  | y + 1 => by
    have h := prS_b (P := P) (x := x) (s := s) y
    rw [it_s]
    generalize it (prS P x) s y = q at h
    unfold prS
    split
    · show q.1 + 1 ≤ s.1 + (y + 1); omega
    · omega
theorem prO_b {P : Nat → Nat → Bool} {K : Nat} : ∀ x, (prO P K x).1 ≤ K * x
  | 0 => Nat.le_refl _
  | x + 1 => by
    have h := prO_b (P := P) (K := K) x
    have h2 := prS_b (P := P) (x := x) (s := prO P K x) K
    have e : prO P K (x + 1) = it (prS P x) (prO P K x) K := rfl
    rw [e, Nat.mul_succ]
    omega
def prX (μ : Mem) (s : Nat × Nat × Nat) : Mem := if s.1 = 0 then T0 μ else TB (TB (T0 (T0 μ)) 0 (nI s.2.1).toInt64) 1 (nI s.2.2).toInt64
def prY (ν : Mem) (s : Nat × Nat × Nat) : Mem := if s.1 = 0 then M0 ν else MB (MB (M0 ν) 0 (nI s.2.1).toInt64) 1 (nI s.2.2).toInt64
theorem prX_cl {μ : Mem} {s : Nat × Nat × Nat} : cl (prX μ s) = cl μ := by
  unfold prX
  split
  · exact cl_T0
  · rw [cl_TB, cl_TB, cl_T0, cl_T0]
theorem prY_cl {μ : Mem} {s : Nat × Nat × Nat} : cl (prY μ s) = cl μ := by
  unfold prY
  split
  · exact cl_M0
  · rw [cl_MB, cl_MB, cl_M0]
theorem prX_127 {μ : Mem} {s : Nat × Nat × Nat} : (prX μ s).1 127 = μ.1 127 ∧ (prX μ s).1 1 = μ.1 1 := by
  unfold prX
  split
  · exact ⟨rfl, rfl⟩
  · exact ⟨rfl, rfl⟩
theorem prY_127 {μ : Mem} {s : Nat × Nat × Nat} {j : Nat} (h : j ≠ 10) : (prY μ s).1 127 j = μ.1 127 j := by
  unfold prY
  split
  · exact pk_un h
  · show upd (upd (upd (μ.1 127) 10 0) 10 (nI (0 + 1))) 10 (nI (1 + 1)) j = _
    rw [pk_un h, pk_un h, pk_un h]
theorem inv_0 {B : Nat} {μ ν : Mem} (hI : InvC B (cl μ)) (hc : cl ν = cl μ) (h1 : ν.1 0 7 = 0) (h2 : ν.1 127 10 = 0) : Inv (B + 1200) ν := ⟨by rw [hc]; exact hI.up (by omega), 0, by decide, h1, h2, fun i hi => absurd hi (by omega)⟩
theorem inv_R2c {B : Nat} {μ : Mem} {v u : Int64} (hI : InvC B (cl μ)) : Inv (B + 1200) (R2 (T0 μ) v u) := inv_2 hI (by unfold R2; rw [cl_MB, cl_MB, cl_M0, cl_Z, cl_TB, cl_TB, cl_T0, cl_T0]) rfl rfl rfl rfl
theorem inv_R0c {B : Nat} {μ : Mem} (hI : InvC B (cl μ)) : Inv (B + 1200) (M0 (Zr (T0 μ))) := inv_0 hI (by rw [cl_M0, cl_Z, cl_T0]) rfl rfl
theorem inv_pr {B : Nat} {μ : Mem} (hI : Inv B μ) (s : Nat × Nat × Nat) : Inv (B + 1200) (prY (Zr (prX μ s)) s) := by
  by_cases c : s.1 = 0
  · have e : prY (Zr (prX μ s)) s = M0 (Zr (T0 μ)) := by unfold prY prX; rw [if_pos c, if_pos c]
    rw [e]
    exact inv_R0c hI.1
  · have e : prY (Zr (prX μ s)) s = R2 (T0 μ) (nI s.2.1).toInt64 (nI s.2.2).toInt64 := by unfold prY prX R2; rw [if_neg c, if_neg c]
    rw [e]
    exact inv_R2c hI.1
theorem x_prT {κ : Kp} {μ : Mem} {s : Nat × Nat × Nat} {x y : Nat} (h : s.1 = 0) : F_X11_tellTwo 0 (nI x).toInt64 (nI y).toInt64 (hp κ (prX μ s)) = some (hp κ (prX μ (s.1 + 1, if s.1 = 0 then (x, y) else s.2))) := by
  have e1 : prX μ s = T0 μ := by unfold prX; rw [if_pos h]
  rw [e1, x_tellTwo]
  unfold prX
  rw [if_neg (by dsimp only; omega), if_pos h]
theorem x_prN {μ : Mem} {s : Nat × Nat × Nat} {x y : Nat} (h : ¬ s.1 = 0) : prX μ (s.1 + 1, if s.1 = 0 then (x, y) else s.2) = prX μ s := by
  unfold prX
  rw [if_neg (by dsimp only; omega), if_neg h, if_neg h]
theorem y_prN {μ : Mem} {s : Nat × Nat × Nat} {x y : Nat} (h : ¬ s.1 = 0) : prY μ (s.1 + 1, if s.1 = 0 then (x, y) else s.2) = prY μ s := by
  unfold prY
  rw [if_neg (by dsimp only; omega), if_neg h, if_neg h]
theorem y_prT {κ : Kp} {μ : Mem} {s : Nat × Nat × Nat} {x y : Nat} (h : s.1 = 0) : (F_X12_tell 127 (nI x).toInt64 (hp κ (prY μ s))).bind (fun h20 => F_X12_tell 127 (nI y).toInt64 h20) = some (hp κ (prY μ (s.1 + 1, if s.1 = 0 then (x, y) else s.2))) := by
  have e1 : prY μ s = M0 μ := by unfold prY; rw [if_pos h]
  rw [e1, y_tell0, obs, y_tell1 (i := 0) (by decide)]
  unfold prY
  rw [if_neg (by dsimp only; omega), if_pos h]
theorem bnd2 {α β γ : Type} (o : Option α) (f : α → Option β) (g : β → Option γ) : (o.bind fun a => (f a).bind g) = (o.bind f).bind g := by cases o <;> rfl
/-! rests -/
def gnI (a b v c : Int32) : Int32 := (if a = b then v / 2 else if a ≤ b then 0 else v) - c * a
theorem x_gain (a b v c : Int32) (h : ci_H) : F_X11_gain a b v c h = some (gnI a b v c, h) := by
  have e : dvI v 2 = some (v / 2) := by unfold dvI; rw [if_neg (by decide)]
  unfold F_X11_gain b_X11_gain_10 b_X11_gain_22 gnI
  by_cases c1 : a = b
  · subst c1
    simp only [↓reduceIte, e, obs, ite_self]
  · by_cases c2 : a ≤ b
    · simp only [c1, c2, ↓reduceIte]
    · simp only [c1, c2, ↓reduceIte]
theorem y_gain (a b v c : Int32) (h : ci_H) : F_X12_gets a b v c h = some (gnI a b v c, h) := by
  have e : dvI v 2 = some (v / 2) := by unfold dvI; rw [if_neg (by decide)]
  unfold F_X12_gets b_X12_gets_21 gnI
  by_cases c1 : a = b
  · subst c1
    have : a ≤ a := by rw [fa_le]; omega
    simp only [↓reduceIte, e, obs, this]
  · by_cases c2 : a ≤ b
    · simp only [c1, c2, ↓reduceIte]
    · simp only [c1, c2, ↓reduceIte]
def stB (v c a b : Int32) : Bool := alp (fun x => decide (gnI (nI x) b v c ≤ gnI a b v c)) 10
theorem n9 {k : Nat} (hk : k < 10) : ¬ (9 : Int32) < nI k := nI_nlt (b := k) (a := 9) (by omega) (by decide)
theorem x_stays (a b v c : Int32) (h : ci_H) : F_X11_stays a b v c h = some (if stB v c a b then 1 else 0, h) := by
  unfold F_X11_stays
  rw [x_gain, obs]
  have h1 := lpa (fun n k => b_X11_stays_12 b v c (gnI a b v c) n (nI k) h) (fun x => decide (gnI (nI x) b v c ≤ gnI a b v c)) 10 (some (1, h)) (some (0, h)) ?_ ?_ ?_ bigN 0 (by decide) (by decide) rfl
  · (try dsimp only at h1)
    refine Eq.trans h1 ?_
    unfold stB
    split
    · rfl
    · rfl
  · intro n k hk hp
    have hp := of_decide_eq_true hp
    (try dsimp only)
    rw [b_X11_stays_12, if_neg (n9 hk), x_gain, obs, if_pos hp, nI_1]
  · intro n k hk hp
    have hp := of_decide_eq_false hp
    (try dsimp only)
    rw [b_X11_stays_12, if_neg (n9 hk), x_gain, obs, if_neg hp]
  · intro n
    (try dsimp only)
    rw [b_X11_stays_12, if_pos (by decide)]
theorem y_stays (a b v c : Int32) (h : ci_H) : F_X12_isBest a b v c h = some (if stB v c a b then 1 else 0, h) := by
  unfold F_X12_isBest
  have h1 := lpa (fun n k => b_X12_isBest_3 a b v c n (nI k) h) (fun x => decide (gnI (nI x) b v c ≤ gnI a b v c)) 10 (some (1, h)) (some (0, h)) ?_ ?_ ?_ bigN 0 (by decide) (by decide) rfl
  · (try dsimp only at h1)
    refine Eq.trans h1 ?_
    unfold stB
    split
    · rfl
    · rfl
  · intro n k hk hp
    have hp := of_decide_eq_true hp
    (try dsimp only)
    rw [b_X12_isBest_3, if_neg (n9 hk), y_gain, obs, y_gain, obs, if_pos hp, nI_1]
  · intro n k hk hp
    have hp := of_decide_eq_false hp
    (try dsimp only)
    rw [b_X12_isBest_3, if_neg (n9 hk), y_gain, obs, y_gain, obs, if_neg hp]
  · intro n
    (try dsimp only)
    rw [b_X12_isBest_3, if_pos (by decide)]
def rsP (v c : Int32) (x y : Nat) : Bool := stB v c (nI x) (nI y) && stB v c (nI y) (nI x)
section RST
variable {κ : Kp} {μ ν : Mem} {v c : Int32}
theorem X_rests_in (x : Nat) (s : Nat × Nat × Nat) (hs : s.1 ≤ 200) (r : Int32 → Int32 → ci_H → Option (Int32 × ci_H)) : b_X11_rests_41 r 0 v c (nI x) bigN (nI s.1) 0 (hp κ (prX μ s)) = r (nI (prI (rsP v c) 10 x s).1) (nI (x + 1)) (hp κ (prX μ (prI (rsP v c) 10 x s))) := by
  refine lpk (fun n y => b_X11_rests_41 r 0 v c (nI x) n (nI (it (prS (rsP v c) x) s y).1) (nI y) (hp κ (prX μ (it (prS (rsP v c) x) s y)))) 10 _ ?_ ?_ bigN 0 (Nat.zero_le _) (by decide)
  · intro n y hy
    (try dsimp only)
    have hb := prS_b (P := rsP v c) (x := x) (s := s) y
    rw [b_X11_rests_41, if_neg (n9 hy), x_stays, obs, it_s]
    generalize it (prS (rsP v c) x) s y = q at hb
    have ez : nI q.1 = 0 ↔ q.1 = 0 := i_eq0 (by omega)
    unfold prS
    unfold rsP
    simp only [x_stays, obs, b_X11_rests_89, b_X11_rests_86, nI_1]
    cases stB v c (nI x) (nI y) with
    | false => rfl
    | true =>
      cases stB v c (nI y) (nI x) with
      | false => rfl
      | true =>
        simp only [↓reduceIte, show ¬ (1 : Int32) = 0 by decide, Bool.and_self]
        by_cases z : q.1 = 0
        · rw [if_pos (ez.mpr z), x_prT z, obs]
        · rw [if_neg (fun w => z (ez.mp w)), x_prN z]
  · intro n
    (try dsimp only)
    rw [b_X11_rests_41, if_pos (by decide), nI_1]
    rfl
theorem X_rests : b_X11_rests_31 0 v c bigN 0 0 (hp κ (T0 μ)) = some (nI (prO (rsP v c) 10 10).1, hp κ (prX μ (prO (rsP v c) 10 10))) := by
  refine lpk (fun n x => b_X11_rests_31 0 v c n (nI (prO (rsP v c) 10 x).1) (nI x) (hp κ (prX μ (prO (rsP v c) 10 x)))) 10 _ ?_ ?_ bigN 0 (Nat.zero_le _) (by decide)
  · intro n x hx
    (try dsimp only)
    have hb := prO_b (P := rsP v c) (K := 10) x
    rw [b_X11_rests_31, if_neg (n9 hx), X_rests_in x (prO (rsP v c) 10 x) (by omega)]
    rfl
  · intro n
    (try dsimp only)
    rw [b_X11_rests_31, if_pos (by decide)]
theorem Y_rests_in (x : Nat) (s : Nat × Nat × Nat) (hs : s.1 ≤ 200) (r : Int32 → Int32 → ci_H → Option (Int32 × ci_H)) : b_X12_rests_47 r 127 v c (nI x) bigN (nI s.1) 0 (hp κ (prY μ s)) = r (nI (prI (rsP v c) 10 x s).1) (nI (x + 1)) (hp κ (prY μ (prI (rsP v c) 10 x s))) := by
  refine lpk (fun n y => b_X12_rests_47 r 127 v c (nI x) n (nI (it (prS (rsP v c) x) s y).1) (nI y) (hp κ (prY μ (it (prS (rsP v c) x) s y)))) 10 _ ?_ ?_ bigN 0 (Nat.zero_le _) (by decide)
  · intro n y hy
    (try dsimp only)
    have hb := prS_b (P := rsP v c) (x := x) (s := s) y
    rw [b_X12_rests_47, if_neg (n9 hy), y_stays, obs, it_s]
    generalize it (prS (rsP v c) x) s y = q at hb
    have ez : nI q.1 = 0 ↔ q.1 = 0 := i_eq0 (by omega)
    unfold prS
    unfold rsP
    simp only [y_stays, obs, b_X12_rests_102, b_X12_rests_99, nI_1]
    cases stB v c (nI x) (nI y) with
    | false => rfl
    | true =>
      cases stB v c (nI y) (nI x) with
      | false => rfl
      | true =>
        simp only [↓reduceIte, show ¬ (1 : Int32) = 0 by decide, Bool.and_self]
        by_cases z : q.1 = 0
        · rw [if_pos (ez.mpr z), bnd2, y_prT z, obs]
        · rw [if_neg (fun w => z (ez.mp w)), y_prN z]
  · intro n
    (try dsimp only)
    rw [b_X12_rests_47, if_pos (by decide), nI_1]
    rfl
theorem Y_rests : b_X12_rests_37 127 v c bigN 0 0 (hp κ (M0 μ)) = some (nI (prO (rsP v c) 10 10).1, hp κ (prY μ (prO (rsP v c) 10 10))) := by
  refine lpk (fun n x => b_X12_rests_37 127 v c n (nI (prO (rsP v c) 10 x).1) (nI x) (hp κ (prY μ (prO (rsP v c) 10 x)))) 10 _ ?_ ?_ bigN 0 (Nat.zero_le _) (by decide)
  · intro n x hx
    (try dsimp only)
    have hb := prO_b (P := rsP v c) (K := 10) x
    rw [b_X12_rests_37, if_neg (n9 hx), Y_rests_in x (prO (rsP v c) 10 x) (by omega)]
    rfl
  · intro n
    (try dsimp only)
    rw [b_X12_rests_37, if_pos (by decide)]
end RST
theorem pr_rests : P2 F_X11_rests F_X12_rests := by
  intro x y κ B μ hR hB hI
  dsimp only
  rcases rng x 0 99 0 99 rfl rfl (by omega) (by omega) with ⟨j, j1, j2, rfl, c1, c2, c3, c4, c5⟩ | ⟨c1, c2, c3⟩ | ⟨c1, c2, c3, c4, c5⟩
  · rcases rng y 0 9 0 9 rfl rfl (by omega) (by omega) with ⟨i, i1, i2, rfl, d1, d2, d3, d4, d5⟩ | ⟨d1, d2, d3⟩ | ⟨d1, d2, d3, d4, d5⟩
    · refine ⟨nI (prO (rsP (nI j) (nI i)) 10 10).1, prX μ (prO (rsP (nI j) (nI i)) 10 10), prY (Zr (prX μ (prO (rsP (nI j) (nI i)) 10 10))) (prO (rsP (nI j) (nI i)) 10 10), ?_, ?_, inv_pr hI (prO (rsP (nI j) (nI i)) 10 10)⟩
      · unfold F_X11_rests
        simp only [if_pos q0, ↓reduceIte, obs, c1, c3, d1, d4, x_tellNothing, X_rests]
      · unfold F_X12_rests
        simp only [if_pos q127, p11, p10, ↓reduceIte, obs, c5, d5, show ¬ (1 : Int32) = 0 by decide, Y_rests]
    · refine ⟨-1, μ, Zr μ, ?_, ?_, inv_Z hI⟩
      · unfold F_X11_rests
        simp only [if_pos q0, ↓reduceIte, obs, c1, c3, d1]
      · unfold F_X12_rests
        simp only [if_pos q127, p11, ↓reduceIte, obs, c5, d3, show ¬ (1 : Int32) = 0 by decide]
    · refine ⟨-1, μ, Zr μ, ?_, ?_, inv_Z hI⟩
      · unfold F_X11_rests
        simp only [if_pos q0, ↓reduceIte, obs, c1, c3, d2, d3]
      · unfold F_X12_rests
        simp only [if_pos q127, p11, ↓reduceIte, obs, c5, d5, show ¬ (1 : Int32) = 0 by decide]
  · refine ⟨-1, μ, Zr μ, ?_, ?_, inv_Z hI⟩
    · unfold F_X11_rests
      simp only [if_pos q0, ↓reduceIte, obs, c1]
    · unfold F_X12_rests
      simp only [if_pos q127, p11, ↓reduceIte, obs, c3]
  · refine ⟨-1, μ, Zr μ, ?_, ?_, inv_Z hI⟩
    · unfold F_X11_rests
      simp only [if_pos q0, ↓reduceIte, obs, c1, c3]
    · unfold F_X12_rests
      simp only [if_pos q127, p11, ↓reduceIte, obs, c5]
