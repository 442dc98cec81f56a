/-! PURE: pairs: pays, coins. -/
theorem w2_int {a i x y : Nat} (ha : a ≤ 4) (hi : i ≤ 4) (hx : x ≤ 50) (hy : y ≤ 50) : ((nI a - 2) * nI x + (nI i - 2) * nI y).toInt = ((a : Int) - 2) * x + ((i : Int) - 2) * y := by
  have h1 : (nI i - 2).toInt = (i : Int) - 2 := pk_sub_toInt (a := i) (b := 2) (by omega) (by decide)
  have h0 : (nI a - 2).toInt = (a : Int) - 2 := pk_sub_toInt (a := a) (b := 2) (by omega) (by decide)
  have hy2 : (nI y).toInt = (y : Int) := nI_toInt (by omega)
  have hx2 : (nI x).toInt = (x : Int) := nI_toInt (by omega)
  have hiy : -100 ≤ ((i : Int) - 2) * y ∧ ((i : Int) - 2) * y ≤ 100 := by
    have : i = 0 ∨ i = 1 ∨ i = 2 ∨ i = 3 ∨ i = 4 := by omega
    rcases this with rfl | rfl | rfl | rfl | rfl <;> constructor <;> omega
  have hax : -100 ≤ ((a : Int) - 2) * x ∧ ((a : Int) - 2) * x ≤ 100 := by
    have : a = 0 ∨ a = 1 ∨ a = 2 ∨ a = 3 ∨ a = 4 := by omega
    rcases this with rfl | rfl | rfl | rfl | rfl <;> constructor <;> omega
  have h2 : ((nI i - 2) * nI y).toInt = ((i : Int) - 2) * y := by
    rw [fb_mulI (by rw [h1, hy2]; omega) (by rw [h1, hy2]; omega), h1, hy2]
  have h3 : ((nI a - 2) * nI x).toInt = ((a : Int) - 2) * x := by
    rw [fb_mulI (by rw [h0, hx2]; omega) (by rw [h0, hx2]; omega), h0, hx2]
  rw [fb_addI (by rw [h3, h2]; omega) (by rw [h3, h2]; omega), h3, h2]
def cpB (x y s a i : Nat) : Bool := !decide ((nI a - 2) * nI x + (nI i - 2) * nI y = nI s)
theorem y_canPay {x y v s : Nat} (hx : x ≤ 50) (hy : y ≤ 50) (hv : v ≤ 99) (h1 : 1 ≤ s) (hs : s ≤ v) (h : ci_H) : F_X12_canPay (nI x) (nI y) (nI s) h = some (if pm x y v s then 1 else 0, h) := by
  have hin : ∀ (a : Nat) (r : Int32 → ci_H → Option (Int32 × ci_H)), a ≤ 4 → b_X12_canPay_12 r (nI x) (nI y) (nI s) (nI a - 2) bigN (-2) h = if alp (cpB x y s a) 5 then r (nI (a + 1) - 2) h else some (1, h) := fun a r ha => by
    have h0 := lpa (fun f i => b_X12_canPay_12 r (nI x) (nI y) (nI s) (nI a - 2) f (nI i - 2) h) (cpB x y s a) 5 (r (nI (a + 1) - 2) h) (some (1, h)) ?_ ?_ ?_ bigN 0 (Nat.zero_le _) (by unfold bigN; omega) rfl
    · exact h0
    · intro f i hi hp
      (try dsimp only)
      unfold cpB at hp
      rw [Bool.not_eq_true', decide_eq_false_iff_not] at hp
      rw [b_X12_canPay_12, if_neg (l5_s i hi).2, if_neg hp, (l5_s i hi).1]
    · intro f i hi hp
      (try dsimp only)
      unfold cpB at hp
      rw [Bool.not_eq_false', decide_eq_true_iff] at hp
      rw [b_X12_canPay_12, if_neg (l5_s i hi).2, if_pos hp]
    · intro f
      (try dsimp only)
      rw [b_X12_canPay_12, if_pos (by decide), (l5_s a (by omega)).1]
  have hout := lpa (fun f a => b_X12_canPay_3 (nI x) (nI y) (nI s) f (nI a - 2) h) (fun a => alp (cpB x y s a) 5) 5 (some (0, h)) (some (1, h)) ?_ ?_ ?_ bigN 0 (Nat.zero_le _) (by unfold bigN; omega) rfl
  · unfold F_X12_canPay
    refine Eq.trans hout ?_
    have hiff : alp (fun a => alp (cpB x y s a) 5) 5 = !pm x y v s := by
      refine bool_iff ?_
      rw [Bool.not_eq_true', alp_iff]
      constructor
      · intro hall
        cases c : pm x y v s with
        | false => rfl
        | true =>
          obtain ⟨-, -, hp⟩ := pm_t.mp c
          obtain ⟨a, i, ha, hi, e⟩ := (py_iff h1).mp hp
          have h2 := alp_iff.mp (hall a (by omega)) i (by omega)
          unfold cpB at h2
          rw [Bool.not_eq_true', decide_eq_false_iff_not] at h2
          exfalso
          apply h2
          rw [fa_eq, w2_int ha hi hx hy, nI_toInt (by omega), e]
      · intro hp a ha
        refine alp_iff.mpr (fun i hi => ?_)
        unfold cpB
        rw [Bool.not_eq_true', decide_eq_false_iff_not]
        intro e
        have : pm x y v s = true := by
          rw [pm_t]
          refine ⟨h1, hs, (py_iff h1).mpr ⟨a, i, by omega, by omega, ?_⟩⟩
          rw [fa_eq, w2_int (by omega) (by omega) hx hy, nI_toInt (by omega)] at e
          exact e
        rw [this] at hp
        cases hp
    rw [hiff]
    cases pm x y v s <;> rfl
  · intro f a ha hp
    (try dsimp only)
    rw [b_X12_canPay_3, if_neg (l5_s a ha).2, hin a _ (by omega), if_pos hp]
  · intro f a ha hp
    (try dsimp only)
    rw [b_X12_canPay_3, if_neg (l5_s a ha).2, hin a _ (by omega), if_neg (by rw [hp]; decide)]
  · intro f
    (try dsimp only)
    rw [b_X12_canPay_3, if_pos (by decide)]
noncomputable def pcN (x y v : Nat) : Nat := fb_ct (pm x y v) 128
theorem pm_0 {x y v : Nat} : pm x y v 0 = false := by
  cases c : pm x y v 0 with
  | false => rfl
  | true => have := (pm_t.mp c).1; omega
theorem pm_hi {x y v s : Nat} (h : v < s) : pm x y v s = false := by
  cases c : pm x y v s with
  | false => rfl
  | true => have := (pm_t.mp c).2.1; omega
theorem pcN_e {x y v : Nat} (hv : v ≤ 99) : pcN x y v = fb_ct (fun j => pm x y v (1 + j)) v := by
  unfold pcN
  have h1 := fb_ct_split (pm x y v) 1 127
  have h2 : fb_ct (pm x y v) 1 = 0 := fb_ct_zero.mpr (fun k hk => by rw [show k = 0 by omega]; exact pm_0)
  have h3 := fb_ct_split (fun k => pm x y v (1 + k)) v (127 - v)
  have h4 : fb_ct (fun k => pm x y v (1 + (v + k))) (127 - v) = 0 := fb_ct_zero.mpr (fun k _ => pm_hi (by omega))
  rw [h4, show v + (127 - v) = 127 by omega] at h3
  rw [h2, Nat.zero_add, h3] at h1
  exact h1
theorem pcN_v {x y v : Nat} (hv : v ≤ 99) : pcN x y v ≤ v := by
  rw [pcN_e hv]
  exact fb_ct_le _ _
theorem ct_list : ∀ (l : List Nat) (p : Nat → Bool) (n : Nat), (∀ s, p s = true → s ∈ l) → fb_ct p n ≤ l.length
  | [], p, n, h => by
    have : fb_ct p n = 0 := fb_ct_zero.mpr (fun k _ => by
      cases c : p k with
      | false => rfl
      | true => exact absurd (h k c) List.not_mem_nil)
    rw [this]
    exact Nat.zero_le _
  | a :: l, p, n, h => by
    have ih := ct_list l (fun k => if k = a then false else p k) n (fun s hs => by
      (try dsimp only at hs)
      by_cases c : s = a
      · rw [if_pos c] at hs; cases hs
      · rw [if_neg c] at hs
        rcases List.mem_cons.mp (h s hs) with z | z
        · exact absurd z c
        · exact z)
    by_cases c : a < n
    · have h2 := fb_ct_upd p false c
      rw [List.length_cons]
      rw [if_neg (show ¬ false = true by decide)] at h2
      have h3 : (if p a = true then 1 else 0) ≤ 1 := by split <;> omega
      omega
    · have h2 := fb_ct_out p false (i := a) (n := n) (by omega)
      rw [List.length_cons]
      omega
theorem pcN_12 {x y v : Nat} : pcN x y v ≤ 12 := by
  have h := ct_list [av 0 3 x y, av 0 4 x y, av 1 0 x y, av 1 1 x y, av 1 2 x y, av 1 3 x y, av 1 4 x y, av 2 0 x y, av 2 1 x y, av 2 2 x y, av 2 3 x y, av 2 4 x y] (pm x y v) 128 (fun s hs => by
    obtain ⟨h1, -, a, i, ha, hi, e⟩ := pm_t.mp hs
    have : a = 0 ∨ a = 1 ∨ a = 2 := by omega
    have hi : i = 0 ∨ i = 1 ∨ i = 2 ∨ i = 3 ∨ i = 4 := by omega
    have e0 : av 0 0 x y = av 0 4 x y := by unfold av; omega
    have e1 : av 0 1 x y = av 0 3 x y := by unfold av; omega
    have e2 : av 0 2 x y = 0 := by unfold av; omega
    rcases this with rfl | rfl | rfl <;> rcases hi with rfl | rfl | rfl | rfl | rfl <;> simp_all)
  exact h
theorem y_upTo {x y v : Nat} (hx : x ≤ 50) (hy : y ≤ 50) (hv : v ≤ 99) (h : ci_H) : F_X12_paysUpTo (nI x) (nI y) (nI v) h = some (nI (pcN x y v), h) := by
  unfold F_X12_paysUpTo
  rw [pcN_e hv]
  refine lpk (fun f i => b_X12_paysUpTo_5 (nI x) (nI y) (nI v) f (nI (fb_ct (fun j => pm x y v (1 + j)) i)) (nI (1 + i)) h) v _ ?_ ?_ bigN 0 (Nat.zero_le _) (by unfold bigN; omega)
  · intro f i hi
    (try dsimp only)
    rw [b_X12_paysUpTo_5, if_neg (nI_nlt (by omega) (by omega)), y_canPay hx hy hv (by omega) (show 1 + i ≤ v by omega), obs, fb_ct_succ]
    unfold b_X12_paysUpTo_27
    (try dsimp only)
    rw [nI_1]
    cases pm x y v (1 + i) with
    | false => rw [if_pos (by decide), i_add0]; rfl
    | true => rw [if_neg (by decide), nI_1]; rfl
  · intro f
    (try dsimp only)
    rw [b_X12_paysUpTo_5, if_pos (nI_lt (by omega) (by omega))]
theorem mis_u {p : Nat → Bool} {v i j : Nat} (hi : i ≤ v) (hj : j ≤ v) (i1 : ∀ k, 0 ≤ k → k < i → p k = false) (i2 : i < v → p i = true) (j1 : ∀ k, 0 ≤ k → k < j → p k = false) (j2 : j < v → p j = true) : i = j := by
  rcases Nat.lt_trichotomy i j with h | h | h
  · have := j1 i (by omega) h
    rw [i2 (by omega)] at this
    cases this
  · exact h
  · have := i1 j (by omega) h
    rw [j2 (by omega)] at this
    cases this
theorem x_least {κ : Kp} {μ : Mem} {x y v : Nat} (hv : v ≤ 99) (h : Pu μ (pm x y v)) : ∃ j, 0 ≤ j ∧ j ≤ v ∧ (∀ i, 0 ≤ i → i < j → (!pm x y v (1 + i)) = false) ∧ (j < v → (!pm x y v (1 + j)) = true) ∧ F_X3_leastMissing 125 (nI v) (hp κ μ) = some (nI (1 + j), hp κ μ) := by
  unfold F_X3_leastMissing
  rw [if_pos q125]
  refine lpx (fun f i => b_X3_leastMissing_2 125 (nI v) f (nI (1 + i)) (hp κ μ)) (fun i => !pm x y v (1 + i)) v (fun i => some (nI (1 + i), hp κ μ)) ?_ ?_ ?_ bigN 0 (Nat.zero_le _) (by unfold bigN; omega)
  · intro f i hi hp
    (try dsimp only)
    rw [Bool.not_eq_false'] at hp
    rw [b_X3_leastMissing_2, if_neg (nI_nlt (by omega) (by omega)), x_isMarked h (by omega), obs]
    (try dsimp only)
    rw [hp, if_neg (by decide), nI_1]
    rfl
  · intro f i hi hp
    (try dsimp only)
    rw [Bool.not_eq_true'] at hp
    rw [b_X3_leastMissing_2, if_neg (nI_nlt (by omega) (by omega)), x_isMarked h (by omega), obs]
    (try dsimp only)
    rw [hp, if_pos (by decide)]
  · intro f
    (try dsimp only)
    rw [b_X3_leastMissing_2, if_pos (nI_lt (by omega) (by omega))]
theorem y_least {κ : Kp} {ν : Mem} {x y v : Nat} (hx : x ≤ 50) (hy : y ≤ 50) (hv : v ≤ 99) : ∃ j, 0 ≤ j ∧ j ≤ v ∧ (∀ i, 0 ≤ i → i < j → (!pm x y v (1 + i)) = false) ∧ (j < v → (!pm x y v (1 + j)) = true) ∧ b_X12_pays_40 127 (nI x) (nI y) (nI v) bigN 1 (hp κ ν) = b_X12_pays_62 127 (nI x) (nI y) (nI v) (nI (1 + j)) (hp κ ν) := by
  refine lpx (fun f i => b_X12_pays_40 127 (nI x) (nI y) (nI v) f (nI (1 + i)) (hp κ ν)) (fun i => !pm x y v (1 + i)) v (fun i => b_X12_pays_62 127 (nI x) (nI y) (nI v) (nI (1 + i)) (hp κ ν)) ?_ ?_ ?_ bigN 0 (Nat.zero_le _) (by unfold bigN; omega)
  · intro f i hi hp
    (try dsimp only)
    rw [Bool.not_eq_false'] at hp
    rw [b_X12_pays_40, if_neg (nI_nlt (by omega) (by omega)), y_canPay hx hy hv (by omega) (show 1 + i ≤ v by omega), obs]
    (try dsimp only)
    rw [hp, if_neg (by decide), nI_1]
    rfl
  · intro f i hi hp
    (try dsimp only)
    rw [Bool.not_eq_true'] at hp
    rw [b_X12_pays_40, if_neg (nI_nlt (by omega) (by omega)), y_canPay hx hy hv (by omega) (show 1 + i ≤ v by omega), obs]
    (try dsimp only)
    rw [hp, if_pos (by decide)]
  · intro f
    (try dsimp only)
    rw [b_X12_pays_40, if_pos (nI_lt (by omega) (by omega))]
theorem PuF.cl {μ ξ : Mem} (h : PuF μ ξ) : cl ξ = cl μ := cl_fst h.1
theorem pr_pays : P3 F_X11_pays F_X12_pays := by
  intro x y z κ B μ hR hB hI
  (try dsimp only)
  have d0 : ¬ (1 : Int32) = 0 := by decide
  rcases rng x 1 50 1 50 rfl rfl (by omega) (by omega) with ⟨x, x1, x2, rfl, a1, a2, a3, a4, a5⟩ | ⟨a1, a2, a3⟩ | ⟨a1, a2, a3, a4, a5⟩
  · rcases rng y 1 50 1 50 rfl rfl (by omega) (by omega) with ⟨y, y1, y2, rfl, b1, b2, b3, b4, b5⟩ | ⟨b1, b2, b3⟩ | ⟨b1, b2, b3, b4, b5⟩
    · rcases rng z 1 99 1 99 rfl rfl (by omega) (by omega) with ⟨v, v1, v2, rfl, c1, c2, c3, c4, c5⟩ | ⟨c1, c2, c3⟩ | ⟨c1, c2, c3, c4, c5⟩
      · obtain ⟨ξ, h1, h2, h3⟩ := x_payable (κ := κ) (μ := μ) (x := x) (y := y) (v := v) x2 y2 v2
        obtain ⟨j, -, j1, j2, j3, j4⟩ := x_least (κ := κ) v2 h3
        obtain ⟨i, -, i1, i2, i3, i4⟩ := y_least (κ := κ) (ν := Zr (TB (T0 ξ) 0 (nI (1 + j)).toInt64)) (x := x) (y := y) (v := v) x2 y2 v2
        have hij : i = j := mis_u i1 j1 i2 i3 j2 j3
        subst hij
        refine ⟨nI (pcN x y v), TB (T0 ξ) 0 (nI (1 + i)).toInt64, R1 ξ (nI (1 + i)).toInt64, ?_, ?_, inv_1 hI.1 (by unfold R1; rw [cl_MB, cl_M0, cl_Z, cl_TB, cl_T0, h2.cl]) rfl rfl rfl⟩
        · unfold F_X11_pays
          rw [if_pos q0, if_neg a1, if_neg a3, if_neg b1, if_neg b3, if_neg c1, if_pos c4, g0_17, obs, h1, obs]
          (try dsimp only)
          rw [g0_17, obs, j4, obs]
          (try dsimp only)
          rw [x_tellOne, obs]
          rfl
        · unfold F_X12_pays
          rw [if_pos q127, p11, obs, a5, obs]
          (try dsimp only)
          rw [if_neg d0, b5, obs]
          (try dsimp only)
          rw [if_neg d0, c5, obs]
          (try dsimp only)
          rw [if_neg d0, i4]
          unfold b_X12_pays_62
          rw [p10, obs, y_tell0, obs, y_upTo x2 y2 v2, obs]
          rfl
      · refine ⟨-1, μ, Zr μ, ?_, ?_, inv_Z hI⟩
        · unfold F_X11_pays
          rw [if_pos q0, if_neg a1, if_neg a3, if_neg b1, if_neg b3, if_pos c1]
        · unfold F_X12_pays
          simp only [if_pos q127, p11, ↓reduceIte, obs, a5, b5, c3, d0]
      · refine ⟨-1, μ, Zr μ, ?_, ?_, inv_Z hI⟩
        · unfold F_X11_pays
          rw [if_pos q0, if_neg a1, if_neg a3, if_neg b1, if_neg b3, if_neg c3, if_neg c2]
        · unfold F_X12_pays
          simp only [if_pos q127, p11, ↓reduceIte, obs, a5, b5, c5, d0]
    · refine ⟨-1, μ, Zr μ, ?_, ?_, inv_Z hI⟩
      · unfold F_X11_pays
        rw [if_pos q0, if_neg a1, if_neg a3, if_pos b1]
      · unfold F_X12_pays
        simp only [if_pos q127, p11, ↓reduceIte, obs, a5, b3, d0]
    · refine ⟨-1, μ, Zr μ, ?_, ?_, inv_Z hI⟩
      · unfold F_X11_pays
        rw [if_pos q0, if_neg a1, if_neg a3, if_neg b3, if_pos b1]
      · unfold F_X12_pays
        simp only [if_pos q127, p11, ↓reduceIte, obs, a5, b5, d0]
  · refine ⟨-1, μ, Zr μ, ?_, ?_, inv_Z hI⟩
    · unfold F_X11_pays
      rw [if_pos q0, if_pos a1]
    · unfold F_X12_pays
      simp only [if_pos q127, p11, ↓reduceIte, obs, a3]
  · refine ⟨-1, μ, Zr μ, ?_, ?_, inv_Z hI⟩
    · unfold F_X11_pays
      rw [if_pos q0, if_neg a3, if_pos a1]
    · unfold F_X12_pays
      simp only [if_pos q127, p11, ↓reduceIte, obs, a5]
/-! coins -/
abbrev Cs : Type := Option (Nat × Nat × Nat)
noncomputable def csS (v x y : Nat) (s : Cs) : Cs := match s with
  | none => some (pcN x y v, x, y)
  | some q => if q.1 < pcN x y v then some (pcN x y v, x, y) else some q
noncomputable def csI (v x : Nat) (s : Cs) : Cs := it (fun i => csS v x (x + 1 + i)) s (30 - x)
noncomputable def csO (v : Nat) : Nat → Cs := it (fun i => csI v (1 + i)) none
def csV (s : Cs) : Int32 := match s with
  | none => -1
  | some q => nI q.1
def csB (s : Cs) : Prop := ∀ q, s = some q → q.1 ≤ 12 ∧ q.2.1 ≤ 30 ∧ q.2.2 ≤ 60
theorem csS_b {v x y : Nat} {s : Cs} (h : csB s) (hx : x ≤ 30) (hy : y ≤ 60) : csB (csS v x y s) := by
  unfold csS
  split
  · intro q hq
    cases hq
    exact ⟨pcN_12, hx, hy⟩
  next q =>
    split
    · intro p hp
      cases hp
      exact ⟨pcN_12, hx, hy⟩
    · exact h
theorem csI_b {v x : Nat} (hx : x ≤ 30) {s : Cs} (h : csB s) : ∀ n, n ≤ 29 → csB (it (fun i => csS v x (x + 1 + i)) s n)
  | 0, _ => h
  | n + 1, hn => csS_b (csI_b hx h n (by omega)) hx (by omega)
theorem csO_b {v : Nat} : ∀ n, n ≤ 30 → csB (csO v n)
  | 0, _ => fun q hq => nomatch hq
  | n + 1, hn => csI_b (by omega) (csO_b n (by omega)) _ (by omega)
theorem csS_x {v x y : Nat} {s : Cs} : csV (csS v x y s) = (if csV s < nI (pcN x y v) then nI (pcN x y v) else csV s) ∨ True := Or.inr trivial
/-- nothing better behind the best -/
theorem csI_top {v x : Nat} {q : Nat × Nat × Nat} (hq : ∀ x y, pcN x y v ≤ q.1) : ∀ n, it (fun i => csS v x (x + 1 + i)) (some q) n = some q
  | 0 => rfl
  | n + 1 => by
    rw [it_s, csI_top hq n]
    unfold csS
    (try dsimp only)
    rw [if_neg (by have := hq x (x + 1 + n); omega)]
theorem csO_top {v m : Nat} {q : Nat × Nat × Nat} (h : csO v m = some q) (hq : ∀ x y, pcN x y v ≤ q.1) : ∀ n, csO v (m + n) = some q
  | 0 => h
  | n + 1 => by
    show csI v (1 + (m + n)) (csO v (m + n)) = _
    rw [csO_top h hq n]
    exact csI_top hq _
section CNS
variable {κ : Kp} {μ ν : Mem} {v : Nat}
def CQ (μ ξ : Mem) (s : Cs) : Prop := cl ξ = cl μ ∧ (∀ a, a ≠ 0 → ξ.1 a = μ.1 a) ∧ ξ.2 132 = μ.2 132 ∧ match s with
  | none => True
  | some q => ξ.1 0 7 = 2 ∧ ξ.2 91 0 = (nI q.2.1).toInt64 ∧ ξ.2 91 1 = (nI q.2.2).toInt64
theorem x_coins_in (hv : v ≤ 99) {x : Nat} (hx : x ≤ 29) (h1 : 1 ≤ x) {s : Cs} (hs : csB s) {ξ : Mem} (hQ : CQ μ ξ s) : ∃ ζ, CQ μ ζ (csI v x s) ∧ ∀ r : Int32 → Int32 → ci_H → Option (Int32 × ci_H), b_X11_coins_28 r 0 (nI v) (nI x) bigN (csV s) (nI (x + 1)) (hp κ ξ) = if csV (csI v x s) < (if (12 : Int32) < nI v then 12 else nI v) then r (csV (csI v x s)) (nI (x + 1)) (hp κ ζ) else some (csV (csI v x s), hp κ ζ) := by
  obtain ⟨ζ, g1, g2⟩ := lpf (fun f i (ζ : Mem) (r : Int32 → Int32 → ci_H → Option (Int32 × ci_H)) => b_X11_coins_28 r 0 (nI v) (nI x) f (csV (it (fun i => csS v x (x + 1 + i)) s i)) (nI (x + 1 + i)) (hp κ ζ)) (fun i ζ => CQ μ ζ (it (fun i => csS v x (x + 1 + i)) s i)) (30 - x) (fun i ζ hi hC => by
    have hB := csI_b (v := v) (x := x) (by omega) hs i (by omega)
    rw [it_s]
    generalize it (fun i => csS v x (x + 1 + i)) s i = q at hC hB
    obtain ⟨ω, p1, p2, p3⟩ := x_payable (κ := κ) (μ := ζ) (x := x) (y := x + 1 + i) (v := v) (by omega) (by omega) hv
    have hp12 := pcN_12 (x := x) (y := x + 1 + i) (v := v)
    have hCω : ∀ (s : Cs), CQ μ ζ s → CQ μ ω s := fun s h => by
      obtain ⟨k1, k2, k3, k4⟩ := h
      refine ⟨p2.cl.trans k1, fun a ha => by rw [p2.1]; exact k2 a ha, by rw [p2.2 132 (by decide)]; exact k3, ?_⟩
      cases s with
      | none => trivial
      | some q =>
        refine ⟨by rw [p2.1]; exact k4.1, by rw [p2.2 91 (by decide)]; exact k4.2.1, by rw [p2.2 91 (by decide)]; exact k4.2.2⟩
    have hbetter : csV q < nI (pcN x (x + 1 + i) v) ∧ csS v x (x + 1 + i) q = some (pcN x (x + 1 + i) v, x, x + 1 + i) ∨ ¬ csV q < nI (pcN x (x + 1 + i) v) ∧ csS v x (x + 1 + i) q = q := by
      cases q with
      | none => exact Or.inl ⟨fa_trans (show (-1 : Int32) < 0 by decide) (nI_le (a := 0) (by omega) (by omega)), rfl⟩
      | some p =>
        have hb := (hB p rfl).1
        by_cases c : p.1 < pcN x (x + 1 + i) v
        · exact Or.inl ⟨nI_lt c (by omega), if_pos c⟩
        · exact Or.inr ⟨nI_nlt (by omega) (by omega), if_neg c⟩
    rcases hbetter with ⟨c1, c2⟩ | ⟨c1, c2⟩
    · refine ⟨TT ω (nI x).toInt64 (nI (x + 1 + i)).toInt64, fun f => ?_, ?_⟩
      · funext r
        (try dsimp only)
        rw [b_X11_coins_28, if_neg (show ¬ (30 : Int32) < nI (x + 1 + i) from nI_nlt (a := 30) (by omega) (by decide)), g0_17, obs, p1, obs]
        unfold b_X11_coins_66
        (try dsimp only)
        rw [if_neg (show ¬ nI (fb_ct (pm x (x + 1 + i) v) 128) ≤ csV q from fun z => (fa_of_lt c1).2.1 z), x_tellTwo, obs, nI_1, c2]
        rfl
      · rw [c2]
        obtain ⟨k1, k2, k3, -⟩ := hCω q hC
        refine ⟨?_, fun a ha => by rw [TT_n ha]; exact k2 a ha, k3, rfl, rfl, rfl⟩
        unfold TT
        rw [cl_TB, cl_TB, cl_T0, k1]
    · refine ⟨ω, fun f => ?_, by rw [c2]; exact hCω q hC⟩
      funext r
      (try dsimp only)
      rw [b_X11_coins_28, if_neg (show ¬ (30 : Int32) < nI (x + 1 + i) from nI_nlt (a := 30) (by omega) (by decide)), g0_17, obs, p1, obs]
      unfold b_X11_coins_66
      (try dsimp only)
      rw [if_pos (show nI (fb_ct (pm x (x + 1 + i) v) 128) ≤ csV q from fa_of_nlt c1), nI_1, c2]
      rfl) ξ hQ (30 - x) (Nat.le_refl _)
  refine ⟨ζ, g1, fun r => ?_⟩
  have h9 := congrFun (g2 (4999 - (30 - x) + 1)) r
  (try dsimp only at h9)
  rw [show 4999 - (30 - x) + 1 + (30 - x) = 5000 by omega] at h9
  refine Eq.trans h9 ?_
  rw [show x + 1 + (30 - x) = 31 by omega, b_X11_coins_28, if_pos (by decide), nI_1]
  rfl
theorem csV_nn {s : Cs} {q : Nat × Nat × Nat} (h : s = some q) : csV s = nI q.1 := by rw [h]; rfl
theorem csO_some {v : Nat} : ∀ n, 1 ≤ n → n ≤ 29 → ∃ q, csO v n = some q
  | 0, h, _ => absurd h (by omega)
  | n + 1, _, hn => by
    show ∃ q, csI v (1 + n) (csO v n) = some q
    unfold csI
    have key : ∀ (s : Cs) m, 0 < m → ∃ q, it (fun i => csS v (1 + n) (1 + n + 1 + i)) s m = some q := fun s m hm => by
      obtain ⟨k, rfl⟩ : ∃ k, m = k + 1 := ⟨m - 1, by omega⟩
      rw [it_s]
      unfold csS
      split
      · exact ⟨_, rfl⟩
      · split
        · exact ⟨_, rfl⟩
        · exact ⟨_, rfl⟩
    exact key _ _ (by omega)
theorem x_coins (hv : v ≤ 99) (hv1 : 1 ≤ v) : ∀ (m i : Nat), i + m = 29 → ∀ (ξ : Mem), CQ μ ξ (csO v i) → ∀ f, ∃ ζ, CQ μ ζ (csO v 29) ∧ b_X11_coins_17 0 (nI v) (f + m + 1) (csV (csO v i)) (nI (1 + i)) (hp κ ξ) = some (csV (csO v 29), hp κ ζ)
  | 0, i, him, ξ, hQ, f => by
    have e : i = 29 := by omega
    subst e
    refine ⟨ξ, hQ, ?_⟩
    rw [b_X11_coins_17, if_pos (by decide)]
  | m + 1, i, him, ξ, hQ, f => by
    obtain ⟨ζ, h1, h2⟩ := x_coins_in (κ := κ) hv (show 1 + i ≤ 29 by omega) (by omega) (csO_b i (by omega)) hQ
    have e1 : csI v (1 + i) (csO v i) = csO v (i + 1) := rfl
    rw [e1] at h1 h2
    show ∃ ζ, CQ μ ζ (csO v 29) ∧ b_X11_coins_17 0 (nI v) (f + m + 1 + 1) (csV (csO v i)) (nI (1 + i)) (hp κ ξ) = some (csV (csO v 29), hp κ ζ)
    rw [b_X11_coins_17, if_neg (show ¬ (30 : Int32) ≤ nI (1 + i) from nI_ge (b := 30) (by omega) (by decide)), nI_1, h2]
    obtain ⟨q, hq⟩ := csO_some (v := v) (i + 1) (by omega) (by omega)
    have hqb := (csO_b (v := v) (i + 1) (by omega) q hq).1
    by_cases c : csV (csO v (i + 1)) < (if (12 : Int32) < nI v then 12 else nI v)
    · rw [if_pos c]
      have := x_coins hv hv1 m (i + 1) (by omega) ζ h1 f
      rw [show 1 + (i + 1) = 1 + i + 1 by omega] at this
      exact this
    · rw [if_neg c]
      have htop : ∀ x y, pcN x y v ≤ q.1 := fun x y => by
        have p1 := pcN_12 (x := x) (y := y) (v := v)
        have p2 := pcN_v (x := x) (y := y) (v := v) hv
        rw [csV_nn hq] at c
        by_cases c2 : 12 < v
        · rw [if_pos (show (12 : Int32) < nI v from nI_lt (a := 12) c2 (by omega))] at c
          have : ¬ q.1 < 12 := fun z => c (nI_lt (b := 12) z (by decide))
          omega
        · rw [if_neg (show ¬ (12 : Int32) < nI v from nI_nlt (a := 12) (by omega) (by decide))] at c
          have : ¬ q.1 < v := fun z => c (nI_lt z (by omega))
          omega
      have h29 := csO_top hq htop m
      rw [show i + 1 + m = 29 by omega] at h29
      refine ⟨ζ, by rw [h29, ← hq]; exact h1, ?_⟩
      rw [h29, hq]
theorem y_coins_in (hv : v ≤ 99) {x : Nat} (hx : x ≤ 30) (h1 : 1 ≤ x) {s : Cs} (hs : csB s) (z1 z2 : Int32) (hz : ∀ q, s = some q → z1 = nI q.2.1 ∧ z2 = nI q.2.2) (r : Int32 → Int32 → Int32 → Int32 → ci_H → Option (Int32 × ci_H)) : ∃ w1 w2, (∀ q, csI v x s = some q → w1 = nI q.2.1 ∧ w2 = nI q.2.2) ∧ b_X12_coins_40 r 127 (nI v) (nI x) bigN (csV s) z1 z2 (nI (x + 1)) (hp κ ν) = r (csV (csI v x s)) w1 w2 (nI (x + 1)) (hp κ ν) := by
  obtain ⟨ζ, g1, g2⟩ := lpf (fun f i (ζ : Int32 × Int32) => b_X12_coins_40 r 127 (nI v) (nI x) f (csV (it (fun i => csS v x (x + 1 + i)) s i)) ζ.1 ζ.2 (nI (x + 1 + i)) (hp κ ν)) (fun i ζ => ∀ q, it (fun i => csS v x (x + 1 + i)) s i = some q → ζ.1 = nI q.2.1 ∧ ζ.2 = nI q.2.2) (30 - x) (fun i ζ hi hC => by
    have hB := csI_b (v := v) (x := x) (by omega) hs i (by omega)
    rw [it_s]
    generalize it (fun i => csS v x (x + 1 + i)) s i = q at hC hB
    have hp12 := pcN_12 (x := x) (y := x + 1 + i) (v := v)
    have hbetter : csV q < nI (pcN x (x + 1 + i) v) ∧ csS v x (x + 1 + i) q = some (pcN x (x + 1 + i) v, x, x + 1 + i) ∨ ¬ csV q < nI (pcN x (x + 1 + i) v) ∧ csS v x (x + 1 + i) q = q := by
      cases q with
      | none => exact Or.inl ⟨fa_trans (show (-1 : Int32) < 0 by decide) (nI_le (a := 0) (by omega) (by omega)), rfl⟩
      | some p =>
        have hb := (hB p rfl).1
        by_cases c : p.1 < pcN x (x + 1 + i) v
        · exact Or.inl ⟨nI_lt c (by omega), if_pos c⟩
        · exact Or.inr ⟨nI_nlt (by omega) (by omega), if_neg c⟩
    rcases hbetter with ⟨c1, c2⟩ | ⟨c1, c2⟩
    · refine ⟨(nI x, nI (x + 1 + i)), fun f => ?_, ?_⟩
      · (try dsimp only)
        rw [b_X12_coins_40, if_neg (show ¬ (30 : Int32) < nI (x + 1 + i) from nI_nlt (a := 30) (by omega) (by decide)), y_upTo (by omega) (by omega) hv, obs]
        unfold b_X12_coins_76
        (try dsimp only)
        rw [if_pos c1, nI_1, c2]
        rfl
      · rw [c2]
        intro p hp
        cases hp
        exact ⟨rfl, rfl⟩
    · refine ⟨ζ, fun f => ?_, by rw [c2]; exact hC⟩
      (try dsimp only)
      rw [b_X12_coins_40, if_neg (show ¬ (30 : Int32) < nI (x + 1 + i) from nI_nlt (a := 30) (by omega) (by decide)), y_upTo (by omega) (by omega) hv, obs]
      unfold b_X12_coins_76
      (try dsimp only)
      rw [if_neg c1, nI_1, c2]
      rfl) (z1, z2) hz (30 - x) (Nat.le_refl _)
  refine ⟨ζ.1, ζ.2, g1, ?_⟩
  have h9 := g2 (4999 - (30 - x) + 1)
  (try dsimp only at h9)
  rw [show 4999 - (30 - x) + 1 + (30 - x) = 5000 by omega] at h9
  refine Eq.trans h9 ?_
  rw [show x + 1 + (30 - x) = 31 by omega, b_X12_coins_40, if_pos (by decide), nI_1]
  rfl
theorem y_coins (hv : v ≤ 99) : ∀ (m i : Nat), i + m = 30 → ∀ (z1 z2 : Int32), (∀ q, csO v i = some q → z1 = nI q.2.1 ∧ z2 = nI q.2.2) → ∀ f, ∃ w1 w2, (∀ q, csO v 30 = some q → w1 = nI q.2.1 ∧ w2 = nI q.2.2) ∧ b_X12_coins_27 127 (nI v) (f + m + 1) (csV (csO v i)) z1 z2 (nI (1 + i)) (hp κ ν) = some (csV (csO v 30), hp κ (MM ν w1.toInt64 w2.toInt64))
  | 0, i, him, z1, z2, hz, f => by
    have e : i = 30 := by omega
    subst e
    refine ⟨z1, z2, hz, ?_⟩
    rw [b_X12_coins_27, if_pos (by decide), p10, obs, y_tell0, obs, y_tell1 (i := 0) (by decide), obs]
    rfl
  | m + 1, i, him, z1, z2, hz, f => by
    show ∃ w1 w2, _ ∧ b_X12_coins_27 127 (nI v) (f + m + 1 + 1) (csV (csO v i)) z1 z2 (nI (1 + i)) (hp κ ν) = _
    rw [b_X12_coins_27, if_neg (show ¬ (30 : Int32) < nI (1 + i) from nI_nlt (a := 30) (by omega) (by decide)), nI_1]
    obtain ⟨w1, w2, h1, h2⟩ := y_coins_in (κ := κ) (ν := ν) hv (show 1 + i ≤ 30 by omega) (by omega) (csO_b i (by omega)) z1 z2 hz (fun x0 x1 x2 x3 x4 => b_X12_coins_27 127 (nI v) (f + m + 1) x0 x1 x2 x3 x4)
    have e1 : csI v (1 + i) (csO v i) = csO v (i + 1) := rfl
    rw [e1] at h1 h2
    rw [h2]
    have := y_coins hv m (i + 1) (by omega) w1 w2 h1 f
    rw [show 1 + (i + 1) = 1 + i + 1 by omega] at this
    exact this
end CNS
theorem csO_30 {v : Nat} : csO v (29 + 1) = csO v 29 := by
  rw [show csO v (29 + 1) = csI v (1 + 29) (csO v 29) from it_s _ _ _]
  generalize csO v 29 = s
  rfl
theorem pr_coins : P1 F_X11_coins F_X12_coins := by
  intro z κ B μ hR hB hI
  (try dsimp only)
  have d0 : ¬ (1 : Int32) = 0 := by decide
  rcases rng z 1 99 1 99 rfl rfl (by omega) (by omega) with ⟨v, v1, v2, rfl, c1, c2, c3, c4, c5⟩ | ⟨c1, c2, c3⟩ | ⟨c1, c2, c3, c4, c5⟩
  · obtain ⟨ζ, h1, h2⟩ := x_coins (κ := κ) (μ := μ) v2 v1 29 0 rfl μ ⟨rfl, fun _ _ => rfl, rfl, trivial⟩ 4970
    obtain ⟨w1, w2, h3, h4⟩ := y_coins (κ := κ) (ν := Zr ζ) v2 30 0 rfl 0 0 (fun q hq => nomatch hq) 4969
    have e30 : csO v 30 = csO v 29 := csO_30
    obtain ⟨q, hq⟩ := csO_some (v := v) 29 (by omega) (by omega)
    rw [e30] at h3 h4
    obtain ⟨e1, e2⟩ := h3 q hq
    rw [hq] at h1
    obtain ⟨k1, k2, k3, k4, k5, k6⟩ := h1
    refine ⟨csV (csO v 29), ζ, MM (Zr ζ) w1.toInt64 w2.toInt64, ?_, ?_, ?_⟩
    · unfold F_X11_coins
      rw [if_pos q0, if_neg c1, if_pos c4]
      exact h2
    · unfold F_X12_coins
      rw [if_pos q127, p11, obs, c5, obs]
      (try dsimp only)
      rw [if_neg d0]
      exact h4
    · refine ⟨?_, row_TM (ν := μ) k4 ?_ ?_⟩
      · have e : cl (MM (Zr ζ) w1.toInt64 w2.toInt64) = cl μ := by
          unfold MM
          rw [cl_MB, cl_MB, cl_M0, cl_Z, k1]
        rw [e]
        exact hI.1.up (by omega)
      · rw [e1]; exact k5
      · rw [e2]; exact k6
  · refine ⟨-1, μ, Zr μ, ?_, ?_, inv_Z hI⟩
    · unfold F_X11_coins
      rw [if_pos q0, if_pos c1]
    · unfold F_X12_coins
      simp only [if_pos q127, p11, ↓reduceIte, obs, c3]
  · refine ⟨-1, μ, Zr μ, ?_, ?_, inv_Z hI⟩
    · unfold F_X11_coins
      rw [if_pos q0, if_neg c3, if_neg c2]
    · unfold F_X12_coins
      simp only [if_pos q127, p11, ↓reduceIte, obs, c5]
