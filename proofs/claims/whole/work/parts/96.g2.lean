/-! PURE: pairs: most, rid. -/
theorem sd_z {a b : Nat} : sd a b = 0 ↔ sub a b := by
  constructor
  · intro h i hi
    have h1 : (sd a b).testBit i = false := by rw [h, Nat.zero_testBit]
    rw [sd_bit, hi] at h1
    simpa using h1
  · intro h
    apply Nat.eq_of_testBit_eq
    intro i
    rw [sd_bit, Nat.zero_testBit]
    cases e : a.testBit i with
    | false => rfl
    | true => rw [h i e]; rfl
/-- all from k on, n of them -/
def akf (p : Nat → Bool) : Nat → Nat → Bool
  | 0, _ => true
  | n + 1, k => p k && akf p n (k + 1)
theorem akf_iff {p : Nat → Bool} : ∀ n k, akf p n k = true ↔ ∀ i, k ≤ i → i < k + n → p i = true
  | 0, k => ⟨fun _ i h1 h2 => absurd h2 (by omega), fun _ => rfl⟩
  | n + 1, k => by
    show (p k && akf p n (k + 1)) = true ↔ _
    rw [Bool.and_eq_true, akf_iff n (k + 1)]
    constructor
    · rintro ⟨h1, h2⟩ i i1 i2
      by_cases c : i = k
      · rw [c]; exact h1
      · exact h2 i (by omega) (by omega)
    · intro h
      exact ⟨h k (by omega) (by omega), fun i i1 i2 => h i (by omega) (by omega)⟩
/-- the best of the sets below s -/
def bst (up : Nat → Nat → Bool) (b0 : Nat) : Nat → Nat
  | 0 => b0
  | s + 1 => if up s (bst up b0 s) = true then s else bst up b0 s
theorem bst_s {up : Nat → Nat → Bool} {b0 s : Nat} : bst up b0 (s + 1) = if up s (bst up b0 s) = true then s else bst up b0 s := rfl
theorem bst_m {C : Nat → Bool} (h0 : C 0 = true) : ∀ s, C (bst (fun s b => C s && decide (cn b < cn s)) 0 (s + 1)) = true ∧ bst (fun s b => C s && decide (cn b < cn s)) 0 (s + 1) < s + 1 ∧ ∀ X, C X = true → X < s + 1 → bet false X (bst (fun s b => C s && decide (cn b < cn s)) 0 (s + 1))
  | 0 => by
    have e : bst (fun s b => C s && decide (cn b < cn s)) 0 1 = 0 := by
      rw [bst_s]
      split
      · rfl
      · rfl
    rw [e]
    refine ⟨h0, by decide, fun X _ hX => ?_⟩
    have : X = 0 := by omega
    rw [this]
    exact Or.inr ⟨rfl, Nat.le_refl _⟩
  | s + 1 => by
    obtain ⟨h1, h2, h3⟩ := bst_m h0 s
    rw [bst_s]
    generalize bst (fun s b => C s && decide (cn b < cn s)) 0 (s + 1) = R at h1 h2 h3
    by_cases c : (C (s + 1) && decide (cn R < cn (s + 1))) = true
    · rw [if_pos c]
      rw [Bool.and_eq_true] at c
      have c2 := of_decide_eq_true c.2
      refine ⟨c.1, by omega, fun X x1 x2 => ?_⟩
      by_cases z : X = s + 1
      · rw [z]; exact Or.inr ⟨rfl, Nat.le_refl _⟩
      · have := h3 X x1 (by omega)
        refine Or.inl ?_
        rcases this with h | ⟨h, -⟩ <;> omega
    · rw [if_neg c]
      refine ⟨h1, by omega, fun X x1 x2 => ?_⟩
      by_cases z : X = s + 1
      · rw [z] at x1 ⊢
        rw [x1, Bool.true_and] at c
        have c2 : ¬ cn R < cn (s + 1) := fun w => c (decide_eq_true w)
        by_cases w : cn (s + 1) = cn R
        · exact Or.inr ⟨w, by show R ≤ s + 1; omega⟩
        · exact Or.inl (by omega)
      · exact h3 X x1 (by omega)
theorem bst_r {C : Nat → Bool} {all : Nat} (ha : all < 4096) (h0 : C all = true) (hs : ∀ X, C X = true → sub X all) : ∀ s, s ≤ all → C (bst (fun s b => C s && decide (cn s < cn b)) all s) = true ∧ (bst (fun s b => C s && decide (cn s < cn b)) all s < s ∨ bst (fun s b => C s && decide (cn s < cn b)) all s = all) ∧ ∀ X, C X = true → (X < s ∨ X = all) → (cn (bst (fun s b => C s && decide (cn s < cn b)) all s) < cn X ∨ (cn (bst (fun s b => C s && decide (cn s < cn b)) all s) = cn X ∧ bst (fun s b => C s && decide (cn s < cn b)) all s ≤ X))
  | 0, _ => by
    refine ⟨h0, Or.inr rfl, fun X _ hX => ?_⟩
    rcases hX with hX | hX
    · omega
    · rw [hX]; exact Or.inr ⟨rfl, Nat.le_refl _⟩
  | s + 1, hsa => by
    obtain ⟨h1, h2, h3⟩ := bst_r ha h0 hs s (by omega)
    rw [bst_s]
    generalize bst (fun s b => C s && decide (cn s < cn b)) all s = R at h1 h2 h3
    by_cases c : (C s && decide (cn s < cn R)) = true
    · rw [if_pos c]
      rw [Bool.and_eq_true] at c
      have c2 := of_decide_eq_true c.2
      refine ⟨c.1, Or.inl (by omega), fun X x1 x2 => ?_⟩
      by_cases z : X = s
      · rw [z]; exact Or.inr ⟨rfl, Nat.le_refl _⟩
      · have := h3 X x1 (by omega)
        refine Or.inl ?_
        rcases this with h | ⟨h, -⟩ <;> omega
    · rw [if_neg c]
      refine ⟨h1, by omega, fun X x1 x2 => ?_⟩
      by_cases z : X = s
      · rw [z] at x1 ⊢
        rw [x1, Bool.true_and] at c
        have c2 : ¬ cn s < cn R := fun w => c (decide_eq_true w)
        by_cases w : cn R = cn s
        · rcases h2 with h2 | h2
          · exact Or.inr ⟨w, by omega⟩
          · exfalso
            have := sub_eq (hs s x1) ha (by rw [← h2]; omega)
            omega
        · exact Or.inl (by omega)
      · exact h3 X x1 (by omega)
section BBZ
variable {A mu mn : Nat → Int32} {tc kc lm : Nat}
theorem bb_0 {s : Nat} : bb A mu mn tc kc lm s = 0 ↔ ∀ k, k < kc → mo A mu mn tc s k ≤ lm := by
  constructor
  · intro h k hk
    have h1 : (bb A mu mn tc kc lm s).testBit k = false := by rw [h, Nat.zero_testBit]
    unfold bb at h1
    rw [sb_bit, decide_eq_true hk, Bool.true_and] at h1
    have := of_decide_eq_false h1
    omega
  · intro h
    apply Nat.eq_of_testBit_eq
    intro k
    unfold bb
    rw [sb_bit, Nat.zero_testBit]
    by_cases c : k < kc
    · have := h k c
      rw [decide_eq_false (show ¬ lm < mo A mu mn tc s k by omega), Bool.and_false]
    · rw [decide_eq_false c, Bool.false_and]
/-- things of broken kinds -/
def plF (A mu mn : Nat → Int32) (tc lm kept : Nat) : Nat → Nat
  | 0 => 0
  | k + 1 => if lm < mo A mu mn tc kept k then plF A mu mn tc lm kept k ||| (kept &&& kset A mu mn tc k) else plF A mu mn tc lm kept k
theorem plF_bit {kept t : Nat} : ∀ n, (plF A mu mn tc lm kept n).testBit t = true ↔ ∃ k, k < n ∧ lm < mo A mu mn tc kept k ∧ kept.testBit t = true ∧ (kset A mu mn tc k).testBit t = true
  | 0 => by
    constructor
    · intro h
      have h : (0 : Nat).testBit t = true := h
      rw [Nat.zero_testBit] at h
      cases h
    · rintro ⟨k, h, -⟩
      omega
  | n + 1 => by
    have ih := plF_bit (kept := kept) (t := t) n
    show (if lm < mo A mu mn tc kept n then plF A mu mn tc lm kept n ||| (kept &&& kset A mu mn tc n) else plF A mu mn tc lm kept n).testBit t = true ↔ _
    by_cases c : lm < mo A mu mn tc kept n
    · rw [if_pos c, Nat.testBit_or, Bool.or_eq_true, ih, Nat.testBit_and, Bool.and_eq_true]
      constructor
      · rintro (⟨k, k1, k2⟩ | ⟨k1, k2⟩)
        · exact ⟨k, by omega, k2⟩
        · exact ⟨n, by omega, c, k1, k2⟩
      · rintro ⟨k, k1, k2, k3, k4⟩
        by_cases z : k = n
        · subst z; exact Or.inr ⟨k3, k4⟩
        · exact Or.inl ⟨k, by omega, k2, k3, k4⟩
    · rw [if_neg c, ih]
      constructor
      · rintro ⟨k, k1, k2⟩
        exact ⟨k, by omega, k2⟩
      · rintro ⟨k, k1, k2, k3⟩
        have : k ≠ n := fun z => by rw [z] at k2; exact c k2
        exact ⟨k, by omega, k2, k3⟩
theorem plF_sub {kept n : Nat} : sub (plF A mu mn tc lm kept n) kept := fun t ht => by
  obtain ⟨k, -, -, h, -⟩ := (plF_bit n).mp ht
  exact h
theorem plF_z {kept k : Nat} (b2 : tc ≤ 12) (hk : k < kc) (h : lm < mo A mu mn tc kept k) : mo A mu mn tc (sd kept (plF A mu mn tc lm kept kc)) k = 0 := by
  rw [← cn_kset b2]
  have : sd kept (plF A mu mn tc lm kept kc) &&& kset A mu mn tc k = 0 := by
    apply Nat.eq_of_testBit_eq
    intro t
    rw [Nat.zero_testBit]
    cases e : (sd kept (plF A mu mn tc lm kept kc) &&& kset A mu mn tc k).testBit t with
    | false => rfl
    | true =>
      rw [Nat.testBit_and, sd_bit, Bool.and_eq_true, Bool.and_eq_true] at e
      have := (plF_bit kc).mpr ⟨k, hk, h, e.1.1, e.2⟩
      rw [this] at e
      cases e.1.2
  rw [this, cn_0]
theorem rid_pure {kept m R : Nat} (hk : kept < 4096) (b2 : tc ≤ 12) (b4 : 1 ≤ lm ∧ lm ≤ 4) (h1 : sub m (plF A mu mn tc lm kept kc)) (h2 : Fit A mu mn tc kc (ld A mu mn tc lm (sd kept (plF A mu mn tc lm kept kc))) m) (h3 : ∀ x, sub x (plF A mu mn tc lm kept kc) → Fit A mu mn tc kc (ld A mu mn tc lm (sd kept (plF A mu mn tc lm kept kc))) x → bet true x m) (r1 : sub R kept) (r2 : bb A mu mn tc kc lm (sd kept R) = 0) (r3 : ∀ X, sub X kept → bb A mu mn tc kc lm (sd kept X) = 0 → (cn R < cn X ∨ (cn R = cn X ∧ R ≤ X))) : sd (plF A mu mn tc lm kept kc) m = R := by
  have p1 : sub (plF A mu mn tc lm kept kc) kept := plF_sub
  have pz : ∀ k, k < kc → lm < mo A mu mn tc kept k → mo A mu mn tc (sd kept (plF A mu mn tc lm kept kc)) k = 0 := fun k hk h => plF_z b2 hk h
  generalize plF A mu mn tc lm kept kc = pool at h1 h2 h3 p1 pz
  have hpl : pool < 4096 := p1.lt hk
  have pm : ∀ k, mo A mu mn tc (sd kept pool) k + mo A mu mn tc pool k = mo A mu mn tc kept k := fun k => by
    rw [← mo_dis sd_dis b2, sd_or2 p1]
  have p2 : ∀ k, k < kc → mo A mu mn tc (sd kept pool) k ≤ lm := fun k hk => by
    by_cases c : lm < mo A mu mn tc kept k
    · rw [pz k hk c]; omega
    · have := pm k; omega
  -- what is given away
  have g1 : bb A mu mn tc kc lm (sd kept (sd pool m)) = 0 := by
    rw [bb_0]
    intro k hk
    have e : sd kept (sd pool m) = sd kept pool ||| m := by
      apply Nat.eq_of_testBit_eq
      intro i
      rw [sd_bit, sd_bit, Nat.testBit_or, sd_bit]
      have a1 := p1 i
      have a2 := h1 i
      cases e1 : kept.testBit i <;> cases e2 : pool.testBit i <;> cases e3 : m.testBit i <;> simp_all
    rw [e, mo_dis (fun t ht => by rw [sd_bit, h1 t ht]; simp) b2]
    have f1 := h2 k hk
    have f2 := p2 k hk
    unfold ld at f1
    omega
  have q1 := r3 (sd pool m) (fun i hi => p1 i (sub_sd i hi)) g1
  -- what would stay by R
  have f3 : Fit A mu mn tc kc (ld A mu mn tc lm (sd kept pool)) (sd pool R) := fun k hk => by
    have e1 := (bb_0.mp r2) k hk
    have e2 : mo A mu mn tc (sd pool R) k ≤ mo A mu mn tc (sd kept R) k := mo_mono (fun i hi => by
      rw [sd_bit, Bool.and_eq_true] at hi ⊢
      exact ⟨p1 i hi.1, hi.2⟩)
    have e3 : mo A mu mn tc (sd pool R) k ≤ mo A mu mn tc pool k := mo_mono sub_sd
    have e4 := pm k
    unfold ld
    by_cases c : lm < mo A mu mn tc kept k
    · have := pz k hk c; omega
    · omega
  have q2 := h3 (sd pool R) sub_sd f3
  have n1 := cn_sd h1
  have n2 : cn (sd pool R) + cn (pool &&& R) = cn pool := by
    rw [← cn_dis (fun t ht => by rw [sd_bit, (sub_and t ht)]; simp), sd_or]
  have n3 : cn (pool &&& R) ≤ cn R := cn_sub sub_and
  have q3 : cn (sd pool R) = cn m ∧ sd pool R ≤ m := by
    rcases q2 with q2 | ⟨q2, q3⟩
    · rcases q1 with q1 | ⟨q1, -⟩ <;> omega
    · exact ⟨q2, q3⟩
  have q4 : cn R = cn (sd pool m) ∧ R ≤ sd pool m := by
    rcases q1 with q1 | q1
    · omega
    · exact q1
  have e5 : pool &&& R = R := sub_eq sub_and (r1.lt hk) (by omega)
  have hRp : sub R pool := fun i hi => by
    rw [← e5] at hi
    exact sub_andl i hi
  have s1 := sd_add h1 hpl
  have s2 := sd_add hRp hpl
  omega
end BBZ
section MRX
variable {κ : Kp} {μ : Mem} {A mu mn : Nat → Int32} {hc tc kc lm : Nat}
theorem lk_row {v b : Int32} {c : Nat} : lkM (upI μ 111 1 v) b c = rowI μ 111 (upd (upd (upd (μ.1 111) 1 v) 2 b) 3 (nI c - 1)) := by
  refine Prod.ext ?_ rfl
  funext z
  by_cases e : z = 111
  · subst e; rfl
  · rw [lk_n e, rowI_n e, rowI_n e]
theorem lk_0 {v : Int32} : upI (upI μ 111 1 v) 111 3 (-1) = lkM (upI μ 111 1 v) ((upI μ 111 1 v).1 111 2) 0 := by
  unfold lkM
  rw [upI_id]
  rfl
theorem x_leastM (h : Xc μ A mu mn hc tc kc lm) {pool : Nat} {d : Nat → Nat} (hp1 : pool < 4096) (hp2 : ∀ i, pool.testBit i = true → i < tc) (hd : ∀ k, k < kc → d k ≤ 15) : ∃ m g, F_X0_leastOfMost 111 (nI (dg d kc)) (nI pool) (hp κ μ) = some (nI m, hp κ (rowI μ 111 g)) ∧ sub m pool ∧ Fit A mu mn tc kc d m ∧ ∀ x, sub x pool → Fit A mu mn tc kc d x → bet false x m := by
  have h2 : Xc (upI μ 111 1 0) A mu mn hc tc kc lm := h.cg (fun a h1 h2 => rowI_n (by omega))
  obtain ⟨m, c', k1, k2, k3, k4⟩ := x_lookAll (κ := κ) h2 (gf := false) rfl hp1 hp2 hd ((upI μ 111 1 0).1 111 2)
  refine ⟨m, upd (upd (upd (μ.1 111) 1 0) 2 (nI m)) 3 (nI c' - 1), ?_, k2, k3, k4⟩
  unfold F_X0_leastOfMost
  rw [if_pos q111, p111_1 rfl, obs, p111_3, obs, lk_0, k1, obs, g111_2, obs]
  show some (nI m, hp κ (lkM (upI μ 111 1 0) (nI m) c')) = _
  rw [lk_row]
theorem x_greatM (h : Xc μ A mu mn hc tc kc lm) {pool : Nat} {d : Nat → Nat} (hp1 : pool < 4096) (hp2 : ∀ i, pool.testBit i = true → i < tc) (hd : ∀ k, k < kc → d k ≤ 15) : ∃ m g, F_X0_greatestOfMost 111 (nI (dg d kc)) (nI pool) (hp κ μ) = some (nI m, hp κ (rowI μ 111 g)) ∧ sub m pool ∧ Fit A mu mn tc kc d m ∧ ∀ x, sub x pool → Fit A mu mn tc kc d x → bet true x m := by
  have h2 : Xc (upI μ 111 1 1) A mu mn hc tc kc lm := h.cg (fun a h1 h2 => rowI_n (by omega))
  obtain ⟨m, c', k1, k2, k3, k4⟩ := x_lookAll (κ := κ) h2 (gf := true) rfl hp1 hp2 hd ((upI μ 111 1 1).1 111 2)
  refine ⟨m, upd (upd (upd (μ.1 111) 1 1) 2 (nI m)) 3 (nI c' - 1), ?_, k2, k3, k4⟩
  unfold F_X0_greatestOfMost
  rw [if_pos q111, p111_1 rfl, obs, p111_3, obs, lk_0, k1, obs, g111_2, obs]
  show some (nI m, hp κ (lkM (upI μ 111 1 1) (nI m) c')) = _
  rw [lk_row]
theorem x_fewest (h : Xc μ A mu mn hc tc kc lm) {kept : Nat} (hk : kept < 4096) (hk2 : ∀ i, kept.testBit i = true → i < tc) : ∃ m g, F_X11_fewestToGiveAway 0 (nI kept) (hp κ μ) = some (nI (sd (plF A mu mn tc lm kept kc) m), hp κ (rowI μ 111 g)) ∧ sub m (plF A mu mn tc lm kept kc) ∧ Fit A mu mn tc kc (ld A mu mn tc lm (sd kept (plF A mu mn tc lm kept kc))) m ∧ ∀ x, sub x (plF A mu mn tc lm kept kc) → Fit A mu mn tc kc (ld A mu mn tc lm (sd kept (plF A mu mn tc lm kept kc))) x → bet true x m := by
  have b2 := h.b2
  have b3 := h.b3
  have hO := h.of
  have t3 := h.1.2.2.1
  have hpl : plF A mu mn tc lm kept kc < 4096 := plF_sub.lt hk
  obtain ⟨m, g, k1, k2, k3, k4⟩ := x_greatM (κ := κ) h (pool := plF A mu mn tc lm kept kc) (d := ld A mu mn tc lm (sd kept (plF A mu mn tc lm kept kc))) hpl (fun i hi => hk2 i (plF_sub i hi)) (fun k _ => by unfold ld; omega)
  refine ⟨m, g, ?_, k2, k3, k4⟩
  have hbl := bb_lt (A := A) (mu := mu) (mn := mn) (tc := tc) (lm := lm) (s := kept) b3
  unfold F_X11_fewestToGiveAway
  rw [if_pos q0, g0_0, obs, C_broken h hk, obs]
  (try dsimp only)
  refine lpk (fun n k => b_X11_fewestToGiveAway_14 0 (nI kept) (nI (bb A mu mn tc kc lm kept)) n (nI (plF A mu mn tc lm kept k)) (nI k) (hp κ μ)) kc _ ?_ ?_ bigN 0 (Nat.zero_le _) (by unfold bigN; omega)
  · intro n k hkc
    (try dsimp only)
    have hbit : (bb A mu mn tc kc lm kept).testBit k = decide (lm < mo A mu mn tc kept k) := by
      unfold bb
      rw [sb_bit, decide_eq_true hkc, Bool.true_and]
    have hz : (((nI (bb A mu mn tc kc lm kept) >>> (nI k &&& 31)) &&& 1) = 0) ↔ ¬ lm < mo A mu mn tc kept k := by
      rw [i_bit0 (by omega) (by omega), hbit]
      exact decide_eq_false_iff_not
    rw [b_X11_fewestToGiveAway_14, g0_0, obs, g1_7, obs, t3, if_neg (nI_ge hkc (by omega))]
    by_cases c : lm < mo A mu mn tc kept k
    · rw [if_neg (fun z => hz.mp z c), obs, g1_3, obs, r9 (by omega), obs, (hO k hkc).1, i_and, i_or, b_X11_fewestToGiveAway_50, nI_1, show plF A mu mn tc lm kept (k + 1) = plF A mu mn tc lm kept k ||| (kept &&& kset A mu mn tc k) from if_pos c]
    · rw [if_pos (hz.mpr c), b_X11_fewestToGiveAway_50, nI_1, show plF A mu mn tc lm kept (k + 1) = plF A mu mn tc lm kept k from if_neg c]
  · intro n
    (try dsimp only)
    rw [b_X11_fewestToGiveAway_14, g0_0, obs, g1_7, obs, t3, if_pos (nI_le (Nat.le_refl _) (by omega)), g0_14, obs, obs, i_sd, C_load h (sd_lt (n := 12) hk), obs]
    (try dsimp only)
    rw [k1, obs, i_sd]
end MRX
section MRY
variable {κ : Kp} {ν : Mem} {hc tc kc lm B rn : Nat} {tx : Nat → Nat} {cd : List Int32}
/-- what the reference asks of a set that is given away -/
def okR (A mu mn : Nat → Int32) (tc kc lm all s : Nat) : Bool := decide (sd s all = 0) && decide (bb A mu mn tc kc lm (sd all s) = 0)
theorem y_ridL (hM : Mn ν hc tc kc lm) {all : Nat} (ha : all < 4096) (v : Int64) (hv : v = (nI (bst (fun s b => okR (ν.1 128) (ν.1 129) (ν.1 130) tc kc lm all s && decide (cn s < cn b)) all all)).toInt64) (hb : ∀ s, s ≤ all → bst (fun s b => okR (ν.1 128) (ν.1 129) (ν.1 130) tc kc lm all s && decide (cn s < cn b)) all s < 4096) : b_X12_rid_30 127 (nI all) bigN (nI all) 0 (hp κ ν) = some (nI (cn (bst (fun s b => okR (ν.1 128) (ν.1 129) (ν.1 130) tc kc lm all s && decide (cn s < cn b)) all all)), hp κ (MB (M0 ν) 0 v)) := by
  have b3 := hM.2.2.2.2.2.2.1
  refine lpk (fun n s => b_X12_rid_30 127 (nI all) n (nI (bst (fun s b => okR (ν.1 128) (ν.1 129) (ν.1 130) tc kc lm all s && decide (cn s < cn b)) all s)) (nI s) (hp κ ν)) all _ ?_ ?_ bigN 0 (Nat.zero_le _) (by unfold bigN; omega)
  · intro n s hs
    (try dsimp only)
    have hR := hb s (by omega)
    rw [bst_s]
    generalize bst (fun s b => okR (ν.1 128) (ν.1 129) (ν.1 130) tc kc lm all s && decide (cn s < cn b)) all s = R at hR
    have hsd : sd s all < 2 ^ 12 := sd_lt (n := 12) (show s < 2 ^ 12 by omega)
    have hcs := cn_le s
    have hcR := cn_le R
    rw [b_X12_rid_30, if_neg (nI_ge hs (by omega)), i_sd]
    unfold okR
    by_cases c1 : sd s all = 0
    · rw [if_pos (show nI (sd s all) = 0 by rw [c1]; rfl), bc (by omega), obs]
      (try dsimp only)
      rw [bc hR, obs, decide_eq_true c1, Bool.true_and]
      (try dsimp only)
      by_cases c2 : cn s < cn R
      · have hbl := bb_lt (A := ν.1 128) (mu := ν.1 129) (mn := ν.1 130) (tc := tc) (lm := lm) (s := sd all s) b3
        rw [if_neg (nI_ge c2 (by omega)), g127_0, obs, i_sd, y_brokenBy hM rfl (small (sd_lt (n := 12) ha)), obs, decide_eq_true c2, Bool.and_true]
        (try dsimp only)
        by_cases c3 : bb (ν.1 128) (ν.1 129) (ν.1 130) tc kc lm (sd all s) = 0
        · rw [if_pos (show nI (bb (ν.1 128) (ν.1 129) (ν.1 130) tc kc lm (sd all s)) = 0 by rw [c3]; rfl), decide_eq_true c3, if_pos rfl, b_X12_rid_77, nI_1]
        · rw [if_neg (fun z => c3 ((i_eq0 (by omega)).mp z)), decide_eq_false c3, if_neg (by decide), b_X12_rid_77, nI_1]
      · rw [if_pos (nI_le (by omega) (by omega)), decide_eq_false c2, Bool.and_false, if_neg (by decide), b_X12_rid_77, nI_1]
    · rw [if_neg (fun z => c1 ((i_eq0 (by omega)).mp z)), decide_eq_false c1, Bool.false_and, Bool.false_and, if_neg (by decide), b_X12_rid_77, nI_1]
  · intro n
    (try dsimp only)
    rw [b_X12_rid_30, if_pos (nI_le (Nat.le_refl _) (by omega)), p10, obs, ← hv, y_tell0, obs, bc (hb all (Nat.le_refl _)), obs]
/-- .. and of one that comes besides -/
def okM (A mu mn : Nat → Int32) (tc kc lm kept free s : Nat) : Bool := decide (sd s free = 0) && akf (fun k => decide (mo A mu mn tc (kept ||| s) k ≤ (if lm < mo A mu mn tc kept k then mo A mu mn tc kept k else lm))) kc 0
theorem y_mayKeep (hM : Mn ν hc tc kc lm) {j s : Nat} (hs : s < 4096) : F_X12_mayKeep 127 (nI j) (nI s) (hp κ ν) = some (bI (akf (fun k => decide (mo (ν.1 128) (ν.1 129) (ν.1 130) tc (kp (fun t => ν.1 128 (24 + t)) tc (nI j) ||| s) k ≤ (if lm < mo (ν.1 128) (ν.1 129) (ν.1 130) tc (kp (fun t => ν.1 128 (24 + t)) tc (nI j)) k then mo (ν.1 128) (ν.1 129) (ν.1 130) tc (kp (fun t => ν.1 128 (24 + t)) tc (nI j)) k else lm))) kc 0), hp κ ν) := by
  have b2 := hM.2.2.2.2.2.1
  have b3 := hM.2.2.2.2.2.2.1
  have b4 := hM.2.2.2.2.2.2.2
  have t3 : ν.1 127 3 = nI kc := hM.2.2.1
  have t6 : ν.1 127 6 = nI lm := hM.2.2.2.1
  have hk : kp (fun t => ν.1 128 (24 + t)) tc (nI j) < 4096 := kp_lt b2
  have hr : hp_T[128]? = some (0, 42, []) := rfl
  unfold F_X12_mayKeep
  rw [if_pos q127, g127_0, obs, y_kept hM hr, obs]
  (try dsimp only)
  generalize kp (fun t => ν.1 128 (24 + t)) tc (nI j) = kept at hk
  have hor : kept ||| s < 2 ^ 12 := Nat.or_lt_two_pow hk hs
  have step : ∀ n k F, k + n = kc → b_X12_mayKeep_13 127 (nI s) (nI kept) (F + n + 1) (nI k) (hp κ ν) = some (bI (akf (fun k => decide (mo (ν.1 128) (ν.1 129) (ν.1 130) tc (kept ||| s) k ≤ (if lm < mo (ν.1 128) (ν.1 129) (ν.1 130) tc kept k then mo (ν.1 128) (ν.1 129) (ν.1 130) tc kept k else lm))) n k), hp κ ν) := by
    intro n
    induction n with
    | zero =>
      intro k F hkc
      rw [b_X12_mayKeep_13, g127_3, obs, t3, if_pos (nI_le (by omega) (by omega))]
      rfl
    | succ n ih =>
      intro k F hkc
      have m1 := mo_le (ν.1 128) (ν.1 129) (ν.1 130) tc (kept ||| s) k
      have m2 := mo_le (ν.1 128) (ν.1 129) (ν.1 130) tc kept k
      have emx : (if nI lm < nI (mo (ν.1 128) (ν.1 129) (ν.1 130) tc kept k) then nI (mo (ν.1 128) (ν.1 129) (ν.1 130) tc kept k) else nI lm) = nI (if lm < mo (ν.1 128) (ν.1 129) (ν.1 130) tc kept k then mo (ν.1 128) (ν.1 129) (ν.1 130) tc kept k else lm) := by
        by_cases c : lm < mo (ν.1 128) (ν.1 129) (ν.1 130) tc kept k
        · rw [if_pos c, if_pos (nI_lt c (by omega))]
        · rw [if_neg c, if_neg (nI_nlt (by omega) (by omega))]
      have hmx : (if lm < mo (ν.1 128) (ν.1 129) (ν.1 130) tc kept k then mo (ν.1 128) (ν.1 129) (ν.1 130) tc kept k else lm) ≤ 12 := by split <;> omega
      show b_X12_mayKeep_13 127 (nI s) (nI kept) (F + n + 1 + 1) (nI k) (hp κ ν) = _
      rw [b_X12_mayKeep_13, g127_3, obs, t3, if_neg (nI_ge (by omega) (by omega)), g127_0, obs, i_or, y_manyOf hM hr (by omega) (by omega), obs]
      (try dsimp only)
      rw [g127_6, obs, t6, g127_0, obs, y_manyOf hM hr (small hk) (by omega), obs]
      (try dsimp only)
      rw [emx, akf]
      generalize (if lm < mo (ν.1 128) (ν.1 129) (ν.1 130) tc kept k then mo (ν.1 128) (ν.1 129) (ν.1 130) tc kept k else lm) = mx at hmx
      by_cases c : mo (ν.1 128) (ν.1 129) (ν.1 130) tc (kept ||| s) k ≤ mx
      · rw [if_pos (nI_le c (by omega)), nI_1, ih (k + 1) F (by omega), decide_eq_true c, Bool.true_and]
      · rw [if_neg (nI_ge (by omega) (by omega)), decide_eq_false c, Bool.false_and]
        rfl
  have h1 := step kc 0 (4999 - kc) (by omega)
  rw [show 4999 - kc + kc + 1 = 5000 by omega] at h1
  exact h1
theorem y_mostS (hM : Mn ν hc tc kc lm) {j free : Nat} (hf : free < 4096) (hb : ∀ s, bst (fun s b => okM (ν.1 128) (ν.1 129) (ν.1 130) tc kc lm (kp (fun t => ν.1 128 (24 + t)) tc (nI j)) free s && decide (cn b < cn s)) 0 s < 4096) : b_X12_most_30 127 (nI j) (nI free) bigN 0 1 (hp κ ν) = b_X12_most_82 127 (nI j) (nI (bst (fun s b => okM (ν.1 128) (ν.1 129) (ν.1 130) tc kc lm (kp (fun t => ν.1 128 (24 + t)) tc (nI j)) free s && decide (cn b < cn s)) 0 (free + 1))) bigN 0 0 (hp κ ν) := by
  have e1 : bst (fun s b => okM (ν.1 128) (ν.1 129) (ν.1 130) tc kc lm (kp (fun t => ν.1 128 (24 + t)) tc (nI j)) free s && decide (cn b < cn s)) 0 1 = 0 := by
    rw [bst_s]
    split
    · rfl
    · rfl
  have h1 := lpk (fun n s => b_X12_most_30 127 (nI j) (nI free) n (nI (bst (fun s b => okM (ν.1 128) (ν.1 129) (ν.1 130) tc kc lm (kp (fun t => ν.1 128 (24 + t)) tc (nI j)) free s && decide (cn b < cn s)) 0 s)) (nI s) (hp κ ν)) (free + 1) (b_X12_most_82 127 (nI j) (nI (bst (fun s b => okM (ν.1 128) (ν.1 129) (ν.1 130) tc kc lm (kp (fun t => ν.1 128 (24 + t)) tc (nI j)) free s && decide (cn b < cn s)) 0 (free + 1))) bigN 0 0 (hp κ ν)) ?_ ?_ bigN 1 (by omega) (by unfold bigN; omega)
  · (try dsimp only at h1)
    rw [e1] at h1
    exact h1
  · intro n s hs
    (try dsimp only)
    have hR := hb s
    rw [bst_s]
    generalize bst (fun s b => okM (ν.1 128) (ν.1 129) (ν.1 130) tc kc lm (kp (fun t => ν.1 128 (24 + t)) tc (nI j)) free s && decide (cn b < cn s)) 0 s = R at hR
    have hsd : sd s free < 2 ^ 12 := sd_lt (n := 12) (show s < 2 ^ 12 by omega)
    have hcs := cn_le s
    have hcR := cn_le R
    have hmk := y_mayKeep (κ := κ) hM (j := j) (s := s) (by omega)
    rw [b_X12_most_30, if_neg (nI_nlt (by omega) (by omega)), i_sd]
    unfold okM
    by_cases c1 : sd s free = 0
    · rw [if_pos (show nI (sd s free) = 0 by rw [c1]; rfl), bc (by omega), obs]
      (try dsimp only)
      rw [bc hR, obs, decide_eq_true c1, Bool.true_and]
      (try dsimp only)
      by_cases c2 : cn R < cn s
      · rw [if_neg (nI_ge c2 (by omega)), hmk, obs, decide_eq_true c2, Bool.and_true]
        (try dsimp only)
        generalize akf (fun k => decide (mo (ν.1 128) (ν.1 129) (ν.1 130) tc (kp (fun t => ν.1 128 (24 + t)) tc (nI j) ||| s) k ≤ (if lm < mo (ν.1 128) (ν.1 129) (ν.1 130) tc (kp (fun t => ν.1 128 (24 + t)) tc (nI j)) k then mo (ν.1 128) (ν.1 129) (ν.1 130) tc (kp (fun t => ν.1 128 (24 + t)) tc (nI j)) k else lm))) kc 0 = w
        cases w with
        | true => rw [if_neg (show ¬ bI true = 0 by decide), if_pos rfl, b_X12_most_70, nI_1]
        | false => rw [if_pos (show bI false = 0 from rfl), if_neg (by decide), b_X12_most_70, nI_1]
      · rw [if_pos (nI_le (by omega) (by omega)), decide_eq_false c2, Bool.and_false, if_neg (by decide), b_X12_most_70, nI_1]
    · rw [if_neg (fun z => c1 ((i_eq0 (by omega)).mp z)), decide_eq_false c1, Bool.false_and, Bool.false_and, if_neg (by decide), b_X12_most_70, nI_1]
  · intro n
    (try dsimp only)
    rw [b_X12_most_30, if_pos (nI_lt (by omega) (by omega))]
theorem y_mostW (hM : Mn ν hc tc kc lm) (hy : RY ν.1 rn tx) (hw : Rw rn tx cd) {S : Nat} (hS : S < 4096) (y : Int32) (v u : Int64) (hv : v = (nI S).toInt64) (hu : u = (wsF (fun t => vwr (ν.1 128) (ν.1 129) (ν.1 130) tc kc rn tx t y) S tc).toInt64) : ∃ ξ, b_X12_most_82 127 y (nI S) bigN 0 0 (hp κ ν) = some (nI (cn S), hp κ (MM ξ v u)) ∧ Fw ν ξ := by
  have b2 : tc ≤ 12 := hM.2.2.2.2.2.1
  have t2 : ν.1 127 2 = nI tc := hM.2.1
  have hs : ∀ k ζ, k < tc → (fun _ ζ => Fw ν ζ) k ζ → ∃ ξ, (∀ n, (fun n k ζ => b_X12_most_82 127 y (nI S) n (wsF (fun t => vwr (ν.1 128) (ν.1 129) (ν.1 130) tc kc rn tx t y) S k) (nI k) (hp κ ζ)) (n + 1) k ζ = (fun n k ζ => b_X12_most_82 127 y (nI S) n (wsF (fun t => vwr (ν.1 128) (ν.1 129) (ν.1 130) tc kc rn tx t y) S k) (nI k) (hp κ ζ)) n (k + 1) ξ) ∧ (fun _ ζ => Fw ν ζ) (k + 1) ξ := by
    intro k ζ hk hν
    have f2 : ζ.1 127 2 = nI tc := (hν.2.1 2 (by omega) (by omega)).trans t2
    have e128 : ζ.1 128 = ν.1 128 := hν.1 128 (by decide) (by decide)
    have e129 : ζ.1 129 = ν.1 129 := hν.1 129 (by decide) (by decide)
    have e130 : ζ.1 130 = ν.1 130 := hν.1 130 (by decide) (by decide)
    by_cases c : S.testBit k = true
    · obtain ⟨θ, k1, k2⟩ := y_worthOf (κ := κ) (hν.yd.mn hM) (hν.yd.ry hy) hw hk y
      rw [e128, e129, e130] at k1
      refine ⟨θ, fun n => ?_, hν.tr k2⟩
      (try dsimp only)
      rw [b_X12_most_82, g127_2, obs, f2, if_neg (nI_ge hk (by omega)), y_has (by omega) (by omega), obs, if_pos c]
      (try dsimp only)
      rw [if_neg (by decide), k1, obs, b_X12_most_113, nI_1, show wsF (fun t => vwr (ν.1 128) (ν.1 129) (ν.1 130) tc kc rn tx t y) S (k + 1) = wsF (fun t => vwr (ν.1 128) (ν.1 129) (ν.1 130) tc kc rn tx t y) S k + vwr (ν.1 128) (ν.1 129) (ν.1 130) tc kc rn tx k y from if_pos c]
    · refine ⟨ζ, fun n => ?_, hν⟩
      (try dsimp only)
      rw [b_X12_most_82, g127_2, obs, f2, if_neg (nI_ge hk (by omega)), y_has (by omega) (by omega), obs, if_neg c]
      (try dsimp only)
      rw [if_pos rfl, b_X12_most_113, nI_1, Int32.add_zero, show wsF (fun t => vwr (ν.1 128) (ν.1 129) (ν.1 130) tc kc rn tx t y) S (k + 1) = wsF (fun t => vwr (ν.1 128) (ν.1 129) (ν.1 130) tc kc rn tx t y) S k from if_neg c]
  obtain ⟨ξ, hξ, h2⟩ := lpf (fun n k ζ => b_X12_most_82 127 y (nI S) n (wsF (fun t => vwr (ν.1 128) (ν.1 129) (ν.1 130) tc kc rn tx t y) S k) (nI k) (hp κ ζ)) (fun _ ζ => Fw ν ζ) tc hs ν ⟨fun _ _ _ => rfl, fun _ _ _ => rfl, rfl⟩ tc (Nat.le_refl _)
  refine ⟨ξ, ?_, hξ⟩
  have h3 := h2 (4999 - tc + 1)
  (try dsimp only at h3)
  rw [show 4999 - tc + 1 + tc = 5000 by omega] at h3
  refine Eq.trans h3 ?_
  rw [b_X12_most_82, g127_2, obs, hξ.2.1 2 (by omega) (by omega), t2, if_pos (nI_le (Nat.le_refl _) (by omega)), p10, obs, ← hv, ← hu, (y_tell2 (v := v) (u := u)).1, obs, (y_tell2 (v := v) (u := u)).2, obs, bc hS, obs]
end MRY
