/-! PURE: a day's acts, done: class and reference. -/
def hrP (A mu mn : Nat → Int32) (hc tc kc lm : Nat) (x : Int32) : Ac := if cx x ≤ 60 then (nI (hrI A mu mn hc tc kc lm (cx x)).1, (hrI A mu mn hc tc kc lm (cx x)).2) else (-1, A)
def actP (mu mn : Nat → Int32) (hc tc kc lm rn : Nat) (tx : Nat → Nat) (A : Nat → Int32) (x : Int32 × Int32 × Int32) : Ac :=
  if x.1 = 98 then buyP A mu mn hc tc kc lm rn tx x.2.1 x.2.2 else if x.1 = 103 then givP A hc tc x.2.1 x.2.2 else if x.1 = 108 then lenP A hc tc x.2.1 x.2.2 else if x.1 = 99 then claP A mu mn hc tc kc lm x.2.1 x.2.2 else if x.1 = 112 then paiP A tc x.2.1 x.2.2 else hrP A mu mn hc tc kc lm x.2.1
def doA (ac : (Nat → Int32) → Int32 × Int32 × Int32 → Ac) : List (Int32 × Int32 × Int32) → (Nat → Int32) → Nat × (Nat → Int32)
  | [], A => (0, A)
  | x :: l, A => if (ac A x).1 < 0 then (0, A) else ((doA ac l (ac A x).2).1 + 1, (doA ac l (ac A x).2).2)
theorem doA_c {ac : (Nat → Int32) → Int32 × Int32 × Int32 → Ac} {x : Int32 × Int32 × Int32} {l : List (Int32 × Int32 × Int32)} {A : Nat → Int32} : doA ac (x :: l) A = if (ac A x).1 < 0 then (0, A) else ((doA ac l (ac A x).2).1 + 1, (doA ac l (ac A x).2).2) := rfl
theorem It3.tl {g f e : Nat → Int32} {i : Nat} {x : Int32 × Int32 × Int32} {l : List (Int32 × Int32 × Int32)} (h : It3 g f e i (x :: l)) : (g i = x.1 ∧ f i = x.2.1 ∧ e i = x.2.2) ∧ It3 g f e (i + 1) l := by
  refine ⟨h 0 (by rw [List.length_cons]; omega), fun k hk => ?_⟩
  have := h (k + 1) (by rw [List.length_cons]; omega)
  rw [show i + (k + 1) = i + 1 + k by omega] at this
  exact this
theorem Iy3.tl {g : Nat → Int32} {i : Nat} {x : Int32 × Int32 × Int32} {l : List (Int32 × Int32 × Int32)} (h : Iy3 g i (x :: l)) : (g (3 * i) = x.1 ∧ g (3 * i + 1) = x.2.1 ∧ (x.1 = 104 ∨ g (3 * i + 2) = x.2.2)) ∧ Iy3 g (i + 1) l := by
  refine ⟨h 0 (by rw [List.length_cons]; omega), fun k hk => ?_⟩
  have := h (k + 1) (by rw [List.length_cons]; omega)
  rw [show i + (k + 1) = i + 1 + k by omega] at this
  exact this
section ACD
variable {A mu mn : Nat → Int32} {hc tc kc lm B rn : Nat} {tx : Nat → Nat}
theorem hrP_o (h : WS A hc tc B) (b1 : hc ≤ 5) (b2 : tc ≤ 12) (hB : B ≤ 1400000) (x : Int32) : AcO A hc tc (B + 60) (hrP A mu mn hc tc kc lm x) := by
  unfold hrP
  by_cases c : cx x ≤ 60
  · have h1 := hrI_lt (A := A) (mu := mu) (mn := mn) (hc := hc) (kc := kc) (lm := lm) b2 (cx x)
    rw [if_pos c]
    exact Or.inr ⟨nI_le (a := 0) (by omega) (by omega), nI_pos (by omega), (hrI_ws h b1 b2 (by omega) (cx x) (by omega)).up (by omega)⟩
  · rw [if_neg c]
    exact Or.inl ⟨ng_1, rfl⟩
theorem actP_o (h : WS A hc tc B) (b1 : hc ≤ 5) (b2 : tc ≤ 12) (hB : B ≤ 1400000) (x : Int32 × Int32 × Int32) : AcO A hc tc (B + 60) (actP mu mn hc tc kc lm rn tx A x) := by
  unfold actP
  split
  · exact (buyP_o h b1 b2 _ _).up (by omega)
  · split
    · exact (givP_o h b1 b2 _ _).up (by omega)
    · split
      · exact (lenP_o h b1 b2 _ _).up (by omega)
      · split
        · exact (claP_o h b1 b2 _ _).up (by omega)
        · split
          · exact (paiP_o h b1 b2 _ _).up (by omega)
          · exact hrP_o h b1 b2 hB _
theorem doA_o (b1 : hc ≤ 5) (b2 : tc ≤ 12) : ∀ (l : List (Int32 × Int32 × Int32)) (A : Nat → Int32) (B : Nat), WS A hc tc B → B + 60 * l.length ≤ 1400000 → WS (doA (actP mu mn hc tc kc lm rn tx) l A).2 hc tc (B + 60 * l.length) ∧ (doA (actP mu mn hc tc kc lm rn tx) l A).1 ≤ l.length ∧ ((doA (actP mu mn hc tc kc lm rn tx) l A).1 = 0 → (doA (actP mu mn hc tc kc lm rn tx) l A).2 = A)
  | [], A, B, h, _ => ⟨h, Nat.le_refl _, fun _ => rfl⟩
  | x :: l, A, B, h, hB => by
    rw [List.length_cons] at hB ⊢
    rw [doA_c]
    rcases actP_o (mu := mu) (mn := mn) (kc := kc) (lm := lm) (rn := rn) (tx := tx) h b1 b2 (by omega) x with ⟨o1, o2⟩ | ⟨o1, o2, o3⟩
    · rw [if_pos o1]
      exact ⟨h.up (by omega), Nat.zero_le _, fun _ => rfl⟩
    · obtain ⟨k1, k2, k3⟩ := doA_o b1 b2 l _ _ o3 (by omega)
      rw [if_neg o2]
      exact ⟨k1.up (by omega), Nat.succ_le_succ k2, fun z => absurd z (Nat.succ_ne_zero _)⟩
end ACD
section APL
variable {A mu mn : Nat → Int32} {hc tc kc lm rn : Nat} {tx : Nat → Nat} {u v : Int32}
theorem actP_98 : actP mu mn hc tc kc lm rn tx A (98, u, v) = buyP A mu mn hc tc kc lm rn tx u v := by
  unfold actP
  dsimp only
  rw [if_pos (show (98 : Int32) = 98 from rfl)]
theorem actP_103 : actP mu mn hc tc kc lm rn tx A (103, u, v) = givP A hc tc u v := by
  unfold actP
  dsimp only
  rw [if_neg (show ¬ (103 : Int32) = 98 by decide), if_pos (show (103 : Int32) = 103 from rfl)]
theorem actP_108 : actP mu mn hc tc kc lm rn tx A (108, u, v) = lenP A hc tc u v := by
  unfold actP
  dsimp only
  rw [if_neg (show ¬ (108 : Int32) = 98 by decide), if_neg (show ¬ (108 : Int32) = 103 by decide), if_pos (show (108 : Int32) = 108 from rfl)]
theorem actP_99 : actP mu mn hc tc kc lm rn tx A (99, u, v) = claP A mu mn hc tc kc lm u v := by
  unfold actP
  dsimp only
  rw [if_neg (show ¬ (99 : Int32) = 98 by decide), if_neg (show ¬ (99 : Int32) = 103 by decide), if_neg (show ¬ (99 : Int32) = 108 by decide), if_pos (show (99 : Int32) = 99 from rfl)]
theorem actP_112 : actP mu mn hc tc kc lm rn tx A (112, u, v) = paiP A tc u v := by
  unfold actP
  dsimp only
  rw [if_neg (show ¬ (112 : Int32) = 98 by decide), if_neg (show ¬ (112 : Int32) = 103 by decide), if_neg (show ¬ (112 : Int32) = 108 by decide), if_neg (show ¬ (112 : Int32) = 99 by decide), if_pos (show (112 : Int32) = 112 from rfl)]
theorem actP_104 : actP mu mn hc tc kc lm rn tx A (104, u, v) = hrP A mu mn hc tc kc lm u := by
  unfold actP
  dsimp only
  rw [if_neg (show ¬ (104 : Int32) = 98 by decide), if_neg (show ¬ (104 : Int32) = 103 by decide), if_neg (show ¬ (104 : Int32) = 108 by decide), if_neg (show ¬ (104 : Int32) = 99 by decide), if_neg (show ¬ (104 : Int32) = 112 by decide)]
end APL
section ACX
variable {κ : Kp} {μ : Mem} {A mu mn : Nat → Int32} {hc tc kc lm B rn : Nat} {tx : Nat → Nat} {cd : List Int32}
theorem C_hoursP (h : Xc μ A mu mn hc tc kc lm) (hW : WS A hc tc B) (hB : B ≤ 1400000) {n : Nat} (hn : n < 100) : ∃ ν, F_X10_passHours 1 (nI n) (hp κ μ) = some ((hrP A mu mn hc tc kc lm (nI n)).1, hp κ ν) ∧ XA μ ν (hrP A mu mn hc tc kc lm (nI n)).2 mu mn hc tc kc lm := by
  unfold hrP
  rw [cx_n (by omega)]
  by_cases c : n ≤ 60
  · obtain ⟨r, r1, r2⟩ := hW.2.2
    rw [if_pos c]
    exact C_passHours h r2 (by omega) c
  · rw [if_neg c]
    exact ⟨μ, C_passHours0 (Or.inr (nI_lt (a := 60) (by omega) (by omega))), XA.rf h⟩
theorem C_acted (h : Xc μ A mu mn hc tc kc lm) (hW : WS A hc tc B) (hB : B ≤ 1400000) (hw : Rw rn tx cd) (hx : RX μ.1 cd) (x : Int32 × Int32 × Int32) (hi : AcI x) : ∃ ν, F_X11_acted 0 x.1 x.2.1 x.2.2 (hp κ μ) = some ((actP mu mn hc tc kc lm rn tx A x).1, hp κ ν) ∧ XA μ ν (actP mu mn hc tc kc lm rn tx A x).2 mu mn hc tc kc lm := by
  obtain ⟨c, u, v⟩ := x
  unfold AcI at hi
  unfold F_X11_acted
  (try dsimp only at hi ⊢)
  rcases hi with ⟨rfl, n, hn, rfl⟩ | ⟨rfl, -⟩ | rfl | rfl | rfl | rfl
  · obtain ⟨ν, h1, h2⟩ := C_hoursP (κ := κ) h hW hB hn
    rw [actP_104]
    refine ⟨ν, ?_, h2⟩
    rw [if_pos q0, if_neg (by decide), if_neg (by decide), if_neg (by decide), if_neg (by decide), if_neg (by decide), if_neg (by decide), if_pos rfl, g0_0, obs, h1, obs]
  · obtain ⟨ν, h1, h2⟩ := C_painted (κ := κ) h u v
    rw [actP_112]
    refine ⟨ν, ?_, h2⟩
    rw [if_pos q0, if_neg (by decide), if_neg (by decide), if_neg (by decide), if_neg (by decide), if_neg (by decide), if_neg (by decide), if_neg (by decide), if_neg (by decide), if_neg (by decide), if_neg (by decide), if_neg (by decide), if_neg (by decide), if_neg (by decide), if_neg (by decide), if_pos rfl, g0_0, obs, h1, obs]
  · obtain ⟨ν, h1, h2⟩ := C_bought (κ := κ) h hW hw hx u v
    rw [actP_98]
    refine ⟨ν, ?_, h2⟩
    rw [if_pos q0, if_pos rfl, h1, obs]
  · obtain ⟨ν, h1, h2⟩ := C_given (κ := κ) h u v
    rw [actP_103]
    refine ⟨ν, ?_, h2⟩
    rw [if_pos q0, if_neg (by decide), if_neg (by decide), if_neg (by decide), if_neg (by decide), if_neg (by decide), if_pos rfl, g0_0, obs, h1, obs]
  · obtain ⟨ν, h1, h2⟩ := C_lent (κ := κ) h u v
    rw [actP_108]
    refine ⟨ν, ?_, h2⟩
    rw [if_pos q0, if_neg (by decide), if_neg (by decide), if_neg (by decide), if_neg (by decide), if_neg (by decide), if_neg (by decide), if_neg (by decide), if_neg (by decide), if_neg (by decide), if_neg (by decide), if_pos rfl, g0_0, obs, h1, obs]
  · obtain ⟨ν, h1, h2⟩ := C_claimed (κ := κ) h u v
    rw [actP_99]
    refine ⟨ν, ?_, h2⟩
    rw [if_pos q0, if_neg (by decide), if_pos rfl, g0_0, obs, h1, obs]
theorem x_doL (hB : B ≤ 1000000) (hw : Rw rn tx cd) : ∀ (l : List (Int32 × Int32 × Int32)) (i F : Nat) (A : Nat → Int32) (ν : Mem), (∀ x, x ∈ l → AcI x) → i + l.length ≤ 20 → Xc ν A mu mn hc tc kc lm → WS A hc tc (B + 60 * i) → RX ν.1 cd → It3 (ν.1 14) (ν.1 15) (ν.1 16) i l → ∃ ν', b_X11_day_52 0 (nI (i + l.length)) (F + l.length + 1) (nI i) (hp κ ν) = b_X11_day_103 0 (nI (i + l.length)) (nI (i + (doA (actP mu mn hc tc kc lm rn tx) l A).1)) (hp κ ν') ∧ XA ν ν' (doA (actP mu mn hc tc kc lm rn tx) l A).2 mu mn hc tc kc lm
  | [], i, F, A, ν, _, hi, hX, _, _, _ => by
    refine ⟨ν, ?_, XA.rf hX⟩
    rw [b_X11_day_52, if_pos (nI_le (show i + ([] : List (Int32 × Int32 × Int32)).length ≤ i from Nat.le_refl _) (by omega))]
    rfl
  | x :: l, i, F, A, ν, hA, hi, hX, hW, hx, hI => by
    rw [List.length_cons] at hi ⊢
    obtain ⟨⟨i1, i2, i3⟩, hI2⟩ := hI.tl
    obtain ⟨ν1, h1, h2⟩ := C_acted (κ := κ) hX hW (by omega) hw hx x (hA x (List.mem_cons_self ..))
    show ∃ ν', b_X11_day_52 0 (nI (i + (l.length + 1))) (F + l.length + 1 + 1) (nI i) (hp κ ν) = _ ∧ _
    rw [b_X11_day_52, if_neg (nI_ge (show i < i + (l.length + 1) by omega) (by omega)), if_neg (show ¬ (20 : Int32) ≤ nI i from nI_ge (show i < 20 by omega) (by decide)), g0_2, obs, g13_1, obs, r14 (by omega), obs, i1, obs, g13_2, obs, r15 (by omega), obs, i2, obs, g13_3, obs, r16 (by omega), obs, i3, h1, obs, doA_c]
    (try dsimp only)
    rcases actP_o (mu := mu) (mn := mn) (kc := kc) (lm := lm) (rn := rn) (tx := tx) hW hX.b1.2 hX.b2 (by omega) x with ⟨o1, o2⟩ | ⟨o1, o2, o3⟩
    · rw [if_pos o1, if_pos o1]
      rw [o2] at h2
      exact ⟨ν1, rfl, h2⟩
    · rw [if_neg o2, if_neg o2]
      have r14 : ν1.1 14 = ν.1 14 := h2.2.1 14 rfl
      have r15 : ν1.1 15 = ν.1 15 := h2.2.1 15 rfl
      have r16 : ν1.1 16 = ν.1 16 := h2.2.1 16 rfl
      have r17 : ν1.1 17 = ν.1 17 := h2.2.1 17 rfl
      have r18 : ν1.1 18 = ν.1 18 := h2.2.1 18 rfl
      obtain ⟨ν2, k1, k2⟩ := x_doL hB hw l (i + 1) F _ ν1 (fun y hy => hA y (List.mem_cons_of_mem _ hy)) (by omega) h2.1 (by rw [show B + 60 * (i + 1) = B + 60 * i + 60 by omega]; exact o3) (by unfold RX; rw [r17, r18]; exact hx) (by rw [r14, r15, r16]; exact hI2)
      refine ⟨ν2, ?_, h2.tr k2⟩
      rw [show i + 1 + l.length = i + (l.length + 1) by omega] at k1
      rw [nI_1, k1, show i + 1 + (doA (actP mu mn hc tc kc lm rn tx) l (actP mu mn hc tc kc lm rn tx A x).2).1 = i + ((doA (actP mu mn hc tc kc lm rn tx) l (actP mu mn hc tc kc lm rn tx A x).2).1 + 1) by omega]
end ACX
/-- what the reference's acts of a day change besides row 128 -/
def YD (ν ξ : Mem) : Prop := (∀ z, z ≠ 127 → z ≠ 128 → z ≠ 135 → ξ.1 z = ν.1 z) ∧ (∀ j, j < 12 ∨ 17 ≤ j → j ≠ 20 → ξ.1 127 j = ν.1 127 j) ∧ ξ.2 = ν.2
theorem YD.rf {ν : Mem} : YD ν ν := ⟨fun _ _ _ _ => rfl, fun _ _ _ => rfl, rfl⟩
theorem YD.tr {ν ξ ζ : Mem} (h : YD ν ξ) (k : YD ξ ζ) : YD ν ζ := ⟨fun z z1 z2 z3 => (k.1 z z1 z2 z3).trans (h.1 z z1 z2 z3), fun j h1 h2 => (k.2.1 j h1 h2).trans (h.2.1 j h1 h2), k.2.2.trans h.2.2⟩
theorem Fw.yd {ν ξ : Mem} (h : Fw ν ξ) : YD ν ξ := ⟨fun z z1 _ z3 => h.1 z z1 z3, h.2.1, h.2.2⟩
theorem YD.row {ν ξ : Mem} {f : Nat → Int32} (h : YD ν ξ) : YD ν (rowI ξ 128 f) := ⟨fun z z1 z2 z3 => by rw [rowI_n z2]; exact h.1 z z1 z2 z3, fun j h1 h2 => by rw [rowI_n (by decide)]; exact h.2.1 j h1 h2, h.2.2⟩
section ACY
variable {κ : Kp} {ν : Mem} {hc tc kc lm B rn : Nat} {tx : Nat → Nat} {cd : List Int32}
theorem YD.mn {ξ : Mem} (h : YD ν ξ) (hM : Mn ν hc tc kc lm) : Mn ξ hc tc kc lm := by
  unfold Mn
  rw [h.2.1 1 (by omega) (by omega), h.2.1 2 (by omega) (by omega), h.2.1 3 (by omega) (by omega), h.2.1 6 (by omega) (by omega)]
  exact hM
theorem YD.ry {ξ : Mem} (h : YD ν ξ) (hy : RY ν.1 rn tx) : RY ξ.1 rn tx := by
  unfold RY
  rw [h.2.1 19 (by omega) (by omega), h.1 134 (by decide) (by decide) (by decide)]
  exact hy
theorem y_act (hM : Mn ν hc tc kc lm) (hW : WS (ν.1 128) hc tc B) (hB : B ≤ 1400000) (hw : Rw rn tx cd) (hy : RY ν.1 rn tx) (x : Int32 × Int32 × Int32) (hi : AcI x) (y3 : Int32) (h3 : x.1 = 104 ∨ y3 = x.2.2) : ∃ ξ, F_X12_act 127 x.1 x.2.1 y3 (hp κ ν) = some (if (actP (ν.1 129) (ν.1 130) hc tc kc lm rn tx (ν.1 128) x).1 < 0 then 0 else 1, hp κ ξ) ∧ ξ.1 128 = (actP (ν.1 129) (ν.1 130) hc tc kc lm rn tx (ν.1 128) x).2 ∧ YD ν ξ := by
  have b1 := hM.2.2.2.2.1
  have b2 := hM.2.2.2.2.2.1
  have hO := actP_o (mu := ν.1 129) (mn := ν.1 130) (kc := kc) (lm := lm) (rn := rn) (tx := tx) hW b1.2 b2 hB x
  have nle : ∀ v : Int32, v < 0 → ¬ 0 ≤ v := fun v h z => by rw [fa_le] at z; rw [fa_lt] at h; omega
  have nlt : ∀ v : Int32, 0 ≤ v → ¬ v < 0 := fun v h z => by rw [fa_le] at h; rw [fa_lt] at z; omega
  obtain ⟨c, u, v⟩ := x
  unfold AcI at hi
  unfold F_X12_act
  (try dsimp only at hi h3 ⊢)
  rw [if_pos q127]
  rcases hi with ⟨rfl, n, hn, rfl⟩ | ⟨rfl, j, hj, hj2⟩ | rfl | rfl | rfl | rfl
  · have e : actP (ν.1 129) (ν.1 130) hc tc kc lm rn tx (ν.1 128) (104, nI n, v) = hrP (ν.1 128) (ν.1 129) (ν.1 130) hc tc kc lm (nI n) := actP_104
    rw [if_neg (by decide), if_neg (by decide), if_neg (by decide), if_neg (by decide), if_neg (by decide), if_neg (by decide), if_pos rfl, e]
    unfold hrP
    rw [cx_n (by omega)]
    by_cases c : n ≤ 60
    · obtain ⟨r, r1, r2⟩ := hW.2.2
      have hg := y_goHours (κ := κ) hM (m := 128) rfl (by decide) (by decide) (by decide) (r := r) (n := n) r2 (by omega) c
      have h1 := hrI_lt (A := ν.1 128) (mu := ν.1 129) (mn := ν.1 130) (hc := hc) (kc := kc) (lm := lm) b2 n
      rw [if_pos (show nI n ≤ 60 from nI_le (b := 60) c (by decide)), g127_0, obs, hg, obs, if_pos c]
      (try dsimp only)
      rw [if_neg (nI_pos (by omega))]
      exact ⟨_, rfl, rfl, YD.rf.row⟩
    · rw [if_neg (show ¬ nI n ≤ 60 from nI_ge (a := 60) (by omega) (by omega)), if_neg c]
      (try dsimp only)
      rw [if_pos ng_1]
      exact ⟨_, rfl, rfl, YD.rf⟩
  · have e : actP (ν.1 129) (ν.1 130) hc tc kc lm rn tx (ν.1 128) (112, u, v) = paiP (ν.1 128) tc u v := actP_112
    have h3 : y3 = v := by
      rcases h3 with h3 | h3
      · exact absurd h3 (by decide)
      · exact h3
    subst h3
    subst hj2
    rw [e] at hO
    rw [if_neg (by decide), if_neg (by decide), if_neg (by decide), if_neg (by decide), if_neg (by decide), if_neg (by decide), if_neg (by decide), if_neg (by decide), if_neg (by decide), if_neg (by decide), if_neg (by decide), if_neg (by decide), if_neg (by decide), if_neg (by decide), if_pos rfl, e]
    rcases y_isThing (κ := κ) hM u with ⟨t, ht, rfl, h1⟩ | ⟨hx, h1⟩
    · have e2 : paiP (ν.1 128) tc (nI t) (nI j) = (ν.1 128 t ^^^ nI (2 ^ j), upd (ν.1 128) t (ν.1 128 t ^^^ nI (2 ^ j))) := by
        unfold paiP
        rw [isI_y ht (by omega), isI_y (show j < 6 by omega) (by omega), cx_n (by omega), cx_n (by omega)]
        rfl
      have hlt : ¬ (paiP (ν.1 128) tc (nI t) (nI j)).1 < 0 := by
        rcases hO with ⟨o1, o2⟩ | ⟨-, o2, -⟩
        · obtain ⟨⟨w, hw, ew⟩, -⟩ := hW.1 t ht
          rw [e2, ew, i_xor] at o1
          have hp : 2 ^ j < 2 ^ 6 := Nat.pow_lt_pow_right (by decide) (by omega)
          have hx : w ^^^ 2 ^ j < 2 ^ 6 := Nat.xor_lt_two_pow (n := 6) hw hp
          exact absurd o1 (nI_pos (by omega))
        · exact o2
      rw [h1, obs]
      (try dsimp only)
      rw [if_neg (by decide), g127_0, obs, r128 (by omega), obs, i_sh1 j (by omega), w128 (by omega), obs, if_neg hlt, e2]
      exact ⟨_, rfl, rfl, YD.rf.row⟩
    · have e2 : paiP (ν.1 128) tc u (nI j) = (-1, ν.1 128) := by
        unfold paiP
        rw [isI_n (by omega) hx, Bool.false_and]
        rfl
      rw [h1, obs, e2]
      (try dsimp only)
      rw [if_pos rfl, if_pos ng_1]
      exact ⟨_, rfl, rfl, YD.rf⟩
  · have e : actP (ν.1 129) (ν.1 130) hc tc kc lm rn tx (ν.1 128) (98, u, v) = buyP (ν.1 128) (ν.1 129) (ν.1 130) hc tc kc lm rn tx u v := actP_98
    have h3 : y3 = v := by
      rcases h3 with h3 | h3
      · exact absurd h3 (by decide)
      · exact h3
    subst h3
    rw [e] at hO
    obtain ⟨ξ, hr, k2⟩ := y_refBuy (κ := κ) hM (B := B) hW hw hy u y3
    rw [if_pos rfl, hr, obs, e]
    (try dsimp only)
    rcases hO with ⟨o1, o2⟩ | ⟨o1, o2, o3⟩
    · rw [if_neg (rfc_n o1).2, if_pos o1, o2]
      exact ⟨ξ, rfl, k2.1 128 (by decide) (by decide), k2.yd⟩
    · obtain ⟨t, j, ht, hj, rfl, rfl, e2⟩ := buyP_ok o1 b1.2 b2
      have x128 : ξ.1 128 = ν.1 128 := k2.1 128 (by decide) (by decide)
      have x129 : ξ.1 129 = ν.1 129 := k2.1 129 (by decide) (by decide)
      have x130 : ξ.1 130 = ν.1 130 := k2.1 130 (by decide) (by decide)
      obtain ⟨ζ, z1, z2⟩ := y_worthOf (κ := κ) (k2.yd.mn hM) (k2.yd.ry hy) hw ht (nI j)
      rw [x128, x129, x130] at z1
      have z128 : ζ.1 128 = ν.1 128 := (z2.1 128 (by decide) (by decide)).trans x128
      rw [rfc_0 o1, if_pos (by decide), if_neg o2, e2]
      unfold F_X12_goBuy
      rw [if_pos q127, g127_0, obs, i36, r128 (by omega), obs, x128, z1, obs]
      (try dsimp only)
      rw [w128 (by omega), obs, g127_0, obs, y_belong (by omega), obs, rowI_s, z128, g127_0, obs, r128 (by omega), obs, obs]
      exact ⟨_, rfl, rfl, (k2.yd.tr (z2.yd.row)).row⟩
  · have e : actP (ν.1 129) (ν.1 130) hc tc kc lm rn tx (ν.1 128) (103, u, v) = givP (ν.1 128) hc tc u v := actP_103
    have h3 : y3 = v := by
      rcases h3 with h3 | h3
      · exact absurd h3 (by decide)
      · exact h3
    subst h3
    rw [e] at hO
    have hr := y_refGive (κ := κ) hM (B := B) hW u y3
    rw [if_neg (by decide), if_neg (by decide), if_neg (by decide), if_neg (by decide), if_neg (by decide), if_pos rfl, hr, obs, e]
    (try dsimp only)
    rcases hO with ⟨o1, o2⟩ | ⟨o1, o2, o3⟩
    · rw [if_neg (rfc_n o1).2, if_pos o1, o2]
      exact ⟨ν, rfl, rfl, YD.rf⟩
    · obtain ⟨t, ht, rfl, e2⟩ := givP_ok o1 b1.2 b2
      rw [rfc_0 o1, if_pos (by decide), if_neg o2, e2, g127_0, obs, y_belong (by omega), obs]
      exact ⟨_, rfl, rfl, YD.rf.row⟩
  · have e : actP (ν.1 129) (ν.1 130) hc tc kc lm rn tx (ν.1 128) (108, u, v) = lenP (ν.1 128) hc tc u v := actP_108
    have h3 : y3 = v := by
      rcases h3 with h3 | h3
      · exact absurd h3 (by decide)
      · exact h3
    subst h3
    rw [e] at hO
    have hr := y_refLend (κ := κ) hM (B := B) hW u y3
    rw [if_neg (by decide), if_neg (by decide), if_neg (by decide), if_neg (by decide), if_neg (by decide), if_neg (by decide), if_neg (by decide), if_neg (by decide), if_neg (by decide), if_neg (by decide), if_pos rfl, hr, obs, e]
    (try dsimp only)
    rcases hO with ⟨o1, o2⟩ | ⟨o1, o2, o3⟩
    · rw [if_neg (rfc_n o1).2, if_pos o1, o2]
      exact ⟨ν, rfl, rfl, YD.rf⟩
    · obtain ⟨t, ht, rfl, e2⟩ := lenP_ok o1 b1.2 b2
      rw [rfc_0 o1, if_pos (by decide), if_neg o2, e2, g127_0, obs, i24, w128 (by omega), obs]
      exact ⟨_, rfl, rfl, YD.rf.row⟩
  · have e : actP (ν.1 129) (ν.1 130) hc tc kc lm rn tx (ν.1 128) (99, u, v) = claP (ν.1 128) (ν.1 129) (ν.1 130) hc tc kc lm u v := actP_99
    have h3 : y3 = v := by
      rcases h3 with h3 | h3
      · exact absurd h3 (by decide)
      · exact h3
    subst h3
    rw [e] at hO
    have hr := y_refClaim (κ := κ) hM (B := B) hW u y3
    rw [if_neg (by decide), if_pos rfl, hr, obs, e]
    (try dsimp only)
    rcases hO with ⟨o1, o2⟩ | ⟨o1, o2, o3⟩
    · rw [if_neg (rfc_n o1).2, if_pos o1, o2]
      exact ⟨ν, rfl, rfl, YD.rf⟩
    · obtain ⟨t, ht, rfl, e2⟩ := claP_ok o1 b1.2 b2
      rw [rfc_0 o1, if_pos (by decide), if_neg o2, e2, g127_0, obs, y_belong (by omega), obs]
      exact ⟨_, rfl, rfl, YD.rf.row⟩
theorem y_doL (hB : B ≤ 1000000) (hw : Rw rn tx cd) : ∀ (l : List (Int32 × Int32 × Int32)) (i F : Nat) (ν : Mem), (∀ x, x ∈ l → AcI x) → i + l.length ≤ 20 → Mn ν hc tc kc lm → WS (ν.1 128) hc tc (B + 60 * i) → RY ν.1 rn tx → Iy3 (ν.1 139) i l → ∃ ξ, b_X12_day_85 127 (nI (i + l.length)) (F + l.length + 1) (nI i) (hp κ ν) = b_X12_day_131 127 (nI (i + l.length)) (nI (i + (doA (actP (ν.1 129) (ν.1 130) hc tc kc lm rn tx) l (ν.1 128)).1)) (hp κ ξ) ∧ ξ.1 128 = (doA (actP (ν.1 129) (ν.1 130) hc tc kc lm rn tx) l (ν.1 128)).2 ∧ YD ν ξ
  | [], i, F, ν, _, hi, hM, _, _, _ => by
    refine ⟨ν, ?_, rfl, YD.rf⟩
    rw [b_X12_day_85, if_pos (nI_le (show i + ([] : List (Int32 × Int32 × Int32)).length ≤ i from Nat.le_refl _) (by omega))]
    rfl
  | x :: l, i, F, ν, hA, hi, hM, hW, hy, hI => by
    have b1 := hM.2.2.2.2.1
    have b2 := hM.2.2.2.2.2.1
    rw [List.length_cons] at hi ⊢
    obtain ⟨⟨i1, i2, i3⟩, hI2⟩ := hI.tl
    obtain ⟨ν1, h1, h2, h3⟩ := y_act (κ := κ) hM hW (by omega) hw hy x (hA x (List.mem_cons_self ..)) (ν.1 139 (3 * i + 2)) i3
    have e0 : (3 : Int32) * nI i = nI (3 * i) := pk_mul 3 i
    have e1 : nI (3 * i) + 1 = nI (3 * i + 1) := nI_1 _
    have e2 : nI (3 * i) + 2 = nI (3 * i + 2) := nI_add (a := 3 * i) (b := 2)
    show ∃ ξ, b_X12_day_85 127 (nI (i + (l.length + 1))) (F + l.length + 1 + 1) (nI i) (hp κ ν) = _ ∧ _
    rw [b_X12_day_85, if_neg (nI_ge (show i < i + (l.length + 1) by omega) (by omega)), g127_26, obs, e0, r139 (by omega), obs, obs, e1, r139 (by omega), obs, obs, e2, r139 (by omega), obs, i1, i2, h1, obs, doA_c]
    (try dsimp only)
    rcases actP_o (mu := ν.1 129) (mn := ν.1 130) (kc := kc) (lm := lm) (rn := rn) (tx := tx) hW b1.2 b2 (by omega) x with ⟨o1, o2⟩ | ⟨o1, o2, o3⟩
    · rw [if_pos o1, if_pos rfl, if_pos o1]
      rw [o2] at h2
      exact ⟨ν1, rfl, h2, h3⟩
    · rw [if_neg o2, if_neg (show ¬ (1 : Int32) = 0 by decide), if_neg o2]
      have r129 : ν1.1 129 = ν.1 129 := h3.1 129 (by decide) (by decide) (by decide)
      have r130 : ν1.1 130 = ν.1 130 := h3.1 130 (by decide) (by decide) (by decide)
      have r139 : ν1.1 139 = ν.1 139 := h3.1 139 (by decide) (by decide) (by decide)
      obtain ⟨ν2, k1, k2, k3⟩ := y_doL hB hw l (i + 1) F ν1 (fun y hy => hA y (List.mem_cons_of_mem _ hy)) (by omega) (h3.mn hM) (by rw [h2, show B + 60 * (i + 1) = B + 60 * i + 60 by omega]; exact o3) (h3.ry hy) (by rw [r139]; exact hI2)
      rw [h2, r129, r130] at k1 k2
      refine ⟨ν2, ?_, k2, h3.tr k3⟩
      rw [show i + 1 + l.length = i + (l.length + 1) by omega] at k1
      rw [nI_1, k1, show i + 1 + (doA (actP (ν.1 129) (ν.1 130) hc tc kc lm rn tx) l (actP (ν.1 129) (ν.1 130) hc tc kc lm rn tx (ν.1 128) x).2).1 = i + ((doA (actP (ν.1 129) (ν.1 130) hc tc kc lm rn tx) l (actP (ν.1 129) (ν.1 130) hc tc kc lm rn tx (ν.1 128) x).2).1 + 1) by omega]
end ACY
