/-! PURE: the worth of a thing for a house. -/
def Rw (rn : Nat) (tx : Nat → Nat) (cd : List Int32) : Prop := (rn = 0 ∧ cd = []) ∨ (0 < rn ∧ rp (pkf tx rn) 100 0 0 0 = (true, rn, cd))
def RX (m : Nat → Nat → Int32) (cd : List Int32) : Prop := cd.length ≤ 40 ∧ m 17 2 = nI cd.length ∧ ∀ i, i < cd.length → m 18 i = cd.getD i 0
def RY (m : Nat → Nat → Int32) (rn : Nat) (tx : Nat → Nat) : Prop := rn ≤ 40 ∧ m 127 19 = nI rn ∧ ∀ i, i < rn → tx i < 256 ∧ m 134 i = by8 (tx i)
def vwr (A mu mn : Nat → Int32) (tc kc rn : Nat) (tx : Nat → Nat) (t : Nat) (y : Int32) : Int32 := clw (if rn = 0 then 3 * jbc (A t) + nI (cn (sb (fun k => io (A t) (mu k) (mn k)) kc)) else (rv (pkf tx rn) (lvI A mu mn tc kc t y) 100 0 0 0).2.2)
theorem Ru.get {m : Nat → Nat → Int32} (h : Ru m) : ∃ rn tx cd, Rw rn tx cd ∧ RX m cd ∧ RY m rn tx := by
  obtain ⟨rn, rz, tx, h1, h2, h3, h4, h5, h6⟩ := h
  rcases h6 with ⟨r1, r2⟩ | ⟨r1, cd, r2, r3, r4⟩
  · refine ⟨rn, tx, [], Or.inl ⟨r1, rfl⟩, ⟨Nat.zero_le _, by rw [h4, r2]; rfl, fun i hi => absurd hi (Nat.not_lt_zero _)⟩, h1, h3, h5⟩
  · subst r3
    exact ⟨rn, tx, cd, Or.inr ⟨r1, r2⟩, ⟨h2, h4, r4⟩, h1, h3, h5⟩
theorem Ru.of {m : Nat → Nat → Int32} {rn : Nat} {tx : Nat → Nat} {cd : List Int32} (h : Rw rn tx cd) (hx : RX m cd) (hy : RY m rn tx) : Ru m := by
  obtain ⟨h1, h2, h3⟩ := hx
  obtain ⟨k1, k2, k3⟩ := hy
  refine ⟨rn, cd.length, tx, k1, h1, k2, h2, k3, ?_⟩
  rcases h with ⟨r1, r2⟩ | ⟨r1, r2⟩
  · subst r2
    exact Or.inl ⟨r1, rfl⟩
  · exact Or.inr ⟨r1, cd, r2, rfl, h3⟩
theorem Rw.ex {rn : Nat} {tx : Nat → Nat} {cd : List Int32} (h : Rw rn tx cd) (h0 : 0 < rn) (L : Int32 → Int32) : (rv (pkf tx rn) L 100 0 0 0).1 = true ∧ ex L cd [] = some [(rv (pkf tx rn) L 100 0 0 0).2.2] := by
  rcases h with ⟨r1, -⟩ | ⟨-, r2⟩
  · omega
  · obtain ⟨e1, e2, e3⟩ := rp_Q (pkf tx rn) L 100 0 0 0
    rw [r2] at e1 e3
    exact ⟨e1.symm, e3 rfl []⟩
section WOR
variable {κ : Kp} {μ : Mem} {A mu mn : Nat → Int32} {hc tc kc lm B rn : Nat} {tx : Nat → Nat} {cd : List Int32}
theorem x_value (h : Xc μ A mu mn hc tc kc lm) (hw : Rw rn tx cd) (hx : RX μ.1 cd) {t : Nat} (ht : t < tc) (y : Int32) : ∃ g, F_X4_value 17 1 (nI t) y (hp κ μ) = some (vwr A mu mn tc kc rn tx t y, hp κ (rowI μ 19 g)) := by
  obtain ⟨h1, h2, h3⟩ := hx
  unfold F_X4_value vwr
  by_cases c : rn = 0
  · have e : cd = [] := by
      rcases hw with ⟨-, r⟩ | ⟨r, -⟩
      · exact r
      · omega
    subst e
    refine ⟨μ.1 19, ?_⟩
    rw [rowI_id, if_pos c, if_pos q17, g17_2, obs, h2, if_pos (show nI ([] : List Int32).length = 0 from rfl), x_letter h ht, obs]
    (try dsimp only)
    rw [x_letter h ht, obs]
    unfold b_X4_value_40 clw
    (try dsimp only)
    rw [show lvI A mu mn tc kc t y 116 = jbc (A t) from rfl, show lvI A mu mn tc kc t y 107 = nI (cn (sb (fun k => io (A t) (mu k) (mn k)) kc)) from rfl, Int32.mul_comm]
  · obtain ⟨e1, e2⟩ := hw.ex (by omega) (lvI A mu mn tc kc t y)
    obtain ⟨g, hg⟩ := x_computed (κ := κ) h ht y h1 h2 h3 e2
    have hn : cd.length ≠ 0 := fun z => by
      have : cd = [] := List.eq_nil_of_length_eq_zero z
      subst this
      exact absurd (Option.some.inj e2) (by intro w; cases w)
    refine ⟨g, ?_⟩
    rw [if_neg c, if_pos q17, g17_2, obs, h2, if_neg (show ¬ nI cd.length = 0 from fun z => hn ((i_eq (b := 0) (by omega) (by omega)).mp z)), hg, obs]
    rfl
def Fw (ν ξ : Mem) : Prop := (∀ z, z ≠ 127 → z ≠ 135 → ξ.1 z = ν.1 z) ∧ (∀ j, j < 12 ∨ 17 ≤ j → j ≠ 20 → ξ.1 127 j = ν.1 127 j) ∧ ξ.2 = ν.2
theorem Fw.c {ν ξ : Mem} (h : Fw ν ξ) : cl ξ = cl ν := by
  funext a j
  unfold cl
  by_cases c1 : a = 127
  · subst c1
    by_cases c2 : rel 127 j = true
    · have : j < 12 ∨ 17 ≤ j ∧ j ≠ 20 := by
        by_cases z : j < 12
        · exact Or.inl z
        · refine Or.inr ⟨?_, fun w => ?_⟩
          · by_cases z2 : 17 ≤ j
            · exact z2
            · have z3 : j = 12 ∨ j = 13 ∨ j = 14 ∨ j = 15 ∨ j = 16 := by omega
              rcases z3 with rfl | rfl | rfl | rfl | rfl <;> exact absurd c2 (by decide)
          · subst w
            exact absurd c2 (by decide)
      have hj : ξ.1 127 j = ν.1 127 j := by
        rcases this with z | z
        · exact h.2.1 j (Or.inl z) (by omega)
        · exact h.2.1 j (Or.inr z.1) z.2
      rw [hj]
    · rw [if_pos (show scr 127 = true from rfl), if_pos (show scr 127 = true from rfl), if_neg c2, if_neg c2]
  · by_cases c2 : a = 135
    · subst c2
      rw [if_pos (show scr 135 = true from rfl), if_pos (show scr 135 = true from rfl), if_neg (show ¬ rel 135 j = true from fun w => nomatch (show false = true from w)), if_neg (show ¬ rel 135 j = true from fun w => nomatch (show false = true from w))]
    · rw [h.1 a c1 c2]
theorem Fw.tr {ν ξ ζ : Mem} (h : Fw ν ξ) (k : Fw ξ ζ) : Fw ν ζ := ⟨fun z z1 z2 => (k.1 z z1 z2).trans (h.1 z z1 z2), fun j h1 h2 => (k.2.1 j h1 h2).trans (h.2.1 j h1 h2), k.2.2.trans h.2.2⟩
theorem rdM_20 {ν : Mem} {a : Nat} {w u : Int32} : upI (rdM ν a w) 127 20 u = rdM (upI ν 127 20 u) a w := by
  refine Prod.ext ?_ rfl
  funext z
  show (if z = 127 then upd ((rdM ν a w).1 127) 20 u else (rdM ν a w).1 z) = (rdM (upI ν 127 20 u) a w).1 z
  by_cases c : z = 127
  · subst c
    rw [if_pos rfl]
    show upd (upd (upd (ν.1 127) 15 (nI a)) 16 w) 20 u = upd (upd (upd (ν.1 127) 20 u) 15 (nI a)) 16 w
    rw [fa_upd_swap _ (by decide : (16 : Nat) ≠ 20), fa_upd_swap _ (by decide : (15 : Nat) ≠ 20)]
  · rw [if_neg c]
    unfold rdM
    rw [rowI_n c, rowI_n c, rowI_n c, rowI_n c, rowI_n c]
/-- a row is read from its first sign -/
def bgM (ν : Mem) (m ln tp : Nat) : Mem := upI (upI (upI ν 127 12 (nI m)) 127 13 (nI ln)) 127 14 (nI tp)
theorem y_begin {ν : Mem} {ln tp : Nat} : F_X12_begin 127 134 (nI ln) (nI tp) (hp κ ν) = some (hp κ (rdM (bgM ν 134 ln tp) 0 (-1))) := by
  unfold F_X12_begin
  rw [if_pos q127, p127_12_134, obs, p127_13, obs, p127_14, obs, p127_15, obs, p127_16, obs]
  rfl
theorem y_begin131 {ν : Mem} {ln tp : Nat} : F_X12_begin 127 131 (nI ln) (nI tp) (hp κ ν) = some (hp κ (rdM (bgM ν 131 ln tp) 0 (-1))) := by
  unfold F_X12_begin
  rw [if_pos q127, p127_12_131, obs, p127_13, obs, p127_14, obs, p127_15, obs, p127_16, obs]
  rfl
theorem y_value40 (v : Int32) (h : ci_H) : b_X12_worthOf_153 v h = some (clw v, h) := rfl
theorem y_122 {ν : Mem} {b : Int32} {t : Nat} {y : Int32} (hy : RY ν.1 rn tx) (h0 : 0 < rn) (hw : Rw rn tx cd) (hl : ∀ c, (if ltN c = 5 then b else ν.1 135 (ltN c)) = lvI A mu mn tc kc t y c) : ∃ ξ, b_X12_worthOf_122 127 135 5 b (hp κ ν) = some (clw (rv (pkf tx rn) (lvI A mu mn tc kc t y) 100 0 0 0).2.2, hp κ ξ) ∧ Fw ν ξ := by
  obtain ⟨h1, h2, h3⟩ := hy
  have e20 : ∀ w : Int32, upI (bgM (upI ν 135 5 b) 134 rn 40) 127 20 w = upI (bgM (upI ν 135 5 b) 134 rn 40) 127 20 w := fun _ => rfl
  have hRD : RD (upI (bgM (upI ν 135 5 b) 134 rn 40) 127 20 1) 134 rn 40 rn tx := ⟨rfl, Or.inr ⟨rfl, h1⟩, rfl, rfl, by omega, by decide, by rw [if_pos h1], fun i hi => h3 i hi⟩
  obtain ⟨v, a, w, g1, g2⟩ := y_held (κ := κ) hRD h1
  have g1 : F_X12_held 127 0 (hp κ (rdM (upI (bgM (upI ν 135 5 b) 134 rn 40) 127 20 1) 0 (-1))) = some (v, hp κ (rdM (upI (bgM (upI ν 135 5 b) 134 rn 40) 127 20 1) a w)) := g1
  have hL : Lq (upI (bgM (upI ν 135 5 b) 134 rn 40) 127 20 1) = lvI A mu mn tc kc t y := by
    funext c
    have := hl c
    unfold Lq
    rw [if_neg (show ¬ (upI (bgM (upI ν 135 5 b) 134 rn 40) 127 20 1).1 127 20 = 0 by show ¬ (1 : Int32) = 0; decide), ← this]
    show upd (ν.1 135) 5 b (ltN c) = _
    by_cases z : ltN c = 5
    · rw [if_pos z, z, pk_us]
    · rw [if_neg z, pk_un z]
  rw [hL] at g2
  have hok := (hw.ex h0 (lvI A mu mn tc kc t y)).1
  refine ⟨rdM (upI (upI (bgM (upI ν 135 5 b) 134 rn 40) 127 20 1) 127 20 0) a w, ?_, ?_⟩
  · have m19 : (upI ν 135 5 b).1 127 19 = nI rn := h2
    unfold b_X12_worthOf_122
    rw [show (5 : Int32) = nI 5 from rfl, w135 (by decide), obs, g127_18, obs, g127_19, obs, m19, show (40 : Int32) = nI 40 from rfl, y_begin, obs, p127_20 rfl, obs, rdM_20, g1, obs, p127_20 rfl, obs, rdM_20, y_value40]
    rcases g2 with ⟨r1, r2, r3, r4⟩ | ⟨r1, r2⟩
    · rw [r2]
    · rw [hok] at r1
      cases r1
  · refine ⟨fun z z1 z2 => ?_, fun j hj hn => ?_, rfl⟩
    · unfold rdM bgM
      rw [rowI_n z1, rowI_n z1, rowI_n z1, rowI_n z1, rowI_n z1, rowI_n z1, rowI_n z1, rowI_n z2]
    · rw [rdM_j (by omega) (by omega)]
      show upd (upd (upd (upd (upd (ν.1 127) 12 (nI 134)) 13 (nI rn)) 14 (nI 40)) 20 1) 20 0 j = _
      rw [pk_un hn, pk_un hn, pk_un (by omega), pk_un (by omega), pk_un (by omega)]
theorem w135_0 {ν : Mem} {v : Int32} : wI (hp κ ν) 135 0 v = some (hp κ (upI ν 135 0 v)) := w135 (k := 0) (by decide)
theorem w135_1 {ν : Mem} {v : Int32} : wI (hp κ ν) 135 1 v = some (hp κ (upI ν 135 1 v)) := w135 (k := 1) (by decide)
theorem w135_2 {ν : Mem} {v : Int32} : wI (hp κ ν) 135 2 v = some (hp κ (upI ν 135 2 v)) := w135 (k := 2) (by decide)
theorem w135_3 {ν : Mem} {v : Int32} : wI (hp κ ν) 135 3 v = some (hp κ (upI ν 135 3 v)) := w135 (k := 3) (by decide)
theorem w135_4 {ν : Mem} {v : Int32} : wI (hp κ ν) 135 4 v = some (hp κ (upI ν 135 4 v)) := w135 (k := 4) (by decide)
theorem y_worthOf (hM : Mn μ hc tc kc lm) (hy : RY μ.1 rn tx) (hw : Rw rn tx cd) {t : Nat} (ht : t < tc) (y : Int32) : ∃ ξ, F_X12_worthOf 127 (nI t) y (hp κ μ) = some (vwr (μ.1 128) (μ.1 129) (μ.1 130) tc kc rn tx t y, hp κ ξ) ∧ Fw μ ξ := by
  have b2 : tc ≤ 12 := hM.2.2.2.2.2.1
  have b3 : kc ≤ 6 := hM.2.2.2.2.2.2.1
  have hk : sb (fun k => io (μ.1 128 t) (μ.1 129 k) (μ.1 130 k)) kc < 4096 := Nat.lt_of_lt_of_le (sb_le _ (m := 6) b3) (by decide)
  have h1 := hy.1
  have h2 := hy.2.1
  unfold F_X12_worthOf
  rw [if_pos q127, g127_0, obs, r128 (by omega), obs, jbc_F, obs]
  (try dsimp only)
  rw [g127_0, obs, r128 (by omega), obs, y_kindsOf hM, obs]
  (try dsimp only)
  rw [bc hk, obs]
  (try dsimp only)
  rw [g127_19, obs, h2]
  unfold vwr
  by_cases c : rn = 0
  · rw [if_pos (show nI rn ≤ 0 by rw [c]; decide), if_pos c, y_value40]
    exact ⟨μ, rfl, fun _ _ _ => rfl, fun _ _ _ => rfl, rfl⟩
  · rw [if_neg (show ¬ nI rn ≤ 0 from nI_ge (b := rn) (a := 0) (by omega) (by omega)), if_neg c]
    have M1 : Mn (upI μ 135 0 (jbc (μ.1 128 t))) hc tc kc lm := hM
    rw [g127_21, obs, g127_0, obs, r128 (by omega), obs, jbc_F, obs]
    (try dsimp only)
    rw [w135_0, obs, g127_21, obs, g127_0, obs, r128 (by omega), obs, y_kindsOf M1, obs]
    (try dsimp only)
    have r1 : (upI μ 135 0 (jbc (μ.1 128 t))).1 128 t = μ.1 128 t := rfl
    have r2 : (upI μ 135 0 (jbc (μ.1 128 t))).1 129 = μ.1 129 := rfl
    have r3 : (upI μ 135 0 (jbc (μ.1 128 t))).1 130 = μ.1 130 := rfl
    rw [r1, r2, r3, bc hk, obs]
    (try dsimp only)
    rw [w135_1, obs, g127_21, obs, w135_2, obs, g127_21, obs, g127_0, obs]
    generalize hν : upI (upI (upI μ 135 0 (jbc (μ.1 128 t))) 135 1 (nI (cn (sb (fun k => io (μ.1 128 t) (μ.1 129 k) (μ.1 130 k)) kc)))) 135 2 y = ν
    have N1 : Mn ν hc tc kc lm := by rw [← hν]; exact hM
    have e128 : ν.1 128 = μ.1 128 := by rw [← hν]; rfl
    rw [y_kept N1 (show hp_T[128]? = some (0, 42, []) from rfl), obs]
    (try dsimp only)
    rw [bc (kp_lt b2), obs, e128]
    (try dsimp only)
    rw [w135_3, obs, g127_21, obs, w135_4, obs, g127_21, obs, g127_0, obs, i12, r128 (by omega), obs]
    generalize hξ : upI (upI ν 135 3 (nI (cn (kp (fun t => μ.1 128 (24 + t)) tc y)))) 135 4 (nI t) = ξ
    have f128 : ξ.1 128 = μ.1 128 := by rw [← hξ]; exact e128
    have hy2 : RY ξ.1 rn tx := by rw [← hξ, ← hν]; exact hy
    have F1 : Fw μ ξ := by
      rw [← hξ, ← hν]
      refine ⟨fun z z1 z2 => ?_, fun j hj hn => rfl, rfl⟩
      rw [rowI_n z2, rowI_n z2, rowI_n z2, rowI_n z2, rowI_n z2]
    have hl : ∀ c, (if ltN c = 5 then (if μ.1 128 (12 + t) = y then 1 else 0) else ξ.1 135 (ltN c)) = lvI (μ.1 128) (μ.1 129) (μ.1 130) tc kc t y c := by
      intro c
      unfold ltN
      by_cases c1 : c = 116
      · subst c1
        rw [if_pos rfl, if_neg (by decide), ← hξ, ← hν]
        rfl
      rw [if_neg c1]
      by_cases c2 : c = 107
      · subst c2
        rw [if_pos rfl, if_neg (by decide), ← hξ, ← hν]
        rfl
      rw [if_neg c2]
      by_cases c3 : c = 104
      · subst c3
        rw [if_pos rfl, if_neg (by decide), ← hξ, ← hν]
        rfl
      rw [if_neg c3]
      by_cases c4 : c = 110
      · subst c4
        rw [if_pos rfl, if_neg (by decide), ← hξ]
        rfl
      rw [if_neg c4]
      by_cases c5 : c = 105
      · subst c5
        rw [if_pos rfl, if_neg (by decide), ← hξ]
        rfl
      rw [if_neg c5, if_pos rfl]
      unfold lvI
      rw [if_neg c3, if_neg c5, if_neg c2, if_neg c4, if_neg c1]
    rw [f128]
    by_cases cy : μ.1 128 (12 + t) = y
    · rw [if_pos cy] at hl ⊢
      obtain ⟨ζ, k1, k2⟩ := y_122 (κ := κ) (b := 1) hy2 (by omega) hw hl
      exact ⟨ζ, k1, F1.tr k2⟩
    · rw [if_neg cy] at hl ⊢
      obtain ⟨ζ, k1, k2⟩ := y_122 (κ := κ) (b := 0) hy2 (by omega) hw hl
      exact ⟨ζ, k1, F1.tr k2⟩
end WOR
theorem RX.mv {μ ν : Mem} {cd : List Int32} (h : RX (cl μ) cd) (e : cl ν = cl μ) : RX ν.1 cd := by
  have e17 : ν.1 17 = cl μ 17 := congrFun e 17
  have e18 : ν.1 18 = cl μ 18 := congrFun e 18
  unfold RX
  rw [e17, e18]
  exact h
theorem RY.mv {μ ν : Mem} {rn : Nat} {tx : Nat → Nat} (h : RY (cl μ) rn tx) (e : cl ν = cl μ) : RY ν.1 rn tx := by
  have e19 : ν.1 127 19 = cl μ 127 19 := by rw [← e]; rfl
  have e134 : ν.1 134 = cl μ 134 := congrFun e 134
  unfold RY
  rw [e19, e134]
  exact h
theorem Inv.ru {B : Nat} {μ : Mem} (h : Inv B μ) : Ru (cl μ) := by
  obtain ⟨⟨hc, tc, kc, lm, -, -, -, -, -, -, -, -, -, h1⟩, -⟩ := h
  exact h1
theorem pr_worth : P2 F_X11_worth F_X12_worth := by
  intro x y κ B μ hR hB hI
  obtain ⟨hc, tc, kc, lm, hb⟩ := hI.bs
  have d0 : ¬ (1 : Int32) = 0 := by decide
  obtain ⟨rn, tx, cd, w1, w2, w3⟩ := Ru.get hI.ru
  rcases ix_tc hb x with ⟨t, ht, rfl⟩ | hx
  · rcases ix_hc hb y with ⟨j, hj, rfl⟩ | hy
    · obtain ⟨g, hg⟩ := x_value (κ := κ) hb.xc w1 (w2.mv rfl) ht (nI j)
      have e1 : cl (rowI μ 19 g) = cl μ := cl_row rfl (fun j => by unfold rel; rfl)
      have e2 : cl (Zr (rowI μ 19 g)) = cl μ := cl_Z.trans e1
      obtain ⟨ξ, k1, k2⟩ := y_worthOf (κ := κ) (hb.mv e2).2.1 (w3.mv e2) w1 ht (nI j)
      refine ⟨vwr (μ.1 128) (μ.1 129) (μ.1 130) tc kc rn tx t (nI j), rowI μ 19 g, ξ, ?_, ?_, inv_keep hI (k2.c.trans e2) ?_ (k2.2.1 10 (by omega) (by omega)) ?_ ?_⟩
      · unfold F_X11_worth
        simp only [↓reduceIte, obs, q0, q1, q2, q11, q13, q17, q20, q21, q24, q104, q111, q112, q116, q125, q127, g0_0, g0_1, g0_2, g0_3, g0_4, g0_5, g0_6, g0_7, p0_7, g0_8, g0_9, g0_10, g0_11, g0_12, g0_13, p0_13, g0_14, g0_15, g0_16, g0_17, g0_18, g1_0, g1_1, g1_2, g1_3, g1_4, g1_5, p1_5, g1_6, p1_6, g1_7, p1_7, g1_8, p1_8, g2_0, g2_1, g2_2, g2_3, g2_4, p2_4, g11_0, g11_1, p11_1, g11_2, p11_2, g11_3, p11_3, g13_0, g13_1, g13_2, g13_3, g17_0, g17_1, g17_2, p17_2, g20_0, g20_1, g21_0, g21_1, g21_2, p21_2, g24_0, g24_1, p24_1, g24_2, p24_2, g104_0, g104_1, g104_2, g104_3, g104_4, p104_4, g111_0, g111_1, p111_1, g111_2, p111_2, g111_3, p111_3, g112_0, g112_1, g112_2, g112_3, g112_4, p112_4, g116_0, g116_1, g116_2, g116_3, g116_4, g125_0, p125_0, g125_1, p125_1, g127_0, g127_1, p127_1, g127_2, p127_2, g127_3, p127_3, g127_4, g127_5, g127_6, p127_6, g127_7, g127_8, p127_8, g127_9, g127_10, p127_10, g127_11, p127_11, g127_12, g127_13, p127_13, g127_14, p127_14, g127_15, p127_15, g127_16, p127_16, g127_17, g127_18, g127_19, p127_19, g127_20, p127_20, g127_21, g127_22, g127_23, p127_23, g127_24, g127_25, g127_26, g127_27, g127_28, g127_29, p127_29, g127_30, p127_30, g127_31, g127_32, g127_33, p127_33, g127_34, p127_34, g127_35, p127_35, g127_36, p127_36, g127_37, g127_38, p127_38, g127_39, p127_39, g127_40, g127_41, g127_42, X_hasThing1 hb rfl ht, X_hasHouse1 hb rfl hj, d0, hg]
      · unfold F_X12_worth
        simp only [if_pos q127, p11, ↓reduceIte, obs, Y_isThing1 hb e2 ht, Y_isHouse1 hb e2 hj, d0, k1, f128 e2, f129 e2, f130 e2]
      · rw [k2.1 0 (by decide) (by decide)]
        rfl
      · rw [k2.2.2]
        rfl
      · rw [k2.2.2]
        rfl
    · refine ⟨-1, μ, Zr μ, ?_, ?_, inv_Z hI⟩
      · unfold F_X11_worth
        simp only [↓reduceIte, obs, q0, q1, q2, q11, q13, q17, q20, q21, q24, q104, q111, q112, q116, q125, q127, g0_0, g0_1, g0_2, g0_3, g0_4, g0_5, g0_6, g0_7, p0_7, g0_8, g0_9, g0_10, g0_11, g0_12, g0_13, p0_13, g0_14, g0_15, g0_16, g0_17, g0_18, g1_0, g1_1, g1_2, g1_3, g1_4, g1_5, p1_5, g1_6, p1_6, g1_7, p1_7, g1_8, p1_8, g2_0, g2_1, g2_2, g2_3, g2_4, p2_4, g11_0, g11_1, p11_1, g11_2, p11_2, g11_3, p11_3, g13_0, g13_1, g13_2, g13_3, g17_0, g17_1, g17_2, p17_2, g20_0, g20_1, g21_0, g21_1, g21_2, p21_2, g24_0, g24_1, p24_1, g24_2, p24_2, g104_0, g104_1, g104_2, g104_3, g104_4, p104_4, g111_0, g111_1, p111_1, g111_2, p111_2, g111_3, p111_3, g112_0, g112_1, g112_2, g112_3, g112_4, p112_4, g116_0, g116_1, g116_2, g116_3, g116_4, g125_0, p125_0, g125_1, p125_1, g127_0, g127_1, p127_1, g127_2, p127_2, g127_3, p127_3, g127_4, g127_5, g127_6, p127_6, g127_7, g127_8, p127_8, g127_9, g127_10, p127_10, g127_11, p127_11, g127_12, g127_13, p127_13, g127_14, p127_14, g127_15, p127_15, g127_16, p127_16, g127_17, g127_18, g127_19, p127_19, g127_20, p127_20, g127_21, g127_22, g127_23, p127_23, g127_24, g127_25, g127_26, g127_27, g127_28, g127_29, p127_29, g127_30, p127_30, g127_31, g127_32, g127_33, p127_33, g127_34, p127_34, g127_35, p127_35, g127_36, p127_36, g127_37, g127_38, p127_38, g127_39, p127_39, g127_40, g127_41, g127_42, X_hasThing1 hb rfl ht, X_hasHouse0 hb rfl hy, d0]
      · unfold F_X12_worth
        simp only [if_pos q127, p11, ↓reduceIte, obs, Y_isThing1 hb cl_Z ht, Y_isHouse0 hb cl_Z hy, d0]
  · refine ⟨-1, μ, Zr μ, ?_, ?_, inv_Z hI⟩
    · unfold F_X11_worth
      simp only [↓reduceIte, obs, q0, q1, q2, q11, q13, q17, q20, q21, q24, q104, q111, q112, q116, q125, q127, g0_0, g0_1, g0_2, g0_3, g0_4, g0_5, g0_6, g0_7, p0_7, g0_8, g0_9, g0_10, g0_11, g0_12, g0_13, p0_13, g0_14, g0_15, g0_16, g0_17, g0_18, g1_0, g1_1, g1_2, g1_3, g1_4, g1_5, p1_5, g1_6, p1_6, g1_7, p1_7, g1_8, p1_8, g2_0, g2_1, g2_2, g2_3, g2_4, p2_4, g11_0, g11_1, p11_1, g11_2, p11_2, g11_3, p11_3, g13_0, g13_1, g13_2, g13_3, g17_0, g17_1, g17_2, p17_2, g20_0, g20_1, g21_0, g21_1, g21_2, p21_2, g24_0, g24_1, p24_1, g24_2, p24_2, g104_0, g104_1, g104_2, g104_3, g104_4, p104_4, g111_0, g111_1, p111_1, g111_2, p111_2, g111_3, p111_3, g112_0, g112_1, g112_2, g112_3, g112_4, p112_4, g116_0, g116_1, g116_2, g116_3, g116_4, g125_0, p125_0, g125_1, p125_1, g127_0, g127_1, p127_1, g127_2, p127_2, g127_3, p127_3, g127_4, g127_5, g127_6, p127_6, g127_7, g127_8, p127_8, g127_9, g127_10, p127_10, g127_11, p127_11, g127_12, g127_13, p127_13, g127_14, p127_14, g127_15, p127_15, g127_16, p127_16, g127_17, g127_18, g127_19, p127_19, g127_20, p127_20, g127_21, g127_22, g127_23, p127_23, g127_24, g127_25, g127_26, g127_27, g127_28, g127_29, p127_29, g127_30, p127_30, g127_31, g127_32, g127_33, p127_33, g127_34, p127_34, g127_35, p127_35, g127_36, p127_36, g127_37, g127_38, p127_38, g127_39, p127_39, g127_40, g127_41, g127_42, X_hasThing0 hb rfl hx]
    · unfold F_X12_worth
      simp only [if_pos q127, p11, ↓reduceIte, obs, Y_isThing0 hb cl_Z hx]
