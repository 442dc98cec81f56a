/-! PURE: pair: day. -/
theorem sx_day {μ ξ : Mem} (h : ∀ a, chg a = false → ξ.1 a = μ.1 a) (h0 : ξ.1 0 13 = μ.1 0 13) (h11 : ξ.1 11 1 = 0) (h8 : ξ.1 127 8 = 0) (h7 : ∀ j, rel 127 j = true → j ≠ 8 → j ≠ 23 → ξ.1 127 j = μ.1 127 j) : SmX (upI (upI μ 11 1 0) 127 8 0) ξ := by
  intro a j hj
  by_cases c1 : a = 127
  · subst c1
    rcases hj with hj | ⟨hj, hn⟩
    · cases hj
    · have n23 : j ≠ 23 := fun z => hn ⟨rfl, z⟩
      show ξ.1 127 j = upd (μ.1 127) 8 0 j
      by_cases c2 : j = 8
      · subst c2; rw [pk_us]; exact h8
      · rw [pk_un c2]; exact h7 j hj c2 n23
  · rw [rowI_n c1]
    by_cases c2 : a = 11
    · subst c2
      rcases hj with hj | ⟨hj, -⟩
      · cases hj
      · have e : j = 1 := by
          unfold rel at hj
          simpa using hj
        subst e
        rw [rowI_s, pk_us]
        exact h11
    · rw [rowI_n c2]
      rcases hj with hj | ⟨hj, -⟩
      · rw [h a hj]
      · have e : a = 0 ∧ j = 13 := by
          unfold rel at hj
          simpa [c1, c2] using hj
        obtain ⟨rfl, rfl⟩ := e
        exact h0
theorem inv_tx0 {B : Nat} {μ : Mem} (hI : InvC B (cl μ)) : InvC B (cl (upI (upI μ 11 1 0) 127 8 0)) := by
  obtain ⟨hc, tc, kc, lm, ⟨h1, h1b, h1c⟩, h2, h3, h4, h5, h6, h7, h8, h9, h10⟩ := hI
  have F : ∀ a, a ≠ 11 → a ≠ 127 → cl (upI (upI μ 11 1 0) 127 8 0) a = cl μ a := fun a a1 a2 => by
    funext j
    unfold cl
    rw [rowI_n a2, rowI_n a1]
  have f7 : ∀ j, j ≠ 8 → cl (upI (upI μ 11 1 0) 127 8 0) 127 j = cl μ 127 j := fun j j2 => by
    unfold cl
    rw [rowI_s, pk_un j2, rowI_n (by decide)]
  refine ⟨hc, tc, kc, lm, ⟨?_, ?_, h1c⟩, ?_, ?_, ?_, ?_, ?_, ?_, ?_, ?_, ?_⟩
  · rw [F 1 (by decide) (by decide)]; exact h1
  · rw [f7 1 (by decide), f7 2 (by decide), f7 3 (by decide), f7 6 (by decide)]; exact h1b
  · unfold Kd at h2 ⊢
    rw [F 7 (by decide) (by decide), F 8 (by decide) (by decide), F 129 (by decide) (by decide), F 130 (by decide) (by decide)]; exact h2
  · exact h3.congr (fun a h1 h2 => F a (by omega) (by omega)) (F 128 (by decide) (by decide))
  · rw [F 128 (by decide) (by decide)]; exact h4
  · unfold So at h5 ⊢
    rw [F 9 (by decide) (by decide), F 10 (by decide) (by decide), F 128 (by decide) (by decide), F 129 (by decide) (by decide), F 130 (by decide) (by decide)]; exact h5
  · exact ⟨0, by omega, by rw [cl_r rfl]; rfl, by rw [cl_r rfl]; rfl, fun i hi => absurd hi (Nat.not_lt_zero _)⟩
  · unfold Hd at h7 ⊢
    rw [F 0 (by decide) (by decide), f7 33 (by decide), f7 34 (by decide), F 109 (by decide) (by decide), F 110 (by decide) (by decide), F 143 (by decide) (by decide)]; exact h7
  · exact h8.congr (by rw [F 24 (by decide) (by decide)]) (by rw [F 24 (by decide) (by decide)]) (f7 23 (by decide)) (fun a h1 h2 => F a (by omega) (by omega)) (F 136 (by decide) (by decide))
  · exact h9.congr (f7 39 (by decide)) (fun a h1 h2 => F a (by omega) (by omega)) (F 145 (by decide) (by decide)) (F 146 (by decide) (by decide)) (F 147 (by decide) (by decide))
  · unfold Ru at h10 ⊢
    rw [f7 19 (by decide), F 17 (by decide) (by decide), F 134 (by decide) (by decide), F 18 (by decide) (by decide)]
    exact h10
theorem bt9_n {ν : Mem} {ln tp a : Nat} {w : Int32} {z : Nat} {g : Nat → Int32} (hz : z ≠ 127) (h2 : z ≠ 139) : (rdM (rowI (btM (Zr ν) ln tp) 139 g) a w).1 z = ν.1 z := by
  rw [rdM_n hz, rowI_n h2]
  unfold btM bgM
  rw [rowI_n hz, rowI_n hz, rowI_n hz, rowI_n hz, Zr_n hz]
theorem bt9_j {ν : Mem} {ln tp a : Nat} {w : Int32} {j : Nat} {g : Nat → Int32} (hj : rel 127 j = true ∨ j = 10) (h8 : j ≠ 8) : (rdM (rowI (btM (Zr ν) ln tp) 139 g) a w).1 127 j = ν.1 127 j := by
  have h : j ≠ 11 ∧ j ≠ 12 ∧ j ≠ 13 ∧ j ≠ 14 ∧ j ≠ 15 ∧ j ≠ 16 ∧ j ≠ 20 := by
    rcases hj with hj | hj
    · exact rel_no hj
    · omega
  rw [rdM_j h.2.2.2.2.1 h.2.2.2.2.2.1, rowI_n (by decide)]
  show upd (upd (upd (upd (upd (ν.1 127) 11 0) 12 (nI 131)) 13 (nI ln)) 14 (nI tp)) 8 0 j = _
  rw [pk_un h8, pk_un h.2.2.2.1, pk_un h.2.2.1, pk_un h.2.1, pk_un h.1]
/-- a text that is wrong leaves all else -/
theorem inv_bad2 {B : Nat} {μ ξ : Mem} (hI : Inv B μ) (m : ∀ a, chg a = false → ξ.1 a = μ.1 a) (e : ∀ a, (2 ≤ a ∧ a ≤ 6) ∨ a = 9 ∨ a = 10 ∨ (24 ≤ a ∧ a ≤ 90) ∨ a = 128 ∨ a = 136 → ξ.1 a = μ.1 a) (h0 : ξ.1 0 = μ.1 0) (h11 : ξ.1 11 1 = 0) (h8 : ξ.1 127 8 = 0) (h7 : ∀ j, rel 127 j = true ∨ j = 10 → j ≠ 8 → ξ.1 127 j = μ.1 127 j) (hm : ξ.2 = μ.2) : Inv (B + 1200) ξ := by
  obtain ⟨hc, tc, kc, lm, hir, hsr, hws, hso, hpa⟩ := (inv_tx0 hI.1).ir
  obtain ⟨od, un, hP⟩ := PaM_iff.mp hpa
  have hsx : SmX (upI (upI μ 11 1 0) 127 8 0) ξ := sx_day m (by rw [h0]) h11 h8 (fun j j1 j2 _ => h7 j (Or.inl j1) j2)
  have hsr' : StA μ.1 2 (μ.1 128) := SR_0.mp hsr
  have hso' : SoX μ.1 (μ.1 128) (μ.1 129) (μ.1 130) tc kc := hso
  have hws' : WS (μ.1 128) hc tc B := hws
  refine ⟨inv_st hir hsx (by omega) ?_ ?_ ?_ (PaM_iff.mpr ⟨od, un, hP.kp (by omega) ?_ ?_ ?_ ?_ ?_⟩), row_sm hI.2 (by rw [h0]) (h7 10 (Or.inr rfl) (by decide)) hm⟩
  · rw [e 128 (by omega)]
    exact hsr'.cg (fun a h1 h2 => e a (by omega))
  · rw [e 128 (by omega)]
    exact hws'.up (by omega)
  · rw [e 128 (by omega), m 129 rfl, m 130 rfl]
    unfold SoX at hso' ⊢
    rw [e 9 (by omega), e 10 (by omega)]
    exact hso'
  · rw [e 24 (by omega)]; rfl
  · rw [e 24 (by omega)]; rfl
  · rw [h7 23 (Or.inl rfl) (by decide)]; rfl
  · rw [e 136 (by omega)]; rfl
  · intro j hj hn a h1 h2
    rw [e a (by omega)]
    rw [rowI_n (by omega), rowI_n (by omega)]
/-- behind a day that was done -/
theorem inv_day {B hc tc kc lm od un d : Nat} {μ ξ : Mem} {A' : Nat → Int32} (hir : IR (cl (upI (upI μ 11 1 0) 127 8 0)) hc tc kc lm B) (hP : PaM (upI (upI μ 11 1 0) 127 8 0) hc tc B od un) (hws : WS (μ.1 128) hc tc B) (hsx : SmX (upI (upI μ 11 1 0) 127 8 0) ξ) (hxc : Xc ξ A' (μ.1 129) (μ.1 130) hc tc kc lm) (hW : WS A' hc tc (B + 1200)) (x128 : ξ.1 128 = A') (er : ∀ j, j < 13 → j ≠ (od + un) % 13 → ∀ a, 26 + 5 * j ≤ a → a ≤ 26 + 5 * j + 4 → ξ.1 a = μ.1 a) (hk : (ξ.1 24 = μ.1 24 ∧ ξ.1 136 = μ.1 136 ∧ ξ.1 127 23 = μ.1 127 23) ∨ (ξ.1 24 1 = nI (if un < 12 then od else (od + 1) % 13) ∧ ξ.1 24 2 = nI (if un < 12 then un + 1 else 12) ∧ ξ.1 127 23 = nI (if un < 12 then un + 1 else 12) ∧ (∃ A0, (∀ q, q < 42 → A0 q = μ.1 128 q) ∧ ξ.1 136 = rem (μ.1 136) A0 un) ∧ StA ξ.1 (26 + 5 * ((od + un) % 13)) (μ.1 128))) : InvC (B + 1200) (cl ξ) := by
  have b1 := hxc.b1
  have b2 := hxc.b2
  have x129 : ξ.1 129 = μ.1 129 := hsx.at (a := 129) rfl
  have x130 : ξ.1 130 = μ.1 130 := hsx.at (a := 130) rfl
  have eR : ∀ j, j < 13 → ∀ a, 26 + 5 * j ≤ a → a ≤ 26 + 5 * j + 4 → (upI (upI μ 11 1 0) 127 8 0).1 a = μ.1 a := fun j hj a h1 h2 => by rw [rowI_n (by omega), rowI_n (by omega)]
  refine inv_st hir hsx (by omega) ?_ ?_ ?_ ?_
  · rw [x128]; exact hxc.2.1
  · rw [x128]; exact hW
  · rw [x128, x129, x130]; exact hxc.2.2.2
  · rcases hk with ⟨k1, k2, k3⟩ | ⟨k1, k2, k3, ⟨A0, k4, k5⟩, k6⟩
    · refine PaM_iff.mpr ⟨od, un, hP.kp (by omega) (by rw [k1]; rfl) (by rw [k1]; rfl) (by rw [k3]; rfl) (by rw [k2]; rfl) ?_⟩
      intro j hj hn a h1 h2
      rw [er j hj hn a h1 h2, eR j hj a h1 h2]
    · refine PaM_iff.mpr ⟨_, _, hP.push (A := A0) (by omega) k1 k2 k3 (by rw [k5]; rfl) ?_ (k6.cA k4) ((hws.cA k4 b2 b1.2).up (by omega)) b2 b1.2⟩
      intro j hj hn a h1 h2
      rw [er j hj hn a h1 h2, eR j hj a h1 h2]
section DYC
variable {κ : Kp} {hc tc kc lm : Nat}
def dV (L d : Nat) : Int64 := if L ≤ d then Int64.ofNat 0 else Int64.ofNat 1
def dU (A mu mn : Nat → Int32) (hc tc kc lm : Nat) : Int64 := (nI (cn (bh A mu mn hc tc kc lm))).toInt64
theorem x_dtail {μ : Mem} {A mu mn : Nat → Int32} (h : Xc μ A mu mn hc tc kc lm) {L d : Nat} (hL : L < 2 ^ 31) (hd : d < 2 ^ 31) : b_X11_day_114 0 (nI L) (nI d) (hp κ μ) = some (nI d, hp κ (TT μ (dV L d) (dU A mu mn hc tc kc lm))) := by
  have hl : bh A mu mn hc tc kc lm < 4096 := Nat.lt_of_lt_of_le (sb_le _ (m := 5) h.b1.2) (by decide)
  have h93 : ∀ v : Int64, b_X11_day_125 0 (nI d) 0 v (hp κ μ) = some (nI d, hp κ (TT μ v (dU A mu mn hc tc kc lm))) := fun v => by
    unfold b_X11_day_125
    rw [g0_0, obs, C_breakers h, obs]
    (try dsimp only)
    rw [bc hl, obs]
    (try dsimp only)
    rw [x_tellTwo, obs]
    rfl
  unfold b_X11_day_114 dV
  by_cases c : L ≤ d
  · rw [if_pos (nI_le c hd), if_pos c, h93]
  · rw [if_neg (nI_ge (by omega) hL), if_neg c, h93]
theorem y_dtail {ν : Mem} (hM : Mn ν hc tc kc lm) {L d : Nat} (hL : L < 2 ^ 31) (hd : d < 2 ^ 31) : b_X12_day_143 127 (nI L) (nI d) (hp κ ν) = some (nI d, hp κ (MM ν (dV L d) (dU (ν.1 128) (ν.1 129) (ν.1 130) hc tc kc lm))) := by
  have b1 := hM.2.2.2.2.1
  have hl : bh (ν.1 128) (ν.1 129) (ν.1 130) hc tc kc lm < 4096 := Nat.lt_of_lt_of_le (sb_le _ (m := 5) b1.2) (by decide)
  have h159 : ∀ v : Int64, b_X12_day_159 127 (nI d) 127 v (hp κ (M0 ν)) = some (nI d, hp κ (MM ν v (dU (ν.1 128) (ν.1 129) (ν.1 130) hc tc kc lm))) := fun v => by
    have hM2 : Mn (MB (M0 ν) 0 v) hc tc kc lm := hM
    have hbh := y_brokenHouses (κ := κ) hM2 (m := 128) rfl
    have e8 : (MB (M0 ν) 0 v).1 128 = ν.1 128 ∧ (MB (M0 ν) 0 v).1 129 = ν.1 129 ∧ (MB (M0 ν) 0 v).1 130 = ν.1 130 := ⟨rfl, rfl, rfl⟩
    rw [e8.1, e8.2.1, e8.2.2] at hbh
    unfold b_X12_day_159
    rw [y_tell0, obs, g127_0, obs, hbh, obs]
    (try dsimp only)
    rw [bc hl, obs]
    (try dsimp only)
    rw [y_tell1 (i := 0) (by decide), obs]
    rfl
  unfold b_X12_day_143 dV
  rw [p10, obs]
  by_cases c : L ≤ d
  · rw [if_pos (nI_le c hd), if_pos c, h159]
  · rw [if_neg (nI_ge (by omega) hL), if_neg c, h159]
end DYC
theorem Xc.cg {μ ν : Mem} {A mu mn : Nat → Int32} {hc tc kc lm : Nat} (h : Xc μ A mu mn hc tc kc lm) (e : ∀ a, 1 ≤ a → a ≤ 10 → ν.1 a = μ.1 a) : Xc ν A mu mn hc tc kc lm := by
  obtain ⟨h1, h2, h3, h4⟩ := h
  have h2' : StA μ.1 2 A := h2
  refine ⟨h1.cg (e 1 (by omega) (by omega)), h2'.cg (fun a h1 h2 => e a (by omega) (by omega)), h3.cg (e 7 (by omega) (by omega)) (e 8 (by omega) (by omega)), ?_⟩
  unfold SoX at h4 ⊢
  rw [e 9 (by omega) (by omega), e 10 (by omega) (by omega)]
  exact h4
theorem day_core {κ : Kp} {B : Nat} {μ μx : Mem} {ln : Nat} {l : List (Int32 × Int32 × Int32)} (hR : Ref0 κ) (hB : B ≤ 1000000) (hI : Inv B μ) (hA : ∀ x, x ∈ l → AcI x) (hl : l.length ≤ 20) (mx : ∀ z, z ≠ 11 → z ≠ 14 → z ≠ 15 → z ≠ 16 → μx.1 z = μ.1 z) (m11 : μx.1 11 1 = 0) (mm : μx.2 = μ.2) (hi : It3 (μx.1 14) (μx.1 15) (μx.1 16) 0 l) : ∃ (v : Int32) (μ1 : Mem), ((gR (hp κ μx) 0 11 5).bind fun v4 => (gR (hp κ μx) 0 11 0).bind fun v5 => (gR (hp κ μx) v5 10 0).bind fun v6 => (F_X2_mark v4 v6 (hp κ μx)).bind fun h7 => b_X11_day_52 0 (nI l.length) bigN 0 h7) = some (v, hp κ μ1) ∧ μ1.1 127 = μ.1 127 ∧ μ1.1 131 = μ.1 131 ∧ ∀ g', Iy3 g' 0 l → ∃ ξ, dTl κ (nI l.length) (rdM (rowI (btM (Zr μ1) ln 60) 139 g') ln (-1)) = some (v, hp κ ξ) ∧ Inv (B + 1200) ξ := by
  obtain ⟨hc, tc, kc, lm, hir, hsr, hws, hso, hpa⟩ := (inv_tx0 hI.1).ir
  obtain ⟨od, un, hP⟩ := PaM_iff.mp hpa
  obtain ⟨rn, tx, cd, w1, w2, w3⟩ := Ru.get hI.ru
  have hT := hir.tn
  have hM := hir.mn
  have b1 := hT.2.2.2.2.1
  have b2 := hT.2.2.2.2.2.1
  have hMμ : Mn μ hc tc kc lm := hM
  have hK : Kx μ.1 (μ.1 129) (μ.1 130) kc := hir.kx
  have hsr' : StA μ.1 2 (μ.1 128) := SR_0.mp hsr
  have hws' : WS (μ.1 128) hc tc B := hws
  have hso' : SoX μ.1 (μ.1 128) (μ.1 129) (μ.1 130) tc kc := hso
  have p3 : μ.1 24 1 = nI od := hP.2.2.1
  have p4 : μ.1 24 2 = nI un := hP.2.2.2.1
  have p5 : μ.1 127 23 = nI un := hP.2.2.2.2.1
  have hs13 : (od + un) % 13 < 13 := Nat.mod_lt _ (by decide)
  have hXμ : Xc μ (μ.1 128) (μ.1 129) (μ.1 130) hc tc kc lm := ⟨hT.cg rfl, hsr', hK, hso'⟩
  have hXx : Xc μx (μ.1 128) (μ.1 129) (μ.1 130) hc tc kc lm := hXμ.cg (fun a h1 h2 => mx a (by omega) (by omega) (by omega) (by omega))
  have nm : ∀ a, a < 26 ∨ 90 < a → (cpS μx (26 + 5 * ((od + un) % 13)) 2).1 a = μx.1 a := fun a ha => cpS_out (by omega)
  have hXm : Xc (cpS μx (26 + 5 * ((od + un) % 13)) 2) (μ.1 128) (μ.1 129) (μ.1 130) hc tc kc lm := hXx.cg (fun a h1 h2 => nm a (by omega))
  have hmark := x_mark (κ := κ) (μ := μx) (od := od) (un := un) hR (by rw [mx 24 (by decide) (by decide) (by decide) (by decide)]; exact p3) (by rw [mx 24 (by decide) (by decide) (by decide) (by decide)]; exact p4) hP.1 hP.2.1
  obtain ⟨μb, hb1, hb2⟩ := x_doL (κ := κ) (rn := rn) (tx := tx) (cd := cd) hB w1 l 0 (4999 - l.length) (μ.1 128) (cpS μx (26 + 5 * ((od + un) % 13)) 2) hA (by omega) hXm hws' (by
    have e17 : (cpS μx (26 + 5 * ((od + un) % 13)) 2).1 17 = cl μ 17 := (nm 17 (by omega)).trans (mx 17 (by decide) (by decide) (by decide) (by decide))
    have e18 : (cpS μx (26 + 5 * ((od + un) % 13)) 2).1 18 = cl μ 18 := (nm 18 (by omega)).trans (mx 18 (by decide) (by decide) (by decide) (by decide))
    unfold RX
    rw [e17, e18]
    exact w2) (by rw [nm 14 (by omega), nm 15 (by omega), nm 16 (by omega)]; exact hi)
  rw [Nat.zero_add, Nat.zero_add, show 4999 - l.length + l.length + 1 = 5000 by omega] at hb1
  have hD := doA_o (mu := μ.1 129) (mn := μ.1 130) (kc := kc) (lm := lm) (rn := rn) (tx := tx) b1.2 b2 l (μ.1 128) B hws' (by omega)
  have hY := fun (ν : Mem) (h129 : ν.1 129 = μ.1 129) (h130 : ν.1 130 = μ.1 130) (h128 : ν.1 128 = μ.1 128) (hM : Mn ν hc tc kc lm) (hy : RY ν.1 rn tx) (h139 : Iy3 (ν.1 139) 0 l) => y_doL (κ := κ) (B := B) hB w1 l 0 (4999 - l.length) ν hA (by omega) hM (by rw [h128]; exact hws') hy h139
  have hY : ∀ (ν : Mem), ν.1 129 = μ.1 129 → ν.1 130 = μ.1 130 → ν.1 128 = μ.1 128 → Mn ν hc tc kc lm → RY ν.1 rn tx → Iy3 (ν.1 139) 0 l → ∃ ξ, b_X12_day_85 127 (nI l.length) 5000 (nI 0) (hp κ ν) = b_X12_day_131 127 (nI l.length) (nI (doA (actP (μ.1 129) (μ.1 130) hc tc kc lm rn tx) l (μ.1 128)).1) (hp κ ξ) ∧ ξ.1 128 = (doA (actP (μ.1 129) (μ.1 130) hc tc kc lm rn tx) l (μ.1 128)).2 ∧ YD ν ξ := fun ν a1 a2 a3 a4 a5 a6 => by
    have h := hY ν a1 a2 a3 a4 a5 a6
    rw [Nat.zero_add, Nat.zero_add, show 4999 - l.length + l.length + 1 = 5000 by omega, a1, a2, a3] at h
    exact h
  generalize doA (actP (μ.1 129) (μ.1 130) hc tc kc lm rn tx) l (μ.1 128) = D at hb1 hb2 hD hY
  obtain ⟨d1, d2, d3⟩ := hD
  have hWD : WS D.2 hc tc (B + 1200) := d1.up (by omega)
  have e24 : μb.1 24 = μ.1 24 := by rw [hb2.2.1 24 rfl, nm 24 (by omega), mx 24 (by decide) (by decide) (by decide) (by decide)]
  -- class: what it leaves
  have hcls : ∃ μc, b_X11_day_103 0 (nI l.length) (nI D.1) (hp κ μb) = some (nI D.1, hp κ (TT μc (dV l.length D.1) (dU D.2 (μ.1 129) (μ.1 130) hc tc kc lm))) ∧ (∀ a, a ≠ 24 → μc.1 a = μb.1 a) ∧ μc.2 = μb.2 ∧ ((D.1 = 0 ∧ μc.1 24 = μ.1 24) ∨ (0 < D.1 ∧ μc.1 24 1 = nI (if un < 12 then od else (od + 1) % 13) ∧ μc.1 24 2 = nI (if un < 12 then un + 1 else 12))) := by
    by_cases c : D.1 = 0
    · refine ⟨μb, ?_, fun _ _ => rfl, rfl, Or.inl ⟨c, e24⟩⟩
      unfold b_X11_day_103
      rw [if_pos (show nI D.1 ≤ 0 by rw [c]; decide), x_dtail hb2.1 (by omega) (by omega)]
    · have h24 := hdM_24 (μ := μb) (od := od) (un := un) (by rw [e24]; exact p3) (by rw [e24]; exact p4) hP.2.1
      refine ⟨hdM μb od un, ?_, fun a ha => hdM_n ha, hdM_2, Or.inr ⟨by omega, h24.1, h24.2⟩⟩
      unfold b_X11_day_103
      rw [if_neg (show ¬ nI D.1 ≤ 0 from nI_ge (a := 0) (by omega) (by omega)), g0_5, obs, x_holdM (od := od) (un := un) (by rw [e24]; exact p3) (by rw [e24]; exact p4) hP.1 hP.2.1, obs, x_dtail (hb2.1.cg (fun a _ _ => hdM_n (by omega))) (by omega) (by omega)]
  obtain ⟨μc, hc1, hc2, hc3, hc4⟩ := hcls
  generalize hμ1 : TT μc (dV l.length D.1) (dU D.2 (μ.1 129) (μ.1 130) hc tc kc lm) = μ1 at hc1
  have m1 : ∀ a, a ≠ 0 → a ≠ 24 → μ1.1 a = μb.1 a := fun a a0 a1 => by rw [← hμ1, TT_n a0, hc2 a a1]
  have eb : ∀ a, [2, 3, 4, 5, 6, 9, 10, 19].contains a = false → a < 26 ∨ 90 < a → a ≠ 11 → a ≠ 14 → a ≠ 15 → a ≠ 16 → μb.1 a = μ.1 a := fun a h1 h2 a1 a2 a3 a4 => by rw [hb2.2.1 a h1, nm a h2, mx a a1 a2 a3 a4]
  have k127 : μ1.1 127 = μ.1 127 := by rw [m1 127 (by decide) (by decide), eb 127 rfl (by omega) (by decide) (by decide) (by decide) (by decide)]
  have k128 : μ1.1 128 = μ.1 128 := by rw [m1 128 (by decide) (by decide), eb 128 rfl (by omega) (by decide) (by decide) (by decide) (by decide)]
  have k129 : μ1.1 129 = μ.1 129 := by rw [m1 129 (by decide) (by decide), eb 129 rfl (by omega) (by decide) (by decide) (by decide) (by decide)]
  have k130 : μ1.1 130 = μ.1 130 := by rw [m1 130 (by decide) (by decide), eb 130 rfl (by omega) (by decide) (by decide) (by decide) (by decide)]
  have k131 : μ1.1 131 = μ.1 131 := by rw [m1 131 (by decide) (by decide), eb 131 rfl (by omega) (by decide) (by decide) (by decide) (by decide)]
  have k134 : μ1.1 134 = μ.1 134 := by rw [m1 134 (by decide) (by decide), eb 134 rfl (by omega) (by decide) (by decide) (by decide) (by decide)]
  have k136 : μ1.1 136 = μ.1 136 := by rw [m1 136 (by decide) (by decide), eb 136 rfl (by omega) (by decide) (by decide) (by decide) (by decide)]
  refine ⟨nI D.1, μ1, ?_, k127, k131, fun g' hg' => ?_⟩
  · rw [g0_5, obs, g0_0, obs, g1_0, obs, hmark, obs]
    exact hb1.trans hc1
  · generalize hρ : rdM (rowI (btM (Zr μ1) ln 60) 139 g') ln (-1) = ρ
    have ρn : ∀ z, z ≠ 127 → z ≠ 139 → ρ.1 z = μ1.1 z := fun z z1 z2 => by rw [← hρ, bt9_n z1 z2]
    have ρj : ∀ j, (rel 127 j = true ∨ j = 10) → j ≠ 8 → ρ.1 127 j = μ.1 127 j := fun j j1 j2 => by rw [← hρ, bt9_j j1 j2, k127]
    have ρ8 : ρ.1 127 8 = 0 := by rw [← hρ]; rfl
    have ρ139 : ρ.1 139 = g' := by rw [← hρ]; rfl
    have ρ2 : ρ.2 = μ1.2 := by rw [← hρ]; rfl
    have ρ128 : ρ.1 128 = μ.1 128 := (ρn 128 (by decide) (by decide)).trans k128
    have hlay := y_lay (κ := κ) (μ := ρ) (s := 128) (d := 137) (off := 0) (n := 42) rfl rfl (by decide) (by decide)
    rw [ρ128] at hlay
    generalize hσ : rowI ρ 137 (fb_put (ρ.1 137) (μ.1 128) 0 42) = σ at hlay
    have σn : ∀ z, z ≠ 137 → σ.1 z = ρ.1 z := fun z z1 => by rw [← hσ, rowI_n z1]
    have σ137 : ∀ q, q < 42 → σ.1 137 q = μ.1 128 q := fun q hq => by
      rw [← hσ, rowI_s, fb_put_in (by omega) (by omega)]
      rfl
    have σ2 : σ.2 = ρ.2 := by rw [← hσ]; rfl
    have σM : Mn σ hc tc kc lm := by
      unfold Mn
      rw [σn 127 (by decide), ρj 1 (Or.inl rfl) (by decide), ρj 2 (Or.inl rfl) (by decide), ρj 3 (Or.inl rfl) (by decide), ρj 6 (Or.inl rfl) (by decide)]
      exact hMμ
    obtain ⟨ζ, z1, z2, z3⟩ := hY σ (by rw [σn 129 (by decide), ρn 129 (by decide) (by decide), k129]) (by rw [σn 130 (by decide), ρn 130 (by decide) (by decide), k130]) (by rw [σn 128 (by decide), ρ128]) σM (by
      have e19 : σ.1 127 19 = cl μ 127 19 := by rw [σn 127 (by decide), ρj 19 (Or.inl rfl) (by decide)]; rfl
      have e134 : σ.1 134 = cl μ 134 := by rw [σn 134 (by decide), ρn 134 (by decide) (by decide), k134]; rfl
      unfold RY
      rw [e19, e134]
      exact w3) (by rw [σn 139 (by decide), ρ139]; exact hg')
    have ζM : Mn ζ hc tc kc lm := z3.mn σM
    have ζ23 : ζ.1 127 23 = nI un := by rw [z3.2.1 23 (by omega) (by omega), σn 127 (by decide), ρj 23 (Or.inl rfl) (by decide)]; exact p5
    have ζ136 : ζ.1 136 = μ.1 136 := by rw [z3.1 136 (by decide) (by decide) (by decide), σn 136 (by decide), ρn 136 (by decide) (by decide), k136]
    have ζ137 : ζ.1 137 = σ.1 137 := z3.1 137 (by decide) (by decide) (by decide)
    have ζn : ∀ z, z ≠ 127 → z ≠ 128 → z ≠ 135 → z ≠ 137 → z ≠ 139 → ζ.1 z = μ1.1 z := fun z y1 y2 y3 y4 y5 => by rw [z3.1 z y1 y2 y3, σn z y4, ρn z y1 y5]
    have ζj : ∀ j, (rel 127 j = true ∨ j = 10) → j ≠ 8 → ζ.1 127 j = μ.1 127 j := fun j j1 j2 => by
      have hb : (j < 12 ∨ 17 ≤ j) ∧ j ≠ 20 := by
        rcases j1 with j1 | j1
        · have := rel_no j1; omega
        · omega
      rw [z3.2.1 j hb.1 hb.2, σn 127 (by decide), ρj j j1 j2]
    have ζ8 : ζ.1 127 8 = 0 := by rw [z3.2.1 8 (by omega) (by omega), σn 127 (by decide), ρ8]
    have ζ2 : ζ.2 = μ1.2 := by rw [z3.2.2, σ2, ρ2]
    have ζ129 : ζ.1 129 = μ.1 129 := (ζn 129 (by decide) (by decide) (by decide) (by decide) (by decide)).trans k129
    have ζ130 : ζ.1 130 = μ.1 130 := (ζn 130 (by decide) (by decide) (by decide) (by decide) (by decide)).trans k130
    -- what the reference leaves
    have href : ∃ θ, b_X12_day_131 127 (nI l.length) (nI D.1) (hp κ ζ) = some (nI D.1, hp κ (MM θ (dV l.length D.1) (dU D.2 (μ.1 129) (μ.1 130) hc tc kc lm))) ∧ (∀ a, a ≠ 127 → a ≠ 136 → θ.1 a = ζ.1 a) ∧ (∀ j, j ≠ 23 → θ.1 127 j = ζ.1 127 j) ∧ θ.2 = ζ.2 ∧ ((D.1 = 0 ∧ θ.1 136 = μ.1 136 ∧ θ.1 127 23 = μ.1 127 23) ∨ (0 < D.1 ∧ θ.1 127 23 = nI (if un < 12 then un + 1 else 12) ∧ θ.1 136 = rem (μ.1 136) (σ.1 137) un)) := by
      by_cases c : D.1 = 0
      · refine ⟨ζ, ?_, fun _ _ _ => rfl, fun _ _ => rfl, rfl, Or.inl ⟨c, ζ136, ζ23.trans p5.symm⟩⟩
        unfold b_X12_day_131
        rw [if_pos (show nI D.1 ≤ 0 by rw [c]; decide), y_dtail ζM (by omega) (by omega), z2, ζ129, ζ130]
      · have hrm := y_remember (κ := κ) (μ := ζ) (s := 137) (un := un) rfl (by decide) (by decide) ζ23 hP.2.1
        rw [ζ136, ζ137] at hrm
        generalize hθ : upI (rowI ζ 136 (rem (μ.1 136) (σ.1 137) un)) 127 23 (nI (if un < 12 then un + 1 else 12)) = θ at hrm
        have t1 : ∀ a, a ≠ 127 → a ≠ 136 → θ.1 a = ζ.1 a := fun a a1 a2 => by rw [← hθ, rowI_n a1, rowI_n a2]
        have t2 : ∀ j, j ≠ 23 → θ.1 127 j = ζ.1 127 j := fun j j1 => by rw [← hθ, rowI_s, pk_un j1, rowI_n (by decide)]
        have θM : Mn θ hc tc kc lm := by
          unfold Mn
          rw [t2 1 (by decide), t2 2 (by decide), t2 3 (by decide), t2 6 (by decide)]
          exact ζM
        refine ⟨θ, ?_, t1, t2, by rw [← hθ]; rfl, Or.inr ⟨by omega, by rw [← hθ]; rfl, by rw [← hθ]; rfl⟩⟩
        unfold b_X12_day_131
        rw [if_neg (show ¬ nI D.1 ≤ 0 from nI_ge (a := 0) (by omega) (by omega)), g127_24, obs, hrm, obs, y_dtail θM (by omega) (by omega), t1 128 (by decide) (by decide), t1 129 (by decide) (by decide), t1 130 (by decide) (by decide), z2, ζ129, ζ130]
    obtain ⟨θ, r1, r2, r3, r4, r5⟩ := href
    refine ⟨MM θ (dV l.length D.1) (dU D.2 (μ.1 129) (μ.1 130) hc tc kc lm), ?_, ?_, ?_⟩
    · unfold dTl
      have hlay : F_X12_lay 128 137 0 (hp κ ρ) = _ := hlay
      rw [hlay, obs]
      exact z1.trans r1
    · have xn : ∀ a, a ≠ 127 → a ≠ 128 → a ≠ 135 → a ≠ 136 → a ≠ 137 → a ≠ 139 → (MM θ (dV l.length D.1) (dU D.2 (μ.1 129) (μ.1 130) hc tc kc lm)).1 a = μ1.1 a := fun a a1 a2 a3 a4 a5 a6 => by rw [MM_n a1, r2 a a1 a4, ζn a a1 a2 a3 a5 a6]
      have xb : ∀ a, a ≠ 0 → a ≠ 24 → a ≠ 127 → a ≠ 128 → a ≠ 135 → a ≠ 136 → a ≠ 137 → a ≠ 139 → (MM θ (dV l.length D.1) (dU D.2 (μ.1 129) (μ.1 130) hc tc kc lm)).1 a = μb.1 a := fun a z0 z24 a1 a2 a3 a4 a5 a6 => by rw [xn a a1 a2 a3 a4 a5 a6, m1 a z0 z24]
      have x24 : (MM θ (dV l.length D.1) (dU D.2 (μ.1 129) (μ.1 130) hc tc kc lm)).1 24 = μc.1 24 := by rw [xn 24 (by decide) (by decide) (by decide) (by decide) (by decide) (by decide), ← hμ1, TT_n (by decide)]
      refine inv_day (d := D.1) (A' := D.2) hir hP hws' (sx_day ?_ ?_ ?_ ?_ ?_) ?_ hWD ?_ ?_ ?_
      · intro a ha
        have ne : ∀ b, chg b = true → a ≠ b := fun b hb z => by rw [z, hb] at ha; cases ha
        have hr : a < 26 ∨ 90 < a := by
          unfold chg at ha
          simp only [Bool.or_eq_false_iff, Bool.and_eq_false_iff, decide_eq_false_iff_not] at ha
          omega
        rw [xb a (ne 0 rfl) (ne 24 rfl) (ne 127 rfl) (ne 128 rfl) (ne 135 rfl) (ne 136 rfl) (ne 137 rfl) (ne 139 rfl)]
        refine eb a ?_ hr (ne 11 rfl) (ne 14 rfl) (ne 15 rfl) (ne 16 rfl)
        have n2 := ne 2 rfl
        have n3 := ne 3 rfl
        have n4 := ne 4 rfl
        have n5 := ne 5 rfl
        have n6 := ne 6 rfl
        have n9 := ne 9 rfl
        have n10 := ne 10 rfl
        have n19 := ne 19 rfl
        simp only [List.contains_eq_mem, List.mem_cons, List.not_mem_nil, or_false, decide_eq_false_iff_not, not_or]
        omega
      · rw [xn 0 (by decide) (by decide) (by decide) (by decide) (by decide) (by decide), ← hμ1]
        show μc.1 0 13 = _
        rw [hc2 0 (by decide), eb 0 rfl (by omega) (by decide) (by decide) (by decide) (by decide)]
      · rw [xb 11 (by decide) (by decide) (by decide) (by decide) (by decide) (by decide) (by decide) (by decide), hb2.2.1 11 rfl, nm 11 (by omega)]
        exact m11
      · rw [MM_j (by decide), r3 8 (by decide)]
        exact ζ8
      · intro j j1 j2 j3
        have h10 : j ≠ 10 := fun z => by rw [z] at j1; cases j1
        rw [MM_j h10, r3 j j3, ζj j (Or.inl j1) j2]
      · exact hb2.1.cg (fun a h1 h2 => xb a (by omega) (by omega) (by omega) (by omega) (by omega) (by omega) (by omega) (by omega))
      · rw [MM_n (by decide), r2 128 (by decide) (by decide), z2]
      · intro j hj hn a h1 h2
        rw [xb a (by omega) (by omega) (by omega) (by omega) (by omega) (by omega) (by omega) (by omega), hb2.2.1.rg 26 90 rfl a (by omega) (by omega), cpS_out (by omega), mx a (by omega) (by omega) (by omega) (by omega)]
      · have hst : StA (MM θ (dV l.length D.1) (dU D.2 (μ.1 129) (μ.1 130) hc tc kc lm)).1 (26 + 5 * ((od + un) % 13)) (μ.1 128) := by
          have hx2 : StA μx.1 2 (μ.1 128) := hXx.2.1
          exact (cpS_st (a := 26 + 5 * ((od + un) % 13)) hx2).cg (fun a h1 h2 => by
            rw [xb a (by omega) (by omega) (by omega) (by omega) (by omega) (by omega) (by omega) (by omega), hb2.2.1.rg 26 90 rfl a (by omega) (by omega)])
        rcases hc4 with ⟨c1, c2⟩ | ⟨c1, c2, c3⟩
        · rcases r5 with ⟨-, s1, s2⟩ | ⟨s1, -⟩
          · exact Or.inl ⟨x24.trans c2, by rw [MM_n (by decide)]; exact s1, by rw [MM_j (by decide)]; exact s2⟩
          · omega
        · rcases r5 with ⟨s1, -⟩ | ⟨-, s1, s2⟩
          · omega
          · exact Or.inr ⟨by rw [x24]; exact c2, by rw [x24]; exact c3, by rw [MM_j (by decide)]; exact s1, ⟨σ.1 137, σ137, by rw [MM_n (by decide)]; exact s2⟩, hst⟩
    · refine row_TM (ν := μ) ?_ ?_ ?_
      · rw [r2 0 (by decide) (by decide), ζn 0 (by decide) (by decide) (by decide) (by decide) (by decide), ← hμ1]
        rfl
      · rw [r4, ζ2, ← hμ1]
        rfl
      · rw [r4, ζ2, ← hμ1]
        rfl
theorem pr_day : P0 F_X11_day F_X12_day := by
  intro κ B μ hR hB hI
  obtain ⟨ln, tx, hl, u1, t8, htx⟩ := hI.tx
  by_cases c0 : ln = 0
  · subst c0
    obtain ⟨v, μ1, h1, h2, h3, h4⟩ := day_core (κ := κ) (μ := μ) (μx := upI μ 11 1 0) (ln := 0) (l := []) hR hB hI (fun x hx => nomatch hx) (Nat.zero_le _) (fun z z1 _ _ _ => rowI_n z1) rfl rfl (fun k hk => absurd hk (Nat.not_lt_zero _))
    obtain ⟨g', hg⟩ := y_dayR (κ := κ) (ν := μ1) (ln := 0) (T := 0) (tx := tx) (by rw [h2]; exact t8) (by decide) rfl (fun i hi => absurd hi (Nat.not_lt_zero _))
    obtain ⟨ξ, k1, k2⟩ := h4 g' (fun k hk => absurd hk (Nat.not_lt_zero _))
    refine ⟨v, μ1, ξ, ?_, ?_, k2⟩
    · unfold F_X11_day b_X11_day_21
      rw [if_pos q0, g0_1, obs, g11_1, obs, u1, if_pos (show nI 0 = 0 from rfl), obs, p11_1, obs, if_pos (show (0 : Int32) ≤ 0 by decide)]
      exact h1
    · rcases hg with ⟨-, hg⟩ | ⟨z, -⟩ | ⟨z, -⟩
      · rw [hg]; exact k1
      · omega
      · omega
  · obtain ⟨T, hT⟩ : ∃ T, T = if ln ≤ 60 then ln else 60 := ⟨_, rfl⟩
    have hT2 : T ≤ 60 ∧ T ≤ ln := by split at hT <;> omega
    have hne : ¬ nI ln = 0 := fun z => c0 ((i_eq (b := 0) (by omega) (by decide)).mp z)
    obtain ⟨g, f, e, hx, hi⟩ := x_readD (κ := κ) (ν := μ) u1 hl hT (fun i hi => ⟨(htx i hi).1, (htx i hi).2.1⟩)
    have hok := rda_ok (tx := tx) (T := T) 20 0 (Nat.zero_le _)
    have hY := fun (ν : Mem) (v8 : ν.1 127 8 = nI ln) (v131 : ν.1 131 = μ.1 131) => y_dayR (κ := κ) (ν := ν) v8 hl hT (fun i hi => by rw [v131]; exact ⟨(htx i hi).1, (htx i hi).2.2⟩)
    generalize rda (pkf tx T) 20 0 = q at hx hi hok hY
    have hq80 : q.2.1 ≤ 80 := by have := hok.1; omega
    have mx : ∀ z, z ≠ 11 → z ≠ 14 → z ≠ 15 → z ≠ 16 → (upI (kxM (rowI (upI μ 11 3 (nI T)) 16 e) q.2.1 g f) 11 1 0).1 z = μ.1 z := fun z z1 z2 z3 z4 => by
      rw [rowI_n z1]
      unfold kxM
      rw [rowI_n z3, rowI_n z2, rowI_n z1, rowI_n z4, rowI_n z1]
    by_cases cy : q.1 = true ∧ q.2.1 = ln
    · rw [if_pos cy] at hx
      obtain ⟨v, μ1, h1, h2, h3, h4⟩ := day_core (κ := κ) (μ := μ) (μx := upI (kxM (rowI (upI μ 11 3 (nI T)) 16 e) q.2.1 g f) 11 1 0) (ln := ln) (l := q.2.2) hR hB hI hok.2.2 hok.2.1 mx rfl rfl (hi cy.1)
      obtain ⟨g', hg⟩ := hY μ1 (by rw [h2]; exact t8) h3
      rcases hg with ⟨z, -⟩ | ⟨-, -, -, r3, r4⟩ | ⟨-, z, -⟩
      · exact absurd z c0
      · obtain ⟨ξ, k1, k2⟩ := h4 g' r3
        refine ⟨v, μ1, ξ, ?_, by rw [r4]; exact k1, k2⟩
        unfold F_X11_day b_X11_day_21
        have hl20 := hok.2.1
        rw [if_pos q0, g0_1, obs, g11_1, obs, u1, if_neg hne, g0_2, obs, hx, obs]
        (try dsimp only)
        rw [g0_1, obs, p11_1, obs, if_pos (show (0 : Int32) ≤ nI q.2.2.length from nI_le (a := 0) (by omega) (by omega))]
        exact h1
      · exact absurd cy z
    · rw [if_neg cy] at hx
      obtain ⟨g', hg⟩ := hY (upI (kxM (rowI (upI μ 11 3 (nI T)) 16 e) q.2.1 g f) 11 1 0) t8 rfl
      rcases hg with ⟨z, -⟩ | ⟨-, z1, z2, -⟩ | ⟨-, -, a', w', hg⟩
      · exact absurd z c0
      · exact absurd ⟨z1, z2⟩ cy
      · have n0 : ¬ (0 : Int32) ≤ -1 - nI q.2.1 := fun z => by
          have h1 := (ng_pos hq80).1
          have h2 := (ng_pos hq80).2
          apply h2
          rw [fa_le] at z h1
          exact Int32.toInt_inj.mp (by omega)
        refine ⟨-1 - nI q.2.1, upI (kxM (rowI (upI μ 11 3 (nI T)) 16 e) q.2.1 g f) 11 1 0, _, ?_, hg, ?_⟩
        · unfold F_X11_day b_X11_day_21
          rw [if_pos q0, g0_1, obs, g11_1, obs, u1, if_neg hne, g0_2, obs, hx, obs]
          (try dsimp only)
          rw [g0_1, obs, p11_1, obs, if_neg n0]
        · have X : ∀ z, z ≠ 11 → z ≠ 14 → z ≠ 15 → z ≠ 16 → z ≠ 127 → z ≠ 139 → (rdM (rowI (btM (Zr (upI (kxM (rowI (upI μ 11 3 (nI T)) 16 e) q.2.1 g f) 11 1 0)) ln 60) 139 g') a' w').1 z = μ.1 z := fun z z1 z2 z3 z4 z5 z6 => by rw [bt9_n z5 z6, mx z z1 z2 z3 z4]
          refine inv_bad2 hI ?_ ?_ ?_ ?_ ?_ ?_ rfl
          · intro a ha
            have ne : ∀ b, chg b = true → a ≠ b := fun b hb z => by rw [z, hb] at ha; cases ha
            exact X a (ne 11 rfl) (ne 14 rfl) (ne 15 rfl) (ne 16 rfl) (ne 127 rfl) (ne 139 rfl)
          · intro a ha
            exact X a (by omega) (by omega) (by omega) (by omega) (by omega) (by omega)
          · exact X 0 (by decide) (by decide) (by decide) (by decide) (by decide) (by decide)
          · rw [bt9_n (by decide) (by decide)]
            rfl
          · rfl
          · intro j j1 j2
            rw [bt9_j j1 j2]
            rfl
