/-! PURE: pairs: hours. -/
section PHS
variable {κ : Kp} {μ ν : Mem} {A mu mn : Nat → Int32} {hc tc kc lm B : Nat}
theorem xa_41 {A' : Nat → Int32} (h : XA μ ν A' mu mn hc tc kc lm) (v : Int32) : XA μ (upI ν 2 4 v) (upd A' 41 v) mu mn hc tc kc lm := by
  obtain ⟨h0, h5, h6⟩ := h
  have b2 := h0.b2
  obtain ⟨h1, ⟨s1, s2, s3⟩, h3, h4⟩ := h0
  refine ⟨⟨h1.cg rfl, ⟨fun t ht => ?_, fun x hx => ?_, ?_⟩, h3.cg rfl rfl, ?_⟩, h5.up rfl, h6⟩
  · rw [pk_un (by omega), pk_un (by omega), pk_un (by omega)]
    exact s1 t ht
  · rw [pk_un (by omega)]
    exact s2 x hx
  · rw [pk_us]
    rfl
  · have h4' : SoX (upI ν 2 4 v).1 A' mu mn tc kc := h4
    exact h4'.cA (fun u hu => by rw [pk_un (by omega)])
theorem C_passHours (h : Xc μ A mu mn hc tc kc lm) {r n : Nat} (h41 : A 41 = nI r) (hr : r ≤ 1500000) (hn : n ≤ 60) : ∃ ν, F_X10_passHours 1 (nI n) (hp κ μ) = some (nI (hrI A mu mn hc tc kc lm n).1, hp κ ν) ∧ XA μ ν (hrI A mu mn hc tc kc lm n).2 mu mn hc tc kc lm := by
  have b1 := h.b1
  have b2 := h.b2
  unfold F_X10_passHours
  rw [if_pos q1, if_neg (nI_pos (by omega)), if_pos (show nI n ≤ 60 from nI_le (b := 60) hn (by omega)), g1_5, obs, h.1.1]
  have hv : (if nI hc < nI n then nI hc else nI n) = nI (if hc < n then hc else n) := by
    by_cases c : hc < n
    · rw [if_pos (nI_lt c (by omega)), if_pos c]
    · rw [if_neg (nI_nlt (by omega) (by omega)), if_neg c]
  rw [hv]
  have hle : (if hc < n then hc else n) ≤ n := by split <;> omega
  have hfin : (hrI A mu mn hc tc kc lm n).1 = (hrI A mu mn hc tc kc lm (if hc < n then hc else n)).1 ∧ (hrI A mu mn hc tc kc lm n).2 = upd (hrI A mu mn hc tc kc lm (if hc < n then hc else n)).2 41 (nI (r + n)) := by
    by_cases c : hc < n
    · rw [if_pos c]
      have h2 := hrI_still (mu := mu) (mn := mn) (kc := kc) (lm := lm) b1 b2 h41 (by omega) (n - hc) (by omega)
      rw [show hc + (n - hc) = n by omega, show r + hc + (n - hc) = r + n by omega] at h2
      rw [h2]
      exact ⟨rfl, rfl⟩
    · rw [if_neg c]
      exact ⟨rfl, (fa_upd_same (hrI_41 h41 n)).symm⟩
  generalize (if hc < n then hc else n) = v at hle hfin
  obtain ⟨ξ, hx1, hx2⟩ := lpe (fun f i (ν : Mem) => b_X10_passHours_26 1 (nI n) (nI v) f (nI (hrI A mu mn hc tc kc lm i).1) (nI i) (hp κ ν)) (fun i ν => XA μ ν (hrI A mu mn hc tc kc lm i).2 mu mn hc tc kc lm) v (fun i ν hi hQ => by
    obtain ⟨ξ, g1, g2⟩ := C_passHour (κ := κ) hQ.1 (r := r + i) (hrI_41 h41 i) (by omega)
    refine ⟨ξ, fun f => ?_, hQ.tr g2⟩
    (try dsimp only)
    rw [b_X10_passHours_26, if_neg (nI_ge hi (by omega)), g1, obs]
    (try dsimp only)
    rw [i_or, nI_1]
    rfl) μ (XA.rf h) v (Nat.le_refl v)
  have h9 := hx2 (4999 - v + 1)
  (try dsimp only at h9)
  rw [show 4999 - v + 1 + v = 5000 by omega] at h9
  refine ⟨upI ξ 2 4 (nI (r + n)), ?_, ?_⟩
  · refine Eq.trans h9 ?_
    have e : ξ.1 2 4 = nI (r + v) := hx1.1.2.1.2.2.trans (hrI_41 h41 v)
    rw [b_X10_passHours_26, if_pos (nI_le (Nat.le_refl v) (by omega)), g1_0, obs, g2_4, obs, e, pk_sub hle, nI_add, p2_4, obs, hfin.1, show r + v + (n - v) = r + n by omega]
  · rw [hfin.2]
    exact xa_41 hx1 _
theorem C_passHours0 {x : Int32} (hx : x < 0 ∨ 60 < x) : F_X10_passHours 1 x (hp κ μ) = some (-1, hp κ μ) := by
  unfold F_X10_passHours
  rw [if_pos q1]
  by_cases c : x < 0
  · rw [if_pos c]
  · rcases hx with hx | hx
    · exact absurd hx c
    · rw [if_neg c, if_neg (fun z => by rw [fa_le] at z; rw [fa_lt] at hx; omega)]
end PHS
/-- two rows told on both sides -/
def TT (μ : Mem) (v u : Int64) : Mem := TB (TB (T0 μ) 0 v) 1 u
def MM (ν : Mem) (v u : Int64) : Mem := MB (MB (M0 ν) 0 v) 1 u
theorem TT_sx {μ ν : Mem} {v u : Int64} (h : SmX μ ν) : SmX μ (TT ν v u) := ((h.up (a := 0) (j := 7) rfl (Or.inl rfl)).up (a := 0) (j := 7) rfl (Or.inl rfl)).up (a := 0) (j := 7) rfl (Or.inl rfl)
theorem MM_sx {μ ν : Mem} {v u : Int64} (h : SmX μ ν) : SmX μ (MM ν v u) := ((h.up (a := 127) (j := 10) rfl (Or.inl rfl)).up (a := 127) (j := 10) rfl (Or.inl rfl)).up (a := 127) (j := 10) rfl (Or.inl rfl)
theorem TT_n {μ : Mem} {v u : Int64} {a : Nat} (h : a ≠ 0) : (TT μ v u).1 a = μ.1 a := by
  show (upI (upI (upI μ 0 7 0) 0 7 (nI 1)) 0 7 (nI 2)).1 a = _
  rw [rowI_n h, rowI_n h, rowI_n h]
theorem MM_n {μ : Mem} {v u : Int64} {a : Nat} (h : a ≠ 127) : (MM μ v u).1 a = μ.1 a := by
  show (upI (upI (upI μ 127 10 0) 127 10 (nI 1)) 127 10 (nI 2)).1 a = _
  rw [rowI_n h, rowI_n h, rowI_n h]
theorem MM_j {μ : Mem} {v u : Int64} {j : Nat} (h : j ≠ 10) : (MM μ v u).1 127 j = μ.1 127 j := by
  show upd (upd (upd (μ.1 127) 10 0) 10 (nI 1)) 10 (nI 2) j = _
  rw [pk_un h, pk_un h, pk_un h]
theorem row_TM {ν ξ : Mem} {v u : Int64} (h0 : ξ.1 0 7 = 2) (h1 : ξ.2 91 0 = v) (h2 : ξ.2 91 1 = u) : Row (MM ξ v u) := by
  refine ⟨2, by decide, h0, rfl, fun i hi => ?_⟩
  have e : i = 0 ∨ i = 1 := by omega
  rcases e with e | e
  · rw [e]; exact h1
  · rw [e]; exact h2
theorem y_tell2 {κ : Kp} {ν : Mem} {v u : Int64} : (F_X12_tell 127 v (hp κ (M0 ν))) = some (hp κ (MB (M0 ν) 0 v)) ∧ F_X12_tell 127 u (hp κ (MB (M0 ν) 0 v)) = some (hp κ (MM ν v u)) := ⟨y_tell0, y_tell1 (i := 0) (by decide)⟩
theorem rmM_n {ν : Mem} {un a : Nat} (h1 : a ≠ 127) (h2 : a ≠ 136) : (rmM ν un).1 a = ν.1 a := by
  unfold rmM
  rw [rowI_n h1, rowI_n h2]
theorem Zr_n {ν : Mem} {a : Nat} (h : a ≠ 127) : (Zr ν).1 a = ν.1 a := rowI_n h
theorem rmM_sx {μ ν : Mem} {un : Nat} (h : SmX μ ν) : SmX μ (rmM ν un) := (h.row (a := 136) rfl (fun _ => rfl)).up (a := 127) (j := 23) rfl (Or.inr ⟨rfl, rfl⟩)
theorem inv_tell {B hc tc kc lm od un : Nat} {μ : Mem} (hir : IR (cl μ) hc tc kc lm B) (hP : PaM μ hc tc B od un) (hsr : CS μ.1 (μ.1 128)) (hws : WS (μ.1 128) hc tc B) {μb : Mem} {A' : Nat → Int32} (hX : XA (cpS μ (26 + 5 * ((od + un) % 13)) 2) μb A' (μ.1 129) (μ.1 130) hc tc kc lm) (v u : Int64) (hW : WS A' hc tc (B + 1200)) : Inv (B + 1200) (MM (rowI (rmM (Zr (TT (hdM μb od un) v u)) un) 128 A') v u) := by
  have hl : (od + un) % 13 < 13 := Nat.mod_lt _ (by decide)
  have nm : ∀ a, a < 26 ∨ 90 < a → (cpS μ (26 + 5 * ((od + un) % 13)) 2).1 a = μ.1 a := fun a ha => cpS_out (by omega)
  have eb : ∀ a, [2, 3, 4, 5, 6, 9, 10, 19].contains a = false → a < 26 ∨ 90 < a → μb.1 a = μ.1 a := fun a h1 h2 => by rw [hX.2.1 a h1, nm a h2]
  refine ⟨?_, row_TM (ν := μ) rfl rfl rfl⟩
  refine inv_act hir hP hsr hws hX (μc := hdM μb od un) ⟨?_, ?_⟩ (Or.inr ⟨rfl, hW, ?_, ?_, ?_⟩)
  · intro a a0 a1 a2 a3 a4 a5
    rw [MM_n a1, rowI_n a2, rmM_n a1 a4, Zr_n a1, TT_n a0]
  · exact MM_sx ((rmM_sx (TT_sx SmX.rf).z).row (a := 128) rfl (fun _ => rfl))
  · rw [MM_n (by decide), rowI_s]
  · rw [MM_n (by decide), rowI_n (by decide)]
    show rem ((Zr (TT (hdM μb od un) v u)).1 136) ((Zr (TT (hdM μb od un) v u)).1 128) un = _
    rw [Zr_n (by decide), Zr_n (by decide), TT_n (by decide), TT_n (by decide), hdM_n (by decide), hdM_n (by decide), eb 136 rfl (by omega), eb 128 rfl (by omega)]
  · rw [MM_j (by decide)]
    rfl
theorem inv_tell0 {B hc tc kc lm od un : Nat} {μ : Mem} (hir : IR (cl μ) hc tc kc lm B) (hP : PaM μ hc tc B od un) (hsr : CS μ.1 (μ.1 128)) (hws : WS (μ.1 128) hc tc B) {μb : Mem} (hX : XA (cpS μ (26 + 5 * ((od + un) % 13)) 2) μb (μ.1 128) (μ.1 129) (μ.1 130) hc tc kc lm) (v u : Int64) {ξ : Mem} (hξ : SmR (TT μb v u) ξ) (h8 : ξ.1 128 = μ.1 128) (h6 : ξ.1 136 = μ.1 136) (h23 : ξ.1 127 23 = nI un) (hrk : ξ.2 = (TT μb v u).2) : Inv (B + 1200) (MM ξ v u) := by
  refine ⟨?_, row_TM (ν := μ) ?_ ?_ ?_⟩
  · refine inv_act hir hP hsr hws hX (μc := μb) ⟨?_, ?_⟩ (Or.inl ⟨rfl, rfl, ?_, ?_, ?_⟩)
    · intro a a0 a1 a2 a3 a4 a5
      rw [MM_n a1, hξ.1 a a1 a2 a3 a4 a5, TT_n a0]
    · exact MM_sx ((TT_sx SmX.rf).tr hξ.sx)
    · rw [MM_n (by decide), h8]
    · rw [MM_n (by decide), h6]
    · rw [MM_j (by decide), h23]
  · rw [hξ.1 0 (by decide) (by decide) (by decide) (by decide) (by decide)]
    rfl
  · rw [hrk]; rfl
  · rw [hrk]; rfl
theorem x_holdM {κ : Kp} {μ : Mem} {od un : Nat} (h1 : μ.1 24 1 = nI od) (h2 : μ.1 24 2 = nI un) (ho : od < 13) (hu : un ≤ 12) : F_X2_hold 24 (hp κ μ) = some (hp κ (hdM μ od un)) := x_hold h1 h2 ho hu
theorem pr_hours : P1 F_X11_hours F_X12_hours := by
  intro x κ B μ hR hB hI
  (try dsimp only)
  obtain ⟨hIC, hrow⟩ := hI
  obtain ⟨hc, tc, kc, lm, hir, hsr, hws, hso, hpa⟩ := hIC.ir
  obtain ⟨od, un, hP⟩ := PaM_iff.mp hpa
  have hT := hir.tn
  have hM := hir.mn
  have b1 := hT.2.2.2.2.1
  have b2 := hT.2.2.2.2.2.1
  have hK : Kx μ.1 (μ.1 129) (μ.1 130) kc := hir.kx
  have hsr' : CS μ.1 (μ.1 128) := SR_0.mp hsr
  have hws' : WS (μ.1 128) hc tc B := hws
  have hso' : SoX μ.1 (μ.1 128) (μ.1 129) (μ.1 130) tc kc := hso
  have hl : (od + un) % 13 < 13 := Nat.mod_lt _ (by decide)
  have nm : ∀ a, a < 26 ∨ 90 < a → (cpS μ (26 + 5 * ((od + un) % 13)) 2).1 a = μ.1 a := fun a ha => cpS_out (by omega)
  have hXm : Xc (cpS μ (26 + 5 * ((od + un) % 13)) 2) (μ.1 128) (μ.1 129) (μ.1 130) hc tc kc lm := by
    refine ⟨hT.cg (nm 1 (by omega)), ?_, hK.cg (nm 7 (by omega)) (nm 8 (by omega)), ?_⟩
    · have hs : StA μ.1 2 (μ.1 128) := hsr'
      exact hs.cg (fun a h1 h2 => nm a (by omega))
    · unfold SoX at hso' ⊢
      rw [nm 9 (by omega), nm 10 (by omega)]
      exact hso'
  have hmark := x_mark (κ := κ) (μ := μ) hR hP.2.2.1 hP.2.2.2.1 hP.1 hP.2.1
  obtain ⟨r, hr1, hr2⟩ := hws'.2.2
  have hout : (x < 0 ∨ 60 < x) → (∀ h, F_X12_in x 0 60 h = some (0, h)) → ∃ (v : Int32) (μ1 μ2 : Mem), F_X11_hours 0 x (hp κ μ) = some (v, hp κ μ1) ∧ F_X12_hours 127 x (hp κ μ1) = some (v, hp κ μ2) ∧ Inv (B + 1200) μ2 := fun h1 h2 => by
    refine ⟨-1, cpS μ (26 + 5 * ((od + un) % 13)) 2, Zr (cpS μ (26 + 5 * ((od + un) % 13)) 2), ?_, ?_, ?_, ?_⟩
    · unfold F_X11_hours
      rw [if_pos q0, g0_5, obs, g0_0, obs, g1_0, obs, hmark, obs, g0_0, obs, C_passHours0 h1, obs]
      rfl
    · unfold F_X12_hours
      rw [if_pos q127, p11, obs, h2, obs]
      rfl
    · exact inv_act hir hP hsr' hws' (XA.rf hXm) (SmR.sq (SmR.rf.up (Or.inl rfl))) (Or.inl ⟨rfl, rfl, by rw [Zr_n (by decide), nm 128 (by omega)], by rw [Zr_n (by decide), nm 136 (by omega)], by
        show (cpS μ (26 + 5 * ((od + un) % 13)) 2).1 127 23 = _
        rw [nm 127 (by omega)]; exact hP.2.2.2.2.1⟩)
    · obtain ⟨rs, r1, r2, r3, r4⟩ := hrow
      refine ⟨rs, r1, ?_, ?_, r4⟩
      · rw [Zr_n (by decide), nm 0 (by omega)]; exact r2
      · show (cpS μ (26 + 5 * ((od + un) % 13)) 2).1 127 10 = _
        rw [nm 127 (by omega)]; exact r3
  rcases rng x 0 60 0 60 rfl rfl (by omega) (by omega) with ⟨n, j1, j2, rfl, c1, c2, c3, c4, c5⟩ | ⟨c1, c2, c3⟩ | ⟨c1, c2, c3, c4, c5⟩
  · obtain ⟨μb, hb1, hb2⟩ := C_passHours (κ := κ) hXm hr2 (by omega) j2
    have hb0 := hb2
    have htl := hrI_lt (A := μ.1 128) (mu := μ.1 129) (mn := μ.1 130) (hc := hc) (kc := kc) (lm := lm) b2 n
    have h41 := hrI_41 (mu := μ.1 129) (mn := μ.1 130) (hc := hc) (tc := tc) (kc := kc) (lm := lm) hr2 n
    have hWn := hrI_ws (mu := μ.1 129) (mn := μ.1 130) (kc := kc) (lm := lm) hws' b1.2 b2 (by omega) n (by omega)
    have eb : ∀ a, [2, 3, 4, 5, 6, 9, 10, 19].contains a = false → a < 26 ∨ 90 < a → μb.1 a = μ.1 a := fun a h1 h2 => by rw [hb2.2.1 a h1, nm a h2]
    have e41 : μb.1 2 4 = nI (r + n) := hb2.1.2.1.2.2.trans h41
    have e24 : μb.1 24 = μ.1 24 := by rw [eb 24 rfl (by omega)]
    have hge : 0 ≤ nI (hrI (μ.1 128) (μ.1 129) (μ.1 130) hc tc kc lm n).1 := nI_le (a := 0) (by omega) (by omega)
    by_cases c : n = 0
    · subst c
      have e0 : nI 0 ≤ (0 : Int32) := by decide
      refine ⟨nI (cn (hrI (μ.1 128) (μ.1 129) (μ.1 130) hc tc kc lm 0).1), TT μb (nI (hrI (μ.1 128) (μ.1 129) (μ.1 130) hc tc kc lm 0).1).toInt64 (nI (r + 0)).toInt64, MM (rowI (Zr (TT μb (nI (hrI (μ.1 128) (μ.1 129) (μ.1 130) hc tc kc lm 0).1).toInt64 (nI (r + 0)).toInt64)) 128 (μ.1 128)) (nI (hrI (μ.1 128) (μ.1 129) (μ.1 130) hc tc kc lm 0).1).toInt64 (nI (r + 0)).toInt64, ?_, ?_, ?_⟩
      · unfold F_X11_hours b_X11_hours_40
        rw [if_pos q0, g0_5, obs, g0_0, obs, g1_0, obs, hmark, obs, g0_0, obs, hb1, obs]
        (try dsimp only)
        rw [if_pos hge, if_pos e0, g0_0, obs, g1_0, obs, g2_4, obs, e41, x_tellTwo, obs, bc htl, obs]
        rfl
      · have hz : ∀ a, a ≠ 127 → a ≠ 0 → a < 2 ∨ (10 < a ∧ a ≠ 19 ∧ (a < 26 ∨ 90 < a)) → (Zr (TT μb (nI (hrI (μ.1 128) (μ.1 129) (μ.1 130) hc tc kc lm 0).1).toInt64 (nI (r + 0)).toInt64)).1 a = μ.1 a := fun a a1 a2 a3 => by
          rw [Zr_n a1, TT_n a2, eb a (by simp only [List.contains_eq_mem, List.mem_cons, List.not_mem_nil, or_false, decide_eq_false_iff_not, not_or]; omega) (by omega)]
        have hMz : Mn (Zr (TT μb (nI (hrI (μ.1 128) (μ.1 129) (μ.1 130) hc tc kc lm 0).1).toInt64 (nI (r + 0)).toInt64)) hc tc kc lm := by
          refine Mn.z (hM.cg (fun j _ _ => ?_))
          rw [TT_n (by decide), eb 127 rfl (by omega)]
        have hg := y_goHours (κ := κ) hMz (m := 128) rfl (by decide) (by decide) (by decide) (r := r) (n := 0) (by rw [hz 128 (by omega) (by omega) (by omega)]; exact hr2) (by omega) (by omega)
        rw [hz 128 (by omega) (by omega) (by omega), hz 129 (by omega) (by omega) (by omega), hz 130 (by omega) (by omega) (by omega)] at hg
        unfold F_X12_hours b_X12_hours_29
        rw [if_pos q127, p11, obs, c5, obs]
        (try dsimp only)
        rw [if_neg (by decide), if_pos e0, g127_0, obs, hg, obs]
        (try dsimp only)
        rw [p10, obs, y_tell0, obs, g127_0, obs, show (41 : Int32) = nI 41 from rfl, r128 (by omega), obs]
        have e9 : (MB (M0 (rowI (Zr (TT μb (nI (hrI (μ.1 128) (μ.1 129) (μ.1 130) hc tc kc lm 0).1).toInt64 (nI (r + 0)).toInt64)) 128 (hrI (μ.1 128) (μ.1 129) (μ.1 130) hc tc kc lm 0).2)) 0 (nI (hrI (μ.1 128) (μ.1 129) (μ.1 130) hc tc kc lm 0).1).toInt64).1 128 41 = nI (r + 0) := h41
        rw [e9, (y_tell2 (u := (nI (r + 0)).toInt64)).2, obs, bc htl, obs]
        rfl
      · refine inv_tell0 hir hP hsr' hws' hb0 _ _ ((SmR.rf.up (Or.inl rfl)).row (Or.inl rfl)) rfl ?_ ?_ rfl
        · rw [rowI_n (by decide), Zr_n (by decide), TT_n (by decide), eb 136 rfl (by omega)]
        · show μb.1 127 23 = _
          rw [eb 127 rfl (by omega)]; exact hP.2.2.2.2.1
    · have e0 : ¬ nI n ≤ (0 : Int32) := nI_ge (a := 0) (by omega) (by omega)
      generalize hv : (nI (hrI (μ.1 128) (μ.1 129) (μ.1 130) hc tc kc lm n).1).toInt64 = v
      generalize hu : (nI (r + n)).toInt64 = u
      refine ⟨nI (cn (hrI (μ.1 128) (μ.1 129) (μ.1 130) hc tc kc lm n).1), TT (hdM μb od un) v u, MM (rowI (rmM (Zr (TT (hdM μb od un) v u)) un) 128 (hrI (μ.1 128) (μ.1 129) (μ.1 130) hc tc kc lm n).2) v u, ?_, ?_, ?_⟩
      · unfold F_X11_hours b_X11_hours_40
        rw [if_pos q0, g0_5, obs, g0_0, obs, g1_0, obs, hmark, obs, g0_0, obs, hb1, obs]
        (try dsimp only)
        have e42 : (hdM μb od un).1 2 4 = nI (r + n) := by rw [hdM_n (by decide)]; exact e41
        rw [if_pos hge, if_neg e0, g0_5, obs, x_holdM (od := od) (un := un) (by rw [e24]; exact hP.2.2.1) (by rw [e24]; exact hP.2.2.2.1) hP.1 hP.2.1, obs]
        rw [g0_0, obs, g1_0, obs, g2_4, obs, e42, hu, hv, x_tellTwo, obs, bc htl, obs]
        rfl
      · have hz : ∀ a, a ≠ 127 → a ≠ 136 → a ≠ 24 → a ≠ 0 → a < 2 ∨ (10 < a ∧ a ≠ 19 ∧ (a < 26 ∨ 90 < a)) → (rmM (Zr (TT (hdM μb od un) v u)) un).1 a = μ.1 a := fun a a1 a4 a5 a2 a3 => by
          rw [rmM_n a1 a4, Zr_n a1, TT_n a2, hdM_n a5, eb a (by simp only [List.contains_eq_mem, List.mem_cons, List.not_mem_nil, or_false, decide_eq_false_iff_not, not_or]; omega) (by omega)]
        have h127 : ∀ j, j ≠ 11 → j ≠ 23 → (rmM (Zr (TT (hdM μb od un) v u)) un).1 127 j = μ.1 127 j := fun j j1 j2 => by
          show upd (upd ((TT (hdM μb od un) v u).1 127) 11 0) 23 _ j = _
          rw [pk_un j2, pk_un j1, TT_n (by decide), hdM_n (by decide), eb 127 rfl (by omega)]
        have hMz : Mn (rmM (Zr (TT (hdM μb od un) v u)) un) hc tc kc lm := by
          unfold Mn
          rw [h127 1 (by decide) (by decide), h127 2 (by decide) (by decide), h127 3 (by decide) (by decide), h127 6 (by decide) (by decide)]
          exact hM
        have hg := y_goHours (κ := κ) hMz (m := 128) rfl (by decide) (by decide) (by decide) (r := r) (n := n) (by rw [hz 128 (by omega) (by omega) (by omega) (by omega) (by omega)]; exact hr2) (by omega) j2
        rw [hz 128 (by omega) (by omega) (by omega) (by omega) (by omega), hz 129 (by omega) (by omega) (by omega) (by omega) (by omega), hz 130 (by omega) (by omega) (by omega) (by omega) (by omega)] at hg
        have h23 : (Zr (TT (hdM μb od un) v u)).1 127 23 = nI un := by
          show (TT (hdM μb od un) v u).1 127 23 = _
          rw [TT_n (by decide), hdM_n (by decide), eb 127 rfl (by omega)]; exact hP.2.2.2.2.1
        unfold F_X12_hours b_X12_hours_29
        rw [if_pos q127, p11, obs, c5, obs]
        (try dsimp only)
        rw [if_neg (by decide), if_neg e0, g127_0, obs, y_rem h23 hP.2.1, obs, g127_0, obs, hg, obs]
        (try dsimp only)
        rw [hv, p10, obs, y_tell0, obs, g127_0, obs, show (41 : Int32) = nI 41 from rfl, r128 (by omega), obs]
        have e9 : (MB (M0 (rowI (rmM (Zr (TT (hdM μb od un) v u)) un) 128 (hrI (μ.1 128) (μ.1 129) (μ.1 130) hc tc kc lm n).2)) 0 v).1 128 41 = nI (r + n) := h41
        rw [e9, hu, (y_tell2 (u := u)).2, obs, bc htl, obs]
      · exact inv_tell hir hP hsr' hws' hb0 v u (hWn.up (by omega))
  · exact hout (Or.inl c1) c3
  · exact hout (Or.inr c1) c5
