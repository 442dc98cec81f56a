/-! PURE: pairs: undo, again. -/
theorem kset_cg {A A' mu mn : Nat → Int32} {tc k : Nat} (e : ∀ t, t < tc → A' t = A t) : kset A' mu mn tc k = kset A mu mn tc k := sb_cong (fun t ht => by rw [e t ht])
theorem wt_cg {A A' mu mn : Nat → Int32} {kc t : Nat} (e : A' t = A t) : wt A' mu mn kc t = wt A mu mn kc t := by
  unfold wt
  rw [e]
theorem SoX.cA {m : Nat → Nat → Int32} {A A' mu mn : Nat → Int32} {tc kc : Nat} (h : SoX m A mu mn tc kc) (e : ∀ t, t < tc → A' t = A t) : SoX m A' mu mn tc kc := by
  obtain ⟨h1, h2⟩ := h
  exact ⟨fun k hk => by rw [kset_cg e]; exact h1 k hk, fun t ht => by rw [wt_cg (e t ht)]; exact h2 t ht⟩
theorem srM_so {μ : Mem} {A mu mn : Nat → Int32} {tc kc : Nat} : SoX (srM μ A mu mn tc kc).1 A mu mn tc kc := by
  refine ⟨fun k hk => ?_, fun t ht => ?_⟩
  · show srK μ A mu mn tc kc k = _
    unfold srK
    rw [fa_fill_in hk]
  · show srW μ A mu mn tc kc t = _
    unfold srW
    rw [if_pos ht]
theorem srM_n {μ : Mem} {A mu mn : Nat → Int32} {tc kc a : Nat} (h : a ≠ 9) (h2 : a ≠ 10) : (srM μ A mu mn tc kc).1 a = μ.1 a := by
  unfold srM
  rw [rowI_n h, rowI_n h2]
theorem SmX.sr {μ ν : Mem} {A mu mn : Nat → Int32} {tc kc : Nat} (h : SmX μ ν) : SmX μ (srM ν A mu mn tc kc) := (h.row (a := 10) rfl (fun _ => rfl)).row (a := 9) rfl (fun _ => rfl)
theorem SmX.cp2 {μ ν : Mem} {b : Nat} (h : SmX μ ν) : SmX μ (cpS ν 2 b) := ((((h.row (a := 3) rfl (fun _ => rfl)).row (a := 4) rfl (fun _ => rfl)).row (a := 5) rfl (fun _ => rfl)).row (a := 6) rfl (fun _ => rfl)).up (a := 2) (j := 4) rfl (Or.inl rfl)
theorem SmX.z {μ ν : Mem} (h : SmX μ ν) : SmX μ (Zr ν) := h.up (a := 127) (j := 11) rfl (Or.inl rfl)
theorem PaM.le {μ ν : Mem} {hc tc B B' od un u : Nat} (h : PaM μ hc tc B od un) (hu : u ≤ un) (hB : B ≤ B') (e1 : ν.1 24 1 = μ.1 24 1) (e2 : ν.1 24 2 = nI u) (e3 : ν.1 127 23 = nI u) (e4 : ν.1 136 = μ.1 136) (e5 : ∀ a, 26 ≤ a → a ≤ 90 → ν.1 a = μ.1 a) : PaM ν hc tc B' od u := by
  obtain ⟨p1, p2, p3, p4, p5, p6⟩ := h
  refine ⟨p1, by omega, e1.trans p3, e2, e3, fun i hi => ?_⟩
  obtain ⟨q1, q2⟩ := p6 i (by omega)
  rw [e4]
  have hl : (od + i) % 13 < 13 := Nat.mod_lt _ (by decide)
  exact ⟨q1.cg (fun a h1 h2 => e5 a (by omega) (by omega)), q2.up hB⟩
section BK
variable {κ : Kp} {μ ν : Mem} {hc tc kc lm : Nat} {A : Nat → Int32}
theorem x_stepBack {od u : Nat} (hR : Ref0 κ) (h1 : μ.1 24 1 = nI od) (h2 : μ.1 24 2 = nI (u + 1)) (ho : od < 13) (hu : u < 12) : F_X2_stepBack 24 2 (hp κ μ) = some (hp κ (cpS (upI μ 24 2 (nI u)) 2 (26 + 5 * ((od + u) % 13)))) := by
  have hl : (od + u) % 13 < 13 := Nat.mod_lt _ (by decide)
  have e0 : ¬ nI (u + 1) ≤ (0 : Int32) := nI_ge (a := 0) (by omega) (by omega)
  have e1 : nI (u + 1) - 1 = nI u := pk_sub (a := u + 1) (b := 1) (by omega)
  unfold F_X2_stepBack
  rw [if_pos q24, g24_2, obs, h2, if_neg e0, obs, e1, p24_2, obs, g24_0, obs, g24_2, obs, rowI_s, pk_us, x_place (od := od) (by rw [rowI_s, pk_un (by decide)]; exact h1) ho (by omega), obs]
  (try dsimp only)
  rw [rR_hp (show hp_T[25]? = some (4, 13, []) from rfl) (Or.inl rfl) hl, hR.1 _ hl, obs, x_copy st_2 (st_p _ hl) (by omega), obs]
/-- a row of 42 brought into the reference's state -/
theorem y_undo_loop {u : Nat} (h : ν.1 127 23 = nI u) (hu : u < 12) : b_X12_undo_26 127 bigN 0 (hp κ ν) = some (nI u, hp κ (rowI ν 128 (fa_fill (fun q => ν.1 136 (42 * u + q)) (ν.1 128) 42))) := by
  have h1 := lpk (fun n k => b_X12_undo_26 127 n (nI k) (hp κ (rowI ν 128 (fa_fill (fun q => ν.1 136 (42 * u + q)) (ν.1 128) k)))) 42 (some (nI u, hp κ (rowI ν 128 (fa_fill (fun q => ν.1 136 (42 * u + q)) (ν.1 128) 42)))) ?_ ?_ bigN 0 (Nat.zero_le _) (by unfold bigN; omega)
  · (try dsimp only at h1)
    rw [fa_fill_0, rowI_id] at h1
    exact h1
  · intro n k hk
    (try dsimp only)
    have e : (42 : Int32) * nI u = nI (42 * u) := pk_mul 42 u
    have e2 : ∀ f, (rowI ν 128 f).1 127 23 = nI u := fun f => h
    rw [b_X12_undo_26, if_neg (show ¬ (42 : Int32) ≤ nI k from nI_ge hk (by decide)), g127_0, obs, g127_22, obs, g127_23, obs, e2, e, nI_add, r136 (show 42 * u + k < 504 by omega), obs, w128 (by omega), obs, nI_1]
    show b_X12_undo_26 127 n (nI (k + 1)) (hp κ (rowI (rowI ν 128 _) 128 (upd ((rowI ν 128 _).1 128) k (ν.1 136 (42 * u + k))))) = _
    rw [rowI_rowI, rowI_s, fa_fill_succ (fun q => ν.1 136 (42 * u + q))]
  · intro n
    (try dsimp only)
    have e2 : ∀ f, (rowI ν 128 f).1 127 23 = nI u := fun f => h
    rw [b_X12_undo_26, if_pos (by decide), g127_23, obs, e2]
theorem y_again_loop {i : Nat} (hi : i < 2) : b_X12_again_40 127 (nI i) bigN 0 (hp κ ν) = some (1, hp κ (upI (rowI ν 128 (fa_fill (fun q => ν.1 145 (42 * i + q)) (ν.1 128) 42)) 127 23 0)) := by
  have h1 := lpk (fun n k => b_X12_again_40 127 (nI i) n (nI k) (hp κ (rowI ν 128 (fa_fill (fun q => ν.1 145 (42 * i + q)) (ν.1 128) k)))) 42 (some (1, hp κ (upI (rowI ν 128 (fa_fill (fun q => ν.1 145 (42 * i + q)) (ν.1 128) 42)) 127 23 0))) ?_ ?_ bigN 0 (Nat.zero_le _) (by unfold bigN; omega)
  · (try dsimp only at h1)
    rw [fa_fill_0, rowI_id] at h1
    exact h1
  · intro n k hk
    (try dsimp only)
    have e : (42 : Int32) * nI i = nI (42 * i) := pk_mul 42 i
    rw [b_X12_again_40, if_neg (show ¬ (42 : Int32) ≤ nI k from nI_ge hk (by decide)), g127_0, obs, g127_40, obs, e, nI_add, r145 (show 42 * i + k < 84 by omega), obs, w128 (by omega), obs, nI_1]
    show b_X12_again_40 127 (nI i) n (nI (k + 1)) (hp κ (rowI (rowI ν 128 _) 128 (upd ((rowI ν 128 _).1 128) k (ν.1 145 (42 * i + k))))) = _
    rw [rowI_rowI, rowI_s, fa_fill_succ (fun q => ν.1 145 (42 * i + q))]
  · intro n
    (try dsimp only)
    rw [b_X12_again_40, if_pos (by decide), p127_23, obs]
end BK
theorem IR.kx {m : Nat → Nat → Int32} {hc tc kc lm B : Nat} (h : IR m hc tc kc lm B) : Kx m (m 129) (m 130) kc := h.2.1
theorem IR.tn {μ : Mem} {hc tc kc lm B : Nat} (h : IR (cl μ) hc tc kc lm B) : Tn μ hc tc kc lm := by
  obtain ⟨⟨⟨c1, c2, c3, c4⟩, -, c5⟩, -⟩ := h
  exact ⟨c1, c2, c3, c4, c5⟩
theorem IR.mn {μ : Mem} {hc tc kc lm B : Nat} (h : IR (cl μ) hc tc kc lm B) : Mn μ hc tc kc lm := by
  obtain ⟨⟨-, ⟨d1, d2, d3, d4⟩, c5⟩, -⟩ := h
  exact ⟨d1, d2, d3, d4, c5⟩
theorem Tn.cg {μ ν : Mem} {hc tc kc lm : Nat} (h : Tn μ hc tc kc lm) (e : ν.1 1 = μ.1 1) : Tn ν hc tc kc lm := by
  unfold Tn
  rw [e]
  exact h
theorem Kx.cg {m m' : Nat → Nat → Int32} {mu mn : Nat → Int32} {kc : Nat} (h : Kx m mu mn kc) (e : m' 7 = m 7) (e2 : m' 8 = m 8) : Kx m' mu mn kc := by
  unfold Kx
  rw [e, e2]
  exact h
/-- rows told stay -/
theorem row_kp {μ ν : Mem} {f : Nat → Int32} {v : Int32} (h : Row μ) (e1 : ν.2 = μ.2) (e2 : ν.1 0 = μ.1 0) (e3 : ν.1 127 = μ.1 127) : Row (rowI (upI (Zr ν) 127 23 v) 128 f) := by
  obtain ⟨rs, r1, r2, r3, r4⟩ := h
  refine ⟨rs, r1, ?_, ?_, ?_⟩
  · show ν.1 0 7 = _
    rw [e2]; exact r2
  · show ν.1 127 10 = _
    rw [e3]; exact r3
  · intro i hi
    show ν.2 91 i = ν.2 132 i
    rw [e1]; exact r4 i hi
set_option maxRecDepth 20000 in
theorem pr_undo : P0 F_X11_undo F_X12_undo := by
  intro κ B μ hR hB hI
  (try dsimp only)
  obtain ⟨hIC, hrow⟩ := hI
  obtain ⟨hc, tc, kc, lm, hir, hsr, hws, hso, hpa⟩ := hIC.ir
  obtain ⟨od, un, hP⟩ := PaM_iff.mp hpa
  have hP0 := hP
  obtain ⟨p1, p2, p3, p4, p5, p6⟩ := hP
  have hT := hir.tn
  have hK : Kx μ.1 (μ.1 129) (μ.1 130) kc := hir.kx
  have b2 := hT.2.2.2.2.2.1
  have b1 := hT.2.2.2.2.1
  rcases un with _ | u
  · refine ⟨-1, μ, Zr μ, ?_, ?_, inv_Z ⟨hIC, hrow⟩⟩
    · unfold F_X11_undo
      simp only [↓reduceIte, obs, q0, q1, q2, q11, q13, q17, q20, q21, q24, q104, q111, q112, q116, q125, q127, g0_0, g0_1, g0_2, g0_3, g0_4, g0_5, g0_6, g0_7, p0_7, g0_8, g0_9, g0_10, g0_11, g0_12, g0_13, p0_13, g0_14, g0_15, g0_16, g0_17, g0_18, g1_0, g1_1, g1_2, g1_3, g1_4, g1_5, p1_5, g1_6, p1_6, g1_7, p1_7, g1_8, p1_8, g2_0, g2_1, g2_2, g2_3, g2_4, p2_4, g11_0, g11_1, p11_1, g11_2, p11_2, g11_3, p11_3, g13_0, g13_1, g13_2, g13_3, g17_0, g17_1, g17_2, p17_2, g20_0, g20_1, g21_0, g21_1, g21_2, p21_2, g24_0, g24_1, p24_1, g24_2, p24_2, g104_0, g104_1, g104_2, g104_3, g104_4, p104_4, g111_0, g111_1, p111_1, g111_2, p111_2, g111_3, p111_3, g112_0, g112_1, g112_2, g112_3, g112_4, p112_4, g116_0, g116_1, g116_2, g116_3, g116_4, g125_0, p125_0, g125_1, p125_1, g127_0, g127_1, p127_1, g127_2, p127_2, g127_3, p127_3, g127_4, g127_5, g127_6, p127_6, g127_7, g127_8, p127_8, g127_9, g127_10, p127_10, g127_11, p127_11, g127_12, g127_13, p127_13, g127_14, p127_14, g127_15, p127_15, g127_16, p127_16, g127_17, g127_18, g127_19, p127_19, g127_20, p127_20, g127_21, g127_22, g127_23, p127_23, g127_24, g127_25, g127_26, g127_27, g127_28, g127_29, p127_29, g127_30, p127_30, g127_31, g127_32, g127_33, p127_33, g127_34, p127_34, g127_35, p127_35, g127_36, p127_36, g127_37, g127_38, p127_38, g127_39, p127_39, g127_40, g127_41, g127_42, p4, show nI 0 = (0 : Int32) from rfl]
    · unfold F_X12_undo
      simp only [↓reduceIte, obs, q0, q1, q2, q11, q13, q17, q20, q21, q24, q104, q111, q112, q116, q125, q127, g0_0, g0_1, g0_2, g0_3, g0_4, g0_5, g0_6, g0_7, p0_7, g0_8, g0_9, g0_10, g0_11, g0_12, g0_13, p0_13, g0_14, g0_15, g0_16, g0_17, g0_18, g1_0, g1_1, g1_2, g1_3, g1_4, g1_5, p1_5, g1_6, p1_6, g1_7, p1_7, g1_8, p1_8, g2_0, g2_1, g2_2, g2_3, g2_4, p2_4, g11_0, g11_1, p11_1, g11_2, p11_2, g11_3, p11_3, g13_0, g13_1, g13_2, g13_3, g17_0, g17_1, g17_2, p17_2, g20_0, g20_1, g21_0, g21_1, g21_2, p21_2, g24_0, g24_1, p24_1, g24_2, p24_2, g104_0, g104_1, g104_2, g104_3, g104_4, p104_4, g111_0, g111_1, p111_1, g111_2, p111_2, g111_3, p111_3, g112_0, g112_1, g112_2, g112_3, g112_4, p112_4, g116_0, g116_1, g116_2, g116_3, g116_4, g125_0, p125_0, g125_1, p125_1, g127_0, g127_1, p127_1, g127_2, p127_2, g127_3, p127_3, g127_4, g127_5, g127_6, p127_6, g127_7, g127_8, p127_8, g127_9, g127_10, p127_10, g127_11, p127_11, g127_12, g127_13, p127_13, g127_14, p127_14, g127_15, p127_15, g127_16, p127_16, g127_17, g127_18, g127_19, p127_19, g127_20, p127_20, g127_21, g127_22, g127_23, p127_23, g127_24, g127_25, g127_26, g127_27, g127_28, g127_29, p127_29, g127_30, p127_30, g127_31, g127_32, g127_33, p127_33, g127_34, p127_34, g127_35, p127_35, g127_36, p127_36, g127_37, g127_38, p127_38, g127_39, p127_39, g127_40, g127_41, g127_42, show (upI μ 127 11 0).1 127 23 = 0 from p5]
      rfl
  · obtain ⟨q1, q2⟩ := p6 u (by omega)
    have hl : (od + u) % 13 < 13 := Nat.mod_lt _ (by decide)
    have e0 : ¬ nI (u + 1) = (0 : Int32) := fun z => by have := (i_eq0 (by omega)).mp z; omega
    have e1 : nI (u + 1) - 1 = nI u := pk_sub (a := u + 1) (b := 1) (by omega)
    have hq1 : StA (upI μ 24 2 (nI u)).1 (26 + 5 * ((od + u) % 13)) (fun q => μ.1 136 (42 * u + q)) := q1.cg (fun a h1 h2 => rowI_n (by omega))
    have hS := cpS_st (a := 2) hq1
    have hT2 : Tn (cpS (upI μ 24 2 (nI u)) 2 (26 + 5 * ((od + u) % 13))) hc tc kc lm := hT.cg rfl
    have hK2 : Kx (cpS (upI μ 24 2 (nI u)) 2 (26 + 5 * ((od + u) % 13))).1 (μ.1 129) (μ.1 130) kc := hK.cg rfl rfl
    have hsort := x_sort (κ := κ) hT2 (fun t ht => (hS.1 t (by omega)).1) hK2
    have hf : F_X11_undo 0 (hp κ μ) = some (nI u, hp κ (srM (cpS (upI μ 24 2 (nI u)) 2 (26 + 5 * ((od + u) % 13))) (fun q => μ.1 136 (42 * u + q)) (μ.1 129) (μ.1 130) tc kc)) := by
      unfold F_X11_undo
      have e2 : (srM (cpS (upI μ 24 2 (nI u)) 2 (26 + 5 * ((od + u) % 13))) (fun q => μ.1 136 (42 * u + q)) (μ.1 129) (μ.1 130) tc kc).1 24 2 = nI u := rfl
      simp only [↓reduceIte, obs, q0, q1, q2, q11, q13, q17, q20, q21, q24, q104, q111, q112, q116, q125, q127, g0_0, g0_1, g0_2, g0_3, g0_4, g0_5, g0_6, g0_7, p0_7, g0_8, g0_9, g0_10, g0_11, g0_12, g0_13, p0_13, g0_14, g0_15, g0_16, g0_17, g0_18, g1_0, g1_1, g1_2, g1_3, g1_4, g1_5, p1_5, g1_6, p1_6, g1_7, p1_7, g1_8, p1_8, g2_0, g2_1, g2_2, g2_3, g2_4, p2_4, g11_0, g11_1, p11_1, g11_2, p11_2, g11_3, p11_3, g13_0, g13_1, g13_2, g13_3, g17_0, g17_1, g17_2, p17_2, g20_0, g20_1, g21_0, g21_1, g21_2, p21_2, g24_0, g24_1, p24_1, g24_2, p24_2, g104_0, g104_1, g104_2, g104_3, g104_4, p104_4, g111_0, g111_1, p111_1, g111_2, p111_2, g111_3, p111_3, g112_0, g112_1, g112_2, g112_3, g112_4, p112_4, g116_0, g116_1, g116_2, g116_3, g116_4, g125_0, p125_0, g125_1, p125_1, g127_0, g127_1, p127_1, g127_2, p127_2, g127_3, p127_3, g127_4, g127_5, g127_6, p127_6, g127_7, g127_8, p127_8, g127_9, g127_10, p127_10, g127_11, p127_11, g127_12, g127_13, p127_13, g127_14, p127_14, g127_15, p127_15, g127_16, p127_16, g127_17, g127_18, g127_19, p127_19, g127_20, p127_20, g127_21, g127_22, g127_23, p127_23, g127_24, g127_25, g127_26, g127_27, g127_28, g127_29, p127_29, g127_30, p127_30, g127_31, g127_32, g127_33, p127_33, g127_34, p127_34, g127_35, p127_35, g127_36, p127_36, g127_37, g127_38, p127_38, g127_39, p127_39, g127_40, g127_41, g127_42, p4, e0, x_stepBack hR p3 p4 p1 (show u < 12 by omega), hsort, e2]
    generalize hν : srM (cpS (upI μ 24 2 (nI u)) 2 (26 + 5 * ((od + u) % 13))) (fun q => μ.1 136 (42 * u + q)) (μ.1 129) (μ.1 130) tc kc = ν at hf
    have s1 : SmX μ ν := by rw [← hν]; exact ((SmX.rf.up (a := 24) (j := 2) rfl (Or.inl rfl)).cp2).sr
    have f1 : ν.1 127 23 = nI (u + 1) := by rw [← hν]; exact p5
    have f2 : ν.1 136 = μ.1 136 := by rw [← hν]; rfl
    have f3 : ν.1 24 = (upI μ 24 2 (nI u)).1 24 := by rw [← hν]; rfl
    have f4 : ∀ a, 26 ≤ a → a ≤ 90 → ν.1 a = μ.1 a := fun a h1 h2 => by rw [← hν, srM_n (by omega) (by omega), cpS_out (by omega), rowI_n (by omega)]
    have f5 : StA ν.1 2 (fun q => μ.1 136 (42 * u + q)) := by rw [← hν]; exact hS.cg (fun a h1 h2 => srM_n (by omega) (by omega))
    have f6 : SoX ν.1 (fun q => μ.1 136 (42 * u + q)) (μ.1 129) (μ.1 130) tc kc := by rw [← hν]; exact srM_so
    have f7 : ν.1 129 = μ.1 129 ∧ ν.1 130 = μ.1 130 := by rw [← hν]; exact ⟨rfl, rfl⟩
    have f8 : ν.2 = μ.2 ∧ ν.1 0 = μ.1 0 ∧ ν.1 127 = μ.1 127 := by rw [← hν]; exact ⟨rfl, rfl, rfl⟩
    have hg := y_undo_loop (κ := κ) (ν := upI (Zr ν) 127 23 (nI u)) (u := u) rfl (by omega)
    have hA : ∀ q, q < 42 → fa_fill (fun q => (upI (Zr ν) 127 23 (nI u)).1 136 (42 * u + q)) ((upI (Zr ν) 127 23 (nI u)).1 128) 42 q = μ.1 136 (42 * u + q) := fun q hq => by
      rw [fa_fill_in hq]
      show ν.1 136 _ = _
      rw [f2]
    generalize fa_fill (fun q => (upI (Zr ν) 127 23 (nI u)).1 136 (42 * u + q)) ((upI (Zr ν) 127 23 (nI u)).1 128) 42 = f at hg hA
    refine ⟨nI u, ν, rowI (upI (Zr ν) 127 23 (nI u)) 128 f, hf, ?_, ?_⟩
    · unfold F_X12_undo
      simp only [↓reduceIte, obs, q0, q1, q2, q11, q13, q17, q20, q21, q24, q104, q111, q112, q116, q125, q127, g0_0, g0_1, g0_2, g0_3, g0_4, g0_5, g0_6, g0_7, p0_7, g0_8, g0_9, g0_10, g0_11, g0_12, g0_13, p0_13, g0_14, g0_15, g0_16, g0_17, g0_18, g1_0, g1_1, g1_2, g1_3, g1_4, g1_5, p1_5, g1_6, p1_6, g1_7, p1_7, g1_8, p1_8, g2_0, g2_1, g2_2, g2_3, g2_4, p2_4, g11_0, g11_1, p11_1, g11_2, p11_2, g11_3, p11_3, g13_0, g13_1, g13_2, g13_3, g17_0, g17_1, g17_2, p17_2, g20_0, g20_1, g21_0, g21_1, g21_2, p21_2, g24_0, g24_1, p24_1, g24_2, p24_2, g104_0, g104_1, g104_2, g104_3, g104_4, p104_4, g111_0, g111_1, p111_1, g111_2, p111_2, g111_3, p111_3, g112_0, g112_1, g112_2, g112_3, g112_4, p112_4, g116_0, g116_1, g116_2, g116_3, g116_4, g125_0, p125_0, g125_1, p125_1, g127_0, g127_1, p127_1, g127_2, p127_2, g127_3, p127_3, g127_4, g127_5, g127_6, p127_6, g127_7, g127_8, p127_8, g127_9, g127_10, p127_10, g127_11, p127_11, g127_12, g127_13, p127_13, g127_14, p127_14, g127_15, p127_15, g127_16, p127_16, g127_17, g127_18, g127_19, p127_19, g127_20, p127_20, g127_21, g127_22, g127_23, p127_23, g127_24, g127_25, g127_26, g127_27, g127_28, g127_29, p127_29, g127_30, p127_30, g127_31, g127_32, g127_33, p127_33, g127_34, p127_34, g127_35, p127_35, g127_36, p127_36, g127_37, g127_38, p127_38, g127_39, p127_39, g127_40, g127_41, g127_42, show (upI ν 127 11 0).1 127 23 = nI (u + 1) from f1, e0, e1]
      exact hg
    · have hrest : InvC (B + 1200) (cl (rowI (upI (Zr ν) 127 23 (nI u)) 128 f)) := by
        refine inv_st hir ((s1.z.up (a := 127) (j := 23) rfl (Or.inr ⟨rfl, rfl⟩)).row (a := 128) rfl (fun _ => rfl)) (by omega) ?_ ?_ ?_ (PaM_iff.mpr ⟨od, u, ?_⟩)
        · rw [rowI_s]
          have f5' : StA (rowI (upI (Zr ν) 127 23 (nI u)) 128 f).1 2 (fun q => μ.1 136 (42 * u + q)) := f5
          exact f5'.cA hA
        · rw [rowI_s]
          exact (q2.up (by omega)).cA hA b2 b1.2
        · rw [rowI_s]
          show SoX ν.1 _ (ν.1 129) (ν.1 130) tc kc
          rw [f7.1, f7.2]
          exact f6.cA (fun t ht => hA t (by omega))
        · refine hP0.le (u := u) (by omega) (by omega) ?_ ?_ rfl f2 ?_
          · show ν.1 24 1 = _
            rw [f3]; rfl
          · show ν.1 24 2 = _
            rw [f3]; rfl
          · intro a h1 h2
            rw [rowI_n (by omega), rowI_n (by omega)]
            unfold Zr
            rw [rowI_n (by omega)]
            exact f4 a h1 h2
      exact ⟨hrest, row_kp hrow f8.1 f8.2.1 f8.2.2⟩
set_option maxRecDepth 20000 in
theorem pr_again : P1 F_X11_again F_X12_again := by
  intro x κ B μ hR hB hI
  (try dsimp only)
  obtain ⟨hIC, hrow⟩ := hI
  obtain ⟨hc, tc, kc, lm, hir, hsr, hws, hso, hpa⟩ := hIC.ir
  obtain ⟨od, un, hP⟩ := PaM_iff.mp hpa
  obtain ⟨p1, p2, p3, p4, p5, p6⟩ := hP
  have hT := hir.tn
  have hK : Kx μ.1 (μ.1 129) (μ.1 130) kc := hir.kx
  have b2 := hT.2.2.2.2.2.1
  have b1 := hT.2.2.2.2.1
  rcases rng x 0 1 0 1 rfl rfl (by omega) (by omega) with ⟨j, j1, j2, rfl, c1, c2, c3, c4, c5⟩ | ⟨c1, c2, c3⟩ | ⟨c1, c2, c3, c4, c5⟩
  · have c6 : ¬ (2 : Int32) ≤ nI j := nI_ge (b := 2) (by omega) (by decide)
    have hj : j < 2 := by omega
    obtain ⟨cm, s1, s2, s3⟩ := hir.2.2.2.2.1
    obtain ⟨⟨ck, k1, k2⟩, k3, k4⟩ := s3 j hj
    have s2' : μ.1 127 39 = nI cm := s2
    have k2' : μ.1 147 j = nI ck := k2
    rcases k4 with ⟨a1, a2, a3, a4, a5⟩ | ⟨a1, a2⟩
    · have a1' : μ.1 103 j = 1 := a1
      have a2' : μ.1 146 j = 1 := a2
      have a3' : μ.1 147 j = nI cm := a3
      have ecl : ∀ a, 93 ≤ a → a ≤ 102 → cl μ a = μ.1 a := fun a h1 h2 => by
        have : a = 93 ∨ a = 94 ∨ a = 95 ∨ a = 96 ∨ a = 97 ∨ a = 98 ∨ a = 99 ∨ a = 100 ∨ a = 101 ∨ a = 102 := by omega
        rcases this with rfl | rfl | rfl | rfl | rfl | rfl | rfl | rfl | rfl | rfl <;> exact cl_n rfl
      have q1 : StA μ.1 (93 + 5 * j) (fun q => μ.1 145 (42 * j + q)) := by
        rw [SR_iff] at a4
        have a4' : StA (cl μ) (93 + 5 * j) (fun q => μ.1 145 (42 * j + q)) := a4
        exact a4'.cg (fun a h1 h2 => (ecl a (by omega) (by omega)).symm)
      have q2 : WS (fun q => μ.1 145 (42 * j + q)) hc tc B := a5
      have hS := cpS_st (a := 2) q1
      have hT2 : Tn (cpS μ 2 (93 + 5 * j)) hc tc kc lm := hT.cg rfl
      have hK2 : Kx (cpS μ 2 (93 + 5 * j)).1 (μ.1 129) (μ.1 130) kc := hK.cg rfl rfl
      have hsort := x_sort (κ := κ) hT2 (fun t ht => (hS.1 t (by omega)).1) hK2
      have hf : F_X11_again 0 (nI j) (hp κ μ) = some (1, hp κ (upI (srM (cpS μ 2 (93 + 5 * j)) (fun q => μ.1 145 (42 * j + q)) (μ.1 129) (μ.1 130) tc kc) 24 2 0)) := by
        unfold F_X11_again
        simp only [↓reduceIte, obs, q0, q1, q2, q11, q13, q17, q20, q21, q24, q104, q111, q112, q116, q125, q127, g0_0, g0_1, g0_2, g0_3, g0_4, g0_5, g0_6, g0_7, p0_7, g0_8, g0_9, g0_10, g0_11, g0_12, g0_13, p0_13, g0_14, g0_15, g0_16, g0_17, g0_18, g1_0, g1_1, g1_2, g1_3, g1_4, g1_5, p1_5, g1_6, p1_6, g1_7, p1_7, g1_8, p1_8, g2_0, g2_1, g2_2, g2_3, g2_4, p2_4, g11_0, g11_1, p11_1, g11_2, p11_2, g11_3, p11_3, g13_0, g13_1, g13_2, g13_3, g17_0, g17_1, g17_2, p17_2, g20_0, g20_1, g21_0, g21_1, g21_2, p21_2, g24_0, g24_1, p24_1, g24_2, p24_2, g104_0, g104_1, g104_2, g104_3, g104_4, p104_4, g111_0, g111_1, p111_1, g111_2, p111_2, g111_3, p111_3, g112_0, g112_1, g112_2, g112_3, g112_4, p112_4, g116_0, g116_1, g116_2, g116_3, g116_4, g125_0, p125_0, g125_1, p125_1, g127_0, g127_1, p127_1, g127_2, p127_2, g127_3, p127_3, g127_4, g127_5, g127_6, p127_6, g127_7, g127_8, p127_8, g127_9, g127_10, p127_10, g127_11, p127_11, g127_12, g127_13, p127_13, g127_14, p127_14, g127_15, p127_15, g127_16, p127_16, g127_17, g127_18, g127_19, p127_19, g127_20, p127_20, g127_21, g127_22, g127_23, p127_23, g127_24, g127_25, g127_26, g127_27, g127_28, g127_29, p127_29, g127_30, p127_30, g127_31, g127_32, g127_33, p127_33, g127_34, p127_34, g127_35, p127_35, g127_36, p127_36, g127_37, g127_38, p127_38, g127_39, p127_39, g127_40, g127_41, g127_42, c1, c6, r103 hj, a1', show ¬ (1 : Int32) = 0 by decide, rR_hp (κ := κ) (μ := μ) (show hp_T[92]? = some (4, 2, []) from rfl) (Or.inl rfl) hj, hR.2.1 j hj, x_copy st_2 (st_h j hj) (show 2 + 4 < 93 + 5 * j ∨ 93 + 5 * j + 4 < 2 by omega), hsort]
      generalize hν : upI (srM (cpS μ 2 (93 + 5 * j)) (fun q => μ.1 145 (42 * j + q)) (μ.1 129) (μ.1 130) tc kc) 24 2 0 = ν at hf
      have s1 : SmX μ ν := by rw [← hν]; exact (SmX.rf.cp2.sr).up (a := 24) (j := 2) rfl (Or.inl rfl)
      have f2 : ν.1 145 = μ.1 145 := by rw [← hν]; rfl
      have f3 : ν.1 24 1 = nI od ∧ ν.1 24 2 = nI 0 := by rw [← hν]; exact ⟨p3, rfl⟩
      have f5 : StA ν.1 2 (fun q => μ.1 145 (42 * j + q)) := by rw [← hν]; exact hS.cg (fun a h1 h2 => by rw [rowI_n (by omega), srM_n (by omega) (by omega)])
      have f6 : SoX ν.1 (fun q => μ.1 145 (42 * j + q)) (μ.1 129) (μ.1 130) tc kc := by rw [← hν]; exact srM_so
      have f7 : ν.1 129 = μ.1 129 ∧ ν.1 130 = μ.1 130 := by rw [← hν]; exact ⟨rfl, rfl⟩
      have f8 : ν.2 = μ.2 ∧ ν.1 0 = μ.1 0 ∧ ν.1 127 = μ.1 127 := by rw [← hν]; exact ⟨rfl, rfl, rfl⟩
      have f9 : (Zr ν).1 146 j = 1 ∧ (Zr ν).1 147 j = nI cm ∧ (Zr ν).1 127 39 = nI cm := by rw [← hν]; exact ⟨a2', a3', s2'⟩
      have hg := y_again_loop (κ := κ) (ν := Zr ν) (i := j) hj
      have hA : ∀ q, q < 42 → fa_fill (fun q => (Zr ν).1 145 (42 * j + q)) ((Zr ν).1 128) 42 q = μ.1 145 (42 * j + q) := fun q hq => by
        rw [fa_fill_in hq]
        show ν.1 145 _ = _
        rw [f2]
      generalize fa_fill (fun q => (Zr ν).1 145 (42 * j + q)) ((Zr ν).1 128) 42 = f at hg hA
      refine ⟨1, ν, upI (rowI (Zr ν) 128 f) 127 23 0, hf, ?_, ?_⟩
      · unfold F_X12_again
        simp only [if_pos q127, p11, ↓reduceIte, obs, c5, show ¬ (1 : Int32) = 0 by decide, g127_41, g127_42, g127_39, r146 hj, r147 hj, f9.1, f9.2.1, f9.2.2]
        exact hg
      · have hrest : InvC (B + 1200) (cl (upI (rowI (Zr ν) 128 f) 127 23 0)) := by
          refine inv_st hir ((s1.z.row (a := 128) rfl (fun _ => rfl)).up (a := 127) (j := 23) rfl (Or.inr ⟨rfl, rfl⟩)) (by omega) ?_ ?_ ?_ (PaM_iff.mpr ⟨od, 0, p1, by omega, f3.1, f3.2, rfl, fun i hi => absurd hi (by omega)⟩)
          · show CS _ f
            have f5' : StA (upI (rowI (Zr ν) 128 f) 127 23 0).1 2 (fun q => μ.1 145 (42 * j + q)) := f5
            exact f5'.cA hA
          · show WS f hc tc _
            exact (q2.up (by omega)).cA hA b2 b1.2
          · show SoX ν.1 f (ν.1 129) (ν.1 130) tc kc
            rw [f7.1, f7.2]
            exact f6.cA (fun t ht => hA t (by omega))
        obtain ⟨rs, r1, r2, r3, r4⟩ := hrow
        refine ⟨hrest, rs, r1, ?_, ?_, ?_⟩
        · show ν.1 0 7 = _
          rw [f8.2.1]; exact r2
        · show ν.1 127 10 = _
          rw [f8.2.2]; exact r3
        · intro i hi
          show ν.2 91 i = ν.2 132 i
          rw [f8.1]; exact r4 i hi
    · have a1' : μ.1 103 j = 0 := a1
      refine ⟨0, μ, Zr μ, ?_, ?_, inv_Z ⟨hIC, hrow⟩⟩
      · unfold F_X11_again
        simp only [↓reduceIte, obs, q0, q1, q2, q11, q13, q17, q20, q21, q24, q104, q111, q112, q116, q125, q127, g0_0, g0_1, g0_2, g0_3, g0_4, g0_5, g0_6, g0_7, p0_7, g0_8, g0_9, g0_10, g0_11, g0_12, g0_13, p0_13, g0_14, g0_15, g0_16, g0_17, g0_18, g1_0, g1_1, g1_2, g1_3, g1_4, g1_5, p1_5, g1_6, p1_6, g1_7, p1_7, g1_8, p1_8, g2_0, g2_1, g2_2, g2_3, g2_4, p2_4, g11_0, g11_1, p11_1, g11_2, p11_2, g11_3, p11_3, g13_0, g13_1, g13_2, g13_3, g17_0, g17_1, g17_2, p17_2, g20_0, g20_1, g21_0, g21_1, g21_2, p21_2, g24_0, g24_1, p24_1, g24_2, p24_2, g104_0, g104_1, g104_2, g104_3, g104_4, p104_4, g111_0, g111_1, p111_1, g111_2, p111_2, g111_3, p111_3, g112_0, g112_1, g112_2, g112_3, g112_4, p112_4, g116_0, g116_1, g116_2, g116_3, g116_4, g125_0, p125_0, g125_1, p125_1, g127_0, g127_1, p127_1, g127_2, p127_2, g127_3, p127_3, g127_4, g127_5, g127_6, p127_6, g127_7, g127_8, p127_8, g127_9, g127_10, p127_10, g127_11, p127_11, g127_12, g127_13, p127_13, g127_14, p127_14, g127_15, p127_15, g127_16, p127_16, g127_17, g127_18, g127_19, p127_19, g127_20, p127_20, g127_21, g127_22, g127_23, p127_23, g127_24, g127_25, g127_26, g127_27, g127_28, g127_29, p127_29, g127_30, p127_30, g127_31, g127_32, g127_33, p127_33, g127_34, p127_34, g127_35, p127_35, g127_36, p127_36, g127_37, g127_38, p127_38, g127_39, p127_39, g127_40, g127_41, g127_42, c1, c6, r103 hj, a1']
      · have k3' : (Zr μ).1 146 j = 0 ∨ (Zr μ).1 146 j = 1 := k3
        have k2'' : (Zr μ).1 147 j = nI ck := k2
        have s2'' : (Zr μ).1 127 39 = nI cm := s2
        unfold F_X12_again
        rcases k3' with k | k
        · simp only [if_pos q127, p11, ↓reduceIte, obs, c5, show ¬ (1 : Int32) = 0 by decide, g127_41, r146 hj, k]
        · have n1 : ¬ nI ck = nI cm := fun z => a2 ⟨k, k2.trans z⟩
          simp only [if_pos q127, p11, ↓reduceIte, obs, c5, show ¬ (1 : Int32) = 0 by decide, g127_41, g127_42, g127_39, r146 hj, r147 hj, k, k2'', s2'', n1]
  · refine ⟨0, μ, Zr μ, ?_, ?_, inv_Z ⟨hIC, hrow⟩⟩
    · unfold F_X11_again
      simp only [↓reduceIte, obs, q0, q1, q2, q11, q13, q17, q20, q21, q24, q104, q111, q112, q116, q125, q127, g0_0, g0_1, g0_2, g0_3, g0_4, g0_5, g0_6, g0_7, p0_7, g0_8, g0_9, g0_10, g0_11, g0_12, g0_13, p0_13, g0_14, g0_15, g0_16, g0_17, g0_18, g1_0, g1_1, g1_2, g1_3, g1_4, g1_5, p1_5, g1_6, p1_6, g1_7, p1_7, g1_8, p1_8, g2_0, g2_1, g2_2, g2_3, g2_4, p2_4, g11_0, g11_1, p11_1, g11_2, p11_2, g11_3, p11_3, g13_0, g13_1, g13_2, g13_3, g17_0, g17_1, g17_2, p17_2, g20_0, g20_1, g21_0, g21_1, g21_2, p21_2, g24_0, g24_1, p24_1, g24_2, p24_2, g104_0, g104_1, g104_2, g104_3, g104_4, p104_4, g111_0, g111_1, p111_1, g111_2, p111_2, g111_3, p111_3, g112_0, g112_1, g112_2, g112_3, g112_4, p112_4, g116_0, g116_1, g116_2, g116_3, g116_4, g125_0, p125_0, g125_1, p125_1, g127_0, g127_1, p127_1, g127_2, p127_2, g127_3, p127_3, g127_4, g127_5, g127_6, p127_6, g127_7, g127_8, p127_8, g127_9, g127_10, p127_10, g127_11, p127_11, g127_12, g127_13, p127_13, g127_14, p127_14, g127_15, p127_15, g127_16, p127_16, g127_17, g127_18, g127_19, p127_19, g127_20, p127_20, g127_21, g127_22, g127_23, p127_23, g127_24, g127_25, g127_26, g127_27, g127_28, g127_29, p127_29, g127_30, p127_30, g127_31, g127_32, g127_33, p127_33, g127_34, p127_34, g127_35, p127_35, g127_36, p127_36, g127_37, g127_38, p127_38, g127_39, p127_39, g127_40, g127_41, g127_42, c1]
    · unfold F_X12_again
      simp only [if_pos q127, p11, ↓reduceIte, obs, c3]
  · have c6 : (2 : Int32) ≤ x := by
      rw [fa_le]
      rw [fa_lt] at c1
      have e1 : (1 : Int32).toInt = 1 := rfl
      have e2 : (2 : Int32).toInt = 2 := rfl
      omega
    refine ⟨0, μ, Zr μ, ?_, ?_, inv_Z ⟨hIC, hrow⟩⟩
    · unfold F_X11_again
      simp only [↓reduceIte, obs, q0, q1, q2, q11, q13, q17, q20, q21, q24, q104, q111, q112, q116, q125, q127, g0_0, g0_1, g0_2, g0_3, g0_4, g0_5, g0_6, g0_7, p0_7, g0_8, g0_9, g0_10, g0_11, g0_12, g0_13, p0_13, g0_14, g0_15, g0_16, g0_17, g0_18, g1_0, g1_1, g1_2, g1_3, g1_4, g1_5, p1_5, g1_6, p1_6, g1_7, p1_7, g1_8, p1_8, g2_0, g2_1, g2_2, g2_3, g2_4, p2_4, g11_0, g11_1, p11_1, g11_2, p11_2, g11_3, p11_3, g13_0, g13_1, g13_2, g13_3, g17_0, g17_1, g17_2, p17_2, g20_0, g20_1, g21_0, g21_1, g21_2, p21_2, g24_0, g24_1, p24_1, g24_2, p24_2, g104_0, g104_1, g104_2, g104_3, g104_4, p104_4, g111_0, g111_1, p111_1, g111_2, p111_2, g111_3, p111_3, g112_0, g112_1, g112_2, g112_3, g112_4, p112_4, g116_0, g116_1, g116_2, g116_3, g116_4, g125_0, p125_0, g125_1, p125_1, g127_0, g127_1, p127_1, g127_2, p127_2, g127_3, p127_3, g127_4, g127_5, g127_6, p127_6, g127_7, g127_8, p127_8, g127_9, g127_10, p127_10, g127_11, p127_11, g127_12, g127_13, p127_13, g127_14, p127_14, g127_15, p127_15, g127_16, p127_16, g127_17, g127_18, g127_19, p127_19, g127_20, p127_20, g127_21, g127_22, g127_23, p127_23, g127_24, g127_25, g127_26, g127_27, g127_28, g127_29, p127_29, g127_30, p127_30, g127_31, g127_32, g127_33, p127_33, g127_34, p127_34, g127_35, p127_35, g127_36, p127_36, g127_37, g127_38, p127_38, g127_39, p127_39, g127_40, g127_41, g127_42, c3, c6]
    · unfold F_X12_again
      simp only [if_pos q127, p11, ↓reduceIte, obs, c5]
