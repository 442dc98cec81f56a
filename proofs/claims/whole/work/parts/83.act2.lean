/-! PURE: acts: the reference; pairs of acts. -/
def rfc (v : Int32) : Int32 := if 0 ≤ v then 0 else v
/-- what the reference's acts change -/
def SmR (ν ξ : Mem) : Prop := (∀ a, a ≠ 127 → a ≠ 128 → a ≠ 135 → a ≠ 136 → a ≠ 137 → ξ.1 a = ν.1 a) ∧ (∀ j, rel 127 j = true → j ≠ 23 → ξ.1 127 j = ν.1 127 j)
def RwK (ν ξ : Mem) : Prop := ξ.1 127 10 = ν.1 127 10 ∧ ξ.2 = ν.2
theorem SmR.rf {ν : Mem} : SmR ν ν := ⟨fun _ _ _ _ _ _ => rfl, fun _ _ _ => rfl⟩
theorem SmR.tr {ν ξ ζ : Mem} (h : SmR ν ξ) (h2 : SmR ξ ζ) : SmR ν ζ := ⟨fun a a1 a2 a3 a4 a5 => (h2.1 a a1 a2 a3 a4 a5).trans (h.1 a a1 a2 a3 a4 a5), fun j j1 j2 => (h2.2 j j1 j2).trans (h.2 j j1 j2)⟩
theorem SmR.row {ν ξ : Mem} {a : Nat} {f : Nat → Int32} (h : SmR ν ξ) (ha : a = 128 ∨ a = 135 ∨ a = 136 ∨ a = 137) : SmR ν (rowI ξ a f) := ⟨fun b b1 b2 b3 b4 b5 => by rw [rowI_n (by omega)]; exact h.1 b b1 b2 b3 b4 b5, fun j j1 j2 => by rw [rowI_n (by omega)]; exact h.2 j j1 j2⟩
theorem SmR.up {ν ξ : Mem} {j : Nat} {v : Int32} (h : SmR ν ξ) (hj : rel 127 j = false ∨ j = 23) : SmR ν (upI ξ 127 j v) := ⟨fun b b1 b2 b3 b4 b5 => by rw [rowI_n b1]; exact h.1 b b1 b2 b3 b4 b5, fun i j1 j2 => by
  have : i ≠ j := fun z => by
    subst z
    rcases hj with hj | hj
    · rw [hj] at j1; cases j1
    · exact j2 hj
  rw [rowI_s, pk_un this]
  exact h.2 i j1 j2⟩
theorem SmR.sx {ν ξ : Mem} (h : SmR ν ξ) : SmX ν ξ := fun a j hj => by
  by_cases e : a = 127
  · subst e
    rcases hj with hj | ⟨hj, hj2⟩
    · cases hj
    · exact h.2 j hj (fun z => hj2 ⟨rfl, z⟩)
  · have n1 : a ≠ 128 ∧ a ≠ 135 ∧ a ≠ 136 ∧ a ≠ 137 := by
      refine ⟨?_, ?_, ?_, ?_⟩ <;>
      · intro z
        subst z
        rcases hj with hj | ⟨hj, -⟩
        · cases hj
        · cases hj
    rw [h.1 a e n1.1 n1.2.1 n1.2.2.1 n1.2.2.2]
def SmQ (ν ξ : Mem) : Prop := (∀ a, a ≠ 0 → a ≠ 127 → a ≠ 128 → a ≠ 135 → a ≠ 136 → a ≠ 137 → ξ.1 a = ν.1 a) ∧ SmX ν ξ
theorem SmR.sq {ν ξ : Mem} (h : SmR ν ξ) : SmQ ν ξ := ⟨fun a _ a1 a2 a3 a4 a5 => h.1 a a1 a2 a3 a4 a5, h.sx⟩
def YA (ν ξ : Mem) (un : Nat) (r : Ac) : Prop := SmR ν ξ ∧ ((r.1 < 0 ∧ ξ.1 128 = ν.1 128 ∧ ξ.1 136 = ν.1 136 ∧ ξ.1 127 23 = ν.1 127 23) ∨ (0 ≤ r.1 ∧ ξ.1 128 = r.2 ∧ ξ.1 136 = rem (ν.1 136) (ν.1 128) un ∧ ξ.1 127 23 = nI (if un < 12 then un + 1 else 12)))
def hdM (μ : Mem) (od un : Nat) : Mem := if un < 12 then upI μ 24 2 (nI (un + 1)) else upI μ 24 1 (nI ((od + 1) % 13))
theorem hdM_n {μ : Mem} {od un a : Nat} (h : a ≠ 24) : (hdM μ od un).1 a = μ.1 a := by
  unfold hdM
  split
  · rw [rowI_n h]
  · rw [rowI_n h]
theorem hdM_2 {μ : Mem} {od un : Nat} : (hdM μ od un).2 = μ.2 := by
  unfold hdM
  split <;> rfl
theorem hdM_24 {μ : Mem} {od un : Nat} (h1 : μ.1 24 1 = nI od) (h2 : μ.1 24 2 = nI un) (hu : un ≤ 12) : (hdM μ od un).1 24 1 = nI (if un < 12 then od else (od + 1) % 13) ∧ (hdM μ od un).1 24 2 = nI (if un < 12 then un + 1 else 12) := by
  unfold hdM
  by_cases c : un < 12
  · rw [if_pos c, if_pos c, if_pos c, rowI_s, pk_us, pk_un (by decide)]
    exact ⟨h1, rfl⟩
  · rw [if_neg c, if_neg c, if_neg c, rowI_s, pk_us, pk_un (by decide)]
    have : un = 12 := by omega
    subst this
    exact ⟨rfl, h2⟩
theorem hdM_sx {μ ν : Mem} {od un : Nat} (h : SmX μ ν) : SmX μ (hdM ν od un) := by
  unfold hdM
  split
  · exact h.up (a := 24) (j := 2) rfl (Or.inl rfl)
  · exact h.up (a := 24) (j := 1) rfl (Or.inl rfl)
section IACT
variable {κ : Kp} {B od un hc tc kc lm : Nat} {μ μb μc ξ : Mem} {A' : Nat → Int32}
theorem mk_sm {s : Nat} (hs : s < 13) : SmX μ (cpS μ (26 + 5 * s) 2) := SmX.rf.cp (by omega) (by omega)
/-- behind the class's act (kept or not) and the reference's -/
theorem inv_act (hir : IR (cl μ) hc tc kc lm B) (hP : PaM μ hc tc B od un) (hsr : CS μ.1 (μ.1 128)) (hws : WS (μ.1 128) hc tc B)
    (hX : XA (cpS μ (26 + 5 * ((od + un) % 13)) 2) μb A' (μ.1 129) (μ.1 130) hc tc kc lm) (hr : SmQ μc ξ)
    (hk : (μc = μb ∧ A' = μ.1 128 ∧ ξ.1 128 = μ.1 128 ∧ ξ.1 136 = μ.1 136 ∧ ξ.1 127 23 = nI un) ∨ (μc = hdM μb od un ∧ WS A' hc tc (B + 1200) ∧ ξ.1 128 = A' ∧ ξ.1 136 = rem (μ.1 136) (μ.1 128) un ∧ ξ.1 127 23 = nI (if un < 12 then un + 1 else 12))) : InvC (B + 1200) (cl ξ) := by
  have hT := hir.tn
  have b1 := hT.2.2.2.2.1
  have b2 := hT.2.2.2.2.2.1
  have hP0 := hP
  obtain ⟨p1, p2, p3, p4, p5, p6⟩ := hP
  have hl : (od + un) % 13 < 13 := Nat.mod_lt _ (by decide)
  obtain ⟨hX1, hX2, hX3⟩ := hX
  have sb : SmX μ μb := (mk_sm hl).tr (SmX.sm hX2 rfl)
  have e24 : μb.1 24 = μ.1 24 := by rw [hX2 24 rfl, cpS_out (by omega)]
  have ering : ∀ a, 26 ≤ a → a ≤ 90 → μb.1 a = (cpS μ (26 + 5 * ((od + un) % 13)) 2).1 a := fun a h1 h2 => hX2.rg 26 90 rfl a h1 h2
  have erl : ∀ j, j < 13 → j ≠ (od + un) % 13 → ∀ a, 26 + 5 * j ≤ a → a ≤ 26 + 5 * j + 4 → μb.1 a = μ.1 a := fun j hj hn a h1 h2 => by rw [ering a (by omega) (by omega), cpS_out (by omega)]
  have esl : StA μb.1 (26 + 5 * ((od + un) % 13)) (μ.1 128) := by
    have hsr' : StA μ.1 2 (μ.1 128) := hsr
    exact (cpS_st (a := 26 + 5 * ((od + un) % 13)) hsr').cg (fun a h1 h2 => ering a (by omega) (by omega))
  rcases hk with ⟨rfl, rfl, k3, k4, k5⟩ | ⟨rfl, kW, k3, k4, k5⟩
  · have s := sb.tr hr.2
    have n : ∀ a, a ≠ 0 → a ≠ 127 → a ≠ 128 → a ≠ 135 → a ≠ 136 → a ≠ 137 → ξ.1 a = μc.1 a := hr.1
    refine inv_st hir s (by omega) ?_ ?_ ?_ (PaM_iff.mpr ⟨od, un, hP0.kp (by omega) ?_ ?_ ?_ k4 ?_⟩)
    · rw [k3]
      have h2 : StA μc.1 2 (μ.1 128) := hX1.2.1
      exact h2.cg (fun a h1 h2 => n a (by omega) (by omega) (by omega) (by omega) (by omega) (by omega))
    · rw [k3]
      exact hws.up (by omega)
    · rw [k3, s.at (a := 129) rfl, s.at (a := 130) rfl]
      have h2 := hX1.2.2.2
      unfold SoX at h2 ⊢
      rw [n 9 (by omega) (by omega) (by omega) (by omega) (by omega) (by omega), n 10 (by omega) (by omega) (by omega) (by omega) (by omega) (by omega)]
      exact h2
    · rw [n 24 (by omega) (by omega) (by omega) (by omega) (by omega) (by omega), e24]
    · rw [n 24 (by omega) (by omega) (by omega) (by omega) (by omega) (by omega), e24]
    · rw [k5, p5]
    · intro j hj hn a h1 h2
      rw [n a (by omega) (by omega) (by omega) (by omega) (by omega) (by omega)]
      exact erl j hj hn a h1 h2
  · have s := (hdM_sx (od := od) (un := un) sb).tr hr.2
    have n : ∀ a, a ≠ 24 → a ≠ 0 → a ≠ 127 → a ≠ 128 → a ≠ 135 → a ≠ 136 → a ≠ 137 → ξ.1 a = μb.1 a := fun a a0 az a1 a2 a3 a4 a5 => by rw [hr.1 a az a1 a2 a3 a4 a5, hdM_n a0]
    have h24 := hdM_24 (μ := μb) (od := od) (un := un) (by rw [e24]; exact p3) (by rw [e24]; exact p4) p2
    refine inv_st hir s (by omega) ?_ ?_ ?_ (PaM_iff.mpr ⟨_, _, hP0.push (A := μ.1 128) (by omega) ?_ ?_ k5 k4 ?_ ?_ (hws.up (by omega)) b2 b1.2⟩)
    · rw [k3]
      have h2 : StA μb.1 2 A' := hX1.2.1
      exact h2.cg (fun a h1 h2 => n a (by omega) (by omega) (by omega) (by omega) (by omega) (by omega) (by omega))
    · rw [k3]
      exact kW
    · rw [k3, s.at (a := 129) rfl, s.at (a := 130) rfl]
      have h2 := hX1.2.2.2
      unfold SoX at h2 ⊢
      rw [n 9 (by omega) (by omega) (by omega) (by omega) (by omega) (by omega) (by omega), n 10 (by omega) (by omega) (by omega) (by omega) (by omega) (by omega) (by omega)]
      exact h2
    · rw [hr.1 24 (by omega) (by omega) (by omega) (by omega) (by omega) (by omega)]
      exact h24.1
    · rw [hr.1 24 (by omega) (by omega) (by omega) (by omega) (by omega) (by omega)]
      exact h24.2
    · intro j hj hn a h1 h2
      rw [n a (by omega) (by omega) (by omega) (by omega) (by omega) (by omega) (by omega)]
      exact erl j hj hn a h1 h2
    · exact esl.cg (fun a h1 h2 => n a (by omega) (by omega) (by omega) (by omega) (by omega) (by omega) (by omega))
theorem Ru.sx {ν : Mem} (h : Ru (cl μ)) (s : SmX μ ν) : Ru (cl ν) := by
  unfold Ru at h ⊢
  rw [cl_xr s (a := 127) (j := 19) rfl (by decide), cl_x s (a := 17) rfl, cl_x s (a := 134) rfl, cl_x s (a := 18) rfl]; exact h
theorem Mn.cg {ν : Mem} (h : Mn μ hc tc kc lm) (e : ∀ j, rel 127 j = true → j ≠ 23 → ν.1 127 j = μ.1 127 j) : Mn ν hc tc kc lm := by
  unfold Mn
  rw [e 1 rfl (by decide), e 2 rfl (by decide), e 3 rfl (by decide), e 6 rfl (by decide)]
  exact h
/-- an act alone: class and reference -/
theorem act_pair (hR : Ref0 κ) (hB : B ≤ 1000000) (hI : Inv B μ) (code x y : Int32) (g : Nat → Int32 → Int32 → ci_H → Option (Int32 × ci_H)) (P : (Nat → Int32) → (Nat → Int32) → (Nat → Int32) → Nat → Nat → Nat → Nat → Mem → Ac)
    (hPo : ∀ (A mu mn : Nat → Int32) (hc tc kc lm : Nat), hc ≤ 5 → tc ≤ 12 → WS A hc tc B → AcO A hc tc (B + 60) (P A mu mn hc tc kc lm μ))
    (hx : ∀ (ν : Mem) (A mu mn : Nat → Int32) (hc tc kc lm : Nat), SmX μ ν → Ru (cl μ) → Xc ν A mu mn hc tc kc lm → WS A hc tc B → ∃ ξ, F_X11_acted 0 code x y (hp κ ν) = some ((P A mu mn hc tc kc lm μ).1, hp κ ξ) ∧ XA ν ξ (P A mu mn hc tc kc lm μ).2 mu mn hc tc kc lm)
    (hg : ∀ (ν : Mem) (hc tc kc lm un : Nat), SmX μ ν → Ru (cl μ) → Mn ν hc tc kc lm → WS (ν.1 128) hc tc B → ν.1 127 23 = nI un → un ≤ 12 → ∃ ξ, g 127 x y (hp κ ν) = some ((P (ν.1 128) (ν.1 129) (ν.1 130) hc tc kc lm μ).1, hp κ ξ) ∧ YA ν ξ un (P (ν.1 128) (ν.1 129) (ν.1 130) hc tc kc lm μ) ∧ RwK ν ξ) :
    ∃ (v : Int32) (μ1 μ2 : Mem), F_X11_doneAlone 0 code x y (hp κ μ) = some (v, hp κ μ1) ∧ g 127 x y (hp κ μ1) = some (v, hp κ μ2) ∧ Inv (B + 1200) μ2 := by
  obtain ⟨hIC, hrow⟩ := hI
  obtain ⟨hc, tc, kc, lm, hir, hsr, hws, hso, hpa⟩ := hIC.ir
  obtain ⟨od, un, hP⟩ := PaM_iff.mp hpa
  have hru := hir.2.2.2.2.2
  have hT := hir.tn
  have hM := hir.mn
  have b1 := hT.2.2.2.2.1
  have b2 := hT.2.2.2.2.2.1
  have hK : Kx μ.1 (μ.1 129) (μ.1 130) kc := hir.kx
  have hsr' : CS μ.1 (μ.1 128) := SR_0.mp hsr
  have hws' : WS (μ.1 128) hc tc B := hws
  have hso' : SoX μ.1 (μ.1 128) (μ.1 129) (μ.1 130) tc kc := hso
  have hl : (od + un) % 13 < 13 := Nat.mod_lt _ (by decide)
  have nm : ∀ a, a < 26 ∨ 90 < a → (cpS μ (26 + 5 * ((od + un) % 13)) 2).1 a = μ.1 a := fun a ha => cpS_out (by omega)
  have hXm : Xc (cpS μ (26 + 5 * ((od + un) % 13)) 2) (μ.1 128) (μ.1 129) (μ.1 130) hc tc kc lm := by
    refine ⟨hT.cg (nm 1 (by omega)), ?_, hK.cg (nm 7 (by omega)) (nm 8 (by omega)), ?_⟩
    · have hs : StA μ.1 2 (μ.1 128) := hsr'
      exact hs.cg (fun a h1 h2 => nm a (by omega))
    · unfold SoX at hso' ⊢
      rw [nm 9 (by omega), nm 10 (by omega)]
      exact hso'
  obtain ⟨μb, hb1, hb2⟩ := hx _ _ _ _ _ _ _ _ (mk_sm hl) hru hXm hws'
  have hPO := hPo (μ.1 128) (μ.1 129) (μ.1 130) hc tc kc lm b1.2 b2 hws'
  have hmark := x_mark (κ := κ) (μ := μ) hR hP.2.2.1 hP.2.2.2.1 hP.1 hP.2.1
  have e24 : μb.1 24 = μ.1 24 := by rw [hb2.2.1 24 rfl, cpS_out (by omega)]
  have eb : ∀ a, [2, 3, 4, 5, 6, 9, 10, 19].contains a = false → a < 26 ∨ 90 < a → μb.1 a = μ.1 a := fun a h1 h2 => by rw [hb2.2.1 a h1, nm a h2]
  have sb : SmX μ μb := (mk_sm hl).tr (SmX.sm hb2.2.1 rfl)
  have hb3 : μb.2 = μ.2 := hb2.2.2
  generalize hPe : P (μ.1 128) (μ.1 129) (μ.1 130) hc tc kc lm μ = r at hb1 hb2 hPO
  have rowOf : ∀ ν ξ : Mem, ν.1 0 = μ.1 0 → ν.1 127 = μ.1 127 → ν.2 = μ.2 → SmR ν ξ → RwK ν ξ → Row ξ := fun ν ξ h0 h1 h2 h3 h4 => by
    obtain ⟨rs, r1, r2, r3, r4⟩ := hrow
    refine ⟨rs, r1, ?_, ?_, fun i hi => ?_⟩
    · rw [h3.1 0 (by omega) (by omega) (by omega) (by omega) (by omega), h0]; exact r2
    · rw [h4.1, h1]; exact r3
    · rw [h4.2, h2]; exact r4 i hi
  rcases hPO with ⟨o1, o2⟩ | ⟨o1, o2, o3⟩
  · obtain ⟨ξ, hg1, hg2, hg3⟩ := hg μb hc tc kc lm un sb hru (hM.cg (fun j _ _ => by rw [eb 127 rfl (by omega)])) (by rw [eb 128 rfl (by omega)]; exact hws') (by rw [eb 127 rfl (by omega)]; exact hP.2.2.2.2.1) hP.2.1
    rw [eb 128 rfl (by omega), eb 129 rfl (by omega), eb 130 rfl (by omega), hPe] at hg1 hg2
    refine ⟨r.1, μb, ξ, ?_, hg1, ?_, rowOf μb ξ (eb 0 rfl (by omega)) (eb 127 rfl (by omega)) hb3 hg2.1 hg3⟩
    · unfold F_X11_doneAlone
      rw [if_pos q0, g0_5, obs, g0_0, obs, g1_0, obs, hmark, obs, hb1, obs]
      exact if_pos o1
    · rcases hg2.2 with ⟨y1, y2, y3, y4⟩ | ⟨y1, -⟩
      · rw [o2] at hb2
        exact inv_act hir hP hsr' hws' hb2 hg2.1.sq (Or.inl ⟨rfl, rfl, by rw [y2, eb 128 rfl (by omega)], by rw [y3, eb 136 rfl (by omega)], by rw [y4, eb 127 rfl (by omega)]; exact hP.2.2.2.2.1⟩)
      · exfalso
        rw [fa_le] at y1
        rw [fa_lt] at o1
        omega
  · have ec : ∀ a, [2, 3, 4, 5, 6, 9, 10, 19, 24].contains a = false → a < 26 ∨ 90 < a → (hdM μb od un).1 a = μ.1 a := fun a h1 h2 => by
      have h3 : [2, 3, 4, 5, 6, 9, 10, 19].contains a = false ∧ a ≠ 24 := by
        simp only [List.contains_eq_mem, List.mem_cons, List.not_mem_nil, or_false, decide_eq_false_iff_not, not_or] at h1 ⊢
        omega
      rw [hdM_n h3.2, eb a h3.1 h2]
    obtain ⟨ξ, hg1, hg2, hg3⟩ := hg (hdM μb od un) hc tc kc lm un (hdM_sx sb) hru (hM.cg (fun j _ _ => by rw [ec 127 rfl (by omega)])) (by rw [ec 128 rfl (by omega)]; exact hws') (by rw [ec 127 rfl (by omega)]; exact hP.2.2.2.2.1) hP.2.1
    rw [ec 128 rfl (by omega), ec 129 rfl (by omega), ec 130 rfl (by omega), hPe] at hg1 hg2
    refine ⟨r.1, hdM μb od un, ξ, ?_, hg1, ?_, rowOf _ ξ (ec 0 rfl (by omega)) (ec 127 rfl (by omega)) (hdM_2.trans hb3) hg2.1 hg3⟩
    · unfold F_X11_doneAlone
      rw [if_pos q0, g0_5, obs, g0_0, obs, g1_0, obs, hmark, obs, hb1, obs]
      dsimp only
      rw [if_neg o2, g0_5, obs, x_hold (od := od) (un := un) (by rw [e24]; exact hP.2.2.1) (by rw [e24]; exact hP.2.2.2.1) hP.1 hP.2.1, obs]
      rfl
    · rcases hg2.2 with ⟨y1, -⟩ | ⟨y1, y2, y3, y4⟩
      · exact absurd y1 o2
      · exact inv_act hir hP hsr' hws' hb2 hg2.1.sq (Or.inr ⟨rfl, o3.up (by omega), y2, by rw [y3, ec 136 rfl (by omega), ec 128 rfl (by omega)], y4⟩)
end IACT
