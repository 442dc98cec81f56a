/-! PURE: rows told; pairs of calls. -/
theorem WS.up {A : Nat → Int32} {hc tc B B' : Nat} (h : WS A hc tc B) (hB : B ≤ B') : WS A hc tc B' := by
  obtain ⟨h1, h2, r, h3, h4⟩ := h
  exact ⟨h1, h2, r, Nat.le_trans h3 hB, h4⟩
theorem InvC.up {B B' : Nat} {m : Nat → Nat → Int32} (h : InvC B m) (hB : B ≤ B') : InvC B' m := by
  obtain ⟨hc, tc, kc, lm, h1, h2, h3, h4, h5, h6, h7, ⟨od, un, p1, p2, p3, p4, p5, p6⟩, ⟨cm, s1, s2, s3⟩, h10⟩ := h
  refine ⟨hc, tc, kc, lm, h1, h2, h3, h4.up hB, h5, h6, h7, ⟨od, un, p1, p2, p3, p4, p5, fun i hi => ⟨(p6 i hi).1, (p6 i hi).2.up hB⟩⟩, ⟨cm, Nat.le_trans s1 hB, s2, fun i hi => ⟨(s3 i hi).1, (s3 i hi).2.1, ?_⟩⟩, h10⟩
  rcases (s3 i hi).2.2 with ⟨a, b, c, d, e⟩ | h
  · exact Or.inl ⟨a, b, c, d, e.up hB⟩
  · exact Or.inr h
theorem Inv.up {B B' : Nat} {μ : Mem} (h : Inv B μ) (hB : B ≤ B') : Inv B' μ := ⟨h.1.up hB, h.2⟩
def T0 (μ : Mem) : Mem := upI μ 0 7 0
def TB (μ : Mem) (i : Nat) (v : Int64) : Mem := upI (upL μ 91 i v) 0 7 (nI (i + 1))
def M0 (μ : Mem) : Mem := upI μ 127 10 0
def MB (μ : Mem) (i : Nat) (v : Int64) : Mem := upI (upL μ 132 i v) 127 10 (nI (i + 1))
/-- thrown = 0 -/
def Zr (μ : Mem) : Mem := upI μ 127 11 0
section TELL
variable {κ : Kp} {μ : Mem}
theorem cl_T0 : cl (T0 μ) = cl μ := cl_up rfl rfl
theorem cl_TB {i : Nat} {v : Int64} : cl (TB μ i v) = cl μ := (cl_up rfl rfl).trans cl_L
theorem cl_M0 : cl (M0 μ) = cl μ := cl_up rfl rfl
theorem cl_MB {i : Nat} {v : Int64} : cl (MB μ i v) = cl μ := (cl_up rfl rfl).trans cl_L
theorem cl_Z : cl (Zr μ) = cl μ := cl_up rfl rfl
theorem x_tellNothing : F_X11_tellNothing 0 (hp κ μ) = some (hp κ (T0 μ)) := by
  unfold F_X11_tellNothing
  rw [if_pos q0, p0_7]
  rfl
theorem x_tellBesides {i : Nat} {v : Int64} (hi : i < 6) (h : μ.1 0 7 = nI i) : F_X11_tellBesides 0 v (hp κ μ) = some (hp κ (TB μ i v)) := by
  unfold F_X11_tellBesides
  have h6 : ¬ (6 : Int32) ≤ nI i := nI_ge hi (by decide)
  simp only [if_pos q0, g0_7, h, Option.bind_some, if_neg h6, g0_6, w91 hi, rowL_i, p0_7, nI_1]
  rfl
theorem x_tellOne {v : Int64} : F_X11_tellOne 0 v (hp κ μ) = some (hp κ (TB (T0 μ) 0 v)) := by
  unfold F_X11_tellOne
  rw [if_pos q0, x_tellNothing, Option.bind_some, x_tellBesides (i := 0) (by decide) (by unfold T0; rw [rowI_s, pk_us]; rfl)]
  rfl
theorem x_tellTwo {v u : Int64} : F_X11_tellTwo 0 v u (hp κ μ) = some (hp κ (TB (TB (T0 μ) 0 v) 1 u)) := by
  unfold F_X11_tellTwo
  rw [if_pos q0, x_tellNothing, Option.bind_some, x_tellBesides (i := 0) (by decide) (by unfold T0; rw [rowI_s, pk_us]; rfl), Option.bind_some, x_tellBesides (i := 1) (by decide) (by unfold TB; rw [rowI_s, pk_us])]
  rfl
theorem y_tell {i : Nat} {v : Int64} (hi : i < 20) (h : μ.1 127 10 = nI i) : F_X12_tell 127 v (hp κ μ) = some (hp κ (MB μ i v)) := by
  unfold F_X12_tell
  simp only [if_pos q127, g127_9, g127_10, h, Option.bind_some, w132 hi, rowL_i, p127_10, nI_1]
  rfl
end TELL
section INVT
variable {B : Nat} {μ ν : Mem}
theorem inv_keep (hI : Inv B μ) (hc : cl ν = cl μ) (h1 : ν.1 0 7 = μ.1 0 7) (h2 : ν.1 127 10 = μ.1 127 10) (h3 : ν.2 91 = μ.2 91) (h4 : ν.2 132 = μ.2 132) : Inv (B + 1200) ν := by
  refine ⟨by rw [hc]; exact hI.1.up (by omega), ?_⟩
  obtain ⟨rs, r1, r2, r3, r4⟩ := hI.2
  exact ⟨rs, r1, h1.trans r2, h2.trans r3, fun i hi => by rw [h3, h4]; exact r4 i hi⟩
theorem inv_1 (hI : InvC B (cl μ)) (hc : cl ν = cl μ) (h1 : ν.1 0 7 = 1) (h2 : ν.1 127 10 = 1) (h3 : ν.2 91 0 = ν.2 132 0) : Inv (B + 1200) ν :=
  ⟨by rw [hc]; exact hI.up (by omega), 1, by decide, h1, h2, fun i hi => by have e : i = 0 := by omega
                                                                            rw [e]; exact h3⟩
theorem inv_2 (hI : InvC B (cl μ)) (hc : cl ν = cl μ) (h1 : ν.1 0 7 = 2) (h2 : ν.1 127 10 = 2) (h3 : ν.2 91 0 = ν.2 132 0) (h4 : ν.2 91 1 = ν.2 132 1) : Inv (B + 1200) ν :=
  ⟨by rw [hc]; exact hI.up (by omega), 2, by decide, h1, h2, fun i hi => by
    have e : i = 0 ∨ i = 1 := by omega
    rcases e with e | e
    · rw [e]; exact h3
    · rw [e]; exact h4⟩
end INVT
/-! two calls that answer alike -/
def P0 (f g : Nat → ci_H → Option (Int32 × ci_H)) : Prop := ∀ (κ : Kp) (B : Nat) (μ : Mem), Ref0 κ → B ≤ 1000000 → Inv B μ → ∃ (v : Int32) (μ1 μ2 : Mem), f 0 (hp κ μ) = some (v, hp κ μ1) ∧ g 127 (hp κ μ1) = some (v, hp κ μ2) ∧ Inv (B + 1200) μ2
def P1 (f g : Nat → Int32 → ci_H → Option (Int32 × ci_H)) : Prop := ∀ (x : Int32), P0 (fun a => f a x) (fun a => g a x)
def P2 (f g : Nat → Int32 → Int32 → ci_H → Option (Int32 × ci_H)) : Prop := ∀ (x y : Int32), P0 (fun a => f a x y) (fun a => g a x y)
def P3 (f g : Nat → Int32 → Int32 → Int32 → ci_H → Option (Int32 × ci_H)) : Prop := ∀ (x y z : Int32), P0 (fun a => f a x y z) (fun a => g a x y z)
def P4 (f g : Nat → Int32 → Int32 → Int32 → Int32 → ci_H → Option (Int32 × ci_H)) : Prop := ∀ (x y z w : Int32), P0 (fun a => f a x y z w) (fun a => g a x y z w)
/-- a call that may throw (v: what is put into out) -/
def PT (α : Type) (f : ci_H → Option (Option α × ci_H)) (g : ci_H → Option (α × ci_H)) : Prop := ∀ (κ : Kp) (B : Nat) (μ ν : Mem), Ref0 κ → B ≤ 1000000 → Inv B μ → ν.1 = μ.1 → (∀ a, a ≠ 148 → ν.2 a = μ.2 a) → ∃ (ov : Option α) (v : α) (ν2 : Mem), f (hp κ μ) = some (ov, hp κ μ) ∧ g (hp κ ν) = some (v, hp κ ν2) ∧ ν2.1 127 11 = (if ov.isNone then 1 else 0) ∧ (∀ w, ov = some w → v = w) ∧ ν2.2 148 = ν.2 148 ∧ Inv (B + 1200) ν2
