/-! PURE: pairs: the small calls. -/
theorem cl_ne {μ ν : Mem} {a : Nat} (h : ν.1 a = μ.1 a) : cl ν a = cl μ a := by
  funext j
  unfold cl
  rw [h]
theorem SR.congr {m m' : Nat → Nat → Int32} {s r off : Nat} (h : SR m s r off) (e : ∀ a, s ≤ a → a ≤ s + 4 → m' a = m a) (e2 : m' r = m r) : SR m' s r off := by
  obtain ⟨a1, a2, a3⟩ := h
  unfold SR
  rw [e (s + 3) (by omega) (by omega), e (s + 1) (by omega) (by omega), e (s + 2) (by omega) (by omega), e (s + 4) (by omega) (by omega), e s (by omega) (by omega), e2]
  exact ⟨a1, a2, a3⟩
theorem Pa.congr {m m' : Nat → Nat → Int32} {hc tc B : Nat} (h : Pa m hc tc B) (e1 : m' 24 1 = m 24 1) (e2 : m' 24 2 = m 24 2) (e3 : m' 127 23 = m 127 23) (e4 : ∀ a, 26 ≤ a → a ≤ 90 → m' a = m a) (e5 : m' 136 = m 136) : Pa m' hc tc B := by
  obtain ⟨od, un, p1, p2, p3, p4, p5, p6⟩ := h
  refine ⟨od, un, p1, p2, e1.trans p3, e2.trans p4, e3.trans p5, fun i hi => ?_⟩
  obtain ⟨a1, a4⟩ := p6 i hi
  have hb : (od + i) % 13 < 13 := Nat.mod_lt _ (by decide)
  exact ⟨a1.congr (fun a h1 h2 => e4 a (by omega) (by omega)) e5, by rw [e5]; exact a4⟩
theorem Sh.congr {m m' : Nat → Nat → Int32} {hc tc B : Nat} (h : Sh m hc tc B) (e1 : m' 127 39 = m 127 39) (e2 : ∀ a, 93 ≤ a → a ≤ 103 → m' a = m a) (e3 : m' 145 = m 145) (e4 : m' 146 = m 146) (e5 : m' 147 = m 147) : Sh m' hc tc B := by
  obtain ⟨cm, s1, s2, s3⟩ := h
  refine ⟨cm, s1, e1.trans s2, fun i hi => ?_⟩
  rw [e4, e5, e3, e2 103 (by decide) (by decide)]
  obtain ⟨b1, b2, b3⟩ := s3 i hi
  refine ⟨b1, b2, ?_⟩
  rcases b3 with ⟨c1, c2, c3, a1, c5⟩ | h
  · exact Or.inl ⟨c1, c2, c3, a1.congr (fun a h1 h2 => e2 a (by omega) (by omega)) e3, c5⟩
  · exact Or.inr h
theorem pr_forget : P0 F_X11_forget F_X12_forget := by
  intro κ B μ hR hB hI
  obtain ⟨hI, hrow⟩ := hI
  obtain ⟨hc, tc, kc, lm, h1, h2, h3, h4, h5, h6, ⟨hd, bs, a1, a2, a3, a4, a5, a6⟩, h8, h9, h10⟩ := hI.up (B' := B + 1200) (by omega)
  have hf : F_X11_forget 0 (hp κ μ) = some (nI hd, hp κ (upI μ 0 13 0)) := by
    unfold F_X11_forget
    simp only [if_pos q0, g0_13, Option.bind_some, p0_13]
    rw [show μ.1 0 13 = nI hd from a3]
  have hg : F_X12_forget 127 (hp κ (upI μ 0 13 0)) = some (nI hd, hp κ (upI (Zr (upI μ 0 13 0)) 127 33 0)) := by
    unfold F_X12_forget
    simp only [if_pos q127, p127_11, Option.bind_some, g127_33, p127_33]
    rw [show (upI (upI μ 0 13 0) 127 11 0).1 127 33 = nI hd from a4]
    rfl
  refine ⟨_, _, _, hf, hg, ⟨hc, tc, kc, lm, h1, h2, h3, h4, h5, h6, ⟨0, bs, by decide, a2, rfl, rfl, a5, fun i hi => absurd hi (by omega)⟩, ?_, ?_, h10⟩, hrow⟩
  · exact h8.congr rfl rfl rfl (fun a x y => cl_ne (by simp only [Zr, rowI_n (show a ≠ 0 by omega), rowI_n (show a ≠ 127 by omega)])) rfl
  · exact h9.congr rfl (fun a x y => cl_ne (by simp only [Zr, rowI_n (show a ≠ 0 by omega), rowI_n (show a ≠ 127 by omega)])) rfl rfl rfl
