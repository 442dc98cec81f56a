/-! PURE: states that change; the past. -/
/-- the class's state, its object at s, holds A -/
def StA (m : Nat → Nat → Int32) (s : Nat) (A : Nat → Int32) : Prop := (∀ t, t < 12 → m (s + 3) t = A t ∧ m (s + 1) t = A (12 + t) ∧ m (s + 2) t = A (24 + t)) ∧ (∀ x, x < 5 → m (s + 4) x = A (36 + x)) ∧ m s 4 = A 41
theorem SR_iff {m : Nat → Nat → Int32} {s r off : Nat} : SR m s r off ↔ StA m s (fun q => m r (off + q)) := by
  unfold SR StA
  simp only [Nat.add_assoc]
theorem SR_0 {m : Nat → Nat → Int32} {s r : Nat} : SR m s r 0 ↔ StA m s (m r) := by
  rw [SR_iff]
  simp only [Nat.zero_add]
theorem StA.cg {m m' : Nat → Nat → Int32} {s : Nat} {A : Nat → Int32} (h : StA m s A) (e : ∀ a, s ≤ a → a ≤ s + 4 → m' a = m a) : StA m' s A := by
  unfold StA
  rw [e (s + 3) (by omega) (by omega), e (s + 1) (by omega) (by omega), e (s + 2) (by omega) (by omega), e (s + 4) (by omega) (by omega), e s (by omega) (by omega)]
  exact h
theorem StA.cA {m : Nat → Nat → Int32} {s : Nat} {A A' : Nat → Int32} (h : StA m s A) (e : ∀ q, q < 42 → A' q = A q) : StA m s A' := by
  obtain ⟨h1, h2, h3⟩ := h
  exact ⟨fun t ht => by rw [e t (by omega), e (12 + t) (by omega), e (24 + t) (by omega)]; exact h1 t ht, fun x hx => by rw [e (36 + x) (by omega)]; exact h2 x hx, by rw [e 41 (by omega)]; exact h3⟩
theorem cpS_st {μ : Mem} {a b : Nat} {A : Nat → Int32} (h : StA μ.1 b A) : StA (cpS μ a b).1 a A := by
  obtain ⟨h1, h2, h3⟩ := h
  refine ⟨fun t ht => ?_, fun x hx => ?_, ?_⟩
  · obtain ⟨c1, c2, c3⟩ := cpS_in (μ := μ) (a := a) (b := b) ht
    rw [c1, c2, c3]
    exact h1 t ht
  · rw [cpS_co hx]
    exact h2 x hx
  · rw [cpS_hr]
    exact h3
theorem WS.cA {A A' : Nat → Int32} {hc tc B : Nat} (h : WS A hc tc B) (e : ∀ q, q < 42 → A' q = A q) (ht : tc ≤ 12) (hh : hc ≤ 5) : WS A' hc tc B := by
  obtain ⟨h1, h2, h3⟩ := h
  exact ⟨fun t h => by rw [e t (by omega), e (12 + t) (by omega), e (24 + t) (by omega)]; exact h1 t h, fun x h => by rw [e (36 + x) (by omega)]; exact h2 x h, by rw [e 41 (by omega)]; exact h3⟩
/-! what may change besides the scratch cells -/
def chg (a : Nat) : Bool := scr a || (decide (2 ≤ a) && decide (a ≤ 6)) || a == 9 || a == 10 || (decide (24 ≤ a) && decide (a ≤ 90)) || a == 128 || a == 136
def SmX (μ ν : Mem) : Prop := ∀ a j, (chg a = false ∨ (rel a j = true ∧ ¬ (a = 127 ∧ j = 23))) → ν.1 a j = μ.1 a j
theorem SmX.rf {μ : Mem} : SmX μ μ := fun _ _ _ => rfl
theorem SmX.tr {μ ν ξ : Mem} (h : SmX μ ν) (h2 : SmX ν ξ) : SmX μ ξ := fun a j hj => (h2 a j hj).trans (h a j hj)
theorem SmX.up {μ ν : Mem} {a j : Nat} {v : Int32} (h : SmX μ ν) (h1 : chg a = true) (h2 : rel a j = false ∨ (a = 127 ∧ j = 23)) : SmX μ (upI ν a j v) := fun b i hb => by
  by_cases e : b = a
  · subst e
    by_cases e2 : i = j
    · subst e2
      rcases hb with hb | ⟨hb, hb2⟩
      · rw [h1] at hb; cases hb
      · rcases h2 with h2 | h2
        · rw [h2] at hb; cases hb
        · exact absurd h2 hb2
    · rw [rowI_s, pk_un e2]
      exact h b i hb
  · rw [rowI_n e]
    exact h b i hb
theorem SmX.row {μ ν : Mem} {a : Nat} {f : Nat → Int32} (h : SmX μ ν) (h1 : chg a = true) (h2 : ∀ j, rel a j = false) : SmX μ (rowI ν a f) := fun b i hb => by
  by_cases e : b = a
  · subst e
    rcases hb with hb | ⟨hb, -⟩
    · rw [h1] at hb; cases hb
    · rw [h2] at hb; cases hb
  · rw [rowI_n e]
    exact h b i hb
theorem SmX.upL {μ ν : Mem} {a : Nat} {f : Nat → Int64} (h : SmX μ ν) : SmX μ (rowL ν a f) := h
theorem SmX.sm {l : List Nat} {μ ν : Mem} (h : Sm l μ ν) (hl : (l.all fun a => chg a && !(a == 0) && !(a == 11) && !(a == 127)) = true) : SmX μ ν := fun a j hb => by
  cases e : l.contains a with
  | false => rw [h a e]
  | true =>
    have h3 := List.all_eq_true.mp hl a (List.contains_iff_mem.mp e)
    simp only [Bool.and_eq_true, Bool.not_eq_true', beq_eq_false_iff_ne] at h3
    obtain ⟨⟨⟨h4, h5⟩, h6⟩, h7⟩ := h3
    rcases hb with hb | ⟨hb, -⟩
    · rw [h4] at hb; cases hb
    · exfalso
      unfold rel at hb
      simp [h5, h6, h7] at hb
theorem SmX.cp {μ ν : Mem} {a b : Nat} (h : SmX μ ν) (h1 : 24 ≤ a) (h2 : a + 4 ≤ 90) : SmX μ (cpS ν a b) := by
  have hc : ∀ q, a ≤ q → q ≤ a + 4 → chg q = true := fun q h3 h4 => by
    unfold chg
    simp [show 24 ≤ q by omega, show q ≤ 90 by omega]
  have hr : ∀ q, a ≤ q → q ≤ a + 4 → ∀ j, rel q j = false := fun q h3 h4 j => by
    unfold rel
    have n1 : ¬ q = 0 := by omega
    have n2 : ¬ q = 11 := by omega
    have n3 : ¬ q = 127 := by omega
    simp [n1, n2, n3]
  unfold cpS
  exact ((((h.row (hc _ (by omega) (by omega)) (hr _ (by omega) (by omega))).row (hc _ (by omega) (by omega)) (hr _ (by omega) (by omega))).row (hc _ (by omega) (by omega)) (hr _ (by omega) (by omega))).row (hc _ (by omega) (by omega)) (hr _ (by omega) (by omega))).up (hc _ (by omega) (by omega)) (Or.inl (hr _ (by omega) (by omega) _))
theorem SmX.at {μ ν : Mem} (h : SmX μ ν) {a : Nat} (hc : chg a = false) : ν.1 a = μ.1 a := funext fun j => h a j (Or.inl hc)
theorem SmX.rl {μ ν : Mem} (h : SmX μ ν) {a j : Nat} (hc : rel a j = true) (hn : ¬ (a = 127 ∧ j = 23)) : ν.1 a j = μ.1 a j := h a j (Or.inr ⟨hc, hn⟩)
/-- the rest of what holds -/
def IR (m : Nat → Nat → Int32) (hc tc kc lm B : Nat) : Prop := Cn m hc tc kc lm ∧ Kd m kc ∧ Tx m ∧ Hd m tc ∧ Sh m hc tc B ∧ Ru m
theorem InvC.ir {B : Nat} {m : Nat → Nat → Int32} (h : InvC B m) : ∃ hc tc kc lm, IR m hc tc kc lm B ∧ SR m 2 128 0 ∧ WS (m 128) hc tc B ∧ So m tc kc ∧ Pa m hc tc B := by
  obtain ⟨hc, tc, kc, lm, h1, h2, h3, h4, h5, h6, h7, h8, h9, h10⟩ := h
  exact ⟨hc, tc, kc, lm, ⟨h1, h2, h6, h7, h9, h10⟩, h3, h4, h5, h8⟩
theorem IR.inv {B hc tc kc lm : Nat} {m : Nat → Nat → Int32} (h : IR m hc tc kc lm B) (h3 : SR m 2 128 0) (h4 : WS (m 128) hc tc B) (h5 : So m tc kc) (h8 : Pa m hc tc B) : InvC B m := by
  obtain ⟨h1, h2, h6, h7, h9, h10⟩ := h
  exact ⟨hc, tc, kc, lm, h1, h2, h3, h4, h5, h6, h7, h8, h9, h10⟩
theorem cl_x {μ ν : Mem} (s : SmX μ ν) {a : Nat} (hc : chg a = false) : cl ν a = cl μ a := cl_ne (s.at hc)
theorem cl_xr {μ ν : Mem} (s : SmX μ ν) {a j : Nat} (hc : rel a j = true) (hn : ¬ (a = 127 ∧ j = 23)) : cl ν a j = cl μ a j := by rw [cl_r hc, cl_r hc, s.rl hc hn]
theorem IR.sx {B hc tc kc lm : Nat} {μ ν : Mem} (h : IR (cl μ) hc tc kc lm B) (s : SmX μ ν) : IR (cl ν) hc tc kc lm B := by
  obtain ⟨⟨c1, c2, c3⟩, h2, h6, h7, h9, h10⟩ := h
  refine ⟨⟨?_, ?_, c3⟩, ?_, ?_, ?_, ?_, ?_⟩
  · rw [cl_x s (a := 1) rfl]; exact c1
  · rw [cl_xr s (a := 127) (j := 1) rfl (by decide), cl_xr s (a := 127) (j := 2) rfl (by decide), cl_xr s (a := 127) (j := 3) rfl (by decide), cl_xr s (a := 127) (j := 6) rfl (by decide)]; exact c2
  · unfold Kd at h2 ⊢
    rw [cl_x s (a := 7) rfl, cl_x s (a := 8) rfl, cl_x s (a := 129) rfl, cl_x s (a := 130) rfl]; exact h2
  · unfold Tx at h6 ⊢
    rw [cl_xr s (a := 11) (j := 1) rfl (by decide), cl_xr s (a := 127) (j := 8) rfl (by decide), cl_x s (a := 12) rfl, cl_x s (a := 131) rfl]; exact h6
  · unfold Hd at h7 ⊢
    rw [cl_xr s (a := 0) (j := 13) rfl (by decide), cl_xr s (a := 127) (j := 33) rfl (by decide), cl_xr s (a := 127) (j := 34) rfl (by decide), cl_x s (a := 109) rfl, cl_x s (a := 110) rfl, cl_x s (a := 143) rfl]; exact h7
  · refine h9.congr (cl_xr s (a := 127) (j := 39) rfl (by decide)) (fun a h1 h2 => cl_x s ?_) (cl_x s rfl) (cl_x s rfl) (cl_x s rfl)
    have : a = 93 ∨ a = 94 ∨ a = 95 ∨ a = 96 ∨ a = 97 ∨ a = 98 ∨ a = 99 ∨ a = 100 ∨ a = 101 ∨ a = 102 ∨ a = 103 := by omega
    rcases this with rfl | rfl | rfl | rfl | rfl | rfl | rfl | rfl | rfl | rfl | rfl <;> rfl
  · unfold Ru at h10 ⊢
    rw [cl_xr s (a := 127) (j := 19) rfl (by decide), cl_x s (a := 17) rfl, cl_x s (a := 134) rfl, cl_x s (a := 18) rfl]; exact h10
theorem Sh.up {m : Nat → Nat → Int32} {hc tc B B' : Nat} (h : Sh m hc tc B) (hB : B ≤ B') : Sh m hc tc B' := by
  obtain ⟨cm, s1, s2, s3⟩ := h
  refine ⟨cm, Nat.le_trans s1 hB, s2, fun i hi => ⟨(s3 i hi).1, (s3 i hi).2.1, ?_⟩⟩
  rcases (s3 i hi).2.2 with ⟨a, b, c, d, e⟩ | h
  · exact Or.inl ⟨a, b, c, d, e.up hB⟩
  · exact Or.inr h
theorem IR.up {m : Nat → Nat → Int32} {hc tc kc lm B B' : Nat} (h : IR m hc tc kc lm B) (hB : B ≤ B') : IR m hc tc kc lm B' := by
  obtain ⟨h1, h2, h6, h7, h9, h10⟩ := h
  exact ⟨h1, h2, h6, h7, h9.up hB, h10⟩
theorem cl128 {μ : Mem} : cl μ 128 = μ.1 128 := cl_n rfl
/-- the invariant behind a call that changed the state -/
theorem inv_st {B B' hc tc kc lm : Nat} {μ ν : Mem} (h : IR (cl μ) hc tc kc lm B) (s : SmX μ ν) (hB : B ≤ B') (hS : CS ν.1 (ν.1 128)) (hW : WS (ν.1 128) hc tc B') (hO : SoX ν.1 (ν.1 128) (ν.1 129) (ν.1 130) tc kc) (hP : Pa (cl ν) hc tc B') : InvC B' (cl ν) := by
  refine (h.sx s |>.up hB).inv ?_ ?_ ?_ hP
  · rw [SR_0]
    exact hS
  · exact hW
  · exact hO
/-! the ring -/
theorem ring_ne {od un i : Nat} (ho : od < 13) (hu : un ≤ 12) (hi : i < un) : (od + i) % 13 ≠ (od + un) % 13 := by omega
theorem clr {μ : Mem} {a : Nat} (h1 : 24 ≤ a) (h2 : a ≤ 90) : cl μ a = μ.1 a := cl_n (by
  have n : ∀ b ∈ [0, 11, 14, 15, 16, 19, 21, 22, 23, 104, 105, 106, 107, 108, 111, 112, 113, 114, 115, 118, 119, 120, 121, 122, 123, 124, 127, 133, 135, 137, 138, 139, 140, 141, 142], b < 24 ∨ 90 < b := by decide
  unfold scr
  cases e : List.contains [0, 11, 14, 15, 16, 19, 21, 22, 23, 104, 105, 106, 107, 108, 111, 112, 113, 114, 115, 118, 119, 120, 121, 122, 123, 124, 127, 133, 135, 137, 138, 139, 140, 141, 142] a with
  | false => rfl
  | true => have := n a (List.contains_iff_mem.mp e); omega)
/-- what the past says, over plain memories -/
def PaM (μ : Mem) (hc tc B od un : Nat) : Prop := od < 13 ∧ un ≤ 12 ∧ μ.1 24 1 = nI od ∧ μ.1 24 2 = nI un ∧ μ.1 127 23 = nI un ∧ ∀ i, i < un → StA μ.1 (26 + 5 * ((od + i) % 13)) (fun q => μ.1 136 (42 * i + q)) ∧ WS (fun q => μ.1 136 (42 * i + q)) hc tc B
theorem PaM_iff {μ : Mem} {hc tc B : Nat} : Pa (cl μ) hc tc B ↔ ∃ od un, PaM μ hc tc B od un := by
  have e136 : cl μ 136 = μ.1 136 := cl_n rfl
  have e24 : cl μ 24 = μ.1 24 := clr (by omega) (by omega)
  have e127 : cl μ 127 23 = μ.1 127 23 := cl_r rfl
  have hs : ∀ (j : Nat) (A : Nat → Int32), j < 13 → (StA (cl μ) (26 + 5 * j) A ↔ StA μ.1 (26 + 5 * j) A) := fun j A hj => ⟨fun h => h.cg (fun a h1 h2 => (clr (by omega) (by omega)).symm), fun h => h.cg (fun a h1 h2 => clr (by omega) (by omega))⟩
  constructor
  · rintro ⟨od, un, p1, p2, p3, p4, p5, p6⟩
    rw [e24] at p3 p4
    rw [e127] at p5
    refine ⟨od, un, p1, p2, p3, p4, p5, fun i hi => ?_⟩
    obtain ⟨q1, q2⟩ := p6 i hi
    rw [SR_iff, e136, hs _ _ (Nat.mod_lt _ (by decide))] at q1
    rw [e136] at q2
    exact ⟨q1, q2⟩
  · rintro ⟨od, un, p1, p2, p3, p4, p5, p6⟩
    refine ⟨od, un, p1, p2, by rw [e24]; exact p3, by rw [e24]; exact p4, by rw [e127]; exact p5, fun i hi => ?_⟩
    obtain ⟨q1, q2⟩ := p6 i hi
    rw [SR_iff, e136, hs _ _ (Nat.mod_lt _ (by decide))]
    exact ⟨q1, q2⟩
theorem PaM.kp {μ ν : Mem} {hc tc B B' od un : Nat} (h : PaM μ hc tc B od un) (hB : B ≤ B') (e1 : ν.1 24 1 = μ.1 24 1) (e2 : ν.1 24 2 = μ.1 24 2) (e3 : ν.1 127 23 = μ.1 127 23) (e4 : ν.1 136 = μ.1 136) (e5 : ∀ j, j < 13 → j ≠ (od + un) % 13 → ∀ a, 26 + 5 * j ≤ a → a ≤ 26 + 5 * j + 4 → ν.1 a = μ.1 a) : PaM ν hc tc B' od un := by
  obtain ⟨p1, p2, p3, p4, p5, p6⟩ := h
  refine ⟨p1, p2, e1.trans p3, e2.trans p4, e3.trans p5, fun i hi => ?_⟩
  obtain ⟨q1, q2⟩ := p6 i hi
  rw [e4]
  exact ⟨q1.cg (e5 _ (Nat.mod_lt _ (by decide)) (ring_ne p1 p2 hi)), q2.up hB⟩
theorem PaM.push {μ ν : Mem} {hc tc B B' od un : Nat} {A : Nat → Int32} (h : PaM μ hc tc B od un) (hB : B ≤ B') (e1 : ν.1 24 1 = nI (if un < 12 then od else (od + 1) % 13)) (e2 : ν.1 24 2 = nI (if un < 12 then un + 1 else 12)) (e3 : ν.1 127 23 = nI (if un < 12 then un + 1 else 12)) (e4 : ν.1 136 = rem (μ.1 136) A un) (e5 : ∀ j, j < 13 → j ≠ (od + un) % 13 → ∀ a, 26 + 5 * j ≤ a → a ≤ 26 + 5 * j + 4 → ν.1 a = μ.1 a) (e6 : StA ν.1 (26 + 5 * ((od + un) % 13)) A) (hW : WS A hc tc B') (ht : tc ≤ 12) (hh : hc ≤ 5) : PaM ν hc tc B' (if un < 12 then od else (od + 1) % 13) (if un < 12 then un + 1 else 12) := by
  obtain ⟨p1, p2, p3, p4, p5, p6⟩ := h
  by_cases c : un < 12
  · simp only [if_pos c] at e1 e2 e3 ⊢
    have e7 : ν.1 136 = fb_put (μ.1 136) A (42 * un) 42 := by rw [e4]; unfold rem; rw [if_pos c]
    refine ⟨p1, by omega, e1, e2, e3, fun i hi => ?_⟩
    by_cases z : i = un
    · subst z
      have e8 : ∀ q, q < 42 → ν.1 136 (42 * i + q) = A q := fun q hq => by rw [e7, fb_put_in (by omega) (by omega)]; congr 1; omega
      exact ⟨e6.cA e8, hW.cA e8 ht hh⟩
    · have e8 : ∀ q, q < 42 → ν.1 136 (42 * i + q) = μ.1 136 (42 * i + q) := fun q hq => by rw [e7, fb_put_out (by omega)]
      obtain ⟨q1, q2⟩ := p6 i (by omega)
      exact ⟨(q1.cg (e5 _ (Nat.mod_lt _ (by decide)) (ring_ne p1 p2 (by omega)))).cA e8, (q2.up hB).cA e8 ht hh⟩
  · have e : un = 12 := by omega
    subst e
    simp only [if_neg c] at e1 e2 e3 ⊢
    have e7 : ν.1 136 = fb_put (fun i => if i < 462 then μ.1 136 (i + 42) else μ.1 136 i) A 462 42 := by rw [e4]; unfold rem; rw [if_neg c]
    refine ⟨Nat.mod_lt _ (by decide), by omega, e1, e2, e3, fun i hi => ?_⟩
    by_cases z : i = 11
    · subst z
      have e8 : ∀ q, q < 42 → ν.1 136 (42 * 11 + q) = A q := fun q hq => by rw [e7, fb_put_in (by omega) (by omega), show 42 * 11 + q - 462 = q by omega]
      have e9 : ((od + 1) % 13 + 11) % 13 = (od + 12) % 13 := by omega
      rw [e9]
      exact ⟨e6.cA e8, hW.cA e8 ht hh⟩
    · have e8 : ∀ q, q < 42 → ν.1 136 (42 * i + q) = μ.1 136 (42 * (i + 1) + q) := fun q hq => by
        rw [e7, fb_put_out (by omega), if_pos (by omega), show 42 * i + q + 42 = 42 * (i + 1) + q by omega]
      obtain ⟨q1, q2⟩ := p6 (i + 1) (by omega)
      have e9 : ((od + 1) % 13 + i) % 13 = (od + (i + 1)) % 13 := by omega
      rw [e9]
      exact ⟨(q1.cg (e5 _ (Nat.mod_lt _ (by decide)) (ring_ne p1 p2 (by omega)))).cA e8, (q2.up hB).cA e8 ht hh⟩
