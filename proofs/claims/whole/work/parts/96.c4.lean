/-! PURE: pair: rule. -/
theorem nar_by8 : ∀ c, c < 256 → vp_nar .byte (by8 c) = by8 c := by decide +kernel
theorem inv_txr {B : Nat} {μ ξ : Mem} (hI : InvC B (cl μ)) (e : ∀ a, a ≠ 11 → a ≠ 127 → a ≠ 17 → a ≠ 18 → a ≠ 134 → a ≠ 21 → a ≠ 22 → ξ.1 a = μ.1 a) (e7 : ∀ j, rel 127 j = true → j ≠ 8 → j ≠ 19 → ξ.1 127 j = μ.1 127 j) (t1 : ξ.1 11 1 = 0) (t8 : ξ.1 127 8 = 0) (hR : Ru ξ.1) : InvC (B + 1200) (cl ξ) := by
  have hI := hI.up (show B ≤ B + 1200 by omega)
  obtain ⟨hc, tc, kc, lm, ⟨h1, h1b, h1c⟩, h2, h3, h4, h5, h6, h7, h8, h9, h10⟩ := hI
  have f : ∀ a, a ≠ 11 → a ≠ 127 → a ≠ 17 → a ≠ 18 → a ≠ 134 → cl ξ a = cl μ a := fun a a1 a2 a3 a4 a5 => by
    by_cases c1 : a = 21
    · subst c1; rfl
    · by_cases c2 : a = 22
      · subst c2; rfl
      · funext j
        unfold cl
        rw [e a a1 a2 a3 a4 a5 c1 c2]
  have f7 : ∀ j, rel 127 j = true → j ≠ 8 → j ≠ 19 → cl ξ 127 j = cl μ 127 j := fun j j1 j2 j3 => by
    rw [cl_r j1, cl_r j1, e7 j j1 j2 j3]
  have F : ∀ a, (a == 11 || a == 127 || a == 17 || a == 18 || a == 134) = false → cl ξ a = cl μ a := fun a ha => by
    simp only [Bool.or_eq_false_iff, beq_eq_false_iff_ne] at ha
    exact f a ha.1.1.1.1 ha.1.1.1.2 ha.1.1.2 ha.1.2 ha.2
  refine ⟨hc, tc, kc, lm, ⟨?_, ?_, h1c⟩, ?_, ?_, ?_, ?_, ?_, ?_, ?_, ?_, ?_⟩
  · rw [F 1 rfl]; exact h1
  · rw [f7 1 rfl (by decide) (by decide), f7 2 rfl (by decide) (by decide), f7 3 rfl (by decide) (by decide), f7 6 rfl (by decide) (by decide)]; exact h1b
  · unfold Kd at h2 ⊢
    rw [F 7 rfl, F 8 rfl, F 129 rfl, F 130 rfl]; exact h2
  · exact h3.congr (fun a h1 h2 => f a (by omega) (by omega) (by omega) (by omega) (by omega)) (F 128 rfl)
  · rw [F 128 rfl]; exact h4
  · unfold So at h5 ⊢
    rw [F 9 rfl, F 10 rfl, F 128 rfl, F 129 rfl, F 130 rfl]; exact h5
  · exact ⟨0, by omega, by rw [cl_r rfl]; exact t1, by rw [cl_r rfl]; exact t8, fun i hi => absurd hi (Nat.not_lt_zero _)⟩
  · unfold Hd at h7 ⊢
    rw [F 0 rfl, f7 33 rfl (by decide) (by decide), f7 34 rfl (by decide) (by decide), F 109 rfl, F 110 rfl, F 143 rfl]; exact h7
  · exact h8.congr (by rw [F 24 rfl]) (by rw [F 24 rfl]) (f7 23 rfl (by decide) (by decide)) (fun a h1 h2 => f a (by omega) (by omega) (by omega) (by omega) (by omega)) (F 136 rfl)
  · exact h9.congr (f7 39 rfl (by decide) (by decide)) (fun a h1 h2 => f a (by omega) (by omega) (by omega) (by omega) (by omega)) (F 145 rfl) (F 146 rfl) (F 147 rfl)
  · unfold Ru at hR ⊢
    rw [cl_r (μ := ξ) (a := 127) (j := 19) rfl, cl_n (μ := ξ) (a := 17) rfl, cl_n (μ := ξ) (a := 134) rfl, cl_n (μ := ξ) (a := 18) rfl]
    exact hR
theorem rdM_u {ν : Mem} {a j : Nat} {w u : Int32} (h1 : j ≠ 15) (h2 : j ≠ 16) : upI (rdM ν a w) 127 j u = rdM (upI ν 127 j u) a w := by
  refine Prod.ext ?_ rfl
  funext z
  show (if z = 127 then upd ((rdM ν a w).1 127) j u else (rdM ν a w).1 z) = (rdM (upI ν 127 j u) a w).1 z
  by_cases c : z = 127
  · subst c
    rw [if_pos rfl]
    show upd (upd (upd (ν.1 127) 15 (nI a)) 16 w) j u = upd (upd (upd (ν.1 127) j u) 15 (nI a)) 16 w
    rw [fa_upd_swap _ (show (16 : Nat) ≠ j from fun z => h2 z.symm), fa_upd_swap _ (show (15 : Nat) ≠ j from fun z => h1 z.symm)]
  · rw [if_neg c]
    unfold rdM
    rw [rowI_n c, rowI_n c, rowI_n c, rowI_n c, rowI_n c]
/-- the reference's text is begun -/
def btM (ν : Mem) (ln tp : Nat) : Mem := upI (bgM ν 131 ln tp) 127 8 0
section PRU
variable {κ : Kp} {ν μ : Mem} {ln T : Nat} {tx : Nat → Nat}
theorem y_beginText {tp : Nat} (h : ν.1 127 8 = nI ln) : F_X12_beginText 127 (nI tp) (hp κ ν) = some (hp κ (rdM (btM ν ln tp) 0 (-1))) := by
  unfold F_X12_beginText
  rw [if_pos q127, g127_7, obs, g127_8, obs, h, y_begin131, obs, p127_8, obs, rdM_u (by decide) (by decide)]
  rfl
theorem y_wasRight {a : Nat} {w : Int32} (h : ν.1 127 13 = nI ln) (hw : w = -1 ∨ ∃ p, p < 2 ^ 31 ∧ w = nI p) (hl : ln < 2 ^ 31) (ha : w = -1 → a < 2 ^ 31) : F_X12_wasRight 127 (hp κ (rdM ν a w)) = some (if w = -1 ∧ ln ≤ a then 1 else 0, hp κ (rdM ν a (if w = -1 then (if ln ≤ a then -1 else nI a) else w))) := by
  have h19 : ∀ b u, b_X12_wasRight_19 127 (hp κ (rdM ν b u)) = some (if u = -1 then 1 else 0, hp κ (rdM ν b u)) := fun b u => by
    unfold b_X12_wasRight_19
    rw [y_fine, obs]
    (try dsimp only)
    rw [if_pos (by split <;> decide)]
  unfold F_X12_wasRight
  rw [if_pos q127, g127_15, obs, rdM_a, g127_13, obs, rdM_j (by decide) (by decide), h]
  rcases hw with rfl | ⟨p, hp1, rfl⟩
  · have ha := ha rfl
    by_cases c : ln ≤ a
    · rw [if_pos (nI_le c ha), h19, if_pos rfl, if_pos ⟨rfl, c⟩, if_pos rfl, if_pos c]
    · rw [if_neg (nI_ge (by omega) hl), obs, y_fault, obs, if_pos rfl, h19, if_neg (nI_m1 ha), if_neg (fun z => c z.2), if_pos rfl, if_neg c]
  · have hn := nI_m1 hp1
    rw [if_neg hn, if_neg (show ¬ (nI p = -1 ∧ ln ≤ a) from fun z => hn z.1)]
    by_cases c : nI ln ≤ nI a
    · rw [if_pos c, h19, if_neg hn]
    · rw [if_neg c, obs, y_fault, obs, if_neg hn, h19, if_neg hn]
theorem y_ruleL (hl : ln ≤ 40) (h : ∀ i, i < ln → tx i < 256 ∧ ν.1 131 i = by8 (tx i)) : ∃ g, b_X12_rule_47 127 (nI ln) bigN 0 (hp κ ν) = some (0, hp κ (upI (rowI ν 134 g) 127 19 (nI ln))) ∧ ∀ i, i < ln → g i = by8 (tx i) := by
  have hs : ∀ k ζ, k < ln → (∃ g, ζ = rowI ν 134 g ∧ ∀ i, i < k → g i = by8 (tx i)) → ∃ ξ, (∀ n, (fun n k ν => b_X12_rule_47 127 (nI ln) n (nI k) (hp κ ν)) (n + 1) k ζ = (fun n k ν => b_X12_rule_47 127 (nI ln) n (nI k) (hp κ ν)) n (k + 1) ξ) ∧ ∃ g, ξ = rowI ν 134 g ∧ ∀ i, i < k + 1 → g i = by8 (tx i) := by
    rintro k ζ hk ⟨g, rfl, hg⟩
    obtain ⟨t1, t2⟩ := h k hk
    have e131 : (rowI ν 134 g).1 131 k = by8 (tx k) := t2
    have eu : upI (rowI ν 134 g) 134 k (by8 (tx k)) = rowI ν 134 (upd g k (by8 (tx k))) := by
      show rowI (rowI ν 134 g) 134 (upd ((rowI ν 134 g).1 134) k (by8 (tx k))) = _
      rw [rowI_rowI, rowI_s]
    refine ⟨rowI ν 134 (upd g k (by8 (tx k))), fun n => ?_, _, rfl, fun i hi => ?_⟩
    · (try dsimp only)
      rw [b_X12_rule_47, if_neg (nI_ge hk (by omega)), g127_18, obs, g127_7, obs, r131 (by omega), obs, e131, w134 (by omega), obs, nar_by8 _ t1, nI_1, eu]
    · by_cases z : i = k
      · subst z; rw [pk_us]
      · rw [pk_un z]; exact hg i (by omega)
  obtain ⟨ξ, ⟨g, hg1, hg2⟩, h2⟩ := lpf (fun n k ν => b_X12_rule_47 127 (nI ln) n (nI k) (hp κ ν)) (fun k ζ => ∃ g, ζ = rowI ν 134 g ∧ ∀ i, i < k → g i = by8 (tx i)) ln hs ν ⟨ν.1 134, rowI_id.symm, fun i hi => absurd hi (Nat.not_lt_zero _)⟩ ln (Nat.le_refl _)
  refine ⟨g, ?_, hg2⟩
  subst hg1
  have h3 := h2 (4999 - ln + 1)
  (try dsimp only at h3)
  rw [show 4999 - ln + 1 + ln = 5000 by omega] at h3
  refine Eq.trans h3 ?_
  rw [b_X12_rule_47, if_pos (nI_le (Nat.le_refl _) (by omega)), p127_19, obs]
/-- what the reference answers to a rule that is told -/
theorem y_rule (h8 : ν.1 127 8 = nI ln) (hl : ln ≤ 80) (hT : T = if ln ≤ 40 then ln else 40) (h : ∀ i, i < ln → tx i < 256 ∧ ν.1 131 i = by8 (tx i)) (q : Rr) (hq : 0 < ln → rp (pkf tx T) 100 0 0 0 = q) : (¬ (ln = 0 ∨ (q.1 = true ∧ q.2.1 = ln)) → ∃ a w, F_X12_rule 127 (hp κ ν) = some (-1 - nI q.2.1, hp κ (rdM (upI (btM (Zr ν) ln 40) 127 20 0) a w))) ∧ ((ln = 0 ∨ (q.1 = true ∧ q.2.1 = ln)) → ∃ a w g, F_X12_rule 127 (hp κ ν) = some (0, hp κ (upI (rowI (rdM (upI (btM (Zr ν) ln 40) 127 20 0) a w) 134 g) 127 19 (nI ln))) ∧ ∀ i, i < ln → g i = by8 (tx i)) := by
  have z8 : (Zr ν).1 127 8 = nI ln := h8
  have hT40 : T ≤ 40 ∧ T ≤ ln := by split at hT <;> omega
  have e13 : (upI (btM (Zr ν) ln 40) 127 20 0).1 127 13 = nI ln := rfl
  have hbt : F_X12_beginText 127 40 (hp κ (Zr ν)) = _ := y_beginText (κ := κ) (tp := 40) z8
  by_cases c0 : ln = 0
  · subst c0
    refine ⟨fun z => absurd (Or.inl rfl) z, fun _ => ?_⟩
    obtain ⟨g, g1, g2⟩ := y_ruleL (κ := κ) (ν := rdM (upI (btM (Zr ν) 0 40) 127 20 0) 0 (-1)) (ln := 0) (tx := tx) (by omega) (fun i hi => absurd hi (Nat.not_lt_zero _))
    refine ⟨0, -1, g, ?_, g2⟩
    have hr := y_wasRight (κ := κ) (ν := upI (btM (Zr ν) 0 40) 127 20 0) (a := 0) (w := -1) e13 (Or.inl rfl) (by decide) (fun _ => by decide)
    rw [if_pos ⟨rfl, Nat.le_refl _⟩, if_pos rfl, if_pos (Nat.le_refl _)] at hr
    unfold F_X12_rule
    rw [if_pos q127, p11, obs, g127_8, obs, z8, hbt, obs, p127_20 rfl, obs, rdM_u (by decide) (by decide), if_pos (show nI 0 ≤ 0 by decide)]
    unfold b_X12_rule_31
    rw [hr, obs]
    (try dsimp only)
    rw [if_neg (by decide)]
    exact g1
  · have hq := hq (by omega)
    have hRD : RD (upI (btM (Zr ν) ln 40) 127 20 0) 131 ln 40 T tx := ⟨rfl, Or.inl ⟨rfl, by omega⟩, rfl, rfl, hl, by decide, hT, fun i hi => h i (by omega)⟩
    obtain ⟨v, a, w, g1, g2⟩ := y_held (κ := κ) hRD hT40.1
    have g1 : F_X12_held 127 0 (hp κ (rdM (upI (btM (Zr ν) ln 40) 127 20 0) 0 (-1))) = some (v, hp κ (rdM (upI (btM (Zr ν) ln 40) 127 20 0) a w)) := g1
    obtain ⟨e1, e2, -⟩ := rp_Q (pkf tx T) (Lq (upI (btM (Zr ν) ln 40) 127 20 0)) 100 0 0 0
    have hpos := rp_pos (tx := tx) (T := T) 100 0 0 0 (Nat.zero_le _)
    rw [hq] at e1 e2 hpos
    have hp2 := hpos.2
    generalize rv (pkf tx T) (Lq (upI (btM (Zr ν) ln 40) 127 20 0)) 100 0 0 0 = r at g2 e1 e2
    have hr := y_wasRight (κ := κ) (ν := upI (btM (Zr ν) ln 40) 127 20 0) (a := a) (w := w) e13 (by
      rcases g2 with ⟨-, -, -, r4⟩ | ⟨-, r2⟩
      · exact Or.inl r4
      · exact Or.inr ⟨r.2.1, by omega, r2⟩) (by omega) (fun hw => by
      rcases g2 with ⟨-, -, r3, -⟩ | ⟨-, r2⟩
      · omega
      · exact absurd (r2.symm.trans hw) (nI_m1 (by omega)))
    have hF : F_X12_rule 127 (hp κ ν) = b_X12_rule_31 127 (nI ln) (hp κ (rdM (upI (btM (Zr ν) ln 40) 127 20 0) a w)) := by
      unfold F_X12_rule
      rw [if_pos q127, p11, obs, g127_8, obs, z8, hbt, obs, p127_20 rfl, obs, rdM_u (by decide) (by decide), if_neg (show ¬ nI ln ≤ 0 from nI_ge (b := ln) (a := 0) (by omega) (by omega)), g1, obs]
    rw [hF]
    unfold b_X12_rule_31
    rw [hr, obs]
    (try dsimp only)
    constructor
    · intro hn
      have hn2 : ¬ (w = -1 ∧ ln ≤ a) := fun z => hn (Or.inr (by
        rcases g2 with ⟨r1, -, r3, -⟩ | ⟨-, r2⟩
        · exact ⟨e1.trans r1, by omega⟩
        · exact absurd (r2.symm.trans z.1) (nI_m1 (by omega))))
      rw [if_neg hn2, if_pos rfl, g127_16, obs, rdM_w]
      refine ⟨a, (if w = -1 then (if ln ≤ a then -1 else nI a) else w), ?_⟩
      rcases g2 with ⟨r1, -, r3, r4⟩ | ⟨-, r2⟩
      · rw [if_pos r4, if_neg (fun z => hn2 ⟨r4, z⟩), r3, ← e2]
      · rw [if_neg (show ¬ w = -1 from fun z => nI_m1 (show r.2.1 < 2 ^ 31 by omega) (r2.symm.trans z)), r2, ← e2]
    · intro hy
      rcases hy with hy | ⟨y1, y2⟩
      · exact absurd hy c0
      · rcases g2 with ⟨r1, -, r3, r4⟩ | ⟨r1, -⟩
        · have hla : ln ≤ a := by omega
          obtain ⟨g, g1, g2⟩ := y_ruleL (κ := κ) (ν := rdM (upI (btM (Zr ν) ln 40) 127 20 0) a (-1)) (ln := ln) (tx := tx) (by omega) (fun i hi => h i hi)
          refine ⟨a, -1, g, ?_, g2⟩
          rw [if_pos (show w = -1 ∧ ln ≤ a from ⟨r4, hla⟩), if_neg (show ¬ (1 : Int32) = 0 by decide), if_pos r4, if_pos hla]
          exact g1
        · rw [← e1, y1] at r1
          cases r1
end PRU
