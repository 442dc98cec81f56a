/-! PURE: things that come. -/
def ntM (μ : Mem) (gT gO gK : Nat → Int32) (c : Nat) : Mem := upI (rowI (rowI (rowI μ 5 gT) 3 gO) 4 gK) 1 6 (nI c)
def mtM (μ : Mem) (A : Nat → Int32) (c : Nat) : Mem := upI (rowI μ 128 A) 127 2 (nI c)
/-- a row: from c0 on k new words -/
def NeR (g g0 : Nat → Int32) (c0 k : Nat) (x : Nat → Int32) : Prop := (∀ j, j < c0 ∨ c0 + k ≤ j → g j = g0 j) ∧ ∀ j, j < k → g (c0 + j) = x j
theorem NeR.up {g g0 x : Nat → Int32} {c0 k : Nat} (h : NeR g g0 c0 k x) : NeR (upd g (c0 + k) (x k)) g0 c0 (k + 1) x := by
  obtain ⟨h1, h2⟩ := h
  refine ⟨fun j hj => ?_, fun j hj => ?_⟩
  · rw [pk_un (by omega)]
    exact h1 j (by omega)
  · by_cases z : j = k
    · subst z; rw [pk_us]
    · rw [pk_un (by omega)]
      exact h2 j (by omega)
/-- the reference's row: things c0 .. c0 + k are new -/
def NeA (A A0 : Nat → Int32) (c0 k : Nat) (x y : Nat → Int32) : Prop := (∀ q, (q < c0 ∨ c0 + k ≤ q) → (q < 12 + c0 ∨ 12 + c0 + k ≤ q) → (q < 24 + c0 ∨ 24 + c0 + k ≤ q) → A q = A0 q) ∧ ∀ j, j < k → A (c0 + j) = x j ∧ A (12 + c0 + j) = y j ∧ A (24 + c0 + j) = y j
theorem NeA.up {A A0 x y : Nat → Int32} {c0 k : Nat} (hk : c0 + k < 12) (h : NeA A A0 c0 k x y) : NeA (upd (upd (upd A (c0 + k) (x k)) (12 + (c0 + k)) (y k)) (24 + (c0 + k)) (y k)) A0 c0 (k + 1) x y := by
  obtain ⟨h1, h2⟩ := h
  refine ⟨fun q a1 a2 a3 => ?_, fun j hj => ?_⟩
  · rw [pk_un (by omega), pk_un (by omega), pk_un (by omega)]
    exact h1 q (by omega) (by omega) (by omega)
  · by_cases z : j = k
    · subst z
      refine ⟨?_, ?_, ?_⟩
      · rw [pk_un (by omega), pk_un (by omega), pk_us]
      · rw [pk_un (by omega), show 12 + c0 + j = 12 + (c0 + j) by omega, pk_us]
      · rw [show 24 + c0 + j = 24 + (c0 + j) by omega, pk_us]
    · obtain ⟨r1, r2, r3⟩ := h2 j (by omega)
      refine ⟨?_, ?_, ?_⟩
      · rw [pk_un (by omega), pk_un (by omega), pk_un (by omega)]; exact r1
      · rw [pk_un (by omega), pk_un (by omega), pk_un (by omega)]; exact r2
      · rw [pk_un (by omega), pk_un (by omega), pk_un (by omega)]; exact r3
section ADT
variable {κ : Kp} {μ : Mem} {gT gO gK A : Nat → Int32} {c d j : Nat} {v : Int32}
theorem nt_5 : upI (ntM μ gT gO gK c) 5 j v = ntM μ (upd gT j v) gO gK c := by
  refine Prod.ext ?_ rfl
  funext z
  by_cases c1 : z = 5
  · subst c1; rfl
  · rw [rowI_n c1]
    by_cases c2 : z = 3
    · subst c2; rfl
    · by_cases c3 : z = 4
      · subst c3; rfl
      · by_cases c4 : z = 1
        · subst c4; rfl
        · unfold ntM
          rw [rowI_n c4, rowI_n c3, rowI_n c2, rowI_n c1, rowI_n c4, rowI_n c3, rowI_n c2, rowI_n c1]
theorem nt_3 : upI (ntM μ gT gO gK c) 3 j v = ntM μ gT (upd gO j v) gK c := by
  refine Prod.ext ?_ rfl
  funext z
  by_cases c2 : z = 3
  · subst c2; rfl
  · rw [rowI_n c2]
    by_cases c3 : z = 4
    · subst c3; rfl
    · by_cases c4 : z = 1
      · subst c4; rfl
      · unfold ntM
        rw [rowI_n c4, rowI_n c3, rowI_n c2, rowI_n c4, rowI_n c3, rowI_n c2]
theorem nt_4 : upI (ntM μ gT gO gK c) 4 j v = ntM μ gT gO (upd gK j v) c := by
  refine Prod.ext ?_ rfl
  funext z
  by_cases c3 : z = 4
  · subst c3; rfl
  · rw [rowI_n c3]
    by_cases c4 : z = 1
    · subst c4; rfl
    · unfold ntM
      rw [rowI_n c4, rowI_n c3, rowI_n c4, rowI_n c3]
theorem nt_1 : upI (ntM μ gT gO gK c) 1 6 (nI d) = ntM μ gT gO gK d := by
  refine Prod.ext ?_ rfl
  funext z
  by_cases c1 : z = 1
  · subst c1
    show upd (upd (μ.1 1) 6 (nI c)) 6 (nI d) = upd (μ.1 1) 6 (nI d)
    rw [fa_upd_twice]
  · rw [rowI_n c1]
    unfold ntM
    rw [rowI_n c1, rowI_n c1]
theorem nt_0 (h : μ.1 1 6 = nI c) : ntM μ (μ.1 5) (μ.1 3) (μ.1 4) c = μ := by
  unfold ntM
  rw [rowI_id, rowI_id, rowI_id, ← h, upI_id]
theorem mt_128 : upI (mtM μ A c) 128 j v = mtM μ (upd A j v) c := by
  refine Prod.ext ?_ rfl
  funext z
  by_cases c1 : z = 128
  · subst c1; rfl
  · rw [rowI_n c1]
    by_cases c2 : z = 127
    · subst c2; rfl
    · unfold mtM
      rw [rowI_n c2, rowI_n c1, rowI_n c2, rowI_n c1]
theorem mt_1 : upI (mtM μ A c) 127 2 (nI d) = mtM μ A d := by
  refine Prod.ext ?_ rfl
  funext z
  by_cases c1 : z = 127
  · subst c1
    show upd (upd (μ.1 127) 2 (nI c)) 2 (nI d) = upd (μ.1 127) 2 (nI d)
    rw [fa_upd_twice]
  · rw [rowI_n c1]
    unfold mtM
    rw [rowI_n c1, rowI_n c1]
theorem mt_0 (h : μ.1 127 2 = nI c) : mtM μ (μ.1 128) c = μ := by
  unfold mtM
  rw [rowI_id, ← h, upI_id]
theorem y_addTL {tc cm : Nat} {l : List (Int32 × Int32)} (h3 : μ.1 127 2 = nI tc) (h39 : μ.1 127 39 = nI cm) (hl : tc + l.length ≤ 12) (hi : Ity (μ.1 133) 0 l) : ∃ A, NeA A (μ.1 128) tc l.length (fun k => (l.getD k (0, 0)).1) (fun k => (l.getD k (0, 0)).2) ∧ b_X12_things_133 127 (nI l.length) bigN 0 (hp κ μ) = some (nI l.length, hp κ (upI (upI (mtM μ A (tc + l.length)) 127 23 0) 127 39 (nI (cm + 1)))) := by
  have hs : ∀ k ν, k < l.length → (∃ A, ν = mtM μ A (tc + k) ∧ NeA A (μ.1 128) tc k (fun k => (l.getD k (0, 0)).1) (fun k => (l.getD k (0, 0)).2)) → ∃ ξ, (∀ n, (fun n k ν => b_X12_things_133 127 (nI l.length) n (nI k) (hp κ ν)) (n + 1) k ν = (fun n k ν => b_X12_things_133 127 (nI l.length) n (nI k) (hp κ ν)) n (k + 1) ξ) ∧ ∃ A, ξ = mtM μ A (tc + (k + 1)) ∧ NeA A (μ.1 128) tc (k + 1) (fun k => (l.getD k (0, 0)).1) (fun k => (l.getD k (0, 0)).2) := by
    rintro k ν hk ⟨A, rfl, hn⟩
    obtain ⟨i1, i2⟩ := hi k hk
    rw [Nat.zero_add] at i1 i2
    have e3 : ∀ A c, (mtM μ A c).1 127 2 = nI c := fun _ _ => rfl
    have e14 : ∀ A c, (mtM μ A c).1 133 (2 * k) = (l.getD k (0, 0)).1 := fun _ _ => i1
    have e15 : ∀ A c, (mtM μ A c).1 133 (2 * k + 1) = (l.getD k (0, 0)).2 := fun _ _ => i2
    have e2 : (2 : Int32) * nI k = nI (2 * k) := pk_mul 2 k
    refine ⟨_, fun n => ?_, _, rfl, hn.up (by omega)⟩
    (try dsimp only)
    rw [b_X12_things_133, if_neg (nI_ge hk (by omega)), g127_0, obs, g127_2, obs, e3, g127_17, obs, e2, r133 (by omega), obs, e14, w128 (by omega), obs, mt_128, g127_0, obs, g127_2, obs, e3, g127_17, obs, nI_1, r133 (by omega), obs, e15, i12, w128 (by omega), obs, mt_128, g127_0, obs, g127_2, obs, e3, g127_17, obs, r133 (by omega), obs, e15, i24, w128 (by omega), obs, mt_128, g127_2, obs, e3, nI_1, p127_2, obs, mt_1, nI_1]
    rfl
  obtain ⟨ξ, ⟨A, hg, hn⟩, h2⟩ := lpf (fun n k ν => b_X12_things_133 127 (nI l.length) n (nI k) (hp κ ν)) (fun k ν => ∃ A, ν = mtM μ A (tc + k) ∧ NeA A (μ.1 128) tc k (fun k => (l.getD k (0, 0)).1) (fun k => (l.getD k (0, 0)).2)) l.length hs μ ⟨μ.1 128, (mt_0 h3).symm, fun _ _ _ _ => rfl, fun j hj => absurd hj (Nat.not_lt_zero _)⟩ l.length (Nat.le_refl _)
  subst hg
  refine ⟨A, hn, ?_⟩
  have h4 := h2 (4999 - l.length + 1)
  (try dsimp only at h4)
  rw [show 4999 - l.length + 1 + l.length = 5000 by omega] at h4
  refine Eq.trans h4 ?_
  have e39 : (upI (mtM μ A (tc + l.length)) 127 23 0).1 127 39 = nI cm := h39
  rw [b_X12_things_133, if_pos (nI_le (Nat.le_refl _) (by omega)), p127_23, obs, g127_39, obs, e39, nI_1, p127_39, obs]
end ADT
