/-! PURE: deal: the reference; the pair. -/
def FD (ν ξ : Mem) : Prop := (∀ z, z ≠ 127 → z ≠ 135 → z ≠ 142 → ξ.1 z = ν.1 z) ∧ (∀ j, j < 12 ∨ 17 ≤ j → j ≠ 20 → ξ.1 127 j = ν.1 127 j) ∧ ξ.2 = ν.2
theorem FD.rf {ν : Mem} : FD ν ν := ⟨fun _ _ _ _ => rfl, fun _ _ _ => rfl, rfl⟩
theorem FD.fw {ν ξ ζ : Mem} (h : FD ν ξ) (k : Fw ξ ζ) : FD ν ζ := ⟨fun z z1 z2 z3 => (k.1 z z1 z2).trans (h.1 z z1 z2 z3), fun j h1 h2 => (k.2.1 j h1 h2).trans (h.2.1 j h1 h2), k.2.2.trans h.2.2⟩
theorem FD.up {ν ξ : Mem} {q : Nat} {v : Int32} (h : FD ν ξ) : FD ν (upI ξ 142 q v) := ⟨fun z z1 z2 z3 => by rw [rowI_n z3]; exact h.1 z z1 z2 z3, fun j h1 h2 => by rw [rowI_n (by decide)]; exact h.2.1 j h1 h2, h.2.2⟩
theorem FD.c {ν ξ : Mem} (h : FD ν ξ) : cl ξ = cl ν := by
  funext a j
  by_cases c1 : a = 135
  · subst c1; rfl
  · by_cases c2 : a = 142
    · subst c2; rfl
    · by_cases c3 : a = 127
      · subst c3
        by_cases r : rel 127 j = true
        · have := rel_no r
          rw [cl_r r, cl_r r, h.2.1 j (by omega) (by omega)]
        · unfold cl
          rw [if_neg r, if_neg r]
          rfl
      · unfold cl
        rw [h.1 a c3 c1 c2]
section FLY
variable {κ : Kp} {ν : Mem} {hc tc kc lm B rn : Nat} {tx : Nat → Nat} {cd : List Int32}
theorem FD.mn {ξ : Mem} (h : FD ν ξ) (hM : Mn ν hc tc kc lm) : Mn ξ hc tc kc lm := by
  unfold Mn
  rw [h.2.1 1 (by omega) (by omega), h.2.1 2 (by omega) (by omega), h.2.1 3 (by omega) (by omega), h.2.1 6 (by omega) (by omega)]
  exact hM
theorem FD.ry {ξ : Mem} (h : FD ν ξ) (hy : RY ν.1 rn tx) : RY ξ.1 rn tx := by
  unfold RY
  rw [h.2.1 19 (by omega) (by omega), h.1 134 (by decide) (by decide) (by decide)]
  exact hy
/-- the table, one house -/
theorem y_fill1 (hM : Mn ν hc tc kc lm) (hW : WS (ν.1 128) hc tc B) (hw : Rw rn tx cd) (hy : RY ν.1 rn tx) {x : Nat} (hx : x < hc) (ξ0 : Mem) (hξ0 : FD ν ξ0) : ∃ ξ, (∀ r, b_X12_deal_17 r 127 (nI x) bigN 0 (hp κ ξ0) = r (nI (x + 1)) (hp κ ξ)) ∧ FD ν ξ ∧ (∀ q, q < 12 * x → ξ.1 142 q = ξ0.1 142 q) ∧ ∀ t, t < tc → ξ.1 142 (12 * x + t) = gn (alD (ν.1 128) (ν.1 129) (ν.1 130) tc kc lm) (wD (ν.1 128) (ν.1 129) (ν.1 130) tc kc rn tx) x t := by
  have b1 := hM.2.2.2.2.1
  have b2 := hM.2.2.2.2.2.1
  have e12 : ∀ t, (12 : Int32) * nI x + nI t = nI (12 * x + t) := fun t => by
    rw [show (12 : Int32) * nI x = nI (12 * x) from pk_mul 12 x, nI_add]
  obtain ⟨ξ, ⟨q1, q2, q3⟩, h2⟩ := lpf (fun n t (ξ : Mem) => fun r => b_X12_deal_17 r 127 (nI x) n (nI t) (hp κ ξ)) (fun k ξ => FD ν ξ ∧ (∀ q, q < 12 * x → ξ.1 142 q = ξ0.1 142 q) ∧ ∀ t, t < k → ξ.1 142 (12 * x + t) = gn (alD (ν.1 128) (ν.1 129) (ν.1 130) tc kc lm) (wD (ν.1 128) (ν.1 129) (ν.1 130) tc kc rn tx) x t) tc (fun t ξ ht hQ => by
    obtain ⟨q1, q2, q3⟩ := hQ
    have e2 : ξ.1 127 2 = nI tc := (q1.mn hM).2.1
    have e128 : ξ.1 128 = ν.1 128 := q1.1 128 (by decide) (by decide) (by decide)
    have e129 : ξ.1 129 = ν.1 129 := q1.1 129 (by decide) (by decide) (by decide)
    have e130 : ξ.1 130 = ν.1 130 := q1.1 130 (by decide) (by decide) (by decide)
    have keep : ∀ (ζ : Mem) (v : Int32), Fw ξ ζ → v = gn (alD (ν.1 128) (ν.1 129) (ν.1 130) tc kc lm) (wD (ν.1 128) (ν.1 129) (ν.1 130) tc kc rn tx) x t → FD ν (upI ζ 142 (12 * x + t) v) ∧ (∀ q, q < 12 * x → (upI ζ 142 (12 * x + t) v).1 142 q = ξ0.1 142 q) ∧ ∀ u, u < t + 1 → (upI ζ 142 (12 * x + t) v).1 142 (12 * x + u) = gn (alD (ν.1 128) (ν.1 129) (ν.1 130) tc kc lm) (wD (ν.1 128) (ν.1 129) (ν.1 130) tc kc rn tx) x u := fun ζ v hζ hv => by
      have z142 : ζ.1 142 = ξ.1 142 := hζ.1 142 (by decide) (by decide)
      refine ⟨(q1.fw hζ).up, fun q hq => ?_, fun u hu => ?_⟩
      · rw [rowI_s, pk_un (by omega), z142]; exact q2 q hq
      · rw [rowI_s]
        by_cases z : u = t
        · subst z; rw [pk_us]; exact hv
        · rw [pk_un (by omega), z142]; exact q3 u (by omega)
    have hrf : Fw ξ ξ := ⟨fun _ _ _ => rfl, fun _ _ _ => rfl, rfl⟩
    have hbit : (kp (fun t => ν.1 128 (12 + t)) tc (-1)).testBit t = decide (ν.1 128 (12 + t) = -1) := by
      rw [kp_bit, decide_eq_true ht, Bool.true_and]
    have hnb := y_isNobodys (κ := κ) (ν := ξ) (t := t) (by omega)
    rw [e128] at hnb
    by_cases cb : ν.1 128 (12 + t) = -1
    · have hkn : ¬ ξ.1 128 (24 + t) = nI x := fun z => by
        rw [e128, ((hW.1 t ht).2.2.2).mp cb] at z
        exact nI_m1 (show x < 2 ^ 31 by omega) z.symm
      have hwb := y_wouldBreak (κ := κ) (q1.mn hM) (j := x) ht hkn
      rw [e128, e129, e130] at hwb
      by_cases co : okt (ν.1 128) (ν.1 129) (ν.1 130) kc (ld (ν.1 128) (ν.1 129) (ν.1 130) tc lm (kp (fun t => ν.1 128 (24 + t)) tc (nI x))) t = true
      · have hal : alD (ν.1 128) (ν.1 129) (ν.1 130) tc kc lm x t = true := by
          unfold alD
          rw [hbit, decide_eq_true cb, co]
          rfl
        obtain ⟨ζ, k1, k2⟩ := y_worthOf (κ := κ) (q1.mn hM) (q1.ry hy) hw ht (nI x)
        rw [e128, e129, e130] at k1
        refine ⟨upI ζ 142 (12 * x + t) (vwr (ν.1 128) (ν.1 129) (ν.1 130) tc kc rn tx t (nI x)), fun n => ?_, keep ζ _ k2 (by unfold gn; rw [if_pos hal, wD_nI])⟩
        funext r
        (try dsimp only)
        rw [b_X12_deal_17, g127_2, obs, e2, if_neg (nI_ge ht (by omega)), g127_31, obs, hnb, obs]
        (try dsimp only)
        rw [if_pos cb, if_neg (show ¬ (1 : Int32) = 0 by decide), hwb, obs]
        (try dsimp only)
        rw [if_pos co, if_pos rfl, k1, obs]
        (try dsimp only)
        unfold b_X12_deal_62
        rw [e12, w142 (by omega), obs, nI_1]
      · have hal : ¬ alD (ν.1 128) (ν.1 129) (ν.1 130) tc kc lm x t = true := fun z => by
          unfold alD at z
          rw [Bool.and_eq_true] at z
          exact co z.2
        refine ⟨upI ξ 142 (12 * x + t) (-1), fun n => ?_, keep ξ _ hrf (by unfold gn; rw [if_neg hal])⟩
        funext r
        (try dsimp only)
        rw [b_X12_deal_17, g127_2, obs, e2, if_neg (nI_ge ht (by omega)), g127_31, obs, hnb, obs]
        (try dsimp only)
        rw [if_pos cb, if_neg (show ¬ (1 : Int32) = 0 by decide), hwb, obs]
        (try dsimp only)
        unfold b_X12_deal_61 b_X12_deal_62
        rw [if_neg co, if_neg (show ¬ (1 : Int32) = 0 by decide), e12, w142 (by omega), obs, nI_1]
    · have hal : ¬ alD (ν.1 128) (ν.1 129) (ν.1 130) tc kc lm x t = true := fun z => by
        unfold alD at z
        rw [Bool.and_eq_true, hbit] at z
        exact cb (of_decide_eq_true z.1)
      refine ⟨upI ξ 142 (12 * x + t) (-1), fun n => ?_, keep ξ _ hrf (by unfold gn; rw [if_neg hal])⟩
      funext r
      (try dsimp only)
      rw [b_X12_deal_17, g127_2, obs, e2, if_neg (nI_ge ht (by omega)), g127_31, obs, hnb, obs]
      (try dsimp only)
      unfold b_X12_deal_61 b_X12_deal_62
      rw [if_neg cb, if_pos rfl, e12, w142 (by omega), obs, nI_1]) ξ0 ⟨hξ0, fun _ _ => rfl, fun t ht => absurd ht (Nat.not_lt_zero _)⟩ tc (Nat.le_refl _)
  refine ⟨ξ, fun r => ?_, q1, q2, q3⟩
  have h3 := congrFun (h2 (4999 - tc + 1)) r
  (try dsimp only at h3)
  rw [show 4999 - tc + 1 + tc = 5000 by omega] at h3
  refine Eq.trans h3 ?_
  rw [b_X12_deal_17, g127_2, obs, (q1.mn hM).2.1, if_pos (nI_le (Nat.le_refl _) (by omega)), nI_1]
end FLY
/-! the search -/
def gdM (ν : Mem) (pl : Nat → Int32) (b : Nat) (f : Nat → Int32) : Mem := upI (rowI (rowI ν 140 pl) 141 f) 127 30 (nI b - 1)
section GDM
variable {κ : Kp} {ν : Mem} {pl f : Nat → Int32} {b : Nat}
theorem gd_n {z : Nat} (h1 : z ≠ 127) (h2 : z ≠ 140) (h3 : z ≠ 141) : (gdM ν pl b f).1 z = ν.1 z := by
  unfold gdM
  rw [rowI_n h1, rowI_n h3, rowI_n h2]
theorem gd_j {j : Nat} (h : j ≠ 30) : (gdM ν pl b f).1 127 j = ν.1 127 j := by
  unfold gdM
  rw [rowI_s, pk_un h, rowI_n (by decide), rowI_n (by decide)]
theorem gd_140 {q : Nat} {v : Int32} : upI (gdM ν pl b f) 140 q v = gdM ν (upd pl q v) b f := by
  refine Prod.ext ?_ rfl
  funext z
  by_cases c : z = 140
  · subst c; rfl
  · rw [rowI_n c]
    by_cases c1 : z = 127
    · subst c1; rfl
    · by_cases c2 : z = 141
      · subst c2; rfl
      · rw [gd_n c1 c c2, gd_n c1 c c2]
theorem gd_141 {q : Nat} {v : Int32} : upI (gdM ν pl b f) 141 q v = gdM ν pl b (upd f q v) := by
  refine Prod.ext ?_ rfl
  funext z
  by_cases c : z = 141
  · subst c; rfl
  · rw [rowI_n c]
    by_cases c1 : z = 127
    · subst c1; rfl
    · by_cases c2 : z = 140
      · subst c2; rfl
      · rw [gd_n c1 c2 c, gd_n c1 c2 c]
theorem gd_30 {s : Nat} : upI (gdM ν pl b f) 127 30 (nI s) = gdM ν pl (s + 1) f := by
  refine Prod.ext ?_ rfl
  funext z
  by_cases c : z = 127
  · subst c
    have e : nI (s + 1) - 1 = nI s := pk_sub (a := s + 1) (b := 1) (by omega)
    show upd (upd (ν.1 127) 30 (nI b - 1)) 30 (nI s) = upd (ν.1 127) 30 (nI (s + 1) - 1)
    rw [e, fa_upd_twice]
  · rw [rowI_n c]
    unfold gdM
    rw [rowI_n c, rowI_n c]
theorem gd_cl : cl (gdM ν pl b f) = cl ν := by
  unfold gdM
  rw [cl_up rfl rfl, cl_row rfl (fun j => by unfold rel; rfl), cl_row rfl (fun j => by unfold rel; rfl)]
theorem Mn.gd {hc tc kc lm : Nat} (h : Mn ν hc tc kc lm) : Mn (gdM ν pl b f) hc tc kc lm := by
  unfold Mn
  rw [gd_j (by decide), gd_j (by decide), gd_j (by decide), gd_j (by decide)]
  exact h
end GDM
section GDL
variable {κ : Kp} {ν : Mem} {hc tc kc lm : Nat} {al : Nat → Nat → Bool} {w : Nat → Nat → Nat}
theorem y_gd25 (hM : Mn ν hc tc kc lm) (rc : Nat → Nat → Int32 → Int32 → Int32 → ci_H → Option ci_H) {pl f : Nat → Int32} {b : Nat} : ∃ f', b_X12_goDeal_25 rc 127 bigN 0 (hp κ (gdM ν pl b f)) = some (hp κ (gdM ν pl b f')) ∧ ∀ u, u < hc → f' u = pl u := by
  have b1 := hM.2.2.2.2.1
  have e1 : ∀ f, (gdM ν pl b f).1 127 1 = nI hc := fun f => (hM.gd (pl := pl) (b := b) (f := f)).1
  have e140 : ∀ f, (gdM ν pl b f).1 140 = pl := fun _ => rfl
  obtain ⟨ξ, ⟨f', hf1, hf2⟩, h2⟩ := lpf (fun n k ξ => b_X12_goDeal_25 rc 127 n (nI k) (hp κ ξ)) (fun k ξ => ∃ f', ξ = gdM ν pl b f' ∧ ∀ u, u < k → f' u = pl u) hc (fun k ξ hk hQ => by
    obtain ⟨f', rfl, hf⟩ := hQ
    refine ⟨gdM ν pl b (upd f' k (pl k)), fun n => ?_, _, rfl, fun u hu => ?_⟩
    · (try dsimp only)
      rw [b_X12_goDeal_25, g127_1, obs, e1, if_neg (nI_ge hk (by omega)), g127_28, obs, g127_27, obs, r140 (by omega), obs, e140, w141 (by omega), obs, gd_141, nI_1]
    · by_cases z : u = k
      · subst z; rw [pk_us]
      · rw [pk_un z]; exact hf u (by omega)) (gdM ν pl b f) ⟨f, rfl, fun u hu => absurd hu (Nat.not_lt_zero _)⟩ hc (Nat.le_refl _)
  subst hf1
  refine ⟨f', ?_, hf2⟩
  have h3 := h2 (4999 - hc + 1)
  (try dsimp only at h3)
  rw [show 4999 - hc + 1 + hc = 5000 by omega] at h3
  refine Eq.trans h3 ?_
  rw [b_X12_goDeal_25, g127_1, obs, e1, if_pos (nI_le (Nat.le_refl _) (by omega))]
/-- what a record holds: houses below x as placed, the others by the list -/
def Gd (x n : Nat) (pl : Nat → Int32) (p : List Int32) (f : Nat → Int32) : Prop := (∀ k, k < x → f k = pl k) ∧ ∀ k, k < n → f (x + k) = p.getD k 0
theorem Gd.cons {x n : Nat} {pl pl1 : Nat → Int32} {p : List Int32} {f : Nat → Int32} {v : Int32} (h : Gd (x + 1) n pl1 p f) (h1 : ∀ k, k < x → pl1 k = pl k) (h2 : pl1 x = v) : Gd x (n + 1) pl (v :: p) f := by
  refine ⟨fun k hk => (h.1 k (by omega)).trans (h1 k hk), fun k hk => ?_⟩
  cases k with
  | zero => exact (h.1 x (by omega)).trans h2
  | succ k =>
    have := h.2 k (by omega)
    rw [show x + 1 + k = x + (k + 1) by omega] at this
    exact this
theorem y_goDeal (hM : Mn ν hc tc kc lm) (hw : ∀ i t, w i t ≤ 999) {nob : Nat} (hnob : nob < 4096) (hal : ∀ x t, al x t = true → nob.testBit t = true) (hG : ∀ x, x < hc → ∀ t, t < tc → ν.1 142 (12 * x + t) = gn al w x t) : ∀ (n x F used sm b : Nat) (pl f : Nat → Int32), x + n = hc → used < 4096 → sm ≤ 999 * x → b ≤ 20000 → ∃ pl' b' f', FG_X12_goDeal (F + n + 1) 0 127 (nI x) (nI used) (nI sm) (hp κ (gdM ν pl b f)) = some (hp κ (gdM ν pl' b' f')) ∧ (∀ k, k < x → pl' k = pl k) ∧ b' ≤ 20000 ∧ Rs (Gd x n pl) (bd al w tc n x (sd nob used)) sm b f b' f' := by
  have b1 := hM.2.2.2.2.1
  have b2 := hM.2.2.2.2.2.1
  have e30 : ∀ pl b f, (gdM ν pl b f).1 127 30 = nI b - 1 := fun _ _ _ => rfl
  have e1 : ∀ pl b f, (gdM ν pl b f).1 127 1 = nI hc := fun pl b f => (hM.gd (pl := pl) (b := b) (f := f)).1
  have e2 : ∀ pl b f, (gdM ν pl b f).1 127 2 = nI tc := fun pl b f => (hM.gd (pl := pl) (b := b) (f := f)).2.1
  intro n
  induction n with
  | zero =>
    intro x F used sm b pl f hx hu hsm hb
    have hx : x = hc := hx
    subst hx
    show ∃ pl' b' f', G_X12_goDeal (fun j a0 a1 a2 a3 h => FG_X12_goDeal F j a0 a1 a2 a3 h) 127 (nI x) (nI used) (nI sm) (hp κ (gdM ν pl b f)) = _ ∧ _
    unfold G_X12_goDeal
    rw [if_pos q127, g127_1, obs, e1, if_pos rfl, g127_30, obs, e30]
    by_cases c : b ≤ sm
    · obtain ⟨f', k1, k2⟩ := y_gd25 (κ := κ) (ν := ν) hM (fun j a0 a1 a2 a3 h => FG_X12_goDeal F j a0 a1 a2 a3 h) (pl := pl) (f := f) (b := sm + 1)
      rw [if_pos ((lt_m1 (by omega) (by omega)).mpr c), p127_30, obs, gd_30, k1]
      exact ⟨pl, sm + 1, f', rfl, fun _ _ => rfl, by omega, fun _ => ⟨rfl, k2, fun k hk => absurd hk (Nat.not_lt_zero _)⟩, fun z => absurd (show b ≤ sm + 0 from c) z⟩
    · rw [if_neg (fun z => c ((lt_m1 (by omega) (by omega)).mp z))]
      exact ⟨pl, b, f, rfl, fun _ _ => rfl, hb, fun z => absurd (show b ≤ sm from z) c, fun _ => ⟨rfl, rfl⟩⟩
  | succ n ih =>
    intro x F used sm b pl f hx hu hsm hb
    have hxc : x < hc := by omega
    have e12 : ∀ t, (12 : Int32) * nI x + nI t = nI (12 * x + t) := fun t => by
      rw [show (12 : Int32) * nI x = nI (12 * x) from pk_mul 12 x, nI_add]
    obtain ⟨pl1, ba, fa, k1, k2, k3, k4⟩ := ih (x + 1) F used sm b (upd pl x (-1)) f (by omega) hu (by omega) hb
    have hacc : Rs (Gd x (n + 1) pl) ((bd al w tc n (x + 1) (sd nob used)).1, -1 :: (bd al w tc n (x + 1) (sd nob used)).2) sm b f ba fa := ⟨fun z => ⟨(k4.1 z).1, (k4.1 z).2.cons (fun k hk => pk_un (by omega)) pk_us⟩, k4.2⟩
    obtain ⟨ξ, ⟨pl2, b2', f2, hξ, q1, q2, q3⟩, h2⟩ := lpe (fun n' t (ξ : Mem) => b_X12_goDeal_74 (fun j a0 a1 a2 a3 h => FG_X12_goDeal (F + n + 1) j a0 a1 a2 a3 h) 127 (nI x) (nI used) (nI sm) n' (nI t) (hp κ ξ)) (fun t ξ => ∃ pl' b' f', ξ = gdM ν pl' b' f' ∧ (∀ k, k < x → pl' k = pl k) ∧ b' ≤ 20000 ∧ Rs (Gd x (n + 1) pl) (bdF al w (fun fr => bd al w tc n (x + 1) fr) (sd nob used) x ((bd al w tc n (x + 1) (sd nob used)).1, -1 :: (bd al w tc n (x + 1) (sd nob used)).2) t) sm b f b' f') tc (fun t ξ ht hQ => by
      obtain ⟨pl', b', f', rfl, q1, q2, q3⟩ := hQ
      have e142 : ∀ pl b f, (gdM ν pl b f).1 142 (12 * x + t) = gn al w x t := fun pl b f => by rw [gd_n (by decide) (by decide) (by decide)]; exact hG x hxc t ht
      by_cases cu : used.testBit t = true
      · have hav : ¬ ((sd nob used).testBit t && al x t) = true := fun z => by
          rw [Bool.and_eq_true, sd_bit, cu] at z
          simp at z
        refine ⟨gdM ν pl' b' f', fun n' => ?_, pl', b', f', rfl, q1, q2, by rw [bdF_s, if_neg hav]; exact q3⟩
        (try dsimp only)
        rw [b_X12_goDeal_74, g127_2, obs, e2, if_neg (nI_ge ht (by omega)), y_has (by omega) (by omega), obs, if_pos cu]
        (try dsimp only)
        rw [if_neg (show ¬ (1 : Int32) = 0 by decide), b_X12_goDeal_146, nI_1]
      · by_cases ca : al x t = true
        · have hav : ((sd nob used).testBit t && al x t) = true := by
            rw [sd_bit, hal x t ca, ca, show used.testBit t = false by simpa using cu]
            rfl
          have egn : gn al w x t = nI (w x t) := if_pos ca
          have hwt := hw x t
          have hp12 : 2 ^ t < 2 ^ 12 := Nat.pow_lt_pow_right (by decide) (by omega)
          obtain ⟨pl3, b3, f3, j1, j2, j3, j4⟩ := ih (x + 1) F (used ||| 2 ^ t) (sm + w x t) b' (upd pl' x (nI t)) f' (by omega) (or_l (n := 12) hu hp12) (by omega) q2
          have efr : sd nob (used ||| 2 ^ t) = sd (sd nob used) (2 ^ t) := by
            apply Nat.eq_of_testBit_eq
            intro i
            rw [sd_bit, sd_bit, sd_bit, Nat.testBit_or]
            cases nob.testBit i <;> cases used.testBit i <;> cases (2 ^ t).testBit i <;> rfl
          rw [efr] at j4
          refine ⟨gdM ν pl3 b3 f3, fun n' => ?_, pl3, b3, f3, rfl, fun k hk => by rw [j2 k (by omega), pk_un (by omega)]; exact q1 k hk, j3, ?_⟩
          · (try dsimp only)
            rw [b_X12_goDeal_74, g127_2, obs, e2, if_neg (nI_ge ht (by omega)), y_has (by omega) (by omega), obs, if_neg cu]
            (try dsimp only)
            rw [if_pos rfl, g127_31, obs, e12, r142 (by omega), obs, e142, egn, if_neg (nI_m1 (by omega)), g127_27, obs, w140 (by omega), obs, gd_140, g127_31, obs, r142 (by omega), obs, e142, egn, nI_1, i_sh1 t (by omega), i_or, nI_add, j1, obs, b_X12_goDeal_146, nI_1]
          · rw [bdF_s, if_pos hav]
            have hcand : Rs (Gd x (n + 1) pl) ((bd al w tc n (x + 1) (sd (sd nob used) (2 ^ t))).1 + w x t, nI t :: (bd al w tc n (x + 1) (sd (sd nob used) (2 ^ t))).2) sm b' f' b3 f3 := by
              refine ⟨fun z => ?_, fun z => ?_⟩
              · have z : b' ≤ sm + ((bd al w tc n (x + 1) (sd (sd nob used) (2 ^ t))).1 + w x t) := z
                have := j4.1 (by omega)
                refine ⟨?_, this.2.cons (fun k hk => by rw [pk_un (by omega)]; exact q1 k hk) pk_us⟩
                rw [this.1]
                show _ = sm + ((bd al w tc n (x + 1) (sd (sd nob used) (2 ^ t))).1 + w x t) + 1
                omega
              · have z : ¬ b' ≤ sm + ((bd al w tc n (x + 1) (sd (sd nob used) (2 ^ t))).1 + w x t) := z
                exact j4.2 (by omega)
            exact q3.bt hcand
        · have hav : ¬ ((sd nob used).testBit t && al x t) = true := fun z => by
            rw [Bool.and_eq_true] at z
            exact ca z.2
          have egn : gn al w x t = -1 := if_neg ca
          refine ⟨gdM ν pl' b' f', fun n' => ?_, pl', b', f', rfl, q1, q2, by rw [bdF_s, if_neg hav]; exact q3⟩
          (try dsimp only)
          rw [b_X12_goDeal_74, g127_2, obs, e2, if_neg (nI_ge ht (by omega)), y_has (by omega) (by omega), obs, if_neg cu]
          (try dsimp only)
          rw [if_pos rfl, g127_31, obs, e12, r142 (by omega), obs, e142, egn, if_pos rfl, b_X12_goDeal_146, nI_1]) (gdM ν pl1 ba fa) ⟨pl1, ba, fa, rfl, fun k hk => by rw [k2 k (by omega), pk_un (by omega)], k3, hacc⟩ tc (Nat.le_refl _)
    refine ⟨pl2, b2', f2, ?_, q1, q2, by rw [bd_s]; exact q3⟩
    have h3 := h2 (4999 - tc + 1)
    (try dsimp only at h3)
    rw [show 4999 - tc + 1 + tc = 5000 by omega] at h3
    show G_X12_goDeal (fun j a0 a1 a2 a3 h => FG_X12_goDeal (F + n + 1) j a0 a1 a2 a3 h) 127 (nI x) (nI used) (nI sm) (hp κ (gdM ν pl b f)) = _
    unfold G_X12_goDeal
    rw [if_pos q127, g127_1, obs, e1, if_neg (fun z => absurd ((i_eq (by omega) (by omega)).mp z) (by omega)), g127_27, obs, w140 (by omega), obs, gd_140, nI_1]
    (try dsimp only)
    rw [k1, obs]
    refine Eq.trans h3 ?_
    subst hξ
    rw [b_X12_goDeal_74, g127_2, obs, e2, if_pos (nI_le (Nat.le_refl _) (by omega))]
end GDL
theorem cl_d {μ ν : Mem} (h : ∀ z, z ≠ 19 → z < 118 ∨ 124 < z → ν.1 z = μ.1 z) : cl ν = cl μ := by
  funext a j
  by_cases c0 : a = 19
  · subst c0; rfl
  · by_cases c : a < 118 ∨ 124 < a
    · unfold cl
      rw [h a c0 c]
    · have : a = 118 ∨ a = 119 ∨ a = 120 ∨ a = 121 ∨ a = 122 ∨ a = 123 ∨ a = 124 := by omega
      rcases this with rfl | rfl | rfl | rfl | rfl | rfl | rfl <;> rfl
theorem pr_deal : P0 F_X11_deal F_X12_deal := by
  intro κ B μ hR hB hI
  (try dsimp only)
  obtain ⟨hc, tc, kc, lm, hb⟩ := hI.bs
  have b1 := hb.b1
  have b2 := hb.b2
  obtain ⟨rn, tx, cd, w1, w2, w3⟩ := Ru.get hI.ru
  obtain ⟨ν, k1, k2, k3, k4⟩ := x_mostWorth (κ := κ) hR hb.xc w1 (w2.mv rfl)
  have eN : cl ν = cl μ := cl_d k2
  have hnob : kp (fun t => μ.1 128 (12 + t)) tc (-1) < 4096 := kp_lt b2
  have hbb := bd_b (al := alD (μ.1 128) (μ.1 129) (μ.1 130) tc kc lm) (tc := tc) (F := kp (fun t => μ.1 128 (12 + t)) tc (-1)) (wD_le (A := μ.1 128) (mu := μ.1 129) (mn := μ.1 130) (tc := tc) (kc := kc) (rn := rn) (tx := tx)) (show 0 + hc ≤ 5 by omega)
  -- the reference, over any memory of the like
  have hY : ∀ ρ : Mem, cl ρ = cl μ → ∃ ξ f', F_X12_deal 127 (hp κ ρ) = b_X12_deal_94 127 bigN 0 (hp κ (M0 ξ)) ∧ cl ξ = cl μ ∧ ξ.1 0 = ρ.1 0 ∧ ξ.2 = ρ.2 ∧ ξ.1 127 30 = nI (bd (alD (μ.1 128) (μ.1 129) (μ.1 130) tc kc lm) (wD (μ.1 128) (μ.1 129) (μ.1 130) tc kc rn tx) tc hc 0 (kp (fun t => μ.1 128 (12 + t)) tc (-1))).1 ∧ ξ.1 141 = f' ∧ ∀ k, k < hc → f' k = (bd (alD (μ.1 128) (μ.1 129) (μ.1 130) tc kc lm) (wD (μ.1 128) (μ.1 129) (μ.1 130) tc kc rn tx) tc hc 0 (kp (fun t => μ.1 128 (12 + t)) tc (-1))).2.getD k 0 := fun ρ e => by
    have e3 : cl (Zr ρ) = cl μ := cl_Z.trans e
    have hM : Mn (Zr ρ) hc tc kc lm := (hb.mv e3).2.1
    have hWS : WS ((Zr ρ).1 128) hc tc B := by rw [f128 e3]; exact hb.2.2.2.2.1
    obtain ⟨ξ, ⟨q1, q2⟩, h2⟩ := lpf (fun n x (ξ : Mem) => b_X12_deal_7 127 n (nI x) (hp κ ξ)) (fun k ξ => FD (Zr ρ) ξ ∧ ∀ x, x < k → ∀ t, t < tc → ξ.1 142 (12 * x + t) = gn (alD (μ.1 128) (μ.1 129) (μ.1 130) tc kc lm) (wD (μ.1 128) (μ.1 129) (μ.1 130) tc kc rn tx) x t) hc (fun x ξ hx hQ => by
      obtain ⟨q1, q2⟩ := hQ
      obtain ⟨ζ, l1, l2, l3, l4⟩ := y_fill1 (κ := κ) hM hWS w1 (w3.mv e3) hx ξ q1
      rw [f128 e3, f129 e3, f130 e3] at l4
      refine ⟨ζ, fun n => ?_, l2, fun y hy t ht => ?_⟩
      · (try dsimp only)
        rw [b_X12_deal_7, g127_1, obs, (q1.mn hM).1, if_neg (nI_ge hx (by omega)), l1]
      · by_cases z : y = x
        · subst z
          exact l4 t ht
        · rw [l3 _ (by omega)]
          exact q2 y (by omega) t ht) (Zr ρ) ⟨FD.rf, fun x hx => absurd hx (Nat.not_lt_zero _)⟩ hc (Nat.le_refl _)
    have eS : sd (kp (fun t => μ.1 128 (12 + t)) tc (-1)) 0 = kp (fun t => μ.1 128 (12 + t)) tc (-1) := by
      apply Nat.eq_of_testBit_eq
      intro i
      rw [sd_bit, Nat.zero_testBit]
      simp
    obtain ⟨pl', b', f', g1, -, g3, g4⟩ := y_goDeal (κ := κ) (ν := ξ) (q1.mn hM) (wD_le (A := μ.1 128) (mu := μ.1 129) (mn := μ.1 130) (tc := tc) (kc := kc) (rn := rn) (tx := tx)) hnob (al := alD (μ.1 128) (μ.1 129) (μ.1 130) tc kc lm) (fun x t h => by
      unfold alD at h
      rw [Bool.and_eq_true] at h
      exact h.1) q2 hc 0 (99 - hc) 0 0 0 (ξ.1 140) (ξ.1 141) (by omega) (by decide) (by omega) (by decide)
    rw [eS] at g4
    rw [show 99 - hc + hc + 1 = 100 by omega] at g1
    have g1 : F_X12_goDeal 127 0 0 0 (hp κ (gdM ξ (ξ.1 140) 0 (ξ.1 141))) = _ := g1
    obtain ⟨z1, z2⟩ := g4.1 (by omega)
    rw [Nat.zero_add] at z1
    have e0 : upI ξ 127 30 (-1) = gdM ξ (ξ.1 140) 0 (ξ.1 141) := by
      unfold gdM
      have e1 : rowI (rowI ξ 140 (ξ.1 140)) 141 (ξ.1 141) = ξ := by rw [rowI_id, rowI_id]
      rw [e1]
      rfl
    refine ⟨gdM ξ pl' b' f', f', ?_, by rw [gd_cl, q1.c, e3], ?_, q1.2.2, ?_, rfl, fun k hk => ?_⟩
    · have h3 := h2 (4999 - hc + 1)
      (try dsimp only at h3)
      rw [show 4999 - hc + 1 + hc = 5000 by omega] at h3
      unfold F_X12_deal
      rw [if_pos q127, p11, obs]
      refine Eq.trans h3 ?_
      rw [b_X12_deal_7, g127_1, obs, (q1.mn hM).1, if_pos (nI_le (Nat.le_refl _) (by omega)), p127_30, obs, e0, g1, obs, p10, obs]
    · rw [gd_n (by decide) (by decide) (by decide), q1.1 0 (by decide) (by decide) (by decide), Zr_n (by decide)]
    · show nI b' - 1 = _
      rw [z1]
      exact pk_sub (b := 1) (by omega)
    · have := z2.2 k hk
      rw [Nat.zero_add] at this
      exact this
  generalize bd (alD (μ.1 128) (μ.1 129) (μ.1 130) tc kc lm) (wD (μ.1 128) (μ.1 129) (μ.1 130) tc kc rn tx) tc hc 0 (kp (fun t => μ.1 128 (12 + t)) tc (-1)) = R at k1 k4 hY hbb
  generalize hv : (fun k => (R.2.getD k 0).toInt64 : Nat → Int64) = v
  have h15 : ∀ n, (TK ν v n).1 1 5 = nI hc := fun n => by rw [TK_n (by decide), k2 1 (by decide) (by omega)]; exact hb.1.1
  have hXl : b_X11_deal_14 0 (nI R.1) bigN 0 (hp κ (T0 ν)) = some (nI R.1, hp κ (TK ν v hc)) := by
    refine lpk (fun n i => b_X11_deal_14 0 (nI R.1) n (nI i) (hp κ (TK ν v i))) hc _ ?_ ?_ bigN 0 (Nat.zero_le _) (by unfold bigN; omega)
    · intro n i hi
      have e5 : (TK ν v i).1 124 i = R.2.getD i 0 := by rw [TK_n (by decide)]; exact k4 i hi
      have e6 : (R.2.getD i 0).toInt64 = v i := by rw [← hv]
      (try dsimp only)
      rw [b_X11_deal_14, g0_0, obs, g1_5, obs, h15, if_neg (nI_ge hi (by omega)), g0_16, obs, g116_4, obs, r124 (by omega), obs, e5, e6, x_tellK (by omega), obs, nI_1]
    · intro n
      (try dsimp only)
      rw [b_X11_deal_14, g0_0, obs, g1_5, obs, h15, if_pos (nI_le (Nat.le_refl _) (by omega))]
  have eK : cl (TK ν v hc) = cl μ := (TK_cl _).trans eN
  obtain ⟨ξ, f', y1, y2, y3, y4, y5, y6, y7⟩ := hY (TK ν v hc) eK
  have hM : Mn ξ hc tc kc lm := (hb.mv y2).2.1
  have hYl : b_X12_deal_94 127 bigN 0 (hp κ (M0 ξ)) = some (nI R.1, hp κ (MK ξ v hc)) := by
    refine lpk (fun n i => b_X12_deal_94 127 n (nI i) (hp κ (MK ξ v i))) hc _ ?_ ?_ bigN 0 (Nat.zero_le _) (by unfold bigN; omega)
    · intro n i hi
      have e1 : (MK ξ v i).1 127 1 = nI hc := by rw [MK_j (by decide)]; exact hM.1
      have e5 : (MK ξ v i).1 141 i = R.2.getD i 0 := by rw [MK_n (by decide), y6]; exact y7 i hi
      have e6 : (R.2.getD i 0).toInt64 = v i := by rw [← hv]
      (try dsimp only)
      rw [b_X12_deal_94, g127_1, obs, e1, if_neg (nI_ge hi (by omega)), g127_28, obs, r141 (by omega), obs, e5, e6, y_tellK (by omega), obs, nI_1]
    · intro n
      have e1 : (MK ξ v hc).1 127 1 = nI hc := by rw [MK_j (by decide)]; exact hM.1
      have e30 : (MK ξ v hc).1 127 30 = nI R.1 := by rw [MK_j (by decide)]; exact y5
      (try dsimp only)
      rw [b_X12_deal_94, g127_1, obs, e1, if_pos (nI_le (Nat.le_refl _) (by omega)), g127_30, obs, e30]
  refine ⟨nI R.1, TK ν v hc, MK ξ v hc, ?_, y1.trans hYl, ?_, ?_⟩
  · unfold F_X11_deal
    rw [if_pos q0, g0_16, obs, k1, obs]
    (try dsimp only)
    rw [x_tellNothing, obs]
    exact hXl
  · rw [MK_cl, y2]
    exact hI.1.up (by omega)
  · refine row_K (by omega) ?_ (fun i hi => ?_)
    · rw [y3]
      exact TK_7 hc
    · rw [y4]
      exact TK_L hc i hi
