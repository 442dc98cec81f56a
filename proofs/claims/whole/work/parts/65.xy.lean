/-! PURE: class and reference, over one memory's words. -/
def Bs (μ : Mem) (hc tc kc lm B : Nat) : Prop := Tn μ hc tc kc lm ∧ Mn μ hc tc kc lm ∧ Kd μ.1 kc ∧ SR μ.1 2 128 0 ∧ WS (μ.1 128) hc tc B ∧ So μ.1 tc kc
theorem Inv.bs {B : Nat} {μ : Mem} (h : Inv B μ) : ∃ hc tc kc lm, Bs μ hc tc kc lm B := h.1.tn
def KP (μ : Mem) (tc : Nat) (x : Int32) : Nat := kp (fun t => μ.1 128 (24 + t)) tc x
def OW (μ : Mem) (tc : Nat) (x : Int32) : Nat := kp (fun t => μ.1 128 (12 + t)) tc x
def BB (μ : Mem) (tc kc lm s : Nat) : Nat := bb (μ.1 128) (μ.1 129) (μ.1 130) tc kc lm s
def BH (μ : Mem) (hc tc kc lm : Nat) : Nat := bh (μ.1 128) (μ.1 129) (μ.1 130) hc tc kc lm
def LB (μ : Mem) (tc : Nat) : Nat := sb (fun t => decide (¬ μ.1 128 (12 + t) = μ.1 128 (24 + t))) tc
def KO (μ : Mem) (kc : Nat) (x : Int32) : Nat := sb (fun k => io x (μ.1 129 k) (μ.1 130 k)) kc
def KS (μ : Mem) (tc k : Nat) : Nat := kset (μ.1 128) (μ.1 129) (μ.1 130) tc k
def MO (μ : Mem) (tc s k : Nat) : Nat := mo (μ.1 128) (μ.1 129) (μ.1 130) tc s k
section XY
variable {κ : Kp} {μ ν : Mem} {hc tc kc lm B : Nat}
theorem KP_lt {x : Int32} (h : tc ≤ 12) : KP μ tc x < 4096 := kp_lt h
theorem OW_lt {x : Int32} (h : tc ≤ 12) : OW μ tc x < 4096 := kp_lt h
theorem BB_lt {s : Nat} (h : kc ≤ 6) : BB μ tc kc lm s < 64 := bb_lt h
theorem LB_lt (h : tc ≤ 12) : LB μ tc < 4096 := sb12 _ h
theorem KO_lt {x : Int32} (h : kc ≤ 6) : KO μ kc x < 64 := sb_le _ (m := 6) h
theorem KS_lt {k : Nat} (h : tc ≤ 12) : KS μ tc k < 4096 := sb12 _ h
theorem BH_lt (h : hc ≤ 5) : BH μ hc tc kc lm < 32 := sb_le _ (m := 5) h
theorem Tn.mv (h : Tn μ hc tc kc lm) (e : cl ν = cl μ) : Tn ν hc tc kc lm := by
  have e : ∀ a j, cl ν a j = cl μ a j := fun a j => by rw [e]
  exact ⟨(e 1 5).trans h.1, (e 1 6).trans h.2.1, (e 1 7).trans h.2.2.1, (e 1 8).trans h.2.2.2.1, h.2.2.2.2⟩
theorem Mn.mv (h : Mn μ hc tc kc lm) (e : cl ν = cl μ) : Mn ν hc tc kc lm := by
  have e : ∀ a j, cl ν a j = cl μ a j := fun a j => by rw [e]
  exact ⟨(e 127 1).trans h.1, (e 127 2).trans h.2.1, (e 127 3).trans h.2.2.1, (e 127 6).trans h.2.2.2.1, h.2.2.2.2⟩
theorem Bs.mv (h : Bs μ hc tc kc lm B) (e : cl ν = cl μ) : Bs ν hc tc kc lm B := by
  obtain ⟨h1, h2, h3, h4, h5, h6⟩ := h
  have ea : ∀ a, cl ν a = cl μ a := fun a => by rw [e]
  have e7 : ν.1 7 = μ.1 7 := ea 7
  have e8 : ν.1 8 = μ.1 8 := ea 8
  have e9 : ν.1 9 = μ.1 9 := ea 9
  have e10 : ν.1 10 = μ.1 10 := ea 10
  have e3 : ν.1 3 = μ.1 3 := ea 3
  have e4 : ν.1 4 = μ.1 4 := ea 4
  have e5 : ν.1 5 = μ.1 5 := ea 5
  have e6 : ν.1 6 = μ.1 6 := ea 6
  have e2 : ν.1 2 = μ.1 2 := ea 2
  have f128 : ν.1 128 = μ.1 128 := ea 128
  have f129 : ν.1 129 = μ.1 129 := ea 129
  have f130 : ν.1 130 = μ.1 130 := ea 130
  refine ⟨h1.mv e, h2.mv e, ?_, ?_, ?_, ?_⟩
  · intro k hk
    have h := h3 k hk
    rw [e7, e8, f129, f130]
    exact h
  · unfold SR at h4 ⊢
    rw [show 2 + 3 = 5 from rfl, show 2 + 1 = 3 from rfl, show 2 + 2 = 4 from rfl, show 2 + 4 = 6 from rfl] at h4 ⊢
    rw [e5, e3, e4, e6, e2, f128]
    exact h4
  · rw [f128]; exact h5
  · unfold So at h6 ⊢
    rw [e9, e10, f128, f129, f130]
    exact h6
theorem f128 (e : cl ν = cl μ) : ν.1 128 = μ.1 128 := congrFun e 128
theorem f129 (e : cl ν = cl μ) : ν.1 129 = μ.1 129 := congrFun e 129
theorem f130 (e : cl ν = cl μ) : ν.1 130 = μ.1 130 := congrFun e 130
theorem Bs.b1 (h : Bs μ hc tc kc lm B) : 1 ≤ hc ∧ hc ≤ 5 := h.1.2.2.2.2.1
theorem Bs.b2 (h : Bs μ hc tc kc lm B) : tc ≤ 12 := h.1.2.2.2.2.2.1
theorem Bs.b3 (h : Bs μ hc tc kc lm B) : kc ≤ 6 := h.1.2.2.2.2.2.2.1
theorem Bs.b4 (h : Bs μ hc tc kc lm B) : 1 ≤ lm ∧ lm ≤ 4 := h.1.2.2.2.2.2.2.2
theorem Bs.ke (h : Bs μ hc tc kc lm B) {t : Nat} (ht : t < 12) : μ.1 4 t = μ.1 128 (24 + t) := by
  have h1 := (h.2.2.2.1.1 t ht).2.2
  rw [show 0 + 24 + t = 24 + t by omega] at h1
  exact h1
theorem Bs.ow (h : Bs μ hc tc kc lm B) {t : Nat} (ht : t < 12) : μ.1 3 t = μ.1 128 (12 + t) := by
  have h1 := (h.2.2.2.1.1 t ht).2.1
  rw [show 0 + 12 + t = 12 + t by omega] at h1
  exact h1
theorem Bs.tr (h : Bs μ hc tc kc lm B) {t : Nat} (ht : t < 12) : μ.1 5 t = μ.1 128 t := by
  have h1 := (h.2.2.2.1.1 t ht).1
  rw [show 0 + t = t by omega] at h1
  exact h1
theorem Bs.co (h : Bs μ hc tc kc lm B) {x : Nat} (hx : x < 5) : μ.1 6 x = μ.1 128 (36 + x) := by
  have h1 := h.2.2.2.1.2.1 x hx
  rw [show 0 + 36 + x = 36 + x by omega] at h1
  exact h1
theorem Bs.hr (h : Bs μ hc tc kc lm B) : μ.1 2 4 = μ.1 128 41 := h.2.2.2.1.2.2
theorem Bs.of (h : Bs μ hc tc kc lm B) : Of μ (KS μ tc) kc := fun k hk => ⟨h.2.2.2.2.2.1 k hk, KS_lt h.b2⟩
/-! the class -/
theorem X_kept (h : Bs μ hc tc kc lm B) (e : cl ν = cl μ) (x : Int32) : F_X10_keptBy 1 x (hp κ ν) = some (nI (KP μ tc x), hp κ ν) := by
  have hb := h.mv e
  have e1 : kp (ν.1 4) tc x = KP μ tc x := sb_cong (fun t ht => by have := hb.b2; rw [hb.ke (by omega), f128 e])
  rw [x_kept hb.1, e1]
theorem X_owned (h : Bs μ hc tc kc lm B) (e : cl ν = cl μ) (x : Int32) : F_X10_ownedBy 1 x (hp κ ν) = some (nI (OW μ tc x), hp κ ν) := by
  have hb := h.mv e
  have e1 : kp (ν.1 3) tc x = OW μ tc x := sb_cong (fun t ht => by have := hb.b2; rw [hb.ow (by omega), f128 e])
  rw [x_owned hb.1, e1]
theorem X_nobodys (h : Bs μ hc tc kc lm B) (e : cl ν = cl μ) : F_X10_nobodys 1 (hp κ ν) = some (nI (OW μ tc (-1)), hp κ ν) := by
  unfold F_X10_nobodys
  rw [if_pos q1, X_owned h e]
  rfl
theorem X_lentOnes (h : Bs μ hc tc kc lm B) (e : cl ν = cl μ) : F_X10_lentOnes 1 (hp κ ν) = some (nI (LB μ tc), hp κ ν) := by
  have hb := h.mv e
  have e1 : sb (fun t => decide (¬ ν.1 3 t = ν.1 4 t)) tc = LB μ tc := sb_cong (fun t ht => by have := hb.b2; rw [hb.ow (by omega), hb.ke (by omega), f128 e])
  rw [x_lentOnes hb.1, e1]
theorem X_broken (h : Bs μ hc tc kc lm B) (e : cl ν = cl μ) {s : Nat} (hs : s < 4096) : F_X10_brokenIn 1 (nI s) (hp κ ν) = some (nI (BB μ tc kc lm s), hp κ ν) := by
  have hb := h.mv e
  have e1 : bk (KS ν tc) kc lm s = BB μ tc kc lm s := by
    unfold KS BB
    rw [bk_bb hb.b2, f128 e, f129 e, f130 e]
  rw [← e1]
  exact x_brokenIn hb.1 hb.of hs
theorem X_breakers (h : Bs μ hc tc kc lm B) (e : cl ν = cl μ) : F_X10_breakers 1 (hp κ ν) = some (nI (BH μ hc tc kc lm), hp κ ν) := by
  have hb := h.mv e
  rw [x_breakers hb.1 hb.of]
  congr 2
  refine congrArg nI (sb_cong (fun x _ => ?_))
  have e1 : sb (fun u => decide (ν.1 4 u = nI x)) tc = kp (fun t => μ.1 128 (24 + t)) tc (nI x) := sb_cong (fun t ht => by have := hb.b2; rw [hb.ke (by omega), f128 e])
  have e2 : ∀ s, bk (KS ν tc) kc lm s = bb (μ.1 128) (μ.1 129) (μ.1 130) tc kc lm s := fun s => by
    unfold KS
    rw [bk_bb hb.b2, f128 e, f129 e, f130 e]
  rw [e1, e2]
theorem X_havingAll (h : Bs μ hc tc kc lm B) (e : cl ν = cl μ) (x : Int32) : F_X10_havingAll 1 x (hp κ ν) = some (nI (sb (fun t => decide (μ.1 128 t &&& x = x)) tc), hp κ ν) := by
  have hb := h.mv e
  have e1 : sb (fun t => decide (ν.1 5 t &&& x = x)) tc = sb (fun t => decide (μ.1 128 t &&& x = x)) tc := sb_cong (fun t ht => by have := hb.b2; rw [hb.tr (by omega), f128 e])
  rw [x_havingAll hb.1, e1]
theorem X_kindsOf (h : Bs μ hc tc kc lm B) (e : cl ν = cl μ) {t : Nat} (ht : t < tc) : F_X10_kindsOf 1 (nI t) (hp κ ν) = some (nI (KO μ kc (μ.1 128 t)), hp κ ν) := by
  have hb := h.mv e
  have hO := hb.of
  have t6 := hb.b2
  obtain ⟨t1, t2, t3, t4, t5, -, t7, t8⟩ := hb.1
  unfold F_X10_kindsOf
  rw [if_pos q1]
  refine lpk (fun n k => b_X10_kindsOf_4 1 (nI t) n (nI (KO μ k (μ.1 128 t))) (nI k) (hp κ ν)) kc _ ?_ ?_ bigN 0 (Nat.zero_le _) (by unfold bigN; omega)
  · intro n k hk
    rw [b_X10_kindsOf_4]
    have hks := KS_lt (μ := ν) (k := k) t6
    simp only [g1_7, t3, Option.bind_some, g1_3, r9 (show k < 6 by omega), (hO k hk).1, if_neg (nI_ge hk (show kc < 2 ^ 31 by omega)), nI_1, i_bit (show KS ν tc k < 2 ^ 31 by omega) (show t < 32 by omega)]
    have e1 : (KS ν tc k).testBit t = io (μ.1 128 t) (μ.1 129 k) (μ.1 130 k) := by
      unfold KS kset
      rw [sb_bit, f128 e, f129 e, f130 e]
      simp [ht]
    rw [e1]
    cases e2 : io (μ.1 128 t) (μ.1 129 k) (μ.1 130 k) with
    | true =>
      rw [if_pos rfl, i_sh1 k (by omega), i_or]
      unfold KO
      rw [sb_t e2]
    | false =>
      rw [if_neg (by decide)]
      have e3 : (0 : Int32) <<< (nI k &&& 31) = nI 0 := by
        have h9 := pk_shlN (n := 0) (nI k &&& 31) k (s_l k (by omega)) (by rw [Nat.zero_mul]; decide)
        rw [Nat.zero_mul] at h9
        exact h9
      rw [e3, i_or, Nat.or_zero]
      unfold KO
      rw [sb_f e2]
  · intro n
    rw [b_X10_kindsOf_4]
    simp only [g1_7, t3, Option.bind_some, if_pos (nI_le (Nat.le_refl kc) (show kc < 2 ^ 31 by omega))]
theorem X_isLent (h : Bs μ hc tc kc lm B) (e : cl ν = cl μ) {t : Nat} (ht : t < 12) : F_X10_isLent 1 (nI t) (hp κ ν) = some (if μ.1 128 (12 + t) = μ.1 128 (24 + t) then 0 else 1, hp κ ν) := by
  have hb := h.mv e
  rw [x_isLent ht, hb.ow ht, hb.ke ht, f128 e]
theorem X_hasHouse1 (h : Bs μ hc tc kc lm B) (e : cl ν = cl μ) {j : Nat} (hj : j < hc) : F_X10_hasHouse 1 (nI j) (hp κ ν) = some (1, hp κ ν) := by
  have hb := h.mv e
  have := hb.b1; have := hb.b2; have := hb.b3
  rcases x_hasHouse hb.1 (nI j) with ⟨i, _, _, h3⟩ | ⟨h1, _⟩
  · exact h3
  · exact absurd rfl (h1 j hj)
theorem X_hasHouse0 (h : Bs μ hc tc kc lm B) (e : cl ν = cl μ) {x : Int32} (hx : ∀ j, j < hc → x ≠ nI j) : F_X10_hasHouse 1 x (hp κ ν) = some (0, hp κ ν) := by
  rcases x_hasHouse (h.mv e).1 x with ⟨i, h1, h2, _⟩ | ⟨_, h2⟩
  · exact absurd h2 (hx i h1)
  · exact h2
theorem Y_isHouse1 (h : Bs μ hc tc kc lm B) (e : cl ν = cl μ) {j : Nat} (hj : j < hc) : F_X12_isHouse 127 (nI j) (hp κ ν) = some (1, hp κ ν) := by
  have hb := h.mv e
  rcases y_isHouse hb.2.1 (nI j) with ⟨i, _, _, h3⟩ | ⟨h1, _⟩
  · exact h3
  · exact absurd rfl (h1 j hj)
theorem Y_isHouse0 (h : Bs μ hc tc kc lm B) (e : cl ν = cl μ) {x : Int32} (hx : ∀ j, j < hc → x ≠ nI j) : F_X12_isHouse 127 x (hp κ ν) = some (0, hp κ ν) := by
  rcases y_isHouse (h.mv e).2.1 x with ⟨i, h1, h2, _⟩ | ⟨_, h2⟩
  · exact absurd h2 (hx i h1)
  · exact h2
theorem ix_hc (h : Bs μ hc tc kc lm B) (x : Int32) : (∃ j, j < hc ∧ x = nI j) ∨ (∀ j, j < hc → x ≠ nI j) := by
  have b1 := h.b1; have b2 := h.b2; have b3 := h.b3
  rcases pk_ix x (n := hc) (by omega) with h1 | h1 | h1
  · exact Or.inr (fun j hj e => by rw [e] at h1; exact nI_pos (by omega) h1)
  · exact Or.inr (fun j hj e => by rw [e] at h1; exact nI_ge hj (by omega) h1)
  · exact Or.inl h1
theorem X_hasThing1 (h : Bs μ hc tc kc lm B) (e : cl ν = cl μ) {j : Nat} (hj : j < tc) : F_X10_hasThing 1 (nI j) (hp κ ν) = some (1, hp κ ν) := by
  have hb := h.mv e
  have := hb.b1; have := hb.b2; have := hb.b3
  rcases x_hasThing hb.1 (nI j) with ⟨i, _, _, h3⟩ | ⟨h1, _⟩
  · exact h3
  · exact absurd rfl (h1 j hj)
theorem X_hasThing0 (h : Bs μ hc tc kc lm B) (e : cl ν = cl μ) {x : Int32} (hx : ∀ j, j < tc → x ≠ nI j) : F_X10_hasThing 1 x (hp κ ν) = some (0, hp κ ν) := by
  rcases x_hasThing (h.mv e).1 x with ⟨i, h1, h2, _⟩ | ⟨_, h2⟩
  · exact absurd h2 (hx i h1)
  · exact h2
theorem Y_isThing1 (h : Bs μ hc tc kc lm B) (e : cl ν = cl μ) {j : Nat} (hj : j < tc) : F_X12_isThing 127 (nI j) (hp κ ν) = some (1, hp κ ν) := by
  have hb := h.mv e
  rcases y_isThing hb.2.1 (nI j) with ⟨i, _, _, h3⟩ | ⟨h1, _⟩
  · exact h3
  · exact absurd rfl (h1 j hj)
theorem Y_isThing0 (h : Bs μ hc tc kc lm B) (e : cl ν = cl μ) {x : Int32} (hx : ∀ j, j < tc → x ≠ nI j) : F_X12_isThing 127 x (hp κ ν) = some (0, hp κ ν) := by
  rcases y_isThing (h.mv e).2.1 x with ⟨i, h1, h2, _⟩ | ⟨_, h2⟩
  · exact absurd h2 (hx i h1)
  · exact h2
theorem ix_tc (h : Bs μ hc tc kc lm B) (x : Int32) : (∃ j, j < tc ∧ x = nI j) ∨ (∀ j, j < tc → x ≠ nI j) := by
  have b1 := h.b1; have b2 := h.b2; have b3 := h.b3
  rcases pk_ix x (n := tc) (by omega) with h1 | h1 | h1
  · exact Or.inr (fun j hj e => by rw [e] at h1; exact nI_pos (by omega) h1)
  · exact Or.inr (fun j hj e => by rw [e] at h1; exact nI_ge hj (by omega) h1)
  · exact Or.inl h1
theorem X_hasKind1 (h : Bs μ hc tc kc lm B) (e : cl ν = cl μ) {j : Nat} (hj : j < kc) : F_X10_hasKind 1 (nI j) (hp κ ν) = some (1, hp κ ν) := by
  have hb := h.mv e
  have := hb.b1; have := hb.b2; have := hb.b3
  rcases x_hasKind hb.1 (nI j) with ⟨i, _, _, h3⟩ | ⟨h1, _⟩
  · exact h3
  · exact absurd rfl (h1 j hj)
theorem X_hasKind0 (h : Bs μ hc tc kc lm B) (e : cl ν = cl μ) {x : Int32} (hx : ∀ j, j < kc → x ≠ nI j) : F_X10_hasKind 1 x (hp κ ν) = some (0, hp κ ν) := by
  rcases x_hasKind (h.mv e).1 x with ⟨i, h1, h2, _⟩ | ⟨_, h2⟩
  · exact absurd h2 (hx i h1)
  · exact h2
theorem Y_isKind1 (h : Bs μ hc tc kc lm B) (e : cl ν = cl μ) {j : Nat} (hj : j < kc) : F_X12_isKind 127 (nI j) (hp κ ν) = some (1, hp κ ν) := by
  have hb := h.mv e
  rcases y_isKind hb.2.1 (nI j) with ⟨i, _, _, h3⟩ | ⟨h1, _⟩
  · exact h3
  · exact absurd rfl (h1 j hj)
theorem Y_isKind0 (h : Bs μ hc tc kc lm B) (e : cl ν = cl μ) {x : Int32} (hx : ∀ j, j < kc → x ≠ nI j) : F_X12_isKind 127 x (hp κ ν) = some (0, hp κ ν) := by
  rcases y_isKind (h.mv e).2.1 x with ⟨i, h1, h2, _⟩ | ⟨_, h2⟩
  · exact absurd h2 (hx i h1)
  · exact h2
theorem ix_kc (h : Bs μ hc tc kc lm B) (x : Int32) : (∃ j, j < kc ∧ x = nI j) ∨ (∀ j, j < kc → x ≠ nI j) := by
  have b1 := h.b1; have b2 := h.b2; have b3 := h.b3
  rcases pk_ix x (n := kc) (by omega) with h1 | h1 | h1
  · exact Or.inr (fun j hj e => by rw [e] at h1; exact nI_pos (by omega) h1)
  · exact Or.inr (fun j hj e => by rw [e] at h1; exact nI_ge hj (by omega) h1)
  · exact Or.inl h1
theorem X_hasThings1 (h : Bs μ hc tc kc lm B) (e : cl ν = cl μ) {s : Nat} (hs : s < 2 ^ tc) : F_X10_hasThings 1 (nI s) (hp κ ν) = some (1, hp κ ν) := by
  rcases x_hasThings (h.mv e).1 (nI s) with ⟨i, _, _, h3⟩ | ⟨h1, _⟩
  · exact h3
  · exact absurd rfl (h1 s hs)
theorem X_hasThings0 (h : Bs μ hc tc kc lm B) (e : cl ν = cl μ) {x : Int32} (hx : ∀ s, s < 2 ^ tc → x ≠ nI s) : F_X10_hasThings 1 x (hp κ ν) = some (0, hp κ ν) := by
  rcases x_hasThings (h.mv e).1 x with ⟨i, h1, h2, _⟩ | ⟨_, h2⟩
  · exact absurd h2 (hx i h1)
  · exact h2
theorem Y_areThings1 (h : Bs μ hc tc kc lm B) (e : cl ν = cl μ) {s : Nat} (hs : s < 2 ^ tc) : F_X12_areThings 127 (nI s) (hp κ ν) = some (1, hp κ ν) := by
  rcases y_areThings (h.mv e).2.1 (nI s) with ⟨i, _, _, h3⟩ | ⟨h1, _⟩
  · exact h3
  · exact absurd rfl (h1 s hs)
theorem Y_areThings0 (h : Bs μ hc tc kc lm B) (e : cl ν = cl μ) {x : Int32} (hx : ∀ s, s < 2 ^ tc → x ≠ nI s) : F_X12_areThings 127 x (hp κ ν) = some (0, hp κ ν) := by
  rcases y_areThings (h.mv e).2.1 x with ⟨i, h1, h2, _⟩ | ⟨_, h2⟩
  · exact absurd h2 (hx i h1)
  · exact h2
theorem ix_things (h : Bs μ hc tc kc lm B) (x : Int32) : (∃ s, s < 2 ^ tc ∧ x = nI s) ∨ (∀ s, s < 2 ^ tc → x ≠ nI s) := by
  have hp2 : 2 ^ tc ≤ 4096 := Nat.pow_le_pow_right (by decide) h.b2
  rcases pk_ix x (n := 2 ^ tc) (by omega) with h1 | h1 | h1
  · exact Or.inr (fun j hj e => by rw [e] at h1; exact nI_pos (by omega) h1)
  · exact Or.inr (fun j hj e => by rw [e] at h1; exact nI_ge hj (by omega) h1)
  · exact Or.inl h1
/-! the reference -/
theorem Y_kept (h : Bs μ hc tc kc lm B) (e : cl ν = cl μ) (x : Int32) : F_X12_keptBy 127 128 x (hp κ ν) = some (nI (KP μ tc x), hp κ ν) := by
  rw [y_kept (h.mv e).2.1 rfl, f128 e]
  rfl
theorem Y_owned (h : Bs μ hc tc kc lm B) (e : cl ν = cl μ) (x : Int32) : F_X12_ownedBy 127 128 x (hp κ ν) = some (nI (OW μ tc x), hp κ ν) := by
  rw [y_owned (h.mv e).2.1 rfl, f128 e]
  rfl
theorem Y_lentBits (h : Bs μ hc tc kc lm B) (e : cl ν = cl μ) : F_X12_lentBits 127 (hp κ ν) = some (nI (LB μ tc), hp κ ν) := by
  rw [y_lentBits (h.mv e).2.1, f128 e]
  rfl
theorem Y_brokenBy (h : Bs μ hc tc kc lm B) (e : cl ν = cl μ) {s : Nat} (hs : s < 4096) : F_X12_brokenBy 127 128 (nI s) (hp κ ν) = some (nI (BB μ tc kc lm s), hp κ ν) := by
  rw [y_brokenBy (h.mv e).2.1 rfl (small hs), f128 e, f129 e, f130 e]
  rfl
theorem Y_breaks (h : Bs μ hc tc kc lm B) (e : cl ν = cl μ) (x : Int32) : F_X12_breaks 127 128 x (hp κ ν) = some (nI (BB μ tc kc lm (KP μ tc x)), hp κ ν) := by
  rw [y_breaks (h.mv e).2.1 rfl, f128 e, f129 e, f130 e]
  rfl
theorem Y_brokenHouses (h : Bs μ hc tc kc lm B) (e : cl ν = cl μ) : F_X12_brokenHouses 127 128 (hp κ ν) = some (nI (BH μ hc tc kc lm), hp κ ν) := by
  rw [y_brokenHouses (h.mv e).2.1 rfl, f128 e, f129 e, f130 e]
  rfl
theorem Y_kindsOf (h : Bs μ hc tc kc lm B) (e : cl ν = cl μ) (x : Int32) : F_X12_kindsOf 127 x (hp κ ν) = some (nI (KO μ kc x), hp κ ν) := by
  rw [y_kindsOf (h.mv e).2.1, f129 e, f130 e]
  rfl
theorem Y_manyOf (h : Bs μ hc tc kc lm B) (e : cl ν = cl μ) {s k : Nat} (hs : s < 4096) (hk : k < 6) : F_X12_manyOf 127 128 (nI s) (nI k) (hp κ ν) = some (nI (MO μ tc s k), hp κ ν) := by
  rw [y_manyOf (h.mv e).2.1 rfl (small hs) hk, f128 e, f129 e, f130 e]
  rfl
theorem Y_withAll (h : Bs μ hc tc kc lm B) (e : cl ν = cl μ) {s : Nat} (hs : s < 4096) (x : Int32) : F_X12_withAll 127 (nI s) x (hp κ ν) = some (nI (sb (fun t => s.testBit t && io (μ.1 128 t) x 0) tc), hp κ ν) := by
  rw [y_withAll (h.mv e).2.1 (small hs), f128 e]
/-- memories at which rows were told, thrown set -/
theorem p11 : pF (hp κ μ) 127 12 11 (.int 0) = some (hp κ (Zr μ)) := p127_11
theorem p10 : pF (hp κ μ) 127 12 10 (.int 0) = some (hp κ (M0 μ)) := p127_10
theorem TB_0 {i : Nat} {v : Int64} : (TB μ i v).1 0 7 = nI (i + 1) := by unfold TB; rw [rowI_s, pk_us]
theorem TB_m {i : Nat} {v : Int64} : (TB μ i v).1 127 = μ.1 127 := rfl
theorem TB_v {i : Nat} {v : Int64} : (TB μ i v).2 91 i = v := by unfold TB; rw [rowI_l, rowL_s, pk_uLs]
theorem TB_w {i j : Nat} {v : Int64} (h : j ≠ i) : (TB μ i v).2 91 j = μ.2 91 j := by unfold TB; rw [rowI_l, rowL_s, pk_uLn h]
theorem MB_0 {i : Nat} {v : Int64} : (MB μ i v).1 127 10 = nI (i + 1) := by unfold MB; rw [rowI_s, pk_us]
theorem MB_m {i : Nat} {v : Int64} : (MB μ i v).1 0 = μ.1 0 := rfl
theorem MB_x {i : Nat} {v : Int64} : (MB μ i v).2 91 = μ.2 91 := rfl
theorem MB_v {i : Nat} {v : Int64} : (MB μ i v).2 132 i = v := by unfold MB; rw [rowI_l, rowL_s, pk_uLs]
theorem MB_w {i j : Nat} {v : Int64} (h : j ≠ i) : (MB μ i v).2 132 j = μ.2 132 j := by unfold MB; rw [rowI_l, rowL_s, pk_uLn h]
/-- behind one told number, or two -/
def R1 (μ : Mem) (v : Int64) : Mem := MB (M0 (Zr (TB (T0 μ) 0 v))) 0 v
def R2 (μ : Mem) (v u : Int64) : Mem := MB (MB (M0 (Zr (TB (TB (T0 μ) 0 v) 1 u))) 0 v) 1 u
theorem inv_R1 {v : Int64} (hI : Inv B μ) : Inv (B + 1200) (R1 μ v) := inv_1 hI.1 (by unfold R1; rw [cl_MB, cl_M0, cl_Z, cl_TB, cl_T0]) rfl rfl rfl
theorem inv_R2 {v u : Int64} (hI : Inv B μ) : Inv (B + 1200) (R2 μ v u) := inv_2 hI.1 (by unfold R2; rw [cl_MB, cl_MB, cl_M0, cl_Z, cl_TB, cl_TB, cl_T0]) rfl rfl rfl rfl
theorem inv_Z (hI : Inv B μ) : Inv (B + 1200) (Zr μ) := inv_keep hI cl_Z rfl rfl rfl rfl
end XY
