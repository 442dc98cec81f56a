/-! A program that checks the methods' entries, and that it is right. -/
def ck_1 (o : Nat) (i : Instr) (len : Nat) (v : Int32) (x : Nat) : Bool := match i with
  | .iconst n => decide (len = 1 ∧ Int32.ofInt n = v)
  | .bipush n => decide (len = 2 ∧ (Int8.ofInt n).toInt32 = v)
  | .sipush n => decide (len = 3 ∧ (Int16.ofInt n).toInt32 = v)
  | .ldc k => decide (len = 2 ∧ (o, k, v) ∈ lk_K)
  | .ldc_w k => decide (len = 3 ∧ (o, k, v) ∈ lk_K)
  | .ldc2_w k => decide (len = 3 ∧ (o, k, x) ∈ lk_J)
  | .lconst n => decide (len = 1 ∧ n.val = x)
  | .iload _ => decide (len = 2)
  | .lload _ => decide (len = 2)
  | .aload _ => decide (len = 2)
  | _ => decide (len = 1)
theorem ck_1_ok {o : Nat} {i : Instr} {len : Nat} {v : Int32} {x : Nat} (h : ck_1 o i len v x = true) : ci_ok1T ci_T (ci_cn o) i len v x := by
  cases i with
  | ldc k => have h := of_decide_eq_true h; exact ⟨h.1, lk_K_ok _ h.2⟩
  | ldc_w k => have h := of_decide_eq_true h; exact ⟨h.1, lk_K_ok _ h.2⟩
  | ldc2_w k => have h := of_decide_eq_true h; exact ⟨h.1, lk_J_ok _ h.2⟩
  | lconst n => have h := of_decide_eq_true h; exact ⟨h.1, by rw [h.2]⟩
  | _ => have h := of_decide_eq_true h; exact h
def ck_2 (i : Instr) (len : Nat) (v : Int32) : Bool := match i with
  | .istore _ => decide (len = 2)
  | .lstore _ => decide (len = 2)
  | .astore _ => decide (len = 2)
  | .iinc _ n => decide (len = 3 ∧ Int32.ofInt n = v)
  | _ => decide (len = 1)
theorem ck_2_ok {i : Instr} {len : Nat} {v : Int32} (h : ck_2 i len v = true) : ci_ok2 i len v := by
  cases i with
  | _ => have h := of_decide_eq_true h; exact h
def ck_3 (i : Instr) (pc len x : Nat) : Bool := match i with
  | .goto off => decide (len = 3 ∧ (pc : Int) + off = (x : Int))
  | .ifCond _ off => decide (len = 3 ∧ (pc : Int) + off = (x : Int))
  | .if_icmp _ off => decide (len = 3 ∧ (pc : Int) + off = (x : Int))
  | .tableswitch dflt _ _ offs => decide (0 ≤ (pc : Int) + dflt ∧ ∀ off ∈ offs.toList, 0 ≤ (pc : Int) + off)
  | .lookupswitch dflt ps => decide (0 ≤ (pc : Int) + dflt ∧ (∀ q ∈ ps.toList, 0 ≤ (pc : Int) + q.2) ∧ (ps.toList.zip (ps.toList.drop 1)).all (fun (a, next) => a.1 < next.1) = true)
  | _ => true
theorem ck_3_ok {i : Instr} {pc len x : Nat} (h : ck_3 i pc len x = true) : ci_ok3 i pc len x := by
  cases i with
  | goto off => have h := of_decide_eq_true h; exact h
  | ifCond cd off => have h := of_decide_eq_true h; exact h
  | if_icmp cd off => have h := of_decide_eq_true h; exact h
  | tableswitch a b d f => have h := of_decide_eq_true h; exact h
  | lookupswitch a b => have h := of_decide_eq_true h; exact h
  | _ => trivial
def ck_4 (o : Nat) (i : Instr) (len x y : Nat) : Bool := match i with
  | .getfield ix => decide (len = 3 ∧ (o, ix, x, y) ∈ lk_F)
  | _ => decide (len = 1)
theorem ck_4_ok {o : Nat} {i : Instr} {len x y : Nat} (h : ck_4 o i len x y = true) : ci_ok4 ci_T ci_cls ci_fty (ci_cn o) i len x y := by
  cases i with
  | getfield ix => have h := of_decide_eq_true h; exact ⟨h.1, lk_F_ok _ h.2⟩
  | _ => have h := of_decide_eq_true h; exact h
theorem ck_TT {x : Nat} {C : String} {T : u_T} {N : Nat} (h : ci_cls[x]? = some (C, T, N)) : T = ci_TT x ∧ C = ci_cn x := by
  match x, h with
  | 0, h => cases h; exact ⟨rfl, rfl⟩
  | 1, h => cases h; exact ⟨rfl, rfl⟩
  | 2, h => cases h; exact ⟨rfl, rfl⟩
  | 3, h => cases h; exact ⟨rfl, rfl⟩
  | 4, h => cases h; exact ⟨rfl, rfl⟩
  | 5, h => cases h; exact ⟨rfl, rfl⟩
  | 6, h => cases h; exact ⟨rfl, rfl⟩
  | 7, h => cases h; exact ⟨rfl, rfl⟩
  | 8, h => cases h; exact ⟨rfl, rfl⟩
  | 9, h => cases h; exact ⟨rfl, rfl⟩
  | 10, h => cases h; exact ⟨rfl, rfl⟩
  | 11, h => cases h; exact ⟨rfl, rfl⟩
  | 12, h => cases h; exact ⟨rfl, rfl⟩
  | 13, h => cases h; exact ⟨rfl, rfl⟩
  | x + 14, h => cases h
def ck_5 (o : Nat) (ini : Bool) (i : Instr) (len x y : Nat) : Bool := match i with
  | .putfield ix => decide (len = 3 ∧ (o, ix, x, y) ∈ lk_F ∧ ((ci_TT x y).2.2.2 = false ∨ ((ci_TT x y).2.2.2 = true ∧ o = x ∧ ini = true)))
  | .invokestatic ix => decide (len = 3 ∧ (o, ix) ∈ lk_A)
  | _ => decide (len = 1)
theorem ck_5_ok {o : Nat} {ini : Bool} {i : Instr} {len x y : Nat} (h : ck_5 o ini i len x y = true) : ci_ok5 ci_T ci_cls ci_fty (ci_cn o) ini i len x y := by
  cases i with
  | putfield ix =>
    have h := of_decide_eq_true h
    obtain ⟨h1, h2, h3⟩ := h
    obtain ⟨C, T, N, g1, g2, g3⟩ := lk_F_ok _ h2
    obtain ⟨e1, e2⟩ := ck_TT g1.1
    refine ⟨h1, C, T, N, g1, g2, g3, ?_⟩
    rcases h3 with h3 | ⟨h3, h4, h5⟩
    · exact Or.inl (by rw [e1]; exact h3)
    · exact Or.inr ⟨by rw [e1]; exact h3, by rw [e2, h4], h5⟩
  | invokestatic ix => have h := of_decide_eq_true h; exact ⟨h.1, lk_A_ok _ h.2, lk_A2.1, lk_A2.2.1, lk_A2.2.2⟩
  | _ => have h := of_decide_eq_true h; exact h
def ck_6 (o : Nat) (i : Instr) (len x : Nat) : Bool := match i with
  | .new ix => decide (len = 3 ∧ (o, ix, x) ∈ lk_C)
  | .newarray ty => decide (len = 2 ∧ (ty = .int ∨ ty = .long ∨ ty = .byte ∨ ty = .boolean))
  | .anewarray ix => decide (len = 3 ∧ x = 6 ∧ (o, ix, x) ∈ lk_C)
  | .multianewarray ix dm => decide (len = 4 ∧ dm = 2 ∧ o = 1 ∧ ix = 9)
  | _ => true
theorem ck_6_ok {o : Nat} {i : Instr} {len x : Nat} (h : ck_6 o i len x = true) : ci_ok6 ci_T ci_cls ci_fty (ci_cn o) i len x := by
  cases i with
  | new ix => have h := of_decide_eq_true h; exact ⟨h.1, lk_C_ok _ h.2⟩
  | newarray ty =>
    have h := of_decide_eq_true h
    refine ⟨h.1, ?_⟩
    rcases h.2 with rfl | rfl | rfl | rfl
    · exact lk_ac.1
    · exact lk_ac.2.1
    · exact lk_ac.2.2.1
    · exact lk_ac.2.2.2
  | anewarray ix =>
    have h := of_decide_eq_true h
    obtain ⟨h1, rfl, h3⟩ := h
    obtain ⟨C, T, N, g1, g2, -⟩ := lk_C_ok _ h3
    exact ⟨h1, (C, T, N), g1.1, g2, (ck_TT g1.1).2⟩
  | multianewarray ix dm => have h := of_decide_eq_true h; obtain ⟨h1, h2, rfl, rfl⟩ := h; exact ⟨h1, h2, lk_grid, lk_ac.1⟩
  | _ => trivial
def ck_S (o : Nat) (i : Instr) (len x : Nat) : Bool := match i with
  | .invokestatic ix => decide (len = 3 ∧ (o, ix, x) ∈ lk_S)
  | _ => false
theorem ck_S_ok {o : Nat} {i : Instr} {len x : Nat} (h : ck_S o i len x = true) : ci_okS ci_T (ci_cn o) i len (ci_Ms x) := by
  cases i with
  | invokestatic ix => have h := of_decide_eq_true h; obtain ⟨a, b⟩ := lk_S_ok _ h.2; exact ⟨h.1, a, ix, rfl, b⟩
  | _ => cases h
def ck_V (o : Nat) (i : Instr) (len x y : Nat) : Bool := match i with
  | .invokevirtual ix => decide (len = 3 ∧ (o, ix, x, y) ∈ lk_V)
  | _ => false
theorem ck_V_ok {o : Nat} {i : Instr} {len x y : Nat} (h : ck_V o i len x y = true) : ci_okV ci_T ci_cls (ci_cn o) i len y (ci_Ms x) := by
  cases i with
  | invokevirtual ix => have h := of_decide_eq_true h; obtain ⟨a, b, n, d⟩ := lk_V_ok _ h.2; exact ⟨h.1, a, b, ix, n, rfl, d⟩
  | _ => cases h
def ck_I (o : Nat) (i : Instr) (len x : Nat) : Bool := match i with
  | .invokespecial ix => decide (len = 3 ∧ (o, ix, x) ∈ lk_I)
  | _ => false
theorem ck_I_ok {o : Nat} {i : Instr} {len x : Nat} (h : ck_I o i len x = true) : ci_okI ci_T (ci_cn o) i len (ci_Ms x) := by
  cases i with
  | invokespecial ix => have h := of_decide_eq_true h; obtain ⟨a, b, b2, n, d⟩ := lk_I_ok _ h.2; exact ⟨h.1, a, b, b2, ix, n, rfl, d⟩
  | _ => cases h
def ck_N (o : Nat) (i : Instr) (len x : Nat) : Bool := match i with
  | .invokespecial ix => decide (len = 3 ∧ (o, ix, x) ∈ lk_N)
  | _ => false
theorem ck_N_ok {o : Nat} {i : Instr} {len x : Nat} (h : ck_N o i len x = true) : ci_okN ci_T (ci_cn o) i len (ci_Ms x) := by
  cases i with
  | invokespecial ix => have h := of_decide_eq_true h; obtain ⟨a, b, b2, n, d⟩ := lk_N_ok _ h.2; exact ⟨h.1, a, b, b2, ix, n, rfl, d⟩
  | _ => cases h
def ck_O (o : Nat) (i : Instr) (len : Nat) : Bool := match i with
  | .invokespecial ix => decide (len = 3 ∧ (o, ix) ∈ lk_O)
  | _ => false
theorem ck_O_ok {o : Nat} {i : Instr} {len : Nat} (h : ck_O o i len = true) : ci_okO ci_T (ci_cn o) i len := by
  cases i with
  | invokespecial ix => have h := of_decide_eq_true h; exact ⟨h.1, ix, rfl, lk_O_ok _ h.2, lk_O2.1, lk_O2.2⟩
  | _ => cases h
def ck_X (o : Nat) (i : Instr) (len x : Nat) : Bool := match i with
  | .invokestatic ix => decide (len = 3 ∧ (o, ix, x) ∈ lk_X)
  | _ => false
theorem ck_X_ok {o : Nat} {i : Instr} {len x : Nat} (h : ck_X o i len x = true) : ci_okX ci_T (ci_cn o) i len x := by
  cases i with
  | invokestatic ix =>
    have h := of_decide_eq_true h
    obtain ⟨-, ix', e, g⟩ := lk_X_ok _ h.2
    cases e
    exact ⟨h.1, ix, rfl, g⟩
  | _ => cases h
/-- a throw of this class: new; dup; invokespecial; athrow -/
def ci_th (q : ci_Y) (pc : Nat) (w : ci_I) : Prop := w.1 = .new 179 ∧ w.2.1 = 3 ∧ (ci_y q).cls = "TwoAtMost" ∧ decode (ci_b q) (pc + 3) = .ok (.dup, 1) ∧ decode (ci_b q) (pc + 4) = .ok (.invokespecial 181, 3) ∧ decode (ci_b q) (pc + 7) = .ok (.athrow, 1)
def ci_ct (q : ci_Y) (pc : Nat) (w : ci_I) : Prop := (ci_y q).cls = "TwoAtMostLaw" ∧ w.2.1 = 3 ∧ w.2.2.2.2.1 = 11 ∧ ∃ ix, w.1 = .invokestatic ix ∧ (w.2.2.2.1, ix) ∈ lk_14
def ck_dec (b : ByteArray) (pc : Nat) (i : Instr) (len : Nat) : Bool := match decode b pc with
  | .ok q => decide (q = (i, len))
  | _ => false
theorem ck_dec_ok {b : ByteArray} {pc : Nat} {i : Instr} {len : Nat} (h : ck_dec b pc i len = true) : decode b pc = .ok (i, len) := by
  unfold ck_dec at h
  split at h
  next q e => rw [e, of_decide_eq_true h]
  · cases h
def ck_9 (o : Nat) (b : ByteArray) (pc : Nat) (i : Instr) (len : Nat) : Bool := decide (i = .new 179 ∧ len = 3 ∧ o = 11) && (ck_dec b (pc + 3) .dup 1 && (ck_dec b (pc + 4) (.invokespecial 181) 3 && ck_dec b (pc + 7) .athrow 1))
def ck_14 (o : Nat) (i : Instr) (len x y : Nat) : Bool := match i with
  | .invokestatic ix => decide (len = 3 ∧ y = 11 ∧ o = 14 ∧ (x, ix) ∈ lk_14)
  | _ => false
def ck_w (o : Nat) (ini : Bool) (b : ByteArray) (pc : Nat) (w : ci_I) : Bool := ck_dec b pc w.1 w.2.1 && match w.2.2.2.2.2 with
  | 1 => ck_1 o w.1 w.2.1 w.2.2.1 w.2.2.2.1
  | 2 => ck_2 w.1 w.2.1 w.2.2.1
  | 3 => ck_3 w.1 pc w.2.1 w.2.2.2.1
  | 4 => ck_4 o w.1 w.2.1 w.2.2.2.1 w.2.2.2.2.1
  | 5 => ck_5 o ini w.1 w.2.1 w.2.2.2.1 w.2.2.2.2.1
  | 6 => ck_6 o w.1 w.2.1 w.2.2.2.1
  | 7 => ck_S o w.1 w.2.1 w.2.2.2.1
  | 8 => decide (w.2.1 = 1)
  | 9 => ck_9 o b pc w.1 w.2.1
  | 10 => ck_O o w.1 w.2.1
  | 11 => ck_V o w.1 w.2.1 w.2.2.2.1 w.2.2.2.2.1
  | 12 => ck_I o w.1 w.2.1 w.2.2.2.1
  | 13 => ck_N o w.1 w.2.1 w.2.2.2.1
  | 14 => ck_14 o w.1 w.2.1 w.2.2.2.1 w.2.2.2.2.1
  | 15 => ck_X o w.1 w.2.1 w.2.2.2.1
  | _ => false
theorem ck_w_ok {o : Nat} {q : ci_Y} {pc : Nat} {w : ci_I} (ho : ci_cn o = (ci_y q).cls) (h : ck_w o (decide ((ci_y q).name = "<init>")) (ci_b q) pc w = true) : ci_ok ci_Ms ci_T ci_cls ci_fty ci_ct ci_th q pc w := by
  obtain ⟨i, len, v, x, y, g⟩ := w
  unfold ck_w at h
  rw [Bool.and_eq_true] at h
  refine ⟨ck_dec_ok h.1, ?_⟩
  have h := h.2
  rw [← ho]
  dsimp only at h ⊢
  split at h
  · exact ck_1_ok h
  · exact ck_2_ok h
  · exact ck_3_ok h
  · exact ck_4_ok h
  · exact ck_5_ok h
  · exact ck_6_ok h
  · exact ck_S_ok h
  · have h := of_decide_eq_true h; exact h
  · unfold ck_9 at h
    rw [Bool.and_eq_true, Bool.and_eq_true, Bool.and_eq_true] at h
    obtain ⟨h1, h2, h3, h4⟩ := h
    obtain ⟨g1, g2, rfl⟩ := of_decide_eq_true h1
    exact ⟨g1, g2, ho.symm, ck_dec_ok h2, ck_dec_ok h3, ck_dec_ok h4⟩
  · exact ck_O_ok h
  · exact ck_V_ok h
  · exact ck_I_ok h
  · exact ck_N_ok h
  · unfold ck_14 at h
    cases i with
    | invokestatic ix =>
      have h := of_decide_eq_true h
      obtain ⟨h1, h2, rfl, h4⟩ := h
      exact ⟨ho.symm, h1, h2, ix, rfl, h4⟩
    | _ => cases h
  · exact ck_X_ok h
  · cases h
def ck_l (o : Nat) (ini : Bool) (b : ByteArray) : Nat → List (Option ci_I) → Bool
  | _, [] => true
  | pc, none :: r => ck_l o ini b (pc + 1) r
  | pc, some w :: r => ck_w o ini b pc w && ck_l o ini b (pc + 1) r
theorem ck_l_ok {o : Nat} {ini : Bool} {b : ByteArray} : ∀ {l : List (Option ci_I)} {pc : Nat}, ck_l o ini b pc l = true → ∀ (k : Nat) (w : ci_I), l[k]? = some (some w) → ck_w o ini b (pc + k) w = true
  | [], _, _, k, w, h => by simp at h
  | none :: r, pc, hl, 0, w, h => by cases h
  | none :: r, pc, hl, k + 1, w, h => by rw [show pc + (k + 1) = (pc + 1) + k by omega]; exact ck_l_ok (l := r) hl k w h
  | some u :: r, pc, hl, 0, w, h => by
    cases h
    have hl : (ck_w o ini b pc u && ck_l o ini b (pc + 1) r) = true := hl
    rw [Bool.and_eq_true] at hl
    exact hl.1
  | some u :: r, pc, hl, k + 1, w, h => by
    have hl : (ck_w o ini b pc u && ck_l o ini b (pc + 1) r) = true := hl
    rw [Bool.and_eq_true] at hl
    rw [show pc + (k + 1) = (pc + 1) + k by omega]
    exact ck_l_ok (l := r) hl.2 k w h
theorem ck_l_app {o : Nat} {ini : Bool} {b : ByteArray} : ∀ {l r : List (Option ci_I)} {pc : Nat}, ck_l o ini b pc l = true → ck_l o ini b (pc + l.length) r = true → ck_l o ini b pc (l ++ r) = true
  | [], r, pc, _, h => h
  | none :: l, r, pc, h1, h2 => ck_l_app (l := l) (pc := pc + 1) h1 (by rw [show pc + 1 + l.length = pc + (none :: l).length by simp only [List.length_cons]; omega]; exact h2)
  | some u :: l, r, pc, h1, h2 => by
    have h1 : (ck_w o ini b pc u && ck_l o ini b (pc + 1) l) = true := h1
    rw [Bool.and_eq_true] at h1
    show (ck_w o ini b pc u && ck_l o ini b (pc + 1) (l ++ r)) = true
    rw [Bool.and_eq_true]
    exact ⟨h1.1, ck_l_app (l := l) (pc := pc + 1) h1.2 (by rw [show pc + 1 + l.length = pc + (some u :: l).length by simp only [List.length_cons]; omega]; exact h2)⟩
/-- a method whose entries are right -/
def ck_M (q : ci_Y) : Prop := ∀ (pc : Nat) (w : ci_I), (ci_code q)[pc]? = some (some w) → ci_ok ci_Ms ci_T ci_cls ci_fty ci_ct ci_th q pc w
theorem ck_M_of {q : ci_Y} (o : Nat) (ho : ci_cn o = (ci_y q).cls) {ini : Bool} (hi : decide ((ci_y q).name = "<init>") = ini) (h : ck_l o ini (ci_b q) 0 (ci_code q) = true) : ck_M q := fun pc w hw => ck_w_ok ho (by have := ck_l_ok h pc w hw; rw [Nat.zero_add] at this; rw [hi]; exact this)
