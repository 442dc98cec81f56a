/-! PURE: what holds between two calls. -/
/-- cells that hold nothing from call to call -/
def scr (a : Nat) : Bool := [0, 11, 14, 15, 16, 19, 21, 22, 23, 104, 105, 106, 107, 108, 111, 112, 113, 114, 115, 118, 119, 120, 121, 122, 123, 124, 127, 133, 135, 137, 138, 139, 140, 141, 142].contains a
/-- .. but for these places -/
def rel (a j : Nat) : Bool := (a == 0 && j == 13) || (a == 11 && j == 1) || (a == 127 && [1, 2, 3, 6, 8, 19, 23, 33, 34, 39].contains j)
def cl (μ : Mem) : Nat → Nat → Int32 := fun a j => if scr a = true then (if rel a j = true then μ.1 a j else 0) else μ.1 a j
theorem cl_n {μ : Mem} {a : Nat} (h : scr a = false) : cl μ a = μ.1 a := by
  funext j
  unfold cl
  rw [h]
  rfl
theorem cl_r {μ : Mem} {a j : Nat} (h : rel a j = true) : cl μ a j = μ.1 a j := by
  unfold cl
  rw [if_pos h]
  split <;> rfl
theorem cl_up {μ : Mem} {a j : Nat} {v : Int32} (h1 : scr a = true) (h2 : rel a j = false) : cl (upI μ a j v) = cl μ := by
  funext b i
  unfold cl
  by_cases e : b = a
  · subst e
    rw [if_pos h1, if_pos h1]
    by_cases e2 : i = j
    · subst e2
      rw [if_neg (by rw [h2]; decide), if_neg (by rw [h2]; decide)]
    · rw [rowI_s, pk_un e2]
  · rw [rowI_n e]
theorem cl_row {μ : Mem} {a : Nat} {f : Nat → Int32} (h1 : scr a = true) (h2 : ∀ j, rel a j = false) : cl (rowI μ a f) = cl μ := by
  funext b i
  unfold cl
  by_cases e : b = a
  · subst e
    rw [if_pos h1, if_pos h1, if_neg (by rw [h2]; decide), if_neg (by rw [h2]; decide)]
  · rw [rowI_n e]
theorem cl_L {μ : Mem} {a : Nat} {f : Nat → Int64} : cl (rowL μ a f) = cl μ := rfl
/-- a state of the class (its object at s) and one of the reference (in the row r, from off on) -/
def SR (m : Nat → Nat → Int32) (s r off : Nat) : Prop := (∀ t, t < 12 → m (s + 3) t = m r (off + t) ∧ m (s + 1) t = m r (off + 12 + t) ∧ m (s + 2) t = m r (off + 24 + t)) ∧ (∀ x, x < 5 → m (s + 4) x = m r (off + 36 + x)) ∧ m s 4 = m r (off + 41)
/-- nobody's, or a house's -/
def hs (hc : Nat) (x : Int32) : Prop := x = -1 ∨ ∃ j, j < hc ∧ x = nI j
def WS (A : Nat → Int32) (hc tc B : Nat) : Prop := (∀ t, t < tc → (∃ x, x < 64 ∧ A t = nI x) ∧ hs hc (A (12 + t)) ∧ hs hc (A (24 + t)) ∧ (A (12 + t) = -1 ↔ A (24 + t) = -1)) ∧ (∀ x, x < hc → ∃ c, c ≤ 9999 ∧ A (36 + x) = nI c) ∧ ∃ r, r ≤ B ∧ A 41 = nI r
def Cn (m : Nat → Nat → Int32) (hc tc kc lm : Nat) : Prop := (m 1 5 = nI hc ∧ m 1 6 = nI tc ∧ m 1 7 = nI kc ∧ m 1 8 = nI lm) ∧ (m 127 1 = nI hc ∧ m 127 2 = nI tc ∧ m 127 3 = nI kc ∧ m 127 6 = nI lm) ∧ (1 ≤ hc ∧ hc ≤ 5) ∧ tc ≤ 12 ∧ kc ≤ 6 ∧ 1 ≤ lm ∧ lm ≤ 4
def Kd (m : Nat → Nat → Int32) (kc : Nat) : Prop := ∀ k, k < kc → m 7 k = m 129 k ∧ m 8 k = m 130 k ∧ ∃ a b, a < 64 ∧ b < 64 ∧ a ≠ 0 ∧ a &&& b = 0 ∧ m 129 k = nI a ∧ m 130 k = nI b
def wt (A mu mn : Nat → Int32) (kc t : Nat) : Nat := fb_sm (fun k => if io (A t) (mu k) (mn k) then 32 ^ k else 0) kc
def So (m : Nat → Nat → Int32) (tc kc : Nat) : Prop := (∀ k, k < kc → m 9 k = nI (kset (m 128) (m 129) (m 130) tc k)) ∧ ∀ t, t < tc → m 10 t = nI (wt (m 128) (m 129) (m 130) kc t)
def by8 (c : Nat) : Int32 := (nI c).toInt8.toInt32
def Tx (m : Nat → Nat → Int32) : Prop := ∃ ln, ln ≤ 80 ∧ m 11 1 = nI ln ∧ m 127 8 = nI ln ∧ ∀ i, i < ln → ∃ c, c < 256 ∧ m 12 i = nI c ∧ m 131 i = by8 c
def Hd (m : Nat → Nat → Int32) (tc : Nat) : Prop := ∃ hd bs, hd ≤ 12 ∧ bs < 4096 ∧ m 0 13 = nI hd ∧ m 127 33 = nI hd ∧ m 127 34 = nI bs ∧ ∀ i, i < hd → ∃ t, t < tc ∧ m 109 i = nI t ∧ m 143 i = nI t ∧ m 110 i = if bs.testBit i then 1 else 0
def Pa (m : Nat → Nat → Int32) (hc tc B : Nat) : Prop := ∃ od un, od < 13 ∧ un ≤ 12 ∧ m 24 1 = nI od ∧ m 24 2 = nI un ∧ m 127 23 = nI un ∧ ∀ i, i < un → SR m (26 + 5 * ((od + i) % 13)) 136 (42 * i) ∧ WS (fun q => m 136 (42 * i + q)) hc tc B
def Sh (m : Nat → Nat → Int32) (hc tc B : Nat) : Prop := ∃ cm, cm ≤ B ∧ m 127 39 = nI cm ∧ ∀ i, i < 2 → (∃ c, c ≤ cm ∧ m 147 i = nI c) ∧ (m 146 i = 0 ∨ m 146 i = 1) ∧ ((m 103 i = 1 ∧ m 146 i = 1 ∧ m 147 i = nI cm ∧ SR m (93 + 5 * i) 145 (42 * i) ∧ WS (fun q => m 145 (42 * i + q)) hc tc B) ∨ (m 103 i = 0 ∧ ¬ (m 146 i = 1 ∧ m 147 i = nI cm)))
/-! a rule's text, read as the class reads it: signs by pk (999 behind the last) -/
def sg (x : Int32) : Int32 := x ^^^ (-1)
def rgo (pk : Nat → Nat) : Nat → Nat → Nat → Nat × Nat
  | 0, v, a => (v, a)
  | n + 1, v, a => if 48 ≤ pk a ∧ pk a ≤ 57 then rgo pk n (10 * v + (pk a - 48)) (a + 1) else (v, a)
def rnm (pk : Nat → Nat) (most a : Nat) : Option (Nat × Nat) := if 48 ≤ pk a ∧ pk a ≤ 57 then some (rgo pk (most - 1) (pk a - 48) (a + 1)) else none
def rmi (pk : Nat → Nat) : Nat → Bool → Nat → Bool × Nat
  | 0, b, a => (b, a)
  | n + 1, b, a => if pk a = 45 then rmi pk n (!b) (a + 1) else (b, a)
abbrev Rr : Type := Bool × Nat × List Int32
def rlp (pk : Nat → Nat) (rc : Nat → Rr) (o1 o2 : Nat) : Nat → Rr → Rr
  | 0, q => q
  | n + 1, q => if q.1 = true then (if pk q.2.1 = o1 ∨ pk q.2.1 = o2 then rlp pk rc o1 o2 n ((rc (q.2.1 + 1)).1, (rc (q.2.1 + 1)).2.1, q.2.2 ++ (rc (q.2.1 + 1)).2.2 ++ [sg (nI (pk q.2.1))]) else q) else q
def rp (pk : Nat → Nat) : Nat → Nat → Nat → Nat → Rr
  | 0, _, _, a => (false, a, [])
  | f + 1, j, d, a => match j with
    | 0 => if (rp pk f 1 d a).1 = true then (if pk (rp pk f 1 d a).2.1 = 60 ∨ pk (rp pk f 1 d a).2.1 = 62 ∨ pk (rp pk f 1 d a).2.1 = 61 then
        ((rp pk f 1 d ((rp pk f 1 d a).2.1 + 1)).1, (rp pk f 1 d ((rp pk f 1 d a).2.1 + 1)).2.1, (rp pk f 1 d a).2.2 ++ (rp pk f 1 d ((rp pk f 1 d a).2.1 + 1)).2.2 ++ (if (rp pk f 1 d ((rp pk f 1 d a).2.1 + 1)).1 = true then [sg (nI (pk (rp pk f 1 d a).2.1))] else [])) else rp pk f 1 d a) else rp pk f 1 d a
    | 1 => rlp pk (fun x => rp pk f 2 d x) 43 45 40 (rp pk f 2 d a)
    | 2 => rlp pk (fun x => rp pk f 3 d x) 42 47 40 (rp pk f 3 d a)
    | 3 => ((rp pk f 4 d (rmi pk 40 false a).2).1, (rp pk f 4 d (rmi pk 40 false a).2).2.1, (rp pk f 4 d (rmi pk 40 false a).2).2.2 ++ (if (rp pk f 4 d (rmi pk 40 false a).2).1 = true ∧ (rmi pk 40 false a).1 = true then [sg 126] else []))
    | _ => match rnm pk 3 a with
      | some q => (true, q.2, [nI q.1])
      | none => if pk a = 40 ∧ d < 4 then (if (rp pk f 0 (d + 1) (a + 1)).1 = true then (if pk (rp pk f 0 (d + 1) (a + 1)).2.1 = 41 then (true, (rp pk f 0 (d + 1) (a + 1)).2.1 + 1, (rp pk f 0 (d + 1) (a + 1)).2.2) else (false, (rp pk f 0 (d + 1) (a + 1)).2.1, (rp pk f 0 (d + 1) (a + 1)).2.2)) else rp pk f 0 (d + 1) (a + 1))
        else if pk a = 116 ∨ pk a = 107 ∨ pk a = 104 ∨ pk a = 110 ∨ pk a = 105 ∨ pk a = 111 then (true, a + 1, [sg (nI (pk a))]) else (false, a, [])
/-- the signs that may be read: those of a text, up to top -/
def pkf (tx : Nat → Nat) (n : Nat) : Nat → Nat := fun i => if i < n then tx i else 999
def Ru (m : Nat → Nat → Int32) : Prop := ∃ (rn rz : Nat) (tx : Nat → Nat), rn ≤ 40 ∧ rz ≤ 40 ∧ m 127 19 = nI rn ∧ m 17 2 = nI rz ∧ (∀ i, i < rn → tx i < 256 ∧ m 134 i = by8 (tx i)) ∧ ((rn = 0 ∧ rz = 0) ∨ (0 < rn ∧ ∃ cd : List Int32, rp (pkf tx rn) 100 0 0 0 = (true, rn, cd) ∧ cd.length = rz ∧ ∀ i, i < rz → m 18 i = cd.getD i 0))
def InvC (B : Nat) (m : Nat → Nat → Int32) : Prop := ∃ hc tc kc lm, Cn m hc tc kc lm ∧ Kd m kc ∧ SR m 2 128 0 ∧ WS (m 128) hc tc B ∧ So m tc kc ∧ Tx m ∧ Hd m tc ∧ Pa m hc tc B ∧ Sh m hc tc B ∧ Ru m
def Row (μ : Mem) : Prop := ∃ rs, rs ≤ 6 ∧ μ.1 0 7 = nI rs ∧ μ.1 127 10 = nI rs ∧ ∀ i, i < rs → μ.2 91 i = μ.2 132 i
def Inv (B : Nat) (μ : Mem) : Prop := InvC B (cl μ) ∧ Row μ
theorem InvC.tn {B : Nat} {μ : Mem} (h : InvC B (cl μ)) : ∃ hc tc kc lm, Tn μ hc tc kc lm ∧ Mn μ hc tc kc lm ∧ Kd μ.1 kc ∧ SR μ.1 2 128 0 ∧ WS (μ.1 128) hc tc B ∧ So μ.1 tc kc := by
  obtain ⟨hc, tc, kc, lm, ⟨⟨c1, c2, c3, c4⟩, ⟨d1, d2, d3, d4⟩, c5⟩, h2, h3, h4, h5, -⟩ := h
  exact ⟨hc, tc, kc, lm, ⟨c1, c2, c3, c4, c5⟩, ⟨d1, d2, d3, d4, c5⟩, h2, h3, h4, h5⟩
