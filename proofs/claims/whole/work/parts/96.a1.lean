/-! PURE: a rule, computed. -/
def isOp (c : Int32) : Bool := decide (c = 42) || decide (c = 43) || decide (c = 45) || decide (c = 47) || decide (c = 60) || decide (c = 61) || decide (c = 62)
def opv (c x y : Int32) : Int32 := if c = 42 then x * y else if c = 43 then x + y else if c = 45 then x - y else if c = 60 then (if y ≤ x then 0 else 1) else if c = 61 then (if x = y then 1 else 0) else if c = 62 then (if x ≤ y then 0 else 1) else (if y = 0 then 0 else x / y)
def stp (L : Int32 → Int32) (c : Int32) (st : List Int32) : Option (List Int32) := if 0 ≤ c then some (c :: st) else if isOp (c ^^^ (-1)) = true then (match st with
    | y :: x :: r => some (opv (c ^^^ (-1)) x y :: r)
    | _ => none) else if c = -127 then (match st with
    | x :: r => some (-x :: r)
    | _ => none) else some (L (c ^^^ (-1)) :: st)
def ex (L : Int32 → Int32) : List Int32 → List Int32 → Option (List Int32)
  | [], st => some st
  | c :: cs, st => (stp L c st).bind (ex L cs)
theorem ex_app (L : Int32 → Int32) : ∀ (a b st : List Int32), ex L (a ++ b) st = (ex L a st).bind (ex L b)
  | [], b, st => rfl
  | c :: a, b, st => by
    show (stp L c st).bind (ex L (a ++ b)) = ((stp L c st).bind (ex L a)).bind (ex L b)
    cases stp L c st with
    | none => rfl
    | some s => exact ex_app L a b s
theorem xor_xor (x : Int32) : (x ^^^ (-1)) ^^^ (-1) = x := by
  refine b_ext (fun i hi => ?_)
  rw [b_xor, b_xor, b_m1 i hi]
  cases bt x i <;> rfl
theorem sg_neg : ∀ c, c < 256 → ¬ (0 : Int32) ≤ nI c ^^^ (-1) := by decide +kernel
theorem sg_127 : ∀ c, c < 256 → c ≠ 126 → ¬ nI c ^^^ (-1) = (-127 : Int32) := by decide +kernel
theorem ex_op {L : Int32 → Int32} {c : Nat} (hc : c < 256) (ho : isOp (nI c) = true) {x y : Int32} {r : List Int32} : ex L [sg (nI c)] (y :: x :: r) = some (opv (nI c) x y :: r) := by
  show (stp L (nI c ^^^ (-1)) (y :: x :: r)).bind (ex L []) = _
  unfold stp
  rw [if_neg (sg_neg c hc), xor_xor, if_pos ho]
  rfl
theorem ex_neg {L : Int32 → Int32} {x : Int32} {r : List Int32} : ex L [sg 126] (x :: r) = some (-x :: r) := by
  show (stp L (126 ^^^ (-1)) (x :: r)).bind (ex L []) = _
  unfold stp
  rw [if_neg (by decide), if_neg (by decide), if_pos (by decide)]
  rfl
theorem ex_let {L : Int32 → Int32} {c : Nat} (hc : c < 256) (hn : c ≠ 126) (ho : isOp (nI c) = false) {r : List Int32} : ex L [sg (nI c)] r = some (L (nI c) :: r) := by
  show (stp L (nI c ^^^ (-1)) r).bind (ex L []) = _
  unfold stp
  rw [if_neg (sg_neg c hc), xor_xor, if_neg (by rw [ho]; decide), if_neg (sg_127 c hc hn)]
  rfl
theorem ex_num {L : Int32 → Int32} {n : Nat} (hn : n < 2 ^ 31) {r : List Int32} : ex L [nI n] r = some (nI n :: r) := by
  show (stp L (nI n) r).bind (ex L []) = _
  unfold stp
  rw [if_pos (show (0 : Int32) ≤ nI n from nI_le (a := 0) (by omega) hn)]
  rfl
abbrev Rv : Type := Bool × Nat × Int32
def rvl (pk : Nat → Nat) (rc : Nat → Rv) (o1 o2 : Nat) : Nat → Rv → Rv
  | 0, q => q
  | n + 1, q => if q.1 = true then (if pk q.2.1 = o1 ∨ pk q.2.1 = o2 then rvl pk rc o1 o2 n ((rc (q.2.1 + 1)).1, (rc (q.2.1 + 1)).2.1, opv (nI (pk q.2.1)) q.2.2 (rc (q.2.1 + 1)).2.2) else q) else q
def isLt (c : Nat) : Prop := c = 116 ∨ c = 107 ∨ c = 104 ∨ c = 110 ∨ c = 105 ∨ c = 111
def rv (pk : Nat → Nat) (L : Int32 → Int32) : Nat → Nat → Nat → Nat → Rv
  | 0, _, _, a => (false, a, 0)
  | f + 1, j, d, a => match j with
    | 0 => if (rv pk L f 1 d a).1 = true then (if pk (rv pk L f 1 d a).2.1 = 60 ∨ pk (rv pk L f 1 d a).2.1 = 62 ∨ pk (rv pk L f 1 d a).2.1 = 61 then
        ((rv pk L f 1 d ((rv pk L f 1 d a).2.1 + 1)).1, (rv pk L f 1 d ((rv pk L f 1 d a).2.1 + 1)).2.1, opv (nI (pk (rv pk L f 1 d a).2.1)) (rv pk L f 1 d a).2.2 (rv pk L f 1 d ((rv pk L f 1 d a).2.1 + 1)).2.2) else rv pk L f 1 d a) else rv pk L f 1 d a
    | 1 => rvl pk (fun x => rv pk L f 2 d x) 43 45 40 (rv pk L f 2 d a)
    | 2 => rvl pk (fun x => rv pk L f 3 d x) 42 47 40 (rv pk L f 3 d a)
    | 3 => ((rv pk L f 4 d (rmi pk 40 false a).2).1, (rv pk L f 4 d (rmi pk 40 false a).2).2.1, if (rmi pk 40 false a).1 = true then -(rv pk L f 4 d (rmi pk 40 false a).2).2.2 else (rv pk L f 4 d (rmi pk 40 false a).2).2.2)
    | _ => match rnm pk 3 a with
      | some q => (true, q.2, nI q.1)
      | none => if pk a = 40 ∧ d < 4 then (if (rv pk L f 0 (d + 1) (a + 1)).1 = true then (if pk (rv pk L f 0 (d + 1) (a + 1)).2.1 = 41 then (true, (rv pk L f 0 (d + 1) (a + 1)).2.1 + 1, (rv pk L f 0 (d + 1) (a + 1)).2.2) else (false, (rv pk L f 0 (d + 1) (a + 1)).2.1, (rv pk L f 0 (d + 1) (a + 1)).2.2)) else rv pk L f 0 (d + 1) (a + 1))
        else if pk a = 116 ∨ pk a = 107 ∨ pk a = 104 ∨ pk a = 110 ∨ pk a = 105 ∨ pk a = 111 then (true, a + 1, L (nI (pk a))) else (false, a, 0)
def RQ (L : Int32 → Int32) (p : Rr) (v : Rv) : Prop := p.1 = v.1 ∧ p.2.1 = v.2.1 ∧ (p.1 = true → ∀ st, ex L p.2.2 st = some (v.2.2 :: st))
theorem rgo_lt {pk : Nat → Nat} : ∀ n v a, (rgo pk n v a).1 + 1 ≤ (v + 1) * 10 ^ n
  | 0, v, a => by show v + 1 ≤ (v + 1) * 10 ^ 0; omega
  | n + 1, v, a => by
    unfold rgo
    split
    next h =>
      have ih := rgo_lt (pk := pk) n (10 * v + (pk a - 48)) (a + 1)
      have h2 : 10 * v + (pk a - 48) + 1 ≤ (v + 1) * 10 := by omega
      have h3 := Nat.mul_le_mul_right (10 ^ n) h2
      rw [Nat.pow_succ, Nat.mul_comm (10 ^ n), ← Nat.mul_assoc]
      omega
    · show v + 1 ≤ (v + 1) * 10 ^ (n + 1)
      exact Nat.le_mul_of_pos_right _ (Nat.pow_pos (by decide))
theorem rnm_lt {pk : Nat → Nat} {a : Nat} {q : Nat × Nat} (h : rnm pk 3 a = some q) : q.1 < 1000 := by
  unfold rnm at h
  split at h
  next c =>
    have e := Option.some.inj h
    have h1 := rgo_lt (pk := pk) 2 (pk a - 48) (a + 1)
    have h2 : (pk a - 48 + 1) * 10 ^ 2 ≤ 10 * 10 ^ 2 := Nat.mul_le_mul_right _ (by omega)
    rw [← e]
    show (rgo pk 2 (pk a - 48) (a + 1)).1 < 1000
    omega
  · cases h
theorem rlp_Q {pk : Nat → Nat} {L : Int32 → Int32} {rc : Nat → Rr} {rd : Nat → Rv} {o1 o2 : Nat} (h1 : o1 < 256) (h2 : o2 < 256) (i1 : isOp (nI o1) = true) (i2 : isOp (nI o2) = true) (hr : ∀ x, RQ L (rc x) (rd x)) : ∀ n p v, RQ L p v → RQ L (rlp pk rc o1 o2 n p) (rvl pk rd o1 o2 n v)
  | 0, p, v, h => h
  | n + 1, p, v, h => by
    unfold rlp rvl
    have h0 := h
    obtain ⟨e1, e2, e3⟩ := h
    rw [← e1, ← e2]
    split
    next hp =>
      split
      next ho =>
        refine rlp_Q h1 h2 i1 i2 hr n _ _ ?_
        obtain ⟨f1, f2, f3⟩ := hr (p.2.1 + 1)
        refine ⟨f1, f2, fun hb st => ?_⟩
        show ex L (p.2.2 ++ (rc (p.2.1 + 1)).2.2 ++ [sg (nI (pk p.2.1))]) st = _
        rw [ex_app, ex_app, e3 hp st]
        show ((ex L (rc (p.2.1 + 1)).2.2 (v.2.2 :: st)).bind (ex L [sg (nI (pk p.2.1))])) = _
        rw [f3 hb]
        show ex L [sg (nI (pk p.2.1))] ((rd (p.2.1 + 1)).2.2 :: v.2.2 :: st) = _
        rcases ho with ho | ho
        · rw [ho]; exact ex_op h1 i1
        · rw [ho]; exact ex_op h2 i2
      · exact h0
    · exact h0
def cR (pk : Nat → Nat) (r1 : Rr) (rc : Nat → Rr) : Rr := if r1.1 = true then (if pk r1.2.1 = 60 ∨ pk r1.2.1 = 62 ∨ pk r1.2.1 = 61 then ((rc (r1.2.1 + 1)).1, (rc (r1.2.1 + 1)).2.1, r1.2.2 ++ (rc (r1.2.1 + 1)).2.2 ++ (if (rc (r1.2.1 + 1)).1 = true then [sg (nI (pk r1.2.1))] else [])) else r1) else r1
def cV (pk : Nat → Nat) (r1 : Rv) (rc : Nat → Rv) : Rv := if r1.1 = true then (if pk r1.2.1 = 60 ∨ pk r1.2.1 = 62 ∨ pk r1.2.1 = 61 then ((rc (r1.2.1 + 1)).1, (rc (r1.2.1 + 1)).2.1, opv (nI (pk r1.2.1)) r1.2.2 (rc (r1.2.1 + 1)).2.2) else r1) else r1
def tR (pk : Nat → Nat) (d a : Nat) (r : Rr) : Rr := match rnm pk 3 a with
  | some q => (true, q.2, [nI q.1])
  | none => if pk a = 40 ∧ d < 4 then (if r.1 = true then (if pk r.2.1 = 41 then (true, r.2.1 + 1, r.2.2) else (false, r.2.1, r.2.2)) else r) else if pk a = 116 ∨ pk a = 107 ∨ pk a = 104 ∨ pk a = 110 ∨ pk a = 105 ∨ pk a = 111 then (true, a + 1, [sg (nI (pk a))]) else (false, a, [])
def tV (pk : Nat → Nat) (L : Int32 → Int32) (d a : Nat) (r : Rv) : Rv := match rnm pk 3 a with
  | some q => (true, q.2, nI q.1)
  | none => if pk a = 40 ∧ d < 4 then (if r.1 = true then (if pk r.2.1 = 41 then (true, r.2.1 + 1, r.2.2) else (false, r.2.1, r.2.2)) else r) else if pk a = 116 ∨ pk a = 107 ∨ pk a = 104 ∨ pk a = 110 ∨ pk a = 105 ∨ pk a = 111 then (true, a + 1, L (nI (pk a))) else (false, a, 0)
section RPE
variable {pk : Nat → Nat} {L : Int32 → Int32} {f d a j : Nat}
theorem rp_e0 : rp pk (f + 1) 0 d a = cR pk (rp pk f 1 d a) (fun x => rp pk f 1 d x) := rfl
theorem rp_e1 : rp pk (f + 1) 1 d a = rlp pk (fun x => rp pk f 2 d x) 43 45 40 (rp pk f 2 d a) := rfl
theorem rp_e2 : rp pk (f + 1) 2 d a = rlp pk (fun x => rp pk f 3 d x) 42 47 40 (rp pk f 3 d a) := rfl
theorem rp_e4 : rp pk (f + 1) (j + 4) d a = tR pk d a (rp pk f 0 (d + 1) (a + 1)) := rfl
theorem rv_e0 : rv pk L (f + 1) 0 d a = cV pk (rv pk L f 1 d a) (fun x => rv pk L f 1 d x) := rfl
theorem rv_e1 : rv pk L (f + 1) 1 d a = rvl pk (fun x => rv pk L f 2 d x) 43 45 40 (rv pk L f 2 d a) := rfl
theorem rv_e2 : rv pk L (f + 1) 2 d a = rvl pk (fun x => rv pk L f 3 d x) 42 47 40 (rv pk L f 3 d a) := rfl
theorem rv_e3 : rv pk L (f + 1) 3 d a = ((rv pk L f 4 d (rmi pk 40 false a).2).1, (rv pk L f 4 d (rmi pk 40 false a).2).2.1, if (rmi pk 40 false a).1 = true then -(rv pk L f 4 d (rmi pk 40 false a).2).2.2 else (rv pk L f 4 d (rmi pk 40 false a).2).2.2) := rfl
theorem rv_e4 : rv pk L (f + 1) (j + 4) d a = tV pk L d a (rv pk L f 0 (d + 1) (a + 1)) := rfl
end RPE
theorem cR_Q {pk : Nat → Nat} {L : Int32 → Int32} {p : Rr} {v : Rv} {rc : Nat → Rr} {rd : Nat → Rv} (h : RQ L p v) (hr : ∀ x, RQ L (rc x) (rd x)) : RQ L (cR pk p rc) (cV pk v rd) := by
  have h0 := h
  obtain ⟨e1, e2, e3⟩ := h
  unfold cR cV
  rw [← e1, ← e2]
  split
  next hp =>
    split
    next ho =>
      obtain ⟨f1, f2, f3⟩ := hr (p.2.1 + 1)
      refine ⟨f1, f2, fun hb st => ?_⟩
      have hb : (rc (p.2.1 + 1)).1 = true := hb
      show ex L (p.2.2 ++ (rc (p.2.1 + 1)).2.2 ++ (if (rc (p.2.1 + 1)).1 = true then [sg (nI (pk p.2.1))] else [])) st = _
      rw [if_pos hb, ex_app, ex_app, e3 hp st]
      show ((ex L (rc (p.2.1 + 1)).2.2 (v.2.2 :: st)).bind (ex L [sg (nI (pk p.2.1))])) = _
      rw [f3 hb]
      show ex L [sg (nI (pk p.2.1))] ((rd (p.2.1 + 1)).2.2 :: v.2.2 :: st) = _
      rcases ho with ho | ho | ho
      · rw [ho]; exact ex_op (c := 60) (by decide) (by decide)
      · rw [ho]; exact ex_op (c := 62) (by decide) (by decide)
      · rw [ho]; exact ex_op (c := 61) (by decide) (by decide)
    · exact h0
  · exact h0
theorem tR_Q {pk : Nat → Nat} {L : Int32 → Int32} {d a : Nat} {p : Rr} {v : Rv} (h : RQ L p v) : RQ L (tR pk d a p) (tV pk L d a v) := by
  have h0 := h
  obtain ⟨e1, e2, e3⟩ := h
  unfold tR tV
  cases hm : rnm pk 3 a with
  | some q =>
    refine ⟨rfl, rfl, fun _ st => ?_⟩
    have := rnm_lt hm
    exact ex_num (by omega)
  | none =>
    (try dsimp only)
    rw [← e1, ← e2]
    split
    · split
      next hp =>
        split
        · exact ⟨rfl, rfl, fun _ st => e3 hp st⟩
        · exact ⟨rfl, rfl, fun z => nomatch z⟩
      · exact h0
    · split
      next hl =>
        refine ⟨rfl, rfl, fun _ st => ?_⟩
        show ex L [sg (nI (pk a))] st = some (L (nI (pk a)) :: st)
        rcases hl with h | h | h | h | h | h <;> rw [h] <;> exact ex_let (by decide) (by decide) (by decide)
      · exact ⟨rfl, rfl, fun z => nomatch z⟩
theorem rp_Q (pk : Nat → Nat) (L : Int32 → Int32) : ∀ f j d a, RQ L (rp pk f j d a) (rv pk L f j d a)
  | 0, j, d, a => ⟨rfl, rfl, fun h => nomatch h⟩
  | f + 1, 0, d, a => by
    rw [rp_e0, rv_e0]
    exact cR_Q (rp_Q pk L f 1 d a) (fun x => rp_Q pk L f 1 d x)
  | f + 1, 1, d, a => by
    rw [rp_e1, rv_e1]
    exact rlp_Q (by decide) (by decide) (by decide) (by decide) (fun x => rp_Q pk L f 2 d x) 40 _ _ (rp_Q pk L f 2 d a)
  | f + 1, 2, d, a => by
    rw [rp_e2, rv_e2]
    exact rlp_Q (by decide) (by decide) (by decide) (by decide) (fun x => rp_Q pk L f 3 d x) 40 _ _ (rp_Q pk L f 3 d a)
  | f + 1, 3, d, a => by
    obtain ⟨e1, e2, e3⟩ := rp_Q pk L f 4 d (rmi pk 40 false a).2
    refine ⟨e1, e2, fun hb st => ?_⟩
    have hb : (rp pk f 4 d (rmi pk 40 false a).2).1 = true := hb
    show ex L ((rp pk f 4 d (rmi pk 40 false a).2).2.2 ++ (if (rp pk f 4 d (rmi pk 40 false a).2).1 = true ∧ (rmi pk 40 false a).1 = true then [sg 126] else [])) st = some ((if (rmi pk 40 false a).1 = true then -(rv pk L f 4 d (rmi pk 40 false a).2).2.2 else (rv pk L f 4 d (rmi pk 40 false a).2).2.2) :: st)
    rw [ex_app, e3 hb st]
    by_cases c : (rmi pk 40 false a).1 = true
    · rw [if_pos ⟨hb, c⟩, if_pos c]
      exact ex_neg (L := L)
    · rw [if_neg (fun z => c z.2), if_neg c]
      rfl
  | f + 1, j + 4, d, a => by
    rw [rp_e4, rv_e4]
    exact tR_Q (rp_Q pk L f 0 (d + 1) (a + 1))
