/-! PURE: the constructors, run by the kernel. -/
def ct_h0 : ci_H := fun _ => .inr (0, [])
def ct_1 : Option (ci_H × ci_N) := (ci_new ci_cls ci_fty 11 ct_h0 (0, 0, 0) []).map (fun q => q.2)
def ct_v (r : Option Value × ci_H × ci_N) : Option (ci_H × ci_N) := match r.1 with
  | none => some r.2
  | some _ => none
def ct_2 : Option (ci_H × ci_N) := ct_1.bind fun q => (ci_run ci_Ms ci_cls ci_fty (fun _ => 0) 0 5000 1989 94 0 (ci_entry [.ref 0] 2) [] q.1 q.2).bind ct_v
def ct_3 : Option (ci_H × ci_N) := ct_2.bind fun q => (ci_new ci_cls ci_fty 12 q.1 q.2 []).map (fun q => q.2)
def ct_4 : Option (ci_H × ci_N) := ct_3.bind fun q => (ci_run ci_Ms ci_cls ci_fty (fun _ => 0) 0 5000 1989 168 0 (ci_entry [.ref 127] 1) [] q.1 q.2).bind ct_v
def ct_5 : Option (ci_H × ci_N) := ct_4.bind fun q => (ci_nwa .long q.1 q.2 [.int 1]).map (fun q => q.2)
/-- what isn't 0 behind the constructors -/
def ct_iv (a j : Nat) : Int32 := if a = 6 ∧ j < 2 then 100 else if a = 1 ∧ (j = 5 ∨ j = 8) then 2 else if a = 128 ∧ (j = 36 ∨ j = 37) then 100 else if a = 127 ∧ (j = 1 ∨ j = 6) then 2 else 0
def ct_iμ : Mem := (ct_iv, fun _ _ => 0)
def ct_rf (a j : Nat) : Option Nat := if a = 25 then some (26 + 5 * j) else if a = 92 then some (93 + 5 * j) else some (118 + j)
def ct_cell (a : Nat) (s : Nat × Nat × List Nat) (c : ci_C) : Bool := match c with
  | .inl (ty, n, .inl f) => decide ((s.1 = 0 ∧ ty = .int) ∨ (s.1 = 2 ∧ ty = .byte) ∨ (s.1 = 3 ∧ ty = .boolean)) && (decide (n = s.2.1) && (List.range n).all (fun j => decide (f j = ct_iv a j)))
  | .inl (ty, n, .inr (.inl f)) => decide (s.1 = 1 ∧ ty = .long) && (decide (n = s.2.1) && (List.range n).all (fun j => decide (f j = 0)))
  | .inl (ty, n, .inr (.inr (.inr (.inr f)))) => decide ((s.1 = 4 ∧ ty = .object "TwoAtMost$State") ∨ (s.1 = 5 ∧ ty = .array .int)) && (decide (n = s.2.1) && (List.range n).all (fun j => decide (f j = ct_rf a j)))
  | .inr (x, vs) => decide (s.1 = 6 ∧ x = s.2.1 ∧ vs = hp_f ct_iμ a 0 s.2.2) && (List.range s.2.2.length).all (fun j => decide (s.2.2[j]? = some 2 → ct_iv a j = 0))
  | _ => false
def ct_all (h : ci_H) : Nat → List (Nat × Nat × List Nat) → Bool
  | _, [] => true
  | a, s :: r => ct_cell a s (h a) && ct_all h (a + 1) r
set_option maxRecDepth 100000 in
theorem ct_ok : (ct_5.map fun q => ct_all q.1 0 hp_T && decide (q.2 = (149, 149, 2647))) = some true := by decide +kernel
set_option maxRecDepth 100000 in
theorem ct_n2 : (ct_2.map fun q => q.2.1) = some 127 := by decide +kernel
set_option maxRecDepth 100000 in
theorem ct_n4 : (ct_4.map fun q => q.2.1) = some 148 := by decide +kernel
