/-! THE CLEAN INTERPRETER, part 4: runs and calls. -/
/-- a method: its name, bytes, locals, answer's type, arguments (the receiver counts), instructions by their places -/
abbrev ci_Y : Type := MethodName × ByteArray × Nat × Option FieldType × Nat × List (Option ci_I)
abbrev ci_y (q : ci_Y) : MethodName := q.1
abbrev ci_b (q : ci_Y) : ByteArray := q.2.1
abbrev ci_n (q : ci_Y) : Nat := q.2.2.1
abbrev ci_t (q : ci_Y) : Option FieldType := q.2.2.2.1
abbrev ci_k (q : ci_Y) : Nat := q.2.2.2.2.1
abbrev ci_code (q : ci_Y) : List (Option ci_I) := q.2.2.2.2.2
def ci_sl (vs : List Value) : List Value := vs.flatMap fun v => if v.category = 2 then [v, ci_junk] else [v]
def ci_entry (vs : List Value) (n : Nat) : List Value := ci_sl vs ++ List.replicate (n - (ci_sl vs).length) ci_junk
def ci_ret (t : Option FieldType) (i : Instr) (S : List Value) : Option (Option Value) := match i with
  | .return_ => match S, t with
    | [], none => some none
    | _, _ => none
  | .ireturn => match S, t with
    | [.int v], some .int => some (some (.int v))
    | [.int v], some .boolean => if v = 0 ∨ v = 1 then some (some (.int v)) else none
    | _, _ => none
  | .lreturn => match S, t with
    | [.long v], some .long => some (some (.long v))
    | _, _ => none
  | _ => none
def ci_recv (g y : Nat) (h : ci_H) (vs : List Value) : Bool := match g with
  | 7 => true
  | 11 => match vs with
    | .ref r :: _ => match ci_obj h r with
      | some o => o.1 == y
      | none => false
    | _ => false
  | 12 => match vs with
    | .ref _ :: _ => true
    | _ => false
  | 13 => match vs with
    | .ref _ :: _ => true
    | _ => false
  | _ => false
def ci_oi (S : List Value) : Option (List Value) := match S with
  | .ref _ :: r => if (r.map fun v => v.category).sum ≤ 8 then some r else none
  | _ => none
def ci_ints (vs : List Value) : Bool := vs.all (fun v => match v with
  | .int _ => true
  | _ => false)
/-- the words of what a call leaves on the stack -/
def ci_few (S : List Value) : Bool := decide ((S.map fun v => v.category).sum ≤ 8)
/-- Math.max, min, abs of ints -/
def ci_math (x : Nat) (S : List Value) : Option (List Value) := match x with
  | 0 => match S with
    | .int b :: .int a :: r => if ci_few r = true then some (.int (if a < b then b else a) :: r) else none
    | _ => none
  | 1 => match S with
    | .int b :: .int a :: r => if ci_few r = true then some (.int (if b < a then b else a) :: r) else none
    | _ => none
  | 2 => match S with
    | .int a :: r => if ci_few r = true then some (.int (if 0 ≤ a then a else 0 - a) :: r) else none
    | _ => none
  | _ => none
def ci_thr (rv : Option Value) : Bool := match rv with
  | some (.retAddr _) => true
  | _ => false
/-- what a catching method of the law does behind the call -/
def ci_cat (rv : Option Value) (o : Nat) (h : ci_H) (nx : ci_N) : Option (Int32 × ci_H × ci_N) := match rv with
  | some (.int v) => match ci_arr h o with
    | some (.long, n, .inr (.inl f)) => if 0 < n then some (0, va_up h o (.inl (.long, n, .inr (.inl (vp_updL f 0 v.toInt64)))), nx) else none
    | _ => none
  | some (.long v) => match ci_arr h o with
    | some (.long, n, .inr (.inl f)) => if 0 < n then some (0, va_up h o (.inl (.long, n, .inr (.inl (vp_updL f 0 v)))), nx) else none
    | _ => none
  | some (.retAddr _) => some (1, h, nx.1, nx.2.1 + 1, nx.2.2 + 6)
  | _ => none
section RUN
variable (Ms : Nat → ci_Y) (cl : List vw_C) (fty : Nat → Nat → FieldType) (xs : Nat → Int32) (N : Nat)
/-- by: steps left, depth left, method, place, locals, stack, cells, how many cells and fields -/
def ci_run : Nat → Nat → Nat → Nat → List Value → List Value → ci_H → ci_N → Option (Option Value × ci_H × ci_N)
  | 0, _, _, _, _, _, _, _ => none
  | n + 1, d, M, pc, L, S, h, nx => match (ci_code (Ms M))[pc]? with
    | some (some (i, len, v, x, y, g)) => match g with
      | 1 => match ci_st1 i v x L S with
        | some S' => ci_run n d M (pc + len) L S' h nx
        | none => none
      | 2 => match ci_st2 i v L S with
        | some q => ci_run n d M (pc + len) q.1 q.2 h nx
        | none => none
      | 3 => match ci_st3 i pc x S with
        | some q => ci_run n d M q.1 L q.2 h nx
        | none => none
      | 4 => match ci_st4 i x y h xs N S with
        | some S' => ci_run n d M (pc + len) L S' h nx
        | none => none
      | 5 => match ci_st5 cl fty i x y h S with
        | some q => ci_run n d M (pc + len) L q.1 q.2 nx
        | none => none
      | 6 => match ci_st6 cl fty i x y h nx S with
        | some q => ci_run n d M (pc + len) L q.1 q.2.1 q.2.2
        | none => none
      | 8 => match ci_ret (ci_t (Ms M)) i S with
        | some rv => some (rv, h, nx)
        | none => none
      | 9 => if ci_few S = true then some (some (.retAddr 1), h, nx) else none
      | 10 => match ci_oi S with
        | some S' => ci_run n d M (pc + len) L S' h nx
        | none => none
      | 15 => match ci_math x S with
        | some S' => ci_run n d M (pc + len) L S' h nx
        | none => none
      | 14 => match d with
        | d' + 2 => match S with
          | .ref o :: S1 => if ci_k (Ms x) ≤ S1.length ∧ ci_few (S1.drop (ci_k (Ms x))) = true ∧ (ci_sl (S1.take (ci_k (Ms x))).reverse).length ≤ ci_n (Ms x) ∧ ci_recv 11 y h (S1.take (ci_k (Ms x))).reverse = true ∧ ci_ints ((S1.take (ci_k (Ms x))).reverse.drop 1) = true then
              match ci_run n d' x 0 (ci_entry (S1.take (ci_k (Ms x))).reverse (ci_n (Ms x))) [] h nx with
              | some q => match ci_cat q.1 o q.2.1 q.2.2 with
                | some u => ci_run n (d' + 2) M (pc + len) L (.int u.1 :: S1.drop (ci_k (Ms x))) u.2.1 u.2.2
                | none => none
              | none => none
            else none
          | _ => none
        | _ => none
      | g => match d with
        | 0 => none
        | d' + 1 => if ci_k (Ms x) ≤ S.length ∧ ci_few (S.drop (ci_k (Ms x))) = true ∧ (ci_sl (S.take (ci_k (Ms x))).reverse).length ≤ ci_n (Ms x) ∧ ci_recv g y h (S.take (ci_k (Ms x))).reverse = true then
            match ci_run n d' x 0 (ci_entry (S.take (ci_k (Ms x))).reverse (ci_n (Ms x))) [] h nx with
            | some q => if ci_thr q.1 = true then none else ci_run n (d' + 1) M (pc + len) L (q.1.toList ++ S.drop (ci_k (Ms x))) q.2.1 q.2.2
            | none => none
          else none
    | _ => none
end RUN
theorem ci_st6_mono {cl : List vw_C} {fty : Nat → Nat → FieldType} {i : Instr} {x y : Nat} {h : ci_H} {nx : ci_N} {S : List Value} {q : List Value × ci_H × ci_N} (hq : ci_st6 cl fty i x y h nx S = some q) : nx.2.1 ≤ q.2.2.2.1 ∧ nx.2.2 ≤ q.2.2.2.2 := by
  cases i with
  | multianewarray ix dm =>
    simp only [ci_st6, ci_mna] at hq
    split at hq
    · split at hq
      · cases hq
      · split at hq
        · cases hq
        · split at hq
          · split at hq
            · cases hq; exact ⟨Nat.le_add_right _ _, Nat.le_add_right _ _⟩
            · cases hq
          · cases hq
    · cases hq
  | new ix =>
    simp only [ci_st6, ci_new] at hq
    split at hq
    · split at hq
      · cases hq
      · cases hq; exact ⟨Nat.le_succ _, Nat.le_add_right _ _⟩
    · cases hq
  | newarray ty =>
    simp only [ci_st6, ci_nwa] at hq
    split at hq
    · split at hq
      · cases hq
      · split at hq
        · cases hq
        · split at hq
          · cases ty <;> first | (cases hq; exact ⟨Nat.le_succ _, Nat.le_add_right _ _⟩) | (cases hq)
          · cases hq
    · cases hq
  | anewarray ix =>
    simp only [ci_st6, ci_nwq] at hq
    split at hq
    · split at hq
      · split at hq
        · cases hq
        · split at hq
          · cases hq
          · split at hq
            · cases hq; exact ⟨Nat.le_succ _, Nat.le_add_right _ _⟩
            · cases hq
      · cases hq
    · cases hq
  | _ => cases hq
theorem ci_cat_mono {rv : Option Value} {o : Nat} {h : ci_H} {nx : ci_N} {u : Int32 × ci_H × ci_N} (hu : ci_cat rv o h nx = some u) : nx.2.1 ≤ u.2.2.2.1 ∧ nx.2.2 ≤ u.2.2.2.2 := by
  unfold ci_cat at hu
  split at hu
  · split at hu
    · split at hu
      · cases hu; exact ⟨Nat.le_refl _, Nat.le_refl _⟩
      · cases hu
    · cases hu
  · split at hu
    · split at hu
      · cases hu; exact ⟨Nat.le_refl _, Nat.le_refl _⟩
      · cases hu
    · cases hu
  · cases hu; exact ⟨Nat.le_succ _, Nat.le_add_right _ _⟩
  · cases hu
set_option maxHeartbeats 4000000 in
theorem ci_mono {Ms : Nat → ci_Y} {cl : List vw_C} {fty : Nat → Nat → FieldType} {xs : Nat → Int32} {N : Nat} : ∀ (n d M pc : Nat) (L S : List Value) (h : ci_H) (nx : ci_N) (r : Option Value × ci_H × ci_N), ci_run Ms cl fty xs N n d M pc L S h nx = some r → nx.2.1 ≤ r.2.2.2.1 ∧ nx.2.2 ≤ r.2.2.2.2 := by
  intro n
  induction n with
  | zero => intro d M pc L S h nx r hr; cases hr
  | succ n ih =>
    intro d M pc L S h nx r hr
    unfold ci_run at hr
    split at hr
    next i len v x y g hcode =>
      split at hr
      · split at hr
        · exact ih _ _ _ _ _ _ _ _ hr
        · cases hr
      · split at hr
        · exact ih _ _ _ _ _ _ _ _ hr
        · cases hr
      · split at hr
        · exact ih _ _ _ _ _ _ _ _ hr
        · cases hr
      · split at hr
        · exact ih _ _ _ _ _ _ _ _ hr
        · cases hr
      · split at hr
        · exact ih _ _ _ _ _ _ _ _ hr
        · cases hr
      · split at hr
        next q hq =>
          have h1 := ci_st6_mono hq
          have h2 := ih _ _ _ _ _ _ _ _ hr
          exact ⟨Nat.le_trans h1.1 h2.1, Nat.le_trans h1.2 h2.2⟩
        · cases hr
      · split at hr
        · cases hr; exact ⟨Nat.le_refl _, Nat.le_refl _⟩
        · cases hr
      · split at hr
        · cases hr; exact ⟨Nat.le_refl _, Nat.le_refl _⟩
        · cases hr
      · split at hr
        · exact ih _ _ _ _ _ _ _ _ hr
        · cases hr
      · split at hr
        · exact ih _ _ _ _ _ _ _ _ hr
        · cases hr
      · split at hr
        · split at hr
          · split at hr
            · split at hr
              next q hq =>
                split at hr
                next u hu =>
                  have h1 := ih _ _ _ _ _ _ _ _ hq
                  have h2 := ci_cat_mono hu
                  have h3 := ih _ _ _ _ _ _ _ _ hr
                  exact ⟨Nat.le_trans h1.1 (Nat.le_trans h2.1 h3.1), Nat.le_trans h1.2 (Nat.le_trans h2.2 h3.2)⟩
                · cases hr
              · cases hr
            · cases hr
          · cases hr
        · cases hr
      · split at hr
        · cases hr
        · split at hr
          · split at hr
            next q hq =>
              split at hr
              · cases hr
              · have h1 := ih _ _ _ _ _ _ _ _ hq
                have h3 := ih _ _ _ _ _ _ _ _ hr
                exact ⟨Nat.le_trans h1.1 h3.1, Nat.le_trans h1.2 h3.2⟩
            · cases hr
          · cases hr
    · cases hr
