/-! PURE: rows for a run, instruction by instruction; a straight stretch at once. -/
def gI (h : ci_H) (a x y : Nat) : Option Int32 := match ci_obj h a with
  | some o => if o.1 = x then match o.2[y]? with
    | some (.int v) => some v
    | _ => none
    else none
  | none => none
def gL (h : ci_H) (a x y : Nat) : Option Int64 := match ci_obj h a with
  | some o => if o.1 = x then match o.2[y]? with
    | some (.long v) => some v
    | _ => none
    else none
  | none => none
def gR (h : ci_H) (a x y : Nat) : Option Nat := match ci_obj h a with
  | some o => if o.1 = x then match o.2[y]? with
    | some (.ref v) => some v
    | _ => none
    else none
  | none => none
def rI (h : ci_H) (a : Nat) (j : Int32) : Option Int32 := match ci_arr h a with
  | some (.int, n, .inl f) => if ci_in j n = true then some (f j.toNatClampNeg) else none
  | _ => none
def rB (h : ci_H) (a : Nat) (j : Int32) : Option Int32 := match ci_arr h a with
  | some (.byte, n, .inl f) => if ci_in j n = true then some (f j.toNatClampNeg) else none
  | some (.boolean, n, .inl f) => if ci_in j n = true then some (f j.toNatClampNeg) else none
  | _ => none
def rL (h : ci_H) (a : Nat) (j : Int32) : Option Int64 := match ci_arr h a with
  | some (.long, n, .inr (.inl f)) => if ci_in j n = true then some (f j.toNatClampNeg) else none
  | _ => none
def rR (h : ci_H) (a : Nat) (j : Int32) : Option Nat := match ci_arr h a with
  | some (ty, n, .inr (.inr (.inr (.inr f)))) => if ty.isReference = true then if ci_in j n = true then f j.toNatClampNeg else none else none
  | _ => none
def pF (h : ci_H) (a x y : Nat) (v : Value) : Option ci_H := (ci_pf ci_fty x y h [v, .ref a]).map (fun q => q.2)
def wI (h : ci_H) (a : Nat) (j v : Int32) : Option ci_H := (ci_ias h [.int v, .int j, .ref a]).map (fun q => q.2)
def wB (h : ci_H) (a : Nat) (j v : Int32) : Option ci_H := (ci_bas h [.int v, .int j, .ref a]).map (fun q => q.2)
def wL (h : ci_H) (a : Nat) (j : Int32) (v : Int64) : Option ci_H := (ci_las h [.long v, .int j, .ref a]).map (fun q => q.2)
def cpI (h : ci_H) (k0 : Nat) (sp : Int32) (k1 : Nat) (dp n : Int32) : Option ci_H := (ci_cpy h [.int n, .int dp, .ref k1, .int sp, .ref k0]).map (fun q => q.2)
def dvI (a b : Int32) : Option Int32 := if b = 0 then none else some (a / b)
def rmI (a b : Int32) : Option Int32 := if b = 0 then none else some (a - a / b * b)
def dvL (a b : Int64) : Option Int64 := if b = 0 then none else some (a / b)
def rmL (a b : Int64) : Option Int64 := if b = 0 then none else some (a - a / b * b)
def bZ (w : Int32) : Option Int32 := if w = 0 ∨ w = 1 then some w else none
def kO (h : ci_H) (a : Nat) : Option Nat := (ci_obj h a).map (fun o => o.1)
/-- how many turns a loop may take -/
def bigN : Nat := 5000
/-- how deep a recursion may go -/
def recN : Nat := 100
def oI (r : Int32 × ci_H) (nx : ci_N) : Option Value × ci_H × ci_N := (some (.int r.1), r.2, nx)
def oL (r : Int64 × ci_H) (nx : ci_N) : Option Value × ci_H × ci_N := (some (.long r.1), r.2, nx)
def oV (r : ci_H) (nx : ci_N) : Option Value × ci_H × ci_N := (none, r, nx)
def oT (r : Option Int32 × ci_H) (nx : ci_N) : Option Value × ci_H × ci_N := ((match r.1 with
  | some v => some (.int v)
  | none => some (.retAddr 1)), r.2, nx)
def oU (r : Option Int64 × ci_H) (nx : ci_N) : Option Value × ci_H × ci_N := ((match r.1 with
  | some v => some (.long v)
  | none => some (.retAddr 1)), r.2, nx)
def ci_go (code : List (Option ci_I)) : Nat → Nat × List Value × List Value → Option (Nat × List Value × List Value)
  | 0, c => some c
  | n + 1, (pc, L, S) => match code[pc]? with
    | some (some (i, len, v, x, _, g)) => match g with
      | 1 => match ci_st1 i v x L S with
        | some S' => ci_go code n (pc + len, L, S')
        | none => none
      | 2 => match ci_st2 i v L S with
        | some q => ci_go code n (pc + len, q.1, q.2)
        | none => none
      | 3 => match ci_st3 i pc x S with
        | some q => ci_go code n (q.1, L, q.2)
        | none => none
      | _ => none
    | _ => none
section EVL
variable {xs : Nat → Int32} {N d M pc : Nat} {L S : List Value} {h : ci_H} {nx : ci_N} {r : Option Value × ci_H × ci_N} {code : List (Option ci_I)}
theorem Ev.weak {L' : List Value} (hl : ci_le L L') (k : Ev xs N d M pc L S h nx r) : Ev xs N d M pc L' S h nx r := by
  obtain ⟨n, hn⟩ := k
  exact ⟨n, ci_weak _ _ _ _ _ _ _ _ _ _ hl hn⟩
theorem ev_go (hc : ci_code (ci_Ms M) = code) {k pc' : Nat} {L' S' : List Value} (hg : ci_go code k (pc, L, S) = some (pc', L', S')) (kk : Ev xs N d M pc' L' S' h nx r) : Ev xs N d M pc L S h nx r := by
  induction k generalizing pc L S with
  | zero => cases hg; exact kk
  | succ k ih =>
    unfold ci_go at hg
    split at hg
    next i len v x y g hcode =>
      split at hg
      · split at hg
        next S2 hs =>
          obtain ⟨n, hn⟩ := ih hg
          refine ⟨n + 1, ?_⟩
          unfold ci_run
          rw [hc, hcode]
          dsimp only
          rw [hs]
          exact hn
        · cases hg
      · split at hg
        next q hs =>
          obtain ⟨n, hn⟩ := ih hg
          refine ⟨n + 1, ?_⟩
          unfold ci_run
          rw [hc, hcode]
          dsimp only
          rw [hs]
          exact hn
        · cases hg
      · split at hg
        next q hs =>
          obtain ⟨n, hn⟩ := ih hg
          refine ⟨n + 1, ?_⟩
          unfold ci_run
          rw [hc, hcode]
          dsimp only
          rw [hs]
          exact hn
        · cases hg
      · cases hg
    · cases hg
theorem ev_1 (hc : ci_code (ci_Ms M) = code) {i : Instr} {len x y : Nat} {v : Int32} {S' : List Value} (hf : code[pc]? = some (some (i, len, v, x, y, 1))) (hs : ci_st1 i v x L S = some S') (kk : Ev xs N d M (pc + len) L S' h nx r) : Ev xs N d M pc L S h nx r := by
  obtain ⟨n, hn⟩ := kk
  refine ⟨n + 1, ?_⟩
  unfold ci_run
  rw [hc, hf]
  dsimp only
  rw [hs]
  exact hn
theorem ev_3 (hc : ci_code (ci_Ms M) = code) {i : Instr} {len x y pc' : Nat} {v : Int32} {S' : List Value} (hf : code[pc]? = some (some (i, len, v, x, y, 3))) (hs : ci_st3 i pc x S = some (pc', S')) (kk : Ev xs N d M pc' L S' h nx r) : Ev xs N d M pc L S h nx r := by
  obtain ⟨n, hn⟩ := kk
  refine ⟨n + 1, ?_⟩
  unfold ci_run
  rw [hc, hf]
  dsimp only
  rw [hs]
  exact hn
theorem ev_bt (hc : ci_code (ci_Ms M) = code) {i : Instr} {len x y a b : Nat} {v : Int32} {S' : List Value} {c : Prop} [Decidable c] (hf : code[pc]? = some (some (i, len, v, x, y, 3))) (hs : ci_st3 i pc x S = some (ci_br c a b, S')) (hcc : c) (kk : Ev xs N d M a L S' h nx r) : Ev xs N d M pc L S h nx r := ev_3 hc hf hs (by rw [ci_br, if_pos hcc]; exact kk)
theorem ev_bf (hc : ci_code (ci_Ms M) = code) {i : Instr} {len x y a b : Nat} {v : Int32} {S' : List Value} {c : Prop} [Decidable c] (hf : code[pc]? = some (some (i, len, v, x, y, 3))) (hs : ci_st3 i pc x S = some (ci_br c a b, S')) (hcc : ¬ c) (kk : Ev xs N d M b L S' h nx r) : Ev xs N d M pc L S h nx r := ev_3 hc hf hs (by rw [ci_br, if_neg hcc]; exact kk)
theorem ev_4 (hc : ci_code (ci_Ms M) = code) {i : Instr} {len x y : Nat} {v : Int32} {S' : List Value} (hf : code[pc]? = some (some (i, len, v, x, y, 4))) (hs : ci_st4 i x y h xs N S = some S') (kk : Ev xs N d M (pc + len) L S' h nx r) : Ev xs N d M pc L S h nx r := by
  obtain ⟨n, hn⟩ := kk
  refine ⟨n + 1, ?_⟩
  unfold ci_run
  rw [hc, hf]
  dsimp only
  rw [hs]
  exact hn
theorem ev_5 (hc : ci_code (ci_Ms M) = code) {i : Instr} {len x y : Nat} {v : Int32} {S' : List Value} {h' : ci_H} (hf : code[pc]? = some (some (i, len, v, x, y, 5))) (hs : ci_st5 ci_cls ci_fty i x y h S = some (S', h')) (kk : Ev xs N d M (pc + len) L S' h' nx r) : Ev xs N d M pc L S h nx r := by
  obtain ⟨n, hn⟩ := kk
  refine ⟨n + 1, ?_⟩
  unfold ci_run
  rw [hc, hf]
  dsimp only
  rw [hs]
  exact hn
theorem ev_15 (hc : ci_code (ci_Ms M) = code) {i : Instr} {len x y : Nat} {v : Int32} {S' : List Value} (hf : code[pc]? = some (some (i, len, v, x, y, 15))) (hs : ci_math x S = some S') (kk : Ev xs N d M (pc + len) L S' h nx r) : Ev xs N d M pc L S h nx r := by
  obtain ⟨n, hn⟩ := kk
  refine ⟨n + 1, ?_⟩
  unfold ci_run
  rw [hc, hf]
  dsimp only
  rw [hs]
  exact hn
theorem ev_8 (hc : ci_code (ci_Ms M) = code) {i : Instr} {len x y : Nat} {v : Int32} {rv : Option Value} (hf : code[pc]? = some (some (i, len, v, x, y, 8))) (hs : ci_ret (ci_t (ci_Ms M)) i S = some rv) : Ev xs N d M pc L S h nx (rv, h, nx) := by
  refine ⟨1, ?_⟩
  unfold ci_run
  rw [hc, hf]
  show (match ci_ret (ci_t (ci_Ms M)) i S with
    | some rv => some (rv, h, nx)
    | none => none) = _
  rw [hs]
theorem ev_9 (hc : ci_code (ci_Ms M) = code) {i : Instr} {len x y : Nat} {v : Int32} (hf : code[pc]? = some (some (i, len, v, x, y, 9))) (hs : ci_few S = true) : Ev xs N d M pc L S h nx (some (.retAddr 1), h, nx) := by
  refine ⟨1, ?_⟩
  unfold ci_run
  rw [hc, hf]
  show (if ci_few S = true then some (some (Value.retAddr 1), h, nx) else none) = some (some (Value.retAddr 1), h, nx)
  rw [if_pos hs]
theorem gI_gf {a x y : Nat} {w : Int32} (hg : gI h a x y = some w) : ci_gf x y h (.ref a :: S) = some (.int w :: S) := by
  unfold gI at hg
  unfold ci_gf
  (try dsimp only)
  split at hg
  next o ho =>
    (try rw [ho])
    (try dsimp only)
    split at hg
    next hx =>
      rw [if_pos hx]
      split at hg
      next u hu => cases hg; rw [hu]
      · cases hg
    · cases hg
  · cases hg
theorem gL_gf {a x y : Nat} {w : Int64} (hg : gL h a x y = some w) : ci_gf x y h (.ref a :: S) = some (.long w :: S) := by
  unfold gL at hg
  unfold ci_gf
  (try dsimp only)
  split at hg
  next o ho =>
    (try rw [ho])
    (try dsimp only)
    split at hg
    next hx =>
      rw [if_pos hx]
      split at hg
      next u hu => cases hg; rw [hu]
      · cases hg
    · cases hg
  · cases hg
theorem gR_gf {a x y w : Nat} (hg : gR h a x y = some w) : ci_gf x y h (.ref a :: S) = some (.ref w :: S) := by
  unfold gR at hg
  unfold ci_gf
  (try dsimp only)
  split at hg
  next o ho =>
    (try rw [ho])
    (try dsimp only)
    split at hg
    next hx =>
      rw [if_pos hx]
      split at hg
      next u hu => cases hg; rw [hu]
      · cases hg
    · cases hg
  · cases hg
theorem ci_arr_scr {a : Nat} {o : FieldType × vp_A} (e : ci_arr h a = some o) : ¬ a = ci_scr := (ci_arr_inv e).1
theorem rI_al {a : Nat} {j w : Int32} (hg : rI h a j = some w) : ci_ial h xs N (.int j :: .ref a :: S) = some (.int w :: S) := by
  unfold rI at hg
  unfold ci_ial
  (try dsimp only)
  split at hg
  next n f ho =>
    (first | rw [if_neg (ci_arr_scr ho), ho] | rw [if_neg (ci_arr_scr ho)])
    (try dsimp only)
    split at hg
    next hin => cases hg; rw [if_pos hin]
    · cases hg
  · cases hg
theorem rB_al {a : Nat} {j w : Int32} (hg : rB h a j = some w) : ci_bal h (.int j :: .ref a :: S) = some (.int w :: S) := by
  unfold rB at hg
  unfold ci_bal
  (try dsimp only)
  split at hg
  next n f ho =>
    (try rw [ho])
    (try dsimp only)
    split at hg
    next hin => cases hg; rw [if_pos hin]
    · cases hg
  next n f ho =>
    (try rw [ho])
    (try dsimp only)
    split at hg
    next hin => cases hg; rw [if_pos hin]
    · cases hg
  · cases hg
theorem rL_al {a : Nat} {j : Int32} {w : Int64} (hg : rL h a j = some w) : ci_lal h (.int j :: .ref a :: S) = some (.long w :: S) := by
  unfold rL at hg
  unfold ci_lal
  (try dsimp only)
  split at hg
  next n f ho =>
    (try rw [ho])
    (try dsimp only)
    split at hg
    next hin => cases hg; rw [if_pos hin]
    · cases hg
  · cases hg
theorem rR_al {a w : Nat} {j : Int32} (hg : rR h a j = some w) : ci_aal h (.int j :: .ref a :: S) = some (.ref w :: S) := by
  unfold rR at hg
  unfold ci_aal
  (try dsimp only)
  split at hg
  next ty n f ho =>
    (try rw [ho])
    (try dsimp only)
    split at hg
    next hr =>
      rw [if_pos hr]
      split at hg
      next hin => rw [if_pos hin, hg]
      · cases hg
    · cases hg
  · cases hg
theorem pF_pf {a x y : Nat} {v : Value} {h' : ci_H} (hg : pF h a x y v = some h') : ci_pf ci_fty x y h (v :: .ref a :: S) = some (S, h') := by
  unfold pF ci_pf at hg
  unfold ci_pf
  dsimp only at hg ⊢
  split at hg
  next o ho =>
    (try rw [ho])
    (try dsimp only)
    split at hg
    next h1 =>
      rw [if_pos h1]
      split at hg
      next h2 =>
        rw [if_pos h2]
        split at hg
        next h3 => rw [if_pos h3]; cases hg; rfl
        · cases hg
      · cases hg
    · cases hg
  · cases hg
theorem wI_as {a : Nat} {j v : Int32} {h' : ci_H} (hg : wI h a j v = some h') : ci_ias h (.int v :: .int j :: .ref a :: S) = some (S, h') := by
  unfold wI ci_ias at hg
  unfold ci_ias
  dsimp only at hg ⊢
  split at hg
  next n f ho =>
    (try rw [ho])
    (try dsimp only)
    split at hg
    next h1 => rw [if_pos h1]; cases hg; rfl
    · cases hg
  · cases hg
theorem wB_as {a : Nat} {j v : Int32} {h' : ci_H} (hg : wB h a j v = some h') : ci_bas h (.int v :: .int j :: .ref a :: S) = some (S, h') := by
  unfold wB ci_bas at hg
  unfold ci_bas
  dsimp only at hg ⊢
  split at hg
  next n f ho =>
    (try rw [ho])
    (try dsimp only)
    split at hg
    next h1 => rw [if_pos h1]; cases hg; rfl
    · cases hg
  next n f ho =>
    (try rw [ho])
    (try dsimp only)
    split at hg
    next h1 => rw [if_pos h1]; cases hg; rfl
    · cases hg
  · cases hg
theorem wL_as {a : Nat} {j : Int32} {v : Int64} {h' : ci_H} (hg : wL h a j v = some h') : ci_las h (.long v :: .int j :: .ref a :: S) = some (S, h') := by
  unfold wL ci_las at hg
  unfold ci_las
  dsimp only at hg ⊢
  split at hg
  next n f ho =>
    (try rw [ho])
    (try dsimp only)
    split at hg
    next h1 => rw [if_pos h1]; cases hg; rfl
    · cases hg
  · cases hg
theorem cpI_cp {k0 k1 : Nat} {sp dp n : Int32} {h' : ci_H} (hg : cpI h k0 sp k1 dp n = some h') : ci_cpy h [.int n, .int dp, .ref k1, .int sp, .ref k0] = some ([], h') := by
  unfold cpI at hg
  obtain ⟨q, h1, rfl⟩ := Option.map_eq_some_iff.mp hg
  rw [h1]
  unfold ci_cpy at h1
  dsimp only at h1
  split at h1
  · split at h1
    · split at h1
      · cases h1
      · split at h1
        · cases h1
        · split at h1
          · cases h1
          · split at h1
            · split at h1
              · split at h1
                · cases h1; rfl
                · cases h1
              · cases h1
            · cases h1
    · cases h1
  · cases h1
/-- a call, static or virtual -/
theorem ev_call (hc : ci_code (ci_Ms M) = code) {i : Instr} {x y g : Nat} {v : Int32} {q : ci_Y} {vs rest : List Value} {rv : Option Value} {h' : ci_H} {nx' : ci_N} (hgg : g = 7 ∨ g = 11) (hf : code[pc]? = some (some (i, 3, v, x, y, g))) (hq : ci_Ms x = q) (hk : vs.length = ci_k q) (hfew : ci_few rest = true) (hsl : (ci_sl vs).length ≤ ci_n q) (hrc : ci_recv g y h vs = true)
    (hcal : Ev xs N d x 0 (ci_entry vs (ci_n q)) [] h nx (rv, h', nx')) (hth : ci_thr rv = false) (kk : Ev xs N (d + 1) M (pc + 3) L (rv.toList ++ rest) h' nx' r) : Ev xs N (d + 1) M pc L (vs.reverse ++ rest) h nx r := by
  obtain ⟨n1, h1⟩ := hcal
  obtain ⟨n2, h2⟩ := kk
  refine ⟨n1 + n2 + 1, ?_⟩
  have e1 : (vs.reverse ++ rest).take (ci_k (ci_Ms x)) = vs.reverse := by rw [hq, ← hk, ← List.length_reverse]; exact List.take_left
  have e2 : (vs.reverse ++ rest).drop (ci_k (ci_Ms x)) = rest := by rw [hq, ← hk, ← List.length_reverse]; exact List.drop_left
  have e3 : ci_k (ci_Ms x) ≤ (vs.reverse ++ rest).length := by rw [hq, ← hk, List.length_append, List.length_reverse]; omega
  have r1 := ci_more _ _ _ _ _ _ _ _ _ h1 n2
  have r2 := ci_more _ _ _ _ _ _ _ _ _ h2 n1
  rw [Nat.add_comm n2 n1] at r2
  unfold ci_run
  rw [hc, hf]
  rcases hgg with rfl | rfl
  · show (if ci_k (ci_Ms x) ≤ (vs.reverse ++ rest).length ∧ ci_few ((vs.reverse ++ rest).drop (ci_k (ci_Ms x))) = true ∧ (ci_sl ((vs.reverse ++ rest).take (ci_k (ci_Ms x))).reverse).length ≤ ci_n (ci_Ms x) ∧ ci_recv 7 y h ((vs.reverse ++ rest).take (ci_k (ci_Ms x))).reverse = true then
      match ci_run ci_Ms ci_cls ci_fty xs N (n1 + n2) d x 0 (ci_entry ((vs.reverse ++ rest).take (ci_k (ci_Ms x))).reverse (ci_n (ci_Ms x))) [] h nx with
      | some q => if ci_thr q.1 = true then none else ci_run ci_Ms ci_cls ci_fty xs N (n1 + n2) (d + 1) M (pc + 3) L (q.1.toList ++ (vs.reverse ++ rest).drop (ci_k (ci_Ms x))) q.2.1 q.2.2
      | none => none
      else none) = some r
    rw [e1, e2, List.reverse_reverse, if_pos ⟨e3, hfew, by rw [hq]; exact hsl, hrc⟩, hq, r1]
    show (if ci_thr rv = true then none else ci_run ci_Ms ci_cls ci_fty xs N (n1 + n2) (d + 1) M (pc + 3) L (rv.toList ++ rest) h' nx') = some r
    rw [if_neg (by rw [hth]; decide)]
    exact r2
  · show (if ci_k (ci_Ms x) ≤ (vs.reverse ++ rest).length ∧ ci_few ((vs.reverse ++ rest).drop (ci_k (ci_Ms x))) = true ∧ (ci_sl ((vs.reverse ++ rest).take (ci_k (ci_Ms x))).reverse).length ≤ ci_n (ci_Ms x) ∧ ci_recv 11 y h ((vs.reverse ++ rest).take (ci_k (ci_Ms x))).reverse = true then
      match ci_run ci_Ms ci_cls ci_fty xs N (n1 + n2) d x 0 (ci_entry ((vs.reverse ++ rest).take (ci_k (ci_Ms x))).reverse (ci_n (ci_Ms x))) [] h nx with
      | some q => if ci_thr q.1 = true then none else ci_run ci_Ms ci_cls ci_fty xs N (n1 + n2) (d + 1) M (pc + 3) L (q.1.toList ++ (vs.reverse ++ rest).drop (ci_k (ci_Ms x))) q.2.1 q.2.2
      | none => none
      else none) = some r
    rw [e1, e2, List.reverse_reverse, if_pos ⟨e3, hfew, by rw [hq]; exact hsl, hrc⟩, hq, r1]
    show (if ci_thr rv = true then none else ci_run ci_Ms ci_cls ci_fty xs N (n1 + n2) (d + 1) M (pc + 3) L (rv.toList ++ rest) h' nx') = some r
    rw [if_neg (by rw [hth]; decide)]
    exact r2
theorem kO_recv {a y : Nat} {vs : List Value} (hk : kO h a = some y) : ci_recv 11 y h (.ref a :: vs) = true := by
  unfold kO at hk
  obtain ⟨o, h1, h2⟩ := Option.map_eq_some_iff.mp hk
  unfold ci_recv
  dsimp only
  rw [h1]
  simp [h2]
end EVL
section EVL2
variable {xs : Nat → Int32} {N d M pc : Nat} {L S : List Value} {h : ci_H} {nx : ci_N} {code : List (Option ci_I)}
theorem ev_8z (hc : ci_code (ci_Ms M) = code) {len x y : Nat} {v w : Int32} (hf : code[pc]? = some (some (.ireturn, len, v, x, y, 8))) (ht : ci_t (ci_Ms M) = some .boolean) (hw : w = 0 ∨ w = 1) : Ev xs N d M pc L [.int w] h nx (some (.int w), h, nx) := ev_8 hc hf (by rw [ht]; simp only [ci_ret]; rw [if_pos hw])
theorem dvI_st {a b w v : Int32} {x : Nat} (hg : dvI a b = some w) : ci_st1 .idiv v x L (.int b :: .int a :: S) = some (.int w :: S) := by
  unfold dvI at hg
  simp only [ci_st1, ci_iid]
  split at hg
  · cases hg
  next hb => rw [if_neg hb]; cases hg; rfl
theorem rmI_st {a b w v : Int32} {x : Nat} (hg : rmI a b = some w) : ci_st1 .irem v x L (.int b :: .int a :: S) = some (.int w :: S) := by
  unfold rmI at hg
  simp only [ci_st1, ci_iid]
  split at hg
  · cases hg
  next hb => rw [if_neg hb]; cases hg; rfl
theorem dvL_st {a b w : Int64} {v : Int32} {x : Nat} (hg : dvL a b = some w) : ci_st1 .ldiv v x L (.long b :: .long a :: S) = some (.long w :: S) := by
  unfold dvL at hg
  simp only [ci_st1, ci_lld]
  split at hg
  · cases hg
  next hb => rw [if_neg hb]; cases hg; rfl
theorem rmL_st {a b w : Int64} {v : Int32} {x : Nat} (hg : rmL a b = some w) : ci_st1 .lrem v x L (.long b :: .long a :: S) = some (.long w :: S) := by
  unfold rmL at hg
  simp only [ci_st1, ci_lld]
  split at hg
  · cases hg
  next hb => rw [if_neg hb]; cases hg; rfl
theorem sw_out {dflt lo hi : Int} {offs : Array Int} {x : Nat} {a : Int32} (h : a.toInt < lo ∨ hi < a.toInt) : ci_st3 (.tableswitch dflt lo hi offs) pc x (.int a :: S) = some (((pc : Int) + dflt).toNat, S) := by
  simp only [ci_st3]
  rw [if_pos h]
theorem sw_lk {dflt : Int} {ps : Array (Int × Int)} {x pc' : Nat} {a : Int32} (h : Op.lookupswitch.offset ps.toList dflt a.toInt = dflt) (h2 : ((pc : Int) + dflt).toNat = pc') : ci_st3 (.lookupswitch dflt ps) pc x (.int a :: S) = some (pc', S) := by
  simp only [ci_st3]
  rw [h, h2]
end EVL2
