/-! THE CLEAN INTERPRETER, part 2: the cells, and groups 4 to 6 (reads, writes, makes). -/
def ci_ad (b : Nat) (ws : va_W) (k : Nat) : Option Nat := if k = ci_scr then some b else (ws[k]?).map (fun q => q.1)
def ci_rf (ad : Nat → Option Nat) (r r' : Option Nat) : Prop := match r with
  | none => r' = none
  | some k => ∃ a, ad k = some a ∧ r' = some a
abbrev ci_X : Type := (Nat → Int32) ⊕ (Nat → Int64) ⊕ (Nat → UInt32) ⊕ (Nat → UInt64) ⊕ (Nat → Option Nat)
def ci_ar (ad : Nat → Option Nat) (x y : ci_X) : Prop := match x with
  | .inl f => y = .inl f
  | .inr (.inl f) => y = .inr (.inl f)
  | .inr (.inr (.inl _)) => False
  | .inr (.inr (.inr (.inl _))) => False
  | .inr (.inr (.inr (.inr f))) => ∃ f', y = .inr (.inr (.inr (.inr f'))) ∧ ∀ i, ci_rf ad (f i) (f' i)
def ci_e (ad : Nat → Option Nat) (tys : List (ClassId × FieldType)) (c : ci_C) (e : va_E) : Prop := match c with
  | .inl a => ∃ (cA : ClassId) (y : ci_X), e = .inl (cA, a.2.1, y) ∧ (∃ t : Nat, tys[t]? = some (cA, a.1)) ∧ ci_ar ad a.2.2 y
  | .inr o => ∃ fs', e = .inr (o.1, fs') ∧ ci_vs ad o.2 fs'
def ci_W (b : Nat) (tys : List (ClassId × FieldType)) (h : ci_H) (nx : Nat) (ws : va_W) : Prop := ws.length = nx ∧ ∀ (k a : Nat) (e : va_E), ws[k]? = some (a, e) → ci_e (ci_ad b ws) tys (h k) e
theorem ci_rf.ext {ad ad' : Nat → Option Nat} (hx : ci_ext ad ad') {r r' : Option Nat} (h : ci_rf ad r r') : ci_rf ad' r r' := by
  cases r with
  | none => exact h
  | some k => obtain ⟨a, h1, h2⟩ := h; exact ⟨a, hx _ _ h1, h2⟩
theorem ci_ar.ext {ad ad' : Nat → Option Nat} (hx : ci_ext ad ad') {x y : ci_X} (h : ci_ar ad x y) : ci_ar ad' x y := by
  match x, h with
  | .inl f, h => exact h
  | .inr (.inl f), h => exact h
  | .inr (.inr (.inr (.inr f))), h => obtain ⟨f', h1, h2⟩ := h; exact ⟨f', h1, fun i => (h2 i).ext hx⟩
theorem ci_e.ext {ad ad' : Nat → Option Nat} (hx : ci_ext ad ad') {tys tys' : List (ClassId × FieldType)} (ht : ∀ (t : Nat) (q : ClassId × FieldType), tys[t]? = some q → ∃ t' : Nat, tys'[t']? = some q) {c : ci_C} {e : va_E} (h : ci_e ad tys c e) : ci_e ad' tys' c e := by
  cases c with
  | inl a => obtain ⟨cA, y, h1, ⟨t, h2⟩, h3⟩ := h; exact ⟨cA, y, h1, ht t _ h2, h3.ext hx⟩
  | inr o => obtain ⟨fs', h1, h2⟩ := h; exact ⟨fs', h1, h2.ext hx⟩
theorem ci_ad_set {b : Nat} {ws : va_W} {q0 a : Nat} {e0 e : va_E} (h : ws[q0]? = some (a, e0)) : ci_ad b (ws.set q0 (a, e)) = ci_ad b ws := by
  funext k
  unfold ci_ad
  split
  · rfl
  · by_cases hk : k = q0
    · subst hk
      rw [List.getElem?_set_self (List.getElem?_eq_some_iff.mp h).1, h]
      rfl
    · rw [List.getElem?_set_ne (Ne.symm hk)]
theorem ci_ad_app {b : Nat} {ws w2 : va_W} : ci_ext (ci_ad b ws) (ci_ad b (ws ++ w2)) := by
  intro k a h
  unfold ci_ad at h ⊢
  split at h
  next hk => rw [if_pos hk]; exact h
  next hk =>
    rw [if_neg hk]
    obtain ⟨q, h1, h2⟩ := Option.map_eq_some_iff.mp h
    rw [List.getElem?_append_left (List.getElem?_eq_some_iff.mp h1).1, h1]
    exact congrArg some h2
theorem ci_ad_new {b : Nat} {ws : va_W} {q : Nat} {e : va_E} (h : ¬ ws.length = ci_scr) : ci_ad b (ws ++ [(q, e)]) ws.length = some q := by
  unfold ci_ad
  rw [if_neg h, List.getElem?_append_right (Nat.le_refl _), Nat.sub_self]
  rfl
/-- a number that isn't the script's names a cell of the world -/
theorem ci_at {b : Nat} {tys : List (ClassId × FieldType)} {h : ci_H} {nx : Nat} {ws : va_W} {k a : Nat} (hW : ci_W b tys h nx ws) (hk : ¬ k = ci_scr) (ha : ci_ad b ws k = some a) : ∃ e, ws[k]? = some (a, e) ∧ ci_e (ci_ad b ws) tys (h k) e := by
  unfold ci_ad at ha
  rw [if_neg hk] at ha
  obtain ⟨q, h1, h2⟩ := Option.map_eq_some_iff.mp ha
  obtain ⟨a', e⟩ := q
  cases h2
  exact ⟨e, h1, hW.2 k _ e h1⟩
theorem ci_W.set {b : Nat} {tys : List (ClassId × FieldType)} {h : ci_H} {nx : Nat} {ws : va_W} {q0 a : Nat} {e0 e : va_E} {c : ci_C} (hW : ci_W b tys h nx ws) (h0 : ws[q0]? = some (a, e0)) (he : ci_e (ci_ad b ws) tys c e) : ci_W b tys (va_up h q0 c) nx (ws.set q0 (a, e)) := by
  refine ⟨by rw [List.length_set]; exact hW.1, fun k a' e' hk => ?_⟩
  rw [ci_ad_set h0]
  by_cases hq : k = q0
  · subst hq
    rw [List.getElem?_set_self (List.getElem?_eq_some_iff.mp h0).1] at hk
    cases hk
    simp only [va_up, if_true]
    exact he
  · rw [List.getElem?_set_ne (Ne.symm hq)] at hk
    simp only [va_up, if_neg hq]
    exact hW.2 k a' e' hk
theorem ci_W.push {b : Nat} {tys tys' : List (ClassId × FieldType)} {h : ci_H} {nx : Nat} {ws : va_W} {q : Nat} {e : va_E} {c : ci_C} (hW : ci_W b tys h nx ws) (ht : ∀ (t : Nat) (q : ClassId × FieldType), tys[t]? = some q → ∃ t' : Nat, tys'[t']? = some q) (he : ci_e (ci_ad b (ws ++ [(q, e)])) tys' c e) : ci_W b tys' (va_up h nx c) (nx + 1) (ws ++ [(q, e)]) := by
  refine ⟨by rw [List.length_append, hW.1]; rfl, fun k a' e' hk => ?_⟩
  by_cases hl : k < ws.length
  · rw [List.getElem?_append_left hl] at hk
    have hn : ¬ k = nx := by have := hW.1; omega
    simp only [va_up, if_neg hn]
    exact (hW.2 k a' e' hk).ext ci_ad_app ht
  · rw [List.getElem?_append_right (by omega)] at hk
    have hz : k - ws.length < 1 := (List.getElem?_eq_some_iff.mp hk).1
    rw [show k - ws.length = 0 by omega] at hk
    cases hk
    have hn : k = nx := by have := hW.1; omega
    subst hn
    simp only [va_up, if_true]
    exact he
theorem ci_tys_app {tys t2 : List (ClassId × FieldType)} : ∀ (t : Nat) (q : ClassId × FieldType), tys[t]? = some q → ∃ t' : Nat, (tys ++ t2)[t']? = some q := fun t q h => ⟨t, by rw [List.getElem?_append_left (List.getElem?_eq_some_iff.mp h).1]; exact h⟩
-- a field's value: it fits, so it stays as it is
theorem ci_nar {ty : FieldType} {v : Value} (h : fits ty v = true) (hs : ty ≠ .byte ∧ ty ≠ .char ∧ ty ≠ .short) : narrow ty v = v := by
  cases ty with
  | boolean =>
    cases v with
    | int x =>
      have h : (x == 0 || x == 1) = true := h
      simp only [Bool.or_eq_true, beq_iff_eq] at h
      rcases h with rfl | rfl <;> rfl
    | _ => cases h
  | byte => exact absurd rfl hs.1
  | char => exact absurd rfl hs.2.1
  | short => exact absurd rfl hs.2.2
  | _ => cases v <;> rfl
theorem ci_v.fits {ad : Nat → Option Nat} {v u : Value} (hv : ci_v ad v u) {ty : FieldType} (h : fits ty v = true) : fits ty u = true := by
  cases v with
  | ref k =>
    obtain ⟨a, -, rfl⟩ := hv
    cases ty <;> first | exact h | (cases h)
  | _ => have hv : u = _ := hv; rw [hv]; exact h
theorem ci_vs.len {ad : Nat → Option Nat} : ∀ {S st : List Value}, ci_vs ad S st → st.length = S.length
  | [], _, h => by have h : _ = _ := h; rw [h]
  | _ :: _, _, h => by obtain ⟨u, st', rfl, -, h2⟩ := h; simp only [List.length_cons, h2.len]
theorem ci_vs.get {ad : Nat → Option Nat} : ∀ {S st : List Value}, ci_vs ad S st → ∀ {k : Nat} {v : Value}, S[k]? = some v → ∃ u, st[k]? = some u ∧ ci_v ad v u
  | [], _, _, k, v, h => by simp at h
  | _ :: _, _, hv, 0, v, h => by obtain ⟨u, st', rfl, h1, h2⟩ := hv; cases h; exact ⟨u, rfl, h1⟩
  | _ :: _, _, hv, k + 1, v, h => by obtain ⟨u, st', rfl, h1, h2⟩ := hv; rw [List.getElem?_cons_succ] at h ⊢; exact h2.get h
theorem ci_vs.set {ad : Nat → Option Nat} {v u : Value} (hv : ci_v ad v u) : ∀ {S st : List Value} (k : Nat), ci_vs ad S st → ci_vs ad (S.set k v) (st.set k u)
  | [], _, k, h => by have h : _ = _ := h; rw [h]; exact rfl
  | _ :: _, _, 0, h => by obtain ⟨w, st', rfl, h1, h2⟩ := h; exact ⟨_, _, rfl, hv, h2⟩
  | _ :: _, _, k + 1, h => by obtain ⟨w, st', rfl, h1, h2⟩ := h; exact ⟨_, _, rfl, h1, h2.set hv k⟩
-- group 4: reads
def ci_in (i : Int32) (n : Nat) : Bool := decide (¬ (i < 0 ∨ n ≤ i.toNatClampNeg))
theorem ci_in_vp {i : Int32} {n : Nat} (h : ci_in i n = true) : vp_in i n := by unfold ci_in at h; unfold vp_in; simpa using h
def ci_obj (h : ci_H) (k : Nat) : Option (Nat × List Value) := if k = ci_scr then none else match h k with
  | .inr o => some o
  | .inl _ => none
def ci_arr (h : ci_H) (k : Nat) : Option (FieldType × vp_A) := if k = ci_scr then none else match h k with
  | .inl a => some a
  | .inr _ => none
theorem ci_obj_inv {h : ci_H} {k : Nat} {o : Nat × List Value} (e : ci_obj h k = some o) : ¬ k = ci_scr ∧ h k = .inr o := by
  unfold ci_obj at e
  split at e
  · cases e
  · split at e
    next o' e2 => cases e; exact ⟨by assumption, e2⟩
    · cases e
theorem ci_arr_inv {h : ci_H} {k : Nat} {o : FieldType × vp_A} (e : ci_arr h k = some o) : ¬ k = ci_scr ∧ h k = .inl o := by
  unfold ci_arr at e
  split at e
  · cases e
  · split at e
    next o' e2 => cases e; exact ⟨by assumption, e2⟩
    · cases e
def ci_gf (x y : Nat) (h : ci_H) (S : List Value) : Option (List Value) := match S with
  | .ref k :: r => match ci_obj h k with
    | some o => if o.1 = x then match o.2[y]? with
      | some v => some (v :: r)
      | none => none
      else none
    | none => none
  | _ => none
def ci_ial (h : ci_H) (xs : Nat → Int32) (N : Nat) (S : List Value) : Option (List Value) := match S with
  | .int j :: .ref k :: r => if k = ci_scr then (if ci_in j N = true then some (.int (xs j.toNatClampNeg) :: r) else none) else match ci_arr h k with
    | some (.int, n, .inl f) => if ci_in j n = true then some (.int (f j.toNatClampNeg) :: r) else none
    | _ => none
  | _ => none
def ci_bal (h : ci_H) (S : List Value) : Option (List Value) := match S with
  | .int j :: .ref k :: r => match ci_arr h k with
    | some (.byte, n, .inl f) => if ci_in j n = true then some (.int (f j.toNatClampNeg) :: r) else none
    | some (.boolean, n, .inl f) => if ci_in j n = true then some (.int (f j.toNatClampNeg) :: r) else none
    | _ => none
  | _ => none
def ci_lal (h : ci_H) (S : List Value) : Option (List Value) := match S with
  | .int j :: .ref k :: r => match ci_arr h k with
    | some (.long, n, .inr (.inl f)) => if ci_in j n = true then some (.long (f j.toNatClampNeg) :: r) else none
    | _ => none
  | _ => none
def ci_aal (h : ci_H) (S : List Value) : Option (List Value) := match S with
  | .int j :: .ref k :: r => match ci_arr h k with
    | some (ty, n, .inr (.inr (.inr (.inr f)))) => if ty.isReference = true then if ci_in j n = true then match f j.toNatClampNeg with
      | some q => some (.ref q :: r)
      | none => none
      else none else none
    | _ => none
  | _ => none
def ci_len (N : Nat) (S : List Value) : Option (List Value) := match S with
  | .ref k :: r => if k = ci_scr then some (.int (Int32.ofNat N) :: r) else none
  | _ => none
def ci_st4 (i : Instr) (x y : Nat) (h : ci_H) (xs : Nat → Int32) (N : Nat) (S : List Value) : Option (List Value) := match i with
  | .getfield _ => ci_gf x y h S
  | .iaload => ci_ial h xs N S
  | .baload => ci_bal h S
  | .laload => ci_lal h S
  | .aaload => ci_aal h S
  | .arraylength => ci_len N S
  | _ => none
/-- a class of the world, as the tables' words have it -/
def ci_cl (Ts : List Jvm.Cond) (cl : List vw_C) (fty : Nat → Nat → FieldType) (x : Nat) (C : String) (T : u_T) (N : Nat) : Prop := cl[x]? = some (C, T, N) ∧ (∀ w ∈ u_ws C T N, w ∈ Ts) ∧ (∀ k, k < N → parseFieldDescriptor (T k).2.2.1 = some (fty x k)) ∧ (∀ a, a < N → ∀ b, b < N → a ≠ b → (T a).2.1 ≠ (T b).2.1) ∧ (∀ k, k < N → (T k).1 = C) ∧ (∀ k, k < N → fty x k ≠ .byte ∧ fty x k ≠ .char ∧ fty x k ≠ .short)
def ci_ok4 (Ts : List Jvm.Cond) (cl : List vw_C) (fty : Nat → Nat → FieldType) (own : String) (i : Instr) (len x y : Nat) : Prop := match i with
  | .getfield ix => len = 3 ∧ ∃ C T N, ci_cl Ts cl fty x C T N ∧ y < N ∧ Jvm.Cond.fieldLink own ix C (T y).2.1 (T y).2.2.1 ∈ Ts
  | _ => len = 1
section CI4
variable {p : Program} {l : Launch} {e : Env} {R : Room} {s : State} {m : MethodId} {args : Array Value} {below : List Frame} {meth : Method} {c : Code} {H : Heap} {locs : List Loc} {cells slots : Nat} {Q : State → Prop}
variable {cc : ByteArray} {pc : Nat} {ls : Array Slot} {st : List Value} {S : List Value} {D : va_G} {cl : List vw_C} {A : Nat → Prop} {tys : List (ClassId × FieldType)} {ws : va_W} {H0 : Heap} {b N : Nat} {xs : Nat → Int32} {h : ci_H} {nx : Nat} {Ts : List Jvm.Cond} {fty : Nat → Nat → FieldType}
set_option maxHeartbeats 4000000 in
theorem ci_sim4 (hx : p.tables.exec = Jvm.exec) (hb : c.code = cc) {own : String} (hown : s.vm.findClass own = some m.cls) (hts : ∀ w ∈ Ts, w.before args s = true) {i : Instr} {len x y : Nat} {S' : List Value} (hd : decode cc pc = .ok (i, len)) (hok : ci_ok4 Ts cl fty own i len x y) (hst : ci_st4 i x y h xs N S = some S')
    (hW : ci_W b tys h nx ws) (hK : va_K D cl tys s) (hP : va_P D cl ws H) (hSx : va_S A H0 H locs) (hX : va_X b N xs s H0) (hbl : b < H0.size) (hbA : ¬ A b) (hS : ci_vs (ci_ad b ws) S st)
    (kk : ∀ st' : List Value, ci_vs (ci_ad b ws) S' st' → W p l e R s m args below meth c H locs cells slots Q (F0 m (pc + len) ls st')) : W p l e R s m args below meth c H locs cells slots Q (F0 m pc ls st) := by
  cases i with
  | getfield ix =>
    obtain ⟨rfl, C, T, n, hcl, hy, hlink⟩ := hok
    simp only [ci_st4, ci_gf] at hst
    split at hst
    next k r =>
      split at hst
      next o ho =>
        split at hst
        next hox =>
          split at hst
          next v hv =>
            cases hst
            obtain ⟨hk, hhk⟩ := ci_obj_inv ho
            obtain ⟨a, st1, had, rfl, h1⟩ := ci_vs_r hS
            obtain ⟨e0, hws, he⟩ := ci_at hW hk had
            rw [hhk] at he
            obtain ⟨fs', rfl, hfs⟩ := he
            obtain ⟨u, hu, hvu⟩ := hfs.get hv
            subst hox
            have hsm : ∀ q, s.fieldFound? (T y).1 (T y).2.1 (T y).2.2.1 = some q → s.fieldFound? C (T y).2.1 (T y).2.2.1 = some q := by rw [hcl.2.2.2.2.1 y hy]; exact fun _ q => q
            exact va_get hx hb hts hcl.2.1 hown hK hP k hws hcl.1 y hy (hts _ hlink) hsm hu hd (kk _ (ci_vs_p hvu h1))
          · cases hst
        · cases hst
      · cases hst
    · cases hst
  | iaload =>
    have hok : len = _ := hok
    subst hok
    simp only [ci_st4, ci_ial] at hst
    split at hst
    next j k r =>
      obtain ⟨st1, rfl, h1⟩ := ci_vs_i hS
      obtain ⟨a, st2, had, rfl, h2⟩ := ci_vs_r h1
      split at hst
      next hk =>
        split at hst
        next hin =>
          cases hst
          have hab : a = b := by unfold ci_ad at had; rw [if_pos hk] at had; exact (Option.some.inj had).symm
          subst hab
          exact va_sld hx hb hX hbl hbA hSx (ci_in_vp hin) hd (kk _ (ci_vs_pi h2))
        · cases hst
      · split at hst
        next n f ho =>
          split at hst
          next hin =>
            cases hst
            obtain ⟨hk, hhk⟩ := ci_arr_inv ho
            obtain ⟨e0, hws, he⟩ := ci_at hW hk had
            rw [hhk] at he
            obtain ⟨cA, y1, rfl, ⟨t, ht⟩, hy⟩ := he
            have hy : y1 = .inl f := hy
            subst hy
            exact va_iald hx hb hK hP k t hws ht (ci_in_vp hin) hd (kk _ (ci_vs_pi h2))
          · cases hst
        · cases hst
    · cases hst
  | baload =>
    have hok : len = _ := hok
    subst hok
    simp only [ci_st4, ci_bal] at hst
    split at hst
    next j k r =>
      obtain ⟨st1, rfl, h1⟩ := ci_vs_i hS
      obtain ⟨a, st2, had, rfl, h2⟩ := ci_vs_r h1
      split at hst
      next n f ho =>
        split at hst
        next hin =>
          cases hst
          obtain ⟨hk, hhk⟩ := ci_arr_inv ho
          obtain ⟨e0, hws, he⟩ := ci_at hW hk had
          rw [hhk] at he
          obtain ⟨cA, y1, rfl, ⟨t, ht⟩, hy⟩ := he
          have hy : y1 = .inl f := hy
          subst hy
          exact va_bald hx hb hK hP k t hws ht (ci_in_vp hin) hd (kk _ (ci_vs_pi h2))
        · cases hst
      next n f ho =>
        split at hst
        next hin =>
          cases hst
          obtain ⟨hk, hhk⟩ := ci_arr_inv ho
          obtain ⟨e0, hws, he⟩ := ci_at hW hk had
          rw [hhk] at he
          obtain ⟨cA, y1, rfl, ⟨t, ht⟩, hy⟩ := he
          have hy : y1 = .inl f := hy
          subst hy
          exact va_zald hx hb hK hP k t hws ht (ci_in_vp hin) hd (kk _ (ci_vs_pi h2))
        · cases hst
      · cases hst
    · cases hst
  | laload =>
    have hok : len = _ := hok
    subst hok
    simp only [ci_st4, ci_lal] at hst
    split at hst
    next j k r =>
      obtain ⟨st1, rfl, h1⟩ := ci_vs_i hS
      obtain ⟨a, st2, had, rfl, h2⟩ := ci_vs_r h1
      split at hst
      next n f ho =>
        split at hst
        next hin =>
          cases hst
          obtain ⟨hk, hhk⟩ := ci_arr_inv ho
          obtain ⟨e0, hws, he⟩ := ci_at hW hk had
          rw [hhk] at he
          obtain ⟨cA, y1, rfl, ⟨t, ht⟩, hy⟩ := he
          have hy : y1 = .inr (.inl f) := hy
          subst hy
          exact va_lald hx hb hK hP k t hws ht (ci_in_vp hin) hd (kk _ (ci_vs_pl h2))
        · cases hst
      · cases hst
    · cases hst
  | aaload =>
    have hok : len = _ := hok
    subst hok
    simp only [ci_st4, ci_aal] at hst
    split at hst
    next j k r =>
      obtain ⟨st1, rfl, h1⟩ := ci_vs_i hS
      obtain ⟨a, st2, had, rfl, h2⟩ := ci_vs_r h1
      split at hst
      next ty n f ho =>
        split at hst
        next href =>
          split at hst
          next hin =>
            split at hst
            next q hq =>
              cases hst
              obtain ⟨hk, hhk⟩ := ci_arr_inv ho
              obtain ⟨e0, hws, he⟩ := ci_at hW hk had
              rw [hhk] at he
              obtain ⟨cA, y1, rfl, ⟨t, ht⟩, f', rfl, hf⟩ := he
              have hfq := hf j.toNatClampNeg
              rw [hq] at hfq
              obtain ⟨aq, haq, hfa⟩ := hfq
              have hin' := ci_in_vp hin
              have hlt : j.toNatClampNeg < n := Nat.not_le.mp fun q => hin' (Or.inr q)
              refine W.aald (v := .ref aq) (ty := ty) hx hb (hP k _ hws) ((hK.2 t _ ht).1 n (fun i => va_rf (f' i))) href (fun q => by cases q) (by show ¬ (j < 0 ∨ (arrV _ _ _).slots.size ≤ _); rw [arrV_size]; exact hin') (by show (arrV _ _ _).slots[_]? = _; rw [arrV_read _ _ hlt, hfa]; rfl) rfl rfl hd (kk _ (ci_vs_p ⟨aq, haq, rfl⟩ h2))
            · cases hst
          · cases hst
        · cases hst
      · cases hst
    · cases hst
  | arraylength =>
    have hok : len = _ := hok
    subst hok
    simp only [ci_st4, ci_len] at hst
    split at hst
    next k r =>
      split at hst
      next hk =>
        cases hst
        obtain ⟨a, st2, had, rfl, h2⟩ := ci_vs_r hS
        have hab : a = b := by unfold ci_ad at had; rw [if_pos hk] at had; exact (Option.some.inj had).symm
        subst hab
        exact va_slen hx hb hX hbl hbA hSx hd (kk _ (ci_vs_pi h2))
      · cases hst
    · cases hst
  | _ => cases hst
end CI4
