/-! THE CLEAN INTERPRETER, part 5: the machine follows a run. -/
def ci_ok1T (Ts : List Jvm.Cond) (own : String) (i : Instr) (len : Nat) (v : Int32) (x : Nat) : Prop := match i with
  | .iconst n => len = 1 ∧ Int32.ofInt n = v
  | .bipush n => len = 2 ∧ (Int8.ofInt n).toInt32 = v
  | .sipush n => len = 3 ∧ (Int16.ofInt n).toInt32 = v
  | .ldc k => len = 2 ∧ Jvm.Cond.constant own k v ∈ Ts
  | .ldc_w k => len = 3 ∧ Jvm.Cond.constant own k v ∈ Ts
  | .ldc2_w k => len = 3 ∧ Jvm.Cond.constantLong own k (Int64.ofNat x) ∈ Ts
  | .lconst n => len = 1 ∧ Int64.ofNat n.val = Int64.ofNat x
  | .iload _ => len = 2
  | .lload _ => len = 2
  | .aload _ => len = 2
  | _ => len = 1
theorem ci_ok1T.at {Ts : List Jvm.Cond} {own : String} {args : Array Value} {s : State} {i : Instr} {len : Nat} {v : Int32} {x : Nat} (hts : ∀ w ∈ Ts, w.before args s = true) (h : ci_ok1T Ts own i len v x) : ci_ok1 own args s i len v x := by
  cases i with
  | ldc k => exact ⟨h.1, hts _ h.2⟩
  | ldc_w k => exact ⟨h.1, hts _ h.2⟩
  | ldc2_w k => exact ⟨h.1, hts _ h.2⟩
  | _ => exact h
/-- no catching call in it -/
def ci_no14 (q : ci_Y) : Bool := (ci_code q).all (fun o => match o with
  | some w => !(w.2.2.2.2.2 == 14)
  | none => true)
/-- what every call's entry must say of the method called -/
def ci_okC (Ts : List Jvm.Cond) (q : ci_Y) : Prop := ci_no14 q = true ∧ Jvm.Cond.code (ci_y q) (ci_b q) (ci_n q) (ci_t q) ∈ Ts ∧ ci_n q ≤ 21 ∧ plainName (ci_y q).cls = true ∧ ((ci_y q).cls ≠ "java/lang/invoke/MethodHandle" ∧ (ci_y q).cls ≠ "java/lang/invoke/VarHandle") ∧ Jvm.Cond.initialized (ci_y q).cls ∈ Ts
def ci_okS (Ts : List Jvm.Cond) (own : String) (i : Instr) (len : Nat) (q : ci_Y) : Prop := len = 3 ∧ ci_okC Ts q ∧ ∃ ix, i = .invokestatic ix ∧ Jvm.Cond.methodLink own ix (ci_y q) ∈ Ts ∧ Jvm.Cond.static (ci_y q) ∈ Ts ∧ (parseMethodDescriptor (ci_y q).desc).map (fun d => d.parameters.length) = some (ci_k q)
def ci_okV (Ts : List Jvm.Cond) (cl : List vw_C) (own : String) (i : Instr) (len y : Nat) (q : ci_Y) : Prop := len = 3 ∧ ci_okC Ts q ∧ (∃ r, cl[y]? = some r ∧ r.1 = (ci_y q).cls) ∧ ∃ ix n, i = .invokevirtual ix ∧ ci_k q = n + 1 ∧ Jvm.Cond.methodLink own ix (ci_y q) ∈ Ts ∧ Jvm.Cond.instanceMethod (ci_y q) ∈ Ts ∧ Jvm.Cond.selects (ci_y q).cls (ci_y q) (ci_y q) ∈ Ts ∧ (parseMethodDescriptor (ci_y q).desc).map (fun d => d.parameters.length) = some n
def ci_okI (Ts : List Jvm.Cond) (own : String) (i : Instr) (len : Nat) (q : ci_Y) : Prop := len = 3 ∧ ci_okC Ts q ∧ ci_t q = none ∧ (ci_y q).name = "<init>" ∧ ∃ ix n, i = .invokespecial ix ∧ ci_k q = n + 1 ∧ Jvm.Cond.methodLink own ix (ci_y q) ∈ Ts ∧ Jvm.Cond.instanceMethod (ci_y q) ∈ Ts ∧ (parseMethodDescriptor (ci_y q).desc).map (fun d => d.parameters.length) = some n
def ci_okN (Ts : List Jvm.Cond) (own : String) (i : Instr) (len : Nat) (q : ci_Y) : Prop := len = 3 ∧ ci_okC Ts q ∧ ci_t q = none ∧ (ci_y q).name = "<init>" ∧ ∃ ix n, i = .invokespecial ix ∧ ci_k q = n + 1 ∧ (own, ix, ci_y q) ∈ ci_nest ∧ Jvm.Cond.instanceMethod (ci_y q) ∈ Ts ∧ (parseMethodDescriptor (ci_y q).desc).map (fun d => d.parameters.length) = some n
def ci_okO (Ts : List Jvm.Cond) (own : String) (i : Instr) (len : Nat) : Prop := len = 3 ∧ ∃ ix, i = .invokespecial ix ∧ Jvm.Cond.methodLink own ix objectInit ∈ Ts ∧ Jvm.Cond.instanceMethod objectInit ∈ Ts ∧ Jvm.Cond.code objectInit ⟨#[0xb1]⟩ 1 none ∈ Ts
def ci_okX (Ts : List Jvm.Cond) (own : String) (i : Instr) (len x : Nat) : Prop := len = 3 ∧ ∃ ix, i = .invokestatic ix ∧ Jvm.Cond.initialized "java/lang/Math" ∈ Ts ∧ match x with
  | 0 => Jvm.Cond.methodLink own ix Lib.Math.max.name ∈ Ts ∧ Jvm.Cond.static Lib.Math.max.name ∈ Ts ∧ Jvm.Cond.code Lib.Math.max.name Lib.Math.max.code 2 (some .int) ∈ Ts
  | 1 => Jvm.Cond.methodLink own ix Lib.Math.min.name ∈ Ts ∧ Jvm.Cond.static Lib.Math.min.name ∈ Ts ∧ Jvm.Cond.code Lib.Math.min.name Lib.Math.min.code 2 (some .int) ∈ Ts
  | 2 => Jvm.Cond.methodLink own ix Lib.Math.abs.name ∈ Ts ∧ Jvm.Cond.static Lib.Math.abs.name ∈ Ts ∧ Jvm.Cond.code Lib.Math.abs.name Lib.Math.abs.code 1 (some .int) ∈ Ts
  | _ => True
def ci_ok (Ms : Nat → ci_Y) (Ts : List Jvm.Cond) (cl : List vw_C) (fty : Nat → Nat → FieldType) (ct th : ci_Y → Nat → ci_I → Prop) (q : ci_Y) (pc : Nat) (w : ci_I) : Prop := decode (ci_b q) pc = .ok (w.1, w.2.1) ∧ match w.2.2.2.2.2 with
  | 1 => ci_ok1T Ts (ci_y q).cls w.1 w.2.1 w.2.2.1 w.2.2.2.1
  | 2 => ci_ok2 w.1 w.2.1 w.2.2.1
  | 3 => ci_ok3 w.1 pc w.2.1 w.2.2.2.1
  | 4 => ci_ok4 Ts cl fty (ci_y q).cls w.1 w.2.1 w.2.2.2.1 w.2.2.2.2.1
  | 5 => ci_ok5 Ts cl fty (ci_y q).cls (decide ((ci_y q).name = "<init>")) w.1 w.2.1 w.2.2.2.1 w.2.2.2.2.1
  | 6 => ci_ok6 Ts cl fty (ci_y q).cls w.1 w.2.1 w.2.2.2.1
  | 7 => ci_okS Ts (ci_y q).cls w.1 w.2.1 (Ms w.2.2.2.1)
  | 8 => w.2.1 = 1
  | 9 => th q pc w
  | 10 => ci_okO Ts (ci_y q).cls w.1 w.2.1
  | 11 => ci_okV Ts cl (ci_y q).cls w.1 w.2.1 w.2.2.2.2.1 (Ms w.2.2.2.1)
  | 12 => ci_okI Ts (ci_y q).cls w.1 w.2.1 (Ms w.2.2.2.1)
  | 13 => ci_okN Ts (ci_y q).cls w.1 w.2.1 (Ms w.2.2.2.1)
  | 14 => ct q pc w
  | 15 => ci_okX Ts (ci_y q).cls w.1 w.2.1 w.2.2.2.1
  | _ => True
def ci_ws (Ts : List Jvm.Cond) (q : ci_Y) : List Jvm.Cond := Jvm.Cond.code (ci_y q) (ci_b q) (ci_n q) (ci_t q) :: Ts
def ci_rm (d mc ms : Nat) : Room := { frames := d + 1, cells := mc, slots := ms, locals := 40 * (d + 1) }
def ci_vo (ad : Nat → Option Nat) (rv w : Option Value) : Prop := match rv with
  | none => w = none
  | some v => ∃ u, w = some u ∧ ci_v ad v u
def ci_Pc (b N : Nat) (xs : Nat → Int32) (D : va_G) (cl : List vw_C) (tys : List (ClassId × FieldType)) (ws : va_W) (sz : Nat) (av : List Value) : Array Value → State → Prop := va_Pc av (fun U => U.heap.size = sz ∧ va_P D cl ws U.heap ∧ va_K D cl tys U ∧ va_D (fun _ => True) ws ∧ va_X b N xs U U.heap ∧ ci_E U)
/-- the world behind a method -/
def ci_Bh (b : Nat) (D : va_G) (cl : List vw_C) (ws : va_W) (sz : Nat) (h' : ci_H) (nx' : Nat) (ws1 : va_W) (tys1 : List (ClassId × FieldType)) (t : State) : Prop := ci_ext (ci_ad b ws) (ci_ad b ws1) ∧ ci_W b tys1 h' nx' ws1 ∧ va_P D cl ws1 t.heap ∧ va_K D cl tys1 t ∧ va_D (va_A ws sz) ws1
def ci_Qc (b : Nat) (D : va_G) (cl : List vw_C) (ws : va_W) (sz : Nat) (rv : Option Value) (h' : ci_H) (nx' : Nat) : Array Value → State → Outcome → State → Prop := fun _ st oc t => (∃ (w : Option Value) (ws1 : va_W) (tys1 : List (ClassId × FieldType)), oc = .returned w ∧ ci_vo (ci_ad b ws1) rv w ∧ ci_Bh b D cl ws sz h' nx' ws1 tys1 t) ∧ va_F (va_A ws sz) st t
def ci_retR (t : Option FieldType) (i : Instr) (rv : Option Value) (st : List Value) : Prop := match rv with
  | none => i = .return_ ∧ t = none ∧ st = []
  | some (.int v) => i = .ireturn ∧ st = [.int v] ∧ (t = some .int ∨ (t = some .boolean ∧ (v = 0 ∨ v = 1)))
  | some (.long v) => i = .lreturn ∧ st = [.long v] ∧ t = some .long
  | _ => False
theorem ci_ret_R {ad : Nat → Option Nat} {t : Option FieldType} {i : Instr} {S st : List Value} {rv : Option Value} (h : ci_ret t i S = some rv) (hS : ci_vs ad S st) : ci_retR t i rv st := by
  cases i with
  | return_ =>
    simp only [ci_ret] at h
    split at h
    · cases h; have hS : st = [] := hS; exact ⟨rfl, rfl, hS⟩
    · cases h
  | ireturn =>
    simp only [ci_ret] at h
    split at h
    · cases h
      obtain ⟨st1, rfl, h1⟩ := ci_vs_i hS
      have h1 : st1 = [] := h1
      subst h1
      exact ⟨rfl, rfl, Or.inl rfl⟩
    · split at h
      next hv =>
        cases h
        obtain ⟨st1, rfl, h1⟩ := ci_vs_i hS
        have h1 : st1 = [] := h1
        subst h1
        exact ⟨rfl, rfl, Or.inr ⟨rfl, hv⟩⟩
      · cases h
    · cases h
  | lreturn =>
    simp only [ci_ret] at h
    split at h
    · cases h
      obtain ⟨st1, rfl, h1⟩ := ci_vs_l hS
      have h1 : st1 = [] := h1
      subst h1
      exact ⟨rfl, rfl, rfl⟩
    · cases h
  | _ => cases h
theorem ci_A_self {ws : va_W} {sz : Nat} {A : Nat → Prop} (h : va_D A ws) : va_D (va_A ws sz) ws := h.self
theorem ci_sub_A {A : Nat → Prop} {ws : va_W} {H0 H : Heap} {locs : List Loc} (hD : va_D A ws) (hS : va_S A H0 H locs) (hA : ∀ q, H0.size ≤ q → A q) : ∀ q, va_A ws H.size q → A q := by
  intro q h
  rcases h with ⟨k, e, h⟩ | h
  · exact hD.2 k (q, e) h
  · exact hA q (Nat.le_trans hS.1 h)
theorem ci_good {Ts : List Jvm.Cond} (hg : ∀ w ∈ Ts, (w.onTables && w.keeps) = true ∨ ∃ ty, w = Jvm.Cond.arrayClass ty) {ws : List Jvm.Cond} (h : ∀ w ∈ ws, w ∈ Ts) : GoodIn Ts ws := fun w hw => ⟨h w hw, hg w (h w hw)⟩
theorem ci_split (S : List Value) (k : Nat) : S = ((S.take k).reverse).reverse ++ S.drop k := by rw [List.reverse_reverse, List.take_append_drop]
/-- a related stack, parted as its clean one is -/
theorem ci_vs.part {ad : Nat → Option Nat} : ∀ {S T st : List Value}, ci_vs ad (S ++ T) st → ∃ a b, st = a ++ b ∧ ci_vs ad S a ∧ ci_vs ad T b
  | [], _, st, h => ⟨[], st, rfl, rfl, h⟩
  | _ :: _, _, _, h => by
    obtain ⟨u, st', rfl, h1, h2⟩ := h
    obtain ⟨a, b, rfl, h3, h4⟩ := h2.part
    exact ⟨u :: a, b, rfl, ⟨u, a, rfl, h1, h3⟩, h4⟩
theorem ci_vs.app {ad : Nat → Option Nat} : ∀ {S T a b : List Value}, ci_vs ad S a → ci_vs ad T b → ci_vs ad (S ++ T) (a ++ b)
  | [], _, _, _, h, h2 => by have h : _ = _ := h; rw [h]; exact h2
  | _ :: _, _, _, _, h, h2 => by
    obtain ⟨u, st', rfl, h1, h3⟩ := h
    exact ⟨u, _, rfl, h1, h3.app h2⟩
theorem ci_vs.rev {ad : Nat → Option Nat} : ∀ {S a : List Value}, ci_vs ad S a → ci_vs ad S.reverse a.reverse
  | [], _, h => by have h : _ = _ := h; rw [h]; exact rfl
  | _ :: _, _, h => by
    obtain ⟨u, st', rfl, h1, h3⟩ := h
    rw [List.reverse_cons, List.reverse_cons]
    exact h3.rev.app ⟨u, [], rfl, h1, rfl⟩
theorem ci_vo.toList {ad : Nat → Option Nat} {rv w : Option Value} (h : ci_vo ad rv w) {S st : List Value} (hS : ci_vs ad S st) : ci_vs ad (rv.toList ++ S) (w.toList ++ st) := by
  cases rv with
  | none => have h : w = none := h; subst h; exact hS
  | some v => obtain ⟨u, rfl, h1⟩ := h; exact ⟨u, _, rfl, h1, hS⟩
-- the locals at a method's entry
theorem ci_sl_R {ad : Nat → Option Nat} : ∀ {vs av : List Value}, ci_vs ad vs av → (lg_sl av).length = (ci_sl vs).length ∧ ∀ (i : Nat) (v : Value), (ci_sl vs)[i]? = some v → v ≠ ci_junk → ∃ u, (lg_sl av)[i]? = some (Slot.val u) ∧ ci_v ad v u
  | [], _, h => by
    have h : _ = _ := h
    subst h
    exact ⟨rfl, fun i v hi => by simp [ci_sl] at hi⟩
  | v0 :: vs, _, h => by
    obtain ⟨u, av, rfl, h1, h2⟩ := h
    obtain ⟨g1, g2⟩ := ci_sl_R h2
    have e1 : ci_sl (v0 :: vs) = (if v0.category = 2 then [v0, ci_junk] else [v0]) ++ ci_sl vs := by simp only [ci_sl, List.flatMap_cons]
    have e2 : lg_sl (u :: av) = (if u.category = 2 then [Slot.val u, .second] else [Slot.val u]) ++ lg_sl av := by simp only [lg_sl, List.flatMap_cons]
    rw [e1, e2, h1.cat]
    by_cases hc : v0.category = 2
    · rw [if_pos hc, if_pos hc]
      refine ⟨by simp only [List.length_append, List.length_cons, List.length_nil, g1], fun i v hi hv => ?_⟩
      match i, hi with
      | 0, hi => cases hi; exact ⟨u, rfl, h1⟩
      | 1, hi => cases hi; exact absurd rfl hv
      | i + 2, hi => exact g2 i v hi hv
    · rw [if_neg hc, if_neg hc]
      refine ⟨by simp only [List.length_append, List.length_cons, List.length_nil, g1], fun i v hi hv => ?_⟩
      match i, hi with
      | 0, hi => cases hi; exact ⟨u, rfl, h1⟩
      | i + 1, hi => exact g2 i v hi hv
theorem ci_entry_R {ad : Nat → Option Nat} {vs av : List Value} {n : Nat} (h : ci_vs ad vs av) (hn : (ci_sl vs).length ≤ n) : ci_L ad (ci_entry vs n) ((lg_sl av ++ List.replicate (n - (lg_sl av).length) Slot.unset).toArray) n := by
  obtain ⟨g1, g2⟩ := ci_sl_R h
  have hl := lv_entry av (n := n) (by rw [g1]; exact hn)
  refine ⟨hl.1, hl.2.1, by simp only [ci_entry, List.length_append, List.length_replicate]; omega, fun i v hi hv => ?_⟩
  unfold ci_entry at hi
  by_cases hlt : i < (ci_sl vs).length
  · rw [List.getElem?_append_left hlt] at hi
    obtain ⟨u, h3, h4⟩ := g2 i v hi hv
    refine ⟨u, ?_, h4⟩
    rw [List.getElem?_toArray, List.getElem?_append_left (by rw [g1]; exact hlt)]
    exact h3
  · rw [List.getElem?_append_right (by omega)] at hi
    have := List.eq_of_mem_replicate (List.mem_of_getElem? hi)
    exact absurd this hv
section CIX
variable {p : Program} {l : Launch} {e : Env} {R : Room} {s : State} {m : MethodId} {args : Array Value} {below : List Frame} {meth : Method} {c : Code} {H : Heap} {locs : List Loc} {cells slots : Nat} {Q : State → Prop}
variable {cc : ByteArray} {pc : Nat} {ls : Array Slot} {st : List Value} {S : List Value} {ad : Nat → Option Nat} {Ts : List Jvm.Cond}
theorem ci_simX (hx : p.tables.exec = Jvm.exec) (hb : c.code = cc) (hml : c.maxLocals = ls.size) {own : String} (hown : s.vm.findClass own = some m.cls) (hts : ∀ w ∈ Ts, w.before args s = true) (hfr : 1 ≤ R.frames) (hlo : 40 ≤ R.locals) (hc : cells ≤ R.cells) (hs : slots ≤ R.slots) {i : Instr} {len x : Nat} {S' : List Value} (hd : decode cc pc = .ok (i, len)) (hok : ci_okX Ts own i len x) (hst : ci_math x S = some S') (hS : ci_vs ad S st)
    (kk : ∀ st' : List Value, ci_vs ad S' st' → W p l e R s m args below meth c H locs cells slots Q (F0 m (pc + len) ls st')) : W p l e R s m args below meth c H locs cells slots Q (F0 m pc ls st) := by
  obtain ⟨rfl, ix, rfl, h0, hk⟩ := hok
  have few : ∀ {r st' : List Value}, ci_few r = true → ci_vs ad r st' → (st'.map fun v => v.category).sum + 13 ≤ R.locals := fun h1 h2 => by
    have h3 : (_ : List Nat).sum ≤ 8 := of_decide_eq_true h1
    rw [← h2.cat] at h3
    omega
  unfold ci_math at hst
  split at hst
  · split at hst
    · split at hst
      next hf =>
        cases hst
        obtain ⟨st1, rfl, h1⟩ := ci_vs_i hS
        obtain ⟨st2, rfl, h2⟩ := ci_vs_i h1
        exact va_mmax hx hb hml hown (hts _ hk.1) (hts _ hk.2.1) (hts _ h0) (hts _ hk.2.2) hfr (few hf h2) hc hs hd (kk _ (ci_vs_pi h2))
      · cases hst
    · cases hst
  · split at hst
    · split at hst
      next hf =>
        cases hst
        obtain ⟨st1, rfl, h1⟩ := ci_vs_i hS
        obtain ⟨st2, rfl, h2⟩ := ci_vs_i h1
        exact va_mmin hx hb hml hown (hts _ hk.1) (hts _ hk.2.1) (hts _ h0) (hts _ hk.2.2) hfr (few hf h2) hc hs hd (kk _ (ci_vs_pi h2))
      · cases hst
    · cases hst
  · split at hst
    · split at hst
      next hf =>
        cases hst
        obtain ⟨st1, rfl, h1⟩ := ci_vs_i hS
        exact va_mabs hx hb hml hown (hts _ hk.1) (hts _ hk.2.1) (hts _ h0) (hts _ hk.2.2) hfr (few hf h1) hc hs hd (kk _ (ci_vs_pi h1))
      · cases hst
    · cases hst
  · cases hst
end CIX
section CIS
variable {p : Program} {l : Launch} {e : Env} {R : Room} {s : State} {m : MethodId} {args : Array Value} {below : List Frame} {meth : Method} {c : Code} {H : Heap} {locs : List Loc} {cells slots : Nat} {Q : State → Prop}
variable {cc : ByteArray} {pc : Nat} {ls : Array Slot} {st0 rest : List Value} {D : va_G} {cl : List vw_C} {A : Nat → Prop} {tys : List (ClassId × FieldType)} {ws : va_W} {H0 : Heap} {b N : Nat} {xs : Nat → Int32} {h : ci_H} {nx : Nat}
/-- behind a call -/
theorem ci_after {mc ms : Nat} {a : Array Value} {rv : Option Value} {h' : ci_H} {nx' : Nat} (hr : va_Run p l e R s m args below meth c H locs cells slots mc ms (F0 m pc ls st0) rest (ci_Qc b D cl ws H.size rv h' nx' a) (va_A ws H.size)) (hR : ci_R b D cl s A H0 tys h nx ws H locs) (hA : ∀ q, H0.size ≤ q → A q)
    (kk : ∀ (H1 : Heap) (locs1 : List Loc) (ws1 : va_W) (tys1 : List (ClassId × FieldType)) (w : Option Value), ci_R b D cl s A H0 tys1 h' nx' ws1 H1 locs1 → ci_ext (ci_ad b ws) (ci_ad b ws1) → ci_vo (ci_ad b ws1) rv w → W p l e R s m args below meth c H1 locs1 (cells + mc) (slots + ms) Q (F0 m (pc + 3) ls (w.toList ++ rest))) : W p l e R s m args below meth c H locs cells slots Q (F0 m pc ls st0) := by
  obtain ⟨hW, hK, hP, hD, hS⟩ := hR
  have hsub := ci_sub_A hD hS hA
  intro T hT X
  obtain ⟨v, st₀, t, T', L, h0, X', hL, e1, e2, ⟨⟨w, ws1, tys1, hv, hvo, hx, g1, g2, g3, g4⟩, hz, hk⟩, st⟩ := hr T hT X
  cases hv
  rw [h0] at hz hk
  have hvm : s.vm.Alike t.vm := by rw [← e2]; exact X'.warmed.alike
  obtain ⟨t2, a1, b1⟩ := kk T'.heap (locs ++ L) ws1 tys1 v ⟨g1, va_K.moved hvm.symm g3, by rw [e1]; exact g2, g4.weaken (fun _ q _ hq => hsub q.1 hq),
    Nat.le_trans hS.1 (by rw [e1]; exact hz), fun q h1 h2 => by rw [e1, hk q (Nat.lt_of_lt_of_le h1 hS.1) (fun z => h2 (hsub q z))]; exact hS.2.1 q h1 h2, fun q hq => by
      rcases List.mem_append.mp hq with h | h
      · exact hS.2.2 q h
      · exact hsub _ (hL q h)⟩ hx hvo T' rfl X'
  exact ⟨t2, st t2 a1, b1⟩
theorem ci_blind {tys : List (ClassId × FieldType)} {sz : Nat} {av : List Value} : FrameBlind (ci_Pc b N xs D cl tys ws sz av) := fun a U g mk q => by
  obtain ⟨q0, q1, q2, q3, q4, q5, q6⟩ := q
  exact ⟨q0, q1, q2, va_K.moved (u := U) (U := U.calling g mk a) (Vm.Alike.refl U.vm) q3, q4, va_X.moved (u := U) (U := U.calling g mk a) (Vm.Alike.refl U.vm) q5, ci_E.same (u := U) (U := U.calling g mk a) rfl q6⟩
theorem ci_pre {av : List Value} (hR : ci_R b D cl s A H0 tys h nx ws H locs) (hX : va_X b N xs s H0) (hbl : b < H0.size) (hbA : ¬ A b) (hEs : ci_E s) : ∀ U : State, U.heap = H → s.WarmedH U.vm → ci_Pc b N xs D cl tys ws H.size av av.toArray U := fun U hU hW => by
  obtain ⟨g1, g2, g3, g4, g5⟩ := hR
  exact ⟨rfl, by rw [hU], by rw [hU]; exact g3, va_K.moved hW.alike g2, g4.weaken (fun _ _ _ _ => trivial), by rw [hU]; exact (hX.kept (g5.2.1 b hbl hbA)).moved hW.alike, hEs.warm hW⟩
end CIS
