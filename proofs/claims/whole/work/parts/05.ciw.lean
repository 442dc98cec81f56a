/-! THE CLEAN INTERPRETER, part 3: groups 5 (writes) and 6 (makes). -/
/-- the number of the next cell; how many cells and fields were made -/
abbrev ci_N : Type := Nat × Nat × Nat
/-- the world as the machine has it, and as the interpreter has it -/
def ci_R (b : Nat) (D : va_G) (cl : List vw_C) (s : State) (A : Nat → Prop) (H0 : Heap) (tys : List (ClassId × FieldType)) (h : ci_H) (nx : Nat) (ws : va_W) (H : Heap) (locs : List Loc) : Prop := ci_W b tys h nx ws ∧ va_K D cl tys s ∧ va_P D cl ws H ∧ va_D A ws ∧ va_S A H0 H locs
def ci_pf (fty : Nat → Nat → FieldType) (x y : Nat) (h : ci_H) (S : List Value) : Option (List Value × ci_H) := match S with
  | v :: .ref k :: r => match ci_obj h k with
    | some o => if o.1 = x then if fits (fty x y) v = true then if y < o.2.length then some (r, va_up h k (.inr (o.1, o.2.set y v))) else none else none else none
    | none => none
  | _ => none
def ci_ias (h : ci_H) (S : List Value) : Option (List Value × ci_H) := match S with
  | .int x :: .int j :: .ref k :: r => match ci_arr h k with
    | some (.int, n, .inl f) => if ci_in j n = true then some (r, va_up h k (.inl (.int, n, .inl (upd f j.toNatClampNeg x)))) else none
    | _ => none
  | _ => none
def ci_bas (h : ci_H) (S : List Value) : Option (List Value × ci_H) := match S with
  | .int x :: .int j :: .ref k :: r => match ci_arr h k with
    | some (.byte, n, .inl f) => if ci_in j n = true then some (r, va_up h k (.inl (.byte, n, .inl (upd f j.toNatClampNeg (vp_nar .byte x))))) else none
    | some (.boolean, n, .inl f) => if ci_in j n = true then some (r, va_up h k (.inl (.boolean, n, .inl (upd f j.toNatClampNeg (vp_nar .boolean x))))) else none
    | _ => none
  | _ => none
def ci_las (h : ci_H) (S : List Value) : Option (List Value × ci_H) := match S with
  | .long x :: .int j :: .ref k :: r => match ci_arr h k with
    | some (.long, n, .inr (.inl f)) => if ci_in j n = true then some (r, va_up h k (.inl (.long, n, .inr (.inl (vp_updL f j.toNatClampNeg x))))) else none
    | _ => none
  | _ => none
def ci_aas (cl : List vw_C) (h : ci_H) (S : List Value) : Option (List Value × ci_H) := match S with
  | .ref v :: .int j :: .ref k :: r => match ci_obj h v with
    | some o => match cl[o.1]? with
      | some q => match ci_arr h k with
        | some (ty, n, .inr (.inr (.inr (.inr f)))) => if ty = .object q.1 then if ci_in j n = true then some (r, va_up h k (.inl (ty, n, .inr (.inr (.inr (.inr (va_up f j.toNatClampNeg (some v)))))))) else none else none
        | _ => none
      | none => none
    | none => none
  | _ => none
/-- System.arraycopy of int arrays -/
def ci_cpy (h : ci_H) (S : List Value) : Option (List Value × ci_H) := match S with
  | .int n :: .int dp :: .ref k1 :: .int sp :: .ref k0 :: r => match ci_arr h k0 with
    | some (.int, n0, .inl f) => match ci_arr h k1 with
      | some (.int, n1, .inl g) => if sp < 0 then none else if dp < 0 then none else if n < 0 then none else if sp.toNatClampNeg + n.toNatClampNeg ≤ n0 then if dp.toNatClampNeg + n.toNatClampNeg ≤ n1 then if (r.map fun v => v.category).sum ≤ 8 then
          some (r, va_up h k1 (.inl (.int, n1, .inl (va_cpy f g sp.toNatClampNeg dp.toNatClampNeg n.toNatClampNeg)))) else none else none else none
      | _ => none
    | _ => none
  | _ => none
def ci_st5 (cl : List vw_C) (fty : Nat → Nat → FieldType) (i : Instr) (x y : Nat) (h : ci_H) (S : List Value) : Option (List Value × ci_H) := match i with
  | .putfield _ => ci_pf fty x y h S
  | .iastore => ci_ias h S
  | .bastore => ci_bas h S
  | .lastore => ci_las h S
  | .aastore => ci_aas cl h S
  | .invokestatic _ => ci_cpy h S
  | _ => none
def ci_ok5 (Ts : List Jvm.Cond) (cl : List vw_C) (fty : Nat → Nat → FieldType) (own : String) (ini : Bool) (i : Instr) (len x y : Nat) : Prop := match i with
  | .putfield ix => len = 3 ∧ ∃ C T N, ci_cl Ts cl fty x C T N ∧ y < N ∧ Jvm.Cond.fieldLink own ix C (T y).2.1 (T y).2.2.1 ∈ Ts ∧ ((T y).2.2.2 = false ∨ ((T y).2.2.2 = true ∧ own = C ∧ ini = true))
  | .invokestatic ix => len = 3 ∧ Jvm.Cond.methodLink own ix arraycopyName ∈ Ts ∧ Jvm.Cond.native arraycopyName ∈ Ts ∧ Jvm.Cond.static arraycopyName ∈ Ts ∧ Jvm.Cond.initialized "java/lang/System" ∈ Ts
  | _ => len = 1
theorem ci_R.put {b : Nat} {D : va_G} {cl : List vw_C} {s : State} {A : Nat → Prop} {H0 : Heap} {tys : List (ClassId × FieldType)} {h : ci_H} {nx : Nat} {ws : va_W} {H H1 : Heap} {locs locs1 : List Loc} (hR : ci_R b D cl s A H0 tys h nx ws H locs) {q0 a : Nat} {e0 e : va_E} {c : ci_C} (h0 : ws[q0]? = some (a, e0)) (he : ci_e (ci_ad b ws) tys c e) (hP : va_P D cl (ws.set q0 (a, e)) H1) (hD : va_D A (ws.set q0 (a, e))) (hS : va_S A H0 H1 locs1) : ci_R b D cl s A H0 tys (va_up h q0 c) nx (ws.set q0 (a, e)) H1 locs1 :=
  ⟨hR.1.set h0 he, hR.2.1, hP, hD, hS⟩
theorem ci_ext_set {b : Nat} {ws : va_W} {q0 a : Nat} {e0 e : va_E} (h : ws[q0]? = some (a, e0)) : ci_ext (ci_ad b ws) (ci_ad b (ws.set q0 (a, e))) := by rw [ci_ad_set h]; exact fun _ _ q => q
section CI5
variable {p : Program} {l : Launch} {e : Env} {R : Room} {s : State} {m : MethodId} {args : Array Value} {below : List Frame} {meth : Method} {c : Code} {H : Heap} {locs : List Loc} {cells slots : Nat} {Q : State → Prop}
variable {cc : ByteArray} {pc : Nat} {ls : Array Slot} {st : List Value} {S : List Value} {D : va_G} {cl : List vw_C} {A : Nat → Prop} {tys : List (ClassId × FieldType)} {ws : va_W} {H0 : Heap} {b : Nat} {h : ci_H} {nx : Nat} {Ts : List Jvm.Cond} {fty : Nat → Nat → FieldType}
set_option maxHeartbeats 4000000 in
theorem ci_sim5 (hx : p.tables.exec = Jvm.exec) (hb : c.code = cc) (hml : c.maxLocals = ls.size) {own : String} {ini : Bool} (hini : ini = true → meth.name = "<init>") (hown : s.vm.findClass own = some m.cls) (hts : ∀ w ∈ Ts, w.before args s = true) (hfr : 1 ≤ R.frames) (hlo : 40 ≤ R.locals) {i : Instr} {len x y : Nat} {S' : List Value} {h' : ci_H} (hd : decode cc pc = .ok (i, len)) (hok : ci_ok5 Ts cl fty own ini i len x y) (hst : ci_st5 cl fty i x y h S = some (S', h'))
    (hR : ci_R b D cl s A H0 tys h nx ws H locs) (hS : ci_vs (ci_ad b ws) S st)
    (kk : ∀ (H1 : Heap) (locs1 : List Loc) (ws1 : va_W) (st' : List Value), ci_R b D cl s A H0 tys h' nx ws1 H1 locs1 → ci_ext (ci_ad b ws) (ci_ad b ws1) → ci_vs (ci_ad b ws1) S' st' → W p l e R s m args below meth c H1 locs1 cells slots Q (F0 m (pc + len) ls st')) : W p l e R s m args below meth c H locs cells slots Q (F0 m pc ls st) := by
  obtain ⟨hW, hK, hP, hD, hSx⟩ := id hR
  cases i with
  | putfield ix =>
    obtain ⟨rfl, C, T, n, hcl, hy, hlink, hfin⟩ := hok
    simp only [ci_st5, ci_pf] at hst
    split at hst
    next v k r =>
      split at hst
      next o ho =>
        split at hst
        next hox =>
          split at hst
          next hfit =>
            split at hst
            next hyl =>
              cases hst
              obtain ⟨hk, hhk⟩ := ci_obj_inv ho
              obtain ⟨u, st1, rfl, hvu, h1⟩ := hS
              obtain ⟨a, st2, had, rfl, h2⟩ := ci_vs_r h1
              obtain ⟨e0, hws, he⟩ := ci_at hW hk had
              rw [hhk] at he
              obtain ⟨fs', rfl, hfs⟩ := he
              subst hox
              have hsm : ∀ q, s.fieldFound? (T y).1 (T y).2.1 (T y).2.2.1 = some q → s.fieldFound? C (T y).2.1 (T y).2.2.1 = some q := by rw [hcl.2.2.2.2.1 y hy]; exact fun _ q => q
              have hf' := hvu.fits hfit
              have hnr := ci_nar hf' (hcl.2.2.2.2.2 y hy)
              have hyl' : y < fs'.length := by rw [hfs.len]; exact hyl
              have key : ∀ (H1 : Heap) (locs1 : List Loc), va_P D cl (ws.set k (a, .inr (o.1, fs'.set y u))) H1 → va_D A (ws.set k (a, .inr (o.1, fs'.set y u))) → va_S A H0 H1 locs1 → W p l e R s m args below meth c H1 locs1 cells slots Q (F0 m (pc + 3) ls st2) := fun H1 locs1 g1 g2 g3 =>
                kk H1 locs1 _ _ (hR.put hws ⟨_, rfl, hfs.set hvu y⟩ g1 g2 g3) (ci_ext_set hws) (h2.ext (ci_ext_set hws))
              rcases hfin with hfin | ⟨hfin, hoC, hin⟩
              · exact va_put hx hb hts hcl.2.1 (fty o.1) hcl.2.2.1 hcl.2.2.2.1 hown hK hP hD hSx k hws hcl.1 y hy (hts _ hlink) hsm hfin (hcl.2.2.1 y hy) hnr hf' hyl' hd key
              · exact va_putF hx hb hts hcl.2.1 (fty o.1) hcl.2.2.1 hcl.2.2.2.1 hown hK hP hD hSx k hws hcl.1 y hy (hts _ hlink) hsm hfin (hini hin) ((hcl.2.2.2.2.1 y hy).trans hoC.symm) (hcl.2.2.1 y hy) hnr hf' hyl' hd key
            · cases hst
          · cases hst
        · cases hst
      · cases hst
    · cases hst
  | iastore =>
    have hok : len = _ := hok
    subst hok
    simp only [ci_st5, ci_ias] at hst
    split at hst
    next v j k r =>
      obtain ⟨st1, rfl, h1⟩ := ci_vs_i hS
      obtain ⟨st2, rfl, h2⟩ := ci_vs_i h1
      obtain ⟨a, st3, had, rfl, h3⟩ := ci_vs_r h2
      split at hst
      next n f ho =>
        split at hst
        next hin =>
          cases hst
          obtain ⟨hk, hhk⟩ := ci_arr_inv ho
          obtain ⟨e0, hws, he⟩ := ci_at hW hk had
          rw [hhk] at he
          obtain ⟨cA, y1, rfl, ⟨t, ht⟩, hy⟩ := he
          have hy : y1 = .inl f := hy
          subst hy
          exact va_iast hx hb hK hP hD hSx k t hws ht (ci_in_vp hin) hd (fun H1 locs1 g1 g2 g3 => kk H1 locs1 _ _ (hR.put hws ⟨cA, _, rfl, ⟨t, ht⟩, rfl⟩ g1 g2 g3) (ci_ext_set hws) (h3.ext (ci_ext_set hws)))
        · cases hst
      · cases hst
    · cases hst
  | bastore =>
    have hok : len = _ := hok
    subst hok
    simp only [ci_st5, ci_bas] at hst
    split at hst
    next v j k r =>
      obtain ⟨st1, rfl, h1⟩ := ci_vs_i hS
      obtain ⟨st2, rfl, h2⟩ := ci_vs_i h1
      obtain ⟨a, st3, had, rfl, h3⟩ := ci_vs_r h2
      split at hst
      next n f ho =>
        split at hst
        next hin =>
          cases hst
          obtain ⟨hk, hhk⟩ := ci_arr_inv ho
          obtain ⟨e0, hws, he⟩ := ci_at hW hk had
          rw [hhk] at he
          obtain ⟨cA, y1, rfl, ⟨t, ht⟩, hy⟩ := he
          have hy : y1 = .inl f := hy
          subst hy
          exact va_bast hx hb hK hP hD hSx k t hws ht (ci_in_vp hin) hd (fun H1 locs1 g1 g2 g3 => kk H1 locs1 _ _ (hR.put hws ⟨cA, _, rfl, ⟨t, ht⟩, rfl⟩ g1 g2 g3) (ci_ext_set hws) (h3.ext (ci_ext_set hws)))
        · cases hst
      next n f ho =>
        split at hst
        next hin =>
          cases hst
          obtain ⟨hk, hhk⟩ := ci_arr_inv ho
          obtain ⟨e0, hws, he⟩ := ci_at hW hk had
          rw [hhk] at he
          obtain ⟨cA, y1, rfl, ⟨t, ht⟩, hy⟩ := he
          have hy : y1 = .inl f := hy
          subst hy
          exact va_zast hx hb hK hP hD hSx k t hws ht (ci_in_vp hin) hd (fun H1 locs1 g1 g2 g3 => kk H1 locs1 _ _ (hR.put hws ⟨cA, _, rfl, ⟨t, ht⟩, rfl⟩ g1 g2 g3) (ci_ext_set hws) (h3.ext (ci_ext_set hws)))
        · cases hst
      · cases hst
    · cases hst
  | lastore =>
    have hok : len = _ := hok
    subst hok
    simp only [ci_st5, ci_las] at hst
    split at hst
    next v j k r =>
      obtain ⟨st1, rfl, h1⟩ := ci_vs_l hS
      obtain ⟨st2, rfl, h2⟩ := ci_vs_i h1
      obtain ⟨a, st3, had, rfl, h3⟩ := ci_vs_r h2
      split at hst
      next n f ho =>
        split at hst
        next hin =>
          cases hst
          obtain ⟨hk, hhk⟩ := ci_arr_inv ho
          obtain ⟨e0, hws, he⟩ := ci_at hW hk had
          rw [hhk] at he
          obtain ⟨cA, y1, rfl, ⟨t, ht⟩, hy⟩ := he
          have hy : y1 = .inr (.inl f) := hy
          subst hy
          exact va_last hx hb hK hP hD hSx k t hws ht (ci_in_vp hin) hd (fun H1 locs1 g1 g2 g3 => kk H1 locs1 _ _ (hR.put hws ⟨cA, _, rfl, ⟨t, ht⟩, rfl⟩ g1 g2 g3) (ci_ext_set hws) (h3.ext (ci_ext_set hws)))
        · cases hst
      · cases hst
    · cases hst
  | aastore =>
    have hok : len = _ := hok
    subst hok
    simp only [ci_st5, ci_aas] at hst
    split at hst
    next v j k r =>
      obtain ⟨av, st1, hadv, rfl, h1⟩ := ci_vs_r hS
      obtain ⟨st2, rfl, h2⟩ := ci_vs_i h1
      obtain ⟨a, st3, had, rfl, h3⟩ := ci_vs_r h2
      split at hst
      next o ho =>
        split at hst
        next q hq =>
          split at hst
          next ty n f hoa =>
            split at hst
            next hty =>
              split at hst
              next hin =>
                cases hst
                subst hty
                obtain ⟨hkv, hhv⟩ := ci_obj_inv ho
                obtain ⟨hk, hhk⟩ := ci_arr_inv hoa
                obtain ⟨ev, hwsv, hev⟩ := ci_at hW hkv hadv
                rw [hhv] at hev
                obtain ⟨fsv, rfl, -⟩ := hev
                obtain ⟨e0, hws, he⟩ := ci_at hW hk had
                rw [hhk] at he
                obtain ⟨cA, y1, rfl, ⟨t, ht⟩, f', rfl, hf⟩ := he
                refine va_astq hx hb hK hP hD hSx k t v o.1 hws ht hwsv hq (ci_in_vp hin) hd (fun H1 locs1 g1 g2 g3 => kk H1 locs1 _ _ (hR.put hws ⟨cA, _, rfl, ⟨t, ht⟩, _, rfl, fun i => ?_⟩ g1 g2 g3) (ci_ext_set hws) (h3.ext (ci_ext_set hws)))
                unfold va_up
                by_cases hi : i = j.toNatClampNeg
                · rw [if_pos hi, if_pos hi]; exact ⟨av, hadv, rfl⟩
                · rw [if_neg hi, if_neg hi]; exact hf i
              · cases hst
            · cases hst
          · cases hst
        · cases hst
      · cases hst
    · cases hst
  | invokestatic ix =>
    obtain ⟨rfl, hl1, hl2, hl3, hl4⟩ := hok
    simp only [ci_st5, ci_cpy] at hst
    split at hst
    next n dp k1 sp k0 r =>
      obtain ⟨st1, rfl, h1⟩ := ci_vs_i hS
      obtain ⟨st2, rfl, h2⟩ := ci_vs_i h1
      obtain ⟨a1, st3, had1, rfl, h3⟩ := ci_vs_r h2
      obtain ⟨st4, rfl, h4⟩ := ci_vs_i h3
      obtain ⟨a0, st5, had0, rfl, h5⟩ := ci_vs_r h4
      split at hst
      next n0 f ho0 =>
        split at hst
        next n1 g ho1 =>
          split at hst
          · cases hst
          next hs1 =>
            split at hst
            · cases hst
            next hs2 =>
              split at hst
              · cases hst
              next hs3 =>
                split at hst
                next hs4 =>
                  split at hst
                  next hs5 =>
                    split at hst
                    next hs6 =>
                      cases hst
                      obtain ⟨hk0, hhk0⟩ := ci_arr_inv ho0
                      obtain ⟨hk1, hhk1⟩ := ci_arr_inv ho1
                      obtain ⟨e0, hws0, he0⟩ := ci_at hW hk0 had0
                      rw [hhk0] at he0
                      obtain ⟨cA0, y0, rfl, ⟨t0, ht0⟩, hy0⟩ := he0
                      have hy0 : y0 = .inl f := hy0
                      subst hy0
                      obtain ⟨e1, hws1, he1⟩ := ci_at hW hk1 had1
                      rw [hhk1] at he1
                      obtain ⟨cA1, y1, rfl, ⟨t1, ht1⟩, hy1⟩ := he1
                      have hy1 : y1 = .inl g := hy1
                      subst hy1
                      exact va_copyi hx hb hml hown (hts _ hl1) (hts _ hl2) (hts _ hl3) (hts _ hl4) hK hP hD hSx k0 k1 t0 t1 hws0 hws1 ht0 ht1 rfl hs1 hs2 hs3 hs4 hs5 (fun i _ => rfl) hfr (by rw [h5.cat]; have : nativeFrameWords "java/lang/System" "arraycopy" 5 = 7 := (by decide +kernel); omega) hd (fun H1 locs1 g1 g2 g3 => kk H1 locs1 _ _ (hR.put hws1 ⟨cA1, _, rfl, ⟨t1, ht1⟩, rfl⟩ g1 g2 g3) (ci_ext_set hws1) (h5.ext (ci_ext_set hws1)))
                    · cases hst
                  · cases hst
                · cases hst
        · cases hst
      · cases hst
    · cases hst
  | _ => cases hst
end CI5
-- group 6: makes
def ci_dfl (fty : Nat → Nat → FieldType) (x N : Nat) : List Value := (List.range N).map (fun j => defaultValue (fty x j))
def ci_new (cl : List vw_C) (fty : Nat → Nat → FieldType) (x : Nat) (h : ci_H) (nx : ci_N) (S : List Value) : Option (List Value × ci_H × ci_N) := match cl[x]? with
  | some q => if nx.1 = ci_scr then none else some (.ref nx.1 :: S, va_up h nx.1 (.inr (x, ci_dfl fty x q.2.2)), nx.1 + 1, nx.2.1 + 1, nx.2.2 + q.2.2)
  | none => none
def ci_nwa (ty : ArrayType) (h : ci_H) (nx : ci_N) (S : List Value) : Option (List Value × ci_H × ci_N) := match S with
  | .int n :: r => if nx.1 = ci_scr then none else if n < 0 then none else if n.toNatClampNeg ≤ 100000 then match ty with
    | .int => some (.ref nx.1 :: r, va_up h nx.1 (.inl (.int, n.toNatClampNeg, .inl (fun _ => 0))), nx.1 + 1, nx.2.1 + 1, nx.2.2 + n.toNatClampNeg)
    | .byte => some (.ref nx.1 :: r, va_up h nx.1 (.inl (.byte, n.toNatClampNeg, .inl (fun _ => 0))), nx.1 + 1, nx.2.1 + 1, nx.2.2 + n.toNatClampNeg)
    | .boolean => some (.ref nx.1 :: r, va_up h nx.1 (.inl (.boolean, n.toNatClampNeg, .inl (fun _ => 0))), nx.1 + 1, nx.2.1 + 1, nx.2.2 + n.toNatClampNeg)
    | .long => some (.ref nx.1 :: r, va_up h nx.1 (.inl (.long, n.toNatClampNeg, .inr (.inl (fun _ => 0)))), nx.1 + 1, nx.2.1 + 1, nx.2.2 + n.toNatClampNeg)
    | _ => none
    else none
  | _ => none
def ci_nwq (cl : List vw_C) (x : Nat) (h : ci_H) (nx : ci_N) (S : List Value) : Option (List Value × ci_H × ci_N) := match S with
  | .int n :: r => match cl[x]? with
    | some q => if nx.1 = ci_scr then none else if n < 0 then none else if n.toNatClampNeg ≤ 100000 then some (.ref nx.1 :: r, va_up h nx.1 (.inl (.object q.1, n.toNatClampNeg, .inr (.inr (.inr (.inr (fun _ => none)))))), nx.1 + 1, nx.2.1 + 1, nx.2.2 + n.toNatClampNeg) else none
    | none => none
  | _ => none
/-- new int[n][k]; y: a cell that is an int array -/
def ci_grid (h : ci_H) (a n k : Nat) : ci_H := fun q => if q = a then .inl (.array .int, n, .inr (.inr (.inr (.inr (fun i => if i < n then some (a + 1 + i) else none))))) else if a < q ∧ q ≤ a + n then .inl (.int, k, .inl (fun _ => 0)) else h q
def ci_mna (y : Nat) (h : ci_H) (nx : ci_N) (S : List Value) : Option (List Value × ci_H × ci_N) := match S with
  | .int k :: .int n :: r => if n < 0 then none else if k < 0 then none else if n.toNatClampNeg ≤ 1000 ∧ k.toNatClampNeg ≤ 1000 ∧ nx.1 + n.toNatClampNeg < ci_scr ∧ y < nx.1 then match ci_arr h y with
    | some (.int, _, .inl _) => some (.ref nx.1 :: r, ci_grid h nx.1 n.toNatClampNeg k.toNatClampNeg, nx.1 + (1 + n.toNatClampNeg), nx.2.1 + (1 + n.toNatClampNeg), nx.2.2 + (n.toNatClampNeg + n.toNatClampNeg * k.toNatClampNeg))
    | _ => none
    else none
  | _ => none
/-- words of the tables that a warmer machine keeps, though they aren't among the good ones -/
def ci_nest : List (String × Nat × MethodName) := [("TwoAtMost$Town", 11, ⟨"TwoAtMost$State", "<init>", "()V"⟩), ("TwoAtMost", 18, ⟨"TwoAtMost$Text", "<init>", "()V"⟩), ("TwoAtMost", 34, ⟨"TwoAtMost$Rule", "<init>", "()V"⟩), ("TwoAtMost$RuleReader", 11, ⟨"TwoAtMost$Rule", "<init>", "()V"⟩), ("TwoAtMost$Past", 24, ⟨"TwoAtMost$State", "<init>", "()V"⟩), ("TwoAtMost", 67, ⟨"TwoAtMost$State", "<init>", "()V"⟩), ("TwoAtMost", 113, ⟨"TwoAtMost$Purse", "<init>", "()V"⟩)]
def ci_E (U : State) : Prop := va_AO "TwoAtMost$State" U ∧ va_AOA .int U ∧ ∀ q ∈ ci_nest, va_Nw (.methodLinkNest q.1 q.2.1 q.2.2 "TwoAtMost") U
theorem ci_over {U : State} {t : FieldType} (h : va_AOA t U) :
    ∃ comp c k, U.vm.findClass (FieldType.array t).toString = some comp ∧ (U.vm.classes.findIdx? fun (x : Class) => match x.kind with | .array component _ => component == comp | _ => false) = some c ∧ U.vm.classes[c]? = some k ∧ k.kind = .array comp (.array t) ∧ U.vm.findClass ("[" ++ (FieldType.array t).toString) = some c := by
  unfold va_AOA at h
  simp only [Cond.before, Cond.holds, Cond.value, beq_iff_eq] at h
  cases hc : U.vm.findClass (FieldType.array t).toString with
  | none => simp [hc] at h
  | some comp =>
    simp only [hc, Option.bind_some, Option.bind_eq_some_iff, Option.map_eq_some_iff] at h
    obtain ⟨c, hi, k, hk, hb⟩ := h
    obtain ⟨hlt, hp, -⟩ := Array.findIdx?_eq_some_iff_getElem.mp hi
    have hkk : U.vm.classes[c] = k := (Array.getElem?_eq_some_iff.mp hk).2
    rw [hkk] at hp
    cases hkind : k.kind with
    | array component ty =>
      rw [hkind] at hb hp
      simp at hb hp
      exact ⟨comp, c, k, rfl, hi, hk, by rw [hkind, hp, hb.1], hb.2⟩
    | _ => rw [hkind] at hb; simp at hb
theorem va_AOA.moved {ty : FieldType} {u U : State} (hvm : u.vm.Alike U.vm) (h : va_AOA ty u) : va_AOA ty U := by
  obtain ⟨comp, c, k, h1, h2, h3, h4, h5⟩ := ci_over h
  obtain ⟨k', hk', he⟩ := hvm.2.2 _ _ h3
  have hi : (U.vm.classes.findIdx? fun (x : Class) => match x.kind with | .array component _ => component == comp | _ => false) = some c := by
    have e : U.vm.bare = u.vm.bare := by first | exact hvm.bare_eq | exact hvm.bare_eq.symm
    have e1 := va_idx_bare U.vm comp
    have e2 := va_idx_bare u.vm comp
    rw [e] at e1
    exact e1.symm.trans (e2.trans h2)
  have hkind : k'.kind = .array comp (.array ty) := by rw [he]; exact h4
  have f1 : U.vm.findClass (FieldType.array ty).toString = some comp := by rw [hvm.findClass]; exact h1
  have f2 : U.vm.findClass ("[" ++ (FieldType.array ty).toString) = some c := by rw [hvm.findClass]; exact h5
  unfold va_AOA Cond.before Cond.holds
  simp only [Cond.value]
  rw [f1, Option.bind_some]
  refine (congrArg (fun o : Option Nat => (o.bind (fun c => (U.vm.classes[c]?).map fun (k : Class) => match k.kind with | .array _ t => decide (t = FieldType.array ty) && decide (U.vm.findClass ("[" ++ (FieldType.array ty).toString) = some c) | _ => false) == some true)) hi).trans ?_
  simp [hk', hkind, f2]
theorem ci_E.warm {s U : State} (hW : s.WarmedH U.vm) (h : ci_E s) : ci_E U := ⟨h.1.moved hW.alike, h.2.1.moved hW.alike, fun q hq => (h.2.2 q hq).warmM hW⟩
theorem ci_E.same {u U : State} (hW : u.vm = U.vm) (h : ci_E u) : ci_E U := ⟨h.1.moved (by rw [hW]; exact Vm.Alike.refl _), h.2.1.moved (by rw [hW]; exact Vm.Alike.refl _), fun q hq => va_Nw.same rfl hW (h.2.2 q hq)⟩
def ci_st6 (cl : List vw_C) (fty : Nat → Nat → FieldType) (i : Instr) (x y : Nat) (h : ci_H) (nx : ci_N) (S : List Value) : Option (List Value × ci_H × ci_N) := match i with
  | .multianewarray _ _ => ci_mna y h nx S
  | .new _ => ci_new cl fty x h nx S
  | .newarray ty => ci_nwa ty h nx S
  | .anewarray _ => ci_nwq cl x h nx S
  | _ => none
def ci_ok6 (Ts : List Jvm.Cond) (cl : List vw_C) (fty : Nat → Nat → FieldType) (own : String) (i : Instr) (len x : Nat) : Prop := match i with
  | .new ix => len = 3 ∧ ∃ C T N, ci_cl Ts cl fty x C T N ∧ Jvm.Cond.classLink own ix C ∈ Ts ∧ Jvm.Cond.instantiable C N ∈ Ts ∧ Jvm.Cond.initialized C ∈ Ts
  | .newarray ty => len = 2 ∧ Jvm.Cond.arrayClass (newarray.typeOf ty) ∈ Ts
  | .multianewarray ix dm => len = 4 ∧ dm = 2 ∧ Jvm.Cond.classLink own ix "[[I" ∈ Ts ∧ Jvm.Cond.arrayClass .int ∈ Ts
  | .anewarray ix => len = 3 ∧ ∃ q, cl[x]? = some q ∧ Jvm.Cond.classLink own ix q.1 ∈ Ts ∧ q.1 = "TwoAtMost$State"
  | _ => True
theorem ci_vs_self {ad : Nat → Option Nat} : ∀ {S : List Value}, (∀ v ∈ S, ∀ k, v ≠ .ref k) → ci_vs ad S S
  | [], _ => rfl
  | v :: S, h => ⟨v, S, rfl, by
      cases v with
      | ref k => exact absurd rfl (h _ List.mem_cons_self k)
      | _ => rfl, ci_vs_self (fun u hu => h u (List.mem_cons_of_mem _ hu))⟩
theorem ci_dfl_self {ad : Nat → Option Nat} (fty : Nat → Nat → FieldType) (x N : Nat) : ci_vs ad (ci_dfl fty x N) (ci_dfl fty x N) := ci_vs_self (fun v hv k => by
  obtain ⟨j, -, rfl⟩ := List.mem_map.mp hv
  cases fty x j <;> simp [defaultValue])
theorem ci_pl_rows {n : Nat} {r : Nat → Nat} {f : Nat → va_E} {e : va_E} : va_pl ([] ++ (List.range n).map r) (vr_up f ((List.range n).map r) e) = (List.range n).map (fun i => (r i, e)) := by
  unfold va_pl
  rw [List.nil_append, List.map_map]
  apply List.map_congr_left
  intro i hi
  show (r i, vr_up f _ e (r i)) = _
  rw [vr_up_in (List.mem_map.mpr ⟨i, hi, rfl⟩)]
theorem ci_W.grid {b : Nat} {tys tys' : List (ClassId × FieldType)} {h : ci_H} {nx : Nat} {ws : va_W} {q n k : Nat} {r : Nat → Nat} {cA cy : ClassId} (hW : ci_W b tys h nx ws) (hsc : nx + n < ci_scr) (ht : ∀ (t : Nat) (q : ClassId × FieldType), tys[t]? = some q → ∃ t' : Nat, tys'[t']? = some q) (hA : ∃ t : Nat, tys'[t]? = some (cA, .array .int)) (hy : ∃ t : Nat, tys'[t]? = some (cy, .int)) :
    ci_W b tys' (ci_grid h nx n k) (nx + (1 + n)) ((ws ++ [(q, .inl (cA, n, .inr (.inr (.inr (.inr (fun i => if i < n then some (r i) else none))))))]) ++ (List.range n).map (fun i => ((r i, .inl (cy, k, .inl (fun _ => 0))) : Nat × va_E))) := by
  have hl := hW.1
  have had : ∀ i, i < n → ci_ad b ((ws ++ [(q, .inl (cA, n, .inr (.inr (.inr (.inr (fun i => if i < n then some (r i) else none))))))]) ++ (List.range n).map (fun i => ((r i, .inl (cy, k, .inl (fun _ => 0))) : Nat × va_E))) (nx + 1 + i) = some (r i) := by
    intro i hi
    unfold ci_ad
    rw [if_neg (by omega), List.getElem?_append_right (by rw [List.length_append]; simp only [List.length_cons, List.length_nil]; omega), List.getElem?_map, List.getElem?_range (by rw [List.length_append]; simp only [List.length_cons, List.length_nil]; omega)]
    show some (r _) = _
    congr 2
    rw [List.length_append]
    simp only [List.length_cons, List.length_nil]
    omega
  refine ⟨by simp only [List.length_append, List.length_cons, List.length_nil, List.length_map, List.length_range]; omega, fun j a e hj => ?_⟩
  by_cases h1 : j < ws.length
  · rw [List.append_assoc, List.getElem?_append_left h1] at hj
    have hg : ci_grid h nx n k j = h j := by unfold ci_grid; rw [if_neg (by omega), if_neg (by omega)]
    rw [hg, List.append_assoc]
    exact (hW.2 j a e hj).ext ci_ad_app ht
  · by_cases h2 : j = nx
    · subst h2
      rw [List.append_assoc, List.getElem?_append_right (by omega), show j - ws.length = 0 by omega] at hj
      cases hj
      have hg : ci_grid h j n k j = .inl (.array .int, n, .inr (.inr (.inr (.inr (fun i => if i < n then some (j + 1 + i) else none))))) := by unfold ci_grid; rw [if_pos rfl]
      rw [hg]
      refine ⟨cA, _, rfl, hA, _, rfl, fun i => ?_⟩
      by_cases hi : i < n
      · show ci_rf _ (if i < n then some (j + 1 + i) else none) (if i < n then some (r i) else none)
        rw [if_pos hi, if_pos hi]; exact ⟨r i, had i hi, rfl⟩
      · show ci_rf _ (if i < n then some (j + 1 + i) else none) (if i < n then some (r i) else none)
        rw [if_neg hi, if_neg hi]; rfl
    · rw [List.getElem?_append_right (by rw [List.length_append]; simp only [List.length_cons, List.length_nil]; omega)] at hj
      have hjn : j - (ws ++ [((q, .inl (cA, n, .inr (.inr (.inr (.inr (fun i => if i < n then some (r i) else none)))))) : Nat × va_E)]).length < n := by
        have := (List.getElem?_eq_some_iff.mp hj).1
        simpa using this
      rw [List.getElem?_map, List.getElem?_range hjn] at hj
      cases hj
      rw [List.length_append] at hjn
      simp only [List.length_cons, List.length_nil] at hjn
      have hg : ci_grid h nx n k j = .inl (.int, k, .inl (fun _ => 0)) := by unfold ci_grid; rw [if_neg h2, if_pos (by omega)]
      rw [hg]
      exact ⟨cy, _, rfl, hy, rfl⟩
section CI6
variable {p : Program} {l : Launch} {e : Env} {R : Room} {s : State} {m : MethodId} {args : Array Value} {below : List Frame} {meth : Method} {c : Code} {H : Heap} {locs : List Loc} {cells slots : Nat} {Q : State → Prop}
variable {cc : ByteArray} {pc : Nat} {ls : Array Slot} {st : List Value} {S : List Value} {D : va_G} {cl : List vw_C} {A : Nat → Prop} {tys : List (ClassId × FieldType)} {ws : va_W} {H0 : Heap} {b : Nat} {h : ci_H} {nx : ci_N} {Ts : List Jvm.Cond} {fty : Nat → Nat → FieldType}
set_option maxHeartbeats 4000000 in
theorem ci_sim6 (hx : p.tables.exec = Jvm.exec) (hb : c.code = cc) {own : String} (hown : s.vm.findClass own = some m.cls) (hts : ∀ w ∈ Ts, w.before args s = true) (hEs : ci_E s) {i : Instr} {len x y : Nat} {S' : List Value} {h' : ci_H} {nx' : ci_N} (hd : decode cc pc = .ok (i, len)) (hok : ci_ok6 Ts cl fty own i len x) (hst : ci_st6 cl fty i x y h nx S = some (S', h', nx'))
    (hR : ci_R b D cl s A H0 tys h nx.1 ws H locs) (hA : ∀ q, H0.size ≤ q → A q) (hS : ci_vs (ci_ad b ws) S st) (hc1 : cells + nx'.2.1 ≤ R.cells + nx.2.1) (hc2 : slots + nx'.2.2 ≤ R.slots + nx.2.2)
    (kk : ∀ (H1 : Heap) (cells1 slots1 : Nat) (ws1 : va_W) (tys1 : List (ClassId × FieldType)) (st' : List Value), ci_R b D cl s A H0 tys1 h' nx'.1 ws1 H1 locs → ci_ext (ci_ad b ws) (ci_ad b ws1) → ci_vs (ci_ad b ws1) S' st' → cells1 + nx.2.1 = cells + nx'.2.1 → slots1 + nx.2.2 = slots + nx'.2.2 → W p l e R s m args below meth c H1 locs cells1 slots1 Q (F0 m (pc + len) ls st')) : W p l e R s m args below meth c H locs cells slots Q (F0 m pc ls st) := by
  obtain ⟨hW, hK, hP, hD, hSx⟩ := id hR
  have hlen : ws.length = nx.1 := hW.1
  cases i with
  | new ix =>
    obtain ⟨rfl, C, T, n, hcl, h1, h2, h3⟩ := hok
    simp only [ci_st6, ci_new] at hst
    split at hst
    next q hq =>
      split at hst
      · cases hst
      next hsc =>
        cases hst
        have hqe : q = (C, T, n) := Option.some.inj (hq.symm.trans hcl.1)
        subst hqe
        refine va_new (ci := x) (fs := ci_dfl fty x n) (C := C) (T := T) (N := n) hx hb hts hcl.2.1 (fty x) hcl.2.2.1 hown (hts _ h1) (hts _ h2) (hts _ h3) hK hP hD hSx hA hcl.1 (fun j hj => by simp [vp_V, ci_dfl, hj]) (by simp only at hc1; omega) (by simp only at hc2; omega) hd (fun q0 H1 g1 g2 g3 => ?_)
        refine kk H1 _ _ _ tys _ ⟨?_, hK, g1, g2, g3⟩ ci_ad_app (ci_vs_p ⟨q0, by rw [← hlen]; exact ci_ad_new (by rw [hlen]; exact hsc), rfl⟩ (hS.ext ci_ad_app)) (by simp only; omega) (by simp only; omega)
        exact hW.push (fun t q hq => ⟨t, hq⟩) ⟨_, rfl, ci_dfl_self fty x n⟩
    · cases hst
  | newarray ty =>
    obtain ⟨rfl, h1⟩ := hok
    simp only [ci_st6, ci_nwa] at hst
    split at hst
    next n r =>
      obtain ⟨st1, rfl, hS1⟩ := ci_vs_i hS
      split at hst
      · cases hst
      next hsc =>
        split at hst
        · cases hst
        next hn =>
          split at hst
          next hle =>
            cases ty with
            | int =>
              cases hst
              refine va_newa (a0 := (n.toNatClampNeg, .inl (fun _ => 0))) hx hb (hts _ h1) rfl hK hP hD hSx hA (fun cA => rfl) hn rfl (by show n.toNatClampNeg * 4 ≤ _; omega) (by simp only at hc1; omega) (by simp only at hc2; omega) hd (fun q0 cA H1 g0 g1 g2 g3 => ?_)
              refine kk H1 _ _ _ (tys ++ [(cA, .int)]) _ ⟨?_, g0, g1, g2, g3⟩ ci_ad_app (ci_vs_p ⟨q0, by rw [← hlen]; exact ci_ad_new (by rw [hlen]; exact hsc), rfl⟩ (hS1.ext ci_ad_app)) (by simp only; omega) (by simp only; omega)
              exact hW.push ci_tys_app ⟨cA, _, rfl, ⟨tys.length, by rw [List.getElem?_append_right (Nat.le_refl _), Nat.sub_self]; rfl⟩, rfl⟩
            | byte =>
              cases hst
              refine va_newa (a0 := (n.toNatClampNeg, .inl (fun _ => 0))) hx hb (hts _ h1) rfl hK hP hD hSx hA (fun cA => rfl) hn rfl (by show n.toNatClampNeg * 1 ≤ _; omega) (by simp only at hc1; omega) (by simp only at hc2; omega) hd (fun q0 cA H1 g0 g1 g2 g3 => ?_)
              refine kk H1 _ _ _ (tys ++ [(cA, .byte)]) _ ⟨?_, g0, g1, g2, g3⟩ ci_ad_app (ci_vs_p ⟨q0, by rw [← hlen]; exact ci_ad_new (by rw [hlen]; exact hsc), rfl⟩ (hS1.ext ci_ad_app)) (by simp only; omega) (by simp only; omega)
              exact hW.push ci_tys_app ⟨cA, _, rfl, ⟨tys.length, by rw [List.getElem?_append_right (Nat.le_refl _), Nat.sub_self]; rfl⟩, rfl⟩
            | boolean =>
              cases hst
              refine va_newa (a0 := (n.toNatClampNeg, .inl (fun _ => 0))) hx hb (hts _ h1) rfl hK hP hD hSx hA (fun cA => rfl) hn rfl (by show n.toNatClampNeg * 1 ≤ _; omega) (by simp only at hc1; omega) (by simp only at hc2; omega) hd (fun q0 cA H1 g0 g1 g2 g3 => ?_)
              refine kk H1 _ _ _ (tys ++ [(cA, .boolean)]) _ ⟨?_, g0, g1, g2, g3⟩ ci_ad_app (ci_vs_p ⟨q0, by rw [← hlen]; exact ci_ad_new (by rw [hlen]; exact hsc), rfl⟩ (hS1.ext ci_ad_app)) (by simp only; omega) (by simp only; omega)
              exact hW.push ci_tys_app ⟨cA, _, rfl, ⟨tys.length, by rw [List.getElem?_append_right (Nat.le_refl _), Nat.sub_self]; rfl⟩, rfl⟩
            | long =>
              cases hst
              refine va_newa (a0 := (n.toNatClampNeg, .inr (.inl (fun _ => 0)))) hx hb (hts _ h1) rfl hK hP hD hSx hA (fun cA => rfl) hn rfl (by show n.toNatClampNeg * 8 ≤ _; omega) (by simp only at hc1; omega) (by simp only at hc2; omega) hd (fun q0 cA H1 g0 g1 g2 g3 => ?_)
              refine kk H1 _ _ _ (tys ++ [(cA, .long)]) _ ⟨?_, g0, g1, g2, g3⟩ ci_ad_app (ci_vs_p ⟨q0, by rw [← hlen]; exact ci_ad_new (by rw [hlen]; exact hsc), rfl⟩ (hS1.ext ci_ad_app)) (by simp only; omega) (by simp only; omega)
              exact hW.push ci_tys_app ⟨cA, _, rfl, ⟨tys.length, by rw [List.getElem?_append_right (Nat.le_refl _), Nat.sub_self]; rfl⟩, rfl⟩
            | _ => cases hst
          · cases hst
    · cases hst
  | multianewarray ix dm =>
    obtain ⟨rfl, rfl, h1, h3⟩ := hok
    simp only [ci_st6, ci_mna] at hst
    split at hst
    next k n r =>
      obtain ⟨st1, rfl, hS1⟩ := ci_vs_i hS
      obtain ⟨st2, rfl, hS2⟩ := ci_vs_i hS1
      split at hst
      · cases hst
      next hn =>
        split at hst
        · cases hst
        next hk0 =>
          split at hst
          next hcnd =>
            split at hst
            next n0 f0 ho =>
              cases hst
              obtain ⟨hky, hhy⟩ := ci_arr_inv ho
              obtain ⟨e0, he0⟩ : ∃ e0, ws[y]? = some e0 := ⟨_, List.getElem?_eq_getElem (by omega)⟩
              obtain ⟨ay, ey⟩ := e0
              have hey := hW.2 y ay ey he0
              rw [hhy] at hey
              obtain ⟨cy, y1, rfl, ⟨ty, hty⟩, -⟩ := hey
              have hcy : s.vm.findClass (FieldType.array .int).toString = some cy := (hK.2 ty _ hty).2
              have hsz : n.toNatClampNeg * k.toNatClampNeg ≤ 1000 * 1000 := Nat.mul_le_mul hcnd.1 hcnd.2.1
              refine va_mna (ty := .int) (cy := cy) (X := ws) (L := []) (f := fun _ => .inl (cy, 0, .inl (fun _ => 0))) (z := (k.toNatClampNeg, .inl (fun _ => 0))) hx hb hown (hts _ h1) hEs.2.1 (hts _ h3) hcy hK (by rw [show va_pl [] (fun _ => (.inl (cy, 0, .inl (fun _ => 0)) : va_E)) = [] from rfl, List.append_nil]; exact hP) (by rw [show va_pl [] (fun _ => (.inl (cy, 0, .inl (fun _ => 0)) : va_E)) = [] from rfl, List.append_nil]; exact hD) hSx hA hn hk0 rfl rfl (by omega) (by show k.toNatClampNeg * 4 ≤ _; omega) (by omega) rfl rfl (by simp only at hc1; omega) (by simp only at hc2; omega) (fun cc => ?_) hd (fun q rr cA H1 g0 g1 g2 g3 g4 g5 => ?_)
              · rw [vp_cell_i, ← arrV_new]
                rfl
              · rw [ci_pl_rows] at g3 g4
                refine kk H1 _ _ _ (tys ++ [(cA, .array .int)]) _ ⟨?_, g2, g3, g4, g5⟩ (by rw [List.append_assoc]; exact ci_ad_app) (ci_vs_p ⟨q, ?_, rfl⟩ (hS2.ext (by rw [List.append_assoc]; exact ci_ad_app))) (by simp only; omega) (by simp only; omega)
                · exact hW.grid hcnd.2.2.1 ci_tys_app ⟨tys.length, by rw [List.getElem?_append_right (Nat.le_refl _), Nat.sub_self]; rfl⟩ (ci_tys_app ty _ hty)
                · unfold ci_ad
                  rw [if_neg (by omega), List.append_assoc, List.getElem?_append_right (by omega), show nx.1 - ws.length = 0 by omega]
                  rfl
            · cases hst
          · cases hst
    · cases hst
  | anewarray ix =>
    obtain ⟨rfl, q, hq, h1, h2⟩ := hok
    simp only [ci_st6, ci_nwq] at hst
    split at hst
    next n r =>
      obtain ⟨st1, rfl, hS1⟩ := ci_vs_i hS
      split at hst
      next q' hq' =>
        have hqe : q' = q := Option.some.inj (hq'.symm.trans hq)
        subst hqe
        split at hst
        · cases hst
        next hsc =>
          split at hst
          · cases hst
          next hn =>
            split at hst
            next hle =>
              cases hst
              refine va_newq (C := q'.1) hx hb hown (hts _ h1) (by rw [h2]; exact hEs.1) hK hP hD hSx hA hn rfl (by omega) (by simp only at hc1; omega) (by simp only at hc2; omega) hd (fun q0 cA H1 g0 g1 g2 g3 => ?_)
              refine kk H1 _ _ _ (tys ++ [(cA, .object q'.1)]) _ ⟨?_, g0, g1, g2, g3⟩ ci_ad_app (ci_vs_p ⟨q0, by rw [← hlen]; exact ci_ad_new (by rw [hlen]; exact hsc), rfl⟩ (hS1.ext ci_ad_app)) (by simp only; omega) (by simp only; omega)
              exact hW.push ci_tys_app ⟨cA, _, rfl, ⟨tys.length, by rw [List.getElem?_append_right (Nat.le_refl _), Nat.sub_self]; rfl⟩, _, rfl, fun _ => rfl⟩
            · cases hst
      · cases hst
    · cases hst
  | _ => cases hst
end CI6
