/-! A CLEAN INTERPRETER of the bytecode, over cells by number, and the proof that the machine follows it. Part 1: values, locals, groups 1 to 3. -/
/-- an instruction with what it links: itself, its length, a number v, two places x and y, its group -/
abbrev ci_I : Type := Instr × Nat × Int32 × Nat × Nat × Nat
abbrev ci_C : Type := (FieldType × vp_A) ⊕ (Nat × List Value)
abbrev ci_H : Type := Nat → ci_C
def ci_junk : Value := .retAddr 0
/-- the script's number among the cells -/
def ci_scr : Nat := 1000000
/-- a clean value and the machine's, by the addresses -/
def ci_v (ad : Nat → Option Nat) (v w : Value) : Prop := match v with
  | .ref k => ∃ a, ad k = some a ∧ w = .ref a
  | v => w = v
def ci_vs (ad : Nat → Option Nat) : List Value → List Value → Prop
  | [], st => st = []
  | v :: S, st => ∃ u st', st = u :: st' ∧ ci_v ad v u ∧ ci_vs ad S st'
def ci_L (ad : Nat → Option Nat) (L : List Value) (ls : Array Slot) (nL : Nat) : Prop := ls.size = nL ∧ lv_wf ls ∧ L.length = nL ∧ ∀ (i : Nat) (v : Value), L[i]? = some v → v ≠ ci_junk → ∃ u, ls[i]? = some (.val u) ∧ ci_v ad v u
def ci_ext (ad ad' : Nat → Option Nat) : Prop := ∀ k a, ad k = some a → ad' k = some a
theorem ci_v.ext {ad ad' : Nat → Option Nat} (h : ci_ext ad ad') {v u : Value} (hv : ci_v ad v u) : ci_v ad' v u := by
  cases v with
  | ref k => obtain ⟨a, h1, h2⟩ := hv; exact ⟨a, h k a h1, h2⟩
  | _ => exact hv
theorem ci_vs.ext {ad ad' : Nat → Option Nat} (h : ci_ext ad ad') : ∀ {S st : List Value}, ci_vs ad S st → ci_vs ad' S st
  | [], _, hv => hv
  | _ :: _, _, hv => by obtain ⟨u, st', e1, h1, h2⟩ := hv; exact ⟨u, st', e1, h1.ext h, h2.ext h⟩
theorem ci_L.ext {ad ad' : Nat → Option Nat} (h : ci_ext ad ad') {L : List Value} {ls : Array Slot} {nL : Nat} (hl : ci_L ad L ls nL) : ci_L ad' L ls nL :=
  ⟨hl.1, hl.2.1, hl.2.2.1, fun i v h1 h2 => by obtain ⟨u, h3, h4⟩ := hl.2.2.2 i v h1 h2; exact ⟨u, h3, h4.ext h⟩⟩
theorem ci_v.cat {ad : Nat → Option Nat} {v u : Value} (h : ci_v ad v u) : u.category = v.category := by
  cases v with
  | ref k => obtain ⟨a, -, rfl⟩ := h; rfl
  | _ => have h : u = _ := h; rw [h]
theorem ci_vs.cat {ad : Nat → Option Nat} : ∀ {S st : List Value}, ci_vs ad S st → (st.map fun v => v.category).sum = (S.map fun v => v.category).sum
  | [], _, h => by have h : _ = _ := h; rw [h]
  | _ :: _, _, h => by obtain ⟨u, st', rfl, h1, h2⟩ := h; simp only [List.map_cons, List.sum_cons, h1.cat, h2.cat]
theorem ci_vs_i {ad : Nat → Option Nat} {x : Int32} {S st : List Value} (h : ci_vs ad (.int x :: S) st) : ∃ st', st = .int x :: st' ∧ ci_vs ad S st' := by
  obtain ⟨u, st', rfl, h1, h2⟩ := h; have h1 : u = _ := h1; exact ⟨st', by rw [h1], h2⟩
theorem ci_vs_l {ad : Nat → Option Nat} {x : Int64} {S st : List Value} (h : ci_vs ad (.long x :: S) st) : ∃ st', st = .long x :: st' ∧ ci_vs ad S st' := by
  obtain ⟨u, st', rfl, h1, h2⟩ := h; have h1 : u = _ := h1; exact ⟨st', by rw [h1], h2⟩
theorem ci_vs_r {ad : Nat → Option Nat} {k : Nat} {S st : List Value} (h : ci_vs ad (.ref k :: S) st) : ∃ a st', ad k = some a ∧ st = .ref a :: st' ∧ ci_vs ad S st' := by
  obtain ⟨u, st', rfl, ⟨a, h0, h1⟩, h2⟩ := h; exact ⟨a, st', h0, by rw [h1], h2⟩
theorem ci_vs_pi {ad : Nat → Option Nat} {x : Int32} {S st : List Value} (h : ci_vs ad S st) : ci_vs ad (.int x :: S) (.int x :: st) := ⟨_, _, rfl, rfl, h⟩
theorem ci_vs_pl {ad : Nat → Option Nat} {x : Int64} {S st : List Value} (h : ci_vs ad S st) : ci_vs ad (.long x :: S) (.long x :: st) := ⟨_, _, rfl, rfl, h⟩
theorem ci_vs_p {ad : Nat → Option Nat} {v u : Value} {S st : List Value} (hv : ci_v ad v u) (h : ci_vs ad S st) : ci_vs ad (v :: S) (u :: st) := ⟨_, _, rfl, hv, h⟩
-- group 1: the stack alone
def ci_ii (S : List Value) (f : Int32 → Int32 → Int32) : Option (List Value) := match S with
  | .int b :: .int a :: r => some (.int (f a b) :: r)
  | _ => none
def ci_ll (S : List Value) (f : Int64 → Int64 → Int64) : Option (List Value) := match S with
  | .long b :: .long a :: r => some (.long (f a b) :: r)
  | _ => none
def ci_li (S : List Value) (f : Int64 → Int32 → Int64) : Option (List Value) := match S with
  | .int b :: .long a :: r => some (.long (f a b) :: r)
  | _ => none
def ci_i1 (S : List Value) (f : Int32 → Int32) : Option (List Value) := match S with
  | .int a :: r => some (.int (f a) :: r)
  | _ => none
def ci_iid (S : List Value) (f : Int32 → Int32 → Int32) : Option (List Value) := match S with
  | .int b :: .int a :: r => if b = 0 then none else some (.int (f a b) :: r)
  | _ => none
def ci_lld (S : List Value) (f : Int64 → Int64 → Int64) : Option (List Value) := match S with
  | .long b :: .long a :: r => if b = 0 then none else some (.long (f a b) :: r)
  | _ => none
theorem ci_ii_inv {S S' : List Value} {f : Int32 → Int32 → Int32} (h : ci_ii S f = some S') : ∃ a b r, S = .int b :: .int a :: r ∧ S' = .int (f a b) :: r := by
  unfold ci_ii at h; split at h
  · cases h; exact ⟨_, _, _, rfl, rfl⟩
  · cases h
theorem ci_ll_inv {S S' : List Value} {f : Int64 → Int64 → Int64} (h : ci_ll S f = some S') : ∃ a b r, S = .long b :: .long a :: r ∧ S' = .long (f a b) :: r := by
  unfold ci_ll at h; split at h
  · cases h; exact ⟨_, _, _, rfl, rfl⟩
  · cases h
theorem ci_li_inv {S S' : List Value} {f : Int64 → Int32 → Int64} (h : ci_li S f = some S') : ∃ a b r, S = .int b :: .long a :: r ∧ S' = .long (f a b) :: r := by
  unfold ci_li at h; split at h
  · cases h; exact ⟨_, _, _, rfl, rfl⟩
  · cases h
theorem ci_i1_inv {S S' : List Value} {f : Int32 → Int32} (h : ci_i1 S f = some S') : ∃ a r, S = .int a :: r ∧ S' = .int (f a) :: r := by
  unfold ci_i1 at h; split at h
  · cases h; exact ⟨_, _, rfl, rfl⟩
  · cases h
theorem ci_iid_inv {S S' : List Value} {f : Int32 → Int32 → Int32} (h : ci_iid S f = some S') : ∃ a b r, S = .int b :: .int a :: r ∧ ¬ b = 0 ∧ S' = .int (f a b) :: r := by
  unfold ci_iid at h; split at h
  · split at h
    · cases h
    · cases h; exact ⟨_, _, _, rfl, by assumption, rfl⟩
  · cases h
theorem ci_lld_inv {S S' : List Value} {f : Int64 → Int64 → Int64} (h : ci_lld S f = some S') : ∃ a b r, S = .long b :: .long a :: r ∧ ¬ b = 0 ∧ S' = .long (f a b) :: r := by
  unfold ci_lld at h; split at h
  · split at h
    · cases h
    · cases h; exact ⟨_, _, _, rfl, by assumption, rfl⟩
  · cases h
def ci_ldi (L : List Value) (k : Nat) (S : List Value) : Option (List Value) := match L[k]? with
  | some (.int x) => some (.int x :: S)
  | _ => none
def ci_ldl (L : List Value) (k : Nat) (S : List Value) : Option (List Value) := match L[k]? with
  | some (.long x) => some (.long x :: S)
  | _ => none
def ci_lda (L : List Value) (k : Nat) (S : List Value) : Option (List Value) := match L[k]? with
  | some (.ref x) => some (.ref x :: S)
  | _ => none
theorem ci_ldi_inv {L S S' : List Value} {k : Nat} (h : ci_ldi L k S = some S') : ∃ x, L[k]? = some (.int x) ∧ S' = .int x :: S := by
  unfold ci_ldi at h; split at h
  next x e => cases h; exact ⟨x, e, rfl⟩
  · cases h
theorem ci_ldl_inv {L S S' : List Value} {k : Nat} (h : ci_ldl L k S = some S') : ∃ x, L[k]? = some (.long x) ∧ S' = .long x :: S := by
  unfold ci_ldl at h; split at h
  next x e => cases h; exact ⟨x, e, rfl⟩
  · cases h
theorem ci_lda_inv {L S S' : List Value} {k : Nat} (h : ci_lda L k S = some S') : ∃ x, L[k]? = some (.ref x) ∧ S' = .ref x :: S := by
  unfold ci_lda at h; split at h
  next x e => cases h; exact ⟨x, e, rfl⟩
  · cases h
theorem ci_L.i {ad : Nat → Option Nat} {L : List Value} {ls : Array Slot} {nL k : Nat} {x : Int32} (h : ci_L ad L ls nL) (hk : L[k]? = some (.int x)) : ls[k]? = some (.val (.int x)) := by
  obtain ⟨u, h1, h2⟩ := h.2.2.2 k _ hk (by simp [ci_junk]); have h2 : u = _ := h2; rw [h1, h2]
theorem ci_L.l {ad : Nat → Option Nat} {L : List Value} {ls : Array Slot} {nL k : Nat} {x : Int64} (h : ci_L ad L ls nL) (hk : L[k]? = some (.long x)) : ls[k]? = some (.val (.long x)) := by
  obtain ⟨u, h1, h2⟩ := h.2.2.2 k _ hk (by simp [ci_junk]); have h2 : u = _ := h2; rw [h1, h2]
theorem ci_L.r {ad : Nat → Option Nat} {L : List Value} {ls : Array Slot} {nL k : Nat} {x : Nat} (h : ci_L ad L ls nL) (hk : L[k]? = some (.ref x)) : ∃ a, ad x = some a ∧ ls[k]? = some (.val (.ref a)) := by
  obtain ⟨u, h1, a, h2, rfl⟩ := h.2.2.2 k _ hk (by simp [ci_junk]); exact ⟨a, h2, h1⟩
/-- dup, pop and their like, of values of one word -/
def ci_c1 (v : Value) : Bool := match v with
  | .int _ => true
  | .ref _ => true
  | .null => true
  | _ => false
theorem ci_c1.cat {v : Value} (h : ci_c1 v = true) : v.category = 1 := by cases v <;> first | rfl | (cases h)
def ci_dup (S : List Value) : Option (List Value) := match S with
  | a :: r => if ci_c1 a = true then some (a :: a :: r) else none
  | _ => none
def ci_pop (S : List Value) : Option (List Value) := match S with
  | a :: r => if ci_c1 a = true then some r else none
  | _ => none
def ci_dupx1 (S : List Value) : Option (List Value) := match S with
  | a :: b :: r => if ci_c1 a = true then if ci_c1 b = true then some (a :: b :: a :: r) else none else none
  | _ => none
def ci_dup2 (S : List Value) : Option (List Value) := match S with
  | a :: b :: r => if ci_c1 a = true then if ci_c1 b = true then some (a :: b :: a :: b :: r) else none else none
  | _ => none
theorem ci_dup_inv {S S' : List Value} (h : ci_dup S = some S') : ∃ a r, S = a :: r ∧ ci_c1 a = true ∧ S' = a :: a :: r := by
  unfold ci_dup at h; split at h
  · split at h
    · cases h; exact ⟨_, _, rfl, by assumption, rfl⟩
    · cases h
  · cases h
theorem ci_pop_inv {S S' : List Value} (h : ci_pop S = some S') : ∃ a, S = a :: S' ∧ ci_c1 a = true := by
  unfold ci_pop at h; split at h
  · split at h
    · cases h; exact ⟨_, rfl, by assumption⟩
    · cases h
  · cases h
theorem ci_dupx1_inv {S S' : List Value} (h : ci_dupx1 S = some S') : ∃ a b r, S = a :: b :: r ∧ ci_c1 a = true ∧ ci_c1 b = true ∧ S' = a :: b :: a :: r := by
  unfold ci_dupx1 at h; split at h
  · split at h
    · split at h
      · cases h; exact ⟨_, _, _, rfl, by assumption, by assumption, rfl⟩
      · cases h
    · cases h
  · cases h
theorem ci_dup2_inv {S S' : List Value} (h : ci_dup2 S = some S') : ∃ a b r, S = a :: b :: r ∧ ci_c1 a = true ∧ ci_c1 b = true ∧ S' = a :: b :: a :: b :: r := by
  unfold ci_dup2 at h; split at h
  · split at h
    · split at h
      · cases h; exact ⟨_, _, _, rfl, by assumption, by assumption, rfl⟩
      · cases h
    · cases h
  · cases h
def ci_i2l (S : List Value) : Option (List Value) := match S with
  | .int a :: r => some (.long a.toInt64 :: r)
  | _ => none
def ci_l2i (S : List Value) : Option (List Value) := match S with
  | .long a :: r => some (.int a.toInt32 :: r)
  | _ => none
def ci_lcmp (S : List Value) : Option (List Value) := match S with
  | .long b :: .long a :: r => some (.int (lg_cmp a b) :: r)
  | _ => none
theorem ci_i2l_inv {S S' : List Value} (h : ci_i2l S = some S') : ∃ a r, S = .int a :: r ∧ S' = .long a.toInt64 :: r := by
  unfold ci_i2l at h; split at h
  · cases h; exact ⟨_, _, rfl, rfl⟩
  · cases h
theorem ci_l2i_inv {S S' : List Value} (h : ci_l2i S = some S') : ∃ a r, S = .long a :: r ∧ S' = .int a.toInt32 :: r := by
  unfold ci_l2i at h; split at h
  · cases h; exact ⟨_, _, rfl, rfl⟩
  · cases h
theorem ci_lcmp_inv {S S' : List Value} (h : ci_lcmp S = some S') : ∃ a b r, S = .long b :: .long a :: r ∧ S' = .int (lg_cmp a b) :: r := by
  unfold ci_lcmp at h; split at h
  · cases h; exact ⟨_, _, _, rfl, rfl⟩
  · cases h

def ci_st1 (i : Instr) (v : Int32) (x : Nat) (L S : List Value) : Option (List Value) := match i with
  | .iconst _ => some (.int v :: S)
  | .bipush _ => some (.int v :: S)
  | .sipush _ => some (.int v :: S)
  | .ldc _ => some (.int v :: S)
  | .ldc_w _ => some (.int v :: S)
  | .ldc2_w _ => some (.long (Int64.ofNat x) :: S)
  | .lconst _ => some (.long (Int64.ofNat x) :: S)
  | .iload_n k => ci_ldi L k.val S
  | .iload k => ci_ldi L k S
  | .lload_n k => ci_ldl L k.val S
  | .lload k => ci_ldl L k S
  | .aload_n k => ci_lda L k.val S
  | .aload k => ci_lda L k S
  | .iadd => ci_ii S (fun a b => a + b)
  | .isub => ci_ii S (fun a b => a - b)
  | .imul => ci_ii S (fun a b => a * b)
  | .iand => ci_ii S (fun a b => a &&& b)
  | .ior => ci_ii S (fun a b => a ||| b)
  | .ixor => ci_ii S (fun a b => a ^^^ b)
  | .ishl => ci_ii S (fun a b => a <<< (b &&& 31))
  | .ishr => ci_ii S (fun a b => a >>> (b &&& 31))
  | .iushr => ci_ii S (fun a b => (a.toUInt32 >>> (b.toUInt32 &&& Int32.toUInt32 31)).toInt32)
  | .idiv => ci_iid S (fun a b => a / b)
  | .irem => ci_iid S (fun a b => a - a / b * b)
  | .ladd => ci_ll S (fun a b => a + b)
  | .lsub => ci_ll S (fun a b => a - b)
  | .lmul => ci_ll S (fun a b => a * b)
  | .land => ci_ll S (fun a b => a &&& b)
  | .lor => ci_ll S (fun a b => a ||| b)
  | .ldiv => ci_lld S (fun a b => a / b)
  | .lrem => ci_lld S (fun a b => a - a / b * b)
  | .lshl => ci_li S (fun a b => a <<< (b.toInt64 &&& 63))
  | .lshr => ci_li S (fun a b => a >>> (b.toInt64 &&& 63))
  | .lushr => ci_li S (fun a b => (a.toUInt64 >>> (b.toInt64.toUInt64 &&& Int64.toUInt64 63)).toInt64)
  | .ineg => ci_i1 S (fun a => -a)
  | .i2b => ci_i1 S (fun a => a.toInt8.toInt32)
  | .i2s => ci_i1 S (fun a => a.toInt16.toInt32)
  | .dup => ci_dup S
  | .pop => ci_pop S
  | .dup_x1 => ci_dupx1 S
  | .dup2 => ci_dup2 S
  | .i2l => ci_i2l S
  | .l2i => ci_l2i S
  | .lcmp => ci_lcmp S
  | _ => none
/-- what must hold of an instruction's length and numbers -/
def ci_ok1 (own : String) (args : Array Value) (s : State) (i : Instr) (len : Nat) (v : Int32) (x : Nat) : Prop := match i with
  | .iconst n => len = 1 ∧ Int32.ofInt n = v
  | .bipush n => len = 2 ∧ (Int8.ofInt n).toInt32 = v
  | .sipush n => len = 3 ∧ (Int16.ofInt n).toInt32 = v
  | .ldc k => len = 2 ∧ (Jvm.Cond.constant own k v).before args s = true
  | .ldc_w k => len = 3 ∧ (Jvm.Cond.constant own k v).before args s = true
  | .ldc2_w k => len = 3 ∧ (Jvm.Cond.constantLong own k (Int64.ofNat x)).before args s = true
  | .lconst n => len = 1 ∧ Int64.ofNat n.val = Int64.ofNat x
  | .iload _ => len = 2
  | .lload _ => len = 2
  | .aload _ => len = 2
  | _ => len = 1
section CI1
variable {p : Program} {l : Launch} {e : Env} {R : Room} {s : State} {m : MethodId} {args : Array Value} {below : List Frame} {meth : Method} {c : Code} {H : Heap} {locs : List Loc} {cells slots : Nat} {Q : State → Prop}
variable {cc : ByteArray} {pc : Nat} {ls : Array Slot} {st : List Value} {ad : Nat → Option Nat} {L S : List Value} {nL : Nat}
set_option maxHeartbeats 4000000 in
theorem ci_sim1 (hx : p.tables.exec = Jvm.exec) (hb : c.code = cc) {own : String} (hown : s.vm.findClass own = some m.cls) {i : Instr} {len : Nat} {v : Int32} {x : Nat} {S' : List Value} (hd : decode cc pc = .ok (i, len)) (hok : ci_ok1 own args s i len v x) (hst : ci_st1 i v x L S = some S') (hL : ci_L ad L ls nL) (hS : ci_vs ad S st)
    (kk : ∀ st' : List Value, ci_vs ad S' st' → W p l e R s m args below meth c H locs cells slots Q (F0 m (pc + len) ls st')) : W p l e R s m args below meth c H locs cells slots Q (F0 m pc ls st) := by
  cases i with
  | iconst n =>
    obtain ⟨rfl, hv⟩ := hok
    cases hst
    exact lv_iconst hx hb hd hv (kk _ (ci_vs_pi hS))
  | bipush n =>
    obtain ⟨rfl, hv⟩ := hok
    cases hst
    exact lv_bipush hx hb hd hv (kk _ (ci_vs_pi hS))
  | sipush n =>
    obtain ⟨rfl, hv⟩ := hok
    cases hst
    exact lv_sipush hx hb hd hv (kk _ (ci_vs_pi hS))
  | ldc n =>
    obtain ⟨rfl, hv⟩ := hok
    cases hst
    exact lv_ldc hx hb hown hv hd (kk _ (ci_vs_pi hS))
  | ldc_w n =>
    obtain ⟨rfl, hv⟩ := hok
    cases hst
    exact lv_ldcw hx hb hown hv hd (kk _ (ci_vs_pi hS))
  | ldc2_w n =>
    obtain ⟨rfl, hv⟩ := hok
    cases hst
    exact lv_ldc2 hx hb hown hv hd (kk _ (ci_vs_pl hS))
  | lconst n =>
    obtain ⟨rfl, hv⟩ := hok
    cases hst
    exact lv_lconst hx hb hd hv (kk _ (ci_vs_pl hS))
  | iload_n k =>
    have hok : len = _ := hok
    subst hok
    obtain ⟨y, h1, rfl⟩ := ci_ldi_inv hst
    exact lv_iload_n hx hb hd rfl (hL.i h1) (kk _ (ci_vs_pi hS))
  | iload k =>
    have hok : len = _ := hok
    subst hok
    obtain ⟨y, h1, rfl⟩ := ci_ldi_inv hst
    exact lv_iload hx hb hd (hL.i h1) (kk _ (ci_vs_pi hS))
  | lload_n k =>
    have hok : len = _ := hok
    subst hok
    obtain ⟨y, h1, rfl⟩ := ci_ldl_inv hst
    exact lv_lload_n hx hb hd rfl (hL.l h1) (kk _ (ci_vs_pl hS))
  | lload k =>
    have hok : len = _ := hok
    subst hok
    obtain ⟨y, h1, rfl⟩ := ci_ldl_inv hst
    exact lv_lload hx hb hd (hL.l h1) (kk _ (ci_vs_pl hS))
  | aload_n k =>
    have hok : len = _ := hok
    subst hok
    obtain ⟨y, h1, rfl⟩ := ci_lda_inv hst
    obtain ⟨a, h2, h3⟩ := hL.r h1
    exact lv_aload_n hx hb hd rfl h3 (kk _ (ci_vs_p ⟨a, h2, rfl⟩ hS))
  | aload k =>
    have hok : len = _ := hok
    subst hok
    obtain ⟨y, h1, rfl⟩ := ci_lda_inv hst
    obtain ⟨a, h2, h3⟩ := hL.r h1
    exact lv_aload hx hb hd h3 (kk _ (ci_vs_p ⟨a, h2, rfl⟩ hS))
  | iadd =>
    have hok : len = _ := hok
    subst hok
    obtain ⟨a, b, r, rfl, rfl⟩ := ci_ii_inv hst
    obtain ⟨st1, rfl, h1⟩ := ci_vs_i hS
    obtain ⟨st2, rfl, h2⟩ := ci_vs_i h1
    exact lv_iadd hx hb hd (kk _ (ci_vs_pi h2))
  | isub =>
    have hok : len = _ := hok
    subst hok
    obtain ⟨a, b, r, rfl, rfl⟩ := ci_ii_inv hst
    obtain ⟨st1, rfl, h1⟩ := ci_vs_i hS
    obtain ⟨st2, rfl, h2⟩ := ci_vs_i h1
    exact lv_isub hx hb hd (kk _ (ci_vs_pi h2))
  | imul =>
    have hok : len = _ := hok
    subst hok
    obtain ⟨a, b, r, rfl, rfl⟩ := ci_ii_inv hst
    obtain ⟨st1, rfl, h1⟩ := ci_vs_i hS
    obtain ⟨st2, rfl, h2⟩ := ci_vs_i h1
    exact lv_imul hx hb hd (kk _ (ci_vs_pi h2))
  | iand =>
    have hok : len = _ := hok
    subst hok
    obtain ⟨a, b, r, rfl, rfl⟩ := ci_ii_inv hst
    obtain ⟨st1, rfl, h1⟩ := ci_vs_i hS
    obtain ⟨st2, rfl, h2⟩ := ci_vs_i h1
    exact lv_iand hx hb hd (kk _ (ci_vs_pi h2))
  | ior =>
    have hok : len = _ := hok
    subst hok
    obtain ⟨a, b, r, rfl, rfl⟩ := ci_ii_inv hst
    obtain ⟨st1, rfl, h1⟩ := ci_vs_i hS
    obtain ⟨st2, rfl, h2⟩ := ci_vs_i h1
    exact lv_ior hx hb hd (kk _ (ci_vs_pi h2))
  | ixor =>
    have hok : len = _ := hok
    subst hok
    obtain ⟨a, b, r, rfl, rfl⟩ := ci_ii_inv hst
    obtain ⟨st1, rfl, h1⟩ := ci_vs_i hS
    obtain ⟨st2, rfl, h2⟩ := ci_vs_i h1
    exact lv_ixor hx hb hd (kk _ (ci_vs_pi h2))
  | ishl =>
    have hok : len = _ := hok
    subst hok
    obtain ⟨a, b, r, rfl, rfl⟩ := ci_ii_inv hst
    obtain ⟨st1, rfl, h1⟩ := ci_vs_i hS
    obtain ⟨st2, rfl, h2⟩ := ci_vs_i h1
    exact lv_ishl hx hb hd (kk _ (ci_vs_pi h2))
  | ishr =>
    have hok : len = _ := hok
    subst hok
    obtain ⟨a, b, r, rfl, rfl⟩ := ci_ii_inv hst
    obtain ⟨st1, rfl, h1⟩ := ci_vs_i hS
    obtain ⟨st2, rfl, h2⟩ := ci_vs_i h1
    exact lv_ishr hx hb hd (kk _ (ci_vs_pi h2))
  | iushr =>
    have hok : len = _ := hok
    subst hok
    obtain ⟨a, b, r, rfl, rfl⟩ := ci_ii_inv hst
    obtain ⟨st1, rfl, h1⟩ := ci_vs_i hS
    obtain ⟨st2, rfl, h2⟩ := ci_vs_i h1
    exact lv_iushr hx hb hd rfl (kk _ (ci_vs_pi h2))
  | idiv =>
    have hok : len = _ := hok
    subst hok
    obtain ⟨a, b, r, rfl, h0, rfl⟩ := ci_iid_inv hst
    obtain ⟨st1, rfl, h1⟩ := ci_vs_i hS
    obtain ⟨st2, rfl, h2⟩ := ci_vs_i h1
    exact lv_idiv hx hb hd h0 (kk _ (ci_vs_pi h2))
  | irem =>
    have hok : len = _ := hok
    subst hok
    obtain ⟨a, b, r, rfl, h0, rfl⟩ := ci_iid_inv hst
    obtain ⟨st1, rfl, h1⟩ := ci_vs_i hS
    obtain ⟨st2, rfl, h2⟩ := ci_vs_i h1
    exact lv_irem hx hb hd h0 (kk _ (ci_vs_pi h2))
  | ladd =>
    have hok : len = _ := hok
    subst hok
    obtain ⟨a, b, r, rfl, rfl⟩ := ci_ll_inv hst
    obtain ⟨st1, rfl, h1⟩ := ci_vs_l hS
    obtain ⟨st2, rfl, h2⟩ := ci_vs_l h1
    exact lv_ladd hx hb hd (kk _ (ci_vs_pl h2))
  | lsub =>
    have hok : len = _ := hok
    subst hok
    obtain ⟨a, b, r, rfl, rfl⟩ := ci_ll_inv hst
    obtain ⟨st1, rfl, h1⟩ := ci_vs_l hS
    obtain ⟨st2, rfl, h2⟩ := ci_vs_l h1
    exact lv_lsub hx hb hd (kk _ (ci_vs_pl h2))
  | lmul =>
    have hok : len = _ := hok
    subst hok
    obtain ⟨a, b, r, rfl, rfl⟩ := ci_ll_inv hst
    obtain ⟨st1, rfl, h1⟩ := ci_vs_l hS
    obtain ⟨st2, rfl, h2⟩ := ci_vs_l h1
    exact lv_lmul hx hb hd (kk _ (ci_vs_pl h2))
  | land =>
    have hok : len = _ := hok
    subst hok
    obtain ⟨a, b, r, rfl, rfl⟩ := ci_ll_inv hst
    obtain ⟨st1, rfl, h1⟩ := ci_vs_l hS
    obtain ⟨st2, rfl, h2⟩ := ci_vs_l h1
    exact lv_land hx hb hd (kk _ (ci_vs_pl h2))
  | lor =>
    have hok : len = _ := hok
    subst hok
    obtain ⟨a, b, r, rfl, rfl⟩ := ci_ll_inv hst
    obtain ⟨st1, rfl, h1⟩ := ci_vs_l hS
    obtain ⟨st2, rfl, h2⟩ := ci_vs_l h1
    exact lv_lor hx hb hd (kk _ (ci_vs_pl h2))
  | ldiv =>
    have hok : len = _ := hok
    subst hok
    obtain ⟨a, b, r, rfl, h0, rfl⟩ := ci_lld_inv hst
    obtain ⟨st1, rfl, h1⟩ := ci_vs_l hS
    obtain ⟨st2, rfl, h2⟩ := ci_vs_l h1
    exact lv_ldiv hx hb hd h0 (kk _ (ci_vs_pl h2))
  | lrem =>
    have hok : len = _ := hok
    subst hok
    obtain ⟨a, b, r, rfl, h0, rfl⟩ := ci_lld_inv hst
    obtain ⟨st1, rfl, h1⟩ := ci_vs_l hS
    obtain ⟨st2, rfl, h2⟩ := ci_vs_l h1
    exact lv_lrem hx hb hd h0 (kk _ (ci_vs_pl h2))
  | lshl =>
    have hok : len = _ := hok
    subst hok
    obtain ⟨a, b, r, rfl, rfl⟩ := ci_li_inv hst
    obtain ⟨st1, rfl, h1⟩ := ci_vs_i hS
    obtain ⟨st2, rfl, h2⟩ := ci_vs_l h1
    exact lv_lshl hx hb hd rfl (kk _ (ci_vs_pl h2))
  | lshr =>
    have hok : len = _ := hok
    subst hok
    obtain ⟨a, b, r, rfl, rfl⟩ := ci_li_inv hst
    obtain ⟨st1, rfl, h1⟩ := ci_vs_i hS
    obtain ⟨st2, rfl, h2⟩ := ci_vs_l h1
    exact lv_lshr hx hb hd rfl (kk _ (ci_vs_pl h2))
  | lushr =>
    have hok : len = _ := hok
    subst hok
    obtain ⟨a, b, r, rfl, rfl⟩ := ci_li_inv hst
    obtain ⟨st1, rfl, h1⟩ := ci_vs_i hS
    obtain ⟨st2, rfl, h2⟩ := ci_vs_l h1
    exact lv_lushr hx hb hd rfl (kk _ (ci_vs_pl h2))
  | ineg =>
    have hok : len = _ := hok
    subst hok
    obtain ⟨a, r, rfl, rfl⟩ := ci_i1_inv hst
    obtain ⟨st1, rfl, h1⟩ := ci_vs_i hS
    exact lv_ineg hx hb hd (kk _ (ci_vs_pi h1))
  | i2b =>
    have hok : len = _ := hok
    subst hok
    obtain ⟨a, r, rfl, rfl⟩ := ci_i1_inv hst
    obtain ⟨st1, rfl, h1⟩ := ci_vs_i hS
    exact lv_i2b hx hb hd rfl (kk _ (ci_vs_pi h1))
  | i2s =>
    have hok : len = _ := hok
    subst hok
    obtain ⟨a, r, rfl, rfl⟩ := ci_i1_inv hst
    obtain ⟨st1, rfl, h1⟩ := ci_vs_i hS
    exact lv_i2s hx hb hd rfl (kk _ (ci_vs_pi h1))
  | i2l =>
    have hok : len = _ := hok
    subst hok
    obtain ⟨a, r, rfl, rfl⟩ := ci_i2l_inv hst
    obtain ⟨st1, rfl, h1⟩ := ci_vs_i hS
    exact lv_i2l hx hb hd rfl (kk _ (ci_vs_pl h1))
  | l2i =>
    have hok : len = _ := hok
    subst hok
    obtain ⟨a, r, rfl, rfl⟩ := ci_l2i_inv hst
    obtain ⟨st1, rfl, h1⟩ := ci_vs_l hS
    exact lv_l2i hx hb hd rfl (kk _ (ci_vs_pi h1))
  | lcmp =>
    have hok : len = _ := hok
    subst hok
    obtain ⟨a, b, r, rfl, rfl⟩ := ci_lcmp_inv hst
    obtain ⟨st1, rfl, h1⟩ := ci_vs_l hS
    obtain ⟨st2, rfl, h2⟩ := ci_vs_l h1
    exact W.lcmp hx hb hd (kk _ (ci_vs_pi h2))
  | dup =>
    have hok : len = _ := hok
    subst hok
    obtain ⟨a, r, rfl, h0, rfl⟩ := ci_dup_inv hst
    obtain ⟨u, st1, rfl, h1, h2⟩ := hS
    exact lv_dup hx hb hd (h1.cat.trans (ci_c1.cat h0)) (kk _ (ci_vs_p h1 (ci_vs_p h1 h2)))
  | pop =>
    have hok : len = _ := hok
    subst hok
    obtain ⟨a, rfl, h0⟩ := ci_pop_inv hst
    obtain ⟨u, st1, rfl, h1, h2⟩ := hS
    exact lv_pop hx hb hd (h1.cat.trans (ci_c1.cat h0)) (kk _ h2)
  | dup_x1 =>
    have hok : len = _ := hok
    subst hok
    obtain ⟨a, b, r, rfl, h0, h9, rfl⟩ := ci_dupx1_inv hst
    obtain ⟨u, st1, rfl, h1, u2, st2, rfl, h3, h4⟩ := hS
    exact lv_dup_x1 hx hb hd (h1.cat.trans (ci_c1.cat h0)) (h3.cat.trans (ci_c1.cat h9)) (kk _ (ci_vs_p h1 (ci_vs_p h3 (ci_vs_p h1 h4))))
  | dup2 =>
    have hok : len = _ := hok
    subst hok
    obtain ⟨a, b, r, rfl, h0, h9, rfl⟩ := ci_dup2_inv hst
    obtain ⟨u, st1, rfl, h1, u2, st2, rfl, h3, h4⟩ := hS
    exact lv_dup2_11 hx hb hd (h1.cat.trans (ci_c1.cat h0)) (h3.cat.trans (ci_c1.cat h9)) (kk _ (ci_vs_p h1 (ci_vs_p h3 (ci_vs_p h1 (ci_vs_p h3 h4)))))
  | _ => cases hst
end CI1
-- group 2: the locals
def ci_p2 (L : List Value) (i : Nat) : Bool := match i with
  | 0 => false
  | j + 1 => match L[j]? with
    | some (.long _) => true
    | some (.double _) => true
    | _ => false
def ci_clr (L : List Value) (i : Nat) : List Value := if ci_p2 L i = true then L.set (i - 1) ci_junk else L
def ci_set (L : List Value) (i : Nat) (v : Value) : Option (List Value) := if i < L.length then some ((ci_clr L i).set i v) else none
def ci_set2 (L : List Value) (i : Nat) (v : Value) : Option (List Value) := if i + 1 < L.length then some (((ci_clr L i).set i v).set (i + 1) ci_junk) else none
def ci_sti (L : List Value) (k : Nat) (S : List Value) : Option (List Value × List Value) := match S with
  | .int x :: r => (ci_set L k (.int x)).map (fun L' => (L', r))
  | _ => none
def ci_stl (L : List Value) (k : Nat) (S : List Value) : Option (List Value × List Value) := match S with
  | .long x :: r => (ci_set2 L k (.long x)).map (fun L' => (L', r))
  | _ => none
def ci_sta (L : List Value) (k : Nat) (S : List Value) : Option (List Value × List Value) := match S with
  | .ref x :: r => (ci_set L k (.ref x)).map (fun L' => (L', r))
  | _ => none
def ci_inc (L : List Value) (k : Nat) (v : Int32) (S : List Value) : Option (List Value × List Value) := match L[k]? with
  | some (.int x) => (ci_set L k (.int (x + v))).map (fun L' => (L', S))
  | _ => none
def ci_st2 (i : Instr) (v : Int32) (L S : List Value) : Option (List Value × List Value) := match i with
  | .istore_n k => ci_sti L k.val S
  | .istore k => ci_sti L k S
  | .lstore_n k => ci_stl L k.val S
  | .lstore k => ci_stl L k S
  | .astore_n k => ci_sta L k.val S
  | .astore k => ci_sta L k S
  | .iinc k _ => ci_inc L k v S
  | _ => none
def ci_ok2 (i : Instr) (len : Nat) (v : Int32) : Prop := match i with
  | .istore _ => len = 2
  | .lstore _ => len = 2
  | .astore _ => len = 2
  | .iinc _ n => len = 3 ∧ Int32.ofInt n = v
  | _ => len = 1
theorem ci_p2_inv {L : List Value} {i j : Nat} {v : Value} (h : ci_p2 L i = false) (hj : L[j]? = some v) (e : j + 1 = i) : ¬ v.category = 2 := by
  subst e
  unfold ci_p2 at h
  simp only [hj] at h
  cases v with
  | long x => cases h
  | double x => cases h
  | _ => intro q; cases q
theorem ci_clr_len (L : List Value) (i : Nat) : (ci_clr L i).length = L.length := by
  unfold ci_clr
  split
  · rw [List.length_set]
  · rfl
theorem ci_clr_get {L : List Value} {i j : Nat} {v : Value} (h : (ci_clr L i)[j]? = some v) (hv : v ≠ ci_junk) : L[j]? = some v ∧ ¬ (j + 1 = i ∧ v.category = 2) := by
  unfold ci_clr at h
  split at h
  next hp =>
    by_cases e : j = i - 1
    · subst e
      by_cases hl : i - 1 < L.length
      · rw [List.getElem?_set_self hl] at h
        cases h
        exact absurd rfl hv
      · rw [List.getElem?_eq_none (by rw [List.length_set]; omega)] at h
        cases h
    · rw [List.getElem?_set_ne (Ne.symm e)] at h
      exact ⟨h, fun q => e (by omega)⟩
  next hp => exact ⟨h, fun q => ci_p2_inv (by simpa using hp) h q.1 q.2⟩
theorem ci_set_inv {L L' : List Value} {i : Nat} {v : Value} (h : ci_set L i v = some L') : i < L.length ∧ L' = (ci_clr L i).set i v := by
  unfold ci_set at h
  split at h
  · cases h; exact ⟨by assumption, rfl⟩
  · cases h
theorem ci_set2_inv {L L' : List Value} {i : Nat} {v : Value} (h : ci_set2 L i v = some L') : i + 1 < L.length ∧ L' = ((ci_clr L i).set i v).set (i + 1) ci_junk := by
  unfold ci_set2 at h
  split at h
  · cases h; exact ⟨by assumption, rfl⟩
  · cases h
/-- all that the locals hold -/
def ci_all (ls : Array Slot) : List (Nat × Value) := (List.range ls.size).filterMap (fun j => match (ls[j]? : Option Slot) with
  | some (Slot.val u) => some (j, u)
  | _ => none)
theorem ci_all_mem {ls : Array Slot} {j : Nat} {u : Value} : (j, u) ∈ ci_all ls ↔ ls[j]? = some (.val u) := by
  unfold ci_all
  rw [List.mem_filterMap]
  constructor
  · rintro ⟨k, -, hk⟩
    split at hk
    next w e => cases hk; exact e
    · cases hk
  · intro h
    refine ⟨j, List.mem_range.mpr (lv_lt h), ?_⟩
    rw [h]
theorem ci_all_has {ls : Array Slot} {nL : Nat} (h1 : ls.size = nL) (h2 : lv_wf ls) : lv_has ls nL (ci_all ls) := ⟨h1, h2, fun q hq => ci_all_mem.mp hq⟩
/-- behind a store of one word -/
theorem ci_L.store {ad : Nat → Option Nat} {L : List Value} {ls ls' : Array Slot} {nL i : Nat} {v u : Value} (h : ci_L ad L ls nL) (hi : i < L.length) (hv : ci_v ad v u) (h' : lv_has ls' nL ((i, u) :: (ci_all ls).filter (fun q => !(q.1 == i) && !(q.1 + 1 == i && q.2.category == 2)))) : ci_L ad ((ci_clr L i).set i v) ls' nL := by
  refine ⟨h'.1, h'.2.1, by rw [List.length_set, ci_clr_len]; exact h.2.2.1, fun j z hj hz => ?_⟩
  by_cases e : j = i
  · subst e
    rw [List.getElem?_set_self (by rw [ci_clr_len]; exact hi)] at hj
    cases hj
    exact ⟨u, h'.2.2 _ List.mem_cons_self, hv⟩
  · rw [List.getElem?_set_ne (Ne.symm e)] at hj
    obtain ⟨hj, hc0⟩ := ci_clr_get hj hz
    obtain ⟨w, h1, h2⟩ := h.2.2.2 j z hj hz
    refine ⟨w, h'.2.2 (j, w) (List.mem_cons_of_mem _ (List.mem_filter.mpr ⟨ci_all_mem.mpr h1, ?_⟩)), h2⟩
    have hc : ¬ (j + 1 = i ∧ w.category = 2) := fun q => hc0 ⟨q.1, h2.cat ▸ q.2⟩
    simp only [Bool.and_eq_true, Bool.not_eq_true', beq_eq_false_iff_ne, ne_eq, Bool.and_eq_false_iff]
    refine ⟨e, ?_⟩
    by_cases e2 : j + 1 = i
    · exact Or.inr (fun q => hc ⟨e2, q⟩)
    · exact Or.inl e2
/-- behind a store of two words -/
theorem ci_L.store2 {ad : Nat → Option Nat} {L : List Value} {ls ls' : Array Slot} {nL i : Nat} {v u : Value} (h : ci_L ad L ls nL) (hi : i + 1 < L.length) (hv : ci_v ad v u) (h' : lv_has ls' nL ((i, u) :: (ci_all ls).filter (fun q => !(q.1 == i) && (!(q.1 == i + 1) && !(q.1 + 1 == i && q.2.category == 2))))) : ci_L ad (((ci_clr L i).set i v).set (i + 1) ci_junk) ls' nL := by
  refine ⟨h'.1, h'.2.1, by rw [List.length_set, List.length_set, ci_clr_len]; exact h.2.2.1, fun j z hj hz => ?_⟩
  by_cases e1 : j = i + 1
  · subst e1
    rw [List.getElem?_set_self (by rw [List.length_set, ci_clr_len]; exact hi)] at hj
    cases hj
    exact absurd rfl hz
  · rw [List.getElem?_set_ne (Ne.symm e1)] at hj
    by_cases e : j = i
    · subst e
      rw [List.getElem?_set_self (by rw [ci_clr_len]; omega)] at hj
      cases hj
      exact ⟨u, h'.2.2 _ List.mem_cons_self, hv⟩
    · rw [List.getElem?_set_ne (Ne.symm e)] at hj
      obtain ⟨hj, hc0⟩ := ci_clr_get hj hz
      obtain ⟨w, h1, h2⟩ := h.2.2.2 j z hj hz
      refine ⟨w, h'.2.2 (j, w) (List.mem_cons_of_mem _ (List.mem_filter.mpr ⟨ci_all_mem.mpr h1, ?_⟩)), h2⟩
      have hc : ¬ (j + 1 = i ∧ w.category = 2) := fun q => hc0 ⟨q.1, h2.cat ▸ q.2⟩
      simp only [Bool.and_eq_true, Bool.not_eq_true', beq_eq_false_iff_ne, ne_eq, Bool.and_eq_false_iff]
      refine ⟨e, e1, ?_⟩
      by_cases e2 : j + 1 = i
      · exact Or.inr (fun q => hc ⟨e2, q⟩)
      · exact Or.inl e2
theorem ci_sti_inv {L S L' S' : List Value} {k : Nat} (h : ci_sti L k S = some (L', S')) : ∃ x, S = .int x :: S' ∧ ci_set L k (.int x) = some L' := by
  unfold ci_sti at h
  split at h
  · obtain ⟨q, h1, h2⟩ := Option.map_eq_some_iff.mp h
    cases h2; exact ⟨_, rfl, h1⟩
  · cases h
theorem ci_stl_inv {L S L' S' : List Value} {k : Nat} (h : ci_stl L k S = some (L', S')) : ∃ x, S = .long x :: S' ∧ ci_set2 L k (.long x) = some L' := by
  unfold ci_stl at h
  split at h
  · obtain ⟨q, h1, h2⟩ := Option.map_eq_some_iff.mp h
    cases h2; exact ⟨_, rfl, h1⟩
  · cases h
theorem ci_sta_inv {L S L' S' : List Value} {k : Nat} (h : ci_sta L k S = some (L', S')) : ∃ x, S = .ref x :: S' ∧ ci_set L k (.ref x) = some L' := by
  unfold ci_sta at h
  split at h
  · obtain ⟨q, h1, h2⟩ := Option.map_eq_some_iff.mp h
    cases h2; exact ⟨_, rfl, h1⟩
  · cases h
theorem ci_inc_inv {L S L' S' : List Value} {k : Nat} {v : Int32} (h : ci_inc L k v S = some (L', S')) : ∃ x, L[k]? = some (.int x) ∧ S' = S ∧ ci_set L k (.int (x + v)) = some L' := by
  unfold ci_inc at h
  split at h
  next x e =>
    obtain ⟨q, h1, h2⟩ := Option.map_eq_some_iff.mp h
    cases h2; exact ⟨x, e, rfl, h1⟩
  · cases h
section CI2
variable {p : Program} {l : Launch} {e : Env} {R : Room} {s : State} {m : MethodId} {args : Array Value} {below : List Frame} {meth : Method} {c : Code} {H : Heap} {locs : List Loc} {cells slots : Nat} {Q : State → Prop}
variable {cc : ByteArray} {pc : Nat} {ls : Array Slot} {st : List Value} {ad : Nat → Option Nat} {L S : List Value} {nL : Nat}
set_option maxHeartbeats 4000000 in
theorem ci_sim2 (hx : p.tables.exec = Jvm.exec) (hb : c.code = cc) {i : Instr} {len : Nat} {v : Int32} {L' S' : List Value} (hd : decode cc pc = .ok (i, len)) (hok : ci_ok2 i len v) (hst : ci_st2 i v L S = some (L', S')) (hL : ci_L ad L ls nL) (hS : ci_vs ad S st)
    (kk : ∀ (ls' : Array Slot) (st' : List Value), ci_L ad L' ls' nL → ci_vs ad S' st' → W p l e R s m args below meth c H locs cells slots Q (F0 m (pc + len) ls' st')) : W p l e R s m args below meth c H locs cells slots Q (F0 m pc ls st) := by
  have hall := ci_all_has hL.1 hL.2.1
  have hn := hL.2.2.1
  cases i with
  | istore_n k =>
    have hok : len = _ := hok
    subst hok
    obtain ⟨y, rfl, h1⟩ := ci_sti_inv hst
    obtain ⟨st1, rfl, h2⟩ := ci_vs_i hS
    obtain ⟨g2, rfl⟩ := ci_set_inv h1
    exact lv_istore_n hx hb hd rfl hall (by omega) rfl (fun ls' h' => kk ls' _ (hL.store g2 rfl h') h2)
  | istore k =>
    have hok : len = _ := hok
    subst hok
    obtain ⟨y, rfl, h1⟩ := ci_sti_inv hst
    obtain ⟨st1, rfl, h2⟩ := ci_vs_i hS
    obtain ⟨g2, rfl⟩ := ci_set_inv h1
    exact lv_istore hx hb hd hall (by omega) rfl (fun ls' h' => kk ls' _ (hL.store g2 rfl h') h2)
  | lstore_n k =>
    have hok : len = _ := hok
    subst hok
    obtain ⟨y, rfl, h1⟩ := ci_stl_inv hst
    obtain ⟨st1, rfl, h2⟩ := ci_vs_l hS
    obtain ⟨g2, rfl⟩ := ci_set2_inv h1
    exact lv_lstore_n hx hb hd rfl hall (by omega) rfl (fun ls' h' => kk ls' _ (hL.store2 g2 rfl h') h2)
  | lstore k =>
    have hok : len = _ := hok
    subst hok
    obtain ⟨y, rfl, h1⟩ := ci_stl_inv hst
    obtain ⟨st1, rfl, h2⟩ := ci_vs_l hS
    obtain ⟨g2, rfl⟩ := ci_set2_inv h1
    exact lv_lstore hx hb hd hall (by omega) rfl (fun ls' h' => kk ls' _ (hL.store2 g2 rfl h') h2)
  | astore_n k =>
    have hok : len = _ := hok
    subst hok
    obtain ⟨y, rfl, h1⟩ := ci_sta_inv hst
    obtain ⟨a, st1, h5, rfl, h2⟩ := ci_vs_r hS
    obtain ⟨g2, rfl⟩ := ci_set_inv h1
    exact lv_astore_n hx hb hd rfl hall (by omega) rfl (fun ls' h' => kk ls' _ (hL.store g2 ⟨a, h5, rfl⟩ h') h2)
  | astore k =>
    have hok : len = _ := hok
    subst hok
    obtain ⟨y, rfl, h1⟩ := ci_sta_inv hst
    obtain ⟨a, st1, h5, rfl, h2⟩ := ci_vs_r hS
    obtain ⟨g2, rfl⟩ := ci_set_inv h1
    exact lv_astore hx hb hd hall (by omega) rfl (fun ls' h' => kk ls' _ (hL.store g2 ⟨a, h5, rfl⟩ h') h2)
  | iinc k n =>
    obtain ⟨rfl, rfl⟩ := hok
    obtain ⟨y, h1, rfl, h2⟩ := ci_inc_inv hst
    obtain ⟨g2, rfl⟩ := ci_set_inv h2
    obtain ⟨j, hj⟩ := List.getElem?_of_mem (ci_all_mem.mpr (hL.i h1))
    exact lv_iinc hx hb hd hall hj rfl (by omega) rfl (fun ls' h' => kk ls' _ (hL.store g2 rfl h') hS)
  | _ => cases hst
end CI2
-- group 3: branches
def ci_br (b : Prop) [Decidable b] (x y : Nat) : Nat := if b then x else y
def ci_st3 (i : Instr) (pc x : Nat) (S : List Value) : Option (Nat × List Value) := match i with
  | .goto _ => some (x, S)
  | .ifCond .eq _ => match S with
    | .int a :: r => some (ci_br (a = 0) x (pc + 3), r)
    | _ => none
  | .ifCond .ne _ => match S with
    | .int a :: r => some (ci_br (a = 0) (pc + 3) x, r)
    | _ => none
  | .ifCond .lt _ => match S with
    | .int a :: r => some (ci_br (a < 0) x (pc + 3), r)
    | _ => none
  | .ifCond .ge _ => match S with
    | .int a :: r => some (ci_br (0 ≤ a) x (pc + 3), r)
    | _ => none
  | .ifCond .gt _ => match S with
    | .int a :: r => some (ci_br (0 < a) x (pc + 3), r)
    | _ => none
  | .ifCond .le _ => match S with
    | .int a :: r => some (ci_br (a ≤ 0) x (pc + 3), r)
    | _ => none
  | .if_icmp .eq _ => match S with
    | .int b :: .int a :: r => some (ci_br (a = b) x (pc + 3), r)
    | _ => none
  | .if_icmp .ne _ => match S with
    | .int b :: .int a :: r => some (ci_br (a = b) (pc + 3) x, r)
    | _ => none
  | .if_icmp .lt _ => match S with
    | .int b :: .int a :: r => some (ci_br (a < b) x (pc + 3), r)
    | _ => none
  | .if_icmp .ge _ => match S with
    | .int b :: .int a :: r => some (ci_br (b ≤ a) x (pc + 3), r)
    | _ => none
  | .if_icmp .gt _ => match S with
    | .int b :: .int a :: r => some (ci_br (b < a) x (pc + 3), r)
    | _ => none
  | .if_icmp .le _ => match S with
    | .int b :: .int a :: r => some (ci_br (a ≤ b) x (pc + 3), r)
    | _ => none
  | .tableswitch dflt lo hi offs => match S with
    | .int a :: r => if a.toInt < lo ∨ hi < a.toInt then some (((pc : Int) + dflt).toNat, r) else match offs[(a.toInt - lo).toNat]? with
      | some off => some (((pc : Int) + off).toNat, r)
      | none => none
    | _ => none
  | .lookupswitch dflt ps => match S with
    | .int a :: r => some (((pc : Int) + Op.lookupswitch.offset ps.toList dflt a.toInt).toNat, r)
    | _ => none
  | _ => none
def ci_ok3 (i : Instr) (pc len x : Nat) : Prop := match i with
  | .goto off => len = 3 ∧ (pc : Int) + off = (x : Int)
  | .ifCond _ off => len = 3 ∧ (pc : Int) + off = (x : Int)
  | .if_icmp _ off => len = 3 ∧ (pc : Int) + off = (x : Int)
  | .tableswitch dflt _ _ offs => 0 ≤ (pc : Int) + dflt ∧ ∀ off ∈ offs.toList, 0 ≤ (pc : Int) + off
  | .lookupswitch dflt ps => 0 ≤ (pc : Int) + dflt ∧ (∀ q ∈ ps.toList, 0 ≤ (pc : Int) + q.2) ∧ (ps.toList.zip (ps.toList.drop 1)).all (fun (a, next) => a.1 < next.1) = true
  | _ => True
theorem ci_off {dflt t : Int} {pc : Nat} : ∀ (ps : List (Int × Int)), 0 ≤ (pc : Int) + dflt → (∀ q ∈ ps, 0 ≤ (pc : Int) + q.2) → 0 ≤ (pc : Int) + Op.lookupswitch.offset ps dflt t
  | [], h, _ => by rw [show Op.lookupswitch.offset [] dflt t = dflt from rfl]; exact h
  | q :: ps, h, hq => by
    obtain ⟨a, o⟩ := q
    rw [Op.lookupswitch.offset_cons]
    split
    · exact hq (a, o) List.mem_cons_self
    · exact ci_off ps h (fun z hz => hq z (List.mem_cons_of_mem _ hz))
section CI3
variable {p : Program} {l : Launch} {e : Env} {R : Room} {s : State} {m : MethodId} {args : Array Value} {below : List Frame} {meth : Method} {c : Code} {H : Heap} {locs : List Loc} {cells slots : Nat} {Q : State → Prop}
variable {cc : ByteArray} {pc : Nat} {ls : Array Slot} {st : List Value} {ad : Nat → Option Nat} {S : List Value}
set_option maxHeartbeats 4000000 in
theorem ci_sim3 (hx : p.tables.exec = Jvm.exec) (hb : c.code = cc) {i : Instr} {len x pc' : Nat} {S' : List Value} (hd : decode cc pc = .ok (i, len)) (hok : ci_ok3 i pc len x) (hst : ci_st3 i pc x S = some (pc', S')) (hS : ci_vs ad S st)
    (kk : ∀ st' : List Value, ci_vs ad S' st' → W p l e R s m args below meth c H locs cells slots Q (F0 m pc' ls st')) : W p l e R s m args below meth c H locs cells slots Q (F0 m pc ls st) := by
  cases i with
  | goto off =>
    obtain ⟨rfl, ht⟩ := hok
    cases hst
    exact lv_goto hx hb hd ht (kk _ hS)
  | ifCond cd off =>
    obtain ⟨rfl, ht⟩ := hok
    cases cd
    · simp only [ci_st3] at hst
      split at hst
      · cases hst
        obtain ⟨st1, rfl, h1⟩ := ci_vs_i hS
        exact lv_if_eq hx hb hd ht (fun h => by rw [ci_br, if_pos h] at kk; exact kk _ h1) (fun h => by rw [ci_br, if_neg h] at kk; exact kk _ h1)
      · cases hst
    · simp only [ci_st3] at hst
      split at hst
      · cases hst
        obtain ⟨st1, rfl, h1⟩ := ci_vs_i hS
        exact lv_if_ne hx hb hd ht (fun h => by rw [ci_br, if_neg h] at kk; exact kk _ h1) (fun h => by rw [ci_br, if_pos h] at kk; exact kk _ h1)
      · cases hst
    · simp only [ci_st3] at hst
      split at hst
      · cases hst
        obtain ⟨st1, rfl, h1⟩ := ci_vs_i hS
        exact lv_if_lt hx hb hd ht (fun h => by rw [ci_br, if_pos h] at kk; exact kk _ h1) (fun h => by rw [ci_br, if_neg h] at kk; exact kk _ h1)
      · cases hst
    · simp only [ci_st3] at hst
      split at hst
      · cases hst
        obtain ⟨st1, rfl, h1⟩ := ci_vs_i hS
        exact lv_if_ge hx hb hd ht (fun h => by rw [ci_br, if_pos h] at kk; exact kk _ h1) (fun h => by rw [ci_br, if_neg h] at kk; exact kk _ h1)
      · cases hst
    · simp only [ci_st3] at hst
      split at hst
      · cases hst
        obtain ⟨st1, rfl, h1⟩ := ci_vs_i hS
        exact lv_if_gt hx hb hd ht (fun h => by rw [ci_br, if_pos h] at kk; exact kk _ h1) (fun h => by rw [ci_br, if_neg h] at kk; exact kk _ h1)
      · cases hst
    · simp only [ci_st3] at hst
      split at hst
      · cases hst
        obtain ⟨st1, rfl, h1⟩ := ci_vs_i hS
        exact lv_if_le hx hb hd ht (fun h => by rw [ci_br, if_pos h] at kk; exact kk _ h1) (fun h => by rw [ci_br, if_neg h] at kk; exact kk _ h1)
      · cases hst
  | if_icmp cd off =>
    obtain ⟨rfl, ht⟩ := hok
    cases cd
    · simp only [ci_st3] at hst
      split at hst
      · cases hst
        obtain ⟨st1, rfl, h1⟩ := ci_vs_i hS
        obtain ⟨st2, rfl, h2⟩ := ci_vs_i h1
        exact lv_icmp_eq hx hb hd ht (fun h => by rw [ci_br, if_pos h] at kk; exact kk _ h2) (fun h => by rw [ci_br, if_neg h] at kk; exact kk _ h2)
      · cases hst
    · simp only [ci_st3] at hst
      split at hst
      · cases hst
        obtain ⟨st1, rfl, h1⟩ := ci_vs_i hS
        obtain ⟨st2, rfl, h2⟩ := ci_vs_i h1
        exact lv_icmp_ne hx hb hd ht (fun h => by rw [ci_br, if_neg h] at kk; exact kk _ h2) (fun h => by rw [ci_br, if_pos h] at kk; exact kk _ h2)
      · cases hst
    · simp only [ci_st3] at hst
      split at hst
      · cases hst
        obtain ⟨st1, rfl, h1⟩ := ci_vs_i hS
        obtain ⟨st2, rfl, h2⟩ := ci_vs_i h1
        exact lv_icmp_lt hx hb hd ht (fun h => by rw [ci_br, if_pos h] at kk; exact kk _ h2) (fun h => by rw [ci_br, if_neg h] at kk; exact kk _ h2)
      · cases hst
    · simp only [ci_st3] at hst
      split at hst
      · cases hst
        obtain ⟨st1, rfl, h1⟩ := ci_vs_i hS
        obtain ⟨st2, rfl, h2⟩ := ci_vs_i h1
        exact lv_icmp_ge hx hb hd ht (fun h => by rw [ci_br, if_pos h] at kk; exact kk _ h2) (fun h => by rw [ci_br, if_neg h] at kk; exact kk _ h2)
      · cases hst
    · simp only [ci_st3] at hst
      split at hst
      · cases hst
        obtain ⟨st1, rfl, h1⟩ := ci_vs_i hS
        obtain ⟨st2, rfl, h2⟩ := ci_vs_i h1
        exact lv_icmp_gt hx hb hd ht (fun h => by rw [ci_br, if_pos h] at kk; exact kk _ h2) (fun h => by rw [ci_br, if_neg h] at kk; exact kk _ h2)
      · cases hst
    · simp only [ci_st3] at hst
      split at hst
      · cases hst
        obtain ⟨st1, rfl, h1⟩ := ci_vs_i hS
        obtain ⟨st2, rfl, h2⟩ := ci_vs_i h1
        exact lv_icmp_le hx hb hd ht (fun h => by rw [ci_br, if_pos h] at kk; exact kk _ h2) (fun h => by rw [ci_br, if_neg h] at kk; exact kk _ h2)
      · cases hst
  | tableswitch dflt lo hi offs =>
    obtain ⟨hd0, hall⟩ := hok
    simp only [ci_st3] at hst
    split at hst
    · obtain ⟨st1, rfl, h1⟩ := ci_vs_i hS
      split at hst
      next hout =>
        cases hst
        exact lv_tableOut hx hb hd hout (Int.toNat_of_nonneg hd0).symm (kk _ h1)
      next hin =>
        split at hst
        next off ho =>
          cases hst
          exact lv_tableIn hx hb hd (fun q => hin (Or.inl q)) (fun q => hin (Or.inr q)) ho (Int.toNat_of_nonneg (hall off (by rw [← Array.getElem?_toList] at ho; exact List.mem_of_getElem? ho))).symm (kk _ h1)
        · cases hst
    · cases hst
  | lookupswitch dflt ps =>
    obtain ⟨hd0, hall, hp⟩ := hok
    simp only [ci_st3] at hst
    split at hst
    · cases hst
      obtain ⟨st1, rfl, h1⟩ := ci_vs_i hS
      exact lv_lookup hx hb hd hp rfl (Int.toNat_of_nonneg (ci_off _ hd0 hall)).symm (kk _ h1)
    · cases hst
  | _ => cases hst
end CI3
