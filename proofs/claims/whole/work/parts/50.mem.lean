/-! PURE: the cells behind the constructors, by what they hold. -/
/-- ints and longs, by the cell's number and the place in it -/
abbrev Mem : Type := (Nat → Nat → Int32) × (Nat → Nat → Int64)
/-- what never changes: rows of references; other cells -/
abbrev Kp : Type := (Nat → Nat → Option Nat) × ci_H
def hp_v (μ : Mem) (a j k : Nat) : Value := match k with
  | 0 => .int (μ.1 a j)
  | 1 => .long (μ.2 a j)
  | 2 => if μ.1 a j = 0 then .null else .ref (μ.1 a j).toNatClampNeg
  | k + 3 => .ref k
def hp_f (μ : Mem) (a : Nat) : Nat → List Nat → List Value
  | _, [] => []
  | j, k :: r => hp_v μ a j k :: hp_f μ a (j + 1) r
def hp_c (κ : Kp) (μ : Mem) (a : Nat) (s : Nat × Nat × List Nat) : ci_C := match s.1 with
  | 0 => .inl (.int, s.2.1, .inl (μ.1 a))
  | 1 => .inl (.long, s.2.1, .inr (.inl (μ.2 a)))
  | 2 => .inl (.byte, s.2.1, .inl (μ.1 a))
  | 3 => .inl (.boolean, s.2.1, .inl (μ.1 a))
  | 4 => .inl (.object "TwoAtMost$State", s.2.1, .inr (.inr (.inr (.inr (κ.1 a)))))
  | 5 => .inl (.array .int, s.2.1, .inr (.inr (.inr (.inr (κ.1 a)))))
  | _ => .inr (s.2.1, hp_f μ a 0 s.2.2)
def hp_T : List (Nat × Nat × List Nat) := [(6, 11, [4, 14, 16, 20, 23, 27, 94, 0, 95, 106, 107, 112, 113, 0, 114, 115, 119, 128, 129]), (6, 10, [5, 10, 11, 12, 13, 0, 0, 0, 0]), (6, 6, [6, 7, 8, 9, 0]), (0, 12, []), (0, 12, []), (0, 12, []), (0, 5, []), (0, 6, []), (0, 6, []), (0, 6, []), (0, 12, []), (6, 9, [15, 0, 0, 0]), (0, 80, []), (6, 8, [14, 17, 18, 19]), (0, 20, []), (0, 20, []), (0, 20, []), (6, 4, [21, 22, 0]), (0, 40, []), (0, 40, []), (6, 5, [14, 24]), (6, 4, [25, 26, 0]), (0, 40, []), (0, 40, []), (6, 2, [28, 0, 0]), (4, 13, []), (6, 6, [30, 31, 32, 33, 0]), (0, 12, []), (0, 12, []), (0, 12, []), (0, 5, []), (6, 6, [35, 36, 37, 38, 0]), (0, 12, []), (0, 12, []), (0, 12, []), (0, 5, []), (6, 6, [40, 41, 42, 43, 0]), (0, 12, []), (0, 12, []), (0, 12, []), (0, 5, []), (6, 6, [45, 46, 47, 48, 0]), (0, 12, []), (0, 12, []), (0, 12, []), (0, 5, []), (6, 6, [50, 51, 52, 53, 0]), (0, 12, []), (0, 12, []), (0, 12, []), (0, 5, []), (6, 6, [55, 56, 57, 58, 0]), (0, 12, []), (0, 12, []), (0, 12, []), (0, 5, []), (6, 6, [60, 61, 62, 63, 0]), (0, 12, []), (0, 12, []), (0, 12, []), (0, 5, []), (6, 6, [65, 66, 67, 68, 0]), (0, 12, []), (0, 12, []), (0, 12, []), (0, 5, []), (6, 6, [70, 71, 72, 73, 0]), (0, 12, []), (0, 12, []), (0, 12, []), (0, 5, []), (6, 6, [75, 76, 77, 78, 0]), (0, 12, []), (0, 12, []), (0, 12, []), (0, 5, []), (6, 6, [80, 81, 82, 83, 0]), (0, 12, []), (0, 12, []), (0, 12, []), (0, 5, []), (6, 6, [85, 86, 87, 88, 0]), (0, 12, []), (0, 12, []), (0, 12, []), (0, 5, []), (6, 6, [90, 91, 92, 93, 0]), (0, 12, []), (0, 12, []), (0, 12, []), (0, 5, []), (1, 6, []), (4, 2, []), (6, 6, [97, 98, 99, 100, 0]), (0, 12, []), (0, 12, []), (0, 12, []), (0, 5, []), (6, 6, [102, 103, 104, 105, 0]), (0, 12, []), (0, 12, []), (0, 12, []), (0, 5, []), (3, 2, []), (6, 6, [108, 109, 110, 111, 0]), (0, 12, []), (0, 12, []), (0, 12, []), (0, 5, []), (0, 12, []), (0, 12, []), (6, 0, [4, 0, 0, 0]), (6, 7, [4, 116, 117, 118, 0]), (0, 6, []), (0, 5, []), (0, 6, []), (6, 1, [4, 20, 120, 126, 127]), (5, 5, []), (0, 12, []), (0, 12, []), (0, 12, []), (0, 12, []), (0, 12, []), (0, 32, []), (0, 5, []), (6, 3, [1, 1]), (1, 13, []), (6, 12, [131, 0, 0, 0, 132, 133, 0, 134, 0, 135, 0, 0, 2, 0, 0, 0, 0, 136, 137, 0, 0, 138, 139, 0, 140, 141, 142, 143, 144, 0, 0, 145, 146, 0, 0, 1, 1, 147, 0, 0, 148, 149, 150]), (0, 42, []), (0, 6, []), (0, 6, []), (2, 80, []), (1, 20, []), (0, 24, []), (2, 40, []), (0, 6, []), (0, 504, []), (0, 42, []), (0, 42, []), (0, 240, []), (0, 12, []), (0, 12, []), (0, 60, []), (0, 12, []), (1, 13, []), (0, 84, []), (3, 2, []), (0, 2, []), (1, 1, [])]
def hp (κ : Kp) (μ : Mem) : ci_H := fun a => match hp_T[a]? with
  | some s => hp_c κ μ a s
  | none => κ.2 a
def rowI (μ : Mem) (a : Nat) (f : Nat → Int32) : Mem := (fun a' => if a' = a then f else μ.1 a', μ.2)
def rowL (μ : Mem) (a : Nat) (f : Nat → Int64) : Mem := (μ.1, fun a' => if a' = a then f else μ.2 a')
abbrev upI (μ : Mem) (a j : Nat) (v : Int32) : Mem := rowI μ a (upd (μ.1 a) j v)
abbrev upL (μ : Mem) (a j : Nat) (v : Int64) : Mem := rowL μ a (vp_updL (μ.2 a) j v)
theorem rowI_s {μ : Mem} {a : Nat} {f : Nat → Int32} : (rowI μ a f).1 a = f := if_pos rfl
theorem rowI_n {μ : Mem} {a b : Nat} {f : Nat → Int32} (h : b ≠ a) : (rowI μ a f).1 b = μ.1 b := if_neg h
theorem rowI_l {μ : Mem} {a : Nat} {f : Nat → Int32} : (rowI μ a f).2 = μ.2 := rfl
theorem rowL_s {μ : Mem} {a : Nat} {f : Nat → Int64} : (rowL μ a f).2 a = f := if_pos rfl
theorem rowL_n {μ : Mem} {a b : Nat} {f : Nat → Int64} (h : b ≠ a) : (rowL μ a f).2 b = μ.2 b := if_neg h
theorem rowL_i {μ : Mem} {a : Nat} {f : Nat → Int64} : (rowL μ a f).1 = μ.1 := rfl
theorem rowI_rowI {μ : Mem} {a : Nat} {f g : Nat → Int32} : rowI (rowI μ a f) a g = rowI μ a g := by
  unfold rowI
  congr 1
  funext b
  dsimp only
  split <;> rfl
theorem rowI_id {μ : Mem} {a : Nat} : rowI μ a (μ.1 a) = μ := by
  unfold rowI
  refine Prod.ext ?_ rfl
  funext b
  dsimp only
  split
  next h => rw [h]
  · rfl
theorem hp_len : hp_T.length = 149 := by decide +kernel
theorem hp_lt {a : Nat} {s : Nat × Nat × List Nat} (h : hp_T[a]? = some s) : ¬ a = ci_scr := by
  intro e
  have h1 := (List.getElem?_eq_some_iff.mp h).1
  rw [hp_len, e] at h1
  exact absurd h1 (by decide)
theorem hp_ns0 : (hp_T.all fun s => decide (s.2.1 ≤ 1000)) = true := by decide +kernel
theorem hp_ns : ∀ s ∈ hp_T, s.2.1 ≤ 1000 := fun s hs => of_decide_eq_true (List.all_eq_true.mp hp_ns0 s hs)
theorem hp_n {a : Nat} {s : Nat × Nat × List Nat} (h : hp_T[a]? = some s) : s.2.1 ≤ 1000 := hp_ns s (List.mem_of_getElem? h)
theorem hp_at {κ : Kp} {μ : Mem} {a : Nat} {s : Nat × Nat × List Nat} (h : hp_T[a]? = some s) : hp κ μ a = hp_c κ μ a s := by
  unfold hp
  rw [h]
theorem hp_f_get (μ : Mem) (a : Nat) : ∀ (fs : List Nat) (j y : Nat), (hp_f μ a j fs)[y]? = (fs[y]?).map (hp_v μ a (j + y))
  | [], _, _ => rfl
  | k :: r, j, 0 => rfl
  | k :: r, j, y + 1 => by
    show (hp_f μ a (j + 1) r)[y]? = _
    rw [hp_f_get μ a r (j + 1) y, show j + 1 + y = j + (y + 1) by omega]
    rfl
theorem hp_f_len (μ : Mem) (a : Nat) : ∀ (fs : List Nat) (j : Nat), (hp_f μ a j fs).length = fs.length
  | [], _ => rfl
  | _ :: r, j => congrArg (· + 1) (hp_f_len μ a r (j + 1))
theorem hp_v_congr {μ ν : Mem} {a : Nat} (h1 : μ.1 a = ν.1 a) (h2 : μ.2 a = ν.2 a) (j k : Nat) : hp_v μ a j k = hp_v ν a j k := by
  unfold hp_v
  rw [h1, h2]
theorem hp_f_congr {μ ν : Mem} {a : Nat} (h1 : μ.1 a = ν.1 a) (h2 : μ.2 a = ν.2 a) : ∀ (fs : List Nat) (j : Nat), hp_f μ a j fs = hp_f ν a j fs
  | [], _ => rfl
  | k :: r, j => by unfold hp_f; rw [hp_v_congr h1 h2, hp_f_congr h1 h2 r (j + 1)]
theorem hp_congr {κ : Kp} {μ ν : Mem} {a : Nat} (h1 : μ.1 a = ν.1 a) (h2 : μ.2 a = ν.2 a) : hp κ μ a = hp κ ν a := by
  unfold hp
  split
  · unfold hp_c
    rw [h1, h2, hp_f_congr h1 h2]
  · rfl
theorem ci_obj_hp {κ : Kp} {μ : Mem} {a x : Nat} {fs : List Nat} (h : hp_T[a]? = some (6, x, fs)) : ci_obj (hp κ μ) a = some (x, hp_f μ a 0 fs) := by
  unfold ci_obj
  rw [if_neg (hp_lt h), hp_at h]
  rfl
theorem kO_hp {κ : Kp} {μ : Mem} {a x : Nat} {fs : List Nat} (h : hp_T[a]? = some (6, x, fs)) : kO (hp κ μ) a = some x := by
  unfold kO
  rw [ci_obj_hp h]
  rfl
theorem gI_hp {κ : Kp} {μ : Mem} {a x y : Nat} {fs : List Nat} (h : hp_T[a]? = some (6, x, fs)) (hy : fs[y]? = some 0) : gI (hp κ μ) a x y = some (μ.1 a y) := by
  unfold gI
  rw [ci_obj_hp h]
  dsimp only
  rw [if_pos rfl, hp_f_get, hy, Nat.zero_add]
  rfl
theorem gL_hp {κ : Kp} {μ : Mem} {a x y : Nat} {fs : List Nat} (h : hp_T[a]? = some (6, x, fs)) (hy : fs[y]? = some 1) : gL (hp κ μ) a x y = some (μ.2 a y) := by
  unfold gL
  rw [ci_obj_hp h]
  dsimp only
  rw [if_pos rfl, hp_f_get, hy, Nat.zero_add]
  rfl
theorem gR_hp {κ : Kp} {μ : Mem} {a x y k : Nat} {fs : List Nat} (h : hp_T[a]? = some (6, x, fs)) (hy : fs[y]? = some (k + 3)) : gR (hp κ μ) a x y = some k := by
  unfold gR
  rw [ci_obj_hp h]
  dsimp only
  rw [if_pos rfl, hp_f_get, hy, Nat.zero_add]
  rfl
/-- the reference that changes -/
theorem gM_hp {κ : Kp} {μ : Mem} {a x y k : Nat} {fs : List Nat} (h : hp_T[a]? = some (6, x, fs)) (hy : fs[y]? = some 2) (hv : μ.1 a y = nI k) (h0 : 0 < k) (hk : k < 1000) : gR (hp κ μ) a x y = some k := by
  unfold gR
  rw [ci_obj_hp h]
  dsimp only
  rw [if_pos rfl, hp_f_get, hy, Nat.zero_add]
  show (match some (hp_v μ a y 2) with
    | some (.ref v) => some v
    | _ => none) = some k
  unfold hp_v
  dsimp only
  rw [hv, if_neg (nI_ne0 h0 (by omega)), nI_clamp (by omega)]
theorem hp_up {κ : Kp} {μ ν : Mem} {a : Nat} {s : Nat × Nat × List Nat} {q : ci_C} (h : hp_T[a]? = some s) (hq : q = hp_c κ ν a s) (h1 : ∀ b, b ≠ a → ν.1 b = μ.1 b) (h2 : ∀ b, b ≠ a → ν.2 b = μ.2 b) : va_up (hp κ μ) a q = hp κ ν := by
  funext b
  unfold va_up
  by_cases e : b = a
  · rw [if_pos e, e, hp_at h, hq]
  · rw [if_neg e]
    exact hp_congr (h1 b e).symm (h2 b e).symm
theorem pF_hp {κ : Kp} {μ : Mem} {a x y : Nat} {fs : List Nat} {v : Int32} (h : hp_T[a]? = some (6, x, fs)) (hy : fs[y]? = some 0) (hf : fits (ci_fty x y) (.int v) = true) : pF (hp κ μ) a x y (.int v) = some (hp κ (upI μ a y v)) := by
  unfold pF ci_pf
  dsimp only
  rw [ci_obj_hp h]
  dsimp only
  rw [if_pos rfl, if_pos hf, if_pos (by rw [hp_f_len]; exact (List.getElem?_eq_some_iff.mp hy).1)]
  show some (va_up (hp κ μ) a (.inr (x, (hp_f μ a 0 fs).set y (.int v)))) = _
  rw [hp_up (ν := upI μ a y v) h _ (fun b hb => rowI_n hb) (fun b hb => rfl)]
  show Sum.inr (x, _) = Sum.inr (x, hp_f (upI μ a y v) a 0 fs)
  congr 2
  refine List.ext_getElem? (fun i => ?_)
  rw [hp_f_get, List.getElem?_set, hp_f_len, hp_f_get, Nat.zero_add]
  by_cases e : y = i
  · subst e
    rw [if_pos rfl, if_pos (List.getElem?_eq_some_iff.mp hy).1, hy]
    show _ = some (Value.int ((upI μ a y v).1 a y))
    rw [rowI_s, pk_us]
  · rw [if_neg e]
    congr 1
    funext k
    unfold hp_v
    rw [rowI_s, pk_un (Ne.symm e)]
    rfl
theorem pM_hp {κ : Kp} {μ : Mem} {a x y k : Nat} {fs : List Nat} (h : hp_T[a]? = some (6, x, fs)) (hy : fs[y]? = some 2) (hf : fits (ci_fty x y) (.ref k) = true) (h0 : 0 < k) (hk : k < 1000) : pF (hp κ μ) a x y (.ref k) = some (hp κ (upI μ a y (nI k))) := by
  unfold pF ci_pf
  dsimp only
  rw [ci_obj_hp h]
  dsimp only
  rw [if_pos rfl, if_pos hf, if_pos (by rw [hp_f_len]; exact (List.getElem?_eq_some_iff.mp hy).1)]
  show some (va_up (hp κ μ) a (.inr (x, (hp_f μ a 0 fs).set y (.ref k)))) = _
  rw [hp_up (ν := upI μ a y (nI k)) h _ (fun b hb => rowI_n hb) (fun b hb => rfl)]
  show Sum.inr (x, _) = Sum.inr (x, hp_f (upI μ a y (nI k)) a 0 fs)
  congr 2
  refine List.ext_getElem? (fun i => ?_)
  rw [hp_f_get, List.getElem?_set, hp_f_len, hp_f_get, Nat.zero_add]
  by_cases e : y = i
  · subst e
    rw [if_pos rfl, if_pos (List.getElem?_eq_some_iff.mp hy).1, hy]
    show _ = some (hp_v (upI μ a y (nI k)) a y 2)
    unfold hp_v
    dsimp only
    rw [rowI_s, pk_us, if_neg (nI_ne0 h0 (by omega)), nI_clamp (by omega)]
  · rw [if_neg e]
    congr 1
    funext k
    unfold hp_v
    rw [rowI_s, pk_un (Ne.symm e)]
    rfl
theorem pL_hp {κ : Kp} {μ : Mem} {a x y : Nat} {fs : List Nat} {v : Int64} (h : hp_T[a]? = some (6, x, fs)) (hy : fs[y]? = some 1) (hf : fits (ci_fty x y) (.long v) = true) : pF (hp κ μ) a x y (.long v) = some (hp κ (upL μ a y v)) := by
  unfold pF ci_pf
  dsimp only
  rw [ci_obj_hp h]
  dsimp only
  rw [if_pos rfl, if_pos hf, if_pos (by rw [hp_f_len]; exact (List.getElem?_eq_some_iff.mp hy).1)]
  show some (va_up (hp κ μ) a (.inr (x, (hp_f μ a 0 fs).set y (.long v)))) = _
  rw [hp_up (μ := μ) (ν := upL μ a y v) h _ (fun b hb => rfl) (fun b hb => rowL_n hb)]
  show Sum.inr (x, _) = Sum.inr (x, hp_f (upL μ a y v) a 0 fs)
  congr 2
  refine List.ext_getElem? (fun i => ?_)
  rw [hp_f_get, List.getElem?_set, hp_f_len, hp_f_get, Nat.zero_add]
  by_cases e : y = i
  · subst e
    rw [if_pos rfl, if_pos (List.getElem?_eq_some_iff.mp hy).1, hy]
    show _ = some (Value.long ((upL μ a y v).2 a y))
    rw [rowL_s, pk_uLs]
  · rw [if_neg e]
    congr 1
    funext k
    unfold hp_v
    rw [rowL_s, pk_uLn (Ne.symm e)]
    rfl
theorem ci_arr_hp {κ : Kp} {μ : Mem} {a : Nat} {s : Nat × Nat × List Nat} (h : hp_T[a]? = some s) : ci_arr (hp κ μ) a = match hp_c κ μ a s with
    | .inl q => some q
    | .inr _ => none := by
  unfold ci_arr
  rw [if_neg (hp_lt h), hp_at h]
  cases hp_c κ μ a s <;> rfl
theorem ci_in_nI {k n : Nat} (h : k < n) (hn : n ≤ 1000) : ci_in (nI k) n = true := decide_eq_true (nI_in h (by omega))
theorem rI_hp {κ : Kp} {μ : Mem} {a k n : Nat} {fs : List Nat} (h : hp_T[a]? = some (0, n, fs)) (hk : k < n) : rI (hp κ μ) a (nI k) = some (μ.1 a k) := by
  have hn : n ≤ 1000 := hp_n h
  unfold rI
  rw [ci_arr_hp h]
  show (if ci_in (nI k) n = true then some (μ.1 a (nI k).toNatClampNeg) else none) = _
  rw [if_pos (ci_in_nI hk hn), nI_clamp (by omega)]
theorem rB_hp {κ : Kp} {μ : Mem} {a k n : Nat} {fs : List Nat} (h : hp_T[a]? = some (2, n, fs)) (hk : k < n) : rB (hp κ μ) a (nI k) = some (μ.1 a k) := by
  have hn : n ≤ 1000 := hp_n h
  unfold rB
  rw [ci_arr_hp h]
  show (if ci_in (nI k) n = true then some (μ.1 a (nI k).toNatClampNeg) else none) = _
  rw [if_pos (ci_in_nI hk hn), nI_clamp (by omega)]
theorem rZ_hp {κ : Kp} {μ : Mem} {a k n : Nat} {fs : List Nat} (h : hp_T[a]? = some (3, n, fs)) (hk : k < n) : rB (hp κ μ) a (nI k) = some (μ.1 a k) := by
  have hn : n ≤ 1000 := hp_n h
  unfold rB
  rw [ci_arr_hp h]
  show (if ci_in (nI k) n = true then some (μ.1 a (nI k).toNatClampNeg) else none) = _
  rw [if_pos (ci_in_nI hk hn), nI_clamp (by omega)]
theorem rL_hp {κ : Kp} {μ : Mem} {a k n : Nat} {fs : List Nat} (h : hp_T[a]? = some (1, n, fs)) (hk : k < n) : rL (hp κ μ) a (nI k) = some (μ.2 a k) := by
  have hn : n ≤ 1000 := hp_n h
  unfold rL
  rw [ci_arr_hp h]
  show (if ci_in (nI k) n = true then some (μ.2 a (nI k).toNatClampNeg) else none) = _
  rw [if_pos (ci_in_nI hk hn), nI_clamp (by omega)]
theorem rR_hp {κ : Kp} {μ : Mem} {a k n t : Nat} {fs : List Nat} (h : hp_T[a]? = some (t, n, fs)) (ht : t = 4 ∨ t = 5) (hk : k < n) : rR (hp κ μ) a (nI k) = κ.1 a k := by
  have hn : n ≤ 1000 := hp_n h
  unfold rR
  rw [ci_arr_hp h]
  rcases ht with rfl | rfl
  · show (if _ then if ci_in (nI k) n = true then κ.1 a (nI k).toNatClampNeg else none else none) = _
    rw [if_pos (by rfl), if_pos (ci_in_nI hk hn), nI_clamp (by omega)]
  · show (if _ then if ci_in (nI k) n = true then κ.1 a (nI k).toNatClampNeg else none else none) = _
    rw [if_pos (by rfl), if_pos (ci_in_nI hk hn), nI_clamp (by omega)]
theorem wI_hp {κ : Kp} {μ : Mem} {a k n : Nat} {fs : List Nat} {v : Int32} (h : hp_T[a]? = some (0, n, fs)) (hk : k < n) : wI (hp κ μ) a (nI k) v = some (hp κ (upI μ a k v)) := by
  have hn : n ≤ 1000 := hp_n h
  unfold wI ci_ias
  dsimp only
  rw [ci_arr_hp h]
  show Option.map _ (if ci_in (nI k) n = true then some ([], va_up (hp κ μ) a (.inl (.int, n, .inl (upd (μ.1 a) (nI k).toNatClampNeg v)))) else none) = _
  rw [if_pos (ci_in_nI hk hn), nI_clamp (by omega), hp_up (ν := upI μ a k v) h _ (fun b hb => rowI_n hb) (fun b hb => rfl)]
  · rfl
  · show _ = Sum.inl (FieldType.int, n, Sum.inl ((upI μ a k v).1 a))
    rw [rowI_s]
theorem wB_hp {κ : Kp} {μ : Mem} {a k n : Nat} {fs : List Nat} {v : Int32} (h : hp_T[a]? = some (2, n, fs)) (hk : k < n) : wB (hp κ μ) a (nI k) v = some (hp κ (upI μ a k (vp_nar .byte v))) := by
  have hn : n ≤ 1000 := hp_n h
  unfold wB ci_bas
  dsimp only
  rw [ci_arr_hp h]
  show Option.map _ (if ci_in (nI k) n = true then some ([], va_up (hp κ μ) a (.inl (.byte, n, .inl (upd (μ.1 a) (nI k).toNatClampNeg (vp_nar .byte v))))) else none) = _
  rw [if_pos (ci_in_nI hk hn), nI_clamp (by omega), hp_up (ν := upI μ a k (vp_nar .byte v)) h _ (fun b hb => rowI_n hb) (fun b hb => rfl)]
  · rfl
  · show _ = Sum.inl (FieldType.byte, n, Sum.inl ((upI μ a k (vp_nar .byte v)).1 a))
    rw [rowI_s]
theorem wZ_hp {κ : Kp} {μ : Mem} {a k n : Nat} {fs : List Nat} {v : Int32} (h : hp_T[a]? = some (3, n, fs)) (hk : k < n) : wB (hp κ μ) a (nI k) v = some (hp κ (upI μ a k (vp_nar .boolean v))) := by
  have hn : n ≤ 1000 := hp_n h
  unfold wB ci_bas
  dsimp only
  rw [ci_arr_hp h]
  show Option.map _ (if ci_in (nI k) n = true then some ([], va_up (hp κ μ) a (.inl (.boolean, n, .inl (upd (μ.1 a) (nI k).toNatClampNeg (vp_nar .boolean v))))) else none) = _
  rw [if_pos (ci_in_nI hk hn), nI_clamp (by omega), hp_up (ν := upI μ a k (vp_nar .boolean v)) h _ (fun b hb => rowI_n hb) (fun b hb => rfl)]
  · rfl
  · show _ = Sum.inl (FieldType.boolean, n, Sum.inl ((upI μ a k (vp_nar .boolean v)).1 a))
    rw [rowI_s]
theorem wL_hp {κ : Kp} {μ : Mem} {a k n : Nat} {fs : List Nat} {v : Int64} (h : hp_T[a]? = some (1, n, fs)) (hk : k < n) : wL (hp κ μ) a (nI k) v = some (hp κ (upL μ a k v)) := by
  have hn : n ≤ 1000 := hp_n h
  unfold wL ci_las
  dsimp only
  rw [ci_arr_hp h]
  show Option.map _ (if ci_in (nI k) n = true then some ([], va_up (hp κ μ) a (.inl (.long, n, .inr (.inl (vp_updL (μ.2 a) (nI k).toNatClampNeg v))))) else none) = _
  rw [if_pos (ci_in_nI hk hn), nI_clamp (by omega), hp_up (μ := μ) (ν := upL μ a k v) h _ (fun b hb => rfl) (fun b hb => rowL_n hb)]
  · rfl
  · show _ = Sum.inl (FieldType.long, n, Sum.inr (Sum.inl ((upL μ a k v).2 a)))
    rw [rowL_s]
theorem cpI_hp {κ : Kp} {μ : Mem} {a b k n m : Nat} {fs gs : List Nat} (h : hp_T[a]? = some (0, n, fs)) (h2 : hp_T[b]? = some (0, m, gs)) (hk : k ≤ n) (hk2 : k ≤ m) : cpI (hp κ μ) a 0 b 0 (nI k) = some (hp κ (rowI μ b (va_cpy (μ.1 a) (μ.1 b) 0 0 k))) := by
  have hn : n ≤ 1000 := hp_n h
  unfold cpI ci_cpy
  dsimp only
  rw [ci_arr_hp h, ci_arr_hp h2]
  show Option.map _ (if (0 : Int32) < 0 then none else if (0 : Int32) < 0 then none else if nI k < 0 then none else if Int32.toNatClampNeg 0 + (nI k).toNatClampNeg ≤ n then if Int32.toNatClampNeg 0 + (nI k).toNatClampNeg ≤ m then if _ then some ([], va_up (hp κ μ) b (.inl (.int, m, .inl (va_cpy (μ.1 a) (μ.1 b) (Int32.toNatClampNeg 0) (Int32.toNatClampNeg 0) (nI k).toNatClampNeg)))) else none else none else none) = _
  have e0 : Int32.toNatClampNeg 0 = 0 := rfl
  rw [if_neg (by decide), if_neg (by decide), if_neg (nI_pos (by omega)), e0, nI_clamp (by omega), if_pos (by omega), if_pos (by omega), if_pos (by decide), hp_up (ν := rowI μ b (va_cpy (μ.1 a) (μ.1 b) 0 0 k)) h2 _ (fun b hb => rowI_n hb) (fun b hb => rfl)]
  · rfl
  · show _ = Sum.inl (FieldType.int, m, Sum.inl ((rowI μ b (va_cpy (μ.1 a) (μ.1 b) 0 0 k)).1 b))
    rw [rowI_s]
section MEMS
variable {κ : Kp} {μ : Mem}
/-! 0: X -/
theorem q0 : kO (hp κ μ) 0 = some 11 := kO_hp rfl
theorem g0_0 : gR (hp κ μ) 0 11 0 = some 1 := gR_hp rfl rfl
theorem g0_1 : gR (hp κ μ) 0 11 1 = some 11 := gR_hp rfl rfl
theorem g0_2 : gR (hp κ μ) 0 11 2 = some 13 := gR_hp rfl rfl
theorem g0_3 : gR (hp κ μ) 0 11 3 = some 17 := gR_hp rfl rfl
theorem g0_4 : gR (hp κ μ) 0 11 4 = some 20 := gR_hp rfl rfl
theorem g0_5 : gR (hp κ μ) 0 11 5 = some 24 := gR_hp rfl rfl
theorem g0_6 : gR (hp κ μ) 0 11 6 = some 91 := gR_hp rfl rfl
theorem g0_7 : gI (hp κ μ) 0 11 7 = some (μ.1 0 7) := gI_hp rfl rfl
theorem p0_7 {v : Int32} : pF (hp κ μ) 0 11 7 (.int v) = some (hp κ (upI μ 0 7 v)) := pF_hp rfl rfl rfl
theorem g0_8 : gR (hp κ μ) 0 11 8 = some 92 := gR_hp rfl rfl
theorem g0_9 : gR (hp κ μ) 0 11 9 = some 103 := gR_hp rfl rfl
theorem g0_10 : gR (hp κ μ) 0 11 10 = some 104 := gR_hp rfl rfl
theorem g0_11 : gR (hp κ μ) 0 11 11 = some 109 := gR_hp rfl rfl
theorem g0_12 : gR (hp κ μ) 0 11 12 = some 110 := gR_hp rfl rfl
theorem g0_13 : gI (hp κ μ) 0 11 13 = some (μ.1 0 13) := gI_hp rfl rfl
theorem p0_13 {v : Int32} : pF (hp κ μ) 0 11 13 (.int v) = some (hp κ (upI μ 0 13 v)) := pF_hp rfl rfl rfl
theorem g0_14 : gR (hp κ μ) 0 11 14 = some 111 := gR_hp rfl rfl
theorem g0_15 : gR (hp κ μ) 0 11 15 = some 112 := gR_hp rfl rfl
theorem g0_16 : gR (hp κ μ) 0 11 16 = some 116 := gR_hp rfl rfl
theorem g0_17 : gR (hp κ μ) 0 11 17 = some 125 := gR_hp rfl rfl
theorem g0_18 : gR (hp κ μ) 0 11 18 = some 126 := gR_hp rfl rfl
/-! 1: town -/
theorem q1 : kO (hp κ μ) 1 = some 10 := kO_hp rfl
theorem g1_0 : gR (hp κ μ) 1 10 0 = some 2 := gR_hp rfl rfl
theorem g1_1 : gR (hp κ μ) 1 10 1 = some 7 := gR_hp rfl rfl
theorem g1_2 : gR (hp κ μ) 1 10 2 = some 8 := gR_hp rfl rfl
theorem g1_3 : gR (hp κ μ) 1 10 3 = some 9 := gR_hp rfl rfl
theorem g1_4 : gR (hp κ μ) 1 10 4 = some 10 := gR_hp rfl rfl
theorem g1_5 : gI (hp κ μ) 1 10 5 = some (μ.1 1 5) := gI_hp rfl rfl
theorem p1_5 {v : Int32} : pF (hp κ μ) 1 10 5 (.int v) = some (hp κ (upI μ 1 5 v)) := pF_hp rfl rfl rfl
theorem g1_6 : gI (hp κ μ) 1 10 6 = some (μ.1 1 6) := gI_hp rfl rfl
theorem p1_6 {v : Int32} : pF (hp κ μ) 1 10 6 (.int v) = some (hp κ (upI μ 1 6 v)) := pF_hp rfl rfl rfl
theorem g1_7 : gI (hp κ μ) 1 10 7 = some (μ.1 1 7) := gI_hp rfl rfl
theorem p1_7 {v : Int32} : pF (hp κ μ) 1 10 7 (.int v) = some (hp κ (upI μ 1 7 v)) := pF_hp rfl rfl rfl
theorem g1_8 : gI (hp κ μ) 1 10 8 = some (μ.1 1 8) := gI_hp rfl rfl
theorem p1_8 {v : Int32} : pF (hp κ μ) 1 10 8 (.int v) = some (hp κ (upI μ 1 8 v)) := pF_hp rfl rfl rfl
/-! 2: now -/
theorem q2 : kO (hp κ μ) 2 = some 6 := kO_hp rfl
theorem g2_0 : gR (hp κ μ) 2 6 0 = some 3 := gR_hp rfl rfl
theorem g2_1 : gR (hp κ μ) 2 6 1 = some 4 := gR_hp rfl rfl
theorem g2_2 : gR (hp κ μ) 2 6 2 = some 5 := gR_hp rfl rfl
theorem g2_3 : gR (hp κ μ) 2 6 3 = some 6 := gR_hp rfl rfl
theorem g2_4 : gI (hp κ μ) 2 6 4 = some (μ.1 2 4) := gI_hp rfl rfl
theorem p2_4 {v : Int32} : pF (hp κ μ) 2 6 4 (.int v) = some (hp κ (upI μ 2 4 v)) := pF_hp rfl rfl rfl
theorem r3 {k : Nat} (hk : k < 12) : rI (hp κ μ) 3 (nI k) = some (μ.1 3 k) := rI_hp rfl hk
theorem w3 {k : Nat} {v : Int32} (hk : k < 12) : wI (hp κ μ) 3 (nI k) v = some (hp κ (upI μ 3 k v)) := wI_hp rfl hk
theorem r4 {k : Nat} (hk : k < 12) : rI (hp κ μ) 4 (nI k) = some (μ.1 4 k) := rI_hp rfl hk
theorem w4 {k : Nat} {v : Int32} (hk : k < 12) : wI (hp κ μ) 4 (nI k) v = some (hp κ (upI μ 4 k v)) := wI_hp rfl hk
theorem r5 {k : Nat} (hk : k < 12) : rI (hp κ μ) 5 (nI k) = some (μ.1 5 k) := rI_hp rfl hk
theorem w5 {k : Nat} {v : Int32} (hk : k < 12) : wI (hp κ μ) 5 (nI k) v = some (hp κ (upI μ 5 k v)) := wI_hp rfl hk
theorem r6 {k : Nat} (hk : k < 5) : rI (hp κ μ) 6 (nI k) = some (μ.1 6 k) := rI_hp rfl hk
theorem w6 {k : Nat} {v : Int32} (hk : k < 5) : wI (hp κ μ) 6 (nI k) v = some (hp κ (upI μ 6 k v)) := wI_hp rfl hk
theorem r7 {k : Nat} (hk : k < 6) : rI (hp κ μ) 7 (nI k) = some (μ.1 7 k) := rI_hp rfl hk
theorem w7 {k : Nat} {v : Int32} (hk : k < 6) : wI (hp κ μ) 7 (nI k) v = some (hp κ (upI μ 7 k v)) := wI_hp rfl hk
theorem r8 {k : Nat} (hk : k < 6) : rI (hp κ μ) 8 (nI k) = some (μ.1 8 k) := rI_hp rfl hk
theorem w8 {k : Nat} {v : Int32} (hk : k < 6) : wI (hp κ μ) 8 (nI k) v = some (hp κ (upI μ 8 k v)) := wI_hp rfl hk
theorem r9 {k : Nat} (hk : k < 6) : rI (hp κ μ) 9 (nI k) = some (μ.1 9 k) := rI_hp rfl hk
theorem w9 {k : Nat} {v : Int32} (hk : k < 6) : wI (hp κ μ) 9 (nI k) v = some (hp κ (upI μ 9 k v)) := wI_hp rfl hk
theorem r10 {k : Nat} (hk : k < 12) : rI (hp κ μ) 10 (nI k) = some (μ.1 10 k) := rI_hp rfl hk
theorem w10 {k : Nat} {v : Int32} (hk : k < 12) : wI (hp κ μ) 10 (nI k) v = some (hp κ (upI μ 10 k v)) := wI_hp rfl hk
/-! 11: text -/
theorem q11 : kO (hp κ μ) 11 = some 9 := kO_hp rfl
theorem g11_0 : gR (hp κ μ) 11 9 0 = some 12 := gR_hp rfl rfl
theorem g11_1 : gI (hp κ μ) 11 9 1 = some (μ.1 11 1) := gI_hp rfl rfl
theorem p11_1 {v : Int32} : pF (hp κ μ) 11 9 1 (.int v) = some (hp κ (upI μ 11 1 v)) := pF_hp rfl rfl rfl
theorem g11_2 : gI (hp κ μ) 11 9 2 = some (μ.1 11 2) := gI_hp rfl rfl
theorem p11_2 {v : Int32} : pF (hp κ μ) 11 9 2 (.int v) = some (hp κ (upI μ 11 2 v)) := pF_hp rfl rfl rfl
theorem g11_3 : gI (hp κ μ) 11 9 3 = some (μ.1 11 3) := gI_hp rfl rfl
theorem p11_3 {v : Int32} : pF (hp κ μ) 11 9 3 (.int v) = some (hp κ (upI μ 11 3 v)) := pF_hp rfl rfl rfl
theorem r12 {k : Nat} (hk : k < 80) : rI (hp κ μ) 12 (nI k) = some (μ.1 12 k) := rI_hp rfl hk
theorem w12 {k : Nat} {v : Int32} (hk : k < 80) : wI (hp κ μ) 12 (nI k) v = some (hp κ (upI μ 12 k v)) := wI_hp rfl hk
/-! 13: telling -/
theorem q13 : kO (hp κ μ) 13 = some 8 := kO_hp rfl
theorem g13_0 : gR (hp κ μ) 13 8 0 = some 11 := gR_hp rfl rfl
theorem g13_1 : gR (hp κ μ) 13 8 1 = some 14 := gR_hp rfl rfl
theorem g13_2 : gR (hp κ μ) 13 8 2 = some 15 := gR_hp rfl rfl
theorem g13_3 : gR (hp κ μ) 13 8 3 = some 16 := gR_hp rfl rfl
theorem r14 {k : Nat} (hk : k < 20) : rI (hp κ μ) 14 (nI k) = some (μ.1 14 k) := rI_hp rfl hk
theorem w14 {k : Nat} {v : Int32} (hk : k < 20) : wI (hp κ μ) 14 (nI k) v = some (hp κ (upI μ 14 k v)) := wI_hp rfl hk
theorem r15 {k : Nat} (hk : k < 20) : rI (hp κ μ) 15 (nI k) = some (μ.1 15 k) := rI_hp rfl hk
theorem w15 {k : Nat} {v : Int32} (hk : k < 20) : wI (hp κ μ) 15 (nI k) v = some (hp κ (upI μ 15 k v)) := wI_hp rfl hk
theorem r16 {k : Nat} (hk : k < 20) : rI (hp κ μ) 16 (nI k) = some (μ.1 16 k) := rI_hp rfl hk
theorem w16 {k : Nat} {v : Int32} (hk : k < 20) : wI (hp κ μ) 16 (nI k) v = some (hp κ (upI μ 16 k v)) := wI_hp rfl hk
/-! 17: rule -/
theorem q17 : kO (hp κ μ) 17 = some 4 := kO_hp rfl
theorem g17_0 : gR (hp κ μ) 17 4 0 = some 18 := gR_hp rfl rfl
theorem g17_1 : gR (hp κ μ) 17 4 1 = some 19 := gR_hp rfl rfl
theorem g17_2 : gI (hp κ μ) 17 4 2 = some (μ.1 17 2) := gI_hp rfl rfl
theorem p17_2 {v : Int32} : pF (hp κ μ) 17 4 2 (.int v) = some (hp κ (upI μ 17 2 v)) := pF_hp rfl rfl rfl
theorem r18 {k : Nat} (hk : k < 40) : rI (hp κ μ) 18 (nI k) = some (μ.1 18 k) := rI_hp rfl hk
theorem w18 {k : Nat} {v : Int32} (hk : k < 40) : wI (hp κ μ) 18 (nI k) v = some (hp κ (upI μ 18 k v)) := wI_hp rfl hk
theorem r19 {k : Nat} (hk : k < 40) : rI (hp κ μ) 19 (nI k) = some (μ.1 19 k) := rI_hp rfl hk
theorem w19 {k : Nat} {v : Int32} (hk : k < 40) : wI (hp κ μ) 19 (nI k) v = some (hp κ (upI μ 19 k v)) := wI_hp rfl hk
/-! 20: ruleReader -/
theorem q20 : kO (hp κ μ) 20 = some 5 := kO_hp rfl
theorem g20_0 : gR (hp κ μ) 20 5 0 = some 11 := gR_hp rfl rfl
theorem g20_1 : gR (hp κ μ) 20 5 1 = some 21 := gR_hp rfl rfl
/-! 21: draft -/
theorem q21 : kO (hp κ μ) 21 = some 4 := kO_hp rfl
theorem g21_0 : gR (hp κ μ) 21 4 0 = some 22 := gR_hp rfl rfl
theorem g21_1 : gR (hp κ μ) 21 4 1 = some 23 := gR_hp rfl rfl
theorem g21_2 : gI (hp κ μ) 21 4 2 = some (μ.1 21 2) := gI_hp rfl rfl
theorem p21_2 {v : Int32} : pF (hp κ μ) 21 4 2 (.int v) = some (hp κ (upI μ 21 2 v)) := pF_hp rfl rfl rfl
theorem r22 {k : Nat} (hk : k < 40) : rI (hp κ μ) 22 (nI k) = some (μ.1 22 k) := rI_hp rfl hk
theorem w22 {k : Nat} {v : Int32} (hk : k < 40) : wI (hp κ μ) 22 (nI k) v = some (hp κ (upI μ 22 k v)) := wI_hp rfl hk
theorem r23 {k : Nat} (hk : k < 40) : rI (hp κ μ) 23 (nI k) = some (μ.1 23 k) := rI_hp rfl hk
theorem w23 {k : Nat} {v : Int32} (hk : k < 40) : wI (hp κ μ) 23 (nI k) v = some (hp κ (upI μ 23 k v)) := wI_hp rfl hk
/-! 24: past -/
theorem q24 : kO (hp κ μ) 24 = some 2 := kO_hp rfl
theorem g24_0 : gR (hp κ μ) 24 2 0 = some 25 := gR_hp rfl rfl
theorem g24_1 : gI (hp κ μ) 24 2 1 = some (μ.1 24 1) := gI_hp rfl rfl
theorem p24_1 {v : Int32} : pF (hp κ μ) 24 2 1 (.int v) = some (hp κ (upI μ 24 1 v)) := pF_hp rfl rfl rfl
theorem g24_2 : gI (hp κ μ) 24 2 2 = some (μ.1 24 2) := gI_hp rfl rfl
theorem p24_2 {v : Int32} : pF (hp κ μ) 24 2 2 (.int v) = some (hp κ (upI μ 24 2 v)) := pF_hp rfl rfl rfl
theorem r91 {k : Nat} (hk : k < 6) : rL (hp κ μ) 91 (nI k) = some (μ.2 91 k) := rL_hp rfl hk
theorem w91 {k : Nat} {v : Int64} (hk : k < 6) : wL (hp κ μ) 91 (nI k) v = some (hp κ (upL μ 91 k v)) := wL_hp rfl hk
theorem r103 {k : Nat} (hk : k < 2) : rB (hp κ μ) 103 (nI k) = some (μ.1 103 k) := rZ_hp rfl hk
theorem w103 {k : Nat} {v : Int32} (hk : k < 2) : wB (hp κ μ) 103 (nI k) v = some (hp κ (upI μ 103 k (vp_nar .boolean v))) := wZ_hp rfl hk
/-! 104: spare -/
theorem q104 : kO (hp κ μ) 104 = some 6 := kO_hp rfl
theorem g104_0 : gR (hp κ μ) 104 6 0 = some 105 := gR_hp rfl rfl
theorem g104_1 : gR (hp κ μ) 104 6 1 = some 106 := gR_hp rfl rfl
theorem g104_2 : gR (hp κ μ) 104 6 2 = some 107 := gR_hp rfl rfl
theorem g104_3 : gR (hp κ μ) 104 6 3 = some 108 := gR_hp rfl rfl
theorem g104_4 : gI (hp κ μ) 104 6 4 = some (μ.1 104 4) := gI_hp rfl rfl
theorem p104_4 {v : Int32} : pF (hp κ μ) 104 6 4 (.int v) = some (hp κ (upI μ 104 4 v)) := pF_hp rfl rfl rfl
theorem r105 {k : Nat} (hk : k < 12) : rI (hp κ μ) 105 (nI k) = some (μ.1 105 k) := rI_hp rfl hk
theorem w105 {k : Nat} {v : Int32} (hk : k < 12) : wI (hp κ μ) 105 (nI k) v = some (hp κ (upI μ 105 k v)) := wI_hp rfl hk
theorem r106 {k : Nat} (hk : k < 12) : rI (hp κ μ) 106 (nI k) = some (μ.1 106 k) := rI_hp rfl hk
theorem w106 {k : Nat} {v : Int32} (hk : k < 12) : wI (hp κ μ) 106 (nI k) v = some (hp κ (upI μ 106 k v)) := wI_hp rfl hk
theorem r107 {k : Nat} (hk : k < 12) : rI (hp κ μ) 107 (nI k) = some (μ.1 107 k) := rI_hp rfl hk
theorem w107 {k : Nat} {v : Int32} (hk : k < 12) : wI (hp κ μ) 107 (nI k) v = some (hp κ (upI μ 107 k v)) := wI_hp rfl hk
theorem r108 {k : Nat} (hk : k < 5) : rI (hp κ μ) 108 (nI k) = some (μ.1 108 k) := rI_hp rfl hk
theorem w108 {k : Nat} {v : Int32} (hk : k < 5) : wI (hp κ μ) 108 (nI k) v = some (hp κ (upI μ 108 k v)) := wI_hp rfl hk
theorem r109 {k : Nat} (hk : k < 12) : rI (hp κ μ) 109 (nI k) = some (μ.1 109 k) := rI_hp rfl hk
theorem w109 {k : Nat} {v : Int32} (hk : k < 12) : wI (hp κ μ) 109 (nI k) v = some (hp κ (upI μ 109 k v)) := wI_hp rfl hk
theorem r110 {k : Nat} (hk : k < 12) : rI (hp κ μ) 110 (nI k) = some (μ.1 110 k) := rI_hp rfl hk
theorem w110 {k : Nat} {v : Int32} (hk : k < 12) : wI (hp κ μ) 110 (nI k) v = some (hp κ (upI μ 110 k v)) := wI_hp rfl hk
/-! 111: choosing -/
theorem q111 : kO (hp κ μ) 111 = some 0 := kO_hp rfl
theorem g111_0 : gR (hp κ μ) 111 0 0 = some 1 := gR_hp rfl rfl
theorem g111_1 : gI (hp κ μ) 111 0 1 = some (μ.1 111 1) := gI_hp rfl rfl
theorem p111_1 {v : Int32} (hv : fits .boolean (.int v) = true) : pF (hp κ μ) 111 0 1 (.int v) = some (hp κ (upI μ 111 1 v)) := pF_hp rfl rfl hv
theorem g111_2 : gI (hp κ μ) 111 0 2 = some (μ.1 111 2) := gI_hp rfl rfl
theorem p111_2 {v : Int32} : pF (hp κ μ) 111 0 2 (.int v) = some (hp κ (upI μ 111 2 v)) := pF_hp rfl rfl rfl
theorem g111_3 : gI (hp κ μ) 111 0 3 = some (μ.1 111 3) := gI_hp rfl rfl
theorem p111_3 {v : Int32} : pF (hp κ μ) 111 0 3 (.int v) = some (hp κ (upI μ 111 3 v)) := pF_hp rfl rfl rfl
/-! 112: storing -/
theorem q112 : kO (hp κ μ) 112 = some 7 := kO_hp rfl
theorem g112_0 : gR (hp κ μ) 112 7 0 = some 1 := gR_hp rfl rfl
theorem g112_1 : gR (hp κ μ) 112 7 1 = some 113 := gR_hp rfl rfl
theorem g112_2 : gR (hp κ μ) 112 7 2 = some 114 := gR_hp rfl rfl
theorem g112_3 : gR (hp κ μ) 112 7 3 = some 115 := gR_hp rfl rfl
theorem g112_4 : gI (hp κ μ) 112 7 4 = some (μ.1 112 4) := gI_hp rfl rfl
theorem p112_4 {v : Int32} : pF (hp κ μ) 112 7 4 (.int v) = some (hp κ (upI μ 112 4 v)) := pF_hp rfl rfl rfl
theorem r113 {k : Nat} (hk : k < 6) : rI (hp κ μ) 113 (nI k) = some (μ.1 113 k) := rI_hp rfl hk
theorem w113 {k : Nat} {v : Int32} (hk : k < 6) : wI (hp κ μ) 113 (nI k) v = some (hp κ (upI μ 113 k v)) := wI_hp rfl hk
theorem r114 {k : Nat} (hk : k < 5) : rI (hp κ μ) 114 (nI k) = some (μ.1 114 k) := rI_hp rfl hk
theorem w114 {k : Nat} {v : Int32} (hk : k < 5) : wI (hp κ μ) 114 (nI k) v = some (hp κ (upI μ 114 k v)) := wI_hp rfl hk
theorem r115 {k : Nat} (hk : k < 6) : rI (hp κ μ) 115 (nI k) = some (μ.1 115 k) := rI_hp rfl hk
theorem w115 {k : Nat} {v : Int32} (hk : k < 6) : wI (hp κ μ) 115 (nI k) v = some (hp κ (upI μ 115 k v)) := wI_hp rfl hk
/-! 116: dealing -/
theorem q116 : kO (hp κ μ) 116 = some 1 := kO_hp rfl
theorem g116_0 : gR (hp κ μ) 116 1 0 = some 1 := gR_hp rfl rfl
theorem g116_1 : gR (hp κ μ) 116 1 1 = some 17 := gR_hp rfl rfl
theorem g116_2 : gR (hp κ μ) 116 1 2 = some 117 := gR_hp rfl rfl
theorem g116_3 : gR (hp κ μ) 116 1 3 = some 123 := gR_hp rfl rfl
theorem g116_4 : gR (hp κ μ) 116 1 4 = some 124 := gR_hp rfl rfl
theorem r118 {k : Nat} (hk : k < 12) : rI (hp κ μ) 118 (nI k) = some (μ.1 118 k) := rI_hp rfl hk
theorem w118 {k : Nat} {v : Int32} (hk : k < 12) : wI (hp κ μ) 118 (nI k) v = some (hp κ (upI μ 118 k v)) := wI_hp rfl hk
theorem r119 {k : Nat} (hk : k < 12) : rI (hp κ μ) 119 (nI k) = some (μ.1 119 k) := rI_hp rfl hk
theorem w119 {k : Nat} {v : Int32} (hk : k < 12) : wI (hp κ μ) 119 (nI k) v = some (hp κ (upI μ 119 k v)) := wI_hp rfl hk
theorem r120 {k : Nat} (hk : k < 12) : rI (hp κ μ) 120 (nI k) = some (μ.1 120 k) := rI_hp rfl hk
theorem w120 {k : Nat} {v : Int32} (hk : k < 12) : wI (hp κ μ) 120 (nI k) v = some (hp κ (upI μ 120 k v)) := wI_hp rfl hk
theorem r121 {k : Nat} (hk : k < 12) : rI (hp κ μ) 121 (nI k) = some (μ.1 121 k) := rI_hp rfl hk
theorem w121 {k : Nat} {v : Int32} (hk : k < 12) : wI (hp κ μ) 121 (nI k) v = some (hp κ (upI μ 121 k v)) := wI_hp rfl hk
theorem r122 {k : Nat} (hk : k < 12) : rI (hp κ μ) 122 (nI k) = some (μ.1 122 k) := rI_hp rfl hk
theorem w122 {k : Nat} {v : Int32} (hk : k < 12) : wI (hp κ μ) 122 (nI k) v = some (hp κ (upI μ 122 k v)) := wI_hp rfl hk
theorem r123 {k : Nat} (hk : k < 32) : rI (hp κ μ) 123 (nI k) = some (μ.1 123 k) := rI_hp rfl hk
theorem w123 {k : Nat} {v : Int32} (hk : k < 32) : wI (hp κ μ) 123 (nI k) v = some (hp κ (upI μ 123 k v)) := wI_hp rfl hk
theorem r124 {k : Nat} (hk : k < 5) : rI (hp κ μ) 124 (nI k) = some (μ.1 124 k) := rI_hp rfl hk
theorem w124 {k : Nat} {v : Int32} (hk : k < 5) : wI (hp κ μ) 124 (nI k) v = some (hp κ (upI μ 124 k v)) := wI_hp rfl hk
/-! 125: purse -/
theorem q125 : kO (hp κ μ) 125 = some 3 := kO_hp rfl
theorem g125_0 : gL (hp κ μ) 125 3 0 = some (μ.2 125 0) := gL_hp rfl rfl
theorem p125_0 {v : Int64} : pF (hp κ μ) 125 3 0 (.long v) = some (hp κ (upL μ 125 0 v)) := pL_hp rfl rfl rfl
theorem g125_1 : gL (hp κ μ) 125 3 1 = some (μ.2 125 1) := gL_hp rfl rfl
theorem p125_1 {v : Int64} : pF (hp κ μ) 125 3 1 (.long v) = some (hp κ (upL μ 125 1 v)) := pL_hp rfl rfl rfl
theorem r126 {k : Nat} (hk : k < 13) : rL (hp κ μ) 126 (nI k) = some (μ.2 126 k) := rL_hp rfl hk
theorem w126 {k : Nat} {v : Int64} (hk : k < 13) : wL (hp κ μ) 126 (nI k) v = some (hp κ (upL μ 126 k v)) := wL_hp rfl hk
/-! 127: M -/
theorem q127 : kO (hp κ μ) 127 = some 12 := kO_hp rfl
theorem g127_0 : gR (hp κ μ) 127 12 0 = some 128 := gR_hp rfl rfl
theorem g127_1 : gI (hp κ μ) 127 12 1 = some (μ.1 127 1) := gI_hp rfl rfl
theorem p127_1 {v : Int32} : pF (hp κ μ) 127 12 1 (.int v) = some (hp κ (upI μ 127 1 v)) := pF_hp rfl rfl rfl
theorem g127_2 : gI (hp κ μ) 127 12 2 = some (μ.1 127 2) := gI_hp rfl rfl
theorem p127_2 {v : Int32} : pF (hp κ μ) 127 12 2 (.int v) = some (hp κ (upI μ 127 2 v)) := pF_hp rfl rfl rfl
theorem g127_3 : gI (hp κ μ) 127 12 3 = some (μ.1 127 3) := gI_hp rfl rfl
theorem p127_3 {v : Int32} : pF (hp κ μ) 127 12 3 (.int v) = some (hp κ (upI μ 127 3 v)) := pF_hp rfl rfl rfl
theorem g127_4 : gR (hp κ μ) 127 12 4 = some 129 := gR_hp rfl rfl
theorem g127_5 : gR (hp κ μ) 127 12 5 = some 130 := gR_hp rfl rfl
theorem g127_6 : gI (hp κ μ) 127 12 6 = some (μ.1 127 6) := gI_hp rfl rfl
theorem p127_6 {v : Int32} : pF (hp κ μ) 127 12 6 (.int v) = some (hp κ (upI μ 127 6 v)) := pF_hp rfl rfl rfl
theorem g127_7 : gR (hp κ μ) 127 12 7 = some 131 := gR_hp rfl rfl
theorem g127_8 : gI (hp κ μ) 127 12 8 = some (μ.1 127 8) := gI_hp rfl rfl
theorem p127_8 {v : Int32} : pF (hp κ μ) 127 12 8 (.int v) = some (hp κ (upI μ 127 8 v)) := pF_hp rfl rfl rfl
theorem g127_9 : gR (hp κ μ) 127 12 9 = some 132 := gR_hp rfl rfl
theorem g127_10 : gI (hp κ μ) 127 12 10 = some (μ.1 127 10) := gI_hp rfl rfl
theorem p127_10 {v : Int32} : pF (hp κ μ) 127 12 10 (.int v) = some (hp κ (upI μ 127 10 v)) := pF_hp rfl rfl rfl
theorem g127_11 : gI (hp κ μ) 127 12 11 = some (μ.1 127 11) := gI_hp rfl rfl
theorem p127_11 {v : Int32} : pF (hp κ μ) 127 12 11 (.int v) = some (hp κ (upI μ 127 11 v)) := pF_hp rfl rfl rfl
theorem g127_12 {k : Nat} (hv : μ.1 127 12 = nI k) (h0 : 0 < k) (hk : k < 1000) : gR (hp κ μ) 127 12 12 = some k := gM_hp rfl rfl hv h0 hk
theorem p127_12_131 : pF (hp κ μ) 127 12 12 (.ref 131) = some (hp κ (upI μ 127 12 (nI 131))) := pM_hp rfl rfl rfl (by decide) (by decide)
theorem p127_12_134 : pF (hp κ μ) 127 12 12 (.ref 134) = some (hp κ (upI μ 127 12 (nI 134))) := pM_hp rfl rfl rfl (by decide) (by decide)
theorem g127_13 : gI (hp κ μ) 127 12 13 = some (μ.1 127 13) := gI_hp rfl rfl
theorem p127_13 {v : Int32} : pF (hp κ μ) 127 12 13 (.int v) = some (hp κ (upI μ 127 13 v)) := pF_hp rfl rfl rfl
theorem g127_14 : gI (hp κ μ) 127 12 14 = some (μ.1 127 14) := gI_hp rfl rfl
theorem p127_14 {v : Int32} : pF (hp κ μ) 127 12 14 (.int v) = some (hp κ (upI μ 127 14 v)) := pF_hp rfl rfl rfl
theorem g127_15 : gI (hp κ μ) 127 12 15 = some (μ.1 127 15) := gI_hp rfl rfl
theorem p127_15 {v : Int32} : pF (hp κ μ) 127 12 15 (.int v) = some (hp κ (upI μ 127 15 v)) := pF_hp rfl rfl rfl
theorem g127_16 : gI (hp κ μ) 127 12 16 = some (μ.1 127 16) := gI_hp rfl rfl
theorem p127_16 {v : Int32} : pF (hp κ μ) 127 12 16 (.int v) = some (hp κ (upI μ 127 16 v)) := pF_hp rfl rfl rfl
theorem g127_17 : gR (hp κ μ) 127 12 17 = some 133 := gR_hp rfl rfl
theorem g127_18 : gR (hp κ μ) 127 12 18 = some 134 := gR_hp rfl rfl
theorem g127_19 : gI (hp κ μ) 127 12 19 = some (μ.1 127 19) := gI_hp rfl rfl
theorem p127_19 {v : Int32} : pF (hp κ μ) 127 12 19 (.int v) = some (hp κ (upI μ 127 19 v)) := pF_hp rfl rfl rfl
theorem g127_20 : gI (hp κ μ) 127 12 20 = some (μ.1 127 20) := gI_hp rfl rfl
theorem p127_20 {v : Int32} (hv : fits .boolean (.int v) = true) : pF (hp κ μ) 127 12 20 (.int v) = some (hp κ (upI μ 127 20 v)) := pF_hp rfl rfl hv
theorem g127_21 : gR (hp κ μ) 127 12 21 = some 135 := gR_hp rfl rfl
theorem g127_22 : gR (hp κ μ) 127 12 22 = some 136 := gR_hp rfl rfl
theorem g127_23 : gI (hp κ μ) 127 12 23 = some (μ.1 127 23) := gI_hp rfl rfl
theorem p127_23 {v : Int32} : pF (hp κ μ) 127 12 23 (.int v) = some (hp κ (upI μ 127 23 v)) := pF_hp rfl rfl rfl
theorem g127_24 : gR (hp κ μ) 127 12 24 = some 137 := gR_hp rfl rfl
theorem g127_25 : gR (hp κ μ) 127 12 25 = some 138 := gR_hp rfl rfl
theorem g127_26 : gR (hp κ μ) 127 12 26 = some 139 := gR_hp rfl rfl
theorem g127_27 : gR (hp κ μ) 127 12 27 = some 140 := gR_hp rfl rfl
theorem g127_28 : gR (hp κ μ) 127 12 28 = some 141 := gR_hp rfl rfl
theorem g127_29 : gI (hp κ μ) 127 12 29 = some (μ.1 127 29) := gI_hp rfl rfl
theorem p127_29 {v : Int32} : pF (hp κ μ) 127 12 29 (.int v) = some (hp κ (upI μ 127 29 v)) := pF_hp rfl rfl rfl
theorem g127_30 : gI (hp κ μ) 127 12 30 = some (μ.1 127 30) := gI_hp rfl rfl
theorem p127_30 {v : Int32} : pF (hp κ μ) 127 12 30 (.int v) = some (hp κ (upI μ 127 30 v)) := pF_hp rfl rfl rfl
theorem g127_31 : gR (hp κ μ) 127 12 31 = some 142 := gR_hp rfl rfl
theorem g127_32 : gR (hp κ μ) 127 12 32 = some 143 := gR_hp rfl rfl
theorem g127_33 : gI (hp κ μ) 127 12 33 = some (μ.1 127 33) := gI_hp rfl rfl
theorem p127_33 {v : Int32} : pF (hp κ μ) 127 12 33 (.int v) = some (hp κ (upI μ 127 33 v)) := pF_hp rfl rfl rfl
theorem g127_34 : gI (hp κ μ) 127 12 34 = some (μ.1 127 34) := gI_hp rfl rfl
theorem p127_34 {v : Int32} : pF (hp κ μ) 127 12 34 (.int v) = some (hp κ (upI μ 127 34 v)) := pF_hp rfl rfl rfl
theorem g127_35 : gL (hp κ μ) 127 12 35 = some (μ.2 127 35) := gL_hp rfl rfl
theorem p127_35 {v : Int64} : pF (hp κ μ) 127 12 35 (.long v) = some (hp κ (upL μ 127 35 v)) := pL_hp rfl rfl rfl
theorem g127_36 : gL (hp κ μ) 127 12 36 = some (μ.2 127 36) := gL_hp rfl rfl
theorem p127_36 {v : Int64} : pF (hp κ μ) 127 12 36 (.long v) = some (hp κ (upL μ 127 36 v)) := pL_hp rfl rfl rfl
theorem g127_37 : gR (hp κ μ) 127 12 37 = some 144 := gR_hp rfl rfl
theorem g127_38 : gI (hp κ μ) 127 12 38 = some (μ.1 127 38) := gI_hp rfl rfl
theorem p127_38 {v : Int32} : pF (hp κ μ) 127 12 38 (.int v) = some (hp κ (upI μ 127 38 v)) := pF_hp rfl rfl rfl
theorem g127_39 : gI (hp κ μ) 127 12 39 = some (μ.1 127 39) := gI_hp rfl rfl
theorem p127_39 {v : Int32} : pF (hp κ μ) 127 12 39 (.int v) = some (hp κ (upI μ 127 39 v)) := pF_hp rfl rfl rfl
theorem g127_40 : gR (hp κ μ) 127 12 40 = some 145 := gR_hp rfl rfl
theorem g127_41 : gR (hp κ μ) 127 12 41 = some 146 := gR_hp rfl rfl
theorem g127_42 : gR (hp κ μ) 127 12 42 = some 147 := gR_hp rfl rfl
theorem r128 {k : Nat} (hk : k < 42) : rI (hp κ μ) 128 (nI k) = some (μ.1 128 k) := rI_hp rfl hk
theorem w128 {k : Nat} {v : Int32} (hk : k < 42) : wI (hp κ μ) 128 (nI k) v = some (hp κ (upI μ 128 k v)) := wI_hp rfl hk
theorem r129 {k : Nat} (hk : k < 6) : rI (hp κ μ) 129 (nI k) = some (μ.1 129 k) := rI_hp rfl hk
theorem w129 {k : Nat} {v : Int32} (hk : k < 6) : wI (hp κ μ) 129 (nI k) v = some (hp κ (upI μ 129 k v)) := wI_hp rfl hk
theorem r130 {k : Nat} (hk : k < 6) : rI (hp κ μ) 130 (nI k) = some (μ.1 130 k) := rI_hp rfl hk
theorem w130 {k : Nat} {v : Int32} (hk : k < 6) : wI (hp κ μ) 130 (nI k) v = some (hp κ (upI μ 130 k v)) := wI_hp rfl hk
theorem r131 {k : Nat} (hk : k < 80) : rB (hp κ μ) 131 (nI k) = some (μ.1 131 k) := rB_hp rfl hk
theorem w131 {k : Nat} {v : Int32} (hk : k < 80) : wB (hp κ μ) 131 (nI k) v = some (hp κ (upI μ 131 k (vp_nar .byte v))) := wB_hp rfl hk
theorem r132 {k : Nat} (hk : k < 20) : rL (hp κ μ) 132 (nI k) = some (μ.2 132 k) := rL_hp rfl hk
theorem w132 {k : Nat} {v : Int64} (hk : k < 20) : wL (hp κ μ) 132 (nI k) v = some (hp κ (upL μ 132 k v)) := wL_hp rfl hk
theorem r133 {k : Nat} (hk : k < 24) : rI (hp κ μ) 133 (nI k) = some (μ.1 133 k) := rI_hp rfl hk
theorem w133 {k : Nat} {v : Int32} (hk : k < 24) : wI (hp κ μ) 133 (nI k) v = some (hp κ (upI μ 133 k v)) := wI_hp rfl hk
theorem r134 {k : Nat} (hk : k < 40) : rB (hp κ μ) 134 (nI k) = some (μ.1 134 k) := rB_hp rfl hk
theorem w134 {k : Nat} {v : Int32} (hk : k < 40) : wB (hp κ μ) 134 (nI k) v = some (hp κ (upI μ 134 k (vp_nar .byte v))) := wB_hp rfl hk
theorem r135 {k : Nat} (hk : k < 6) : rI (hp κ μ) 135 (nI k) = some (μ.1 135 k) := rI_hp rfl hk
theorem w135 {k : Nat} {v : Int32} (hk : k < 6) : wI (hp κ μ) 135 (nI k) v = some (hp κ (upI μ 135 k v)) := wI_hp rfl hk
theorem r136 {k : Nat} (hk : k < 504) : rI (hp κ μ) 136 (nI k) = some (μ.1 136 k) := rI_hp rfl hk
theorem w136 {k : Nat} {v : Int32} (hk : k < 504) : wI (hp κ μ) 136 (nI k) v = some (hp κ (upI μ 136 k v)) := wI_hp rfl hk
theorem r137 {k : Nat} (hk : k < 42) : rI (hp κ μ) 137 (nI k) = some (μ.1 137 k) := rI_hp rfl hk
theorem w137 {k : Nat} {v : Int32} (hk : k < 42) : wI (hp κ μ) 137 (nI k) v = some (hp κ (upI μ 137 k v)) := wI_hp rfl hk
theorem r138 {k : Nat} (hk : k < 42) : rI (hp κ μ) 138 (nI k) = some (μ.1 138 k) := rI_hp rfl hk
theorem w138 {k : Nat} {v : Int32} (hk : k < 42) : wI (hp κ μ) 138 (nI k) v = some (hp κ (upI μ 138 k v)) := wI_hp rfl hk
theorem r139 {k : Nat} (hk : k < 240) : rI (hp κ μ) 139 (nI k) = some (μ.1 139 k) := rI_hp rfl hk
theorem w139 {k : Nat} {v : Int32} (hk : k < 240) : wI (hp κ μ) 139 (nI k) v = some (hp κ (upI μ 139 k v)) := wI_hp rfl hk
theorem r140 {k : Nat} (hk : k < 12) : rI (hp κ μ) 140 (nI k) = some (μ.1 140 k) := rI_hp rfl hk
theorem w140 {k : Nat} {v : Int32} (hk : k < 12) : wI (hp κ μ) 140 (nI k) v = some (hp κ (upI μ 140 k v)) := wI_hp rfl hk
theorem r141 {k : Nat} (hk : k < 12) : rI (hp κ μ) 141 (nI k) = some (μ.1 141 k) := rI_hp rfl hk
theorem w141 {k : Nat} {v : Int32} (hk : k < 12) : wI (hp κ μ) 141 (nI k) v = some (hp κ (upI μ 141 k v)) := wI_hp rfl hk
theorem r142 {k : Nat} (hk : k < 60) : rI (hp κ μ) 142 (nI k) = some (μ.1 142 k) := rI_hp rfl hk
theorem w142 {k : Nat} {v : Int32} (hk : k < 60) : wI (hp κ μ) 142 (nI k) v = some (hp κ (upI μ 142 k v)) := wI_hp rfl hk
theorem r143 {k : Nat} (hk : k < 12) : rI (hp κ μ) 143 (nI k) = some (μ.1 143 k) := rI_hp rfl hk
theorem w143 {k : Nat} {v : Int32} (hk : k < 12) : wI (hp κ μ) 143 (nI k) v = some (hp κ (upI μ 143 k v)) := wI_hp rfl hk
theorem r144 {k : Nat} (hk : k < 13) : rL (hp κ μ) 144 (nI k) = some (μ.2 144 k) := rL_hp rfl hk
theorem w144 {k : Nat} {v : Int64} (hk : k < 13) : wL (hp κ μ) 144 (nI k) v = some (hp κ (upL μ 144 k v)) := wL_hp rfl hk
theorem r145 {k : Nat} (hk : k < 84) : rI (hp κ μ) 145 (nI k) = some (μ.1 145 k) := rI_hp rfl hk
theorem w145 {k : Nat} {v : Int32} (hk : k < 84) : wI (hp κ μ) 145 (nI k) v = some (hp κ (upI μ 145 k v)) := wI_hp rfl hk
theorem r146 {k : Nat} (hk : k < 2) : rB (hp κ μ) 146 (nI k) = some (μ.1 146 k) := rZ_hp rfl hk
theorem w146 {k : Nat} {v : Int32} (hk : k < 2) : wB (hp κ μ) 146 (nI k) v = some (hp κ (upI μ 146 k (vp_nar .boolean v))) := wZ_hp rfl hk
theorem r147 {k : Nat} (hk : k < 2) : rI (hp κ μ) 147 (nI k) = some (μ.1 147 k) := rI_hp rfl hk
theorem w147 {k : Nat} {v : Int32} (hk : k < 2) : wI (hp κ μ) 147 (nI k) v = some (hp κ (upI μ 147 k v)) := wI_hp rfl hk
theorem r148 {k : Nat} (hk : k < 1) : rL (hp κ μ) 148 (nI k) = some (μ.2 148 k) := rL_hp rfl hk
theorem w148 {k : Nat} {v : Int64} (hk : k < 1) : wL (hp κ μ) 148 (nI k) v = some (hp κ (upL μ 148 k v)) := wL_hp rfl hk
end MEMS
