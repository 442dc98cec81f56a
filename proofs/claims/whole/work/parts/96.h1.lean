/-! PURE: where told things are kept: the fewest moves. -/
def tl (S : Nat) : Nat → Nat → List Nat
  | 0, _ => []
  | n + 1, t => if S.testBit t = true then t :: tl S n (t + 1) else tl S n (t + 1)
theorem tl_s {S n t : Nat} : tl S (n + 1) t = if S.testBit t = true then t :: tl S n (t + 1) else tl S n (t + 1) := rfl
theorem tl_len {S : Nat} : ∀ n t, fb_ct S.testBit (t + n) = fb_ct S.testBit t + (tl S n t).length
  | 0, t => rfl
  | n + 1, t => by
    have h := tl_len (S := S) n (t + 1)
    rw [show t + (n + 1) = t + 1 + n by omega, h, tl_s, fb_ct_succ]
    split
    · rw [List.length_cons]; omega
    · omega
theorem tl_cn {S tc : Nat} (h : tc ≤ 12) : (tl S tc 0).length ≤ cn S := by
  have h1 := tl_len (S := S) tc 0
  have h2 := tl_len (S := S) (12 - tc) tc
  rw [show tc + (12 - tc) = 12 by omega] at h2
  rw [Nat.zero_add] at h1
  have h3 : fb_ct S.testBit 0 = 0 := rfl
  unfold cn
  omega
theorem tl_mem {S : Nat} : ∀ n t u, u ∈ tl S n t → t ≤ u ∧ u < t + n ∧ S.testBit u = true
  | 0, t, u, h => nomatch h
  | n + 1, t, u, h => by
    rw [tl_s] at h
    split at h
    next c =>
      rcases List.mem_cons.mp h with rfl | h
      · exact ⟨Nat.le_refl _, by omega, c⟩
      · have := tl_mem n (t + 1) u h
        exact ⟨by omega, by omega, this.2.2⟩
    · have := tl_mem n (t + 1) u h
      exact ⟨by omega, by omega, this.2.2⟩
abbrev Op : Type := Option (Nat × List Nat)
def btr : Op → Op → Op
  | none, b => b
  | some x, none => some x
  | some x, some y => if y.1 < x.1 then some y else some x
def mnO (v : Nat → Op) : Nat → Op
  | 0 => none
  | n + 1 => btr (mnO v n) (v n)
theorem mnO_s {v : Nat → Op} {n : Nat} : mnO v (n + 1) = btr (mnO v n) (v n) := rfl
def shO (h c : Nat) : Op → Op
  | none => none
  | some x => some (x.1 + c, h :: x.2)
theorem btr_n {a : Op} : btr a none = a := by cases a <;> rfl
theorem mnO_none {v : Nat → Op} : ∀ n, (∀ h, h < n → v h = none) → mnO v n = none
  | 0, _ => rfl
  | n + 1, h => by rw [mnO_s, mnO_none n (fun k hk => h k (by omega)), h n (by omega)]; rfl
theorem mnO_le {v : Nat → Op} : ∀ n h x, h < n → v h = some x → ∃ y, mnO v n = some y ∧ y.1 ≤ x.1
  | 0, h, x, hh, _ => absurd hh (by omega)
  | n + 1, h, x, hh, hv => by
    rw [mnO_s]
    by_cases c : h = n
    · subst c
      rw [hv]
      cases e : mnO v h with
      | none => exact ⟨x, rfl, Nat.le_refl _⟩
      | some z =>
        show ∃ y, (if x.1 < z.1 then some x else some z) = some y ∧ _
        by_cases c2 : x.1 < z.1
        · rw [if_pos c2]; exact ⟨x, rfl, Nat.le_refl _⟩
        · rw [if_neg c2]; exact ⟨z, rfl, by omega⟩
    · obtain ⟨y, y1, y2⟩ := mnO_le n h x (by omega) hv
      rw [y1]
      cases e : v n with
      | none => exact ⟨y, rfl, y2⟩
      | some z =>
        show ∃ w, (if z.1 < y.1 then some z else some y) = some w ∧ _
        by_cases c2 : z.1 < y.1
        · rw [if_pos c2]; exact ⟨z, rfl, by omega⟩
        · rw [if_neg c2]; exact ⟨y, rfl, y2⟩
theorem mnO_some {v : Nat → Op} : ∀ n x, mnO v n = some x → ∃ h, h < n ∧ v h = some x ∧ ∀ h', h' < h → ∀ y, v h' = some y → x.1 < y.1
  | 0, x, h => nomatch h
  | n + 1, x, h => by
    rw [mnO_s] at h
    cases e : mnO v n with
    | none =>
      rw [e] at h
      have h : v n = some x := h
      refine ⟨n, by omega, h, fun h' hh y hy => ?_⟩
      obtain ⟨z, z1, -⟩ := mnO_le n h' y hh hy
      rw [e] at z1
      cases z1
    | some z =>
      rw [e] at h
      cases e2 : v n with
      | none =>
        rw [e2] at h
        have h : some z = some x := h
        injection h with h
        subst h
        obtain ⟨k, k1, k2, k3⟩ := mnO_some n z e
        exact ⟨k, by omega, k2, k3⟩
      | some w =>
        rw [e2] at h
        have h : (if w.1 < z.1 then some w else some z) = some x := h
        by_cases c : w.1 < z.1
        · rw [if_pos c] at h
          injection h with h
          subst h
          refine ⟨n, by omega, e2, fun h' hh y hy => ?_⟩
          obtain ⟨z', z1, z2⟩ := mnO_le n h' y hh hy
          rw [e] at z1
          injection z1 with z1
          subst z1
          omega
        · rw [if_neg c] at h
          injection h with h
          subst h
          obtain ⟨k, k1, k2, k3⟩ := mnO_some n z e
          exact ⟨k, by omega, k2, k3⟩
def cst (A : Nat → Int32) (t h : Nat) : Nat := if A (24 + t) = nI h then 0 else 1
theorem cst_le {A : Nat → Int32} {t h : Nat} : cst A t h ≤ 1 := by unfold cst; split <;> omega
def upD (A mu mn : Nat → Int32) (D : Nat → Nat → Nat) (h t : Nat) : Nat → Nat → Nat := fun h' => if h' = h then dpl A mu mn (D h) t else D h'
def gdD (hc kc : Nat) (D : Nat → Nat → Nat) : Bool := (List.range hc).all fun h => (List.range kc).all fun k => decide (D h k ≤ 15)
theorem gdD_iff {hc kc : Nat} {D : Nat → Nat → Nat} : gdD hc kc D = true ↔ ∀ h, h < hc → ∀ k, k < kc → D h k ≤ 15 := by
  unfold gdD
  rw [List.all_eq_true]
  constructor
  · intro H h hh k hk
    have h1 := H h (List.mem_range.mpr hh)
    rw [List.all_eq_true] at h1
    exact of_decide_eq_true (h1 k (List.mem_range.mpr hk))
  · intro H h hh
    rw [List.all_eq_true]
    intro k hk
    exact decide_eq_true (H h (List.mem_range.mp hh) k (List.mem_range.mp hk))
def opt (A mu mn : Nat → Int32) (hc kc : Nat) : List Nat → (Nat → Nat → Nat) → Op
  | [], D => if gdD hc kc D = true then some (0, []) else none
  | t :: ts, D => mnO (fun h => shO h (cst A t h) (opt A mu mn hc kc ts (upD A mu mn D h t))) hc
def plH (v : Nat → Option (List Nat)) : Nat → Nat → Option (List Nat)
  | 0, _ => none
  | n + 1, h => match v h with
    | some p => some (h :: p)
    | none => plH v n (h + 1)
theorem plH_s {v : Nat → Option (List Nat)} {n h : Nat} : plH v (n + 1) h = match v h with
    | some p => some (h :: p)
    | none => plH v n (h + 1) := rfl
def pl (A mu mn : Nat → Int32) (hc kc : Nat) : List Nat → Nat → (Nat → Nat → Nat) → Option (List Nat)
  | [], _, _ => some []
  | t :: ts, left, D => plH (fun h => if cst A t h ≤ left ∧ okt A mu mn kc (D h) t = true then pl A mu mn hc kc ts (left - cst A t h) (upD A mu mn D h t) else none) hc 0
theorem plH_none {v : Nat → Option (List Nat)} : ∀ n h, plH v n h = none ↔ ∀ i, h ≤ i → i < h + n → v i = none
  | 0, h => ⟨fun _ i h1 h2 => absurd h2 (by omega), fun _ => rfl⟩
  | n + 1, h => by
    rw [plH_s]
    have ih := plH_none (v := v) n (h + 1)
    cases e : v h with
    | some p =>
      constructor
      · intro z; cases z
      · intro z
        have := z h (by omega) (by omega)
        rw [e] at this
        cases this
    | none =>
      (try dsimp only)
      rw [ih]
      constructor
      · intro z i i1 i2
        by_cases c : i = h
        · rw [c]; exact e
        · exact z i (by omega) (by omega)
      · intro z i i1 i2
        exact z i (by omega) (by omega)
theorem plH_some {v : Nat → Option (List Nat)} : ∀ n h j p, (∀ i, h ≤ i → i < j → v i = none) → v j = some p → h ≤ j → j < h + n → plH v n h = some (j :: p)
  | 0, h, j, p, _, _, h3, h4 => absurd h4 (by omega)
  | n + 1, h, j, p, h1, h2, h3, h4 => by
    rw [plH_s]
    by_cases c : j = h
    · subst c
      rw [h2]
    · rw [h1 h (Nat.le_refl _) (by omega)]
      exact plH_some n (h + 1) j p (fun i i1 i2 => h1 i (by omega) i2) h2 (by omega) (by omega)
section OPT
variable {A mu mn : Nat → Int32} {hc kc : Nat}
theorem upD_s {D : Nat → Nat → Nat} {h t k : Nat} : upD A mu mn D h t h k = D h k + (if io (A t) (mu k) (mn k) then 1 else 0) := by
  unfold upD
  rw [if_pos rfl]
  rfl
theorem upD_n {D : Nat → Nat → Nat} {h h' t : Nat} (hn : h' ≠ h) : upD A mu mn D h t h' = D h' := if_neg hn
theorem gd_dn {D : Nat → Nat → Nat} {h t : Nat} (H : gdD hc kc (upD A mu mn D h t) = true) : gdD hc kc D = true := by
  rw [gdD_iff] at H ⊢
  intro h' hh k hk
  have h1 := H h' hh k hk
  by_cases c : h' = h
  · subst c
    rw [upD_s] at h1
    omega
  · rw [upD_n c] at h1
    exact h1
theorem gd_up {D : Nat → Nat → Nat} {h t : Nat} (hh : h < hc) (H : gdD hc kc D = true) : gdD hc kc (upD A mu mn D h t) = true ↔ okt A mu mn kc (D h) t = true := by
  rw [okt_iff, gdD_iff]
  rw [gdD_iff] at H
  constructor
  · intro h1 k hk hi
    have h2 := h1 h hh k hk
    rw [upD_s, hi, if_pos rfl] at h2
    omega
  · intro h1 h' hh' k hk
    by_cases c : h' = h
    · subst c
      have h2 := H h' hh k hk
      rw [upD_s]
      split
      next ci => have := h1 k hk ci; omega
      · omega
    · rw [upD_n c]
      exact H h' hh' k hk
theorem opt_bad : ∀ (ts : List Nat) (D : Nat → Nat → Nat), gdD hc kc D = false → opt A mu mn hc kc ts D = none
  | [], D, h => by
    show (if gdD hc kc D = true then some (0, []) else none) = none
    rw [h]
    rfl
  | t :: ts, D, h => by
    show mnO (fun h => shO h (cst A t h) (opt A mu mn hc kc ts (upD A mu mn D h t))) hc = none
    refine mnO_none hc (fun h' _ => ?_)
    (try dsimp only)
    rw [opt_bad ts _ (by
      cases e : gdD hc kc (upD A mu mn D h' t) with
      | false => rfl
      | true => rw [gd_dn e] at h; cases h)]
    rfl
theorem shO_some {h c : Nat} {o : Op} {x : Nat × List Nat} (H : shO h c o = some x) : ∃ y, o = some y ∧ x = (y.1 + c, h :: y.2) := by
  cases o with
  | none => cases H
  | some y =>
    have H : some (y.1 + c, h :: y.2) = some x := H
    injection H with H
    exact ⟨y, rfl, H.symm⟩
theorem opt_len : ∀ (ts : List Nat) (D : Nat → Nat → Nat) (x : Nat × List Nat), opt A mu mn hc kc ts D = some x → x.2.length = ts.length ∧ x.1 ≤ ts.length ∧ ∀ h, h ∈ x.2 → h < hc
  | [], D, x, H => by
    have H : (if gdD hc kc D = true then some (0, []) else none) = some x := H
    split at H
    · injection H with H
      subst H
      exact ⟨rfl, Nat.le_refl _, fun h hh => nomatch hh⟩
    · cases H
  | t :: ts, D, x, H => by
    obtain ⟨h, hh, h1, -⟩ := mnO_some hc x H
    obtain ⟨y, y1, rfl⟩ := shO_some h1
    obtain ⟨k1, k2, k3⟩ := opt_len ts _ y y1
    have hc1 := cst_le (A := A) (t := t) (h := h)
    refine ⟨?_, ?_, fun z hz => ?_⟩
    · show (h :: y.2).length = _
      rw [List.length_cons, List.length_cons, k1]
    · show y.1 + cst A t h ≤ _
      rw [List.length_cons]
      omega
    · rcases List.mem_cons.mp hz with rfl | hz
      · exact hh
      · exact k3 z hz
theorem pl_opt : ∀ (ts : List Nat) (D : Nat → Nat → Nat), gdD hc kc D = true → (∀ left, pl A mu mn hc kc ts left D ≠ none ↔ ∃ x, opt A mu mn hc kc ts D = some x ∧ x.1 ≤ left) ∧ (∀ x, opt A mu mn hc kc ts D = some x → pl A mu mn hc kc ts x.1 D = some x.2)
  | [], D, H => by
    have e : opt A mu mn hc kc [] D = some (0, []) := if_pos H
    rw [e]
    refine ⟨fun left => ⟨fun _ => ⟨_, rfl, Nat.zero_le _⟩, fun _ z => nomatch z⟩, fun x hx => ?_⟩
    injection hx with hx
    subst hx
    rfl
  | t :: ts, D, H => by
    have ih := fun h (hh : h < hc) (ho : okt A mu mn kc (D h) t = true) => pl_opt ts (upD A mu mn D h t) ((gd_up hh H).mpr ho)
    -- what an entry of the search says
    have hv : ∀ left h, h < hc → ((if cst A t h ≤ left ∧ okt A mu mn kc (D h) t = true then pl A mu mn hc kc ts (left - cst A t h) (upD A mu mn D h t) else none) ≠ none ↔ ∃ y, opt A mu mn hc kc ts (upD A mu mn D h t) = some y ∧ y.1 + cst A t h ≤ left) := fun left h hh => by
      constructor
      · intro z
        by_cases c : cst A t h ≤ left ∧ okt A mu mn kc (D h) t = true
        · rw [if_pos c] at z
          obtain ⟨y, y1, y2⟩ := ((ih h hh c.2).1 _).mp z
          exact ⟨y, y1, by omega⟩
        · rw [if_neg c] at z
          exact absurd rfl z
      · rintro ⟨y, y1, y2⟩
        have ho : okt A mu mn kc (D h) t = true := by
          rw [← gd_up (hc := hc) hh H]
          cases e : gdD hc kc (upD A mu mn D h t) with
          | true => rfl
          | false => rw [opt_bad ts _ e] at y1; cases y1
        rw [if_pos ⟨by omega, ho⟩]
        exact ((ih h hh ho).1 _).mpr ⟨y, y1, by omega⟩
    refine ⟨fun left => ⟨fun z => ?_, ?_⟩, fun x hx => ?_⟩
    · have z : plH (fun h => if cst A t h ≤ left ∧ okt A mu mn kc (D h) t = true then pl A mu mn hc kc ts (left - cst A t h) (upD A mu mn D h t) else none) hc 0 ≠ none := z
      rw [Ne, plH_none] at z
      have : ∃ h, h < hc ∧ (if cst A t h ≤ left ∧ okt A mu mn kc (D h) t = true then pl A mu mn hc kc ts (left - cst A t h) (upD A mu mn D h t) else none) ≠ none := Classical.byContradiction (fun w => z (fun i _ i2 => Classical.byContradiction (fun w2 => w ⟨i, by omega, w2⟩)))
      obtain ⟨h, hh, h1⟩ := this
      obtain ⟨y, y1, y2⟩ := (hv left h hh).mp h1
      obtain ⟨w, w1, w2⟩ := mnO_le (v := fun h => shO h (cst A t h) (opt A mu mn hc kc ts (upD A mu mn D h t))) hc h (y.1 + cst A t h, h :: y.2) hh (by
        show shO h (cst A t h) (opt A mu mn hc kc ts (upD A mu mn D h t)) = _
        rw [y1]
        rfl)
      exact ⟨w, w1, Nat.le_trans w2 y2⟩
    · rintro ⟨x, x1, x2⟩ z
      obtain ⟨h, hh, h1, -⟩ := mnO_some hc x x1
      obtain ⟨y, y1, rfl⟩ := shO_some h1
      have z : plH (fun h => if cst A t h ≤ left ∧ okt A mu mn kc (D h) t = true then pl A mu mn hc kc ts (left - cst A t h) (upD A mu mn D h t) else none) hc 0 = none := z
      rw [plH_none] at z
      exact (hv left h hh).mpr ⟨y, y1, x2⟩ (z h (Nat.zero_le _) (by omega))
    · obtain ⟨h, hh, h1, h2⟩ := mnO_some hc x hx
      obtain ⟨y, y1, rfl⟩ := shO_some h1
      show plH (fun h => if cst A t h ≤ y.1 + cst A t _ ∧ okt A mu mn kc (D h) t = true then pl A mu mn hc kc ts (y.1 + cst A t _ - cst A t h) (upD A mu mn D h t) else none) hc 0 = some (h :: y.2)
      refine plH_some hc 0 h y.2 (fun i _ i2 => ?_) ?_ (Nat.zero_le _) (by omega)
      · refine Classical.byContradiction (fun w => ?_)
        obtain ⟨u, u1, u2⟩ := (hv (y.1 + cst A t h) i (by omega)).mp w
        have := h2 i i2 (u.1 + cst A t i, i :: u.2) (by
          show shO i (cst A t i) (opt A mu mn hc kc ts (upD A mu mn D i t)) = _
          rw [u1]
          rfl)
        have this : y.1 + cst A t h < u.1 + cst A t i := this
        omega
      · have ho : okt A mu mn kc (D h) t = true := by
          rw [← gd_up (hc := hc) hh H]
          cases e : gdD hc kc (upD A mu mn D h t) with
          | true => rfl
          | false => rw [opt_bad ts _ e] at y1; cases y1
        (try dsimp only)
        rw [if_pos ⟨by omega, ho⟩, show y.1 + cst A t h - cst A t h = y.1 by omega]
        exact (ih h hh ho).2 y y1
end OPT
/-! the reference's record of the best -/
def Res (G : List Nat → (Nat → Int32) → Prop) (o : Op) (mv bm : Nat) (f : Nat → Int32) (bm' : Nat) (f' : Nat → Int32) : Prop := (∀ x, o = some x → mv + x.1 < bm → bm' = mv + x.1 ∧ G x.2 f') ∧ ((∀ x, o = some x → ¬ mv + x.1 < bm) → bm' = bm ∧ f' = f)
theorem Res.no {G : List Nat → (Nat → Int32) → Prop} {mv bm : Nat} {f : Nat → Int32} : Res G none mv bm f bm f := ⟨(fun x hx => nomatch hx), fun _ => ⟨rfl, rfl⟩⟩
theorem Res.far {G : List Nat → (Nat → Int32) → Prop} {o : Op} {mv bm : Nat} {f : Nat → Int32} (h : bm ≤ mv) : Res G o mv bm f bm f := ⟨fun x _ z => absurd z (by omega), fun _ => ⟨rfl, rfl⟩⟩
theorem Res.sh {G : List Nat → (Nat → Int32) → Prop} {o : Op} {mv bm bm' h c : Nat} {f f' : Nat → Int32} (H : Res (fun p => G (h :: p)) o (mv + c) bm f bm' f') : Res G (shO h c o) mv bm f bm' f' := by
  refine ⟨fun x hx hl => ?_, fun hn => H.2 (fun y hy => ?_)⟩
  · obtain ⟨y, y1, rfl⟩ := shO_some hx
    have hl : mv + (y.1 + c) < bm := hl
    have := H.1 y y1 (by omega)
    exact ⟨by rw [this.1]; show mv + c + y.1 = mv + (y.1 + c); omega, this.2⟩
  · have := hn (y.1 + c, h :: y.2) (by rw [hy]; rfl)
    have this : ¬ mv + (y.1 + c) < bm := this
    omega
theorem Res.bt {G : List Nat → (Nat → Int32) → Prop} {a b : Op} {mv bm bm1 bm2 : Nat} {f f1 f2 : Nat → Int32} (H1 : Res G a mv bm f bm1 f1) (H2 : Res G b mv bm1 f1 bm2 f2) : Res G (btr a b) mv bm f bm2 f2 := by
  cases a with
  | none =>
    obtain ⟨e1, e2⟩ := H1.2 (fun x hx => nomatch hx)
    rw [e1, e2] at H2
    exact H2
  | some x =>
    cases b with
    | none =>
      obtain ⟨e1, e2⟩ := H2.2 (fun x hx => nomatch hx)
      rw [e1, e2]
      exact H1
    | some y =>
      have h1 := H1.1 x rfl
      have h2 := H2.1 y rfl
      have h3 : ¬ mv + x.1 < bm → bm1 = bm ∧ f1 = f := fun z => H1.2 (fun w hw => by injection hw with hw; subst hw; exact z)
      have h4 : ¬ mv + y.1 < bm1 → bm2 = bm1 ∧ f2 = f1 := fun z => H2.2 (fun w hw => by injection hw with hw; subst hw; exact z)
      show Res G (if y.1 < x.1 then some y else some x) mv bm f bm2 f2
      by_cases c : y.1 < x.1
      · rw [if_pos c]
        refine ⟨fun w hw hl => ?_, fun hn => ?_⟩
        · injection hw with hw
          subst hw
          by_cases c2 : mv + x.1 < bm
          · exact h2 (by rw [(h1 c2).1]; omega)
          · exact h2 (by rw [(h3 c2).1]; exact hl)
        · have n1 := hn y rfl
          obtain ⟨e1, e2⟩ := h3 (by omega)
          obtain ⟨e3, e4⟩ := h4 (by rw [e1]; exact n1)
          exact ⟨e3.trans e1, e4.trans e2⟩
      · rw [if_neg c]
        refine ⟨fun w hw hl => ?_, fun hn => ?_⟩
        · injection hw with hw
          subst hw
          obtain ⟨e1, e2⟩ := h1 hl
          obtain ⟨e3, e4⟩ := h4 (by rw [e1]; omega)
          rw [e3, e4]
          exact ⟨e1, e2⟩
        · have n1 := hn x rfl
          obtain ⟨e1, e2⟩ := h3 n1
          obtain ⟨e3, e4⟩ := h4 (by rw [e1]; omega)
          exact ⟨e3.trans e1, e4.trans e2⟩
/-- the row of keepers, told things put -/
def asg (T : Nat → Int32) : List Nat → List Nat → Nat → Int32
  | t :: ts, h :: p => asg (upd T (24 + t) (nI h)) ts p
  | _, _ => T
theorem asg_c {T : Nat → Int32} {t h : Nat} {ts p : List Nat} : asg T (t :: ts) (h :: p) = asg (upd T (24 + t) (nI h)) ts p := rfl
theorem asg_n : ∀ (ts p : List Nat) (T : Nat → Int32) (q : Nat), (∀ u, u ∈ ts → q ≠ 24 + u) → asg T ts p q = T q
  | [], p, T, q, _ => by cases p <;> rfl
  | t :: ts, [], T, q, _ => rfl
  | t :: ts, h :: p, T, q, H => by
    rw [asg_c, asg_n ts p _ q (fun u hu => H u (List.mem_cons_of_mem _ hu)), pk_un (H t (List.mem_cons_self ..))]
/-- the told things of a set, put: what is told -/
theorem asg_tl {S : Nat} : ∀ (n t : Nat) (p : List Nat) (T : Nat → Int32) (k : Nat), p.length = (tl S n t).length → k < (tl S n t).length → asg T (tl S n t) p (24 + (tl S n t).getD k 0) = nI (p.getD k 0)
  | 0, t, p, T, k, _, hk => absurd hk (Nat.not_lt_zero _)
  | n + 1, t, p, T, k, hl, hk => by
    rw [tl_s] at hl hk ⊢
    split at hl
    next c =>
      rw [if_pos c] at hk ⊢
      cases p with
      | nil => rw [List.length_cons] at hl; cases hl
      | cons h p =>
        rw [List.length_cons, List.length_cons] at hl
        rw [List.length_cons] at hk
        rw [asg_c]
        cases k with
        | zero =>
          show asg _ _ _ (24 + t) = nI h
          rw [asg_n _ _ _ _ (fun u hu => by have := tl_mem n (t + 1) u hu; omega), pk_us]
        | succ k => exact asg_tl n (t + 1) p _ k (by omega) (by omega)
    next c =>
      rw [if_neg c] at hk ⊢
      exact asg_tl n (t + 1) p T k hl hk
