/-! PURE: store: the class. -/
def psM (μ : Mem) (g f : Nat → Int32) : Mem := rowI (rowI μ 114 g) 115 f
theorem ps_n {μ : Mem} {g f : Nat → Int32} {z : Nat} (h1 : z ≠ 114) (h2 : z ≠ 115) : (psM μ g f).1 z = μ.1 z := by
  unfold psM
  rw [rowI_n h2, rowI_n h1]
theorem ps_115 {μ : Mem} {g f : Nat → Int32} {i : Nat} {v : Int32} : upI (psM μ g f) 115 i v = psM μ g (upd f i v) := by
  refine Prod.ext ?_ rfl
  funext z
  by_cases c : z = 115
  · subst c; rfl
  · rw [rowI_n c]
    unfold psM
    rw [rowI_n c, rowI_n c]
theorem ps_114 {μ : Mem} {g f : Nat → Int32} {i : Nat} {v : Int32} : upI (psM μ g f) 114 i v = psM μ (upd g i v) f := by
  refine Prod.ext ?_ rfl
  funext z
  by_cases c : z = 114
  · subst c; rfl
  · rw [rowI_n c]
    by_cases c2 : z = 115
    · subst c2; rfl
    · rw [ps_n c c2, ps_n c c2]
def oP (o : Option (List Nat)) : Int32 := if o.isSome = true then 1 else 0
theorem dg_dpl {A mu mn : Nat → Int32} {d : Nat → Nat} {kc t : Nat} : dg (dpl A mu mn d t) kc = dg d kc + wt A mu mn kc t := by
  rw [wt_dg, dg_add]
  rfl
section PLC
variable {κ : Kp} {μ : Mem} {A mu mn : Nat → Int32} {hc tc kc lm ct : Nat}
theorem Xc.ps (h : Xc μ A mu mn hc tc kc lm) {g f : Nat → Int32} : Xc (psM μ g f) A mu mn hc tc kc lm := h.cg (fun a h1 h2 => ps_n (by omega) (by omega))
theorem x_places (h : Xc μ A mu mn hc tc kc lm) (hct : μ.1 112 4 = nI ct) (hct6 : ct ≤ 6) : ∀ (ts : List Nat) (i left F : Nat) (D : Nat → Nat → Nat) (g f : Nat → Int32), i + ts.length = ct → (∀ k, k < ts.length → μ.1 113 (i + k) = nI (ts.getD k 0)) → (∀ t, t ∈ ts → t < tc) → (∀ x, x < hc → g x = nI (dg (D x) kc)) → gdD hc kc D = true → left ≤ 6 → ∃ g' f', FG_X7_placesFrom (F + ts.length + 1) 0 112 (nI i) (nI left) (hp κ (psM μ g f)) = some (oP (pl A mu mn hc kc ts left D), hp κ (psM μ g' f')) ∧ (∀ k, k < i → f' k = f k) ∧ (pl A mu mn hc kc ts left D = none → ∀ x, x < hc → g' x = g x) ∧ (∀ p, pl A mu mn hc kc ts left D = some p → ∀ k, k < ts.length → f' (i + k) = nI (p.getD k 0)) := by
  have b1 := h.b1
  have b2 := h.b2
  have b3 := h.b3
  have e4 : ∀ g f, (psM μ g f).1 112 4 = nI ct := fun g f => hct
  intro ts
  induction ts with
  | nil =>
    intro i left F D g f hi _ _ _ _ _
    have hi : i = ct := hi
    refine ⟨g, f, ?_, fun _ _ => rfl, (fun z => nomatch z), fun p _ k hk => absurd hk (Nat.not_lt_zero _)⟩
    show G_X7_placesFrom (fun j a0 a1 a2 h => FG_X7_placesFrom F j a0 a1 a2 h) 112 (nI i) (nI left) (hp κ (psM μ g f)) = _
    unfold G_X7_placesFrom
    rw [if_pos q112, g112_4, obs, e4, if_neg (nI_nlt (by omega) (by omega))]
    rfl
  | cons t ts ih =>
    intro i left F D g f hi h113 hts hg hgd hlf
    rw [List.length_cons] at hi
    have ht : t < tc := hts t (List.mem_cons_self ..)
    have e113 : ∀ g f, (psM μ g f).1 113 i = nI t := fun g f => h113 0 (by rw [List.length_cons]; omega)
    have e10 : ∀ g f, (psM μ g f).1 10 t = nI (wt A mu mn kc t) := fun g f => (h.ps (g := g) (f := f)).2.2.2.2 t ht
    have ek : ∀ g f, (psM μ g f).1 4 t = A (24 + t) := fun g f => ((h.ps (g := g) (f := f)).2.1.1 t (by omega)).2.2
    have e15 : ∀ g f, (psM μ g f).1 1 5 = nI hc := fun g f => (h.ps (g := g) (f := f)).1.1
    -- the houses, from x on
    have inner : ∀ (n x FF : Nat) (g f : Nat → Int32), x + n = hc → (∀ x, x < hc → g x = nI (dg (D x) kc)) → ∃ g' f', b_X7_placesFrom_20 (fun j a0 a1 a2 h => FG_X7_placesFrom (F + ts.length + 1) j a0 a1 a2 h) 112 (nI i) (nI left) (nI t) (FF + n + 1) (nI x) (hp κ (psM μ g f)) = some (oP (plH (fun h => if cst A t h ≤ left ∧ okt A mu mn kc (D h) t = true then pl A mu mn hc kc ts (left - cst A t h) (upD A mu mn D h t) else none) n x), hp κ (psM μ g' f')) ∧ (∀ k, k < i → f' k = f k) ∧ (plH (fun h => if cst A t h ≤ left ∧ okt A mu mn kc (D h) t = true then pl A mu mn hc kc ts (left - cst A t h) (upD A mu mn D h t) else none) n x = none → ∀ x, x < hc → g' x = g x) ∧ (∀ p, plH (fun h => if cst A t h ≤ left ∧ okt A mu mn kc (D h) t = true then pl A mu mn hc kc ts (left - cst A t h) (upD A mu mn D h t) else none) n x = some p → ∀ k, k < ts.length + 1 → f' (i + k) = nI (p.getD k 0)) := by
      intro n
      induction n with
      | zero =>
        intro x FF g f hx _
        refine ⟨g, f, ?_, fun _ _ => rfl, fun _ _ _ => rfl, fun p z => nomatch z⟩
        rw [b_X7_placesFrom_20, g112_0, obs, g1_5, obs, e15, if_pos (nI_le (by omega) (by omega))]
        rfl
      | succ n ihn =>
        intro x FF g f hx hg
        have hxc : x < hc := by omega
        have eg : ∀ f, (psM μ g f).1 114 x = nI (dg (D x) kc) := fun f => hg x hxc
        show ∃ g' f', b_X7_placesFrom_20 _ 112 (nI i) (nI left) (nI t) (FF + n + 1 + 1) (nI x) (hp κ (psM μ g f)) = _ ∧ _
        rw [plH_s]
        -- on to the next house
        have next : ∀ g2 f2, (∀ x, x < hc → g2 x = g x) → (∀ k, k < i → f2 k = f k) → ∃ g' f', b_X7_placesFrom_20 (fun j a0 a1 a2 h => FG_X7_placesFrom (F + ts.length + 1) j a0 a1 a2 h) 112 (nI i) (nI left) (nI t) (FF + n + 1) (nI x + 1) (hp κ (psM μ g2 f2)) = some (oP (plH (fun h => if cst A t h ≤ left ∧ okt A mu mn kc (D h) t = true then pl A mu mn hc kc ts (left - cst A t h) (upD A mu mn D h t) else none) n (x + 1)), hp κ (psM μ g' f')) ∧ (∀ k, k < i → f' k = f k) ∧ (plH (fun h => if cst A t h ≤ left ∧ okt A mu mn kc (D h) t = true then pl A mu mn hc kc ts (left - cst A t h) (upD A mu mn D h t) else none) n (x + 1) = none → ∀ x, x < hc → g' x = g x) ∧ (∀ p, plH (fun h => if cst A t h ≤ left ∧ okt A mu mn kc (D h) t = true then pl A mu mn hc kc ts (left - cst A t h) (upD A mu mn D h t) else none) n (x + 1) = some p → ∀ k, k < ts.length + 1 → f' (i + k) = nI (p.getD k 0)) := fun g2 f2 hg2 hf2 => by
          obtain ⟨g', f', k1, k2, k3, k4⟩ := ihn (x + 1) FF g2 f2 (by omega) (fun y hy => (hg2 y hy).trans (hg y hy))
          rw [nI_1]
          exact ⟨g', f', k1, fun k hk => (k2 k hk).trans (hf2 k hk), fun z y hy => (k3 z y hy).trans (hg2 y hy), k4⟩
        have hcs : cst A t x = (if A (24 + t) = nI x then 0 else 1) := rfl
        have h56 : b_X7_placesFrom_20 (fun j a0 a1 a2 h => FG_X7_placesFrom (F + ts.length + 1) j a0 a1 a2 h) 112 (nI i) (nI left) (nI t) (FF + n + 1 + 1) (nI x) (hp κ (psM μ g f)) = b_X7_placesFrom_56 (fun j a0 a1 a2 h => FG_X7_placesFrom (F + ts.length + 1) j a0 a1 a2 h) (fun x0 x1 => b_X7_placesFrom_20 (fun j a0 a1 a2 h => FG_X7_placesFrom (F + ts.length + 1) j a0 a1 a2 h) 112 (nI i) (nI left) (nI t) (FF + n + 1) x0 x1) 112 (nI i) (nI left) (nI t) (nI x) (nI left - nI (cst A t x)) (hp κ (psM μ g f)) := by
          rw [b_X7_placesFrom_20, g112_0, obs, g1_5, obs, e15, if_neg (nI_ge hxc (by omega)), obs, g1_0, obs, g2_1, obs, r4 (by omega), obs, ek, hcs]
          by_cases c : A (24 + t) = nI x
          · rw [if_pos c, if_pos c, show nI left - nI 0 = nI left from pk_sub (a := left) (b := 0) (Nat.zero_le _)]
          · rw [if_neg c, if_neg c]
            rfl
        rw [h56]
        unfold b_X7_placesFrom_56 b_X7_placesFrom_141
        by_cases c1 : cst A t x ≤ left
        · rw [pk_sub c1, if_neg (nI_pos (by omega)), g112_0, obs, g112_2, obs, r114 (by omega), obs, eg, C_fits h.ps (gdD_iff.mp hgd x hxc) ht, obs]
          (try dsimp only)
          by_cases c2 : okt A mu mn kc (D x) t = true
          · obtain ⟨g2, f2, r1, r2, r3, r4⟩ := ih (i + 1) (left - cst A t x) F (upD A mu mn D x t) (upd g x (nI (dg (D x) kc) + nI (wt A mu mn kc t))) (upd f i (nI x)) (by omega) (fun k hk => by
              have := h113 (k + 1) (by rw [List.length_cons]; omega)
              rw [show i + (k + 1) = i + 1 + k by omega] at this
              exact this) (fun u hu => hts u (List.mem_cons_of_mem _ hu)) (fun y hy => by
              by_cases z : y = x
              · subst z
                rw [pk_us, nI_add, ← dg_dpl]
                unfold upD
                rw [if_pos rfl]
              · rw [pk_un z, upD_n z]
                exact hg y hy) ((gd_up hxc hgd).mpr c2) (by omega)
            have eg2 : ∀ f2, (psM μ g f2).1 114 x = nI (dg (D x) kc) := fun f2 => hg x hxc
            rw [if_pos c2, if_neg (show ¬ (1 : Int32) = 0 by decide), if_pos ⟨c1, c2⟩, g112_3, obs, w115 (by omega), obs, ps_115, g112_2, obs, r114 (by omega), obs, eg2, g112_0, obs, g1_4, obs, r10 (by omega), obs, e10, w114 (by omega), obs, ps_114, nI_1, r1, obs]
            (try dsimp only)
            cases hp : pl A mu mn hc kc ts (left - cst A t x) (upD A mu mn D x t) with
            | none =>
              have r3 := r3 hp
              have eg3 : (psM μ g2 f2).1 114 x = nI (dg (D x) kc) + nI (wt A mu mn kc t) := (r3 x hxc).trans pk_us
              have esb : nI (dg (D x) kc) + nI (wt A mu mn kc t) - nI (wt A mu mn kc t) = nI (dg (D x) kc) := by
                rw [nI_add, pk_sub (by omega), Nat.add_sub_cancel]
              rw [if_pos (show oP none = 0 from rfl), g112_2, obs, r114 (by omega), obs, eg3, g112_0, obs, g1_4, obs, r10 (by omega), obs, e10, w114 (by omega), obs, ps_114, esb]
              refine next _ _ (fun y hy => ?_) (fun k hk => ?_)
              · by_cases z : y = x
                · subst z
                  rw [pk_us]
                  exact (hg y hy).symm
                · rw [pk_un z, r3 y hy, pk_un z]
              · rw [r2 k (by omega), pk_un (by omega)]
            | some p =>
              rw [if_neg (show ¬ oP (some p) = 0 from (by decide : ¬ (1 : Int32) = 0))]
              refine ⟨g2, f2, rfl, fun k hk => ?_, (fun z => nomatch z), fun q hq k hk => ?_⟩
              · rw [r2 k (by omega), pk_un (by omega)]
              · injection hq with hq
                subst hq
                cases k with
                | zero =>
                  show f2 i = nI x
                  rw [r2 i (by omega), pk_us]
                | succ k =>
                  have := r4 p hp k (by omega)
                  rw [show i + (k + 1) = i + 1 + k by omega]
                  exact this
          · rw [if_neg c2, if_pos rfl, if_neg (fun z => c2 z.2)]
            exact next g f (fun _ _ => rfl) (fun _ _ => rfl)
        · have hl0 : left = 0 ∧ cst A t x = 1 := by
            have := cst_le (A := A) (t := t) (h := x)
            omega
          rw [hl0.1, hl0.2, if_pos (show nI 0 - nI 1 < 0 by decide), if_neg (fun (z : 1 ≤ 0 ∧ okt A mu mn kc (D x) t = true) => by have := z.1; omega)]
          rw [hl0.1] at next
          exact next g f (fun _ _ => rfl) (fun _ _ => rfl)
    obtain ⟨g', f', k1, k2, k3, k4⟩ := inner hc 0 (4999 - hc) g f (by omega) hg
    rw [show 4999 - hc + hc + 1 = 5000 by omega] at k1
    refine ⟨g', f', ?_, k2, k3, k4⟩
    show G_X7_placesFrom (fun j a0 a1 a2 h => FG_X7_placesFrom (F + ts.length + 1) j a0 a1 a2 h) 112 (nI i) (nI left) (hp κ (psM μ g f)) = _
    unfold G_X7_placesFrom
    rw [if_pos q112, g112_4, obs, e4, if_pos (nI_lt (by omega) (by omega)), g112_1, obs, r113 (by omega), obs, e113]
    exact k1
end PLC
/-! the told things, listed -/
def lsM (μ : Mem) (g : Nat → Int32) (c : Nat) : Mem := upI (rowI μ 113 g) 112 4 (nI c)
section LST
variable {κ : Kp} {μ : Mem} {A mu mn : Nat → Int32} {hc tc kc lm ct S : Nat}
theorem ls_n {g : Nat → Int32} {c z : Nat} (h1 : z ≠ 112) (h2 : z ≠ 113) : (lsM μ g c).1 z = μ.1 z := by
  unfold lsM
  rw [rowI_n h1, rowI_n h2]
theorem ls_113 {g : Nat → Int32} {c k : Nat} {v : Int32} : upI (lsM μ g c) 113 k v = lsM μ (upd g k v) c := by
  refine Prod.ext ?_ rfl
  funext z
  by_cases e : z = 113
  · subst e; rfl
  · rw [rowI_n e]
    by_cases e2 : z = 112
    · subst e2; rfl
    · rw [ls_n e2 e, ls_n e2 e]
theorem ls_112 {g : Nat → Int32} {c d : Nat} : upI (lsM μ g c) 112 4 (nI d) = lsM μ g d := by
  refine Prod.ext ?_ rfl
  funext z
  by_cases e : z = 112
  · subst e
    show upd (upd (μ.1 112) 4 (nI c)) 4 (nI d) = upd (μ.1 112) 4 (nI d)
    rw [fa_upd_twice]
  · rw [rowI_n e]
    unfold lsM
    rw [rowI_n e, rowI_n e]
theorem x_listL (h : μ.1 1 6 = nI tc) (b2 : tc ≤ 12) (hS : S < 4096) : ∀ (n t cnt F : Nat) (g : Nat → Int32), t + n = tc → cnt + (tl S n t).length ≤ 6 → ∃ g', b_X7_list_7 112 (nI S) (F + n + 1) (nI t) (hp κ (lsM μ g cnt)) = some (hp κ (lsM μ g' (cnt + (tl S n t).length))) ∧ (∀ k, k < cnt → g' k = g k) ∧ ∀ k, k < (tl S n t).length → g' (cnt + k) = nI ((tl S n t).getD k 0) := by
  have e6 : ∀ g c, (lsM μ g c).1 1 6 = nI tc := fun _ _ => h
  have e4 : ∀ g c, (lsM μ g c).1 112 4 = nI c := fun _ _ => rfl
  intro n
  induction n with
  | zero =>
    intro t cnt F g ht hl
    refine ⟨g, ?_, fun _ _ => rfl, fun k hk => absurd hk (Nat.not_lt_zero _)⟩
    rw [b_X7_list_7, g112_0, obs, g1_6, obs, e6, if_pos (nI_le (by omega) (by omega))]
    rfl
  | succ n ih =>
    intro t cnt F g ht hl
    show ∃ g', b_X7_list_7 112 (nI S) (F + n + 1 + 1) (nI t) (hp κ (lsM μ g cnt)) = _ ∧ _
    rw [tl_s] at hl ⊢
    rw [b_X7_list_7, g112_0, obs, g1_6, obs, e6, if_neg (nI_ge (by omega) (by omega)), g112_4, obs, e4]
    unfold b_X7_list_55
    by_cases c6 : cnt = 6
    · -- all are found
      have hn : ∀ m u, S.testBit u = true → t ≤ u → u < t + m → ¬ (tl S m t).length = 0 := by
        intro m
        have gen : ∀ m t u, S.testBit u = true → t ≤ u → u < t + m → ¬ (tl S m t).length = 0 := by
          intro m
          induction m with
          | zero => intro t u _ h1 h2; omega
          | succ m ihm =>
            intro t u hu h1 h2
            rw [tl_s]
            by_cases c : S.testBit t = true
            · rw [if_pos c, List.length_cons]; omega
            · rw [if_neg c]
              have : u ≠ t := fun z => by rw [z] at hu; exact c hu
              exact ihm (t + 1) u hu (by omega) (by omega)
        exact fun u => gen m t u
      have cS : ¬ S.testBit t = true := fun z => by rw [if_pos z, List.length_cons] at hl; omega
      rw [if_neg cS] at hl ⊢
      have e0 : (tl S n (t + 1)).length = 0 := by omega
      rw [if_pos (show (6 : Int32) ≤ nI cnt from nI_le (a := 6) (by omega) (by omega)), e0]
      exact ⟨g, rfl, fun _ _ => rfl, fun k hk => absurd hk (Nat.not_lt_zero _)⟩
    · rw [if_neg (show ¬ (6 : Int32) ≤ nI cnt from nI_ge (b := 6) (by omega) (by decide))]
      by_cases cS : S.testBit t = true
      · have c1 : ¬ ((nI S >>> (nI t &&& 31)) &&& 1 = 0) := fun z => by
          have := (i_bit0 (show S < 2 ^ 31 by omega) (show t < 32 by omega)).mp z
          rw [cS] at this
          cases this
        rw [if_pos cS] at hl ⊢
        rw [List.length_cons] at hl ⊢
        obtain ⟨g', k1, k2, k3⟩ := ih (t + 1) (cnt + 1) F (upd g cnt (nI t)) (by omega) (by omega)
        rw [if_neg c1, g112_1, obs, obs, w113 (by omega), obs, ls_113, g112_4, obs, e4, nI_1, p112_4, obs, ls_112, nI_1]
        (try dsimp only)
        rw [k1]
        refine ⟨g', by rw [show cnt + 1 + (tl S n (t + 1)).length = cnt + ((tl S n (t + 1)).length + 1) by omega], fun k hk => ?_, fun k hk => ?_⟩
        · rw [k2 k (by omega), pk_un (by omega)]
        · cases k with
          | zero =>
            show g' cnt = nI t
            rw [k2 cnt (by omega), pk_us]
          | succ k =>
            have := k3 k (by omega)
            rw [show cnt + 1 + k = cnt + (k + 1) by omega] at this
            exact this
      · have c1 : (nI S >>> (nI t &&& 31)) &&& 1 = 0 := (i_bit0 (by omega) (by omega)).mpr (by simpa using cS)
        rw [if_neg cS] at hl ⊢
        obtain ⟨g', k1, k2, k3⟩ := ih (t + 1) cnt F g (by omega) hl
        rw [if_pos c1, nI_1]
        (try dsimp only)
        rw [k1]
        exact ⟨g', rfl, k2, k3⟩
theorem x_list (h : Xc μ A mu mn hc tc kc lm) (hS : S < 4096) (hl : (tl S tc 0).length ≤ 6) : ∃ g, F_X7_list 112 (nI S) (hp κ μ) = some (hp κ (lsM μ g (tl S tc 0).length)) ∧ ∀ k, k < (tl S tc 0).length → g k = nI ((tl S tc 0).getD k 0) := by
  have b2 := h.b2
  obtain ⟨g', k1, -, k3⟩ := x_listL (κ := κ) (S := S) h.1.2.1 b2 hS tc 0 0 (4999 - tc) (μ.1 113) (by omega) (by omega)
  rw [show 4999 - tc + tc + 1 = 5000 by omega, Nat.zero_add] at k1
  refine ⟨g', ?_, fun k hk => by have := k3 k hk; rw [Nat.zero_add] at this; exact this⟩
  have e0 : upI μ 112 4 0 = lsM μ (μ.1 113) 0 := by
    unfold lsM
    rw [rowI_id]
    rfl
  unfold F_X7_list
  rw [if_pos q112, p112_4, obs, e0]
  exact k1
/-- how full the houses are, told things aside -/
def D0 (A mu mn : Nat → Int32) (tc lm S : Nat) : Nat → Nat → Nat := fun x k => 15 - lm + mo A mu mn tc (sd (kp (fun t => A (24 + t)) tc (nI x)) S) k
theorem ld_D0 (b4 : 1 ≤ lm ∧ lm ≤ 4) {x : Nat} (hz : bb A mu mn tc kc lm (sd (kp (fun t => A (24 + t)) tc (nI x)) S) = 0) : dg (ld A mu mn tc lm (sd (kp (fun t => A (24 + t)) tc (nI x)) S)) kc = dg (D0 A mu mn tc lm S x) kc ∧ ∀ k, k < kc → D0 A mu mn tc lm S x k ≤ 15 := by
  rw [bb_0] at hz
  refine ⟨fb_sm_cong (fun k hk => ?_), fun k hk => ?_⟩
  · have := hz k hk
    unfold ld D0
    rw [show 15 - (lm - mo A mu mn tc (sd (kp (fun t => A (24 + t)) tc (nI x)) S) k) = 15 - lm + mo A mu mn tc (sd (kp (fun t => A (24 + t)) tc (nI x)) S) k by omega]
  · have := hz k hk
    unfold D0
    omega
theorem x_loads (h : Xc μ A mu mn hc tc kc lm) : ∀ (n x F : Nat) (g : Nat → Int32), x + n = hc → (∀ y, y < x → g y = nI (dg (D0 A mu mn tc lm S y) kc) ∧ ∀ k, k < kc → D0 A mu mn tc lm S y k ≤ 15) → ∃ g', (gdD hc kc (D0 A mu mn tc lm S) = true ∧ (∀ y, y < hc → g' y = nI (dg (D0 A mu mn tc lm S y) kc)) ∧ b_X7_fewestMoves_7 112 (nI S) (F + n + 1) (nI x) (hp κ (rowI μ 114 g)) = b_X7_fewestMoves_67 112 bigN 0 (hp κ (rowI μ 114 g'))) ∨ (gdD hc kc (D0 A mu mn tc lm S) = false ∧ b_X7_fewestMoves_7 112 (nI S) (F + n + 1) (nI x) (hp κ (rowI μ 114 g)) = some (-2, hp κ (rowI μ 114 g'))) := by
  have b1 := h.b1
  have b2 := h.b2
  have b3 := h.b3
  have b4 := h.b4
  have hX : ∀ g, Xc (rowI μ 114 g) A mu mn hc tc kc lm := fun g => h.cg (fun a h1 h2 => rowI_n (by omega))
  have e15 : ∀ g, (rowI μ 114 g).1 1 5 = nI hc := fun g => (hX g).1.1
  intro n
  induction n with
  | zero =>
    intro x F g hx H
    refine ⟨g, Or.inl ⟨gdD_iff.mpr (fun y hy k hk => (H y (by omega)).2 k hk), fun y hy => (H y (by omega)).1, ?_⟩⟩
    rw [b_X7_fewestMoves_7, g112_0, obs, g1_5, obs, e15, if_pos (nI_le (by omega) (by omega))]
  | succ n ih =>
    intro x F g hx H
    have hxc : x < hc := by omega
    have hk : kp (fun t => A (24 + t)) tc (nI x) < 4096 := kp_lt b2
    have hs : sd (kp (fun t => A (24 + t)) tc (nI x)) S < 4096 := sd_lt (n := 12) hk
    have hbl := bb_lt (A := A) (mu := mu) (mn := mn) (tc := tc) (lm := lm) (s := sd (kp (fun t => A (24 + t)) tc (nI x)) S) b3
    show ∃ g', (_ ∧ _ ∧ b_X7_fewestMoves_7 112 (nI S) (F + n + 1 + 1) (nI x) (hp κ (rowI μ 114 g)) = _) ∨ (_ ∧ b_X7_fewestMoves_7 112 (nI S) (F + n + 1 + 1) (nI x) (hp κ (rowI μ 114 g)) = _)
    rw [b_X7_fewestMoves_7, g112_0, obs, g1_5, obs, e15, if_neg (nI_ge hxc (by omega)), obs, C_kept (hX g), obs]
    (try dsimp only)
    rw [g112_0, obs, i_sd, C_broken (hX g) hs, obs]
    (try dsimp only)
    by_cases c : bb A mu mn tc kc lm (sd (kp (fun t => A (24 + t)) tc (nI x)) S) = 0
    · obtain ⟨d1, d2⟩ := ld_D0 b4 c
      have eu : ∀ v, upI (rowI μ 114 g) 114 x v = rowI μ 114 (upd g x v) := fun v => by
        show rowI (rowI μ 114 g) 114 (upd ((rowI μ 114 g).1 114) x v) = _
        rw [rowI_rowI, rowI_s]
      rw [if_pos (show nI (bb A mu mn tc kc lm (sd (kp (fun t => A (24 + t)) tc (nI x)) S)) = 0 by rw [c]; rfl), g112_2, obs, g112_0, obs, C_load (hX g) hs, obs]
      (try dsimp only)
      rw [w114 (by omega), obs, eu, nI_1, d1]
      exact ih (x + 1) F _ (by omega) (fun y hy => by
        by_cases z : y = x
        · subst z
          exact ⟨pk_us, d2⟩
        · rw [pk_un z]
          exact H y (by omega))
    · rw [if_neg (fun z => c ((i_eq0 (by omega)).mp z))]
      refine ⟨g, Or.inr ⟨?_, rfl⟩⟩
      cases e : gdD hc kc (D0 A mu mn tc lm S) with
      | false => rfl
      | true =>
        exfalso
        apply c
        rw [bb_0]
        intro k hk
        have := gdD_iff.mp e x hxc k hk
        unfold D0 at this
        omega
def oN : Op → Int32
  | none => -2
  | some x => nI x.1
theorem x_moves (h : Xc μ A mu mn hc tc kc lm) (hct : μ.1 112 4 = nI ct) (hct6 : ct ≤ 6) {ts : List Nat} (hl : ts.length = ct) (h113 : ∀ k, k < ts.length → μ.1 113 k = nI (ts.getD k 0)) (hts : ∀ t, t ∈ ts → t < tc) {D : Nat → Nat → Nat} (hgd : gdD hc kc D = true) : ∀ (n m F : Nat) (g f : Nat → Int32), m + n = ct + 1 → (∀ x, x < hc → g x = nI (dg (D x) kc)) → (∀ x, opt A mu mn hc kc ts D = some x → m ≤ x.1) → ∃ g' f', b_X7_fewestMoves_67 112 (F + n + 1) (nI m) (hp κ (psM μ g f)) = some (oN (opt A mu mn hc kc ts D), hp κ (psM μ g' f')) ∧ ∀ x, opt A mu mn hc kc ts D = some x → ∀ k, k < ts.length → f' k = nI (x.2.getD k 0) := by
  have e4 : ∀ g f, (psM μ g f).1 112 4 = nI ct := fun g f => hct
  obtain ⟨p1, p2⟩ := pl_opt (A := A) (mu := mu) (mn := mn) (hc := hc) (kc := kc) ts D hgd
  have hol := opt_len (A := A) (mu := mu) (mn := mn) (hc := hc) (kc := kc) ts D
  intro n
  induction n with
  | zero =>
    intro m F g f hm _ H
    have hno : opt A mu mn hc kc ts D = none := by
      cases e : opt A mu mn hc kc ts D with
      | none => rfl
      | some x =>
        have h1 := H x e
        have h2 := (hol x e).2.1
        omega
    rw [hno]
    refine ⟨g, f, ?_, fun x hx => nomatch hx⟩
    rw [b_X7_fewestMoves_67, g112_4, obs, e4, if_pos (nI_lt (by omega) (by omega))]
    rfl
  | succ n ih =>
    intro m F g f hm hg H
    obtain ⟨g2, f2, r1, -, r3, r4⟩ := x_places (κ := κ) h hct hct6 ts 0 m (99 - ts.length) D g f (by omega) (fun k hk => by rw [Nat.zero_add]; exact h113 k hk) hts hg hgd (by omega)
    rw [show 99 - ts.length + ts.length + 1 = 100 by omega] at r1
    have r1 : F_X7_placesFrom 112 0 (nI m) (hp κ (psM μ g f)) = _ := r1
    show ∃ g' f', b_X7_fewestMoves_67 112 (F + n + 1 + 1) (nI m) (hp κ (psM μ g f)) = _ ∧ _
    rw [b_X7_fewestMoves_67, g112_4, obs, e4, if_neg (nI_nlt (by omega) (by omega)), r1, obs]
    (try dsimp only)
    cases hp : pl A mu mn hc kc ts m D with
    | none =>
      rw [if_pos (show oP none = 0 from rfl), nI_1]
      refine ih (m + 1) F g2 f2 (by omega) (fun x hx => (r3 hp x hx).trans (hg x hx)) (fun x hx => ?_)
      have h1 := H x hx
      by_cases z : x.1 ≤ m
      · exact absurd hp ((p1 m).mpr ⟨x, hx, z⟩)
      · omega
    | some p =>
      obtain ⟨x, x1, x2⟩ := (p1 m).mp (by rw [hp]; exact fun z => nomatch z)
      have e : x.1 = m := by have := H x x1; omega
      have h2 := p2 x x1
      rw [e, hp] at h2
      injection h2 with h2
      rw [if_neg (show ¬ oP (some p) = 0 from (by decide : ¬ (1 : Int32) = 0)), x1]
      refine ⟨g2, f2, by show some (nI m, _) = some (nI x.1, _); rw [e], fun y hy k hk => ?_⟩
      injection hy with hy
      subst hy
      have := r4 p hp k hk
      rw [Nat.zero_add] at this
      rw [this, h2]
theorem x_fewestM (h : Xc μ A mu mn hc tc kc lm) (hS : S < 4096) (h6 : cn S ≤ 6) : ∃ ν, F_X7_fewestMoves 112 (nI S) (hp κ μ) = some (oN (opt A mu mn hc kc (tl S tc 0) (D0 A mu mn tc lm S)), hp κ ν) ∧ (∀ z, z ≠ 112 → z ≠ 113 → z ≠ 114 → z ≠ 115 → ν.1 z = μ.1 z) ∧ ν.2 = μ.2 ∧ ∀ x, opt A mu mn hc kc (tl S tc 0) (D0 A mu mn tc lm S) = some x → ν.1 112 4 = nI (tl S tc 0).length ∧ ∀ k, k < (tl S tc 0).length → ν.1 115 k = nI (x.2.getD k 0) := by
  have b2 := h.b2
  have hl : (tl S tc 0).length ≤ 6 := Nat.le_trans (tl_cn b2) h6
  obtain ⟨g, l1, l2⟩ := x_list (κ := κ) h hS hl
  have hX : Xc (lsM μ g (tl S tc 0).length) A mu mn hc tc kc lm := h.cg (fun a h1 h2 => ls_n (by omega) (by omega))
  obtain ⟨g2, hg2⟩ := x_loads (κ := κ) (S := S) hX hc 0 (4999 - hc) ((lsM μ g (tl S tc 0).length).1 114) (by omega) (fun y hy => absurd hy (Nat.not_lt_zero _))
  have b1 := h.b1
  rw [show 4999 - hc + hc + 1 = 5000 by omega, rowI_id] at hg2
  have hF : F_X7_fewestMoves 112 (nI S) (hp κ μ) = b_X7_fewestMoves_7 112 (nI S) 5000 (nI 0) (hp κ (lsM μ g (tl S tc 0).length)) := by
    unfold F_X7_fewestMoves
    rw [if_pos q112, l1, obs]
    rfl
  rcases hg2 with ⟨k1, k2, k3⟩ | ⟨k1, k2⟩
  · have e115 : rowI (lsM μ g (tl S tc 0).length) 114 g2 = psM (lsM μ g (tl S tc 0).length) g2 ((rowI (lsM μ g (tl S tc 0).length) 114 g2).1 115) := by
      unfold psM
      rw [rowI_id]
    obtain ⟨g3, f3, m1, m2⟩ := x_moves (κ := κ) hX (ct := (tl S tc 0).length) rfl hl rfl l2 (fun t ht => by have := tl_mem tc 0 t ht; omega) k1 ((tl S tc 0).length + 1) 0 (4999 - ((tl S tc 0).length + 1)) g2 ((rowI (lsM μ g (tl S tc 0).length) 114 g2).1 115) (by omega) k2 (fun x _ => Nat.zero_le _)
    rw [show 4999 - ((tl S tc 0).length + 1) + ((tl S tc 0).length + 1) + 1 = 5000 by omega, ← e115] at m1
    refine ⟨psM (lsM μ g (tl S tc 0).length) g3 f3, ?_, fun z z1 z2 z3 z4 => by rw [ps_n z3 z4, ls_n z1 z2], rfl, fun x hx => ⟨rfl, fun k hk => m2 x hx k hk⟩⟩
    rw [hF, k3]
    exact m1
  · refine ⟨rowI (lsM μ g (tl S tc 0).length) 114 g2, ?_, fun z z1 z2 z3 z4 => by rw [rowI_n z3, ls_n z1 z2], rfl, fun x hx => ?_⟩
    · rw [hF, k2, opt_bad _ _ k1]
      rfl
    · rw [opt_bad _ _ k1] at hx
      cases hx
end LST
