/-! THE CLEAN INTERPRETER, part 6: the theorem. -/
section CIM
variable (Ms : Nat → ci_Y) (Ts : List Jvm.Cond) (cl : List vw_C) (fty : Nat → Nat → FieldType) (xs : Nat → Int32) (N : Nat) (ct th : ci_Y → Nat → ci_I → Prop)
/-- every method that a run at n steps ends is met -/
def ci_MetAll (n : Nat) : Prop := ∀ (d M : Nat) (vs : List Value) (h : ci_H) (nx : ci_N) (r : Option Value × ci_H × ci_N), ci_run Ms cl fty xs N n d M 0 (ci_entry vs (ci_n (Ms M))) [] h nx = some r → ci_thr r.1 = false → ci_okC Ts (Ms M) → (ci_sl vs).length ≤ ci_n (Ms M) →
  ∀ (l : Launch) (D : va_G) (b : Nat) (tys : List (ClassId × FieldType)) (ws : va_W) (av : List Value) (sz : Nat), ci_W b tys h nx.1 ws → ci_vs (ci_ad b ws) vs av → b < sz → ¬ va_A ws sz b →
  Met l (ci_y (Ms M)) (ci_ws Ts (Ms M)) (ci_rm d (r.2.2.2.1 - nx.2.1) (r.2.2.2.2 - nx.2.2)) (ci_Pc b N xs D cl tys ws sz av) (ci_Qc b D cl ws sz r.1 r.2.1 r.2.2.1) (r.2.2.2.1 - nx.2.1) (r.2.2.2.2 - nx.2.2) (va_A ws sz)
/-- the row of a catching call, in a frame of the method M at depth d -/
def ci_Row14 (p : Program) (l : Launch) (e : Env) (R : Room) (s : State) (m : MethodId) (args : Array Value) (below : List Frame) (meth : Method) (c : Code) (Q : State → Prop) (D : va_G) (A : Nat → Prop) (b M d : Nat) : Prop :=
  ∀ (k pc d' o len x y : Nat) (i : Instr) (v : Int32) (S1 : List Value) (h : ci_H) (nx : ci_N) (q : Option Value × ci_H × ci_N) (u : Int32 × ci_H × ci_N) (ws : va_W) (tys : List (ClassId × FieldType)) (H : Heap) (locs : List Loc) (cells slots : Nat) (ls : Array Slot) (st : List Value),
    (ci_code (Ms M))[pc]? = some (some (i, len, v, x, y, 14)) → d = d' + 2 → ci_k (Ms x) ≤ S1.length → ci_few (S1.drop (ci_k (Ms x))) = true → (ci_sl (S1.take (ci_k (Ms x))).reverse).length ≤ ci_n (Ms x) → ci_recv 11 y h (S1.take (ci_k (Ms x))).reverse = true → ci_ints ((S1.take (ci_k (Ms x))).reverse.drop 1) = true →
    ci_run Ms cl fty xs N k d' x 0 (ci_entry (S1.take (ci_k (Ms x))).reverse (ci_n (Ms x))) [] h nx = some q → ci_cat q.1 o q.2.1 q.2.2 = some u →
    ci_R b D cl s A s.heap tys h nx.1 ws H locs → ci_vs (ci_ad b ws) (.ref o :: S1) st → ls.size = ci_n (Ms M) → cells + u.2.2.2.1 ≤ R.cells + nx.2.1 → slots + u.2.2.2.2 ≤ R.slots + nx.2.2 →
    (∀ (H1 : Heap) (locs1 : List Loc) (cells1 slots1 : Nat) (ws1 : va_W) (tys1 : List (ClassId × FieldType)) (st' : List Value), ci_R b D cl s A s.heap tys1 u.2.1 u.2.2.1 ws1 H1 locs1 → ci_ext (ci_ad b ws) (ci_ad b ws1) → ci_vs (ci_ad b ws1) (.int u.1 :: S1.drop (ci_k (Ms x))) st' → cells1 + nx.2.1 = cells + u.2.2.2.1 → slots1 + nx.2.2 = slots + u.2.2.2.2 → W p l e R s m args below meth c H1 locs1 cells1 slots1 Q (F0 m (pc + len) ls st')) →
    W p l e R s m args below meth c H locs cells slots Q (F0 m pc ls st)
variable {Ms Ts cl fty xs N ct th}
variable {p : Program} {l : Launch} {e : Env} {R : Room} {s : State} {m : MethodId} {args : Array Value} {below : List Frame} {meth : Method} {c : Code} {Q : State → Prop} {D : va_G} {A : Nat → Prop} {b : Nat}
theorem ci_few_le {S : List Value} (h : ci_few S = true) : (S.map fun v => v.category).sum ≤ 8 := of_decide_eq_true h
set_option maxHeartbeats 8000000 in
/-- a call -/
theorem ci_simC {g : Nat} (hg7 : g ≠ 14) (hgood : ∀ w ∈ Ts, (w.onTables && w.keeps) = true ∨ ∃ ty, w = Jvm.Cond.arrayClass ty) {M : Nat} (hx : p.tables.exec = Jvm.exec) (hb : c.code = ci_b (Ms M)) (hml : c.maxLocals = ci_n (Ms M)) (hown : s.vm.findClass (ci_y (Ms M)).cls = some m.cls) (hts : ∀ w ∈ Ts, w.before args s = true) (hA : ∀ q, s.heap.size ≤ q → A q) (hX : va_X b N xs s s.heap) (hbl : b < s.heap.size) (hbA : ¬ A b) (hEs : ci_E s)
    {d' : Nat} (hfr : d' + 2 ≤ R.frames) (hlo : 40 * (d' + 2) ≤ R.locals) {n : Nat} (hM : ci_MetAll Ms Ts cl fty xs N n) {i : Instr} {len pc x y : Nat} {v : Int32} (hok : ci_ok Ms Ts cl fty ct th (Ms M) pc (i, len, v, x, y, g)) {S st : List Value} {h : ci_H} {nx : ci_N} {q : Option Value × ci_H × ci_N} {ws : va_W} {tys : List (ClassId × FieldType)} {H : Heap} {locs : List Loc} {cells slots : Nat} {ls : Array Slot}
    (h1 : ci_k (Ms x) ≤ S.length) (h2 : ci_few (S.drop (ci_k (Ms x))) = true) (h3 : (ci_sl (S.take (ci_k (Ms x))).reverse).length ≤ ci_n (Ms x)) (h4 : ci_recv g y h (S.take (ci_k (Ms x))).reverse = true)
    (hr : ci_run Ms cl fty xs N n d' x 0 (ci_entry (S.take (ci_k (Ms x))).reverse (ci_n (Ms x))) [] h nx = some q) (hthr : ci_thr q.1 = false) (hR : ci_R b D cl s A s.heap tys h nx.1 ws H locs) (hS : ci_vs (ci_ad b ws) S st) (hls : ls.size = ci_n (Ms M)) (hc1 : cells + q.2.2.2.1 ≤ R.cells + nx.2.1) (hc2 : slots + q.2.2.2.2 ≤ R.slots + nx.2.2)
    (kk : ∀ (H1 : Heap) (locs1 : List Loc) (cells1 slots1 : Nat) (ws1 : va_W) (tys1 : List (ClassId × FieldType)) (st' : List Value), ci_R b D cl s A s.heap tys1 q.2.1 q.2.2.1 ws1 H1 locs1 → ci_ext (ci_ad b ws) (ci_ad b ws1) → ci_vs (ci_ad b ws1) (q.1.toList ++ S.drop (ci_k (Ms x))) st' → cells1 + nx.2.1 = cells + q.2.2.2.1 → slots1 + nx.2.2 = slots + q.2.2.2.2 → W p l e R s m args below meth c H1 locs1 cells1 slots1 Q (F0 m (pc + len) ls st')) :
    W p l e R s m args below meth c H locs cells slots Q (F0 m pc ls st) := by
  have hmono := ci_mono _ _ _ _ _ _ _ _ _ hr
  generalize hvs : (S.take (ci_k (Ms x))).reverse = vs at h3 h4 hr
  have hlen : vs.length = ci_k (Ms x) := by rw [← hvs, List.length_reverse, List.length_take]; omega
  have hsp : S = vs.reverse ++ S.drop (ci_k (Ms x)) := by rw [← hvs]; exact ci_split _ _
  rw [hsp] at hS
  generalize hre : S.drop (ci_k (Ms x)) = rest at h2 hS kk
  obtain ⟨a1, st2, rfl, hS1, hS2⟩ := hS.part
  have hav : ci_vs (ci_ad b ws) vs a1.reverse := by have := hS1.rev; rw [List.reverse_reverse] at this; exact this
  have hfew : (st2.map fun v => v.category).sum ≤ 8 := by rw [hS2.cat]; exact ci_few_le h2
  have hbH : b < H.size := Nat.lt_of_lt_of_le hbl hR.2.2.2.2.1
  have hbn : ¬ va_A ws H.size b := fun z => hbA (ci_sub_A hR.2.2.2.1 hR.2.2.2.2 hA b z)
  have hgw : GoodIn Ts (ci_ws Ts (Ms x)) → True := fun _ => trivial
  have hd := hok.1
  -- what every kind of call has
  have main : ∀ (hC : ci_okC Ts (Ms x)), Met l (ci_y (Ms x)) (ci_ws Ts (Ms x)) (ci_rm d' (q.2.2.2.1 - nx.2.1) (q.2.2.2.2 - nx.2.2)) (ci_Pc b N xs D cl tys ws H.size a1.reverse) (ci_Qc b D cl ws H.size q.1 q.2.1 q.2.2.1) (q.2.2.2.1 - nx.2.1) (q.2.2.2.2 - nx.2.2) (va_A ws H.size) :=
    fun hC => hM d' x vs h nx q hr hthr hC h3 l D b tys ws a1.reverse H.size hR.1 hav hbH hbn
  have hgi : ∀ (hC : ci_okC Ts (Ms x)), ∀ w ∈ ci_ws Ts (Ms x), w ∈ Ts := fun hC w hw => (List.mem_cons.mp hw).elim (fun e => by rw [e]; exact hC.2.1) id
  have hroom : ∀ (hC : ci_okC Ts (Ms x)), (ci_rm d' (q.2.2.2.1 - nx.2.1) (q.2.2.2.2 - nx.2.2)).frames + 1 ≤ R.frames ∧ 8 + (ci_n (Ms x) + 11) + (ci_rm d' (q.2.2.2.1 - nx.2.1) (q.2.2.2.2 - nx.2.2)).locals ≤ R.locals := fun hC => by
    have h21 := hC.2.2.1
    refine ⟨by show d' + 1 + 1 ≤ _; omega, ?_⟩
    show 8 + (ci_n (Ms x) + 11) + 40 * (d' + 1) ≤ _
    omega
  have hcap : cells + (q.2.2.2.1 - nx.2.1) ≤ R.cells ∧ slots + (q.2.2.2.2 - nx.2.2) ≤ R.slots := ⟨by omega, by omega⟩
  have hpre := ci_pre (av := a1.reverse) hR hX hbl hbA hEs
  have hfix : CallFix p m c (ci_b (Ms M)) (ci_n (Ms M)) s args Ts (ci_y (Ms M)).cls := ⟨hx, hb, hml, hown, hts⟩
  have fin : ∀ (a : Array Value), va_Run p l e R s m args below meth c H locs cells slots (q.2.2.2.1 - nx.2.1) (q.2.2.2.2 - nx.2.2) (F0 m pc ls (a1 ++ st2)) st2 (ci_Qc b D cl ws H.size q.1 q.2.1 q.2.2.1 a) (va_A ws H.size) → len = 3 → W p l e R s m args below meth c H locs cells slots Q (F0 m pc ls (a1 ++ st2)) := by
    intro a hrun hl3
    subst hl3
    refine ci_after hrun hR hA (fun H1 locs1 ws1 tys1 w g1 g2 g3 => ?_)
    exact kk H1 locs1 _ _ ws1 tys1 _ g1 g2 (g3.toList (hS2.ext g2)) (by omega) (by omega)
  have hstk : a1 ++ st2 = a1.reverse.reverse ++ st2 := by rw [List.reverse_reverse]
  obtain ⟨-, hok2⟩ := hok
  unfold ci_recv at h4
  split at h4
  · obtain ⟨hl3, hC, ix, rfl, k1, k2, k3⟩ := hok2
    subst hl3
    have cw := va_cwS (R := R) (bytes := ci_b (Ms x)) (maxL := ci_n (Ms x)) (ret := ci_t (Ms x)) (ws := ci_ws Ts (Ms x)) (rm := ci_rm d' (q.2.2.2.1 - nx.2.1) (q.2.2.2.2 - nx.2.2)) (ci_k (Ms x)) hts (own := (ci_y (Ms M)).cls) (index := ix) (ci_good hgood (fun w hw => by
      rcases List.mem_append.mp hw with hw | hw
      · simp only [List.mem_cons, List.not_mem_nil, or_false] at hw
        rcases hw with rfl | rfl | rfl
        · exact k1
        · exact k2
        · exact hC.2.2.2.2.2
      · exact hgi hC w hw)) rfl rfl rfl ⟨hC.2.2.2.2.1.1, hC.2.2.2.2.1.2, k3⟩ (hroom hC)
    exact fin _ (va_runS (g := F0 m pc ls (a1 ++ st2)) hfix (main hC) cw ⟨ci_blind, hpre⟩ rfl (by rw [hav.len]; exact hlen) hls hstk (lv_room hfew) hd hcap) rfl
  · split at h4
    next r0 vs0 =>
      split at h4
      next o ho =>
        have hoy : o.1 = y := by simpa using h4
        obtain ⟨hl3, hC, ⟨rc, hrc, hrn⟩, ix, n0, rfl, hk1, k1, k2, k3, k4⟩ := hok2
        subst hl3
        obtain ⟨ra, av0, hra, hae, hav0⟩ := ci_vs_r hav
        rw [hae] at main hpre hstk
        have hk9 : av0.length = n0 := by have hk1 : ci_k (Ms x) = n0 + 1 := hk1; rw [hav0.len]; simp only [List.length_cons] at hlen; omega
        obtain ⟨hkr, hhr⟩ := ci_obj_inv ho
        obtain ⟨e0, hws, he⟩ := ci_at hR.1 hkr hra
        rw [hhr] at he
        obtain ⟨fs', rfl, -⟩ := he
        rw [hoy] at hws
        have hrecv := va_recv hR.2.1 hR.2.2.1 hrc hws
        rw [hrn] at hrecv
        have cw := cwV (R := R) (bytes := ci_b (Ms x)) (maxL := ci_n (Ms x)) (ret := ci_t (Ms x)) (ws := ci_ws Ts (Ms x)) (rm := ci_rm d' (q.2.2.2.1 - nx.2.1) (q.2.2.2.2 - nx.2.2)) n0 hts (own := (ci_y (Ms M)).cls) (C := (ci_y (Ms x)).cls) (index := ix) (ci_good hgood (fun w hw => by
          rcases List.mem_append.mp hw with hw | hw
          · simp only [List.mem_cons, List.not_mem_nil, or_false] at hw
            rcases hw with rfl | rfl | rfl | rfl
            · exact k1
            · exact k2
            · exact k3
            · exact hC.2.2.2.2.2
          · exact hgi hC w hw)) rfl rfl rfl ⟨rfl, hC.2.2.2.2.1.1, hC.2.2.2.2.1.2, k4⟩ (hroom hC)
        exact fin _ (va_runV (g := F0 m pc ls (a1 ++ st2)) (As := av0) hfix (main hC) cw ⟨ci_blind, hrecv, hpre⟩ rfl hk9 hls (by rw [hstk, List.reverse_cons, List.append_assoc]; rfl) (lv_room hfew) hd hcap) rfl
      · cases h4
    · cases h4
  · split at h4
    next r0 vs0 =>
      obtain ⟨hl3, hC, htn, hnm, ix, n0, rfl, hk1, k1, k2, k4⟩ := hok2
      subst hl3
      obtain ⟨ra, av0, hra, hae, hav0⟩ := ci_vs_r hav
      rw [hae] at main hpre hstk
      have hk9 : av0.length = n0 := by have hk1 : ci_k (Ms x) = n0 + 1 := hk1; rw [hav0.len]; simp only [List.length_cons] at hlen; omega
      have cw := cwI (R := R) (bytes := ci_b (Ms x)) (maxL := ci_n (Ms x)) (ws := ci_ws Ts (Ms x)) (rm := ci_rm d' (q.2.2.2.1 - nx.2.1) (q.2.2.2.2 - nx.2.2)) n0 hts (own := (ci_y (Ms M)).cls) (index := ix) (ci_good hgood (hgi hC)) (by unfold ci_ws; rw [htn]) rfl rfl (hts _ hC.2.2.2.2.2) (hts _ k1) (hts _ k2) hnm ⟨hC.2.2.2.2.1.1, hC.2.2.2.2.1.2, k4⟩ (hroom hC)
      exact fin _ (va_runI (g := F0 m pc ls (a1 ++ st2)) (As := av0) hfix (main hC) cw ⟨ci_blind, hpre⟩ rfl hk9 hls (by rw [hstk, List.reverse_cons, List.append_assoc]; rfl) (lv_room hfew) hd hcap) rfl
    · cases h4
  · split at h4
    next r0 vs0 =>
      obtain ⟨hl3, hC, htn, hnm, ix, n0, rfl, hk1, k1, k2, k4⟩ := hok2
      subst hl3
      obtain ⟨ra, av0, hra, hae, hav0⟩ := ci_vs_r hav
      rw [hae] at main hpre hstk
      have hk9 : av0.length = n0 := by have hk1 : ci_k (Ms x) = n0 + 1 := hk1; rw [hav0.len]; simp only [List.length_cons] at hlen; omega
      have cw := va_cnB (R := R) (args := args) (bytes := ci_b (Ms x)) (maxL := ci_n (Ms x)) (ret := none) (ws := ci_ws Ts (Ms x)) (rm := ci_rm d' (q.2.2.2.1 - nx.2.1) (q.2.2.2.2 - nx.2.2)) n0 hts (own := (ci_y (Ms M)).cls) (host := "TwoAtMost") (index := ix) (ci_good hgood (hgi hC)) (by unfold ci_ws; rw [htn]) rfl rfl (hEs.2.2 _ k1) (hts _ hC.2.2.2.2.2) ⟨hC.2.2.2.2.1.1, hC.2.2.2.2.1.2, k4⟩ (hroom hC)
      exact fin _ (va_runIN (g := F0 m pc ls (a1 ++ st2)) (As := av0) hfix (main hC) ⟨cw, hnm, hts _ k2⟩ ⟨ci_blind, hpre⟩ rfl hk9 hls (by rw [hstk, List.reverse_cons, List.append_assoc]; rfl) (lv_room hfew) hd hcap) rfl
    · cases h4
  · cases h4
end CIM
