/-! THROWS, caught: the law's thing, kind, house and row. -/
theorem ci_ty {Ms : Nat → ci_Y} {cl : List vw_C} {fty : Nat → Nat → FieldType} {xs : Nat → Int32} {N : Nat} : ∀ (n d M pc : Nat) (L S : List Value) (h : ci_H) (nx : ci_N) (r : Option Value × ci_H × ci_N), ci_run Ms cl fty xs N n d M pc L S h nx = some r → r.1 = some (.retAddr 1) ∨ (r.1 = none ∧ ci_t (Ms M) = none) ∨ (∃ v, r.1 = some (.int v) ∧ (ci_t (Ms M) = some .int ∨ ci_t (Ms M) = some .boolean)) ∨ ∃ v, r.1 = some (.long v) ∧ ci_t (Ms M) = some .long := by
  intro n
  induction n with
  | zero => intro d M pc L S h nx r hr; cases hr
  | succ n ih =>
    intro d M pc L S h nx r hr
    unfold ci_run at hr
    split at hr
    next i len v x y g hcode =>
      split at hr
      · split at hr
        · exact ih _ _ _ _ _ _ _ _ hr
        · cases hr
      · split at hr
        · exact ih _ _ _ _ _ _ _ _ hr
        · cases hr
      · split at hr
        · exact ih _ _ _ _ _ _ _ _ hr
        · cases hr
      · split at hr
        · exact ih _ _ _ _ _ _ _ _ hr
        · cases hr
      · split at hr
        · exact ih _ _ _ _ _ _ _ _ hr
        · cases hr
      · split at hr
        · exact ih _ _ _ _ _ _ _ _ hr
        · cases hr
      · split at hr
        next rv hst =>
          cases hr
          cases i with
          | return_ =>
            simp only [ci_ret] at hst
            split at hst
            next h0 => cases hst; exact Or.inr (Or.inl ⟨rfl, h0⟩)
            · cases hst
          | ireturn =>
            simp only [ci_ret] at hst
            split at hst
            next h0 => cases hst; exact Or.inr (Or.inr (Or.inl ⟨_, rfl, Or.inl h0⟩))
            next h0 =>
              split at hst
              · cases hst; exact Or.inr (Or.inr (Or.inl ⟨_, rfl, Or.inr h0⟩))
              · cases hst
            · cases hst
          | lreturn =>
            simp only [ci_ret] at hst
            split at hst
            next h0 => cases hst; exact Or.inr (Or.inr (Or.inr ⟨_, rfl, h0⟩))
            · cases hst
          | _ => cases hst
        · cases hr
      · split at hr
        · cases hr; exact Or.inl rfl
        · cases hr
      · split at hr
        · exact ih _ _ _ _ _ _ _ _ hr
        · cases hr
      · split at hr
        · exact ih _ _ _ _ _ _ _ _ hr
        · cases hr
      · split at hr
        · split at hr
          · split at hr
            · split at hr
              · split at hr
                · exact ih _ _ _ _ _ _ _ _ hr
                · cases hr
              · cases hr
            · cases hr
          · cases hr
        · cases hr
      · split at hr
        · cases hr
        · split at hr
          · split at hr
            · split at hr
              · cases hr
              · exact ih _ _ _ _ _ _ _ _ hr
            · cases hr
          · cases hr
    · cases hr
theorem ex_recv {y : Nat} {h : ci_H} {vs : List Value} (h1 : ci_recv 11 y h vs = true) : ∃ r v0 o, vs = .ref r :: v0 ∧ ci_obj h r = some o ∧ o.1 = y := by
  cases vs with
  | nil => cases h1
  | cons v v0 =>
    cases v with
    | ref r =>
      have h2 : (match ci_obj h r with
        | some o => o.1 == y
        | none => false) = true := h1
      cases ho : ci_obj h r with
      | some o => rw [ho] at h2; exact ⟨r, v0, o, rfl, ho, by simpa using h2⟩
      | none => rw [ho] at h2; cases h2
    | _ => cases h1
theorem ci_in_0 {n : Nat} (h : 0 < n) : ci_in 0 n = true := by
  have h1 : ¬ ((0 : Int32) < 0 ∨ n ≤ Int32.toNatClampNeg 0) := by
    intro z
    rcases z with z | z
    · exact absurd z (by decide)
    · have z : n ≤ 0 := z
      omega
  exact decide_eq_true h1
def ex_cw (q : ci_Y) (hh : List (Nat × Nat × Nat × Nat)) : List Jvm.Cond := Jvm.Cond.codeWith (ci_y q) (ci_b q) (ci_n q) (ci_t q) hh :: ci_T
set_option maxHeartbeats 8000000 in
/-- a method that catches -/
theorem ex_catch {xs : Nat → Int32} {N : Nat} {l : Launch} (hl : l.stackTraces = false) {q : ci_Y} (hMq : ck_M q) (hq8 : plainName (ci_y q).cls = true) (hcls : (ci_y q).cls = "TwoAtMostLaw") (hqt : ci_t q = some .int) (hqi : (ci_y q).name ≠ "<init>") {pS pE pH : Nat} {x ix k1 pcC k2 pcS k3 pcR k4 pcR' : Nat} {L4 : List Value} {v5 : Int32} {x5 y5 : Nat} (hV : lp_V (14, ix, x, 11))
    {k d : Nat} {vs : List Value} {o : Nat} {h : ci_H} {nx : ci_N} {r : Option Value × ci_H × ci_N} {u : Int32 × ci_H × ci_N} (hrun : ci_run ci_Ms ci_cls ci_fty xs N k d x 0 (ci_entry vs (ci_n (ci_Ms x))) [] h nx = some r) (hcat : ci_cat r.1 o r.2.1 r.2.2 = some u) (hrecv : ci_recv 11 11 h vs = true) (hvl : vs.length = ci_k (ci_Ms x)) (hsl : (ci_sl vs).length ≤ ci_n (ci_Ms x)) (hslq : (ci_sl (vs ++ [.ref o])).length ≤ ci_n q) (hd6 : 6 ≤ d)
    (hcov : covers ⟨pS, pE, pH, 13⟩ pcC = true) (hdC : decode (ci_b q) pcC = .ok (.invokevirtual ix, 3))
    (g1 : ci_go (ci_code q) k1 (0, ci_entry (vs ++ [.ref o]) (ci_n q), []) = some (pcC, ci_entry (vs ++ [.ref o]) (ci_n q), vs.reverse ++ [.int 0, .ref o]))
    (g2 : ∀ w, r.1 = some w → ci_thr r.1 = false → ∃ w', ci_go (ci_code q) k2 (pcC + 3, ci_entry (vs ++ [.ref o]) (ci_n q), [w, .int 0, .ref o]) = some (pcS, ci_entry (vs ++ [.ref o]) (ci_n q), [.long w', .int 0, .ref o]) ∧ (w = .long w' ∨ ∃ v, w = .int v ∧ w' = v.toInt64))
    (hS5 : (ci_code q)[pcS]? = some (some (.lastore, 1, v5, x5, y5, 5)))
    (g3 : ci_go (ci_code q) k3 (pcS + 1, ci_entry (vs ++ [.ref o]) (ci_n q), []) = some (pcR, ci_entry (vs ++ [.ref o]) (ci_n q), [.int 0])) (hdR : decode (ci_b q) pcR = .ok (.ireturn, 1))
    (g4 : ci_go (ci_code q) k4 (pH, List.replicate (ci_n q) ci_junk, [.ref 0]) = some (pcR', L4, [.int 1])) (hdR' : decode (ci_b q) pcR' = .ok (.ireturn, 1))
    {D : va_G} {b : Nat} {tys : List (ClassId × FieldType)} {ws : va_W} {av : List Value} {sz : Nat} (hW : ci_W b tys h nx.1 ws) (hav : ci_vs (ci_ad b ws) (vs ++ [.ref o]) av) (hb0 : b < sz) (hbA : ¬ va_A ws sz b) :
    Met l (ci_y q) (ex_cw q [(pS, pE, pH, 13)]) (ci_rm (d + 1) (u.2.2.2.1 - nx.2.1) (u.2.2.2.2 - nx.2.2)) (ex_Pc b N xs D tys ws sz av) (ci_Qc b D ci_cls ws sz (some (.int u.1)) u.2.1 u.2.2.1) (u.2.2.2.1 - nx.2.1) (u.2.2.2.2 - nx.2.2) (va_A ws sz) := by
  have hmono := ci_mono _ _ _ _ _ _ _ _ _ hrun
  have hmonc := ci_cat_mono hcat
  have hu : (ci_thr r.1 = false ∧ u.1 = 0 ∧ u.2.2 = r.2.2 ∧ ex_kc r.1 = 0 ∧ ex_ks r.1 = 0) ∨ (ci_thr r.1 = true ∧ u.1 = 1 ∧ u.2.1 = r.2.1 ∧ u.2.2 = (r.2.2.1, r.2.2.2.1 + 1, r.2.2.2.2 + 6) ∧ ex_kc r.1 = 1 ∧ ex_ks r.1 = 6) := by
    unfold ci_cat at hcat
    split at hcat
    next e =>
      split at hcat
      · split at hcat
        · cases hcat; rw [e]; exact Or.inl ⟨rfl, rfl, rfl, rfl, rfl⟩
        · cases hcat
      · cases hcat
    next e =>
      split at hcat
      · split at hcat
        · cases hcat; rw [e]; exact Or.inl ⟨rfl, rfl, rfl, rfl, rfl⟩
        · cases hcat
      · cases hcat
    next e => cases hcat; rw [e]; exact Or.inr ⟨rfl, rfl, rfl, rfl, rfl, rfl⟩
    · cases hcat
  refine va_MetW (cc := ci_b q) (maxL := ci_n q) (ret := ci_t q) hq8 rfl ?_
  intro p e s m args below meth c s₁ B hml hPc
  obtain ⟨⟨rfl, hsz, hP', hK, hD0, hX, hEs⟩, hexW, hexZ⟩ := hPc
  subst hsz
  have hts' := atoms_spec (ws := ex_cw q [(pS, pE, pH, 13)]) B.pre
  have hts : ∀ w ∈ ci_T, w.before av.toArray s = true := fun w hw => hts' w (List.mem_cons_of_mem _ hw)
  have htab : c.exceptionTable.toList = tableOf [(pS, pE, pH, 13)] := vx_table (x := ci_y q) B (hts' _ List.mem_cons_self)
  have hown : s.vm.findClass (ci_y q).cls = some m.cls := findClass_of_methodNamed B.named
  rw [lg_entry_eq]
  have hR0 : ci_R b D ci_cls s (va_A ws s.heap.size) s.heap tys h nx.1 ws s.heap [] := ⟨hW, hK, hP', hD0.self, va_S.rf⟩
  have hA0 : ∀ z : Nat, s.heap.size ≤ z → va_A ws s.heap.size z := fun z hz => Or.inr hz
  refine ci_goW hMq B.exec B.bytes hown hts (ad := ci_ad b ws) (nL := ci_n q) k1 0 _ [] _ [] g1 (ci_entry_R hav hslq) rfl ?_
  intro ls st hL hS
  obtain ⟨a1, st2, rfl, hS1, hS2⟩ := hS.part
  have hav1 : ci_vs (ci_ad b ws) vs a1.reverse := by have := hS1.rev; rw [List.reverse_reverse] at this; exact this
  have hfew : (st2.map fun v => v.category).sum ≤ 8 := by rw [hS2.cat]; exact Nat.le_of_ble_eq_true rfl
  obtain ⟨hC, ⟨rc, hrc, hrn⟩, n0, hk1, w1, w2, w3, w4⟩ := hV
  have main := ex_met (D := D) (b := b) (tys := tys) (ws := ws) (av := a1.reverse) (sz := s.heap.size) hl hrun hC hsl hd6 hW hav1 hb0 hbA
  have hpre : ∀ U : State, U.heap = s.heap → s.WarmedH U.vm → ex_Pc b N xs D tys ws s.heap.size a1.reverse a1.reverse.toArray U := fun U hU hWm => ⟨ci_pre hR0 hX hb0 hbA hEs U hU hWm, hexW.warm hWm, by rw [hU]; exact vx_Zq.moved hWm.alike hexZ.1, by rw [hU]; exact vx_Zq.moved hWm.alike hexZ.2⟩
  have hfix : CallFix p m c (ci_b q) (ci_n q) s av.toArray ci_T "TwoAtMostLaw" := ⟨B.exec, B.bytes, hml, by rw [← hcls]; exact hown, hts⟩
  have hstk : a1 ++ st2 = a1.reverse.reverse ++ st2 := by rw [List.reverse_reverse]
  obtain ⟨r0, vs0, ob, rfl, hob, hoy⟩ := ex_recv hrecv
  obtain ⟨ra, av0, hra, hae, hav0⟩ := ci_vs_r hav1
  rw [hae] at main hpre hstk
  have hk9 : av0.length = n0 := by have hk1 : ci_k (ci_Ms x) = n0 + 1 := hk1; rw [hav0.len]; simp only [List.length_cons] at hvl; omega
  obtain ⟨hkr, hhr⟩ := ci_obj_inv hob
  obtain ⟨e0, hws, he⟩ := ci_at hR0.1 hkr hra
  rw [hhr] at he
  obtain ⟨fs', rfl, -⟩ := he
  rw [hoy] at hws
  have hrecv2 := va_recv hR0.2.1 hR0.2.2.1 hrc hws
  rw [hrn] at hrecv2
  have hgi : ∀ w ∈ ci_ws ci_T (ci_Ms x), w ∈ ci_T := fun w hw => (List.mem_cons.mp hw).elim (fun e => by rw [e]; exact hC.2.1) id
  have h21 : ci_n (ci_Ms x) ≤ 21 := hC.2.2.1
  have cw := cwV (R := ci_rm (d + 1) (u.2.2.2.1 - nx.2.1) (u.2.2.2.2 - nx.2.2)) (bytes := ci_b (ci_Ms x)) (maxL := ci_n (ci_Ms x)) (ret := ci_t (ci_Ms x)) (ws := ci_ws ci_T (ci_Ms x)) (rm := ci_rm d (r.2.2.2.1 - nx.2.1 + ex_kc r.1) (r.2.2.2.2 - nx.2.2 + ex_ks r.1)) n0 hts (own := "TwoAtMostLaw") (C := (ci_y (ci_Ms x)).cls) (index := ix) (ci_good ci_T_good (fun w hw => by
    rcases List.mem_append.mp hw with hw | hw
    · simp only [List.mem_cons, List.not_mem_nil, or_false] at hw
      rcases hw with rfl | rfl | rfl | rfl
      · exact w1
      · exact w2
      · exact w3
      · exact hC.2.2.2.2.2
    · exact hgi w hw)) rfl rfl rfl ⟨rfl, hC.2.2.2.2.1.1, hC.2.2.2.2.1.2, w4⟩ ⟨by show d + 1 + 1 ≤ d + 1 + 1; omega, by show 8 + (ci_n (ci_Ms x) + 11) + 40 * (d + 1) ≤ 40 * (d + 1 + 1); omega⟩
  have hcap : 0 + (r.2.2.2.1 - nx.2.1 + ex_kc r.1) ≤ u.2.2.2.1 - nx.2.1 ∧ 0 + (r.2.2.2.2 - nx.2.2 + ex_ks r.1) ≤ u.2.2.2.2 - nx.2.2 := by
    rcases hu with ⟨-, -, e3, e4, e5⟩ | ⟨-, -, -, e3, e4, e5⟩
    · rw [e3, e4, e5]; exact ⟨by omega, by omega⟩
    · rw [e3, e4, e5]; exact ⟨by show _ ≤ r.2.2.2.1 + 1 - nx.2.1; omega, by show _ ≤ r.2.2.2.2 + 6 - nx.2.2; omega⟩
  have hr := vx_runV (e := e) (below := below) (meth := meth) (locs := []) (g := F0 m pcC ls (a1 ++ st2)) (As := av0) hfix main cw ⟨ex_blind, hrecv2, hpre⟩ rfl hk9 hL.1 (by rw [hstk, List.reverse_cons, List.append_assoc]; rfl) (lv_room hfew) hdC hcap
  refine ex_after hr hR0 hA0 ?_ ?_
  · intro H1 locs1 ws1 tys1 w hnt hR1 hE1 hw
    obtain ⟨-, e2, e3, e4, e5⟩ := hu.resolve_right (fun hc => by rw [hnt] at hc; cases hc.1)
    have hmaj : ∃ w0, r.1 = some w0 := by
      unfold ci_cat at hcat
      split at hcat
      next e => exact ⟨_, e⟩
      next e => exact ⟨_, e⟩
      next e => exact ⟨_, e⟩
      · cases hcat
    obtain ⟨w0, hw0⟩ := hmaj
    obtain ⟨w', g2', hww⟩ := g2 w0 hw0 hnt
    have hvs := hw.toList (hS2.ext hE1)
    rw [hw0] at hvs
    refine ci_goW hMq B.exec B.bytes hown hts (ad := ci_ad b ws1) (nL := ci_n q) k2 (pcC + 3) _ [w0, .int 0, .ref o] ls _ g2' (hL.ext hE1) hvs ?_
    intro ls2 st3 hL2 hS3
    have hok5 := hMq pcS _ hS5
    have hst5 : ci_st5 ci_cls ci_fty .lastore x5 y5 r.2.1 [.long w', .int 0, .ref o] = some ([], u.2.1) := by
      show ci_las r.2.1 [.long w', .int 0, .ref o] = some ([], u.2.1)
      unfold ci_cat at hcat
      rw [hw0] at hcat
      unfold ci_las
      rcases hww with rfl | ⟨v, rfl, rfl⟩
      · dsimp only at hcat ⊢
        split at hcat
        next n f ho =>
          rw [ho]
          dsimp only
          split at hcat
          next hn0 => cases hcat; rw [if_pos (ci_in_0 hn0)]; rfl
          · cases hcat
        · cases hcat
      · dsimp only at hcat ⊢
        split at hcat
        next n f ho =>
          rw [ho]
          dsimp only
          split at hcat
          next hn0 => cases hcat; rw [if_pos (ci_in_0 hn0)]; rfl
          · cases hcat
        · cases hcat
    refine ci_sim5 (ini := decide ((ci_y q).name = "<init>")) B.exec B.bytes (hml.trans hL2.1.symm) (fun z => absurd (of_decide_eq_true z) hqi) hown hts (by show 1 ≤ d + 1 + 1; omega) (by show 40 ≤ 40 * (d + 1 + 1); omega) hok5.1 hok5.2 hst5 hR1 hS3 (fun H2 locs2 ws2 st4 hR2 hE2 hS4 => ?_)
    refine ci_goW hMq B.exec B.bytes hown hts (ad := ci_ad b ws2) (nL := ci_n q) k3 (pcS + 1) _ [] ls2 st4 g3 (hL2.ext hE2) hS4 ?_
    intro ls5 st5 hL5 hS5'
    obtain ⟨st6, rfl, h6⟩ := ci_vs_i hS5'
    have h6 : st6 = [] := h6
    subst h6
    refine ci_end (rv := some (.int u.1)) (ws0 := ws) B.exec B.bytes B.returns B.notSynchronized hdR ⟨rfl, by rw [e2], Or.inl hqt⟩ (by rw [e3]; exact hR2) (fun kk aa zz => hE2 _ _ (hE1 _ _ zz)) ?_ ?_
    · rw [e3, e4]; omega
    · rw [e3, e5]; omega
  · intro H1 locs1 ws1 tys1 q9 ce hthr hR1 hE1 hce hcv hcl
    rcases hu with ⟨hc, -⟩ | ⟨-, e2, e2', e3, e4, e5⟩
    · rw [hthr] at hc; cases hc
    refine vx_catch (own := "TwoAtMostLaw") (name := ex_N) (E := ex_N) (by rw [← hcls]; exact hown) [] ⟨pS, pE, pH, 13⟩ [] (by rw [htab]; rfl) (fun z hz => nomatch hz) hcov (by show (13 : Nat) ≠ 0; decide) (hexW.at (by simp [ex_all])) (hexW.at (by simp [ex_all])) hce hcv hcl ?_
    refine ci_goW hMq B.exec B.bytes hown hts (ad := fun _ => some q9) (nL := ci_n q) k4 pH _ [.ref 0] ls _ g4 ⟨hL.1, hL.2.1, List.length_replicate, fun i v hi hv => absurd (List.eq_of_mem_replicate (List.mem_of_getElem? hi)) hv⟩ ⟨.ref q9, [], rfl, ⟨q9, rfl, rfl⟩, rfl⟩ ?_
    intro ls5 st5 hL5 hS5'
    obtain ⟨st6, rfl, h6⟩ := ci_vs_i hS5'
    have h6 : st6 = [] := h6
    subst h6
    refine ci_end (rv := some (.int u.1)) (ws0 := ws) B.exec B.bytes B.returns B.notSynchronized hdR' ⟨rfl, by rw [e2], Or.inl hqt⟩ (by rw [e3, e2']; exact hR1) hE1 ?_ ?_
    · rw [e3, e4]; show _ ≤ r.2.2.2.1 + 1 - nx.2.1; omega
    · rw [e3, e5]; show _ ≤ r.2.2.2.2 + 6 - nx.2.2; omega
