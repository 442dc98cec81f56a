/-! THROWS: the law's row of a catching call. -/
def k_L_t3 (ix : Nat) : List (Option ci_I) := [some (.aload_n 3, 1, 0, 0, 0, 1), some (.iconst 0, 1, 0, 0, 0, 1), some (.aload_n 0, 1, 0, 0, 0, 1), some (.iload_n 1, 1, 0, 0, 0, 1), some (.iload_n 2, 1, 0, 0, 0, 1), none, none, none, some (.i2l, 1, 0, 0, 0, 1), some (.lastore, 1, 0, 0, 0, 5), some (.goto 7, 3, 0, 17, 0, 3), none, none, some (.astore 4, 2, 0, 0, 0, 2), none, some (.iconst 1, 1, 1, 0, 0, 1), some (.ireturn, 1, 0, 0, 0, 8), some (.iconst 0, 1, 0, 0, 0, 1), some (.ireturn, 1, 0, 0, 0, 8)]
def k_L_row : List (Option ci_I) := [some (.aload_n 2, 1, 0, 0, 0, 1), some (.iconst 0, 1, 0, 0, 0, 1), some (.aload_n 0, 1, 0, 0, 0, 1), some (.iload_n 1, 1, 0, 0, 0, 1), none, none, none, some (.lastore, 1, 0, 0, 0, 5), some (.goto 6, 3, 0, 14, 0, 3), none, none, some (.astore_n 3, 1, 0, 0, 0, 2), some (.iconst 1, 1, 1, 0, 0, 1), some (.ireturn, 1, 0, 0, 0, 8), some (.iconst 0, 1, 0, 0, 0, 1), some (.ireturn, 1, 0, 0, 0, 8)]
def q_L_thing : ci_Y := (yL_thing, method_3_code, 5, some .int, 4, k_L_t3 7)
def q_L_kind : ci_Y := (yL_kind, method_4_code, 5, some .int, 4, k_L_t3 15)
def q_L_house : ci_Y := (yL_house, method_5_code, 5, some .int, 4, k_L_t3 18)
def q_L_row : ci_Y := (yL_row, method_6_code, 4, some .int, 3, k_L_row)
theorem ok_L_thing : ck_M q_L_thing := ck_M_of 14 rfl (ini := false) (by decide +kernel) (by decide +kernel)
theorem ok_L_kind : ck_M q_L_kind := ck_M_of 14 rfl (ini := false) (by decide +kernel) (by decide +kernel)
theorem ok_L_house : ck_M q_L_house := ck_M_of 14 rfl (ini := false) (by decide +kernel) (by decide +kernel)
theorem ok_L_row : ck_M q_L_row := ck_M_of 14 rfl (ini := false) (by decide +kernel) (by decide +kernel)
theorem lvL_thing : lp_V (14, 7, 101, 11) := by unfold lp_V; rw [ms_101]; exact ⟨mo_101, ⟨_, rfl, rfl⟩, 2, rfl, tb_5 (i := 83) rfl rfl, tb_5 (i := 84) rfl rfl, tb_5 (i := 85) rfl rfl, mk_101⟩
theorem lvL_kind : lp_V (14, 15, 102, 11) := by unfold lp_V; rw [ms_102]; exact ⟨mo_102, ⟨_, rfl, rfl⟩, 2, rfl, tb_5 (i := 152) rfl rfl, tb_5 (i := 153) rfl rfl, tb_5 (i := 154) rfl rfl, mk_102⟩
theorem lvL_house : lp_V (14, 18, 103, 11) := by unfold lp_V; rw [ms_103]; exact ⟨mo_103, ⟨_, rfl, rfl⟩, 2, rfl, tb_5 (i := 159) rfl rfl, tb_5 (i := 160) rfl rfl, tb_5 (i := 161) rfl rfl, mk_103⟩
theorem lvL_row : lp_V (14, 21, 143, 11) := by unfold lp_V; rw [ms_143]; exact ⟨mo_143, ⟨_, rfl, rfl⟩, 1, rfl, tb_5 (i := 166) rfl rfl, tb_5 (i := 167) rfl rfl, tb_5 (i := 168) rfl rfl, mk_143⟩
theorem ex_sh {y : Nat} {h : ci_H} {vs : List Value} (h1 : ci_recv 11 y h vs = true) : ∃ r v0, vs = .ref r :: v0 := by
  obtain ⟨r, v0, o, h2, -⟩ := ex_recv h1
  exact ⟨r, v0, h2⟩
theorem ex_int {v : Value} {vs : List Value} (h : ci_ints (v :: vs) = true) : (∃ p, v = .int p) ∧ ci_ints vs = true := by
  unfold ci_ints at h ⊢
  rw [List.all_cons, Bool.and_eq_true] at h
  refine ⟨?_, h.2⟩
  have h1 := h.1
  split at h1
  · exact ⟨_, rfl⟩
  · cases h1
theorem ex_sh3 {y : Nat} {h : ci_H} {vs : List Value} (h1 : ci_recv 11 y h vs = true) (h2 : ci_ints (vs.drop 1) = true) (h3 : vs.length = 3) : ∃ r p0 p1, vs = [.ref r, .int p0, .int p1] := by
  obtain ⟨r, v0, rfl⟩ := ex_sh h1
  match v0, h2, h3 with
  | [a, b], h2, _ =>
    obtain ⟨⟨p0, rfl⟩, h4⟩ := ex_int h2
    obtain ⟨⟨p1, rfl⟩, -⟩ := ex_int h4
    exact ⟨r, p0, p1, rfl⟩
theorem ex_sh2 {y : Nat} {h : ci_H} {vs : List Value} (h1 : ci_recv 11 y h vs = true) (h2 : ci_ints (vs.drop 1) = true) (h3 : vs.length = 2) : ∃ r p0, vs = [.ref r, .int p0] := by
  obtain ⟨r, v0, rfl⟩ := ex_sh h1
  match v0, h2, h3 with
  | [a], h2, _ =>
    obtain ⟨⟨p0, rfl⟩, -⟩ := ex_int h2
    exact ⟨r, p0, rfl⟩
theorem ex_tyI {xs : Nat → Int32} {N n d M pc : Nat} {L S : List Value} {h : ci_H} {nx : ci_N} {r : Option Value × ci_H × ci_N} (hr : ci_run ci_Ms ci_cls ci_fty xs N n d M pc L S h nx = some r) (ht : ci_t (ci_Ms M) = some .int) {w : Value} (hw : r.1 = some w) (hn : ci_thr r.1 = false) : ∃ v, w = .int v := by
  rcases ci_ty _ _ _ _ _ _ _ _ _ hr with e | ⟨e, -⟩ | ⟨v, e, -⟩ | ⟨v, -, e⟩
  · rw [e] at hn; cases hn
  · rw [e] at hw; cases hw
  · rw [e] at hw; cases hw; exact ⟨v, rfl⟩
  · rw [ht] at e; cases e
theorem ex_tyL {xs : Nat → Int32} {N n d M pc : Nat} {L S : List Value} {h : ci_H} {nx : ci_N} {r : Option Value × ci_H × ci_N} (hr : ci_run ci_Ms ci_cls ci_fty xs N n d M pc L S h nx = some r) (ht : ci_t (ci_Ms M) = some .long) {w : Value} (hw : r.1 = some w) (hn : ci_thr r.1 = false) : ∃ v, w = .long v := by
  rcases ci_ty _ _ _ _ _ _ _ _ _ hr with e | ⟨e, -⟩ | ⟨v, -, e | e⟩ | ⟨v, e, -⟩
  · rw [e] at hn; cases hn
  · rw [e] at hw; cases hw
  · rw [ht] at e; cases e
  · rw [ht] at e; cases e
  · rw [e] at hw; cases hw; exact ⟨v, rfl⟩
set_option maxHeartbeats 8000000 in
theorem ex_row14 {xs : Nat → Int32} {N : Nat} {p : Program} {l : Launch} {e : Env} {R : Room} {s : State} {m : MethodId} {args : Array Value} {below : List Frame} {meth : Method} {c : Code} {Q : State → Prop} {D : va_G} {A : Nat → Prop} {b : Nat} (hl : l.stackTraces = false) (hx : p.tables.exec = Jvm.exec) {M : Nat} (hb : c.code = ci_b (ci_Ms M)) (hml : c.maxLocals = ci_n (ci_Ms M)) (hown : s.vm.findClass (ci_y (ci_Ms M)).cls = some m.cls) (hts : ∀ w ∈ ci_T, w.before args s = true) (hA : ∀ q, s.heap.size ≤ q → A q) (hX : va_X b N xs s s.heap) (hbl : b < s.heap.size) (hbA : ¬ A b) (hEs : ci_E s) (hexW : ex_W s) (hexZ : ex_Z A s s.heap)
    {d : Nat} (hfr : d + 1 ≤ R.frames) (hlo : 40 * (d + 1) ≤ R.locals) (hd8 : 8 ≤ d) : ci_Row14 ci_Ms ci_cls ci_fty xs N p l e R s m args below meth c Q D A b M d := by
  intro k pc d' o len x y i v S1 h nx q u ws tys H locs cells slots ls st hcode hdd hk hfew hsl hrecv hints hrun hcat hR hS hls hc1 hc2 kk
  obtain ⟨hdec, hct⟩ := ci_hMs M pc _ hcode
  obtain ⟨hcl, hlen, hy, ix, hi, hmem⟩ : ci_ct (ci_Ms M) pc (i, len, v, x, y, 14) := hct
  have hlen : len = 3 := hlen
  have hy : y = 11 := hy
  have hi : i = .invokestatic ix := hi
  have hmem : (x, ix) ∈ lk_14 := hmem
  subst hlen; subst hy; subst hi; subst hdd
  have hmono := ci_mono _ _ _ _ _ _ _ _ _ hrun
  have hmonc := ci_cat_mono hcat
  generalize hvs : (S1.take (ci_k (ci_Ms x))).reverse = vs at hsl hrecv hints hrun
  have hvlen : vs.length = ci_k (ci_Ms x) := by rw [← hvs, List.length_reverse, List.length_take]; omega
  have hsp : Value.ref o :: S1 = (vs ++ [Value.ref o]).reverse ++ S1.drop (ci_k (ci_Ms x)) := by
    rw [List.reverse_append, ← hvs, List.reverse_reverse]
    show _ = Value.ref o :: (S1.take (ci_k (ci_Ms x)) ++ S1.drop (ci_k (ci_Ms x)))
    rw [List.take_append_drop]
  rw [hsp] at hS
  generalize hre : S1.drop (ci_k (ci_Ms x)) = rest at hfew hS kk
  obtain ⟨a1, st2, rfl, hS1, hS2⟩ := hS.part
  have hav : ci_vs (ci_ad b ws) (vs ++ [.ref o]) a1.reverse := by have := hS1.rev; rw [List.reverse_reverse] at this; exact this
  have hfew2 : (st2.map fun v => v.category).sum ≤ 8 := by rw [hS2.cat]; exact ci_few_le hfew
  have hbH : b < H.size := Nat.lt_of_lt_of_le hbl hR.2.2.2.2.1
  have hsub := ci_sub_A hR.2.2.2.1 hR.2.2.2.2 hA
  have hbn : ¬ va_A ws H.size b := fun z => hbA (hsub b z)
  have hpre : ∀ U : State, U.heap = H → s.WarmedH U.vm → ex_Pc b N xs D tys ws H.size a1.reverse a1.reverse.toArray U := fun U hU hWm => ⟨ci_pre hR hX hbl hbA hEs U hU hWm, hexW.warm hWm, by rw [hU]; exact vx_Zq.moved hWm.alike ((hexZ.1.kept hR.2.2.2.2.2.1).narrow hsub), by rw [hU]; exact vx_Zq.moved hWm.alike ((hexZ.2.kept hR.2.2.2.2.2.1).narrow hsub)⟩
  have hcl : (ci_y (ci_Ms M)).cls = "TwoAtMostLaw" := hcl
  have hfix : CallFix p m c (ci_b (ci_Ms M)) (ci_n (ci_Ms M)) s args ci_T "TwoAtMostLaw" := ⟨hx, hb, hml, by rw [← hcl]; exact hown, hts⟩
  have hcap : cells + (u.2.2.2.1 - nx.2.1) ≤ R.cells ∧ slots + (u.2.2.2.2 - nx.2.2) ≤ R.slots := ⟨by omega, by omega⟩
  have fin : ∀ (qc : ci_Y) (pS pE pH : Nat), (ci_y qc).cls = "TwoAtMostLaw" → ci_n qc ≤ 21 → (parseMethodDescriptor (ci_y qc).desc).map (fun d => d.parameters.length) = some (vs.length + 1) → Jvm.Cond.methodLink "TwoAtMostLaw" ix (ci_y qc) ∈ ci_T → Jvm.Cond.static (ci_y qc) ∈ ci_T → Jvm.Cond.codeWith (ci_y qc) (ci_b qc) (ci_n qc) (ci_t qc) [(pS, pE, pH, 13)] ∈ ci_T → Jvm.Cond.initialized (ci_y qc).cls ∈ ci_T →
      Met l (ci_y qc) (ex_cw qc [(pS, pE, pH, 13)]) (ci_rm (d' + 1) (u.2.2.2.1 - nx.2.1) (u.2.2.2.2 - nx.2.2)) (ex_Pc b N xs D tys ws H.size a1.reverse) (ci_Qc b D ci_cls ws H.size (some (.int u.1)) u.2.1 u.2.2.1) (u.2.2.2.1 - nx.2.1) (u.2.2.2.2 - nx.2.2) (va_A ws H.size) → W p l e R s m args below meth c H locs cells slots Q (F0 m pc ls (a1 ++ st2)) := by
    intro qc pS pE pH c1 c2 c3 w1 w2 w3 w4 hM
    have cw := vx_cwSW (R := R) (bytes := ci_b qc) (maxL := ci_n qc) (ret := ci_t qc) (hh := [(pS, pE, pH, 13)]) (ws := ex_cw qc [(pS, pE, pH, 13)]) (rm := ci_rm (d' + 1) (u.2.2.2.1 - nx.2.1) (u.2.2.2.2 - nx.2.2)) (vs.length + 1) hts (own := "TwoAtMostLaw") (index := ix) (y := ci_y qc) (ci_good ci_T_good (fun w hw => by
      rcases List.mem_append.mp hw with hw | hw
      · simp only [List.mem_cons, List.not_mem_nil, or_false] at hw
        rcases hw with rfl | rfl | rfl
        · exact w1
        · exact w2
        · exact w4
      · exact (List.mem_cons.mp hw).elim (fun e => by rw [e]; exact w3) id)) rfl rfl rfl ⟨by rw [c1]; decide, by rw [c1]; decide, c3⟩ ⟨by show d' + 1 + 1 + 1 ≤ R.frames; omega, by show 8 + (ci_n qc + 11) + 40 * (d' + 1 + 1) ≤ R.locals; omega⟩
    have hr := vx_runSW (e := e) (below := below) (meth := meth) (locs := locs) (g := F0 m pc ls (a1 ++ st2)) (As := a1.reverse) (rest := st2) hfix hM cw ⟨ex_blind, hpre⟩ rfl (by rw [hav.len, List.length_append]; rfl) hls (by rw [List.reverse_reverse]) (lv_room hfew2) hdec hcap
    exact ci_after hr hR hA (fun H1 locs1 ws1 tys1 w g1 g2 g3 => kk H1 locs1 _ _ ws1 tys1 _ g1 g2 (g3.toList (hS2.ext g2)) (by omega) (by omega))
  have hin : Jvm.Cond.initialized "TwoAtMostLaw" ∈ ci_T := tb_1 (i := 0) rfl rfl
  have hd6 : 6 ≤ d' := by omega
  simp only [lk_14, List.mem_cons, Prod.mk.injEq, List.not_mem_nil, or_false] at hmem
  rcases hmem with ⟨rfl, rfl⟩ | ⟨rfl, rfl⟩ | ⟨rfl, rfl⟩ | ⟨rfl, rfl⟩
  · obtain ⟨r0, p0, p1, rfl⟩ := ex_sh3 hrecv hints hvlen
    have hpd : (parseMethodDescriptor (ci_y q_L_thing).desc).map (fun d => d.parameters.length) = some 4 := by decide +kernel
    refine fin q_L_thing 0 10 13 rfl (by decide) hpd (tb_5 (i := 79) rfl rfl) (tb_5 (i := 80) rfl rfl) (tb_5 (i := 81) rfl rfl) hin ?_
    exact ex_catch (k1 := 5) (pcC := 5) (k2 := 1) (pcS := 9) (k3 := 2) (pcR := 18) (k4 := 2) (pcR' := 16) hl ok_L_thing (by decide +kernel) rfl rfl (by decide +kernel) lvL_thing hrun hcat hrecv hvlen hsl (Nat.le_of_ble_eq_true rfl) hd6 rfl (by decide +kernel) rfl (fun w hw hn => by
      obtain ⟨v0, rfl⟩ := ex_tyI hrun rfl hw hn
      exact ⟨v0.toInt64, rfl, Or.inr ⟨v0, rfl, rfl⟩⟩) rfl rfl (by decide +kernel) rfl (by decide +kernel) hR.1 hav hbH hbn
  · obtain ⟨r0, p0, p1, rfl⟩ := ex_sh3 hrecv hints hvlen
    have hpd : (parseMethodDescriptor (ci_y q_L_kind).desc).map (fun d => d.parameters.length) = some 4 := by decide +kernel
    refine fin q_L_kind 0 10 13 rfl (by decide) hpd (tb_5 (i := 149) rfl rfl) (tb_5 (i := 150) rfl rfl) (tb_5 (i := 151) rfl rfl) hin ?_
    exact ex_catch (k1 := 5) (pcC := 5) (k2 := 1) (pcS := 9) (k3 := 2) (pcR := 18) (k4 := 2) (pcR' := 16) hl ok_L_kind (by decide +kernel) rfl rfl (by decide +kernel) lvL_kind hrun hcat hrecv hvlen hsl (Nat.le_of_ble_eq_true rfl) hd6 rfl (by decide +kernel) rfl (fun w hw hn => by
      obtain ⟨v0, rfl⟩ := ex_tyI hrun rfl hw hn
      exact ⟨v0.toInt64, rfl, Or.inr ⟨v0, rfl, rfl⟩⟩) rfl rfl (by decide +kernel) rfl (by decide +kernel) hR.1 hav hbH hbn
  · obtain ⟨r0, p0, p1, rfl⟩ := ex_sh3 hrecv hints hvlen
    have hpd : (parseMethodDescriptor (ci_y q_L_house).desc).map (fun d => d.parameters.length) = some 4 := by decide +kernel
    refine fin q_L_house 0 10 13 rfl (by decide) hpd (tb_5 (i := 156) rfl rfl) (tb_5 (i := 157) rfl rfl) (tb_5 (i := 158) rfl rfl) hin ?_
    exact ex_catch (k1 := 5) (pcC := 5) (k2 := 1) (pcS := 9) (k3 := 2) (pcR := 18) (k4 := 2) (pcR' := 16) hl ok_L_house (by decide +kernel) rfl rfl (by decide +kernel) lvL_house hrun hcat hrecv hvlen hsl (Nat.le_of_ble_eq_true rfl) hd6 rfl (by decide +kernel) rfl (fun w hw hn => by
      obtain ⟨v0, rfl⟩ := ex_tyI hrun rfl hw hn
      exact ⟨v0.toInt64, rfl, Or.inr ⟨v0, rfl, rfl⟩⟩) rfl rfl (by decide +kernel) rfl (by decide +kernel) hR.1 hav hbH hbn
  · obtain ⟨r0, p0, rfl⟩ := ex_sh2 hrecv hints hvlen
    have hpd : (parseMethodDescriptor (ci_y q_L_row).desc).map (fun d => d.parameters.length) = some 3 := by decide +kernel
    refine fin q_L_row 0 8 11 rfl (by decide) hpd (tb_5 (i := 163) rfl rfl) (tb_5 (i := 164) rfl rfl) (tb_5 (i := 165) rfl rfl) hin ?_
    exact ex_catch (k1 := 4) (pcC := 4) (k2 := 0) (pcS := 7) (k3 := 2) (pcR := 15) (k4 := 2) (pcR' := 13) hl ok_L_row (by decide +kernel) rfl rfl (by decide +kernel) lvL_row hrun hcat hrecv hvlen hsl (Nat.le_of_ble_eq_true rfl) hd6 rfl (by decide +kernel) rfl (fun w hw hn => by
      obtain ⟨v0, rfl⟩ := ex_tyL hrun rfl hw hn
      exact ⟨v0, rfl, Or.inl rfl⟩) rfl rfl (by decide +kernel) rfl (by decide +kernel) hR.1 hav hbH hbn
