/-! PURE: the law's run up to its loop. -/
section EV6
variable {xs : Nat → Int32} {N d M pc : Nat} {L S : List Value} {h : ci_H} {nx : ci_N} {r : Option Value × ci_H × ci_N} {code : List (Option ci_I)}
theorem ev_6 (hc : ci_code (ci_Ms M) = code) {i : Instr} {len x y : Nat} {v : Int32} {S' : List Value} {h' : ci_H} {nx' : ci_N} (hf : code[pc]? = some (some (i, len, v, x, y, 6))) (hs : ci_st6 ci_cls ci_fty i x y h nx S = some (S', h', nx')) (kk : Ev xs N d M (pc + len) L S' h' nx' r) : Ev xs N d M pc L S h nx r := by
  obtain ⟨n, hn⟩ := kk
  refine ⟨n + 1, ?_⟩
  unfold ci_run
  rw [hc, hf]
  dsimp only
  rw [hs]
  exact hn
theorem ev_12 (hc : ci_code (ci_Ms M) = code) {i : Instr} {x y : Nat} {v : Int32} {q : ci_Y} {vs rest : List Value} {h' : ci_H} {nx' : ci_N} (hf : code[pc]? = some (some (i, 3, v, x, y, 12))) (hq : ci_Ms x = q) (hk : vs.length = ci_k q) (hfew : ci_few rest = true) (hsl : (ci_sl vs).length ≤ ci_n q) (hrc : ci_recv 12 y h vs = true)
    (hcal : Ev xs N d x 0 (ci_entry vs (ci_n q)) [] h nx (none, h', nx')) (kk : Ev xs N (d + 1) M (pc + 3) L rest h' nx' r) : Ev xs N (d + 1) M pc L (vs.reverse ++ rest) h nx r := by
  obtain ⟨n1, h1⟩ := hcal
  obtain ⟨n2, h2⟩ := kk
  refine ⟨n1 + n2 + 1, ?_⟩
  have e1 : (vs.reverse ++ rest).take (ci_k (ci_Ms x)) = vs.reverse := by rw [hq, ← hk, ← List.length_reverse]; exact List.take_left
  have e2 : (vs.reverse ++ rest).drop (ci_k (ci_Ms x)) = rest := by rw [hq, ← hk, ← List.length_reverse]; exact List.drop_left
  have e3 : ci_k (ci_Ms x) ≤ (vs.reverse ++ rest).length := by rw [hq, ← hk, List.length_append, List.length_reverse]; omega
  have r1 := ci_more _ _ _ _ _ _ _ _ _ h1 n2
  have r2 := ci_more _ _ _ _ _ _ _ _ _ h2 n1
  rw [Nat.add_comm n2 n1] at r2
  unfold ci_run
  rw [hc, hf]
  show (if ci_k (ci_Ms x) ≤ (vs.reverse ++ rest).length ∧ ci_few ((vs.reverse ++ rest).drop (ci_k (ci_Ms x))) = true ∧ (ci_sl ((vs.reverse ++ rest).take (ci_k (ci_Ms x))).reverse).length ≤ ci_n (ci_Ms x) ∧ ci_recv 12 y h ((vs.reverse ++ rest).take (ci_k (ci_Ms x))).reverse = true then
      match ci_run ci_Ms ci_cls ci_fty xs N (n1 + n2) d x 0 (ci_entry ((vs.reverse ++ rest).take (ci_k (ci_Ms x))).reverse (ci_n (ci_Ms x))) [] h nx with
      | some q => if ci_thr q.1 = true then none else ci_run ci_Ms ci_cls ci_fty xs N (n1 + n2) (d + 1) M (pc + 3) L (q.1.toList ++ (vs.reverse ++ rest).drop (ci_k (ci_Ms x))) q.2.1 q.2.2
      | none => none
      else none) = some r
  rw [e1, e2, List.reverse_reverse, if_pos ⟨e3, hfew, by rw [hq]; exact hsl, hrc⟩, hq, r1]
  show (if ci_thr none = true then none else ci_run ci_Ms ci_cls ci_fty xs N (n1 + n2) (d + 1) M (pc + 3) L rest h' nx') = some r
  rw [if_neg (by decide)]
  exact r2
end EV6
theorem hc_L : ci_code (ci_Ms 287) = k_L_law := rfl
set_option maxRecDepth 20000 in
theorem law_start {xs : Nat → Int32} {N : Nat} {r : Option Value × ci_H × ci_N} (kk : ∀ (κ : Kp) (μ : Mem), Ref0 κ → Init0 μ → Ev xs N 1990 287 23 [.ref ci_scr, .ref 0, .ref 127, .ref 148, .int 0, ci_junk, ci_junk, ci_junk] [] (hp κ μ) (149, 149, 2647) r) : Ev xs N 1990 287 0 (ci_entry [.ref ci_scr] 8) [] ct_h0 (0, 0, 0) r := by
  obtain ⟨κ, μ, h5, hR, hI⟩ := ct_get
  have kk := kk κ μ hR hI
  have n2 := ct_n2
  have n4 := ct_n4
  unfold ct_5 at h5
  obtain ⟨⟨hh4, nn4⟩, h4, h5⟩ := Option.bind_eq_some_iff.mp h5
  obtain ⟨⟨S5, hh5, nn5⟩, h5, e5⟩ := Option.map_eq_some_iff.mp h5
  rw [h4] at n4
  have n4 : nn4.1 = 148 := Option.some.inj n4
  unfold ct_4 at h4
  obtain ⟨⟨hh3, nn3⟩, h3, h4⟩ := Option.bind_eq_some_iff.mp h4
  obtain ⟨⟨rv4, hh4', nn4'⟩, h4r, e4⟩ := Option.bind_eq_some_iff.mp h4
  unfold ct_3 at h3
  obtain ⟨⟨hh2, nn2⟩, h2, h3⟩ := Option.bind_eq_some_iff.mp h3
  rw [h2] at n2
  have n2 : nn2.1 = 127 := Option.some.inj n2
  obtain ⟨⟨S3, hh3', nn3'⟩, h3, e3⟩ := Option.map_eq_some_iff.mp h3
  unfold ct_2 at h2
  obtain ⟨⟨hh1, nn1⟩, h1, h2⟩ := Option.bind_eq_some_iff.mp h2
  obtain ⟨⟨rv2, hh2', nn2'⟩, h2r, e2⟩ := Option.bind_eq_some_iff.mp h2
  unfold ct_1 at h1
  obtain ⟨⟨S1, hh1', nn1'⟩, h1, e1⟩ := Option.map_eq_some_iff.mp h1
  cases e1
  cases e3
  cases e5
  have hS1 : S1 = [.ref 0] := by
    have : ci_new ci_cls ci_fty 11 ct_h0 (0, 0, 0) [] = some ([.ref 0], va_up ct_h0 0 (.inr (11, ci_dfl ci_fty 11 19)), 1, 1, 19) := rfl
    rw [this] at h1
    cases h1
    rfl
  subst hS1
  have hS3 : S3 = [.ref 127] := by
    have h3' : (if nn2.1 = ci_scr then none else some ([Value.ref nn2.1], va_up hh2 nn2.1 (.inr (12, ci_dfl ci_fty 12 43)), nn2.1 + 1, nn2.2.1 + 1, nn2.2.2 + 43)) = some (S3, hh3, nn3) := h3
    rw [n2, if_neg (by decide)] at h3'
    cases h3'
    rfl
  subst hS3
  have hS5 : S5 = [.ref 148] := by
    have h5' : (if nn4.1 = ci_scr then none else if (1 : Int32) < 0 then none else if Int32.toNatClampNeg 1 ≤ 100000 then some ([Value.ref nn4.1], va_up hh4 nn4.1 (.inl (.long, Int32.toNatClampNeg 1, .inr (.inl (fun _ => 0)))), nn4.1 + 1, nn4.2.1 + 1, nn4.2.2 + Int32.toNatClampNeg 1) else none) = some (S5, hp κ μ, 149, 149, 2647) := h5
    rw [n4, if_neg (by decide), if_neg (by decide), if_pos (by decide)] at h5'
    exact (Option.some.inj (congrArg (Option.map (fun q => q.1)) h5')).symm
  subst hS5
  have hv2 : rv2 = none ∧ hh2' = hh2 ∧ nn2' = nn2 := by
    cases rv2 with
    | none => cases e2; exact ⟨rfl, rfl, rfl⟩
    | some v => cases e2
  obtain ⟨rfl, rfl, rfl⟩ := hv2
  have hv4 : rv4 = none ∧ hh4' = hh4 ∧ nn4' = nn4 := by
    cases rv4 with
    | none => cases e4; exact ⟨rfl, rfl, rfl⟩
    | some v => cases e4
  obtain ⟨rfl, rfl, rfl⟩ := hv4
  refine ev_6 hc_L (i := .new 8) (len := 3) (x := 11) rfl h1 ?_
  refine ev_go hc_L (k := 1) (pc' := 4) (L' := ci_entry [.ref ci_scr] 8) (S' := [.ref 0, .ref 0]) rfl ?_
  refine ev_12 (d := 1989) hc_L (x := 94) (q := q_X11_init) (vs := [.ref 0]) (rest := [.ref 0]) rfl rfl rfl rfl (Nat.le_of_ble_eq_true rfl) rfl ⟨5000, ci_indep _ _ _ _ _ _ _ _ _ (by decide) h2r⟩ ?_
  refine ev_go hc_L (k := 1) (pc' := 8) (L' := [.ref ci_scr, .ref 0, ci_junk, ci_junk, ci_junk, ci_junk, ci_junk, ci_junk]) (S' := []) rfl ?_
  refine ev_6 hc_L (i := .new 26) (len := 3) (x := 12) rfl h3 ?_
  refine ev_go hc_L (k := 1) (pc' := 12) (L' := [.ref ci_scr, .ref 0, ci_junk, ci_junk, ci_junk, ci_junk, ci_junk, ci_junk]) (S' := [.ref 127, .ref 127]) rfl ?_
  refine ev_12 (d := 1989) hc_L (x := 168) (q := q_X12_init) (vs := [.ref 127]) (rest := [.ref 127]) rfl rfl rfl rfl (Nat.le_of_ble_eq_true rfl) rfl ⟨5000, ci_indep _ _ _ _ _ _ _ _ _ (by decide) h4r⟩ ?_
  refine ev_go hc_L (k := 2) (pc' := 17) (L' := [.ref ci_scr, .ref 0, .ref 127, ci_junk, ci_junk, ci_junk, ci_junk, ci_junk]) (S' := [.int 1]) rfl ?_
  refine ev_6 hc_L (i := .newarray .long) (len := 2) (x := 0) rfl h5 ?_
  refine ev_go hc_L (k := 3) (pc' := 23) (L' := [.ref ci_scr, .ref 0, .ref 127, .ref 148, .int 0, ci_junk, ci_junk, ci_junk]) (S' := []) rfl ?_
  exact kk
