theorem hc_X12_claim : ci_code (ci_Ms 230) = k_X12_claim := rfl
theorem fe_X12_claim {pc : Nat} {w : Option ci_I} (h : (k_X12_claim)[pc]? = some w) : (k_X12_claim)[pc]? = some w := h
def F_X12_claim (a0 : Nat) (a1 : Int32) (a2 : Int32) (h : ci_H) : Option (Int32 × ci_H) := if kO h a0 = some 12 then ((pF h a0 12 11 (.int 0)).bind fun h1 => (F_X12_refusesClaim a0 a1 a2 h1).bind fun q2 => if 0 ≤ q2.1 then ((gR q2.2 a0 12 0).bind fun v4 => (F_X12_remember a0 v4 q2.2).bind fun h5 => (gR h5 a0 12 0).bind fun v6 => (rI h5 v6 (12 + a1)).bind fun v7 => (gR h5 a0 12 0).bind fun v8 => (F_X12_belong v8 a1 a2 h5).bind fun h9 => some (v7, h9)) else (some (q2.1, q2.2))) else none
theorem K_X12_claim {a0 : Nat} {a1 : Int32} {a2 : Int32} {h : ci_H} {r : Int32 × ci_H} (H : F_X12_claim a0 a1 a2 h = some r) : kO h a0 = some 12 := by
  unfold F_X12_claim at H
  by_cases c : kO h a0 = some 12
  · exact c
  · rw [if_neg c] at H; cases H
set_option maxHeartbeats 4000000 in
set_option maxRecDepth 20000 in
theorem E_X12_claim {xs : Nat → Int32} {N d : Nat} {nx : ci_N} {a0 : Nat} {a1 : Int32} {a2 : Int32} {h : ci_H} {r : Int32 × ci_H} (H : F_X12_claim a0 a1 a2 h = some r) (hd : 5 ≤ d) : Ev xs N d 230 0 (ci_entry [.ref a0, .int a1, .int a2] 5) [] h nx (oI r nx) := by
  obtain ⟨d, rfl⟩ : ∃ d2, d = d2 + 1 := ⟨d - 1, by omega⟩
  have hd : 4 ≤ d := by omega
  unfold F_X12_claim at H
  by_cases ck : kO h a0 = some 12
  · rw [if_pos ck] at H
    show Ev xs N (d + 1) 230 0 [.ref a0, .int a1, .int a2, ci_junk, ci_junk] [] h nx _
    refine ev_go hc_X12_claim (k := 2) (pc' := 2) (L' := [.ref a0, .int a1, .int a2, ci_junk, ci_junk]) (S' := [.int 0, .ref a0]) rfl ?_
    obtain ⟨h1, eh1, H⟩ := Option.bind_eq_some_iff.mp H
    refine ev_5 hc_X12_claim (fe_X12_claim (pc := 2) rfl) (pF_pf eh1) ?_
    refine ev_go hc_X12_claim (k := 3) (pc' := 8) (L' := [.ref a0, .int a1, .int a2, ci_junk, ci_junk]) (S' := [.int a2, .int a1, .ref a0]) rfl ?_
    obtain ⟨q2, eq2, H⟩ := Option.bind_eq_some_iff.mp H
    refine ev_call (vs := [.ref a0, .int a1, .int a2]) (rest := []) (q := q_X12_refusesClaim) hc_X12_claim (Or.inr rfl) (fe_X12_claim (pc := 8) rfl) ms_229 rfl rfl (Nat.le_of_ble_eq_true rfl) (kO_recv (K_X12_refusesClaim eq2)) (E_X12_refusesClaim eq2 (by omega)) rfl ?_
    show Ev xs N (d + 1) 230 11 [.ref a0, .int a1, .int a2, ci_junk, ci_junk] [.int q2.1] q2.2 nx _
    refine ev_go hc_X12_claim (k := 2) (pc' := 13) (L' := [.ref a0, .int a1, .int a2, .int q2.1, ci_junk]) (S' := [.int q2.1]) rfl ?_
    by_cases c3 : 0 ≤ q2.1
    · rw [if_pos c3] at H
      refine ev_bt hc_X12_claim (fe_X12_claim (pc := 13) rfl) rfl c3 ?_
      refine ev_go hc_X12_claim (k := 2) (pc' := 20) (L' := [.ref a0, .int a1, .int a2, .int q2.1, ci_junk]) (S' := [.ref a0, .ref a0]) rfl ?_
      obtain ⟨v4, ev4, H⟩ := Option.bind_eq_some_iff.mp H
      refine ev_4 hc_X12_claim (fe_X12_claim (pc := 20) rfl) (gR_gf ev4) ?_
      obtain ⟨h5, eh5, H⟩ := Option.bind_eq_some_iff.mp H
      refine ev_call (vs := [.ref a0, .ref v4]) (rest := []) (q := q_X12_remember) hc_X12_claim (Or.inr rfl) (fe_X12_claim (pc := 23) rfl) ms_217 rfl rfl (Nat.le_of_ble_eq_true rfl) (kO_recv (K_X12_remember eh5)) (E_X12_remember eh5 (by omega)) rfl ?_
      show Ev xs N (d + 1) 230 26 [.ref a0, .int a1, .int a2, .int q2.1, ci_junk] [] h5 nx _
      refine ev_go hc_X12_claim (k := 1) (pc' := 27) (L' := [.ref a0, .int a1, .int a2, .int q2.1, ci_junk]) (S' := [.ref a0]) rfl ?_
      obtain ⟨v6, ev6, H⟩ := Option.bind_eq_some_iff.mp H
      refine ev_4 hc_X12_claim (fe_X12_claim (pc := 27) rfl) (gR_gf ev6) ?_
      refine ev_go hc_X12_claim (k := 3) (pc' := 34) (L' := [.ref a0, .int a1, .int a2, .int q2.1, ci_junk]) (S' := [.int (12 + a1), .ref v6]) rfl ?_
      obtain ⟨v7, ev7, H⟩ := Option.bind_eq_some_iff.mp H
      refine ev_4 hc_X12_claim (fe_X12_claim (pc := 34) rfl) (rI_al ev7) ?_
      refine ev_go hc_X12_claim (k := 2) (pc' := 38) (L' := [.ref a0, .int a1, .int a2, .int q2.1, .int v7]) (S' := [.ref a0]) rfl ?_
      obtain ⟨v8, ev8, H⟩ := Option.bind_eq_some_iff.mp H
      refine ev_4 hc_X12_claim (fe_X12_claim (pc := 38) rfl) (gR_gf ev8) ?_
      refine ev_go hc_X12_claim (k := 2) (pc' := 43) (L' := [.ref a0, .int a1, .int a2, .int q2.1, .int v7]) (S' := [.int a2, .int a1, .ref v8]) rfl ?_
      obtain ⟨h9, eh9, H⟩ := Option.bind_eq_some_iff.mp H
      refine ev_call (vs := [.ref v8, .int a1, .int a2]) (rest := []) (q := q_X12_belong) hc_X12_claim (Or.inl rfl) (fe_X12_claim (pc := 43) rfl) ms_221 rfl rfl (Nat.le_of_ble_eq_true rfl) rfl (E_X12_belong eh9 (by omega)) rfl ?_
      show Ev xs N (d + 1) 230 46 [.ref a0, .int a1, .int a2, .int q2.1, .int v7] [] h9 nx _
      refine ev_go hc_X12_claim (k := 1) (pc' := 48) (L' := [.ref a0, .int a1, .int a2, .int q2.1, .int v7]) (S' := [.int v7]) rfl ?_
      obtain rfl := Option.some.inj H
      exact ev_8 hc_X12_claim (fe_X12_claim (pc := 48) rfl) rfl
    · rw [if_neg c3] at H
      refine ev_bf hc_X12_claim (fe_X12_claim (pc := 13) rfl) rfl c3 ?_
      refine ev_go hc_X12_claim (k := 1) (pc' := 17) (L' := [.ref a0, .int a1, .int a2, .int q2.1, ci_junk]) (S' := [.int q2.1]) rfl ?_
      obtain rfl := Option.some.inj H
      exact ev_8 hc_X12_claim (fe_X12_claim (pc := 17) rfl) rfl
  · rw [if_neg ck] at H; cases H
theorem hc_X12_paint : ci_code (ci_Ms 231) = k_X12_paint := rfl
theorem fe_X12_paint {pc : Nat} {w : Option ci_I} (h : (k_X12_paint)[pc]? = some w) : (k_X12_paint)[pc]? = some w := h
def F_X12_paint (a0 : Nat) (a1 : Int32) (a2 : Int32) (h : ci_H) : Option (Int32 × ci_H) := if kO h a0 = some 12 then ((pF h a0 12 11 (.int 0)).bind fun h1 => (F_X12_isThing a0 a1 h1).bind fun q2 => if q2.1 = 0 then (some ((-1), q2.2)) else ((F_X12_in a2 0 5 q2.2).bind fun q4 => if q4.1 = 0 then (some ((-1), q4.2)) else ((gR q4.2 a0 12 0).bind fun v6 => (F_X12_remember a0 v6 q4.2).bind fun h7 => (gR h7 a0 12 0).bind fun v8 => (rI h7 v8 a1).bind fun v9 => (wI h7 v8 a1 (v9 ^^^ ((1 : Int32) <<< (a2 &&& 31)))).bind fun h10 => (gR h10 a0 12 0).bind fun v11 => (rI h10 v11 a1).bind fun v12 => some (v12, h10)))) else none
theorem K_X12_paint {a0 : Nat} {a1 : Int32} {a2 : Int32} {h : ci_H} {r : Int32 × ci_H} (H : F_X12_paint a0 a1 a2 h = some r) : kO h a0 = some 12 := by
  unfold F_X12_paint at H
  by_cases c : kO h a0 = some 12
  · exact c
  · rw [if_neg c] at H; cases H
set_option maxHeartbeats 4000000 in
set_option maxRecDepth 20000 in
theorem E_X12_paint {xs : Nat → Int32} {N d : Nat} {nx : ci_N} {a0 : Nat} {a1 : Int32} {a2 : Int32} {h : ci_H} {r : Int32 × ci_H} (H : F_X12_paint a0 a1 a2 h = some r) (hd : 2 ≤ d) : Ev xs N d 231 0 (ci_entry [.ref a0, .int a1, .int a2] 3) [] h nx (oI r nx) := by
  obtain ⟨d, rfl⟩ : ∃ d2, d = d2 + 1 := ⟨d - 1, by omega⟩
  have hd : 1 ≤ d := by omega
  unfold F_X12_paint at H
  by_cases ck : kO h a0 = some 12
  · rw [if_pos ck] at H
    show Ev xs N (d + 1) 231 0 [.ref a0, .int a1, .int a2] [] h nx _
    refine ev_go hc_X12_paint (k := 2) (pc' := 2) (L' := [.ref a0, .int a1, .int a2]) (S' := [.int 0, .ref a0]) rfl ?_
    obtain ⟨h1, eh1, H⟩ := Option.bind_eq_some_iff.mp H
    refine ev_5 hc_X12_paint (fe_X12_paint (pc := 2) rfl) (pF_pf eh1) ?_
    refine ev_go hc_X12_paint (k := 2) (pc' := 7) (L' := [.ref a0, .int a1, .int a2]) (S' := [.int a1, .ref a0]) rfl ?_
    obtain ⟨q2, eq2, H⟩ := Option.bind_eq_some_iff.mp H
    refine ev_call (vs := [.ref a0, .int a1]) (rest := []) (q := q_X12_isThing) hc_X12_paint (Or.inr rfl) (fe_X12_paint (pc := 7) rfl) ms_174 rfl rfl (Nat.le_of_ble_eq_true rfl) (kO_recv (K_X12_isThing eq2)) (E_X12_isThing eq2 (by omega)) rfl ?_
    show Ev xs N (d + 1) 231 10 [.ref a0, .int a1, .int a2] [.int q2.1] q2.2 nx _
    by_cases c3 : q2.1 = 0
    · rw [if_pos c3] at H
      refine ev_bt hc_X12_paint (fe_X12_paint (pc := 10) rfl) rfl c3 ?_
      refine ev_go hc_X12_paint (k := 1) (pc' := 23) (L' := [.ref a0, .int a1, .int a2]) (S' := [.int ((-1))]) rfl ?_
      obtain rfl := Option.some.inj H
      exact ev_8 hc_X12_paint (fe_X12_paint (pc := 23) rfl) rfl
    · rw [if_neg c3] at H
      refine ev_bf hc_X12_paint (fe_X12_paint (pc := 10) rfl) rfl c3 ?_
      refine ev_go hc_X12_paint (k := 3) (pc' := 16) (L' := [.ref a0, .int a1, .int a2]) (S' := [.int 5, .int 0, .int a2]) rfl ?_
      obtain ⟨q4, eq4, H⟩ := Option.bind_eq_some_iff.mp H
      refine ev_call (vs := [.int a2, .int 0, .int 5]) (rest := []) (q := q_X12_in) hc_X12_paint (Or.inl rfl) (fe_X12_paint (pc := 16) rfl) ms_170 rfl rfl (Nat.le_of_ble_eq_true rfl) rfl (E_X12_in eq4 (by omega)) rfl ?_
      show Ev xs N (d + 1) 231 19 [.ref a0, .int a1, .int a2] [.int q4.1] q4.2 nx _
      by_cases c5 : q4.1 = 0
      · rw [if_pos c5] at H
        refine ev_bt hc_X12_paint (fe_X12_paint (pc := 19) rfl) rfl c5 ?_
        refine ev_go hc_X12_paint (k := 1) (pc' := 23) (L' := [.ref a0, .int a1, .int a2]) (S' := [.int ((-1))]) rfl ?_
        obtain rfl := Option.some.inj H
        exact ev_8 hc_X12_paint (fe_X12_paint (pc := 23) rfl) rfl
      · rw [if_neg c5] at H
        refine ev_bf hc_X12_paint (fe_X12_paint (pc := 19) rfl) rfl c5 ?_
        refine ev_go hc_X12_paint (k := 2) (pc' := 26) (L' := [.ref a0, .int a1, .int a2]) (S' := [.ref a0, .ref a0]) rfl ?_
        obtain ⟨v6, ev6, H⟩ := Option.bind_eq_some_iff.mp H
        refine ev_4 hc_X12_paint (fe_X12_paint (pc := 26) rfl) (gR_gf ev6) ?_
        obtain ⟨h7, eh7, H⟩ := Option.bind_eq_some_iff.mp H
        refine ev_call (vs := [.ref a0, .ref v6]) (rest := []) (q := q_X12_remember) hc_X12_paint (Or.inr rfl) (fe_X12_paint (pc := 29) rfl) ms_217 rfl rfl (Nat.le_of_ble_eq_true rfl) (kO_recv (K_X12_remember eh7)) (E_X12_remember eh7 (by omega)) rfl ?_
        show Ev xs N (d + 1) 231 32 [.ref a0, .int a1, .int a2] [] h7 nx _
        refine ev_go hc_X12_paint (k := 1) (pc' := 33) (L' := [.ref a0, .int a1, .int a2]) (S' := [.ref a0]) rfl ?_
        obtain ⟨v8, ev8, H⟩ := Option.bind_eq_some_iff.mp H
        refine ev_4 hc_X12_paint (fe_X12_paint (pc := 33) rfl) (gR_gf ev8) ?_
        refine ev_go hc_X12_paint (k := 2) (pc' := 38) (L' := [.ref a0, .int a1, .int a2]) (S' := [.int a1, .ref v8, .int a1, .ref v8]) rfl ?_
        obtain ⟨v9, ev9, H⟩ := Option.bind_eq_some_iff.mp H
        refine ev_4 hc_X12_paint (fe_X12_paint (pc := 38) rfl) (rI_al ev9) ?_
        refine ev_go hc_X12_paint (k := 4) (pc' := 43) (L' := [.ref a0, .int a1, .int a2]) (S' := [.int (v9 ^^^ ((1 : Int32) <<< (a2 &&& 31))), .int a1, .ref v8]) rfl ?_
        obtain ⟨h10, eh10, H⟩ := Option.bind_eq_some_iff.mp H
        refine ev_5 hc_X12_paint (fe_X12_paint (pc := 43) rfl) (wI_as eh10) ?_
        refine ev_go hc_X12_paint (k := 1) (pc' := 45) (L' := [.ref a0, .int a1, .int a2]) (S' := [.ref a0]) rfl ?_
        obtain ⟨v11, ev11, H⟩ := Option.bind_eq_some_iff.mp H
        refine ev_4 hc_X12_paint (fe_X12_paint (pc := 45) rfl) (gR_gf ev11) ?_
        refine ev_go hc_X12_paint (k := 1) (pc' := 49) (L' := [.ref a0, .int a1, .int a2]) (S' := [.int a1, .ref v11]) rfl ?_
        obtain ⟨v12, ev12, H⟩ := Option.bind_eq_some_iff.mp H
        refine ev_4 hc_X12_paint (fe_X12_paint (pc := 49) rfl) (rI_al ev12) ?_
        obtain rfl := Option.some.inj H
        exact ev_8 hc_X12_paint (fe_X12_paint (pc := 50) rfl) rfl
  · rw [if_neg ck] at H; cases H
theorem hc_X12_lastOf : ci_code (ci_Ms 232) = k_X12_lastOf := rfl
theorem fe_X12_lastOf {pc : Nat} {w : Option ci_I} (h : (k_X12_lastOf)[pc]? = some w) : (k_X12_lastOf)[pc]? = some w := h
def b_X12_lastOf_40 (r_8 : Int32 → ci_H → Option (Int32 × ci_H)) (l0 : Nat) (l1 : Nat) (l2 : Int32) (l3 : Int32) (l4 : Int32)  (h : ci_H) : Option (Int32 × ci_H) := r_8 (l4 + (-1)) h
set_option maxHeartbeats 4000000 in
set_option maxRecDepth 20000 in
theorem eb_X12_lastOf_40 {xs : Nat → Int32} {N d : Nat} {nx : ci_N} {r_8 : Int32 → ci_H → Option (Int32 × ci_H)} {l0 : Nat} {l1 : Nat} {l2 : Int32} {l3 : Int32} {l4 : Int32} (hd : 0 ≤ d) (h_8 : ∀ (l4 : Int32) (h : ci_H) (r : Int32 × ci_H), r_8 l4 h = some r → Ev xs N (d + 1) 232 8 [.ref l0, .ref l1, .int l2, .int l3, .int l4] [] h nx (oI r nx)) {h : ci_H} {r : Int32 × ci_H} (H : b_X12_lastOf_40 r_8 l0 l1 l2 l3 l4 h = some r) : Ev xs N (d + 1) 232 40 [.ref l0, .ref l1, .int l2, .int l3, .int l4] [] h nx (oI r nx) := by
  unfold b_X12_lastOf_40 at H
  refine ev_go hc_X12_lastOf (k := 2) (pc' := 8) (L' := [.ref l0, .ref l1, .int l2, .int l3, .int (l4 + (-1))]) (S' := []) rfl ?_
  exact Ev.weak (ci_le_c (Or.inr rfl) (ci_le_c (Or.inr rfl) (ci_le_c (Or.inr rfl) (ci_le_c (Or.inr rfl) (ci_le_c (Or.inr rfl) (ci_le_n)))))) (h_8 _ _ _ H)
def b_X12_lastOf_8 (l0 : Nat) (l1 : Nat) (l2 : Int32) (l3 : Int32) : Nat → Int32 → ci_H → Option (Int32 × ci_H)
  | 0, _, _ => none
  | n + 1, l4, h => (F_X12_has l2 l4 h).bind fun q1 => if q1.1 = 0 then (b_X12_lastOf_40 (fun x0 x1 => b_X12_lastOf_8 l0 l1 l2 l3 n x0 x1) l0 l1 l2 l3 l4 q1.2) else ((rI q1.2 l1 l4).bind fun v3 => (gR q1.2 l0 12 4).bind fun v4 => (rI q1.2 v4 l3).bind fun v5 => (gR q1.2 l0 12 5).bind fun v6 => (rI q1.2 v6 l3).bind fun v7 => (F_X12_isOf l0 v3 v5 v7 q1.2).bind fun q8 => if q8.1 = 0 then (b_X12_lastOf_40 (fun x0 x1 => b_X12_lastOf_8 l0 l1 l2 l3 n x0 x1) l0 l1 l2 l3 l4 q8.2) else (some (l4, q8.2)))
set_option maxHeartbeats 4000000 in
set_option maxRecDepth 20000 in
theorem eb_X12_lastOf_8 {xs : Nat → Int32} {N d : Nat} {nx : ci_N} {l0 : Nat} {l1 : Nat} {l2 : Int32} {l3 : Int32} (hd : 0 ≤ d) : ∀ (n : Nat) (l4 : Int32) (h : ci_H) (r : Int32 × ci_H), b_X12_lastOf_8 l0 l1 l2 l3 n l4 h = some r → Ev xs N (d + 1) 232 8 [.ref l0, .ref l1, .int l2, .int l3, .int l4] [] h nx (oI r nx) := by
  intro n
  induction n with
  | zero => intro l4 h r H; unfold b_X12_lastOf_8 at H; cases H
  | succ n ih =>
    intro l4 h r H
    unfold b_X12_lastOf_8 at H
    refine ev_go hc_X12_lastOf (k := 2) (pc' := 11) (L' := [.ref l0, .ref l1, .int l2, .int l3, .int l4]) (S' := [.int l4, .int l2]) rfl ?_
    obtain ⟨q1, eq1, H⟩ := Option.bind_eq_some_iff.mp H
    refine ev_call (vs := [.int l2, .int l4]) (rest := []) (q := q_X12_has) hc_X12_lastOf (Or.inl rfl) (fe_X12_lastOf (pc := 11) rfl) ms_171 rfl rfl (Nat.le_of_ble_eq_true rfl) rfl (E_X12_has eq1 (by omega)) rfl ?_
    show Ev xs N (d + 1) 232 14 [.ref l0, .ref l1, .int l2, .int l3, .int l4] [.int q1.1] q1.2 nx _
    by_cases c2 : q1.1 = 0
    · rw [if_pos c2] at H
      refine ev_bt hc_X12_lastOf (fe_X12_lastOf (pc := 14) rfl) rfl c2 ?_
      exact Ev.weak (ci_le_c (Or.inr rfl) (ci_le_c (Or.inr rfl) (ci_le_c (Or.inr rfl) (ci_le_c (Or.inr rfl) (ci_le_c (Or.inr rfl) (ci_le_n)))))) (eb_X12_lastOf_40 hd ih H)
    · rw [if_neg c2] at H
      refine ev_bf hc_X12_lastOf (fe_X12_lastOf (pc := 14) rfl) rfl c2 ?_
      refine ev_go hc_X12_lastOf (k := 3) (pc' := 21) (L' := [.ref l0, .ref l1, .int l2, .int l3, .int l4]) (S' := [.int l4, .ref l1, .ref l0]) rfl ?_
      obtain ⟨v3, ev3, H⟩ := Option.bind_eq_some_iff.mp H
      refine ev_4 hc_X12_lastOf (fe_X12_lastOf (pc := 21) rfl) (rI_al ev3) ?_
      refine ev_go hc_X12_lastOf (k := 1) (pc' := 23) (L' := [.ref l0, .ref l1, .int l2, .int l3, .int l4]) (S' := [.ref l0, .int v3, .ref l0]) rfl ?_
      obtain ⟨v4, ev4, H⟩ := Option.bind_eq_some_iff.mp H
      refine ev_4 hc_X12_lastOf (fe_X12_lastOf (pc := 23) rfl) (gR_gf ev4) ?_
      refine ev_go hc_X12_lastOf (k := 1) (pc' := 27) (L' := [.ref l0, .ref l1, .int l2, .int l3, .int l4]) (S' := [.int l3, .ref v4, .int v3, .ref l0]) rfl ?_
      obtain ⟨v5, ev5, H⟩ := Option.bind_eq_some_iff.mp H
      refine ev_4 hc_X12_lastOf (fe_X12_lastOf (pc := 27) rfl) (rI_al ev5) ?_
      refine ev_go hc_X12_lastOf (k := 1) (pc' := 29) (L' := [.ref l0, .ref l1, .int l2, .int l3, .int l4]) (S' := [.ref l0, .int v5, .int v3, .ref l0]) rfl ?_
      obtain ⟨v6, ev6, H⟩ := Option.bind_eq_some_iff.mp H
      refine ev_4 hc_X12_lastOf (fe_X12_lastOf (pc := 29) rfl) (gR_gf ev6) ?_
      refine ev_go hc_X12_lastOf (k := 1) (pc' := 33) (L' := [.ref l0, .ref l1, .int l2, .int l3, .int l4]) (S' := [.int l3, .ref v6, .int v5, .int v3, .ref l0]) rfl ?_
      obtain ⟨v7, ev7, H⟩ := Option.bind_eq_some_iff.mp H
      refine ev_4 hc_X12_lastOf (fe_X12_lastOf (pc := 33) rfl) (rI_al ev7) ?_
      obtain ⟨q8, eq8, H⟩ := Option.bind_eq_some_iff.mp H
      refine ev_call (vs := [.ref l0, .int v3, .int v5, .int v7]) (rest := []) (q := q_X12_isOf) hc_X12_lastOf (Or.inr rfl) (fe_X12_lastOf (pc := 34) rfl) ms_200 rfl rfl (Nat.le_of_ble_eq_true rfl) (kO_recv (K_X12_isOf eq8)) (E_X12_isOf eq8 (by omega)) rfl ?_
      show Ev xs N (d + 1) 232 37 [.ref l0, .ref l1, .int l2, .int l3, .int l4] [.int q8.1] q8.2 nx _
      by_cases c9 : q8.1 = 0
      · rw [if_pos c9] at H
        refine ev_bt hc_X12_lastOf (fe_X12_lastOf (pc := 37) rfl) rfl c9 ?_
        exact Ev.weak (ci_le_c (Or.inr rfl) (ci_le_c (Or.inr rfl) (ci_le_c (Or.inr rfl) (ci_le_c (Or.inr rfl) (ci_le_c (Or.inr rfl) (ci_le_n)))))) (eb_X12_lastOf_40 hd ih H)
      · rw [if_neg c9] at H
        refine ev_bf hc_X12_lastOf (fe_X12_lastOf (pc := 37) rfl) rfl c9 ?_
        refine ev_go hc_X12_lastOf (k := 1) (pc' := 48) (L' := [.ref l0, .ref l1, .int l2, .int l3, .int l4]) (S' := [.int l4]) rfl ?_
        obtain rfl := Option.some.inj H
        exact ev_8 hc_X12_lastOf (fe_X12_lastOf (pc := 48) rfl) rfl
def F_X12_lastOf (a0 : Nat) (a1 : Nat) (a2 : Int32) (a3 : Int32) (h : ci_H) : Option (Int32 × ci_H) := if kO h a0 = some 12 then ((gI h a0 12 2).bind fun v1 => b_X12_lastOf_8 a0 a1 a2 a3 bigN (v1 - 1) h) else none
theorem K_X12_lastOf {a0 : Nat} {a1 : Nat} {a2 : Int32} {a3 : Int32} {h : ci_H} {r : Int32 × ci_H} (H : F_X12_lastOf a0 a1 a2 a3 h = some r) : kO h a0 = some 12 := by
  unfold F_X12_lastOf at H
  by_cases c : kO h a0 = some 12
  · exact c
  · rw [if_neg c] at H; cases H
set_option maxHeartbeats 4000000 in
set_option maxRecDepth 20000 in
theorem E_X12_lastOf {xs : Nat → Int32} {N d : Nat} {nx : ci_N} {a0 : Nat} {a1 : Nat} {a2 : Int32} {a3 : Int32} {h : ci_H} {r : Int32 × ci_H} (H : F_X12_lastOf a0 a1 a2 a3 h = some r) (hd : 1 ≤ d) : Ev xs N d 232 0 (ci_entry [.ref a0, .ref a1, .int a2, .int a3] 5) [] h nx (oI r nx) := by
  obtain ⟨d, rfl⟩ : ∃ d2, d = d2 + 1 := ⟨d - 1, by omega⟩
  have hd : 0 ≤ d := by omega
  unfold F_X12_lastOf at H
  by_cases ck : kO h a0 = some 12
  · rw [if_pos ck] at H
    show Ev xs N (d + 1) 232 0 [.ref a0, .ref a1, .int a2, .int a3, ci_junk] [] h nx _
    refine ev_go hc_X12_lastOf (k := 1) (pc' := 1) (L' := [.ref a0, .ref a1, .int a2, .int a3, ci_junk]) (S' := [.ref a0]) rfl ?_
    obtain ⟨v1, ev1, H⟩ := Option.bind_eq_some_iff.mp H
    refine ev_4 hc_X12_lastOf (fe_X12_lastOf (pc := 1) rfl) (gI_gf ev1) ?_
    refine ev_go hc_X12_lastOf (k := 3) (pc' := 8) (L' := [.ref a0, .ref a1, .int a2, .int a3, .int (v1 - 1)]) (S' := []) rfl ?_
    exact Ev.weak (ci_le_c (Or.inr rfl) (ci_le_c (Or.inr rfl) (ci_le_c (Or.inr rfl) (ci_le_c (Or.inr rfl) (ci_le_c (Or.inr rfl) (ci_le_n)))))) (eb_X12_lastOf_8 hd bigN _ _ _ H)
  · rw [if_neg ck] at H; cases H
theorem hc_X12_goHour : ci_code (ci_Ms 233) = k_X12_goHour := rfl
theorem fe_X12_goHour {pc : Nat} {w : Option ci_I} (h : (k_X12_goHour)[pc]? = some w) : (k_X12_goHour)[pc]? = some w := h
def b_X12_goHour_24 (r_15 : Int32 → Int32 → ci_H → Option (Int32 × ci_H)) (l0 : Nat) (l1 : Nat) (l2 : Int32) (l4 : Int32) : Nat → Int32 → ci_H → Option (Int32 × ci_H)
  | 0, _, _ => none
  | n + 1, l3, h => (F_X12_keptBy l0 l1 l2 h).bind fun q1 => (F_X12_manyOf l0 l1 q1.1 l4 q1.2).bind fun q2 => (gI q2.2 l0 12 6).bind fun v3 => if q2.1 ≤ v3 then (r_15 l3 (l4 + 1) q2.2) else ((F_X12_keptBy l0 l1 l2 q2.2).bind fun q5 => (F_X12_lastOf l0 l1 q5.1 l4 q5.2).bind fun q6 => (F_X12_belong l1 q6.1 ((-1)) q6.2).bind fun h7 => b_X12_goHour_24 r_15 l0 l1 l2 l4 n (l3 ||| ((1 : Int32) <<< (q6.1 &&& 31))) h7)
set_option maxHeartbeats 4000000 in
set_option maxRecDepth 20000 in
theorem eb_X12_goHour_24 {xs : Nat → Int32} {N d : Nat} {nx : ci_N} {r_15 : Int32 → Int32 → ci_H → Option (Int32 × ci_H)} {l0 : Nat} {l1 : Nat} {l2 : Int32} {l4 : Int32} (hd : 1 ≤ d) (h_15 : ∀ (l3 : Int32) (l4 : Int32) (h : ci_H) (r : Int32 × ci_H), r_15 l3 l4 h = some r → Ev xs N (d + 1) 233 15 [.ref l0, .ref l1, .int l2, .int l3, .int l4, ci_junk] [] h nx (oI r nx)) : ∀ (n : Nat) (l3 : Int32) (h : ci_H) (r : Int32 × ci_H), b_X12_goHour_24 r_15 l0 l1 l2 l4 n l3 h = some r → Ev xs N (d + 1) 233 24 [.ref l0, .ref l1, .int l2, .int l3, .int l4, ci_junk] [] h nx (oI r nx) := by
  intro n
  induction n with
  | zero => intro l3 h r H; unfold b_X12_goHour_24 at H; cases H
  | succ n ih =>
    intro l3 h r H
    unfold b_X12_goHour_24 at H
    refine ev_go hc_X12_goHour (k := 5) (pc' := 29) (L' := [.ref l0, .ref l1, .int l2, .int l3, .int l4, ci_junk]) (S' := [.int l2, .ref l1, .ref l0, .ref l1, .ref l0]) rfl ?_
    obtain ⟨q1, eq1, H⟩ := Option.bind_eq_some_iff.mp H
    refine ev_call (vs := [.ref l0, .ref l1, .int l2]) (rest := [.ref l1, .ref l0]) (q := q_X12_keptBy) hc_X12_goHour (Or.inr rfl) (fe_X12_goHour (pc := 29) rfl) ms_202 rfl rfl (Nat.le_of_ble_eq_true rfl) (kO_recv (K_X12_keptBy eq1)) (E_X12_keptBy eq1 (by omega)) rfl ?_
    show Ev xs N (d + 1) 233 32 [.ref l0, .ref l1, .int l2, .int l3, .int l4, ci_junk] [.int q1.1, .ref l1, .ref l0] q1.2 nx _
    refine ev_go hc_X12_goHour (k := 1) (pc' := 34) (L' := [.ref l0, .ref l1, .int l2, .int l3, .int l4, ci_junk]) (S' := [.int l4, .int q1.1, .ref l1, .ref l0]) rfl ?_
    obtain ⟨q2, eq2, H⟩ := Option.bind_eq_some_iff.mp H
    refine ev_call (vs := [.ref l0, .ref l1, .int q1.1, .int l4]) (rest := []) (q := q_X12_manyOf) hc_X12_goHour (Or.inr rfl) (fe_X12_goHour (pc := 34) rfl) ms_204 rfl rfl (Nat.le_of_ble_eq_true rfl) (kO_recv (K_X12_manyOf eq2)) (E_X12_manyOf eq2 (by omega)) rfl ?_
    show Ev xs N (d + 1) 233 37 [.ref l0, .ref l1, .int l2, .int l3, .int l4, ci_junk] [.int q2.1] q2.2 nx _
    refine ev_go hc_X12_goHour (k := 1) (pc' := 38) (L' := [.ref l0, .ref l1, .int l2, .int l3, .int l4, ci_junk]) (S' := [.ref l0, .int q2.1]) rfl ?_
    obtain ⟨v3, ev3, H⟩ := Option.bind_eq_some_iff.mp H
    refine ev_4 hc_X12_goHour (fe_X12_goHour (pc := 38) rfl) (gI_gf ev3) ?_
    by_cases c4 : q2.1 ≤ v3
    · rw [if_pos c4] at H
      refine ev_bt hc_X12_goHour (fe_X12_goHour (pc := 41) rfl) rfl c4 ?_
      refine ev_go hc_X12_goHour (k := 2) (pc' := 15) (L' := [.ref l0, .ref l1, .int l2, .int l3, .int (l4 + 1), ci_junk]) (S' := []) rfl ?_
      exact Ev.weak (ci_le_c (Or.inr rfl) (ci_le_c (Or.inr rfl) (ci_le_c (Or.inr rfl) (ci_le_c (Or.inr rfl) (ci_le_c (Or.inr rfl) (ci_le_c (Or.inl rfl) (ci_le_n))))))) (h_15 _ _ _ _ H)
    · rw [if_neg c4] at H
      refine ev_bf hc_X12_goHour (fe_X12_goHour (pc := 41) rfl) rfl c4 ?_
      refine ev_go hc_X12_goHour (k := 5) (pc' := 49) (L' := [.ref l0, .ref l1, .int l2, .int l3, .int l4, ci_junk]) (S' := [.int l2, .ref l1, .ref l0, .ref l1, .ref l0]) rfl ?_
      obtain ⟨q5, eq5, H⟩ := Option.bind_eq_some_iff.mp H
      refine ev_call (vs := [.ref l0, .ref l1, .int l2]) (rest := [.ref l1, .ref l0]) (q := q_X12_keptBy) hc_X12_goHour (Or.inr rfl) (fe_X12_goHour (pc := 49) rfl) ms_202 rfl rfl (Nat.le_of_ble_eq_true rfl) (kO_recv (K_X12_keptBy eq5)) (E_X12_keptBy eq5 (by omega)) rfl ?_
      show Ev xs N (d + 1) 233 52 [.ref l0, .ref l1, .int l2, .int l3, .int l4, ci_junk] [.int q5.1, .ref l1, .ref l0] q5.2 nx _
      refine ev_go hc_X12_goHour (k := 1) (pc' := 54) (L' := [.ref l0, .ref l1, .int l2, .int l3, .int l4, ci_junk]) (S' := [.int l4, .int q5.1, .ref l1, .ref l0]) rfl ?_
      obtain ⟨q6, eq6, H⟩ := Option.bind_eq_some_iff.mp H
      refine ev_call (vs := [.ref l0, .ref l1, .int q5.1, .int l4]) (rest := []) (q := q_X12_lastOf) hc_X12_goHour (Or.inr rfl) (fe_X12_goHour (pc := 54) rfl) ms_232 rfl rfl (Nat.le_of_ble_eq_true rfl) (kO_recv (K_X12_lastOf eq6)) (E_X12_lastOf eq6 (by omega)) rfl ?_
      show Ev xs N (d + 1) 233 57 [.ref l0, .ref l1, .int l2, .int l3, .int l4, ci_junk] [.int q6.1] q6.2 nx _
      refine ev_go hc_X12_goHour (k := 4) (pc' := 63) (L' := [.ref l0, .ref l1, .int l2, .int l3, .int l4, .int q6.1]) (S' := [.int ((-1)), .int q6.1, .ref l1]) rfl ?_
      obtain ⟨h7, eh7, H⟩ := Option.bind_eq_some_iff.mp H
      refine ev_call (vs := [.ref l1, .int q6.1, .int ((-1))]) (rest := []) (q := q_X12_belong) hc_X12_goHour (Or.inl rfl) (fe_X12_goHour (pc := 63) rfl) ms_221 rfl rfl (Nat.le_of_ble_eq_true rfl) rfl (E_X12_belong eh7 (by omega)) rfl ?_
      show Ev xs N (d + 1) 233 66 [.ref l0, .ref l1, .int l2, .int l3, .int l4, .int q6.1] [] h7 nx _
      refine ev_go hc_X12_goHour (k := 7) (pc' := 24) (L' := [.ref l0, .ref l1, .int l2, .int (l3 ||| ((1 : Int32) <<< (q6.1 &&& 31))), .int l4, .int q6.1]) (S' := []) rfl ?_
      exact Ev.weak (ci_le_c (Or.inr rfl) (ci_le_c (Or.inr rfl) (ci_le_c (Or.inr rfl) (ci_le_c (Or.inr rfl) (ci_le_c (Or.inr rfl) (ci_le_c (Or.inl rfl) (ci_le_n))))))) (ih _ _ _ H)
def b_X12_goHour_15 (l0 : Nat) (l1 : Nat) (l2 : Int32) : Nat → Int32 → Int32 → ci_H → Option (Int32 × ci_H)
  | 0, _, _, _ => none
  | n + 1, l3, l4, h => (gI h l0 12 3).bind fun v1 => if v1 ≤ l4 then ((rI h l1 41).bind fun v3 => (wI h l1 41 (v3 + 1)).bind fun h4 => some (l3, h4)) else (b_X12_goHour_24 (fun x0 x1 x2 => b_X12_goHour_15 l0 l1 l2 n x0 x1 x2) l0 l1 l2 l4 bigN l3 h)
set_option maxHeartbeats 4000000 in
set_option maxRecDepth 20000 in
theorem eb_X12_goHour_15 {xs : Nat → Int32} {N d : Nat} {nx : ci_N} {l0 : Nat} {l1 : Nat} {l2 : Int32} (hd : 1 ≤ d) : ∀ (n : Nat) (l3 : Int32) (l4 : Int32) (h : ci_H) (r : Int32 × ci_H), b_X12_goHour_15 l0 l1 l2 n l3 l4 h = some r → Ev xs N (d + 1) 233 15 [.ref l0, .ref l1, .int l2, .int l3, .int l4, ci_junk] [] h nx (oI r nx) := by
  intro n
  induction n with
  | zero => intro l3 l4 h r H; unfold b_X12_goHour_15 at H; cases H
  | succ n ih =>
    intro l3 l4 h r H
    unfold b_X12_goHour_15 at H
    refine ev_go hc_X12_goHour (k := 2) (pc' := 18) (L' := [.ref l0, .ref l1, .int l2, .int l3, .int l4, ci_junk]) (S' := [.ref l0, .int l4]) rfl ?_
    obtain ⟨v1, ev1, H⟩ := Option.bind_eq_some_iff.mp H
    refine ev_4 hc_X12_goHour (fe_X12_goHour (pc := 18) rfl) (gI_gf ev1) ?_
    by_cases c2 : v1 ≤ l4
    · rw [if_pos c2] at H
      refine ev_bt hc_X12_goHour (fe_X12_goHour (pc := 21) rfl) rfl c2 ?_
      refine ev_go hc_X12_goHour (k := 3) (pc' := 86) (L' := [.ref l0, .ref l1, .int l2, .int l3, .int l4, ci_junk]) (S' := [.int 41, .ref l1, .int 41, .ref l1]) rfl ?_
      obtain ⟨v3, ev3, H⟩ := Option.bind_eq_some_iff.mp H
      refine ev_4 hc_X12_goHour (fe_X12_goHour (pc := 86) rfl) (rI_al ev3) ?_
      refine ev_go hc_X12_goHour (k := 2) (pc' := 89) (L' := [.ref l0, .ref l1, .int l2, .int l3, .int l4, ci_junk]) (S' := [.int (v3 + 1), .int 41, .ref l1]) rfl ?_
      obtain ⟨h4, eh4, H⟩ := Option.bind_eq_some_iff.mp H
      refine ev_5 hc_X12_goHour (fe_X12_goHour (pc := 89) rfl) (wI_as eh4) ?_
      refine ev_go hc_X12_goHour (k := 1) (pc' := 91) (L' := [.ref l0, .ref l1, .int l2, .int l3, .int l4, ci_junk]) (S' := [.int l3]) rfl ?_
      obtain rfl := Option.some.inj H
      exact ev_8 hc_X12_goHour (fe_X12_goHour (pc := 91) rfl) rfl
    · rw [if_neg c2] at H
      refine ev_bf hc_X12_goHour (fe_X12_goHour (pc := 21) rfl) rfl c2 ?_
      exact Ev.weak (ci_le_c (Or.inr rfl) (ci_le_c (Or.inr rfl) (ci_le_c (Or.inr rfl) (ci_le_c (Or.inr rfl) (ci_le_c (Or.inr rfl) (ci_le_c (Or.inl rfl) (ci_le_n))))))) (eb_X12_goHour_24 hd ih bigN _ _ _ H)
def F_X12_goHour (a0 : Nat) (a1 : Nat) (h : ci_H) : Option (Int32 × ci_H) := if kO h a0 = some 12 then ((rI h a1 41).bind fun v1 => (gI h a0 12 1).bind fun v2 => (rmI v1 v2).bind fun v3 => b_X12_goHour_15 a0 a1 v3 bigN 0 0 h) else none
theorem K_X12_goHour {a0 : Nat} {a1 : Nat} {h : ci_H} {r : Int32 × ci_H} (H : F_X12_goHour a0 a1 h = some r) : kO h a0 = some 12 := by
  unfold F_X12_goHour at H
  by_cases c : kO h a0 = some 12
  · exact c
  · rw [if_neg c] at H; cases H
set_option maxHeartbeats 4000000 in
set_option maxRecDepth 20000 in
theorem E_X12_goHour {xs : Nat → Int32} {N d : Nat} {nx : ci_N} {a0 : Nat} {a1 : Nat} {h : ci_H} {r : Int32 × ci_H} (H : F_X12_goHour a0 a1 h = some r) (hd : 2 ≤ d) : Ev xs N d 233 0 (ci_entry [.ref a0, .ref a1] 6) [] h nx (oI r nx) := by
  obtain ⟨d, rfl⟩ : ∃ d2, d = d2 + 1 := ⟨d - 1, by omega⟩
  have hd : 1 ≤ d := by omega
  unfold F_X12_goHour at H
  by_cases ck : kO h a0 = some 12
  · rw [if_pos ck] at H
    show Ev xs N (d + 1) 233 0 [.ref a0, .ref a1, ci_junk, ci_junk, ci_junk, ci_junk] [] h nx _
    refine ev_go hc_X12_goHour (k := 2) (pc' := 3) (L' := [.ref a0, .ref a1, ci_junk, ci_junk, ci_junk, ci_junk]) (S' := [.int 41, .ref a1]) rfl ?_
    obtain ⟨v1, ev1, H⟩ := Option.bind_eq_some_iff.mp H
    refine ev_4 hc_X12_goHour (fe_X12_goHour (pc := 3) rfl) (rI_al ev1) ?_
    refine ev_go hc_X12_goHour (k := 1) (pc' := 5) (L' := [.ref a0, .ref a1, ci_junk, ci_junk, ci_junk, ci_junk]) (S' := [.ref a0, .int v1]) rfl ?_
    obtain ⟨v2, ev2, H⟩ := Option.bind_eq_some_iff.mp H
    refine ev_4 hc_X12_goHour (fe_X12_goHour (pc := 5) rfl) (gI_gf ev2) ?_
    obtain ⟨v3, ev3, H⟩ := Option.bind_eq_some_iff.mp H
    refine ev_1 hc_X12_goHour (fe_X12_goHour (pc := 8) rfl) (rmI_st ev3) ?_
    refine ev_go hc_X12_goHour (k := 5) (pc' := 15) (L' := [.ref a0, .ref a1, .int v3, .int 0, .int 0, ci_junk]) (S' := []) rfl ?_
    exact Ev.weak (ci_le_c (Or.inr rfl) (ci_le_c (Or.inr rfl) (ci_le_c (Or.inr rfl) (ci_le_c (Or.inr rfl) (ci_le_c (Or.inr rfl) (ci_le_c (Or.inl rfl) (ci_le_n))))))) (eb_X12_goHour_15 hd bigN _ _ _ _ H)
  · rw [if_neg ck] at H; cases H
theorem hc_X12_goHours : ci_code (ci_Ms 234) = k_X12_goHours := rfl
theorem fe_X12_goHours {pc : Nat} {w : Option ci_I} (h : (k_X12_goHours)[pc]? = some w) : (k_X12_goHours)[pc]? = some w := h
def b_X12_goHours_5 (l0 : Nat) (l1 : Nat) (l2 : Int32) : Nat → Int32 → Int32 → ci_H → Option (Int32 × ci_H)
  | 0, _, _, _ => none
  | n + 1, l3, l4, h => if l2 ≤ l4 then (some (l3, h)) else ((F_X12_goHour l0 l1 h).bind fun q2 => b_X12_goHours_5 l0 l1 l2 n (l3 ||| q2.1) (l4 + 1) q2.2)
set_option maxHeartbeats 4000000 in
set_option maxRecDepth 20000 in
theorem eb_X12_goHours_5 {xs : Nat → Int32} {N d : Nat} {nx : ci_N} {l0 : Nat} {l1 : Nat} {l2 : Int32} (hd : 2 ≤ d) : ∀ (n : Nat) (l3 : Int32) (l4 : Int32) (h : ci_H) (r : Int32 × ci_H), b_X12_goHours_5 l0 l1 l2 n l3 l4 h = some r → Ev xs N (d + 1) 234 5 [.ref l0, .ref l1, .int l2, .int l3, .int l4] [] h nx (oI r nx) := by
  intro n
  induction n with
  | zero => intro l3 l4 h r H; unfold b_X12_goHours_5 at H; cases H
  | succ n ih =>
    intro l3 l4 h r H
    unfold b_X12_goHours_5 at H
    refine ev_go hc_X12_goHours (k := 2) (pc' := 8) (L' := [.ref l0, .ref l1, .int l2, .int l3, .int l4]) (S' := [.int l2, .int l4]) rfl ?_
    by_cases c1 : l2 ≤ l4
    · rw [if_pos c1] at H
      refine ev_bt hc_X12_goHours (fe_X12_goHours (pc := 8) rfl) rfl c1 ?_
      refine ev_go hc_X12_goHours (k := 1) (pc' := 26) (L' := [.ref l0, .ref l1, .int l2, .int l3, .int l4]) (S' := [.int l3]) rfl ?_
      obtain rfl := Option.some.inj H
      exact ev_8 hc_X12_goHours (fe_X12_goHours (pc := 26) rfl) rfl
    · rw [if_neg c1] at H
      refine ev_bf hc_X12_goHours (fe_X12_goHours (pc := 8) rfl) rfl c1 ?_
      refine ev_go hc_X12_goHours (k := 3) (pc' := 14) (L' := [.ref l0, .ref l1, .int l2, .int l3, .int l4]) (S' := [.ref l1, .ref l0, .int l3]) rfl ?_
      obtain ⟨q2, eq2, H⟩ := Option.bind_eq_some_iff.mp H
      refine ev_call (vs := [.ref l0, .ref l1]) (rest := [.int l3]) (q := q_X12_goHour) hc_X12_goHours (Or.inr rfl) (fe_X12_goHours (pc := 14) rfl) ms_233 rfl rfl (Nat.le_of_ble_eq_true rfl) (kO_recv (K_X12_goHour eq2)) (E_X12_goHour eq2 (by omega)) rfl ?_
      show Ev xs N (d + 1) 234 17 [.ref l0, .ref l1, .int l2, .int l3, .int l4] [.int q2.1, .int l3] q2.2 nx _
      refine ev_go hc_X12_goHours (k := 4) (pc' := 5) (L' := [.ref l0, .ref l1, .int l2, .int (l3 ||| q2.1), .int (l4 + 1)]) (S' := []) rfl ?_
      exact Ev.weak (ci_le_c (Or.inr rfl) (ci_le_c (Or.inr rfl) (ci_le_c (Or.inr rfl) (ci_le_c (Or.inr rfl) (ci_le_c (Or.inr rfl) (ci_le_n)))))) (ih _ _ _ _ H)
def F_X12_goHours (a0 : Nat) (a1 : Nat) (a2 : Int32) (h : ci_H) : Option (Int32 × ci_H) := if kO h a0 = some 12 then (b_X12_goHours_5 a0 a1 a2 bigN 0 0 h) else none
theorem K_X12_goHours {a0 : Nat} {a1 : Nat} {a2 : Int32} {h : ci_H} {r : Int32 × ci_H} (H : F_X12_goHours a0 a1 a2 h = some r) : kO h a0 = some 12 := by
  unfold F_X12_goHours at H
  by_cases c : kO h a0 = some 12
  · exact c
  · rw [if_neg c] at H; cases H
set_option maxHeartbeats 4000000 in
set_option maxRecDepth 20000 in
theorem E_X12_goHours {xs : Nat → Int32} {N d : Nat} {nx : ci_N} {a0 : Nat} {a1 : Nat} {a2 : Int32} {h : ci_H} {r : Int32 × ci_H} (H : F_X12_goHours a0 a1 a2 h = some r) (hd : 3 ≤ d) : Ev xs N d 234 0 (ci_entry [.ref a0, .ref a1, .int a2] 5) [] h nx (oI r nx) := by
  obtain ⟨d, rfl⟩ : ∃ d2, d = d2 + 1 := ⟨d - 1, by omega⟩
  have hd : 2 ≤ d := by omega
  unfold F_X12_goHours at H
  by_cases ck : kO h a0 = some 12
  · rw [if_pos ck] at H
    show Ev xs N (d + 1) 234 0 [.ref a0, .ref a1, .int a2, ci_junk, ci_junk] [] h nx _
    refine ev_go hc_X12_goHours (k := 4) (pc' := 5) (L' := [.ref a0, .ref a1, .int a2, .int 0, .int 0]) (S' := []) rfl ?_
    exact Ev.weak (ci_le_c (Or.inr rfl) (ci_le_c (Or.inr rfl) (ci_le_c (Or.inr rfl) (ci_le_c (Or.inr rfl) (ci_le_c (Or.inr rfl) (ci_le_n)))))) (eb_X12_goHours_5 hd bigN _ _ _ _ H)
  · rw [if_neg ck] at H; cases H
theorem hc_X12_hours : ci_code (ci_Ms 235) = k_X12_hours := rfl
theorem fe_X12_hours {pc : Nat} {w : Option ci_I} (h : (k_X12_hours)[pc]? = some w) : (k_X12_hours)[pc]? = some w := h
def b_X12_hours_29 (l0 : Nat) (l1 : Int32)  (h : ci_H) : Option (Int32 × ci_H) := (gR h l0 12 0).bind fun v1 => (F_X12_goHours l0 v1 l1 h).bind fun q2 => (pF q2.2 l0 12 10 (.int 0)).bind fun h3 => (F_X12_tell l0 ((q2.1 : Int32).toInt64) h3).bind fun h4 => (gR h4 l0 12 0).bind fun v5 => (rI h4 v5 41).bind fun v6 => (F_X12_tell l0 ((v6 : Int32).toInt64) h4).bind fun h7 => (F_J6_bitCount_0f7a4 q2.1 h7).bind fun q8 => some (q8.1, q8.2)
set_option maxHeartbeats 4000000 in
set_option maxRecDepth 20000 in
theorem eb_X12_hours_29 {xs : Nat → Int32} {N d : Nat} {nx : ci_N} {l0 : Nat} {l1 : Int32} (hd : 3 ≤ d) {h : ci_H} {r : Int32 × ci_H} (H : b_X12_hours_29 l0 l1 h = some r) : Ev xs N (d + 1) 235 29 [.ref l0, .int l1, ci_junk] [] h nx (oI r nx) := by
  unfold b_X12_hours_29 at H
  refine ev_go hc_X12_hours (k := 2) (pc' := 31) (L' := [.ref l0, .int l1, ci_junk]) (S' := [.ref l0, .ref l0]) rfl ?_
  obtain ⟨v1, ev1, H⟩ := Option.bind_eq_some_iff.mp H
  refine ev_4 hc_X12_hours (fe_X12_hours (pc := 31) rfl) (gR_gf ev1) ?_
  refine ev_go hc_X12_hours (k := 1) (pc' := 35) (L' := [.ref l0, .int l1, ci_junk]) (S' := [.int l1, .ref v1, .ref l0]) rfl ?_
  obtain ⟨q2, eq2, H⟩ := Option.bind_eq_some_iff.mp H
  refine ev_call (vs := [.ref l0, .ref v1, .int l1]) (rest := []) (q := q_X12_goHours) hc_X12_hours (Or.inr rfl) (fe_X12_hours (pc := 35) rfl) ms_234 rfl rfl (Nat.le_of_ble_eq_true rfl) (kO_recv (K_X12_goHours eq2)) (E_X12_goHours eq2 (by omega)) rfl ?_
  show Ev xs N (d + 1) 235 38 [.ref l0, .int l1, ci_junk] [.int q2.1] q2.2 nx _
  refine ev_go hc_X12_hours (k := 3) (pc' := 41) (L' := [.ref l0, .int l1, .int q2.1]) (S' := [.int 0, .ref l0]) rfl ?_
  obtain ⟨h3, eh3, H⟩ := Option.bind_eq_some_iff.mp H
  refine ev_5 hc_X12_hours (fe_X12_hours (pc := 41) rfl) (pF_pf eh3) ?_
  refine ev_go hc_X12_hours (k := 3) (pc' := 47) (L' := [.ref l0, .int l1, .int q2.1]) (S' := [.long ((q2.1 : Int32).toInt64), .ref l0]) rfl ?_
  obtain ⟨h4, eh4, H⟩ := Option.bind_eq_some_iff.mp H
  refine ev_call (vs := [.ref l0, .long ((q2.1 : Int32).toInt64)]) (rest := []) (q := q_X12_tell) hc_X12_hours (Or.inr rfl) (fe_X12_hours (pc := 47) rfl) ms_173 rfl rfl (Nat.le_of_ble_eq_true rfl) (kO_recv (K_X12_tell eh4)) (E_X12_tell eh4 (by omega)) rfl ?_
  show Ev xs N (d + 1) 235 50 [.ref l0, .int l1, .int q2.1] [] h4 nx _
  refine ev_go hc_X12_hours (k := 2) (pc' := 52) (L' := [.ref l0, .int l1, .int q2.1]) (S' := [.ref l0, .ref l0]) rfl ?_
  obtain ⟨v5, ev5, H⟩ := Option.bind_eq_some_iff.mp H
  refine ev_4 hc_X12_hours (fe_X12_hours (pc := 52) rfl) (gR_gf ev5) ?_
  refine ev_go hc_X12_hours (k := 1) (pc' := 57) (L' := [.ref l0, .int l1, .int q2.1]) (S' := [.int 41, .ref v5, .ref l0]) rfl ?_
  obtain ⟨v6, ev6, H⟩ := Option.bind_eq_some_iff.mp H
  refine ev_4 hc_X12_hours (fe_X12_hours (pc := 57) rfl) (rI_al ev6) ?_
  refine ev_go hc_X12_hours (k := 1) (pc' := 59) (L' := [.ref l0, .int l1, .int q2.1]) (S' := [.long ((v6 : Int32).toInt64), .ref l0]) rfl ?_
  obtain ⟨h7, eh7, H⟩ := Option.bind_eq_some_iff.mp H
  refine ev_call (vs := [.ref l0, .long ((v6 : Int32).toInt64)]) (rest := []) (q := q_X12_tell) hc_X12_hours (Or.inr rfl) (fe_X12_hours (pc := 59) rfl) ms_173 rfl rfl (Nat.le_of_ble_eq_true rfl) (kO_recv (K_X12_tell eh7)) (E_X12_tell eh7 (by omega)) rfl ?_
  show Ev xs N (d + 1) 235 62 [.ref l0, .int l1, .int q2.1] [] h7 nx _
  refine ev_go hc_X12_hours (k := 1) (pc' := 63) (L' := [.ref l0, .int l1, .int q2.1]) (S' := [.int q2.1]) rfl ?_
  obtain ⟨q8, eq8, H⟩ := Option.bind_eq_some_iff.mp H
  refine ev_call (vs := [.int q2.1]) (rest := []) (q := q_J6_bitCount_0f7a4) hc_X12_hours (Or.inl rfl) (fe_X12_hours (pc := 63) rfl) ms_285 rfl rfl (Nat.le_of_ble_eq_true rfl) rfl (E_J6_bitCount_0f7a4 eq8 (by omega)) rfl ?_
  show Ev xs N (d + 1) 235 66 [.ref l0, .int l1, .int q2.1] [.int q8.1] q8.2 nx _
  obtain rfl := Option.some.inj H
  exact ev_8 hc_X12_hours (fe_X12_hours (pc := 66) rfl) rfl
def F_X12_hours (a0 : Nat) (a1 : Int32) (h : ci_H) : Option (Int32 × ci_H) := if kO h a0 = some 12 then ((pF h a0 12 11 (.int 0)).bind fun h1 => (F_X12_in a1 0 60 h1).bind fun q2 => if q2.1 = 0 then (some ((-1), q2.2)) else (if a1 ≤ 0 then (b_X12_hours_29 a0 a1 q2.2) else ((gR q2.2 a0 12 0).bind fun v5 => (F_X12_remember a0 v5 q2.2).bind fun h6 => b_X12_hours_29 a0 a1 h6))) else none
theorem K_X12_hours {a0 : Nat} {a1 : Int32} {h : ci_H} {r : Int32 × ci_H} (H : F_X12_hours a0 a1 h = some r) : kO h a0 = some 12 := by
  unfold F_X12_hours at H
  by_cases c : kO h a0 = some 12
  · exact c
  · rw [if_neg c] at H; cases H
set_option maxHeartbeats 4000000 in
set_option maxRecDepth 20000 in
theorem E_X12_hours {xs : Nat → Int32} {N d : Nat} {nx : ci_N} {a0 : Nat} {a1 : Int32} {h : ci_H} {r : Int32 × ci_H} (H : F_X12_hours a0 a1 h = some r) (hd : 4 ≤ d) : Ev xs N d 235 0 (ci_entry [.ref a0, .int a1] 3) [] h nx (oI r nx) := by
  obtain ⟨d, rfl⟩ : ∃ d2, d = d2 + 1 := ⟨d - 1, by omega⟩
  have hd : 3 ≤ d := by omega
  unfold F_X12_hours at H
  by_cases ck : kO h a0 = some 12
  · rw [if_pos ck] at H
    show Ev xs N (d + 1) 235 0 [.ref a0, .int a1, ci_junk] [] h nx _
    refine ev_go hc_X12_hours (k := 2) (pc' := 2) (L' := [.ref a0, .int a1, ci_junk]) (S' := [.int 0, .ref a0]) rfl ?_
    obtain ⟨h1, eh1, H⟩ := Option.bind_eq_some_iff.mp H
    refine ev_5 hc_X12_hours (fe_X12_hours (pc := 2) rfl) (pF_pf eh1) ?_
    refine ev_go hc_X12_hours (k := 3) (pc' := 9) (L' := [.ref a0, .int a1, ci_junk]) (S' := [.int 60, .int 0, .int a1]) rfl ?_
    obtain ⟨q2, eq2, H⟩ := Option.bind_eq_some_iff.mp H
    refine ev_call (vs := [.int a1, .int 0, .int 60]) (rest := []) (q := q_X12_in) hc_X12_hours (Or.inl rfl) (fe_X12_hours (pc := 9) rfl) ms_170 rfl rfl (Nat.le_of_ble_eq_true rfl) rfl (E_X12_in eq2 (by omega)) rfl ?_
    show Ev xs N (d + 1) 235 12 [.ref a0, .int a1, ci_junk] [.int q2.1] q2.2 nx _
    by_cases c3 : q2.1 = 0
    · rw [if_pos c3] at H
      refine ev_bt hc_X12_hours (fe_X12_hours (pc := 12) rfl) rfl c3 ?_
      refine ev_go hc_X12_hours (k := 1) (pc' := 16) (L' := [.ref a0, .int a1, ci_junk]) (S' := [.int ((-1))]) rfl ?_
      obtain rfl := Option.some.inj H
      exact ev_8 hc_X12_hours (fe_X12_hours (pc := 16) rfl) rfl
    · rw [if_neg c3] at H
      refine ev_bf hc_X12_hours (fe_X12_hours (pc := 12) rfl) rfl c3 ?_
      refine ev_go hc_X12_hours (k := 1) (pc' := 18) (L' := [.ref a0, .int a1, ci_junk]) (S' := [.int a1]) rfl ?_
      by_cases c4 : a1 ≤ 0
      · rw [if_pos c4] at H
        refine ev_bt hc_X12_hours (fe_X12_hours (pc := 18) rfl) rfl c4 ?_
        exact Ev.weak (ci_le_c (Or.inr rfl) (ci_le_c (Or.inr rfl) (ci_le_c (Or.inl rfl) (ci_le_n)))) (eb_X12_hours_29 hd H)
      · rw [if_neg c4] at H
        refine ev_bf hc_X12_hours (fe_X12_hours (pc := 18) rfl) rfl c4 ?_
        refine ev_go hc_X12_hours (k := 2) (pc' := 23) (L' := [.ref a0, .int a1, ci_junk]) (S' := [.ref a0, .ref a0]) rfl ?_
        obtain ⟨v5, ev5, H⟩ := Option.bind_eq_some_iff.mp H
        refine ev_4 hc_X12_hours (fe_X12_hours (pc := 23) rfl) (gR_gf ev5) ?_
        obtain ⟨h6, eh6, H⟩ := Option.bind_eq_some_iff.mp H
        refine ev_call (vs := [.ref a0, .ref v5]) (rest := []) (q := q_X12_remember) hc_X12_hours (Or.inr rfl) (fe_X12_hours (pc := 26) rfl) ms_217 rfl rfl (Nat.le_of_ble_eq_true rfl) (kO_recv (K_X12_remember eh6)) (E_X12_remember eh6 (by omega)) rfl ?_
        show Ev xs N (d + 1) 235 29 [.ref a0, .int a1, ci_junk] [] h6 nx _
        exact Ev.weak (ci_le_c (Or.inr rfl) (ci_le_c (Or.inr rfl) (ci_le_c (Or.inl rfl) (ci_le_n)))) (eb_X12_hours_29 hd H)
  · rw [if_neg ck] at H; cases H
theorem hc_X12_readAct : ci_code (ci_Ms 237) = k_X12_readAct := rfl
theorem fe_X12_readAct {pc : Nat} {w : Option ci_I} (h : (k_X12_readAct)[pc]? = some w) : (k_X12_readAct)[pc]? = some w := h
def b_X12_readAct_126 (l0 : Nat) (l1 : Int32) (l2 : Int32)  (h : ci_H) : Option (ci_H) := if l2 = 112 then ((gR h l0 12 26).bind fun v2 => (F_X12_oneOf l0 97 6 h).bind fun q3 => (wI q3.2 v2 (l1 + 2) q3.1).bind fun h4 => some h4) else (some h)
set_option maxHeartbeats 4000000 in
set_option maxRecDepth 20000 in
theorem eb_X12_readAct_126 {xs : Nat → Int32} {N d : Nat} {nx : ci_N} {l0 : Nat} {l1 : Int32} {l2 : Int32} (hd : 3 ≤ d) {h : ci_H} {r : ci_H} (H : b_X12_readAct_126 l0 l1 l2 h = some r) : Ev xs N (d + 1) 237 126 [.ref l0, .int l1, .int l2, ci_junk] [] h nx (oV r nx) := by
  unfold b_X12_readAct_126 at H
  refine ev_go hc_X12_readAct (k := 2) (pc' := 129) (L' := [.ref l0, .int l1, .int l2, ci_junk]) (S' := [.int 112, .int l2]) rfl ?_
  by_cases c1 : l2 = 112
  · rw [if_pos c1] at H
    refine ev_bt hc_X12_readAct (fe_X12_readAct (pc := 129) rfl) rfl c1 ?_
    refine ev_go hc_X12_readAct (k := 1) (pc' := 133) (L' := [.ref l0, .int l1, .int l2, ci_junk]) (S' := [.ref l0]) rfl ?_
    obtain ⟨v2, ev2, H⟩ := Option.bind_eq_some_iff.mp H
    refine ev_4 hc_X12_readAct (fe_X12_readAct (pc := 133) rfl) (gR_gf ev2) ?_
    refine ev_go hc_X12_readAct (k := 6) (pc' := 144) (L' := [.ref l0, .int l1, .int l2, ci_junk]) (S' := [.int 6, .int 97, .ref l0, .int (l1 + 2), .ref v2]) rfl ?_
    obtain ⟨q3, eq3, H⟩ := Option.bind_eq_some_iff.mp H
    refine ev_call (vs := [.ref l0, .int 97, .int 6]) (rest := [.int (l1 + 2), .ref v2]) (q := q_X12_oneOf) hc_X12_readAct (Or.inr rfl) (fe_X12_readAct (pc := 144) rfl) ms_187 rfl rfl (Nat.le_of_ble_eq_true rfl) (kO_recv (K_X12_oneOf eq3)) (E_X12_oneOf eq3 (by omega)) rfl ?_
    show Ev xs N (d + 1) 237 147 [.ref l0, .int l1, .int l2, ci_junk] [.int q3.1, .int (l1 + 2), .ref v2] q3.2 nx _
    obtain ⟨h4, eh4, H⟩ := Option.bind_eq_some_iff.mp H
    refine ev_5 hc_X12_readAct (fe_X12_readAct (pc := 147) rfl) (wI_as eh4) ?_
    obtain rfl := Option.some.inj H
    exact ev_8 hc_X12_readAct (fe_X12_readAct (pc := 148) rfl) rfl
  · rw [if_neg c1] at H
    refine ev_bf hc_X12_readAct (fe_X12_readAct (pc := 129) rfl) rfl c1 ?_
    obtain rfl := Option.some.inj H
    exact ev_8 hc_X12_readAct (fe_X12_readAct (pc := 148) rfl) rfl
def b_X12_readAct_105 (l0 : Nat) (l1 : Int32) (l2 : Int32) (l3 : Int32) (s0 : Nat) (s1 : Int32) (s2 : Int32)  (h : ci_H) : Option (ci_H) := (wI h s0 s1 s2).bind fun h1 => if l3 = 0 then (b_X12_readAct_126 l0 l1 l2 h1) else ((gR h1 l0 12 26).bind fun v3 => (F_X12_oneOf l0 48 10 h1).bind fun q4 => (wI q4.2 v3 (l1 + 2) q4.1).bind fun h5 => b_X12_readAct_126 l0 l1 l2 h5)
set_option maxHeartbeats 4000000 in
set_option maxRecDepth 20000 in
theorem eb_X12_readAct_105 {xs : Nat → Int32} {N d : Nat} {nx : ci_N} {l0 : Nat} {l1 : Int32} {l2 : Int32} {l3 : Int32} {s0 : Nat} {s1 : Int32} {s2 : Int32} (hd : 3 ≤ d) {h : ci_H} {r : ci_H} (H : b_X12_readAct_105 l0 l1 l2 l3 s0 s1 s2 h = some r) : Ev xs N (d + 1) 237 105 [.ref l0, .int l1, .int l2, .int l3] [.int s2, .int s1, .ref s0] h nx (oV r nx) := by
  unfold b_X12_readAct_105 at H
  obtain ⟨h1, eh1, H⟩ := Option.bind_eq_some_iff.mp H
  refine ev_5 hc_X12_readAct (fe_X12_readAct (pc := 105) rfl) (wI_as eh1) ?_
  refine ev_go hc_X12_readAct (k := 1) (pc' := 107) (L' := [.ref l0, .int l1, .int l2, .int l3]) (S' := [.int l3]) rfl ?_
  by_cases c2 : l3 = 0
  · rw [if_pos c2] at H
    refine ev_bt hc_X12_readAct (fe_X12_readAct (pc := 107) rfl) rfl c2 ?_
    exact Ev.weak (ci_le_c (Or.inr rfl) (ci_le_c (Or.inr rfl) (ci_le_c (Or.inr rfl) (ci_le_c (Or.inl rfl) (ci_le_n))))) (eb_X12_readAct_126 hd H)
  · rw [if_neg c2] at H
    refine ev_bf hc_X12_readAct (fe_X12_readAct (pc := 107) rfl) rfl c2 ?_
    refine ev_go hc_X12_readAct (k := 1) (pc' := 111) (L' := [.ref l0, .int l1, .int l2, .int l3]) (S' := [.ref l0]) rfl ?_
    obtain ⟨v3, ev3, H⟩ := Option.bind_eq_some_iff.mp H
    refine ev_4 hc_X12_readAct (fe_X12_readAct (pc := 111) rfl) (gR_gf ev3) ?_
    refine ev_go hc_X12_readAct (k := 6) (pc' := 122) (L' := [.ref l0, .int l1, .int l2, .int l3]) (S' := [.int 10, .int 48, .ref l0, .int (l1 + 2), .ref v3]) rfl ?_
    obtain ⟨q4, eq4, H⟩ := Option.bind_eq_some_iff.mp H
    refine ev_call (vs := [.ref l0, .int 48, .int 10]) (rest := [.int (l1 + 2), .ref v3]) (q := q_X12_oneOf) hc_X12_readAct (Or.inr rfl) (fe_X12_readAct (pc := 122) rfl) ms_187 rfl rfl (Nat.le_of_ble_eq_true rfl) (kO_recv (K_X12_oneOf eq4)) (E_X12_oneOf eq4 (by omega)) rfl ?_
    show Ev xs N (d + 1) 237 125 [.ref l0, .int l1, .int l2, .int l3] [.int q4.1, .int (l1 + 2), .ref v3] q4.2 nx _
    obtain ⟨h5, eh5, H⟩ := Option.bind_eq_some_iff.mp H
    refine ev_5 hc_X12_readAct (fe_X12_readAct (pc := 125) rfl) (wI_as eh5) ?_
    exact Ev.weak (ci_le_c (Or.inr rfl) (ci_le_c (Or.inr rfl) (ci_le_c (Or.inr rfl) (ci_le_c (Or.inl rfl) (ci_le_n))))) (eb_X12_readAct_126 hd H)
def b_X12_readAct_59 (l0 : Nat) (l1 : Int32) (l2 : Int32) (l3 : Int32)  (h : ci_H) : Option (ci_H) := (gI h l0 12 15).bind fun v1 => (pF h l0 12 15 (.int (v1 + 1))).bind fun h2 => (gR h2 l0 12 26).bind fun v3 => (wI h2 v3 l1 l2).bind fun h4 => (gR h4 l0 12 26).bind fun v5 => if l2 = 104 then ((F_X12_number l0 2 h4).bind fun q7 => b_X12_readAct_105 l0 l1 l2 l3 v5 (l1 + 1) q7.1 q7.2) else ((F_X12_oneOf l0 97 12 h4).bind fun q8 => b_X12_readAct_105 l0 l1 l2 l3 v5 (l1 + 1) q8.1 q8.2)
set_option maxHeartbeats 4000000 in
set_option maxRecDepth 20000 in
theorem eb_X12_readAct_59 {xs : Nat → Int32} {N d : Nat} {nx : ci_N} {l0 : Nat} {l1 : Int32} {l2 : Int32} {l3 : Int32} (hd : 3 ≤ d) {h : ci_H} {r : ci_H} (H : b_X12_readAct_59 l0 l1 l2 l3 h = some r) : Ev xs N (d + 1) 237 59 [.ref l0, .int l1, .int l2, .int l3] [] h nx (oV r nx) := by
  unfold b_X12_readAct_59 at H
  refine ev_go hc_X12_readAct (k := 2) (pc' := 61) (L' := [.ref l0, .int l1, .int l2, .int l3]) (S' := [.ref l0, .ref l0]) rfl ?_
  obtain ⟨v1, ev1, H⟩ := Option.bind_eq_some_iff.mp H
  refine ev_4 hc_X12_readAct (fe_X12_readAct (pc := 61) rfl) (gI_gf ev1) ?_
  refine ev_go hc_X12_readAct (k := 2) (pc' := 66) (L' := [.ref l0, .int l1, .int l2, .int l3]) (S' := [.int (v1 + 1), .ref l0]) rfl ?_
  obtain ⟨h2, eh2, H⟩ := Option.bind_eq_some_iff.mp H
  refine ev_5 hc_X12_readAct (fe_X12_readAct (pc := 66) rfl) (pF_pf eh2) ?_
  refine ev_go hc_X12_readAct (k := 1) (pc' := 70) (L' := [.ref l0, .int l1, .int l2, .int l3]) (S' := [.ref l0]) rfl ?_
  obtain ⟨v3, ev3, H⟩ := Option.bind_eq_some_iff.mp H
  refine ev_4 hc_X12_readAct (fe_X12_readAct (pc := 70) rfl) (gR_gf ev3) ?_
  refine ev_go hc_X12_readAct (k := 2) (pc' := 75) (L' := [.ref l0, .int l1, .int l2, .int l3]) (S' := [.int l2, .int l1, .ref v3]) rfl ?_
  obtain ⟨h4, eh4, H⟩ := Option.bind_eq_some_iff.mp H
  refine ev_5 hc_X12_readAct (fe_X12_readAct (pc := 75) rfl) (wI_as eh4) ?_
  refine ev_go hc_X12_readAct (k := 1) (pc' := 77) (L' := [.ref l0, .int l1, .int l2, .int l3]) (S' := [.ref l0]) rfl ?_
  obtain ⟨v5, ev5, H⟩ := Option.bind_eq_some_iff.mp H
  refine ev_4 hc_X12_readAct (fe_X12_readAct (pc := 77) rfl) (gR_gf ev5) ?_
  refine ev_go hc_X12_readAct (k := 5) (pc' := 86) (L' := [.ref l0, .int l1, .int l2, .int l3]) (S' := [.int 104, .int l2, .int (l1 + 1), .ref v5]) rfl ?_
  by_cases c6 : l2 = 104
  · rw [if_pos c6] at H
    refine ev_bt hc_X12_readAct (fe_X12_readAct (pc := 86) rfl) rfl c6 ?_
    refine ev_go hc_X12_readAct (k := 2) (pc' := 91) (L' := [.ref l0, .int l1, .int l2, .int l3]) (S' := [.int 2, .ref l0, .int (l1 + 1), .ref v5]) rfl ?_
    obtain ⟨q7, eq7, H⟩ := Option.bind_eq_some_iff.mp H
    refine ev_call (vs := [.ref l0, .int 2]) (rest := [.int (l1 + 1), .ref v5]) (q := q_X12_number) hc_X12_readAct (Or.inr rfl) (fe_X12_readAct (pc := 91) rfl) ms_188 rfl rfl (Nat.le_of_ble_eq_true rfl) (kO_recv (K_X12_number eq7)) (E_X12_number eq7 (by omega)) rfl ?_
    show Ev xs N (d + 1) 237 94 [.ref l0, .int l1, .int l2, .int l3] [.int q7.1, .int (l1 + 1), .ref v5] q7.2 nx _
    refine ev_go hc_X12_readAct (k := 1) (pc' := 105) (L' := [.ref l0, .int l1, .int l2, .int l3]) (S' := [.int q7.1, .int (l1 + 1), .ref v5]) rfl ?_
    exact Ev.weak (ci_le_c (Or.inr rfl) (ci_le_c (Or.inr rfl) (ci_le_c (Or.inr rfl) (ci_le_c (Or.inr rfl) (ci_le_n))))) (eb_X12_readAct_105 hd H)
  · rw [if_neg c6] at H
    refine ev_bf hc_X12_readAct (fe_X12_readAct (pc := 86) rfl) rfl c6 ?_
    refine ev_go hc_X12_readAct (k := 3) (pc' := 102) (L' := [.ref l0, .int l1, .int l2, .int l3]) (S' := [.int 12, .int 97, .ref l0, .int (l1 + 1), .ref v5]) rfl ?_
    obtain ⟨q8, eq8, H⟩ := Option.bind_eq_some_iff.mp H
    refine ev_call (vs := [.ref l0, .int 97, .int 12]) (rest := [.int (l1 + 1), .ref v5]) (q := q_X12_oneOf) hc_X12_readAct (Or.inr rfl) (fe_X12_readAct (pc := 102) rfl) ms_187 rfl rfl (Nat.le_of_ble_eq_true rfl) (kO_recv (K_X12_oneOf eq8)) (E_X12_oneOf eq8 (by omega)) rfl ?_
    show Ev xs N (d + 1) 237 105 [.ref l0, .int l1, .int l2, .int l3] [.int q8.1, .int (l1 + 1), .ref v5] q8.2 nx _
    exact Ev.weak (ci_le_c (Or.inr rfl) (ci_le_c (Or.inr rfl) (ci_le_c (Or.inr rfl) (ci_le_c (Or.inr rfl) (ci_le_n))))) (eb_X12_readAct_105 hd H)
def b_X12_readAct_34 (l0 : Nat) (l1 : Int32) (l2 : Int32) (s0 : Int32)  (h : ci_H) : Option (ci_H) := if s0 = 0 then (if l2 = 112 then (b_X12_readAct_59 l0 l1 l2 s0 h) else (if l2 = 104 then (b_X12_readAct_59 l0 l1 l2 s0 h) else ((gI h l0 12 15).bind fun v4 => (F_X12_fault l0 v4 h).bind fun h5 => b_X12_readAct_59 l0 l1 l2 s0 h5))) else (b_X12_readAct_59 l0 l1 l2 s0 h)
set_option maxHeartbeats 4000000 in
set_option maxRecDepth 20000 in
theorem eb_X12_readAct_34 {xs : Nat → Int32} {N d : Nat} {nx : ci_N} {l0 : Nat} {l1 : Int32} {l2 : Int32} {s0 : Int32} (hd : 3 ≤ d) {h : ci_H} {r : ci_H} (H : b_X12_readAct_34 l0 l1 l2 s0 h = some r) : Ev xs N (d + 1) 237 34 [.ref l0, .int l1, .int l2, ci_junk] [.int s0] h nx (oV r nx) := by
  unfold b_X12_readAct_34 at H
  refine ev_go hc_X12_readAct (k := 2) (pc' := 36) (L' := [.ref l0, .int l1, .int l2, .int s0]) (S' := [.int s0]) rfl ?_
  by_cases c1 : s0 = 0
  · rw [if_pos c1] at H
    refine ev_bt hc_X12_readAct (fe_X12_readAct (pc := 36) rfl) rfl c1 ?_
    refine ev_go hc_X12_readAct (k := 2) (pc' := 42) (L' := [.ref l0, .int l1, .int l2, .int s0]) (S' := [.int 112, .int l2]) rfl ?_
    by_cases c2 : l2 = 112
    · rw [if_pos c2] at H
      refine ev_bt hc_X12_readAct (fe_X12_readAct (pc := 42) rfl) rfl c2 ?_
      exact Ev.weak (ci_le_c (Or.inr rfl) (ci_le_c (Or.inr rfl) (ci_le_c (Or.inr rfl) (ci_le_c (Or.inr rfl) (ci_le_n))))) (eb_X12_readAct_59 hd H)
    · rw [if_neg c2] at H
      refine ev_bf hc_X12_readAct (fe_X12_readAct (pc := 42) rfl) rfl c2 ?_
      refine ev_go hc_X12_readAct (k := 2) (pc' := 48) (L' := [.ref l0, .int l1, .int l2, .int s0]) (S' := [.int 104, .int l2]) rfl ?_
      by_cases c3 : l2 = 104
      · rw [if_pos c3] at H
        refine ev_bt hc_X12_readAct (fe_X12_readAct (pc := 48) rfl) rfl c3 ?_
        exact Ev.weak (ci_le_c (Or.inr rfl) (ci_le_c (Or.inr rfl) (ci_le_c (Or.inr rfl) (ci_le_c (Or.inr rfl) (ci_le_n))))) (eb_X12_readAct_59 hd H)
      · rw [if_neg c3] at H
        refine ev_bf hc_X12_readAct (fe_X12_readAct (pc := 48) rfl) rfl c3 ?_
        refine ev_go hc_X12_readAct (k := 2) (pc' := 53) (L' := [.ref l0, .int l1, .int l2, .int s0]) (S' := [.ref l0, .ref l0]) rfl ?_
        obtain ⟨v4, ev4, H⟩ := Option.bind_eq_some_iff.mp H
        refine ev_4 hc_X12_readAct (fe_X12_readAct (pc := 53) rfl) (gI_gf ev4) ?_
        obtain ⟨h5, eh5, H⟩ := Option.bind_eq_some_iff.mp H
        refine ev_call (vs := [.ref l0, .int v4]) (rest := []) (q := q_X12_fault) hc_X12_readAct (Or.inr rfl) (fe_X12_readAct (pc := 56) rfl) ms_184 rfl rfl (Nat.le_of_ble_eq_true rfl) (kO_recv (K_X12_fault eh5)) (E_X12_fault eh5 (by omega)) rfl ?_
        show Ev xs N (d + 1) 237 59 [.ref l0, .int l1, .int l2, .int s0] [] h5 nx _
        exact Ev.weak (ci_le_c (Or.inr rfl) (ci_le_c (Or.inr rfl) (ci_le_c (Or.inr rfl) (ci_le_c (Or.inr rfl) (ci_le_n))))) (eb_X12_readAct_59 hd H)
  · rw [if_neg c1] at H
    refine ev_bf hc_X12_readAct (fe_X12_readAct (pc := 36) rfl) rfl c1 ?_
    exact Ev.weak (ci_le_c (Or.inr rfl) (ci_le_c (Or.inr rfl) (ci_le_c (Or.inr rfl) (ci_le_c (Or.inr rfl) (ci_le_n))))) (eb_X12_readAct_59 hd H)
def b_X12_readAct_29 (l0 : Nat) (l1 : Int32) (l2 : Int32)  (h : ci_H) : Option (ci_H) := b_X12_readAct_34 l0 l1 l2 1 h
set_option maxHeartbeats 4000000 in
set_option maxRecDepth 20000 in
theorem eb_X12_readAct_29 {xs : Nat → Int32} {N d : Nat} {nx : ci_N} {l0 : Nat} {l1 : Int32} {l2 : Int32} (hd : 3 ≤ d) {h : ci_H} {r : ci_H} (H : b_X12_readAct_29 l0 l1 l2 h = some r) : Ev xs N (d + 1) 237 29 [.ref l0, .int l1, .int l2, ci_junk] [] h nx (oV r nx) := by
  unfold b_X12_readAct_29 at H
  refine ev_go hc_X12_readAct (k := 2) (pc' := 34) (L' := [.ref l0, .int l1, .int l2, ci_junk]) (S' := [.int 1]) rfl ?_
  exact Ev.weak (ci_le_c (Or.inr rfl) (ci_le_c (Or.inr rfl) (ci_le_c (Or.inr rfl) (ci_le_c (Or.inl rfl) (ci_le_n))))) (eb_X12_readAct_34 hd H)
def F_X12_readAct (a0 : Nat) (a1 : Int32) (h : ci_H) : Option (ci_H) := if kO h a0 = some 12 then ((F_X12_here a0 h).bind fun q1 => if q1.1 = 98 then (b_X12_readAct_29 a0 a1 q1.1 q1.2) else (if q1.1 = 103 then (b_X12_readAct_29 a0 a1 q1.1 q1.2) else (if q1.1 = 108 then (b_X12_readAct_29 a0 a1 q1.1 q1.2) else (if q1.1 = 99 then (b_X12_readAct_29 a0 a1 q1.1 q1.2) else (b_X12_readAct_34 a0 a1 q1.1 0 q1.2))))) else none
theorem K_X12_readAct {a0 : Nat} {a1 : Int32} {h : ci_H} {r : ci_H} (H : F_X12_readAct a0 a1 h = some r) : kO h a0 = some 12 := by
  unfold F_X12_readAct at H
  by_cases c : kO h a0 = some 12
  · exact c
  · rw [if_neg c] at H; cases H
set_option maxHeartbeats 4000000 in
set_option maxRecDepth 20000 in
theorem E_X12_readAct {xs : Nat → Int32} {N d : Nat} {nx : ci_N} {a0 : Nat} {a1 : Int32} {h : ci_H} {r : ci_H} (H : F_X12_readAct a0 a1 h = some r) (hd : 4 ≤ d) : Ev xs N d 237 0 (ci_entry [.ref a0, .int a1] 4) [] h nx (oV r nx) := by
  obtain ⟨d, rfl⟩ : ∃ d2, d = d2 + 1 := ⟨d - 1, by omega⟩
  have hd : 3 ≤ d := by omega
  unfold F_X12_readAct at H
  by_cases ck : kO h a0 = some 12
  · rw [if_pos ck] at H
    show Ev xs N (d + 1) 237 0 [.ref a0, .int a1, ci_junk, ci_junk] [] h nx _
    refine ev_go hc_X12_readAct (k := 1) (pc' := 1) (L' := [.ref a0, .int a1, ci_junk, ci_junk]) (S' := [.ref a0]) rfl ?_
    obtain ⟨q1, eq1, H⟩ := Option.bind_eq_some_iff.mp H
    refine ev_call (vs := [.ref a0]) (rest := []) (q := q_X12_here) hc_X12_readAct (Or.inr rfl) (fe_X12_readAct (pc := 1) rfl) ms_182 rfl rfl (Nat.le_of_ble_eq_true rfl) (kO_recv (K_X12_here eq1)) (E_X12_here eq1 (by omega)) rfl ?_
    show Ev xs N (d + 1) 237 4 [.ref a0, .int a1, ci_junk, ci_junk] [.int q1.1] q1.2 nx _
    refine ev_go hc_X12_readAct (k := 3) (pc' := 8) (L' := [.ref a0, .int a1, .int q1.1, ci_junk]) (S' := [.int 98, .int q1.1]) rfl ?_
    by_cases c2 : q1.1 = 98
    · rw [if_pos c2] at H
      refine ev_bt hc_X12_readAct (fe_X12_readAct (pc := 8) rfl) rfl c2 ?_
      exact Ev.weak (ci_le_c (Or.inr rfl) (ci_le_c (Or.inr rfl) (ci_le_c (Or.inr rfl) (ci_le_c (Or.inl rfl) (ci_le_n))))) (eb_X12_readAct_29 hd H)
    · rw [if_neg c2] at H
      refine ev_bf hc_X12_readAct (fe_X12_readAct (pc := 8) rfl) rfl c2 ?_
      refine ev_go hc_X12_readAct (k := 2) (pc' := 14) (L' := [.ref a0, .int a1, .int q1.1, ci_junk]) (S' := [.int 103, .int q1.1]) rfl ?_
      by_cases c3 : q1.1 = 103
      · rw [if_pos c3] at H
        refine ev_bt hc_X12_readAct (fe_X12_readAct (pc := 14) rfl) rfl c3 ?_
        exact Ev.weak (ci_le_c (Or.inr rfl) (ci_le_c (Or.inr rfl) (ci_le_c (Or.inr rfl) (ci_le_c (Or.inl rfl) (ci_le_n))))) (eb_X12_readAct_29 hd H)
      · rw [if_neg c3] at H
        refine ev_bf hc_X12_readAct (fe_X12_readAct (pc := 14) rfl) rfl c3 ?_
        refine ev_go hc_X12_readAct (k := 2) (pc' := 20) (L' := [.ref a0, .int a1, .int q1.1, ci_junk]) (S' := [.int 108, .int q1.1]) rfl ?_
        by_cases c4 : q1.1 = 108
        · rw [if_pos c4] at H
          refine ev_bt hc_X12_readAct (fe_X12_readAct (pc := 20) rfl) rfl c4 ?_
          exact Ev.weak (ci_le_c (Or.inr rfl) (ci_le_c (Or.inr rfl) (ci_le_c (Or.inr rfl) (ci_le_c (Or.inl rfl) (ci_le_n))))) (eb_X12_readAct_29 hd H)
        · rw [if_neg c4] at H
          refine ev_bf hc_X12_readAct (fe_X12_readAct (pc := 20) rfl) rfl c4 ?_
          refine ev_go hc_X12_readAct (k := 2) (pc' := 26) (L' := [.ref a0, .int a1, .int q1.1, ci_junk]) (S' := [.int 99, .int q1.1]) rfl ?_
          by_cases c5 : q1.1 = 99
          · rw [if_pos c5] at H
            refine ev_bt hc_X12_readAct (fe_X12_readAct (pc := 26) rfl) rfl c5 ?_
            exact Ev.weak (ci_le_c (Or.inr rfl) (ci_le_c (Or.inr rfl) (ci_le_c (Or.inr rfl) (ci_le_c (Or.inl rfl) (ci_le_n))))) (eb_X12_readAct_29 hd H)
          · rw [if_neg c5] at H
            refine ev_bf hc_X12_readAct (fe_X12_readAct (pc := 26) rfl) rfl c5 ?_
            refine ev_go hc_X12_readAct (k := 1) (pc' := 34) (L' := [.ref a0, .int a1, .int q1.1, ci_junk]) (S' := [.int 0]) rfl ?_
            exact Ev.weak (ci_le_c (Or.inr rfl) (ci_le_c (Or.inr rfl) (ci_le_c (Or.inr rfl) (ci_le_c (Or.inl rfl) (ci_le_n))))) (eb_X12_readAct_34 hd H)
  · rw [if_neg ck] at H; cases H
theorem hc_X12_act : ci_code (ci_Ms 238) = k_X12_act := rfl
theorem fe_X12_act {pc : Nat} {w : Option ci_I} (h : (k_X12_act)[pc]? = some w) : (k_X12_act)[pc]? = some w := h
def F_X12_act (a0 : Nat) (a1 : Int32) (a2 : Int32) (a3 : Int32) (h : ci_H) : Option (Int32 × ci_H) := if kO h a0 = some 12 then (if a1 = 98 then ((F_X12_refusesBuy a0 a2 a3 h).bind fun q2 => if 0 ≤ q2.1 then ((F_X12_goBuy a0 a2 a3 q2.2).bind fun q4 => some (1, q4.2)) else (some (0, q2.2))) else if a1 = 99 then ((F_X12_refusesClaim a0 a2 a3 h).bind fun q6 => if 0 ≤ q6.1 then ((gR q6.2 a0 12 0).bind fun v8 => (F_X12_belong v8 a2 a3 q6.2).bind fun h9 => some (1, h9)) else (some (0, q6.2))) else if a1 = 100 then (if a2 ≤ 60 then ((gR h a0 12 0).bind fun v12 => (F_X12_goHours a0 v12 a2 h).bind fun q13 => some (1, q13.2)) else (some (0, h))) else if a1 = 101 then (if a2 ≤ 60 then ((gR h a0 12 0).bind fun v16 => (F_X12_goHours a0 v16 a2 h).bind fun q17 => some (1, q17.2)) else (some (0, h))) else if a1 = 102 then (if a2 ≤ 60 then ((gR h a0 12 0).bind fun v20 => (F_X12_goHours a0 v20 a2 h).bind fun q21 => some (1, q21.2)) else (some (0, h))) else if a1 = 103 then ((F_X12_refusesGive a0 a2 a3 h).bind fun q23 => if 0 ≤ q23.1 then ((gR q23.2 a0 12 0).bind fun v25 => (F_X12_belong v25 a2 a3 q23.2).bind fun h26 => some (1, h26)) else (some (0, q23.2))) else if a1 = 104 then (if a2 ≤ 60 then ((gR h a0 12 0).bind fun v29 => (F_X12_goHours a0 v29 a2 h).bind fun q30 => some (1, q30.2)) else (some (0, h))) else if a1 = 105 then (if a2 ≤ 60 then ((gR h a0 12 0).bind fun v33 => (F_X12_goHours a0 v33 a2 h).bind fun q34 => some (1, q34.2)) else (some (0, h))) else if a1 = 106 then (if a2 ≤ 60 then ((gR h a0 12 0).bind fun v37 => (F_X12_goHours a0 v37 a2 h).bind fun q38 => some (1, q38.2)) else (some (0, h))) else if a1 = 107 then (if a2 ≤ 60 then ((gR h a0 12 0).bind fun v41 => (F_X12_goHours a0 v41 a2 h).bind fun q42 => some (1, q42.2)) else (some (0, h))) else if a1 = 108 then ((F_X12_refusesLend a0 a2 a3 h).bind fun q44 => if 0 ≤ q44.1 then ((gR q44.2 a0 12 0).bind fun v46 => (wI q44.2 v46 (24 + a2) a3).bind fun h47 => some (1, h47)) else (some (0, q44.2))) else if a1 = 109 then (if a2 ≤ 60 then ((gR h a0 12 0).bind fun v50 => (F_X12_goHours a0 v50 a2 h).bind fun q51 => some (1, q51.2)) else (some (0, h))) else if a1 = 110 then (if a2 ≤ 60 then ((gR h a0 12 0).bind fun v54 => (F_X12_goHours a0 v54 a2 h).bind fun q55 => some (1, q55.2)) else (some (0, h))) else if a1 = 111 then (if a2 ≤ 60 then ((gR h a0 12 0).bind fun v58 => (F_X12_goHours a0 v58 a2 h).bind fun q59 => some (1, q59.2)) else (some (0, h))) else if a1 = 112 then ((F_X12_isThing a0 a2 h).bind fun q61 => if q61.1 = 0 then (some (0, q61.2)) else ((gR q61.2 a0 12 0).bind fun v63 => (rI q61.2 v63 a2).bind fun v64 => (wI q61.2 v63 a2 (v64 ^^^ ((1 : Int32) <<< (a3 &&& 31)))).bind fun h65 => some (1, h65))) else (if a2 ≤ 60 then ((gR h a0 12 0).bind fun v67 => (F_X12_goHours a0 v67 a2 h).bind fun q68 => some (1, q68.2)) else (some (0, h)))) else none
theorem K_X12_act {a0 : Nat} {a1 : Int32} {a2 : Int32} {a3 : Int32} {h : ci_H} {r : Int32 × ci_H} (H : F_X12_act a0 a1 a2 a3 h = some r) : kO h a0 = some 12 := by
  unfold F_X12_act at H
  by_cases c : kO h a0 = some 12
  · exact c
  · rw [if_neg c] at H; cases H
set_option maxHeartbeats 4000000 in
set_option maxRecDepth 20000 in
theorem E_X12_act {xs : Nat → Int32} {N d : Nat} {nx : ci_N} {a0 : Nat} {a1 : Int32} {a2 : Int32} {a3 : Int32} {h : ci_H} {r : Int32 × ci_H} (H : F_X12_act a0 a1 a2 a3 h = some r) (hd : 107 ≤ d) : Ev xs N d 238 0 (ci_entry [.ref a0, .int a1, .int a2, .int a3] 4) [] h nx (oI r nx) := by
  obtain ⟨d, rfl⟩ : ∃ d2, d = d2 + 1 := ⟨d - 1, by omega⟩
  have hd : 106 ≤ d := by omega
  unfold F_X12_act at H
  by_cases ck : kO h a0 = some 12
  · rw [if_pos ck] at H
    show Ev xs N (d + 1) 238 0 [.ref a0, .int a1, .int a2, .int a3] [] h nx _
    refine ev_go hc_X12_act (k := 1) (pc' := 1) (L' := [.ref a0, .int a1, .int a2, .int a3]) (S' := [.int a1]) rfl ?_
    by_cases c1 : a1 = 98
    · rw [if_pos c1] at H
      refine ev_3 hc_X12_act (fe_X12_act (pc := 1) rfl) (pc' := 76) (S' := []) (by rw [c1]; rfl) ?_
      refine ev_go hc_X12_act (k := 3) (pc' := 79) (L' := [.ref a0, .int a1, .int a2, .int a3]) (S' := [.int a3, .int a2, .ref a0]) rfl ?_
      obtain ⟨q2, eq2, H⟩ := Option.bind_eq_some_iff.mp H
      refine ev_call (vs := [.ref a0, .int a2, .int a3]) (rest := []) (q := q_X12_refusesBuy) hc_X12_act (Or.inr rfl) (fe_X12_act (pc := 79) rfl) ms_222 rfl rfl (Nat.le_of_ble_eq_true rfl) (kO_recv (K_X12_refusesBuy eq2)) (E_X12_refusesBuy eq2 (by omega)) rfl ?_
      show Ev xs N (d + 1) 238 82 [.ref a0, .int a1, .int a2, .int a3] [.int q2.1] q2.2 nx _
      by_cases c3 : 0 ≤ q2.1
      · rw [if_pos c3] at H
        refine ev_bt hc_X12_act (fe_X12_act (pc := 82) rfl) rfl c3 ?_
        refine ev_go hc_X12_act (k := 3) (pc' := 90) (L' := [.ref a0, .int a1, .int a2, .int a3]) (S' := [.int a3, .int a2, .ref a0]) rfl ?_
        obtain ⟨q4, eq4, H⟩ := Option.bind_eq_some_iff.mp H
        refine ev_call (vs := [.ref a0, .int a2, .int a3]) (rest := []) (q := q_X12_goBuy) hc_X12_act (Or.inr rfl) (fe_X12_act (pc := 90) rfl) ms_223 rfl rfl (Nat.le_of_ble_eq_true rfl) (kO_recv (K_X12_goBuy eq4)) (E_X12_goBuy eq4 (by omega)) rfl ?_
        show Ev xs N (d + 1) 238 93 [.ref a0, .int a1, .int a2, .int a3] [.int q4.1] q4.2 nx _
        refine ev_go hc_X12_act (k := 2) (pc' := 95) (L' := [.ref a0, .int a1, .int a2, .int a3]) (S' := [.int 1]) rfl ?_
        obtain rfl := Option.some.inj H
        exact ev_8z hc_X12_act (fe_X12_act (pc := 95) rfl) rfl (Or.inr rfl)
      · rw [if_neg c3] at H
        refine ev_bf hc_X12_act (fe_X12_act (pc := 82) rfl) rfl c3 ?_
        refine ev_go hc_X12_act (k := 1) (pc' := 86) (L' := [.ref a0, .int a1, .int a2, .int a3]) (S' := [.int 0]) rfl ?_
        obtain rfl := Option.some.inj H
        exact ev_8z hc_X12_act (fe_X12_act (pc := 86) rfl) rfl (Or.inl rfl)
    rw [if_neg c1] at H
    by_cases c5 : a1 = 99
    · rw [if_pos c5] at H
      refine ev_3 hc_X12_act (fe_X12_act (pc := 1) rfl) (pc' := 141) (S' := []) (by rw [c5]; rfl) ?_
      refine ev_go hc_X12_act (k := 3) (pc' := 144) (L' := [.ref a0, .int a1, .int a2, .int a3]) (S' := [.int a3, .int a2, .ref a0]) rfl ?_
      obtain ⟨q6, eq6, H⟩ := Option.bind_eq_some_iff.mp H
      refine ev_call (vs := [.ref a0, .int a2, .int a3]) (rest := []) (q := q_X12_refusesClaim) hc_X12_act (Or.inr rfl) (fe_X12_act (pc := 144) rfl) ms_229 rfl rfl (Nat.le_of_ble_eq_true rfl) (kO_recv (K_X12_refusesClaim eq6)) (E_X12_refusesClaim eq6 (by omega)) rfl ?_
      show Ev xs N (d + 1) 238 147 [.ref a0, .int a1, .int a2, .int a3] [.int q6.1] q6.2 nx _
      by_cases c7 : 0 ≤ q6.1
      · rw [if_pos c7] at H
        refine ev_bt hc_X12_act (fe_X12_act (pc := 147) rfl) rfl c7 ?_
        refine ev_go hc_X12_act (k := 1) (pc' := 153) (L' := [.ref a0, .int a1, .int a2, .int a3]) (S' := [.ref a0]) rfl ?_
        obtain ⟨v8, ev8, H⟩ := Option.bind_eq_some_iff.mp H
        refine ev_4 hc_X12_act (fe_X12_act (pc := 153) rfl) (gR_gf ev8) ?_
        refine ev_go hc_X12_act (k := 2) (pc' := 158) (L' := [.ref a0, .int a1, .int a2, .int a3]) (S' := [.int a3, .int a2, .ref v8]) rfl ?_
        obtain ⟨h9, eh9, H⟩ := Option.bind_eq_some_iff.mp H
        refine ev_call (vs := [.ref v8, .int a2, .int a3]) (rest := []) (q := q_X12_belong) hc_X12_act (Or.inl rfl) (fe_X12_act (pc := 158) rfl) ms_221 rfl rfl (Nat.le_of_ble_eq_true rfl) rfl (E_X12_belong eh9 (by omega)) rfl ?_
        show Ev xs N (d + 1) 238 161 [.ref a0, .int a1, .int a2, .int a3] [] h9 nx _
        refine ev_go hc_X12_act (k := 1) (pc' := 162) (L' := [.ref a0, .int a1, .int a2, .int a3]) (S' := [.int 1]) rfl ?_
        obtain rfl := Option.some.inj H
        exact ev_8z hc_X12_act (fe_X12_act (pc := 162) rfl) rfl (Or.inr rfl)
      · rw [if_neg c7] at H
        refine ev_bf hc_X12_act (fe_X12_act (pc := 147) rfl) rfl c7 ?_
        refine ev_go hc_X12_act (k := 1) (pc' := 151) (L' := [.ref a0, .int a1, .int a2, .int a3]) (S' := [.int 0]) rfl ?_
        obtain rfl := Option.some.inj H
        exact ev_8z hc_X12_act (fe_X12_act (pc := 151) rfl) rfl (Or.inl rfl)
    rw [if_neg c5] at H
    by_cases c10 : a1 = 100
    · rw [if_pos c10] at H
      refine ev_3 hc_X12_act (fe_X12_act (pc := 1) rfl) (pc' := 187) (S' := []) (by rw [c10]; rfl) ?_
      refine ev_go hc_X12_act (k := 2) (pc' := 190) (L' := [.ref a0, .int a1, .int a2, .int a3]) (S' := [.int 60, .int a2]) rfl ?_
      by_cases c11 : a2 ≤ 60
      · rw [if_pos c11] at H
        refine ev_bt hc_X12_act (fe_X12_act (pc := 190) rfl) rfl c11 ?_
        refine ev_go hc_X12_act (k := 2) (pc' := 197) (L' := [.ref a0, .int a1, .int a2, .int a3]) (S' := [.ref a0, .ref a0]) rfl ?_
        obtain ⟨v12, ev12, H⟩ := Option.bind_eq_some_iff.mp H
        refine ev_4 hc_X12_act (fe_X12_act (pc := 197) rfl) (gR_gf ev12) ?_
        refine ev_go hc_X12_act (k := 1) (pc' := 201) (L' := [.ref a0, .int a1, .int a2, .int a3]) (S' := [.int a2, .ref v12, .ref a0]) rfl ?_
        obtain ⟨q13, eq13, H⟩ := Option.bind_eq_some_iff.mp H
        refine ev_call (vs := [.ref a0, .ref v12, .int a2]) (rest := []) (q := q_X12_goHours) hc_X12_act (Or.inr rfl) (fe_X12_act (pc := 201) rfl) ms_234 rfl rfl (Nat.le_of_ble_eq_true rfl) (kO_recv (K_X12_goHours eq13)) (E_X12_goHours eq13 (by omega)) rfl ?_
        show Ev xs N (d + 1) 238 204 [.ref a0, .int a1, .int a2, .int a3] [.int q13.1] q13.2 nx _
        refine ev_go hc_X12_act (k := 2) (pc' := 206) (L' := [.ref a0, .int a1, .int a2, .int a3]) (S' := [.int 1]) rfl ?_
        obtain rfl := Option.some.inj H
        exact ev_8z hc_X12_act (fe_X12_act (pc := 206) rfl) rfl (Or.inr rfl)
      · rw [if_neg c11] at H
        refine ev_bf hc_X12_act (fe_X12_act (pc := 190) rfl) rfl c11 ?_
        refine ev_go hc_X12_act (k := 1) (pc' := 194) (L' := [.ref a0, .int a1, .int a2, .int a3]) (S' := [.int 0]) rfl ?_
        obtain rfl := Option.some.inj H
        exact ev_8z hc_X12_act (fe_X12_act (pc := 194) rfl) rfl (Or.inl rfl)
    rw [if_neg c10] at H
    by_cases c14 : a1 = 101
    · rw [if_pos c14] at H
      refine ev_3 hc_X12_act (fe_X12_act (pc := 1) rfl) (pc' := 187) (S' := []) (by rw [c14]; rfl) ?_
      refine ev_go hc_X12_act (k := 2) (pc' := 190) (L' := [.ref a0, .int a1, .int a2, .int a3]) (S' := [.int 60, .int a2]) rfl ?_
      by_cases c15 : a2 ≤ 60
      · rw [if_pos c15] at H
        refine ev_bt hc_X12_act (fe_X12_act (pc := 190) rfl) rfl c15 ?_
        refine ev_go hc_X12_act (k := 2) (pc' := 197) (L' := [.ref a0, .int a1, .int a2, .int a3]) (S' := [.ref a0, .ref a0]) rfl ?_
        obtain ⟨v16, ev16, H⟩ := Option.bind_eq_some_iff.mp H
        refine ev_4 hc_X12_act (fe_X12_act (pc := 197) rfl) (gR_gf ev16) ?_
        refine ev_go hc_X12_act (k := 1) (pc' := 201) (L' := [.ref a0, .int a1, .int a2, .int a3]) (S' := [.int a2, .ref v16, .ref a0]) rfl ?_
        obtain ⟨q17, eq17, H⟩ := Option.bind_eq_some_iff.mp H
        refine ev_call (vs := [.ref a0, .ref v16, .int a2]) (rest := []) (q := q_X12_goHours) hc_X12_act (Or.inr rfl) (fe_X12_act (pc := 201) rfl) ms_234 rfl rfl (Nat.le_of_ble_eq_true rfl) (kO_recv (K_X12_goHours eq17)) (E_X12_goHours eq17 (by omega)) rfl ?_
        show Ev xs N (d + 1) 238 204 [.ref a0, .int a1, .int a2, .int a3] [.int q17.1] q17.2 nx _
        refine ev_go hc_X12_act (k := 2) (pc' := 206) (L' := [.ref a0, .int a1, .int a2, .int a3]) (S' := [.int 1]) rfl ?_
        obtain rfl := Option.some.inj H
        exact ev_8z hc_X12_act (fe_X12_act (pc := 206) rfl) rfl (Or.inr rfl)
      · rw [if_neg c15] at H
        refine ev_bf hc_X12_act (fe_X12_act (pc := 190) rfl) rfl c15 ?_
        refine ev_go hc_X12_act (k := 1) (pc' := 194) (L' := [.ref a0, .int a1, .int a2, .int a3]) (S' := [.int 0]) rfl ?_
        obtain rfl := Option.some.inj H
        exact ev_8z hc_X12_act (fe_X12_act (pc := 194) rfl) rfl (Or.inl rfl)
    rw [if_neg c14] at H
    by_cases c18 : a1 = 102
    · rw [if_pos c18] at H
      refine ev_3 hc_X12_act (fe_X12_act (pc := 1) rfl) (pc' := 187) (S' := []) (by rw [c18]; rfl) ?_
      refine ev_go hc_X12_act (k := 2) (pc' := 190) (L' := [.ref a0, .int a1, .int a2, .int a3]) (S' := [.int 60, .int a2]) rfl ?_
      by_cases c19 : a2 ≤ 60
      · rw [if_pos c19] at H
        refine ev_bt hc_X12_act (fe_X12_act (pc := 190) rfl) rfl c19 ?_
        refine ev_go hc_X12_act (k := 2) (pc' := 197) (L' := [.ref a0, .int a1, .int a2, .int a3]) (S' := [.ref a0, .ref a0]) rfl ?_
        obtain ⟨v20, ev20, H⟩ := Option.bind_eq_some_iff.mp H
        refine ev_4 hc_X12_act (fe_X12_act (pc := 197) rfl) (gR_gf ev20) ?_
        refine ev_go hc_X12_act (k := 1) (pc' := 201) (L' := [.ref a0, .int a1, .int a2, .int a3]) (S' := [.int a2, .ref v20, .ref a0]) rfl ?_
        obtain ⟨q21, eq21, H⟩ := Option.bind_eq_some_iff.mp H
        refine ev_call (vs := [.ref a0, .ref v20, .int a2]) (rest := []) (q := q_X12_goHours) hc_X12_act (Or.inr rfl) (fe_X12_act (pc := 201) rfl) ms_234 rfl rfl (Nat.le_of_ble_eq_true rfl) (kO_recv (K_X12_goHours eq21)) (E_X12_goHours eq21 (by omega)) rfl ?_
        show Ev xs N (d + 1) 238 204 [.ref a0, .int a1, .int a2, .int a3] [.int q21.1] q21.2 nx _
        refine ev_go hc_X12_act (k := 2) (pc' := 206) (L' := [.ref a0, .int a1, .int a2, .int a3]) (S' := [.int 1]) rfl ?_
        obtain rfl := Option.some.inj H
        exact ev_8z hc_X12_act (fe_X12_act (pc := 206) rfl) rfl (Or.inr rfl)
      · rw [if_neg c19] at H
        refine ev_bf hc_X12_act (fe_X12_act (pc := 190) rfl) rfl c19 ?_
        refine ev_go hc_X12_act (k := 1) (pc' := 194) (L' := [.ref a0, .int a1, .int a2, .int a3]) (S' := [.int 0]) rfl ?_
        obtain rfl := Option.some.inj H
        exact ev_8z hc_X12_act (fe_X12_act (pc := 194) rfl) rfl (Or.inl rfl)
    rw [if_neg c18] at H
    by_cases c22 : a1 = 103
    · rw [if_pos c22] at H
      refine ev_3 hc_X12_act (fe_X12_act (pc := 1) rfl) (pc' := 96) (S' := []) (by rw [c22]; rfl) ?_
      refine ev_go hc_X12_act (k := 3) (pc' := 99) (L' := [.ref a0, .int a1, .int a2, .int a3]) (S' := [.int a3, .int a2, .ref a0]) rfl ?_
      obtain ⟨q23, eq23, H⟩ := Option.bind_eq_some_iff.mp H
      refine ev_call (vs := [.ref a0, .int a2, .int a3]) (rest := []) (q := q_X12_refusesGive) hc_X12_act (Or.inr rfl) (fe_X12_act (pc := 99) rfl) ms_225 rfl rfl (Nat.le_of_ble_eq_true rfl) (kO_recv (K_X12_refusesGive eq23)) (E_X12_refusesGive eq23 (by omega)) rfl ?_
      show Ev xs N (d + 1) 238 102 [.ref a0, .int a1, .int a2, .int a3] [.int q23.1] q23.2 nx _
      by_cases c24 : 0 ≤ q23.1
      · rw [if_pos c24] at H
        refine ev_bt hc_X12_act (fe_X12_act (pc := 102) rfl) rfl c24 ?_
        refine ev_go hc_X12_act (k := 1) (pc' := 108) (L' := [.ref a0, .int a1, .int a2, .int a3]) (S' := [.ref a0]) rfl ?_
        obtain ⟨v25, ev25, H⟩ := Option.bind_eq_some_iff.mp H
        refine ev_4 hc_X12_act (fe_X12_act (pc := 108) rfl) (gR_gf ev25) ?_
        refine ev_go hc_X12_act (k := 2) (pc' := 113) (L' := [.ref a0, .int a1, .int a2, .int a3]) (S' := [.int a3, .int a2, .ref v25]) rfl ?_
        obtain ⟨h26, eh26, H⟩ := Option.bind_eq_some_iff.mp H
        refine ev_call (vs := [.ref v25, .int a2, .int a3]) (rest := []) (q := q_X12_belong) hc_X12_act (Or.inl rfl) (fe_X12_act (pc := 113) rfl) ms_221 rfl rfl (Nat.le_of_ble_eq_true rfl) rfl (E_X12_belong eh26 (by omega)) rfl ?_
        show Ev xs N (d + 1) 238 116 [.ref a0, .int a1, .int a2, .int a3] [] h26 nx _
        refine ev_go hc_X12_act (k := 1) (pc' := 117) (L' := [.ref a0, .int a1, .int a2, .int a3]) (S' := [.int 1]) rfl ?_
        obtain rfl := Option.some.inj H
        exact ev_8z hc_X12_act (fe_X12_act (pc := 117) rfl) rfl (Or.inr rfl)
      · rw [if_neg c24] at H
        refine ev_bf hc_X12_act (fe_X12_act (pc := 102) rfl) rfl c24 ?_
        refine ev_go hc_X12_act (k := 1) (pc' := 106) (L' := [.ref a0, .int a1, .int a2, .int a3]) (S' := [.int 0]) rfl ?_
        obtain rfl := Option.some.inj H
        exact ev_8z hc_X12_act (fe_X12_act (pc := 106) rfl) rfl (Or.inl rfl)
    rw [if_neg c22] at H
    by_cases c27 : a1 = 104
    · rw [if_pos c27] at H
      refine ev_3 hc_X12_act (fe_X12_act (pc := 1) rfl) (pc' := 187) (S' := []) (by rw [c27]; rfl) ?_
      refine ev_go hc_X12_act (k := 2) (pc' := 190) (L' := [.ref a0, .int a1, .int a2, .int a3]) (S' := [.int 60, .int a2]) rfl ?_
      by_cases c28 : a2 ≤ 60
      · rw [if_pos c28] at H
        refine ev_bt hc_X12_act (fe_X12_act (pc := 190) rfl) rfl c28 ?_
        refine ev_go hc_X12_act (k := 2) (pc' := 197) (L' := [.ref a0, .int a1, .int a2, .int a3]) (S' := [.ref a0, .ref a0]) rfl ?_
        obtain ⟨v29, ev29, H⟩ := Option.bind_eq_some_iff.mp H
        refine ev_4 hc_X12_act (fe_X12_act (pc := 197) rfl) (gR_gf ev29) ?_
        refine ev_go hc_X12_act (k := 1) (pc' := 201) (L' := [.ref a0, .int a1, .int a2, .int a3]) (S' := [.int a2, .ref v29, .ref a0]) rfl ?_
        obtain ⟨q30, eq30, H⟩ := Option.bind_eq_some_iff.mp H
        refine ev_call (vs := [.ref a0, .ref v29, .int a2]) (rest := []) (q := q_X12_goHours) hc_X12_act (Or.inr rfl) (fe_X12_act (pc := 201) rfl) ms_234 rfl rfl (Nat.le_of_ble_eq_true rfl) (kO_recv (K_X12_goHours eq30)) (E_X12_goHours eq30 (by omega)) rfl ?_
        show Ev xs N (d + 1) 238 204 [.ref a0, .int a1, .int a2, .int a3] [.int q30.1] q30.2 nx _
        refine ev_go hc_X12_act (k := 2) (pc' := 206) (L' := [.ref a0, .int a1, .int a2, .int a3]) (S' := [.int 1]) rfl ?_
        obtain rfl := Option.some.inj H
        exact ev_8z hc_X12_act (fe_X12_act (pc := 206) rfl) rfl (Or.inr rfl)
      · rw [if_neg c28] at H
        refine ev_bf hc_X12_act (fe_X12_act (pc := 190) rfl) rfl c28 ?_
        refine ev_go hc_X12_act (k := 1) (pc' := 194) (L' := [.ref a0, .int a1, .int a2, .int a3]) (S' := [.int 0]) rfl ?_
        obtain rfl := Option.some.inj H
        exact ev_8z hc_X12_act (fe_X12_act (pc := 194) rfl) rfl (Or.inl rfl)
    rw [if_neg c27] at H
    by_cases c31 : a1 = 105
    · rw [if_pos c31] at H
      refine ev_3 hc_X12_act (fe_X12_act (pc := 1) rfl) (pc' := 187) (S' := []) (by rw [c31]; rfl) ?_
      refine ev_go hc_X12_act (k := 2) (pc' := 190) (L' := [.ref a0, .int a1, .int a2, .int a3]) (S' := [.int 60, .int a2]) rfl ?_
      by_cases c32 : a2 ≤ 60
      · rw [if_pos c32] at H
        refine ev_bt hc_X12_act (fe_X12_act (pc := 190) rfl) rfl c32 ?_
        refine ev_go hc_X12_act (k := 2) (pc' := 197) (L' := [.ref a0, .int a1, .int a2, .int a3]) (S' := [.ref a0, .ref a0]) rfl ?_
        obtain ⟨v33, ev33, H⟩ := Option.bind_eq_some_iff.mp H
        refine ev_4 hc_X12_act (fe_X12_act (pc := 197) rfl) (gR_gf ev33) ?_
        refine ev_go hc_X12_act (k := 1) (pc' := 201) (L' := [.ref a0, .int a1, .int a2, .int a3]) (S' := [.int a2, .ref v33, .ref a0]) rfl ?_
        obtain ⟨q34, eq34, H⟩ := Option.bind_eq_some_iff.mp H
        refine ev_call (vs := [.ref a0, .ref v33, .int a2]) (rest := []) (q := q_X12_goHours) hc_X12_act (Or.inr rfl) (fe_X12_act (pc := 201) rfl) ms_234 rfl rfl (Nat.le_of_ble_eq_true rfl) (kO_recv (K_X12_goHours eq34)) (E_X12_goHours eq34 (by omega)) rfl ?_
        show Ev xs N (d + 1) 238 204 [.ref a0, .int a1, .int a2, .int a3] [.int q34.1] q34.2 nx _
        refine ev_go hc_X12_act (k := 2) (pc' := 206) (L' := [.ref a0, .int a1, .int a2, .int a3]) (S' := [.int 1]) rfl ?_
        obtain rfl := Option.some.inj H
        exact ev_8z hc_X12_act (fe_X12_act (pc := 206) rfl) rfl (Or.inr rfl)
      · rw [if_neg c32] at H
        refine ev_bf hc_X12_act (fe_X12_act (pc := 190) rfl) rfl c32 ?_
        refine ev_go hc_X12_act (k := 1) (pc' := 194) (L' := [.ref a0, .int a1, .int a2, .int a3]) (S' := [.int 0]) rfl ?_
        obtain rfl := Option.some.inj H
        exact ev_8z hc_X12_act (fe_X12_act (pc := 194) rfl) rfl (Or.inl rfl)
    rw [if_neg c31] at H
    by_cases c35 : a1 = 106
    · rw [if_pos c35] at H
      refine ev_3 hc_X12_act (fe_X12_act (pc := 1) rfl) (pc' := 187) (S' := []) (by rw [c35]; rfl) ?_
      refine ev_go hc_X12_act (k := 2) (pc' := 190) (L' := [.ref a0, .int a1, .int a2, .int a3]) (S' := [.int 60, .int a2]) rfl ?_
      by_cases c36 : a2 ≤ 60
      · rw [if_pos c36] at H
        refine ev_bt hc_X12_act (fe_X12_act (pc := 190) rfl) rfl c36 ?_
        refine ev_go hc_X12_act (k := 2) (pc' := 197) (L' := [.ref a0, .int a1, .int a2, .int a3]) (S' := [.ref a0, .ref a0]) rfl ?_
        obtain ⟨v37, ev37, H⟩ := Option.bind_eq_some_iff.mp H
        refine ev_4 hc_X12_act (fe_X12_act (pc := 197) rfl) (gR_gf ev37) ?_
        refine ev_go hc_X12_act (k := 1) (pc' := 201) (L' := [.ref a0, .int a1, .int a2, .int a3]) (S' := [.int a2, .ref v37, .ref a0]) rfl ?_
        obtain ⟨q38, eq38, H⟩ := Option.bind_eq_some_iff.mp H
        refine ev_call (vs := [.ref a0, .ref v37, .int a2]) (rest := []) (q := q_X12_goHours) hc_X12_act (Or.inr rfl) (fe_X12_act (pc := 201) rfl) ms_234 rfl rfl (Nat.le_of_ble_eq_true rfl) (kO_recv (K_X12_goHours eq38)) (E_X12_goHours eq38 (by omega)) rfl ?_
        show Ev xs N (d + 1) 238 204 [.ref a0, .int a1, .int a2, .int a3] [.int q38.1] q38.2 nx _
        refine ev_go hc_X12_act (k := 2) (pc' := 206) (L' := [.ref a0, .int a1, .int a2, .int a3]) (S' := [.int 1]) rfl ?_
        obtain rfl := Option.some.inj H
        exact ev_8z hc_X12_act (fe_X12_act (pc := 206) rfl) rfl (Or.inr rfl)
      · rw [if_neg c36] at H
        refine ev_bf hc_X12_act (fe_X12_act (pc := 190) rfl) rfl c36 ?_
        refine ev_go hc_X12_act (k := 1) (pc' := 194) (L' := [.ref a0, .int a1, .int a2, .int a3]) (S' := [.int 0]) rfl ?_
        obtain rfl := Option.some.inj H
        exact ev_8z hc_X12_act (fe_X12_act (pc := 194) rfl) rfl (Or.inl rfl)
    rw [if_neg c35] at H
    by_cases c39 : a1 = 107
    · rw [if_pos c39] at H
      refine ev_3 hc_X12_act (fe_X12_act (pc := 1) rfl) (pc' := 187) (S' := []) (by rw [c39]; rfl) ?_
      refine ev_go hc_X12_act (k := 2) (pc' := 190) (L' := [.ref a0, .int a1, .int a2, .int a3]) (S' := [.int 60, .int a2]) rfl ?_
      by_cases c40 : a2 ≤ 60
      · rw [if_pos c40] at H
        refine ev_bt hc_X12_act (fe_X12_act (pc := 190) rfl) rfl c40 ?_
        refine ev_go hc_X12_act (k := 2) (pc' := 197) (L' := [.ref a0, .int a1, .int a2, .int a3]) (S' := [.ref a0, .ref a0]) rfl ?_
        obtain ⟨v41, ev41, H⟩ := Option.bind_eq_some_iff.mp H
        refine ev_4 hc_X12_act (fe_X12_act (pc := 197) rfl) (gR_gf ev41) ?_
        refine ev_go hc_X12_act (k := 1) (pc' := 201) (L' := [.ref a0, .int a1, .int a2, .int a3]) (S' := [.int a2, .ref v41, .ref a0]) rfl ?_
        obtain ⟨q42, eq42, H⟩ := Option.bind_eq_some_iff.mp H
        refine ev_call (vs := [.ref a0, .ref v41, .int a2]) (rest := []) (q := q_X12_goHours) hc_X12_act (Or.inr rfl) (fe_X12_act (pc := 201) rfl) ms_234 rfl rfl (Nat.le_of_ble_eq_true rfl) (kO_recv (K_X12_goHours eq42)) (E_X12_goHours eq42 (by omega)) rfl ?_
        show Ev xs N (d + 1) 238 204 [.ref a0, .int a1, .int a2, .int a3] [.int q42.1] q42.2 nx _
        refine ev_go hc_X12_act (k := 2) (pc' := 206) (L' := [.ref a0, .int a1, .int a2, .int a3]) (S' := [.int 1]) rfl ?_
        obtain rfl := Option.some.inj H
        exact ev_8z hc_X12_act (fe_X12_act (pc := 206) rfl) rfl (Or.inr rfl)
      · rw [if_neg c40] at H
        refine ev_bf hc_X12_act (fe_X12_act (pc := 190) rfl) rfl c40 ?_
        refine ev_go hc_X12_act (k := 1) (pc' := 194) (L' := [.ref a0, .int a1, .int a2, .int a3]) (S' := [.int 0]) rfl ?_
        obtain rfl := Option.some.inj H
        exact ev_8z hc_X12_act (fe_X12_act (pc := 194) rfl) rfl (Or.inl rfl)
    rw [if_neg c39] at H
    by_cases c43 : a1 = 108
    · rw [if_pos c43] at H
      refine ev_3 hc_X12_act (fe_X12_act (pc := 1) rfl) (pc' := 118) (S' := []) (by rw [c43]; rfl) ?_
      refine ev_go hc_X12_act (k := 3) (pc' := 121) (L' := [.ref a0, .int a1, .int a2, .int a3]) (S' := [.int a3, .int a2, .ref a0]) rfl ?_
      obtain ⟨q44, eq44, H⟩ := Option.bind_eq_some_iff.mp H
      refine ev_call (vs := [.ref a0, .int a2, .int a3]) (rest := []) (q := q_X12_refusesLend) hc_X12_act (Or.inr rfl) (fe_X12_act (pc := 121) rfl) ms_227 rfl rfl (Nat.le_of_ble_eq_true rfl) (kO_recv (K_X12_refusesLend eq44)) (E_X12_refusesLend eq44 (by omega)) rfl ?_
      show Ev xs N (d + 1) 238 124 [.ref a0, .int a1, .int a2, .int a3] [.int q44.1] q44.2 nx _
      by_cases c45 : 0 ≤ q44.1
      · rw [if_pos c45] at H
        refine ev_bt hc_X12_act (fe_X12_act (pc := 124) rfl) rfl c45 ?_
        refine ev_go hc_X12_act (k := 1) (pc' := 130) (L' := [.ref a0, .int a1, .int a2, .int a3]) (S' := [.ref a0]) rfl ?_
        obtain ⟨v46, ev46, H⟩ := Option.bind_eq_some_iff.mp H
        refine ev_4 hc_X12_act (fe_X12_act (pc := 130) rfl) (gR_gf ev46) ?_
        refine ev_go hc_X12_act (k := 4) (pc' := 138) (L' := [.ref a0, .int a1, .int a2, .int a3]) (S' := [.int a3, .int (24 + a2), .ref v46]) rfl ?_
        obtain ⟨h47, eh47, H⟩ := Option.bind_eq_some_iff.mp H
        refine ev_5 hc_X12_act (fe_X12_act (pc := 138) rfl) (wI_as eh47) ?_
        refine ev_go hc_X12_act (k := 1) (pc' := 140) (L' := [.ref a0, .int a1, .int a2, .int a3]) (S' := [.int 1]) rfl ?_
        obtain rfl := Option.some.inj H
        exact ev_8z hc_X12_act (fe_X12_act (pc := 140) rfl) rfl (Or.inr rfl)
      · rw [if_neg c45] at H
        refine ev_bf hc_X12_act (fe_X12_act (pc := 124) rfl) rfl c45 ?_
        refine ev_go hc_X12_act (k := 1) (pc' := 128) (L' := [.ref a0, .int a1, .int a2, .int a3]) (S' := [.int 0]) rfl ?_
        obtain rfl := Option.some.inj H
        exact ev_8z hc_X12_act (fe_X12_act (pc := 128) rfl) rfl (Or.inl rfl)
    rw [if_neg c43] at H
    by_cases c48 : a1 = 109
    · rw [if_pos c48] at H
      refine ev_3 hc_X12_act (fe_X12_act (pc := 1) rfl) (pc' := 187) (S' := []) (by rw [c48]; rfl) ?_
      refine ev_go hc_X12_act (k := 2) (pc' := 190) (L' := [.ref a0, .int a1, .int a2, .int a3]) (S' := [.int 60, .int a2]) rfl ?_
      by_cases c49 : a2 ≤ 60
      · rw [if_pos c49] at H
        refine ev_bt hc_X12_act (fe_X12_act (pc := 190) rfl) rfl c49 ?_
        refine ev_go hc_X12_act (k := 2) (pc' := 197) (L' := [.ref a0, .int a1, .int a2, .int a3]) (S' := [.ref a0, .ref a0]) rfl ?_
        obtain ⟨v50, ev50, H⟩ := Option.bind_eq_some_iff.mp H
        refine ev_4 hc_X12_act (fe_X12_act (pc := 197) rfl) (gR_gf ev50) ?_
        refine ev_go hc_X12_act (k := 1) (pc' := 201) (L' := [.ref a0, .int a1, .int a2, .int a3]) (S' := [.int a2, .ref v50, .ref a0]) rfl ?_
        obtain ⟨q51, eq51, H⟩ := Option.bind_eq_some_iff.mp H
        refine ev_call (vs := [.ref a0, .ref v50, .int a2]) (rest := []) (q := q_X12_goHours) hc_X12_act (Or.inr rfl) (fe_X12_act (pc := 201) rfl) ms_234 rfl rfl (Nat.le_of_ble_eq_true rfl) (kO_recv (K_X12_goHours eq51)) (E_X12_goHours eq51 (by omega)) rfl ?_
        show Ev xs N (d + 1) 238 204 [.ref a0, .int a1, .int a2, .int a3] [.int q51.1] q51.2 nx _
        refine ev_go hc_X12_act (k := 2) (pc' := 206) (L' := [.ref a0, .int a1, .int a2, .int a3]) (S' := [.int 1]) rfl ?_
        obtain rfl := Option.some.inj H
        exact ev_8z hc_X12_act (fe_X12_act (pc := 206) rfl) rfl (Or.inr rfl)
      · rw [if_neg c49] at H
        refine ev_bf hc_X12_act (fe_X12_act (pc := 190) rfl) rfl c49 ?_
        refine ev_go hc_X12_act (k := 1) (pc' := 194) (L' := [.ref a0, .int a1, .int a2, .int a3]) (S' := [.int 0]) rfl ?_
        obtain rfl := Option.some.inj H
        exact ev_8z hc_X12_act (fe_X12_act (pc := 194) rfl) rfl (Or.inl rfl)
    rw [if_neg c48] at H
    by_cases c52 : a1 = 110
    · rw [if_pos c52] at H
      refine ev_3 hc_X12_act (fe_X12_act (pc := 1) rfl) (pc' := 187) (S' := []) (by rw [c52]; rfl) ?_
      refine ev_go hc_X12_act (k := 2) (pc' := 190) (L' := [.ref a0, .int a1, .int a2, .int a3]) (S' := [.int 60, .int a2]) rfl ?_
      by_cases c53 : a2 ≤ 60
      · rw [if_pos c53] at H
        refine ev_bt hc_X12_act (fe_X12_act (pc := 190) rfl) rfl c53 ?_
        refine ev_go hc_X12_act (k := 2) (pc' := 197) (L' := [.ref a0, .int a1, .int a2, .int a3]) (S' := [.ref a0, .ref a0]) rfl ?_
        obtain ⟨v54, ev54, H⟩ := Option.bind_eq_some_iff.mp H
        refine ev_4 hc_X12_act (fe_X12_act (pc := 197) rfl) (gR_gf ev54) ?_
        refine ev_go hc_X12_act (k := 1) (pc' := 201) (L' := [.ref a0, .int a1, .int a2, .int a3]) (S' := [.int a2, .ref v54, .ref a0]) rfl ?_
        obtain ⟨q55, eq55, H⟩ := Option.bind_eq_some_iff.mp H
        refine ev_call (vs := [.ref a0, .ref v54, .int a2]) (rest := []) (q := q_X12_goHours) hc_X12_act (Or.inr rfl) (fe_X12_act (pc := 201) rfl) ms_234 rfl rfl (Nat.le_of_ble_eq_true rfl) (kO_recv (K_X12_goHours eq55)) (E_X12_goHours eq55 (by omega)) rfl ?_
        show Ev xs N (d + 1) 238 204 [.ref a0, .int a1, .int a2, .int a3] [.int q55.1] q55.2 nx _
        refine ev_go hc_X12_act (k := 2) (pc' := 206) (L' := [.ref a0, .int a1, .int a2, .int a3]) (S' := [.int 1]) rfl ?_
        obtain rfl := Option.some.inj H
        exact ev_8z hc_X12_act (fe_X12_act (pc := 206) rfl) rfl (Or.inr rfl)
      · rw [if_neg c53] at H
        refine ev_bf hc_X12_act (fe_X12_act (pc := 190) rfl) rfl c53 ?_
        refine ev_go hc_X12_act (k := 1) (pc' := 194) (L' := [.ref a0, .int a1, .int a2, .int a3]) (S' := [.int 0]) rfl ?_
        obtain rfl := Option.some.inj H
        exact ev_8z hc_X12_act (fe_X12_act (pc := 194) rfl) rfl (Or.inl rfl)
    rw [if_neg c52] at H
    by_cases c56 : a1 = 111
    · rw [if_pos c56] at H
      refine ev_3 hc_X12_act (fe_X12_act (pc := 1) rfl) (pc' := 187) (S' := []) (by rw [c56]; rfl) ?_
      refine ev_go hc_X12_act (k := 2) (pc' := 190) (L' := [.ref a0, .int a1, .int a2, .int a3]) (S' := [.int 60, .int a2]) rfl ?_
      by_cases c57 : a2 ≤ 60
      · rw [if_pos c57] at H
        refine ev_bt hc_X12_act (fe_X12_act (pc := 190) rfl) rfl c57 ?_
        refine ev_go hc_X12_act (k := 2) (pc' := 197) (L' := [.ref a0, .int a1, .int a2, .int a3]) (S' := [.ref a0, .ref a0]) rfl ?_
        obtain ⟨v58, ev58, H⟩ := Option.bind_eq_some_iff.mp H
        refine ev_4 hc_X12_act (fe_X12_act (pc := 197) rfl) (gR_gf ev58) ?_
        refine ev_go hc_X12_act (k := 1) (pc' := 201) (L' := [.ref a0, .int a1, .int a2, .int a3]) (S' := [.int a2, .ref v58, .ref a0]) rfl ?_
        obtain ⟨q59, eq59, H⟩ := Option.bind_eq_some_iff.mp H
        refine ev_call (vs := [.ref a0, .ref v58, .int a2]) (rest := []) (q := q_X12_goHours) hc_X12_act (Or.inr rfl) (fe_X12_act (pc := 201) rfl) ms_234 rfl rfl (Nat.le_of_ble_eq_true rfl) (kO_recv (K_X12_goHours eq59)) (E_X12_goHours eq59 (by omega)) rfl ?_
        show Ev xs N (d + 1) 238 204 [.ref a0, .int a1, .int a2, .int a3] [.int q59.1] q59.2 nx _
        refine ev_go hc_X12_act (k := 2) (pc' := 206) (L' := [.ref a0, .int a1, .int a2, .int a3]) (S' := [.int 1]) rfl ?_
        obtain rfl := Option.some.inj H
        exact ev_8z hc_X12_act (fe_X12_act (pc := 206) rfl) rfl (Or.inr rfl)
      · rw [if_neg c57] at H
        refine ev_bf hc_X12_act (fe_X12_act (pc := 190) rfl) rfl c57 ?_
        refine ev_go hc_X12_act (k := 1) (pc' := 194) (L' := [.ref a0, .int a1, .int a2, .int a3]) (S' := [.int 0]) rfl ?_
        obtain rfl := Option.some.inj H
        exact ev_8z hc_X12_act (fe_X12_act (pc := 194) rfl) rfl (Or.inl rfl)
    rw [if_neg c56] at H
    by_cases c60 : a1 = 112
    · rw [if_pos c60] at H
      refine ev_3 hc_X12_act (fe_X12_act (pc := 1) rfl) (pc' := 163) (S' := []) (by rw [c60]; rfl) ?_
      refine ev_go hc_X12_act (k := 2) (pc' := 165) (L' := [.ref a0, .int a1, .int a2, .int a3]) (S' := [.int a2, .ref a0]) rfl ?_
      obtain ⟨q61, eq61, H⟩ := Option.bind_eq_some_iff.mp H
      refine ev_call (vs := [.ref a0, .int a2]) (rest := []) (q := q_X12_isThing) hc_X12_act (Or.inr rfl) (fe_X12_act (pc := 165) rfl) ms_174 rfl rfl (Nat.le_of_ble_eq_true rfl) (kO_recv (K_X12_isThing eq61)) (E_X12_isThing eq61 (by omega)) rfl ?_
      show Ev xs N (d + 1) 238 168 [.ref a0, .int a1, .int a2, .int a3] [.int q61.1] q61.2 nx _
      by_cases c62 : q61.1 = 0
      · rw [if_pos c62] at H
        refine ev_bt hc_X12_act (fe_X12_act (pc := 168) rfl) rfl c62 ?_
        refine ev_go hc_X12_act (k := 1) (pc' := 172) (L' := [.ref a0, .int a1, .int a2, .int a3]) (S' := [.int 0]) rfl ?_
        obtain rfl := Option.some.inj H
        exact ev_8z hc_X12_act (fe_X12_act (pc := 172) rfl) rfl (Or.inl rfl)
      · rw [if_neg c62] at H
        refine ev_bf hc_X12_act (fe_X12_act (pc := 168) rfl) rfl c62 ?_
        refine ev_go hc_X12_act (k := 1) (pc' := 174) (L' := [.ref a0, .int a1, .int a2, .int a3]) (S' := [.ref a0]) rfl ?_
        obtain ⟨v63, ev63, H⟩ := Option.bind_eq_some_iff.mp H
        refine ev_4 hc_X12_act (fe_X12_act (pc := 174) rfl) (gR_gf ev63) ?_
        refine ev_go hc_X12_act (k := 2) (pc' := 179) (L' := [.ref a0, .int a1, .int a2, .int a3]) (S' := [.int a2, .ref v63, .int a2, .ref v63]) rfl ?_
        obtain ⟨v64, ev64, H⟩ := Option.bind_eq_some_iff.mp H
        refine ev_4 hc_X12_act (fe_X12_act (pc := 179) rfl) (rI_al ev64) ?_
        refine ev_go hc_X12_act (k := 4) (pc' := 184) (L' := [.ref a0, .int a1, .int a2, .int a3]) (S' := [.int (v64 ^^^ ((1 : Int32) <<< (a3 &&& 31))), .int a2, .ref v63]) rfl ?_
        obtain ⟨h65, eh65, H⟩ := Option.bind_eq_some_iff.mp H
        refine ev_5 hc_X12_act (fe_X12_act (pc := 184) rfl) (wI_as eh65) ?_
        refine ev_go hc_X12_act (k := 1) (pc' := 186) (L' := [.ref a0, .int a1, .int a2, .int a3]) (S' := [.int 1]) rfl ?_
        obtain rfl := Option.some.inj H
        exact ev_8z hc_X12_act (fe_X12_act (pc := 186) rfl) rfl (Or.inr rfl)
    rw [if_neg c60] at H
    refine ev_3 hc_X12_act (fe_X12_act (pc := 1) rfl) (pc' := 187) (S' := []) (sw_out (by have := And.intro True.intro True.intro; have := lv_neT c1 (a := 98) (by decide); have := lv_neT c5 (a := 99) (by decide); have := lv_neT c10 (a := 100) (by decide); have := lv_neT c14 (a := 101) (by decide); have := lv_neT c18 (a := 102) (by decide); have := lv_neT c22 (a := 103) (by decide); have := lv_neT c27 (a := 104) (by decide); have := lv_neT c31 (a := 105) (by decide); have := lv_neT c35 (a := 106) (by decide); have := lv_neT c39 (a := 107) (by decide); have := lv_neT c43 (a := 108) (by decide); have := lv_neT c48 (a := 109) (by decide); have := lv_neT c52 (a := 110) (by decide); have := lv_neT c56 (a := 111) (by decide); have := lv_neT c60 (a := 112) (by decide); omega)) ?_
    refine ev_go hc_X12_act (k := 2) (pc' := 190) (L' := [.ref a0, .int a1, .int a2, .int a3]) (S' := [.int 60, .int a2]) rfl ?_
    by_cases c66 : a2 ≤ 60
    · rw [if_pos c66] at H
      refine ev_bt hc_X12_act (fe_X12_act (pc := 190) rfl) rfl c66 ?_
      refine ev_go hc_X12_act (k := 2) (pc' := 197) (L' := [.ref a0, .int a1, .int a2, .int a3]) (S' := [.ref a0, .ref a0]) rfl ?_
      obtain ⟨v67, ev67, H⟩ := Option.bind_eq_some_iff.mp H
      refine ev_4 hc_X12_act (fe_X12_act (pc := 197) rfl) (gR_gf ev67) ?_
      refine ev_go hc_X12_act (k := 1) (pc' := 201) (L' := [.ref a0, .int a1, .int a2, .int a3]) (S' := [.int a2, .ref v67, .ref a0]) rfl ?_
      obtain ⟨q68, eq68, H⟩ := Option.bind_eq_some_iff.mp H
      refine ev_call (vs := [.ref a0, .ref v67, .int a2]) (rest := []) (q := q_X12_goHours) hc_X12_act (Or.inr rfl) (fe_X12_act (pc := 201) rfl) ms_234 rfl rfl (Nat.le_of_ble_eq_true rfl) (kO_recv (K_X12_goHours eq68)) (E_X12_goHours eq68 (by omega)) rfl ?_
      show Ev xs N (d + 1) 238 204 [.ref a0, .int a1, .int a2, .int a3] [.int q68.1] q68.2 nx _
      refine ev_go hc_X12_act (k := 2) (pc' := 206) (L' := [.ref a0, .int a1, .int a2, .int a3]) (S' := [.int 1]) rfl ?_
      obtain rfl := Option.some.inj H
      exact ev_8z hc_X12_act (fe_X12_act (pc := 206) rfl) rfl (Or.inr rfl)
    · rw [if_neg c66] at H
      refine ev_bf hc_X12_act (fe_X12_act (pc := 190) rfl) rfl c66 ?_
      refine ev_go hc_X12_act (k := 1) (pc' := 194) (L' := [.ref a0, .int a1, .int a2, .int a3]) (S' := [.int 0]) rfl ?_
      obtain rfl := Option.some.inj H
      exact ev_8z hc_X12_act (fe_X12_act (pc := 194) rfl) rfl (Or.inl rfl)
  · rw [if_neg ck] at H; cases H
theorem hc_X12_day : ci_code (ci_Ms 236) = k_X12_day := rfl
theorem fe_X12_day {pc : Nat} {w : Option ci_I} (h : (k_X12_day)[pc]? = some w) : (k_X12_day)[pc]? = some w := h
def b_X12_day_159 (l0 : Nat) (l3 : Int32) (s0 : Nat) (s1 : Int64)  (h : ci_H) : Option (Int32 × ci_H) := (F_X12_tell s0 s1 h).bind fun h1 => (gR h1 l0 12 0).bind fun v2 => (F_X12_brokenHouses l0 v2 h1).bind fun q3 => (F_J6_bitCount_0f7a4 q3.1 q3.2).bind fun q4 => (F_X12_tell l0 ((q4.1 : Int32).toInt64) q4.2).bind fun h5 => some (l3, h5)
set_option maxHeartbeats 4000000 in
set_option maxRecDepth 20000 in
theorem eb_X12_day_159 {xs : Nat → Int32} {N d : Nat} {nx : ci_N} {l0 : Nat} {l3 : Int32} {s0 : Nat} {s1 : Int64} (hd : 107 ≤ d) {h : ci_H} {r : Int32 × ci_H} (H : b_X12_day_159 l0 l3 s0 s1 h = some r) : Ev xs N (d + 1) 236 159 [.ref l0, ci_junk, ci_junk, .int l3] [.long s1, .ref s0] h nx (oI r nx) := by
  unfold b_X12_day_159 at H
  obtain ⟨h1, eh1, H⟩ := Option.bind_eq_some_iff.mp H
  refine ev_call (vs := [.ref s0, .long s1]) (rest := []) (q := q_X12_tell) hc_X12_day (Or.inr rfl) (fe_X12_day (pc := 159) rfl) ms_173 rfl rfl (Nat.le_of_ble_eq_true rfl) (kO_recv (K_X12_tell eh1)) (E_X12_tell eh1 (by omega)) rfl ?_
  show Ev xs N (d + 1) 236 162 [.ref l0, ci_junk, ci_junk, .int l3] [] h1 nx _
  refine ev_go hc_X12_day (k := 3) (pc' := 165) (L' := [.ref l0, ci_junk, ci_junk, .int l3]) (S' := [.ref l0, .ref l0, .ref l0]) rfl ?_
  obtain ⟨v2, ev2, H⟩ := Option.bind_eq_some_iff.mp H
  refine ev_4 hc_X12_day (fe_X12_day (pc := 165) rfl) (gR_gf ev2) ?_
  obtain ⟨q3, eq3, H⟩ := Option.bind_eq_some_iff.mp H
  refine ev_call (vs := [.ref l0, .ref v2]) (rest := [.ref l0]) (q := q_X12_brokenHouses) hc_X12_day (Or.inr rfl) (fe_X12_day (pc := 168) rfl) ms_207 rfl rfl (Nat.le_of_ble_eq_true rfl) (kO_recv (K_X12_brokenHouses eq3)) (E_X12_brokenHouses eq3 (by omega)) rfl ?_
  show Ev xs N (d + 1) 236 171 [.ref l0, ci_junk, ci_junk, .int l3] [.int q3.1, .ref l0] q3.2 nx _
  obtain ⟨q4, eq4, H⟩ := Option.bind_eq_some_iff.mp H
  refine ev_call (vs := [.int q3.1]) (rest := [.ref l0]) (q := q_J6_bitCount_0f7a4) hc_X12_day (Or.inl rfl) (fe_X12_day (pc := 171) rfl) ms_285 rfl rfl (Nat.le_of_ble_eq_true rfl) rfl (E_J6_bitCount_0f7a4 eq4 (by omega)) rfl ?_
  show Ev xs N (d + 1) 236 174 [.ref l0, ci_junk, ci_junk, .int l3] [.int q4.1, .ref l0] q4.2 nx _
  refine ev_go hc_X12_day (k := 1) (pc' := 175) (L' := [.ref l0, ci_junk, ci_junk, .int l3]) (S' := [.long ((q4.1 : Int32).toInt64), .ref l0]) rfl ?_
  obtain ⟨h5, eh5, H⟩ := Option.bind_eq_some_iff.mp H
  refine ev_call (vs := [.ref l0, .long ((q4.1 : Int32).toInt64)]) (rest := []) (q := q_X12_tell) hc_X12_day (Or.inr rfl) (fe_X12_day (pc := 175) rfl) ms_173 rfl rfl (Nat.le_of_ble_eq_true rfl) (kO_recv (K_X12_tell eh5)) (E_X12_tell eh5 (by omega)) rfl ?_
  show Ev xs N (d + 1) 236 178 [.ref l0, ci_junk, ci_junk, .int l3] [] h5 nx _
  refine ev_go hc_X12_day (k := 1) (pc' := 179) (L' := [.ref l0, ci_junk, ci_junk, .int l3]) (S' := [.int l3]) rfl ?_
  obtain rfl := Option.some.inj H
  exact ev_8 hc_X12_day (fe_X12_day (pc := 179) rfl) rfl
def b_X12_day_143 (l0 : Nat) (l1 : Int32) (l3 : Int32)  (h : ci_H) : Option (Int32 × ci_H) := (pF h l0 12 10 (.int 0)).bind fun h1 => if l1 ≤ l3 then (b_X12_day_159 l0 l3 l0 (Int64.ofNat 0) h1) else (b_X12_day_159 l0 l3 l0 (Int64.ofNat 1) h1)
set_option maxHeartbeats 4000000 in
set_option maxRecDepth 20000 in
theorem eb_X12_day_143 {xs : Nat → Int32} {N d : Nat} {nx : ci_N} {l0 : Nat} {l1 : Int32} {l3 : Int32} (hd : 107 ≤ d) {h : ci_H} {r : Int32 × ci_H} (H : b_X12_day_143 l0 l1 l3 h = some r) : Ev xs N (d + 1) 236 143 [.ref l0, .int l1, ci_junk, .int l3] [] h nx (oI r nx) := by
  unfold b_X12_day_143 at H
  refine ev_go hc_X12_day (k := 2) (pc' := 145) (L' := [.ref l0, .int l1, ci_junk, .int l3]) (S' := [.int 0, .ref l0]) rfl ?_
  obtain ⟨h1, eh1, H⟩ := Option.bind_eq_some_iff.mp H
  refine ev_5 hc_X12_day (fe_X12_day (pc := 145) rfl) (pF_pf eh1) ?_
  refine ev_go hc_X12_day (k := 3) (pc' := 151) (L' := [.ref l0, .int l1, ci_junk, .int l3]) (S' := [.int l1, .int l3, .ref l0]) rfl ?_
  by_cases c2 : l1 ≤ l3
  · rw [if_pos c2] at H
    refine ev_bt hc_X12_day (fe_X12_day (pc := 151) rfl) rfl c2 ?_
    refine ev_go hc_X12_day (k := 1) (pc' := 159) (L' := [.ref l0, .int l1, ci_junk, .int l3]) (S' := [.long (Int64.ofNat 0), .ref l0]) rfl ?_
    exact Ev.weak (ci_le_c (Or.inr rfl) (ci_le_c (Or.inl rfl) (ci_le_c (Or.inl rfl) (ci_le_c (Or.inr rfl) (ci_le_n))))) (eb_X12_day_159 hd H)
  · rw [if_neg c2] at H
    refine ev_bf hc_X12_day (fe_X12_day (pc := 151) rfl) rfl c2 ?_
    refine ev_go hc_X12_day (k := 2) (pc' := 159) (L' := [.ref l0, .int l1, ci_junk, .int l3]) (S' := [.long (Int64.ofNat 1), .ref l0]) rfl ?_
    exact Ev.weak (ci_le_c (Or.inr rfl) (ci_le_c (Or.inl rfl) (ci_le_c (Or.inl rfl) (ci_le_c (Or.inr rfl) (ci_le_n))))) (eb_X12_day_159 hd H)
def b_X12_day_131 (l0 : Nat) (l1 : Int32) (l3 : Int32)  (h : ci_H) : Option (Int32 × ci_H) := if l3 ≤ 0 then (b_X12_day_143 l0 l1 l3 h) else ((gR h l0 12 24).bind fun v2 => (F_X12_remember l0 v2 h).bind fun h3 => b_X12_day_143 l0 l1 l3 h3)
set_option maxHeartbeats 4000000 in
set_option maxRecDepth 20000 in
theorem eb_X12_day_131 {xs : Nat → Int32} {N d : Nat} {nx : ci_N} {l0 : Nat} {l1 : Int32} {l3 : Int32} (hd : 107 ≤ d) {h : ci_H} {r : Int32 × ci_H} (H : b_X12_day_131 l0 l1 l3 h = some r) : Ev xs N (d + 1) 236 131 [.ref l0, .int l1, ci_junk, .int l3] [] h nx (oI r nx) := by
  unfold b_X12_day_131 at H
  refine ev_go hc_X12_day (k := 1) (pc' := 132) (L' := [.ref l0, .int l1, ci_junk, .int l3]) (S' := [.int l3]) rfl ?_
  by_cases c1 : l3 ≤ 0
  · rw [if_pos c1] at H
    refine ev_bt hc_X12_day (fe_X12_day (pc := 132) rfl) rfl c1 ?_
    exact Ev.weak (ci_le_c (Or.inr rfl) (ci_le_c (Or.inr rfl) (ci_le_c (Or.inl rfl) (ci_le_c (Or.inr rfl) (ci_le_n))))) (eb_X12_day_143 hd H)
  · rw [if_neg c1] at H
    refine ev_bf hc_X12_day (fe_X12_day (pc := 132) rfl) rfl c1 ?_
    refine ev_go hc_X12_day (k := 2) (pc' := 137) (L' := [.ref l0, .int l1, ci_junk, .int l3]) (S' := [.ref l0, .ref l0]) rfl ?_
    obtain ⟨v2, ev2, H⟩ := Option.bind_eq_some_iff.mp H
    refine ev_4 hc_X12_day (fe_X12_day (pc := 137) rfl) (gR_gf ev2) ?_
    obtain ⟨h3, eh3, H⟩ := Option.bind_eq_some_iff.mp H
    refine ev_call (vs := [.ref l0, .ref v2]) (rest := []) (q := q_X12_remember) hc_X12_day (Or.inr rfl) (fe_X12_day (pc := 140) rfl) ms_217 rfl rfl (Nat.le_of_ble_eq_true rfl) (kO_recv (K_X12_remember eh3)) (E_X12_remember eh3 (by omega)) rfl ?_
    show Ev xs N (d + 1) 236 143 [.ref l0, .int l1, ci_junk, .int l3] [] h3 nx _
    exact Ev.weak (ci_le_c (Or.inr rfl) (ci_le_c (Or.inr rfl) (ci_le_c (Or.inl rfl) (ci_le_c (Or.inr rfl) (ci_le_n))))) (eb_X12_day_143 hd H)
def b_X12_day_85 (l0 : Nat) (l1 : Int32) : Nat → Int32 → ci_H → Option (Int32 × ci_H)
  | 0, _, _ => none
  | n + 1, l3, h => if l1 ≤ l3 then (b_X12_day_131 l0 l1 l3 h) else ((gR h l0 12 26).bind fun v2 => (rI h v2 (3 * l3)).bind fun v3 => (gR h l0 12 26).bind fun v4 => (rI h v4 ((3 * l3) + 1)).bind fun v5 => (gR h l0 12 26).bind fun v6 => (rI h v6 ((3 * l3) + 2)).bind fun v7 => (F_X12_act l0 v3 v5 v7 h).bind fun q8 => if q8.1 = 0 then (b_X12_day_131 l0 l1 l3 q8.2) else (b_X12_day_85 l0 l1 n (l3 + 1) q8.2))
set_option maxHeartbeats 4000000 in
set_option maxRecDepth 20000 in
theorem eb_X12_day_85 {xs : Nat → Int32} {N d : Nat} {nx : ci_N} {l0 : Nat} {l1 : Int32} (hd : 107 ≤ d) : ∀ (n : Nat) (l3 : Int32) (h : ci_H) (r : Int32 × ci_H), b_X12_day_85 l0 l1 n l3 h = some r → Ev xs N (d + 1) 236 85 [.ref l0, .int l1, ci_junk, .int l3] [] h nx (oI r nx) := by
  intro n
  induction n with
  | zero => intro l3 h r H; unfold b_X12_day_85 at H; cases H
  | succ n ih =>
    intro l3 h r H
    unfold b_X12_day_85 at H
    refine ev_go hc_X12_day (k := 2) (pc' := 87) (L' := [.ref l0, .int l1, ci_junk, .int l3]) (S' := [.int l1, .int l3]) rfl ?_
    by_cases c1 : l1 ≤ l3
    · rw [if_pos c1] at H
      refine ev_bt hc_X12_day (fe_X12_day (pc := 87) rfl) rfl c1 ?_
      exact Ev.weak (ci_le_c (Or.inr rfl) (ci_le_c (Or.inr rfl) (ci_le_c (Or.inl rfl) (ci_le_c (Or.inr rfl) (ci_le_n))))) (eb_X12_day_131 hd H)
    · rw [if_neg c1] at H
      refine ev_bf hc_X12_day (fe_X12_day (pc := 87) rfl) rfl c1 ?_
      refine ev_go hc_X12_day (k := 2) (pc' := 92) (L' := [.ref l0, .int l1, ci_junk, .int l3]) (S' := [.ref l0, .ref l0]) rfl ?_
      obtain ⟨v2, ev2, H⟩ := Option.bind_eq_some_iff.mp H
      refine ev_4 hc_X12_day (fe_X12_day (pc := 92) rfl) (gR_gf ev2) ?_
      refine ev_go hc_X12_day (k := 3) (pc' := 98) (L' := [.ref l0, .int l1, ci_junk, .int l3]) (S' := [.int (3 * l3), .ref v2, .ref l0]) rfl ?_
      obtain ⟨v3, ev3, H⟩ := Option.bind_eq_some_iff.mp H
      refine ev_4 hc_X12_day (fe_X12_day (pc := 98) rfl) (rI_al ev3) ?_
      refine ev_go hc_X12_day (k := 1) (pc' := 100) (L' := [.ref l0, .int l1, ci_junk, .int l3]) (S' := [.ref l0, .int v3, .ref l0]) rfl ?_
      obtain ⟨v4, ev4, H⟩ := Option.bind_eq_some_iff.mp H
      refine ev_4 hc_X12_day (fe_X12_day (pc := 100) rfl) (gR_gf ev4) ?_
      refine ev_go hc_X12_day (k := 5) (pc' := 108) (L' := [.ref l0, .int l1, ci_junk, .int l3]) (S' := [.int ((3 * l3) + 1), .ref v4, .int v3, .ref l0]) rfl ?_
      obtain ⟨v5, ev5, H⟩ := Option.bind_eq_some_iff.mp H
      refine ev_4 hc_X12_day (fe_X12_day (pc := 108) rfl) (rI_al ev5) ?_
      refine ev_go hc_X12_day (k := 1) (pc' := 110) (L' := [.ref l0, .int l1, ci_junk, .int l3]) (S' := [.ref l0, .int v5, .int v3, .ref l0]) rfl ?_
      obtain ⟨v6, ev6, H⟩ := Option.bind_eq_some_iff.mp H
      refine ev_4 hc_X12_day (fe_X12_day (pc := 110) rfl) (gR_gf ev6) ?_
      refine ev_go hc_X12_day (k := 5) (pc' := 118) (L' := [.ref l0, .int l1, ci_junk, .int l3]) (S' := [.int ((3 * l3) + 2), .ref v6, .int v5, .int v3, .ref l0]) rfl ?_
      obtain ⟨v7, ev7, H⟩ := Option.bind_eq_some_iff.mp H
      refine ev_4 hc_X12_day (fe_X12_day (pc := 118) rfl) (rI_al ev7) ?_
      obtain ⟨q8, eq8, H⟩ := Option.bind_eq_some_iff.mp H
      refine ev_call (vs := [.ref l0, .int v3, .int v5, .int v7]) (rest := []) (q := q_X12_act) hc_X12_day (Or.inr rfl) (fe_X12_day (pc := 119) rfl) ms_238 rfl rfl (Nat.le_of_ble_eq_true rfl) (kO_recv (K_X12_act eq8)) (E_X12_act eq8 (by omega)) rfl ?_
      show Ev xs N (d + 1) 236 122 [.ref l0, .int l1, ci_junk, .int l3] [.int q8.1] q8.2 nx _
      by_cases c9 : q8.1 = 0
      · rw [if_pos c9] at H
        refine ev_bt hc_X12_day (fe_X12_day (pc := 122) rfl) rfl c9 ?_
        exact Ev.weak (ci_le_c (Or.inr rfl) (ci_le_c (Or.inr rfl) (ci_le_c (Or.inl rfl) (ci_le_c (Or.inr rfl) (ci_le_n))))) (eb_X12_day_131 hd H)
      · rw [if_neg c9] at H
        refine ev_bf hc_X12_day (fe_X12_day (pc := 122) rfl) rfl c9 ?_
        refine ev_go hc_X12_day (k := 2) (pc' := 85) (L' := [.ref l0, .int l1, ci_junk, .int (l3 + 1)]) (S' := []) rfl ?_
        exact Ev.weak (ci_le_c (Or.inr rfl) (ci_le_c (Or.inr rfl) (ci_le_c (Or.inl rfl) (ci_le_c (Or.inr rfl) (ci_le_n))))) (ih _ _ _ H)
def b_X12_day_57 (l0 : Nat) (l1 : Int32)  (h : ci_H) : Option (Int32 × ci_H) := (F_X12_wasRight l0 h).bind fun q1 => if q1.1 = 0 then ((gI q1.2 l0 12 16).bind fun v3 => some (((-1)) - v3, q1.2)) else ((gR q1.2 l0 12 0).bind fun v4 => (gR q1.2 l0 12 24).bind fun v5 => (F_X12_lay v4 v5 0 q1.2).bind fun h6 => b_X12_day_85 l0 l1 bigN 0 h6)
set_option maxHeartbeats 4000000 in
set_option maxRecDepth 20000 in
theorem eb_X12_day_57 {xs : Nat → Int32} {N d : Nat} {nx : ci_N} {l0 : Nat} {l1 : Int32} (hd : 107 ≤ d) {h : ci_H} {r : Int32 × ci_H} (H : b_X12_day_57 l0 l1 h = some r) : Ev xs N (d + 1) 236 57 [.ref l0, .int l1, ci_junk, ci_junk] [] h nx (oI r nx) := by
  unfold b_X12_day_57 at H
  refine ev_go hc_X12_day (k := 1) (pc' := 58) (L' := [.ref l0, .int l1, ci_junk, ci_junk]) (S' := [.ref l0]) rfl ?_
  obtain ⟨q1, eq1, H⟩ := Option.bind_eq_some_iff.mp H
  refine ev_call (vs := [.ref l0]) (rest := []) (q := q_X12_wasRight) hc_X12_day (Or.inr rfl) (fe_X12_day (pc := 58) rfl) ms_189 rfl rfl (Nat.le_of_ble_eq_true rfl) (kO_recv (K_X12_wasRight eq1)) (E_X12_wasRight eq1 (by omega)) rfl ?_
  show Ev xs N (d + 1) 236 61 [.ref l0, .int l1, ci_junk, ci_junk] [.int q1.1] q1.2 nx _
  by_cases c2 : q1.1 = 0
  · rw [if_pos c2] at H
    refine ev_bt hc_X12_day (fe_X12_day (pc := 61) rfl) rfl c2 ?_
    refine ev_go hc_X12_day (k := 2) (pc' := 66) (L' := [.ref l0, .int l1, ci_junk, ci_junk]) (S' := [.ref l0, .int ((-1))]) rfl ?_
    obtain ⟨v3, ev3, H⟩ := Option.bind_eq_some_iff.mp H
    refine ev_4 hc_X12_day (fe_X12_day (pc := 66) rfl) (gI_gf ev3) ?_
    refine ev_go hc_X12_day (k := 1) (pc' := 70) (L' := [.ref l0, .int l1, ci_junk, ci_junk]) (S' := [.int (((-1)) - v3)]) rfl ?_
    obtain rfl := Option.some.inj H
    exact ev_8 hc_X12_day (fe_X12_day (pc := 70) rfl) rfl
  · rw [if_neg c2] at H
    refine ev_bf hc_X12_day (fe_X12_day (pc := 61) rfl) rfl c2 ?_
    refine ev_go hc_X12_day (k := 1) (pc' := 72) (L' := [.ref l0, .int l1, ci_junk, ci_junk]) (S' := [.ref l0]) rfl ?_
    obtain ⟨v4, ev4, H⟩ := Option.bind_eq_some_iff.mp H
    refine ev_4 hc_X12_day (fe_X12_day (pc := 72) rfl) (gR_gf ev4) ?_
    refine ev_go hc_X12_day (k := 1) (pc' := 76) (L' := [.ref l0, .int l1, ci_junk, ci_junk]) (S' := [.ref l0, .ref v4]) rfl ?_
    obtain ⟨v5, ev5, H⟩ := Option.bind_eq_some_iff.mp H
    refine ev_4 hc_X12_day (fe_X12_day (pc := 76) rfl) (gR_gf ev5) ?_
    refine ev_go hc_X12_day (k := 1) (pc' := 80) (L' := [.ref l0, .int l1, ci_junk, ci_junk]) (S' := [.int 0, .ref v5, .ref v4]) rfl ?_
    obtain ⟨h6, eh6, H⟩ := Option.bind_eq_some_iff.mp H
    refine ev_call (vs := [.ref v4, .ref v5, .int 0]) (rest := []) (q := q_X12_lay) hc_X12_day (Or.inl rfl) (fe_X12_day (pc := 80) rfl) ms_216 rfl rfl (Nat.le_of_ble_eq_true rfl) rfl (E_X12_lay eh6 (by omega)) rfl ?_
    show Ev xs N (d + 1) 236 83 [.ref l0, .int l1, ci_junk, ci_junk] [] h6 nx _
    refine ev_go hc_X12_day (k := 2) (pc' := 85) (L' := [.ref l0, .int l1, ci_junk, .int 0]) (S' := []) rfl ?_
    exact Ev.weak (ci_le_c (Or.inr rfl) (ci_le_c (Or.inr rfl) (ci_le_c (Or.inl rfl) (ci_le_c (Or.inr rfl) (ci_le_n))))) (eb_X12_day_85 hd bigN _ _ _ H)
def b_X12_day_26 (l0 : Nat) : Nat → Int32 → Int32 → ci_H → Option (Int32 × ci_H)
  | 0, _, _, _ => none
  | n + 1, l1, l2, h => if l2 = 0 then (b_X12_day_57 l0 l1 h) else ((F_X12_fine l0 h).bind fun q2 => if q2.1 = 0 then (b_X12_day_57 l0 l1 q2.2) else ((F_X12_readAct l0 (3 * l1) q2.2).bind fun h4 => (F_X12_passes l0 59 h4).bind fun q5 => b_X12_day_26 l0 n (l1 + 1) q5.1 q5.2))
set_option maxHeartbeats 4000000 in
set_option maxRecDepth 20000 in
theorem eb_X12_day_26 {xs : Nat → Int32} {N d : Nat} {nx : ci_N} {l0 : Nat} (hd : 107 ≤ d) : ∀ (n : Nat) (l1 : Int32) (l2 : Int32) (h : ci_H) (r : Int32 × ci_H), b_X12_day_26 l0 n l1 l2 h = some r → Ev xs N (d + 1) 236 26 [.ref l0, .int l1, .int l2, ci_junk] [] h nx (oI r nx) := by
  intro n
  induction n with
  | zero => intro l1 l2 h r H; unfold b_X12_day_26 at H; cases H
  | succ n ih =>
    intro l1 l2 h r H
    unfold b_X12_day_26 at H
    refine ev_go hc_X12_day (k := 1) (pc' := 27) (L' := [.ref l0, .int l1, .int l2, ci_junk]) (S' := [.int l2]) rfl ?_
    by_cases c1 : l2 = 0
    · rw [if_pos c1] at H
      refine ev_bt hc_X12_day (fe_X12_day (pc := 27) rfl) rfl c1 ?_
      exact Ev.weak (ci_le_c (Or.inr rfl) (ci_le_c (Or.inr rfl) (ci_le_c (Or.inl rfl) (ci_le_c (Or.inl rfl) (ci_le_n))))) (eb_X12_day_57 hd H)
    · rw [if_neg c1] at H
      refine ev_bf hc_X12_day (fe_X12_day (pc := 27) rfl) rfl c1 ?_
      refine ev_go hc_X12_day (k := 1) (pc' := 31) (L' := [.ref l0, .int l1, .int l2, ci_junk]) (S' := [.ref l0]) rfl ?_
      obtain ⟨q2, eq2, H⟩ := Option.bind_eq_some_iff.mp H
      refine ev_call (vs := [.ref l0]) (rest := []) (q := q_X12_fine) hc_X12_day (Or.inr rfl) (fe_X12_day (pc := 31) rfl) ms_183 rfl rfl (Nat.le_of_ble_eq_true rfl) (kO_recv (K_X12_fine eq2)) (E_X12_fine eq2 (by omega)) rfl ?_
      show Ev xs N (d + 1) 236 34 [.ref l0, .int l1, .int l2, ci_junk] [.int q2.1] q2.2 nx _
      by_cases c3 : q2.1 = 0
      · rw [if_pos c3] at H
        refine ev_bt hc_X12_day (fe_X12_day (pc := 34) rfl) rfl c3 ?_
        exact Ev.weak (ci_le_c (Or.inr rfl) (ci_le_c (Or.inr rfl) (ci_le_c (Or.inl rfl) (ci_le_c (Or.inl rfl) (ci_le_n))))) (eb_X12_day_57 hd H)
      · rw [if_neg c3] at H
        refine ev_bf hc_X12_day (fe_X12_day (pc := 34) rfl) rfl c3 ?_
        refine ev_go hc_X12_day (k := 4) (pc' := 41) (L' := [.ref l0, .int l1, .int l2, ci_junk]) (S' := [.int (3 * l1), .ref l0]) rfl ?_
        obtain ⟨h4, eh4, H⟩ := Option.bind_eq_some_iff.mp H
        refine ev_call (vs := [.ref l0, .int (3 * l1)]) (rest := []) (q := q_X12_readAct) hc_X12_day (Or.inr rfl) (fe_X12_day (pc := 41) rfl) ms_237 rfl rfl (Nat.le_of_ble_eq_true rfl) (kO_recv (K_X12_readAct eh4)) (E_X12_readAct eh4 (by omega)) rfl ?_
        show Ev xs N (d + 1) 236 44 [.ref l0, .int l1, .int l2, ci_junk] [] h4 nx _
        refine ev_go hc_X12_day (k := 3) (pc' := 50) (L' := [.ref l0, .int (l1 + 1), .int l2, ci_junk]) (S' := [.int 59, .ref l0]) rfl ?_
        obtain ⟨q5, eq5, H⟩ := Option.bind_eq_some_iff.mp H
        refine ev_call (vs := [.ref l0, .int 59]) (rest := []) (q := q_X12_passes) hc_X12_day (Or.inr rfl) (fe_X12_day (pc := 50) rfl) ms_185 rfl rfl (Nat.le_of_ble_eq_true rfl) (kO_recv (K_X12_passes eq5)) (E_X12_passes eq5 (by omega)) rfl ?_
        show Ev xs N (d + 1) 236 53 [.ref l0, .int (l1 + 1), .int l2, ci_junk] [.int q5.1] q5.2 nx _
        refine ev_go hc_X12_day (k := 2) (pc' := 26) (L' := [.ref l0, .int (l1 + 1), .int q5.1, ci_junk]) (S' := []) rfl ?_
        exact Ev.weak (ci_le_c (Or.inr rfl) (ci_le_c (Or.inr rfl) (ci_le_c (Or.inr rfl) (ci_le_c (Or.inl rfl) (ci_le_n))))) (ih _ _ _ _ H)
def b_X12_day_25 (l0 : Nat) (l1 : Int32) (s0 : Int32)  (h : ci_H) : Option (Int32 × ci_H) := b_X12_day_26 l0 bigN l1 s0 h
set_option maxHeartbeats 4000000 in
set_option maxRecDepth 20000 in
theorem eb_X12_day_25 {xs : Nat → Int32} {N d : Nat} {nx : ci_N} {l0 : Nat} {l1 : Int32} {s0 : Int32} (hd : 107 ≤ d) {h : ci_H} {r : Int32 × ci_H} (H : b_X12_day_25 l0 l1 s0 h = some r) : Ev xs N (d + 1) 236 25 [.ref l0, .int l1, ci_junk, ci_junk] [.int s0] h nx (oI r nx) := by
  unfold b_X12_day_25 at H
  refine ev_go hc_X12_day (k := 1) (pc' := 26) (L' := [.ref l0, .int l1, .int s0, ci_junk]) (S' := []) rfl ?_
  exact Ev.weak (ci_le_c (Or.inr rfl) (ci_le_c (Or.inr rfl) (ci_le_c (Or.inr rfl) (ci_le_c (Or.inl rfl) (ci_le_n))))) (eb_X12_day_26 hd bigN _ _ _ _ H)
def F_X12_day (a0 : Nat) (h : ci_H) : Option (Int32 × ci_H) := if kO h a0 = some 12 then ((pF h a0 12 11 (.int 0)).bind fun h1 => (F_X12_beginText a0 60 h1).bind fun h2 => (gI h2 a0 12 13).bind fun v3 => if v3 ≤ 0 then (b_X12_day_25 a0 0 0 h2) else (b_X12_day_25 a0 0 1 h2)) else none
theorem K_X12_day {a0 : Nat} {h : ci_H} {r : Int32 × ci_H} (H : F_X12_day a0 h = some r) : kO h a0 = some 12 := by
  unfold F_X12_day at H
  by_cases c : kO h a0 = some 12
  · exact c
  · rw [if_neg c] at H; cases H
set_option maxHeartbeats 4000000 in
set_option maxRecDepth 20000 in
theorem E_X12_day {xs : Nat → Int32} {N d : Nat} {nx : ci_N} {a0 : Nat} {h : ci_H} {r : Int32 × ci_H} (H : F_X12_day a0 h = some r) (hd : 108 ≤ d) : Ev xs N d 236 0 (ci_entry [.ref a0] 4) [] h nx (oI r nx) := by
  obtain ⟨d, rfl⟩ : ∃ d2, d = d2 + 1 := ⟨d - 1, by omega⟩
  have hd : 107 ≤ d := by omega
  unfold F_X12_day at H
  by_cases ck : kO h a0 = some 12
  · rw [if_pos ck] at H
    show Ev xs N (d + 1) 236 0 [.ref a0, ci_junk, ci_junk, ci_junk] [] h nx _
    refine ev_go hc_X12_day (k := 2) (pc' := 2) (L' := [.ref a0, ci_junk, ci_junk, ci_junk]) (S' := [.int 0, .ref a0]) rfl ?_
    obtain ⟨h1, eh1, H⟩ := Option.bind_eq_some_iff.mp H
    refine ev_5 hc_X12_day (fe_X12_day (pc := 2) rfl) (pF_pf eh1) ?_
    refine ev_go hc_X12_day (k := 2) (pc' := 8) (L' := [.ref a0, ci_junk, ci_junk, ci_junk]) (S' := [.int 60, .ref a0]) rfl ?_
    obtain ⟨h2, eh2, H⟩ := Option.bind_eq_some_iff.mp H
    refine ev_call (vs := [.ref a0, .int 60]) (rest := []) (q := q_X12_beginText) hc_X12_day (Or.inr rfl) (fe_X12_day (pc := 8) rfl) ms_181 rfl rfl (Nat.le_of_ble_eq_true rfl) (kO_recv (K_X12_beginText eh2)) (E_X12_beginText eh2 (by omega)) rfl ?_
    show Ev xs N (d + 1) 236 11 [.ref a0, ci_junk, ci_junk, ci_junk] [] h2 nx _
    refine ev_go hc_X12_day (k := 3) (pc' := 14) (L' := [.ref a0, .int 0, ci_junk, ci_junk]) (S' := [.ref a0]) rfl ?_
    obtain ⟨v3, ev3, H⟩ := Option.bind_eq_some_iff.mp H
    refine ev_4 hc_X12_day (fe_X12_day (pc := 14) rfl) (gI_gf ev3) ?_
    by_cases c4 : v3 ≤ 0
    · rw [if_pos c4] at H
      refine ev_bt hc_X12_day (fe_X12_day (pc := 17) rfl) rfl c4 ?_
      refine ev_go hc_X12_day (k := 1) (pc' := 25) (L' := [.ref a0, .int 0, ci_junk, ci_junk]) (S' := [.int 0]) rfl ?_
      exact Ev.weak (ci_le_c (Or.inr rfl) (ci_le_c (Or.inr rfl) (ci_le_c (Or.inl rfl) (ci_le_c (Or.inl rfl) (ci_le_n))))) (eb_X12_day_25 hd H)
    · rw [if_neg c4] at H
      refine ev_bf hc_X12_day (fe_X12_day (pc := 17) rfl) rfl c4 ?_
      refine ev_go hc_X12_day (k := 2) (pc' := 25) (L' := [.ref a0, .int 0, ci_junk, ci_junk]) (S' := [.int 1]) rfl ?_
      exact Ev.weak (ci_le_c (Or.inr rfl) (ci_le_c (Or.inr rfl) (ci_le_c (Or.inl rfl) (ci_le_c (Or.inl rfl) (ci_le_n))))) (eb_X12_day_25 hd H)
  · rw [if_neg ck] at H; cases H
theorem hc_X12_undo : ci_code (ci_Ms 239) = k_X12_undo := rfl
theorem fe_X12_undo {pc : Nat} {w : Option ci_I} (h : (k_X12_undo)[pc]? = some w) : (k_X12_undo)[pc]? = some w := h
def b_X12_undo_26 (l0 : Nat) : Nat → Int32 → ci_H → Option (Int32 × ci_H)
  | 0, _, _ => none
  | n + 1, l1, h => if 42 ≤ l1 then ((gI h l0 12 23).bind fun v2 => some (v2, h)) else ((gR h l0 12 0).bind fun v3 => (gR h l0 12 22).bind fun v4 => (gI h l0 12 23).bind fun v5 => (rI h v4 ((42 * v5) + l1)).bind fun v6 => (wI h v3 l1 v6).bind fun h7 => b_X12_undo_26 l0 n (l1 + 1) h7)
set_option maxHeartbeats 4000000 in
set_option maxRecDepth 20000 in
theorem eb_X12_undo_26 {xs : Nat → Int32} {N d : Nat} {nx : ci_N} {l0 : Nat} : ∀ (n : Nat) (l1 : Int32) (h : ci_H) (r : Int32 × ci_H), b_X12_undo_26 l0 n l1 h = some r → Ev xs N d 239 26 [.ref l0, .int l1] [] h nx (oI r nx) := by
  intro n
  induction n with
  | zero => intro l1 h r H; unfold b_X12_undo_26 at H; cases H
  | succ n ih =>
    intro l1 h r H
    unfold b_X12_undo_26 at H
    refine ev_go hc_X12_undo (k := 2) (pc' := 29) (L' := [.ref l0, .int l1]) (S' := [.int 42, .int l1]) rfl ?_
    by_cases c1 : 42 ≤ l1
    · rw [if_pos c1] at H
      refine ev_bt hc_X12_undo (fe_X12_undo (pc := 29) rfl) rfl c1 ?_
      refine ev_go hc_X12_undo (k := 1) (pc' := 59) (L' := [.ref l0, .int l1]) (S' := [.ref l0]) rfl ?_
      obtain ⟨v2, ev2, H⟩ := Option.bind_eq_some_iff.mp H
      refine ev_4 hc_X12_undo (fe_X12_undo (pc := 59) rfl) (gI_gf ev2) ?_
      obtain rfl := Option.some.inj H
      exact ev_8 hc_X12_undo (fe_X12_undo (pc := 62) rfl) rfl
    · rw [if_neg c1] at H
      refine ev_bf hc_X12_undo (fe_X12_undo (pc := 29) rfl) rfl c1 ?_
      refine ev_go hc_X12_undo (k := 1) (pc' := 33) (L' := [.ref l0, .int l1]) (S' := [.ref l0]) rfl ?_
      obtain ⟨v3, ev3, H⟩ := Option.bind_eq_some_iff.mp H
      refine ev_4 hc_X12_undo (fe_X12_undo (pc := 33) rfl) (gR_gf ev3) ?_
      refine ev_go hc_X12_undo (k := 2) (pc' := 38) (L' := [.ref l0, .int l1]) (S' := [.ref l0, .int l1, .ref v3]) rfl ?_
      obtain ⟨v4, ev4, H⟩ := Option.bind_eq_some_iff.mp H
      refine ev_4 hc_X12_undo (fe_X12_undo (pc := 38) rfl) (gR_gf ev4) ?_
      refine ev_go hc_X12_undo (k := 2) (pc' := 44) (L' := [.ref l0, .int l1]) (S' := [.ref l0, .int 42, .ref v4, .int l1, .ref v3]) rfl ?_
      obtain ⟨v5, ev5, H⟩ := Option.bind_eq_some_iff.mp H
      refine ev_4 hc_X12_undo (fe_X12_undo (pc := 44) rfl) (gI_gf ev5) ?_
      refine ev_go hc_X12_undo (k := 3) (pc' := 50) (L' := [.ref l0, .int l1]) (S' := [.int ((42 * v5) + l1), .ref v4, .int l1, .ref v3]) rfl ?_
      obtain ⟨v6, ev6, H⟩ := Option.bind_eq_some_iff.mp H
      refine ev_4 hc_X12_undo (fe_X12_undo (pc := 50) rfl) (rI_al ev6) ?_
      obtain ⟨h7, eh7, H⟩ := Option.bind_eq_some_iff.mp H
      refine ev_5 hc_X12_undo (fe_X12_undo (pc := 51) rfl) (wI_as eh7) ?_
      refine ev_go hc_X12_undo (k := 2) (pc' := 26) (L' := [.ref l0, .int (l1 + 1)]) (S' := []) rfl ?_
      exact Ev.weak (ci_le_c (Or.inr rfl) (ci_le_c (Or.inr rfl) (ci_le_n))) (ih _ _ _ H)
def F_X12_undo (a0 : Nat) (h : ci_H) : Option (Int32 × ci_H) := if kO h a0 = some 12 then ((pF h a0 12 11 (.int 0)).bind fun h1 => (gI h1 a0 12 23).bind fun v2 => if v2 = 0 then (some ((-1), h1)) else ((gI h1 a0 12 23).bind fun v4 => (pF h1 a0 12 23 (.int (v4 - 1))).bind fun h5 => b_X12_undo_26 a0 bigN 0 h5)) else none
theorem K_X12_undo {a0 : Nat} {h : ci_H} {r : Int32 × ci_H} (H : F_X12_undo a0 h = some r) : kO h a0 = some 12 := by
  unfold F_X12_undo at H
  by_cases c : kO h a0 = some 12
  · exact c
  · rw [if_neg c] at H; cases H
set_option maxHeartbeats 4000000 in
set_option maxRecDepth 20000 in
theorem E_X12_undo {xs : Nat → Int32} {N d : Nat} {nx : ci_N} {a0 : Nat} {h : ci_H} {r : Int32 × ci_H} (H : F_X12_undo a0 h = some r) (hd : 0 ≤ d) : Ev xs N d 239 0 (ci_entry [.ref a0] 2) [] h nx (oI r nx) := by
  unfold F_X12_undo at H
  by_cases ck : kO h a0 = some 12
  · rw [if_pos ck] at H
    show Ev xs N d 239 0 [.ref a0, ci_junk] [] h nx _
    refine ev_go hc_X12_undo (k := 2) (pc' := 2) (L' := [.ref a0, ci_junk]) (S' := [.int 0, .ref a0]) rfl ?_
    obtain ⟨h1, eh1, H⟩ := Option.bind_eq_some_iff.mp H
    refine ev_5 hc_X12_undo (fe_X12_undo (pc := 2) rfl) (pF_pf eh1) ?_
    refine ev_go hc_X12_undo (k := 1) (pc' := 6) (L' := [.ref a0, ci_junk]) (S' := [.ref a0]) rfl ?_
    obtain ⟨v2, ev2, H⟩ := Option.bind_eq_some_iff.mp H
    refine ev_4 hc_X12_undo (fe_X12_undo (pc := 6) rfl) (gI_gf ev2) ?_
    by_cases c3 : v2 = 0
    · rw [if_pos c3] at H
      refine ev_bt hc_X12_undo (fe_X12_undo (pc := 9) rfl) rfl c3 ?_
      refine ev_go hc_X12_undo (k := 1) (pc' := 13) (L' := [.ref a0, ci_junk]) (S' := [.int ((-1))]) rfl ?_
      obtain rfl := Option.some.inj H
      exact ev_8 hc_X12_undo (fe_X12_undo (pc := 13) rfl) rfl
    · rw [if_neg c3] at H
      refine ev_bf hc_X12_undo (fe_X12_undo (pc := 9) rfl) rfl c3 ?_
      refine ev_go hc_X12_undo (k := 2) (pc' := 16) (L' := [.ref a0, ci_junk]) (S' := [.ref a0, .ref a0]) rfl ?_
      obtain ⟨v4, ev4, H⟩ := Option.bind_eq_some_iff.mp H
      refine ev_4 hc_X12_undo (fe_X12_undo (pc := 16) rfl) (gI_gf ev4) ?_
      refine ev_go hc_X12_undo (k := 2) (pc' := 21) (L' := [.ref a0, ci_junk]) (S' := [.int (v4 - 1), .ref a0]) rfl ?_
      obtain ⟨h5, eh5, H⟩ := Option.bind_eq_some_iff.mp H
      refine ev_5 hc_X12_undo (fe_X12_undo (pc := 21) rfl) (pF_pf eh5) ?_
      refine ev_go hc_X12_undo (k := 2) (pc' := 26) (L' := [.ref a0, .int 0]) (S' := []) rfl ?_
      exact Ev.weak (ci_le_c (Or.inr rfl) (ci_le_c (Or.inr rfl) (ci_le_n))) (eb_X12_undo_26 bigN _ _ _ H)
  · rw [if_neg ck] at H; cases H
theorem hc_X12_broken : ci_code (ci_Ms 240) = k_X12_broken := rfl
theorem fe_X12_broken {pc : Nat} {w : Option ci_I} (h : (k_X12_broken)[pc]? = some w) : (k_X12_broken)[pc]? = some w := h
def b_X12_broken_73 (r_11 : Int32 → Int32 → Int32 → ci_H → Option (Int32 × ci_H)) (r_22 : Int32 → Int32 → Int32 → ci_H → Option (Int32 × ci_H)) (l0 : Nat) (l1 : Int32) (l2 : Int32) (l3 : Int32) (l4 : Int32)  (h : ci_H) : Option (Int32 × ci_H) := r_22 l1 l2 (l4 + 1) h
set_option maxHeartbeats 4000000 in
set_option maxRecDepth 20000 in
theorem eb_X12_broken_73 {xs : Nat → Int32} {N d : Nat} {nx : ci_N} {r_11 : Int32 → Int32 → Int32 → ci_H → Option (Int32 × ci_H)} {r_22 : Int32 → Int32 → Int32 → ci_H → Option (Int32 × ci_H)} {l0 : Nat} {l1 : Int32} {l2 : Int32} {l3 : Int32} {l4 : Int32} (hd : 4 ≤ d) (h_11 : ∀ (l1 : Int32) (l2 : Int32) (l3 : Int32) (h : ci_H) (r : Int32 × ci_H), r_11 l1 l2 l3 h = some r → Ev xs N (d + 1) 240 11 [.ref l0, .int l1, .int l2, .int l3, ci_junk, ci_junk] [] h nx (oI r nx)) (h_22 : ∀ (l1 : Int32) (l2 : Int32) (l4 : Int32) (h : ci_H) (r : Int32 × ci_H), r_22 l1 l2 l4 h = some r → Ev xs N (d + 1) 240 22 [.ref l0, .int l1, .int l2, .int l3, .int l4, ci_junk] [] h nx (oI r nx)) {h : ci_H} {r : Int32 × ci_H} (H : b_X12_broken_73 r_11 r_22 l0 l1 l2 l3 l4 h = some r) : Ev xs N (d + 1) 240 73 [.ref l0, .int l1, .int l2, .int l3, .int l4, ci_junk] [] h nx (oI r nx) := by
  unfold b_X12_broken_73 at H
  refine ev_go hc_X12_broken (k := 2) (pc' := 22) (L' := [.ref l0, .int l1, .int l2, .int l3, .int (l4 + 1), ci_junk]) (S' := []) rfl ?_
  exact Ev.weak (ci_le_c (Or.inr rfl) (ci_le_c (Or.inr rfl) (ci_le_c (Or.inr rfl) (ci_le_c (Or.inr rfl) (ci_le_c (Or.inr rfl) (ci_le_c (Or.inl rfl) (ci_le_n))))))) (h_22 _ _ _ _ _ H)
def b_X12_broken_22 (r_11 : Int32 → Int32 → Int32 → ci_H → Option (Int32 × ci_H)) (l0 : Nat) (l3 : Int32) : Nat → Int32 → Int32 → Int32 → ci_H → Option (Int32 × ci_H)
  | 0, _, _, _, _ => none
  | n + 1, l1, l2, l4, h => (gI h l0 12 3).bind fun v1 => if v1 ≤ l4 then (r_11 l1 l2 (l3 + 1) h) else ((gR h l0 12 0).bind fun v3 => (gR h l0 12 0).bind fun v4 => (F_X12_keptBy l0 v4 l3 h).bind fun q5 => (F_X12_manyOf l0 v3 q5.1 l4 q5.2).bind fun q6 => (gI q6.2 l0 12 6).bind fun v7 => if 0 < (q6.1 - v7) then (b_X12_broken_73 r_11 (fun x0 x1 x2 x3 => b_X12_broken_22 r_11 l0 l3 n x0 x1 x2 x3) l0 (l1 + 1) (l2 + (q6.1 - v7)) l3 l4 q6.2) else (b_X12_broken_73 r_11 (fun x0 x1 x2 x3 => b_X12_broken_22 r_11 l0 l3 n x0 x1 x2 x3) l0 l1 l2 l3 l4 q6.2))
set_option maxHeartbeats 4000000 in
set_option maxRecDepth 20000 in
theorem eb_X12_broken_22 {xs : Nat → Int32} {N d : Nat} {nx : ci_N} {r_11 : Int32 → Int32 → Int32 → ci_H → Option (Int32 × ci_H)} {l0 : Nat} {l3 : Int32} (hd : 4 ≤ d) (h_11 : ∀ (l1 : Int32) (l2 : Int32) (l3 : Int32) (h : ci_H) (r : Int32 × ci_H), r_11 l1 l2 l3 h = some r → Ev xs N (d + 1) 240 11 [.ref l0, .int l1, .int l2, .int l3, ci_junk, ci_junk] [] h nx (oI r nx)) : ∀ (n : Nat) (l1 : Int32) (l2 : Int32) (l4 : Int32) (h : ci_H) (r : Int32 × ci_H), b_X12_broken_22 r_11 l0 l3 n l1 l2 l4 h = some r → Ev xs N (d + 1) 240 22 [.ref l0, .int l1, .int l2, .int l3, .int l4, ci_junk] [] h nx (oI r nx) := by
  intro n
  induction n with
  | zero => intro l1 l2 l4 h r H; unfold b_X12_broken_22 at H; cases H
  | succ n ih =>
    intro l1 l2 l4 h r H
    unfold b_X12_broken_22 at H
    refine ev_go hc_X12_broken (k := 2) (pc' := 25) (L' := [.ref l0, .int l1, .int l2, .int l3, .int l4, ci_junk]) (S' := [.ref l0, .int l4]) rfl ?_
    obtain ⟨v1, ev1, H⟩ := Option.bind_eq_some_iff.mp H
    refine ev_4 hc_X12_broken (fe_X12_broken (pc := 25) rfl) (gI_gf ev1) ?_
    by_cases c2 : v1 ≤ l4
    · rw [if_pos c2] at H
      refine ev_bt hc_X12_broken (fe_X12_broken (pc := 28) rfl) rfl c2 ?_
      refine ev_go hc_X12_broken (k := 2) (pc' := 11) (L' := [.ref l0, .int l1, .int l2, .int (l3 + 1), .int l4, ci_junk]) (S' := []) rfl ?_
      exact Ev.weak (ci_le_c (Or.inr rfl) (ci_le_c (Or.inr rfl) (ci_le_c (Or.inr rfl) (ci_le_c (Or.inr rfl) (ci_le_c (Or.inl rfl) (ci_le_c (Or.inl rfl) (ci_le_n))))))) (h_11 _ _ _ _ _ H)
    · rw [if_neg c2] at H
      refine ev_bf hc_X12_broken (fe_X12_broken (pc := 28) rfl) rfl c2 ?_
      refine ev_go hc_X12_broken (k := 2) (pc' := 33) (L' := [.ref l0, .int l1, .int l2, .int l3, .int l4, ci_junk]) (S' := [.ref l0, .ref l0]) rfl ?_
      obtain ⟨v3, ev3, H⟩ := Option.bind_eq_some_iff.mp H
      refine ev_4 hc_X12_broken (fe_X12_broken (pc := 33) rfl) (gR_gf ev3) ?_
      refine ev_go hc_X12_broken (k := 2) (pc' := 38) (L' := [.ref l0, .int l1, .int l2, .int l3, .int l4, ci_junk]) (S' := [.ref l0, .ref l0, .ref v3, .ref l0]) rfl ?_
      obtain ⟨v4, ev4, H⟩ := Option.bind_eq_some_iff.mp H
      refine ev_4 hc_X12_broken (fe_X12_broken (pc := 38) rfl) (gR_gf ev4) ?_
      refine ev_go hc_X12_broken (k := 1) (pc' := 42) (L' := [.ref l0, .int l1, .int l2, .int l3, .int l4, ci_junk]) (S' := [.int l3, .ref v4, .ref l0, .ref v3, .ref l0]) rfl ?_
      obtain ⟨q5, eq5, H⟩ := Option.bind_eq_some_iff.mp H
      refine ev_call (vs := [.ref l0, .ref v4, .int l3]) (rest := [.ref v3, .ref l0]) (q := q_X12_keptBy) hc_X12_broken (Or.inr rfl) (fe_X12_broken (pc := 42) rfl) ms_202 rfl rfl (Nat.le_of_ble_eq_true rfl) (kO_recv (K_X12_keptBy eq5)) (E_X12_keptBy eq5 (by omega)) rfl ?_
      show Ev xs N (d + 1) 240 45 [.ref l0, .int l1, .int l2, .int l3, .int l4, ci_junk] [.int q5.1, .ref v3, .ref l0] q5.2 nx _
      refine ev_go hc_X12_broken (k := 1) (pc' := 47) (L' := [.ref l0, .int l1, .int l2, .int l3, .int l4, ci_junk]) (S' := [.int l4, .int q5.1, .ref v3, .ref l0]) rfl ?_
      obtain ⟨q6, eq6, H⟩ := Option.bind_eq_some_iff.mp H
      refine ev_call (vs := [.ref l0, .ref v3, .int q5.1, .int l4]) (rest := []) (q := q_X12_manyOf) hc_X12_broken (Or.inr rfl) (fe_X12_broken (pc := 47) rfl) ms_204 rfl rfl (Nat.le_of_ble_eq_true rfl) (kO_recv (K_X12_manyOf eq6)) (E_X12_manyOf eq6 (by omega)) rfl ?_
      show Ev xs N (d + 1) 240 50 [.ref l0, .int l1, .int l2, .int l3, .int l4, ci_junk] [.int q6.1] q6.2 nx _
      refine ev_go hc_X12_broken (k := 1) (pc' := 51) (L' := [.ref l0, .int l1, .int l2, .int l3, .int l4, ci_junk]) (S' := [.ref l0, .int q6.1]) rfl ?_
      obtain ⟨v7, ev7, H⟩ := Option.bind_eq_some_iff.mp H
      refine ev_4 hc_X12_broken (fe_X12_broken (pc := 51) rfl) (gI_gf ev7) ?_
      refine ev_go hc_X12_broken (k := 3) (pc' := 59) (L' := [.ref l0, .int l1, .int l2, .int l3, .int l4, .int (q6.1 - v7)]) (S' := [.int (q6.1 - v7)]) rfl ?_
      by_cases c8 : 0 < (q6.1 - v7)
      · rw [if_pos c8] at H
        refine ev_bt hc_X12_broken (fe_X12_broken (pc := 59) rfl) rfl c8 ?_
        refine ev_go hc_X12_broken (k := 5) (pc' := 73) (L' := [.ref l0, .int (l1 + 1), .int (l2 + (q6.1 - v7)), .int l3, .int l4, .int (q6.1 - v7)]) (S' := []) rfl ?_
        exact Ev.weak (ci_le_c (Or.inr rfl) (ci_le_c (Or.inr rfl) (ci_le_c (Or.inr rfl) (ci_le_c (Or.inr rfl) (ci_le_c (Or.inr rfl) (ci_le_c (Or.inl rfl) (ci_le_n))))))) (eb_X12_broken_73 hd h_11 ih H)
      · rw [if_neg c8] at H
        refine ev_bf hc_X12_broken (fe_X12_broken (pc := 59) rfl) rfl c8 ?_
        refine ev_go hc_X12_broken (k := 1) (pc' := 73) (L' := [.ref l0, .int l1, .int l2, .int l3, .int l4, .int (q6.1 - v7)]) (S' := []) rfl ?_
        exact Ev.weak (ci_le_c (Or.inr rfl) (ci_le_c (Or.inr rfl) (ci_le_c (Or.inr rfl) (ci_le_c (Or.inr rfl) (ci_le_c (Or.inr rfl) (ci_le_c (Or.inl rfl) (ci_le_n))))))) (eb_X12_broken_73 hd h_11 ih H)
def b_X12_broken_11 (l0 : Nat) : Nat → Int32 → Int32 → Int32 → ci_H → Option (Int32 × ci_H)
  | 0, _, _, _, _ => none
  | n + 1, l1, l2, l3, h => (gI h l0 12 1).bind fun v1 => if v1 ≤ l3 then ((pF h l0 12 10 (.int 0)).bind fun h3 => (F_X12_tell l0 ((l1 : Int32).toInt64) h3).bind fun h4 => (F_X12_tell l0 ((l2 : Int32).toInt64) h4).bind fun h5 => (gR h5 l0 12 0).bind fun v6 => (F_X12_brokenHouses l0 v6 h5).bind fun q7 => some (q7.1, q7.2)) else (b_X12_broken_22 (fun x0 x1 x2 x3 => b_X12_broken_11 l0 n x0 x1 x2 x3) l0 l3 bigN l1 l2 0 h)
set_option maxHeartbeats 4000000 in
set_option maxRecDepth 20000 in
theorem eb_X12_broken_11 {xs : Nat → Int32} {N d : Nat} {nx : ci_N} {l0 : Nat} (hd : 4 ≤ d) : ∀ (n : Nat) (l1 : Int32) (l2 : Int32) (l3 : Int32) (h : ci_H) (r : Int32 × ci_H), b_X12_broken_11 l0 n l1 l2 l3 h = some r → Ev xs N (d + 1) 240 11 [.ref l0, .int l1, .int l2, .int l3, ci_junk, ci_junk] [] h nx (oI r nx) := by
  intro n
  induction n with
  | zero => intro l1 l2 l3 h r H; unfold b_X12_broken_11 at H; cases H
  | succ n ih =>
    intro l1 l2 l3 h r H
    unfold b_X12_broken_11 at H
    refine ev_go hc_X12_broken (k := 2) (pc' := 13) (L' := [.ref l0, .int l1, .int l2, .int l3, ci_junk, ci_junk]) (S' := [.ref l0, .int l3]) rfl ?_
    obtain ⟨v1, ev1, H⟩ := Option.bind_eq_some_iff.mp H
    refine ev_4 hc_X12_broken (fe_X12_broken (pc := 13) rfl) (gI_gf ev1) ?_
    by_cases c2 : v1 ≤ l3
    · rw [if_pos c2] at H
      refine ev_bt hc_X12_broken (fe_X12_broken (pc := 16) rfl) rfl c2 ?_
      refine ev_go hc_X12_broken (k := 2) (pc' := 87) (L' := [.ref l0, .int l1, .int l2, .int l3, ci_junk, ci_junk]) (S' := [.int 0, .ref l0]) rfl ?_
      obtain ⟨h3, eh3, H⟩ := Option.bind_eq_some_iff.mp H
      refine ev_5 hc_X12_broken (fe_X12_broken (pc := 87) rfl) (pF_pf eh3) ?_
      refine ev_go hc_X12_broken (k := 3) (pc' := 93) (L' := [.ref l0, .int l1, .int l2, .int l3, ci_junk, ci_junk]) (S' := [.long ((l1 : Int32).toInt64), .ref l0]) rfl ?_
      obtain ⟨h4, eh4, H⟩ := Option.bind_eq_some_iff.mp H
      refine ev_call (vs := [.ref l0, .long ((l1 : Int32).toInt64)]) (rest := []) (q := q_X12_tell) hc_X12_broken (Or.inr rfl) (fe_X12_broken (pc := 93) rfl) ms_173 rfl rfl (Nat.le_of_ble_eq_true rfl) (kO_recv (K_X12_tell eh4)) (E_X12_tell eh4 (by omega)) rfl ?_
      show Ev xs N (d + 1) 240 96 [.ref l0, .int l1, .int l2, .int l3, ci_junk, ci_junk] [] h4 nx _
      refine ev_go hc_X12_broken (k := 3) (pc' := 99) (L' := [.ref l0, .int l1, .int l2, .int l3, ci_junk, ci_junk]) (S' := [.long ((l2 : Int32).toInt64), .ref l0]) rfl ?_
      obtain ⟨h5, eh5, H⟩ := Option.bind_eq_some_iff.mp H
      refine ev_call (vs := [.ref l0, .long ((l2 : Int32).toInt64)]) (rest := []) (q := q_X12_tell) hc_X12_broken (Or.inr rfl) (fe_X12_broken (pc := 99) rfl) ms_173 rfl rfl (Nat.le_of_ble_eq_true rfl) (kO_recv (K_X12_tell eh5)) (E_X12_tell eh5 (by omega)) rfl ?_
      show Ev xs N (d + 1) 240 102 [.ref l0, .int l1, .int l2, .int l3, ci_junk, ci_junk] [] h5 nx _
      refine ev_go hc_X12_broken (k := 2) (pc' := 104) (L' := [.ref l0, .int l1, .int l2, .int l3, ci_junk, ci_junk]) (S' := [.ref l0, .ref l0]) rfl ?_
      obtain ⟨v6, ev6, H⟩ := Option.bind_eq_some_iff.mp H
      refine ev_4 hc_X12_broken (fe_X12_broken (pc := 104) rfl) (gR_gf ev6) ?_
      obtain ⟨q7, eq7, H⟩ := Option.bind_eq_some_iff.mp H
      refine ev_call (vs := [.ref l0, .ref v6]) (rest := []) (q := q_X12_brokenHouses) hc_X12_broken (Or.inr rfl) (fe_X12_broken (pc := 107) rfl) ms_207 rfl rfl (Nat.le_of_ble_eq_true rfl) (kO_recv (K_X12_brokenHouses eq7)) (E_X12_brokenHouses eq7 (by omega)) rfl ?_
      show Ev xs N (d + 1) 240 110 [.ref l0, .int l1, .int l2, .int l3, ci_junk, ci_junk] [.int q7.1] q7.2 nx _
      obtain rfl := Option.some.inj H
      exact ev_8 hc_X12_broken (fe_X12_broken (pc := 110) rfl) rfl
    · rw [if_neg c2] at H
      refine ev_bf hc_X12_broken (fe_X12_broken (pc := 16) rfl) rfl c2 ?_
      refine ev_go hc_X12_broken (k := 2) (pc' := 22) (L' := [.ref l0, .int l1, .int l2, .int l3, .int 0, ci_junk]) (S' := []) rfl ?_
      exact Ev.weak (ci_le_c (Or.inr rfl) (ci_le_c (Or.inr rfl) (ci_le_c (Or.inr rfl) (ci_le_c (Or.inr rfl) (ci_le_c (Or.inr rfl) (ci_le_c (Or.inl rfl) (ci_le_n))))))) (eb_X12_broken_22 hd ih bigN _ _ _ _ _ H)
def F_X12_broken (a0 : Nat) (h : ci_H) : Option (Int32 × ci_H) := if kO h a0 = some 12 then ((pF h a0 12 11 (.int 0)).bind fun h1 => b_X12_broken_11 a0 bigN 0 0 0 h1) else none
theorem K_X12_broken {a0 : Nat} {h : ci_H} {r : Int32 × ci_H} (H : F_X12_broken a0 h = some r) : kO h a0 = some 12 := by
  unfold F_X12_broken at H
  by_cases c : kO h a0 = some 12
  · exact c
  · rw [if_neg c] at H; cases H
set_option maxHeartbeats 4000000 in
set_option maxRecDepth 20000 in
theorem E_X12_broken {xs : Nat → Int32} {N d : Nat} {nx : ci_N} {a0 : Nat} {h : ci_H} {r : Int32 × ci_H} (H : F_X12_broken a0 h = some r) (hd : 5 ≤ d) : Ev xs N d 240 0 (ci_entry [.ref a0] 6) [] h nx (oI r nx) := by
  obtain ⟨d, rfl⟩ : ∃ d2, d = d2 + 1 := ⟨d - 1, by omega⟩
  have hd : 4 ≤ d := by omega
  unfold F_X12_broken at H
  by_cases ck : kO h a0 = some 12
  · rw [if_pos ck] at H
    show Ev xs N (d + 1) 240 0 [.ref a0, ci_junk, ci_junk, ci_junk, ci_junk, ci_junk] [] h nx _
    refine ev_go hc_X12_broken (k := 2) (pc' := 2) (L' := [.ref a0, ci_junk, ci_junk, ci_junk, ci_junk, ci_junk]) (S' := [.int 0, .ref a0]) rfl ?_
    obtain ⟨h1, eh1, H⟩ := Option.bind_eq_some_iff.mp H
    refine ev_5 hc_X12_broken (fe_X12_broken (pc := 2) rfl) (pF_pf eh1) ?_
    refine ev_go hc_X12_broken (k := 6) (pc' := 11) (L' := [.ref a0, .int 0, .int 0, .int 0, ci_junk, ci_junk]) (S' := []) rfl ?_
    exact Ev.weak (ci_le_c (Or.inr rfl) (ci_le_c (Or.inr rfl) (ci_le_c (Or.inr rfl) (ci_le_c (Or.inr rfl) (ci_le_c (Or.inl rfl) (ci_le_c (Or.inl rfl) (ci_le_n))))))) (eb_X12_broken_11 hd bigN _ _ _ _ _ H)
  · rw [if_neg ck] at H; cases H
theorem hc_X12_would : ci_code (ci_Ms 241) = k_X12_would := rfl
theorem fe_X12_would {pc : Nat} {w : Option ci_I} (h : (k_X12_would)[pc]? = some w) : (k_X12_would)[pc]? = some w := h
def F_X12_would (a0 : Nat) (a1 : Int32) (a2 : Int32) (h : ci_H) : Option (Int32 × ci_H) := if kO h a0 = some 12 then ((pF h a0 12 11 (.int 0)).bind fun h1 => (F_X12_areBoth a0 a2 a1 h1).bind fun q2 => if q2.1 = 0 then (some ((-1), q2.2)) else ((gR q2.2 a0 12 0).bind fun v4 => (rI q2.2 v4 (24 + a2)).bind fun v5 => if v5 = a1 then (some (0, q2.2)) else ((gR q2.2 a0 12 0).bind fun v7 => (gR q2.2 a0 12 0).bind fun v8 => (F_X12_keptBy a0 v8 a1 q2.2).bind fun q9 => (F_X12_brokenBy a0 v7 (q9.1 ||| ((1 : Int32) <<< (a2 &&& 31))) q9.2).bind fun q10 => some (q10.1, q10.2)))) else none
theorem K_X12_would {a0 : Nat} {a1 : Int32} {a2 : Int32} {h : ci_H} {r : Int32 × ci_H} (H : F_X12_would a0 a1 a2 h = some r) : kO h a0 = some 12 := by
  unfold F_X12_would at H
  by_cases c : kO h a0 = some 12
  · exact c
  · rw [if_neg c] at H; cases H
set_option maxHeartbeats 4000000 in
set_option maxRecDepth 20000 in
theorem E_X12_would {xs : Nat → Int32} {N d : Nat} {nx : ci_N} {a0 : Nat} {a1 : Int32} {a2 : Int32} {h : ci_H} {r : Int32 × ci_H} (H : F_X12_would a0 a1 a2 h = some r) (hd : 3 ≤ d) : Ev xs N d 241 0 (ci_entry [.ref a0, .int a1, .int a2] 3) [] h nx (oI r nx) := by
  obtain ⟨d, rfl⟩ : ∃ d2, d = d2 + 1 := ⟨d - 1, by omega⟩
  have hd : 2 ≤ d := by omega
  unfold F_X12_would at H
  by_cases ck : kO h a0 = some 12
  · rw [if_pos ck] at H
    show Ev xs N (d + 1) 241 0 [.ref a0, .int a1, .int a2] [] h nx _
    refine ev_go hc_X12_would (k := 2) (pc' := 2) (L' := [.ref a0, .int a1, .int a2]) (S' := [.int 0, .ref a0]) rfl ?_
    obtain ⟨h1, eh1, H⟩ := Option.bind_eq_some_iff.mp H
    refine ev_5 hc_X12_would (fe_X12_would (pc := 2) rfl) (pF_pf eh1) ?_
    refine ev_go hc_X12_would (k := 3) (pc' := 8) (L' := [.ref a0, .int a1, .int a2]) (S' := [.int a1, .int a2, .ref a0]) rfl ?_
    obtain ⟨q2, eq2, H⟩ := Option.bind_eq_some_iff.mp H
    refine ev_call (vs := [.ref a0, .int a2, .int a1]) (rest := []) (q := q_X12_areBoth) hc_X12_would (Or.inr rfl) (fe_X12_would (pc := 8) rfl) ms_218 rfl rfl (Nat.le_of_ble_eq_true rfl) (kO_recv (K_X12_areBoth eq2)) (E_X12_areBoth eq2 (by omega)) rfl ?_
    show Ev xs N (d + 1) 241 11 [.ref a0, .int a1, .int a2] [.int q2.1] q2.2 nx _
    by_cases c3 : q2.1 = 0
    · rw [if_pos c3] at H
      refine ev_bt hc_X12_would (fe_X12_would (pc := 11) rfl) rfl c3 ?_
      refine ev_go hc_X12_would (k := 1) (pc' := 15) (L' := [.ref a0, .int a1, .int a2]) (S' := [.int ((-1))]) rfl ?_
      obtain rfl := Option.some.inj H
      exact ev_8 hc_X12_would (fe_X12_would (pc := 15) rfl) rfl
    · rw [if_neg c3] at H
      refine ev_bf hc_X12_would (fe_X12_would (pc := 11) rfl) rfl c3 ?_
      refine ev_go hc_X12_would (k := 1) (pc' := 17) (L' := [.ref a0, .int a1, .int a2]) (S' := [.ref a0]) rfl ?_
      obtain ⟨v4, ev4, H⟩ := Option.bind_eq_some_iff.mp H
      refine ev_4 hc_X12_would (fe_X12_would (pc := 17) rfl) (gR_gf ev4) ?_
      refine ev_go hc_X12_would (k := 3) (pc' := 24) (L' := [.ref a0, .int a1, .int a2]) (S' := [.int (24 + a2), .ref v4]) rfl ?_
      obtain ⟨v5, ev5, H⟩ := Option.bind_eq_some_iff.mp H
      refine ev_4 hc_X12_would (fe_X12_would (pc := 24) rfl) (rI_al ev5) ?_
      refine ev_go hc_X12_would (k := 1) (pc' := 26) (L' := [.ref a0, .int a1, .int a2]) (S' := [.int a1, .int v5]) rfl ?_
      by_cases c6 : v5 = a1
      · rw [if_pos c6] at H
        refine ev_bt hc_X12_would (fe_X12_would (pc := 26) rfl) rfl c6 ?_
        refine ev_go hc_X12_would (k := 2) (pc' := 54) (L' := [.ref a0, .int a1, .int a2]) (S' := [.int 0]) rfl ?_
        obtain rfl := Option.some.inj H
        exact ev_8 hc_X12_would (fe_X12_would (pc := 54) rfl) rfl
      · rw [if_neg c6] at H
        refine ev_bf hc_X12_would (fe_X12_would (pc := 26) rfl) rfl c6 ?_
        refine ev_go hc_X12_would (k := 2) (pc' := 35) (L' := [.ref a0, .int a1, .int a2]) (S' := [.ref a0, .ref a0]) rfl ?_
        obtain ⟨v7, ev7, H⟩ := Option.bind_eq_some_iff.mp H
        refine ev_4 hc_X12_would (fe_X12_would (pc := 35) rfl) (gR_gf ev7) ?_
        refine ev_go hc_X12_would (k := 2) (pc' := 40) (L' := [.ref a0, .int a1, .int a2]) (S' := [.ref a0, .ref a0, .ref v7, .ref a0]) rfl ?_
        obtain ⟨v8, ev8, H⟩ := Option.bind_eq_some_iff.mp H
        refine ev_4 hc_X12_would (fe_X12_would (pc := 40) rfl) (gR_gf ev8) ?_
        refine ev_go hc_X12_would (k := 1) (pc' := 44) (L' := [.ref a0, .int a1, .int a2]) (S' := [.int a1, .ref v8, .ref a0, .ref v7, .ref a0]) rfl ?_
        obtain ⟨q9, eq9, H⟩ := Option.bind_eq_some_iff.mp H
        refine ev_call (vs := [.ref a0, .ref v8, .int a1]) (rest := [.ref v7, .ref a0]) (q := q_X12_keptBy) hc_X12_would (Or.inr rfl) (fe_X12_would (pc := 44) rfl) ms_202 rfl rfl (Nat.le_of_ble_eq_true rfl) (kO_recv (K_X12_keptBy eq9)) (E_X12_keptBy eq9 (by omega)) rfl ?_
        show Ev xs N (d + 1) 241 47 [.ref a0, .int a1, .int a2] [.int q9.1, .ref v7, .ref a0] q9.2 nx _
        refine ev_go hc_X12_would (k := 4) (pc' := 51) (L' := [.ref a0, .int a1, .int a2]) (S' := [.int (q9.1 ||| ((1 : Int32) <<< (a2 &&& 31))), .ref v7, .ref a0]) rfl ?_
        obtain ⟨q10, eq10, H⟩ := Option.bind_eq_some_iff.mp H
        refine ev_call (vs := [.ref a0, .ref v7, .int (q9.1 ||| ((1 : Int32) <<< (a2 &&& 31)))]) (rest := []) (q := q_X12_brokenBy) hc_X12_would (Or.inr rfl) (fe_X12_would (pc := 51) rfl) ms_205 rfl rfl (Nat.le_of_ble_eq_true rfl) (kO_recv (K_X12_brokenBy eq10)) (E_X12_brokenBy eq10 (by omega)) rfl ?_
        show Ev xs N (d + 1) 241 54 [.ref a0, .int a1, .int a2] [.int q10.1] q10.2 nx _
        obtain rfl := Option.some.inj H
        exact ev_8 hc_X12_would (fe_X12_would (pc := 54) rfl) rfl
  · rw [if_neg ck] at H; cases H
theorem hc_X12_rid : ci_code (ci_Ms 242) = k_X12_rid := rfl
theorem fe_X12_rid {pc : Nat} {w : Option ci_I} (h : (k_X12_rid)[pc]? = some w) : (k_X12_rid)[pc]? = some w := h
def b_X12_rid_77 (r_30 : Int32 → Int32 → ci_H → Option (Int32 × ci_H)) (l0 : Nat) (l2 : Int32) (l3 : Int32) (l4 : Int32)  (h : ci_H) : Option (Int32 × ci_H) := r_30 l3 (l4 + 1) h
set_option maxHeartbeats 4000000 in
set_option maxRecDepth 20000 in
theorem eb_X12_rid_77 {xs : Nat → Int32} {N d : Nat} {nx : ci_N} {r_30 : Int32 → Int32 → ci_H → Option (Int32 × ci_H)} {l0 : Nat} {l2 : Int32} {l3 : Int32} {l4 : Int32} (hd : 2 ≤ d) (h_30 : ∀ (l3 : Int32) (l4 : Int32) (h : ci_H) (r : Int32 × ci_H), r_30 l3 l4 h = some r → Ev xs N (d + 1) 242 30 [.ref l0, ci_junk, .int l2, .int l3, .int l4] [] h nx (oI r nx)) {h : ci_H} {r : Int32 × ci_H} (H : b_X12_rid_77 r_30 l0 l2 l3 l4 h = some r) : Ev xs N (d + 1) 242 77 [.ref l0, ci_junk, .int l2, .int l3, .int l4] [] h nx (oI r nx) := by
  unfold b_X12_rid_77 at H
  refine ev_go hc_X12_rid (k := 2) (pc' := 30) (L' := [.ref l0, ci_junk, .int l2, .int l3, .int (l4 + 1)]) (S' := []) rfl ?_
  exact Ev.weak (ci_le_c (Or.inr rfl) (ci_le_c (Or.inl rfl) (ci_le_c (Or.inr rfl) (ci_le_c (Or.inr rfl) (ci_le_c (Or.inr rfl) (ci_le_n)))))) (h_30 _ _ _ _ H)
def b_X12_rid_30 (l0 : Nat) (l2 : Int32) : Nat → Int32 → Int32 → ci_H → Option (Int32 × ci_H)
  | 0, _, _, _ => none
  | n + 1, l3, l4, h => if l2 ≤ l4 then ((pF h l0 12 10 (.int 0)).bind fun h2 => (F_X12_tell l0 ((l3 : Int32).toInt64) h2).bind fun h3 => (F_J6_bitCount_0f7a4 l3 h3).bind fun q4 => some (q4.1, q4.2)) else (if (l4 &&& (l2 ^^^ ((-1)))) = 0 then ((F_J6_bitCount_0f7a4 l4 h).bind fun q6 => (F_J6_bitCount_0f7a4 l3 q6.2).bind fun q7 => if q7.1 ≤ q6.1 then (b_X12_rid_77 (fun x0 x1 x2 => b_X12_rid_30 l0 l2 n x0 x1 x2) l0 l2 l3 l4 q7.2) else ((gR q7.2 l0 12 0).bind fun v9 => (F_X12_brokenBy l0 v9 (l2 &&& (l4 ^^^ ((-1)))) q7.2).bind fun q10 => if q10.1 = 0 then (b_X12_rid_77 (fun x0 x1 x2 => b_X12_rid_30 l0 l2 n x0 x1 x2) l0 l2 l4 l4 q10.2) else (b_X12_rid_77 (fun x0 x1 x2 => b_X12_rid_30 l0 l2 n x0 x1 x2) l0 l2 l3 l4 q10.2))) else (b_X12_rid_77 (fun x0 x1 x2 => b_X12_rid_30 l0 l2 n x0 x1 x2) l0 l2 l3 l4 h))
set_option maxHeartbeats 4000000 in
set_option maxRecDepth 20000 in
theorem eb_X12_rid_30 {xs : Nat → Int32} {N d : Nat} {nx : ci_N} {l0 : Nat} {l2 : Int32} (hd : 2 ≤ d) : ∀ (n : Nat) (l3 : Int32) (l4 : Int32) (h : ci_H) (r : Int32 × ci_H), b_X12_rid_30 l0 l2 n l3 l4 h = some r → Ev xs N (d + 1) 242 30 [.ref l0, ci_junk, .int l2, .int l3, .int l4] [] h nx (oI r nx) := by
  intro n
  induction n with
  | zero => intro l3 l4 h r H; unfold b_X12_rid_30 at H; cases H
  | succ n ih =>
    intro l3 l4 h r H
    unfold b_X12_rid_30 at H
    refine ev_go hc_X12_rid (k := 2) (pc' := 33) (L' := [.ref l0, ci_junk, .int l2, .int l3, .int l4]) (S' := [.int l2, .int l4]) rfl ?_
    by_cases c1 : l2 ≤ l4
    · rw [if_pos c1] at H
      refine ev_bt hc_X12_rid (fe_X12_rid (pc := 33) rfl) rfl c1 ?_
      refine ev_go hc_X12_rid (k := 2) (pc' := 85) (L' := [.ref l0, ci_junk, .int l2, .int l3, .int l4]) (S' := [.int 0, .ref l0]) rfl ?_
      obtain ⟨h2, eh2, H⟩ := Option.bind_eq_some_iff.mp H
      refine ev_5 hc_X12_rid (fe_X12_rid (pc := 85) rfl) (pF_pf eh2) ?_
      refine ev_go hc_X12_rid (k := 3) (pc' := 91) (L' := [.ref l0, ci_junk, .int l2, .int l3, .int l4]) (S' := [.long ((l3 : Int32).toInt64), .ref l0]) rfl ?_
      obtain ⟨h3, eh3, H⟩ := Option.bind_eq_some_iff.mp H
      refine ev_call (vs := [.ref l0, .long ((l3 : Int32).toInt64)]) (rest := []) (q := q_X12_tell) hc_X12_rid (Or.inr rfl) (fe_X12_rid (pc := 91) rfl) ms_173 rfl rfl (Nat.le_of_ble_eq_true rfl) (kO_recv (K_X12_tell eh3)) (E_X12_tell eh3 (by omega)) rfl ?_
      show Ev xs N (d + 1) 242 94 [.ref l0, ci_junk, .int l2, .int l3, .int l4] [] h3 nx _
      refine ev_go hc_X12_rid (k := 1) (pc' := 95) (L' := [.ref l0, ci_junk, .int l2, .int l3, .int l4]) (S' := [.int l3]) rfl ?_
      obtain ⟨q4, eq4, H⟩ := Option.bind_eq_some_iff.mp H
      refine ev_call (vs := [.int l3]) (rest := []) (q := q_J6_bitCount_0f7a4) hc_X12_rid (Or.inl rfl) (fe_X12_rid (pc := 95) rfl) ms_285 rfl rfl (Nat.le_of_ble_eq_true rfl) rfl (E_J6_bitCount_0f7a4 eq4 (by omega)) rfl ?_
      show Ev xs N (d + 1) 242 98 [.ref l0, ci_junk, .int l2, .int l3, .int l4] [.int q4.1] q4.2 nx _
      obtain rfl := Option.some.inj H
      exact ev_8 hc_X12_rid (fe_X12_rid (pc := 98) rfl) rfl
    · rw [if_neg c1] at H
      refine ev_bf hc_X12_rid (fe_X12_rid (pc := 33) rfl) rfl c1 ?_
      refine ev_go hc_X12_rid (k := 5) (pc' := 42) (L' := [.ref l0, ci_junk, .int l2, .int l3, .int l4]) (S' := [.int (l4 &&& (l2 ^^^ ((-1))))]) rfl ?_
      by_cases c5 : (l4 &&& (l2 ^^^ ((-1)))) = 0
      · rw [if_pos c5] at H
        refine ev_bt hc_X12_rid (fe_X12_rid (pc := 42) rfl) rfl c5 ?_
        refine ev_go hc_X12_rid (k := 1) (pc' := 47) (L' := [.ref l0, ci_junk, .int l2, .int l3, .int l4]) (S' := [.int l4]) rfl ?_
        obtain ⟨q6, eq6, H⟩ := Option.bind_eq_some_iff.mp H
        refine ev_call (vs := [.int l4]) (rest := []) (q := q_J6_bitCount_0f7a4) hc_X12_rid (Or.inl rfl) (fe_X12_rid (pc := 47) rfl) ms_285 rfl rfl (Nat.le_of_ble_eq_true rfl) rfl (E_J6_bitCount_0f7a4 eq6 (by omega)) rfl ?_
        show Ev xs N (d + 1) 242 50 [.ref l0, ci_junk, .int l2, .int l3, .int l4] [.int q6.1] q6.2 nx _
        refine ev_go hc_X12_rid (k := 1) (pc' := 51) (L' := [.ref l0, ci_junk, .int l2, .int l3, .int l4]) (S' := [.int l3, .int q6.1]) rfl ?_
        obtain ⟨q7, eq7, H⟩ := Option.bind_eq_some_iff.mp H
        refine ev_call (vs := [.int l3]) (rest := [.int q6.1]) (q := q_J6_bitCount_0f7a4) hc_X12_rid (Or.inl rfl) (fe_X12_rid (pc := 51) rfl) ms_285 rfl rfl (Nat.le_of_ble_eq_true rfl) rfl (E_J6_bitCount_0f7a4 eq7 (by omega)) rfl ?_
        show Ev xs N (d + 1) 242 54 [.ref l0, ci_junk, .int l2, .int l3, .int l4] [.int q7.1, .int q6.1] q7.2 nx _
        by_cases c8 : q7.1 ≤ q6.1
        · rw [if_pos c8] at H
          refine ev_bt hc_X12_rid (fe_X12_rid (pc := 54) rfl) rfl c8 ?_
          exact Ev.weak (ci_le_c (Or.inr rfl) (ci_le_c (Or.inl rfl) (ci_le_c (Or.inr rfl) (ci_le_c (Or.inr rfl) (ci_le_c (Or.inr rfl) (ci_le_n)))))) (eb_X12_rid_77 hd ih H)
        · rw [if_neg c8] at H
          refine ev_bf hc_X12_rid (fe_X12_rid (pc := 54) rfl) rfl c8 ?_
          refine ev_go hc_X12_rid (k := 2) (pc' := 59) (L' := [.ref l0, ci_junk, .int l2, .int l3, .int l4]) (S' := [.ref l0, .ref l0]) rfl ?_
          obtain ⟨v9, ev9, H⟩ := Option.bind_eq_some_iff.mp H
          refine ev_4 hc_X12_rid (fe_X12_rid (pc := 59) rfl) (gR_gf ev9) ?_
          refine ev_go hc_X12_rid (k := 5) (pc' := 68) (L' := [.ref l0, ci_junk, .int l2, .int l3, .int l4]) (S' := [.int (l2 &&& (l4 ^^^ ((-1)))), .ref v9, .ref l0]) rfl ?_
          obtain ⟨q10, eq10, H⟩ := Option.bind_eq_some_iff.mp H
          refine ev_call (vs := [.ref l0, .ref v9, .int (l2 &&& (l4 ^^^ ((-1))))]) (rest := []) (q := q_X12_brokenBy) hc_X12_rid (Or.inr rfl) (fe_X12_rid (pc := 68) rfl) ms_205 rfl rfl (Nat.le_of_ble_eq_true rfl) (kO_recv (K_X12_brokenBy eq10)) (E_X12_brokenBy eq10 (by omega)) rfl ?_
          show Ev xs N (d + 1) 242 71 [.ref l0, ci_junk, .int l2, .int l3, .int l4] [.int q10.1] q10.2 nx _
          by_cases c11 : q10.1 = 0
          · rw [if_pos c11] at H
            refine ev_bt hc_X12_rid (fe_X12_rid (pc := 71) rfl) rfl c11 ?_
            refine ev_go hc_X12_rid (k := 2) (pc' := 77) (L' := [.ref l0, ci_junk, .int l2, .int l4, .int l4]) (S' := []) rfl ?_
            exact Ev.weak (ci_le_c (Or.inr rfl) (ci_le_c (Or.inl rfl) (ci_le_c (Or.inr rfl) (ci_le_c (Or.inr rfl) (ci_le_c (Or.inr rfl) (ci_le_n)))))) (eb_X12_rid_77 hd ih H)
          · rw [if_neg c11] at H
            refine ev_bf hc_X12_rid (fe_X12_rid (pc := 71) rfl) rfl c11 ?_
            exact Ev.weak (ci_le_c (Or.inr rfl) (ci_le_c (Or.inl rfl) (ci_le_c (Or.inr rfl) (ci_le_c (Or.inr rfl) (ci_le_c (Or.inr rfl) (ci_le_n)))))) (eb_X12_rid_77 hd ih H)
      · rw [if_neg c5] at H
        refine ev_bf hc_X12_rid (fe_X12_rid (pc := 42) rfl) rfl c5 ?_
        exact Ev.weak (ci_le_c (Or.inr rfl) (ci_le_c (Or.inl rfl) (ci_le_c (Or.inr rfl) (ci_le_c (Or.inr rfl) (ci_le_c (Or.inr rfl) (ci_le_n)))))) (eb_X12_rid_77 hd ih H)
def F_X12_rid (a0 : Nat) (a1 : Int32) (h : ci_H) : Option (Int32 × ci_H) := if kO h a0 = some 12 then ((pF h a0 12 11 (.int 0)).bind fun h1 => (F_X12_isHouse a0 a1 h1).bind fun q2 => if q2.1 = 0 then (some ((-1), q2.2)) else ((gR q2.2 a0 12 0).bind fun v4 => (F_X12_keptBy a0 v4 a1 q2.2).bind fun q5 => b_X12_rid_30 a0 q5.1 bigN q5.1 0 q5.2)) else none
theorem K_X12_rid {a0 : Nat} {a1 : Int32} {h : ci_H} {r : Int32 × ci_H} (H : F_X12_rid a0 a1 h = some r) : kO h a0 = some 12 := by
  unfold F_X12_rid at H
  by_cases c : kO h a0 = some 12
  · exact c
  · rw [if_neg c] at H; cases H
set_option maxHeartbeats 4000000 in
set_option maxRecDepth 20000 in
theorem E_X12_rid {xs : Nat → Int32} {N d : Nat} {nx : ci_N} {a0 : Nat} {a1 : Int32} {h : ci_H} {r : Int32 × ci_H} (H : F_X12_rid a0 a1 h = some r) (hd : 3 ≤ d) : Ev xs N d 242 0 (ci_entry [.ref a0, .int a1] 5) [] h nx (oI r nx) := by
  obtain ⟨d, rfl⟩ : ∃ d2, d = d2 + 1 := ⟨d - 1, by omega⟩
  have hd : 2 ≤ d := by omega
  unfold F_X12_rid at H
  by_cases ck : kO h a0 = some 12
  · rw [if_pos ck] at H
    show Ev xs N (d + 1) 242 0 [.ref a0, .int a1, ci_junk, ci_junk, ci_junk] [] h nx _
    refine ev_go hc_X12_rid (k := 2) (pc' := 2) (L' := [.ref a0, .int a1, ci_junk, ci_junk, ci_junk]) (S' := [.int 0, .ref a0]) rfl ?_
    obtain ⟨h1, eh1, H⟩ := Option.bind_eq_some_iff.mp H
    refine ev_5 hc_X12_rid (fe_X12_rid (pc := 2) rfl) (pF_pf eh1) ?_
    refine ev_go hc_X12_rid (k := 2) (pc' := 7) (L' := [.ref a0, .int a1, ci_junk, ci_junk, ci_junk]) (S' := [.int a1, .ref a0]) rfl ?_
    obtain ⟨q2, eq2, H⟩ := Option.bind_eq_some_iff.mp H
    refine ev_call (vs := [.ref a0, .int a1]) (rest := []) (q := q_X12_isHouse) hc_X12_rid (Or.inr rfl) (fe_X12_rid (pc := 7) rfl) ms_175 rfl rfl (Nat.le_of_ble_eq_true rfl) (kO_recv (K_X12_isHouse eq2)) (E_X12_isHouse eq2 (by omega)) rfl ?_
    show Ev xs N (d + 1) 242 10 [.ref a0, .int a1, ci_junk, ci_junk, ci_junk] [.int q2.1] q2.2 nx _
    by_cases c3 : q2.1 = 0
    · rw [if_pos c3] at H
      refine ev_bt hc_X12_rid (fe_X12_rid (pc := 10) rfl) rfl c3 ?_
      refine ev_go hc_X12_rid (k := 1) (pc' := 14) (L' := [.ref a0, .int a1, ci_junk, ci_junk, ci_junk]) (S' := [.int ((-1))]) rfl ?_
      obtain rfl := Option.some.inj H
      exact ev_8 hc_X12_rid (fe_X12_rid (pc := 14) rfl) rfl
    · rw [if_neg c3] at H
      refine ev_bf hc_X12_rid (fe_X12_rid (pc := 10) rfl) rfl c3 ?_
      refine ev_go hc_X12_rid (k := 2) (pc' := 17) (L' := [.ref a0, .int a1, ci_junk, ci_junk, ci_junk]) (S' := [.ref a0, .ref a0]) rfl ?_
      obtain ⟨v4, ev4, H⟩ := Option.bind_eq_some_iff.mp H
      refine ev_4 hc_X12_rid (fe_X12_rid (pc := 17) rfl) (gR_gf ev4) ?_
      refine ev_go hc_X12_rid (k := 1) (pc' := 21) (L' := [.ref a0, .int a1, ci_junk, ci_junk, ci_junk]) (S' := [.int a1, .ref v4, .ref a0]) rfl ?_
      obtain ⟨q5, eq5, H⟩ := Option.bind_eq_some_iff.mp H
      refine ev_call (vs := [.ref a0, .ref v4, .int a1]) (rest := []) (q := q_X12_keptBy) hc_X12_rid (Or.inr rfl) (fe_X12_rid (pc := 21) rfl) ms_202 rfl rfl (Nat.le_of_ble_eq_true rfl) (kO_recv (K_X12_keptBy eq5)) (E_X12_keptBy eq5 (by omega)) rfl ?_
      show Ev xs N (d + 1) 242 24 [.ref a0, .int a1, ci_junk, ci_junk, ci_junk] [.int q5.1] q5.2 nx _
      refine ev_go hc_X12_rid (k := 5) (pc' := 30) (L' := [.ref a0, .int a1, .int q5.1, .int q5.1, .int 0]) (S' := []) rfl ?_
      exact Ev.weak (ci_le_c (Or.inr rfl) (ci_le_c (Or.inl rfl) (ci_le_c (Or.inr rfl) (ci_le_c (Or.inr rfl) (ci_le_c (Or.inr rfl) (ci_le_n)))))) (eb_X12_rid_30 hd bigN _ _ _ _ H)
  · rw [if_neg ck] at H; cases H
theorem hc_X12_mayKeep : ci_code (ci_Ms 243) = k_X12_mayKeep := rfl
theorem fe_X12_mayKeep {pc : Nat} {w : Option ci_I} (h : (k_X12_mayKeep)[pc]? = some w) : (k_X12_mayKeep)[pc]? = some w := h
def b_X12_mayKeep_13 (l0 : Nat) (l2 : Int32) (l3 : Int32) : Nat → Int32 → ci_H → Option (Int32 × ci_H)
  | 0, _, _ => none
  | n + 1, l4, h => (gI h l0 12 3).bind fun v1 => if v1 ≤ l4 then (some (1, h)) else ((gR h l0 12 0).bind fun v3 => (F_X12_manyOf l0 v3 (l3 ||| l2) l4 h).bind fun q4 => (gI q4.2 l0 12 6).bind fun v5 => (gR q4.2 l0 12 0).bind fun v6 => (F_X12_manyOf l0 v6 l3 l4 q4.2).bind fun q7 => if q4.1 ≤ (if v5 < q7.1 then q7.1 else v5) then (b_X12_mayKeep_13 l0 l2 l3 n (l4 + 1) q7.2) else (some (0, q7.2)))
set_option maxHeartbeats 4000000 in
set_option maxRecDepth 20000 in
theorem eb_X12_mayKeep_13 {xs : Nat → Int32} {N d : Nat} {nx : ci_N} {l0 : Nat} {l2 : Int32} {l3 : Int32} (hd : 1 ≤ d) : ∀ (n : Nat) (l4 : Int32) (h : ci_H) (r : Int32 × ci_H), b_X12_mayKeep_13 l0 l2 l3 n l4 h = some r → Ev xs N (d + 1) 243 13 [.ref l0, ci_junk, .int l2, .int l3, .int l4] [] h nx (oI r nx) := by
  intro n
  induction n with
  | zero => intro l4 h r H; unfold b_X12_mayKeep_13 at H; cases H
  | succ n ih =>
    intro l4 h r H
    unfold b_X12_mayKeep_13 at H
    refine ev_go hc_X12_mayKeep (k := 2) (pc' := 16) (L' := [.ref l0, ci_junk, .int l2, .int l3, .int l4]) (S' := [.ref l0, .int l4]) rfl ?_
    obtain ⟨v1, ev1, H⟩ := Option.bind_eq_some_iff.mp H
    refine ev_4 hc_X12_mayKeep (fe_X12_mayKeep (pc := 16) rfl) (gI_gf ev1) ?_
    by_cases c2 : v1 ≤ l4
    · rw [if_pos c2] at H
      refine ev_bt hc_X12_mayKeep (fe_X12_mayKeep (pc := 19) rfl) rfl c2 ?_
      refine ev_go hc_X12_mayKeep (k := 1) (pc' := 65) (L' := [.ref l0, ci_junk, .int l2, .int l3, .int l4]) (S' := [.int 1]) rfl ?_
      obtain rfl := Option.some.inj H
      exact ev_8z hc_X12_mayKeep (fe_X12_mayKeep (pc := 65) rfl) rfl (Or.inr rfl)
    · rw [if_neg c2] at H
      refine ev_bf hc_X12_mayKeep (fe_X12_mayKeep (pc := 19) rfl) rfl c2 ?_
      refine ev_go hc_X12_mayKeep (k := 2) (pc' := 24) (L' := [.ref l0, ci_junk, .int l2, .int l3, .int l4]) (S' := [.ref l0, .ref l0]) rfl ?_
      obtain ⟨v3, ev3, H⟩ := Option.bind_eq_some_iff.mp H
      refine ev_4 hc_X12_mayKeep (fe_X12_mayKeep (pc := 24) rfl) (gR_gf ev3) ?_
      refine ev_go hc_X12_mayKeep (k := 4) (pc' := 32) (L' := [.ref l0, ci_junk, .int l2, .int l3, .int l4]) (S' := [.int l4, .int (l3 ||| l2), .ref v3, .ref l0]) rfl ?_
      obtain ⟨q4, eq4, H⟩ := Option.bind_eq_some_iff.mp H
      refine ev_call (vs := [.ref l0, .ref v3, .int (l3 ||| l2), .int l4]) (rest := []) (q := q_X12_manyOf) hc_X12_mayKeep (Or.inr rfl) (fe_X12_mayKeep (pc := 32) rfl) ms_204 rfl rfl (Nat.le_of_ble_eq_true rfl) (kO_recv (K_X12_manyOf eq4)) (E_X12_manyOf eq4 (by omega)) rfl ?_
      show Ev xs N (d + 1) 243 35 [.ref l0, ci_junk, .int l2, .int l3, .int l4] [.int q4.1] q4.2 nx _
      refine ev_go hc_X12_mayKeep (k := 1) (pc' := 36) (L' := [.ref l0, ci_junk, .int l2, .int l3, .int l4]) (S' := [.ref l0, .int q4.1]) rfl ?_
      obtain ⟨v5, ev5, H⟩ := Option.bind_eq_some_iff.mp H
      refine ev_4 hc_X12_mayKeep (fe_X12_mayKeep (pc := 36) rfl) (gI_gf ev5) ?_
      refine ev_go hc_X12_mayKeep (k := 2) (pc' := 41) (L' := [.ref l0, ci_junk, .int l2, .int l3, .int l4]) (S' := [.ref l0, .ref l0, .int v5, .int q4.1]) rfl ?_
      obtain ⟨v6, ev6, H⟩ := Option.bind_eq_some_iff.mp H
      refine ev_4 hc_X12_mayKeep (fe_X12_mayKeep (pc := 41) rfl) (gR_gf ev6) ?_
      refine ev_go hc_X12_mayKeep (k := 2) (pc' := 47) (L' := [.ref l0, ci_junk, .int l2, .int l3, .int l4]) (S' := [.int l4, .int l3, .ref v6, .ref l0, .int v5, .int q4.1]) rfl ?_
      obtain ⟨q7, eq7, H⟩ := Option.bind_eq_some_iff.mp H
      refine ev_call (vs := [.ref l0, .ref v6, .int l3, .int l4]) (rest := [.int v5, .int q4.1]) (q := q_X12_manyOf) hc_X12_mayKeep (Or.inr rfl) (fe_X12_mayKeep (pc := 47) rfl) ms_204 rfl rfl (Nat.le_of_ble_eq_true rfl) (kO_recv (K_X12_manyOf eq7)) (E_X12_manyOf eq7 (by omega)) rfl ?_
      show Ev xs N (d + 1) 243 50 [.ref l0, ci_junk, .int l2, .int l3, .int l4] [.int q7.1, .int v5, .int q4.1] q7.2 nx _
      refine ev_15 hc_X12_mayKeep (fe_X12_mayKeep (pc := 50) rfl) (S' := [.int (if v5 < q7.1 then q7.1 else v5), .int q4.1]) rfl ?_
      by_cases c8 : q4.1 ≤ (if v5 < q7.1 then q7.1 else v5)
      · rw [if_pos c8] at H
        refine ev_bt hc_X12_mayKeep (fe_X12_mayKeep (pc := 53) rfl) rfl c8 ?_
        refine ev_go hc_X12_mayKeep (k := 2) (pc' := 13) (L' := [.ref l0, ci_junk, .int l2, .int l3, .int (l4 + 1)]) (S' := []) rfl ?_
        exact Ev.weak (ci_le_c (Or.inr rfl) (ci_le_c (Or.inl rfl) (ci_le_c (Or.inr rfl) (ci_le_c (Or.inr rfl) (ci_le_c (Or.inr rfl) (ci_le_n)))))) (ih _ _ _ H)
      · rw [if_neg c8] at H
        refine ev_bf hc_X12_mayKeep (fe_X12_mayKeep (pc := 53) rfl) rfl c8 ?_
        refine ev_go hc_X12_mayKeep (k := 1) (pc' := 57) (L' := [.ref l0, ci_junk, .int l2, .int l3, .int l4]) (S' := [.int 0]) rfl ?_
        obtain rfl := Option.some.inj H
        exact ev_8z hc_X12_mayKeep (fe_X12_mayKeep (pc := 57) rfl) rfl (Or.inl rfl)
def F_X12_mayKeep (a0 : Nat) (a1 : Int32) (a2 : Int32) (h : ci_H) : Option (Int32 × ci_H) := if kO h a0 = some 12 then ((gR h a0 12 0).bind fun v1 => (F_X12_keptBy a0 v1 a1 h).bind fun q2 => b_X12_mayKeep_13 a0 a2 q2.1 bigN 0 q2.2) else none
theorem K_X12_mayKeep {a0 : Nat} {a1 : Int32} {a2 : Int32} {h : ci_H} {r : Int32 × ci_H} (H : F_X12_mayKeep a0 a1 a2 h = some r) : kO h a0 = some 12 := by
  unfold F_X12_mayKeep at H
  by_cases c : kO h a0 = some 12
  · exact c
  · rw [if_neg c] at H; cases H
set_option maxHeartbeats 4000000 in
set_option maxRecDepth 20000 in
theorem E_X12_mayKeep {xs : Nat → Int32} {N d : Nat} {nx : ci_N} {a0 : Nat} {a1 : Int32} {a2 : Int32} {h : ci_H} {r : Int32 × ci_H} (H : F_X12_mayKeep a0 a1 a2 h = some r) (hd : 2 ≤ d) : Ev xs N d 243 0 (ci_entry [.ref a0, .int a1, .int a2] 5) [] h nx (oI r nx) := by
  obtain ⟨d, rfl⟩ : ∃ d2, d = d2 + 1 := ⟨d - 1, by omega⟩
  have hd : 1 ≤ d := by omega
  unfold F_X12_mayKeep at H
  by_cases ck : kO h a0 = some 12
  · rw [if_pos ck] at H
    show Ev xs N (d + 1) 243 0 [.ref a0, .int a1, .int a2, ci_junk, ci_junk] [] h nx _
    refine ev_go hc_X12_mayKeep (k := 2) (pc' := 2) (L' := [.ref a0, .int a1, .int a2, ci_junk, ci_junk]) (S' := [.ref a0, .ref a0]) rfl ?_
    obtain ⟨v1, ev1, H⟩ := Option.bind_eq_some_iff.mp H
    refine ev_4 hc_X12_mayKeep (fe_X12_mayKeep (pc := 2) rfl) (gR_gf ev1) ?_
    refine ev_go hc_X12_mayKeep (k := 1) (pc' := 6) (L' := [.ref a0, .int a1, .int a2, ci_junk, ci_junk]) (S' := [.int a1, .ref v1, .ref a0]) rfl ?_
    obtain ⟨q2, eq2, H⟩ := Option.bind_eq_some_iff.mp H
    refine ev_call (vs := [.ref a0, .ref v1, .int a1]) (rest := []) (q := q_X12_keptBy) hc_X12_mayKeep (Or.inr rfl) (fe_X12_mayKeep (pc := 6) rfl) ms_202 rfl rfl (Nat.le_of_ble_eq_true rfl) (kO_recv (K_X12_keptBy eq2)) (E_X12_keptBy eq2 (by omega)) rfl ?_
    show Ev xs N (d + 1) 243 9 [.ref a0, .int a1, .int a2, ci_junk, ci_junk] [.int q2.1] q2.2 nx _
    refine ev_go hc_X12_mayKeep (k := 3) (pc' := 13) (L' := [.ref a0, .int a1, .int a2, .int q2.1, .int 0]) (S' := []) rfl ?_
    exact Ev.weak (ci_le_c (Or.inr rfl) (ci_le_c (Or.inl rfl) (ci_le_c (Or.inr rfl) (ci_le_c (Or.inr rfl) (ci_le_c (Or.inr rfl) (ci_le_n)))))) (eb_X12_mayKeep_13 hd bigN _ _ _ H)
  · rw [if_neg ck] at H; cases H
theorem hc_X12_most : ci_code (ci_Ms 244) = k_X12_most := rfl
theorem fe_X12_most {pc : Nat} {w : Option ci_I} (h : (k_X12_most)[pc]? = some w) : (k_X12_most)[pc]? = some w := h
def b_X12_most_113 (r_82 : Int32 → Int32 → ci_H → Option (Int32 × ci_H)) (l0 : Nat) (l1 : Int32) (l3 : Int32) (l5 : Int32) (s0 : Int32) (s1 : Int32)  (h : ci_H) : Option (Int32 × ci_H) := r_82 (s0 + s1) (l5 + 1) h
set_option maxHeartbeats 4000000 in
set_option maxRecDepth 20000 in
theorem eb_X12_most_113 {xs : Nat → Int32} {N d : Nat} {nx : ci_N} {r_82 : Int32 → Int32 → ci_H → Option (Int32 × ci_H)} {l0 : Nat} {l1 : Int32} {l3 : Int32} {l5 : Int32} {s0 : Int32} {s1 : Int32} (hd : 105 ≤ d) (h_82 : ∀ (l4 : Int32) (l5 : Int32) (h : ci_H) (r : Int32 × ci_H), r_82 l4 l5 h = some r → Ev xs N (d + 1) 244 82 [.ref l0, .int l1, ci_junk, .int l3, .int l4, .int l5] [] h nx (oI r nx)) {h : ci_H} {r : Int32 × ci_H} (H : b_X12_most_113 r_82 l0 l1 l3 l5 s0 s1 h = some r) : Ev xs N (d + 1) 244 113 [.ref l0, .int l1, ci_junk, .int l3, ci_junk, .int l5] [.int s1, .int s0] h nx (oI r nx) := by
  unfold b_X12_most_113 at H
  refine ev_go hc_X12_most (k := 4) (pc' := 82) (L' := [.ref l0, .int l1, ci_junk, .int l3, .int (s0 + s1), .int (l5 + 1)]) (S' := []) rfl ?_
  exact Ev.weak (ci_le_c (Or.inr rfl) (ci_le_c (Or.inr rfl) (ci_le_c (Or.inl rfl) (ci_le_c (Or.inr rfl) (ci_le_c (Or.inr rfl) (ci_le_c (Or.inr rfl) (ci_le_n))))))) (h_82 _ _ _ _ H)
def b_X12_most_82 (l0 : Nat) (l1 : Int32) (l3 : Int32) : Nat → Int32 → Int32 → ci_H → Option (Int32 × ci_H)
  | 0, _, _, _ => none
  | n + 1, l4, l5, h => (gI h l0 12 2).bind fun v1 => if v1 ≤ l5 then ((pF h l0 12 10 (.int 0)).bind fun h3 => (F_X12_tell l0 ((l3 : Int32).toInt64) h3).bind fun h4 => (F_X12_tell l0 ((l4 : Int32).toInt64) h4).bind fun h5 => (F_J6_bitCount_0f7a4 l3 h5).bind fun q6 => some (q6.1, q6.2)) else ((F_X12_has l3 l5 h).bind fun q7 => if q7.1 = 0 then (b_X12_most_113 (fun x0 x1 x2 => b_X12_most_82 l0 l1 l3 n x0 x1 x2) l0 l1 l3 l5 l4 0 q7.2) else ((F_X12_worthOf l0 l5 l1 q7.2).bind fun q9 => b_X12_most_113 (fun x0 x1 x2 => b_X12_most_82 l0 l1 l3 n x0 x1 x2) l0 l1 l3 l5 l4 q9.1 q9.2))
set_option maxHeartbeats 4000000 in
set_option maxRecDepth 20000 in
theorem eb_X12_most_82 {xs : Nat → Int32} {N d : Nat} {nx : ci_N} {l0 : Nat} {l1 : Int32} {l3 : Int32} (hd : 105 ≤ d) : ∀ (n : Nat) (l4 : Int32) (l5 : Int32) (h : ci_H) (r : Int32 × ci_H), b_X12_most_82 l0 l1 l3 n l4 l5 h = some r → Ev xs N (d + 1) 244 82 [.ref l0, .int l1, ci_junk, .int l3, .int l4, .int l5] [] h nx (oI r nx) := by
  intro n
  induction n with
  | zero => intro l4 l5 h r H; unfold b_X12_most_82 at H; cases H
  | succ n ih =>
    intro l4 l5 h r H
    unfold b_X12_most_82 at H
    refine ev_go hc_X12_most (k := 2) (pc' := 85) (L' := [.ref l0, .int l1, ci_junk, .int l3, .int l4, .int l5]) (S' := [.ref l0, .int l5]) rfl ?_
    obtain ⟨v1, ev1, H⟩ := Option.bind_eq_some_iff.mp H
    refine ev_4 hc_X12_most (fe_X12_most (pc := 85) rfl) (gI_gf ev1) ?_
    by_cases c2 : v1 ≤ l5
    · rw [if_pos c2] at H
      refine ev_bt hc_X12_most (fe_X12_most (pc := 88) rfl) rfl c2 ?_
      refine ev_go hc_X12_most (k := 2) (pc' := 124) (L' := [.ref l0, .int l1, ci_junk, .int l3, .int l4, .int l5]) (S' := [.int 0, .ref l0]) rfl ?_
      obtain ⟨h3, eh3, H⟩ := Option.bind_eq_some_iff.mp H
      refine ev_5 hc_X12_most (fe_X12_most (pc := 124) rfl) (pF_pf eh3) ?_
      refine ev_go hc_X12_most (k := 3) (pc' := 130) (L' := [.ref l0, .int l1, ci_junk, .int l3, .int l4, .int l5]) (S' := [.long ((l3 : Int32).toInt64), .ref l0]) rfl ?_
      obtain ⟨h4, eh4, H⟩ := Option.bind_eq_some_iff.mp H
      refine ev_call (vs := [.ref l0, .long ((l3 : Int32).toInt64)]) (rest := []) (q := q_X12_tell) hc_X12_most (Or.inr rfl) (fe_X12_most (pc := 130) rfl) ms_173 rfl rfl (Nat.le_of_ble_eq_true rfl) (kO_recv (K_X12_tell eh4)) (E_X12_tell eh4 (by omega)) rfl ?_
      show Ev xs N (d + 1) 244 133 [.ref l0, .int l1, ci_junk, .int l3, .int l4, .int l5] [] h4 nx _
      refine ev_go hc_X12_most (k := 3) (pc' := 137) (L' := [.ref l0, .int l1, ci_junk, .int l3, .int l4, .int l5]) (S' := [.long ((l4 : Int32).toInt64), .ref l0]) rfl ?_
      obtain ⟨h5, eh5, H⟩ := Option.bind_eq_some_iff.mp H
      refine ev_call (vs := [.ref l0, .long ((l4 : Int32).toInt64)]) (rest := []) (q := q_X12_tell) hc_X12_most (Or.inr rfl) (fe_X12_most (pc := 137) rfl) ms_173 rfl rfl (Nat.le_of_ble_eq_true rfl) (kO_recv (K_X12_tell eh5)) (E_X12_tell eh5 (by omega)) rfl ?_
      show Ev xs N (d + 1) 244 140 [.ref l0, .int l1, ci_junk, .int l3, .int l4, .int l5] [] h5 nx _
      refine ev_go hc_X12_most (k := 1) (pc' := 141) (L' := [.ref l0, .int l1, ci_junk, .int l3, .int l4, .int l5]) (S' := [.int l3]) rfl ?_
      obtain ⟨q6, eq6, H⟩ := Option.bind_eq_some_iff.mp H
      refine ev_call (vs := [.int l3]) (rest := []) (q := q_J6_bitCount_0f7a4) hc_X12_most (Or.inl rfl) (fe_X12_most (pc := 141) rfl) ms_285 rfl rfl (Nat.le_of_ble_eq_true rfl) rfl (E_J6_bitCount_0f7a4 eq6 (by omega)) rfl ?_
      show Ev xs N (d + 1) 244 144 [.ref l0, .int l1, ci_junk, .int l3, .int l4, .int l5] [.int q6.1] q6.2 nx _
      obtain rfl := Option.some.inj H
      exact ev_8 hc_X12_most (fe_X12_most (pc := 144) rfl) rfl
    · rw [if_neg c2] at H
      refine ev_bf hc_X12_most (fe_X12_most (pc := 88) rfl) rfl c2 ?_
      refine ev_go hc_X12_most (k := 3) (pc' := 96) (L' := [.ref l0, .int l1, ci_junk, .int l3, .int l4, .int l5]) (S' := [.int l5, .int l3, .int l4]) rfl ?_
      obtain ⟨q7, eq7, H⟩ := Option.bind_eq_some_iff.mp H
      refine ev_call (vs := [.int l3, .int l5]) (rest := [.int l4]) (q := q_X12_has) hc_X12_most (Or.inl rfl) (fe_X12_most (pc := 96) rfl) ms_171 rfl rfl (Nat.le_of_ble_eq_true rfl) rfl (E_X12_has eq7 (by omega)) rfl ?_
      show Ev xs N (d + 1) 244 99 [.ref l0, .int l1, ci_junk, .int l3, .int l4, .int l5] [.int q7.1, .int l4] q7.2 nx _
      by_cases c8 : q7.1 = 0
      · rw [if_pos c8] at H
        refine ev_bt hc_X12_most (fe_X12_most (pc := 99) rfl) rfl c8 ?_
        refine ev_go hc_X12_most (k := 1) (pc' := 113) (L' := [.ref l0, .int l1, ci_junk, .int l3, .int l4, .int l5]) (S' := [.int 0, .int l4]) rfl ?_
        exact Ev.weak (ci_le_c (Or.inr rfl) (ci_le_c (Or.inr rfl) (ci_le_c (Or.inl rfl) (ci_le_c (Or.inr rfl) (ci_le_c (Or.inl rfl) (ci_le_c (Or.inr rfl) (ci_le_n))))))) (eb_X12_most_113 hd ih H)
      · rw [if_neg c8] at H
        refine ev_bf hc_X12_most (fe_X12_most (pc := 99) rfl) rfl c8 ?_
        refine ev_go hc_X12_most (k := 3) (pc' := 106) (L' := [.ref l0, .int l1, ci_junk, .int l3, .int l4, .int l5]) (S' := [.int l1, .int l5, .ref l0, .int l4]) rfl ?_
        obtain ⟨q9, eq9, H⟩ := Option.bind_eq_some_iff.mp H
        refine ev_call (vs := [.ref l0, .int l5, .int l1]) (rest := [.int l4]) (q := q_X12_worthOf) hc_X12_most (Or.inr rfl) (fe_X12_most (pc := 106) rfl) ms_208 rfl rfl (Nat.le_of_ble_eq_true rfl) (kO_recv (K_X12_worthOf eq9)) (E_X12_worthOf eq9 (by omega)) rfl ?_
        show Ev xs N (d + 1) 244 109 [.ref l0, .int l1, ci_junk, .int l3, .int l4, .int l5] [.int q9.1, .int l4] q9.2 nx _
        refine ev_go hc_X12_most (k := 1) (pc' := 113) (L' := [.ref l0, .int l1, ci_junk, .int l3, .int l4, .int l5]) (S' := [.int q9.1, .int l4]) rfl ?_
        exact Ev.weak (ci_le_c (Or.inr rfl) (ci_le_c (Or.inr rfl) (ci_le_c (Or.inl rfl) (ci_le_c (Or.inr rfl) (ci_le_c (Or.inl rfl) (ci_le_c (Or.inr rfl) (ci_le_n))))))) (eb_X12_most_113 hd ih H)
def b_X12_most_70 (r_30 : Int32 → Int32 → ci_H → Option (Int32 × ci_H)) (l0 : Nat) (l1 : Int32) (l2 : Int32) (l3 : Int32) (l4 : Int32)  (h : ci_H) : Option (Int32 × ci_H) := r_30 l3 (l4 + 1) h
set_option maxHeartbeats 4000000 in
set_option maxRecDepth 20000 in
theorem eb_X12_most_70 {xs : Nat → Int32} {N d : Nat} {nx : ci_N} {r_30 : Int32 → Int32 → ci_H → Option (Int32 × ci_H)} {l0 : Nat} {l1 : Int32} {l2 : Int32} {l3 : Int32} {l4 : Int32} (hd : 105 ≤ d) (h_30 : ∀ (l3 : Int32) (l4 : Int32) (h : ci_H) (r : Int32 × ci_H), r_30 l3 l4 h = some r → Ev xs N (d + 1) 244 30 [.ref l0, .int l1, .int l2, .int l3, .int l4, ci_junk] [] h nx (oI r nx)) {h : ci_H} {r : Int32 × ci_H} (H : b_X12_most_70 r_30 l0 l1 l2 l3 l4 h = some r) : Ev xs N (d + 1) 244 70 [.ref l0, .int l1, .int l2, .int l3, .int l4, ci_junk] [] h nx (oI r nx) := by
  unfold b_X12_most_70 at H
  refine ev_go hc_X12_most (k := 2) (pc' := 30) (L' := [.ref l0, .int l1, .int l2, .int l3, .int (l4 + 1), ci_junk]) (S' := []) rfl ?_
  exact Ev.weak (ci_le_c (Or.inr rfl) (ci_le_c (Or.inr rfl) (ci_le_c (Or.inr rfl) (ci_le_c (Or.inr rfl) (ci_le_c (Or.inr rfl) (ci_le_c (Or.inl rfl) (ci_le_n))))))) (h_30 _ _ _ _ H)
def b_X12_most_30 (l0 : Nat) (l1 : Int32) (l2 : Int32) : Nat → Int32 → Int32 → ci_H → Option (Int32 × ci_H)
  | 0, _, _, _ => none
  | n + 1, l3, l4, h => if l2 < l4 then (b_X12_most_82 l0 l1 l3 bigN 0 0 h) else (if (l4 &&& (l2 ^^^ ((-1)))) = 0 then ((F_J6_bitCount_0f7a4 l4 h).bind fun q3 => (F_J6_bitCount_0f7a4 l3 q3.2).bind fun q4 => if q3.1 ≤ q4.1 then (b_X12_most_70 (fun x0 x1 x2 => b_X12_most_30 l0 l1 l2 n x0 x1 x2) l0 l1 l2 l3 l4 q4.2) else ((F_X12_mayKeep l0 l1 l4 q4.2).bind fun q6 => if q6.1 = 0 then (b_X12_most_70 (fun x0 x1 x2 => b_X12_most_30 l0 l1 l2 n x0 x1 x2) l0 l1 l2 l3 l4 q6.2) else (b_X12_most_70 (fun x0 x1 x2 => b_X12_most_30 l0 l1 l2 n x0 x1 x2) l0 l1 l2 l4 l4 q6.2))) else (b_X12_most_70 (fun x0 x1 x2 => b_X12_most_30 l0 l1 l2 n x0 x1 x2) l0 l1 l2 l3 l4 h))
set_option maxHeartbeats 4000000 in
set_option maxRecDepth 20000 in
theorem eb_X12_most_30 {xs : Nat → Int32} {N d : Nat} {nx : ci_N} {l0 : Nat} {l1 : Int32} {l2 : Int32} (hd : 105 ≤ d) : ∀ (n : Nat) (l3 : Int32) (l4 : Int32) (h : ci_H) (r : Int32 × ci_H), b_X12_most_30 l0 l1 l2 n l3 l4 h = some r → Ev xs N (d + 1) 244 30 [.ref l0, .int l1, .int l2, .int l3, .int l4, ci_junk] [] h nx (oI r nx) := by
  intro n
  induction n with
  | zero => intro l3 l4 h r H; unfold b_X12_most_30 at H; cases H
  | succ n ih =>
    intro l3 l4 h r H
    unfold b_X12_most_30 at H
    refine ev_go hc_X12_most (k := 2) (pc' := 33) (L' := [.ref l0, .int l1, .int l2, .int l3, .int l4, ci_junk]) (S' := [.int l2, .int l4]) rfl ?_
    by_cases c1 : l2 < l4
    · rw [if_pos c1] at H
      refine ev_bt hc_X12_most (fe_X12_most (pc := 33) rfl) rfl c1 ?_
      refine ev_go hc_X12_most (k := 4) (pc' := 82) (L' := [.ref l0, .int l1, .int l2, .int l3, .int 0, .int 0]) (S' := []) rfl ?_
      exact Ev.weak (ci_le_c (Or.inr rfl) (ci_le_c (Or.inr rfl) (ci_le_c (Or.inl rfl) (ci_le_c (Or.inr rfl) (ci_le_c (Or.inr rfl) (ci_le_c (Or.inr rfl) (ci_le_n))))))) (eb_X12_most_82 hd bigN _ _ _ _ H)
    · rw [if_neg c1] at H
      refine ev_bf hc_X12_most (fe_X12_most (pc := 33) rfl) rfl c1 ?_
      refine ev_go hc_X12_most (k := 5) (pc' := 42) (L' := [.ref l0, .int l1, .int l2, .int l3, .int l4, ci_junk]) (S' := [.int (l4 &&& (l2 ^^^ ((-1))))]) rfl ?_
      by_cases c2 : (l4 &&& (l2 ^^^ ((-1)))) = 0
      · rw [if_pos c2] at H
        refine ev_bt hc_X12_most (fe_X12_most (pc := 42) rfl) rfl c2 ?_
        refine ev_go hc_X12_most (k := 1) (pc' := 47) (L' := [.ref l0, .int l1, .int l2, .int l3, .int l4, ci_junk]) (S' := [.int l4]) rfl ?_
        obtain ⟨q3, eq3, H⟩ := Option.bind_eq_some_iff.mp H
        refine ev_call (vs := [.int l4]) (rest := []) (q := q_J6_bitCount_0f7a4) hc_X12_most (Or.inl rfl) (fe_X12_most (pc := 47) rfl) ms_285 rfl rfl (Nat.le_of_ble_eq_true rfl) rfl (E_J6_bitCount_0f7a4 eq3 (by omega)) rfl ?_
        show Ev xs N (d + 1) 244 50 [.ref l0, .int l1, .int l2, .int l3, .int l4, ci_junk] [.int q3.1] q3.2 nx _
        refine ev_go hc_X12_most (k := 1) (pc' := 51) (L' := [.ref l0, .int l1, .int l2, .int l3, .int l4, ci_junk]) (S' := [.int l3, .int q3.1]) rfl ?_
        obtain ⟨q4, eq4, H⟩ := Option.bind_eq_some_iff.mp H
        refine ev_call (vs := [.int l3]) (rest := [.int q3.1]) (q := q_J6_bitCount_0f7a4) hc_X12_most (Or.inl rfl) (fe_X12_most (pc := 51) rfl) ms_285 rfl rfl (Nat.le_of_ble_eq_true rfl) rfl (E_J6_bitCount_0f7a4 eq4 (by omega)) rfl ?_
        show Ev xs N (d + 1) 244 54 [.ref l0, .int l1, .int l2, .int l3, .int l4, ci_junk] [.int q4.1, .int q3.1] q4.2 nx _
        by_cases c5 : q3.1 ≤ q4.1
        · rw [if_pos c5] at H
          refine ev_bt hc_X12_most (fe_X12_most (pc := 54) rfl) rfl c5 ?_
          exact Ev.weak (ci_le_c (Or.inr rfl) (ci_le_c (Or.inr rfl) (ci_le_c (Or.inr rfl) (ci_le_c (Or.inr rfl) (ci_le_c (Or.inr rfl) (ci_le_c (Or.inl rfl) (ci_le_n))))))) (eb_X12_most_70 hd ih H)
        · rw [if_neg c5] at H
          refine ev_bf hc_X12_most (fe_X12_most (pc := 54) rfl) rfl c5 ?_
          refine ev_go hc_X12_most (k := 3) (pc' := 61) (L' := [.ref l0, .int l1, .int l2, .int l3, .int l4, ci_junk]) (S' := [.int l4, .int l1, .ref l0]) rfl ?_
          obtain ⟨q6, eq6, H⟩ := Option.bind_eq_some_iff.mp H
          refine ev_call (vs := [.ref l0, .int l1, .int l4]) (rest := []) (q := q_X12_mayKeep) hc_X12_most (Or.inr rfl) (fe_X12_most (pc := 61) rfl) ms_243 rfl rfl (Nat.le_of_ble_eq_true rfl) (kO_recv (K_X12_mayKeep eq6)) (E_X12_mayKeep eq6 (by omega)) rfl ?_
          show Ev xs N (d + 1) 244 64 [.ref l0, .int l1, .int l2, .int l3, .int l4, ci_junk] [.int q6.1] q6.2 nx _
          by_cases c7 : q6.1 = 0
          · rw [if_pos c7] at H
            refine ev_bt hc_X12_most (fe_X12_most (pc := 64) rfl) rfl c7 ?_
            exact Ev.weak (ci_le_c (Or.inr rfl) (ci_le_c (Or.inr rfl) (ci_le_c (Or.inr rfl) (ci_le_c (Or.inr rfl) (ci_le_c (Or.inr rfl) (ci_le_c (Or.inl rfl) (ci_le_n))))))) (eb_X12_most_70 hd ih H)
          · rw [if_neg c7] at H
            refine ev_bf hc_X12_most (fe_X12_most (pc := 64) rfl) rfl c7 ?_
            refine ev_go hc_X12_most (k := 2) (pc' := 70) (L' := [.ref l0, .int l1, .int l2, .int l4, .int l4, ci_junk]) (S' := []) rfl ?_
            exact Ev.weak (ci_le_c (Or.inr rfl) (ci_le_c (Or.inr rfl) (ci_le_c (Or.inr rfl) (ci_le_c (Or.inr rfl) (ci_le_c (Or.inr rfl) (ci_le_c (Or.inl rfl) (ci_le_n))))))) (eb_X12_most_70 hd ih H)
      · rw [if_neg c2] at H
        refine ev_bf hc_X12_most (fe_X12_most (pc := 42) rfl) rfl c2 ?_
        exact Ev.weak (ci_le_c (Or.inr rfl) (ci_le_c (Or.inr rfl) (ci_le_c (Or.inr rfl) (ci_le_c (Or.inr rfl) (ci_le_c (Or.inr rfl) (ci_le_c (Or.inl rfl) (ci_le_n))))))) (eb_X12_most_70 hd ih H)
def F_X12_most (a0 : Nat) (a1 : Int32) (h : ci_H) : Option (Int32 × ci_H) := if kO h a0 = some 12 then ((pF h a0 12 11 (.int 0)).bind fun h1 => (F_X12_isHouse a0 a1 h1).bind fun q2 => if q2.1 = 0 then (some ((-1), q2.2)) else ((gR q2.2 a0 12 0).bind fun v4 => (F_X12_ownedBy a0 v4 ((-1)) q2.2).bind fun q5 => b_X12_most_30 a0 a1 q5.1 bigN 0 1 q5.2)) else none
theorem K_X12_most {a0 : Nat} {a1 : Int32} {h : ci_H} {r : Int32 × ci_H} (H : F_X12_most a0 a1 h = some r) : kO h a0 = some 12 := by
  unfold F_X12_most at H
  by_cases c : kO h a0 = some 12
  · exact c
  · rw [if_neg c] at H; cases H
set_option maxHeartbeats 4000000 in
set_option maxRecDepth 20000 in
theorem E_X12_most {xs : Nat → Int32} {N d : Nat} {nx : ci_N} {a0 : Nat} {a1 : Int32} {h : ci_H} {r : Int32 × ci_H} (H : F_X12_most a0 a1 h = some r) (hd : 106 ≤ d) : Ev xs N d 244 0 (ci_entry [.ref a0, .int a1] 6) [] h nx (oI r nx) := by
  obtain ⟨d, rfl⟩ : ∃ d2, d = d2 + 1 := ⟨d - 1, by omega⟩
  have hd : 105 ≤ d := by omega
  unfold F_X12_most at H
  by_cases ck : kO h a0 = some 12
  · rw [if_pos ck] at H
    show Ev xs N (d + 1) 244 0 [.ref a0, .int a1, ci_junk, ci_junk, ci_junk, ci_junk] [] h nx _
    refine ev_go hc_X12_most (k := 2) (pc' := 2) (L' := [.ref a0, .int a1, ci_junk, ci_junk, ci_junk, ci_junk]) (S' := [.int 0, .ref a0]) rfl ?_
    obtain ⟨h1, eh1, H⟩ := Option.bind_eq_some_iff.mp H
    refine ev_5 hc_X12_most (fe_X12_most (pc := 2) rfl) (pF_pf eh1) ?_
    refine ev_go hc_X12_most (k := 2) (pc' := 7) (L' := [.ref a0, .int a1, ci_junk, ci_junk, ci_junk, ci_junk]) (S' := [.int a1, .ref a0]) rfl ?_
    obtain ⟨q2, eq2, H⟩ := Option.bind_eq_some_iff.mp H
    refine ev_call (vs := [.ref a0, .int a1]) (rest := []) (q := q_X12_isHouse) hc_X12_most (Or.inr rfl) (fe_X12_most (pc := 7) rfl) ms_175 rfl rfl (Nat.le_of_ble_eq_true rfl) (kO_recv (K_X12_isHouse eq2)) (E_X12_isHouse eq2 (by omega)) rfl ?_
    show Ev xs N (d + 1) 244 10 [.ref a0, .int a1, ci_junk, ci_junk, ci_junk, ci_junk] [.int q2.1] q2.2 nx _
    by_cases c3 : q2.1 = 0
    · rw [if_pos c3] at H
      refine ev_bt hc_X12_most (fe_X12_most (pc := 10) rfl) rfl c3 ?_
      refine ev_go hc_X12_most (k := 1) (pc' := 14) (L' := [.ref a0, .int a1, ci_junk, ci_junk, ci_junk, ci_junk]) (S' := [.int ((-1))]) rfl ?_
      obtain rfl := Option.some.inj H
      exact ev_8 hc_X12_most (fe_X12_most (pc := 14) rfl) rfl
    · rw [if_neg c3] at H
      refine ev_bf hc_X12_most (fe_X12_most (pc := 10) rfl) rfl c3 ?_
      refine ev_go hc_X12_most (k := 2) (pc' := 17) (L' := [.ref a0, .int a1, ci_junk, ci_junk, ci_junk, ci_junk]) (S' := [.ref a0, .ref a0]) rfl ?_
      obtain ⟨v4, ev4, H⟩ := Option.bind_eq_some_iff.mp H
      refine ev_4 hc_X12_most (fe_X12_most (pc := 17) rfl) (gR_gf ev4) ?_
      refine ev_go hc_X12_most (k := 1) (pc' := 21) (L' := [.ref a0, .int a1, ci_junk, ci_junk, ci_junk, ci_junk]) (S' := [.int ((-1)), .ref v4, .ref a0]) rfl ?_
      obtain ⟨q5, eq5, H⟩ := Option.bind_eq_some_iff.mp H
      refine ev_call (vs := [.ref a0, .ref v4, .int ((-1))]) (rest := []) (q := q_X12_ownedBy) hc_X12_most (Or.inr rfl) (fe_X12_most (pc := 21) rfl) ms_203 rfl rfl (Nat.le_of_ble_eq_true rfl) (kO_recv (K_X12_ownedBy eq5)) (E_X12_ownedBy eq5 (by omega)) rfl ?_
      show Ev xs N (d + 1) 244 24 [.ref a0, .int a1, ci_junk, ci_junk, ci_junk, ci_junk] [.int q5.1] q5.2 nx _
      refine ev_go hc_X12_most (k := 5) (pc' := 30) (L' := [.ref a0, .int a1, .int q5.1, .int 0, .int 1, ci_junk]) (S' := []) rfl ?_
      exact Ev.weak (ci_le_c (Or.inr rfl) (ci_le_c (Or.inr rfl) (ci_le_c (Or.inr rfl) (ci_le_c (Or.inr rfl) (ci_le_c (Or.inr rfl) (ci_le_c (Or.inl rfl) (ci_le_n))))))) (eb_X12_most_30 hd bigN _ _ _ _ H)
  · rw [if_neg ck] at H; cases H
theorem hc_X12_alike : ci_code (ci_Ms 245) = k_X12_alike := rfl
theorem fe_X12_alike {pc : Nat} {w : Option ci_I} (h : (k_X12_alike)[pc]? = some w) : (k_X12_alike)[pc]? = some w := h
def F_X12_alike (a0 : Nat) (a1 : Int32) (a2 : Int32) (h : ci_H) : Option (Int32 × ci_H) := if kO h a0 = some 12 then ((pF h a0 12 11 (.int 0)).bind fun h1 => (F_X12_isThing a0 a1 h1).bind fun q2 => if q2.1 = 0 then (some ((-1), q2.2)) else ((F_X12_isThing a0 a2 q2.2).bind fun q4 => if q4.1 = 0 then (some ((-1), q4.2)) else ((pF q4.2 a0 12 10 (.int 0)).bind fun h6 => (gR h6 a0 12 0).bind fun v7 => (rI h6 v7 a1).bind fun v8 => (gR h6 a0 12 0).bind fun v9 => (rI h6 v9 a2).bind fun v10 => (F_X12_tell a0 ((v8 &&& v10 : Int32).toInt64) h6).bind fun h11 => (gR h11 a0 12 0).bind fun v12 => (rI h11 v12 a1).bind fun v13 => (F_X12_kindsOf a0 v13 h11).bind fun q14 => (gR q14.2 a0 12 0).bind fun v15 => (rI q14.2 v15 a2).bind fun v16 => (F_X12_kindsOf a0 v16 q14.2).bind fun q17 => (F_X12_tell a0 ((q14.1 &&& q17.1 : Int32).toInt64) q17.2).bind fun h18 => (gR h18 a0 12 0).bind fun v19 => (rI h18 v19 a1).bind fun v20 => (gR h18 a0 12 0).bind fun v21 => (rI h18 v21 a2).bind fun v22 => (F_J6_bitCount_0f7a4 (v20 ^^^ v22) h18).bind fun q23 => some (6 - q23.1, q23.2)))) else none
theorem K_X12_alike {a0 : Nat} {a1 : Int32} {a2 : Int32} {h : ci_H} {r : Int32 × ci_H} (H : F_X12_alike a0 a1 a2 h = some r) : kO h a0 = some 12 := by
  unfold F_X12_alike at H
  by_cases c : kO h a0 = some 12
  · exact c
  · rw [if_neg c] at H; cases H
set_option maxHeartbeats 4000000 in
set_option maxRecDepth 20000 in
theorem E_X12_alike {xs : Nat → Int32} {N d : Nat} {nx : ci_N} {a0 : Nat} {a1 : Int32} {a2 : Int32} {h : ci_H} {r : Int32 × ci_H} (H : F_X12_alike a0 a1 a2 h = some r) (hd : 2 ≤ d) : Ev xs N d 245 0 (ci_entry [.ref a0, .int a1, .int a2] 3) [] h nx (oI r nx) := by
  obtain ⟨d, rfl⟩ : ∃ d2, d = d2 + 1 := ⟨d - 1, by omega⟩
  have hd : 1 ≤ d := by omega
  unfold F_X12_alike at H
  by_cases ck : kO h a0 = some 12
  · rw [if_pos ck] at H
    show Ev xs N (d + 1) 245 0 [.ref a0, .int a1, .int a2] [] h nx _
    refine ev_go hc_X12_alike (k := 2) (pc' := 2) (L' := [.ref a0, .int a1, .int a2]) (S' := [.int 0, .ref a0]) rfl ?_
    obtain ⟨h1, eh1, H⟩ := Option.bind_eq_some_iff.mp H
    refine ev_5 hc_X12_alike (fe_X12_alike (pc := 2) rfl) (pF_pf eh1) ?_
    refine ev_go hc_X12_alike (k := 2) (pc' := 7) (L' := [.ref a0, .int a1, .int a2]) (S' := [.int a1, .ref a0]) rfl ?_
    obtain ⟨q2, eq2, H⟩ := Option.bind_eq_some_iff.mp H
    refine ev_call (vs := [.ref a0, .int a1]) (rest := []) (q := q_X12_isThing) hc_X12_alike (Or.inr rfl) (fe_X12_alike (pc := 7) rfl) ms_174 rfl rfl (Nat.le_of_ble_eq_true rfl) (kO_recv (K_X12_isThing eq2)) (E_X12_isThing eq2 (by omega)) rfl ?_
    show Ev xs N (d + 1) 245 10 [.ref a0, .int a1, .int a2] [.int q2.1] q2.2 nx _
    by_cases c3 : q2.1 = 0
    · rw [if_pos c3] at H
      refine ev_bt hc_X12_alike (fe_X12_alike (pc := 10) rfl) rfl c3 ?_
      refine ev_go hc_X12_alike (k := 1) (pc' := 22) (L' := [.ref a0, .int a1, .int a2]) (S' := [.int ((-1))]) rfl ?_
      obtain rfl := Option.some.inj H
      exact ev_8 hc_X12_alike (fe_X12_alike (pc := 22) rfl) rfl
    · rw [if_neg c3] at H
      refine ev_bf hc_X12_alike (fe_X12_alike (pc := 10) rfl) rfl c3 ?_
      refine ev_go hc_X12_alike (k := 2) (pc' := 15) (L' := [.ref a0, .int a1, .int a2]) (S' := [.int a2, .ref a0]) rfl ?_
      obtain ⟨q4, eq4, H⟩ := Option.bind_eq_some_iff.mp H
      refine ev_call (vs := [.ref a0, .int a2]) (rest := []) (q := q_X12_isThing) hc_X12_alike (Or.inr rfl) (fe_X12_alike (pc := 15) rfl) ms_174 rfl rfl (Nat.le_of_ble_eq_true rfl) (kO_recv (K_X12_isThing eq4)) (E_X12_isThing eq4 (by omega)) rfl ?_
      show Ev xs N (d + 1) 245 18 [.ref a0, .int a1, .int a2] [.int q4.1] q4.2 nx _
      by_cases c5 : q4.1 = 0
      · rw [if_pos c5] at H
        refine ev_bt hc_X12_alike (fe_X12_alike (pc := 18) rfl) rfl c5 ?_
        refine ev_go hc_X12_alike (k := 1) (pc' := 22) (L' := [.ref a0, .int a1, .int a2]) (S' := [.int ((-1))]) rfl ?_
        obtain rfl := Option.some.inj H
        exact ev_8 hc_X12_alike (fe_X12_alike (pc := 22) rfl) rfl
      · rw [if_neg c5] at H
        refine ev_bf hc_X12_alike (fe_X12_alike (pc := 18) rfl) rfl c5 ?_
        refine ev_go hc_X12_alike (k := 2) (pc' := 25) (L' := [.ref a0, .int a1, .int a2]) (S' := [.int 0, .ref a0]) rfl ?_
        obtain ⟨h6, eh6, H⟩ := Option.bind_eq_some_iff.mp H
        refine ev_5 hc_X12_alike (fe_X12_alike (pc := 25) rfl) (pF_pf eh6) ?_
        refine ev_go hc_X12_alike (k := 2) (pc' := 30) (L' := [.ref a0, .int a1, .int a2]) (S' := [.ref a0, .ref a0]) rfl ?_
        obtain ⟨v7, ev7, H⟩ := Option.bind_eq_some_iff.mp H
        refine ev_4 hc_X12_alike (fe_X12_alike (pc := 30) rfl) (gR_gf ev7) ?_
        refine ev_go hc_X12_alike (k := 1) (pc' := 34) (L' := [.ref a0, .int a1, .int a2]) (S' := [.int a1, .ref v7, .ref a0]) rfl ?_
        obtain ⟨v8, ev8, H⟩ := Option.bind_eq_some_iff.mp H
        refine ev_4 hc_X12_alike (fe_X12_alike (pc := 34) rfl) (rI_al ev8) ?_
        refine ev_go hc_X12_alike (k := 1) (pc' := 36) (L' := [.ref a0, .int a1, .int a2]) (S' := [.ref a0, .int v8, .ref a0]) rfl ?_
        obtain ⟨v9, ev9, H⟩ := Option.bind_eq_some_iff.mp H
        refine ev_4 hc_X12_alike (fe_X12_alike (pc := 36) rfl) (gR_gf ev9) ?_
        refine ev_go hc_X12_alike (k := 1) (pc' := 40) (L' := [.ref a0, .int a1, .int a2]) (S' := [.int a2, .ref v9, .int v8, .ref a0]) rfl ?_
        obtain ⟨v10, ev10, H⟩ := Option.bind_eq_some_iff.mp H
        refine ev_4 hc_X12_alike (fe_X12_alike (pc := 40) rfl) (rI_al ev10) ?_
        refine ev_go hc_X12_alike (k := 2) (pc' := 43) (L' := [.ref a0, .int a1, .int a2]) (S' := [.long ((v8 &&& v10 : Int32).toInt64), .ref a0]) rfl ?_
        obtain ⟨h11, eh11, H⟩ := Option.bind_eq_some_iff.mp H
        refine ev_call (vs := [.ref a0, .long ((v8 &&& v10 : Int32).toInt64)]) (rest := []) (q := q_X12_tell) hc_X12_alike (Or.inr rfl) (fe_X12_alike (pc := 43) rfl) ms_173 rfl rfl (Nat.le_of_ble_eq_true rfl) (kO_recv (K_X12_tell eh11)) (E_X12_tell eh11 (by omega)) rfl ?_
        show Ev xs N (d + 1) 245 46 [.ref a0, .int a1, .int a2] [] h11 nx _
        refine ev_go hc_X12_alike (k := 3) (pc' := 49) (L' := [.ref a0, .int a1, .int a2]) (S' := [.ref a0, .ref a0, .ref a0]) rfl ?_
        obtain ⟨v12, ev12, H⟩ := Option.bind_eq_some_iff.mp H
        refine ev_4 hc_X12_alike (fe_X12_alike (pc := 49) rfl) (gR_gf ev12) ?_
        refine ev_go hc_X12_alike (k := 1) (pc' := 53) (L' := [.ref a0, .int a1, .int a2]) (S' := [.int a1, .ref v12, .ref a0, .ref a0]) rfl ?_
        obtain ⟨v13, ev13, H⟩ := Option.bind_eq_some_iff.mp H
        refine ev_4 hc_X12_alike (fe_X12_alike (pc := 53) rfl) (rI_al ev13) ?_
        obtain ⟨q14, eq14, H⟩ := Option.bind_eq_some_iff.mp H
        refine ev_call (vs := [.ref a0, .int v13]) (rest := [.ref a0]) (q := q_X12_kindsOf) hc_X12_alike (Or.inr rfl) (fe_X12_alike (pc := 54) rfl) ms_201 rfl rfl (Nat.le_of_ble_eq_true rfl) (kO_recv (K_X12_kindsOf eq14)) (E_X12_kindsOf eq14 (by omega)) rfl ?_
        show Ev xs N (d + 1) 245 57 [.ref a0, .int a1, .int a2] [.int q14.1, .ref a0] q14.2 nx _
        refine ev_go hc_X12_alike (k := 2) (pc' := 59) (L' := [.ref a0, .int a1, .int a2]) (S' := [.ref a0, .ref a0, .int q14.1, .ref a0]) rfl ?_
        obtain ⟨v15, ev15, H⟩ := Option.bind_eq_some_iff.mp H
        refine ev_4 hc_X12_alike (fe_X12_alike (pc := 59) rfl) (gR_gf ev15) ?_
        refine ev_go hc_X12_alike (k := 1) (pc' := 63) (L' := [.ref a0, .int a1, .int a2]) (S' := [.int a2, .ref v15, .ref a0, .int q14.1, .ref a0]) rfl ?_
        obtain ⟨v16, ev16, H⟩ := Option.bind_eq_some_iff.mp H
        refine ev_4 hc_X12_alike (fe_X12_alike (pc := 63) rfl) (rI_al ev16) ?_
        obtain ⟨q17, eq17, H⟩ := Option.bind_eq_some_iff.mp H
        refine ev_call (vs := [.ref a0, .int v16]) (rest := [.int q14.1, .ref a0]) (q := q_X12_kindsOf) hc_X12_alike (Or.inr rfl) (fe_X12_alike (pc := 64) rfl) ms_201 rfl rfl (Nat.le_of_ble_eq_true rfl) (kO_recv (K_X12_kindsOf eq17)) (E_X12_kindsOf eq17 (by omega)) rfl ?_
        show Ev xs N (d + 1) 245 67 [.ref a0, .int a1, .int a2] [.int q17.1, .int q14.1, .ref a0] q17.2 nx _
        refine ev_go hc_X12_alike (k := 2) (pc' := 69) (L' := [.ref a0, .int a1, .int a2]) (S' := [.long ((q14.1 &&& q17.1 : Int32).toInt64), .ref a0]) rfl ?_
        obtain ⟨h18, eh18, H⟩ := Option.bind_eq_some_iff.mp H
        refine ev_call (vs := [.ref a0, .long ((q14.1 &&& q17.1 : Int32).toInt64)]) (rest := []) (q := q_X12_tell) hc_X12_alike (Or.inr rfl) (fe_X12_alike (pc := 69) rfl) ms_173 rfl rfl (Nat.le_of_ble_eq_true rfl) (kO_recv (K_X12_tell eh18)) (E_X12_tell eh18 (by omega)) rfl ?_
        show Ev xs N (d + 1) 245 72 [.ref a0, .int a1, .int a2] [] h18 nx _
        refine ev_go hc_X12_alike (k := 2) (pc' := 75) (L' := [.ref a0, .int a1, .int a2]) (S' := [.ref a0, .int 6]) rfl ?_
        obtain ⟨v19, ev19, H⟩ := Option.bind_eq_some_iff.mp H
        refine ev_4 hc_X12_alike (fe_X12_alike (pc := 75) rfl) (gR_gf ev19) ?_
        refine ev_go hc_X12_alike (k := 1) (pc' := 79) (L' := [.ref a0, .int a1, .int a2]) (S' := [.int a1, .ref v19, .int 6]) rfl ?_
        obtain ⟨v20, ev20, H⟩ := Option.bind_eq_some_iff.mp H
        refine ev_4 hc_X12_alike (fe_X12_alike (pc := 79) rfl) (rI_al ev20) ?_
        refine ev_go hc_X12_alike (k := 1) (pc' := 81) (L' := [.ref a0, .int a1, .int a2]) (S' := [.ref a0, .int v20, .int 6]) rfl ?_
        obtain ⟨v21, ev21, H⟩ := Option.bind_eq_some_iff.mp H
        refine ev_4 hc_X12_alike (fe_X12_alike (pc := 81) rfl) (gR_gf ev21) ?_
        refine ev_go hc_X12_alike (k := 1) (pc' := 85) (L' := [.ref a0, .int a1, .int a2]) (S' := [.int a2, .ref v21, .int v20, .int 6]) rfl ?_
        obtain ⟨v22, ev22, H⟩ := Option.bind_eq_some_iff.mp H
        refine ev_4 hc_X12_alike (fe_X12_alike (pc := 85) rfl) (rI_al ev22) ?_
        refine ev_go hc_X12_alike (k := 1) (pc' := 87) (L' := [.ref a0, .int a1, .int a2]) (S' := [.int (v20 ^^^ v22), .int 6]) rfl ?_
        obtain ⟨q23, eq23, H⟩ := Option.bind_eq_some_iff.mp H
        refine ev_call (vs := [.int (v20 ^^^ v22)]) (rest := [.int 6]) (q := q_J6_bitCount_0f7a4) hc_X12_alike (Or.inl rfl) (fe_X12_alike (pc := 87) rfl) ms_285 rfl rfl (Nat.le_of_ble_eq_true rfl) rfl (E_J6_bitCount_0f7a4 eq23 (by omega)) rfl ?_
        show Ev xs N (d + 1) 245 90 [.ref a0, .int a1, .int a2] [.int q23.1, .int 6] q23.2 nx _
        refine ev_go hc_X12_alike (k := 1) (pc' := 91) (L' := [.ref a0, .int a1, .int a2]) (S' := [.int (6 - q23.1)]) rfl ?_
        obtain rfl := Option.some.inj H
        exact ev_8 hc_X12_alike (fe_X12_alike (pc := 91) rfl) rfl
  · rw [if_neg ck] at H; cases H
