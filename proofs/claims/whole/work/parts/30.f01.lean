theorem hc_X6_copy : ci_code (ci_Ms 38) = k_X6_copy := rfl
theorem fe_X6_copy {pc : Nat} {w : Option ci_I} (h : (k_X6_copy)[pc]? = some w) : (k_X6_copy)[pc]? = some w := h
def F_X6_copy (a0 : Nat) (a1 : Nat) (h : ci_H) : Option (ci_H) := if kO h a0 = some 6 then ((gR h a1 6 0).bind fun v1 => (gR h a0 6 0).bind fun v2 => (cpI h v1 0 v2 0 12).bind fun h3 => (gR h3 a1 6 1).bind fun v4 => (gR h3 a0 6 1).bind fun v5 => (cpI h3 v4 0 v5 0 12).bind fun h6 => (gR h6 a1 6 2).bind fun v7 => (gR h6 a0 6 2).bind fun v8 => (cpI h6 v7 0 v8 0 12).bind fun h9 => (gR h9 a1 6 3).bind fun v10 => (gR h9 a0 6 3).bind fun v11 => (cpI h9 v10 0 v11 0 5).bind fun h12 => (gI h12 a1 6 4).bind fun v13 => (pF h12 a0 6 4 (.int v13)).bind fun h14 => some h14) else none
theorem K_X6_copy {a0 : Nat} {a1 : Nat} {h : ci_H} {r : ci_H} (H : F_X6_copy a0 a1 h = some r) : kO h a0 = some 6 := by
  unfold F_X6_copy at H
  by_cases c : kO h a0 = some 6
  · exact c
  · rw [if_neg c] at H; cases H
set_option maxHeartbeats 4000000 in
set_option maxRecDepth 20000 in
theorem E_X6_copy {xs : Nat → Int32} {N d : Nat} {nx : ci_N} {a0 : Nat} {a1 : Nat} {h : ci_H} {r : ci_H} (H : F_X6_copy a0 a1 h = some r) (hd : 0 ≤ d) : Ev xs N d 38 0 (ci_entry [.ref a0, .ref a1] 2) [] h nx (oV r nx) := by
  unfold F_X6_copy at H
  by_cases ck : kO h a0 = some 6
  · rw [if_pos ck] at H
    show Ev xs N d 38 0 [.ref a0, .ref a1] [] h nx _
    refine ev_go hc_X6_copy (k := 1) (pc' := 1) (L' := [.ref a0, .ref a1]) (S' := [.ref a1]) rfl ?_
    obtain ⟨v1, ev1, H⟩ := Option.bind_eq_some_iff.mp H
    refine ev_4 hc_X6_copy (fe_X6_copy (pc := 1) rfl) (gR_gf ev1) ?_
    refine ev_go hc_X6_copy (k := 2) (pc' := 6) (L' := [.ref a0, .ref a1]) (S' := [.ref a0, .int 0, .ref v1]) rfl ?_
    obtain ⟨v2, ev2, H⟩ := Option.bind_eq_some_iff.mp H
    refine ev_4 hc_X6_copy (fe_X6_copy (pc := 6) rfl) (gR_gf ev2) ?_
    refine ev_go hc_X6_copy (k := 2) (pc' := 12) (L' := [.ref a0, .ref a1]) (S' := [.int 12, .int 0, .ref v2, .int 0, .ref v1]) rfl ?_
    obtain ⟨h3, eh3, H⟩ := Option.bind_eq_some_iff.mp H
    refine ev_5 hc_X6_copy (fe_X6_copy (pc := 12) rfl) (cpI_cp eh3) ?_
    refine ev_go hc_X6_copy (k := 1) (pc' := 16) (L' := [.ref a0, .ref a1]) (S' := [.ref a1]) rfl ?_
    obtain ⟨v4, ev4, H⟩ := Option.bind_eq_some_iff.mp H
    refine ev_4 hc_X6_copy (fe_X6_copy (pc := 16) rfl) (gR_gf ev4) ?_
    refine ev_go hc_X6_copy (k := 2) (pc' := 21) (L' := [.ref a0, .ref a1]) (S' := [.ref a0, .int 0, .ref v4]) rfl ?_
    obtain ⟨v5, ev5, H⟩ := Option.bind_eq_some_iff.mp H
    refine ev_4 hc_X6_copy (fe_X6_copy (pc := 21) rfl) (gR_gf ev5) ?_
    refine ev_go hc_X6_copy (k := 2) (pc' := 27) (L' := [.ref a0, .ref a1]) (S' := [.int 12, .int 0, .ref v5, .int 0, .ref v4]) rfl ?_
    obtain ⟨h6, eh6, H⟩ := Option.bind_eq_some_iff.mp H
    refine ev_5 hc_X6_copy (fe_X6_copy (pc := 27) rfl) (cpI_cp eh6) ?_
    refine ev_go hc_X6_copy (k := 1) (pc' := 31) (L' := [.ref a0, .ref a1]) (S' := [.ref a1]) rfl ?_
    obtain ⟨v7, ev7, H⟩ := Option.bind_eq_some_iff.mp H
    refine ev_4 hc_X6_copy (fe_X6_copy (pc := 31) rfl) (gR_gf ev7) ?_
    refine ev_go hc_X6_copy (k := 2) (pc' := 36) (L' := [.ref a0, .ref a1]) (S' := [.ref a0, .int 0, .ref v7]) rfl ?_
    obtain ⟨v8, ev8, H⟩ := Option.bind_eq_some_iff.mp H
    refine ev_4 hc_X6_copy (fe_X6_copy (pc := 36) rfl) (gR_gf ev8) ?_
    refine ev_go hc_X6_copy (k := 2) (pc' := 42) (L' := [.ref a0, .ref a1]) (S' := [.int 12, .int 0, .ref v8, .int 0, .ref v7]) rfl ?_
    obtain ⟨h9, eh9, H⟩ := Option.bind_eq_some_iff.mp H
    refine ev_5 hc_X6_copy (fe_X6_copy (pc := 42) rfl) (cpI_cp eh9) ?_
    refine ev_go hc_X6_copy (k := 1) (pc' := 46) (L' := [.ref a0, .ref a1]) (S' := [.ref a1]) rfl ?_
    obtain ⟨v10, ev10, H⟩ := Option.bind_eq_some_iff.mp H
    refine ev_4 hc_X6_copy (fe_X6_copy (pc := 46) rfl) (gR_gf ev10) ?_
    refine ev_go hc_X6_copy (k := 2) (pc' := 51) (L' := [.ref a0, .ref a1]) (S' := [.ref a0, .int 0, .ref v10]) rfl ?_
    obtain ⟨v11, ev11, H⟩ := Option.bind_eq_some_iff.mp H
    refine ev_4 hc_X6_copy (fe_X6_copy (pc := 51) rfl) (gR_gf ev11) ?_
    refine ev_go hc_X6_copy (k := 2) (pc' := 56) (L' := [.ref a0, .ref a1]) (S' := [.int 5, .int 0, .ref v11, .int 0, .ref v10]) rfl ?_
    obtain ⟨h12, eh12, H⟩ := Option.bind_eq_some_iff.mp H
    refine ev_5 hc_X6_copy (fe_X6_copy (pc := 56) rfl) (cpI_cp eh12) ?_
    refine ev_go hc_X6_copy (k := 2) (pc' := 61) (L' := [.ref a0, .ref a1]) (S' := [.ref a1, .ref a0]) rfl ?_
    obtain ⟨v13, ev13, H⟩ := Option.bind_eq_some_iff.mp H
    refine ev_4 hc_X6_copy (fe_X6_copy (pc := 61) rfl) (gI_gf ev13) ?_
    obtain ⟨h14, eh14, H⟩ := Option.bind_eq_some_iff.mp H
    refine ev_5 hc_X6_copy (fe_X6_copy (pc := 64) rfl) (pF_pf eh14) ?_
    obtain rfl := Option.some.inj H
    exact ev_8 hc_X6_copy (fe_X6_copy (pc := 67) rfl) rfl
  · rw [if_neg ck] at H; cases H
theorem hc_X2_mark : ci_code (ci_Ms 11) = k_X2_mark := rfl
theorem fe_X2_mark {pc : Nat} {w : Option ci_I} (h : (k_X2_mark)[pc]? = some w) : (k_X2_mark)[pc]? = some w := h
def F_X2_mark (a0 : Nat) (a1 : Nat) (h : ci_H) : Option (ci_H) := if kO h a0 = some 2 then ((gR h a0 2 0).bind fun v1 => (gI h a0 2 2).bind fun v2 => (F_X2_place a0 v2 h).bind fun q3 => (rR q3.2 v1 q3.1).bind fun v4 => (F_X6_copy v4 a1 q3.2).bind fun h5 => some h5) else none
theorem K_X2_mark {a0 : Nat} {a1 : Nat} {h : ci_H} {r : ci_H} (H : F_X2_mark a0 a1 h = some r) : kO h a0 = some 2 := by
  unfold F_X2_mark at H
  by_cases c : kO h a0 = some 2
  · exact c
  · rw [if_neg c] at H; cases H
set_option maxHeartbeats 4000000 in
set_option maxRecDepth 20000 in
theorem E_X2_mark {xs : Nat → Int32} {N d : Nat} {nx : ci_N} {a0 : Nat} {a1 : Nat} {h : ci_H} {r : ci_H} (H : F_X2_mark a0 a1 h = some r) (hd : 1 ≤ d) : Ev xs N d 11 0 (ci_entry [.ref a0, .ref a1] 2) [] h nx (oV r nx) := by
  obtain ⟨d, rfl⟩ : ∃ d2, d = d2 + 1 := ⟨d - 1, by omega⟩
  have hd : 0 ≤ d := by omega
  unfold F_X2_mark at H
  by_cases ck : kO h a0 = some 2
  · rw [if_pos ck] at H
    show Ev xs N (d + 1) 11 0 [.ref a0, .ref a1] [] h nx _
    refine ev_go hc_X2_mark (k := 1) (pc' := 1) (L' := [.ref a0, .ref a1]) (S' := [.ref a0]) rfl ?_
    obtain ⟨v1, ev1, H⟩ := Option.bind_eq_some_iff.mp H
    refine ev_4 hc_X2_mark (fe_X2_mark (pc := 1) rfl) (gR_gf ev1) ?_
    refine ev_go hc_X2_mark (k := 2) (pc' := 6) (L' := [.ref a0, .ref a1]) (S' := [.ref a0, .ref a0, .ref v1]) rfl ?_
    obtain ⟨v2, ev2, H⟩ := Option.bind_eq_some_iff.mp H
    refine ev_4 hc_X2_mark (fe_X2_mark (pc := 6) rfl) (gI_gf ev2) ?_
    obtain ⟨q3, eq3, H⟩ := Option.bind_eq_some_iff.mp H
    refine ev_call (vs := [.ref a0, .int v2]) (rest := [.ref v1]) (q := q_X2_place) hc_X2_mark (Or.inr rfl) (fe_X2_mark (pc := 9) rfl) ms_14 rfl rfl (Nat.le_of_ble_eq_true rfl) (kO_recv (K_X2_place eq3)) (E_X2_place eq3 (by omega)) rfl ?_
    show Ev xs N (d + 1) 11 12 [.ref a0, .ref a1] [.int q3.1, .ref v1] q3.2 nx _
    obtain ⟨v4, ev4, H⟩ := Option.bind_eq_some_iff.mp H
    refine ev_4 hc_X2_mark (fe_X2_mark (pc := 12) rfl) (rR_al ev4) ?_
    refine ev_go hc_X2_mark (k := 1) (pc' := 14) (L' := [.ref a0, .ref a1]) (S' := [.ref a1, .ref v4]) rfl ?_
    obtain ⟨h5, eh5, H⟩ := Option.bind_eq_some_iff.mp H
    refine ev_call (vs := [.ref v4, .ref a1]) (rest := []) (q := q_X6_copy) hc_X2_mark (Or.inr rfl) (fe_X2_mark (pc := 14) rfl) ms_38 rfl rfl (Nat.le_of_ble_eq_true rfl) (kO_recv (K_X6_copy eh5)) (E_X6_copy eh5 (by omega)) rfl ?_
    show Ev xs N (d + 1) 11 17 [.ref a0, .ref a1] [] h5 nx _
    obtain rfl := Option.some.inj H
    exact ev_8 hc_X2_mark (fe_X2_mark (pc := 17) rfl) rfl
  · rw [if_neg ck] at H; cases H
theorem hc_X2_hold : ci_code (ci_Ms 12) = k_X2_hold := rfl
theorem fe_X2_hold {pc : Nat} {w : Option ci_I} (h : (k_X2_hold)[pc]? = some w) : (k_X2_hold)[pc]? = some w := h
def F_X2_hold (a0 : Nat) (h : ci_H) : Option (ci_H) := if kO h a0 = some 2 then ((gI h a0 2 2).bind fun v1 => if 12 ≤ v1 then ((F_X2_place a0 1 h).bind fun q3 => (pF q3.2 a0 2 1 (.int q3.1)).bind fun h4 => some h4) else ((gI h a0 2 2).bind fun v5 => (pF h a0 2 2 (.int (v5 + 1))).bind fun h6 => some h6)) else none
theorem K_X2_hold {a0 : Nat} {h : ci_H} {r : ci_H} (H : F_X2_hold a0 h = some r) : kO h a0 = some 2 := by
  unfold F_X2_hold at H
  by_cases c : kO h a0 = some 2
  · exact c
  · rw [if_neg c] at H; cases H
set_option maxHeartbeats 4000000 in
set_option maxRecDepth 20000 in
theorem E_X2_hold {xs : Nat → Int32} {N d : Nat} {nx : ci_N} {a0 : Nat} {h : ci_H} {r : ci_H} (H : F_X2_hold a0 h = some r) (hd : 1 ≤ d) : Ev xs N d 12 0 (ci_entry [.ref a0] 1) [] h nx (oV r nx) := by
  obtain ⟨d, rfl⟩ : ∃ d2, d = d2 + 1 := ⟨d - 1, by omega⟩
  have hd : 0 ≤ d := by omega
  unfold F_X2_hold at H
  by_cases ck : kO h a0 = some 2
  · rw [if_pos ck] at H
    show Ev xs N (d + 1) 12 0 [.ref a0] [] h nx _
    refine ev_go hc_X2_hold (k := 1) (pc' := 1) (L' := [.ref a0]) (S' := [.ref a0]) rfl ?_
    obtain ⟨v1, ev1, H⟩ := Option.bind_eq_some_iff.mp H
    refine ev_4 hc_X2_hold (fe_X2_hold (pc := 1) rfl) (gI_gf ev1) ?_
    refine ev_go hc_X2_hold (k := 1) (pc' := 6) (L' := [.ref a0]) (S' := [.int 12, .int v1]) rfl ?_
    by_cases c2 : 12 ≤ v1
    · rw [if_pos c2] at H
      refine ev_bt hc_X2_hold (fe_X2_hold (pc := 6) rfl) rfl c2 ?_
      refine ev_go hc_X2_hold (k := 3) (pc' := 25) (L' := [.ref a0]) (S' := [.int 1, .ref a0, .ref a0]) rfl ?_
      obtain ⟨q3, eq3, H⟩ := Option.bind_eq_some_iff.mp H
      refine ev_call (vs := [.ref a0, .int 1]) (rest := [.ref a0]) (q := q_X2_place) hc_X2_hold (Or.inr rfl) (fe_X2_hold (pc := 25) rfl) ms_14 rfl rfl (Nat.le_of_ble_eq_true rfl) (kO_recv (K_X2_place eq3)) (E_X2_place eq3 (by omega)) rfl ?_
      show Ev xs N (d + 1) 12 28 [.ref a0] [.int q3.1, .ref a0] q3.2 nx _
      obtain ⟨h4, eh4, H⟩ := Option.bind_eq_some_iff.mp H
      refine ev_5 hc_X2_hold (fe_X2_hold (pc := 28) rfl) (pF_pf eh4) ?_
      obtain rfl := Option.some.inj H
      exact ev_8 hc_X2_hold (fe_X2_hold (pc := 31) rfl) rfl
    · rw [if_neg c2] at H
      refine ev_bf hc_X2_hold (fe_X2_hold (pc := 6) rfl) rfl c2 ?_
      refine ev_go hc_X2_hold (k := 2) (pc' := 11) (L' := [.ref a0]) (S' := [.ref a0, .ref a0]) rfl ?_
      obtain ⟨v5, ev5, H⟩ := Option.bind_eq_some_iff.mp H
      refine ev_4 hc_X2_hold (fe_X2_hold (pc := 11) rfl) (gI_gf ev5) ?_
      refine ev_go hc_X2_hold (k := 2) (pc' := 16) (L' := [.ref a0]) (S' := [.int (v5 + 1), .ref a0]) rfl ?_
      obtain ⟨h6, eh6, H⟩ := Option.bind_eq_some_iff.mp H
      refine ev_5 hc_X2_hold (fe_X2_hold (pc := 16) rfl) (pF_pf eh6) ?_
      refine ev_go hc_X2_hold (k := 1) (pc' := 31) (L' := [.ref a0]) (S' := []) rfl ?_
      obtain rfl := Option.some.inj H
      exact ev_8 hc_X2_hold (fe_X2_hold (pc := 31) rfl) rfl
  · rw [if_neg ck] at H; cases H
theorem hc_X2_stepBack : ci_code (ci_Ms 13) = k_X2_stepBack := rfl
theorem fe_X2_stepBack {pc : Nat} {w : Option ci_I} (h : (k_X2_stepBack)[pc]? = some w) : (k_X2_stepBack)[pc]? = some w := h
def F_X2_stepBack (a0 : Nat) (a1 : Nat) (h : ci_H) : Option (ci_H) := if kO h a0 = some 2 then ((gI h a0 2 2).bind fun v1 => if v1 ≤ 0 then (some h) else ((gI h a0 2 2).bind fun v3 => (pF h a0 2 2 (.int (v3 - 1))).bind fun h4 => (gR h4 a0 2 0).bind fun v5 => (gI h4 a0 2 2).bind fun v6 => (F_X2_place a0 v6 h4).bind fun q7 => (rR q7.2 v5 q7.1).bind fun v8 => (F_X6_copy a1 v8 q7.2).bind fun h9 => some h9)) else none
theorem K_X2_stepBack {a0 : Nat} {a1 : Nat} {h : ci_H} {r : ci_H} (H : F_X2_stepBack a0 a1 h = some r) : kO h a0 = some 2 := by
  unfold F_X2_stepBack at H
  by_cases c : kO h a0 = some 2
  · exact c
  · rw [if_neg c] at H; cases H
set_option maxHeartbeats 4000000 in
set_option maxRecDepth 20000 in
theorem E_X2_stepBack {xs : Nat → Int32} {N d : Nat} {nx : ci_N} {a0 : Nat} {a1 : Nat} {h : ci_H} {r : ci_H} (H : F_X2_stepBack a0 a1 h = some r) (hd : 1 ≤ d) : Ev xs N d 13 0 (ci_entry [.ref a0, .ref a1] 2) [] h nx (oV r nx) := by
  obtain ⟨d, rfl⟩ : ∃ d2, d = d2 + 1 := ⟨d - 1, by omega⟩
  have hd : 0 ≤ d := by omega
  unfold F_X2_stepBack at H
  by_cases ck : kO h a0 = some 2
  · rw [if_pos ck] at H
    show Ev xs N (d + 1) 13 0 [.ref a0, .ref a1] [] h nx _
    refine ev_go hc_X2_stepBack (k := 1) (pc' := 1) (L' := [.ref a0, .ref a1]) (S' := [.ref a0]) rfl ?_
    obtain ⟨v1, ev1, H⟩ := Option.bind_eq_some_iff.mp H
    refine ev_4 hc_X2_stepBack (fe_X2_stepBack (pc := 1) rfl) (gI_gf ev1) ?_
    by_cases c2 : v1 ≤ 0
    · rw [if_pos c2] at H
      refine ev_bt hc_X2_stepBack (fe_X2_stepBack (pc := 4) rfl) rfl c2 ?_
      obtain rfl := Option.some.inj H
      exact ev_8 hc_X2_stepBack (fe_X2_stepBack (pc := 34) rfl) rfl
    · rw [if_neg c2] at H
      refine ev_bf hc_X2_stepBack (fe_X2_stepBack (pc := 4) rfl) rfl c2 ?_
      refine ev_go hc_X2_stepBack (k := 2) (pc' := 9) (L' := [.ref a0, .ref a1]) (S' := [.ref a0, .ref a0]) rfl ?_
      obtain ⟨v3, ev3, H⟩ := Option.bind_eq_some_iff.mp H
      refine ev_4 hc_X2_stepBack (fe_X2_stepBack (pc := 9) rfl) (gI_gf ev3) ?_
      refine ev_go hc_X2_stepBack (k := 2) (pc' := 14) (L' := [.ref a0, .ref a1]) (S' := [.int (v3 - 1), .ref a0]) rfl ?_
      obtain ⟨h4, eh4, H⟩ := Option.bind_eq_some_iff.mp H
      refine ev_5 hc_X2_stepBack (fe_X2_stepBack (pc := 14) rfl) (pF_pf eh4) ?_
      refine ev_go hc_X2_stepBack (k := 2) (pc' := 19) (L' := [.ref a0, .ref a1]) (S' := [.ref a0, .ref a1]) rfl ?_
      obtain ⟨v5, ev5, H⟩ := Option.bind_eq_some_iff.mp H
      refine ev_4 hc_X2_stepBack (fe_X2_stepBack (pc := 19) rfl) (gR_gf ev5) ?_
      refine ev_go hc_X2_stepBack (k := 2) (pc' := 24) (L' := [.ref a0, .ref a1]) (S' := [.ref a0, .ref a0, .ref v5, .ref a1]) rfl ?_
      obtain ⟨v6, ev6, H⟩ := Option.bind_eq_some_iff.mp H
      refine ev_4 hc_X2_stepBack (fe_X2_stepBack (pc := 24) rfl) (gI_gf ev6) ?_
      obtain ⟨q7, eq7, H⟩ := Option.bind_eq_some_iff.mp H
      refine ev_call (vs := [.ref a0, .int v6]) (rest := [.ref v5, .ref a1]) (q := q_X2_place) hc_X2_stepBack (Or.inr rfl) (fe_X2_stepBack (pc := 27) rfl) ms_14 rfl rfl (Nat.le_of_ble_eq_true rfl) (kO_recv (K_X2_place eq7)) (E_X2_place eq7 (by omega)) rfl ?_
      show Ev xs N (d + 1) 13 30 [.ref a0, .ref a1] [.int q7.1, .ref v5, .ref a1] q7.2 nx _
      obtain ⟨v8, ev8, H⟩ := Option.bind_eq_some_iff.mp H
      refine ev_4 hc_X2_stepBack (fe_X2_stepBack (pc := 30) rfl) (rR_al ev8) ?_
      obtain ⟨h9, eh9, H⟩ := Option.bind_eq_some_iff.mp H
      refine ev_call (vs := [.ref a1, .ref v8]) (rest := []) (q := q_X6_copy) hc_X2_stepBack (Or.inr rfl) (fe_X2_stepBack (pc := 31) rfl) ms_38 rfl rfl (Nat.le_of_ble_eq_true rfl) (kO_recv (K_X6_copy eh9)) (E_X6_copy eh9 (by omega)) rfl ?_
      show Ev xs N (d + 1) 13 34 [.ref a0, .ref a1] [] h9 nx _
      obtain rfl := Option.some.inj H
      exact ev_8 hc_X2_stepBack (fe_X2_stepBack (pc := 34) rfl) rfl
  · rw [if_neg ck] at H; cases H
theorem hc_X3_mark : ci_code (ci_Ms 18) = k_X3_mark := rfl
theorem fe_X3_mark {pc : Nat} {w : Option ci_I} (h : (k_X3_mark)[pc]? = some w) : (k_X3_mark)[pc]? = some w := h
def F_X3_mark (a0 : Nat) (a1 : Int32) (a2 : Int32) (h : ci_H) : Option (ci_H) := if kO h a0 = some 3 then (if a1 < 1 then (some h) else (if a1 ≤ a2 then (if 64 ≤ a1 then ((gL h a0 3 1).bind fun v4 => (pF h a0 3 1 (.long (v4 ||| ((Int64.ofNat 1) <<< ((a1 - 64 : Int32).toInt64 &&& 63))))).bind fun h5 => some h5) else ((gL h a0 3 0).bind fun v6 => (pF h a0 3 0 (.long (v6 ||| ((Int64.ofNat 1) <<< ((a1 : Int32).toInt64 &&& 63))))).bind fun h7 => some h7)) else (some h))) else none
theorem K_X3_mark {a0 : Nat} {a1 : Int32} {a2 : Int32} {h : ci_H} {r : ci_H} (H : F_X3_mark a0 a1 a2 h = some r) : kO h a0 = some 3 := by
  unfold F_X3_mark at H
  by_cases c : kO h a0 = some 3
  · exact c
  · rw [if_neg c] at H; cases H
set_option maxHeartbeats 4000000 in
set_option maxRecDepth 20000 in
theorem E_X3_mark {xs : Nat → Int32} {N d : Nat} {nx : ci_N} {a0 : Nat} {a1 : Int32} {a2 : Int32} {h : ci_H} {r : ci_H} (H : F_X3_mark a0 a1 a2 h = some r) (hd : 0 ≤ d) : Ev xs N d 18 0 (ci_entry [.ref a0, .int a1, .int a2] 3) [] h nx (oV r nx) := by
  unfold F_X3_mark at H
  by_cases ck : kO h a0 = some 3
  · rw [if_pos ck] at H
    show Ev xs N d 18 0 [.ref a0, .int a1, .int a2] [] h nx _
    refine ev_go hc_X3_mark (k := 2) (pc' := 2) (L' := [.ref a0, .int a1, .int a2]) (S' := [.int 1, .int a1]) rfl ?_
    by_cases c1 : a1 < 1
    · rw [if_pos c1] at H
      refine ev_bt hc_X3_mark (fe_X3_mark (pc := 2) rfl) rfl c1 ?_
      obtain rfl := Option.some.inj H
      exact ev_8 hc_X3_mark (fe_X3_mark (pc := 10) rfl) rfl
    · rw [if_neg c1] at H
      refine ev_bf hc_X3_mark (fe_X3_mark (pc := 2) rfl) rfl c1 ?_
      refine ev_go hc_X3_mark (k := 2) (pc' := 7) (L' := [.ref a0, .int a1, .int a2]) (S' := [.int a2, .int a1]) rfl ?_
      by_cases c2 : a1 ≤ a2
      · rw [if_pos c2] at H
        refine ev_bt hc_X3_mark (fe_X3_mark (pc := 7) rfl) rfl c2 ?_
        refine ev_go hc_X3_mark (k := 2) (pc' := 14) (L' := [.ref a0, .int a1, .int a2]) (S' := [.int 64, .int a1]) rfl ?_
        by_cases c3 : 64 ≤ a1
        · rw [if_pos c3] at H
          refine ev_bt hc_X3_mark (fe_X3_mark (pc := 14) rfl) rfl c3 ?_
          refine ev_go hc_X3_mark (k := 2) (pc' := 34) (L' := [.ref a0, .int a1, .int a2]) (S' := [.ref a0, .ref a0]) rfl ?_
          obtain ⟨v4, ev4, H⟩ := Option.bind_eq_some_iff.mp H
          refine ev_4 hc_X3_mark (fe_X3_mark (pc := 34) rfl) (gL_gf ev4) ?_
          refine ev_go hc_X3_mark (k := 6) (pc' := 44) (L' := [.ref a0, .int a1, .int a2]) (S' := [.long (v4 ||| ((Int64.ofNat 1) <<< ((a1 - 64 : Int32).toInt64 &&& 63))), .ref a0]) rfl ?_
          obtain ⟨h5, eh5, H⟩ := Option.bind_eq_some_iff.mp H
          refine ev_5 hc_X3_mark (fe_X3_mark (pc := 44) rfl) (pF_pf eh5) ?_
          obtain rfl := Option.some.inj H
          exact ev_8 hc_X3_mark (fe_X3_mark (pc := 47) rfl) rfl
        · rw [if_neg c3] at H
          refine ev_bf hc_X3_mark (fe_X3_mark (pc := 14) rfl) rfl c3 ?_
          refine ev_go hc_X3_mark (k := 2) (pc' := 19) (L' := [.ref a0, .int a1, .int a2]) (S' := [.ref a0, .ref a0]) rfl ?_
          obtain ⟨v6, ev6, H⟩ := Option.bind_eq_some_iff.mp H
          refine ev_4 hc_X3_mark (fe_X3_mark (pc := 19) rfl) (gL_gf ev6) ?_
          refine ev_go hc_X3_mark (k := 4) (pc' := 26) (L' := [.ref a0, .int a1, .int a2]) (S' := [.long (v6 ||| ((Int64.ofNat 1) <<< ((a1 : Int32).toInt64 &&& 63))), .ref a0]) rfl ?_
          obtain ⟨h7, eh7, H⟩ := Option.bind_eq_some_iff.mp H
          refine ev_5 hc_X3_mark (fe_X3_mark (pc := 26) rfl) (pF_pf eh7) ?_
          refine ev_go hc_X3_mark (k := 1) (pc' := 47) (L' := [.ref a0, .int a1, .int a2]) (S' := []) rfl ?_
          obtain rfl := Option.some.inj H
          exact ev_8 hc_X3_mark (fe_X3_mark (pc := 47) rfl) rfl
      · rw [if_neg c2] at H
        refine ev_bf hc_X3_mark (fe_X3_mark (pc := 7) rfl) rfl c2 ?_
        obtain rfl := Option.some.inj H
        exact ev_8 hc_X3_mark (fe_X3_mark (pc := 10) rfl) rfl
  · rw [if_neg ck] at H; cases H
theorem hc_J13_bitCount_95d88 : ci_code (ci_Ms 286) = k_J13_bitCount_95d88 := rfl
theorem fe_J13_bitCount_95d88 {pc : Nat} {w : Option ci_I} (h : (k_J13_bitCount_95d88)[pc]? = some w) : (k_J13_bitCount_95d88)[pc]? = some w := h
def F_J13_bitCount_95d88 (a0 : Int64) (h : ci_H) : Option (Int32 × ci_H) := some ((((((((((a0 - ((((a0 : Int64).toUInt64 >>> ((1 : Int32).toInt64.toUInt64 &&& Int64.toUInt64 63)).toInt64) &&& (Int64.ofNat 6148914691236517205))) &&& (Int64.ofNat 3689348814741910323)) + ((((a0 - ((((a0 : Int64).toUInt64 >>> ((1 : Int32).toInt64.toUInt64 &&& Int64.toUInt64 63)).toInt64) &&& (Int64.ofNat 6148914691236517205)) : Int64).toUInt64 >>> ((2 : Int32).toInt64.toUInt64 &&& Int64.toUInt64 63)).toInt64) &&& (Int64.ofNat 3689348814741910323))) + (((((a0 - ((((a0 : Int64).toUInt64 >>> ((1 : Int32).toInt64.toUInt64 &&& Int64.toUInt64 63)).toInt64) &&& (Int64.ofNat 6148914691236517205))) &&& (Int64.ofNat 3689348814741910323)) + ((((a0 - ((((a0 : Int64).toUInt64 >>> ((1 : Int32).toInt64.toUInt64 &&& Int64.toUInt64 63)).toInt64) &&& (Int64.ofNat 6148914691236517205)) : Int64).toUInt64 >>> ((2 : Int32).toInt64.toUInt64 &&& Int64.toUInt64 63)).toInt64) &&& (Int64.ofNat 3689348814741910323)) : Int64).toUInt64 >>> ((4 : Int32).toInt64.toUInt64 &&& Int64.toUInt64 63)).toInt64)) &&& (Int64.ofNat 1085102592571150095)) + (((((((a0 - ((((a0 : Int64).toUInt64 >>> ((1 : Int32).toInt64.toUInt64 &&& Int64.toUInt64 63)).toInt64) &&& (Int64.ofNat 6148914691236517205))) &&& (Int64.ofNat 3689348814741910323)) + ((((a0 - ((((a0 : Int64).toUInt64 >>> ((1 : Int32).toInt64.toUInt64 &&& Int64.toUInt64 63)).toInt64) &&& (Int64.ofNat 6148914691236517205)) : Int64).toUInt64 >>> ((2 : Int32).toInt64.toUInt64 &&& Int64.toUInt64 63)).toInt64) &&& (Int64.ofNat 3689348814741910323))) + (((((a0 - ((((a0 : Int64).toUInt64 >>> ((1 : Int32).toInt64.toUInt64 &&& Int64.toUInt64 63)).toInt64) &&& (Int64.ofNat 6148914691236517205))) &&& (Int64.ofNat 3689348814741910323)) + ((((a0 - ((((a0 : Int64).toUInt64 >>> ((1 : Int32).toInt64.toUInt64 &&& Int64.toUInt64 63)).toInt64) &&& (Int64.ofNat 6148914691236517205)) : Int64).toUInt64 >>> ((2 : Int32).toInt64.toUInt64 &&& Int64.toUInt64 63)).toInt64) &&& (Int64.ofNat 3689348814741910323)) : Int64).toUInt64 >>> ((4 : Int32).toInt64.toUInt64 &&& Int64.toUInt64 63)).toInt64)) &&& (Int64.ofNat 1085102592571150095) : Int64).toUInt64 >>> ((8 : Int32).toInt64.toUInt64 &&& Int64.toUInt64 63)).toInt64)) + ((((((((a0 - ((((a0 : Int64).toUInt64 >>> ((1 : Int32).toInt64.toUInt64 &&& Int64.toUInt64 63)).toInt64) &&& (Int64.ofNat 6148914691236517205))) &&& (Int64.ofNat 3689348814741910323)) + ((((a0 - ((((a0 : Int64).toUInt64 >>> ((1 : Int32).toInt64.toUInt64 &&& Int64.toUInt64 63)).toInt64) &&& (Int64.ofNat 6148914691236517205)) : Int64).toUInt64 >>> ((2 : Int32).toInt64.toUInt64 &&& Int64.toUInt64 63)).toInt64) &&& (Int64.ofNat 3689348814741910323))) + (((((a0 - ((((a0 : Int64).toUInt64 >>> ((1 : Int32).toInt64.toUInt64 &&& Int64.toUInt64 63)).toInt64) &&& (Int64.ofNat 6148914691236517205))) &&& (Int64.ofNat 3689348814741910323)) + ((((a0 - ((((a0 : Int64).toUInt64 >>> ((1 : Int32).toInt64.toUInt64 &&& Int64.toUInt64 63)).toInt64) &&& (Int64.ofNat 6148914691236517205)) : Int64).toUInt64 >>> ((2 : Int32).toInt64.toUInt64 &&& Int64.toUInt64 63)).toInt64) &&& (Int64.ofNat 3689348814741910323)) : Int64).toUInt64 >>> ((4 : Int32).toInt64.toUInt64 &&& Int64.toUInt64 63)).toInt64)) &&& (Int64.ofNat 1085102592571150095)) + (((((((a0 - ((((a0 : Int64).toUInt64 >>> ((1 : Int32).toInt64.toUInt64 &&& Int64.toUInt64 63)).toInt64) &&& (Int64.ofNat 6148914691236517205))) &&& (Int64.ofNat 3689348814741910323)) + ((((a0 - ((((a0 : Int64).toUInt64 >>> ((1 : Int32).toInt64.toUInt64 &&& Int64.toUInt64 63)).toInt64) &&& (Int64.ofNat 6148914691236517205)) : Int64).toUInt64 >>> ((2 : Int32).toInt64.toUInt64 &&& Int64.toUInt64 63)).toInt64) &&& (Int64.ofNat 3689348814741910323))) + (((((a0 - ((((a0 : Int64).toUInt64 >>> ((1 : Int32).toInt64.toUInt64 &&& Int64.toUInt64 63)).toInt64) &&& (Int64.ofNat 6148914691236517205))) &&& (Int64.ofNat 3689348814741910323)) + ((((a0 - ((((a0 : Int64).toUInt64 >>> ((1 : Int32).toInt64.toUInt64 &&& Int64.toUInt64 63)).toInt64) &&& (Int64.ofNat 6148914691236517205)) : Int64).toUInt64 >>> ((2 : Int32).toInt64.toUInt64 &&& Int64.toUInt64 63)).toInt64) &&& (Int64.ofNat 3689348814741910323)) : Int64).toUInt64 >>> ((4 : Int32).toInt64.toUInt64 &&& Int64.toUInt64 63)).toInt64)) &&& (Int64.ofNat 1085102592571150095) : Int64).toUInt64 >>> ((8 : Int32).toInt64.toUInt64 &&& Int64.toUInt64 63)).toInt64) : Int64).toUInt64 >>> ((16 : Int32).toInt64.toUInt64 &&& Int64.toUInt64 63)).toInt64)) + (((((((((a0 - ((((a0 : Int64).toUInt64 >>> ((1 : Int32).toInt64.toUInt64 &&& Int64.toUInt64 63)).toInt64) &&& (Int64.ofNat 6148914691236517205))) &&& (Int64.ofNat 3689348814741910323)) + ((((a0 - ((((a0 : Int64).toUInt64 >>> ((1 : Int32).toInt64.toUInt64 &&& Int64.toUInt64 63)).toInt64) &&& (Int64.ofNat 6148914691236517205)) : Int64).toUInt64 >>> ((2 : Int32).toInt64.toUInt64 &&& Int64.toUInt64 63)).toInt64) &&& (Int64.ofNat 3689348814741910323))) + (((((a0 - ((((a0 : Int64).toUInt64 >>> ((1 : Int32).toInt64.toUInt64 &&& Int64.toUInt64 63)).toInt64) &&& (Int64.ofNat 6148914691236517205))) &&& (Int64.ofNat 3689348814741910323)) + ((((a0 - ((((a0 : Int64).toUInt64 >>> ((1 : Int32).toInt64.toUInt64 &&& Int64.toUInt64 63)).toInt64) &&& (Int64.ofNat 6148914691236517205)) : Int64).toUInt64 >>> ((2 : Int32).toInt64.toUInt64 &&& Int64.toUInt64 63)).toInt64) &&& (Int64.ofNat 3689348814741910323)) : Int64).toUInt64 >>> ((4 : Int32).toInt64.toUInt64 &&& Int64.toUInt64 63)).toInt64)) &&& (Int64.ofNat 1085102592571150095)) + (((((((a0 - ((((a0 : Int64).toUInt64 >>> ((1 : Int32).toInt64.toUInt64 &&& Int64.toUInt64 63)).toInt64) &&& (Int64.ofNat 6148914691236517205))) &&& (Int64.ofNat 3689348814741910323)) + ((((a0 - ((((a0 : Int64).toUInt64 >>> ((1 : Int32).toInt64.toUInt64 &&& Int64.toUInt64 63)).toInt64) &&& (Int64.ofNat 6148914691236517205)) : Int64).toUInt64 >>> ((2 : Int32).toInt64.toUInt64 &&& Int64.toUInt64 63)).toInt64) &&& (Int64.ofNat 3689348814741910323))) + (((((a0 - ((((a0 : Int64).toUInt64 >>> ((1 : Int32).toInt64.toUInt64 &&& Int64.toUInt64 63)).toInt64) &&& (Int64.ofNat 6148914691236517205))) &&& (Int64.ofNat 3689348814741910323)) + ((((a0 - ((((a0 : Int64).toUInt64 >>> ((1 : Int32).toInt64.toUInt64 &&& Int64.toUInt64 63)).toInt64) &&& (Int64.ofNat 6148914691236517205)) : Int64).toUInt64 >>> ((2 : Int32).toInt64.toUInt64 &&& Int64.toUInt64 63)).toInt64) &&& (Int64.ofNat 3689348814741910323)) : Int64).toUInt64 >>> ((4 : Int32).toInt64.toUInt64 &&& Int64.toUInt64 63)).toInt64)) &&& (Int64.ofNat 1085102592571150095) : Int64).toUInt64 >>> ((8 : Int32).toInt64.toUInt64 &&& Int64.toUInt64 63)).toInt64)) + ((((((((a0 - ((((a0 : Int64).toUInt64 >>> ((1 : Int32).toInt64.toUInt64 &&& Int64.toUInt64 63)).toInt64) &&& (Int64.ofNat 6148914691236517205))) &&& (Int64.ofNat 3689348814741910323)) + ((((a0 - ((((a0 : Int64).toUInt64 >>> ((1 : Int32).toInt64.toUInt64 &&& Int64.toUInt64 63)).toInt64) &&& (Int64.ofNat 6148914691236517205)) : Int64).toUInt64 >>> ((2 : Int32).toInt64.toUInt64 &&& Int64.toUInt64 63)).toInt64) &&& (Int64.ofNat 3689348814741910323))) + (((((a0 - ((((a0 : Int64).toUInt64 >>> ((1 : Int32).toInt64.toUInt64 &&& Int64.toUInt64 63)).toInt64) &&& (Int64.ofNat 6148914691236517205))) &&& (Int64.ofNat 3689348814741910323)) + ((((a0 - ((((a0 : Int64).toUInt64 >>> ((1 : Int32).toInt64.toUInt64 &&& Int64.toUInt64 63)).toInt64) &&& (Int64.ofNat 6148914691236517205)) : Int64).toUInt64 >>> ((2 : Int32).toInt64.toUInt64 &&& Int64.toUInt64 63)).toInt64) &&& (Int64.ofNat 3689348814741910323)) : Int64).toUInt64 >>> ((4 : Int32).toInt64.toUInt64 &&& Int64.toUInt64 63)).toInt64)) &&& (Int64.ofNat 1085102592571150095)) + (((((((a0 - ((((a0 : Int64).toUInt64 >>> ((1 : Int32).toInt64.toUInt64 &&& Int64.toUInt64 63)).toInt64) &&& (Int64.ofNat 6148914691236517205))) &&& (Int64.ofNat 3689348814741910323)) + ((((a0 - ((((a0 : Int64).toUInt64 >>> ((1 : Int32).toInt64.toUInt64 &&& Int64.toUInt64 63)).toInt64) &&& (Int64.ofNat 6148914691236517205)) : Int64).toUInt64 >>> ((2 : Int32).toInt64.toUInt64 &&& Int64.toUInt64 63)).toInt64) &&& (Int64.ofNat 3689348814741910323))) + (((((a0 - ((((a0 : Int64).toUInt64 >>> ((1 : Int32).toInt64.toUInt64 &&& Int64.toUInt64 63)).toInt64) &&& (Int64.ofNat 6148914691236517205))) &&& (Int64.ofNat 3689348814741910323)) + ((((a0 - ((((a0 : Int64).toUInt64 >>> ((1 : Int32).toInt64.toUInt64 &&& Int64.toUInt64 63)).toInt64) &&& (Int64.ofNat 6148914691236517205)) : Int64).toUInt64 >>> ((2 : Int32).toInt64.toUInt64 &&& Int64.toUInt64 63)).toInt64) &&& (Int64.ofNat 3689348814741910323)) : Int64).toUInt64 >>> ((4 : Int32).toInt64.toUInt64 &&& Int64.toUInt64 63)).toInt64)) &&& (Int64.ofNat 1085102592571150095) : Int64).toUInt64 >>> ((8 : Int32).toInt64.toUInt64 &&& Int64.toUInt64 63)).toInt64) : Int64).toUInt64 >>> ((16 : Int32).toInt64.toUInt64 &&& Int64.toUInt64 63)).toInt64) : Int64).toUInt64 >>> ((32 : Int32).toInt64.toUInt64 &&& Int64.toUInt64 63)).toInt64) : Int64).toInt32) &&& 127, h)
set_option maxHeartbeats 4000000 in
set_option maxRecDepth 20000 in
theorem E_J13_bitCount_95d88 {xs : Nat → Int32} {N d : Nat} {nx : ci_N} {a0 : Int64} {h : ci_H} {r : Int32 × ci_H} (H : F_J13_bitCount_95d88 a0 h = some r) (hd : 0 ≤ d) : Ev xs N d 286 0 (ci_entry [.long a0] 2) [] h nx (oI r nx) := by
  unfold F_J13_bitCount_95d88 at H
  show Ev xs N d 286 0 [.long a0, ci_junk] [] h nx _
  refine ev_go hc_J13_bitCount_95d88 (k := 48) (pc' := 60) (L' := [.long ((((((((a0 - ((((a0 : Int64).toUInt64 >>> ((1 : Int32).toInt64.toUInt64 &&& Int64.toUInt64 63)).toInt64) &&& (Int64.ofNat 6148914691236517205))) &&& (Int64.ofNat 3689348814741910323)) + ((((a0 - ((((a0 : Int64).toUInt64 >>> ((1 : Int32).toInt64.toUInt64 &&& Int64.toUInt64 63)).toInt64) &&& (Int64.ofNat 6148914691236517205)) : Int64).toUInt64 >>> ((2 : Int32).toInt64.toUInt64 &&& Int64.toUInt64 63)).toInt64) &&& (Int64.ofNat 3689348814741910323))) + (((((a0 - ((((a0 : Int64).toUInt64 >>> ((1 : Int32).toInt64.toUInt64 &&& Int64.toUInt64 63)).toInt64) &&& (Int64.ofNat 6148914691236517205))) &&& (Int64.ofNat 3689348814741910323)) + ((((a0 - ((((a0 : Int64).toUInt64 >>> ((1 : Int32).toInt64.toUInt64 &&& Int64.toUInt64 63)).toInt64) &&& (Int64.ofNat 6148914691236517205)) : Int64).toUInt64 >>> ((2 : Int32).toInt64.toUInt64 &&& Int64.toUInt64 63)).toInt64) &&& (Int64.ofNat 3689348814741910323)) : Int64).toUInt64 >>> ((4 : Int32).toInt64.toUInt64 &&& Int64.toUInt64 63)).toInt64)) &&& (Int64.ofNat 1085102592571150095)) + (((((((a0 - ((((a0 : Int64).toUInt64 >>> ((1 : Int32).toInt64.toUInt64 &&& Int64.toUInt64 63)).toInt64) &&& (Int64.ofNat 6148914691236517205))) &&& (Int64.ofNat 3689348814741910323)) + ((((a0 - ((((a0 : Int64).toUInt64 >>> ((1 : Int32).toInt64.toUInt64 &&& Int64.toUInt64 63)).toInt64) &&& (Int64.ofNat 6148914691236517205)) : Int64).toUInt64 >>> ((2 : Int32).toInt64.toUInt64 &&& Int64.toUInt64 63)).toInt64) &&& (Int64.ofNat 3689348814741910323))) + (((((a0 - ((((a0 : Int64).toUInt64 >>> ((1 : Int32).toInt64.toUInt64 &&& Int64.toUInt64 63)).toInt64) &&& (Int64.ofNat 6148914691236517205))) &&& (Int64.ofNat 3689348814741910323)) + ((((a0 - ((((a0 : Int64).toUInt64 >>> ((1 : Int32).toInt64.toUInt64 &&& Int64.toUInt64 63)).toInt64) &&& (Int64.ofNat 6148914691236517205)) : Int64).toUInt64 >>> ((2 : Int32).toInt64.toUInt64 &&& Int64.toUInt64 63)).toInt64) &&& (Int64.ofNat 3689348814741910323)) : Int64).toUInt64 >>> ((4 : Int32).toInt64.toUInt64 &&& Int64.toUInt64 63)).toInt64)) &&& (Int64.ofNat 1085102592571150095) : Int64).toUInt64 >>> ((8 : Int32).toInt64.toUInt64 &&& Int64.toUInt64 63)).toInt64)) + ((((((((a0 - ((((a0 : Int64).toUInt64 >>> ((1 : Int32).toInt64.toUInt64 &&& Int64.toUInt64 63)).toInt64) &&& (Int64.ofNat 6148914691236517205))) &&& (Int64.ofNat 3689348814741910323)) + ((((a0 - ((((a0 : Int64).toUInt64 >>> ((1 : Int32).toInt64.toUInt64 &&& Int64.toUInt64 63)).toInt64) &&& (Int64.ofNat 6148914691236517205)) : Int64).toUInt64 >>> ((2 : Int32).toInt64.toUInt64 &&& Int64.toUInt64 63)).toInt64) &&& (Int64.ofNat 3689348814741910323))) + (((((a0 - ((((a0 : Int64).toUInt64 >>> ((1 : Int32).toInt64.toUInt64 &&& Int64.toUInt64 63)).toInt64) &&& (Int64.ofNat 6148914691236517205))) &&& (Int64.ofNat 3689348814741910323)) + ((((a0 - ((((a0 : Int64).toUInt64 >>> ((1 : Int32).toInt64.toUInt64 &&& Int64.toUInt64 63)).toInt64) &&& (Int64.ofNat 6148914691236517205)) : Int64).toUInt64 >>> ((2 : Int32).toInt64.toUInt64 &&& Int64.toUInt64 63)).toInt64) &&& (Int64.ofNat 3689348814741910323)) : Int64).toUInt64 >>> ((4 : Int32).toInt64.toUInt64 &&& Int64.toUInt64 63)).toInt64)) &&& (Int64.ofNat 1085102592571150095)) + (((((((a0 - ((((a0 : Int64).toUInt64 >>> ((1 : Int32).toInt64.toUInt64 &&& Int64.toUInt64 63)).toInt64) &&& (Int64.ofNat 6148914691236517205))) &&& (Int64.ofNat 3689348814741910323)) + ((((a0 - ((((a0 : Int64).toUInt64 >>> ((1 : Int32).toInt64.toUInt64 &&& Int64.toUInt64 63)).toInt64) &&& (Int64.ofNat 6148914691236517205)) : Int64).toUInt64 >>> ((2 : Int32).toInt64.toUInt64 &&& Int64.toUInt64 63)).toInt64) &&& (Int64.ofNat 3689348814741910323))) + (((((a0 - ((((a0 : Int64).toUInt64 >>> ((1 : Int32).toInt64.toUInt64 &&& Int64.toUInt64 63)).toInt64) &&& (Int64.ofNat 6148914691236517205))) &&& (Int64.ofNat 3689348814741910323)) + ((((a0 - ((((a0 : Int64).toUInt64 >>> ((1 : Int32).toInt64.toUInt64 &&& Int64.toUInt64 63)).toInt64) &&& (Int64.ofNat 6148914691236517205)) : Int64).toUInt64 >>> ((2 : Int32).toInt64.toUInt64 &&& Int64.toUInt64 63)).toInt64) &&& (Int64.ofNat 3689348814741910323)) : Int64).toUInt64 >>> ((4 : Int32).toInt64.toUInt64 &&& Int64.toUInt64 63)).toInt64)) &&& (Int64.ofNat 1085102592571150095) : Int64).toUInt64 >>> ((8 : Int32).toInt64.toUInt64 &&& Int64.toUInt64 63)).toInt64) : Int64).toUInt64 >>> ((16 : Int32).toInt64.toUInt64 &&& Int64.toUInt64 63)).toInt64)) + (((((((((a0 - ((((a0 : Int64).toUInt64 >>> ((1 : Int32).toInt64.toUInt64 &&& Int64.toUInt64 63)).toInt64) &&& (Int64.ofNat 6148914691236517205))) &&& (Int64.ofNat 3689348814741910323)) + ((((a0 - ((((a0 : Int64).toUInt64 >>> ((1 : Int32).toInt64.toUInt64 &&& Int64.toUInt64 63)).toInt64) &&& (Int64.ofNat 6148914691236517205)) : Int64).toUInt64 >>> ((2 : Int32).toInt64.toUInt64 &&& Int64.toUInt64 63)).toInt64) &&& (Int64.ofNat 3689348814741910323))) + (((((a0 - ((((a0 : Int64).toUInt64 >>> ((1 : Int32).toInt64.toUInt64 &&& Int64.toUInt64 63)).toInt64) &&& (Int64.ofNat 6148914691236517205))) &&& (Int64.ofNat 3689348814741910323)) + ((((a0 - ((((a0 : Int64).toUInt64 >>> ((1 : Int32).toInt64.toUInt64 &&& Int64.toUInt64 63)).toInt64) &&& (Int64.ofNat 6148914691236517205)) : Int64).toUInt64 >>> ((2 : Int32).toInt64.toUInt64 &&& Int64.toUInt64 63)).toInt64) &&& (Int64.ofNat 3689348814741910323)) : Int64).toUInt64 >>> ((4 : Int32).toInt64.toUInt64 &&& Int64.toUInt64 63)).toInt64)) &&& (Int64.ofNat 1085102592571150095)) + (((((((a0 - ((((a0 : Int64).toUInt64 >>> ((1 : Int32).toInt64.toUInt64 &&& Int64.toUInt64 63)).toInt64) &&& (Int64.ofNat 6148914691236517205))) &&& (Int64.ofNat 3689348814741910323)) + ((((a0 - ((((a0 : Int64).toUInt64 >>> ((1 : Int32).toInt64.toUInt64 &&& Int64.toUInt64 63)).toInt64) &&& (Int64.ofNat 6148914691236517205)) : Int64).toUInt64 >>> ((2 : Int32).toInt64.toUInt64 &&& Int64.toUInt64 63)).toInt64) &&& (Int64.ofNat 3689348814741910323))) + (((((a0 - ((((a0 : Int64).toUInt64 >>> ((1 : Int32).toInt64.toUInt64 &&& Int64.toUInt64 63)).toInt64) &&& (Int64.ofNat 6148914691236517205))) &&& (Int64.ofNat 3689348814741910323)) + ((((a0 - ((((a0 : Int64).toUInt64 >>> ((1 : Int32).toInt64.toUInt64 &&& Int64.toUInt64 63)).toInt64) &&& (Int64.ofNat 6148914691236517205)) : Int64).toUInt64 >>> ((2 : Int32).toInt64.toUInt64 &&& Int64.toUInt64 63)).toInt64) &&& (Int64.ofNat 3689348814741910323)) : Int64).toUInt64 >>> ((4 : Int32).toInt64.toUInt64 &&& Int64.toUInt64 63)).toInt64)) &&& (Int64.ofNat 1085102592571150095) : Int64).toUInt64 >>> ((8 : Int32).toInt64.toUInt64 &&& Int64.toUInt64 63)).toInt64)) + ((((((((a0 - ((((a0 : Int64).toUInt64 >>> ((1 : Int32).toInt64.toUInt64 &&& Int64.toUInt64 63)).toInt64) &&& (Int64.ofNat 6148914691236517205))) &&& (Int64.ofNat 3689348814741910323)) + ((((a0 - ((((a0 : Int64).toUInt64 >>> ((1 : Int32).toInt64.toUInt64 &&& Int64.toUInt64 63)).toInt64) &&& (Int64.ofNat 6148914691236517205)) : Int64).toUInt64 >>> ((2 : Int32).toInt64.toUInt64 &&& Int64.toUInt64 63)).toInt64) &&& (Int64.ofNat 3689348814741910323))) + (((((a0 - ((((a0 : Int64).toUInt64 >>> ((1 : Int32).toInt64.toUInt64 &&& Int64.toUInt64 63)).toInt64) &&& (Int64.ofNat 6148914691236517205))) &&& (Int64.ofNat 3689348814741910323)) + ((((a0 - ((((a0 : Int64).toUInt64 >>> ((1 : Int32).toInt64.toUInt64 &&& Int64.toUInt64 63)).toInt64) &&& (Int64.ofNat 6148914691236517205)) : Int64).toUInt64 >>> ((2 : Int32).toInt64.toUInt64 &&& Int64.toUInt64 63)).toInt64) &&& (Int64.ofNat 3689348814741910323)) : Int64).toUInt64 >>> ((4 : Int32).toInt64.toUInt64 &&& Int64.toUInt64 63)).toInt64)) &&& (Int64.ofNat 1085102592571150095)) + (((((((a0 - ((((a0 : Int64).toUInt64 >>> ((1 : Int32).toInt64.toUInt64 &&& Int64.toUInt64 63)).toInt64) &&& (Int64.ofNat 6148914691236517205))) &&& (Int64.ofNat 3689348814741910323)) + ((((a0 - ((((a0 : Int64).toUInt64 >>> ((1 : Int32).toInt64.toUInt64 &&& Int64.toUInt64 63)).toInt64) &&& (Int64.ofNat 6148914691236517205)) : Int64).toUInt64 >>> ((2 : Int32).toInt64.toUInt64 &&& Int64.toUInt64 63)).toInt64) &&& (Int64.ofNat 3689348814741910323))) + (((((a0 - ((((a0 : Int64).toUInt64 >>> ((1 : Int32).toInt64.toUInt64 &&& Int64.toUInt64 63)).toInt64) &&& (Int64.ofNat 6148914691236517205))) &&& (Int64.ofNat 3689348814741910323)) + ((((a0 - ((((a0 : Int64).toUInt64 >>> ((1 : Int32).toInt64.toUInt64 &&& Int64.toUInt64 63)).toInt64) &&& (Int64.ofNat 6148914691236517205)) : Int64).toUInt64 >>> ((2 : Int32).toInt64.toUInt64 &&& Int64.toUInt64 63)).toInt64) &&& (Int64.ofNat 3689348814741910323)) : Int64).toUInt64 >>> ((4 : Int32).toInt64.toUInt64 &&& Int64.toUInt64 63)).toInt64)) &&& (Int64.ofNat 1085102592571150095) : Int64).toUInt64 >>> ((8 : Int32).toInt64.toUInt64 &&& Int64.toUInt64 63)).toInt64) : Int64).toUInt64 >>> ((16 : Int32).toInt64.toUInt64 &&& Int64.toUInt64 63)).toInt64) : Int64).toUInt64 >>> ((32 : Int32).toInt64.toUInt64 &&& Int64.toUInt64 63)).toInt64)), ci_junk]) (S' := [.int ((((((((((a0 - ((((a0 : Int64).toUInt64 >>> ((1 : Int32).toInt64.toUInt64 &&& Int64.toUInt64 63)).toInt64) &&& (Int64.ofNat 6148914691236517205))) &&& (Int64.ofNat 3689348814741910323)) + ((((a0 - ((((a0 : Int64).toUInt64 >>> ((1 : Int32).toInt64.toUInt64 &&& Int64.toUInt64 63)).toInt64) &&& (Int64.ofNat 6148914691236517205)) : Int64).toUInt64 >>> ((2 : Int32).toInt64.toUInt64 &&& Int64.toUInt64 63)).toInt64) &&& (Int64.ofNat 3689348814741910323))) + (((((a0 - ((((a0 : Int64).toUInt64 >>> ((1 : Int32).toInt64.toUInt64 &&& Int64.toUInt64 63)).toInt64) &&& (Int64.ofNat 6148914691236517205))) &&& (Int64.ofNat 3689348814741910323)) + ((((a0 - ((((a0 : Int64).toUInt64 >>> ((1 : Int32).toInt64.toUInt64 &&& Int64.toUInt64 63)).toInt64) &&& (Int64.ofNat 6148914691236517205)) : Int64).toUInt64 >>> ((2 : Int32).toInt64.toUInt64 &&& Int64.toUInt64 63)).toInt64) &&& (Int64.ofNat 3689348814741910323)) : Int64).toUInt64 >>> ((4 : Int32).toInt64.toUInt64 &&& Int64.toUInt64 63)).toInt64)) &&& (Int64.ofNat 1085102592571150095)) + (((((((a0 - ((((a0 : Int64).toUInt64 >>> ((1 : Int32).toInt64.toUInt64 &&& Int64.toUInt64 63)).toInt64) &&& (Int64.ofNat 6148914691236517205))) &&& (Int64.ofNat 3689348814741910323)) + ((((a0 - ((((a0 : Int64).toUInt64 >>> ((1 : Int32).toInt64.toUInt64 &&& Int64.toUInt64 63)).toInt64) &&& (Int64.ofNat 6148914691236517205)) : Int64).toUInt64 >>> ((2 : Int32).toInt64.toUInt64 &&& Int64.toUInt64 63)).toInt64) &&& (Int64.ofNat 3689348814741910323))) + (((((a0 - ((((a0 : Int64).toUInt64 >>> ((1 : Int32).toInt64.toUInt64 &&& Int64.toUInt64 63)).toInt64) &&& (Int64.ofNat 6148914691236517205))) &&& (Int64.ofNat 3689348814741910323)) + ((((a0 - ((((a0 : Int64).toUInt64 >>> ((1 : Int32).toInt64.toUInt64 &&& Int64.toUInt64 63)).toInt64) &&& (Int64.ofNat 6148914691236517205)) : Int64).toUInt64 >>> ((2 : Int32).toInt64.toUInt64 &&& Int64.toUInt64 63)).toInt64) &&& (Int64.ofNat 3689348814741910323)) : Int64).toUInt64 >>> ((4 : Int32).toInt64.toUInt64 &&& Int64.toUInt64 63)).toInt64)) &&& (Int64.ofNat 1085102592571150095) : Int64).toUInt64 >>> ((8 : Int32).toInt64.toUInt64 &&& Int64.toUInt64 63)).toInt64)) + ((((((((a0 - ((((a0 : Int64).toUInt64 >>> ((1 : Int32).toInt64.toUInt64 &&& Int64.toUInt64 63)).toInt64) &&& (Int64.ofNat 6148914691236517205))) &&& (Int64.ofNat 3689348814741910323)) + ((((a0 - ((((a0 : Int64).toUInt64 >>> ((1 : Int32).toInt64.toUInt64 &&& Int64.toUInt64 63)).toInt64) &&& (Int64.ofNat 6148914691236517205)) : Int64).toUInt64 >>> ((2 : Int32).toInt64.toUInt64 &&& Int64.toUInt64 63)).toInt64) &&& (Int64.ofNat 3689348814741910323))) + (((((a0 - ((((a0 : Int64).toUInt64 >>> ((1 : Int32).toInt64.toUInt64 &&& Int64.toUInt64 63)).toInt64) &&& (Int64.ofNat 6148914691236517205))) &&& (Int64.ofNat 3689348814741910323)) + ((((a0 - ((((a0 : Int64).toUInt64 >>> ((1 : Int32).toInt64.toUInt64 &&& Int64.toUInt64 63)).toInt64) &&& (Int64.ofNat 6148914691236517205)) : Int64).toUInt64 >>> ((2 : Int32).toInt64.toUInt64 &&& Int64.toUInt64 63)).toInt64) &&& (Int64.ofNat 3689348814741910323)) : Int64).toUInt64 >>> ((4 : Int32).toInt64.toUInt64 &&& Int64.toUInt64 63)).toInt64)) &&& (Int64.ofNat 1085102592571150095)) + (((((((a0 - ((((a0 : Int64).toUInt64 >>> ((1 : Int32).toInt64.toUInt64 &&& Int64.toUInt64 63)).toInt64) &&& (Int64.ofNat 6148914691236517205))) &&& (Int64.ofNat 3689348814741910323)) + ((((a0 - ((((a0 : Int64).toUInt64 >>> ((1 : Int32).toInt64.toUInt64 &&& Int64.toUInt64 63)).toInt64) &&& (Int64.ofNat 6148914691236517205)) : Int64).toUInt64 >>> ((2 : Int32).toInt64.toUInt64 &&& Int64.toUInt64 63)).toInt64) &&& (Int64.ofNat 3689348814741910323))) + (((((a0 - ((((a0 : Int64).toUInt64 >>> ((1 : Int32).toInt64.toUInt64 &&& Int64.toUInt64 63)).toInt64) &&& (Int64.ofNat 6148914691236517205))) &&& (Int64.ofNat 3689348814741910323)) + ((((a0 - ((((a0 : Int64).toUInt64 >>> ((1 : Int32).toInt64.toUInt64 &&& Int64.toUInt64 63)).toInt64) &&& (Int64.ofNat 6148914691236517205)) : Int64).toUInt64 >>> ((2 : Int32).toInt64.toUInt64 &&& Int64.toUInt64 63)).toInt64) &&& (Int64.ofNat 3689348814741910323)) : Int64).toUInt64 >>> ((4 : Int32).toInt64.toUInt64 &&& Int64.toUInt64 63)).toInt64)) &&& (Int64.ofNat 1085102592571150095) : Int64).toUInt64 >>> ((8 : Int32).toInt64.toUInt64 &&& Int64.toUInt64 63)).toInt64) : Int64).toUInt64 >>> ((16 : Int32).toInt64.toUInt64 &&& Int64.toUInt64 63)).toInt64)) + (((((((((a0 - ((((a0 : Int64).toUInt64 >>> ((1 : Int32).toInt64.toUInt64 &&& Int64.toUInt64 63)).toInt64) &&& (Int64.ofNat 6148914691236517205))) &&& (Int64.ofNat 3689348814741910323)) + ((((a0 - ((((a0 : Int64).toUInt64 >>> ((1 : Int32).toInt64.toUInt64 &&& Int64.toUInt64 63)).toInt64) &&& (Int64.ofNat 6148914691236517205)) : Int64).toUInt64 >>> ((2 : Int32).toInt64.toUInt64 &&& Int64.toUInt64 63)).toInt64) &&& (Int64.ofNat 3689348814741910323))) + (((((a0 - ((((a0 : Int64).toUInt64 >>> ((1 : Int32).toInt64.toUInt64 &&& Int64.toUInt64 63)).toInt64) &&& (Int64.ofNat 6148914691236517205))) &&& (Int64.ofNat 3689348814741910323)) + ((((a0 - ((((a0 : Int64).toUInt64 >>> ((1 : Int32).toInt64.toUInt64 &&& Int64.toUInt64 63)).toInt64) &&& (Int64.ofNat 6148914691236517205)) : Int64).toUInt64 >>> ((2 : Int32).toInt64.toUInt64 &&& Int64.toUInt64 63)).toInt64) &&& (Int64.ofNat 3689348814741910323)) : Int64).toUInt64 >>> ((4 : Int32).toInt64.toUInt64 &&& Int64.toUInt64 63)).toInt64)) &&& (Int64.ofNat 1085102592571150095)) + (((((((a0 - ((((a0 : Int64).toUInt64 >>> ((1 : Int32).toInt64.toUInt64 &&& Int64.toUInt64 63)).toInt64) &&& (Int64.ofNat 6148914691236517205))) &&& (Int64.ofNat 3689348814741910323)) + ((((a0 - ((((a0 : Int64).toUInt64 >>> ((1 : Int32).toInt64.toUInt64 &&& Int64.toUInt64 63)).toInt64) &&& (Int64.ofNat 6148914691236517205)) : Int64).toUInt64 >>> ((2 : Int32).toInt64.toUInt64 &&& Int64.toUInt64 63)).toInt64) &&& (Int64.ofNat 3689348814741910323))) + (((((a0 - ((((a0 : Int64).toUInt64 >>> ((1 : Int32).toInt64.toUInt64 &&& Int64.toUInt64 63)).toInt64) &&& (Int64.ofNat 6148914691236517205))) &&& (Int64.ofNat 3689348814741910323)) + ((((a0 - ((((a0 : Int64).toUInt64 >>> ((1 : Int32).toInt64.toUInt64 &&& Int64.toUInt64 63)).toInt64) &&& (Int64.ofNat 6148914691236517205)) : Int64).toUInt64 >>> ((2 : Int32).toInt64.toUInt64 &&& Int64.toUInt64 63)).toInt64) &&& (Int64.ofNat 3689348814741910323)) : Int64).toUInt64 >>> ((4 : Int32).toInt64.toUInt64 &&& Int64.toUInt64 63)).toInt64)) &&& (Int64.ofNat 1085102592571150095) : Int64).toUInt64 >>> ((8 : Int32).toInt64.toUInt64 &&& Int64.toUInt64 63)).toInt64)) + ((((((((a0 - ((((a0 : Int64).toUInt64 >>> ((1 : Int32).toInt64.toUInt64 &&& Int64.toUInt64 63)).toInt64) &&& (Int64.ofNat 6148914691236517205))) &&& (Int64.ofNat 3689348814741910323)) + ((((a0 - ((((a0 : Int64).toUInt64 >>> ((1 : Int32).toInt64.toUInt64 &&& Int64.toUInt64 63)).toInt64) &&& (Int64.ofNat 6148914691236517205)) : Int64).toUInt64 >>> ((2 : Int32).toInt64.toUInt64 &&& Int64.toUInt64 63)).toInt64) &&& (Int64.ofNat 3689348814741910323))) + (((((a0 - ((((a0 : Int64).toUInt64 >>> ((1 : Int32).toInt64.toUInt64 &&& Int64.toUInt64 63)).toInt64) &&& (Int64.ofNat 6148914691236517205))) &&& (Int64.ofNat 3689348814741910323)) + ((((a0 - ((((a0 : Int64).toUInt64 >>> ((1 : Int32).toInt64.toUInt64 &&& Int64.toUInt64 63)).toInt64) &&& (Int64.ofNat 6148914691236517205)) : Int64).toUInt64 >>> ((2 : Int32).toInt64.toUInt64 &&& Int64.toUInt64 63)).toInt64) &&& (Int64.ofNat 3689348814741910323)) : Int64).toUInt64 >>> ((4 : Int32).toInt64.toUInt64 &&& Int64.toUInt64 63)).toInt64)) &&& (Int64.ofNat 1085102592571150095)) + (((((((a0 - ((((a0 : Int64).toUInt64 >>> ((1 : Int32).toInt64.toUInt64 &&& Int64.toUInt64 63)).toInt64) &&& (Int64.ofNat 6148914691236517205))) &&& (Int64.ofNat 3689348814741910323)) + ((((a0 - ((((a0 : Int64).toUInt64 >>> ((1 : Int32).toInt64.toUInt64 &&& Int64.toUInt64 63)).toInt64) &&& (Int64.ofNat 6148914691236517205)) : Int64).toUInt64 >>> ((2 : Int32).toInt64.toUInt64 &&& Int64.toUInt64 63)).toInt64) &&& (Int64.ofNat 3689348814741910323))) + (((((a0 - ((((a0 : Int64).toUInt64 >>> ((1 : Int32).toInt64.toUInt64 &&& Int64.toUInt64 63)).toInt64) &&& (Int64.ofNat 6148914691236517205))) &&& (Int64.ofNat 3689348814741910323)) + ((((a0 - ((((a0 : Int64).toUInt64 >>> ((1 : Int32).toInt64.toUInt64 &&& Int64.toUInt64 63)).toInt64) &&& (Int64.ofNat 6148914691236517205)) : Int64).toUInt64 >>> ((2 : Int32).toInt64.toUInt64 &&& Int64.toUInt64 63)).toInt64) &&& (Int64.ofNat 3689348814741910323)) : Int64).toUInt64 >>> ((4 : Int32).toInt64.toUInt64 &&& Int64.toUInt64 63)).toInt64)) &&& (Int64.ofNat 1085102592571150095) : Int64).toUInt64 >>> ((8 : Int32).toInt64.toUInt64 &&& Int64.toUInt64 63)).toInt64) : Int64).toUInt64 >>> ((16 : Int32).toInt64.toUInt64 &&& Int64.toUInt64 63)).toInt64) : Int64).toUInt64 >>> ((32 : Int32).toInt64.toUInt64 &&& Int64.toUInt64 63)).toInt64) : Int64).toInt32) &&& 127)]) rfl ?_
  obtain rfl := Option.some.inj H
  exact ev_8 hc_J13_bitCount_95d88 (fe_J13_bitCount_95d88 (pc := 60) rfl) rfl
theorem hc_X3_payable : ci_code (ci_Ms 16) = k_X3_payable := rfl
theorem fe_X3_payable {pc : Nat} {w : Option ci_I} (h : (k_X3_payable)[pc]? = some w) : (k_X3_payable)[pc]? = some w := h
def b_X3_payable_23 (r_13 : Int32 → ci_H → Option (Int32 × ci_H)) (l0 : Nat) (l1 : Int32) (l2 : Int32) (l3 : Int32) (l4 : Int32) : Nat → Int32 → ci_H → Option (Int32 × ci_H)
  | 0, _, _ => none
  | n + 1, l5, h => if 2 < l5 then (r_13 (l4 + 1) h) else ((F_X3_mark l0 (if 0 ≤ ((l4 * l1) + (l5 * l2)) then (l4 * l1) + (l5 * l2) else 0 - ((l4 * l1) + (l5 * l2))) l3 h).bind fun h2 => b_X3_payable_23 r_13 l0 l1 l2 l3 l4 n (l5 + 1) h2)
set_option maxHeartbeats 4000000 in
set_option maxRecDepth 20000 in
theorem eb_X3_payable_23 {xs : Nat → Int32} {N d : Nat} {nx : ci_N} {r_13 : Int32 → ci_H → Option (Int32 × ci_H)} {l0 : Nat} {l1 : Int32} {l2 : Int32} {l3 : Int32} {l4 : Int32} (hd : 0 ≤ d) (h_13 : ∀ (l4 : Int32) (h : ci_H) (r : Int32 × ci_H), r_13 l4 h = some r → Ev xs N (d + 1) 16 13 [.ref l0, .int l1, .int l2, .int l3, .int l4, ci_junk] [] h nx (oI r nx)) : ∀ (n : Nat) (l5 : Int32) (h : ci_H) (r : Int32 × ci_H), b_X3_payable_23 r_13 l0 l1 l2 l3 l4 n l5 h = some r → Ev xs N (d + 1) 16 23 [.ref l0, .int l1, .int l2, .int l3, .int l4, .int l5] [] h nx (oI r nx) := by
  intro n
  induction n with
  | zero => intro l5 h r H; unfold b_X3_payable_23 at H; cases H
  | succ n ih =>
    intro l5 h r H
    unfold b_X3_payable_23 at H
    refine ev_go hc_X3_payable (k := 2) (pc' := 26) (L' := [.ref l0, .int l1, .int l2, .int l3, .int l4, .int l5]) (S' := [.int 2, .int l5]) rfl ?_
    by_cases c1 : 2 < l5
    · rw [if_pos c1] at H
      refine ev_bt hc_X3_payable (fe_X3_payable (pc := 26) rfl) rfl c1 ?_
      refine ev_go hc_X3_payable (k := 2) (pc' := 13) (L' := [.ref l0, .int l1, .int l2, .int l3, .int (l4 + 1), .int l5]) (S' := []) rfl ?_
      exact Ev.weak (ci_le_c (Or.inr rfl) (ci_le_c (Or.inr rfl) (ci_le_c (Or.inr rfl) (ci_le_c (Or.inr rfl) (ci_le_c (Or.inr rfl) (ci_le_c (Or.inl rfl) (ci_le_n))))))) (h_13 _ _ _ H)
    · rw [if_neg c1] at H
      refine ev_bf hc_X3_payable (fe_X3_payable (pc := 26) rfl) rfl c1 ?_
      refine ev_go hc_X3_payable (k := 8) (pc' := 39) (L' := [.ref l0, .int l1, .int l2, .int l3, .int l4, .int l5]) (S' := [.int ((l4 * l1) + (l5 * l2)), .ref l0]) rfl ?_
      refine ev_15 hc_X3_payable (fe_X3_payable (pc := 39) rfl) (S' := [.int (if 0 ≤ ((l4 * l1) + (l5 * l2)) then (l4 * l1) + (l5 * l2) else 0 - ((l4 * l1) + (l5 * l2))), .ref l0]) rfl ?_
      refine ev_go hc_X3_payable (k := 1) (pc' := 43) (L' := [.ref l0, .int l1, .int l2, .int l3, .int l4, .int l5]) (S' := [.int l3, .int (if 0 ≤ ((l4 * l1) + (l5 * l2)) then (l4 * l1) + (l5 * l2) else 0 - ((l4 * l1) + (l5 * l2))), .ref l0]) rfl ?_
      obtain ⟨h2, eh2, H⟩ := Option.bind_eq_some_iff.mp H
      refine ev_call (vs := [.ref l0, .int (if 0 ≤ ((l4 * l1) + (l5 * l2)) then (l4 * l1) + (l5 * l2) else 0 - ((l4 * l1) + (l5 * l2))), .int l3]) (rest := []) (q := q_X3_mark) hc_X3_payable (Or.inr rfl) (fe_X3_payable (pc := 43) rfl) ms_18 rfl rfl (Nat.le_of_ble_eq_true rfl) (kO_recv (K_X3_mark eh2)) (E_X3_mark eh2 (by omega)) rfl ?_
      show Ev xs N (d + 1) 16 46 [.ref l0, .int l1, .int l2, .int l3, .int l4, .int l5] [] h2 nx _
      refine ev_go hc_X3_payable (k := 2) (pc' := 23) (L' := [.ref l0, .int l1, .int l2, .int l3, .int l4, .int (l5 + 1)]) (S' := []) rfl ?_
      exact Ev.weak (ci_le_c (Or.inr rfl) (ci_le_c (Or.inr rfl) (ci_le_c (Or.inr rfl) (ci_le_c (Or.inr rfl) (ci_le_c (Or.inr rfl) (ci_le_c (Or.inr rfl) (ci_le_n))))))) (ih _ _ _ H)
def b_X3_payable_13 (l0 : Nat) (l1 : Int32) (l2 : Int32) (l3 : Int32) : Nat → Int32 → ci_H → Option (Int32 × ci_H)
  | 0, _, _ => none
  | n + 1, l4, h => if 2 < l4 then ((gL h l0 3 0).bind fun v2 => (F_J13_bitCount_95d88 v2 h).bind fun q3 => (gL q3.2 l0 3 1).bind fun v4 => (F_J13_bitCount_95d88 v4 q3.2).bind fun q5 => some (q3.1 + q5.1, q5.2)) else (b_X3_payable_23 (fun x0 x1 => b_X3_payable_13 l0 l1 l2 l3 n x0 x1) l0 l1 l2 l3 l4 bigN ((-2)) h)
set_option maxHeartbeats 4000000 in
set_option maxRecDepth 20000 in
theorem eb_X3_payable_13 {xs : Nat → Int32} {N d : Nat} {nx : ci_N} {l0 : Nat} {l1 : Int32} {l2 : Int32} {l3 : Int32} (hd : 0 ≤ d) : ∀ (n : Nat) (l4 : Int32) (h : ci_H) (r : Int32 × ci_H), b_X3_payable_13 l0 l1 l2 l3 n l4 h = some r → Ev xs N (d + 1) 16 13 [.ref l0, .int l1, .int l2, .int l3, .int l4, ci_junk] [] h nx (oI r nx) := by
  intro n
  induction n with
  | zero => intro l4 h r H; unfold b_X3_payable_13 at H; cases H
  | succ n ih =>
    intro l4 h r H
    unfold b_X3_payable_13 at H
    refine ev_go hc_X3_payable (k := 2) (pc' := 16) (L' := [.ref l0, .int l1, .int l2, .int l3, .int l4, ci_junk]) (S' := [.int 2, .int l4]) rfl ?_
    by_cases c1 : 2 < l4
    · rw [if_pos c1] at H
      refine ev_bt hc_X3_payable (fe_X3_payable (pc := 16) rfl) rfl c1 ?_
      refine ev_go hc_X3_payable (k := 1) (pc' := 59) (L' := [.ref l0, .int l1, .int l2, .int l3, .int l4, ci_junk]) (S' := [.ref l0]) rfl ?_
      obtain ⟨v2, ev2, H⟩ := Option.bind_eq_some_iff.mp H
      refine ev_4 hc_X3_payable (fe_X3_payable (pc := 59) rfl) (gL_gf ev2) ?_
      obtain ⟨q3, eq3, H⟩ := Option.bind_eq_some_iff.mp H
      refine ev_call (vs := [.long v2]) (rest := []) (q := q_J13_bitCount_95d88) hc_X3_payable (Or.inl rfl) (fe_X3_payable (pc := 62) rfl) ms_286 rfl rfl (Nat.le_of_ble_eq_true rfl) rfl (E_J13_bitCount_95d88 eq3 (by omega)) rfl ?_
      show Ev xs N (d + 1) 16 65 [.ref l0, .int l1, .int l2, .int l3, .int l4, ci_junk] [.int q3.1] q3.2 nx _
      refine ev_go hc_X3_payable (k := 1) (pc' := 66) (L' := [.ref l0, .int l1, .int l2, .int l3, .int l4, ci_junk]) (S' := [.ref l0, .int q3.1]) rfl ?_
      obtain ⟨v4, ev4, H⟩ := Option.bind_eq_some_iff.mp H
      refine ev_4 hc_X3_payable (fe_X3_payable (pc := 66) rfl) (gL_gf ev4) ?_
      obtain ⟨q5, eq5, H⟩ := Option.bind_eq_some_iff.mp H
      refine ev_call (vs := [.long v4]) (rest := [.int q3.1]) (q := q_J13_bitCount_95d88) hc_X3_payable (Or.inl rfl) (fe_X3_payable (pc := 69) rfl) ms_286 rfl rfl (Nat.le_of_ble_eq_true rfl) rfl (E_J13_bitCount_95d88 eq5 (by omega)) rfl ?_
      show Ev xs N (d + 1) 16 72 [.ref l0, .int l1, .int l2, .int l3, .int l4, ci_junk] [.int q5.1, .int q3.1] q5.2 nx _
      refine ev_go hc_X3_payable (k := 1) (pc' := 73) (L' := [.ref l0, .int l1, .int l2, .int l3, .int l4, ci_junk]) (S' := [.int (q3.1 + q5.1)]) rfl ?_
      obtain rfl := Option.some.inj H
      exact ev_8 hc_X3_payable (fe_X3_payable (pc := 73) rfl) rfl
    · rw [if_neg c1] at H
      refine ev_bf hc_X3_payable (fe_X3_payable (pc := 16) rfl) rfl c1 ?_
      refine ev_go hc_X3_payable (k := 2) (pc' := 23) (L' := [.ref l0, .int l1, .int l2, .int l3, .int l4, .int ((-2))]) (S' := []) rfl ?_
      exact Ev.weak (ci_le_c (Or.inr rfl) (ci_le_c (Or.inr rfl) (ci_le_c (Or.inr rfl) (ci_le_c (Or.inr rfl) (ci_le_c (Or.inr rfl) (ci_le_c (Or.inr rfl) (ci_le_n))))))) (eb_X3_payable_23 hd ih bigN _ _ _ H)
def F_X3_payable (a0 : Nat) (a1 : Int32) (a2 : Int32) (a3 : Int32) (h : ci_H) : Option (Int32 × ci_H) := if kO h a0 = some 3 then ((pF h a0 3 0 (.long (Int64.ofNat 0))).bind fun h1 => (pF h1 a0 3 1 (.long (Int64.ofNat 0))).bind fun h2 => b_X3_payable_13 a0 a1 a2 a3 bigN 0 h2) else none
theorem K_X3_payable {a0 : Nat} {a1 : Int32} {a2 : Int32} {a3 : Int32} {h : ci_H} {r : Int32 × ci_H} (H : F_X3_payable a0 a1 a2 a3 h = some r) : kO h a0 = some 3 := by
  unfold F_X3_payable at H
  by_cases c : kO h a0 = some 3
  · exact c
  · rw [if_neg c] at H; cases H
set_option maxHeartbeats 4000000 in
set_option maxRecDepth 20000 in
theorem E_X3_payable {xs : Nat → Int32} {N d : Nat} {nx : ci_N} {a0 : Nat} {a1 : Int32} {a2 : Int32} {a3 : Int32} {h : ci_H} {r : Int32 × ci_H} (H : F_X3_payable a0 a1 a2 a3 h = some r) (hd : 1 ≤ d) : Ev xs N d 16 0 (ci_entry [.ref a0, .int a1, .int a2, .int a3] 6) [] h nx (oI r nx) := by
  obtain ⟨d, rfl⟩ : ∃ d2, d = d2 + 1 := ⟨d - 1, by omega⟩
  have hd : 0 ≤ d := by omega
  unfold F_X3_payable at H
  by_cases ck : kO h a0 = some 3
  · rw [if_pos ck] at H
    show Ev xs N (d + 1) 16 0 [.ref a0, .int a1, .int a2, .int a3, ci_junk, ci_junk] [] h nx _
    refine ev_go hc_X3_payable (k := 2) (pc' := 2) (L' := [.ref a0, .int a1, .int a2, .int a3, ci_junk, ci_junk]) (S' := [.long (Int64.ofNat 0), .ref a0]) rfl ?_
    obtain ⟨h1, eh1, H⟩ := Option.bind_eq_some_iff.mp H
    refine ev_5 hc_X3_payable (fe_X3_payable (pc := 2) rfl) (pF_pf eh1) ?_
    refine ev_go hc_X3_payable (k := 2) (pc' := 7) (L' := [.ref a0, .int a1, .int a2, .int a3, ci_junk, ci_junk]) (S' := [.long (Int64.ofNat 0), .ref a0]) rfl ?_
    obtain ⟨h2, eh2, H⟩ := Option.bind_eq_some_iff.mp H
    refine ev_5 hc_X3_payable (fe_X3_payable (pc := 7) rfl) (pF_pf eh2) ?_
    refine ev_go hc_X3_payable (k := 2) (pc' := 13) (L' := [.ref a0, .int a1, .int a2, .int a3, .int 0, ci_junk]) (S' := []) rfl ?_
    exact Ev.weak (ci_le_c (Or.inr rfl) (ci_le_c (Or.inr rfl) (ci_le_c (Or.inr rfl) (ci_le_c (Or.inr rfl) (ci_le_c (Or.inr rfl) (ci_le_c (Or.inl rfl) (ci_le_n))))))) (eb_X3_payable_13 hd bigN _ _ _ H)
  · rw [if_neg ck] at H; cases H
theorem hc_X3_isMarked : ci_code (ci_Ms 19) = k_X3_isMarked := rfl
theorem fe_X3_isMarked {pc : Nat} {w : Option ci_I} (h : (k_X3_isMarked)[pc]? = some w) : (k_X3_isMarked)[pc]? = some w := h
def b_X3_isMarked_24 (s0 : Int64)  (h : ci_H) : Option (Int32 × ci_H) := if (lg_cmp (s0 &&& (Int64.ofNat 1)) (Int64.ofNat 0)) = 0 then (some (0, h)) else (some (1, h))
set_option maxHeartbeats 4000000 in
set_option maxRecDepth 20000 in
theorem eb_X3_isMarked_24 {xs : Nat → Int32} {N d : Nat} {nx : ci_N} {s0 : Int64} {h : ci_H} {r : Int32 × ci_H} (H : b_X3_isMarked_24 s0 h = some r) : Ev xs N d 19 24 [ci_junk, ci_junk, ci_junk, ci_junk] [.long s0] h nx (oI r nx) := by
  unfold b_X3_isMarked_24 at H
  refine ev_go hc_X3_isMarked (k := 6) (pc' := 30) (L' := [ci_junk, ci_junk, .long s0, ci_junk]) (S' := [.int (lg_cmp (s0 &&& (Int64.ofNat 1)) (Int64.ofNat 0))]) rfl ?_
  by_cases c1 : (lg_cmp (s0 &&& (Int64.ofNat 1)) (Int64.ofNat 0)) = 0
  · rw [if_pos c1] at H
    refine ev_bt hc_X3_isMarked (fe_X3_isMarked (pc := 30) rfl) rfl c1 ?_
    refine ev_go hc_X3_isMarked (k := 1) (pc' := 38) (L' := [ci_junk, ci_junk, .long s0, ci_junk]) (S' := [.int 0]) rfl ?_
    obtain rfl := Option.some.inj H
    exact ev_8z hc_X3_isMarked (fe_X3_isMarked (pc := 38) rfl) rfl (Or.inl rfl)
  · rw [if_neg c1] at H
    refine ev_bf hc_X3_isMarked (fe_X3_isMarked (pc := 30) rfl) rfl c1 ?_
    refine ev_go hc_X3_isMarked (k := 2) (pc' := 38) (L' := [ci_junk, ci_junk, .long s0, ci_junk]) (S' := [.int 1]) rfl ?_
    obtain rfl := Option.some.inj H
    exact ev_8z hc_X3_isMarked (fe_X3_isMarked (pc := 38) rfl) rfl (Or.inr rfl)
def F_X3_isMarked (a0 : Nat) (a1 : Int32) (h : ci_H) : Option (Int32 × ci_H) := if kO h a0 = some 3 then (if 64 ≤ a1 then ((gL h a0 3 1).bind fun v2 => b_X3_isMarked_24 (v2 >>> ((a1 - 64 : Int32).toInt64 &&& 63)) h) else ((gL h a0 3 0).bind fun v3 => b_X3_isMarked_24 (v3 >>> ((a1 : Int32).toInt64 &&& 63)) h)) else none
theorem K_X3_isMarked {a0 : Nat} {a1 : Int32} {h : ci_H} {r : Int32 × ci_H} (H : F_X3_isMarked a0 a1 h = some r) : kO h a0 = some 3 := by
  unfold F_X3_isMarked at H
  by_cases c : kO h a0 = some 3
  · exact c
  · rw [if_neg c] at H; cases H
set_option maxHeartbeats 4000000 in
set_option maxRecDepth 20000 in
theorem E_X3_isMarked {xs : Nat → Int32} {N d : Nat} {nx : ci_N} {a0 : Nat} {a1 : Int32} {h : ci_H} {r : Int32 × ci_H} (H : F_X3_isMarked a0 a1 h = some r) (hd : 0 ≤ d) : Ev xs N d 19 0 (ci_entry [.ref a0, .int a1] 4) [] h nx (oI r nx) := by
  unfold F_X3_isMarked at H
  by_cases ck : kO h a0 = some 3
  · rw [if_pos ck] at H
    show Ev xs N d 19 0 [.ref a0, .int a1, ci_junk, ci_junk] [] h nx _
    refine ev_go hc_X3_isMarked (k := 2) (pc' := 3) (L' := [.ref a0, .int a1, ci_junk, ci_junk]) (S' := [.int 64, .int a1]) rfl ?_
    by_cases c1 : 64 ≤ a1
    · rw [if_pos c1] at H
      refine ev_bt hc_X3_isMarked (fe_X3_isMarked (pc := 3) rfl) rfl c1 ?_
      refine ev_go hc_X3_isMarked (k := 1) (pc' := 16) (L' := [.ref a0, .int a1, ci_junk, ci_junk]) (S' := [.ref a0]) rfl ?_
      obtain ⟨v2, ev2, H⟩ := Option.bind_eq_some_iff.mp H
      refine ev_4 hc_X3_isMarked (fe_X3_isMarked (pc := 16) rfl) (gL_gf ev2) ?_
      refine ev_go hc_X3_isMarked (k := 4) (pc' := 24) (L' := [.ref a0, .int a1, ci_junk, ci_junk]) (S' := [.long (v2 >>> ((a1 - 64 : Int32).toInt64 &&& 63))]) rfl ?_
      exact Ev.weak (ci_le_c (Or.inl rfl) (ci_le_c (Or.inl rfl) (ci_le_c (Or.inl rfl) (ci_le_c (Or.inl rfl) (ci_le_n))))) (eb_X3_isMarked_24 H)
    · rw [if_neg c1] at H
      refine ev_bf hc_X3_isMarked (fe_X3_isMarked (pc := 3) rfl) rfl c1 ?_
      refine ev_go hc_X3_isMarked (k := 1) (pc' := 7) (L' := [.ref a0, .int a1, ci_junk, ci_junk]) (S' := [.ref a0]) rfl ?_
      obtain ⟨v3, ev3, H⟩ := Option.bind_eq_some_iff.mp H
      refine ev_4 hc_X3_isMarked (fe_X3_isMarked (pc := 7) rfl) (gL_gf ev3) ?_
      refine ev_go hc_X3_isMarked (k := 3) (pc' := 24) (L' := [.ref a0, .int a1, ci_junk, ci_junk]) (S' := [.long (v3 >>> ((a1 : Int32).toInt64 &&& 63))]) rfl ?_
      exact Ev.weak (ci_le_c (Or.inl rfl) (ci_le_c (Or.inl rfl) (ci_le_c (Or.inl rfl) (ci_le_c (Or.inl rfl) (ci_le_n))))) (eb_X3_isMarked_24 H)
  · rw [if_neg ck] at H; cases H
theorem hc_X3_leastMissing : ci_code (ci_Ms 17) = k_X3_leastMissing := rfl
theorem fe_X3_leastMissing {pc : Nat} {w : Option ci_I} (h : (k_X3_leastMissing)[pc]? = some w) : (k_X3_leastMissing)[pc]? = some w := h
def b_X3_leastMissing_2 (l0 : Nat) (l1 : Int32) : Nat → Int32 → ci_H → Option (Int32 × ci_H)
  | 0, _, _ => none
  | n + 1, l2, h => if l1 < l2 then (some (l2, h)) else ((F_X3_isMarked l0 l2 h).bind fun q2 => if q2.1 = 0 then (some (l2, q2.2)) else (b_X3_leastMissing_2 l0 l1 n (l2 + 1) q2.2))
set_option maxHeartbeats 4000000 in
set_option maxRecDepth 20000 in
theorem eb_X3_leastMissing_2 {xs : Nat → Int32} {N d : Nat} {nx : ci_N} {l0 : Nat} {l1 : Int32} (hd : 0 ≤ d) : ∀ (n : Nat) (l2 : Int32) (h : ci_H) (r : Int32 × ci_H), b_X3_leastMissing_2 l0 l1 n l2 h = some r → Ev xs N (d + 1) 17 2 [.ref l0, .int l1, .int l2] [] h nx (oI r nx) := by
  intro n
  induction n with
  | zero => intro l2 h r H; unfold b_X3_leastMissing_2 at H; cases H
  | succ n ih =>
    intro l2 h r H
    unfold b_X3_leastMissing_2 at H
    refine ev_go hc_X3_leastMissing (k := 2) (pc' := 4) (L' := [.ref l0, .int l1, .int l2]) (S' := [.int l1, .int l2]) rfl ?_
    by_cases c1 : l1 < l2
    · rw [if_pos c1] at H
      refine ev_bt hc_X3_leastMissing (fe_X3_leastMissing (pc := 4) rfl) rfl c1 ?_
      refine ev_go hc_X3_leastMissing (k := 1) (pc' := 22) (L' := [.ref l0, .int l1, .int l2]) (S' := [.int l2]) rfl ?_
      obtain rfl := Option.some.inj H
      exact ev_8 hc_X3_leastMissing (fe_X3_leastMissing (pc := 22) rfl) rfl
    · rw [if_neg c1] at H
      refine ev_bf hc_X3_leastMissing (fe_X3_leastMissing (pc := 4) rfl) rfl c1 ?_
      refine ev_go hc_X3_leastMissing (k := 2) (pc' := 9) (L' := [.ref l0, .int l1, .int l2]) (S' := [.int l2, .ref l0]) rfl ?_
      obtain ⟨q2, eq2, H⟩ := Option.bind_eq_some_iff.mp H
      refine ev_call (vs := [.ref l0, .int l2]) (rest := []) (q := q_X3_isMarked) hc_X3_leastMissing (Or.inr rfl) (fe_X3_leastMissing (pc := 9) rfl) ms_19 rfl rfl (Nat.le_of_ble_eq_true rfl) (kO_recv (K_X3_isMarked eq2)) (E_X3_isMarked eq2 (by omega)) rfl ?_
      show Ev xs N (d + 1) 17 12 [.ref l0, .int l1, .int l2] [.int q2.1] q2.2 nx _
      by_cases c3 : q2.1 = 0
      · rw [if_pos c3] at H
        refine ev_bt hc_X3_leastMissing (fe_X3_leastMissing (pc := 12) rfl) rfl c3 ?_
        refine ev_go hc_X3_leastMissing (k := 1) (pc' := 22) (L' := [.ref l0, .int l1, .int l2]) (S' := [.int l2]) rfl ?_
        obtain rfl := Option.some.inj H
        exact ev_8 hc_X3_leastMissing (fe_X3_leastMissing (pc := 22) rfl) rfl
      · rw [if_neg c3] at H
        refine ev_bf hc_X3_leastMissing (fe_X3_leastMissing (pc := 12) rfl) rfl c3 ?_
        refine ev_go hc_X3_leastMissing (k := 2) (pc' := 2) (L' := [.ref l0, .int l1, .int (l2 + 1)]) (S' := []) rfl ?_
        exact Ev.weak (ci_le_c (Or.inr rfl) (ci_le_c (Or.inr rfl) (ci_le_c (Or.inr rfl) (ci_le_n)))) (ih _ _ _ H)
def F_X3_leastMissing (a0 : Nat) (a1 : Int32) (h : ci_H) : Option (Int32 × ci_H) := if kO h a0 = some 3 then (b_X3_leastMissing_2 a0 a1 bigN 1 h) else none
theorem K_X3_leastMissing {a0 : Nat} {a1 : Int32} {h : ci_H} {r : Int32 × ci_H} (H : F_X3_leastMissing a0 a1 h = some r) : kO h a0 = some 3 := by
  unfold F_X3_leastMissing at H
  by_cases c : kO h a0 = some 3
  · exact c
  · rw [if_neg c] at H; cases H
set_option maxHeartbeats 4000000 in
set_option maxRecDepth 20000 in
theorem E_X3_leastMissing {xs : Nat → Int32} {N d : Nat} {nx : ci_N} {a0 : Nat} {a1 : Int32} {h : ci_H} {r : Int32 × ci_H} (H : F_X3_leastMissing a0 a1 h = some r) (hd : 1 ≤ d) : Ev xs N d 17 0 (ci_entry [.ref a0, .int a1] 3) [] h nx (oI r nx) := by
  obtain ⟨d, rfl⟩ : ∃ d2, d = d2 + 1 := ⟨d - 1, by omega⟩
  have hd : 0 ≤ d := by omega
  unfold F_X3_leastMissing at H
  by_cases ck : kO h a0 = some 3
  · rw [if_pos ck] at H
    show Ev xs N (d + 1) 17 0 [.ref a0, .int a1, ci_junk] [] h nx _
    refine ev_go hc_X3_leastMissing (k := 2) (pc' := 2) (L' := [.ref a0, .int a1, .int 1]) (S' := []) rfl ?_
    exact Ev.weak (ci_le_c (Or.inr rfl) (ci_le_c (Or.inr rfl) (ci_le_c (Or.inr rfl) (ci_le_n)))) (eb_X3_leastMissing_2 hd bigN _ _ _ H)
  · rw [if_neg ck] at H; cases H
theorem hc_X4_copy : ci_code (ci_Ms 21) = k_X4_copy := rfl
theorem fe_X4_copy {pc : Nat} {w : Option ci_I} (h : (k_X4_copy)[pc]? = some w) : (k_X4_copy)[pc]? = some w := h
def F_X4_copy (a0 : Nat) (a1 : Nat) (h : ci_H) : Option (ci_H) := if kO h a0 = some 4 then ((gR h a1 4 0).bind fun v1 => (gR h a0 4 0).bind fun v2 => (cpI h v1 0 v2 0 40).bind fun h3 => (gI h3 a1 4 2).bind fun v4 => (pF h3 a0 4 2 (.int v4)).bind fun h5 => some h5) else none
theorem K_X4_copy {a0 : Nat} {a1 : Nat} {h : ci_H} {r : ci_H} (H : F_X4_copy a0 a1 h = some r) : kO h a0 = some 4 := by
  unfold F_X4_copy at H
  by_cases c : kO h a0 = some 4
  · exact c
  · rw [if_neg c] at H; cases H
set_option maxHeartbeats 4000000 in
set_option maxRecDepth 20000 in
theorem E_X4_copy {xs : Nat → Int32} {N d : Nat} {nx : ci_N} {a0 : Nat} {a1 : Nat} {h : ci_H} {r : ci_H} (H : F_X4_copy a0 a1 h = some r) (hd : 0 ≤ d) : Ev xs N d 21 0 (ci_entry [.ref a0, .ref a1] 2) [] h nx (oV r nx) := by
  unfold F_X4_copy at H
  by_cases ck : kO h a0 = some 4
  · rw [if_pos ck] at H
    show Ev xs N d 21 0 [.ref a0, .ref a1] [] h nx _
    refine ev_go hc_X4_copy (k := 1) (pc' := 1) (L' := [.ref a0, .ref a1]) (S' := [.ref a1]) rfl ?_
    obtain ⟨v1, ev1, H⟩ := Option.bind_eq_some_iff.mp H
    refine ev_4 hc_X4_copy (fe_X4_copy (pc := 1) rfl) (gR_gf ev1) ?_
    refine ev_go hc_X4_copy (k := 2) (pc' := 6) (L' := [.ref a0, .ref a1]) (S' := [.ref a0, .int 0, .ref v1]) rfl ?_
    obtain ⟨v2, ev2, H⟩ := Option.bind_eq_some_iff.mp H
    refine ev_4 hc_X4_copy (fe_X4_copy (pc := 6) rfl) (gR_gf ev2) ?_
    refine ev_go hc_X4_copy (k := 2) (pc' := 12) (L' := [.ref a0, .ref a1]) (S' := [.int 40, .int 0, .ref v2, .int 0, .ref v1]) rfl ?_
    obtain ⟨h3, eh3, H⟩ := Option.bind_eq_some_iff.mp H
    refine ev_5 hc_X4_copy (fe_X4_copy (pc := 12) rfl) (cpI_cp eh3) ?_
    refine ev_go hc_X4_copy (k := 2) (pc' := 17) (L' := [.ref a0, .ref a1]) (S' := [.ref a1, .ref a0]) rfl ?_
    obtain ⟨v4, ev4, H⟩ := Option.bind_eq_some_iff.mp H
    refine ev_4 hc_X4_copy (fe_X4_copy (pc := 17) rfl) (gI_gf ev4) ?_
    obtain ⟨h5, eh5, H⟩ := Option.bind_eq_some_iff.mp H
    refine ev_5 hc_X4_copy (fe_X4_copy (pc := 20) rfl) (pF_pf eh5) ?_
    obtain rfl := Option.some.inj H
    exact ev_8 hc_X4_copy (fe_X4_copy (pc := 23) rfl) rfl
  · rw [if_neg ck] at H; cases H
theorem hc_X4_addPart : ci_code (ci_Ms 24) = k_X4_addPart := rfl
theorem fe_X4_addPart {pc : Nat} {w : Option ci_I} (h : (k_X4_addPart)[pc]? = some w) : (k_X4_addPart)[pc]? = some w := h
def F_X4_addPart (a0 : Nat) (a1 : Int32) (h : ci_H) : Option (ci_H) := if kO h a0 = some 4 then ((gI h a0 4 2).bind fun v1 => if 40 ≤ v1 then (some h) else ((gR h a0 4 0).bind fun v3 => (gI h a0 4 2).bind fun v4 => (wI h v3 v4 a1).bind fun h5 => (gI h5 a0 4 2).bind fun v6 => (pF h5 a0 4 2 (.int (v6 + 1))).bind fun h7 => some h7)) else none
theorem K_X4_addPart {a0 : Nat} {a1 : Int32} {h : ci_H} {r : ci_H} (H : F_X4_addPart a0 a1 h = some r) : kO h a0 = some 4 := by
  unfold F_X4_addPart at H
  by_cases c : kO h a0 = some 4
  · exact c
  · rw [if_neg c] at H; cases H
set_option maxHeartbeats 4000000 in
set_option maxRecDepth 20000 in
theorem E_X4_addPart {xs : Nat → Int32} {N d : Nat} {nx : ci_N} {a0 : Nat} {a1 : Int32} {h : ci_H} {r : ci_H} (H : F_X4_addPart a0 a1 h = some r) (hd : 0 ≤ d) : Ev xs N d 24 0 (ci_entry [.ref a0, .int a1] 2) [] h nx (oV r nx) := by
  unfold F_X4_addPart at H
  by_cases ck : kO h a0 = some 4
  · rw [if_pos ck] at H
    show Ev xs N d 24 0 [.ref a0, .int a1] [] h nx _
    refine ev_go hc_X4_addPart (k := 1) (pc' := 1) (L' := [.ref a0, .int a1]) (S' := [.ref a0]) rfl ?_
    obtain ⟨v1, ev1, H⟩ := Option.bind_eq_some_iff.mp H
    refine ev_4 hc_X4_addPart (fe_X4_addPart (pc := 1) rfl) (gI_gf ev1) ?_
    refine ev_go hc_X4_addPart (k := 1) (pc' := 6) (L' := [.ref a0, .int a1]) (S' := [.int 40, .int v1]) rfl ?_
    by_cases c2 : 40 ≤ v1
    · rw [if_pos c2] at H
      refine ev_bt hc_X4_addPart (fe_X4_addPart (pc := 6) rfl) rfl c2 ?_
      obtain rfl := Option.some.inj H
      exact ev_8 hc_X4_addPart (fe_X4_addPart (pc := 29) rfl) rfl
    · rw [if_neg c2] at H
      refine ev_bf hc_X4_addPart (fe_X4_addPart (pc := 6) rfl) rfl c2 ?_
      refine ev_go hc_X4_addPart (k := 1) (pc' := 10) (L' := [.ref a0, .int a1]) (S' := [.ref a0]) rfl ?_
      obtain ⟨v3, ev3, H⟩ := Option.bind_eq_some_iff.mp H
      refine ev_4 hc_X4_addPart (fe_X4_addPart (pc := 10) rfl) (gR_gf ev3) ?_
      refine ev_go hc_X4_addPart (k := 1) (pc' := 14) (L' := [.ref a0, .int a1]) (S' := [.ref a0, .ref v3]) rfl ?_
      obtain ⟨v4, ev4, H⟩ := Option.bind_eq_some_iff.mp H
      refine ev_4 hc_X4_addPart (fe_X4_addPart (pc := 14) rfl) (gI_gf ev4) ?_
      refine ev_go hc_X4_addPart (k := 1) (pc' := 18) (L' := [.ref a0, .int a1]) (S' := [.int a1, .int v4, .ref v3]) rfl ?_
      obtain ⟨h5, eh5, H⟩ := Option.bind_eq_some_iff.mp H
      refine ev_5 hc_X4_addPart (fe_X4_addPart (pc := 18) rfl) (wI_as eh5) ?_
      refine ev_go hc_X4_addPart (k := 2) (pc' := 21) (L' := [.ref a0, .int a1]) (S' := [.ref a0, .ref a0]) rfl ?_
      obtain ⟨v6, ev6, H⟩ := Option.bind_eq_some_iff.mp H
      refine ev_4 hc_X4_addPart (fe_X4_addPart (pc := 21) rfl) (gI_gf ev6) ?_
      refine ev_go hc_X4_addPart (k := 2) (pc' := 26) (L' := [.ref a0, .int a1]) (S' := [.int (v6 + 1), .ref a0]) rfl ?_
      obtain ⟨h7, eh7, H⟩ := Option.bind_eq_some_iff.mp H
      refine ev_5 hc_X4_addPart (fe_X4_addPart (pc := 26) rfl) (pF_pf eh7) ?_
      obtain rfl := Option.some.inj H
      exact ev_8 hc_X4_addPart (fe_X4_addPart (pc := 29) rfl) rfl
  · rw [if_neg ck] at H; cases H
theorem hc_X4_addNumber : ci_code (ci_Ms 22) = k_X4_addNumber := rfl
theorem fe_X4_addNumber {pc : Nat} {w : Option ci_I} (h : (k_X4_addNumber)[pc]? = some w) : (k_X4_addNumber)[pc]? = some w := h
def F_X4_addNumber (a0 : Nat) (a1 : Int32) (h : ci_H) : Option (ci_H) := if kO h a0 = some 4 then ((F_X4_addPart a0 a1 h).bind fun h1 => some h1) else none
theorem K_X4_addNumber {a0 : Nat} {a1 : Int32} {h : ci_H} {r : ci_H} (H : F_X4_addNumber a0 a1 h = some r) : kO h a0 = some 4 := by
  unfold F_X4_addNumber at H
  by_cases c : kO h a0 = some 4
  · exact c
  · rw [if_neg c] at H; cases H
set_option maxHeartbeats 4000000 in
set_option maxRecDepth 20000 in
theorem E_X4_addNumber {xs : Nat → Int32} {N d : Nat} {nx : ci_N} {a0 : Nat} {a1 : Int32} {h : ci_H} {r : ci_H} (H : F_X4_addNumber a0 a1 h = some r) (hd : 1 ≤ d) : Ev xs N d 22 0 (ci_entry [.ref a0, .int a1] 2) [] h nx (oV r nx) := by
  obtain ⟨d, rfl⟩ : ∃ d2, d = d2 + 1 := ⟨d - 1, by omega⟩
  have hd : 0 ≤ d := by omega
  unfold F_X4_addNumber at H
  by_cases ck : kO h a0 = some 4
  · rw [if_pos ck] at H
    show Ev xs N (d + 1) 22 0 [.ref a0, .int a1] [] h nx _
    refine ev_go hc_X4_addNumber (k := 2) (pc' := 2) (L' := [.ref a0, .int a1]) (S' := [.int a1, .ref a0]) rfl ?_
    obtain ⟨h1, eh1, H⟩ := Option.bind_eq_some_iff.mp H
    refine ev_call (vs := [.ref a0, .int a1]) (rest := []) (q := q_X4_addPart) hc_X4_addNumber (Or.inr rfl) (fe_X4_addNumber (pc := 2) rfl) ms_24 rfl rfl (Nat.le_of_ble_eq_true rfl) (kO_recv (K_X4_addPart eh1)) (E_X4_addPart eh1 (by omega)) rfl ?_
    show Ev xs N (d + 1) 22 5 [.ref a0, .int a1] [] h1 nx _
    obtain rfl := Option.some.inj H
    exact ev_8 hc_X4_addNumber (fe_X4_addNumber (pc := 5) rfl) rfl
  · rw [if_neg ck] at H; cases H
theorem hc_X4_addSign : ci_code (ci_Ms 23) = k_X4_addSign := rfl
theorem fe_X4_addSign {pc : Nat} {w : Option ci_I} (h : (k_X4_addSign)[pc]? = some w) : (k_X4_addSign)[pc]? = some w := h
def F_X4_addSign (a0 : Nat) (a1 : Int32) (h : ci_H) : Option (ci_H) := if kO h a0 = some 4 then ((F_X4_addPart a0 (a1 ^^^ ((-1))) h).bind fun h1 => some h1) else none
theorem K_X4_addSign {a0 : Nat} {a1 : Int32} {h : ci_H} {r : ci_H} (H : F_X4_addSign a0 a1 h = some r) : kO h a0 = some 4 := by
  unfold F_X4_addSign at H
  by_cases c : kO h a0 = some 4
  · exact c
  · rw [if_neg c] at H; cases H
set_option maxHeartbeats 4000000 in
set_option maxRecDepth 20000 in
theorem E_X4_addSign {xs : Nat → Int32} {N d : Nat} {nx : ci_N} {a0 : Nat} {a1 : Int32} {h : ci_H} {r : ci_H} (H : F_X4_addSign a0 a1 h = some r) (hd : 1 ≤ d) : Ev xs N d 23 0 (ci_entry [.ref a0, .int a1] 2) [] h nx (oV r nx) := by
  obtain ⟨d, rfl⟩ : ∃ d2, d = d2 + 1 := ⟨d - 1, by omega⟩
  have hd : 0 ≤ d := by omega
  unfold F_X4_addSign at H
  by_cases ck : kO h a0 = some 4
  · rw [if_pos ck] at H
    show Ev xs N (d + 1) 23 0 [.ref a0, .int a1] [] h nx _
    refine ev_go hc_X4_addSign (k := 4) (pc' := 4) (L' := [.ref a0, .int a1]) (S' := [.int (a1 ^^^ ((-1))), .ref a0]) rfl ?_
    obtain ⟨h1, eh1, H⟩ := Option.bind_eq_some_iff.mp H
    refine ev_call (vs := [.ref a0, .int (a1 ^^^ ((-1)))]) (rest := []) (q := q_X4_addPart) hc_X4_addSign (Or.inr rfl) (fe_X4_addSign (pc := 4) rfl) ms_24 rfl rfl (Nat.le_of_ble_eq_true rfl) (kO_recv (K_X4_addPart eh1)) (E_X4_addPart eh1 (by omega)) rfl ?_
    show Ev xs N (d + 1) 23 7 [.ref a0, .int a1] [] h1 nx _
    obtain rfl := Option.some.inj H
    exact ev_8 hc_X4_addSign (fe_X4_addSign (pc := 7) rfl) rfl
  · rw [if_neg ck] at H; cases H
theorem hc_X9_open : ci_code (ci_Ms 52) = k_X9_open := rfl
theorem fe_X9_open {pc : Nat} {w : Option ci_I} (h : (k_X9_open)[pc]? = some w) : (k_X9_open)[pc]? = some w := h
def F_X9_open (a0 : Nat) (a1 : Int32) (h : ci_H) : Option (ci_H) := if kO h a0 = some 9 then ((pF h a0 9 2 (.int 0)).bind fun h1 => (gI h1 a0 9 1).bind fun v2 => (pF h1 a0 9 3 (.int (if a1 < v2 then a1 else v2))).bind fun h3 => some h3) else none
theorem K_X9_open {a0 : Nat} {a1 : Int32} {h : ci_H} {r : ci_H} (H : F_X9_open a0 a1 h = some r) : kO h a0 = some 9 := by
  unfold F_X9_open at H
  by_cases c : kO h a0 = some 9
  · exact c
  · rw [if_neg c] at H; cases H
set_option maxHeartbeats 4000000 in
set_option maxRecDepth 20000 in
theorem E_X9_open {xs : Nat → Int32} {N d : Nat} {nx : ci_N} {a0 : Nat} {a1 : Int32} {h : ci_H} {r : ci_H} (H : F_X9_open a0 a1 h = some r) (hd : 0 ≤ d) : Ev xs N d 52 0 (ci_entry [.ref a0, .int a1] 2) [] h nx (oV r nx) := by
  unfold F_X9_open at H
  by_cases ck : kO h a0 = some 9
  · rw [if_pos ck] at H
    show Ev xs N d 52 0 [.ref a0, .int a1] [] h nx _
    refine ev_go hc_X9_open (k := 2) (pc' := 2) (L' := [.ref a0, .int a1]) (S' := [.int 0, .ref a0]) rfl ?_
    obtain ⟨h1, eh1, H⟩ := Option.bind_eq_some_iff.mp H
    refine ev_5 hc_X9_open (fe_X9_open (pc := 2) rfl) (pF_pf eh1) ?_
    refine ev_go hc_X9_open (k := 2) (pc' := 7) (L' := [.ref a0, .int a1]) (S' := [.ref a0, .ref a0]) rfl ?_
    obtain ⟨v2, ev2, H⟩ := Option.bind_eq_some_iff.mp H
    refine ev_4 hc_X9_open (fe_X9_open (pc := 7) rfl) (gI_gf ev2) ?_
    refine ev_go hc_X9_open (k := 1) (pc' := 11) (L' := [.ref a0, .int a1]) (S' := [.int a1, .int v2, .ref a0]) rfl ?_
    refine ev_15 hc_X9_open (fe_X9_open (pc := 11) rfl) (S' := [.int (if a1 < v2 then a1 else v2), .ref a0]) rfl ?_
    obtain ⟨h3, eh3, H⟩ := Option.bind_eq_some_iff.mp H
    refine ev_5 hc_X9_open (fe_X9_open (pc := 14) rfl) (pF_pf eh3) ?_
    obtain rfl := Option.some.inj H
    exact ev_8 hc_X9_open (fe_X9_open (pc := 17) rfl) rfl
  · rw [if_neg ck] at H; cases H
theorem hc_X9_peek : ci_code (ci_Ms 53) = k_X9_peek := rfl
theorem fe_X9_peek {pc : Nat} {w : Option ci_I} (h : (k_X9_peek)[pc]? = some w) : (k_X9_peek)[pc]? = some w := h
def F_X9_peek (a0 : Nat) (h : ci_H) : Option (Int32 × ci_H) := if kO h a0 = some 9 then ((gI h a0 9 2).bind fun v1 => if v1 < 0 then (some ((-1), h)) else ((gI h a0 9 2).bind fun v3 => (gI h a0 9 3).bind fun v4 => if v4 ≤ v3 then (some ((-1), h)) else ((gR h a0 9 0).bind fun v6 => (gI h a0 9 2).bind fun v7 => (rI h v6 v7).bind fun v8 => some (v8, h)))) else none
theorem K_X9_peek {a0 : Nat} {h : ci_H} {r : Int32 × ci_H} (H : F_X9_peek a0 h = some r) : kO h a0 = some 9 := by
  unfold F_X9_peek at H
  by_cases c : kO h a0 = some 9
  · exact c
  · rw [if_neg c] at H; cases H
set_option maxHeartbeats 4000000 in
set_option maxRecDepth 20000 in
theorem E_X9_peek {xs : Nat → Int32} {N d : Nat} {nx : ci_N} {a0 : Nat} {h : ci_H} {r : Int32 × ci_H} (H : F_X9_peek a0 h = some r) (hd : 0 ≤ d) : Ev xs N d 53 0 (ci_entry [.ref a0] 1) [] h nx (oI r nx) := by
  unfold F_X9_peek at H
  by_cases ck : kO h a0 = some 9
  · rw [if_pos ck] at H
    show Ev xs N d 53 0 [.ref a0] [] h nx _
    refine ev_go hc_X9_peek (k := 1) (pc' := 1) (L' := [.ref a0]) (S' := [.ref a0]) rfl ?_
    obtain ⟨v1, ev1, H⟩ := Option.bind_eq_some_iff.mp H
    refine ev_4 hc_X9_peek (fe_X9_peek (pc := 1) rfl) (gI_gf ev1) ?_
    by_cases c2 : v1 < 0
    · rw [if_pos c2] at H
      refine ev_bt hc_X9_peek (fe_X9_peek (pc := 4) rfl) rfl c2 ?_
      refine ev_go hc_X9_peek (k := 1) (pc' := 31) (L' := [.ref a0]) (S' := [.int ((-1))]) rfl ?_
      obtain rfl := Option.some.inj H
      exact ev_8 hc_X9_peek (fe_X9_peek (pc := 31) rfl) rfl
    · rw [if_neg c2] at H
      refine ev_bf hc_X9_peek (fe_X9_peek (pc := 4) rfl) rfl c2 ?_
      refine ev_go hc_X9_peek (k := 1) (pc' := 8) (L' := [.ref a0]) (S' := [.ref a0]) rfl ?_
      obtain ⟨v3, ev3, H⟩ := Option.bind_eq_some_iff.mp H
      refine ev_4 hc_X9_peek (fe_X9_peek (pc := 8) rfl) (gI_gf ev3) ?_
      refine ev_go hc_X9_peek (k := 1) (pc' := 12) (L' := [.ref a0]) (S' := [.ref a0, .int v3]) rfl ?_
      obtain ⟨v4, ev4, H⟩ := Option.bind_eq_some_iff.mp H
      refine ev_4 hc_X9_peek (fe_X9_peek (pc := 12) rfl) (gI_gf ev4) ?_
      by_cases c5 : v4 ≤ v3
      · rw [if_pos c5] at H
        refine ev_bt hc_X9_peek (fe_X9_peek (pc := 15) rfl) rfl c5 ?_
        refine ev_go hc_X9_peek (k := 1) (pc' := 31) (L' := [.ref a0]) (S' := [.int ((-1))]) rfl ?_
        obtain rfl := Option.some.inj H
        exact ev_8 hc_X9_peek (fe_X9_peek (pc := 31) rfl) rfl
      · rw [if_neg c5] at H
        refine ev_bf hc_X9_peek (fe_X9_peek (pc := 15) rfl) rfl c5 ?_
        refine ev_go hc_X9_peek (k := 1) (pc' := 19) (L' := [.ref a0]) (S' := [.ref a0]) rfl ?_
        obtain ⟨v6, ev6, H⟩ := Option.bind_eq_some_iff.mp H
        refine ev_4 hc_X9_peek (fe_X9_peek (pc := 19) rfl) (gR_gf ev6) ?_
        refine ev_go hc_X9_peek (k := 1) (pc' := 23) (L' := [.ref a0]) (S' := [.ref a0, .ref v6]) rfl ?_
        obtain ⟨v7, ev7, H⟩ := Option.bind_eq_some_iff.mp H
        refine ev_4 hc_X9_peek (fe_X9_peek (pc := 23) rfl) (gI_gf ev7) ?_
        obtain ⟨v8, ev8, H⟩ := Option.bind_eq_some_iff.mp H
        refine ev_4 hc_X9_peek (fe_X9_peek (pc := 26) rfl) (rI_al ev8) ?_
        refine ev_go hc_X9_peek (k := 1) (pc' := 31) (L' := [.ref a0]) (S' := [.int v8]) rfl ?_
        obtain rfl := Option.some.inj H
        exact ev_8 hc_X9_peek (fe_X9_peek (pc := 31) rfl) rfl
  · rw [if_neg ck] at H; cases H
theorem hc_X9_takes : ci_code (ci_Ms 57) = k_X9_takes := rfl
theorem fe_X9_takes {pc : Nat} {w : Option ci_I} (h : (k_X9_takes)[pc]? = some w) : (k_X9_takes)[pc]? = some w := h
def F_X9_takes (a0 : Nat) (a1 : Int32) (h : ci_H) : Option (Int32 × ci_H) := if kO h a0 = some 9 then ((F_X9_peek a0 h).bind fun q1 => if q1.1 = a1 then ((gI q1.2 a0 9 2).bind fun v3 => (pF q1.2 a0 9 2 (.int (v3 + 1))).bind fun h4 => some (1, h4)) else (some (0, q1.2))) else none
theorem K_X9_takes {a0 : Nat} {a1 : Int32} {h : ci_H} {r : Int32 × ci_H} (H : F_X9_takes a0 a1 h = some r) : kO h a0 = some 9 := by
  unfold F_X9_takes at H
  by_cases c : kO h a0 = some 9
  · exact c
  · rw [if_neg c] at H; cases H
set_option maxHeartbeats 4000000 in
set_option maxRecDepth 20000 in
theorem E_X9_takes {xs : Nat → Int32} {N d : Nat} {nx : ci_N} {a0 : Nat} {a1 : Int32} {h : ci_H} {r : Int32 × ci_H} (H : F_X9_takes a0 a1 h = some r) (hd : 1 ≤ d) : Ev xs N d 57 0 (ci_entry [.ref a0, .int a1] 2) [] h nx (oI r nx) := by
  obtain ⟨d, rfl⟩ : ∃ d2, d = d2 + 1 := ⟨d - 1, by omega⟩
  have hd : 0 ≤ d := by omega
  unfold F_X9_takes at H
  by_cases ck : kO h a0 = some 9
  · rw [if_pos ck] at H
    show Ev xs N (d + 1) 57 0 [.ref a0, .int a1] [] h nx _
    refine ev_go hc_X9_takes (k := 1) (pc' := 1) (L' := [.ref a0, .int a1]) (S' := [.ref a0]) rfl ?_
    obtain ⟨q1, eq1, H⟩ := Option.bind_eq_some_iff.mp H
    refine ev_call (vs := [.ref a0]) (rest := []) (q := q_X9_peek) hc_X9_takes (Or.inr rfl) (fe_X9_takes (pc := 1) rfl) ms_53 rfl rfl (Nat.le_of_ble_eq_true rfl) (kO_recv (K_X9_peek eq1)) (E_X9_peek eq1 (by omega)) rfl ?_
    show Ev xs N (d + 1) 57 4 [.ref a0, .int a1] [.int q1.1] q1.2 nx _
    refine ev_go hc_X9_takes (k := 1) (pc' := 5) (L' := [.ref a0, .int a1]) (S' := [.int a1, .int q1.1]) rfl ?_
    by_cases c2 : q1.1 = a1
    · rw [if_pos c2] at H
      refine ev_bt hc_X9_takes (fe_X9_takes (pc := 5) rfl) rfl c2 ?_
      refine ev_go hc_X9_takes (k := 2) (pc' := 12) (L' := [.ref a0, .int a1]) (S' := [.ref a0, .ref a0]) rfl ?_
      obtain ⟨v3, ev3, H⟩ := Option.bind_eq_some_iff.mp H
      refine ev_4 hc_X9_takes (fe_X9_takes (pc := 12) rfl) (gI_gf ev3) ?_
      refine ev_go hc_X9_takes (k := 2) (pc' := 17) (L' := [.ref a0, .int a1]) (S' := [.int (v3 + 1), .ref a0]) rfl ?_
      obtain ⟨h4, eh4, H⟩ := Option.bind_eq_some_iff.mp H
      refine ev_5 hc_X9_takes (fe_X9_takes (pc := 17) rfl) (pF_pf eh4) ?_
      refine ev_go hc_X9_takes (k := 1) (pc' := 21) (L' := [.ref a0, .int a1]) (S' := [.int 1]) rfl ?_
      obtain rfl := Option.some.inj H
      exact ev_8z hc_X9_takes (fe_X9_takes (pc := 21) rfl) rfl (Or.inr rfl)
    · rw [if_neg c2] at H
      refine ev_bf hc_X9_takes (fe_X9_takes (pc := 5) rfl) rfl c2 ?_
      refine ev_go hc_X9_takes (k := 1) (pc' := 9) (L' := [.ref a0, .int a1]) (S' := [.int 0]) rfl ?_
      obtain rfl := Option.some.inj H
      exact ev_8z hc_X9_takes (fe_X9_takes (pc := 9) rfl) rfl (Or.inl rfl)
  · rw [if_neg ck] at H; cases H
theorem hc_X9_oneOf : ci_code (ci_Ms 58) = k_X9_oneOf := rfl
theorem fe_X9_oneOf {pc : Nat} {w : Option ci_I} (h : (k_X9_oneOf)[pc]? = some w) : (k_X9_oneOf)[pc]? = some w := h
def F_X9_oneOf (a0 : Nat) (a1 : Int32) (a2 : Int32) (h : ci_H) : Option (Int32 × ci_H) := if kO h a0 = some 9 then ((F_X9_peek a0 h).bind fun q1 => if (q1.1 - a1) < 0 then (some ((-1), q1.2)) else (if (q1.1 - a1) < a2 then ((gI q1.2 a0 9 2).bind fun v4 => (pF q1.2 a0 9 2 (.int (v4 + 1))).bind fun h5 => some (q1.1 - a1, h5)) else (some ((-1), q1.2)))) else none
theorem K_X9_oneOf {a0 : Nat} {a1 : Int32} {a2 : Int32} {h : ci_H} {r : Int32 × ci_H} (H : F_X9_oneOf a0 a1 a2 h = some r) : kO h a0 = some 9 := by
  unfold F_X9_oneOf at H
  by_cases c : kO h a0 = some 9
  · exact c
  · rw [if_neg c] at H; cases H
set_option maxHeartbeats 4000000 in
set_option maxRecDepth 20000 in
theorem E_X9_oneOf {xs : Nat → Int32} {N d : Nat} {nx : ci_N} {a0 : Nat} {a1 : Int32} {a2 : Int32} {h : ci_H} {r : Int32 × ci_H} (H : F_X9_oneOf a0 a1 a2 h = some r) (hd : 1 ≤ d) : Ev xs N d 58 0 (ci_entry [.ref a0, .int a1, .int a2] 4) [] h nx (oI r nx) := by
  obtain ⟨d, rfl⟩ : ∃ d2, d = d2 + 1 := ⟨d - 1, by omega⟩
  have hd : 0 ≤ d := by omega
  unfold F_X9_oneOf at H
  by_cases ck : kO h a0 = some 9
  · rw [if_pos ck] at H
    show Ev xs N (d + 1) 58 0 [.ref a0, .int a1, .int a2, ci_junk] [] h nx _
    refine ev_go hc_X9_oneOf (k := 1) (pc' := 1) (L' := [.ref a0, .int a1, .int a2, ci_junk]) (S' := [.ref a0]) rfl ?_
    obtain ⟨q1, eq1, H⟩ := Option.bind_eq_some_iff.mp H
    refine ev_call (vs := [.ref a0]) (rest := []) (q := q_X9_peek) hc_X9_oneOf (Or.inr rfl) (fe_X9_oneOf (pc := 1) rfl) ms_53 rfl rfl (Nat.le_of_ble_eq_true rfl) (kO_recv (K_X9_peek eq1)) (E_X9_peek eq1 (by omega)) rfl ?_
    show Ev xs N (d + 1) 58 4 [.ref a0, .int a1, .int a2, ci_junk] [.int q1.1] q1.2 nx _
    refine ev_go hc_X9_oneOf (k := 4) (pc' := 8) (L' := [.ref a0, .int a1, .int a2, .int (q1.1 - a1)]) (S' := [.int (q1.1 - a1)]) rfl ?_
    by_cases c2 : (q1.1 - a1) < 0
    · rw [if_pos c2] at H
      refine ev_bt hc_X9_oneOf (fe_X9_oneOf (pc := 8) rfl) rfl c2 ?_
      refine ev_go hc_X9_oneOf (k := 1) (pc' := 17) (L' := [.ref a0, .int a1, .int a2, .int (q1.1 - a1)]) (S' := [.int ((-1))]) rfl ?_
      obtain rfl := Option.some.inj H
      exact ev_8 hc_X9_oneOf (fe_X9_oneOf (pc := 17) rfl) rfl
    · rw [if_neg c2] at H
      refine ev_bf hc_X9_oneOf (fe_X9_oneOf (pc := 8) rfl) rfl c2 ?_
      refine ev_go hc_X9_oneOf (k := 2) (pc' := 13) (L' := [.ref a0, .int a1, .int a2, .int (q1.1 - a1)]) (S' := [.int a2, .int (q1.1 - a1)]) rfl ?_
      by_cases c3 : (q1.1 - a1) < a2
      · rw [if_pos c3] at H
        refine ev_bt hc_X9_oneOf (fe_X9_oneOf (pc := 13) rfl) rfl c3 ?_
        refine ev_go hc_X9_oneOf (k := 2) (pc' := 20) (L' := [.ref a0, .int a1, .int a2, .int (q1.1 - a1)]) (S' := [.ref a0, .ref a0]) rfl ?_
        obtain ⟨v4, ev4, H⟩ := Option.bind_eq_some_iff.mp H
        refine ev_4 hc_X9_oneOf (fe_X9_oneOf (pc := 20) rfl) (gI_gf ev4) ?_
        refine ev_go hc_X9_oneOf (k := 2) (pc' := 25) (L' := [.ref a0, .int a1, .int a2, .int (q1.1 - a1)]) (S' := [.int (v4 + 1), .ref a0]) rfl ?_
        obtain ⟨h5, eh5, H⟩ := Option.bind_eq_some_iff.mp H
        refine ev_5 hc_X9_oneOf (fe_X9_oneOf (pc := 25) rfl) (pF_pf eh5) ?_
        refine ev_go hc_X9_oneOf (k := 1) (pc' := 29) (L' := [.ref a0, .int a1, .int a2, .int (q1.1 - a1)]) (S' := [.int (q1.1 - a1)]) rfl ?_
        obtain rfl := Option.some.inj H
        exact ev_8 hc_X9_oneOf (fe_X9_oneOf (pc := 29) rfl) rfl
      · rw [if_neg c3] at H
        refine ev_bf hc_X9_oneOf (fe_X9_oneOf (pc := 13) rfl) rfl c3 ?_
        refine ev_go hc_X9_oneOf (k := 1) (pc' := 17) (L' := [.ref a0, .int a1, .int a2, .int (q1.1 - a1)]) (S' := [.int ((-1))]) rfl ?_
        obtain rfl := Option.some.inj H
        exact ev_8 hc_X9_oneOf (fe_X9_oneOf (pc := 17) rfl) rfl
  · rw [if_neg ck] at H; cases H
theorem hc_X9_number : ci_code (ci_Ms 60) = k_X9_number := rfl
theorem fe_X9_number {pc : Nat} {w : Option ci_I} (h : (k_X9_number)[pc]? = some w) : (k_X9_number)[pc]? = some w := h
def b_X9_number_47 (r_14 : Int32 → Int32 → Int32 → ci_H → Option (Int32 × ci_H)) (l0 : Nat) (l1 : Int32) (l2 : Int32) (l4 : Int32) (s0 : Int32)  (h : ci_H) : Option (Int32 × ci_H) := r_14 l2 s0 (l4 + 1) h
set_option maxHeartbeats 4000000 in
set_option maxRecDepth 20000 in
theorem eb_X9_number_47 {xs : Nat → Int32} {N d : Nat} {nx : ci_N} {r_14 : Int32 → Int32 → Int32 → ci_H → Option (Int32 × ci_H)} {l0 : Nat} {l1 : Int32} {l2 : Int32} {l4 : Int32} {s0 : Int32} (hd : 1 ≤ d) (h_14 : ∀ (l2 : Int32) (l3 : Int32) (l4 : Int32) (h : ci_H) (r : Int32 × ci_H), r_14 l2 l3 l4 h = some r → Ev xs N (d + 1) 60 14 [.ref l0, .int l1, .int l2, .int l3, .int l4] [] h nx (oI r nx)) {h : ci_H} {r : Int32 × ci_H} (H : b_X9_number_47 r_14 l0 l1 l2 l4 s0 h = some r) : Ev xs N (d + 1) 60 47 [.ref l0, .int l1, .int l2, ci_junk, .int l4] [.int s0] h nx (oI r nx) := by
  unfold b_X9_number_47 at H
  refine ev_go hc_X9_number (k := 3) (pc' := 14) (L' := [.ref l0, .int l1, .int l2, .int s0, .int (l4 + 1)]) (S' := []) rfl ?_
  exact Ev.weak (ci_le_c (Or.inr rfl) (ci_le_c (Or.inr rfl) (ci_le_c (Or.inr rfl) (ci_le_c (Or.inr rfl) (ci_le_c (Or.inr rfl) (ci_le_n)))))) (h_14 _ _ _ _ _ H)
def b_X9_number_14 (l0 : Nat) (l1 : Int32) : Nat → Int32 → Int32 → Int32 → ci_H → Option (Int32 × ci_H)
  | 0, _, _, _, _ => none
  | n + 1, l2, l3, l4, h => if l1 ≤ l4 then (some (l3, h)) else (if l2 < 0 then (some (l3, h)) else ((F_X9_oneOf l0 48 10 h).bind fun q3 => if 0 ≤ q3.1 then (b_X9_number_47 (fun x0 x1 x2 x3 => b_X9_number_14 l0 l1 n x0 x1 x2 x3) l0 l1 q3.1 l4 ((10 * l3) + q3.1) q3.2) else (b_X9_number_47 (fun x0 x1 x2 x3 => b_X9_number_14 l0 l1 n x0 x1 x2 x3) l0 l1 q3.1 l4 l3 q3.2)))
set_option maxHeartbeats 4000000 in
set_option maxRecDepth 20000 in
theorem eb_X9_number_14 {xs : Nat → Int32} {N d : Nat} {nx : ci_N} {l0 : Nat} {l1 : Int32} (hd : 1 ≤ d) : ∀ (n : Nat) (l2 : Int32) (l3 : Int32) (l4 : Int32) (h : ci_H) (r : Int32 × ci_H), b_X9_number_14 l0 l1 n l2 l3 l4 h = some r → Ev xs N (d + 1) 60 14 [.ref l0, .int l1, .int l2, .int l3, .int l4] [] h nx (oI r nx) := by
  intro n
  induction n with
  | zero => intro l2 l3 l4 h r H; unfold b_X9_number_14 at H; cases H
  | succ n ih =>
    intro l2 l3 l4 h r H
    unfold b_X9_number_14 at H
    refine ev_go hc_X9_number (k := 2) (pc' := 17) (L' := [.ref l0, .int l1, .int l2, .int l3, .int l4]) (S' := [.int l1, .int l4]) rfl ?_
    by_cases c1 : l1 ≤ l4
    · rw [if_pos c1] at H
      refine ev_bt hc_X9_number (fe_X9_number (pc := 17) rfl) rfl c1 ?_
      refine ev_go hc_X9_number (k := 1) (pc' := 55) (L' := [.ref l0, .int l1, .int l2, .int l3, .int l4]) (S' := [.int l3]) rfl ?_
      obtain rfl := Option.some.inj H
      exact ev_8 hc_X9_number (fe_X9_number (pc := 55) rfl) rfl
    · rw [if_neg c1] at H
      refine ev_bf hc_X9_number (fe_X9_number (pc := 17) rfl) rfl c1 ?_
      refine ev_go hc_X9_number (k := 1) (pc' := 21) (L' := [.ref l0, .int l1, .int l2, .int l3, .int l4]) (S' := [.int l2]) rfl ?_
      by_cases c2 : l2 < 0
      · rw [if_pos c2] at H
        refine ev_bt hc_X9_number (fe_X9_number (pc := 21) rfl) rfl c2 ?_
        refine ev_go hc_X9_number (k := 1) (pc' := 55) (L' := [.ref l0, .int l1, .int l2, .int l3, .int l4]) (S' := [.int l3]) rfl ?_
        obtain rfl := Option.some.inj H
        exact ev_8 hc_X9_number (fe_X9_number (pc := 55) rfl) rfl
      · rw [if_neg c2] at H
        refine ev_bf hc_X9_number (fe_X9_number (pc := 21) rfl) rfl c2 ?_
        refine ev_go hc_X9_number (k := 3) (pc' := 29) (L' := [.ref l0, .int l1, .int l2, .int l3, .int l4]) (S' := [.int 10, .int 48, .ref l0]) rfl ?_
        obtain ⟨q3, eq3, H⟩ := Option.bind_eq_some_iff.mp H
        refine ev_call (vs := [.ref l0, .int 48, .int 10]) (rest := []) (q := q_X9_oneOf) hc_X9_number (Or.inr rfl) (fe_X9_number (pc := 29) rfl) ms_58 rfl rfl (Nat.le_of_ble_eq_true rfl) (kO_recv (K_X9_oneOf eq3)) (E_X9_oneOf eq3 (by omega)) rfl ?_
        show Ev xs N (d + 1) 60 32 [.ref l0, .int l1, .int l2, .int l3, .int l4] [.int q3.1] q3.2 nx _
        refine ev_go hc_X9_number (k := 2) (pc' := 34) (L' := [.ref l0, .int l1, .int q3.1, .int l3, .int l4]) (S' := [.int q3.1]) rfl ?_
        by_cases c4 : 0 ≤ q3.1
        · rw [if_pos c4] at H
          refine ev_bt hc_X9_number (fe_X9_number (pc := 34) rfl) rfl c4 ?_
          refine ev_go hc_X9_number (k := 5) (pc' := 47) (L' := [.ref l0, .int l1, .int q3.1, .int l3, .int l4]) (S' := [.int ((10 * l3) + q3.1)]) rfl ?_
          exact Ev.weak (ci_le_c (Or.inr rfl) (ci_le_c (Or.inr rfl) (ci_le_c (Or.inr rfl) (ci_le_c (Or.inl rfl) (ci_le_c (Or.inr rfl) (ci_le_n)))))) (eb_X9_number_47 hd ih H)
        · rw [if_neg c4] at H
          refine ev_bf hc_X9_number (fe_X9_number (pc := 34) rfl) rfl c4 ?_
          refine ev_go hc_X9_number (k := 2) (pc' := 47) (L' := [.ref l0, .int l1, .int q3.1, .int l3, .int l4]) (S' := [.int l3]) rfl ?_
          exact Ev.weak (ci_le_c (Or.inr rfl) (ci_le_c (Or.inr rfl) (ci_le_c (Or.inr rfl) (ci_le_c (Or.inl rfl) (ci_le_c (Or.inr rfl) (ci_le_n)))))) (eb_X9_number_47 hd ih H)
def F_X9_number (a0 : Nat) (a1 : Int32) (h : ci_H) : Option (Int32 × ci_H) := if kO h a0 = some 9 then ((F_X9_oneOf a0 48 10 h).bind fun q1 => b_X9_number_14 a0 a1 bigN q1.1 q1.1 1 q1.2) else none
theorem K_X9_number {a0 : Nat} {a1 : Int32} {h : ci_H} {r : Int32 × ci_H} (H : F_X9_number a0 a1 h = some r) : kO h a0 = some 9 := by
  unfold F_X9_number at H
  by_cases c : kO h a0 = some 9
  · exact c
  · rw [if_neg c] at H; cases H
set_option maxHeartbeats 4000000 in
set_option maxRecDepth 20000 in
theorem E_X9_number {xs : Nat → Int32} {N d : Nat} {nx : ci_N} {a0 : Nat} {a1 : Int32} {h : ci_H} {r : Int32 × ci_H} (H : F_X9_number a0 a1 h = some r) (hd : 2 ≤ d) : Ev xs N d 60 0 (ci_entry [.ref a0, .int a1] 5) [] h nx (oI r nx) := by
  obtain ⟨d, rfl⟩ : ∃ d2, d = d2 + 1 := ⟨d - 1, by omega⟩
  have hd : 1 ≤ d := by omega
  unfold F_X9_number at H
  by_cases ck : kO h a0 = some 9
  · rw [if_pos ck] at H
    show Ev xs N (d + 1) 60 0 [.ref a0, .int a1, ci_junk, ci_junk, ci_junk] [] h nx _
    refine ev_go hc_X9_number (k := 3) (pc' := 5) (L' := [.ref a0, .int a1, ci_junk, ci_junk, ci_junk]) (S' := [.int 10, .int 48, .ref a0]) rfl ?_
    obtain ⟨q1, eq1, H⟩ := Option.bind_eq_some_iff.mp H
    refine ev_call (vs := [.ref a0, .int 48, .int 10]) (rest := []) (q := q_X9_oneOf) hc_X9_number (Or.inr rfl) (fe_X9_number (pc := 5) rfl) ms_58 rfl rfl (Nat.le_of_ble_eq_true rfl) (kO_recv (K_X9_oneOf eq1)) (E_X9_oneOf eq1 (by omega)) rfl ?_
    show Ev xs N (d + 1) 60 8 [.ref a0, .int a1, ci_junk, ci_junk, ci_junk] [.int q1.1] q1.2 nx _
    refine ev_go hc_X9_number (k := 5) (pc' := 14) (L' := [.ref a0, .int a1, .int q1.1, .int q1.1, .int 1]) (S' := []) rfl ?_
    exact Ev.weak (ci_le_c (Or.inr rfl) (ci_le_c (Or.inr rfl) (ci_le_c (Or.inr rfl) (ci_le_c (Or.inr rfl) (ci_le_c (Or.inr rfl) (ci_le_n)))))) (eb_X9_number_14 hd bigN _ _ _ _ _ H)
  · rw [if_neg ck] at H; cases H
theorem hc_X9_step : ci_code (ci_Ms 54) = k_X9_step := rfl
theorem fe_X9_step {pc : Nat} {w : Option ci_I} (h : (k_X9_step)[pc]? = some w) : (k_X9_step)[pc]? = some w := h
def F_X9_step (a0 : Nat) (h : ci_H) : Option (ci_H) := if kO h a0 = some 9 then ((gI h a0 9 2).bind fun v1 => (pF h a0 9 2 (.int (v1 + 1))).bind fun h2 => some h2) else none
theorem K_X9_step {a0 : Nat} {h : ci_H} {r : ci_H} (H : F_X9_step a0 h = some r) : kO h a0 = some 9 := by
  unfold F_X9_step at H
  by_cases c : kO h a0 = some 9
  · exact c
  · rw [if_neg c] at H; cases H
set_option maxHeartbeats 4000000 in
set_option maxRecDepth 20000 in
theorem E_X9_step {xs : Nat → Int32} {N d : Nat} {nx : ci_N} {a0 : Nat} {h : ci_H} {r : ci_H} (H : F_X9_step a0 h = some r) (hd : 0 ≤ d) : Ev xs N d 54 0 (ci_entry [.ref a0] 1) [] h nx (oV r nx) := by
  unfold F_X9_step at H
  by_cases ck : kO h a0 = some 9
  · rw [if_pos ck] at H
    show Ev xs N d 54 0 [.ref a0] [] h nx _
    refine ev_go hc_X9_step (k := 2) (pc' := 2) (L' := [.ref a0]) (S' := [.ref a0, .ref a0]) rfl ?_
    obtain ⟨v1, ev1, H⟩ := Option.bind_eq_some_iff.mp H
    refine ev_4 hc_X9_step (fe_X9_step (pc := 2) rfl) (gI_gf ev1) ?_
    refine ev_go hc_X9_step (k := 2) (pc' := 7) (L' := [.ref a0]) (S' := [.int (v1 + 1), .ref a0]) rfl ?_
    obtain ⟨h2, eh2, H⟩ := Option.bind_eq_some_iff.mp H
    refine ev_5 hc_X9_step (fe_X9_step (pc := 7) rfl) (pF_pf eh2) ?_
    obtain rfl := Option.some.inj H
    exact ev_8 hc_X9_step (fe_X9_step (pc := 10) rfl) rfl
  · rw [if_neg ck] at H; cases H
def mg_X5_readsExpression (j : Nat) : Nat := match j with
  | 0 => 32
  | 1 => 33
  | 2 => 34
  | 3 => 35
  | _ => 36
theorem hc_X5_readsExpression : ci_code (ci_Ms 32) = k_X5_readsExpression := rfl
theorem fe_X5_readsExpression {pc : Nat} {w : Option ci_I} (h : (k_X5_readsExpression)[pc]? = some w) : (k_X5_readsExpression)[pc]? = some w := h
def b_X5_readsExpression_38 (rc : Nat → Nat → Int32 → ci_H → Option (Int32 × ci_H)) (l0 : Nat) (l1 : Int32) (l2 : Int32)  (h : ci_H) : Option (Int32 × ci_H) := (gR h l0 5 0).bind fun v1 => (F_X9_step v1 h).bind fun h2 => (rc 1 l0 l1 h2).bind fun q3 => if q3.1 = 0 then (some (0, q3.2)) else ((gR q3.2 l0 5 1).bind fun v5 => (F_X4_addSign v5 l2 q3.2).bind fun h6 => some (1, h6))
set_option maxHeartbeats 4000000 in
set_option maxRecDepth 20000 in
theorem eb_X5_readsExpression_38 {xs : Nat → Int32} {N d : Nat} {nx : ci_N} {rc : Nat → Nat → Int32 → ci_H → Option (Int32 × ci_H)} {l0 : Nat} {l1 : Int32} {l2 : Int32} (hd : 1 ≤ d) (hrc : ∀ (j : Nat) (a0 : Nat) (a1 : Int32) (h : ci_H) (r : Int32 × ci_H), rc j a0 a1 h = some r → Ev xs N d (mg_X5_readsExpression j) 0 (ci_entry [.ref a0, .int a1] (ci_n (ci_Ms (mg_X5_readsExpression j)))) [] h nx (oI r nx)) (hrk : ∀ (j : Nat) (a0 : Nat) (a1 : Int32) (h : ci_H) (r : Int32 × ci_H), rc j a0 a1 h = some r → kO h a0 = some 5) {h : ci_H} {r : Int32 × ci_H} (H : b_X5_readsExpression_38 rc l0 l1 l2 h = some r) : Ev xs N (d + 1) 32 38 [.ref l0, .int l1, .int l2] [] h nx (oI r nx) := by
  unfold b_X5_readsExpression_38 at H
  refine ev_go hc_X5_readsExpression (k := 1) (pc' := 39) (L' := [.ref l0, .int l1, .int l2]) (S' := [.ref l0]) rfl ?_
  obtain ⟨v1, ev1, H⟩ := Option.bind_eq_some_iff.mp H
  refine ev_4 hc_X5_readsExpression (fe_X5_readsExpression (pc := 39) rfl) (gR_gf ev1) ?_
  obtain ⟨h2, eh2, H⟩ := Option.bind_eq_some_iff.mp H
  refine ev_call (vs := [.ref v1]) (rest := []) (q := q_X9_step) hc_X5_readsExpression (Or.inr rfl) (fe_X5_readsExpression (pc := 42) rfl) ms_54 rfl rfl (Nat.le_of_ble_eq_true rfl) (kO_recv (K_X9_step eh2)) (E_X9_step eh2 (by omega)) rfl ?_
  show Ev xs N (d + 1) 32 45 [.ref l0, .int l1, .int l2] [] h2 nx _
  refine ev_go hc_X5_readsExpression (k := 2) (pc' := 47) (L' := [.ref l0, .int l1, .int l2]) (S' := [.int l1, .ref l0]) rfl ?_
  obtain ⟨q3, eq3, H⟩ := Option.bind_eq_some_iff.mp H
  refine ev_call (vs := [.ref l0, .int l1]) (rest := []) (q := q_X5_readsSum) hc_X5_readsExpression (Or.inr rfl) (fe_X5_readsExpression (pc := 47) rfl) ms_33 rfl rfl (Nat.le_of_ble_eq_true rfl) (kO_recv (hrk _ _ _ _ _ eq3)) (hrc 1 _ _ _ _ eq3) rfl ?_
  show Ev xs N (d + 1) 32 50 [.ref l0, .int l1, .int l2] [.int q3.1] q3.2 nx _
  by_cases c4 : q3.1 = 0
  · rw [if_pos c4] at H
    refine ev_bt hc_X5_readsExpression (fe_X5_readsExpression (pc := 50) rfl) rfl c4 ?_
    refine ev_go hc_X5_readsExpression (k := 1) (pc' := 54) (L' := [.ref l0, .int l1, .int l2]) (S' := [.int 0]) rfl ?_
    obtain rfl := Option.some.inj H
    exact ev_8z hc_X5_readsExpression (fe_X5_readsExpression (pc := 54) rfl) rfl (Or.inl rfl)
  · rw [if_neg c4] at H
    refine ev_bf hc_X5_readsExpression (fe_X5_readsExpression (pc := 50) rfl) rfl c4 ?_
    refine ev_go hc_X5_readsExpression (k := 1) (pc' := 56) (L' := [.ref l0, .int l1, .int l2]) (S' := [.ref l0]) rfl ?_
    obtain ⟨v5, ev5, H⟩ := Option.bind_eq_some_iff.mp H
    refine ev_4 hc_X5_readsExpression (fe_X5_readsExpression (pc := 56) rfl) (gR_gf ev5) ?_
    refine ev_go hc_X5_readsExpression (k := 1) (pc' := 60) (L' := [.ref l0, .int l1, .int l2]) (S' := [.int l2, .ref v5]) rfl ?_
    obtain ⟨h6, eh6, H⟩ := Option.bind_eq_some_iff.mp H
    refine ev_call (vs := [.ref v5, .int l2]) (rest := []) (q := q_X4_addSign) hc_X5_readsExpression (Or.inr rfl) (fe_X5_readsExpression (pc := 60) rfl) ms_23 rfl rfl (Nat.le_of_ble_eq_true rfl) (kO_recv (K_X4_addSign eh6)) (E_X4_addSign eh6 (by omega)) rfl ?_
    show Ev xs N (d + 1) 32 63 [.ref l0, .int l1, .int l2] [] h6 nx _
    refine ev_go hc_X5_readsExpression (k := 1) (pc' := 64) (L' := [.ref l0, .int l1, .int l2]) (S' := [.int 1]) rfl ?_
    obtain rfl := Option.some.inj H
    exact ev_8z hc_X5_readsExpression (fe_X5_readsExpression (pc := 64) rfl) rfl (Or.inr rfl)
def G_X5_readsExpression (rc : Nat → Nat → Int32 → ci_H → Option (Int32 × ci_H)) (a0 : Nat) (a1 : Int32) (h : ci_H) : Option (Int32 × ci_H) := if kO h a0 = some 5 then ((rc 1 a0 a1 h).bind fun q1 => if q1.1 = 0 then (some (0, q1.2)) else ((gR q1.2 a0 5 0).bind fun v3 => (F_X9_peek v3 q1.2).bind fun q4 => if q4.1 = 60 then (b_X5_readsExpression_38 rc a0 a1 q4.1 q4.2) else (if q4.1 = 62 then (b_X5_readsExpression_38 rc a0 a1 q4.1 q4.2) else (if q4.1 = 61 then (b_X5_readsExpression_38 rc a0 a1 q4.1 q4.2) else (some (1, q4.2)))))) else none
theorem KG_X5_readsExpression {rc : Nat → Nat → Int32 → ci_H → Option (Int32 × ci_H)} {a0 : Nat} {a1 : Int32} {h : ci_H} {r : Int32 × ci_H} (H : G_X5_readsExpression rc a0 a1 h = some r) : kO h a0 = some 5 := by
  unfold G_X5_readsExpression at H
  by_cases c : kO h a0 = some 5
  · exact c
  · rw [if_neg c] at H; cases H
set_option maxHeartbeats 4000000 in
set_option maxRecDepth 20000 in
theorem EG_X5_readsExpression {xs : Nat → Int32} {N d : Nat} {nx : ci_N} {rc : Nat → Nat → Int32 → ci_H → Option (Int32 × ci_H)} {a0 : Nat} {a1 : Int32} (hd : 1 ≤ d) (hrc : ∀ (j : Nat) (a0 : Nat) (a1 : Int32) (h : ci_H) (r : Int32 × ci_H), rc j a0 a1 h = some r → Ev xs N d (mg_X5_readsExpression j) 0 (ci_entry [.ref a0, .int a1] (ci_n (ci_Ms (mg_X5_readsExpression j)))) [] h nx (oI r nx)) (hrk : ∀ (j : Nat) (a0 : Nat) (a1 : Int32) (h : ci_H) (r : Int32 × ci_H), rc j a0 a1 h = some r → kO h a0 = some 5) {h : ci_H} {r : Int32 × ci_H} (H : G_X5_readsExpression rc a0 a1 h = some r) : Ev xs N (d + 1) 32 0 (ci_entry [.ref a0, .int a1] 3) [] h nx (oI r nx) := by
  unfold G_X5_readsExpression at H
  by_cases ck : kO h a0 = some 5
  · rw [if_pos ck] at H
    show Ev xs N (d + 1) 32 0 [.ref a0, .int a1, ci_junk] [] h nx _
    refine ev_go hc_X5_readsExpression (k := 2) (pc' := 2) (L' := [.ref a0, .int a1, ci_junk]) (S' := [.int a1, .ref a0]) rfl ?_
    obtain ⟨q1, eq1, H⟩ := Option.bind_eq_some_iff.mp H
    refine ev_call (vs := [.ref a0, .int a1]) (rest := []) (q := q_X5_readsSum) hc_X5_readsExpression (Or.inr rfl) (fe_X5_readsExpression (pc := 2) rfl) ms_33 rfl rfl (Nat.le_of_ble_eq_true rfl) (kO_recv (hrk _ _ _ _ _ eq1)) (hrc 1 _ _ _ _ eq1) rfl ?_
    show Ev xs N (d + 1) 32 5 [.ref a0, .int a1, ci_junk] [.int q1.1] q1.2 nx _
    by_cases c2 : q1.1 = 0
    · rw [if_pos c2] at H
      refine ev_bt hc_X5_readsExpression (fe_X5_readsExpression (pc := 5) rfl) rfl c2 ?_
      refine ev_go hc_X5_readsExpression (k := 1) (pc' := 9) (L' := [.ref a0, .int a1, ci_junk]) (S' := [.int 0]) rfl ?_
      obtain rfl := Option.some.inj H
      exact ev_8z hc_X5_readsExpression (fe_X5_readsExpression (pc := 9) rfl) rfl (Or.inl rfl)
    · rw [if_neg c2] at H
      refine ev_bf hc_X5_readsExpression (fe_X5_readsExpression (pc := 5) rfl) rfl c2 ?_
      refine ev_go hc_X5_readsExpression (k := 1) (pc' := 11) (L' := [.ref a0, .int a1, ci_junk]) (S' := [.ref a0]) rfl ?_
      obtain ⟨v3, ev3, H⟩ := Option.bind_eq_some_iff.mp H
      refine ev_4 hc_X5_readsExpression (fe_X5_readsExpression (pc := 11) rfl) (gR_gf ev3) ?_
      obtain ⟨q4, eq4, H⟩ := Option.bind_eq_some_iff.mp H
      refine ev_call (vs := [.ref v3]) (rest := []) (q := q_X9_peek) hc_X5_readsExpression (Or.inr rfl) (fe_X5_readsExpression (pc := 14) rfl) ms_53 rfl rfl (Nat.le_of_ble_eq_true rfl) (kO_recv (K_X9_peek eq4)) (E_X9_peek eq4 (by omega)) rfl ?_
      show Ev xs N (d + 1) 32 17 [.ref a0, .int a1, ci_junk] [.int q4.1] q4.2 nx _
      refine ev_go hc_X5_readsExpression (k := 3) (pc' := 21) (L' := [.ref a0, .int a1, .int q4.1]) (S' := [.int 60, .int q4.1]) rfl ?_
      by_cases c5 : q4.1 = 60
      · rw [if_pos c5] at H
        refine ev_bt hc_X5_readsExpression (fe_X5_readsExpression (pc := 21) rfl) rfl c5 ?_
        exact Ev.weak (ci_le_c (Or.inr rfl) (ci_le_c (Or.inr rfl) (ci_le_c (Or.inr rfl) (ci_le_n)))) (eb_X5_readsExpression_38 hd hrc hrk H)
      · rw [if_neg c5] at H
        refine ev_bf hc_X5_readsExpression (fe_X5_readsExpression (pc := 21) rfl) rfl c5 ?_
        refine ev_go hc_X5_readsExpression (k := 2) (pc' := 27) (L' := [.ref a0, .int a1, .int q4.1]) (S' := [.int 62, .int q4.1]) rfl ?_
        by_cases c6 : q4.1 = 62
        · rw [if_pos c6] at H
          refine ev_bt hc_X5_readsExpression (fe_X5_readsExpression (pc := 27) rfl) rfl c6 ?_
          exact Ev.weak (ci_le_c (Or.inr rfl) (ci_le_c (Or.inr rfl) (ci_le_c (Or.inr rfl) (ci_le_n)))) (eb_X5_readsExpression_38 hd hrc hrk H)
        · rw [if_neg c6] at H
          refine ev_bf hc_X5_readsExpression (fe_X5_readsExpression (pc := 27) rfl) rfl c6 ?_
          refine ev_go hc_X5_readsExpression (k := 2) (pc' := 33) (L' := [.ref a0, .int a1, .int q4.1]) (S' := [.int 61, .int q4.1]) rfl ?_
          by_cases c7 : q4.1 = 61
          · rw [if_pos c7] at H
            refine ev_bt hc_X5_readsExpression (fe_X5_readsExpression (pc := 33) rfl) rfl c7 ?_
            exact Ev.weak (ci_le_c (Or.inr rfl) (ci_le_c (Or.inr rfl) (ci_le_c (Or.inr rfl) (ci_le_n)))) (eb_X5_readsExpression_38 hd hrc hrk H)
          · rw [if_neg c7] at H
            refine ev_bf hc_X5_readsExpression (fe_X5_readsExpression (pc := 33) rfl) rfl c7 ?_
            refine ev_go hc_X5_readsExpression (k := 1) (pc' := 37) (L' := [.ref a0, .int a1, .int q4.1]) (S' := [.int 1]) rfl ?_
            obtain rfl := Option.some.inj H
            exact ev_8z hc_X5_readsExpression (fe_X5_readsExpression (pc := 37) rfl) rfl (Or.inr rfl)
  · rw [if_neg ck] at H; cases H
theorem hc_X5_readsSum : ci_code (ci_Ms 33) = k_X5_readsSum := rfl
theorem fe_X5_readsSum {pc : Nat} {w : Option ci_I} (h : (k_X5_readsSum)[pc]? = some w) : (k_X5_readsSum)[pc]? = some w := h
def b_X5_readsSum_44 (rc : Nat → Nat → Int32 → ci_H → Option (Int32 × ci_H)) (r_8 : Int32 → Int32 → ci_H → Option (Int32 × ci_H)) (l0 : Nat) (l1 : Int32) (l3 : Int32) (l4 : Int32)  (h : ci_H) : Option (Int32 × ci_H) := (gR h l0 5 0).bind fun v1 => (F_X9_step v1 h).bind fun h2 => (rc 2 l0 l1 h2).bind fun q3 => (gR q3.2 l0 5 1).bind fun v4 => (F_X4_addSign v4 l4 q3.2).bind fun h5 => r_8 q3.1 (l3 + 1) h5
set_option maxHeartbeats 4000000 in
set_option maxRecDepth 20000 in
theorem eb_X5_readsSum_44 {xs : Nat → Int32} {N d : Nat} {nx : ci_N} {rc : Nat → Nat → Int32 → ci_H → Option (Int32 × ci_H)} {r_8 : Int32 → Int32 → ci_H → Option (Int32 × ci_H)} {l0 : Nat} {l1 : Int32} {l3 : Int32} {l4 : Int32} (hd : 1 ≤ d) (hrc : ∀ (j : Nat) (a0 : Nat) (a1 : Int32) (h : ci_H) (r : Int32 × ci_H), rc j a0 a1 h = some r → Ev xs N d (mg_X5_readsExpression j) 0 (ci_entry [.ref a0, .int a1] (ci_n (ci_Ms (mg_X5_readsExpression j)))) [] h nx (oI r nx)) (hrk : ∀ (j : Nat) (a0 : Nat) (a1 : Int32) (h : ci_H) (r : Int32 × ci_H), rc j a0 a1 h = some r → kO h a0 = some 5) (h_8 : ∀ (l2 : Int32) (l3 : Int32) (h : ci_H) (r : Int32 × ci_H), r_8 l2 l3 h = some r → Ev xs N (d + 1) 33 8 [.ref l0, .int l1, .int l2, .int l3, ci_junk] [] h nx (oI r nx)) {h : ci_H} {r : Int32 × ci_H} (H : b_X5_readsSum_44 rc r_8 l0 l1 l3 l4 h = some r) : Ev xs N (d + 1) 33 44 [.ref l0, .int l1, ci_junk, .int l3, .int l4] [] h nx (oI r nx) := by
  unfold b_X5_readsSum_44 at H
  refine ev_go hc_X5_readsSum (k := 1) (pc' := 45) (L' := [.ref l0, .int l1, ci_junk, .int l3, .int l4]) (S' := [.ref l0]) rfl ?_
  obtain ⟨v1, ev1, H⟩ := Option.bind_eq_some_iff.mp H
  refine ev_4 hc_X5_readsSum (fe_X5_readsSum (pc := 45) rfl) (gR_gf ev1) ?_
  obtain ⟨h2, eh2, H⟩ := Option.bind_eq_some_iff.mp H
  refine ev_call (vs := [.ref v1]) (rest := []) (q := q_X9_step) hc_X5_readsSum (Or.inr rfl) (fe_X5_readsSum (pc := 48) rfl) ms_54 rfl rfl (Nat.le_of_ble_eq_true rfl) (kO_recv (K_X9_step eh2)) (E_X9_step eh2 (by omega)) rfl ?_
  show Ev xs N (d + 1) 33 51 [.ref l0, .int l1, ci_junk, .int l3, .int l4] [] h2 nx _
  refine ev_go hc_X5_readsSum (k := 2) (pc' := 53) (L' := [.ref l0, .int l1, ci_junk, .int l3, .int l4]) (S' := [.int l1, .ref l0]) rfl ?_
  obtain ⟨q3, eq3, H⟩ := Option.bind_eq_some_iff.mp H
  refine ev_call (vs := [.ref l0, .int l1]) (rest := []) (q := q_X5_readsProduct) hc_X5_readsSum (Or.inr rfl) (fe_X5_readsSum (pc := 53) rfl) ms_34 rfl rfl (Nat.le_of_ble_eq_true rfl) (kO_recv (hrk _ _ _ _ _ eq3)) (hrc 2 _ _ _ _ eq3) rfl ?_
  show Ev xs N (d + 1) 33 56 [.ref l0, .int l1, ci_junk, .int l3, .int l4] [.int q3.1] q3.2 nx _
  refine ev_go hc_X5_readsSum (k := 2) (pc' := 58) (L' := [.ref l0, .int l1, .int q3.1, .int l3, .int l4]) (S' := [.ref l0]) rfl ?_
  obtain ⟨v4, ev4, H⟩ := Option.bind_eq_some_iff.mp H
  refine ev_4 hc_X5_readsSum (fe_X5_readsSum (pc := 58) rfl) (gR_gf ev4) ?_
  refine ev_go hc_X5_readsSum (k := 1) (pc' := 63) (L' := [.ref l0, .int l1, .int q3.1, .int l3, .int l4]) (S' := [.int l4, .ref v4]) rfl ?_
  obtain ⟨h5, eh5, H⟩ := Option.bind_eq_some_iff.mp H
  refine ev_call (vs := [.ref v4, .int l4]) (rest := []) (q := q_X4_addSign) hc_X5_readsSum (Or.inr rfl) (fe_X5_readsSum (pc := 63) rfl) ms_23 rfl rfl (Nat.le_of_ble_eq_true rfl) (kO_recv (K_X4_addSign eh5)) (E_X4_addSign eh5 (by omega)) rfl ?_
  show Ev xs N (d + 1) 33 66 [.ref l0, .int l1, .int q3.1, .int l3, .int l4] [] h5 nx _
  refine ev_go hc_X5_readsSum (k := 2) (pc' := 8) (L' := [.ref l0, .int l1, .int q3.1, .int (l3 + 1), .int l4]) (S' := []) rfl ?_
  exact Ev.weak (ci_le_c (Or.inr rfl) (ci_le_c (Or.inr rfl) (ci_le_c (Or.inr rfl) (ci_le_c (Or.inr rfl) (ci_le_c (Or.inl rfl) (ci_le_n)))))) (h_8 _ _ _ _ H)
def b_X5_readsSum_8 (rc : Nat → Nat → Int32 → ci_H → Option (Int32 × ci_H)) (l0 : Nat) (l1 : Int32) : Nat → Int32 → Int32 → ci_H → Option (Int32 × ci_H)
  | 0, _, _, _ => none
  | n + 1, l2, l3, h => if 40 ≤ l3 then (if l2 = 0 ∨ l2 = 1 then some (l2, h) else none) else (if l2 = 0 then (if l2 = 0 ∨ l2 = 1 then some (l2, h) else none) else ((gR h l0 5 0).bind fun v5 => (F_X9_peek v5 h).bind fun q6 => if q6.1 = 43 then (b_X5_readsSum_44 rc (fun x0 x1 x2 => b_X5_readsSum_8 rc l0 l1 n x0 x1 x2) l0 l1 l3 q6.1 q6.2) else (if q6.1 = 45 then (b_X5_readsSum_44 rc (fun x0 x1 x2 => b_X5_readsSum_8 rc l0 l1 n x0 x1 x2) l0 l1 l3 q6.1 q6.2) else (if l2 = 0 ∨ l2 = 1 then some (l2, q6.2) else none))))
set_option maxHeartbeats 4000000 in
set_option maxRecDepth 20000 in
theorem eb_X5_readsSum_8 {xs : Nat → Int32} {N d : Nat} {nx : ci_N} {rc : Nat → Nat → Int32 → ci_H → Option (Int32 × ci_H)} {l0 : Nat} {l1 : Int32} (hd : 1 ≤ d) (hrc : ∀ (j : Nat) (a0 : Nat) (a1 : Int32) (h : ci_H) (r : Int32 × ci_H), rc j a0 a1 h = some r → Ev xs N d (mg_X5_readsExpression j) 0 (ci_entry [.ref a0, .int a1] (ci_n (ci_Ms (mg_X5_readsExpression j)))) [] h nx (oI r nx)) (hrk : ∀ (j : Nat) (a0 : Nat) (a1 : Int32) (h : ci_H) (r : Int32 × ci_H), rc j a0 a1 h = some r → kO h a0 = some 5) : ∀ (n : Nat) (l2 : Int32) (l3 : Int32) (h : ci_H) (r : Int32 × ci_H), b_X5_readsSum_8 rc l0 l1 n l2 l3 h = some r → Ev xs N (d + 1) 33 8 [.ref l0, .int l1, .int l2, .int l3, ci_junk] [] h nx (oI r nx) := by
  intro n
  induction n with
  | zero => intro l2 l3 h r H; unfold b_X5_readsSum_8 at H; cases H
  | succ n ih =>
    intro l2 l3 h r H
    unfold b_X5_readsSum_8 at H
    refine ev_go hc_X5_readsSum (k := 2) (pc' := 11) (L' := [.ref l0, .int l1, .int l2, .int l3, ci_junk]) (S' := [.int 40, .int l3]) rfl ?_
    by_cases c1 : 40 ≤ l3
    · rw [if_pos c1] at H
      refine ev_bt hc_X5_readsSum (fe_X5_readsSum (pc := 11) rfl) rfl c1 ?_
      refine ev_go hc_X5_readsSum (k := 1) (pc' := 73) (L' := [.ref l0, .int l1, .int l2, .int l3, ci_junk]) (S' := [.int l2]) rfl ?_
      by_cases c2 : l2 = 0 ∨ l2 = 1
      · rw [if_pos c2] at H
        obtain rfl := Option.some.inj H
        exact ev_8z hc_X5_readsSum (fe_X5_readsSum (pc := 73) rfl) rfl c2
      · rw [if_neg c2] at H
        cases H
    · rw [if_neg c1] at H
      refine ev_bf hc_X5_readsSum (fe_X5_readsSum (pc := 11) rfl) rfl c1 ?_
      refine ev_go hc_X5_readsSum (k := 1) (pc' := 15) (L' := [.ref l0, .int l1, .int l2, .int l3, ci_junk]) (S' := [.int l2]) rfl ?_
      by_cases c3 : l2 = 0
      · rw [if_pos c3] at H
        refine ev_bt hc_X5_readsSum (fe_X5_readsSum (pc := 15) rfl) rfl c3 ?_
        refine ev_go hc_X5_readsSum (k := 1) (pc' := 73) (L' := [.ref l0, .int l1, .int l2, .int l3, ci_junk]) (S' := [.int l2]) rfl ?_
        by_cases c4 : l2 = 0 ∨ l2 = 1
        · rw [if_pos c4] at H
          obtain rfl := Option.some.inj H
          exact ev_8z hc_X5_readsSum (fe_X5_readsSum (pc := 73) rfl) rfl c4
        · rw [if_neg c4] at H
          cases H
      · rw [if_neg c3] at H
        refine ev_bf hc_X5_readsSum (fe_X5_readsSum (pc := 15) rfl) rfl c3 ?_
        refine ev_go hc_X5_readsSum (k := 1) (pc' := 19) (L' := [.ref l0, .int l1, .int l2, .int l3, ci_junk]) (S' := [.ref l0]) rfl ?_
        obtain ⟨v5, ev5, H⟩ := Option.bind_eq_some_iff.mp H
        refine ev_4 hc_X5_readsSum (fe_X5_readsSum (pc := 19) rfl) (gR_gf ev5) ?_
        obtain ⟨q6, eq6, H⟩ := Option.bind_eq_some_iff.mp H
        refine ev_call (vs := [.ref v5]) (rest := []) (q := q_X9_peek) hc_X5_readsSum (Or.inr rfl) (fe_X5_readsSum (pc := 22) rfl) ms_53 rfl rfl (Nat.le_of_ble_eq_true rfl) (kO_recv (K_X9_peek eq6)) (E_X9_peek eq6 (by omega)) rfl ?_
        show Ev xs N (d + 1) 33 25 [.ref l0, .int l1, .int l2, .int l3, ci_junk] [.int q6.1] q6.2 nx _
        refine ev_go hc_X5_readsSum (k := 3) (pc' := 31) (L' := [.ref l0, .int l1, .int l2, .int l3, .int q6.1]) (S' := [.int 43, .int q6.1]) rfl ?_
        by_cases c7 : q6.1 = 43
        · rw [if_pos c7] at H
          refine ev_bt hc_X5_readsSum (fe_X5_readsSum (pc := 31) rfl) rfl c7 ?_
          exact Ev.weak (ci_le_c (Or.inr rfl) (ci_le_c (Or.inr rfl) (ci_le_c (Or.inl rfl) (ci_le_c (Or.inr rfl) (ci_le_c (Or.inr rfl) (ci_le_n)))))) (eb_X5_readsSum_44 hd hrc hrk ih H)
        · rw [if_neg c7] at H
          refine ev_bf hc_X5_readsSum (fe_X5_readsSum (pc := 31) rfl) rfl c7 ?_
          refine ev_go hc_X5_readsSum (k := 2) (pc' := 38) (L' := [.ref l0, .int l1, .int l2, .int l3, .int q6.1]) (S' := [.int 45, .int q6.1]) rfl ?_
          by_cases c8 : q6.1 = 45
          · rw [if_pos c8] at H
            refine ev_bt hc_X5_readsSum (fe_X5_readsSum (pc := 38) rfl) rfl c8 ?_
            exact Ev.weak (ci_le_c (Or.inr rfl) (ci_le_c (Or.inr rfl) (ci_le_c (Or.inl rfl) (ci_le_c (Or.inr rfl) (ci_le_c (Or.inr rfl) (ci_le_n)))))) (eb_X5_readsSum_44 hd hrc hrk ih H)
          · rw [if_neg c8] at H
            refine ev_bf hc_X5_readsSum (fe_X5_readsSum (pc := 38) rfl) rfl c8 ?_
            refine ev_go hc_X5_readsSum (k := 2) (pc' := 73) (L' := [.ref l0, .int l1, .int l2, .int l3, .int q6.1]) (S' := [.int l2]) rfl ?_
            by_cases c9 : l2 = 0 ∨ l2 = 1
            · rw [if_pos c9] at H
              obtain rfl := Option.some.inj H
              exact ev_8z hc_X5_readsSum (fe_X5_readsSum (pc := 73) rfl) rfl c9
            · rw [if_neg c9] at H
              cases H
def G_X5_readsSum (rc : Nat → Nat → Int32 → ci_H → Option (Int32 × ci_H)) (a0 : Nat) (a1 : Int32) (h : ci_H) : Option (Int32 × ci_H) := if kO h a0 = some 5 then ((rc 2 a0 a1 h).bind fun q1 => b_X5_readsSum_8 rc a0 a1 bigN q1.1 0 q1.2) else none
theorem KG_X5_readsSum {rc : Nat → Nat → Int32 → ci_H → Option (Int32 × ci_H)} {a0 : Nat} {a1 : Int32} {h : ci_H} {r : Int32 × ci_H} (H : G_X5_readsSum rc a0 a1 h = some r) : kO h a0 = some 5 := by
  unfold G_X5_readsSum at H
  by_cases c : kO h a0 = some 5
  · exact c
  · rw [if_neg c] at H; cases H
set_option maxHeartbeats 4000000 in
set_option maxRecDepth 20000 in
theorem EG_X5_readsSum {xs : Nat → Int32} {N d : Nat} {nx : ci_N} {rc : Nat → Nat → Int32 → ci_H → Option (Int32 × ci_H)} {a0 : Nat} {a1 : Int32} (hd : 1 ≤ d) (hrc : ∀ (j : Nat) (a0 : Nat) (a1 : Int32) (h : ci_H) (r : Int32 × ci_H), rc j a0 a1 h = some r → Ev xs N d (mg_X5_readsExpression j) 0 (ci_entry [.ref a0, .int a1] (ci_n (ci_Ms (mg_X5_readsExpression j)))) [] h nx (oI r nx)) (hrk : ∀ (j : Nat) (a0 : Nat) (a1 : Int32) (h : ci_H) (r : Int32 × ci_H), rc j a0 a1 h = some r → kO h a0 = some 5) {h : ci_H} {r : Int32 × ci_H} (H : G_X5_readsSum rc a0 a1 h = some r) : Ev xs N (d + 1) 33 0 (ci_entry [.ref a0, .int a1] 5) [] h nx (oI r nx) := by
  unfold G_X5_readsSum at H
  by_cases ck : kO h a0 = some 5
  · rw [if_pos ck] at H
    show Ev xs N (d + 1) 33 0 [.ref a0, .int a1, ci_junk, ci_junk, ci_junk] [] h nx _
    refine ev_go hc_X5_readsSum (k := 2) (pc' := 2) (L' := [.ref a0, .int a1, ci_junk, ci_junk, ci_junk]) (S' := [.int a1, .ref a0]) rfl ?_
    obtain ⟨q1, eq1, H⟩ := Option.bind_eq_some_iff.mp H
    refine ev_call (vs := [.ref a0, .int a1]) (rest := []) (q := q_X5_readsProduct) hc_X5_readsSum (Or.inr rfl) (fe_X5_readsSum (pc := 2) rfl) ms_34 rfl rfl (Nat.le_of_ble_eq_true rfl) (kO_recv (hrk _ _ _ _ _ eq1)) (hrc 2 _ _ _ _ eq1) rfl ?_
    show Ev xs N (d + 1) 33 5 [.ref a0, .int a1, ci_junk, ci_junk, ci_junk] [.int q1.1] q1.2 nx _
    refine ev_go hc_X5_readsSum (k := 3) (pc' := 8) (L' := [.ref a0, .int a1, .int q1.1, .int 0, ci_junk]) (S' := []) rfl ?_
    exact Ev.weak (ci_le_c (Or.inr rfl) (ci_le_c (Or.inr rfl) (ci_le_c (Or.inr rfl) (ci_le_c (Or.inr rfl) (ci_le_c (Or.inl rfl) (ci_le_n)))))) (eb_X5_readsSum_8 hd hrc hrk bigN _ _ _ _ H)
  · rw [if_neg ck] at H; cases H
theorem hc_X5_readsProduct : ci_code (ci_Ms 34) = k_X5_readsProduct := rfl
theorem fe_X5_readsProduct {pc : Nat} {w : Option ci_I} (h : (k_X5_readsProduct)[pc]? = some w) : (k_X5_readsProduct)[pc]? = some w := h
def b_X5_readsProduct_44 (rc : Nat → Nat → Int32 → ci_H → Option (Int32 × ci_H)) (r_8 : Int32 → Int32 → ci_H → Option (Int32 × ci_H)) (l0 : Nat) (l1 : Int32) (l3 : Int32) (l4 : Int32)  (h : ci_H) : Option (Int32 × ci_H) := (gR h l0 5 0).bind fun v1 => (F_X9_step v1 h).bind fun h2 => (rc 3 l0 l1 h2).bind fun q3 => (gR q3.2 l0 5 1).bind fun v4 => (F_X4_addSign v4 l4 q3.2).bind fun h5 => r_8 q3.1 (l3 + 1) h5
set_option maxHeartbeats 4000000 in
set_option maxRecDepth 20000 in
theorem eb_X5_readsProduct_44 {xs : Nat → Int32} {N d : Nat} {nx : ci_N} {rc : Nat → Nat → Int32 → ci_H → Option (Int32 × ci_H)} {r_8 : Int32 → Int32 → ci_H → Option (Int32 × ci_H)} {l0 : Nat} {l1 : Int32} {l3 : Int32} {l4 : Int32} (hd : 1 ≤ d) (hrc : ∀ (j : Nat) (a0 : Nat) (a1 : Int32) (h : ci_H) (r : Int32 × ci_H), rc j a0 a1 h = some r → Ev xs N d (mg_X5_readsExpression j) 0 (ci_entry [.ref a0, .int a1] (ci_n (ci_Ms (mg_X5_readsExpression j)))) [] h nx (oI r nx)) (hrk : ∀ (j : Nat) (a0 : Nat) (a1 : Int32) (h : ci_H) (r : Int32 × ci_H), rc j a0 a1 h = some r → kO h a0 = some 5) (h_8 : ∀ (l2 : Int32) (l3 : Int32) (h : ci_H) (r : Int32 × ci_H), r_8 l2 l3 h = some r → Ev xs N (d + 1) 34 8 [.ref l0, .int l1, .int l2, .int l3, ci_junk] [] h nx (oI r nx)) {h : ci_H} {r : Int32 × ci_H} (H : b_X5_readsProduct_44 rc r_8 l0 l1 l3 l4 h = some r) : Ev xs N (d + 1) 34 44 [.ref l0, .int l1, ci_junk, .int l3, .int l4] [] h nx (oI r nx) := by
  unfold b_X5_readsProduct_44 at H
  refine ev_go hc_X5_readsProduct (k := 1) (pc' := 45) (L' := [.ref l0, .int l1, ci_junk, .int l3, .int l4]) (S' := [.ref l0]) rfl ?_
  obtain ⟨v1, ev1, H⟩ := Option.bind_eq_some_iff.mp H
  refine ev_4 hc_X5_readsProduct (fe_X5_readsProduct (pc := 45) rfl) (gR_gf ev1) ?_
  obtain ⟨h2, eh2, H⟩ := Option.bind_eq_some_iff.mp H
  refine ev_call (vs := [.ref v1]) (rest := []) (q := q_X9_step) hc_X5_readsProduct (Or.inr rfl) (fe_X5_readsProduct (pc := 48) rfl) ms_54 rfl rfl (Nat.le_of_ble_eq_true rfl) (kO_recv (K_X9_step eh2)) (E_X9_step eh2 (by omega)) rfl ?_
  show Ev xs N (d + 1) 34 51 [.ref l0, .int l1, ci_junk, .int l3, .int l4] [] h2 nx _
  refine ev_go hc_X5_readsProduct (k := 2) (pc' := 53) (L' := [.ref l0, .int l1, ci_junk, .int l3, .int l4]) (S' := [.int l1, .ref l0]) rfl ?_
  obtain ⟨q3, eq3, H⟩ := Option.bind_eq_some_iff.mp H
  refine ev_call (vs := [.ref l0, .int l1]) (rest := []) (q := q_X5_readsSigned) hc_X5_readsProduct (Or.inr rfl) (fe_X5_readsProduct (pc := 53) rfl) ms_35 rfl rfl (Nat.le_of_ble_eq_true rfl) (kO_recv (hrk _ _ _ _ _ eq3)) (hrc 3 _ _ _ _ eq3) rfl ?_
  show Ev xs N (d + 1) 34 56 [.ref l0, .int l1, ci_junk, .int l3, .int l4] [.int q3.1] q3.2 nx _
  refine ev_go hc_X5_readsProduct (k := 2) (pc' := 58) (L' := [.ref l0, .int l1, .int q3.1, .int l3, .int l4]) (S' := [.ref l0]) rfl ?_
  obtain ⟨v4, ev4, H⟩ := Option.bind_eq_some_iff.mp H
  refine ev_4 hc_X5_readsProduct (fe_X5_readsProduct (pc := 58) rfl) (gR_gf ev4) ?_
  refine ev_go hc_X5_readsProduct (k := 1) (pc' := 63) (L' := [.ref l0, .int l1, .int q3.1, .int l3, .int l4]) (S' := [.int l4, .ref v4]) rfl ?_
  obtain ⟨h5, eh5, H⟩ := Option.bind_eq_some_iff.mp H
  refine ev_call (vs := [.ref v4, .int l4]) (rest := []) (q := q_X4_addSign) hc_X5_readsProduct (Or.inr rfl) (fe_X5_readsProduct (pc := 63) rfl) ms_23 rfl rfl (Nat.le_of_ble_eq_true rfl) (kO_recv (K_X4_addSign eh5)) (E_X4_addSign eh5 (by omega)) rfl ?_
  show Ev xs N (d + 1) 34 66 [.ref l0, .int l1, .int q3.1, .int l3, .int l4] [] h5 nx _
  refine ev_go hc_X5_readsProduct (k := 2) (pc' := 8) (L' := [.ref l0, .int l1, .int q3.1, .int (l3 + 1), .int l4]) (S' := []) rfl ?_
  exact Ev.weak (ci_le_c (Or.inr rfl) (ci_le_c (Or.inr rfl) (ci_le_c (Or.inr rfl) (ci_le_c (Or.inr rfl) (ci_le_c (Or.inl rfl) (ci_le_n)))))) (h_8 _ _ _ _ H)
def b_X5_readsProduct_8 (rc : Nat → Nat → Int32 → ci_H → Option (Int32 × ci_H)) (l0 : Nat) (l1 : Int32) : Nat → Int32 → Int32 → ci_H → Option (Int32 × ci_H)
  | 0, _, _, _ => none
  | n + 1, l2, l3, h => if 40 ≤ l3 then (if l2 = 0 ∨ l2 = 1 then some (l2, h) else none) else (if l2 = 0 then (if l2 = 0 ∨ l2 = 1 then some (l2, h) else none) else ((gR h l0 5 0).bind fun v5 => (F_X9_peek v5 h).bind fun q6 => if q6.1 = 42 then (b_X5_readsProduct_44 rc (fun x0 x1 x2 => b_X5_readsProduct_8 rc l0 l1 n x0 x1 x2) l0 l1 l3 q6.1 q6.2) else (if q6.1 = 47 then (b_X5_readsProduct_44 rc (fun x0 x1 x2 => b_X5_readsProduct_8 rc l0 l1 n x0 x1 x2) l0 l1 l3 q6.1 q6.2) else (if l2 = 0 ∨ l2 = 1 then some (l2, q6.2) else none))))
set_option maxHeartbeats 4000000 in
set_option maxRecDepth 20000 in
theorem eb_X5_readsProduct_8 {xs : Nat → Int32} {N d : Nat} {nx : ci_N} {rc : Nat → Nat → Int32 → ci_H → Option (Int32 × ci_H)} {l0 : Nat} {l1 : Int32} (hd : 1 ≤ d) (hrc : ∀ (j : Nat) (a0 : Nat) (a1 : Int32) (h : ci_H) (r : Int32 × ci_H), rc j a0 a1 h = some r → Ev xs N d (mg_X5_readsExpression j) 0 (ci_entry [.ref a0, .int a1] (ci_n (ci_Ms (mg_X5_readsExpression j)))) [] h nx (oI r nx)) (hrk : ∀ (j : Nat) (a0 : Nat) (a1 : Int32) (h : ci_H) (r : Int32 × ci_H), rc j a0 a1 h = some r → kO h a0 = some 5) : ∀ (n : Nat) (l2 : Int32) (l3 : Int32) (h : ci_H) (r : Int32 × ci_H), b_X5_readsProduct_8 rc l0 l1 n l2 l3 h = some r → Ev xs N (d + 1) 34 8 [.ref l0, .int l1, .int l2, .int l3, ci_junk] [] h nx (oI r nx) := by
  intro n
  induction n with
  | zero => intro l2 l3 h r H; unfold b_X5_readsProduct_8 at H; cases H
  | succ n ih =>
    intro l2 l3 h r H
    unfold b_X5_readsProduct_8 at H
    refine ev_go hc_X5_readsProduct (k := 2) (pc' := 11) (L' := [.ref l0, .int l1, .int l2, .int l3, ci_junk]) (S' := [.int 40, .int l3]) rfl ?_
    by_cases c1 : 40 ≤ l3
    · rw [if_pos c1] at H
      refine ev_bt hc_X5_readsProduct (fe_X5_readsProduct (pc := 11) rfl) rfl c1 ?_
      refine ev_go hc_X5_readsProduct (k := 1) (pc' := 73) (L' := [.ref l0, .int l1, .int l2, .int l3, ci_junk]) (S' := [.int l2]) rfl ?_
      by_cases c2 : l2 = 0 ∨ l2 = 1
      · rw [if_pos c2] at H
        obtain rfl := Option.some.inj H
        exact ev_8z hc_X5_readsProduct (fe_X5_readsProduct (pc := 73) rfl) rfl c2
      · rw [if_neg c2] at H
        cases H
    · rw [if_neg c1] at H
      refine ev_bf hc_X5_readsProduct (fe_X5_readsProduct (pc := 11) rfl) rfl c1 ?_
      refine ev_go hc_X5_readsProduct (k := 1) (pc' := 15) (L' := [.ref l0, .int l1, .int l2, .int l3, ci_junk]) (S' := [.int l2]) rfl ?_
      by_cases c3 : l2 = 0
      · rw [if_pos c3] at H
        refine ev_bt hc_X5_readsProduct (fe_X5_readsProduct (pc := 15) rfl) rfl c3 ?_
        refine ev_go hc_X5_readsProduct (k := 1) (pc' := 73) (L' := [.ref l0, .int l1, .int l2, .int l3, ci_junk]) (S' := [.int l2]) rfl ?_
        by_cases c4 : l2 = 0 ∨ l2 = 1
        · rw [if_pos c4] at H
          obtain rfl := Option.some.inj H
          exact ev_8z hc_X5_readsProduct (fe_X5_readsProduct (pc := 73) rfl) rfl c4
        · rw [if_neg c4] at H
          cases H
      · rw [if_neg c3] at H
        refine ev_bf hc_X5_readsProduct (fe_X5_readsProduct (pc := 15) rfl) rfl c3 ?_
        refine ev_go hc_X5_readsProduct (k := 1) (pc' := 19) (L' := [.ref l0, .int l1, .int l2, .int l3, ci_junk]) (S' := [.ref l0]) rfl ?_
        obtain ⟨v5, ev5, H⟩ := Option.bind_eq_some_iff.mp H
        refine ev_4 hc_X5_readsProduct (fe_X5_readsProduct (pc := 19) rfl) (gR_gf ev5) ?_
        obtain ⟨q6, eq6, H⟩ := Option.bind_eq_some_iff.mp H
        refine ev_call (vs := [.ref v5]) (rest := []) (q := q_X9_peek) hc_X5_readsProduct (Or.inr rfl) (fe_X5_readsProduct (pc := 22) rfl) ms_53 rfl rfl (Nat.le_of_ble_eq_true rfl) (kO_recv (K_X9_peek eq6)) (E_X9_peek eq6 (by omega)) rfl ?_
        show Ev xs N (d + 1) 34 25 [.ref l0, .int l1, .int l2, .int l3, ci_junk] [.int q6.1] q6.2 nx _
        refine ev_go hc_X5_readsProduct (k := 3) (pc' := 31) (L' := [.ref l0, .int l1, .int l2, .int l3, .int q6.1]) (S' := [.int 42, .int q6.1]) rfl ?_
        by_cases c7 : q6.1 = 42
        · rw [if_pos c7] at H
          refine ev_bt hc_X5_readsProduct (fe_X5_readsProduct (pc := 31) rfl) rfl c7 ?_
          exact Ev.weak (ci_le_c (Or.inr rfl) (ci_le_c (Or.inr rfl) (ci_le_c (Or.inl rfl) (ci_le_c (Or.inr rfl) (ci_le_c (Or.inr rfl) (ci_le_n)))))) (eb_X5_readsProduct_44 hd hrc hrk ih H)
        · rw [if_neg c7] at H
          refine ev_bf hc_X5_readsProduct (fe_X5_readsProduct (pc := 31) rfl) rfl c7 ?_
          refine ev_go hc_X5_readsProduct (k := 2) (pc' := 38) (L' := [.ref l0, .int l1, .int l2, .int l3, .int q6.1]) (S' := [.int 47, .int q6.1]) rfl ?_
          by_cases c8 : q6.1 = 47
          · rw [if_pos c8] at H
            refine ev_bt hc_X5_readsProduct (fe_X5_readsProduct (pc := 38) rfl) rfl c8 ?_
            exact Ev.weak (ci_le_c (Or.inr rfl) (ci_le_c (Or.inr rfl) (ci_le_c (Or.inl rfl) (ci_le_c (Or.inr rfl) (ci_le_c (Or.inr rfl) (ci_le_n)))))) (eb_X5_readsProduct_44 hd hrc hrk ih H)
          · rw [if_neg c8] at H
            refine ev_bf hc_X5_readsProduct (fe_X5_readsProduct (pc := 38) rfl) rfl c8 ?_
            refine ev_go hc_X5_readsProduct (k := 2) (pc' := 73) (L' := [.ref l0, .int l1, .int l2, .int l3, .int q6.1]) (S' := [.int l2]) rfl ?_
            by_cases c9 : l2 = 0 ∨ l2 = 1
            · rw [if_pos c9] at H
              obtain rfl := Option.some.inj H
              exact ev_8z hc_X5_readsProduct (fe_X5_readsProduct (pc := 73) rfl) rfl c9
            · rw [if_neg c9] at H
              cases H
def G_X5_readsProduct (rc : Nat → Nat → Int32 → ci_H → Option (Int32 × ci_H)) (a0 : Nat) (a1 : Int32) (h : ci_H) : Option (Int32 × ci_H) := if kO h a0 = some 5 then ((rc 3 a0 a1 h).bind fun q1 => b_X5_readsProduct_8 rc a0 a1 bigN q1.1 0 q1.2) else none
theorem KG_X5_readsProduct {rc : Nat → Nat → Int32 → ci_H → Option (Int32 × ci_H)} {a0 : Nat} {a1 : Int32} {h : ci_H} {r : Int32 × ci_H} (H : G_X5_readsProduct rc a0 a1 h = some r) : kO h a0 = some 5 := by
  unfold G_X5_readsProduct at H
  by_cases c : kO h a0 = some 5
  · exact c
  · rw [if_neg c] at H; cases H
set_option maxHeartbeats 4000000 in
set_option maxRecDepth 20000 in
theorem EG_X5_readsProduct {xs : Nat → Int32} {N d : Nat} {nx : ci_N} {rc : Nat → Nat → Int32 → ci_H → Option (Int32 × ci_H)} {a0 : Nat} {a1 : Int32} (hd : 1 ≤ d) (hrc : ∀ (j : Nat) (a0 : Nat) (a1 : Int32) (h : ci_H) (r : Int32 × ci_H), rc j a0 a1 h = some r → Ev xs N d (mg_X5_readsExpression j) 0 (ci_entry [.ref a0, .int a1] (ci_n (ci_Ms (mg_X5_readsExpression j)))) [] h nx (oI r nx)) (hrk : ∀ (j : Nat) (a0 : Nat) (a1 : Int32) (h : ci_H) (r : Int32 × ci_H), rc j a0 a1 h = some r → kO h a0 = some 5) {h : ci_H} {r : Int32 × ci_H} (H : G_X5_readsProduct rc a0 a1 h = some r) : Ev xs N (d + 1) 34 0 (ci_entry [.ref a0, .int a1] 5) [] h nx (oI r nx) := by
  unfold G_X5_readsProduct at H
  by_cases ck : kO h a0 = some 5
  · rw [if_pos ck] at H
    show Ev xs N (d + 1) 34 0 [.ref a0, .int a1, ci_junk, ci_junk, ci_junk] [] h nx _
    refine ev_go hc_X5_readsProduct (k := 2) (pc' := 2) (L' := [.ref a0, .int a1, ci_junk, ci_junk, ci_junk]) (S' := [.int a1, .ref a0]) rfl ?_
    obtain ⟨q1, eq1, H⟩ := Option.bind_eq_some_iff.mp H
    refine ev_call (vs := [.ref a0, .int a1]) (rest := []) (q := q_X5_readsSigned) hc_X5_readsProduct (Or.inr rfl) (fe_X5_readsProduct (pc := 2) rfl) ms_35 rfl rfl (Nat.le_of_ble_eq_true rfl) (kO_recv (hrk _ _ _ _ _ eq1)) (hrc 3 _ _ _ _ eq1) rfl ?_
    show Ev xs N (d + 1) 34 5 [.ref a0, .int a1, ci_junk, ci_junk, ci_junk] [.int q1.1] q1.2 nx _
    refine ev_go hc_X5_readsProduct (k := 3) (pc' := 8) (L' := [.ref a0, .int a1, .int q1.1, .int 0, ci_junk]) (S' := []) rfl ?_
    exact Ev.weak (ci_le_c (Or.inr rfl) (ci_le_c (Or.inr rfl) (ci_le_c (Or.inr rfl) (ci_le_c (Or.inr rfl) (ci_le_c (Or.inl rfl) (ci_le_n)))))) (eb_X5_readsProduct_8 hd hrc hrk bigN _ _ _ _ H)
  · rw [if_neg ck] at H; cases H
theorem hc_X5_readsSigned : ci_code (ci_Ms 35) = k_X5_readsSigned := rfl
theorem fe_X5_readsSigned {pc : Nat} {w : Option ci_I} (h : (k_X5_readsSigned)[pc]? = some w) : (k_X5_readsSigned)[pc]? = some w := h
def b_X5_readsSigned_38 (rc : Nat → Nat → Int32 → ci_H → Option (Int32 × ci_H)) (l0 : Nat) (l1 : Int32) (l2 : Int32)  (h : ci_H) : Option (Int32 × ci_H) := (rc 4 l0 l1 h).bind fun q1 => if q1.1 = 0 then (some (0, q1.2)) else (if l2 = 0 then (some (1, q1.2)) else ((gR q1.2 l0 5 1).bind fun v4 => (F_X4_addSign v4 126 q1.2).bind fun h5 => some (1, h5)))
set_option maxHeartbeats 4000000 in
set_option maxRecDepth 20000 in
theorem eb_X5_readsSigned_38 {xs : Nat → Int32} {N d : Nat} {nx : ci_N} {rc : Nat → Nat → Int32 → ci_H → Option (Int32 × ci_H)} {l0 : Nat} {l1 : Int32} {l2 : Int32} (hd : 1 ≤ d) (hrc : ∀ (j : Nat) (a0 : Nat) (a1 : Int32) (h : ci_H) (r : Int32 × ci_H), rc j a0 a1 h = some r → Ev xs N d (mg_X5_readsExpression j) 0 (ci_entry [.ref a0, .int a1] (ci_n (ci_Ms (mg_X5_readsExpression j)))) [] h nx (oI r nx)) (hrk : ∀ (j : Nat) (a0 : Nat) (a1 : Int32) (h : ci_H) (r : Int32 × ci_H), rc j a0 a1 h = some r → kO h a0 = some 5) {h : ci_H} {r : Int32 × ci_H} (H : b_X5_readsSigned_38 rc l0 l1 l2 h = some r) : Ev xs N (d + 1) 35 38 [.ref l0, .int l1, .int l2, ci_junk] [] h nx (oI r nx) := by
  unfold b_X5_readsSigned_38 at H
  refine ev_go hc_X5_readsSigned (k := 2) (pc' := 40) (L' := [.ref l0, .int l1, .int l2, ci_junk]) (S' := [.int l1, .ref l0]) rfl ?_
  obtain ⟨q1, eq1, H⟩ := Option.bind_eq_some_iff.mp H
  refine ev_call (vs := [.ref l0, .int l1]) (rest := []) (q := q_X5_readsThing) hc_X5_readsSigned (Or.inr rfl) (fe_X5_readsSigned (pc := 40) rfl) ms_36 rfl rfl (Nat.le_of_ble_eq_true rfl) (kO_recv (hrk _ _ _ _ _ eq1)) (hrc 4 _ _ _ _ eq1) rfl ?_
  show Ev xs N (d + 1) 35 43 [.ref l0, .int l1, .int l2, ci_junk] [.int q1.1] q1.2 nx _
  by_cases c2 : q1.1 = 0
  · rw [if_pos c2] at H
    refine ev_bt hc_X5_readsSigned (fe_X5_readsSigned (pc := 43) rfl) rfl c2 ?_
    refine ev_go hc_X5_readsSigned (k := 1) (pc' := 47) (L' := [.ref l0, .int l1, .int l2, ci_junk]) (S' := [.int 0]) rfl ?_
    obtain rfl := Option.some.inj H
    exact ev_8z hc_X5_readsSigned (fe_X5_readsSigned (pc := 47) rfl) rfl (Or.inl rfl)
  · rw [if_neg c2] at H
    refine ev_bf hc_X5_readsSigned (fe_X5_readsSigned (pc := 43) rfl) rfl c2 ?_
    refine ev_go hc_X5_readsSigned (k := 1) (pc' := 49) (L' := [.ref l0, .int l1, .int l2, ci_junk]) (S' := [.int l2]) rfl ?_
    by_cases c3 : l2 = 0
    · rw [if_pos c3] at H
      refine ev_bt hc_X5_readsSigned (fe_X5_readsSigned (pc := 49) rfl) rfl c3 ?_
      refine ev_go hc_X5_readsSigned (k := 1) (pc' := 62) (L' := [.ref l0, .int l1, .int l2, ci_junk]) (S' := [.int 1]) rfl ?_
      obtain rfl := Option.some.inj H
      exact ev_8z hc_X5_readsSigned (fe_X5_readsSigned (pc := 62) rfl) rfl (Or.inr rfl)
    · rw [if_neg c3] at H
      refine ev_bf hc_X5_readsSigned (fe_X5_readsSigned (pc := 49) rfl) rfl c3 ?_
      refine ev_go hc_X5_readsSigned (k := 1) (pc' := 53) (L' := [.ref l0, .int l1, .int l2, ci_junk]) (S' := [.ref l0]) rfl ?_
      obtain ⟨v4, ev4, H⟩ := Option.bind_eq_some_iff.mp H
      refine ev_4 hc_X5_readsSigned (fe_X5_readsSigned (pc := 53) rfl) (gR_gf ev4) ?_
      refine ev_go hc_X5_readsSigned (k := 1) (pc' := 58) (L' := [.ref l0, .int l1, .int l2, ci_junk]) (S' := [.int 126, .ref v4]) rfl ?_
      obtain ⟨h5, eh5, H⟩ := Option.bind_eq_some_iff.mp H
      refine ev_call (vs := [.ref v4, .int 126]) (rest := []) (q := q_X4_addSign) hc_X5_readsSigned (Or.inr rfl) (fe_X5_readsSigned (pc := 58) rfl) ms_23 rfl rfl (Nat.le_of_ble_eq_true rfl) (kO_recv (K_X4_addSign eh5)) (E_X4_addSign eh5 (by omega)) rfl ?_
      show Ev xs N (d + 1) 35 61 [.ref l0, .int l1, .int l2, ci_junk] [] h5 nx _
      refine ev_go hc_X5_readsSigned (k := 1) (pc' := 62) (L' := [.ref l0, .int l1, .int l2, ci_junk]) (S' := [.int 1]) rfl ?_
      obtain rfl := Option.some.inj H
      exact ev_8z hc_X5_readsSigned (fe_X5_readsSigned (pc := 62) rfl) rfl (Or.inr rfl)
def b_X5_readsSigned_31 (rc : Nat → Nat → Int32 → ci_H → Option (Int32 × ci_H)) (r_4 : Int32 → Int32 → ci_H → Option (Int32 × ci_H)) (l0 : Nat) (l1 : Int32) (l3 : Int32) (s0 : Int32)  (h : ci_H) : Option (Int32 × ci_H) := r_4 s0 (l3 + 1) h
set_option maxHeartbeats 4000000 in
set_option maxRecDepth 20000 in
theorem eb_X5_readsSigned_31 {xs : Nat → Int32} {N d : Nat} {nx : ci_N} {rc : Nat → Nat → Int32 → ci_H → Option (Int32 × ci_H)} {r_4 : Int32 → Int32 → ci_H → Option (Int32 × ci_H)} {l0 : Nat} {l1 : Int32} {l3 : Int32} {s0 : Int32} (hd : 1 ≤ d) (hrc : ∀ (j : Nat) (a0 : Nat) (a1 : Int32) (h : ci_H) (r : Int32 × ci_H), rc j a0 a1 h = some r → Ev xs N d (mg_X5_readsExpression j) 0 (ci_entry [.ref a0, .int a1] (ci_n (ci_Ms (mg_X5_readsExpression j)))) [] h nx (oI r nx)) (hrk : ∀ (j : Nat) (a0 : Nat) (a1 : Int32) (h : ci_H) (r : Int32 × ci_H), rc j a0 a1 h = some r → kO h a0 = some 5) (h_4 : ∀ (l2 : Int32) (l3 : Int32) (h : ci_H) (r : Int32 × ci_H), r_4 l2 l3 h = some r → Ev xs N (d + 1) 35 4 [.ref l0, .int l1, .int l2, .int l3] [] h nx (oI r nx)) {h : ci_H} {r : Int32 × ci_H} (H : b_X5_readsSigned_31 rc r_4 l0 l1 l3 s0 h = some r) : Ev xs N (d + 1) 35 31 [.ref l0, .int l1, ci_junk, .int l3] [.int s0] h nx (oI r nx) := by
  unfold b_X5_readsSigned_31 at H
  refine ev_go hc_X5_readsSigned (k := 3) (pc' := 4) (L' := [.ref l0, .int l1, .int s0, .int (l3 + 1)]) (S' := []) rfl ?_
  exact Ev.weak (ci_le_c (Or.inr rfl) (ci_le_c (Or.inr rfl) (ci_le_c (Or.inr rfl) (ci_le_c (Or.inr rfl) (ci_le_n))))) (h_4 _ _ _ _ H)
def b_X5_readsSigned_4 (rc : Nat → Nat → Int32 → ci_H → Option (Int32 × ci_H)) (l0 : Nat) (l1 : Int32) : Nat → Int32 → Int32 → ci_H → Option (Int32 × ci_H)
  | 0, _, _, _ => none
  | n + 1, l2, l3, h => if 40 ≤ l3 then (b_X5_readsSigned_38 rc l0 l1 l2 h) else ((gR h l0 5 0).bind fun v2 => (F_X9_takes v2 45 h).bind fun q3 => if q3.1 = 0 then (b_X5_readsSigned_38 rc l0 l1 l2 q3.2) else (if l2 = 0 then (b_X5_readsSigned_31 rc (fun x0 x1 x2 => b_X5_readsSigned_4 rc l0 l1 n x0 x1 x2) l0 l1 l3 1 q3.2) else (b_X5_readsSigned_31 rc (fun x0 x1 x2 => b_X5_readsSigned_4 rc l0 l1 n x0 x1 x2) l0 l1 l3 0 q3.2)))
set_option maxHeartbeats 4000000 in
set_option maxRecDepth 20000 in
theorem eb_X5_readsSigned_4 {xs : Nat → Int32} {N d : Nat} {nx : ci_N} {rc : Nat → Nat → Int32 → ci_H → Option (Int32 × ci_H)} {l0 : Nat} {l1 : Int32} (hd : 1 ≤ d) (hrc : ∀ (j : Nat) (a0 : Nat) (a1 : Int32) (h : ci_H) (r : Int32 × ci_H), rc j a0 a1 h = some r → Ev xs N d (mg_X5_readsExpression j) 0 (ci_entry [.ref a0, .int a1] (ci_n (ci_Ms (mg_X5_readsExpression j)))) [] h nx (oI r nx)) (hrk : ∀ (j : Nat) (a0 : Nat) (a1 : Int32) (h : ci_H) (r : Int32 × ci_H), rc j a0 a1 h = some r → kO h a0 = some 5) : ∀ (n : Nat) (l2 : Int32) (l3 : Int32) (h : ci_H) (r : Int32 × ci_H), b_X5_readsSigned_4 rc l0 l1 n l2 l3 h = some r → Ev xs N (d + 1) 35 4 [.ref l0, .int l1, .int l2, .int l3] [] h nx (oI r nx) := by
  intro n
  induction n with
  | zero => intro l2 l3 h r H; unfold b_X5_readsSigned_4 at H; cases H
  | succ n ih =>
    intro l2 l3 h r H
    unfold b_X5_readsSigned_4 at H
    refine ev_go hc_X5_readsSigned (k := 2) (pc' := 7) (L' := [.ref l0, .int l1, .int l2, .int l3]) (S' := [.int 40, .int l3]) rfl ?_
    by_cases c1 : 40 ≤ l3
    · rw [if_pos c1] at H
      refine ev_bt hc_X5_readsSigned (fe_X5_readsSigned (pc := 7) rfl) rfl c1 ?_
      exact Ev.weak (ci_le_c (Or.inr rfl) (ci_le_c (Or.inr rfl) (ci_le_c (Or.inr rfl) (ci_le_c (Or.inl rfl) (ci_le_n))))) (eb_X5_readsSigned_38 hd hrc hrk H)
    · rw [if_neg c1] at H
      refine ev_bf hc_X5_readsSigned (fe_X5_readsSigned (pc := 7) rfl) rfl c1 ?_
      refine ev_go hc_X5_readsSigned (k := 1) (pc' := 11) (L' := [.ref l0, .int l1, .int l2, .int l3]) (S' := [.ref l0]) rfl ?_
      obtain ⟨v2, ev2, H⟩ := Option.bind_eq_some_iff.mp H
      refine ev_4 hc_X5_readsSigned (fe_X5_readsSigned (pc := 11) rfl) (gR_gf ev2) ?_
      refine ev_go hc_X5_readsSigned (k := 1) (pc' := 16) (L' := [.ref l0, .int l1, .int l2, .int l3]) (S' := [.int 45, .ref v2]) rfl ?_
      obtain ⟨q3, eq3, H⟩ := Option.bind_eq_some_iff.mp H
      refine ev_call (vs := [.ref v2, .int 45]) (rest := []) (q := q_X9_takes) hc_X5_readsSigned (Or.inr rfl) (fe_X5_readsSigned (pc := 16) rfl) ms_57 rfl rfl (Nat.le_of_ble_eq_true rfl) (kO_recv (K_X9_takes eq3)) (E_X9_takes eq3 (by omega)) rfl ?_
      show Ev xs N (d + 1) 35 19 [.ref l0, .int l1, .int l2, .int l3] [.int q3.1] q3.2 nx _
      by_cases c4 : q3.1 = 0
      · rw [if_pos c4] at H
        refine ev_bt hc_X5_readsSigned (fe_X5_readsSigned (pc := 19) rfl) rfl c4 ?_
        exact Ev.weak (ci_le_c (Or.inr rfl) (ci_le_c (Or.inr rfl) (ci_le_c (Or.inr rfl) (ci_le_c (Or.inl rfl) (ci_le_n))))) (eb_X5_readsSigned_38 hd hrc hrk H)
      · rw [if_neg c4] at H
        refine ev_bf hc_X5_readsSigned (fe_X5_readsSigned (pc := 19) rfl) rfl c4 ?_
        refine ev_go hc_X5_readsSigned (k := 1) (pc' := 23) (L' := [.ref l0, .int l1, .int l2, .int l3]) (S' := [.int l2]) rfl ?_
        by_cases c5 : l2 = 0
        · rw [if_pos c5] at H
          refine ev_bt hc_X5_readsSigned (fe_X5_readsSigned (pc := 23) rfl) rfl c5 ?_
          refine ev_go hc_X5_readsSigned (k := 2) (pc' := 31) (L' := [.ref l0, .int l1, .int l2, .int l3]) (S' := [.int 1]) rfl ?_
          exact Ev.weak (ci_le_c (Or.inr rfl) (ci_le_c (Or.inr rfl) (ci_le_c (Or.inl rfl) (ci_le_c (Or.inr rfl) (ci_le_n))))) (eb_X5_readsSigned_31 hd hrc hrk ih H)
        · rw [if_neg c5] at H
          refine ev_bf hc_X5_readsSigned (fe_X5_readsSigned (pc := 23) rfl) rfl c5 ?_
          refine ev_go hc_X5_readsSigned (k := 1) (pc' := 31) (L' := [.ref l0, .int l1, .int l2, .int l3]) (S' := [.int 0]) rfl ?_
          exact Ev.weak (ci_le_c (Or.inr rfl) (ci_le_c (Or.inr rfl) (ci_le_c (Or.inl rfl) (ci_le_c (Or.inr rfl) (ci_le_n))))) (eb_X5_readsSigned_31 hd hrc hrk ih H)
def G_X5_readsSigned (rc : Nat → Nat → Int32 → ci_H → Option (Int32 × ci_H)) (a0 : Nat) (a1 : Int32) (h : ci_H) : Option (Int32 × ci_H) := if kO h a0 = some 5 then (b_X5_readsSigned_4 rc a0 a1 bigN 0 0 h) else none
theorem KG_X5_readsSigned {rc : Nat → Nat → Int32 → ci_H → Option (Int32 × ci_H)} {a0 : Nat} {a1 : Int32} {h : ci_H} {r : Int32 × ci_H} (H : G_X5_readsSigned rc a0 a1 h = some r) : kO h a0 = some 5 := by
  unfold G_X5_readsSigned at H
  by_cases c : kO h a0 = some 5
  · exact c
  · rw [if_neg c] at H; cases H
set_option maxHeartbeats 4000000 in
set_option maxRecDepth 20000 in
theorem EG_X5_readsSigned {xs : Nat → Int32} {N d : Nat} {nx : ci_N} {rc : Nat → Nat → Int32 → ci_H → Option (Int32 × ci_H)} {a0 : Nat} {a1 : Int32} (hd : 1 ≤ d) (hrc : ∀ (j : Nat) (a0 : Nat) (a1 : Int32) (h : ci_H) (r : Int32 × ci_H), rc j a0 a1 h = some r → Ev xs N d (mg_X5_readsExpression j) 0 (ci_entry [.ref a0, .int a1] (ci_n (ci_Ms (mg_X5_readsExpression j)))) [] h nx (oI r nx)) (hrk : ∀ (j : Nat) (a0 : Nat) (a1 : Int32) (h : ci_H) (r : Int32 × ci_H), rc j a0 a1 h = some r → kO h a0 = some 5) {h : ci_H} {r : Int32 × ci_H} (H : G_X5_readsSigned rc a0 a1 h = some r) : Ev xs N (d + 1) 35 0 (ci_entry [.ref a0, .int a1] 4) [] h nx (oI r nx) := by
  unfold G_X5_readsSigned at H
  by_cases ck : kO h a0 = some 5
  · rw [if_pos ck] at H
    show Ev xs N (d + 1) 35 0 [.ref a0, .int a1, ci_junk, ci_junk] [] h nx _
    refine ev_go hc_X5_readsSigned (k := 4) (pc' := 4) (L' := [.ref a0, .int a1, .int 0, .int 0]) (S' := []) rfl ?_
    exact Ev.weak (ci_le_c (Or.inr rfl) (ci_le_c (Or.inr rfl) (ci_le_c (Or.inr rfl) (ci_le_c (Or.inr rfl) (ci_le_n))))) (eb_X5_readsSigned_4 hd hrc hrk bigN _ _ _ _ H)
  · rw [if_neg ck] at H; cases H
theorem hc_X5_readsThing : ci_code (ci_Ms 36) = k_X5_readsThing := rfl
theorem fe_X5_readsThing {pc : Nat} {w : Option ci_I} (h : (k_X5_readsThing)[pc]? = some w) : (k_X5_readsThing)[pc]? = some w := h
def b_X5_readsThing_115 (rc : Nat → Nat → Int32 → ci_H → Option (Int32 × ci_H)) (l0 : Nat) (l3 : Int32)  (h : ci_H) : Option (Int32 × ci_H) := (gR h l0 5 0).bind fun v1 => (F_X9_step v1 h).bind fun h2 => (gR h2 l0 5 1).bind fun v3 => (F_X4_addSign v3 l3 h2).bind fun h4 => some (1, h4)
set_option maxHeartbeats 4000000 in
set_option maxRecDepth 20000 in
theorem eb_X5_readsThing_115 {xs : Nat → Int32} {N d : Nat} {nx : ci_N} {rc : Nat → Nat → Int32 → ci_H → Option (Int32 × ci_H)} {l0 : Nat} {l3 : Int32} (hd : 2 ≤ d) (hrc : ∀ (j : Nat) (a0 : Nat) (a1 : Int32) (h : ci_H) (r : Int32 × ci_H), rc j a0 a1 h = some r → Ev xs N d (mg_X5_readsExpression j) 0 (ci_entry [.ref a0, .int a1] (ci_n (ci_Ms (mg_X5_readsExpression j)))) [] h nx (oI r nx)) (hrk : ∀ (j : Nat) (a0 : Nat) (a1 : Int32) (h : ci_H) (r : Int32 × ci_H), rc j a0 a1 h = some r → kO h a0 = some 5) {h : ci_H} {r : Int32 × ci_H} (H : b_X5_readsThing_115 rc l0 l3 h = some r) : Ev xs N (d + 1) 36 115 [.ref l0, ci_junk, ci_junk, .int l3] [] h nx (oI r nx) := by
  unfold b_X5_readsThing_115 at H
  refine ev_go hc_X5_readsThing (k := 1) (pc' := 116) (L' := [.ref l0, ci_junk, ci_junk, .int l3]) (S' := [.ref l0]) rfl ?_
  obtain ⟨v1, ev1, H⟩ := Option.bind_eq_some_iff.mp H
  refine ev_4 hc_X5_readsThing (fe_X5_readsThing (pc := 116) rfl) (gR_gf ev1) ?_
  obtain ⟨h2, eh2, H⟩ := Option.bind_eq_some_iff.mp H
  refine ev_call (vs := [.ref v1]) (rest := []) (q := q_X9_step) hc_X5_readsThing (Or.inr rfl) (fe_X5_readsThing (pc := 119) rfl) ms_54 rfl rfl (Nat.le_of_ble_eq_true rfl) (kO_recv (K_X9_step eh2)) (E_X9_step eh2 (by omega)) rfl ?_
  show Ev xs N (d + 1) 36 122 [.ref l0, ci_junk, ci_junk, .int l3] [] h2 nx _
  refine ev_go hc_X5_readsThing (k := 1) (pc' := 123) (L' := [.ref l0, ci_junk, ci_junk, .int l3]) (S' := [.ref l0]) rfl ?_
  obtain ⟨v3, ev3, H⟩ := Option.bind_eq_some_iff.mp H
  refine ev_4 hc_X5_readsThing (fe_X5_readsThing (pc := 123) rfl) (gR_gf ev3) ?_
  refine ev_go hc_X5_readsThing (k := 1) (pc' := 127) (L' := [.ref l0, ci_junk, ci_junk, .int l3]) (S' := [.int l3, .ref v3]) rfl ?_
  obtain ⟨h4, eh4, H⟩ := Option.bind_eq_some_iff.mp H
  refine ev_call (vs := [.ref v3, .int l3]) (rest := []) (q := q_X4_addSign) hc_X5_readsThing (Or.inr rfl) (fe_X5_readsThing (pc := 127) rfl) ms_23 rfl rfl (Nat.le_of_ble_eq_true rfl) (kO_recv (K_X4_addSign eh4)) (E_X4_addSign eh4 (by omega)) rfl ?_
  show Ev xs N (d + 1) 36 130 [.ref l0, ci_junk, ci_junk, .int l3] [] h4 nx _
  refine ev_go hc_X5_readsThing (k := 1) (pc' := 131) (L' := [.ref l0, ci_junk, ci_junk, .int l3]) (S' := [.int 1]) rfl ?_
  obtain rfl := Option.some.inj H
  exact ev_8z hc_X5_readsThing (fe_X5_readsThing (pc := 131) rfl) rfl (Or.inr rfl)
def b_X5_readsThing_77 (rc : Nat → Nat → Int32 → ci_H → Option (Int32 × ci_H)) (l0 : Nat) (l3 : Int32)  (h : ci_H) : Option (Int32 × ci_H) := if l3 = 116 then (b_X5_readsThing_115 rc l0 l3 h) else (if l3 = 107 then (b_X5_readsThing_115 rc l0 l3 h) else (if l3 = 104 then (b_X5_readsThing_115 rc l0 l3 h) else (if l3 = 110 then (b_X5_readsThing_115 rc l0 l3 h) else (if l3 = 105 then (b_X5_readsThing_115 rc l0 l3 h) else (if l3 = 111 then (b_X5_readsThing_115 rc l0 l3 h) else (some (0, h)))))))
set_option maxHeartbeats 4000000 in
set_option maxRecDepth 20000 in
theorem eb_X5_readsThing_77 {xs : Nat → Int32} {N d : Nat} {nx : ci_N} {rc : Nat → Nat → Int32 → ci_H → Option (Int32 × ci_H)} {l0 : Nat} {l3 : Int32} (hd : 2 ≤ d) (hrc : ∀ (j : Nat) (a0 : Nat) (a1 : Int32) (h : ci_H) (r : Int32 × ci_H), rc j a0 a1 h = some r → Ev xs N d (mg_X5_readsExpression j) 0 (ci_entry [.ref a0, .int a1] (ci_n (ci_Ms (mg_X5_readsExpression j)))) [] h nx (oI r nx)) (hrk : ∀ (j : Nat) (a0 : Nat) (a1 : Int32) (h : ci_H) (r : Int32 × ci_H), rc j a0 a1 h = some r → kO h a0 = some 5) {h : ci_H} {r : Int32 × ci_H} (H : b_X5_readsThing_77 rc l0 l3 h = some r) : Ev xs N (d + 1) 36 77 [.ref l0, ci_junk, ci_junk, .int l3] [] h nx (oI r nx) := by
  unfold b_X5_readsThing_77 at H
  refine ev_go hc_X5_readsThing (k := 2) (pc' := 80) (L' := [.ref l0, ci_junk, ci_junk, .int l3]) (S' := [.int 116, .int l3]) rfl ?_
  by_cases c1 : l3 = 116
  · rw [if_pos c1] at H
    refine ev_bt hc_X5_readsThing (fe_X5_readsThing (pc := 80) rfl) rfl c1 ?_
    exact Ev.weak (ci_le_c (Or.inr rfl) (ci_le_c (Or.inl rfl) (ci_le_c (Or.inl rfl) (ci_le_c (Or.inr rfl) (ci_le_n))))) (eb_X5_readsThing_115 hd hrc hrk H)
  · rw [if_neg c1] at H
    refine ev_bf hc_X5_readsThing (fe_X5_readsThing (pc := 80) rfl) rfl c1 ?_
    refine ev_go hc_X5_readsThing (k := 2) (pc' := 86) (L' := [.ref l0, ci_junk, ci_junk, .int l3]) (S' := [.int 107, .int l3]) rfl ?_
    by_cases c2 : l3 = 107
    · rw [if_pos c2] at H
      refine ev_bt hc_X5_readsThing (fe_X5_readsThing (pc := 86) rfl) rfl c2 ?_
      exact Ev.weak (ci_le_c (Or.inr rfl) (ci_le_c (Or.inl rfl) (ci_le_c (Or.inl rfl) (ci_le_c (Or.inr rfl) (ci_le_n))))) (eb_X5_readsThing_115 hd hrc hrk H)
    · rw [if_neg c2] at H
      refine ev_bf hc_X5_readsThing (fe_X5_readsThing (pc := 86) rfl) rfl c2 ?_
      refine ev_go hc_X5_readsThing (k := 2) (pc' := 92) (L' := [.ref l0, ci_junk, ci_junk, .int l3]) (S' := [.int 104, .int l3]) rfl ?_
      by_cases c3 : l3 = 104
      · rw [if_pos c3] at H
        refine ev_bt hc_X5_readsThing (fe_X5_readsThing (pc := 92) rfl) rfl c3 ?_
        exact Ev.weak (ci_le_c (Or.inr rfl) (ci_le_c (Or.inl rfl) (ci_le_c (Or.inl rfl) (ci_le_c (Or.inr rfl) (ci_le_n))))) (eb_X5_readsThing_115 hd hrc hrk H)
      · rw [if_neg c3] at H
        refine ev_bf hc_X5_readsThing (fe_X5_readsThing (pc := 92) rfl) rfl c3 ?_
        refine ev_go hc_X5_readsThing (k := 2) (pc' := 98) (L' := [.ref l0, ci_junk, ci_junk, .int l3]) (S' := [.int 110, .int l3]) rfl ?_
        by_cases c4 : l3 = 110
        · rw [if_pos c4] at H
          refine ev_bt hc_X5_readsThing (fe_X5_readsThing (pc := 98) rfl) rfl c4 ?_
          exact Ev.weak (ci_le_c (Or.inr rfl) (ci_le_c (Or.inl rfl) (ci_le_c (Or.inl rfl) (ci_le_c (Or.inr rfl) (ci_le_n))))) (eb_X5_readsThing_115 hd hrc hrk H)
        · rw [if_neg c4] at H
          refine ev_bf hc_X5_readsThing (fe_X5_readsThing (pc := 98) rfl) rfl c4 ?_
          refine ev_go hc_X5_readsThing (k := 2) (pc' := 104) (L' := [.ref l0, ci_junk, ci_junk, .int l3]) (S' := [.int 105, .int l3]) rfl ?_
          by_cases c5 : l3 = 105
          · rw [if_pos c5] at H
            refine ev_bt hc_X5_readsThing (fe_X5_readsThing (pc := 104) rfl) rfl c5 ?_
            exact Ev.weak (ci_le_c (Or.inr rfl) (ci_le_c (Or.inl rfl) (ci_le_c (Or.inl rfl) (ci_le_c (Or.inr rfl) (ci_le_n))))) (eb_X5_readsThing_115 hd hrc hrk H)
          · rw [if_neg c5] at H
            refine ev_bf hc_X5_readsThing (fe_X5_readsThing (pc := 104) rfl) rfl c5 ?_
            refine ev_go hc_X5_readsThing (k := 2) (pc' := 110) (L' := [.ref l0, ci_junk, ci_junk, .int l3]) (S' := [.int 111, .int l3]) rfl ?_
            by_cases c6 : l3 = 111
            · rw [if_pos c6] at H
              refine ev_bt hc_X5_readsThing (fe_X5_readsThing (pc := 110) rfl) rfl c6 ?_
              exact Ev.weak (ci_le_c (Or.inr rfl) (ci_le_c (Or.inl rfl) (ci_le_c (Or.inl rfl) (ci_le_c (Or.inr rfl) (ci_le_n))))) (eb_X5_readsThing_115 hd hrc hrk H)
            · rw [if_neg c6] at H
              refine ev_bf hc_X5_readsThing (fe_X5_readsThing (pc := 110) rfl) rfl c6 ?_
              refine ev_go hc_X5_readsThing (k := 1) (pc' := 114) (L' := [.ref l0, ci_junk, ci_junk, .int l3]) (S' := [.int 0]) rfl ?_
              obtain rfl := Option.some.inj H
              exact ev_8z hc_X5_readsThing (fe_X5_readsThing (pc := 114) rfl) rfl (Or.inl rfl)
def G_X5_readsThing (rc : Nat → Nat → Int32 → ci_H → Option (Int32 × ci_H)) (a0 : Nat) (a1 : Int32) (h : ci_H) : Option (Int32 × ci_H) := if kO h a0 = some 5 then ((gR h a0 5 0).bind fun v1 => (F_X9_number v1 3 h).bind fun q2 => if q2.1 < 0 then ((gR q2.2 a0 5 0).bind fun v4 => (F_X9_peek v4 q2.2).bind fun q5 => if q5.1 = 40 then (if 4 ≤ a1 then (b_X5_readsThing_77 rc a0 q5.1 q5.2) else ((gR q5.2 a0 5 0).bind fun v8 => (F_X9_step v8 q5.2).bind fun h9 => (rc 0 a0 (a1 + 1) h9).bind fun q10 => if q10.1 = 0 then (some (0, q10.2)) else ((gR q10.2 a0 5 0).bind fun v12 => (F_X9_takes v12 41 q10.2).bind fun q13 => if q13.1 = 0 then (some (0, q13.2)) else (some (1, q13.2))))) else (b_X5_readsThing_77 rc a0 q5.1 q5.2)) else ((gR q2.2 a0 5 1).bind fun v15 => (F_X4_addNumber v15 q2.1 q2.2).bind fun h16 => some (1, h16))) else none
theorem KG_X5_readsThing {rc : Nat → Nat → Int32 → ci_H → Option (Int32 × ci_H)} {a0 : Nat} {a1 : Int32} {h : ci_H} {r : Int32 × ci_H} (H : G_X5_readsThing rc a0 a1 h = some r) : kO h a0 = some 5 := by
  unfold G_X5_readsThing at H
  by_cases c : kO h a0 = some 5
  · exact c
  · rw [if_neg c] at H; cases H
set_option maxHeartbeats 4000000 in
set_option maxRecDepth 20000 in
theorem EG_X5_readsThing {xs : Nat → Int32} {N d : Nat} {nx : ci_N} {rc : Nat → Nat → Int32 → ci_H → Option (Int32 × ci_H)} {a0 : Nat} {a1 : Int32} (hd : 2 ≤ d) (hrc : ∀ (j : Nat) (a0 : Nat) (a1 : Int32) (h : ci_H) (r : Int32 × ci_H), rc j a0 a1 h = some r → Ev xs N d (mg_X5_readsExpression j) 0 (ci_entry [.ref a0, .int a1] (ci_n (ci_Ms (mg_X5_readsExpression j)))) [] h nx (oI r nx)) (hrk : ∀ (j : Nat) (a0 : Nat) (a1 : Int32) (h : ci_H) (r : Int32 × ci_H), rc j a0 a1 h = some r → kO h a0 = some 5) {h : ci_H} {r : Int32 × ci_H} (H : G_X5_readsThing rc a0 a1 h = some r) : Ev xs N (d + 1) 36 0 (ci_entry [.ref a0, .int a1] 4) [] h nx (oI r nx) := by
  unfold G_X5_readsThing at H
  by_cases ck : kO h a0 = some 5
  · rw [if_pos ck] at H
    show Ev xs N (d + 1) 36 0 [.ref a0, .int a1, ci_junk, ci_junk] [] h nx _
    refine ev_go hc_X5_readsThing (k := 1) (pc' := 1) (L' := [.ref a0, .int a1, ci_junk, ci_junk]) (S' := [.ref a0]) rfl ?_
    obtain ⟨v1, ev1, H⟩ := Option.bind_eq_some_iff.mp H
    refine ev_4 hc_X5_readsThing (fe_X5_readsThing (pc := 1) rfl) (gR_gf ev1) ?_
    refine ev_go hc_X5_readsThing (k := 1) (pc' := 5) (L' := [.ref a0, .int a1, ci_junk, ci_junk]) (S' := [.int 3, .ref v1]) rfl ?_
    obtain ⟨q2, eq2, H⟩ := Option.bind_eq_some_iff.mp H
    refine ev_call (vs := [.ref v1, .int 3]) (rest := []) (q := q_X9_number) hc_X5_readsThing (Or.inr rfl) (fe_X5_readsThing (pc := 5) rfl) ms_60 rfl rfl (Nat.le_of_ble_eq_true rfl) (kO_recv (K_X9_number eq2)) (E_X9_number eq2 (by omega)) rfl ?_
    show Ev xs N (d + 1) 36 8 [.ref a0, .int a1, ci_junk, ci_junk] [.int q2.1] q2.2 nx _
    refine ev_go hc_X5_readsThing (k := 2) (pc' := 10) (L' := [.ref a0, .int a1, .int q2.1, ci_junk]) (S' := [.int q2.1]) rfl ?_
    by_cases c3 : q2.1 < 0
    · rw [if_pos c3] at H
      refine ev_bt hc_X5_readsThing (fe_X5_readsThing (pc := 10) rfl) rfl c3 ?_
      refine ev_go hc_X5_readsThing (k := 1) (pc' := 24) (L' := [.ref a0, .int a1, .int q2.1, ci_junk]) (S' := [.ref a0]) rfl ?_
      obtain ⟨v4, ev4, H⟩ := Option.bind_eq_some_iff.mp H
      refine ev_4 hc_X5_readsThing (fe_X5_readsThing (pc := 24) rfl) (gR_gf ev4) ?_
      obtain ⟨q5, eq5, H⟩ := Option.bind_eq_some_iff.mp H
      refine ev_call (vs := [.ref v4]) (rest := []) (q := q_X9_peek) hc_X5_readsThing (Or.inr rfl) (fe_X5_readsThing (pc := 27) rfl) ms_53 rfl rfl (Nat.le_of_ble_eq_true rfl) (kO_recv (K_X9_peek eq5)) (E_X9_peek eq5 (by omega)) rfl ?_
      show Ev xs N (d + 1) 36 30 [.ref a0, .int a1, .int q2.1, ci_junk] [.int q5.1] q5.2 nx _
      refine ev_go hc_X5_readsThing (k := 3) (pc' := 34) (L' := [.ref a0, .int a1, .int q2.1, .int q5.1]) (S' := [.int 40, .int q5.1]) rfl ?_
      by_cases c6 : q5.1 = 40
      · rw [if_pos c6] at H
        refine ev_bt hc_X5_readsThing (fe_X5_readsThing (pc := 34) rfl) rfl c6 ?_
        refine ev_go hc_X5_readsThing (k := 2) (pc' := 39) (L' := [.ref a0, .int a1, .int q2.1, .int q5.1]) (S' := [.int 4, .int a1]) rfl ?_
        by_cases c7 : 4 ≤ a1
        · rw [if_pos c7] at H
          refine ev_bt hc_X5_readsThing (fe_X5_readsThing (pc := 39) rfl) rfl c7 ?_
          exact Ev.weak (ci_le_c (Or.inr rfl) (ci_le_c (Or.inl rfl) (ci_le_c (Or.inl rfl) (ci_le_c (Or.inr rfl) (ci_le_n))))) (eb_X5_readsThing_77 hd hrc hrk H)
        · rw [if_neg c7] at H
          refine ev_bf hc_X5_readsThing (fe_X5_readsThing (pc := 39) rfl) rfl c7 ?_
          refine ev_go hc_X5_readsThing (k := 1) (pc' := 43) (L' := [.ref a0, .int a1, .int q2.1, .int q5.1]) (S' := [.ref a0]) rfl ?_
          obtain ⟨v8, ev8, H⟩ := Option.bind_eq_some_iff.mp H
          refine ev_4 hc_X5_readsThing (fe_X5_readsThing (pc := 43) rfl) (gR_gf ev8) ?_
          obtain ⟨h9, eh9, H⟩ := Option.bind_eq_some_iff.mp H
          refine ev_call (vs := [.ref v8]) (rest := []) (q := q_X9_step) hc_X5_readsThing (Or.inr rfl) (fe_X5_readsThing (pc := 46) rfl) ms_54 rfl rfl (Nat.le_of_ble_eq_true rfl) (kO_recv (K_X9_step eh9)) (E_X9_step eh9 (by omega)) rfl ?_
          show Ev xs N (d + 1) 36 49 [.ref a0, .int a1, .int q2.1, .int q5.1] [] h9 nx _
          refine ev_go hc_X5_readsThing (k := 4) (pc' := 53) (L' := [.ref a0, .int a1, .int q2.1, .int q5.1]) (S' := [.int (a1 + 1), .ref a0]) rfl ?_
          obtain ⟨q10, eq10, H⟩ := Option.bind_eq_some_iff.mp H
          refine ev_call (vs := [.ref a0, .int (a1 + 1)]) (rest := []) (q := q_X5_readsExpression) hc_X5_readsThing (Or.inr rfl) (fe_X5_readsThing (pc := 53) rfl) ms_32 rfl rfl (Nat.le_of_ble_eq_true rfl) (kO_recv (hrk _ _ _ _ _ eq10)) (hrc 0 _ _ _ _ eq10) rfl ?_
          show Ev xs N (d + 1) 36 56 [.ref a0, .int a1, .int q2.1, .int q5.1] [.int q10.1] q10.2 nx _
          by_cases c11 : q10.1 = 0
          · rw [if_pos c11] at H
            refine ev_bt hc_X5_readsThing (fe_X5_readsThing (pc := 56) rfl) rfl c11 ?_
            refine ev_go hc_X5_readsThing (k := 1) (pc' := 76) (L' := [.ref a0, .int a1, .int q2.1, .int q5.1]) (S' := [.int 0]) rfl ?_
            obtain rfl := Option.some.inj H
            exact ev_8z hc_X5_readsThing (fe_X5_readsThing (pc := 76) rfl) rfl (Or.inl rfl)
          · rw [if_neg c11] at H
            refine ev_bf hc_X5_readsThing (fe_X5_readsThing (pc := 56) rfl) rfl c11 ?_
            refine ev_go hc_X5_readsThing (k := 1) (pc' := 60) (L' := [.ref a0, .int a1, .int q2.1, .int q5.1]) (S' := [.ref a0]) rfl ?_
            obtain ⟨v12, ev12, H⟩ := Option.bind_eq_some_iff.mp H
            refine ev_4 hc_X5_readsThing (fe_X5_readsThing (pc := 60) rfl) (gR_gf ev12) ?_
            refine ev_go hc_X5_readsThing (k := 1) (pc' := 65) (L' := [.ref a0, .int a1, .int q2.1, .int q5.1]) (S' := [.int 41, .ref v12]) rfl ?_
            obtain ⟨q13, eq13, H⟩ := Option.bind_eq_some_iff.mp H
            refine ev_call (vs := [.ref v12, .int 41]) (rest := []) (q := q_X9_takes) hc_X5_readsThing (Or.inr rfl) (fe_X5_readsThing (pc := 65) rfl) ms_57 rfl rfl (Nat.le_of_ble_eq_true rfl) (kO_recv (K_X9_takes eq13)) (E_X9_takes eq13 (by omega)) rfl ?_
            show Ev xs N (d + 1) 36 68 [.ref a0, .int a1, .int q2.1, .int q5.1] [.int q13.1] q13.2 nx _
            by_cases c14 : q13.1 = 0
            · rw [if_pos c14] at H
              refine ev_bt hc_X5_readsThing (fe_X5_readsThing (pc := 68) rfl) rfl c14 ?_
              refine ev_go hc_X5_readsThing (k := 1) (pc' := 76) (L' := [.ref a0, .int a1, .int q2.1, .int q5.1]) (S' := [.int 0]) rfl ?_
              obtain rfl := Option.some.inj H
              exact ev_8z hc_X5_readsThing (fe_X5_readsThing (pc := 76) rfl) rfl (Or.inl rfl)
            · rw [if_neg c14] at H
              refine ev_bf hc_X5_readsThing (fe_X5_readsThing (pc := 68) rfl) rfl c14 ?_
              refine ev_go hc_X5_readsThing (k := 2) (pc' := 76) (L' := [.ref a0, .int a1, .int q2.1, .int q5.1]) (S' := [.int 1]) rfl ?_
              obtain rfl := Option.some.inj H
              exact ev_8z hc_X5_readsThing (fe_X5_readsThing (pc := 76) rfl) rfl (Or.inr rfl)
      · rw [if_neg c6] at H
        refine ev_bf hc_X5_readsThing (fe_X5_readsThing (pc := 34) rfl) rfl c6 ?_
        exact Ev.weak (ci_le_c (Or.inr rfl) (ci_le_c (Or.inl rfl) (ci_le_c (Or.inl rfl) (ci_le_c (Or.inr rfl) (ci_le_n))))) (eb_X5_readsThing_77 hd hrc hrk H)
    · rw [if_neg c3] at H
      refine ev_bf hc_X5_readsThing (fe_X5_readsThing (pc := 10) rfl) rfl c3 ?_
      refine ev_go hc_X5_readsThing (k := 1) (pc' := 14) (L' := [.ref a0, .int a1, .int q2.1, ci_junk]) (S' := [.ref a0]) rfl ?_
      obtain ⟨v15, ev15, H⟩ := Option.bind_eq_some_iff.mp H
      refine ev_4 hc_X5_readsThing (fe_X5_readsThing (pc := 14) rfl) (gR_gf ev15) ?_
      refine ev_go hc_X5_readsThing (k := 1) (pc' := 18) (L' := [.ref a0, .int a1, .int q2.1, ci_junk]) (S' := [.int q2.1, .ref v15]) rfl ?_
      obtain ⟨h16, eh16, H⟩ := Option.bind_eq_some_iff.mp H
      refine ev_call (vs := [.ref v15, .int q2.1]) (rest := []) (q := q_X4_addNumber) hc_X5_readsThing (Or.inr rfl) (fe_X5_readsThing (pc := 18) rfl) ms_22 rfl rfl (Nat.le_of_ble_eq_true rfl) (kO_recv (K_X4_addNumber eh16)) (E_X4_addNumber eh16 (by omega)) rfl ?_
      show Ev xs N (d + 1) 36 21 [.ref a0, .int a1, .int q2.1, ci_junk] [] h16 nx _
      refine ev_go hc_X5_readsThing (k := 1) (pc' := 22) (L' := [.ref a0, .int a1, .int q2.1, ci_junk]) (S' := [.int 1]) rfl ?_
      obtain rfl := Option.some.inj H
      exact ev_8z hc_X5_readsThing (fe_X5_readsThing (pc := 22) rfl) rfl (Or.inr rfl)
  · rw [if_neg ck] at H; cases H
def FG_X5_readsExpression : Nat → Nat → Nat → Int32 → ci_H → Option (Int32 × ci_H)
  | 0, _, _, _, _ => none
  | n + 1, j, a0, a1, h => match j with
    | 0 => G_X5_readsExpression (fun j a0 a1 h => FG_X5_readsExpression n j a0 a1 h) a0 a1 h
    | 1 => G_X5_readsSum (fun j a0 a1 h => FG_X5_readsExpression n j a0 a1 h) a0 a1 h
    | 2 => G_X5_readsProduct (fun j a0 a1 h => FG_X5_readsExpression n j a0 a1 h) a0 a1 h
    | 3 => G_X5_readsSigned (fun j a0 a1 h => FG_X5_readsExpression n j a0 a1 h) a0 a1 h
    | _ => G_X5_readsThing (fun j a0 a1 h => FG_X5_readsExpression n j a0 a1 h) a0 a1 h
theorem KGG_X5_readsExpression : ∀ (n j : Nat) (a0 : Nat) (a1 : Int32) (h : ci_H) (r : Int32 × ci_H), FG_X5_readsExpression n j a0 a1 h = some r → kO h a0 = some 5 := by
  intro n j a0 a1 h r H
  cases n with
  | zero => cases H
  | succ n =>
    match j, H with
    | 0, H => exact KG_X5_readsExpression H
    | 1, H => exact KG_X5_readsSum H
    | 2, H => exact KG_X5_readsProduct H
    | 3, H => exact KG_X5_readsSigned H
    | j + 4, H => exact KG_X5_readsThing H
theorem EGG_X5_readsExpression {xs : Nat → Int32} {N : Nat} {nx : ci_N} : ∀ (n d j : Nat) (a0 : Nat) (a1 : Int32) (h : ci_H) (r : Int32 × ci_H), FG_X5_readsExpression n j a0 a1 h = some r → n + 3 ≤ d → Ev xs N d (mg_X5_readsExpression j) 0 (ci_entry [.ref a0, .int a1] (ci_n (ci_Ms (mg_X5_readsExpression j)))) [] h nx (oI r nx) := by
  intro n
  induction n with
  | zero => intro d j a0 a1 h r H; cases H
  | succ n ih =>
    intro d j a0 a1 h r H hd
    obtain ⟨d, rfl⟩ : ∃ d2, d = d2 + 1 := ⟨d - 1, by omega⟩
    match j, H with
    | 0, H => exact EG_X5_readsExpression (by omega) (fun j a0 a1 h r H => ih d j a0 a1 h r H (by omega)) (KGG_X5_readsExpression n) H
    | 1, H => exact EG_X5_readsSum (by omega) (fun j a0 a1 h r H => ih d j a0 a1 h r H (by omega)) (KGG_X5_readsExpression n) H
    | 2, H => exact EG_X5_readsProduct (by omega) (fun j a0 a1 h r H => ih d j a0 a1 h r H (by omega)) (KGG_X5_readsExpression n) H
    | 3, H => exact EG_X5_readsSigned (by omega) (fun j a0 a1 h r H => ih d j a0 a1 h r H (by omega)) (KGG_X5_readsExpression n) H
    | j + 4, H => exact EG_X5_readsThing (by omega) (fun j a0 a1 h r H => ih d j a0 a1 h r H (by omega)) (KGG_X5_readsExpression n) H
def F_X5_readsExpression (a0 : Nat) (a1 : Int32) (h : ci_H) : Option (Int32 × ci_H) := FG_X5_readsExpression recN 0 a0 a1 h
theorem K_X5_readsExpression {a0 : Nat} {a1 : Int32} {h : ci_H} {r : Int32 × ci_H} (H : F_X5_readsExpression a0 a1 h = some r) : kO h a0 = some 5 := KGG_X5_readsExpression recN 0 _ _ h r H
theorem E_X5_readsExpression {xs : Nat → Int32} {N d : Nat} {nx : ci_N} {a0 : Nat} {a1 : Int32} {h : ci_H} {r : Int32 × ci_H} (H : F_X5_readsExpression a0 a1 h = some r) (hd : 103 ≤ d) : Ev xs N d 32 0 (ci_entry [.ref a0, .int a1] 3) [] h nx (oI r nx) := EGG_X5_readsExpression recN d 0 _ _ h r H (by unfold recN; omega)
def F_X5_readsSum (a0 : Nat) (a1 : Int32) (h : ci_H) : Option (Int32 × ci_H) := FG_X5_readsExpression recN 1 a0 a1 h
theorem K_X5_readsSum {a0 : Nat} {a1 : Int32} {h : ci_H} {r : Int32 × ci_H} (H : F_X5_readsSum a0 a1 h = some r) : kO h a0 = some 5 := KGG_X5_readsExpression recN 1 _ _ h r H
theorem E_X5_readsSum {xs : Nat → Int32} {N d : Nat} {nx : ci_N} {a0 : Nat} {a1 : Int32} {h : ci_H} {r : Int32 × ci_H} (H : F_X5_readsSum a0 a1 h = some r) (hd : 103 ≤ d) : Ev xs N d 33 0 (ci_entry [.ref a0, .int a1] 5) [] h nx (oI r nx) := EGG_X5_readsExpression recN d 1 _ _ h r H (by unfold recN; omega)
def F_X5_readsProduct (a0 : Nat) (a1 : Int32) (h : ci_H) : Option (Int32 × ci_H) := FG_X5_readsExpression recN 2 a0 a1 h
theorem K_X5_readsProduct {a0 : Nat} {a1 : Int32} {h : ci_H} {r : Int32 × ci_H} (H : F_X5_readsProduct a0 a1 h = some r) : kO h a0 = some 5 := KGG_X5_readsExpression recN 2 _ _ h r H
theorem E_X5_readsProduct {xs : Nat → Int32} {N d : Nat} {nx : ci_N} {a0 : Nat} {a1 : Int32} {h : ci_H} {r : Int32 × ci_H} (H : F_X5_readsProduct a0 a1 h = some r) (hd : 103 ≤ d) : Ev xs N d 34 0 (ci_entry [.ref a0, .int a1] 5) [] h nx (oI r nx) := EGG_X5_readsExpression recN d 2 _ _ h r H (by unfold recN; omega)
def F_X5_readsSigned (a0 : Nat) (a1 : Int32) (h : ci_H) : Option (Int32 × ci_H) := FG_X5_readsExpression recN 3 a0 a1 h
theorem K_X5_readsSigned {a0 : Nat} {a1 : Int32} {h : ci_H} {r : Int32 × ci_H} (H : F_X5_readsSigned a0 a1 h = some r) : kO h a0 = some 5 := KGG_X5_readsExpression recN 3 _ _ h r H
theorem E_X5_readsSigned {xs : Nat → Int32} {N d : Nat} {nx : ci_N} {a0 : Nat} {a1 : Int32} {h : ci_H} {r : Int32 × ci_H} (H : F_X5_readsSigned a0 a1 h = some r) (hd : 103 ≤ d) : Ev xs N d 35 0 (ci_entry [.ref a0, .int a1] 4) [] h nx (oI r nx) := EGG_X5_readsExpression recN d 3 _ _ h r H (by unfold recN; omega)
def F_X5_readsThing (a0 : Nat) (a1 : Int32) (h : ci_H) : Option (Int32 × ci_H) := FG_X5_readsExpression recN 4 a0 a1 h
theorem K_X5_readsThing {a0 : Nat} {a1 : Int32} {h : ci_H} {r : Int32 × ci_H} (H : F_X5_readsThing a0 a1 h = some r) : kO h a0 = some 5 := KGG_X5_readsExpression recN 4 _ _ h r H
theorem E_X5_readsThing {xs : Nat → Int32} {N d : Nat} {nx : ci_N} {a0 : Nat} {a1 : Int32} {h : ci_H} {r : Int32 × ci_H} (H : F_X5_readsThing a0 a1 h = some r) (hd : 103 ≤ d) : Ev xs N d 36 0 (ci_entry [.ref a0, .int a1] 4) [] h nx (oI r nx) := EGG_X5_readsExpression recN d 4 _ _ h r H (by unfold recN; omega)
theorem hc_X9_ended : ci_code (ci_Ms 55) = k_X9_ended := rfl
theorem fe_X9_ended {pc : Nat} {w : Option ci_I} (h : (k_X9_ended)[pc]? = some w) : (k_X9_ended)[pc]? = some w := h
def F_X9_ended (a0 : Nat) (h : ci_H) : Option (Int32 × ci_H) := if kO h a0 = some 9 then ((gI h a0 9 2).bind fun v1 => (gI h a0 9 1).bind fun v2 => if v1 = v2 then (some (1, h)) else (some (0, h))) else none
theorem K_X9_ended {a0 : Nat} {h : ci_H} {r : Int32 × ci_H} (H : F_X9_ended a0 h = some r) : kO h a0 = some 9 := by
  unfold F_X9_ended at H
  by_cases c : kO h a0 = some 9
  · exact c
  · rw [if_neg c] at H; cases H
set_option maxHeartbeats 4000000 in
set_option maxRecDepth 20000 in
theorem E_X9_ended {xs : Nat → Int32} {N d : Nat} {nx : ci_N} {a0 : Nat} {h : ci_H} {r : Int32 × ci_H} (H : F_X9_ended a0 h = some r) (hd : 0 ≤ d) : Ev xs N d 55 0 (ci_entry [.ref a0] 1) [] h nx (oI r nx) := by
  unfold F_X9_ended at H
  by_cases ck : kO h a0 = some 9
  · rw [if_pos ck] at H
    show Ev xs N d 55 0 [.ref a0] [] h nx _
    refine ev_go hc_X9_ended (k := 1) (pc' := 1) (L' := [.ref a0]) (S' := [.ref a0]) rfl ?_
    obtain ⟨v1, ev1, H⟩ := Option.bind_eq_some_iff.mp H
    refine ev_4 hc_X9_ended (fe_X9_ended (pc := 1) rfl) (gI_gf ev1) ?_
    refine ev_go hc_X9_ended (k := 1) (pc' := 5) (L' := [.ref a0]) (S' := [.ref a0, .int v1]) rfl ?_
    obtain ⟨v2, ev2, H⟩ := Option.bind_eq_some_iff.mp H
    refine ev_4 hc_X9_ended (fe_X9_ended (pc := 5) rfl) (gI_gf ev2) ?_
    by_cases c3 : v1 = v2
    · rw [if_pos c3] at H
      refine ev_bt hc_X9_ended (fe_X9_ended (pc := 8) rfl) rfl c3 ?_
      refine ev_go hc_X9_ended (k := 2) (pc' := 16) (L' := [.ref a0]) (S' := [.int 1]) rfl ?_
      obtain rfl := Option.some.inj H
      exact ev_8z hc_X9_ended (fe_X9_ended (pc := 16) rfl) rfl (Or.inr rfl)
    · rw [if_neg c3] at H
      refine ev_bf hc_X9_ended (fe_X9_ended (pc := 8) rfl) rfl c3 ?_
      refine ev_go hc_X9_ended (k := 1) (pc' := 16) (L' := [.ref a0]) (S' := [.int 0]) rfl ?_
      obtain rfl := Option.some.inj H
      exact ev_8z hc_X9_ended (fe_X9_ended (pc := 16) rfl) rfl (Or.inl rfl)
  · rw [if_neg ck] at H; cases H
theorem hc_X9_fault : ci_code (ci_Ms 56) = k_X9_fault := rfl
theorem fe_X9_fault {pc : Nat} {w : Option ci_I} (h : (k_X9_fault)[pc]? = some w) : (k_X9_fault)[pc]? = some w := h
def F_X9_fault (a0 : Nat) (h : ci_H) : Option (Int32 × ci_H) := if kO h a0 = some 9 then ((gI h a0 9 2).bind fun v1 => some (((-1)) - v1, h)) else none
theorem K_X9_fault {a0 : Nat} {h : ci_H} {r : Int32 × ci_H} (H : F_X9_fault a0 h = some r) : kO h a0 = some 9 := by
  unfold F_X9_fault at H
  by_cases c : kO h a0 = some 9
  · exact c
  · rw [if_neg c] at H; cases H
set_option maxHeartbeats 4000000 in
set_option maxRecDepth 20000 in
theorem E_X9_fault {xs : Nat → Int32} {N d : Nat} {nx : ci_N} {a0 : Nat} {h : ci_H} {r : Int32 × ci_H} (H : F_X9_fault a0 h = some r) (hd : 0 ≤ d) : Ev xs N d 56 0 (ci_entry [.ref a0] 1) [] h nx (oI r nx) := by
  unfold F_X9_fault at H
  by_cases ck : kO h a0 = some 9
  · rw [if_pos ck] at H
    show Ev xs N d 56 0 [.ref a0] [] h nx _
    refine ev_go hc_X9_fault (k := 2) (pc' := 2) (L' := [.ref a0]) (S' := [.ref a0, .int ((-1))]) rfl ?_
    obtain ⟨v1, ev1, H⟩ := Option.bind_eq_some_iff.mp H
    refine ev_4 hc_X9_fault (fe_X9_fault (pc := 2) rfl) (gI_gf ev1) ?_
    refine ev_go hc_X9_fault (k := 1) (pc' := 6) (L' := [.ref a0]) (S' := [.int (((-1)) - v1)]) rfl ?_
    obtain rfl := Option.some.inj H
    exact ev_8 hc_X9_fault (fe_X9_fault (pc := 6) rfl) rfl
  · rw [if_neg ck] at H; cases H
theorem hc_X5_read : ci_code (ci_Ms 31) = k_X5_read := rfl
theorem fe_X5_read {pc : Nat} {w : Option ci_I} (h : (k_X5_read)[pc]? = some w) : (k_X5_read)[pc]? = some w := h
def b_X5_read_39 (l0 : Nat)  (h : ci_H) : Option (Int32 × ci_H) := (gR h l0 5 0).bind fun v1 => (F_X9_fault v1 h).bind fun q2 => some (q2.1, q2.2)
set_option maxHeartbeats 4000000 in
set_option maxRecDepth 20000 in
theorem eb_X5_read_39 {xs : Nat → Int32} {N d : Nat} {nx : ci_N} {l0 : Nat} (hd : 103 ≤ d) {h : ci_H} {r : Int32 × ci_H} (H : b_X5_read_39 l0 h = some r) : Ev xs N (d + 1) 31 39 [.ref l0] [] h nx (oI r nx) := by
  unfold b_X5_read_39 at H
  refine ev_go hc_X5_read (k := 1) (pc' := 40) (L' := [.ref l0]) (S' := [.ref l0]) rfl ?_
  obtain ⟨v1, ev1, H⟩ := Option.bind_eq_some_iff.mp H
  refine ev_4 hc_X5_read (fe_X5_read (pc := 40) rfl) (gR_gf ev1) ?_
  obtain ⟨q2, eq2, H⟩ := Option.bind_eq_some_iff.mp H
  refine ev_call (vs := [.ref v1]) (rest := []) (q := q_X9_fault) hc_X5_read (Or.inr rfl) (fe_X5_read (pc := 43) rfl) ms_56 rfl rfl (Nat.le_of_ble_eq_true rfl) (kO_recv (K_X9_fault eq2)) (E_X9_fault eq2 (by omega)) rfl ?_
  show Ev xs N (d + 1) 31 46 [.ref l0] [.int q2.1] q2.2 nx _
  obtain rfl := Option.some.inj H
  exact ev_8 hc_X5_read (fe_X5_read (pc := 46) rfl) rfl
def F_X5_read (a0 : Nat) (h : ci_H) : Option (Int32 × ci_H) := if kO h a0 = some 5 then ((gR h a0 5 0).bind fun v1 => (F_X9_open v1 40 h).bind fun h2 => (gR h2 a0 5 1).bind fun v3 => (pF h2 v3 4 2 (.int 0)).bind fun h4 => (F_X5_readsExpression a0 0 h4).bind fun q5 => if q5.1 = 0 then (b_X5_read_39 a0 q5.2) else ((gR q5.2 a0 5 0).bind fun v7 => (F_X9_ended v7 q5.2).bind fun q8 => if q8.1 = 0 then (b_X5_read_39 a0 q8.2) else (some (0, q8.2)))) else none
theorem K_X5_read {a0 : Nat} {h : ci_H} {r : Int32 × ci_H} (H : F_X5_read a0 h = some r) : kO h a0 = some 5 := by
  unfold F_X5_read at H
  by_cases c : kO h a0 = some 5
  · exact c
  · rw [if_neg c] at H; cases H
set_option maxHeartbeats 4000000 in
set_option maxRecDepth 20000 in
theorem E_X5_read {xs : Nat → Int32} {N d : Nat} {nx : ci_N} {a0 : Nat} {h : ci_H} {r : Int32 × ci_H} (H : F_X5_read a0 h = some r) (hd : 104 ≤ d) : Ev xs N d 31 0 (ci_entry [.ref a0] 1) [] h nx (oI r nx) := by
  obtain ⟨d, rfl⟩ : ∃ d2, d = d2 + 1 := ⟨d - 1, by omega⟩
  have hd : 103 ≤ d := by omega
  unfold F_X5_read at H
  by_cases ck : kO h a0 = some 5
  · rw [if_pos ck] at H
    show Ev xs N (d + 1) 31 0 [.ref a0] [] h nx _
    refine ev_go hc_X5_read (k := 1) (pc' := 1) (L' := [.ref a0]) (S' := [.ref a0]) rfl ?_
    obtain ⟨v1, ev1, H⟩ := Option.bind_eq_some_iff.mp H
    refine ev_4 hc_X5_read (fe_X5_read (pc := 1) rfl) (gR_gf ev1) ?_
    refine ev_go hc_X5_read (k := 1) (pc' := 6) (L' := [.ref a0]) (S' := [.int 40, .ref v1]) rfl ?_
    obtain ⟨h2, eh2, H⟩ := Option.bind_eq_some_iff.mp H
    refine ev_call (vs := [.ref v1, .int 40]) (rest := []) (q := q_X9_open) hc_X5_read (Or.inr rfl) (fe_X5_read (pc := 6) rfl) ms_52 rfl rfl (Nat.le_of_ble_eq_true rfl) (kO_recv (K_X9_open eh2)) (E_X9_open eh2 (by omega)) rfl ?_
    show Ev xs N (d + 1) 31 9 [.ref a0] [] h2 nx _
    refine ev_go hc_X5_read (k := 1) (pc' := 10) (L' := [.ref a0]) (S' := [.ref a0]) rfl ?_
    obtain ⟨v3, ev3, H⟩ := Option.bind_eq_some_iff.mp H
    refine ev_4 hc_X5_read (fe_X5_read (pc := 10) rfl) (gR_gf ev3) ?_
    refine ev_go hc_X5_read (k := 1) (pc' := 14) (L' := [.ref a0]) (S' := [.int 0, .ref v3]) rfl ?_
    obtain ⟨h4, eh4, H⟩ := Option.bind_eq_some_iff.mp H
    refine ev_5 hc_X5_read (fe_X5_read (pc := 14) rfl) (pF_pf eh4) ?_
    refine ev_go hc_X5_read (k := 2) (pc' := 19) (L' := [.ref a0]) (S' := [.int 0, .ref a0]) rfl ?_
    obtain ⟨q5, eq5, H⟩ := Option.bind_eq_some_iff.mp H
    refine ev_call (vs := [.ref a0, .int 0]) (rest := []) (q := q_X5_readsExpression) hc_X5_read (Or.inr rfl) (fe_X5_read (pc := 19) rfl) ms_32 rfl rfl (Nat.le_of_ble_eq_true rfl) (kO_recv (K_X5_readsExpression eq5)) (E_X5_readsExpression eq5 (by omega)) rfl ?_
    show Ev xs N (d + 1) 31 22 [.ref a0] [.int q5.1] q5.2 nx _
    by_cases c6 : q5.1 = 0
    · rw [if_pos c6] at H
      refine ev_bt hc_X5_read (fe_X5_read (pc := 22) rfl) rfl c6 ?_
      exact Ev.weak (ci_le_c (Or.inr rfl) (ci_le_n)) (eb_X5_read_39 hd H)
    · rw [if_neg c6] at H
      refine ev_bf hc_X5_read (fe_X5_read (pc := 22) rfl) rfl c6 ?_
      refine ev_go hc_X5_read (k := 1) (pc' := 26) (L' := [.ref a0]) (S' := [.ref a0]) rfl ?_
      obtain ⟨v7, ev7, H⟩ := Option.bind_eq_some_iff.mp H
      refine ev_4 hc_X5_read (fe_X5_read (pc := 26) rfl) (gR_gf ev7) ?_
      obtain ⟨q8, eq8, H⟩ := Option.bind_eq_some_iff.mp H
      refine ev_call (vs := [.ref v7]) (rest := []) (q := q_X9_ended) hc_X5_read (Or.inr rfl) (fe_X5_read (pc := 29) rfl) ms_55 rfl rfl (Nat.le_of_ble_eq_true rfl) (kO_recv (K_X9_ended eq8)) (E_X9_ended eq8 (by omega)) rfl ?_
      show Ev xs N (d + 1) 31 32 [.ref a0] [.int q8.1] q8.2 nx _
      by_cases c9 : q8.1 = 0
      · rw [if_pos c9] at H
        refine ev_bt hc_X5_read (fe_X5_read (pc := 32) rfl) rfl c9 ?_
        exact Ev.weak (ci_le_c (Or.inr rfl) (ci_le_n)) (eb_X5_read_39 hd H)
      · rw [if_neg c9] at H
        refine ev_bf hc_X5_read (fe_X5_read (pc := 32) rfl) rfl c9 ?_
        refine ev_go hc_X5_read (k := 2) (pc' := 46) (L' := [.ref a0]) (S' := [.int 0]) rfl ?_
        obtain rfl := Option.some.inj H
        exact ev_8 hc_X5_read (fe_X5_read (pc := 46) rfl) rfl
  · rw [if_neg ck] at H; cases H
theorem hc_X7_list : ci_code (ci_Ms 41) = k_X7_list := rfl
theorem fe_X7_list {pc : Nat} {w : Option ci_I} (h : (k_X7_list)[pc]? = some w) : (k_X7_list)[pc]? = some w := h
def b_X7_list_55 (r_7 : Int32 → ci_H → Option (ci_H)) (l0 : Nat) (l1 : Int32) (l2 : Int32)  (h : ci_H) : Option (ci_H) := r_7 (l2 + 1) h
set_option maxHeartbeats 4000000 in
set_option maxRecDepth 20000 in
theorem eb_X7_list_55 {xs : Nat → Int32} {N d : Nat} {nx : ci_N} {r_7 : Int32 → ci_H → Option (ci_H)} {l0 : Nat} {l1 : Int32} {l2 : Int32} (h_7 : ∀ (l2 : Int32) (h : ci_H) (r : ci_H), r_7 l2 h = some r → Ev xs N d 41 7 [.ref l0, .int l1, .int l2] [] h nx (oV r nx)) {h : ci_H} {r : ci_H} (H : b_X7_list_55 r_7 l0 l1 l2 h = some r) : Ev xs N d 41 55 [.ref l0, .int l1, .int l2] [] h nx (oV r nx) := by
  unfold b_X7_list_55 at H
  refine ev_go hc_X7_list (k := 2) (pc' := 7) (L' := [.ref l0, .int l1, .int (l2 + 1)]) (S' := []) rfl ?_
  exact Ev.weak (ci_le_c (Or.inr rfl) (ci_le_c (Or.inr rfl) (ci_le_c (Or.inr rfl) (ci_le_n)))) (h_7 _ _ _ H)
def b_X7_list_7 (l0 : Nat) (l1 : Int32) : Nat → Int32 → ci_H → Option (ci_H)
  | 0, _, _ => none
  | n + 1, l2, h => (gR h l0 7 0).bind fun v1 => (gI h v1 10 6).bind fun v2 => if v2 ≤ l2 then (some h) else ((gI h l0 7 4).bind fun v4 => if 6 ≤ v4 then (some h) else (if ((l1 >>> (l2 &&& 31)) &&& 1) = 0 then (b_X7_list_55 (fun x0 x1 => b_X7_list_7 l0 l1 n x0 x1) l0 l1 l2 h) else ((gR h l0 7 1).bind fun v7 => (gI h l0 7 4).bind fun v8 => (wI h v7 v8 l2).bind fun h9 => (gI h9 l0 7 4).bind fun v10 => (pF h9 l0 7 4 (.int (v10 + 1))).bind fun h11 => b_X7_list_55 (fun x0 x1 => b_X7_list_7 l0 l1 n x0 x1) l0 l1 l2 h11)))
set_option maxHeartbeats 4000000 in
set_option maxRecDepth 20000 in
theorem eb_X7_list_7 {xs : Nat → Int32} {N d : Nat} {nx : ci_N} {l0 : Nat} {l1 : Int32} : ∀ (n : Nat) (l2 : Int32) (h : ci_H) (r : ci_H), b_X7_list_7 l0 l1 n l2 h = some r → Ev xs N d 41 7 [.ref l0, .int l1, .int l2] [] h nx (oV r nx) := by
  intro n
  induction n with
  | zero => intro l2 h r H; unfold b_X7_list_7 at H; cases H
  | succ n ih =>
    intro l2 h r H
    unfold b_X7_list_7 at H
    refine ev_go hc_X7_list (k := 2) (pc' := 9) (L' := [.ref l0, .int l1, .int l2]) (S' := [.ref l0, .int l2]) rfl ?_
    obtain ⟨v1, ev1, H⟩ := Option.bind_eq_some_iff.mp H
    refine ev_4 hc_X7_list (fe_X7_list (pc := 9) rfl) (gR_gf ev1) ?_
    obtain ⟨v2, ev2, H⟩ := Option.bind_eq_some_iff.mp H
    refine ev_4 hc_X7_list (fe_X7_list (pc := 12) rfl) (gI_gf ev2) ?_
    by_cases c3 : v2 ≤ l2
    · rw [if_pos c3] at H
      refine ev_bt hc_X7_list (fe_X7_list (pc := 15) rfl) rfl c3 ?_
      obtain rfl := Option.some.inj H
      exact ev_8 hc_X7_list (fe_X7_list (pc := 61) rfl) rfl
    · rw [if_neg c3] at H
      refine ev_bf hc_X7_list (fe_X7_list (pc := 15) rfl) rfl c3 ?_
      refine ev_go hc_X7_list (k := 1) (pc' := 19) (L' := [.ref l0, .int l1, .int l2]) (S' := [.ref l0]) rfl ?_
      obtain ⟨v4, ev4, H⟩ := Option.bind_eq_some_iff.mp H
      refine ev_4 hc_X7_list (fe_X7_list (pc := 19) rfl) (gI_gf ev4) ?_
      refine ev_go hc_X7_list (k := 1) (pc' := 24) (L' := [.ref l0, .int l1, .int l2]) (S' := [.int 6, .int v4]) rfl ?_
      by_cases c5 : 6 ≤ v4
      · rw [if_pos c5] at H
        refine ev_bt hc_X7_list (fe_X7_list (pc := 24) rfl) rfl c5 ?_
        obtain rfl := Option.some.inj H
        exact ev_8 hc_X7_list (fe_X7_list (pc := 61) rfl) rfl
      · rw [if_neg c5] at H
        refine ev_bf hc_X7_list (fe_X7_list (pc := 24) rfl) rfl c5 ?_
        refine ev_go hc_X7_list (k := 5) (pc' := 32) (L' := [.ref l0, .int l1, .int l2]) (S' := [.int ((l1 >>> (l2 &&& 31)) &&& 1)]) rfl ?_
        by_cases c6 : ((l1 >>> (l2 &&& 31)) &&& 1) = 0
        · rw [if_pos c6] at H
          refine ev_bt hc_X7_list (fe_X7_list (pc := 32) rfl) rfl c6 ?_
          exact Ev.weak (ci_le_c (Or.inr rfl) (ci_le_c (Or.inr rfl) (ci_le_c (Or.inr rfl) (ci_le_n)))) (eb_X7_list_55 ih H)
        · rw [if_neg c6] at H
          refine ev_bf hc_X7_list (fe_X7_list (pc := 32) rfl) rfl c6 ?_
          refine ev_go hc_X7_list (k := 1) (pc' := 36) (L' := [.ref l0, .int l1, .int l2]) (S' := [.ref l0]) rfl ?_
          obtain ⟨v7, ev7, H⟩ := Option.bind_eq_some_iff.mp H
          refine ev_4 hc_X7_list (fe_X7_list (pc := 36) rfl) (gR_gf ev7) ?_
          refine ev_go hc_X7_list (k := 1) (pc' := 40) (L' := [.ref l0, .int l1, .int l2]) (S' := [.ref l0, .ref v7]) rfl ?_
          obtain ⟨v8, ev8, H⟩ := Option.bind_eq_some_iff.mp H
          refine ev_4 hc_X7_list (fe_X7_list (pc := 40) rfl) (gI_gf ev8) ?_
          refine ev_go hc_X7_list (k := 1) (pc' := 44) (L' := [.ref l0, .int l1, .int l2]) (S' := [.int l2, .int v8, .ref v7]) rfl ?_
          obtain ⟨h9, eh9, H⟩ := Option.bind_eq_some_iff.mp H
          refine ev_5 hc_X7_list (fe_X7_list (pc := 44) rfl) (wI_as eh9) ?_
          refine ev_go hc_X7_list (k := 2) (pc' := 47) (L' := [.ref l0, .int l1, .int l2]) (S' := [.ref l0, .ref l0]) rfl ?_
          obtain ⟨v10, ev10, H⟩ := Option.bind_eq_some_iff.mp H
          refine ev_4 hc_X7_list (fe_X7_list (pc := 47) rfl) (gI_gf ev10) ?_
          refine ev_go hc_X7_list (k := 2) (pc' := 52) (L' := [.ref l0, .int l1, .int l2]) (S' := [.int (v10 + 1), .ref l0]) rfl ?_
          obtain ⟨h11, eh11, H⟩ := Option.bind_eq_some_iff.mp H
          refine ev_5 hc_X7_list (fe_X7_list (pc := 52) rfl) (pF_pf eh11) ?_
          exact Ev.weak (ci_le_c (Or.inr rfl) (ci_le_c (Or.inr rfl) (ci_le_c (Or.inr rfl) (ci_le_n)))) (eb_X7_list_55 ih H)
def F_X7_list (a0 : Nat) (a1 : Int32) (h : ci_H) : Option (ci_H) := if kO h a0 = some 7 then ((pF h a0 7 4 (.int 0)).bind fun h1 => b_X7_list_7 a0 a1 bigN 0 h1) else none
theorem K_X7_list {a0 : Nat} {a1 : Int32} {h : ci_H} {r : ci_H} (H : F_X7_list a0 a1 h = some r) : kO h a0 = some 7 := by
  unfold F_X7_list at H
  by_cases c : kO h a0 = some 7
  · exact c
  · rw [if_neg c] at H; cases H
set_option maxHeartbeats 4000000 in
set_option maxRecDepth 20000 in
theorem E_X7_list {xs : Nat → Int32} {N d : Nat} {nx : ci_N} {a0 : Nat} {a1 : Int32} {h : ci_H} {r : ci_H} (H : F_X7_list a0 a1 h = some r) (hd : 0 ≤ d) : Ev xs N d 41 0 (ci_entry [.ref a0, .int a1] 3) [] h nx (oV r nx) := by
  unfold F_X7_list at H
  by_cases ck : kO h a0 = some 7
  · rw [if_pos ck] at H
    show Ev xs N d 41 0 [.ref a0, .int a1, ci_junk] [] h nx _
    refine ev_go hc_X7_list (k := 2) (pc' := 2) (L' := [.ref a0, .int a1, ci_junk]) (S' := [.int 0, .ref a0]) rfl ?_
    obtain ⟨h1, eh1, H⟩ := Option.bind_eq_some_iff.mp H
    refine ev_5 hc_X7_list (fe_X7_list (pc := 2) rfl) (pF_pf eh1) ?_
    refine ev_go hc_X7_list (k := 2) (pc' := 7) (L' := [.ref a0, .int a1, .int 0]) (S' := []) rfl ?_
    exact Ev.weak (ci_le_c (Or.inr rfl) (ci_le_c (Or.inr rfl) (ci_le_c (Or.inr rfl) (ci_le_n)))) (eb_X7_list_7 bigN _ _ _ H)
  · rw [if_neg ck] at H; cases H
theorem hc_X10_brokenIn : ci_code (ci_Ms 80) = k_X10_brokenIn := rfl
theorem fe_X10_brokenIn {pc : Nat} {w : Option ci_I} (h : (k_X10_brokenIn)[pc]? = some w) : (k_X10_brokenIn)[pc]? = some w := h
def b_X10_brokenIn_36 (r_4 : Int32 → Int32 → ci_H → Option (Int32 × ci_H)) (l0 : Nat) (l1 : Int32) (l2 : Int32) (l3 : Int32)  (h : ci_H) : Option (Int32 × ci_H) := r_4 l2 (l3 + 1) h
set_option maxHeartbeats 4000000 in
set_option maxRecDepth 20000 in
theorem eb_X10_brokenIn_36 {xs : Nat → Int32} {N d : Nat} {nx : ci_N} {r_4 : Int32 → Int32 → ci_H → Option (Int32 × ci_H)} {l0 : Nat} {l1 : Int32} {l2 : Int32} {l3 : Int32} (hd : 0 ≤ d) (h_4 : ∀ (l2 : Int32) (l3 : Int32) (h : ci_H) (r : Int32 × ci_H), r_4 l2 l3 h = some r → Ev xs N (d + 1) 80 4 [.ref l0, .int l1, .int l2, .int l3] [] h nx (oI r nx)) {h : ci_H} {r : Int32 × ci_H} (H : b_X10_brokenIn_36 r_4 l0 l1 l2 l3 h = some r) : Ev xs N (d + 1) 80 36 [.ref l0, .int l1, .int l2, .int l3] [] h nx (oI r nx) := by
  unfold b_X10_brokenIn_36 at H
  refine ev_go hc_X10_brokenIn (k := 2) (pc' := 4) (L' := [.ref l0, .int l1, .int l2, .int (l3 + 1)]) (S' := []) rfl ?_
  exact Ev.weak (ci_le_c (Or.inr rfl) (ci_le_c (Or.inr rfl) (ci_le_c (Or.inr rfl) (ci_le_c (Or.inr rfl) (ci_le_n))))) (h_4 _ _ _ _ H)
def b_X10_brokenIn_4 (l0 : Nat) (l1 : Int32) : Nat → Int32 → Int32 → ci_H → Option (Int32 × ci_H)
  | 0, _, _, _ => none
  | n + 1, l2, l3, h => (gI h l0 10 7).bind fun v1 => if v1 ≤ l3 then (some (l2, h)) else ((gR h l0 10 3).bind fun v3 => (rI h v3 l3).bind fun v4 => (F_J6_bitCount_0f7a4 (l1 &&& v4) h).bind fun q5 => (gI q5.2 l0 10 8).bind fun v6 => if q5.1 ≤ v6 then (b_X10_brokenIn_36 (fun x0 x1 x2 => b_X10_brokenIn_4 l0 l1 n x0 x1 x2) l0 l1 l2 l3 q5.2) else (b_X10_brokenIn_36 (fun x0 x1 x2 => b_X10_brokenIn_4 l0 l1 n x0 x1 x2) l0 l1 (l2 ||| ((1 : Int32) <<< (l3 &&& 31))) l3 q5.2))
set_option maxHeartbeats 4000000 in
set_option maxRecDepth 20000 in
theorem eb_X10_brokenIn_4 {xs : Nat → Int32} {N d : Nat} {nx : ci_N} {l0 : Nat} {l1 : Int32} (hd : 0 ≤ d) : ∀ (n : Nat) (l2 : Int32) (l3 : Int32) (h : ci_H) (r : Int32 × ci_H), b_X10_brokenIn_4 l0 l1 n l2 l3 h = some r → Ev xs N (d + 1) 80 4 [.ref l0, .int l1, .int l2, .int l3] [] h nx (oI r nx) := by
  intro n
  induction n with
  | zero => intro l2 l3 h r H; unfold b_X10_brokenIn_4 at H; cases H
  | succ n ih =>
    intro l2 l3 h r H
    unfold b_X10_brokenIn_4 at H
    refine ev_go hc_X10_brokenIn (k := 2) (pc' := 6) (L' := [.ref l0, .int l1, .int l2, .int l3]) (S' := [.ref l0, .int l3]) rfl ?_
    obtain ⟨v1, ev1, H⟩ := Option.bind_eq_some_iff.mp H
    refine ev_4 hc_X10_brokenIn (fe_X10_brokenIn (pc := 6) rfl) (gI_gf ev1) ?_
    by_cases c2 : v1 ≤ l3
    · rw [if_pos c2] at H
      refine ev_bt hc_X10_brokenIn (fe_X10_brokenIn (pc := 9) rfl) rfl c2 ?_
      refine ev_go hc_X10_brokenIn (k := 1) (pc' := 43) (L' := [.ref l0, .int l1, .int l2, .int l3]) (S' := [.int l2]) rfl ?_
      obtain rfl := Option.some.inj H
      exact ev_8 hc_X10_brokenIn (fe_X10_brokenIn (pc := 43) rfl) rfl
    · rw [if_neg c2] at H
      refine ev_bf hc_X10_brokenIn (fe_X10_brokenIn (pc := 9) rfl) rfl c2 ?_
      refine ev_go hc_X10_brokenIn (k := 2) (pc' := 14) (L' := [.ref l0, .int l1, .int l2, .int l3]) (S' := [.ref l0, .int l1]) rfl ?_
      obtain ⟨v3, ev3, H⟩ := Option.bind_eq_some_iff.mp H
      refine ev_4 hc_X10_brokenIn (fe_X10_brokenIn (pc := 14) rfl) (gR_gf ev3) ?_
      refine ev_go hc_X10_brokenIn (k := 1) (pc' := 18) (L' := [.ref l0, .int l1, .int l2, .int l3]) (S' := [.int l3, .ref v3, .int l1]) rfl ?_
      obtain ⟨v4, ev4, H⟩ := Option.bind_eq_some_iff.mp H
      refine ev_4 hc_X10_brokenIn (fe_X10_brokenIn (pc := 18) rfl) (rI_al ev4) ?_
      refine ev_go hc_X10_brokenIn (k := 1) (pc' := 20) (L' := [.ref l0, .int l1, .int l2, .int l3]) (S' := [.int (l1 &&& v4)]) rfl ?_
      obtain ⟨q5, eq5, H⟩ := Option.bind_eq_some_iff.mp H
      refine ev_call (vs := [.int (l1 &&& v4)]) (rest := []) (q := q_J6_bitCount_0f7a4) hc_X10_brokenIn (Or.inl rfl) (fe_X10_brokenIn (pc := 20) rfl) ms_285 rfl rfl (Nat.le_of_ble_eq_true rfl) rfl (E_J6_bitCount_0f7a4 eq5 (by omega)) rfl ?_
      show Ev xs N (d + 1) 80 23 [.ref l0, .int l1, .int l2, .int l3] [.int q5.1] q5.2 nx _
      refine ev_go hc_X10_brokenIn (k := 1) (pc' := 24) (L' := [.ref l0, .int l1, .int l2, .int l3]) (S' := [.ref l0, .int q5.1]) rfl ?_
      obtain ⟨v6, ev6, H⟩ := Option.bind_eq_some_iff.mp H
      refine ev_4 hc_X10_brokenIn (fe_X10_brokenIn (pc := 24) rfl) (gI_gf ev6) ?_
      by_cases c7 : q5.1 ≤ v6
      · rw [if_pos c7] at H
        refine ev_bt hc_X10_brokenIn (fe_X10_brokenIn (pc := 27) rfl) rfl c7 ?_
        exact Ev.weak (ci_le_c (Or.inr rfl) (ci_le_c (Or.inr rfl) (ci_le_c (Or.inr rfl) (ci_le_c (Or.inr rfl) (ci_le_n))))) (eb_X10_brokenIn_36 hd ih H)
      · rw [if_neg c7] at H
        refine ev_bf hc_X10_brokenIn (fe_X10_brokenIn (pc := 27) rfl) rfl c7 ?_
        refine ev_go hc_X10_brokenIn (k := 6) (pc' := 36) (L' := [.ref l0, .int l1, .int (l2 ||| ((1 : Int32) <<< (l3 &&& 31))), .int l3]) (S' := []) rfl ?_
        exact Ev.weak (ci_le_c (Or.inr rfl) (ci_le_c (Or.inr rfl) (ci_le_c (Or.inr rfl) (ci_le_c (Or.inr rfl) (ci_le_n))))) (eb_X10_brokenIn_36 hd ih H)
def F_X10_brokenIn (a0 : Nat) (a1 : Int32) (h : ci_H) : Option (Int32 × ci_H) := if kO h a0 = some 10 then (b_X10_brokenIn_4 a0 a1 bigN 0 0 h) else none
theorem K_X10_brokenIn {a0 : Nat} {a1 : Int32} {h : ci_H} {r : Int32 × ci_H} (H : F_X10_brokenIn a0 a1 h = some r) : kO h a0 = some 10 := by
  unfold F_X10_brokenIn at H
  by_cases c : kO h a0 = some 10
  · exact c
  · rw [if_neg c] at H; cases H
set_option maxHeartbeats 4000000 in
set_option maxRecDepth 20000 in
theorem E_X10_brokenIn {xs : Nat → Int32} {N d : Nat} {nx : ci_N} {a0 : Nat} {a1 : Int32} {h : ci_H} {r : Int32 × ci_H} (H : F_X10_brokenIn a0 a1 h = some r) (hd : 1 ≤ d) : Ev xs N d 80 0 (ci_entry [.ref a0, .int a1] 4) [] h nx (oI r nx) := by
  obtain ⟨d, rfl⟩ : ∃ d2, d = d2 + 1 := ⟨d - 1, by omega⟩
  have hd : 0 ≤ d := by omega
  unfold F_X10_brokenIn at H
  by_cases ck : kO h a0 = some 10
  · rw [if_pos ck] at H
    show Ev xs N (d + 1) 80 0 [.ref a0, .int a1, ci_junk, ci_junk] [] h nx _
    refine ev_go hc_X10_brokenIn (k := 4) (pc' := 4) (L' := [.ref a0, .int a1, .int 0, .int 0]) (S' := []) rfl ?_
    exact Ev.weak (ci_le_c (Or.inr rfl) (ci_le_c (Or.inr rfl) (ci_le_c (Or.inr rfl) (ci_le_c (Or.inr rfl) (ci_le_n))))) (eb_X10_brokenIn_4 hd bigN _ _ _ _ H)
  · rw [if_neg ck] at H; cases H
def mg_X7_placesFrom (j : Nat) : Nat := match j with

  | _ => 42
theorem hc_X7_placesFrom : ci_code (ci_Ms 42) = k_X7_placesFrom := rfl
theorem fe_X7_placesFrom {pc : Nat} {w : Option ci_I} (h : (k_X7_placesFrom)[pc]? = some w) : (k_X7_placesFrom)[pc]? = some w := h
def b_X7_placesFrom_141 (rc : Nat → Nat → Int32 → Int32 → ci_H → Option (Int32 × ci_H)) (r_20 : Int32 → ci_H → Option (Int32 × ci_H)) (l0 : Nat) (l1 : Int32) (l2 : Int32) (l3 : Int32) (l4 : Int32)  (h : ci_H) : Option (Int32 × ci_H) := r_20 (l4 + 1) h
set_option maxHeartbeats 4000000 in
set_option maxRecDepth 20000 in
theorem eb_X7_placesFrom_141 {xs : Nat → Int32} {N d : Nat} {nx : ci_N} {rc : Nat → Nat → Int32 → Int32 → ci_H → Option (Int32 × ci_H)} {r_20 : Int32 → ci_H → Option (Int32 × ci_H)} {l0 : Nat} {l1 : Int32} {l2 : Int32} {l3 : Int32} {l4 : Int32} (hd : 0 ≤ d) (hrc : ∀ (j : Nat) (a0 : Nat) (a1 : Int32) (a2 : Int32) (h : ci_H) (r : Int32 × ci_H), rc j a0 a1 a2 h = some r → Ev xs N d (mg_X7_placesFrom j) 0 (ci_entry [.ref a0, .int a1, .int a2] (ci_n (ci_Ms (mg_X7_placesFrom j)))) [] h nx (oI r nx)) (hrk : ∀ (j : Nat) (a0 : Nat) (a1 : Int32) (a2 : Int32) (h : ci_H) (r : Int32 × ci_H), rc j a0 a1 a2 h = some r → kO h a0 = some 7) (h_20 : ∀ (l4 : Int32) (h : ci_H) (r : Int32 × ci_H), r_20 l4 h = some r → Ev xs N (d + 1) 42 20 [.ref l0, .int l1, .int l2, .int l3, .int l4, ci_junk] [] h nx (oI r nx)) {h : ci_H} {r : Int32 × ci_H} (H : b_X7_placesFrom_141 rc r_20 l0 l1 l2 l3 l4 h = some r) : Ev xs N (d + 1) 42 141 [.ref l0, .int l1, .int l2, .int l3, .int l4, ci_junk] [] h nx (oI r nx) := by
  unfold b_X7_placesFrom_141 at H
  refine ev_go hc_X7_placesFrom (k := 2) (pc' := 20) (L' := [.ref l0, .int l1, .int l2, .int l3, .int (l4 + 1), ci_junk]) (S' := []) rfl ?_
  exact Ev.weak (ci_le_c (Or.inr rfl) (ci_le_c (Or.inr rfl) (ci_le_c (Or.inr rfl) (ci_le_c (Or.inr rfl) (ci_le_c (Or.inr rfl) (ci_le_c (Or.inl rfl) (ci_le_n))))))) (h_20 _ _ _ H)
def b_X7_placesFrom_56 (rc : Nat → Nat → Int32 → Int32 → ci_H → Option (Int32 × ci_H)) (r_20 : Int32 → ci_H → Option (Int32 × ci_H)) (l0 : Nat) (l1 : Int32) (l2 : Int32) (l3 : Int32) (l4 : Int32) (s0 : Int32)  (h : ci_H) : Option (Int32 × ci_H) := if s0 < 0 then (b_X7_placesFrom_141 rc r_20 l0 l1 l2 l3 l4 h) else ((gR h l0 7 0).bind fun v2 => (gR h l0 7 2).bind fun v3 => (rI h v3 l4).bind fun v4 => (F_X10_fits v2 v4 l3 h).bind fun q5 => if q5.1 = 0 then (b_X7_placesFrom_141 rc r_20 l0 l1 l2 l3 l4 q5.2) else ((gR q5.2 l0 7 3).bind fun v7 => (wI q5.2 v7 l1 l4).bind fun h8 => (gR h8 l0 7 2).bind fun v9 => (rI h8 v9 l4).bind fun v10 => (gR h8 l0 7 0).bind fun v11 => (gR h8 v11 10 4).bind fun v12 => (rI h8 v12 l3).bind fun v13 => (wI h8 v9 l4 (v10 + v13)).bind fun h14 => (rc 0 l0 (l1 + 1) s0 h14).bind fun q15 => if q15.1 = 0 then ((gR q15.2 l0 7 2).bind fun v17 => (rI q15.2 v17 l4).bind fun v18 => (gR q15.2 l0 7 0).bind fun v19 => (gR q15.2 v19 10 4).bind fun v20 => (rI q15.2 v20 l3).bind fun v21 => (wI q15.2 v17 l4 (v18 - v21)).bind fun h22 => b_X7_placesFrom_141 rc r_20 l0 l1 l2 l3 l4 h22) else (some (1, q15.2))))
set_option maxHeartbeats 4000000 in
set_option maxRecDepth 20000 in
theorem eb_X7_placesFrom_56 {xs : Nat → Int32} {N d : Nat} {nx : ci_N} {rc : Nat → Nat → Int32 → Int32 → ci_H → Option (Int32 × ci_H)} {r_20 : Int32 → ci_H → Option (Int32 × ci_H)} {l0 : Nat} {l1 : Int32} {l2 : Int32} {l3 : Int32} {l4 : Int32} {s0 : Int32} (hd : 0 ≤ d) (hrc : ∀ (j : Nat) (a0 : Nat) (a1 : Int32) (a2 : Int32) (h : ci_H) (r : Int32 × ci_H), rc j a0 a1 a2 h = some r → Ev xs N d (mg_X7_placesFrom j) 0 (ci_entry [.ref a0, .int a1, .int a2] (ci_n (ci_Ms (mg_X7_placesFrom j)))) [] h nx (oI r nx)) (hrk : ∀ (j : Nat) (a0 : Nat) (a1 : Int32) (a2 : Int32) (h : ci_H) (r : Int32 × ci_H), rc j a0 a1 a2 h = some r → kO h a0 = some 7) (h_20 : ∀ (l4 : Int32) (h : ci_H) (r : Int32 × ci_H), r_20 l4 h = some r → Ev xs N (d + 1) 42 20 [.ref l0, .int l1, .int l2, .int l3, .int l4, ci_junk] [] h nx (oI r nx)) {h : ci_H} {r : Int32 × ci_H} (H : b_X7_placesFrom_56 rc r_20 l0 l1 l2 l3 l4 s0 h = some r) : Ev xs N (d + 1) 42 56 [.ref l0, .int l1, .int l2, .int l3, .int l4, ci_junk] [.int s0] h nx (oI r nx) := by
  unfold b_X7_placesFrom_56 at H
  refine ev_go hc_X7_placesFrom (k := 2) (pc' := 60) (L' := [.ref l0, .int l1, .int l2, .int l3, .int l4, .int s0]) (S' := [.int s0]) rfl ?_
  by_cases c1 : s0 < 0
  · rw [if_pos c1] at H
    refine ev_bt hc_X7_placesFrom (fe_X7_placesFrom (pc := 60) rfl) rfl c1 ?_
    exact Ev.weak (ci_le_c (Or.inr rfl) (ci_le_c (Or.inr rfl) (ci_le_c (Or.inr rfl) (ci_le_c (Or.inr rfl) (ci_le_c (Or.inr rfl) (ci_le_c (Or.inl rfl) (ci_le_n))))))) (eb_X7_placesFrom_141 hd hrc hrk h_20 H)
  · rw [if_neg c1] at H
    refine ev_bf hc_X7_placesFrom (fe_X7_placesFrom (pc := 60) rfl) rfl c1 ?_
    refine ev_go hc_X7_placesFrom (k := 1) (pc' := 64) (L' := [.ref l0, .int l1, .int l2, .int l3, .int l4, .int s0]) (S' := [.ref l0]) rfl ?_
    obtain ⟨v2, ev2, H⟩ := Option.bind_eq_some_iff.mp H
    refine ev_4 hc_X7_placesFrom (fe_X7_placesFrom (pc := 64) rfl) (gR_gf ev2) ?_
    refine ev_go hc_X7_placesFrom (k := 1) (pc' := 68) (L' := [.ref l0, .int l1, .int l2, .int l3, .int l4, .int s0]) (S' := [.ref l0, .ref v2]) rfl ?_
    obtain ⟨v3, ev3, H⟩ := Option.bind_eq_some_iff.mp H
    refine ev_4 hc_X7_placesFrom (fe_X7_placesFrom (pc := 68) rfl) (gR_gf ev3) ?_
    refine ev_go hc_X7_placesFrom (k := 1) (pc' := 73) (L' := [.ref l0, .int l1, .int l2, .int l3, .int l4, .int s0]) (S' := [.int l4, .ref v3, .ref v2]) rfl ?_
    obtain ⟨v4, ev4, H⟩ := Option.bind_eq_some_iff.mp H
    refine ev_4 hc_X7_placesFrom (fe_X7_placesFrom (pc := 73) rfl) (rI_al ev4) ?_
    refine ev_go hc_X7_placesFrom (k := 1) (pc' := 75) (L' := [.ref l0, .int l1, .int l2, .int l3, .int l4, .int s0]) (S' := [.int l3, .int v4, .ref v2]) rfl ?_
    obtain ⟨q5, eq5, H⟩ := Option.bind_eq_some_iff.mp H
    refine ev_call (vs := [.ref v2, .int v4, .int l3]) (rest := []) (q := q_X10_fits) hc_X7_placesFrom (Or.inr rfl) (fe_X7_placesFrom (pc := 75) rfl) ms_83 rfl rfl (Nat.le_of_ble_eq_true rfl) (kO_recv (K_X10_fits eq5)) (E_X10_fits eq5 (by omega)) rfl ?_
    show Ev xs N (d + 1) 42 78 [.ref l0, .int l1, .int l2, .int l3, .int l4, .int s0] [.int q5.1] q5.2 nx _
    by_cases c6 : q5.1 = 0
    · rw [if_pos c6] at H
      refine ev_bt hc_X7_placesFrom (fe_X7_placesFrom (pc := 78) rfl) rfl c6 ?_
      exact Ev.weak (ci_le_c (Or.inr rfl) (ci_le_c (Or.inr rfl) (ci_le_c (Or.inr rfl) (ci_le_c (Or.inr rfl) (ci_le_c (Or.inr rfl) (ci_le_c (Or.inl rfl) (ci_le_n))))))) (eb_X7_placesFrom_141 hd hrc hrk h_20 H)
    · rw [if_neg c6] at H
      refine ev_bf hc_X7_placesFrom (fe_X7_placesFrom (pc := 78) rfl) rfl c6 ?_
      refine ev_go hc_X7_placesFrom (k := 1) (pc' := 82) (L' := [.ref l0, .int l1, .int l2, .int l3, .int l4, .int s0]) (S' := [.ref l0]) rfl ?_
      obtain ⟨v7, ev7, H⟩ := Option.bind_eq_some_iff.mp H
      refine ev_4 hc_X7_placesFrom (fe_X7_placesFrom (pc := 82) rfl) (gR_gf ev7) ?_
      refine ev_go hc_X7_placesFrom (k := 2) (pc' := 88) (L' := [.ref l0, .int l1, .int l2, .int l3, .int l4, .int s0]) (S' := [.int l4, .int l1, .ref v7]) rfl ?_
      obtain ⟨h8, eh8, H⟩ := Option.bind_eq_some_iff.mp H
      refine ev_5 hc_X7_placesFrom (fe_X7_placesFrom (pc := 88) rfl) (wI_as eh8) ?_
      refine ev_go hc_X7_placesFrom (k := 1) (pc' := 90) (L' := [.ref l0, .int l1, .int l2, .int l3, .int l4, .int s0]) (S' := [.ref l0]) rfl ?_
      obtain ⟨v9, ev9, H⟩ := Option.bind_eq_some_iff.mp H
      refine ev_4 hc_X7_placesFrom (fe_X7_placesFrom (pc := 90) rfl) (gR_gf ev9) ?_
      refine ev_go hc_X7_placesFrom (k := 2) (pc' := 96) (L' := [.ref l0, .int l1, .int l2, .int l3, .int l4, .int s0]) (S' := [.int l4, .ref v9, .int l4, .ref v9]) rfl ?_
      obtain ⟨v10, ev10, H⟩ := Option.bind_eq_some_iff.mp H
      refine ev_4 hc_X7_placesFrom (fe_X7_placesFrom (pc := 96) rfl) (rI_al ev10) ?_
      refine ev_go hc_X7_placesFrom (k := 1) (pc' := 98) (L' := [.ref l0, .int l1, .int l2, .int l3, .int l4, .int s0]) (S' := [.ref l0, .int v10, .int l4, .ref v9]) rfl ?_
      obtain ⟨v11, ev11, H⟩ := Option.bind_eq_some_iff.mp H
      refine ev_4 hc_X7_placesFrom (fe_X7_placesFrom (pc := 98) rfl) (gR_gf ev11) ?_
      obtain ⟨v12, ev12, H⟩ := Option.bind_eq_some_iff.mp H
      refine ev_4 hc_X7_placesFrom (fe_X7_placesFrom (pc := 101) rfl) (gR_gf ev12) ?_
      refine ev_go hc_X7_placesFrom (k := 1) (pc' := 105) (L' := [.ref l0, .int l1, .int l2, .int l3, .int l4, .int s0]) (S' := [.int l3, .ref v12, .int v10, .int l4, .ref v9]) rfl ?_
      obtain ⟨v13, ev13, H⟩ := Option.bind_eq_some_iff.mp H
      refine ev_4 hc_X7_placesFrom (fe_X7_placesFrom (pc := 105) rfl) (rI_al ev13) ?_
      refine ev_go hc_X7_placesFrom (k := 1) (pc' := 107) (L' := [.ref l0, .int l1, .int l2, .int l3, .int l4, .int s0]) (S' := [.int (v10 + v13), .int l4, .ref v9]) rfl ?_
      obtain ⟨h14, eh14, H⟩ := Option.bind_eq_some_iff.mp H
      refine ev_5 hc_X7_placesFrom (fe_X7_placesFrom (pc := 107) rfl) (wI_as eh14) ?_
      refine ev_go hc_X7_placesFrom (k := 5) (pc' := 114) (L' := [.ref l0, .int l1, .int l2, .int l3, .int l4, .int s0]) (S' := [.int s0, .int (l1 + 1), .ref l0]) rfl ?_
      obtain ⟨q15, eq15, H⟩ := Option.bind_eq_some_iff.mp H
      refine ev_call (vs := [.ref l0, .int (l1 + 1), .int s0]) (rest := []) (q := q_X7_placesFrom) hc_X7_placesFrom (Or.inr rfl) (fe_X7_placesFrom (pc := 114) rfl) ms_42 rfl rfl (Nat.le_of_ble_eq_true rfl) (kO_recv (hrk _ _ _ _ _ _ eq15)) (hrc 0 _ _ _ _ _ eq15) rfl ?_
      show Ev xs N (d + 1) 42 117 [.ref l0, .int l1, .int l2, .int l3, .int l4, .int s0] [.int q15.1] q15.2 nx _
      by_cases c16 : q15.1 = 0
      · rw [if_pos c16] at H
        refine ev_bt hc_X7_placesFrom (fe_X7_placesFrom (pc := 117) rfl) rfl c16 ?_
        refine ev_go hc_X7_placesFrom (k := 1) (pc' := 123) (L' := [.ref l0, .int l1, .int l2, .int l3, .int l4, .int s0]) (S' := [.ref l0]) rfl ?_
        obtain ⟨v17, ev17, H⟩ := Option.bind_eq_some_iff.mp H
        refine ev_4 hc_X7_placesFrom (fe_X7_placesFrom (pc := 123) rfl) (gR_gf ev17) ?_
        refine ev_go hc_X7_placesFrom (k := 2) (pc' := 129) (L' := [.ref l0, .int l1, .int l2, .int l3, .int l4, .int s0]) (S' := [.int l4, .ref v17, .int l4, .ref v17]) rfl ?_
        obtain ⟨v18, ev18, H⟩ := Option.bind_eq_some_iff.mp H
        refine ev_4 hc_X7_placesFrom (fe_X7_placesFrom (pc := 129) rfl) (rI_al ev18) ?_
        refine ev_go hc_X7_placesFrom (k := 1) (pc' := 131) (L' := [.ref l0, .int l1, .int l2, .int l3, .int l4, .int s0]) (S' := [.ref l0, .int v18, .int l4, .ref v17]) rfl ?_
        obtain ⟨v19, ev19, H⟩ := Option.bind_eq_some_iff.mp H
        refine ev_4 hc_X7_placesFrom (fe_X7_placesFrom (pc := 131) rfl) (gR_gf ev19) ?_
        obtain ⟨v20, ev20, H⟩ := Option.bind_eq_some_iff.mp H
        refine ev_4 hc_X7_placesFrom (fe_X7_placesFrom (pc := 134) rfl) (gR_gf ev20) ?_
        refine ev_go hc_X7_placesFrom (k := 1) (pc' := 138) (L' := [.ref l0, .int l1, .int l2, .int l3, .int l4, .int s0]) (S' := [.int l3, .ref v20, .int v18, .int l4, .ref v17]) rfl ?_
        obtain ⟨v21, ev21, H⟩ := Option.bind_eq_some_iff.mp H
        refine ev_4 hc_X7_placesFrom (fe_X7_placesFrom (pc := 138) rfl) (rI_al ev21) ?_
        refine ev_go hc_X7_placesFrom (k := 1) (pc' := 140) (L' := [.ref l0, .int l1, .int l2, .int l3, .int l4, .int s0]) (S' := [.int (v18 - v21), .int l4, .ref v17]) rfl ?_
        obtain ⟨h22, eh22, H⟩ := Option.bind_eq_some_iff.mp H
        refine ev_5 hc_X7_placesFrom (fe_X7_placesFrom (pc := 140) rfl) (wI_as eh22) ?_
        exact Ev.weak (ci_le_c (Or.inr rfl) (ci_le_c (Or.inr rfl) (ci_le_c (Or.inr rfl) (ci_le_c (Or.inr rfl) (ci_le_c (Or.inr rfl) (ci_le_c (Or.inl rfl) (ci_le_n))))))) (eb_X7_placesFrom_141 hd hrc hrk h_20 H)
      · rw [if_neg c16] at H
        refine ev_bf hc_X7_placesFrom (fe_X7_placesFrom (pc := 117) rfl) rfl c16 ?_
        refine ev_go hc_X7_placesFrom (k := 1) (pc' := 121) (L' := [.ref l0, .int l1, .int l2, .int l3, .int l4, .int s0]) (S' := [.int 1]) rfl ?_
        obtain rfl := Option.some.inj H
        exact ev_8z hc_X7_placesFrom (fe_X7_placesFrom (pc := 121) rfl) rfl (Or.inr rfl)
def b_X7_placesFrom_20 (rc : Nat → Nat → Int32 → Int32 → ci_H → Option (Int32 × ci_H)) (l0 : Nat) (l1 : Int32) (l2 : Int32) (l3 : Int32) : Nat → Int32 → ci_H → Option (Int32 × ci_H)
  | 0, _, _ => none
  | n + 1, l4, h => (gR h l0 7 0).bind fun v1 => (gI h v1 10 5).bind fun v2 => if v2 ≤ l4 then (some (0, h)) else ((gR h l0 7 0).bind fun v4 => (gR h v4 10 0).bind fun v5 => (gR h v5 6 1).bind fun v6 => (rI h v6 l3).bind fun v7 => if v7 = l4 then (b_X7_placesFrom_56 rc (fun x0 x1 => b_X7_placesFrom_20 rc l0 l1 l2 l3 n x0 x1) l0 l1 l2 l3 l4 l2 h) else (b_X7_placesFrom_56 rc (fun x0 x1 => b_X7_placesFrom_20 rc l0 l1 l2 l3 n x0 x1) l0 l1 l2 l3 l4 (l2 - 1) h))
set_option maxHeartbeats 4000000 in
set_option maxRecDepth 20000 in
theorem eb_X7_placesFrom_20 {xs : Nat → Int32} {N d : Nat} {nx : ci_N} {rc : Nat → Nat → Int32 → Int32 → ci_H → Option (Int32 × ci_H)} {l0 : Nat} {l1 : Int32} {l2 : Int32} {l3 : Int32} (hd : 0 ≤ d) (hrc : ∀ (j : Nat) (a0 : Nat) (a1 : Int32) (a2 : Int32) (h : ci_H) (r : Int32 × ci_H), rc j a0 a1 a2 h = some r → Ev xs N d (mg_X7_placesFrom j) 0 (ci_entry [.ref a0, .int a1, .int a2] (ci_n (ci_Ms (mg_X7_placesFrom j)))) [] h nx (oI r nx)) (hrk : ∀ (j : Nat) (a0 : Nat) (a1 : Int32) (a2 : Int32) (h : ci_H) (r : Int32 × ci_H), rc j a0 a1 a2 h = some r → kO h a0 = some 7) : ∀ (n : Nat) (l4 : Int32) (h : ci_H) (r : Int32 × ci_H), b_X7_placesFrom_20 rc l0 l1 l2 l3 n l4 h = some r → Ev xs N (d + 1) 42 20 [.ref l0, .int l1, .int l2, .int l3, .int l4, ci_junk] [] h nx (oI r nx) := by
  intro n
  induction n with
  | zero => intro l4 h r H; unfold b_X7_placesFrom_20 at H; cases H
  | succ n ih =>
    intro l4 h r H
    unfold b_X7_placesFrom_20 at H
    refine ev_go hc_X7_placesFrom (k := 2) (pc' := 23) (L' := [.ref l0, .int l1, .int l2, .int l3, .int l4, ci_junk]) (S' := [.ref l0, .int l4]) rfl ?_
    obtain ⟨v1, ev1, H⟩ := Option.bind_eq_some_iff.mp H
    refine ev_4 hc_X7_placesFrom (fe_X7_placesFrom (pc := 23) rfl) (gR_gf ev1) ?_
    obtain ⟨v2, ev2, H⟩ := Option.bind_eq_some_iff.mp H
    refine ev_4 hc_X7_placesFrom (fe_X7_placesFrom (pc := 26) rfl) (gI_gf ev2) ?_
    by_cases c3 : v2 ≤ l4
    · rw [if_pos c3] at H
      refine ev_bt hc_X7_placesFrom (fe_X7_placesFrom (pc := 29) rfl) rfl c3 ?_
      refine ev_go hc_X7_placesFrom (k := 1) (pc' := 148) (L' := [.ref l0, .int l1, .int l2, .int l3, .int l4, ci_junk]) (S' := [.int 0]) rfl ?_
      obtain rfl := Option.some.inj H
      exact ev_8z hc_X7_placesFrom (fe_X7_placesFrom (pc := 148) rfl) rfl (Or.inl rfl)
    · rw [if_neg c3] at H
      refine ev_bf hc_X7_placesFrom (fe_X7_placesFrom (pc := 29) rfl) rfl c3 ?_
      refine ev_go hc_X7_placesFrom (k := 1) (pc' := 33) (L' := [.ref l0, .int l1, .int l2, .int l3, .int l4, ci_junk]) (S' := [.ref l0]) rfl ?_
      obtain ⟨v4, ev4, H⟩ := Option.bind_eq_some_iff.mp H
      refine ev_4 hc_X7_placesFrom (fe_X7_placesFrom (pc := 33) rfl) (gR_gf ev4) ?_
      obtain ⟨v5, ev5, H⟩ := Option.bind_eq_some_iff.mp H
      refine ev_4 hc_X7_placesFrom (fe_X7_placesFrom (pc := 36) rfl) (gR_gf ev5) ?_
      obtain ⟨v6, ev6, H⟩ := Option.bind_eq_some_iff.mp H
      refine ev_4 hc_X7_placesFrom (fe_X7_placesFrom (pc := 39) rfl) (gR_gf ev6) ?_
      refine ev_go hc_X7_placesFrom (k := 1) (pc' := 43) (L' := [.ref l0, .int l1, .int l2, .int l3, .int l4, ci_junk]) (S' := [.int l3, .ref v6]) rfl ?_
      obtain ⟨v7, ev7, H⟩ := Option.bind_eq_some_iff.mp H
      refine ev_4 hc_X7_placesFrom (fe_X7_placesFrom (pc := 43) rfl) (rI_al ev7) ?_
      refine ev_go hc_X7_placesFrom (k := 1) (pc' := 46) (L' := [.ref l0, .int l1, .int l2, .int l3, .int l4, ci_junk]) (S' := [.int l4, .int v7]) rfl ?_
      by_cases c8 : v7 = l4
      · rw [if_pos c8] at H
        refine ev_bt hc_X7_placesFrom (fe_X7_placesFrom (pc := 46) rfl) rfl c8 ?_
        refine ev_go hc_X7_placesFrom (k := 2) (pc' := 56) (L' := [.ref l0, .int l1, .int l2, .int l3, .int l4, ci_junk]) (S' := [.int l2]) rfl ?_
        exact Ev.weak (ci_le_c (Or.inr rfl) (ci_le_c (Or.inr rfl) (ci_le_c (Or.inr rfl) (ci_le_c (Or.inr rfl) (ci_le_c (Or.inr rfl) (ci_le_c (Or.inl rfl) (ci_le_n))))))) (eb_X7_placesFrom_56 hd hrc hrk ih H)
      · rw [if_neg c8] at H
        refine ev_bf hc_X7_placesFrom (fe_X7_placesFrom (pc := 46) rfl) rfl c8 ?_
        refine ev_go hc_X7_placesFrom (k := 3) (pc' := 56) (L' := [.ref l0, .int l1, .int l2, .int l3, .int l4, ci_junk]) (S' := [.int (l2 - 1)]) rfl ?_
        exact Ev.weak (ci_le_c (Or.inr rfl) (ci_le_c (Or.inr rfl) (ci_le_c (Or.inr rfl) (ci_le_c (Or.inr rfl) (ci_le_c (Or.inr rfl) (ci_le_c (Or.inl rfl) (ci_le_n))))))) (eb_X7_placesFrom_56 hd hrc hrk ih H)
def G_X7_placesFrom (rc : Nat → Nat → Int32 → Int32 → ci_H → Option (Int32 × ci_H)) (a0 : Nat) (a1 : Int32) (a2 : Int32) (h : ci_H) : Option (Int32 × ci_H) := if kO h a0 = some 7 then ((gI h a0 7 4).bind fun v1 => if a1 < v1 then ((gR h a0 7 1).bind fun v3 => (rI h v3 a1).bind fun v4 => b_X7_placesFrom_20 rc a0 a1 a2 v4 bigN 0 h) else (some (1, h))) else none
theorem KG_X7_placesFrom {rc : Nat → Nat → Int32 → Int32 → ci_H → Option (Int32 × ci_H)} {a0 : Nat} {a1 : Int32} {a2 : Int32} {h : ci_H} {r : Int32 × ci_H} (H : G_X7_placesFrom rc a0 a1 a2 h = some r) : kO h a0 = some 7 := by
  unfold G_X7_placesFrom at H
  by_cases c : kO h a0 = some 7
  · exact c
  · rw [if_neg c] at H; cases H
set_option maxHeartbeats 4000000 in
set_option maxRecDepth 20000 in
theorem EG_X7_placesFrom {xs : Nat → Int32} {N d : Nat} {nx : ci_N} {rc : Nat → Nat → Int32 → Int32 → ci_H → Option (Int32 × ci_H)} {a0 : Nat} {a1 : Int32} {a2 : Int32} (hd : 0 ≤ d) (hrc : ∀ (j : Nat) (a0 : Nat) (a1 : Int32) (a2 : Int32) (h : ci_H) (r : Int32 × ci_H), rc j a0 a1 a2 h = some r → Ev xs N d (mg_X7_placesFrom j) 0 (ci_entry [.ref a0, .int a1, .int a2] (ci_n (ci_Ms (mg_X7_placesFrom j)))) [] h nx (oI r nx)) (hrk : ∀ (j : Nat) (a0 : Nat) (a1 : Int32) (a2 : Int32) (h : ci_H) (r : Int32 × ci_H), rc j a0 a1 a2 h = some r → kO h a0 = some 7) {h : ci_H} {r : Int32 × ci_H} (H : G_X7_placesFrom rc a0 a1 a2 h = some r) : Ev xs N (d + 1) 42 0 (ci_entry [.ref a0, .int a1, .int a2] 6) [] h nx (oI r nx) := by
  unfold G_X7_placesFrom at H
  by_cases ck : kO h a0 = some 7
  · rw [if_pos ck] at H
    show Ev xs N (d + 1) 42 0 [.ref a0, .int a1, .int a2, ci_junk, ci_junk, ci_junk] [] h nx _
    refine ev_go hc_X7_placesFrom (k := 2) (pc' := 2) (L' := [.ref a0, .int a1, .int a2, ci_junk, ci_junk, ci_junk]) (S' := [.ref a0, .int a1]) rfl ?_
    obtain ⟨v1, ev1, H⟩ := Option.bind_eq_some_iff.mp H
    refine ev_4 hc_X7_placesFrom (fe_X7_placesFrom (pc := 2) rfl) (gI_gf ev1) ?_
    by_cases c2 : a1 < v1
    · rw [if_pos c2] at H
      refine ev_bt hc_X7_placesFrom (fe_X7_placesFrom (pc := 5) rfl) rfl c2 ?_
      refine ev_go hc_X7_placesFrom (k := 1) (pc' := 11) (L' := [.ref a0, .int a1, .int a2, ci_junk, ci_junk, ci_junk]) (S' := [.ref a0]) rfl ?_
      obtain ⟨v3, ev3, H⟩ := Option.bind_eq_some_iff.mp H
      refine ev_4 hc_X7_placesFrom (fe_X7_placesFrom (pc := 11) rfl) (gR_gf ev3) ?_
      refine ev_go hc_X7_placesFrom (k := 1) (pc' := 15) (L' := [.ref a0, .int a1, .int a2, ci_junk, ci_junk, ci_junk]) (S' := [.int a1, .ref v3]) rfl ?_
      obtain ⟨v4, ev4, H⟩ := Option.bind_eq_some_iff.mp H
      refine ev_4 hc_X7_placesFrom (fe_X7_placesFrom (pc := 15) rfl) (rI_al ev4) ?_
      refine ev_go hc_X7_placesFrom (k := 3) (pc' := 20) (L' := [.ref a0, .int a1, .int a2, .int v4, .int 0, ci_junk]) (S' := []) rfl ?_
      exact Ev.weak (ci_le_c (Or.inr rfl) (ci_le_c (Or.inr rfl) (ci_le_c (Or.inr rfl) (ci_le_c (Or.inr rfl) (ci_le_c (Or.inr rfl) (ci_le_c (Or.inl rfl) (ci_le_n))))))) (eb_X7_placesFrom_20 hd hrc hrk bigN _ _ _ H)
    · rw [if_neg c2] at H
      refine ev_bf hc_X7_placesFrom (fe_X7_placesFrom (pc := 5) rfl) rfl c2 ?_
      refine ev_go hc_X7_placesFrom (k := 1) (pc' := 9) (L' := [.ref a0, .int a1, .int a2, ci_junk, ci_junk, ci_junk]) (S' := [.int 1]) rfl ?_
      obtain rfl := Option.some.inj H
      exact ev_8z hc_X7_placesFrom (fe_X7_placesFrom (pc := 9) rfl) rfl (Or.inr rfl)
  · rw [if_neg ck] at H; cases H
def FG_X7_placesFrom : Nat → Nat → Nat → Int32 → Int32 → ci_H → Option (Int32 × ci_H)
  | 0, _, _, _, _, _ => none
  | n + 1, j, a0, a1, a2, h => match j with
    | _ => G_X7_placesFrom (fun j a0 a1 a2 h => FG_X7_placesFrom n j a0 a1 a2 h) a0 a1 a2 h
theorem KGG_X7_placesFrom : ∀ (n j : Nat) (a0 : Nat) (a1 : Int32) (a2 : Int32) (h : ci_H) (r : Int32 × ci_H), FG_X7_placesFrom n j a0 a1 a2 h = some r → kO h a0 = some 7 := by
  intro n j a0 a1 a2 h r H
  cases n with
  | zero => cases H
  | succ n =>
    match j, H with
    | j, H => exact KG_X7_placesFrom H
theorem EGG_X7_placesFrom {xs : Nat → Int32} {N : Nat} {nx : ci_N} : ∀ (n d j : Nat) (a0 : Nat) (a1 : Int32) (a2 : Int32) (h : ci_H) (r : Int32 × ci_H), FG_X7_placesFrom n j a0 a1 a2 h = some r → n + 1 ≤ d → Ev xs N d (mg_X7_placesFrom j) 0 (ci_entry [.ref a0, .int a1, .int a2] (ci_n (ci_Ms (mg_X7_placesFrom j)))) [] h nx (oI r nx) := by
  intro n
  induction n with
  | zero => intro d j a0 a1 a2 h r H; cases H
  | succ n ih =>
    intro d j a0 a1 a2 h r H hd
    obtain ⟨d, rfl⟩ : ∃ d2, d = d2 + 1 := ⟨d - 1, by omega⟩
    match j, H with
    | j, H => exact EG_X7_placesFrom (by omega) (fun j a0 a1 a2 h r H => ih d j a0 a1 a2 h r H (by omega)) (KGG_X7_placesFrom n) H
def F_X7_placesFrom (a0 : Nat) (a1 : Int32) (a2 : Int32) (h : ci_H) : Option (Int32 × ci_H) := FG_X7_placesFrom recN 0 a0 a1 a2 h
theorem K_X7_placesFrom {a0 : Nat} {a1 : Int32} {a2 : Int32} {h : ci_H} {r : Int32 × ci_H} (H : F_X7_placesFrom a0 a1 a2 h = some r) : kO h a0 = some 7 := KGG_X7_placesFrom recN 0 _ _ _ h r H
theorem E_X7_placesFrom {xs : Nat → Int32} {N d : Nat} {nx : ci_N} {a0 : Nat} {a1 : Int32} {a2 : Int32} {h : ci_H} {r : Int32 × ci_H} (H : F_X7_placesFrom a0 a1 a2 h = some r) (hd : 101 ≤ d) : Ev xs N d 42 0 (ci_entry [.ref a0, .int a1, .int a2] 6) [] h nx (oI r nx) := EGG_X7_placesFrom recN d 0 _ _ _ h r H (by unfold recN; omega)
theorem hc_X7_fewestMoves : ci_code (ci_Ms 40) = k_X7_fewestMoves := rfl
theorem fe_X7_fewestMoves {pc : Nat} {w : Option ci_I} (h : (k_X7_fewestMoves)[pc]? = some w) : (k_X7_fewestMoves)[pc]? = some w := h
def b_X7_fewestMoves_67 (l0 : Nat) : Nat → Int32 → ci_H → Option (Int32 × ci_H)
  | 0, _, _ => none
  | n + 1, l2, h => (gI h l0 7 4).bind fun v1 => if v1 < l2 then (some ((-2), h)) else ((F_X7_placesFrom l0 0 l2 h).bind fun q3 => if q3.1 = 0 then (b_X7_fewestMoves_67 l0 n (l2 + 1) q3.2) else (some (l2, q3.2)))
set_option maxHeartbeats 4000000 in
set_option maxRecDepth 20000 in
theorem eb_X7_fewestMoves_67 {xs : Nat → Int32} {N d : Nat} {nx : ci_N} {l0 : Nat} (hd : 101 ≤ d) : ∀ (n : Nat) (l2 : Int32) (h : ci_H) (r : Int32 × ci_H), b_X7_fewestMoves_67 l0 n l2 h = some r → Ev xs N (d + 1) 40 67 [.ref l0, ci_junk, .int l2, ci_junk] [] h nx (oI r nx) := by
  intro n
  induction n with
  | zero => intro l2 h r H; unfold b_X7_fewestMoves_67 at H; cases H
  | succ n ih =>
    intro l2 h r H
    unfold b_X7_fewestMoves_67 at H
    refine ev_go hc_X7_fewestMoves (k := 2) (pc' := 69) (L' := [.ref l0, ci_junk, .int l2, ci_junk]) (S' := [.ref l0, .int l2]) rfl ?_
    obtain ⟨v1, ev1, H⟩ := Option.bind_eq_some_iff.mp H
    refine ev_4 hc_X7_fewestMoves (fe_X7_fewestMoves (pc := 69) rfl) (gI_gf ev1) ?_
    by_cases c2 : v1 < l2
    · rw [if_pos c2] at H
      refine ev_bt hc_X7_fewestMoves (fe_X7_fewestMoves (pc := 72) rfl) rfl c2 ?_
      refine ev_go hc_X7_fewestMoves (k := 1) (pc' := 94) (L' := [.ref l0, ci_junk, .int l2, ci_junk]) (S' := [.int ((-2))]) rfl ?_
      obtain rfl := Option.some.inj H
      exact ev_8 hc_X7_fewestMoves (fe_X7_fewestMoves (pc := 94) rfl) rfl
    · rw [if_neg c2] at H
      refine ev_bf hc_X7_fewestMoves (fe_X7_fewestMoves (pc := 72) rfl) rfl c2 ?_
      refine ev_go hc_X7_fewestMoves (k := 3) (pc' := 78) (L' := [.ref l0, ci_junk, .int l2, ci_junk]) (S' := [.int l2, .int 0, .ref l0]) rfl ?_
      obtain ⟨q3, eq3, H⟩ := Option.bind_eq_some_iff.mp H
      refine ev_call (vs := [.ref l0, .int 0, .int l2]) (rest := []) (q := q_X7_placesFrom) hc_X7_fewestMoves (Or.inr rfl) (fe_X7_fewestMoves (pc := 78) rfl) ms_42 rfl rfl (Nat.le_of_ble_eq_true rfl) (kO_recv (K_X7_placesFrom eq3)) (E_X7_placesFrom eq3 (by omega)) rfl ?_
      show Ev xs N (d + 1) 40 81 [.ref l0, ci_junk, .int l2, ci_junk] [.int q3.1] q3.2 nx _
      by_cases c4 : q3.1 = 0
      · rw [if_pos c4] at H
        refine ev_bt hc_X7_fewestMoves (fe_X7_fewestMoves (pc := 81) rfl) rfl c4 ?_
        refine ev_go hc_X7_fewestMoves (k := 2) (pc' := 67) (L' := [.ref l0, ci_junk, .int (l2 + 1), ci_junk]) (S' := []) rfl ?_
        exact Ev.weak (ci_le_c (Or.inr rfl) (ci_le_c (Or.inl rfl) (ci_le_c (Or.inr rfl) (ci_le_c (Or.inl rfl) (ci_le_n))))) (ih _ _ _ H)
      · rw [if_neg c4] at H
        refine ev_bf hc_X7_fewestMoves (fe_X7_fewestMoves (pc := 81) rfl) rfl c4 ?_
        refine ev_go hc_X7_fewestMoves (k := 1) (pc' := 85) (L' := [.ref l0, ci_junk, .int l2, ci_junk]) (S' := [.int l2]) rfl ?_
        obtain rfl := Option.some.inj H
        exact ev_8 hc_X7_fewestMoves (fe_X7_fewestMoves (pc := 85) rfl) rfl
def b_X7_fewestMoves_7 (l0 : Nat) (l1 : Int32) : Nat → Int32 → ci_H → Option (Int32 × ci_H)
  | 0, _, _ => none
  | n + 1, l2, h => (gR h l0 7 0).bind fun v1 => (gI h v1 10 5).bind fun v2 => if v2 ≤ l2 then (b_X7_fewestMoves_67 l0 bigN 0 h) else ((gR h l0 7 0).bind fun v4 => (F_X10_keptBy v4 l2 h).bind fun q5 => (gR q5.2 l0 7 0).bind fun v6 => (F_X10_brokenIn v6 (q5.1 &&& (l1 ^^^ ((-1)))) q5.2).bind fun q7 => if q7.1 = 0 then ((gR q7.2 l0 7 2).bind fun v9 => (gR q7.2 l0 7 0).bind fun v10 => (F_X10_loadOf v10 (q5.1 &&& (l1 ^^^ ((-1)))) q7.2).bind fun q11 => (wI q11.2 v9 l2 q11.1).bind fun h12 => b_X7_fewestMoves_7 l0 l1 n (l2 + 1) h12) else (some ((-2), q7.2)))
set_option maxHeartbeats 4000000 in
set_option maxRecDepth 20000 in
theorem eb_X7_fewestMoves_7 {xs : Nat → Int32} {N d : Nat} {nx : ci_N} {l0 : Nat} {l1 : Int32} (hd : 101 ≤ d) : ∀ (n : Nat) (l2 : Int32) (h : ci_H) (r : Int32 × ci_H), b_X7_fewestMoves_7 l0 l1 n l2 h = some r → Ev xs N (d + 1) 40 7 [.ref l0, .int l1, .int l2, ci_junk] [] h nx (oI r nx) := by
  intro n
  induction n with
  | zero => intro l2 h r H; unfold b_X7_fewestMoves_7 at H; cases H
  | succ n ih =>
    intro l2 h r H
    unfold b_X7_fewestMoves_7 at H
    refine ev_go hc_X7_fewestMoves (k := 2) (pc' := 9) (L' := [.ref l0, .int l1, .int l2, ci_junk]) (S' := [.ref l0, .int l2]) rfl ?_
    obtain ⟨v1, ev1, H⟩ := Option.bind_eq_some_iff.mp H
    refine ev_4 hc_X7_fewestMoves (fe_X7_fewestMoves (pc := 9) rfl) (gR_gf ev1) ?_
    obtain ⟨v2, ev2, H⟩ := Option.bind_eq_some_iff.mp H
    refine ev_4 hc_X7_fewestMoves (fe_X7_fewestMoves (pc := 12) rfl) (gI_gf ev2) ?_
    by_cases c3 : v2 ≤ l2
    · rw [if_pos c3] at H
      refine ev_bt hc_X7_fewestMoves (fe_X7_fewestMoves (pc := 15) rfl) rfl c3 ?_
      refine ev_go hc_X7_fewestMoves (k := 2) (pc' := 67) (L' := [.ref l0, .int l1, .int 0, ci_junk]) (S' := []) rfl ?_
      exact Ev.weak (ci_le_c (Or.inr rfl) (ci_le_c (Or.inl rfl) (ci_le_c (Or.inr rfl) (ci_le_c (Or.inl rfl) (ci_le_n))))) (eb_X7_fewestMoves_67 hd bigN _ _ _ H)
    · rw [if_neg c3] at H
      refine ev_bf hc_X7_fewestMoves (fe_X7_fewestMoves (pc := 15) rfl) rfl c3 ?_
      refine ev_go hc_X7_fewestMoves (k := 1) (pc' := 19) (L' := [.ref l0, .int l1, .int l2, ci_junk]) (S' := [.ref l0]) rfl ?_
      obtain ⟨v4, ev4, H⟩ := Option.bind_eq_some_iff.mp H
      refine ev_4 hc_X7_fewestMoves (fe_X7_fewestMoves (pc := 19) rfl) (gR_gf ev4) ?_
      refine ev_go hc_X7_fewestMoves (k := 1) (pc' := 23) (L' := [.ref l0, .int l1, .int l2, ci_junk]) (S' := [.int l2, .ref v4]) rfl ?_
      obtain ⟨q5, eq5, H⟩ := Option.bind_eq_some_iff.mp H
      refine ev_call (vs := [.ref v4, .int l2]) (rest := []) (q := q_X10_keptBy) hc_X7_fewestMoves (Or.inr rfl) (fe_X7_fewestMoves (pc := 23) rfl) ms_75 rfl rfl (Nat.le_of_ble_eq_true rfl) (kO_recv (K_X10_keptBy eq5)) (E_X10_keptBy eq5 (by omega)) rfl ?_
      show Ev xs N (d + 1) 40 26 [.ref l0, .int l1, .int l2, ci_junk] [.int q5.1] q5.2 nx _
      refine ev_go hc_X7_fewestMoves (k := 6) (pc' := 32) (L' := [.ref l0, .int l1, .int l2, .int (q5.1 &&& (l1 ^^^ ((-1))))]) (S' := [.ref l0]) rfl ?_
      obtain ⟨v6, ev6, H⟩ := Option.bind_eq_some_iff.mp H
      refine ev_4 hc_X7_fewestMoves (fe_X7_fewestMoves (pc := 32) rfl) (gR_gf ev6) ?_
      refine ev_go hc_X7_fewestMoves (k := 1) (pc' := 36) (L' := [.ref l0, .int l1, .int l2, .int (q5.1 &&& (l1 ^^^ ((-1))))]) (S' := [.int (q5.1 &&& (l1 ^^^ ((-1)))), .ref v6]) rfl ?_
      obtain ⟨q7, eq7, H⟩ := Option.bind_eq_some_iff.mp H
      refine ev_call (vs := [.ref v6, .int (q5.1 &&& (l1 ^^^ ((-1))))]) (rest := []) (q := q_X10_brokenIn) hc_X7_fewestMoves (Or.inr rfl) (fe_X7_fewestMoves (pc := 36) rfl) ms_80 rfl rfl (Nat.le_of_ble_eq_true rfl) (kO_recv (K_X10_brokenIn eq7)) (E_X10_brokenIn eq7 (by omega)) rfl ?_
      show Ev xs N (d + 1) 40 39 [.ref l0, .int l1, .int l2, .int (q5.1 &&& (l1 ^^^ ((-1))))] [.int q7.1] q7.2 nx _
      by_cases c8 : q7.1 = 0
      · rw [if_pos c8] at H
        refine ev_bt hc_X7_fewestMoves (fe_X7_fewestMoves (pc := 39) rfl) rfl c8 ?_
        refine ev_go hc_X7_fewestMoves (k := 1) (pc' := 46) (L' := [.ref l0, .int l1, .int l2, .int (q5.1 &&& (l1 ^^^ ((-1))))]) (S' := [.ref l0]) rfl ?_
        obtain ⟨v9, ev9, H⟩ := Option.bind_eq_some_iff.mp H
        refine ev_4 hc_X7_fewestMoves (fe_X7_fewestMoves (pc := 46) rfl) (gR_gf ev9) ?_
        refine ev_go hc_X7_fewestMoves (k := 2) (pc' := 51) (L' := [.ref l0, .int l1, .int l2, .int (q5.1 &&& (l1 ^^^ ((-1))))]) (S' := [.ref l0, .int l2, .ref v9]) rfl ?_
        obtain ⟨v10, ev10, H⟩ := Option.bind_eq_some_iff.mp H
        refine ev_4 hc_X7_fewestMoves (fe_X7_fewestMoves (pc := 51) rfl) (gR_gf ev10) ?_
        refine ev_go hc_X7_fewestMoves (k := 1) (pc' := 55) (L' := [.ref l0, .int l1, .int l2, .int (q5.1 &&& (l1 ^^^ ((-1))))]) (S' := [.int (q5.1 &&& (l1 ^^^ ((-1)))), .ref v10, .int l2, .ref v9]) rfl ?_
        obtain ⟨q11, eq11, H⟩ := Option.bind_eq_some_iff.mp H
        refine ev_call (vs := [.ref v10, .int (q5.1 &&& (l1 ^^^ ((-1))))]) (rest := [.int l2, .ref v9]) (q := q_X10_loadOf) hc_X7_fewestMoves (Or.inr rfl) (fe_X7_fewestMoves (pc := 55) rfl) ms_82 rfl rfl (Nat.le_of_ble_eq_true rfl) (kO_recv (K_X10_loadOf eq11)) (E_X10_loadOf eq11 (by omega)) rfl ?_
        show Ev xs N (d + 1) 40 58 [.ref l0, .int l1, .int l2, .int (q5.1 &&& (l1 ^^^ ((-1))))] [.int q11.1, .int l2, .ref v9] q11.2 nx _
        obtain ⟨h12, eh12, H⟩ := Option.bind_eq_some_iff.mp H
        refine ev_5 hc_X7_fewestMoves (fe_X7_fewestMoves (pc := 58) rfl) (wI_as eh12) ?_
        refine ev_go hc_X7_fewestMoves (k := 2) (pc' := 7) (L' := [.ref l0, .int l1, .int (l2 + 1), .int (q5.1 &&& (l1 ^^^ ((-1))))]) (S' := []) rfl ?_
        exact Ev.weak (ci_le_c (Or.inr rfl) (ci_le_c (Or.inr rfl) (ci_le_c (Or.inr rfl) (ci_le_c (Or.inl rfl) (ci_le_n))))) (ih _ _ _ H)
      · rw [if_neg c8] at H
        refine ev_bf hc_X7_fewestMoves (fe_X7_fewestMoves (pc := 39) rfl) rfl c8 ?_
        refine ev_go hc_X7_fewestMoves (k := 1) (pc' := 44) (L' := [.ref l0, .int l1, .int l2, .int (q5.1 &&& (l1 ^^^ ((-1))))]) (S' := [.int ((-2))]) rfl ?_
        obtain rfl := Option.some.inj H
        exact ev_8 hc_X7_fewestMoves (fe_X7_fewestMoves (pc := 44) rfl) rfl
def F_X7_fewestMoves (a0 : Nat) (a1 : Int32) (h : ci_H) : Option (Int32 × ci_H) := if kO h a0 = some 7 then ((F_X7_list a0 a1 h).bind fun h1 => b_X7_fewestMoves_7 a0 a1 bigN 0 h1) else none
theorem K_X7_fewestMoves {a0 : Nat} {a1 : Int32} {h : ci_H} {r : Int32 × ci_H} (H : F_X7_fewestMoves a0 a1 h = some r) : kO h a0 = some 7 := by
  unfold F_X7_fewestMoves at H
  by_cases c : kO h a0 = some 7
  · exact c
  · rw [if_neg c] at H; cases H
set_option maxHeartbeats 4000000 in
set_option maxRecDepth 20000 in
theorem E_X7_fewestMoves {xs : Nat → Int32} {N d : Nat} {nx : ci_N} {a0 : Nat} {a1 : Int32} {h : ci_H} {r : Int32 × ci_H} (H : F_X7_fewestMoves a0 a1 h = some r) (hd : 102 ≤ d) : Ev xs N d 40 0 (ci_entry [.ref a0, .int a1] 4) [] h nx (oI r nx) := by
  obtain ⟨d, rfl⟩ : ∃ d2, d = d2 + 1 := ⟨d - 1, by omega⟩
  have hd : 101 ≤ d := by omega
  unfold F_X7_fewestMoves at H
  by_cases ck : kO h a0 = some 7
  · rw [if_pos ck] at H
    show Ev xs N (d + 1) 40 0 [.ref a0, .int a1, ci_junk, ci_junk] [] h nx _
    refine ev_go hc_X7_fewestMoves (k := 2) (pc' := 2) (L' := [.ref a0, .int a1, ci_junk, ci_junk]) (S' := [.int a1, .ref a0]) rfl ?_
    obtain ⟨h1, eh1, H⟩ := Option.bind_eq_some_iff.mp H
    refine ev_call (vs := [.ref a0, .int a1]) (rest := []) (q := q_X7_list) hc_X7_fewestMoves (Or.inr rfl) (fe_X7_fewestMoves (pc := 2) rfl) ms_41 rfl rfl (Nat.le_of_ble_eq_true rfl) (kO_recv (K_X7_list eh1)) (E_X7_list eh1 (by omega)) rfl ?_
    show Ev xs N (d + 1) 40 5 [.ref a0, .int a1, ci_junk, ci_junk] [] h1 nx _
    refine ev_go hc_X7_fewestMoves (k := 2) (pc' := 7) (L' := [.ref a0, .int a1, .int 0, ci_junk]) (S' := []) rfl ?_
    exact Ev.weak (ci_le_c (Or.inr rfl) (ci_le_c (Or.inr rfl) (ci_le_c (Or.inr rfl) (ci_le_c (Or.inl rfl) (ci_le_n))))) (eb_X7_fewestMoves_7 hd bigN _ _ _ H)
  · rw [if_neg ck] at H; cases H
theorem hc_X9_letters : ci_code (ci_Ms 59) = k_X9_letters := rfl
theorem fe_X9_letters {pc : Nat} {w : Option ci_I} (h : (k_X9_letters)[pc]? = some w) : (k_X9_letters)[pc]? = some w := h
def b_X9_letters_4 (l0 : Nat) (l1 : Int32) : Nat → Int32 → Int32 → ci_H → Option (Int32 × ci_H)
  | 0, _, _, _ => none
  | n + 1, l2, l3, h => if 6 ≤ l3 then (some (l2, h)) else ((F_X9_peek l0 h).bind fun q2 => if (q2.1 - 97) < 0 then (some (l2, q2.2)) else (if 6 ≤ (q2.1 - 97) then (some (l2, q2.2)) else (if (l2 >>> ((q2.1 - 97) &&& 31)) = 0 then (if ((l1 >>> ((q2.1 - 97) &&& 31)) &&& 1) = 0 then ((gI q2.2 l0 9 2).bind fun v7 => (pF q2.2 l0 9 2 (.int (v7 + 1))).bind fun h8 => b_X9_letters_4 l0 l1 n (l2 ||| ((1 : Int32) <<< ((q2.1 - 97) &&& 31))) (l3 + 1) h8) else (some (l2, q2.2))) else (some (l2, q2.2)))))
set_option maxHeartbeats 4000000 in
set_option maxRecDepth 20000 in
theorem eb_X9_letters_4 {xs : Nat → Int32} {N d : Nat} {nx : ci_N} {l0 : Nat} {l1 : Int32} (hd : 0 ≤ d) : ∀ (n : Nat) (l2 : Int32) (l3 : Int32) (h : ci_H) (r : Int32 × ci_H), b_X9_letters_4 l0 l1 n l2 l3 h = some r → Ev xs N (d + 1) 59 4 [.ref l0, .int l1, .int l2, .int l3, ci_junk] [] h nx (oI r nx) := by
  intro n
  induction n with
  | zero => intro l2 l3 h r H; unfold b_X9_letters_4 at H; cases H
  | succ n ih =>
    intro l2 l3 h r H
    unfold b_X9_letters_4 at H
    refine ev_go hc_X9_letters (k := 2) (pc' := 7) (L' := [.ref l0, .int l1, .int l2, .int l3, ci_junk]) (S' := [.int 6, .int l3]) rfl ?_
    by_cases c1 : 6 ≤ l3
    · rw [if_pos c1] at H
      refine ev_bt hc_X9_letters (fe_X9_letters (pc := 7) rfl) rfl c1 ?_
      refine ev_go hc_X9_letters (k := 1) (pc' := 74) (L' := [.ref l0, .int l1, .int l2, .int l3, ci_junk]) (S' := [.int l2]) rfl ?_
      obtain rfl := Option.some.inj H
      exact ev_8 hc_X9_letters (fe_X9_letters (pc := 74) rfl) rfl
    · rw [if_neg c1] at H
      refine ev_bf hc_X9_letters (fe_X9_letters (pc := 7) rfl) rfl c1 ?_
      refine ev_go hc_X9_letters (k := 1) (pc' := 11) (L' := [.ref l0, .int l1, .int l2, .int l3, ci_junk]) (S' := [.ref l0]) rfl ?_
      obtain ⟨q2, eq2, H⟩ := Option.bind_eq_some_iff.mp H
      refine ev_call (vs := [.ref l0]) (rest := []) (q := q_X9_peek) hc_X9_letters (Or.inr rfl) (fe_X9_letters (pc := 11) rfl) ms_53 rfl rfl (Nat.le_of_ble_eq_true rfl) (kO_recv (K_X9_peek eq2)) (E_X9_peek eq2 (by omega)) rfl ?_
      show Ev xs N (d + 1) 59 14 [.ref l0, .int l1, .int l2, .int l3, ci_junk] [.int q2.1] q2.2 nx _
      refine ev_go hc_X9_letters (k := 4) (pc' := 21) (L' := [.ref l0, .int l1, .int l2, .int l3, .int (q2.1 - 97)]) (S' := [.int (q2.1 - 97)]) rfl ?_
      by_cases c3 : (q2.1 - 97) < 0
      · rw [if_pos c3] at H
        refine ev_bt hc_X9_letters (fe_X9_letters (pc := 21) rfl) rfl c3 ?_
        refine ev_go hc_X9_letters (k := 1) (pc' := 74) (L' := [.ref l0, .int l1, .int l2, .int l3, .int (q2.1 - 97)]) (S' := [.int l2]) rfl ?_
        obtain rfl := Option.some.inj H
        exact ev_8 hc_X9_letters (fe_X9_letters (pc := 74) rfl) rfl
      · rw [if_neg c3] at H
        refine ev_bf hc_X9_letters (fe_X9_letters (pc := 21) rfl) rfl c3 ?_
        refine ev_go hc_X9_letters (k := 2) (pc' := 28) (L' := [.ref l0, .int l1, .int l2, .int l3, .int (q2.1 - 97)]) (S' := [.int 6, .int (q2.1 - 97)]) rfl ?_
        by_cases c4 : 6 ≤ (q2.1 - 97)
        · rw [if_pos c4] at H
          refine ev_bt hc_X9_letters (fe_X9_letters (pc := 28) rfl) rfl c4 ?_
          refine ev_go hc_X9_letters (k := 1) (pc' := 74) (L' := [.ref l0, .int l1, .int l2, .int l3, .int (q2.1 - 97)]) (S' := [.int l2]) rfl ?_
          obtain rfl := Option.some.inj H
          exact ev_8 hc_X9_letters (fe_X9_letters (pc := 74) rfl) rfl
        · rw [if_neg c4] at H
          refine ev_bf hc_X9_letters (fe_X9_letters (pc := 28) rfl) rfl c4 ?_
          refine ev_go hc_X9_letters (k := 3) (pc' := 35) (L' := [.ref l0, .int l1, .int l2, .int l3, .int (q2.1 - 97)]) (S' := [.int (l2 >>> ((q2.1 - 97) &&& 31))]) rfl ?_
          by_cases c5 : (l2 >>> ((q2.1 - 97) &&& 31)) = 0
          · rw [if_pos c5] at H
            refine ev_bt hc_X9_letters (fe_X9_letters (pc := 35) rfl) rfl c5 ?_
            refine ev_go hc_X9_letters (k := 5) (pc' := 44) (L' := [.ref l0, .int l1, .int l2, .int l3, .int (q2.1 - 97)]) (S' := [.int ((l1 >>> ((q2.1 - 97) &&& 31)) &&& 1)]) rfl ?_
            by_cases c6 : ((l1 >>> ((q2.1 - 97) &&& 31)) &&& 1) = 0
            · rw [if_pos c6] at H
              refine ev_bt hc_X9_letters (fe_X9_letters (pc := 44) rfl) rfl c6 ?_
              refine ev_go hc_X9_letters (k := 8) (pc' := 59) (L' := [.ref l0, .int l1, .int (l2 ||| ((1 : Int32) <<< ((q2.1 - 97) &&& 31))), .int l3, .int (q2.1 - 97)]) (S' := [.ref l0, .ref l0]) rfl ?_
              obtain ⟨v7, ev7, H⟩ := Option.bind_eq_some_iff.mp H
              refine ev_4 hc_X9_letters (fe_X9_letters (pc := 59) rfl) (gI_gf ev7) ?_
              refine ev_go hc_X9_letters (k := 2) (pc' := 64) (L' := [.ref l0, .int l1, .int (l2 ||| ((1 : Int32) <<< ((q2.1 - 97) &&& 31))), .int l3, .int (q2.1 - 97)]) (S' := [.int (v7 + 1), .ref l0]) rfl ?_
              obtain ⟨h8, eh8, H⟩ := Option.bind_eq_some_iff.mp H
              refine ev_5 hc_X9_letters (fe_X9_letters (pc := 64) rfl) (pF_pf eh8) ?_
              refine ev_go hc_X9_letters (k := 2) (pc' := 4) (L' := [.ref l0, .int l1, .int (l2 ||| ((1 : Int32) <<< ((q2.1 - 97) &&& 31))), .int (l3 + 1), .int (q2.1 - 97)]) (S' := []) rfl ?_
              exact Ev.weak (ci_le_c (Or.inr rfl) (ci_le_c (Or.inr rfl) (ci_le_c (Or.inr rfl) (ci_le_c (Or.inr rfl) (ci_le_c (Or.inl rfl) (ci_le_n)))))) (ih _ _ _ _ H)
            · rw [if_neg c6] at H
              refine ev_bf hc_X9_letters (fe_X9_letters (pc := 44) rfl) rfl c6 ?_
              refine ev_go hc_X9_letters (k := 2) (pc' := 74) (L' := [.ref l0, .int l1, .int l2, .int l3, .int (q2.1 - 97)]) (S' := [.int l2]) rfl ?_
              obtain rfl := Option.some.inj H
              exact ev_8 hc_X9_letters (fe_X9_letters (pc := 74) rfl) rfl
          · rw [if_neg c5] at H
            refine ev_bf hc_X9_letters (fe_X9_letters (pc := 35) rfl) rfl c5 ?_
            refine ev_go hc_X9_letters (k := 1) (pc' := 74) (L' := [.ref l0, .int l1, .int l2, .int l3, .int (q2.1 - 97)]) (S' := [.int l2]) rfl ?_
            obtain rfl := Option.some.inj H
            exact ev_8 hc_X9_letters (fe_X9_letters (pc := 74) rfl) rfl
def F_X9_letters (a0 : Nat) (a1 : Int32) (h : ci_H) : Option (Int32 × ci_H) := if kO h a0 = some 9 then (b_X9_letters_4 a0 a1 bigN 0 0 h) else none
theorem K_X9_letters {a0 : Nat} {a1 : Int32} {h : ci_H} {r : Int32 × ci_H} (H : F_X9_letters a0 a1 h = some r) : kO h a0 = some 9 := by
  unfold F_X9_letters at H
  by_cases c : kO h a0 = some 9
  · exact c
  · rw [if_neg c] at H; cases H
set_option maxHeartbeats 4000000 in
set_option maxRecDepth 20000 in
theorem E_X9_letters {xs : Nat → Int32} {N d : Nat} {nx : ci_N} {a0 : Nat} {a1 : Int32} {h : ci_H} {r : Int32 × ci_H} (H : F_X9_letters a0 a1 h = some r) (hd : 1 ≤ d) : Ev xs N d 59 0 (ci_entry [.ref a0, .int a1] 5) [] h nx (oI r nx) := by
  obtain ⟨d, rfl⟩ : ∃ d2, d = d2 + 1 := ⟨d - 1, by omega⟩
  have hd : 0 ≤ d := by omega
  unfold F_X9_letters at H
  by_cases ck : kO h a0 = some 9
  · rw [if_pos ck] at H
    show Ev xs N (d + 1) 59 0 [.ref a0, .int a1, ci_junk, ci_junk, ci_junk] [] h nx _
    refine ev_go hc_X9_letters (k := 4) (pc' := 4) (L' := [.ref a0, .int a1, .int 0, .int 0, ci_junk]) (S' := []) rfl ?_
    exact Ev.weak (ci_le_c (Or.inr rfl) (ci_le_c (Or.inr rfl) (ci_le_c (Or.inr rfl) (ci_le_c (Or.inr rfl) (ci_le_c (Or.inl rfl) (ci_le_n)))))) (eb_X9_letters_4 hd bigN _ _ _ _ H)
  · rw [if_neg ck] at H; cases H
