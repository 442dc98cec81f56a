theorem hc_X12_passes : ci_code (ci_Ms 185) = k_X12_passes := rfl
theorem fe_X12_passes {pc : Nat} {w : Option ci_I} (h : (k_X12_passes)[pc]? = some w) : (k_X12_passes)[pc]? = some w := h
def F_X12_passes (a0 : Nat) (a1 : Int32) (h : ci_H) : Option (Int32 × ci_H) := if kO h a0 = some 12 then ((F_X12_fine a0 h).bind fun q1 => if q1.1 = 0 then (some (0, q1.2)) else ((F_X12_here a0 q1.2).bind fun q3 => if q3.1 = a1 then ((gI q3.2 a0 12 15).bind fun v5 => (pF q3.2 a0 12 15 (.int (v5 + 1))).bind fun h6 => some (1, h6)) else (some (0, q3.2)))) else none
theorem K_X12_passes {a0 : Nat} {a1 : Int32} {h : ci_H} {r : Int32 × ci_H} (H : F_X12_passes a0 a1 h = some r) : kO h a0 = some 12 := by
  unfold F_X12_passes at H
  by_cases c : kO h a0 = some 12
  · exact c
  · rw [if_neg c] at H; cases H
set_option maxHeartbeats 4000000 in
set_option maxRecDepth 20000 in
theorem E_X12_passes {xs : Nat → Int32} {N d : Nat} {nx : ci_N} {a0 : Nat} {a1 : Int32} {h : ci_H} {r : Int32 × ci_H} (H : F_X12_passes a0 a1 h = some r) (hd : 1 ≤ d) : Ev xs N d 185 0 (ci_entry [.ref a0, .int a1] 2) [] h nx (oI r nx) := by
  obtain ⟨d, rfl⟩ : ∃ d2, d = d2 + 1 := ⟨d - 1, by omega⟩
  have hd : 0 ≤ d := by omega
  unfold F_X12_passes at H
  by_cases ck : kO h a0 = some 12
  · rw [if_pos ck] at H
    show Ev xs N (d + 1) 185 0 [.ref a0, .int a1] [] h nx _
    refine ev_go hc_X12_passes (k := 1) (pc' := 1) (L' := [.ref a0, .int a1]) (S' := [.ref a0]) rfl ?_
    obtain ⟨q1, eq1, H⟩ := Option.bind_eq_some_iff.mp H
    refine ev_call (vs := [.ref a0]) (rest := []) (q := q_X12_fine) hc_X12_passes (Or.inr rfl) (fe_X12_passes (pc := 1) rfl) ms_183 rfl rfl (Nat.le_of_ble_eq_true rfl) (kO_recv (K_X12_fine eq1)) (E_X12_fine eq1 (by omega)) rfl ?_
    show Ev xs N (d + 1) 185 4 [.ref a0, .int a1] [.int q1.1] q1.2 nx _
    by_cases c2 : q1.1 = 0
    · rw [if_pos c2] at H
      refine ev_bt hc_X12_passes (fe_X12_passes (pc := 4) rfl) rfl c2 ?_
      refine ev_go hc_X12_passes (k := 1) (pc' := 16) (L' := [.ref a0, .int a1]) (S' := [.int 0]) rfl ?_
      obtain rfl := Option.some.inj H
      exact ev_8z hc_X12_passes (fe_X12_passes (pc := 16) rfl) rfl (Or.inl rfl)
    · rw [if_neg c2] at H
      refine ev_bf hc_X12_passes (fe_X12_passes (pc := 4) rfl) rfl c2 ?_
      refine ev_go hc_X12_passes (k := 1) (pc' := 8) (L' := [.ref a0, .int a1]) (S' := [.ref a0]) rfl ?_
      obtain ⟨q3, eq3, H⟩ := Option.bind_eq_some_iff.mp H
      refine ev_call (vs := [.ref a0]) (rest := []) (q := q_X12_here) hc_X12_passes (Or.inr rfl) (fe_X12_passes (pc := 8) rfl) ms_182 rfl rfl (Nat.le_of_ble_eq_true rfl) (kO_recv (K_X12_here eq3)) (E_X12_here eq3 (by omega)) rfl ?_
      show Ev xs N (d + 1) 185 11 [.ref a0, .int a1] [.int q3.1] q3.2 nx _
      refine ev_go hc_X12_passes (k := 1) (pc' := 12) (L' := [.ref a0, .int a1]) (S' := [.int a1, .int q3.1]) rfl ?_
      by_cases c4 : q3.1 = a1
      · rw [if_pos c4] at H
        refine ev_bt hc_X12_passes (fe_X12_passes (pc := 12) rfl) rfl c4 ?_
        refine ev_go hc_X12_passes (k := 2) (pc' := 19) (L' := [.ref a0, .int a1]) (S' := [.ref a0, .ref a0]) rfl ?_
        obtain ⟨v5, ev5, H⟩ := Option.bind_eq_some_iff.mp H
        refine ev_4 hc_X12_passes (fe_X12_passes (pc := 19) rfl) (gI_gf ev5) ?_
        refine ev_go hc_X12_passes (k := 2) (pc' := 24) (L' := [.ref a0, .int a1]) (S' := [.int (v5 + 1), .ref a0]) rfl ?_
        obtain ⟨h6, eh6, H⟩ := Option.bind_eq_some_iff.mp H
        refine ev_5 hc_X12_passes (fe_X12_passes (pc := 24) rfl) (pF_pf eh6) ?_
        refine ev_go hc_X12_passes (k := 1) (pc' := 28) (L' := [.ref a0, .int a1]) (S' := [.int 1]) rfl ?_
        obtain rfl := Option.some.inj H
        exact ev_8z hc_X12_passes (fe_X12_passes (pc := 28) rfl) rfl (Or.inr rfl)
      · rw [if_neg c4] at H
        refine ev_bf hc_X12_passes (fe_X12_passes (pc := 12) rfl) rfl c4 ?_
        refine ev_go hc_X12_passes (k := 1) (pc' := 16) (L' := [.ref a0, .int a1]) (S' := [.int 0]) rfl ?_
        obtain rfl := Option.some.inj H
        exact ev_8z hc_X12_passes (fe_X12_passes (pc := 16) rfl) rfl (Or.inl rfl)
  · rw [if_neg ck] at H; cases H
theorem hc_X12_need : ci_code (ci_Ms 186) = k_X12_need := rfl
theorem fe_X12_need {pc : Nat} {w : Option ci_I} (h : (k_X12_need)[pc]? = some w) : (k_X12_need)[pc]? = some w := h
def F_X12_need (a0 : Nat) (a1 : Int32) (h : ci_H) : Option (ci_H) := if kO h a0 = some 12 then ((F_X12_passes a0 a1 h).bind fun q1 => if q1.1 = 0 then ((gI q1.2 a0 12 15).bind fun v3 => (F_X12_fault a0 v3 q1.2).bind fun h4 => some h4) else (some q1.2)) else none
theorem K_X12_need {a0 : Nat} {a1 : Int32} {h : ci_H} {r : ci_H} (H : F_X12_need a0 a1 h = some r) : kO h a0 = some 12 := by
  unfold F_X12_need at H
  by_cases c : kO h a0 = some 12
  · exact c
  · rw [if_neg c] at H; cases H
set_option maxHeartbeats 4000000 in
set_option maxRecDepth 20000 in
theorem E_X12_need {xs : Nat → Int32} {N d : Nat} {nx : ci_N} {a0 : Nat} {a1 : Int32} {h : ci_H} {r : ci_H} (H : F_X12_need a0 a1 h = some r) (hd : 2 ≤ d) : Ev xs N d 186 0 (ci_entry [.ref a0, .int a1] 2) [] h nx (oV r nx) := by
  obtain ⟨d, rfl⟩ : ∃ d2, d = d2 + 1 := ⟨d - 1, by omega⟩
  have hd : 1 ≤ d := by omega
  unfold F_X12_need at H
  by_cases ck : kO h a0 = some 12
  · rw [if_pos ck] at H
    show Ev xs N (d + 1) 186 0 [.ref a0, .int a1] [] h nx _
    refine ev_go hc_X12_need (k := 2) (pc' := 2) (L' := [.ref a0, .int a1]) (S' := [.int a1, .ref a0]) rfl ?_
    obtain ⟨q1, eq1, H⟩ := Option.bind_eq_some_iff.mp H
    refine ev_call (vs := [.ref a0, .int a1]) (rest := []) (q := q_X12_passes) hc_X12_need (Or.inr rfl) (fe_X12_need (pc := 2) rfl) ms_185 rfl rfl (Nat.le_of_ble_eq_true rfl) (kO_recv (K_X12_passes eq1)) (E_X12_passes eq1 (by omega)) rfl ?_
    show Ev xs N (d + 1) 186 5 [.ref a0, .int a1] [.int q1.1] q1.2 nx _
    by_cases c2 : q1.1 = 0
    · rw [if_pos c2] at H
      refine ev_bt hc_X12_need (fe_X12_need (pc := 5) rfl) rfl c2 ?_
      refine ev_go hc_X12_need (k := 2) (pc' := 10) (L' := [.ref a0, .int a1]) (S' := [.ref a0, .ref a0]) rfl ?_
      obtain ⟨v3, ev3, H⟩ := Option.bind_eq_some_iff.mp H
      refine ev_4 hc_X12_need (fe_X12_need (pc := 10) rfl) (gI_gf ev3) ?_
      obtain ⟨h4, eh4, H⟩ := Option.bind_eq_some_iff.mp H
      refine ev_call (vs := [.ref a0, .int v3]) (rest := []) (q := q_X12_fault) hc_X12_need (Or.inr rfl) (fe_X12_need (pc := 13) rfl) ms_184 rfl rfl (Nat.le_of_ble_eq_true rfl) (kO_recv (K_X12_fault eh4)) (E_X12_fault eh4 (by omega)) rfl ?_
      show Ev xs N (d + 1) 186 16 [.ref a0, .int a1] [] h4 nx _
      obtain rfl := Option.some.inj H
      exact ev_8 hc_X12_need (fe_X12_need (pc := 16) rfl) rfl
    · rw [if_neg c2] at H
      refine ev_bf hc_X12_need (fe_X12_need (pc := 5) rfl) rfl c2 ?_
      obtain rfl := Option.some.inj H
      exact ev_8 hc_X12_need (fe_X12_need (pc := 16) rfl) rfl
  · rw [if_neg ck] at H; cases H
theorem hc_X12_oneOf : ci_code (ci_Ms 187) = k_X12_oneOf := rfl
theorem fe_X12_oneOf {pc : Nat} {w : Option ci_I} (h : (k_X12_oneOf)[pc]? = some w) : (k_X12_oneOf)[pc]? = some w := h
def F_X12_oneOf (a0 : Nat) (a1 : Int32) (a2 : Int32) (h : ci_H) : Option (Int32 × ci_H) := if kO h a0 = some 12 then ((F_X12_fine a0 h).bind fun q1 => if q1.1 = 0 then (some (0, q1.2)) else ((F_X12_here a0 q1.2).bind fun q3 => (F_X12_in q3.1 a1 ((a1 + a2) - 1) q3.2).bind fun q4 => if q4.1 = 0 then ((gI q4.2 a0 12 15).bind fun v6 => (F_X12_fault a0 v6 q4.2).bind fun h7 => some (0, h7)) else ((gI q4.2 a0 12 15).bind fun v8 => (pF q4.2 a0 12 15 (.int (v8 + 1))).bind fun h9 => (gR h9 a0 12 12).bind fun v10 => (gI h9 a0 12 15).bind fun v11 => (rB h9 v10 (v11 - 1)).bind fun v12 => some (v12 - a1, h9)))) else none
theorem K_X12_oneOf {a0 : Nat} {a1 : Int32} {a2 : Int32} {h : ci_H} {r : Int32 × ci_H} (H : F_X12_oneOf a0 a1 a2 h = some r) : kO h a0 = some 12 := by
  unfold F_X12_oneOf at H
  by_cases c : kO h a0 = some 12
  · exact c
  · rw [if_neg c] at H; cases H
set_option maxHeartbeats 4000000 in
set_option maxRecDepth 20000 in
theorem E_X12_oneOf {xs : Nat → Int32} {N d : Nat} {nx : ci_N} {a0 : Nat} {a1 : Int32} {a2 : Int32} {h : ci_H} {r : Int32 × ci_H} (H : F_X12_oneOf a0 a1 a2 h = some r) (hd : 2 ≤ d) : Ev xs N d 187 0 (ci_entry [.ref a0, .int a1, .int a2] 3) [] h nx (oI r nx) := by
  obtain ⟨d, rfl⟩ : ∃ d2, d = d2 + 1 := ⟨d - 1, by omega⟩
  have hd : 1 ≤ d := by omega
  unfold F_X12_oneOf at H
  by_cases ck : kO h a0 = some 12
  · rw [if_pos ck] at H
    show Ev xs N (d + 1) 187 0 [.ref a0, .int a1, .int a2] [] h nx _
    refine ev_go hc_X12_oneOf (k := 1) (pc' := 1) (L' := [.ref a0, .int a1, .int a2]) (S' := [.ref a0]) rfl ?_
    obtain ⟨q1, eq1, H⟩ := Option.bind_eq_some_iff.mp H
    refine ev_call (vs := [.ref a0]) (rest := []) (q := q_X12_fine) hc_X12_oneOf (Or.inr rfl) (fe_X12_oneOf (pc := 1) rfl) ms_183 rfl rfl (Nat.le_of_ble_eq_true rfl) (kO_recv (K_X12_fine eq1)) (E_X12_fine eq1 (by omega)) rfl ?_
    show Ev xs N (d + 1) 187 4 [.ref a0, .int a1, .int a2] [.int q1.1] q1.2 nx _
    by_cases c2 : q1.1 = 0
    · rw [if_pos c2] at H
      refine ev_bt hc_X12_oneOf (fe_X12_oneOf (pc := 4) rfl) rfl c2 ?_
      refine ev_go hc_X12_oneOf (k := 1) (pc' := 8) (L' := [.ref a0, .int a1, .int a2]) (S' := [.int 0]) rfl ?_
      obtain rfl := Option.some.inj H
      exact ev_8 hc_X12_oneOf (fe_X12_oneOf (pc := 8) rfl) rfl
    · rw [if_neg c2] at H
      refine ev_bf hc_X12_oneOf (fe_X12_oneOf (pc := 4) rfl) rfl c2 ?_
      refine ev_go hc_X12_oneOf (k := 1) (pc' := 10) (L' := [.ref a0, .int a1, .int a2]) (S' := [.ref a0]) rfl ?_
      obtain ⟨q3, eq3, H⟩ := Option.bind_eq_some_iff.mp H
      refine ev_call (vs := [.ref a0]) (rest := []) (q := q_X12_here) hc_X12_oneOf (Or.inr rfl) (fe_X12_oneOf (pc := 10) rfl) ms_182 rfl rfl (Nat.le_of_ble_eq_true rfl) (kO_recv (K_X12_here eq3)) (E_X12_here eq3 (by omega)) rfl ?_
      show Ev xs N (d + 1) 187 13 [.ref a0, .int a1, .int a2] [.int q3.1] q3.2 nx _
      refine ev_go hc_X12_oneOf (k := 6) (pc' := 19) (L' := [.ref a0, .int a1, .int a2]) (S' := [.int ((a1 + a2) - 1), .int a1, .int q3.1]) rfl ?_
      obtain ⟨q4, eq4, H⟩ := Option.bind_eq_some_iff.mp H
      refine ev_call (vs := [.int q3.1, .int a1, .int ((a1 + a2) - 1)]) (rest := []) (q := q_X12_in) hc_X12_oneOf (Or.inl rfl) (fe_X12_oneOf (pc := 19) rfl) ms_170 rfl rfl (Nat.le_of_ble_eq_true rfl) rfl (E_X12_in eq4 (by omega)) rfl ?_
      show Ev xs N (d + 1) 187 22 [.ref a0, .int a1, .int a2] [.int q4.1] q4.2 nx _
      by_cases c5 : q4.1 = 0
      · rw [if_pos c5] at H
        refine ev_bt hc_X12_oneOf (fe_X12_oneOf (pc := 22) rfl) rfl c5 ?_
        refine ev_go hc_X12_oneOf (k := 2) (pc' := 27) (L' := [.ref a0, .int a1, .int a2]) (S' := [.ref a0, .ref a0]) rfl ?_
        obtain ⟨v6, ev6, H⟩ := Option.bind_eq_some_iff.mp H
        refine ev_4 hc_X12_oneOf (fe_X12_oneOf (pc := 27) rfl) (gI_gf ev6) ?_
        obtain ⟨h7, eh7, H⟩ := Option.bind_eq_some_iff.mp H
        refine ev_call (vs := [.ref a0, .int v6]) (rest := []) (q := q_X12_fault) hc_X12_oneOf (Or.inr rfl) (fe_X12_oneOf (pc := 30) rfl) ms_184 rfl rfl (Nat.le_of_ble_eq_true rfl) (kO_recv (K_X12_fault eh7)) (E_X12_fault eh7 (by omega)) rfl ?_
        show Ev xs N (d + 1) 187 33 [.ref a0, .int a1, .int a2] [] h7 nx _
        refine ev_go hc_X12_oneOf (k := 1) (pc' := 34) (L' := [.ref a0, .int a1, .int a2]) (S' := [.int 0]) rfl ?_
        obtain rfl := Option.some.inj H
        exact ev_8 hc_X12_oneOf (fe_X12_oneOf (pc := 34) rfl) rfl
      · rw [if_neg c5] at H
        refine ev_bf hc_X12_oneOf (fe_X12_oneOf (pc := 22) rfl) rfl c5 ?_
        refine ev_go hc_X12_oneOf (k := 2) (pc' := 37) (L' := [.ref a0, .int a1, .int a2]) (S' := [.ref a0, .ref a0]) rfl ?_
        obtain ⟨v8, ev8, H⟩ := Option.bind_eq_some_iff.mp H
        refine ev_4 hc_X12_oneOf (fe_X12_oneOf (pc := 37) rfl) (gI_gf ev8) ?_
        refine ev_go hc_X12_oneOf (k := 2) (pc' := 42) (L' := [.ref a0, .int a1, .int a2]) (S' := [.int (v8 + 1), .ref a0]) rfl ?_
        obtain ⟨h9, eh9, H⟩ := Option.bind_eq_some_iff.mp H
        refine ev_5 hc_X12_oneOf (fe_X12_oneOf (pc := 42) rfl) (pF_pf eh9) ?_
        refine ev_go hc_X12_oneOf (k := 1) (pc' := 46) (L' := [.ref a0, .int a1, .int a2]) (S' := [.ref a0]) rfl ?_
        obtain ⟨v10, ev10, H⟩ := Option.bind_eq_some_iff.mp H
        refine ev_4 hc_X12_oneOf (fe_X12_oneOf (pc := 46) rfl) (gR_gf ev10) ?_
        refine ev_go hc_X12_oneOf (k := 1) (pc' := 50) (L' := [.ref a0, .int a1, .int a2]) (S' := [.ref a0, .ref v10]) rfl ?_
        obtain ⟨v11, ev11, H⟩ := Option.bind_eq_some_iff.mp H
        refine ev_4 hc_X12_oneOf (fe_X12_oneOf (pc := 50) rfl) (gI_gf ev11) ?_
        refine ev_go hc_X12_oneOf (k := 2) (pc' := 55) (L' := [.ref a0, .int a1, .int a2]) (S' := [.int (v11 - 1), .ref v10]) rfl ?_
        obtain ⟨v12, ev12, H⟩ := Option.bind_eq_some_iff.mp H
        refine ev_4 hc_X12_oneOf (fe_X12_oneOf (pc := 55) rfl) (rB_al ev12) ?_
        refine ev_go hc_X12_oneOf (k := 2) (pc' := 58) (L' := [.ref a0, .int a1, .int a2]) (S' := [.int (v12 - a1)]) rfl ?_
        obtain rfl := Option.some.inj H
        exact ev_8 hc_X12_oneOf (fe_X12_oneOf (pc := 58) rfl) rfl
  · rw [if_neg ck] at H; cases H
theorem hc_X12_number : ci_code (ci_Ms 188) = k_X12_number := rfl
theorem fe_X12_number {pc : Nat} {w : Option ci_I} (h : (k_X12_number)[pc]? = some w) : (k_X12_number)[pc]? = some w := h
def b_X12_number_11 (l0 : Nat) (l1 : Int32) : Nat → Int32 → Int32 → ci_H → Option (Int32 × ci_H)
  | 0, _, _, _ => none
  | n + 1, l2, l3, h => if l1 ≤ l3 then (some (l2, h)) else ((F_X12_fine l0 h).bind fun q2 => if q2.1 = 0 then (some (l2, q2.2)) else ((F_X12_here l0 q2.2).bind fun q4 => (F_X12_in q4.1 48 57 q4.2).bind fun q5 => if q5.1 = 0 then (some (l2, q5.2)) else ((F_X12_oneOf l0 48 10 q5.2).bind fun q7 => b_X12_number_11 l0 l1 n ((10 * l2) + q7.1) (l3 + 1) q7.2)))
set_option maxHeartbeats 4000000 in
set_option maxRecDepth 20000 in
theorem eb_X12_number_11 {xs : Nat → Int32} {N d : Nat} {nx : ci_N} {l0 : Nat} {l1 : Int32} (hd : 2 ≤ d) : ∀ (n : Nat) (l2 : Int32) (l3 : Int32) (h : ci_H) (r : Int32 × ci_H), b_X12_number_11 l0 l1 n l2 l3 h = some r → Ev xs N (d + 1) 188 11 [.ref l0, .int l1, .int l2, .int l3] [] h nx (oI r nx) := by
  intro n
  induction n with
  | zero => intro l2 l3 h r H; unfold b_X12_number_11 at H; cases H
  | succ n ih =>
    intro l2 l3 h r H
    unfold b_X12_number_11 at H
    refine ev_go hc_X12_number (k := 2) (pc' := 13) (L' := [.ref l0, .int l1, .int l2, .int l3]) (S' := [.int l1, .int l3]) rfl ?_
    by_cases c1 : l1 ≤ l3
    · rw [if_pos c1] at H
      refine ev_bt hc_X12_number (fe_X12_number (pc := 13) rfl) rfl c1 ?_
      refine ev_go hc_X12_number (k := 1) (pc' := 58) (L' := [.ref l0, .int l1, .int l2, .int l3]) (S' := [.int l2]) rfl ?_
      obtain rfl := Option.some.inj H
      exact ev_8 hc_X12_number (fe_X12_number (pc := 58) rfl) rfl
    · rw [if_neg c1] at H
      refine ev_bf hc_X12_number (fe_X12_number (pc := 13) rfl) rfl c1 ?_
      refine ev_go hc_X12_number (k := 1) (pc' := 17) (L' := [.ref l0, .int l1, .int l2, .int l3]) (S' := [.ref l0]) rfl ?_
      obtain ⟨q2, eq2, H⟩ := Option.bind_eq_some_iff.mp H
      refine ev_call (vs := [.ref l0]) (rest := []) (q := q_X12_fine) hc_X12_number (Or.inr rfl) (fe_X12_number (pc := 17) rfl) ms_183 rfl rfl (Nat.le_of_ble_eq_true rfl) (kO_recv (K_X12_fine eq2)) (E_X12_fine eq2 (by omega)) rfl ?_
      show Ev xs N (d + 1) 188 20 [.ref l0, .int l1, .int l2, .int l3] [.int q2.1] q2.2 nx _
      by_cases c3 : q2.1 = 0
      · rw [if_pos c3] at H
        refine ev_bt hc_X12_number (fe_X12_number (pc := 20) rfl) rfl c3 ?_
        refine ev_go hc_X12_number (k := 1) (pc' := 58) (L' := [.ref l0, .int l1, .int l2, .int l3]) (S' := [.int l2]) rfl ?_
        obtain rfl := Option.some.inj H
        exact ev_8 hc_X12_number (fe_X12_number (pc := 58) rfl) rfl
      · rw [if_neg c3] at H
        refine ev_bf hc_X12_number (fe_X12_number (pc := 20) rfl) rfl c3 ?_
        refine ev_go hc_X12_number (k := 1) (pc' := 24) (L' := [.ref l0, .int l1, .int l2, .int l3]) (S' := [.ref l0]) rfl ?_
        obtain ⟨q4, eq4, H⟩ := Option.bind_eq_some_iff.mp H
        refine ev_call (vs := [.ref l0]) (rest := []) (q := q_X12_here) hc_X12_number (Or.inr rfl) (fe_X12_number (pc := 24) rfl) ms_182 rfl rfl (Nat.le_of_ble_eq_true rfl) (kO_recv (K_X12_here eq4)) (E_X12_here eq4 (by omega)) rfl ?_
        show Ev xs N (d + 1) 188 27 [.ref l0, .int l1, .int l2, .int l3] [.int q4.1] q4.2 nx _
        refine ev_go hc_X12_number (k := 2) (pc' := 31) (L' := [.ref l0, .int l1, .int l2, .int l3]) (S' := [.int 57, .int 48, .int q4.1]) rfl ?_
        obtain ⟨q5, eq5, H⟩ := Option.bind_eq_some_iff.mp H
        refine ev_call (vs := [.int q4.1, .int 48, .int 57]) (rest := []) (q := q_X12_in) hc_X12_number (Or.inl rfl) (fe_X12_number (pc := 31) rfl) ms_170 rfl rfl (Nat.le_of_ble_eq_true rfl) rfl (E_X12_in eq5 (by omega)) rfl ?_
        show Ev xs N (d + 1) 188 34 [.ref l0, .int l1, .int l2, .int l3] [.int q5.1] q5.2 nx _
        by_cases c6 : q5.1 = 0
        · rw [if_pos c6] at H
          refine ev_bt hc_X12_number (fe_X12_number (pc := 34) rfl) rfl c6 ?_
          refine ev_go hc_X12_number (k := 1) (pc' := 58) (L' := [.ref l0, .int l1, .int l2, .int l3]) (S' := [.int l2]) rfl ?_
          obtain rfl := Option.some.inj H
          exact ev_8 hc_X12_number (fe_X12_number (pc := 58) rfl) rfl
        · rw [if_neg c6] at H
          refine ev_bf hc_X12_number (fe_X12_number (pc := 34) rfl) rfl c6 ?_
          refine ev_go hc_X12_number (k := 6) (pc' := 46) (L' := [.ref l0, .int l1, .int l2, .int l3]) (S' := [.int 10, .int 48, .ref l0, .int (10 * l2)]) rfl ?_
          obtain ⟨q7, eq7, H⟩ := Option.bind_eq_some_iff.mp H
          refine ev_call (vs := [.ref l0, .int 48, .int 10]) (rest := [.int (10 * l2)]) (q := q_X12_oneOf) hc_X12_number (Or.inr rfl) (fe_X12_number (pc := 46) rfl) ms_187 rfl rfl (Nat.le_of_ble_eq_true rfl) (kO_recv (K_X12_oneOf eq7)) (E_X12_oneOf eq7 (by omega)) rfl ?_
          show Ev xs N (d + 1) 188 49 [.ref l0, .int l1, .int l2, .int l3] [.int q7.1, .int (10 * l2)] q7.2 nx _
          refine ev_go hc_X12_number (k := 4) (pc' := 11) (L' := [.ref l0, .int l1, .int ((10 * l2) + q7.1), .int (l3 + 1)]) (S' := []) rfl ?_
          exact Ev.weak (ci_le_c (Or.inr rfl) (ci_le_c (Or.inr rfl) (ci_le_c (Or.inr rfl) (ci_le_c (Or.inr rfl) (ci_le_n))))) (ih _ _ _ _ H)
def F_X12_number (a0 : Nat) (a1 : Int32) (h : ci_H) : Option (Int32 × ci_H) := if kO h a0 = some 12 then ((F_X12_oneOf a0 48 10 h).bind fun q1 => b_X12_number_11 a0 a1 bigN q1.1 1 q1.2) else none
theorem K_X12_number {a0 : Nat} {a1 : Int32} {h : ci_H} {r : Int32 × ci_H} (H : F_X12_number a0 a1 h = some r) : kO h a0 = some 12 := by
  unfold F_X12_number at H
  by_cases c : kO h a0 = some 12
  · exact c
  · rw [if_neg c] at H; cases H
set_option maxHeartbeats 4000000 in
set_option maxRecDepth 20000 in
theorem E_X12_number {xs : Nat → Int32} {N d : Nat} {nx : ci_N} {a0 : Nat} {a1 : Int32} {h : ci_H} {r : Int32 × ci_H} (H : F_X12_number a0 a1 h = some r) (hd : 3 ≤ d) : Ev xs N d 188 0 (ci_entry [.ref a0, .int a1] 4) [] h nx (oI r nx) := by
  obtain ⟨d, rfl⟩ : ∃ d2, d = d2 + 1 := ⟨d - 1, by omega⟩
  have hd : 2 ≤ d := by omega
  unfold F_X12_number at H
  by_cases ck : kO h a0 = some 12
  · rw [if_pos ck] at H
    show Ev xs N (d + 1) 188 0 [.ref a0, .int a1, ci_junk, ci_junk] [] h nx _
    refine ev_go hc_X12_number (k := 3) (pc' := 5) (L' := [.ref a0, .int a1, ci_junk, ci_junk]) (S' := [.int 10, .int 48, .ref a0]) rfl ?_
    obtain ⟨q1, eq1, H⟩ := Option.bind_eq_some_iff.mp H
    refine ev_call (vs := [.ref a0, .int 48, .int 10]) (rest := []) (q := q_X12_oneOf) hc_X12_number (Or.inr rfl) (fe_X12_number (pc := 5) rfl) ms_187 rfl rfl (Nat.le_of_ble_eq_true rfl) (kO_recv (K_X12_oneOf eq1)) (E_X12_oneOf eq1 (by omega)) rfl ?_
    show Ev xs N (d + 1) 188 8 [.ref a0, .int a1, ci_junk, ci_junk] [.int q1.1] q1.2 nx _
    refine ev_go hc_X12_number (k := 3) (pc' := 11) (L' := [.ref a0, .int a1, .int q1.1, .int 1]) (S' := []) rfl ?_
    exact Ev.weak (ci_le_c (Or.inr rfl) (ci_le_c (Or.inr rfl) (ci_le_c (Or.inr rfl) (ci_le_c (Or.inr rfl) (ci_le_n))))) (eb_X12_number_11 hd bigN _ _ _ _ H)
  · rw [if_neg ck] at H; cases H
theorem hc_X12_wasRight : ci_code (ci_Ms 189) = k_X12_wasRight := rfl
theorem fe_X12_wasRight {pc : Nat} {w : Option ci_I} (h : (k_X12_wasRight)[pc]? = some w) : (k_X12_wasRight)[pc]? = some w := h
def b_X12_wasRight_19 (l0 : Nat)  (h : ci_H) : Option (Int32 × ci_H) := (F_X12_fine l0 h).bind fun q1 => if q1.1 = 0 ∨ q1.1 = 1 then some (q1.1, q1.2) else none
set_option maxHeartbeats 4000000 in
set_option maxRecDepth 20000 in
theorem eb_X12_wasRight_19 {xs : Nat → Int32} {N d : Nat} {nx : ci_N} {l0 : Nat} (hd : 1 ≤ d) {h : ci_H} {r : Int32 × ci_H} (H : b_X12_wasRight_19 l0 h = some r) : Ev xs N (d + 1) 189 19 [.ref l0] [] h nx (oI r nx) := by
  unfold b_X12_wasRight_19 at H
  refine ev_go hc_X12_wasRight (k := 1) (pc' := 20) (L' := [.ref l0]) (S' := [.ref l0]) rfl ?_
  obtain ⟨q1, eq1, H⟩ := Option.bind_eq_some_iff.mp H
  refine ev_call (vs := [.ref l0]) (rest := []) (q := q_X12_fine) hc_X12_wasRight (Or.inr rfl) (fe_X12_wasRight (pc := 20) rfl) ms_183 rfl rfl (Nat.le_of_ble_eq_true rfl) (kO_recv (K_X12_fine eq1)) (E_X12_fine eq1 (by omega)) rfl ?_
  show Ev xs N (d + 1) 189 23 [.ref l0] [.int q1.1] q1.2 nx _
  by_cases c2 : q1.1 = 0 ∨ q1.1 = 1
  · rw [if_pos c2] at H
    obtain rfl := Option.some.inj H
    exact ev_8z hc_X12_wasRight (fe_X12_wasRight (pc := 23) rfl) rfl c2
  · rw [if_neg c2] at H
    cases H
def F_X12_wasRight (a0 : Nat) (h : ci_H) : Option (Int32 × ci_H) := if kO h a0 = some 12 then ((gI h a0 12 15).bind fun v1 => (gI h a0 12 13).bind fun v2 => if v2 ≤ v1 then (b_X12_wasRight_19 a0 h) else ((gI h a0 12 15).bind fun v4 => (F_X12_fault a0 v4 h).bind fun h5 => b_X12_wasRight_19 a0 h5)) else none
theorem K_X12_wasRight {a0 : Nat} {h : ci_H} {r : Int32 × ci_H} (H : F_X12_wasRight a0 h = some r) : kO h a0 = some 12 := by
  unfold F_X12_wasRight at H
  by_cases c : kO h a0 = some 12
  · exact c
  · rw [if_neg c] at H; cases H
set_option maxHeartbeats 4000000 in
set_option maxRecDepth 20000 in
theorem E_X12_wasRight {xs : Nat → Int32} {N d : Nat} {nx : ci_N} {a0 : Nat} {h : ci_H} {r : Int32 × ci_H} (H : F_X12_wasRight a0 h = some r) (hd : 2 ≤ d) : Ev xs N d 189 0 (ci_entry [.ref a0] 1) [] h nx (oI r nx) := by
  obtain ⟨d, rfl⟩ : ∃ d2, d = d2 + 1 := ⟨d - 1, by omega⟩
  have hd : 1 ≤ d := by omega
  unfold F_X12_wasRight at H
  by_cases ck : kO h a0 = some 12
  · rw [if_pos ck] at H
    show Ev xs N (d + 1) 189 0 [.ref a0] [] h nx _
    refine ev_go hc_X12_wasRight (k := 1) (pc' := 1) (L' := [.ref a0]) (S' := [.ref a0]) rfl ?_
    obtain ⟨v1, ev1, H⟩ := Option.bind_eq_some_iff.mp H
    refine ev_4 hc_X12_wasRight (fe_X12_wasRight (pc := 1) rfl) (gI_gf ev1) ?_
    refine ev_go hc_X12_wasRight (k := 1) (pc' := 5) (L' := [.ref a0]) (S' := [.ref a0, .int v1]) rfl ?_
    obtain ⟨v2, ev2, H⟩ := Option.bind_eq_some_iff.mp H
    refine ev_4 hc_X12_wasRight (fe_X12_wasRight (pc := 5) rfl) (gI_gf ev2) ?_
    by_cases c3 : v2 ≤ v1
    · rw [if_pos c3] at H
      refine ev_bt hc_X12_wasRight (fe_X12_wasRight (pc := 8) rfl) rfl c3 ?_
      exact Ev.weak (ci_le_c (Or.inr rfl) (ci_le_n)) (eb_X12_wasRight_19 hd H)
    · rw [if_neg c3] at H
      refine ev_bf hc_X12_wasRight (fe_X12_wasRight (pc := 8) rfl) rfl c3 ?_
      refine ev_go hc_X12_wasRight (k := 2) (pc' := 13) (L' := [.ref a0]) (S' := [.ref a0, .ref a0]) rfl ?_
      obtain ⟨v4, ev4, H⟩ := Option.bind_eq_some_iff.mp H
      refine ev_4 hc_X12_wasRight (fe_X12_wasRight (pc := 13) rfl) (gI_gf ev4) ?_
      obtain ⟨h5, eh5, H⟩ := Option.bind_eq_some_iff.mp H
      refine ev_call (vs := [.ref a0, .int v4]) (rest := []) (q := q_X12_fault) hc_X12_wasRight (Or.inr rfl) (fe_X12_wasRight (pc := 16) rfl) ms_184 rfl rfl (Nat.le_of_ble_eq_true rfl) (kO_recv (K_X12_fault eh5)) (E_X12_fault eh5 (by omega)) rfl ?_
      show Ev xs N (d + 1) 189 19 [.ref a0] [] h5 nx _
      exact Ev.weak (ci_le_c (Or.inr rfl) (ci_le_n)) (eb_X12_wasRight_19 hd H)
  · rw [if_neg ck] at H; cases H
theorem hc_X12_letters : ci_code (ci_Ms 190) = k_X12_letters := rfl
theorem fe_X12_letters {pc : Nat} {w : Option ci_I} (h : (k_X12_letters)[pc]? = some w) : (k_X12_letters)[pc]? = some w := h
def b_X12_letters_97 (r_5 : Int32 → Int32 → ci_H → Option (Int32 × ci_H)) (l0 : Nat) (l1 : Int32) (l2 : Int32) (l3 : Int32) (l4 : Int32)  (h : ci_H) : Option (Int32 × ci_H) := r_5 l3 l4 h
set_option maxHeartbeats 4000000 in
set_option maxRecDepth 20000 in
theorem eb_X12_letters_97 {xs : Nat → Int32} {N d : Nat} {nx : ci_N} {r_5 : Int32 → Int32 → ci_H → Option (Int32 × ci_H)} {l0 : Nat} {l1 : Int32} {l2 : Int32} {l3 : Int32} {l4 : Int32} (hd : 1 ≤ d) (h_5 : ∀ (l3 : Int32) (l4 : Int32) (h : ci_H) (r : Int32 × ci_H), r_5 l3 l4 h = some r → Ev xs N (d + 1) 190 5 [.ref l0, .int l1, .int l2, .int l3, .int l4, ci_junk] [] h nx (oI r nx)) {h : ci_H} {r : Int32 × ci_H} (H : b_X12_letters_97 r_5 l0 l1 l2 l3 l4 h = some r) : Ev xs N (d + 1) 190 97 [.ref l0, .int l1, .int l2, .int l3, .int l4, ci_junk] [] h nx (oI r nx) := by
  unfold b_X12_letters_97 at H
  refine ev_go hc_X12_letters (k := 1) (pc' := 5) (L' := [.ref l0, .int l1, .int l2, .int l3, .int l4, ci_junk]) (S' := []) rfl ?_
  exact Ev.weak (ci_le_c (Or.inr rfl) (ci_le_c (Or.inr rfl) (ci_le_c (Or.inr rfl) (ci_le_c (Or.inr rfl) (ci_le_c (Or.inr rfl) (ci_le_c (Or.inl rfl) (ci_le_n))))))) (h_5 _ _ _ _ H)
def b_X12_letters_65 (r_5 : Int32 → Int32 → ci_H → Option (Int32 × ci_H)) (l0 : Nat) (l1 : Int32) (l2 : Int32) (l3 : Int32) (l4 : Int32)  (h : ci_H) : Option (Int32 × ci_H) := (gI h l0 12 15).bind fun v1 => (F_X12_fault l0 v1 h).bind fun h2 => b_X12_letters_97 r_5 l0 l1 l2 l3 l4 h2
set_option maxHeartbeats 4000000 in
set_option maxRecDepth 20000 in
theorem eb_X12_letters_65 {xs : Nat → Int32} {N d : Nat} {nx : ci_N} {r_5 : Int32 → Int32 → ci_H → Option (Int32 × ci_H)} {l0 : Nat} {l1 : Int32} {l2 : Int32} {l3 : Int32} {l4 : Int32} (hd : 1 ≤ d) (h_5 : ∀ (l3 : Int32) (l4 : Int32) (h : ci_H) (r : Int32 × ci_H), r_5 l3 l4 h = some r → Ev xs N (d + 1) 190 5 [.ref l0, .int l1, .int l2, .int l3, .int l4, ci_junk] [] h nx (oI r nx)) {h : ci_H} {r : Int32 × ci_H} (H : b_X12_letters_65 r_5 l0 l1 l2 l3 l4 h = some r) : Ev xs N (d + 1) 190 65 [.ref l0, .int l1, .int l2, .int l3, .int l4, ci_junk] [] h nx (oI r nx) := by
  unfold b_X12_letters_65 at H
  refine ev_go hc_X12_letters (k := 2) (pc' := 67) (L' := [.ref l0, .int l1, .int l2, .int l3, .int l4, ci_junk]) (S' := [.ref l0, .ref l0]) rfl ?_
  obtain ⟨v1, ev1, H⟩ := Option.bind_eq_some_iff.mp H
  refine ev_4 hc_X12_letters (fe_X12_letters (pc := 67) rfl) (gI_gf ev1) ?_
  obtain ⟨h2, eh2, H⟩ := Option.bind_eq_some_iff.mp H
  refine ev_call (vs := [.ref l0, .int v1]) (rest := []) (q := q_X12_fault) hc_X12_letters (Or.inr rfl) (fe_X12_letters (pc := 70) rfl) ms_184 rfl rfl (Nat.le_of_ble_eq_true rfl) (kO_recv (K_X12_fault eh2)) (E_X12_fault eh2 (by omega)) rfl ?_
  show Ev xs N (d + 1) 190 73 [.ref l0, .int l1, .int l2, .int l3, .int l4, ci_junk] [] h2 nx _
  refine ev_go hc_X12_letters (k := 1) (pc' := 97) (L' := [.ref l0, .int l1, .int l2, .int l3, .int l4, ci_junk]) (S' := []) rfl ?_
  exact Ev.weak (ci_le_c (Or.inr rfl) (ci_le_c (Or.inr rfl) (ci_le_c (Or.inr rfl) (ci_le_c (Or.inr rfl) (ci_le_c (Or.inr rfl) (ci_le_c (Or.inl rfl) (ci_le_n))))))) (eb_X12_letters_97 hd h_5 H)
def b_X12_letters_34 (r_5 : Int32 → Int32 → ci_H → Option (Int32 × ci_H)) (l0 : Nat) (l1 : Int32) (l2 : Int32) (l3 : Int32) (l4 : Int32)  (h : ci_H) : Option (Int32 × ci_H) := (F_X12_here l0 h).bind fun q1 => (F_X12_in (q1.1 - 97) (l4 + 1) 5 q1.2).bind fun q2 => if q2.1 = 0 then (b_X12_letters_65 r_5 l0 l1 l2 l3 l4 q2.2) else ((F_X12_has l1 (q1.1 - 97) q2.2).bind fun q4 => if q4.1 = 0 then ((gI q4.2 l0 12 15).bind fun v6 => (pF q4.2 l0 12 15 (.int (v6 + 1))).bind fun h7 => b_X12_letters_97 r_5 l0 l1 l2 (l3 ||| ((1 : Int32) <<< ((q1.1 - 97) &&& 31))) (q1.1 - 97) h7) else (b_X12_letters_65 r_5 l0 l1 l2 l3 l4 q4.2))
set_option maxHeartbeats 4000000 in
set_option maxRecDepth 20000 in
theorem eb_X12_letters_34 {xs : Nat → Int32} {N d : Nat} {nx : ci_N} {r_5 : Int32 → Int32 → ci_H → Option (Int32 × ci_H)} {l0 : Nat} {l1 : Int32} {l2 : Int32} {l3 : Int32} {l4 : Int32} (hd : 1 ≤ d) (h_5 : ∀ (l3 : Int32) (l4 : Int32) (h : ci_H) (r : Int32 × ci_H), r_5 l3 l4 h = some r → Ev xs N (d + 1) 190 5 [.ref l0, .int l1, .int l2, .int l3, .int l4, ci_junk] [] h nx (oI r nx)) {h : ci_H} {r : Int32 × ci_H} (H : b_X12_letters_34 r_5 l0 l1 l2 l3 l4 h = some r) : Ev xs N (d + 1) 190 34 [.ref l0, .int l1, .int l2, .int l3, .int l4, ci_junk] [] h nx (oI r nx) := by
  unfold b_X12_letters_34 at H
  refine ev_go hc_X12_letters (k := 1) (pc' := 35) (L' := [.ref l0, .int l1, .int l2, .int l3, .int l4, ci_junk]) (S' := [.ref l0]) rfl ?_
  obtain ⟨q1, eq1, H⟩ := Option.bind_eq_some_iff.mp H
  refine ev_call (vs := [.ref l0]) (rest := []) (q := q_X12_here) hc_X12_letters (Or.inr rfl) (fe_X12_letters (pc := 35) rfl) ms_182 rfl rfl (Nat.le_of_ble_eq_true rfl) (kO_recv (K_X12_here eq1)) (E_X12_here eq1 (by omega)) rfl ?_
  show Ev xs N (d + 1) 190 38 [.ref l0, .int l1, .int l2, .int l3, .int l4, ci_junk] [.int q1.1] q1.2 nx _
  refine ev_go hc_X12_letters (k := 8) (pc' := 50) (L' := [.ref l0, .int l1, .int l2, .int l3, .int l4, .int (q1.1 - 97)]) (S' := [.int 5, .int (l4 + 1), .int (q1.1 - 97)]) rfl ?_
  obtain ⟨q2, eq2, H⟩ := Option.bind_eq_some_iff.mp H
  refine ev_call (vs := [.int (q1.1 - 97), .int (l4 + 1), .int 5]) (rest := []) (q := q_X12_in) hc_X12_letters (Or.inl rfl) (fe_X12_letters (pc := 50) rfl) ms_170 rfl rfl (Nat.le_of_ble_eq_true rfl) rfl (E_X12_in eq2 (by omega)) rfl ?_
  show Ev xs N (d + 1) 190 53 [.ref l0, .int l1, .int l2, .int l3, .int l4, .int (q1.1 - 97)] [.int q2.1] q2.2 nx _
  by_cases c3 : q2.1 = 0
  · rw [if_pos c3] at H
    refine ev_bt hc_X12_letters (fe_X12_letters (pc := 53) rfl) rfl c3 ?_
    exact Ev.weak (ci_le_c (Or.inr rfl) (ci_le_c (Or.inr rfl) (ci_le_c (Or.inr rfl) (ci_le_c (Or.inr rfl) (ci_le_c (Or.inr rfl) (ci_le_c (Or.inl rfl) (ci_le_n))))))) (eb_X12_letters_65 hd h_5 H)
  · rw [if_neg c3] at H
    refine ev_bf hc_X12_letters (fe_X12_letters (pc := 53) rfl) rfl c3 ?_
    refine ev_go hc_X12_letters (k := 2) (pc' := 59) (L' := [.ref l0, .int l1, .int l2, .int l3, .int l4, .int (q1.1 - 97)]) (S' := [.int (q1.1 - 97), .int l1]) rfl ?_
    obtain ⟨q4, eq4, H⟩ := Option.bind_eq_some_iff.mp H
    refine ev_call (vs := [.int l1, .int (q1.1 - 97)]) (rest := []) (q := q_X12_has) hc_X12_letters (Or.inl rfl) (fe_X12_letters (pc := 59) rfl) ms_171 rfl rfl (Nat.le_of_ble_eq_true rfl) rfl (E_X12_has eq4 (by omega)) rfl ?_
    show Ev xs N (d + 1) 190 62 [.ref l0, .int l1, .int l2, .int l3, .int l4, .int (q1.1 - 97)] [.int q4.1] q4.2 nx _
    by_cases c5 : q4.1 = 0
    · rw [if_pos c5] at H
      refine ev_bt hc_X12_letters (fe_X12_letters (pc := 62) rfl) rfl c5 ?_
      refine ev_go hc_X12_letters (k := 2) (pc' := 78) (L' := [.ref l0, .int l1, .int l2, .int l3, .int l4, .int (q1.1 - 97)]) (S' := [.ref l0, .ref l0]) rfl ?_
      obtain ⟨v6, ev6, H⟩ := Option.bind_eq_some_iff.mp H
      refine ev_4 hc_X12_letters (fe_X12_letters (pc := 78) rfl) (gI_gf ev6) ?_
      refine ev_go hc_X12_letters (k := 2) (pc' := 83) (L' := [.ref l0, .int l1, .int l2, .int l3, .int l4, .int (q1.1 - 97)]) (S' := [.int (v6 + 1), .ref l0]) rfl ?_
      obtain ⟨h7, eh7, H⟩ := Option.bind_eq_some_iff.mp H
      refine ev_5 hc_X12_letters (fe_X12_letters (pc := 83) rfl) (pF_pf eh7) ?_
      refine ev_go hc_X12_letters (k := 8) (pc' := 97) (L' := [.ref l0, .int l1, .int l2, .int (l3 ||| ((1 : Int32) <<< ((q1.1 - 97) &&& 31))), .int (q1.1 - 97), .int (q1.1 - 97)]) (S' := []) rfl ?_
      exact Ev.weak (ci_le_c (Or.inr rfl) (ci_le_c (Or.inr rfl) (ci_le_c (Or.inr rfl) (ci_le_c (Or.inr rfl) (ci_le_c (Or.inr rfl) (ci_le_c (Or.inl rfl) (ci_le_n))))))) (eb_X12_letters_97 hd h_5 H)
    · rw [if_neg c5] at H
      refine ev_bf hc_X12_letters (fe_X12_letters (pc := 62) rfl) rfl c5 ?_
      exact Ev.weak (ci_le_c (Or.inr rfl) (ci_le_c (Or.inr rfl) (ci_le_c (Or.inr rfl) (ci_le_c (Or.inr rfl) (ci_le_c (Or.inr rfl) (ci_le_c (Or.inl rfl) (ci_le_n))))))) (eb_X12_letters_65 hd h_5 H)
def b_X12_letters_5 (l0 : Nat) (l1 : Int32) (l2 : Int32) : Nat → Int32 → Int32 → ci_H → Option (Int32 × ci_H)
  | 0, _, _, _ => none
  | n + 1, l3, l4, h => (F_X12_fine l0 h).bind fun q1 => if q1.1 = 0 then (some (l3, q1.2)) else ((F_J6_bitCount_0f7a4 l3 q1.2).bind fun q3 => if q3.1 < l2 then (b_X12_letters_34 (fun x0 x1 x2 => b_X12_letters_5 l0 l1 l2 n x0 x1 x2) l0 l1 l2 l3 l4 q3.2) else ((F_X12_here l0 q3.2).bind fun q5 => (F_X12_in q5.1 97 102 q5.2).bind fun q6 => if q6.1 = 0 then (some (l3, q6.2)) else (b_X12_letters_34 (fun x0 x1 x2 => b_X12_letters_5 l0 l1 l2 n x0 x1 x2) l0 l1 l2 l3 l4 q6.2)))
set_option maxHeartbeats 4000000 in
set_option maxRecDepth 20000 in
theorem eb_X12_letters_5 {xs : Nat → Int32} {N d : Nat} {nx : ci_N} {l0 : Nat} {l1 : Int32} {l2 : Int32} (hd : 1 ≤ d) : ∀ (n : Nat) (l3 : Int32) (l4 : Int32) (h : ci_H) (r : Int32 × ci_H), b_X12_letters_5 l0 l1 l2 n l3 l4 h = some r → Ev xs N (d + 1) 190 5 [.ref l0, .int l1, .int l2, .int l3, .int l4, ci_junk] [] h nx (oI r nx) := by
  intro n
  induction n with
  | zero => intro l3 l4 h r H; unfold b_X12_letters_5 at H; cases H
  | succ n ih =>
    intro l3 l4 h r H
    unfold b_X12_letters_5 at H
    refine ev_go hc_X12_letters (k := 1) (pc' := 6) (L' := [.ref l0, .int l1, .int l2, .int l3, .int l4, ci_junk]) (S' := [.ref l0]) rfl ?_
    obtain ⟨q1, eq1, H⟩ := Option.bind_eq_some_iff.mp H
    refine ev_call (vs := [.ref l0]) (rest := []) (q := q_X12_fine) hc_X12_letters (Or.inr rfl) (fe_X12_letters (pc := 6) rfl) ms_183 rfl rfl (Nat.le_of_ble_eq_true rfl) (kO_recv (K_X12_fine eq1)) (E_X12_fine eq1 (by omega)) rfl ?_
    show Ev xs N (d + 1) 190 9 [.ref l0, .int l1, .int l2, .int l3, .int l4, ci_junk] [.int q1.1] q1.2 nx _
    by_cases c2 : q1.1 = 0
    · rw [if_pos c2] at H
      refine ev_bt hc_X12_letters (fe_X12_letters (pc := 9) rfl) rfl c2 ?_
      refine ev_go hc_X12_letters (k := 1) (pc' := 101) (L' := [.ref l0, .int l1, .int l2, .int l3, .int l4, ci_junk]) (S' := [.int l3]) rfl ?_
      obtain rfl := Option.some.inj H
      exact ev_8 hc_X12_letters (fe_X12_letters (pc := 101) rfl) rfl
    · rw [if_neg c2] at H
      refine ev_bf hc_X12_letters (fe_X12_letters (pc := 9) rfl) rfl c2 ?_
      refine ev_go hc_X12_letters (k := 1) (pc' := 13) (L' := [.ref l0, .int l1, .int l2, .int l3, .int l4, ci_junk]) (S' := [.int l3]) rfl ?_
      obtain ⟨q3, eq3, H⟩ := Option.bind_eq_some_iff.mp H
      refine ev_call (vs := [.int l3]) (rest := []) (q := q_J6_bitCount_0f7a4) hc_X12_letters (Or.inl rfl) (fe_X12_letters (pc := 13) rfl) ms_285 rfl rfl (Nat.le_of_ble_eq_true rfl) rfl (E_J6_bitCount_0f7a4 eq3 (by omega)) rfl ?_
      show Ev xs N (d + 1) 190 16 [.ref l0, .int l1, .int l2, .int l3, .int l4, ci_junk] [.int q3.1] q3.2 nx _
      refine ev_go hc_X12_letters (k := 1) (pc' := 17) (L' := [.ref l0, .int l1, .int l2, .int l3, .int l4, ci_junk]) (S' := [.int l2, .int q3.1]) rfl ?_
      by_cases c4 : q3.1 < l2
      · rw [if_pos c4] at H
        refine ev_bt hc_X12_letters (fe_X12_letters (pc := 17) rfl) rfl c4 ?_
        exact Ev.weak (ci_le_c (Or.inr rfl) (ci_le_c (Or.inr rfl) (ci_le_c (Or.inr rfl) (ci_le_c (Or.inr rfl) (ci_le_c (Or.inr rfl) (ci_le_c (Or.inl rfl) (ci_le_n))))))) (eb_X12_letters_34 hd ih H)
      · rw [if_neg c4] at H
        refine ev_bf hc_X12_letters (fe_X12_letters (pc := 17) rfl) rfl c4 ?_
        refine ev_go hc_X12_letters (k := 1) (pc' := 21) (L' := [.ref l0, .int l1, .int l2, .int l3, .int l4, ci_junk]) (S' := [.ref l0]) rfl ?_
        obtain ⟨q5, eq5, H⟩ := Option.bind_eq_some_iff.mp H
        refine ev_call (vs := [.ref l0]) (rest := []) (q := q_X12_here) hc_X12_letters (Or.inr rfl) (fe_X12_letters (pc := 21) rfl) ms_182 rfl rfl (Nat.le_of_ble_eq_true rfl) (kO_recv (K_X12_here eq5)) (E_X12_here eq5 (by omega)) rfl ?_
        show Ev xs N (d + 1) 190 24 [.ref l0, .int l1, .int l2, .int l3, .int l4, ci_junk] [.int q5.1] q5.2 nx _
        refine ev_go hc_X12_letters (k := 2) (pc' := 28) (L' := [.ref l0, .int l1, .int l2, .int l3, .int l4, ci_junk]) (S' := [.int 102, .int 97, .int q5.1]) rfl ?_
        obtain ⟨q6, eq6, H⟩ := Option.bind_eq_some_iff.mp H
        refine ev_call (vs := [.int q5.1, .int 97, .int 102]) (rest := []) (q := q_X12_in) hc_X12_letters (Or.inl rfl) (fe_X12_letters (pc := 28) rfl) ms_170 rfl rfl (Nat.le_of_ble_eq_true rfl) rfl (E_X12_in eq6 (by omega)) rfl ?_
        show Ev xs N (d + 1) 190 31 [.ref l0, .int l1, .int l2, .int l3, .int l4, ci_junk] [.int q6.1] q6.2 nx _
        by_cases c7 : q6.1 = 0
        · rw [if_pos c7] at H
          refine ev_bt hc_X12_letters (fe_X12_letters (pc := 31) rfl) rfl c7 ?_
          refine ev_go hc_X12_letters (k := 1) (pc' := 101) (L' := [.ref l0, .int l1, .int l2, .int l3, .int l4, ci_junk]) (S' := [.int l3]) rfl ?_
          obtain rfl := Option.some.inj H
          exact ev_8 hc_X12_letters (fe_X12_letters (pc := 101) rfl) rfl
        · rw [if_neg c7] at H
          refine ev_bf hc_X12_letters (fe_X12_letters (pc := 31) rfl) rfl c7 ?_
          exact Ev.weak (ci_le_c (Or.inr rfl) (ci_le_c (Or.inr rfl) (ci_le_c (Or.inr rfl) (ci_le_c (Or.inr rfl) (ci_le_c (Or.inr rfl) (ci_le_c (Or.inl rfl) (ci_le_n))))))) (eb_X12_letters_34 hd ih H)
def F_X12_letters (a0 : Nat) (a1 : Int32) (a2 : Int32) (h : ci_H) : Option (Int32 × ci_H) := if kO h a0 = some 12 then (b_X12_letters_5 a0 a1 a2 bigN 0 ((-1)) h) else none
theorem K_X12_letters {a0 : Nat} {a1 : Int32} {a2 : Int32} {h : ci_H} {r : Int32 × ci_H} (H : F_X12_letters a0 a1 a2 h = some r) : kO h a0 = some 12 := by
  unfold F_X12_letters at H
  by_cases c : kO h a0 = some 12
  · exact c
  · rw [if_neg c] at H; cases H
set_option maxHeartbeats 4000000 in
set_option maxRecDepth 20000 in
theorem E_X12_letters {xs : Nat → Int32} {N d : Nat} {nx : ci_N} {a0 : Nat} {a1 : Int32} {a2 : Int32} {h : ci_H} {r : Int32 × ci_H} (H : F_X12_letters a0 a1 a2 h = some r) (hd : 2 ≤ d) : Ev xs N d 190 0 (ci_entry [.ref a0, .int a1, .int a2] 6) [] h nx (oI r nx) := by
  obtain ⟨d, rfl⟩ : ∃ d2, d = d2 + 1 := ⟨d - 1, by omega⟩
  have hd : 1 ≤ d := by omega
  unfold F_X12_letters at H
  by_cases ck : kO h a0 = some 12
  · rw [if_pos ck] at H
    show Ev xs N (d + 1) 190 0 [.ref a0, .int a1, .int a2, ci_junk, ci_junk, ci_junk] [] h nx _
    refine ev_go hc_X12_letters (k := 4) (pc' := 5) (L' := [.ref a0, .int a1, .int a2, .int 0, .int ((-1)), ci_junk]) (S' := []) rfl ?_
    exact Ev.weak (ci_le_c (Or.inr rfl) (ci_le_c (Or.inr rfl) (ci_le_c (Or.inr rfl) (ci_le_c (Or.inr rfl) (ci_le_c (Or.inr rfl) (ci_le_c (Or.inl rfl) (ci_le_n))))))) (eb_X12_letters_5 hd bigN _ _ _ _ H)
  · rw [if_neg ck] at H; cases H
theorem hc_X12_houses : ci_code (ci_Ms 191) = k_X12_houses := rfl
theorem fe_X12_houses {pc : Nat} {w : Option ci_I} (h : (k_X12_houses)[pc]? = some w) : (k_X12_houses)[pc]? = some w := h
def b_X12_houses_72 (l0 : Nat) (l1 : Int32) (l2 : Int32) : Nat → Int32 → ci_H → Option (Int32 × ci_H)
  | 0, _, _ => none
  | n + 1, l3, h => if l1 ≤ l3 then ((pF h l0 12 23 (.int 0)).bind fun h2 => (gI h2 l0 12 39).bind fun v3 => (pF h2 l0 12 39 (.int (v3 + 1))).bind fun h4 => some (l2, h4)) else ((gR h l0 12 0).bind fun v5 => (wI h v5 (36 + l3) 100).bind fun h6 => b_X12_houses_72 l0 l1 l2 n (l3 + 1) h6)
set_option maxHeartbeats 4000000 in
set_option maxRecDepth 20000 in
theorem eb_X12_houses_72 {xs : Nat → Int32} {N d : Nat} {nx : ci_N} {l0 : Nat} {l1 : Int32} {l2 : Int32} (hd : 0 ≤ d) : ∀ (n : Nat) (l3 : Int32) (h : ci_H) (r : Int32 × ci_H), b_X12_houses_72 l0 l1 l2 n l3 h = some r → Ev xs N (d + 1) 191 72 [.ref l0, .int l1, .int l2, .int l3] [] h nx (oI r nx) := by
  intro n
  induction n with
  | zero => intro l3 h r H; unfold b_X12_houses_72 at H; cases H
  | succ n ih =>
    intro l3 h r H
    unfold b_X12_houses_72 at H
    refine ev_go hc_X12_houses (k := 2) (pc' := 74) (L' := [.ref l0, .int l1, .int l2, .int l3]) (S' := [.int l1, .int l3]) rfl ?_
    by_cases c1 : l1 ≤ l3
    · rw [if_pos c1] at H
      refine ev_bt hc_X12_houses (fe_X12_houses (pc := 74) rfl) rfl c1 ?_
      refine ev_go hc_X12_houses (k := 2) (pc' := 96) (L' := [.ref l0, .int l1, .int l2, .int l3]) (S' := [.int 0, .ref l0]) rfl ?_
      obtain ⟨h2, eh2, H⟩ := Option.bind_eq_some_iff.mp H
      refine ev_5 hc_X12_houses (fe_X12_houses (pc := 96) rfl) (pF_pf eh2) ?_
      refine ev_go hc_X12_houses (k := 2) (pc' := 101) (L' := [.ref l0, .int l1, .int l2, .int l3]) (S' := [.ref l0, .ref l0]) rfl ?_
      obtain ⟨v3, ev3, H⟩ := Option.bind_eq_some_iff.mp H
      refine ev_4 hc_X12_houses (fe_X12_houses (pc := 101) rfl) (gI_gf ev3) ?_
      refine ev_go hc_X12_houses (k := 2) (pc' := 106) (L' := [.ref l0, .int l1, .int l2, .int l3]) (S' := [.int (v3 + 1), .ref l0]) rfl ?_
      obtain ⟨h4, eh4, H⟩ := Option.bind_eq_some_iff.mp H
      refine ev_5 hc_X12_houses (fe_X12_houses (pc := 106) rfl) (pF_pf eh4) ?_
      refine ev_go hc_X12_houses (k := 1) (pc' := 110) (L' := [.ref l0, .int l1, .int l2, .int l3]) (S' := [.int l2]) rfl ?_
      obtain rfl := Option.some.inj H
      exact ev_8 hc_X12_houses (fe_X12_houses (pc := 110) rfl) rfl
    · rw [if_neg c1] at H
      refine ev_bf hc_X12_houses (fe_X12_houses (pc := 74) rfl) rfl c1 ?_
      refine ev_go hc_X12_houses (k := 1) (pc' := 78) (L' := [.ref l0, .int l1, .int l2, .int l3]) (S' := [.ref l0]) rfl ?_
      obtain ⟨v5, ev5, H⟩ := Option.bind_eq_some_iff.mp H
      refine ev_4 hc_X12_houses (fe_X12_houses (pc := 78) rfl) (gR_gf ev5) ?_
      refine ev_go hc_X12_houses (k := 4) (pc' := 87) (L' := [.ref l0, .int l1, .int l2, .int l3]) (S' := [.int 100, .int (36 + l3), .ref v5]) rfl ?_
      obtain ⟨h6, eh6, H⟩ := Option.bind_eq_some_iff.mp H
      refine ev_5 hc_X12_houses (fe_X12_houses (pc := 87) rfl) (wI_as eh6) ?_
      refine ev_go hc_X12_houses (k := 2) (pc' := 72) (L' := [.ref l0, .int l1, .int l2, .int (l3 + 1)]) (S' := []) rfl ?_
      exact Ev.weak (ci_le_c (Or.inr rfl) (ci_le_c (Or.inr rfl) (ci_le_c (Or.inr rfl) (ci_le_c (Or.inr rfl) (ci_le_n))))) (ih _ _ _ H)
def b_X12_houses_18 (l0 : Nat) (l1 : Int32) : Nat → Int32 → ci_H → Option (Int32 × ci_H)
  | 0, _, _ => none
  | n + 1, l2, h => (gI h l0 12 2).bind fun v1 => if v1 ≤ l2 then ((gI h l0 12 1).bind fun v3 => (pF h l0 12 1 (.int l1)).bind fun h4 => b_X12_houses_72 l0 l1 v3 bigN v3 h4) else ((gR h l0 12 0).bind fun v5 => (rI h v5 (12 + l2)).bind fun v6 => if l1 ≤ v6 then (some ((-1), h)) else ((gR h l0 12 0).bind fun v8 => (rI h v8 (24 + l2)).bind fun v9 => if v9 < l1 then (b_X12_houses_18 l0 l1 n (l2 + 1) h) else (some ((-1), h))))
set_option maxHeartbeats 4000000 in
set_option maxRecDepth 20000 in
theorem eb_X12_houses_18 {xs : Nat → Int32} {N d : Nat} {nx : ci_N} {l0 : Nat} {l1 : Int32} (hd : 0 ≤ d) : ∀ (n : Nat) (l2 : Int32) (h : ci_H) (r : Int32 × ci_H), b_X12_houses_18 l0 l1 n l2 h = some r → Ev xs N (d + 1) 191 18 [.ref l0, .int l1, .int l2, ci_junk] [] h nx (oI r nx) := by
  intro n
  induction n with
  | zero => intro l2 h r H; unfold b_X12_houses_18 at H; cases H
  | succ n ih =>
    intro l2 h r H
    unfold b_X12_houses_18 at H
    refine ev_go hc_X12_houses (k := 2) (pc' := 20) (L' := [.ref l0, .int l1, .int l2, ci_junk]) (S' := [.ref l0, .int l2]) rfl ?_
    obtain ⟨v1, ev1, H⟩ := Option.bind_eq_some_iff.mp H
    refine ev_4 hc_X12_houses (fe_X12_houses (pc := 20) rfl) (gI_gf ev1) ?_
    by_cases c2 : v1 ≤ l2
    · rw [if_pos c2] at H
      refine ev_bt hc_X12_houses (fe_X12_houses (pc := 23) rfl) rfl c2 ?_
      refine ev_go hc_X12_houses (k := 1) (pc' := 61) (L' := [.ref l0, .int l1, .int l2, ci_junk]) (S' := [.ref l0]) rfl ?_
      obtain ⟨v3, ev3, H⟩ := Option.bind_eq_some_iff.mp H
      refine ev_4 hc_X12_houses (fe_X12_houses (pc := 61) rfl) (gI_gf ev3) ?_
      refine ev_go hc_X12_houses (k := 3) (pc' := 67) (L' := [.ref l0, .int l1, .int v3, ci_junk]) (S' := [.int l1, .ref l0]) rfl ?_
      obtain ⟨h4, eh4, H⟩ := Option.bind_eq_some_iff.mp H
      refine ev_5 hc_X12_houses (fe_X12_houses (pc := 67) rfl) (pF_pf eh4) ?_
      refine ev_go hc_X12_houses (k := 2) (pc' := 72) (L' := [.ref l0, .int l1, .int v3, .int v3]) (S' := []) rfl ?_
      exact Ev.weak (ci_le_c (Or.inr rfl) (ci_le_c (Or.inr rfl) (ci_le_c (Or.inr rfl) (ci_le_c (Or.inr rfl) (ci_le_n))))) (eb_X12_houses_72 hd bigN _ _ _ H)
    · rw [if_neg c2] at H
      refine ev_bf hc_X12_houses (fe_X12_houses (pc := 23) rfl) rfl c2 ?_
      refine ev_go hc_X12_houses (k := 1) (pc' := 27) (L' := [.ref l0, .int l1, .int l2, ci_junk]) (S' := [.ref l0]) rfl ?_
      obtain ⟨v5, ev5, H⟩ := Option.bind_eq_some_iff.mp H
      refine ev_4 hc_X12_houses (fe_X12_houses (pc := 27) rfl) (gR_gf ev5) ?_
      refine ev_go hc_X12_houses (k := 3) (pc' := 34) (L' := [.ref l0, .int l1, .int l2, ci_junk]) (S' := [.int (12 + l2), .ref v5]) rfl ?_
      obtain ⟨v6, ev6, H⟩ := Option.bind_eq_some_iff.mp H
      refine ev_4 hc_X12_houses (fe_X12_houses (pc := 34) rfl) (rI_al ev6) ?_
      refine ev_go hc_X12_houses (k := 1) (pc' := 36) (L' := [.ref l0, .int l1, .int l2, ci_junk]) (S' := [.int l1, .int v6]) rfl ?_
      by_cases c7 : l1 ≤ v6
      · rw [if_pos c7] at H
        refine ev_bt hc_X12_houses (fe_X12_houses (pc := 36) rfl) rfl c7 ?_
        refine ev_go hc_X12_houses (k := 1) (pc' := 53) (L' := [.ref l0, .int l1, .int l2, ci_junk]) (S' := [.int ((-1))]) rfl ?_
        obtain rfl := Option.some.inj H
        exact ev_8 hc_X12_houses (fe_X12_houses (pc := 53) rfl) rfl
      · rw [if_neg c7] at H
        refine ev_bf hc_X12_houses (fe_X12_houses (pc := 36) rfl) rfl c7 ?_
        refine ev_go hc_X12_houses (k := 1) (pc' := 40) (L' := [.ref l0, .int l1, .int l2, ci_junk]) (S' := [.ref l0]) rfl ?_
        obtain ⟨v8, ev8, H⟩ := Option.bind_eq_some_iff.mp H
        refine ev_4 hc_X12_houses (fe_X12_houses (pc := 40) rfl) (gR_gf ev8) ?_
        refine ev_go hc_X12_houses (k := 3) (pc' := 47) (L' := [.ref l0, .int l1, .int l2, ci_junk]) (S' := [.int (24 + l2), .ref v8]) rfl ?_
        obtain ⟨v9, ev9, H⟩ := Option.bind_eq_some_iff.mp H
        refine ev_4 hc_X12_houses (fe_X12_houses (pc := 47) rfl) (rI_al ev9) ?_
        refine ev_go hc_X12_houses (k := 1) (pc' := 49) (L' := [.ref l0, .int l1, .int l2, ci_junk]) (S' := [.int l1, .int v9]) rfl ?_
        by_cases c10 : v9 < l1
        · rw [if_pos c10] at H
          refine ev_bt hc_X12_houses (fe_X12_houses (pc := 49) rfl) rfl c10 ?_
          refine ev_go hc_X12_houses (k := 2) (pc' := 18) (L' := [.ref l0, .int l1, .int (l2 + 1), ci_junk]) (S' := []) rfl ?_
          exact Ev.weak (ci_le_c (Or.inr rfl) (ci_le_c (Or.inr rfl) (ci_le_c (Or.inr rfl) (ci_le_c (Or.inl rfl) (ci_le_n))))) (ih _ _ _ H)
        · rw [if_neg c10] at H
          refine ev_bf hc_X12_houses (fe_X12_houses (pc := 49) rfl) rfl c10 ?_
          refine ev_go hc_X12_houses (k := 1) (pc' := 53) (L' := [.ref l0, .int l1, .int l2, ci_junk]) (S' := [.int ((-1))]) rfl ?_
          obtain rfl := Option.some.inj H
          exact ev_8 hc_X12_houses (fe_X12_houses (pc := 53) rfl) rfl
def F_X12_houses (a0 : Nat) (a1 : Int32) (h : ci_H) : Option (Int32 × ci_H) := if kO h a0 = some 12 then ((pF h a0 12 11 (.int 0)).bind fun h1 => (F_X12_in a1 1 5 h1).bind fun q2 => if q2.1 = 0 then (some ((-1), q2.2)) else (b_X12_houses_18 a0 a1 bigN 0 q2.2)) else none
theorem K_X12_houses {a0 : Nat} {a1 : Int32} {h : ci_H} {r : Int32 × ci_H} (H : F_X12_houses a0 a1 h = some r) : kO h a0 = some 12 := by
  unfold F_X12_houses at H
  by_cases c : kO h a0 = some 12
  · exact c
  · rw [if_neg c] at H; cases H
set_option maxHeartbeats 4000000 in
set_option maxRecDepth 20000 in
theorem E_X12_houses {xs : Nat → Int32} {N d : Nat} {nx : ci_N} {a0 : Nat} {a1 : Int32} {h : ci_H} {r : Int32 × ci_H} (H : F_X12_houses a0 a1 h = some r) (hd : 1 ≤ d) : Ev xs N d 191 0 (ci_entry [.ref a0, .int a1] 4) [] h nx (oI r nx) := by
  obtain ⟨d, rfl⟩ : ∃ d2, d = d2 + 1 := ⟨d - 1, by omega⟩
  have hd : 0 ≤ d := by omega
  unfold F_X12_houses at H
  by_cases ck : kO h a0 = some 12
  · rw [if_pos ck] at H
    show Ev xs N (d + 1) 191 0 [.ref a0, .int a1, ci_junk, ci_junk] [] h nx _
    refine ev_go hc_X12_houses (k := 2) (pc' := 2) (L' := [.ref a0, .int a1, ci_junk, ci_junk]) (S' := [.int 0, .ref a0]) rfl ?_
    obtain ⟨h1, eh1, H⟩ := Option.bind_eq_some_iff.mp H
    refine ev_5 hc_X12_houses (fe_X12_houses (pc := 2) rfl) (pF_pf eh1) ?_
    refine ev_go hc_X12_houses (k := 3) (pc' := 8) (L' := [.ref a0, .int a1, ci_junk, ci_junk]) (S' := [.int 5, .int 1, .int a1]) rfl ?_
    obtain ⟨q2, eq2, H⟩ := Option.bind_eq_some_iff.mp H
    refine ev_call (vs := [.int a1, .int 1, .int 5]) (rest := []) (q := q_X12_in) hc_X12_houses (Or.inl rfl) (fe_X12_houses (pc := 8) rfl) ms_170 rfl rfl (Nat.le_of_ble_eq_true rfl) rfl (E_X12_in eq2 (by omega)) rfl ?_
    show Ev xs N (d + 1) 191 11 [.ref a0, .int a1, ci_junk, ci_junk] [.int q2.1] q2.2 nx _
    by_cases c3 : q2.1 = 0
    · rw [if_pos c3] at H
      refine ev_bt hc_X12_houses (fe_X12_houses (pc := 11) rfl) rfl c3 ?_
      refine ev_go hc_X12_houses (k := 1) (pc' := 15) (L' := [.ref a0, .int a1, ci_junk, ci_junk]) (S' := [.int ((-1))]) rfl ?_
      obtain rfl := Option.some.inj H
      exact ev_8 hc_X12_houses (fe_X12_houses (pc := 15) rfl) rfl
    · rw [if_neg c3] at H
      refine ev_bf hc_X12_houses (fe_X12_houses (pc := 11) rfl) rfl c3 ?_
      refine ev_go hc_X12_houses (k := 2) (pc' := 18) (L' := [.ref a0, .int a1, .int 0, ci_junk]) (S' := []) rfl ?_
      exact Ev.weak (ci_le_c (Or.inr rfl) (ci_le_c (Or.inr rfl) (ci_le_c (Or.inr rfl) (ci_le_c (Or.inl rfl) (ci_le_n))))) (eb_X12_houses_18 hd bigN _ _ _ H)
  · rw [if_neg ck] at H; cases H
theorem hc_X12_things : ci_code (ci_Ms 192) = k_X12_things := rfl
theorem fe_X12_things {pc : Nat} {w : Option ci_I} (h : (k_X12_things)[pc]? = some w) : (k_X12_things)[pc]? = some w := h
def b_X12_things_133 (l0 : Nat) (l1 : Int32) : Nat → Int32 → ci_H → Option (Int32 × ci_H)
  | 0, _, _ => none
  | n + 1, l3, h => if l1 ≤ l3 then ((pF h l0 12 23 (.int 0)).bind fun h2 => (gI h2 l0 12 39).bind fun v3 => (pF h2 l0 12 39 (.int (v3 + 1))).bind fun h4 => some (l1, h4)) else ((gR h l0 12 0).bind fun v5 => (gI h l0 12 2).bind fun v6 => (gR h l0 12 17).bind fun v7 => (rI h v7 (2 * l3)).bind fun v8 => (wI h v5 v6 v8).bind fun h9 => (gR h9 l0 12 0).bind fun v10 => (gI h9 l0 12 2).bind fun v11 => (gR h9 l0 12 17).bind fun v12 => (rI h9 v12 ((2 * l3) + 1)).bind fun v13 => (wI h9 v10 (12 + v11) v13).bind fun h14 => (gR h14 l0 12 0).bind fun v15 => (gI h14 l0 12 2).bind fun v16 => (gR h14 l0 12 17).bind fun v17 => (rI h14 v17 ((2 * l3) + 1)).bind fun v18 => (wI h14 v15 (24 + v16) v18).bind fun h19 => (gI h19 l0 12 2).bind fun v20 => (pF h19 l0 12 2 (.int (v20 + 1))).bind fun h21 => b_X12_things_133 l0 l1 n (l3 + 1) h21)
set_option maxHeartbeats 4000000 in
set_option maxRecDepth 20000 in
theorem eb_X12_things_133 {xs : Nat → Int32} {N d : Nat} {nx : ci_N} {l0 : Nat} {l1 : Int32} (hd : 2 ≤ d) : ∀ (n : Nat) (l3 : Int32) (h : ci_H) (r : Int32 × ci_H), b_X12_things_133 l0 l1 n l3 h = some r → Ev xs N (d + 1) 192 133 [.ref l0, .int l1, ci_junk, .int l3] [] h nx (oI r nx) := by
  intro n
  induction n with
  | zero => intro l3 h r H; unfold b_X12_things_133 at H; cases H
  | succ n ih =>
    intro l3 h r H
    unfold b_X12_things_133 at H
    refine ev_go hc_X12_things (k := 2) (pc' := 135) (L' := [.ref l0, .int l1, ci_junk, .int l3]) (S' := [.int l1, .int l3]) rfl ?_
    by_cases c1 : l1 ≤ l3
    · rw [if_pos c1] at H
      refine ev_bt hc_X12_things (fe_X12_things (pc := 135) rfl) rfl c1 ?_
      refine ev_go hc_X12_things (k := 2) (pc' := 217) (L' := [.ref l0, .int l1, ci_junk, .int l3]) (S' := [.int 0, .ref l0]) rfl ?_
      obtain ⟨h2, eh2, H⟩ := Option.bind_eq_some_iff.mp H
      refine ev_5 hc_X12_things (fe_X12_things (pc := 217) rfl) (pF_pf eh2) ?_
      refine ev_go hc_X12_things (k := 2) (pc' := 222) (L' := [.ref l0, .int l1, ci_junk, .int l3]) (S' := [.ref l0, .ref l0]) rfl ?_
      obtain ⟨v3, ev3, H⟩ := Option.bind_eq_some_iff.mp H
      refine ev_4 hc_X12_things (fe_X12_things (pc := 222) rfl) (gI_gf ev3) ?_
      refine ev_go hc_X12_things (k := 2) (pc' := 227) (L' := [.ref l0, .int l1, ci_junk, .int l3]) (S' := [.int (v3 + 1), .ref l0]) rfl ?_
      obtain ⟨h4, eh4, H⟩ := Option.bind_eq_some_iff.mp H
      refine ev_5 hc_X12_things (fe_X12_things (pc := 227) rfl) (pF_pf eh4) ?_
      refine ev_go hc_X12_things (k := 1) (pc' := 231) (L' := [.ref l0, .int l1, ci_junk, .int l3]) (S' := [.int l1]) rfl ?_
      obtain rfl := Option.some.inj H
      exact ev_8 hc_X12_things (fe_X12_things (pc := 231) rfl) rfl
    · rw [if_neg c1] at H
      refine ev_bf hc_X12_things (fe_X12_things (pc := 135) rfl) rfl c1 ?_
      refine ev_go hc_X12_things (k := 1) (pc' := 139) (L' := [.ref l0, .int l1, ci_junk, .int l3]) (S' := [.ref l0]) rfl ?_
      obtain ⟨v5, ev5, H⟩ := Option.bind_eq_some_iff.mp H
      refine ev_4 hc_X12_things (fe_X12_things (pc := 139) rfl) (gR_gf ev5) ?_
      refine ev_go hc_X12_things (k := 1) (pc' := 143) (L' := [.ref l0, .int l1, ci_junk, .int l3]) (S' := [.ref l0, .ref v5]) rfl ?_
      obtain ⟨v6, ev6, H⟩ := Option.bind_eq_some_iff.mp H
      refine ev_4 hc_X12_things (fe_X12_things (pc := 143) rfl) (gI_gf ev6) ?_
      refine ev_go hc_X12_things (k := 1) (pc' := 147) (L' := [.ref l0, .int l1, ci_junk, .int l3]) (S' := [.ref l0, .int v6, .ref v5]) rfl ?_
      obtain ⟨v7, ev7, H⟩ := Option.bind_eq_some_iff.mp H
      refine ev_4 hc_X12_things (fe_X12_things (pc := 147) rfl) (gR_gf ev7) ?_
      refine ev_go hc_X12_things (k := 3) (pc' := 153) (L' := [.ref l0, .int l1, ci_junk, .int l3]) (S' := [.int (2 * l3), .ref v7, .int v6, .ref v5]) rfl ?_
      obtain ⟨v8, ev8, H⟩ := Option.bind_eq_some_iff.mp H
      refine ev_4 hc_X12_things (fe_X12_things (pc := 153) rfl) (rI_al ev8) ?_
      obtain ⟨h9, eh9, H⟩ := Option.bind_eq_some_iff.mp H
      refine ev_5 hc_X12_things (fe_X12_things (pc := 154) rfl) (wI_as eh9) ?_
      refine ev_go hc_X12_things (k := 1) (pc' := 156) (L' := [.ref l0, .int l1, ci_junk, .int l3]) (S' := [.ref l0]) rfl ?_
      obtain ⟨v10, ev10, H⟩ := Option.bind_eq_some_iff.mp H
      refine ev_4 hc_X12_things (fe_X12_things (pc := 156) rfl) (gR_gf ev10) ?_
      refine ev_go hc_X12_things (k := 2) (pc' := 162) (L' := [.ref l0, .int l1, ci_junk, .int l3]) (S' := [.ref l0, .int 12, .ref v10]) rfl ?_
      obtain ⟨v11, ev11, H⟩ := Option.bind_eq_some_iff.mp H
      refine ev_4 hc_X12_things (fe_X12_things (pc := 162) rfl) (gI_gf ev11) ?_
      refine ev_go hc_X12_things (k := 2) (pc' := 167) (L' := [.ref l0, .int l1, ci_junk, .int l3]) (S' := [.ref l0, .int (12 + v11), .ref v10]) rfl ?_
      obtain ⟨v12, ev12, H⟩ := Option.bind_eq_some_iff.mp H
      refine ev_4 hc_X12_things (fe_X12_things (pc := 167) rfl) (gR_gf ev12) ?_
      refine ev_go hc_X12_things (k := 5) (pc' := 175) (L' := [.ref l0, .int l1, ci_junk, .int l3]) (S' := [.int ((2 * l3) + 1), .ref v12, .int (12 + v11), .ref v10]) rfl ?_
      obtain ⟨v13, ev13, H⟩ := Option.bind_eq_some_iff.mp H
      refine ev_4 hc_X12_things (fe_X12_things (pc := 175) rfl) (rI_al ev13) ?_
      obtain ⟨h14, eh14, H⟩ := Option.bind_eq_some_iff.mp H
      refine ev_5 hc_X12_things (fe_X12_things (pc := 176) rfl) (wI_as eh14) ?_
      refine ev_go hc_X12_things (k := 1) (pc' := 178) (L' := [.ref l0, .int l1, ci_junk, .int l3]) (S' := [.ref l0]) rfl ?_
      obtain ⟨v15, ev15, H⟩ := Option.bind_eq_some_iff.mp H
      refine ev_4 hc_X12_things (fe_X12_things (pc := 178) rfl) (gR_gf ev15) ?_
      refine ev_go hc_X12_things (k := 2) (pc' := 184) (L' := [.ref l0, .int l1, ci_junk, .int l3]) (S' := [.ref l0, .int 24, .ref v15]) rfl ?_
      obtain ⟨v16, ev16, H⟩ := Option.bind_eq_some_iff.mp H
      refine ev_4 hc_X12_things (fe_X12_things (pc := 184) rfl) (gI_gf ev16) ?_
      refine ev_go hc_X12_things (k := 2) (pc' := 189) (L' := [.ref l0, .int l1, ci_junk, .int l3]) (S' := [.ref l0, .int (24 + v16), .ref v15]) rfl ?_
      obtain ⟨v17, ev17, H⟩ := Option.bind_eq_some_iff.mp H
      refine ev_4 hc_X12_things (fe_X12_things (pc := 189) rfl) (gR_gf ev17) ?_
      refine ev_go hc_X12_things (k := 5) (pc' := 197) (L' := [.ref l0, .int l1, ci_junk, .int l3]) (S' := [.int ((2 * l3) + 1), .ref v17, .int (24 + v16), .ref v15]) rfl ?_
      obtain ⟨v18, ev18, H⟩ := Option.bind_eq_some_iff.mp H
      refine ev_4 hc_X12_things (fe_X12_things (pc := 197) rfl) (rI_al ev18) ?_
      obtain ⟨h19, eh19, H⟩ := Option.bind_eq_some_iff.mp H
      refine ev_5 hc_X12_things (fe_X12_things (pc := 198) rfl) (wI_as eh19) ?_
      refine ev_go hc_X12_things (k := 2) (pc' := 201) (L' := [.ref l0, .int l1, ci_junk, .int l3]) (S' := [.ref l0, .ref l0]) rfl ?_
      obtain ⟨v20, ev20, H⟩ := Option.bind_eq_some_iff.mp H
      refine ev_4 hc_X12_things (fe_X12_things (pc := 201) rfl) (gI_gf ev20) ?_
      refine ev_go hc_X12_things (k := 2) (pc' := 206) (L' := [.ref l0, .int l1, ci_junk, .int l3]) (S' := [.int (v20 + 1), .ref l0]) rfl ?_
      obtain ⟨h21, eh21, H⟩ := Option.bind_eq_some_iff.mp H
      refine ev_5 hc_X12_things (fe_X12_things (pc := 206) rfl) (pF_pf eh21) ?_
      refine ev_go hc_X12_things (k := 2) (pc' := 133) (L' := [.ref l0, .int l1, ci_junk, .int (l3 + 1)]) (S' := []) rfl ?_
      exact Ev.weak (ci_le_c (Or.inr rfl) (ci_le_c (Or.inr rfl) (ci_le_c (Or.inl rfl) (ci_le_c (Or.inr rfl) (ci_le_n))))) (ih _ _ _ H)
def b_X12_things_117 (l0 : Nat) (l1 : Int32)  (h : ci_H) : Option (Int32 × ci_H) := (F_X12_wasRight l0 h).bind fun q1 => if q1.1 = 0 then ((gI q1.2 l0 12 16).bind fun v3 => some (((-1)) - v3, q1.2)) else (b_X12_things_133 l0 l1 bigN 0 q1.2)
set_option maxHeartbeats 4000000 in
set_option maxRecDepth 20000 in
theorem eb_X12_things_117 {xs : Nat → Int32} {N d : Nat} {nx : ci_N} {l0 : Nat} {l1 : Int32} (hd : 2 ≤ d) {h : ci_H} {r : Int32 × ci_H} (H : b_X12_things_117 l0 l1 h = some r) : Ev xs N (d + 1) 192 117 [.ref l0, .int l1, ci_junk, ci_junk] [] h nx (oI r nx) := by
  unfold b_X12_things_117 at H
  refine ev_go hc_X12_things (k := 1) (pc' := 118) (L' := [.ref l0, .int l1, ci_junk, ci_junk]) (S' := [.ref l0]) rfl ?_
  obtain ⟨q1, eq1, H⟩ := Option.bind_eq_some_iff.mp H
  refine ev_call (vs := [.ref l0]) (rest := []) (q := q_X12_wasRight) hc_X12_things (Or.inr rfl) (fe_X12_things (pc := 118) rfl) ms_189 rfl rfl (Nat.le_of_ble_eq_true rfl) (kO_recv (K_X12_wasRight eq1)) (E_X12_wasRight eq1 (by omega)) rfl ?_
  show Ev xs N (d + 1) 192 121 [.ref l0, .int l1, ci_junk, ci_junk] [.int q1.1] q1.2 nx _
  by_cases c2 : q1.1 = 0
  · rw [if_pos c2] at H
    refine ev_bt hc_X12_things (fe_X12_things (pc := 121) rfl) rfl c2 ?_
    refine ev_go hc_X12_things (k := 2) (pc' := 126) (L' := [.ref l0, .int l1, ci_junk, ci_junk]) (S' := [.ref l0, .int ((-1))]) rfl ?_
    obtain ⟨v3, ev3, H⟩ := Option.bind_eq_some_iff.mp H
    refine ev_4 hc_X12_things (fe_X12_things (pc := 126) rfl) (gI_gf ev3) ?_
    refine ev_go hc_X12_things (k := 1) (pc' := 130) (L' := [.ref l0, .int l1, ci_junk, ci_junk]) (S' := [.int (((-1)) - v3)]) rfl ?_
    obtain rfl := Option.some.inj H
    exact ev_8 hc_X12_things (fe_X12_things (pc := 130) rfl) rfl
  · rw [if_neg c2] at H
    refine ev_bf hc_X12_things (fe_X12_things (pc := 121) rfl) rfl c2 ?_
    refine ev_go hc_X12_things (k := 2) (pc' := 133) (L' := [.ref l0, .int l1, ci_junk, .int 0]) (S' := []) rfl ?_
    exact Ev.weak (ci_le_c (Or.inr rfl) (ci_le_c (Or.inr rfl) (ci_le_c (Or.inl rfl) (ci_le_c (Or.inr rfl) (ci_le_n))))) (eb_X12_things_133 hd bigN _ _ _ H)
def b_X12_things_104 (r_24 : Int32 → Int32 → ci_H → Option (Int32 × ci_H)) (l0 : Nat) (l1 : Int32)  (h : ci_H) : Option (Int32 × ci_H) := (F_X12_passes l0 59 h).bind fun q1 => r_24 (l1 + 1) q1.1 q1.2
set_option maxHeartbeats 4000000 in
set_option maxRecDepth 20000 in
theorem eb_X12_things_104 {xs : Nat → Int32} {N d : Nat} {nx : ci_N} {r_24 : Int32 → Int32 → ci_H → Option (Int32 × ci_H)} {l0 : Nat} {l1 : Int32} (hd : 2 ≤ d) (h_24 : ∀ (l1 : Int32) (l2 : Int32) (h : ci_H) (r : Int32 × ci_H), r_24 l1 l2 h = some r → Ev xs N (d + 1) 192 24 [.ref l0, .int l1, .int l2, ci_junk] [] h nx (oI r nx)) {h : ci_H} {r : Int32 × ci_H} (H : b_X12_things_104 r_24 l0 l1 h = some r) : Ev xs N (d + 1) 192 104 [.ref l0, .int l1, ci_junk, ci_junk] [] h nx (oI r nx) := by
  unfold b_X12_things_104 at H
  refine ev_go hc_X12_things (k := 3) (pc' := 110) (L' := [.ref l0, .int (l1 + 1), ci_junk, ci_junk]) (S' := [.int 59, .ref l0]) rfl ?_
  obtain ⟨q1, eq1, H⟩ := Option.bind_eq_some_iff.mp H
  refine ev_call (vs := [.ref l0, .int 59]) (rest := []) (q := q_X12_passes) hc_X12_things (Or.inr rfl) (fe_X12_things (pc := 110) rfl) ms_185 rfl rfl (Nat.le_of_ble_eq_true rfl) (kO_recv (K_X12_passes eq1)) (E_X12_passes eq1 (by omega)) rfl ?_
  show Ev xs N (d + 1) 192 113 [.ref l0, .int (l1 + 1), ci_junk, ci_junk] [.int q1.1] q1.2 nx _
  refine ev_go hc_X12_things (k := 2) (pc' := 24) (L' := [.ref l0, .int (l1 + 1), .int q1.1, ci_junk]) (S' := []) rfl ?_
  exact Ev.weak (ci_le_c (Or.inr rfl) (ci_le_c (Or.inr rfl) (ci_le_c (Or.inr rfl) (ci_le_c (Or.inl rfl) (ci_le_n))))) (h_24 _ _ _ _ H)
def b_X12_things_103 (r_24 : Int32 → Int32 → ci_H → Option (Int32 × ci_H)) (l0 : Nat) (l1 : Int32) (s0 : Nat) (s1 : Int32) (s2 : Int32)  (h : ci_H) : Option (Int32 × ci_H) := (wI h s0 s1 s2).bind fun h1 => b_X12_things_104 r_24 l0 l1 h1
set_option maxHeartbeats 4000000 in
set_option maxRecDepth 20000 in
theorem eb_X12_things_103 {xs : Nat → Int32} {N d : Nat} {nx : ci_N} {r_24 : Int32 → Int32 → ci_H → Option (Int32 × ci_H)} {l0 : Nat} {l1 : Int32} {s0 : Nat} {s1 : Int32} {s2 : Int32} (hd : 2 ≤ d) (h_24 : ∀ (l1 : Int32) (l2 : Int32) (h : ci_H) (r : Int32 × ci_H), r_24 l1 l2 h = some r → Ev xs N (d + 1) 192 24 [.ref l0, .int l1, .int l2, ci_junk] [] h nx (oI r nx)) {h : ci_H} {r : Int32 × ci_H} (H : b_X12_things_103 r_24 l0 l1 s0 s1 s2 h = some r) : Ev xs N (d + 1) 192 103 [.ref l0, .int l1, ci_junk, ci_junk] [.int s2, .int s1, .ref s0] h nx (oI r nx) := by
  unfold b_X12_things_103 at H
  obtain ⟨h1, eh1, H⟩ := Option.bind_eq_some_iff.mp H
  refine ev_5 hc_X12_things (fe_X12_things (pc := 103) rfl) (wI_as eh1) ?_
  exact Ev.weak (ci_le_c (Or.inr rfl) (ci_le_c (Or.inr rfl) (ci_le_c (Or.inl rfl) (ci_le_c (Or.inl rfl) (ci_le_n))))) (eb_X12_things_104 hd h_24 H)
def b_X12_things_24 (l0 : Nat) : Nat → Int32 → Int32 → ci_H → Option (Int32 × ci_H)
  | 0, _, _, _ => none
  | n + 1, l1, l2, h => if l2 = 0 then (b_X12_things_117 l0 l1 h) else ((F_X12_fine l0 h).bind fun q2 => if q2.1 = 0 then (b_X12_things_117 l0 l1 q2.2) else ((gI q2.2 l0 12 2).bind fun v4 => if (v4 + l1) = 12 then ((gI q2.2 l0 12 15).bind fun v6 => (F_X12_fault l0 v6 q2.2).bind fun h7 => b_X12_things_104 (fun x0 x1 x2 => b_X12_things_24 l0 n x0 x1 x2) l0 l1 h7) else ((gR q2.2 l0 12 17).bind fun v8 => (F_X12_letters l0 0 0 q2.2).bind fun q9 => (wI q9.2 v8 (2 * l1) q9.1).bind fun h10 => (gR h10 l0 12 17).bind fun v11 => (F_X12_passes l0 45 h10).bind fun q12 => if q12.1 = 0 then ((gI q12.2 l0 12 1).bind fun v14 => (F_X12_oneOf l0 48 v14 q12.2).bind fun q15 => b_X12_things_103 (fun x0 x1 x2 => b_X12_things_24 l0 n x0 x1 x2) l0 l1 v11 ((2 * l1) + 1) q15.1 q15.2) else (b_X12_things_103 (fun x0 x1 x2 => b_X12_things_24 l0 n x0 x1 x2) l0 l1 v11 ((2 * l1) + 1) ((-1)) q12.2))))
set_option maxHeartbeats 4000000 in
set_option maxRecDepth 20000 in
theorem eb_X12_things_24 {xs : Nat → Int32} {N d : Nat} {nx : ci_N} {l0 : Nat} (hd : 2 ≤ d) : ∀ (n : Nat) (l1 : Int32) (l2 : Int32) (h : ci_H) (r : Int32 × ci_H), b_X12_things_24 l0 n l1 l2 h = some r → Ev xs N (d + 1) 192 24 [.ref l0, .int l1, .int l2, ci_junk] [] h nx (oI r nx) := by
  intro n
  induction n with
  | zero => intro l1 l2 h r H; unfold b_X12_things_24 at H; cases H
  | succ n ih =>
    intro l1 l2 h r H
    unfold b_X12_things_24 at H
    refine ev_go hc_X12_things (k := 1) (pc' := 25) (L' := [.ref l0, .int l1, .int l2, ci_junk]) (S' := [.int l2]) rfl ?_
    by_cases c1 : l2 = 0
    · rw [if_pos c1] at H
      refine ev_bt hc_X12_things (fe_X12_things (pc := 25) rfl) rfl c1 ?_
      exact Ev.weak (ci_le_c (Or.inr rfl) (ci_le_c (Or.inr rfl) (ci_le_c (Or.inl rfl) (ci_le_c (Or.inl rfl) (ci_le_n))))) (eb_X12_things_117 hd H)
    · rw [if_neg c1] at H
      refine ev_bf hc_X12_things (fe_X12_things (pc := 25) rfl) rfl c1 ?_
      refine ev_go hc_X12_things (k := 1) (pc' := 29) (L' := [.ref l0, .int l1, .int l2, ci_junk]) (S' := [.ref l0]) rfl ?_
      obtain ⟨q2, eq2, H⟩ := Option.bind_eq_some_iff.mp H
      refine ev_call (vs := [.ref l0]) (rest := []) (q := q_X12_fine) hc_X12_things (Or.inr rfl) (fe_X12_things (pc := 29) rfl) ms_183 rfl rfl (Nat.le_of_ble_eq_true rfl) (kO_recv (K_X12_fine eq2)) (E_X12_fine eq2 (by omega)) rfl ?_
      show Ev xs N (d + 1) 192 32 [.ref l0, .int l1, .int l2, ci_junk] [.int q2.1] q2.2 nx _
      by_cases c3 : q2.1 = 0
      · rw [if_pos c3] at H
        refine ev_bt hc_X12_things (fe_X12_things (pc := 32) rfl) rfl c3 ?_
        exact Ev.weak (ci_le_c (Or.inr rfl) (ci_le_c (Or.inr rfl) (ci_le_c (Or.inl rfl) (ci_le_c (Or.inl rfl) (ci_le_n))))) (eb_X12_things_117 hd H)
      · rw [if_neg c3] at H
        refine ev_bf hc_X12_things (fe_X12_things (pc := 32) rfl) rfl c3 ?_
        refine ev_go hc_X12_things (k := 1) (pc' := 36) (L' := [.ref l0, .int l1, .int l2, ci_junk]) (S' := [.ref l0]) rfl ?_
        obtain ⟨v4, ev4, H⟩ := Option.bind_eq_some_iff.mp H
        refine ev_4 hc_X12_things (fe_X12_things (pc := 36) rfl) (gI_gf ev4) ?_
        refine ev_go hc_X12_things (k := 3) (pc' := 43) (L' := [.ref l0, .int l1, .int l2, ci_junk]) (S' := [.int 12, .int (v4 + l1)]) rfl ?_
        by_cases c5 : (v4 + l1) = 12
        · rw [if_pos c5] at H
          refine ev_bt hc_X12_things (fe_X12_things (pc := 43) rfl) rfl c5 ?_
          refine ev_go hc_X12_things (k := 2) (pc' := 48) (L' := [.ref l0, .int l1, .int l2, ci_junk]) (S' := [.ref l0, .ref l0]) rfl ?_
          obtain ⟨v6, ev6, H⟩ := Option.bind_eq_some_iff.mp H
          refine ev_4 hc_X12_things (fe_X12_things (pc := 48) rfl) (gI_gf ev6) ?_
          obtain ⟨h7, eh7, H⟩ := Option.bind_eq_some_iff.mp H
          refine ev_call (vs := [.ref l0, .int v6]) (rest := []) (q := q_X12_fault) hc_X12_things (Or.inr rfl) (fe_X12_things (pc := 51) rfl) ms_184 rfl rfl (Nat.le_of_ble_eq_true rfl) (kO_recv (K_X12_fault eh7)) (E_X12_fault eh7 (by omega)) rfl ?_
          show Ev xs N (d + 1) 192 54 [.ref l0, .int l1, .int l2, ci_junk] [] h7 nx _
          refine ev_go hc_X12_things (k := 1) (pc' := 104) (L' := [.ref l0, .int l1, .int l2, ci_junk]) (S' := []) rfl ?_
          exact Ev.weak (ci_le_c (Or.inr rfl) (ci_le_c (Or.inr rfl) (ci_le_c (Or.inl rfl) (ci_le_c (Or.inl rfl) (ci_le_n))))) (eb_X12_things_104 hd ih H)
        · rw [if_neg c5] at H
          refine ev_bf hc_X12_things (fe_X12_things (pc := 43) rfl) rfl c5 ?_
          refine ev_go hc_X12_things (k := 1) (pc' := 58) (L' := [.ref l0, .int l1, .int l2, ci_junk]) (S' := [.ref l0]) rfl ?_
          obtain ⟨v8, ev8, H⟩ := Option.bind_eq_some_iff.mp H
          refine ev_4 hc_X12_things (fe_X12_things (pc := 58) rfl) (gR_gf ev8) ?_
          refine ev_go hc_X12_things (k := 6) (pc' := 67) (L' := [.ref l0, .int l1, .int l2, ci_junk]) (S' := [.int 0, .int 0, .ref l0, .int (2 * l1), .ref v8]) rfl ?_
          obtain ⟨q9, eq9, H⟩ := Option.bind_eq_some_iff.mp H
          refine ev_call (vs := [.ref l0, .int 0, .int 0]) (rest := [.int (2 * l1), .ref v8]) (q := q_X12_letters) hc_X12_things (Or.inr rfl) (fe_X12_things (pc := 67) rfl) ms_190 rfl rfl (Nat.le_of_ble_eq_true rfl) (kO_recv (K_X12_letters eq9)) (E_X12_letters eq9 (by omega)) rfl ?_
          show Ev xs N (d + 1) 192 70 [.ref l0, .int l1, .int l2, ci_junk] [.int q9.1, .int (2 * l1), .ref v8] q9.2 nx _
          obtain ⟨h10, eh10, H⟩ := Option.bind_eq_some_iff.mp H
          refine ev_5 hc_X12_things (fe_X12_things (pc := 70) rfl) (wI_as eh10) ?_
          refine ev_go hc_X12_things (k := 1) (pc' := 72) (L' := [.ref l0, .int l1, .int l2, ci_junk]) (S' := [.ref l0]) rfl ?_
          obtain ⟨v11, ev11, H⟩ := Option.bind_eq_some_iff.mp H
          refine ev_4 hc_X12_things (fe_X12_things (pc := 72) rfl) (gR_gf ev11) ?_
          refine ev_go hc_X12_things (k := 7) (pc' := 83) (L' := [.ref l0, .int l1, .int l2, ci_junk]) (S' := [.int 45, .ref l0, .int ((2 * l1) + 1), .ref v11]) rfl ?_
          obtain ⟨q12, eq12, H⟩ := Option.bind_eq_some_iff.mp H
          refine ev_call (vs := [.ref l0, .int 45]) (rest := [.int ((2 * l1) + 1), .ref v11]) (q := q_X12_passes) hc_X12_things (Or.inr rfl) (fe_X12_things (pc := 83) rfl) ms_185 rfl rfl (Nat.le_of_ble_eq_true rfl) (kO_recv (K_X12_passes eq12)) (E_X12_passes eq12 (by omega)) rfl ?_
          show Ev xs N (d + 1) 192 86 [.ref l0, .int l1, .int l2, ci_junk] [.int q12.1, .int ((2 * l1) + 1), .ref v11] q12.2 nx _
          by_cases c13 : q12.1 = 0
          · rw [if_pos c13] at H
            refine ev_bt hc_X12_things (fe_X12_things (pc := 86) rfl) rfl c13 ?_
            refine ev_go hc_X12_things (k := 3) (pc' := 97) (L' := [.ref l0, .int l1, .int l2, ci_junk]) (S' := [.ref l0, .int 48, .ref l0, .int ((2 * l1) + 1), .ref v11]) rfl ?_
            obtain ⟨v14, ev14, H⟩ := Option.bind_eq_some_iff.mp H
            refine ev_4 hc_X12_things (fe_X12_things (pc := 97) rfl) (gI_gf ev14) ?_
            obtain ⟨q15, eq15, H⟩ := Option.bind_eq_some_iff.mp H
            refine ev_call (vs := [.ref l0, .int 48, .int v14]) (rest := [.int ((2 * l1) + 1), .ref v11]) (q := q_X12_oneOf) hc_X12_things (Or.inr rfl) (fe_X12_things (pc := 100) rfl) ms_187 rfl rfl (Nat.le_of_ble_eq_true rfl) (kO_recv (K_X12_oneOf eq15)) (E_X12_oneOf eq15 (by omega)) rfl ?_
            show Ev xs N (d + 1) 192 103 [.ref l0, .int l1, .int l2, ci_junk] [.int q15.1, .int ((2 * l1) + 1), .ref v11] q15.2 nx _
            exact Ev.weak (ci_le_c (Or.inr rfl) (ci_le_c (Or.inr rfl) (ci_le_c (Or.inl rfl) (ci_le_c (Or.inl rfl) (ci_le_n))))) (eb_X12_things_103 hd ih H)
          · rw [if_neg c13] at H
            refine ev_bf hc_X12_things (fe_X12_things (pc := 86) rfl) rfl c13 ?_
            refine ev_go hc_X12_things (k := 2) (pc' := 103) (L' := [.ref l0, .int l1, .int l2, ci_junk]) (S' := [.int ((-1)), .int ((2 * l1) + 1), .ref v11]) rfl ?_
            exact Ev.weak (ci_le_c (Or.inr rfl) (ci_le_c (Or.inr rfl) (ci_le_c (Or.inl rfl) (ci_le_c (Or.inl rfl) (ci_le_n))))) (eb_X12_things_103 hd ih H)
def F_X12_things (a0 : Nat) (h : ci_H) : Option (Int32 × ci_H) := if kO h a0 = some 12 then ((pF h a0 12 11 (.int 0)).bind fun h1 => (F_X12_beginText a0 76 h1).bind fun h2 => (gI h2 a0 12 13).bind fun v3 => if v3 = 0 then (some (0, h2)) else (b_X12_things_24 a0 bigN 0 1 h2)) else none
theorem K_X12_things {a0 : Nat} {h : ci_H} {r : Int32 × ci_H} (H : F_X12_things a0 h = some r) : kO h a0 = some 12 := by
  unfold F_X12_things at H
  by_cases c : kO h a0 = some 12
  · exact c
  · rw [if_neg c] at H; cases H
set_option maxHeartbeats 4000000 in
set_option maxRecDepth 20000 in
theorem E_X12_things {xs : Nat → Int32} {N d : Nat} {nx : ci_N} {a0 : Nat} {h : ci_H} {r : Int32 × ci_H} (H : F_X12_things a0 h = some r) (hd : 3 ≤ d) : Ev xs N d 192 0 (ci_entry [.ref a0] 4) [] h nx (oI r nx) := by
  obtain ⟨d, rfl⟩ : ∃ d2, d = d2 + 1 := ⟨d - 1, by omega⟩
  have hd : 2 ≤ d := by omega
  unfold F_X12_things at H
  by_cases ck : kO h a0 = some 12
  · rw [if_pos ck] at H
    show Ev xs N (d + 1) 192 0 [.ref a0, ci_junk, ci_junk, ci_junk] [] h nx _
    refine ev_go hc_X12_things (k := 2) (pc' := 2) (L' := [.ref a0, ci_junk, ci_junk, ci_junk]) (S' := [.int 0, .ref a0]) rfl ?_
    obtain ⟨h1, eh1, H⟩ := Option.bind_eq_some_iff.mp H
    refine ev_5 hc_X12_things (fe_X12_things (pc := 2) rfl) (pF_pf eh1) ?_
    refine ev_go hc_X12_things (k := 2) (pc' := 8) (L' := [.ref a0, ci_junk, ci_junk, ci_junk]) (S' := [.int 76, .ref a0]) rfl ?_
    obtain ⟨h2, eh2, H⟩ := Option.bind_eq_some_iff.mp H
    refine ev_call (vs := [.ref a0, .int 76]) (rest := []) (q := q_X12_beginText) hc_X12_things (Or.inr rfl) (fe_X12_things (pc := 8) rfl) ms_181 rfl rfl (Nat.le_of_ble_eq_true rfl) (kO_recv (K_X12_beginText eh2)) (E_X12_beginText eh2 (by omega)) rfl ?_
    show Ev xs N (d + 1) 192 11 [.ref a0, ci_junk, ci_junk, ci_junk] [] h2 nx _
    refine ev_go hc_X12_things (k := 1) (pc' := 12) (L' := [.ref a0, ci_junk, ci_junk, ci_junk]) (S' := [.ref a0]) rfl ?_
    obtain ⟨v3, ev3, H⟩ := Option.bind_eq_some_iff.mp H
    refine ev_4 hc_X12_things (fe_X12_things (pc := 12) rfl) (gI_gf ev3) ?_
    by_cases c4 : v3 = 0
    · rw [if_pos c4] at H
      refine ev_bt hc_X12_things (fe_X12_things (pc := 15) rfl) rfl c4 ?_
      refine ev_go hc_X12_things (k := 1) (pc' := 19) (L' := [.ref a0, ci_junk, ci_junk, ci_junk]) (S' := [.int 0]) rfl ?_
      obtain rfl := Option.some.inj H
      exact ev_8 hc_X12_things (fe_X12_things (pc := 19) rfl) rfl
    · rw [if_neg c4] at H
      refine ev_bf hc_X12_things (fe_X12_things (pc := 15) rfl) rfl c4 ?_
      refine ev_go hc_X12_things (k := 4) (pc' := 24) (L' := [.ref a0, .int 0, .int 1, ci_junk]) (S' := []) rfl ?_
      exact Ev.weak (ci_le_c (Or.inr rfl) (ci_le_c (Or.inr rfl) (ci_le_c (Or.inr rfl) (ci_le_c (Or.inl rfl) (ci_le_n))))) (eb_X12_things_24 hd bigN _ _ _ _ H)
  · rw [if_neg ck] at H; cases H
theorem hc_X12_kinds : ci_code (ci_Ms 193) = k_X12_kinds := rfl
theorem fe_X12_kinds {pc : Nat} {w : Option ci_I} (h : (k_X12_kinds)[pc]? = some w) : (k_X12_kinds)[pc]? = some w := h
def b_X12_kinds_136 (l0 : Nat) (l1 : Int32) : Nat → Int32 → ci_H → Option (Int32 × ci_H)
  | 0, _, _ => none
  | n + 1, l3, h => if l1 ≤ l3 then ((pF h l0 12 23 (.int 0)).bind fun h2 => (gI h2 l0 12 39).bind fun v3 => (pF h2 l0 12 39 (.int (v3 + 1))).bind fun h4 => some (l1, h4)) else ((gR h l0 12 4).bind fun v5 => (gI h l0 12 3).bind fun v6 => (gR h l0 12 17).bind fun v7 => (rI h v7 (2 * l3)).bind fun v8 => (wI h v5 v6 v8).bind fun h9 => (gR h9 l0 12 5).bind fun v10 => (gI h9 l0 12 3).bind fun v11 => (gR h9 l0 12 17).bind fun v12 => (rI h9 v12 ((2 * l3) + 1)).bind fun v13 => (wI h9 v10 v11 v13).bind fun h14 => (gI h14 l0 12 3).bind fun v15 => (pF h14 l0 12 3 (.int (v15 + 1))).bind fun h16 => b_X12_kinds_136 l0 l1 n (l3 + 1) h16)
set_option maxHeartbeats 4000000 in
set_option maxRecDepth 20000 in
theorem eb_X12_kinds_136 {xs : Nat → Int32} {N d : Nat} {nx : ci_N} {l0 : Nat} {l1 : Int32} (hd : 2 ≤ d) : ∀ (n : Nat) (l3 : Int32) (h : ci_H) (r : Int32 × ci_H), b_X12_kinds_136 l0 l1 n l3 h = some r → Ev xs N (d + 1) 193 136 [.ref l0, .int l1, ci_junk, .int l3] [] h nx (oI r nx) := by
  intro n
  induction n with
  | zero => intro l3 h r H; unfold b_X12_kinds_136 at H; cases H
  | succ n ih =>
    intro l3 h r H
    unfold b_X12_kinds_136 at H
    refine ev_go hc_X12_kinds (k := 2) (pc' := 138) (L' := [.ref l0, .int l1, ci_junk, .int l3]) (S' := [.int l1, .int l3]) rfl ?_
    by_cases c1 : l1 ≤ l3
    · rw [if_pos c1] at H
      refine ev_bt hc_X12_kinds (fe_X12_kinds (pc := 138) rfl) rfl c1 ?_
      refine ev_go hc_X12_kinds (k := 2) (pc' := 195) (L' := [.ref l0, .int l1, ci_junk, .int l3]) (S' := [.int 0, .ref l0]) rfl ?_
      obtain ⟨h2, eh2, H⟩ := Option.bind_eq_some_iff.mp H
      refine ev_5 hc_X12_kinds (fe_X12_kinds (pc := 195) rfl) (pF_pf eh2) ?_
      refine ev_go hc_X12_kinds (k := 2) (pc' := 200) (L' := [.ref l0, .int l1, ci_junk, .int l3]) (S' := [.ref l0, .ref l0]) rfl ?_
      obtain ⟨v3, ev3, H⟩ := Option.bind_eq_some_iff.mp H
      refine ev_4 hc_X12_kinds (fe_X12_kinds (pc := 200) rfl) (gI_gf ev3) ?_
      refine ev_go hc_X12_kinds (k := 2) (pc' := 205) (L' := [.ref l0, .int l1, ci_junk, .int l3]) (S' := [.int (v3 + 1), .ref l0]) rfl ?_
      obtain ⟨h4, eh4, H⟩ := Option.bind_eq_some_iff.mp H
      refine ev_5 hc_X12_kinds (fe_X12_kinds (pc := 205) rfl) (pF_pf eh4) ?_
      refine ev_go hc_X12_kinds (k := 1) (pc' := 209) (L' := [.ref l0, .int l1, ci_junk, .int l3]) (S' := [.int l1]) rfl ?_
      obtain rfl := Option.some.inj H
      exact ev_8 hc_X12_kinds (fe_X12_kinds (pc := 209) rfl) rfl
    · rw [if_neg c1] at H
      refine ev_bf hc_X12_kinds (fe_X12_kinds (pc := 138) rfl) rfl c1 ?_
      refine ev_go hc_X12_kinds (k := 1) (pc' := 142) (L' := [.ref l0, .int l1, ci_junk, .int l3]) (S' := [.ref l0]) rfl ?_
      obtain ⟨v5, ev5, H⟩ := Option.bind_eq_some_iff.mp H
      refine ev_4 hc_X12_kinds (fe_X12_kinds (pc := 142) rfl) (gR_gf ev5) ?_
      refine ev_go hc_X12_kinds (k := 1) (pc' := 146) (L' := [.ref l0, .int l1, ci_junk, .int l3]) (S' := [.ref l0, .ref v5]) rfl ?_
      obtain ⟨v6, ev6, H⟩ := Option.bind_eq_some_iff.mp H
      refine ev_4 hc_X12_kinds (fe_X12_kinds (pc := 146) rfl) (gI_gf ev6) ?_
      refine ev_go hc_X12_kinds (k := 1) (pc' := 150) (L' := [.ref l0, .int l1, ci_junk, .int l3]) (S' := [.ref l0, .int v6, .ref v5]) rfl ?_
      obtain ⟨v7, ev7, H⟩ := Option.bind_eq_some_iff.mp H
      refine ev_4 hc_X12_kinds (fe_X12_kinds (pc := 150) rfl) (gR_gf ev7) ?_
      refine ev_go hc_X12_kinds (k := 3) (pc' := 156) (L' := [.ref l0, .int l1, ci_junk, .int l3]) (S' := [.int (2 * l3), .ref v7, .int v6, .ref v5]) rfl ?_
      obtain ⟨v8, ev8, H⟩ := Option.bind_eq_some_iff.mp H
      refine ev_4 hc_X12_kinds (fe_X12_kinds (pc := 156) rfl) (rI_al ev8) ?_
      obtain ⟨h9, eh9, H⟩ := Option.bind_eq_some_iff.mp H
      refine ev_5 hc_X12_kinds (fe_X12_kinds (pc := 157) rfl) (wI_as eh9) ?_
      refine ev_go hc_X12_kinds (k := 1) (pc' := 159) (L' := [.ref l0, .int l1, ci_junk, .int l3]) (S' := [.ref l0]) rfl ?_
      obtain ⟨v10, ev10, H⟩ := Option.bind_eq_some_iff.mp H
      refine ev_4 hc_X12_kinds (fe_X12_kinds (pc := 159) rfl) (gR_gf ev10) ?_
      refine ev_go hc_X12_kinds (k := 1) (pc' := 163) (L' := [.ref l0, .int l1, ci_junk, .int l3]) (S' := [.ref l0, .ref v10]) rfl ?_
      obtain ⟨v11, ev11, H⟩ := Option.bind_eq_some_iff.mp H
      refine ev_4 hc_X12_kinds (fe_X12_kinds (pc := 163) rfl) (gI_gf ev11) ?_
      refine ev_go hc_X12_kinds (k := 1) (pc' := 167) (L' := [.ref l0, .int l1, ci_junk, .int l3]) (S' := [.ref l0, .int v11, .ref v10]) rfl ?_
      obtain ⟨v12, ev12, H⟩ := Option.bind_eq_some_iff.mp H
      refine ev_4 hc_X12_kinds (fe_X12_kinds (pc := 167) rfl) (gR_gf ev12) ?_
      refine ev_go hc_X12_kinds (k := 5) (pc' := 175) (L' := [.ref l0, .int l1, ci_junk, .int l3]) (S' := [.int ((2 * l3) + 1), .ref v12, .int v11, .ref v10]) rfl ?_
      obtain ⟨v13, ev13, H⟩ := Option.bind_eq_some_iff.mp H
      refine ev_4 hc_X12_kinds (fe_X12_kinds (pc := 175) rfl) (rI_al ev13) ?_
      obtain ⟨h14, eh14, H⟩ := Option.bind_eq_some_iff.mp H
      refine ev_5 hc_X12_kinds (fe_X12_kinds (pc := 176) rfl) (wI_as eh14) ?_
      refine ev_go hc_X12_kinds (k := 2) (pc' := 179) (L' := [.ref l0, .int l1, ci_junk, .int l3]) (S' := [.ref l0, .ref l0]) rfl ?_
      obtain ⟨v15, ev15, H⟩ := Option.bind_eq_some_iff.mp H
      refine ev_4 hc_X12_kinds (fe_X12_kinds (pc := 179) rfl) (gI_gf ev15) ?_
      refine ev_go hc_X12_kinds (k := 2) (pc' := 184) (L' := [.ref l0, .int l1, ci_junk, .int l3]) (S' := [.int (v15 + 1), .ref l0]) rfl ?_
      obtain ⟨h16, eh16, H⟩ := Option.bind_eq_some_iff.mp H
      refine ev_5 hc_X12_kinds (fe_X12_kinds (pc := 184) rfl) (pF_pf eh16) ?_
      refine ev_go hc_X12_kinds (k := 2) (pc' := 136) (L' := [.ref l0, .int l1, ci_junk, .int (l3 + 1)]) (S' := []) rfl ?_
      exact Ev.weak (ci_le_c (Or.inr rfl) (ci_le_c (Or.inr rfl) (ci_le_c (Or.inl rfl) (ci_le_c (Or.inr rfl) (ci_le_n))))) (ih _ _ _ H)
def b_X12_kinds_120 (l0 : Nat) (l1 : Int32)  (h : ci_H) : Option (Int32 × ci_H) := (F_X12_wasRight l0 h).bind fun q1 => if q1.1 = 0 then ((gI q1.2 l0 12 16).bind fun v3 => some (((-1)) - v3, q1.2)) else (b_X12_kinds_136 l0 l1 bigN 0 q1.2)
set_option maxHeartbeats 4000000 in
set_option maxRecDepth 20000 in
theorem eb_X12_kinds_120 {xs : Nat → Int32} {N d : Nat} {nx : ci_N} {l0 : Nat} {l1 : Int32} (hd : 2 ≤ d) {h : ci_H} {r : Int32 × ci_H} (H : b_X12_kinds_120 l0 l1 h = some r) : Ev xs N (d + 1) 193 120 [.ref l0, .int l1, ci_junk, ci_junk] [] h nx (oI r nx) := by
  unfold b_X12_kinds_120 at H
  refine ev_go hc_X12_kinds (k := 1) (pc' := 121) (L' := [.ref l0, .int l1, ci_junk, ci_junk]) (S' := [.ref l0]) rfl ?_
  obtain ⟨q1, eq1, H⟩ := Option.bind_eq_some_iff.mp H
  refine ev_call (vs := [.ref l0]) (rest := []) (q := q_X12_wasRight) hc_X12_kinds (Or.inr rfl) (fe_X12_kinds (pc := 121) rfl) ms_189 rfl rfl (Nat.le_of_ble_eq_true rfl) (kO_recv (K_X12_wasRight eq1)) (E_X12_wasRight eq1 (by omega)) rfl ?_
  show Ev xs N (d + 1) 193 124 [.ref l0, .int l1, ci_junk, ci_junk] [.int q1.1] q1.2 nx _
  by_cases c2 : q1.1 = 0
  · rw [if_pos c2] at H
    refine ev_bt hc_X12_kinds (fe_X12_kinds (pc := 124) rfl) rfl c2 ?_
    refine ev_go hc_X12_kinds (k := 2) (pc' := 129) (L' := [.ref l0, .int l1, ci_junk, ci_junk]) (S' := [.ref l0, .int ((-1))]) rfl ?_
    obtain ⟨v3, ev3, H⟩ := Option.bind_eq_some_iff.mp H
    refine ev_4 hc_X12_kinds (fe_X12_kinds (pc := 129) rfl) (gI_gf ev3) ?_
    refine ev_go hc_X12_kinds (k := 1) (pc' := 133) (L' := [.ref l0, .int l1, ci_junk, ci_junk]) (S' := [.int (((-1)) - v3)]) rfl ?_
    obtain rfl := Option.some.inj H
    exact ev_8 hc_X12_kinds (fe_X12_kinds (pc := 133) rfl) rfl
  · rw [if_neg c2] at H
    refine ev_bf hc_X12_kinds (fe_X12_kinds (pc := 124) rfl) rfl c2 ?_
    refine ev_go hc_X12_kinds (k := 2) (pc' := 136) (L' := [.ref l0, .int l1, ci_junk, .int 0]) (S' := []) rfl ?_
    exact Ev.weak (ci_le_c (Or.inr rfl) (ci_le_c (Or.inr rfl) (ci_le_c (Or.inl rfl) (ci_le_c (Or.inr rfl) (ci_le_n))))) (eb_X12_kinds_136 hd bigN _ _ _ H)
def b_X12_kinds_107 (r_24 : Int32 → Int32 → ci_H → Option (Int32 × ci_H)) (l0 : Nat) (l1 : Int32)  (h : ci_H) : Option (Int32 × ci_H) := (F_X12_passes l0 59 h).bind fun q1 => r_24 (l1 + 1) q1.1 q1.2
set_option maxHeartbeats 4000000 in
set_option maxRecDepth 20000 in
theorem eb_X12_kinds_107 {xs : Nat → Int32} {N d : Nat} {nx : ci_N} {r_24 : Int32 → Int32 → ci_H → Option (Int32 × ci_H)} {l0 : Nat} {l1 : Int32} (hd : 2 ≤ d) (h_24 : ∀ (l1 : Int32) (l2 : Int32) (h : ci_H) (r : Int32 × ci_H), r_24 l1 l2 h = some r → Ev xs N (d + 1) 193 24 [.ref l0, .int l1, .int l2, ci_junk] [] h nx (oI r nx)) {h : ci_H} {r : Int32 × ci_H} (H : b_X12_kinds_107 r_24 l0 l1 h = some r) : Ev xs N (d + 1) 193 107 [.ref l0, .int l1, ci_junk, ci_junk] [] h nx (oI r nx) := by
  unfold b_X12_kinds_107 at H
  refine ev_go hc_X12_kinds (k := 3) (pc' := 113) (L' := [.ref l0, .int (l1 + 1), ci_junk, ci_junk]) (S' := [.int 59, .ref l0]) rfl ?_
  obtain ⟨q1, eq1, H⟩ := Option.bind_eq_some_iff.mp H
  refine ev_call (vs := [.ref l0, .int 59]) (rest := []) (q := q_X12_passes) hc_X12_kinds (Or.inr rfl) (fe_X12_kinds (pc := 113) rfl) ms_185 rfl rfl (Nat.le_of_ble_eq_true rfl) (kO_recv (K_X12_passes eq1)) (E_X12_passes eq1 (by omega)) rfl ?_
  show Ev xs N (d + 1) 193 116 [.ref l0, .int (l1 + 1), ci_junk, ci_junk] [.int q1.1] q1.2 nx _
  refine ev_go hc_X12_kinds (k := 2) (pc' := 24) (L' := [.ref l0, .int (l1 + 1), .int q1.1, ci_junk]) (S' := []) rfl ?_
  exact Ev.weak (ci_le_c (Or.inr rfl) (ci_le_c (Or.inr rfl) (ci_le_c (Or.inr rfl) (ci_le_c (Or.inl rfl) (ci_le_n))))) (h_24 _ _ _ _ H)
def b_X12_kinds_106 (r_24 : Int32 → Int32 → ci_H → Option (Int32 × ci_H)) (l0 : Nat) (l1 : Int32) (s0 : Nat) (s1 : Int32) (s2 : Int32)  (h : ci_H) : Option (Int32 × ci_H) := (wI h s0 s1 s2).bind fun h1 => b_X12_kinds_107 r_24 l0 l1 h1
set_option maxHeartbeats 4000000 in
set_option maxRecDepth 20000 in
theorem eb_X12_kinds_106 {xs : Nat → Int32} {N d : Nat} {nx : ci_N} {r_24 : Int32 → Int32 → ci_H → Option (Int32 × ci_H)} {l0 : Nat} {l1 : Int32} {s0 : Nat} {s1 : Int32} {s2 : Int32} (hd : 2 ≤ d) (h_24 : ∀ (l1 : Int32) (l2 : Int32) (h : ci_H) (r : Int32 × ci_H), r_24 l1 l2 h = some r → Ev xs N (d + 1) 193 24 [.ref l0, .int l1, .int l2, ci_junk] [] h nx (oI r nx)) {h : ci_H} {r : Int32 × ci_H} (H : b_X12_kinds_106 r_24 l0 l1 s0 s1 s2 h = some r) : Ev xs N (d + 1) 193 106 [.ref l0, .int l1, ci_junk, ci_junk] [.int s2, .int s1, .ref s0] h nx (oI r nx) := by
  unfold b_X12_kinds_106 at H
  obtain ⟨h1, eh1, H⟩ := Option.bind_eq_some_iff.mp H
  refine ev_5 hc_X12_kinds (fe_X12_kinds (pc := 106) rfl) (wI_as eh1) ?_
  exact Ev.weak (ci_le_c (Or.inr rfl) (ci_le_c (Or.inr rfl) (ci_le_c (Or.inl rfl) (ci_le_c (Or.inl rfl) (ci_le_n))))) (eb_X12_kinds_107 hd h_24 H)
def b_X12_kinds_24 (l0 : Nat) : Nat → Int32 → Int32 → ci_H → Option (Int32 × ci_H)
  | 0, _, _, _ => none
  | n + 1, l1, l2, h => if l2 = 0 then (b_X12_kinds_120 l0 l1 h) else ((F_X12_fine l0 h).bind fun q2 => if q2.1 = 0 then (b_X12_kinds_120 l0 l1 q2.2) else ((gI q2.2 l0 12 3).bind fun v4 => if (v4 + l1) = 6 then ((gI q2.2 l0 12 15).bind fun v6 => (F_X12_fault l0 v6 q2.2).bind fun h7 => b_X12_kinds_107 (fun x0 x1 x2 => b_X12_kinds_24 l0 n x0 x1 x2) l0 l1 h7) else ((gR q2.2 l0 12 17).bind fun v8 => (F_X12_letters l0 0 1 q2.2).bind fun q9 => (wI q9.2 v8 (2 * l1) q9.1).bind fun h10 => (gR h10 l0 12 17).bind fun v11 => (F_X12_passes l0 33 h10).bind fun q12 => if q12.1 = 0 then (b_X12_kinds_106 (fun x0 x1 x2 => b_X12_kinds_24 l0 n x0 x1 x2) l0 l1 v11 ((2 * l1) + 1) 0 q12.2) else ((gR q12.2 l0 12 17).bind fun v14 => (rI q12.2 v14 (2 * l1)).bind fun v15 => (F_X12_letters l0 v15 1 q12.2).bind fun q16 => b_X12_kinds_106 (fun x0 x1 x2 => b_X12_kinds_24 l0 n x0 x1 x2) l0 l1 v11 ((2 * l1) + 1) q16.1 q16.2))))
set_option maxHeartbeats 4000000 in
set_option maxRecDepth 20000 in
theorem eb_X12_kinds_24 {xs : Nat → Int32} {N d : Nat} {nx : ci_N} {l0 : Nat} (hd : 2 ≤ d) : ∀ (n : Nat) (l1 : Int32) (l2 : Int32) (h : ci_H) (r : Int32 × ci_H), b_X12_kinds_24 l0 n l1 l2 h = some r → Ev xs N (d + 1) 193 24 [.ref l0, .int l1, .int l2, ci_junk] [] h nx (oI r nx) := by
  intro n
  induction n with
  | zero => intro l1 l2 h r H; unfold b_X12_kinds_24 at H; cases H
  | succ n ih =>
    intro l1 l2 h r H
    unfold b_X12_kinds_24 at H
    refine ev_go hc_X12_kinds (k := 1) (pc' := 25) (L' := [.ref l0, .int l1, .int l2, ci_junk]) (S' := [.int l2]) rfl ?_
    by_cases c1 : l2 = 0
    · rw [if_pos c1] at H
      refine ev_bt hc_X12_kinds (fe_X12_kinds (pc := 25) rfl) rfl c1 ?_
      exact Ev.weak (ci_le_c (Or.inr rfl) (ci_le_c (Or.inr rfl) (ci_le_c (Or.inl rfl) (ci_le_c (Or.inl rfl) (ci_le_n))))) (eb_X12_kinds_120 hd H)
    · rw [if_neg c1] at H
      refine ev_bf hc_X12_kinds (fe_X12_kinds (pc := 25) rfl) rfl c1 ?_
      refine ev_go hc_X12_kinds (k := 1) (pc' := 29) (L' := [.ref l0, .int l1, .int l2, ci_junk]) (S' := [.ref l0]) rfl ?_
      obtain ⟨q2, eq2, H⟩ := Option.bind_eq_some_iff.mp H
      refine ev_call (vs := [.ref l0]) (rest := []) (q := q_X12_fine) hc_X12_kinds (Or.inr rfl) (fe_X12_kinds (pc := 29) rfl) ms_183 rfl rfl (Nat.le_of_ble_eq_true rfl) (kO_recv (K_X12_fine eq2)) (E_X12_fine eq2 (by omega)) rfl ?_
      show Ev xs N (d + 1) 193 32 [.ref l0, .int l1, .int l2, ci_junk] [.int q2.1] q2.2 nx _
      by_cases c3 : q2.1 = 0
      · rw [if_pos c3] at H
        refine ev_bt hc_X12_kinds (fe_X12_kinds (pc := 32) rfl) rfl c3 ?_
        exact Ev.weak (ci_le_c (Or.inr rfl) (ci_le_c (Or.inr rfl) (ci_le_c (Or.inl rfl) (ci_le_c (Or.inl rfl) (ci_le_n))))) (eb_X12_kinds_120 hd H)
      · rw [if_neg c3] at H
        refine ev_bf hc_X12_kinds (fe_X12_kinds (pc := 32) rfl) rfl c3 ?_
        refine ev_go hc_X12_kinds (k := 1) (pc' := 36) (L' := [.ref l0, .int l1, .int l2, ci_junk]) (S' := [.ref l0]) rfl ?_
        obtain ⟨v4, ev4, H⟩ := Option.bind_eq_some_iff.mp H
        refine ev_4 hc_X12_kinds (fe_X12_kinds (pc := 36) rfl) (gI_gf ev4) ?_
        refine ev_go hc_X12_kinds (k := 3) (pc' := 43) (L' := [.ref l0, .int l1, .int l2, ci_junk]) (S' := [.int 6, .int (v4 + l1)]) rfl ?_
        by_cases c5 : (v4 + l1) = 6
        · rw [if_pos c5] at H
          refine ev_bt hc_X12_kinds (fe_X12_kinds (pc := 43) rfl) rfl c5 ?_
          refine ev_go hc_X12_kinds (k := 2) (pc' := 48) (L' := [.ref l0, .int l1, .int l2, ci_junk]) (S' := [.ref l0, .ref l0]) rfl ?_
          obtain ⟨v6, ev6, H⟩ := Option.bind_eq_some_iff.mp H
          refine ev_4 hc_X12_kinds (fe_X12_kinds (pc := 48) rfl) (gI_gf ev6) ?_
          obtain ⟨h7, eh7, H⟩ := Option.bind_eq_some_iff.mp H
          refine ev_call (vs := [.ref l0, .int v6]) (rest := []) (q := q_X12_fault) hc_X12_kinds (Or.inr rfl) (fe_X12_kinds (pc := 51) rfl) ms_184 rfl rfl (Nat.le_of_ble_eq_true rfl) (kO_recv (K_X12_fault eh7)) (E_X12_fault eh7 (by omega)) rfl ?_
          show Ev xs N (d + 1) 193 54 [.ref l0, .int l1, .int l2, ci_junk] [] h7 nx _
          refine ev_go hc_X12_kinds (k := 1) (pc' := 107) (L' := [.ref l0, .int l1, .int l2, ci_junk]) (S' := []) rfl ?_
          exact Ev.weak (ci_le_c (Or.inr rfl) (ci_le_c (Or.inr rfl) (ci_le_c (Or.inl rfl) (ci_le_c (Or.inl rfl) (ci_le_n))))) (eb_X12_kinds_107 hd ih H)
        · rw [if_neg c5] at H
          refine ev_bf hc_X12_kinds (fe_X12_kinds (pc := 43) rfl) rfl c5 ?_
          refine ev_go hc_X12_kinds (k := 1) (pc' := 58) (L' := [.ref l0, .int l1, .int l2, ci_junk]) (S' := [.ref l0]) rfl ?_
          obtain ⟨v8, ev8, H⟩ := Option.bind_eq_some_iff.mp H
          refine ev_4 hc_X12_kinds (fe_X12_kinds (pc := 58) rfl) (gR_gf ev8) ?_
          refine ev_go hc_X12_kinds (k := 6) (pc' := 67) (L' := [.ref l0, .int l1, .int l2, ci_junk]) (S' := [.int 1, .int 0, .ref l0, .int (2 * l1), .ref v8]) rfl ?_
          obtain ⟨q9, eq9, H⟩ := Option.bind_eq_some_iff.mp H
          refine ev_call (vs := [.ref l0, .int 0, .int 1]) (rest := [.int (2 * l1), .ref v8]) (q := q_X12_letters) hc_X12_kinds (Or.inr rfl) (fe_X12_kinds (pc := 67) rfl) ms_190 rfl rfl (Nat.le_of_ble_eq_true rfl) (kO_recv (K_X12_letters eq9)) (E_X12_letters eq9 (by omega)) rfl ?_
          show Ev xs N (d + 1) 193 70 [.ref l0, .int l1, .int l2, ci_junk] [.int q9.1, .int (2 * l1), .ref v8] q9.2 nx _
          obtain ⟨h10, eh10, H⟩ := Option.bind_eq_some_iff.mp H
          refine ev_5 hc_X12_kinds (fe_X12_kinds (pc := 70) rfl) (wI_as eh10) ?_
          refine ev_go hc_X12_kinds (k := 1) (pc' := 72) (L' := [.ref l0, .int l1, .int l2, ci_junk]) (S' := [.ref l0]) rfl ?_
          obtain ⟨v11, ev11, H⟩ := Option.bind_eq_some_iff.mp H
          refine ev_4 hc_X12_kinds (fe_X12_kinds (pc := 72) rfl) (gR_gf ev11) ?_
          refine ev_go hc_X12_kinds (k := 7) (pc' := 83) (L' := [.ref l0, .int l1, .int l2, ci_junk]) (S' := [.int 33, .ref l0, .int ((2 * l1) + 1), .ref v11]) rfl ?_
          obtain ⟨q12, eq12, H⟩ := Option.bind_eq_some_iff.mp H
          refine ev_call (vs := [.ref l0, .int 33]) (rest := [.int ((2 * l1) + 1), .ref v11]) (q := q_X12_passes) hc_X12_kinds (Or.inr rfl) (fe_X12_kinds (pc := 83) rfl) ms_185 rfl rfl (Nat.le_of_ble_eq_true rfl) (kO_recv (K_X12_passes eq12)) (E_X12_passes eq12 (by omega)) rfl ?_
          show Ev xs N (d + 1) 193 86 [.ref l0, .int l1, .int l2, ci_junk] [.int q12.1, .int ((2 * l1) + 1), .ref v11] q12.2 nx _
          by_cases c13 : q12.1 = 0
          · rw [if_pos c13] at H
            refine ev_bt hc_X12_kinds (fe_X12_kinds (pc := 86) rfl) rfl c13 ?_
            refine ev_go hc_X12_kinds (k := 1) (pc' := 106) (L' := [.ref l0, .int l1, .int l2, ci_junk]) (S' := [.int 0, .int ((2 * l1) + 1), .ref v11]) rfl ?_
            exact Ev.weak (ci_le_c (Or.inr rfl) (ci_le_c (Or.inr rfl) (ci_le_c (Or.inl rfl) (ci_le_c (Or.inl rfl) (ci_le_n))))) (eb_X12_kinds_106 hd ih H)
          · rw [if_neg c13] at H
            refine ev_bf hc_X12_kinds (fe_X12_kinds (pc := 86) rfl) rfl c13 ?_
            refine ev_go hc_X12_kinds (k := 2) (pc' := 91) (L' := [.ref l0, .int l1, .int l2, ci_junk]) (S' := [.ref l0, .ref l0, .int ((2 * l1) + 1), .ref v11]) rfl ?_
            obtain ⟨v14, ev14, H⟩ := Option.bind_eq_some_iff.mp H
            refine ev_4 hc_X12_kinds (fe_X12_kinds (pc := 91) rfl) (gR_gf ev14) ?_
            refine ev_go hc_X12_kinds (k := 3) (pc' := 97) (L' := [.ref l0, .int l1, .int l2, ci_junk]) (S' := [.int (2 * l1), .ref v14, .ref l0, .int ((2 * l1) + 1), .ref v11]) rfl ?_
            obtain ⟨v15, ev15, H⟩ := Option.bind_eq_some_iff.mp H
            refine ev_4 hc_X12_kinds (fe_X12_kinds (pc := 97) rfl) (rI_al ev15) ?_
            refine ev_go hc_X12_kinds (k := 1) (pc' := 99) (L' := [.ref l0, .int l1, .int l2, ci_junk]) (S' := [.int 1, .int v15, .ref l0, .int ((2 * l1) + 1), .ref v11]) rfl ?_
            obtain ⟨q16, eq16, H⟩ := Option.bind_eq_some_iff.mp H
            refine ev_call (vs := [.ref l0, .int v15, .int 1]) (rest := [.int ((2 * l1) + 1), .ref v11]) (q := q_X12_letters) hc_X12_kinds (Or.inr rfl) (fe_X12_kinds (pc := 99) rfl) ms_190 rfl rfl (Nat.le_of_ble_eq_true rfl) (kO_recv (K_X12_letters eq16)) (E_X12_letters eq16 (by omega)) rfl ?_
            show Ev xs N (d + 1) 193 102 [.ref l0, .int l1, .int l2, ci_junk] [.int q16.1, .int ((2 * l1) + 1), .ref v11] q16.2 nx _
            refine ev_go hc_X12_kinds (k := 1) (pc' := 106) (L' := [.ref l0, .int l1, .int l2, ci_junk]) (S' := [.int q16.1, .int ((2 * l1) + 1), .ref v11]) rfl ?_
            exact Ev.weak (ci_le_c (Or.inr rfl) (ci_le_c (Or.inr rfl) (ci_le_c (Or.inl rfl) (ci_le_c (Or.inl rfl) (ci_le_n))))) (eb_X12_kinds_106 hd ih H)
def F_X12_kinds (a0 : Nat) (h : ci_H) : Option (Int32 × ci_H) := if kO h a0 = some 12 then ((pF h a0 12 11 (.int 0)).bind fun h1 => (F_X12_beginText a0 60 h1).bind fun h2 => (gI h2 a0 12 13).bind fun v3 => if v3 = 0 then (some (0, h2)) else (b_X12_kinds_24 a0 bigN 0 1 h2)) else none
theorem K_X12_kinds {a0 : Nat} {h : ci_H} {r : Int32 × ci_H} (H : F_X12_kinds a0 h = some r) : kO h a0 = some 12 := by
  unfold F_X12_kinds at H
  by_cases c : kO h a0 = some 12
  · exact c
  · rw [if_neg c] at H; cases H
set_option maxHeartbeats 4000000 in
set_option maxRecDepth 20000 in
theorem E_X12_kinds {xs : Nat → Int32} {N d : Nat} {nx : ci_N} {a0 : Nat} {h : ci_H} {r : Int32 × ci_H} (H : F_X12_kinds a0 h = some r) (hd : 3 ≤ d) : Ev xs N d 193 0 (ci_entry [.ref a0] 4) [] h nx (oI r nx) := by
  obtain ⟨d, rfl⟩ : ∃ d2, d = d2 + 1 := ⟨d - 1, by omega⟩
  have hd : 2 ≤ d := by omega
  unfold F_X12_kinds at H
  by_cases ck : kO h a0 = some 12
  · rw [if_pos ck] at H
    show Ev xs N (d + 1) 193 0 [.ref a0, ci_junk, ci_junk, ci_junk] [] h nx _
    refine ev_go hc_X12_kinds (k := 2) (pc' := 2) (L' := [.ref a0, ci_junk, ci_junk, ci_junk]) (S' := [.int 0, .ref a0]) rfl ?_
    obtain ⟨h1, eh1, H⟩ := Option.bind_eq_some_iff.mp H
    refine ev_5 hc_X12_kinds (fe_X12_kinds (pc := 2) rfl) (pF_pf eh1) ?_
    refine ev_go hc_X12_kinds (k := 2) (pc' := 8) (L' := [.ref a0, ci_junk, ci_junk, ci_junk]) (S' := [.int 60, .ref a0]) rfl ?_
    obtain ⟨h2, eh2, H⟩ := Option.bind_eq_some_iff.mp H
    refine ev_call (vs := [.ref a0, .int 60]) (rest := []) (q := q_X12_beginText) hc_X12_kinds (Or.inr rfl) (fe_X12_kinds (pc := 8) rfl) ms_181 rfl rfl (Nat.le_of_ble_eq_true rfl) (kO_recv (K_X12_beginText eh2)) (E_X12_beginText eh2 (by omega)) rfl ?_
    show Ev xs N (d + 1) 193 11 [.ref a0, ci_junk, ci_junk, ci_junk] [] h2 nx _
    refine ev_go hc_X12_kinds (k := 1) (pc' := 12) (L' := [.ref a0, ci_junk, ci_junk, ci_junk]) (S' := [.ref a0]) rfl ?_
    obtain ⟨v3, ev3, H⟩ := Option.bind_eq_some_iff.mp H
    refine ev_4 hc_X12_kinds (fe_X12_kinds (pc := 12) rfl) (gI_gf ev3) ?_
    by_cases c4 : v3 = 0
    · rw [if_pos c4] at H
      refine ev_bt hc_X12_kinds (fe_X12_kinds (pc := 15) rfl) rfl c4 ?_
      refine ev_go hc_X12_kinds (k := 1) (pc' := 19) (L' := [.ref a0, ci_junk, ci_junk, ci_junk]) (S' := [.int 0]) rfl ?_
      obtain rfl := Option.some.inj H
      exact ev_8 hc_X12_kinds (fe_X12_kinds (pc := 19) rfl) rfl
    · rw [if_neg c4] at H
      refine ev_bf hc_X12_kinds (fe_X12_kinds (pc := 15) rfl) rfl c4 ?_
      refine ev_go hc_X12_kinds (k := 4) (pc' := 24) (L' := [.ref a0, .int 0, .int 1, ci_junk]) (S' := []) rfl ?_
      exact Ev.weak (ci_le_c (Or.inr rfl) (ci_le_c (Or.inr rfl) (ci_le_c (Or.inr rfl) (ci_le_c (Or.inl rfl) (ci_le_n))))) (eb_X12_kinds_24 hd bigN _ _ _ _ H)
  · rw [if_neg ck] at H; cases H
theorem hc_X12_letterOf : ci_code (ci_Ms 197) = k_X12_letterOf := rfl
theorem fe_X12_letterOf {pc : Nat} {w : Option ci_I} (h : (k_X12_letterOf)[pc]? = some w) : (k_X12_letterOf)[pc]? = some w := h
def F_X12_letterOf (a0 : Int32) (h : ci_H) : Option (Int32 × ci_H) := if a0 = 116 then (some (0, h)) else (if a0 = 107 then (some (1, h)) else (if a0 = 104 then (some (2, h)) else (if a0 = 110 then (some (3, h)) else (if a0 = 105 then (some (4, h)) else (if a0 = 111 then (some (5, h)) else (some ((-1), h)))))))
set_option maxHeartbeats 4000000 in
set_option maxRecDepth 20000 in
theorem E_X12_letterOf {xs : Nat → Int32} {N d : Nat} {nx : ci_N} {a0 : Int32} {h : ci_H} {r : Int32 × ci_H} (H : F_X12_letterOf a0 h = some r) (hd : 0 ≤ d) : Ev xs N d 197 0 (ci_entry [.int a0] 1) [] h nx (oI r nx) := by
  unfold F_X12_letterOf at H
  show Ev xs N d 197 0 [.int a0] [] h nx _
  refine ev_go hc_X12_letterOf (k := 2) (pc' := 3) (L' := [.int a0]) (S' := [.int 116, .int a0]) rfl ?_
  by_cases c1 : a0 = 116
  · rw [if_pos c1] at H
    refine ev_bt hc_X12_letterOf (fe_X12_letterOf (pc := 3) rfl) rfl c1 ?_
    refine ev_go hc_X12_letterOf (k := 2) (pc' := 61) (L' := [.int a0]) (S' := [.int 0]) rfl ?_
    obtain rfl := Option.some.inj H
    exact ev_8 hc_X12_letterOf (fe_X12_letterOf (pc := 61) rfl) rfl
  · rw [if_neg c1] at H
    refine ev_bf hc_X12_letterOf (fe_X12_letterOf (pc := 3) rfl) rfl c1 ?_
    refine ev_go hc_X12_letterOf (k := 2) (pc' := 13) (L' := [.int a0]) (S' := [.int 107, .int a0]) rfl ?_
    by_cases c2 : a0 = 107
    · rw [if_pos c2] at H
      refine ev_bt hc_X12_letterOf (fe_X12_letterOf (pc := 13) rfl) rfl c2 ?_
      refine ev_go hc_X12_letterOf (k := 2) (pc' := 61) (L' := [.int a0]) (S' := [.int 1]) rfl ?_
      obtain rfl := Option.some.inj H
      exact ev_8 hc_X12_letterOf (fe_X12_letterOf (pc := 61) rfl) rfl
    · rw [if_neg c2] at H
      refine ev_bf hc_X12_letterOf (fe_X12_letterOf (pc := 13) rfl) rfl c2 ?_
      refine ev_go hc_X12_letterOf (k := 2) (pc' := 23) (L' := [.int a0]) (S' := [.int 104, .int a0]) rfl ?_
      by_cases c3 : a0 = 104
      · rw [if_pos c3] at H
        refine ev_bt hc_X12_letterOf (fe_X12_letterOf (pc := 23) rfl) rfl c3 ?_
        refine ev_go hc_X12_letterOf (k := 2) (pc' := 61) (L' := [.int a0]) (S' := [.int 2]) rfl ?_
        obtain rfl := Option.some.inj H
        exact ev_8 hc_X12_letterOf (fe_X12_letterOf (pc := 61) rfl) rfl
      · rw [if_neg c3] at H
        refine ev_bf hc_X12_letterOf (fe_X12_letterOf (pc := 23) rfl) rfl c3 ?_
        refine ev_go hc_X12_letterOf (k := 2) (pc' := 33) (L' := [.int a0]) (S' := [.int 110, .int a0]) rfl ?_
        by_cases c4 : a0 = 110
        · rw [if_pos c4] at H
          refine ev_bt hc_X12_letterOf (fe_X12_letterOf (pc := 33) rfl) rfl c4 ?_
          refine ev_go hc_X12_letterOf (k := 2) (pc' := 61) (L' := [.int a0]) (S' := [.int 3]) rfl ?_
          obtain rfl := Option.some.inj H
          exact ev_8 hc_X12_letterOf (fe_X12_letterOf (pc := 61) rfl) rfl
        · rw [if_neg c4] at H
          refine ev_bf hc_X12_letterOf (fe_X12_letterOf (pc := 33) rfl) rfl c4 ?_
          refine ev_go hc_X12_letterOf (k := 2) (pc' := 43) (L' := [.int a0]) (S' := [.int 105, .int a0]) rfl ?_
          by_cases c5 : a0 = 105
          · rw [if_pos c5] at H
            refine ev_bt hc_X12_letterOf (fe_X12_letterOf (pc := 43) rfl) rfl c5 ?_
            refine ev_go hc_X12_letterOf (k := 2) (pc' := 61) (L' := [.int a0]) (S' := [.int 4]) rfl ?_
            obtain rfl := Option.some.inj H
            exact ev_8 hc_X12_letterOf (fe_X12_letterOf (pc := 61) rfl) rfl
          · rw [if_neg c5] at H
            refine ev_bf hc_X12_letterOf (fe_X12_letterOf (pc := 43) rfl) rfl c5 ?_
            refine ev_go hc_X12_letterOf (k := 2) (pc' := 53) (L' := [.int a0]) (S' := [.int 111, .int a0]) rfl ?_
            by_cases c6 : a0 = 111
            · rw [if_pos c6] at H
              refine ev_bt hc_X12_letterOf (fe_X12_letterOf (pc := 53) rfl) rfl c6 ?_
              refine ev_go hc_X12_letterOf (k := 2) (pc' := 61) (L' := [.int a0]) (S' := [.int 5]) rfl ?_
              obtain rfl := Option.some.inj H
              exact ev_8 hc_X12_letterOf (fe_X12_letterOf (pc := 61) rfl) rfl
            · rw [if_neg c6] at H
              refine ev_bf hc_X12_letterOf (fe_X12_letterOf (pc := 53) rfl) rfl c6 ?_
              refine ev_go hc_X12_letterOf (k := 1) (pc' := 61) (L' := [.int a0]) (S' := [.int ((-1))]) rfl ?_
              obtain rfl := Option.some.inj H
              exact ev_8 hc_X12_letterOf (fe_X12_letterOf (pc := 61) rfl) rfl
def mg_X12_held (j : Nat) : Nat := match j with
  | 0 => 194
  | 1 => 195
  | 2 => 196
  | _ => 198
theorem hc_X12_held : ci_code (ci_Ms 194) = k_X12_held := rfl
theorem fe_X12_held {pc : Nat} {w : Option ci_I} (h : (k_X12_held)[pc]? = some w) : (k_X12_held)[pc]? = some w := h
def G_X12_held (rc : Nat → Nat → Int32 → ci_H → Option (Int32 × ci_H)) (a0 : Nat) (a1 : Int32) (h : ci_H) : Option (Int32 × ci_H) := if kO h a0 = some 12 then ((rc 1 a0 a1 h).bind fun q1 => (F_X12_passes a0 60 q1.2).bind fun q2 => if q2.1 = 0 then ((F_X12_passes a0 62 q2.2).bind fun q4 => if q4.1 = 0 then ((F_X12_passes a0 61 q4.2).bind fun q6 => if q6.1 = 0 then (some (q1.1, q6.2)) else ((rc 1 a0 a1 q6.2).bind fun q8 => if q1.1 = q8.1 then (some (1, q8.2)) else (some (0, q8.2)))) else ((rc 1 a0 a1 q4.2).bind fun q10 => if q1.1 ≤ q10.1 then (some (0, q10.2)) else (some (1, q10.2)))) else ((rc 1 a0 a1 q2.2).bind fun q12 => if q12.1 ≤ q1.1 then (some (0, q12.2)) else (some (1, q12.2)))) else none
theorem KG_X12_held {rc : Nat → Nat → Int32 → ci_H → Option (Int32 × ci_H)} {a0 : Nat} {a1 : Int32} {h : ci_H} {r : Int32 × ci_H} (H : G_X12_held rc a0 a1 h = some r) : kO h a0 = some 12 := by
  unfold G_X12_held at H
  by_cases c : kO h a0 = some 12
  · exact c
  · rw [if_neg c] at H; cases H
set_option maxHeartbeats 4000000 in
set_option maxRecDepth 20000 in
theorem EG_X12_held {xs : Nat → Int32} {N d : Nat} {nx : ci_N} {rc : Nat → Nat → Int32 → ci_H → Option (Int32 × ci_H)} {a0 : Nat} {a1 : Int32} (hd : 1 ≤ d) (hrc : ∀ (j : Nat) (a0 : Nat) (a1 : Int32) (h : ci_H) (r : Int32 × ci_H), rc j a0 a1 h = some r → Ev xs N d (mg_X12_held j) 0 (ci_entry [.ref a0, .int a1] (ci_n (ci_Ms (mg_X12_held j)))) [] h nx (oI r nx)) (hrk : ∀ (j : Nat) (a0 : Nat) (a1 : Int32) (h : ci_H) (r : Int32 × ci_H), rc j a0 a1 h = some r → kO h a0 = some 12) {h : ci_H} {r : Int32 × ci_H} (H : G_X12_held rc a0 a1 h = some r) : Ev xs N (d + 1) 194 0 (ci_entry [.ref a0, .int a1] 3) [] h nx (oI r nx) := by
  unfold G_X12_held at H
  by_cases ck : kO h a0 = some 12
  · rw [if_pos ck] at H
    show Ev xs N (d + 1) 194 0 [.ref a0, .int a1, ci_junk] [] h nx _
    refine ev_go hc_X12_held (k := 2) (pc' := 2) (L' := [.ref a0, .int a1, ci_junk]) (S' := [.int a1, .ref a0]) rfl ?_
    obtain ⟨q1, eq1, H⟩ := Option.bind_eq_some_iff.mp H
    refine ev_call (vs := [.ref a0, .int a1]) (rest := []) (q := q_X12_sum) hc_X12_held (Or.inr rfl) (fe_X12_held (pc := 2) rfl) ms_195 rfl rfl (Nat.le_of_ble_eq_true rfl) (kO_recv (hrk _ _ _ _ _ eq1)) (hrc 1 _ _ _ _ eq1) rfl ?_
    show Ev xs N (d + 1) 194 5 [.ref a0, .int a1, ci_junk] [.int q1.1] q1.2 nx _
    refine ev_go hc_X12_held (k := 3) (pc' := 9) (L' := [.ref a0, .int a1, .int q1.1]) (S' := [.int 60, .ref a0]) rfl ?_
    obtain ⟨q2, eq2, H⟩ := Option.bind_eq_some_iff.mp H
    refine ev_call (vs := [.ref a0, .int 60]) (rest := []) (q := q_X12_passes) hc_X12_held (Or.inr rfl) (fe_X12_held (pc := 9) rfl) ms_185 rfl rfl (Nat.le_of_ble_eq_true rfl) (kO_recv (K_X12_passes eq2)) (E_X12_passes eq2 (by omega)) rfl ?_
    show Ev xs N (d + 1) 194 12 [.ref a0, .int a1, .int q1.1] [.int q2.1] q2.2 nx _
    by_cases c3 : q2.1 = 0
    · rw [if_pos c3] at H
      refine ev_bt hc_X12_held (fe_X12_held (pc := 12) rfl) rfl c3 ?_
      refine ev_go hc_X12_held (k := 2) (pc' := 33) (L' := [.ref a0, .int a1, .int q1.1]) (S' := [.int 62, .ref a0]) rfl ?_
      obtain ⟨q4, eq4, H⟩ := Option.bind_eq_some_iff.mp H
      refine ev_call (vs := [.ref a0, .int 62]) (rest := []) (q := q_X12_passes) hc_X12_held (Or.inr rfl) (fe_X12_held (pc := 33) rfl) ms_185 rfl rfl (Nat.le_of_ble_eq_true rfl) (kO_recv (K_X12_passes eq4)) (E_X12_passes eq4 (by omega)) rfl ?_
      show Ev xs N (d + 1) 194 36 [.ref a0, .int a1, .int q1.1] [.int q4.1] q4.2 nx _
      by_cases c5 : q4.1 = 0
      · rw [if_pos c5] at H
        refine ev_bt hc_X12_held (fe_X12_held (pc := 36) rfl) rfl c5 ?_
        refine ev_go hc_X12_held (k := 2) (pc' := 57) (L' := [.ref a0, .int a1, .int q1.1]) (S' := [.int 61, .ref a0]) rfl ?_
        obtain ⟨q6, eq6, H⟩ := Option.bind_eq_some_iff.mp H
        refine ev_call (vs := [.ref a0, .int 61]) (rest := []) (q := q_X12_passes) hc_X12_held (Or.inr rfl) (fe_X12_held (pc := 57) rfl) ms_185 rfl rfl (Nat.le_of_ble_eq_true rfl) (kO_recv (K_X12_passes eq6)) (E_X12_passes eq6 (by omega)) rfl ?_
        show Ev xs N (d + 1) 194 60 [.ref a0, .int a1, .int q1.1] [.int q6.1] q6.2 nx _
        by_cases c7 : q6.1 = 0
        · rw [if_pos c7] at H
          refine ev_bt hc_X12_held (fe_X12_held (pc := 60) rfl) rfl c7 ?_
          refine ev_go hc_X12_held (k := 1) (pc' := 79) (L' := [.ref a0, .int a1, .int q1.1]) (S' := [.int q1.1]) rfl ?_
          obtain rfl := Option.some.inj H
          exact ev_8 hc_X12_held (fe_X12_held (pc := 79) rfl) rfl
        · rw [if_neg c7] at H
          refine ev_bf hc_X12_held (fe_X12_held (pc := 60) rfl) rfl c7 ?_
          refine ev_go hc_X12_held (k := 3) (pc' := 66) (L' := [.ref a0, .int a1, .int q1.1]) (S' := [.int a1, .ref a0, .int q1.1]) rfl ?_
          obtain ⟨q8, eq8, H⟩ := Option.bind_eq_some_iff.mp H
          refine ev_call (vs := [.ref a0, .int a1]) (rest := [.int q1.1]) (q := q_X12_sum) hc_X12_held (Or.inr rfl) (fe_X12_held (pc := 66) rfl) ms_195 rfl rfl (Nat.le_of_ble_eq_true rfl) (kO_recv (hrk _ _ _ _ _ eq8)) (hrc 1 _ _ _ _ eq8) rfl ?_
          show Ev xs N (d + 1) 194 69 [.ref a0, .int a1, .int q1.1] [.int q8.1, .int q1.1] q8.2 nx _
          by_cases c9 : q1.1 = q8.1
          · rw [if_pos c9] at H
            refine ev_bt hc_X12_held (fe_X12_held (pc := 69) rfl) rfl c9 ?_
            refine ev_go hc_X12_held (k := 2) (pc' := 77) (L' := [.ref a0, .int a1, .int q1.1]) (S' := [.int 1]) rfl ?_
            obtain rfl := Option.some.inj H
            exact ev_8 hc_X12_held (fe_X12_held (pc := 77) rfl) rfl
          · rw [if_neg c9] at H
            refine ev_bf hc_X12_held (fe_X12_held (pc := 69) rfl) rfl c9 ?_
            refine ev_go hc_X12_held (k := 1) (pc' := 77) (L' := [.ref a0, .int a1, .int q1.1]) (S' := [.int 0]) rfl ?_
            obtain rfl := Option.some.inj H
            exact ev_8 hc_X12_held (fe_X12_held (pc := 77) rfl) rfl
      · rw [if_neg c5] at H
        refine ev_bf hc_X12_held (fe_X12_held (pc := 36) rfl) rfl c5 ?_
        refine ev_go hc_X12_held (k := 3) (pc' := 42) (L' := [.ref a0, .int a1, .int q1.1]) (S' := [.int a1, .ref a0, .int q1.1]) rfl ?_
        obtain ⟨q10, eq10, H⟩ := Option.bind_eq_some_iff.mp H
        refine ev_call (vs := [.ref a0, .int a1]) (rest := [.int q1.1]) (q := q_X12_sum) hc_X12_held (Or.inr rfl) (fe_X12_held (pc := 42) rfl) ms_195 rfl rfl (Nat.le_of_ble_eq_true rfl) (kO_recv (hrk _ _ _ _ _ eq10)) (hrc 1 _ _ _ _ eq10) rfl ?_
        show Ev xs N (d + 1) 194 45 [.ref a0, .int a1, .int q1.1] [.int q10.1, .int q1.1] q10.2 nx _
        by_cases c11 : q1.1 ≤ q10.1
        · rw [if_pos c11] at H
          refine ev_bt hc_X12_held (fe_X12_held (pc := 45) rfl) rfl c11 ?_
          refine ev_go hc_X12_held (k := 1) (pc' := 53) (L' := [.ref a0, .int a1, .int q1.1]) (S' := [.int 0]) rfl ?_
          obtain rfl := Option.some.inj H
          exact ev_8 hc_X12_held (fe_X12_held (pc := 53) rfl) rfl
        · rw [if_neg c11] at H
          refine ev_bf hc_X12_held (fe_X12_held (pc := 45) rfl) rfl c11 ?_
          refine ev_go hc_X12_held (k := 2) (pc' := 53) (L' := [.ref a0, .int a1, .int q1.1]) (S' := [.int 1]) rfl ?_
          obtain rfl := Option.some.inj H
          exact ev_8 hc_X12_held (fe_X12_held (pc := 53) rfl) rfl
    · rw [if_neg c3] at H
      refine ev_bf hc_X12_held (fe_X12_held (pc := 12) rfl) rfl c3 ?_
      refine ev_go hc_X12_held (k := 3) (pc' := 18) (L' := [.ref a0, .int a1, .int q1.1]) (S' := [.int a1, .ref a0, .int q1.1]) rfl ?_
      obtain ⟨q12, eq12, H⟩ := Option.bind_eq_some_iff.mp H
      refine ev_call (vs := [.ref a0, .int a1]) (rest := [.int q1.1]) (q := q_X12_sum) hc_X12_held (Or.inr rfl) (fe_X12_held (pc := 18) rfl) ms_195 rfl rfl (Nat.le_of_ble_eq_true rfl) (kO_recv (hrk _ _ _ _ _ eq12)) (hrc 1 _ _ _ _ eq12) rfl ?_
      show Ev xs N (d + 1) 194 21 [.ref a0, .int a1, .int q1.1] [.int q12.1, .int q1.1] q12.2 nx _
      by_cases c13 : q12.1 ≤ q1.1
      · rw [if_pos c13] at H
        refine ev_bt hc_X12_held (fe_X12_held (pc := 21) rfl) rfl c13 ?_
        refine ev_go hc_X12_held (k := 1) (pc' := 29) (L' := [.ref a0, .int a1, .int q1.1]) (S' := [.int 0]) rfl ?_
        obtain rfl := Option.some.inj H
        exact ev_8 hc_X12_held (fe_X12_held (pc := 29) rfl) rfl
      · rw [if_neg c13] at H
        refine ev_bf hc_X12_held (fe_X12_held (pc := 21) rfl) rfl c13 ?_
        refine ev_go hc_X12_held (k := 2) (pc' := 29) (L' := [.ref a0, .int a1, .int q1.1]) (S' := [.int 1]) rfl ?_
        obtain rfl := Option.some.inj H
        exact ev_8 hc_X12_held (fe_X12_held (pc := 29) rfl) rfl
  · rw [if_neg ck] at H; cases H
theorem hc_X12_sum : ci_code (ci_Ms 195) = k_X12_sum := rfl
theorem fe_X12_sum {pc : Nat} {w : Option ci_I} (h : (k_X12_sum)[pc]? = some w) : (k_X12_sum)[pc]? = some w := h
def b_X12_sum_78 (rc : Nat → Nat → Int32 → ci_H → Option (Int32 × ci_H)) (r_6 : Int32 → ci_H → Option (Int32 × ci_H)) (l0 : Nat) (l1 : Int32) (s0 : Int32)  (h : ci_H) : Option (Int32 × ci_H) := r_6 s0 h
set_option maxHeartbeats 4000000 in
set_option maxRecDepth 20000 in
theorem eb_X12_sum_78 {xs : Nat → Int32} {N d : Nat} {nx : ci_N} {rc : Nat → Nat → Int32 → ci_H → Option (Int32 × ci_H)} {r_6 : Int32 → ci_H → Option (Int32 × ci_H)} {l0 : Nat} {l1 : Int32} {s0 : Int32} (hd : 0 ≤ d) (hrc : ∀ (j : Nat) (a0 : Nat) (a1 : Int32) (h : ci_H) (r : Int32 × ci_H), rc j a0 a1 h = some r → Ev xs N d (mg_X12_held j) 0 (ci_entry [.ref a0, .int a1] (ci_n (ci_Ms (mg_X12_held j)))) [] h nx (oI r nx)) (hrk : ∀ (j : Nat) (a0 : Nat) (a1 : Int32) (h : ci_H) (r : Int32 × ci_H), rc j a0 a1 h = some r → kO h a0 = some 12) (h_6 : ∀ (l2 : Int32) (h : ci_H) (r : Int32 × ci_H), r_6 l2 h = some r → Ev xs N (d + 1) 195 6 [.ref l0, .int l1, .int l2, ci_junk, ci_junk] [] h nx (oI r nx)) {h : ci_H} {r : Int32 × ci_H} (H : b_X12_sum_78 rc r_6 l0 l1 s0 h = some r) : Ev xs N (d + 1) 195 78 [.ref l0, .int l1, ci_junk, ci_junk, ci_junk] [.int s0] h nx (oI r nx) := by
  unfold b_X12_sum_78 at H
  refine ev_go hc_X12_sum (k := 2) (pc' := 6) (L' := [.ref l0, .int l1, .int s0, ci_junk, ci_junk]) (S' := []) rfl ?_
  exact Ev.weak (ci_le_c (Or.inr rfl) (ci_le_c (Or.inr rfl) (ci_le_c (Or.inr rfl) (ci_le_c (Or.inl rfl) (ci_le_c (Or.inl rfl) (ci_le_n)))))) (h_6 _ _ _ H)
def b_X12_sum_45 (rc : Nat → Nat → Int32 → ci_H → Option (Int32 × ci_H)) (r_6 : Int32 → ci_H → Option (Int32 × ci_H)) (l0 : Nat) (l1 : Int32) (l2 : Int32) (s0 : Int32)  (h : ci_H) : Option (Int32 × ci_H) := (gI h l0 12 15).bind fun v1 => (pF h l0 12 15 (.int (v1 + 1))).bind fun h2 => (rc 2 l0 l1 h2).bind fun q3 => if s0 = 0 then (b_X12_sum_78 rc r_6 l0 l1 (l2 - q3.1) q3.2) else (b_X12_sum_78 rc r_6 l0 l1 (l2 + q3.1) q3.2)
set_option maxHeartbeats 4000000 in
set_option maxRecDepth 20000 in
theorem eb_X12_sum_45 {xs : Nat → Int32} {N d : Nat} {nx : ci_N} {rc : Nat → Nat → Int32 → ci_H → Option (Int32 × ci_H)} {r_6 : Int32 → ci_H → Option (Int32 × ci_H)} {l0 : Nat} {l1 : Int32} {l2 : Int32} {s0 : Int32} (hd : 0 ≤ d) (hrc : ∀ (j : Nat) (a0 : Nat) (a1 : Int32) (h : ci_H) (r : Int32 × ci_H), rc j a0 a1 h = some r → Ev xs N d (mg_X12_held j) 0 (ci_entry [.ref a0, .int a1] (ci_n (ci_Ms (mg_X12_held j)))) [] h nx (oI r nx)) (hrk : ∀ (j : Nat) (a0 : Nat) (a1 : Int32) (h : ci_H) (r : Int32 × ci_H), rc j a0 a1 h = some r → kO h a0 = some 12) (h_6 : ∀ (l2 : Int32) (h : ci_H) (r : Int32 × ci_H), r_6 l2 h = some r → Ev xs N (d + 1) 195 6 [.ref l0, .int l1, .int l2, ci_junk, ci_junk] [] h nx (oI r nx)) {h : ci_H} {r : Int32 × ci_H} (H : b_X12_sum_45 rc r_6 l0 l1 l2 s0 h = some r) : Ev xs N (d + 1) 195 45 [.ref l0, .int l1, .int l2, ci_junk, ci_junk] [.int s0] h nx (oI r nx) := by
  unfold b_X12_sum_45 at H
  refine ev_go hc_X12_sum (k := 3) (pc' := 48) (L' := [.ref l0, .int l1, .int l2, .int s0, ci_junk]) (S' := [.ref l0, .ref l0]) rfl ?_
  obtain ⟨v1, ev1, H⟩ := Option.bind_eq_some_iff.mp H
  refine ev_4 hc_X12_sum (fe_X12_sum (pc := 48) rfl) (gI_gf ev1) ?_
  refine ev_go hc_X12_sum (k := 2) (pc' := 53) (L' := [.ref l0, .int l1, .int l2, .int s0, ci_junk]) (S' := [.int (v1 + 1), .ref l0]) rfl ?_
  obtain ⟨h2, eh2, H⟩ := Option.bind_eq_some_iff.mp H
  refine ev_5 hc_X12_sum (fe_X12_sum (pc := 53) rfl) (pF_pf eh2) ?_
  refine ev_go hc_X12_sum (k := 2) (pc' := 58) (L' := [.ref l0, .int l1, .int l2, .int s0, ci_junk]) (S' := [.int l1, .ref l0]) rfl ?_
  obtain ⟨q3, eq3, H⟩ := Option.bind_eq_some_iff.mp H
  refine ev_call (vs := [.ref l0, .int l1]) (rest := []) (q := q_X12_product) hc_X12_sum (Or.inr rfl) (fe_X12_sum (pc := 58) rfl) ms_196 rfl rfl (Nat.le_of_ble_eq_true rfl) (kO_recv (hrk _ _ _ _ _ eq3)) (hrc 2 _ _ _ _ eq3) rfl ?_
  show Ev xs N (d + 1) 195 61 [.ref l0, .int l1, .int l2, .int s0, ci_junk] [.int q3.1] q3.2 nx _
  refine ev_go hc_X12_sum (k := 2) (pc' := 64) (L' := [.ref l0, .int l1, .int l2, .int s0, .int q3.1]) (S' := [.int s0]) rfl ?_
  by_cases c4 : s0 = 0
  · rw [if_pos c4] at H
    refine ev_bt hc_X12_sum (fe_X12_sum (pc := 64) rfl) rfl c4 ?_
    refine ev_go hc_X12_sum (k := 3) (pc' := 78) (L' := [.ref l0, .int l1, .int l2, .int s0, .int q3.1]) (S' := [.int (l2 - q3.1)]) rfl ?_
    exact Ev.weak (ci_le_c (Or.inr rfl) (ci_le_c (Or.inr rfl) (ci_le_c (Or.inl rfl) (ci_le_c (Or.inl rfl) (ci_le_c (Or.inl rfl) (ci_le_n)))))) (eb_X12_sum_78 hd hrc hrk h_6 H)
  · rw [if_neg c4] at H
    refine ev_bf hc_X12_sum (fe_X12_sum (pc := 64) rfl) rfl c4 ?_
    refine ev_go hc_X12_sum (k := 4) (pc' := 78) (L' := [.ref l0, .int l1, .int l2, .int s0, .int q3.1]) (S' := [.int (l2 + q3.1)]) rfl ?_
    exact Ev.weak (ci_le_c (Or.inr rfl) (ci_le_c (Or.inr rfl) (ci_le_c (Or.inl rfl) (ci_le_c (Or.inl rfl) (ci_le_c (Or.inl rfl) (ci_le_n)))))) (eb_X12_sum_78 hd hrc hrk h_6 H)
def b_X12_sum_31 (rc : Nat → Nat → Int32 → ci_H → Option (Int32 × ci_H)) (r_6 : Int32 → ci_H → Option (Int32 × ci_H)) (l0 : Nat) (l1 : Int32) (l2 : Int32)  (h : ci_H) : Option (Int32 × ci_H) := (F_X12_here l0 h).bind fun q1 => if q1.1 = 43 then (b_X12_sum_45 rc r_6 l0 l1 l2 1 q1.2) else (b_X12_sum_45 rc r_6 l0 l1 l2 0 q1.2)
set_option maxHeartbeats 4000000 in
set_option maxRecDepth 20000 in
theorem eb_X12_sum_31 {xs : Nat → Int32} {N d : Nat} {nx : ci_N} {rc : Nat → Nat → Int32 → ci_H → Option (Int32 × ci_H)} {r_6 : Int32 → ci_H → Option (Int32 × ci_H)} {l0 : Nat} {l1 : Int32} {l2 : Int32} (hd : 0 ≤ d) (hrc : ∀ (j : Nat) (a0 : Nat) (a1 : Int32) (h : ci_H) (r : Int32 × ci_H), rc j a0 a1 h = some r → Ev xs N d (mg_X12_held j) 0 (ci_entry [.ref a0, .int a1] (ci_n (ci_Ms (mg_X12_held j)))) [] h nx (oI r nx)) (hrk : ∀ (j : Nat) (a0 : Nat) (a1 : Int32) (h : ci_H) (r : Int32 × ci_H), rc j a0 a1 h = some r → kO h a0 = some 12) (h_6 : ∀ (l2 : Int32) (h : ci_H) (r : Int32 × ci_H), r_6 l2 h = some r → Ev xs N (d + 1) 195 6 [.ref l0, .int l1, .int l2, ci_junk, ci_junk] [] h nx (oI r nx)) {h : ci_H} {r : Int32 × ci_H} (H : b_X12_sum_31 rc r_6 l0 l1 l2 h = some r) : Ev xs N (d + 1) 195 31 [.ref l0, .int l1, .int l2, ci_junk, ci_junk] [] h nx (oI r nx) := by
  unfold b_X12_sum_31 at H
  refine ev_go hc_X12_sum (k := 1) (pc' := 32) (L' := [.ref l0, .int l1, .int l2, ci_junk, ci_junk]) (S' := [.ref l0]) rfl ?_
  obtain ⟨q1, eq1, H⟩ := Option.bind_eq_some_iff.mp H
  refine ev_call (vs := [.ref l0]) (rest := []) (q := q_X12_here) hc_X12_sum (Or.inr rfl) (fe_X12_sum (pc := 32) rfl) ms_182 rfl rfl (Nat.le_of_ble_eq_true rfl) (kO_recv (K_X12_here eq1)) (E_X12_here eq1 (by omega)) rfl ?_
  show Ev xs N (d + 1) 195 35 [.ref l0, .int l1, .int l2, ci_junk, ci_junk] [.int q1.1] q1.2 nx _
  refine ev_go hc_X12_sum (k := 1) (pc' := 37) (L' := [.ref l0, .int l1, .int l2, ci_junk, ci_junk]) (S' := [.int 43, .int q1.1]) rfl ?_
  by_cases c2 : q1.1 = 43
  · rw [if_pos c2] at H
    refine ev_bt hc_X12_sum (fe_X12_sum (pc := 37) rfl) rfl c2 ?_
    refine ev_go hc_X12_sum (k := 2) (pc' := 45) (L' := [.ref l0, .int l1, .int l2, ci_junk, ci_junk]) (S' := [.int 1]) rfl ?_
    exact Ev.weak (ci_le_c (Or.inr rfl) (ci_le_c (Or.inr rfl) (ci_le_c (Or.inr rfl) (ci_le_c (Or.inl rfl) (ci_le_c (Or.inl rfl) (ci_le_n)))))) (eb_X12_sum_45 hd hrc hrk h_6 H)
  · rw [if_neg c2] at H
    refine ev_bf hc_X12_sum (fe_X12_sum (pc := 37) rfl) rfl c2 ?_
    refine ev_go hc_X12_sum (k := 1) (pc' := 45) (L' := [.ref l0, .int l1, .int l2, ci_junk, ci_junk]) (S' := [.int 0]) rfl ?_
    exact Ev.weak (ci_le_c (Or.inr rfl) (ci_le_c (Or.inr rfl) (ci_le_c (Or.inr rfl) (ci_le_c (Or.inl rfl) (ci_le_c (Or.inl rfl) (ci_le_n)))))) (eb_X12_sum_45 hd hrc hrk h_6 H)
def b_X12_sum_6 (rc : Nat → Nat → Int32 → ci_H → Option (Int32 × ci_H)) (l0 : Nat) (l1 : Int32) : Nat → Int32 → ci_H → Option (Int32 × ci_H)
  | 0, _, _ => none
  | n + 1, l2, h => (F_X12_fine l0 h).bind fun q1 => if q1.1 = 0 then (some (l2, q1.2)) else ((F_X12_here l0 q1.2).bind fun q3 => if q3.1 = 43 then (b_X12_sum_31 rc (fun x0 x1 => b_X12_sum_6 rc l0 l1 n x0 x1) l0 l1 l2 q3.2) else ((F_X12_here l0 q3.2).bind fun q5 => if q5.1 = 45 then (b_X12_sum_31 rc (fun x0 x1 => b_X12_sum_6 rc l0 l1 n x0 x1) l0 l1 l2 q5.2) else (some (l2, q5.2))))
set_option maxHeartbeats 4000000 in
set_option maxRecDepth 20000 in
theorem eb_X12_sum_6 {xs : Nat → Int32} {N d : Nat} {nx : ci_N} {rc : Nat → Nat → Int32 → ci_H → Option (Int32 × ci_H)} {l0 : Nat} {l1 : Int32} (hd : 0 ≤ d) (hrc : ∀ (j : Nat) (a0 : Nat) (a1 : Int32) (h : ci_H) (r : Int32 × ci_H), rc j a0 a1 h = some r → Ev xs N d (mg_X12_held j) 0 (ci_entry [.ref a0, .int a1] (ci_n (ci_Ms (mg_X12_held j)))) [] h nx (oI r nx)) (hrk : ∀ (j : Nat) (a0 : Nat) (a1 : Int32) (h : ci_H) (r : Int32 × ci_H), rc j a0 a1 h = some r → kO h a0 = some 12) : ∀ (n : Nat) (l2 : Int32) (h : ci_H) (r : Int32 × ci_H), b_X12_sum_6 rc l0 l1 n l2 h = some r → Ev xs N (d + 1) 195 6 [.ref l0, .int l1, .int l2, ci_junk, ci_junk] [] h nx (oI r nx) := by
  intro n
  induction n with
  | zero => intro l2 h r H; unfold b_X12_sum_6 at H; cases H
  | succ n ih =>
    intro l2 h r H
    unfold b_X12_sum_6 at H
    refine ev_go hc_X12_sum (k := 1) (pc' := 7) (L' := [.ref l0, .int l1, .int l2, ci_junk, ci_junk]) (S' := [.ref l0]) rfl ?_
    obtain ⟨q1, eq1, H⟩ := Option.bind_eq_some_iff.mp H
    refine ev_call (vs := [.ref l0]) (rest := []) (q := q_X12_fine) hc_X12_sum (Or.inr rfl) (fe_X12_sum (pc := 7) rfl) ms_183 rfl rfl (Nat.le_of_ble_eq_true rfl) (kO_recv (K_X12_fine eq1)) (E_X12_fine eq1 (by omega)) rfl ?_
    show Ev xs N (d + 1) 195 10 [.ref l0, .int l1, .int l2, ci_junk, ci_junk] [.int q1.1] q1.2 nx _
    by_cases c2 : q1.1 = 0
    · rw [if_pos c2] at H
      refine ev_bt hc_X12_sum (fe_X12_sum (pc := 10) rfl) rfl c2 ?_
      refine ev_go hc_X12_sum (k := 1) (pc' := 83) (L' := [.ref l0, .int l1, .int l2, ci_junk, ci_junk]) (S' := [.int l2]) rfl ?_
      obtain rfl := Option.some.inj H
      exact ev_8 hc_X12_sum (fe_X12_sum (pc := 83) rfl) rfl
    · rw [if_neg c2] at H
      refine ev_bf hc_X12_sum (fe_X12_sum (pc := 10) rfl) rfl c2 ?_
      refine ev_go hc_X12_sum (k := 1) (pc' := 14) (L' := [.ref l0, .int l1, .int l2, ci_junk, ci_junk]) (S' := [.ref l0]) rfl ?_
      obtain ⟨q3, eq3, H⟩ := Option.bind_eq_some_iff.mp H
      refine ev_call (vs := [.ref l0]) (rest := []) (q := q_X12_here) hc_X12_sum (Or.inr rfl) (fe_X12_sum (pc := 14) rfl) ms_182 rfl rfl (Nat.le_of_ble_eq_true rfl) (kO_recv (K_X12_here eq3)) (E_X12_here eq3 (by omega)) rfl ?_
      show Ev xs N (d + 1) 195 17 [.ref l0, .int l1, .int l2, ci_junk, ci_junk] [.int q3.1] q3.2 nx _
      refine ev_go hc_X12_sum (k := 1) (pc' := 19) (L' := [.ref l0, .int l1, .int l2, ci_junk, ci_junk]) (S' := [.int 43, .int q3.1]) rfl ?_
      by_cases c4 : q3.1 = 43
      · rw [if_pos c4] at H
        refine ev_bt hc_X12_sum (fe_X12_sum (pc := 19) rfl) rfl c4 ?_
        exact Ev.weak (ci_le_c (Or.inr rfl) (ci_le_c (Or.inr rfl) (ci_le_c (Or.inr rfl) (ci_le_c (Or.inl rfl) (ci_le_c (Or.inl rfl) (ci_le_n)))))) (eb_X12_sum_31 hd hrc hrk ih H)
      · rw [if_neg c4] at H
        refine ev_bf hc_X12_sum (fe_X12_sum (pc := 19) rfl) rfl c4 ?_
        refine ev_go hc_X12_sum (k := 1) (pc' := 23) (L' := [.ref l0, .int l1, .int l2, ci_junk, ci_junk]) (S' := [.ref l0]) rfl ?_
        obtain ⟨q5, eq5, H⟩ := Option.bind_eq_some_iff.mp H
        refine ev_call (vs := [.ref l0]) (rest := []) (q := q_X12_here) hc_X12_sum (Or.inr rfl) (fe_X12_sum (pc := 23) rfl) ms_182 rfl rfl (Nat.le_of_ble_eq_true rfl) (kO_recv (K_X12_here eq5)) (E_X12_here eq5 (by omega)) rfl ?_
        show Ev xs N (d + 1) 195 26 [.ref l0, .int l1, .int l2, ci_junk, ci_junk] [.int q5.1] q5.2 nx _
        refine ev_go hc_X12_sum (k := 1) (pc' := 28) (L' := [.ref l0, .int l1, .int l2, ci_junk, ci_junk]) (S' := [.int 45, .int q5.1]) rfl ?_
        by_cases c6 : q5.1 = 45
        · rw [if_pos c6] at H
          refine ev_bt hc_X12_sum (fe_X12_sum (pc := 28) rfl) rfl c6 ?_
          exact Ev.weak (ci_le_c (Or.inr rfl) (ci_le_c (Or.inr rfl) (ci_le_c (Or.inr rfl) (ci_le_c (Or.inl rfl) (ci_le_c (Or.inl rfl) (ci_le_n)))))) (eb_X12_sum_31 hd hrc hrk ih H)
        · rw [if_neg c6] at H
          refine ev_bf hc_X12_sum (fe_X12_sum (pc := 28) rfl) rfl c6 ?_
          refine ev_go hc_X12_sum (k := 1) (pc' := 83) (L' := [.ref l0, .int l1, .int l2, ci_junk, ci_junk]) (S' := [.int l2]) rfl ?_
          obtain rfl := Option.some.inj H
          exact ev_8 hc_X12_sum (fe_X12_sum (pc := 83) rfl) rfl
def G_X12_sum (rc : Nat → Nat → Int32 → ci_H → Option (Int32 × ci_H)) (a0 : Nat) (a1 : Int32) (h : ci_H) : Option (Int32 × ci_H) := if kO h a0 = some 12 then ((rc 2 a0 a1 h).bind fun q1 => b_X12_sum_6 rc a0 a1 bigN q1.1 q1.2) else none
theorem KG_X12_sum {rc : Nat → Nat → Int32 → ci_H → Option (Int32 × ci_H)} {a0 : Nat} {a1 : Int32} {h : ci_H} {r : Int32 × ci_H} (H : G_X12_sum rc a0 a1 h = some r) : kO h a0 = some 12 := by
  unfold G_X12_sum at H
  by_cases c : kO h a0 = some 12
  · exact c
  · rw [if_neg c] at H; cases H
set_option maxHeartbeats 4000000 in
set_option maxRecDepth 20000 in
theorem EG_X12_sum {xs : Nat → Int32} {N d : Nat} {nx : ci_N} {rc : Nat → Nat → Int32 → ci_H → Option (Int32 × ci_H)} {a0 : Nat} {a1 : Int32} (hd : 0 ≤ d) (hrc : ∀ (j : Nat) (a0 : Nat) (a1 : Int32) (h : ci_H) (r : Int32 × ci_H), rc j a0 a1 h = some r → Ev xs N d (mg_X12_held j) 0 (ci_entry [.ref a0, .int a1] (ci_n (ci_Ms (mg_X12_held j)))) [] h nx (oI r nx)) (hrk : ∀ (j : Nat) (a0 : Nat) (a1 : Int32) (h : ci_H) (r : Int32 × ci_H), rc j a0 a1 h = some r → kO h a0 = some 12) {h : ci_H} {r : Int32 × ci_H} (H : G_X12_sum rc a0 a1 h = some r) : Ev xs N (d + 1) 195 0 (ci_entry [.ref a0, .int a1] 5) [] h nx (oI r nx) := by
  unfold G_X12_sum at H
  by_cases ck : kO h a0 = some 12
  · rw [if_pos ck] at H
    show Ev xs N (d + 1) 195 0 [.ref a0, .int a1, ci_junk, ci_junk, ci_junk] [] h nx _
    refine ev_go hc_X12_sum (k := 2) (pc' := 2) (L' := [.ref a0, .int a1, ci_junk, ci_junk, ci_junk]) (S' := [.int a1, .ref a0]) rfl ?_
    obtain ⟨q1, eq1, H⟩ := Option.bind_eq_some_iff.mp H
    refine ev_call (vs := [.ref a0, .int a1]) (rest := []) (q := q_X12_product) hc_X12_sum (Or.inr rfl) (fe_X12_sum (pc := 2) rfl) ms_196 rfl rfl (Nat.le_of_ble_eq_true rfl) (kO_recv (hrk _ _ _ _ _ eq1)) (hrc 2 _ _ _ _ eq1) rfl ?_
    show Ev xs N (d + 1) 195 5 [.ref a0, .int a1, ci_junk, ci_junk, ci_junk] [.int q1.1] q1.2 nx _
    refine ev_go hc_X12_sum (k := 1) (pc' := 6) (L' := [.ref a0, .int a1, .int q1.1, ci_junk, ci_junk]) (S' := []) rfl ?_
    exact Ev.weak (ci_le_c (Or.inr rfl) (ci_le_c (Or.inr rfl) (ci_le_c (Or.inr rfl) (ci_le_c (Or.inl rfl) (ci_le_c (Or.inl rfl) (ci_le_n)))))) (eb_X12_sum_6 hd hrc hrk bigN _ _ _ H)
  · rw [if_neg ck] at H; cases H
theorem hc_X12_product : ci_code (ci_Ms 196) = k_X12_product := rfl
theorem fe_X12_product {pc : Nat} {w : Option ci_I} (h : (k_X12_product)[pc]? = some w) : (k_X12_product)[pc]? = some w := h
def b_X12_product_87 (rc : Nat → Nat → Int32 → ci_H → Option (Int32 × ci_H)) (r_6 : Int32 → ci_H → Option (Int32 × ci_H)) (l0 : Nat) (l1 : Int32) (s0 : Int32)  (h : ci_H) : Option (Int32 × ci_H) := r_6 s0 h
set_option maxHeartbeats 4000000 in
set_option maxRecDepth 20000 in
theorem eb_X12_product_87 {xs : Nat → Int32} {N d : Nat} {nx : ci_N} {rc : Nat → Nat → Int32 → ci_H → Option (Int32 × ci_H)} {r_6 : Int32 → ci_H → Option (Int32 × ci_H)} {l0 : Nat} {l1 : Int32} {s0 : Int32} (hd : 0 ≤ d) (hrc : ∀ (j : Nat) (a0 : Nat) (a1 : Int32) (h : ci_H) (r : Int32 × ci_H), rc j a0 a1 h = some r → Ev xs N d (mg_X12_held j) 0 (ci_entry [.ref a0, .int a1] (ci_n (ci_Ms (mg_X12_held j)))) [] h nx (oI r nx)) (hrk : ∀ (j : Nat) (a0 : Nat) (a1 : Int32) (h : ci_H) (r : Int32 × ci_H), rc j a0 a1 h = some r → kO h a0 = some 12) (h_6 : ∀ (l2 : Int32) (h : ci_H) (r : Int32 × ci_H), r_6 l2 h = some r → Ev xs N (d + 1) 196 6 [.ref l0, .int l1, .int l2, ci_junk, ci_junk] [] h nx (oI r nx)) {h : ci_H} {r : Int32 × ci_H} (H : b_X12_product_87 rc r_6 l0 l1 s0 h = some r) : Ev xs N (d + 1) 196 87 [.ref l0, .int l1, ci_junk, ci_junk, ci_junk] [.int s0] h nx (oI r nx) := by
  unfold b_X12_product_87 at H
  refine ev_go hc_X12_product (k := 2) (pc' := 6) (L' := [.ref l0, .int l1, .int s0, ci_junk, ci_junk]) (S' := []) rfl ?_
  exact Ev.weak (ci_le_c (Or.inr rfl) (ci_le_c (Or.inr rfl) (ci_le_c (Or.inr rfl) (ci_le_c (Or.inl rfl) (ci_le_c (Or.inl rfl) (ci_le_n)))))) (h_6 _ _ _ H)
def b_X12_product_45 (rc : Nat → Nat → Int32 → ci_H → Option (Int32 × ci_H)) (r_6 : Int32 → ci_H → Option (Int32 × ci_H)) (l0 : Nat) (l1 : Int32) (l2 : Int32) (s0 : Int32)  (h : ci_H) : Option (Int32 × ci_H) := (gI h l0 12 15).bind fun v1 => (pF h l0 12 15 (.int (v1 + 1))).bind fun h2 => (rc 3 l0 l1 h2).bind fun q3 => if s0 = 0 then (if q3.1 = 0 then (b_X12_product_87 rc r_6 l0 l1 0 q3.2) else ((dvI l2 q3.1).bind fun v6 => b_X12_product_87 rc r_6 l0 l1 v6 q3.2)) else (b_X12_product_87 rc r_6 l0 l1 (l2 * q3.1) q3.2)
set_option maxHeartbeats 4000000 in
set_option maxRecDepth 20000 in
theorem eb_X12_product_45 {xs : Nat → Int32} {N d : Nat} {nx : ci_N} {rc : Nat → Nat → Int32 → ci_H → Option (Int32 × ci_H)} {r_6 : Int32 → ci_H → Option (Int32 × ci_H)} {l0 : Nat} {l1 : Int32} {l2 : Int32} {s0 : Int32} (hd : 0 ≤ d) (hrc : ∀ (j : Nat) (a0 : Nat) (a1 : Int32) (h : ci_H) (r : Int32 × ci_H), rc j a0 a1 h = some r → Ev xs N d (mg_X12_held j) 0 (ci_entry [.ref a0, .int a1] (ci_n (ci_Ms (mg_X12_held j)))) [] h nx (oI r nx)) (hrk : ∀ (j : Nat) (a0 : Nat) (a1 : Int32) (h : ci_H) (r : Int32 × ci_H), rc j a0 a1 h = some r → kO h a0 = some 12) (h_6 : ∀ (l2 : Int32) (h : ci_H) (r : Int32 × ci_H), r_6 l2 h = some r → Ev xs N (d + 1) 196 6 [.ref l0, .int l1, .int l2, ci_junk, ci_junk] [] h nx (oI r nx)) {h : ci_H} {r : Int32 × ci_H} (H : b_X12_product_45 rc r_6 l0 l1 l2 s0 h = some r) : Ev xs N (d + 1) 196 45 [.ref l0, .int l1, .int l2, ci_junk, ci_junk] [.int s0] h nx (oI r nx) := by
  unfold b_X12_product_45 at H
  refine ev_go hc_X12_product (k := 3) (pc' := 48) (L' := [.ref l0, .int l1, .int l2, .int s0, ci_junk]) (S' := [.ref l0, .ref l0]) rfl ?_
  obtain ⟨v1, ev1, H⟩ := Option.bind_eq_some_iff.mp H
  refine ev_4 hc_X12_product (fe_X12_product (pc := 48) rfl) (gI_gf ev1) ?_
  refine ev_go hc_X12_product (k := 2) (pc' := 53) (L' := [.ref l0, .int l1, .int l2, .int s0, ci_junk]) (S' := [.int (v1 + 1), .ref l0]) rfl ?_
  obtain ⟨h2, eh2, H⟩ := Option.bind_eq_some_iff.mp H
  refine ev_5 hc_X12_product (fe_X12_product (pc := 53) rfl) (pF_pf eh2) ?_
  refine ev_go hc_X12_product (k := 2) (pc' := 58) (L' := [.ref l0, .int l1, .int l2, .int s0, ci_junk]) (S' := [.int l1, .ref l0]) rfl ?_
  obtain ⟨q3, eq3, H⟩ := Option.bind_eq_some_iff.mp H
  refine ev_call (vs := [.ref l0, .int l1]) (rest := []) (q := q_X12_part) hc_X12_product (Or.inr rfl) (fe_X12_product (pc := 58) rfl) ms_198 rfl rfl (Nat.le_of_ble_eq_true rfl) (kO_recv (hrk _ _ _ _ _ eq3)) (hrc 3 _ _ _ _ eq3) rfl ?_
  show Ev xs N (d + 1) 196 61 [.ref l0, .int l1, .int l2, .int s0, ci_junk] [.int q3.1] q3.2 nx _
  refine ev_go hc_X12_product (k := 2) (pc' := 64) (L' := [.ref l0, .int l1, .int l2, .int s0, .int q3.1]) (S' := [.int s0]) rfl ?_
  by_cases c4 : s0 = 0
  · rw [if_pos c4] at H
    refine ev_bt hc_X12_product (fe_X12_product (pc := 64) rfl) rfl c4 ?_
    refine ev_go hc_X12_product (k := 1) (pc' := 76) (L' := [.ref l0, .int l1, .int l2, .int s0, .int q3.1]) (S' := [.int q3.1]) rfl ?_
    by_cases c5 : q3.1 = 0
    · rw [if_pos c5] at H
      refine ev_bt hc_X12_product (fe_X12_product (pc := 76) rfl) rfl c5 ?_
      refine ev_go hc_X12_product (k := 2) (pc' := 87) (L' := [.ref l0, .int l1, .int l2, .int s0, .int q3.1]) (S' := [.int 0]) rfl ?_
      exact Ev.weak (ci_le_c (Or.inr rfl) (ci_le_c (Or.inr rfl) (ci_le_c (Or.inl rfl) (ci_le_c (Or.inl rfl) (ci_le_c (Or.inl rfl) (ci_le_n)))))) (eb_X12_product_87 hd hrc hrk h_6 H)
    · rw [if_neg c5] at H
      refine ev_bf hc_X12_product (fe_X12_product (pc := 76) rfl) rfl c5 ?_
      refine ev_go hc_X12_product (k := 2) (pc' := 86) (L' := [.ref l0, .int l1, .int l2, .int s0, .int q3.1]) (S' := [.int q3.1, .int l2]) rfl ?_
      obtain ⟨v6, ev6, H⟩ := Option.bind_eq_some_iff.mp H
      refine ev_1 hc_X12_product (fe_X12_product (pc := 86) rfl) (dvI_st ev6) ?_
      exact Ev.weak (ci_le_c (Or.inr rfl) (ci_le_c (Or.inr rfl) (ci_le_c (Or.inl rfl) (ci_le_c (Or.inl rfl) (ci_le_c (Or.inl rfl) (ci_le_n)))))) (eb_X12_product_87 hd hrc hrk h_6 H)
  · rw [if_neg c4] at H
    refine ev_bf hc_X12_product (fe_X12_product (pc := 64) rfl) rfl c4 ?_
    refine ev_go hc_X12_product (k := 4) (pc' := 87) (L' := [.ref l0, .int l1, .int l2, .int s0, .int q3.1]) (S' := [.int (l2 * q3.1)]) rfl ?_
    exact Ev.weak (ci_le_c (Or.inr rfl) (ci_le_c (Or.inr rfl) (ci_le_c (Or.inl rfl) (ci_le_c (Or.inl rfl) (ci_le_c (Or.inl rfl) (ci_le_n)))))) (eb_X12_product_87 hd hrc hrk h_6 H)
def b_X12_product_31 (rc : Nat → Nat → Int32 → ci_H → Option (Int32 × ci_H)) (r_6 : Int32 → ci_H → Option (Int32 × ci_H)) (l0 : Nat) (l1 : Int32) (l2 : Int32)  (h : ci_H) : Option (Int32 × ci_H) := (F_X12_here l0 h).bind fun q1 => if q1.1 = 42 then (b_X12_product_45 rc r_6 l0 l1 l2 1 q1.2) else (b_X12_product_45 rc r_6 l0 l1 l2 0 q1.2)
set_option maxHeartbeats 4000000 in
set_option maxRecDepth 20000 in
theorem eb_X12_product_31 {xs : Nat → Int32} {N d : Nat} {nx : ci_N} {rc : Nat → Nat → Int32 → ci_H → Option (Int32 × ci_H)} {r_6 : Int32 → ci_H → Option (Int32 × ci_H)} {l0 : Nat} {l1 : Int32} {l2 : Int32} (hd : 0 ≤ d) (hrc : ∀ (j : Nat) (a0 : Nat) (a1 : Int32) (h : ci_H) (r : Int32 × ci_H), rc j a0 a1 h = some r → Ev xs N d (mg_X12_held j) 0 (ci_entry [.ref a0, .int a1] (ci_n (ci_Ms (mg_X12_held j)))) [] h nx (oI r nx)) (hrk : ∀ (j : Nat) (a0 : Nat) (a1 : Int32) (h : ci_H) (r : Int32 × ci_H), rc j a0 a1 h = some r → kO h a0 = some 12) (h_6 : ∀ (l2 : Int32) (h : ci_H) (r : Int32 × ci_H), r_6 l2 h = some r → Ev xs N (d + 1) 196 6 [.ref l0, .int l1, .int l2, ci_junk, ci_junk] [] h nx (oI r nx)) {h : ci_H} {r : Int32 × ci_H} (H : b_X12_product_31 rc r_6 l0 l1 l2 h = some r) : Ev xs N (d + 1) 196 31 [.ref l0, .int l1, .int l2, ci_junk, ci_junk] [] h nx (oI r nx) := by
  unfold b_X12_product_31 at H
  refine ev_go hc_X12_product (k := 1) (pc' := 32) (L' := [.ref l0, .int l1, .int l2, ci_junk, ci_junk]) (S' := [.ref l0]) rfl ?_
  obtain ⟨q1, eq1, H⟩ := Option.bind_eq_some_iff.mp H
  refine ev_call (vs := [.ref l0]) (rest := []) (q := q_X12_here) hc_X12_product (Or.inr rfl) (fe_X12_product (pc := 32) rfl) ms_182 rfl rfl (Nat.le_of_ble_eq_true rfl) (kO_recv (K_X12_here eq1)) (E_X12_here eq1 (by omega)) rfl ?_
  show Ev xs N (d + 1) 196 35 [.ref l0, .int l1, .int l2, ci_junk, ci_junk] [.int q1.1] q1.2 nx _
  refine ev_go hc_X12_product (k := 1) (pc' := 37) (L' := [.ref l0, .int l1, .int l2, ci_junk, ci_junk]) (S' := [.int 42, .int q1.1]) rfl ?_
  by_cases c2 : q1.1 = 42
  · rw [if_pos c2] at H
    refine ev_bt hc_X12_product (fe_X12_product (pc := 37) rfl) rfl c2 ?_
    refine ev_go hc_X12_product (k := 2) (pc' := 45) (L' := [.ref l0, .int l1, .int l2, ci_junk, ci_junk]) (S' := [.int 1]) rfl ?_
    exact Ev.weak (ci_le_c (Or.inr rfl) (ci_le_c (Or.inr rfl) (ci_le_c (Or.inr rfl) (ci_le_c (Or.inl rfl) (ci_le_c (Or.inl rfl) (ci_le_n)))))) (eb_X12_product_45 hd hrc hrk h_6 H)
  · rw [if_neg c2] at H
    refine ev_bf hc_X12_product (fe_X12_product (pc := 37) rfl) rfl c2 ?_
    refine ev_go hc_X12_product (k := 1) (pc' := 45) (L' := [.ref l0, .int l1, .int l2, ci_junk, ci_junk]) (S' := [.int 0]) rfl ?_
    exact Ev.weak (ci_le_c (Or.inr rfl) (ci_le_c (Or.inr rfl) (ci_le_c (Or.inr rfl) (ci_le_c (Or.inl rfl) (ci_le_c (Or.inl rfl) (ci_le_n)))))) (eb_X12_product_45 hd hrc hrk h_6 H)
def b_X12_product_6 (rc : Nat → Nat → Int32 → ci_H → Option (Int32 × ci_H)) (l0 : Nat) (l1 : Int32) : Nat → Int32 → ci_H → Option (Int32 × ci_H)
  | 0, _, _ => none
  | n + 1, l2, h => (F_X12_fine l0 h).bind fun q1 => if q1.1 = 0 then (some (l2, q1.2)) else ((F_X12_here l0 q1.2).bind fun q3 => if q3.1 = 42 then (b_X12_product_31 rc (fun x0 x1 => b_X12_product_6 rc l0 l1 n x0 x1) l0 l1 l2 q3.2) else ((F_X12_here l0 q3.2).bind fun q5 => if q5.1 = 47 then (b_X12_product_31 rc (fun x0 x1 => b_X12_product_6 rc l0 l1 n x0 x1) l0 l1 l2 q5.2) else (some (l2, q5.2))))
set_option maxHeartbeats 4000000 in
set_option maxRecDepth 20000 in
theorem eb_X12_product_6 {xs : Nat → Int32} {N d : Nat} {nx : ci_N} {rc : Nat → Nat → Int32 → ci_H → Option (Int32 × ci_H)} {l0 : Nat} {l1 : Int32} (hd : 0 ≤ d) (hrc : ∀ (j : Nat) (a0 : Nat) (a1 : Int32) (h : ci_H) (r : Int32 × ci_H), rc j a0 a1 h = some r → Ev xs N d (mg_X12_held j) 0 (ci_entry [.ref a0, .int a1] (ci_n (ci_Ms (mg_X12_held j)))) [] h nx (oI r nx)) (hrk : ∀ (j : Nat) (a0 : Nat) (a1 : Int32) (h : ci_H) (r : Int32 × ci_H), rc j a0 a1 h = some r → kO h a0 = some 12) : ∀ (n : Nat) (l2 : Int32) (h : ci_H) (r : Int32 × ci_H), b_X12_product_6 rc l0 l1 n l2 h = some r → Ev xs N (d + 1) 196 6 [.ref l0, .int l1, .int l2, ci_junk, ci_junk] [] h nx (oI r nx) := by
  intro n
  induction n with
  | zero => intro l2 h r H; unfold b_X12_product_6 at H; cases H
  | succ n ih =>
    intro l2 h r H
    unfold b_X12_product_6 at H
    refine ev_go hc_X12_product (k := 1) (pc' := 7) (L' := [.ref l0, .int l1, .int l2, ci_junk, ci_junk]) (S' := [.ref l0]) rfl ?_
    obtain ⟨q1, eq1, H⟩ := Option.bind_eq_some_iff.mp H
    refine ev_call (vs := [.ref l0]) (rest := []) (q := q_X12_fine) hc_X12_product (Or.inr rfl) (fe_X12_product (pc := 7) rfl) ms_183 rfl rfl (Nat.le_of_ble_eq_true rfl) (kO_recv (K_X12_fine eq1)) (E_X12_fine eq1 (by omega)) rfl ?_
    show Ev xs N (d + 1) 196 10 [.ref l0, .int l1, .int l2, ci_junk, ci_junk] [.int q1.1] q1.2 nx _
    by_cases c2 : q1.1 = 0
    · rw [if_pos c2] at H
      refine ev_bt hc_X12_product (fe_X12_product (pc := 10) rfl) rfl c2 ?_
      refine ev_go hc_X12_product (k := 1) (pc' := 92) (L' := [.ref l0, .int l1, .int l2, ci_junk, ci_junk]) (S' := [.int l2]) rfl ?_
      obtain rfl := Option.some.inj H
      exact ev_8 hc_X12_product (fe_X12_product (pc := 92) rfl) rfl
    · rw [if_neg c2] at H
      refine ev_bf hc_X12_product (fe_X12_product (pc := 10) rfl) rfl c2 ?_
      refine ev_go hc_X12_product (k := 1) (pc' := 14) (L' := [.ref l0, .int l1, .int l2, ci_junk, ci_junk]) (S' := [.ref l0]) rfl ?_
      obtain ⟨q3, eq3, H⟩ := Option.bind_eq_some_iff.mp H
      refine ev_call (vs := [.ref l0]) (rest := []) (q := q_X12_here) hc_X12_product (Or.inr rfl) (fe_X12_product (pc := 14) rfl) ms_182 rfl rfl (Nat.le_of_ble_eq_true rfl) (kO_recv (K_X12_here eq3)) (E_X12_here eq3 (by omega)) rfl ?_
      show Ev xs N (d + 1) 196 17 [.ref l0, .int l1, .int l2, ci_junk, ci_junk] [.int q3.1] q3.2 nx _
      refine ev_go hc_X12_product (k := 1) (pc' := 19) (L' := [.ref l0, .int l1, .int l2, ci_junk, ci_junk]) (S' := [.int 42, .int q3.1]) rfl ?_
      by_cases c4 : q3.1 = 42
      · rw [if_pos c4] at H
        refine ev_bt hc_X12_product (fe_X12_product (pc := 19) rfl) rfl c4 ?_
        exact Ev.weak (ci_le_c (Or.inr rfl) (ci_le_c (Or.inr rfl) (ci_le_c (Or.inr rfl) (ci_le_c (Or.inl rfl) (ci_le_c (Or.inl rfl) (ci_le_n)))))) (eb_X12_product_31 hd hrc hrk ih H)
      · rw [if_neg c4] at H
        refine ev_bf hc_X12_product (fe_X12_product (pc := 19) rfl) rfl c4 ?_
        refine ev_go hc_X12_product (k := 1) (pc' := 23) (L' := [.ref l0, .int l1, .int l2, ci_junk, ci_junk]) (S' := [.ref l0]) rfl ?_
        obtain ⟨q5, eq5, H⟩ := Option.bind_eq_some_iff.mp H
        refine ev_call (vs := [.ref l0]) (rest := []) (q := q_X12_here) hc_X12_product (Or.inr rfl) (fe_X12_product (pc := 23) rfl) ms_182 rfl rfl (Nat.le_of_ble_eq_true rfl) (kO_recv (K_X12_here eq5)) (E_X12_here eq5 (by omega)) rfl ?_
        show Ev xs N (d + 1) 196 26 [.ref l0, .int l1, .int l2, ci_junk, ci_junk] [.int q5.1] q5.2 nx _
        refine ev_go hc_X12_product (k := 1) (pc' := 28) (L' := [.ref l0, .int l1, .int l2, ci_junk, ci_junk]) (S' := [.int 47, .int q5.1]) rfl ?_
        by_cases c6 : q5.1 = 47
        · rw [if_pos c6] at H
          refine ev_bt hc_X12_product (fe_X12_product (pc := 28) rfl) rfl c6 ?_
          exact Ev.weak (ci_le_c (Or.inr rfl) (ci_le_c (Or.inr rfl) (ci_le_c (Or.inr rfl) (ci_le_c (Or.inl rfl) (ci_le_c (Or.inl rfl) (ci_le_n)))))) (eb_X12_product_31 hd hrc hrk ih H)
        · rw [if_neg c6] at H
          refine ev_bf hc_X12_product (fe_X12_product (pc := 28) rfl) rfl c6 ?_
          refine ev_go hc_X12_product (k := 1) (pc' := 92) (L' := [.ref l0, .int l1, .int l2, ci_junk, ci_junk]) (S' := [.int l2]) rfl ?_
          obtain rfl := Option.some.inj H
          exact ev_8 hc_X12_product (fe_X12_product (pc := 92) rfl) rfl
def G_X12_product (rc : Nat → Nat → Int32 → ci_H → Option (Int32 × ci_H)) (a0 : Nat) (a1 : Int32) (h : ci_H) : Option (Int32 × ci_H) := if kO h a0 = some 12 then ((rc 3 a0 a1 h).bind fun q1 => b_X12_product_6 rc a0 a1 bigN q1.1 q1.2) else none
theorem KG_X12_product {rc : Nat → Nat → Int32 → ci_H → Option (Int32 × ci_H)} {a0 : Nat} {a1 : Int32} {h : ci_H} {r : Int32 × ci_H} (H : G_X12_product rc a0 a1 h = some r) : kO h a0 = some 12 := by
  unfold G_X12_product at H
  by_cases c : kO h a0 = some 12
  · exact c
  · rw [if_neg c] at H; cases H
set_option maxHeartbeats 4000000 in
set_option maxRecDepth 20000 in
theorem EG_X12_product {xs : Nat → Int32} {N d : Nat} {nx : ci_N} {rc : Nat → Nat → Int32 → ci_H → Option (Int32 × ci_H)} {a0 : Nat} {a1 : Int32} (hd : 0 ≤ d) (hrc : ∀ (j : Nat) (a0 : Nat) (a1 : Int32) (h : ci_H) (r : Int32 × ci_H), rc j a0 a1 h = some r → Ev xs N d (mg_X12_held j) 0 (ci_entry [.ref a0, .int a1] (ci_n (ci_Ms (mg_X12_held j)))) [] h nx (oI r nx)) (hrk : ∀ (j : Nat) (a0 : Nat) (a1 : Int32) (h : ci_H) (r : Int32 × ci_H), rc j a0 a1 h = some r → kO h a0 = some 12) {h : ci_H} {r : Int32 × ci_H} (H : G_X12_product rc a0 a1 h = some r) : Ev xs N (d + 1) 196 0 (ci_entry [.ref a0, .int a1] 5) [] h nx (oI r nx) := by
  unfold G_X12_product at H
  by_cases ck : kO h a0 = some 12
  · rw [if_pos ck] at H
    show Ev xs N (d + 1) 196 0 [.ref a0, .int a1, ci_junk, ci_junk, ci_junk] [] h nx _
    refine ev_go hc_X12_product (k := 2) (pc' := 2) (L' := [.ref a0, .int a1, ci_junk, ci_junk, ci_junk]) (S' := [.int a1, .ref a0]) rfl ?_
    obtain ⟨q1, eq1, H⟩ := Option.bind_eq_some_iff.mp H
    refine ev_call (vs := [.ref a0, .int a1]) (rest := []) (q := q_X12_part) hc_X12_product (Or.inr rfl) (fe_X12_product (pc := 2) rfl) ms_198 rfl rfl (Nat.le_of_ble_eq_true rfl) (kO_recv (hrk _ _ _ _ _ eq1)) (hrc 3 _ _ _ _ eq1) rfl ?_
    show Ev xs N (d + 1) 196 5 [.ref a0, .int a1, ci_junk, ci_junk, ci_junk] [.int q1.1] q1.2 nx _
    refine ev_go hc_X12_product (k := 1) (pc' := 6) (L' := [.ref a0, .int a1, .int q1.1, ci_junk, ci_junk]) (S' := []) rfl ?_
    exact Ev.weak (ci_le_c (Or.inr rfl) (ci_le_c (Or.inr rfl) (ci_le_c (Or.inr rfl) (ci_le_c (Or.inl rfl) (ci_le_c (Or.inl rfl) (ci_le_n)))))) (eb_X12_product_6 hd hrc hrk bigN _ _ _ H)
  · rw [if_neg ck] at H; cases H
theorem hc_X12_part : ci_code (ci_Ms 198) = k_X12_part := rfl
theorem fe_X12_part {pc : Nat} {w : Option ci_I} (h : (k_X12_part)[pc]? = some w) : (k_X12_part)[pc]? = some w := h
def b_X12_part_67 (rc : Nat → Nat → Int32 → ci_H → Option (Int32 × ci_H)) (l0 : Nat) (l2 : Int32)  (h : ci_H) : Option (Int32 × ci_H) := (F_X12_in l2 48 57 h).bind fun q1 => if q1.1 = 0 then ((F_X12_letterOf l2 q1.2).bind fun q3 => if q3.1 = ((-1)) then ((gI q3.2 l0 12 15).bind fun v5 => (F_X12_fault l0 v5 q3.2).bind fun h6 => some (0, h6)) else ((gI q3.2 l0 12 15).bind fun v7 => (pF q3.2 l0 12 15 (.int (v7 + 1))).bind fun h8 => (gI h8 l0 12 20).bind fun v9 => if v9 = 0 then (some (0, h8)) else ((gR h8 l0 12 21).bind fun v11 => (F_X12_letterOf l2 h8).bind fun q12 => (rI q12.2 v11 q12.1).bind fun v13 => some (v13, q12.2)))) else ((F_X12_number l0 3 q1.2).bind fun q14 => some (q14.1, q14.2))
set_option maxHeartbeats 4000000 in
set_option maxRecDepth 20000 in
theorem eb_X12_part_67 {xs : Nat → Int32} {N d : Nat} {nx : ci_N} {rc : Nat → Nat → Int32 → ci_H → Option (Int32 × ci_H)} {l0 : Nat} {l2 : Int32} (hd : 3 ≤ d) (hrc : ∀ (j : Nat) (a0 : Nat) (a1 : Int32) (h : ci_H) (r : Int32 × ci_H), rc j a0 a1 h = some r → Ev xs N d (mg_X12_held j) 0 (ci_entry [.ref a0, .int a1] (ci_n (ci_Ms (mg_X12_held j)))) [] h nx (oI r nx)) (hrk : ∀ (j : Nat) (a0 : Nat) (a1 : Int32) (h : ci_H) (r : Int32 × ci_H), rc j a0 a1 h = some r → kO h a0 = some 12) {h : ci_H} {r : Int32 × ci_H} (H : b_X12_part_67 rc l0 l2 h = some r) : Ev xs N (d + 1) 198 67 [.ref l0, ci_junk, .int l2, ci_junk] [] h nx (oI r nx) := by
  unfold b_X12_part_67 at H
  refine ev_go hc_X12_part (k := 3) (pc' := 72) (L' := [.ref l0, ci_junk, .int l2, ci_junk]) (S' := [.int 57, .int 48, .int l2]) rfl ?_
  obtain ⟨q1, eq1, H⟩ := Option.bind_eq_some_iff.mp H
  refine ev_call (vs := [.int l2, .int 48, .int 57]) (rest := []) (q := q_X12_in) hc_X12_part (Or.inl rfl) (fe_X12_part (pc := 72) rfl) ms_170 rfl rfl (Nat.le_of_ble_eq_true rfl) rfl (E_X12_in eq1 (by omega)) rfl ?_
  show Ev xs N (d + 1) 198 75 [.ref l0, ci_junk, .int l2, ci_junk] [.int q1.1] q1.2 nx _
  by_cases c2 : q1.1 = 0
  · rw [if_pos c2] at H
    refine ev_bt hc_X12_part (fe_X12_part (pc := 75) rfl) rfl c2 ?_
    refine ev_go hc_X12_part (k := 1) (pc' := 85) (L' := [.ref l0, ci_junk, .int l2, ci_junk]) (S' := [.int l2]) rfl ?_
    obtain ⟨q3, eq3, H⟩ := Option.bind_eq_some_iff.mp H
    refine ev_call (vs := [.int l2]) (rest := []) (q := q_X12_letterOf) hc_X12_part (Or.inl rfl) (fe_X12_part (pc := 85) rfl) ms_197 rfl rfl (Nat.le_of_ble_eq_true rfl) rfl (E_X12_letterOf eq3 (by omega)) rfl ?_
    show Ev xs N (d + 1) 198 88 [.ref l0, ci_junk, .int l2, ci_junk] [.int q3.1] q3.2 nx _
    refine ev_go hc_X12_part (k := 1) (pc' := 89) (L' := [.ref l0, ci_junk, .int l2, ci_junk]) (S' := [.int ((-1)), .int q3.1]) rfl ?_
    by_cases c4 : q3.1 = ((-1))
    · rw [if_pos c4] at H
      refine ev_bt hc_X12_part (fe_X12_part (pc := 89) rfl) rfl c4 ?_
      refine ev_go hc_X12_part (k := 2) (pc' := 94) (L' := [.ref l0, ci_junk, .int l2, ci_junk]) (S' := [.ref l0, .ref l0]) rfl ?_
      obtain ⟨v5, ev5, H⟩ := Option.bind_eq_some_iff.mp H
      refine ev_4 hc_X12_part (fe_X12_part (pc := 94) rfl) (gI_gf ev5) ?_
      obtain ⟨h6, eh6, H⟩ := Option.bind_eq_some_iff.mp H
      refine ev_call (vs := [.ref l0, .int v5]) (rest := []) (q := q_X12_fault) hc_X12_part (Or.inr rfl) (fe_X12_part (pc := 97) rfl) ms_184 rfl rfl (Nat.le_of_ble_eq_true rfl) (kO_recv (K_X12_fault eh6)) (E_X12_fault eh6 (by omega)) rfl ?_
      show Ev xs N (d + 1) 198 100 [.ref l0, ci_junk, .int l2, ci_junk] [] h6 nx _
      refine ev_go hc_X12_part (k := 1) (pc' := 101) (L' := [.ref l0, ci_junk, .int l2, ci_junk]) (S' := [.int 0]) rfl ?_
      obtain rfl := Option.some.inj H
      exact ev_8 hc_X12_part (fe_X12_part (pc := 101) rfl) rfl
    · rw [if_neg c4] at H
      refine ev_bf hc_X12_part (fe_X12_part (pc := 89) rfl) rfl c4 ?_
      refine ev_go hc_X12_part (k := 2) (pc' := 104) (L' := [.ref l0, ci_junk, .int l2, ci_junk]) (S' := [.ref l0, .ref l0]) rfl ?_
      obtain ⟨v7, ev7, H⟩ := Option.bind_eq_some_iff.mp H
      refine ev_4 hc_X12_part (fe_X12_part (pc := 104) rfl) (gI_gf ev7) ?_
      refine ev_go hc_X12_part (k := 2) (pc' := 109) (L' := [.ref l0, ci_junk, .int l2, ci_junk]) (S' := [.int (v7 + 1), .ref l0]) rfl ?_
      obtain ⟨h8, eh8, H⟩ := Option.bind_eq_some_iff.mp H
      refine ev_5 hc_X12_part (fe_X12_part (pc := 109) rfl) (pF_pf eh8) ?_
      refine ev_go hc_X12_part (k := 1) (pc' := 113) (L' := [.ref l0, ci_junk, .int l2, ci_junk]) (S' := [.ref l0]) rfl ?_
      obtain ⟨v9, ev9, H⟩ := Option.bind_eq_some_iff.mp H
      refine ev_4 hc_X12_part (fe_X12_part (pc := 113) rfl) (gI_gf ev9) ?_
      by_cases c10 : v9 = 0
      · rw [if_pos c10] at H
        refine ev_bt hc_X12_part (fe_X12_part (pc := 116) rfl) rfl c10 ?_
        refine ev_go hc_X12_part (k := 1) (pc' := 132) (L' := [.ref l0, ci_junk, .int l2, ci_junk]) (S' := [.int 0]) rfl ?_
        obtain rfl := Option.some.inj H
        exact ev_8 hc_X12_part (fe_X12_part (pc := 132) rfl) rfl
      · rw [if_neg c10] at H
        refine ev_bf hc_X12_part (fe_X12_part (pc := 116) rfl) rfl c10 ?_
        refine ev_go hc_X12_part (k := 1) (pc' := 120) (L' := [.ref l0, ci_junk, .int l2, ci_junk]) (S' := [.ref l0]) rfl ?_
        obtain ⟨v11, ev11, H⟩ := Option.bind_eq_some_iff.mp H
        refine ev_4 hc_X12_part (fe_X12_part (pc := 120) rfl) (gR_gf ev11) ?_
        refine ev_go hc_X12_part (k := 1) (pc' := 124) (L' := [.ref l0, ci_junk, .int l2, ci_junk]) (S' := [.int l2, .ref v11]) rfl ?_
        obtain ⟨q12, eq12, H⟩ := Option.bind_eq_some_iff.mp H
        refine ev_call (vs := [.int l2]) (rest := [.ref v11]) (q := q_X12_letterOf) hc_X12_part (Or.inl rfl) (fe_X12_part (pc := 124) rfl) ms_197 rfl rfl (Nat.le_of_ble_eq_true rfl) rfl (E_X12_letterOf eq12 (by omega)) rfl ?_
        show Ev xs N (d + 1) 198 127 [.ref l0, ci_junk, .int l2, ci_junk] [.int q12.1, .ref v11] q12.2 nx _
        obtain ⟨v13, ev13, H⟩ := Option.bind_eq_some_iff.mp H
        refine ev_4 hc_X12_part (fe_X12_part (pc := 127) rfl) (rI_al ev13) ?_
        refine ev_go hc_X12_part (k := 1) (pc' := 132) (L' := [.ref l0, ci_junk, .int l2, ci_junk]) (S' := [.int v13]) rfl ?_
        obtain rfl := Option.some.inj H
        exact ev_8 hc_X12_part (fe_X12_part (pc := 132) rfl) rfl
  · rw [if_neg c2] at H
    refine ev_bf hc_X12_part (fe_X12_part (pc := 75) rfl) rfl c2 ?_
    refine ev_go hc_X12_part (k := 2) (pc' := 80) (L' := [.ref l0, ci_junk, .int l2, ci_junk]) (S' := [.int 3, .ref l0]) rfl ?_
    obtain ⟨q14, eq14, H⟩ := Option.bind_eq_some_iff.mp H
    refine ev_call (vs := [.ref l0, .int 3]) (rest := []) (q := q_X12_number) hc_X12_part (Or.inr rfl) (fe_X12_part (pc := 80) rfl) ms_188 rfl rfl (Nat.le_of_ble_eq_true rfl) (kO_recv (K_X12_number eq14)) (E_X12_number eq14 (by omega)) rfl ?_
    show Ev xs N (d + 1) 198 83 [.ref l0, ci_junk, .int l2, ci_junk] [.int q14.1] q14.2 nx _
    obtain rfl := Option.some.inj H
    exact ev_8 hc_X12_part (fe_X12_part (pc := 83) rfl) rfl
def G_X12_part (rc : Nat → Nat → Int32 → ci_H → Option (Int32 × ci_H)) (a0 : Nat) (a1 : Int32) (h : ci_H) : Option (Int32 × ci_H) := if kO h a0 = some 12 then ((F_X12_passes a0 45 h).bind fun q1 => if q1.1 = 0 then ((F_X12_fine a0 q1.2).bind fun q3 => if q3.1 = 0 then (some (0, q3.2)) else ((F_X12_here a0 q3.2).bind fun q5 => if q5.1 = 40 then (if 4 ≤ a1 then (b_X12_part_67 rc a0 q5.1 q5.2) else ((gI q5.2 a0 12 15).bind fun v8 => (pF q5.2 a0 12 15 (.int (v8 + 1))).bind fun h9 => (rc 0 a0 (a1 + 1) h9).bind fun q10 => (F_X12_need a0 41 q10.2).bind fun h11 => some (q10.1, h11))) else (b_X12_part_67 rc a0 q5.1 q5.2))) else ((rc 3 a0 a1 q1.2).bind fun q12 => some (-q12.1, q12.2))) else none
theorem KG_X12_part {rc : Nat → Nat → Int32 → ci_H → Option (Int32 × ci_H)} {a0 : Nat} {a1 : Int32} {h : ci_H} {r : Int32 × ci_H} (H : G_X12_part rc a0 a1 h = some r) : kO h a0 = some 12 := by
  unfold G_X12_part at H
  by_cases c : kO h a0 = some 12
  · exact c
  · rw [if_neg c] at H; cases H
set_option maxHeartbeats 4000000 in
set_option maxRecDepth 20000 in
theorem EG_X12_part {xs : Nat → Int32} {N d : Nat} {nx : ci_N} {rc : Nat → Nat → Int32 → ci_H → Option (Int32 × ci_H)} {a0 : Nat} {a1 : Int32} (hd : 3 ≤ d) (hrc : ∀ (j : Nat) (a0 : Nat) (a1 : Int32) (h : ci_H) (r : Int32 × ci_H), rc j a0 a1 h = some r → Ev xs N d (mg_X12_held j) 0 (ci_entry [.ref a0, .int a1] (ci_n (ci_Ms (mg_X12_held j)))) [] h nx (oI r nx)) (hrk : ∀ (j : Nat) (a0 : Nat) (a1 : Int32) (h : ci_H) (r : Int32 × ci_H), rc j a0 a1 h = some r → kO h a0 = some 12) {h : ci_H} {r : Int32 × ci_H} (H : G_X12_part rc a0 a1 h = some r) : Ev xs N (d + 1) 198 0 (ci_entry [.ref a0, .int a1] 4) [] h nx (oI r nx) := by
  unfold G_X12_part at H
  by_cases ck : kO h a0 = some 12
  · rw [if_pos ck] at H
    show Ev xs N (d + 1) 198 0 [.ref a0, .int a1, ci_junk, ci_junk] [] h nx _
    refine ev_go hc_X12_part (k := 2) (pc' := 3) (L' := [.ref a0, .int a1, ci_junk, ci_junk]) (S' := [.int 45, .ref a0]) rfl ?_
    obtain ⟨q1, eq1, H⟩ := Option.bind_eq_some_iff.mp H
    refine ev_call (vs := [.ref a0, .int 45]) (rest := []) (q := q_X12_passes) hc_X12_part (Or.inr rfl) (fe_X12_part (pc := 3) rfl) ms_185 rfl rfl (Nat.le_of_ble_eq_true rfl) (kO_recv (K_X12_passes eq1)) (E_X12_passes eq1 (by omega)) rfl ?_
    show Ev xs N (d + 1) 198 6 [.ref a0, .int a1, ci_junk, ci_junk] [.int q1.1] q1.2 nx _
    by_cases c2 : q1.1 = 0
    · rw [if_pos c2] at H
      refine ev_bt hc_X12_part (fe_X12_part (pc := 6) rfl) rfl c2 ?_
      refine ev_go hc_X12_part (k := 1) (pc' := 17) (L' := [.ref a0, .int a1, ci_junk, ci_junk]) (S' := [.ref a0]) rfl ?_
      obtain ⟨q3, eq3, H⟩ := Option.bind_eq_some_iff.mp H
      refine ev_call (vs := [.ref a0]) (rest := []) (q := q_X12_fine) hc_X12_part (Or.inr rfl) (fe_X12_part (pc := 17) rfl) ms_183 rfl rfl (Nat.le_of_ble_eq_true rfl) (kO_recv (K_X12_fine eq3)) (E_X12_fine eq3 (by omega)) rfl ?_
      show Ev xs N (d + 1) 198 20 [.ref a0, .int a1, ci_junk, ci_junk] [.int q3.1] q3.2 nx _
      by_cases c4 : q3.1 = 0
      · rw [if_pos c4] at H
        refine ev_bt hc_X12_part (fe_X12_part (pc := 20) rfl) rfl c4 ?_
        refine ev_go hc_X12_part (k := 1) (pc' := 24) (L' := [.ref a0, .int a1, ci_junk, ci_junk]) (S' := [.int 0]) rfl ?_
        obtain rfl := Option.some.inj H
        exact ev_8 hc_X12_part (fe_X12_part (pc := 24) rfl) rfl
      · rw [if_neg c4] at H
        refine ev_bf hc_X12_part (fe_X12_part (pc := 20) rfl) rfl c4 ?_
        refine ev_go hc_X12_part (k := 1) (pc' := 26) (L' := [.ref a0, .int a1, ci_junk, ci_junk]) (S' := [.ref a0]) rfl ?_
        obtain ⟨q5, eq5, H⟩ := Option.bind_eq_some_iff.mp H
        refine ev_call (vs := [.ref a0]) (rest := []) (q := q_X12_here) hc_X12_part (Or.inr rfl) (fe_X12_part (pc := 26) rfl) ms_182 rfl rfl (Nat.le_of_ble_eq_true rfl) (kO_recv (K_X12_here eq5)) (E_X12_here eq5 (by omega)) rfl ?_
        show Ev xs N (d + 1) 198 29 [.ref a0, .int a1, ci_junk, ci_junk] [.int q5.1] q5.2 nx _
        refine ev_go hc_X12_part (k := 3) (pc' := 33) (L' := [.ref a0, .int a1, .int q5.1, ci_junk]) (S' := [.int 40, .int q5.1]) rfl ?_
        by_cases c6 : q5.1 = 40
        · rw [if_pos c6] at H
          refine ev_bt hc_X12_part (fe_X12_part (pc := 33) rfl) rfl c6 ?_
          refine ev_go hc_X12_part (k := 2) (pc' := 38) (L' := [.ref a0, .int a1, .int q5.1, ci_junk]) (S' := [.int 4, .int a1]) rfl ?_
          by_cases c7 : 4 ≤ a1
          · rw [if_pos c7] at H
            refine ev_bt hc_X12_part (fe_X12_part (pc := 38) rfl) rfl c7 ?_
            exact Ev.weak (ci_le_c (Or.inr rfl) (ci_le_c (Or.inl rfl) (ci_le_c (Or.inr rfl) (ci_le_c (Or.inl rfl) (ci_le_n))))) (eb_X12_part_67 hd hrc hrk H)
          · rw [if_neg c7] at H
            refine ev_bf hc_X12_part (fe_X12_part (pc := 38) rfl) rfl c7 ?_
            refine ev_go hc_X12_part (k := 2) (pc' := 43) (L' := [.ref a0, .int a1, .int q5.1, ci_junk]) (S' := [.ref a0, .ref a0]) rfl ?_
            obtain ⟨v8, ev8, H⟩ := Option.bind_eq_some_iff.mp H
            refine ev_4 hc_X12_part (fe_X12_part (pc := 43) rfl) (gI_gf ev8) ?_
            refine ev_go hc_X12_part (k := 2) (pc' := 48) (L' := [.ref a0, .int a1, .int q5.1, ci_junk]) (S' := [.int (v8 + 1), .ref a0]) rfl ?_
            obtain ⟨h9, eh9, H⟩ := Option.bind_eq_some_iff.mp H
            refine ev_5 hc_X12_part (fe_X12_part (pc := 48) rfl) (pF_pf eh9) ?_
            refine ev_go hc_X12_part (k := 4) (pc' := 55) (L' := [.ref a0, .int a1, .int q5.1, ci_junk]) (S' := [.int (a1 + 1), .ref a0]) rfl ?_
            obtain ⟨q10, eq10, H⟩ := Option.bind_eq_some_iff.mp H
            refine ev_call (vs := [.ref a0, .int (a1 + 1)]) (rest := []) (q := q_X12_held) hc_X12_part (Or.inr rfl) (fe_X12_part (pc := 55) rfl) ms_194 rfl rfl (Nat.le_of_ble_eq_true rfl) (kO_recv (hrk _ _ _ _ _ eq10)) (hrc 0 _ _ _ _ eq10) rfl ?_
            show Ev xs N (d + 1) 198 58 [.ref a0, .int a1, .int q5.1, ci_junk] [.int q10.1] q10.2 nx _
            refine ev_go hc_X12_part (k := 3) (pc' := 62) (L' := [.ref a0, .int a1, .int q5.1, .int q10.1]) (S' := [.int 41, .ref a0]) rfl ?_
            obtain ⟨h11, eh11, H⟩ := Option.bind_eq_some_iff.mp H
            refine ev_call (vs := [.ref a0, .int 41]) (rest := []) (q := q_X12_need) hc_X12_part (Or.inr rfl) (fe_X12_part (pc := 62) rfl) ms_186 rfl rfl (Nat.le_of_ble_eq_true rfl) (kO_recv (K_X12_need eh11)) (E_X12_need eh11 (by omega)) rfl ?_
            show Ev xs N (d + 1) 198 65 [.ref a0, .int a1, .int q5.1, .int q10.1] [] h11 nx _
            refine ev_go hc_X12_part (k := 1) (pc' := 66) (L' := [.ref a0, .int a1, .int q5.1, .int q10.1]) (S' := [.int q10.1]) rfl ?_
            obtain rfl := Option.some.inj H
            exact ev_8 hc_X12_part (fe_X12_part (pc := 66) rfl) rfl
        · rw [if_neg c6] at H
          refine ev_bf hc_X12_part (fe_X12_part (pc := 33) rfl) rfl c6 ?_
          exact Ev.weak (ci_le_c (Or.inr rfl) (ci_le_c (Or.inl rfl) (ci_le_c (Or.inr rfl) (ci_le_c (Or.inl rfl) (ci_le_n))))) (eb_X12_part_67 hd hrc hrk H)
    · rw [if_neg c2] at H
      refine ev_bf hc_X12_part (fe_X12_part (pc := 6) rfl) rfl c2 ?_
      refine ev_go hc_X12_part (k := 2) (pc' := 11) (L' := [.ref a0, .int a1, ci_junk, ci_junk]) (S' := [.int a1, .ref a0]) rfl ?_
      obtain ⟨q12, eq12, H⟩ := Option.bind_eq_some_iff.mp H
      refine ev_call (vs := [.ref a0, .int a1]) (rest := []) (q := q_X12_part) hc_X12_part (Or.inr rfl) (fe_X12_part (pc := 11) rfl) ms_198 rfl rfl (Nat.le_of_ble_eq_true rfl) (kO_recv (hrk _ _ _ _ _ eq12)) (hrc 3 _ _ _ _ eq12) rfl ?_
      show Ev xs N (d + 1) 198 14 [.ref a0, .int a1, ci_junk, ci_junk] [.int q12.1] q12.2 nx _
      refine ev_go hc_X12_part (k := 1) (pc' := 15) (L' := [.ref a0, .int a1, ci_junk, ci_junk]) (S' := [.int (-q12.1)]) rfl ?_
      obtain rfl := Option.some.inj H
      exact ev_8 hc_X12_part (fe_X12_part (pc := 15) rfl) rfl
  · rw [if_neg ck] at H; cases H
def FG_X12_held : Nat → Nat → Nat → Int32 → ci_H → Option (Int32 × ci_H)
  | 0, _, _, _, _ => none
  | n + 1, j, a0, a1, h => match j with
    | 0 => G_X12_held (fun j a0 a1 h => FG_X12_held n j a0 a1 h) a0 a1 h
    | 1 => G_X12_sum (fun j a0 a1 h => FG_X12_held n j a0 a1 h) a0 a1 h
    | 2 => G_X12_product (fun j a0 a1 h => FG_X12_held n j a0 a1 h) a0 a1 h
    | _ => G_X12_part (fun j a0 a1 h => FG_X12_held n j a0 a1 h) a0 a1 h
theorem KGG_X12_held : ∀ (n j : Nat) (a0 : Nat) (a1 : Int32) (h : ci_H) (r : Int32 × ci_H), FG_X12_held n j a0 a1 h = some r → kO h a0 = some 12 := by
  intro n j a0 a1 h r H
  cases n with
  | zero => cases H
  | succ n =>
    match j, H with
    | 0, H => exact KG_X12_held H
    | 1, H => exact KG_X12_sum H
    | 2, H => exact KG_X12_product H
    | j + 3, H => exact KG_X12_part H
theorem EGG_X12_held {xs : Nat → Int32} {N : Nat} {nx : ci_N} : ∀ (n d j : Nat) (a0 : Nat) (a1 : Int32) (h : ci_H) (r : Int32 × ci_H), FG_X12_held n j a0 a1 h = some r → n + 4 ≤ d → Ev xs N d (mg_X12_held j) 0 (ci_entry [.ref a0, .int a1] (ci_n (ci_Ms (mg_X12_held j)))) [] h nx (oI r nx) := by
  intro n
  induction n with
  | zero => intro d j a0 a1 h r H; cases H
  | succ n ih =>
    intro d j a0 a1 h r H hd
    obtain ⟨d, rfl⟩ : ∃ d2, d = d2 + 1 := ⟨d - 1, by omega⟩
    match j, H with
    | 0, H => exact EG_X12_held (by omega) (fun j a0 a1 h r H => ih d j a0 a1 h r H (by omega)) (KGG_X12_held n) H
    | 1, H => exact EG_X12_sum (by omega) (fun j a0 a1 h r H => ih d j a0 a1 h r H (by omega)) (KGG_X12_held n) H
    | 2, H => exact EG_X12_product (by omega) (fun j a0 a1 h r H => ih d j a0 a1 h r H (by omega)) (KGG_X12_held n) H
    | j + 3, H => exact EG_X12_part (by omega) (fun j a0 a1 h r H => ih d j a0 a1 h r H (by omega)) (KGG_X12_held n) H
def F_X12_held (a0 : Nat) (a1 : Int32) (h : ci_H) : Option (Int32 × ci_H) := FG_X12_held recN 0 a0 a1 h
theorem K_X12_held {a0 : Nat} {a1 : Int32} {h : ci_H} {r : Int32 × ci_H} (H : F_X12_held a0 a1 h = some r) : kO h a0 = some 12 := KGG_X12_held recN 0 _ _ h r H
theorem E_X12_held {xs : Nat → Int32} {N d : Nat} {nx : ci_N} {a0 : Nat} {a1 : Int32} {h : ci_H} {r : Int32 × ci_H} (H : F_X12_held a0 a1 h = some r) (hd : 104 ≤ d) : Ev xs N d 194 0 (ci_entry [.ref a0, .int a1] 3) [] h nx (oI r nx) := EGG_X12_held recN d 0 _ _ h r H (by unfold recN; omega)
def F_X12_sum (a0 : Nat) (a1 : Int32) (h : ci_H) : Option (Int32 × ci_H) := FG_X12_held recN 1 a0 a1 h
theorem K_X12_sum {a0 : Nat} {a1 : Int32} {h : ci_H} {r : Int32 × ci_H} (H : F_X12_sum a0 a1 h = some r) : kO h a0 = some 12 := KGG_X12_held recN 1 _ _ h r H
theorem E_X12_sum {xs : Nat → Int32} {N d : Nat} {nx : ci_N} {a0 : Nat} {a1 : Int32} {h : ci_H} {r : Int32 × ci_H} (H : F_X12_sum a0 a1 h = some r) (hd : 104 ≤ d) : Ev xs N d 195 0 (ci_entry [.ref a0, .int a1] 5) [] h nx (oI r nx) := EGG_X12_held recN d 1 _ _ h r H (by unfold recN; omega)
def F_X12_product (a0 : Nat) (a1 : Int32) (h : ci_H) : Option (Int32 × ci_H) := FG_X12_held recN 2 a0 a1 h
theorem K_X12_product {a0 : Nat} {a1 : Int32} {h : ci_H} {r : Int32 × ci_H} (H : F_X12_product a0 a1 h = some r) : kO h a0 = some 12 := KGG_X12_held recN 2 _ _ h r H
theorem E_X12_product {xs : Nat → Int32} {N d : Nat} {nx : ci_N} {a0 : Nat} {a1 : Int32} {h : ci_H} {r : Int32 × ci_H} (H : F_X12_product a0 a1 h = some r) (hd : 104 ≤ d) : Ev xs N d 196 0 (ci_entry [.ref a0, .int a1] 5) [] h nx (oI r nx) := EGG_X12_held recN d 2 _ _ h r H (by unfold recN; omega)
def F_X12_part (a0 : Nat) (a1 : Int32) (h : ci_H) : Option (Int32 × ci_H) := FG_X12_held recN 3 a0 a1 h
theorem K_X12_part {a0 : Nat} {a1 : Int32} {h : ci_H} {r : Int32 × ci_H} (H : F_X12_part a0 a1 h = some r) : kO h a0 = some 12 := KGG_X12_held recN 3 _ _ h r H
theorem E_X12_part {xs : Nat → Int32} {N d : Nat} {nx : ci_N} {a0 : Nat} {a1 : Int32} {h : ci_H} {r : Int32 × ci_H} (H : F_X12_part a0 a1 h = some r) (hd : 104 ≤ d) : Ev xs N d 198 0 (ci_entry [.ref a0, .int a1] 4) [] h nx (oI r nx) := EGG_X12_held recN d 3 _ _ h r H (by unfold recN; omega)
theorem hc_X12_rule : ci_code (ci_Ms 199) = k_X12_rule := rfl
theorem fe_X12_rule {pc : Nat} {w : Option ci_I} (h : (k_X12_rule)[pc]? = some w) : (k_X12_rule)[pc]? = some w := h
def b_X12_rule_47 (l0 : Nat) (l1 : Int32) : Nat → Int32 → ci_H → Option (Int32 × ci_H)
  | 0, _, _ => none
  | n + 1, l2, h => if l1 ≤ l2 then ((pF h l0 12 19 (.int l1)).bind fun h2 => some (0, h2)) else ((gR h l0 12 18).bind fun v3 => (gR h l0 12 7).bind fun v4 => (rB h v4 l2).bind fun v5 => (wB h v3 l2 v5).bind fun h6 => b_X12_rule_47 l0 l1 n (l2 + 1) h6)
set_option maxHeartbeats 4000000 in
set_option maxRecDepth 20000 in
theorem eb_X12_rule_47 {xs : Nat → Int32} {N d : Nat} {nx : ci_N} {l0 : Nat} {l1 : Int32} (hd : 104 ≤ d) : ∀ (n : Nat) (l2 : Int32) (h : ci_H) (r : Int32 × ci_H), b_X12_rule_47 l0 l1 n l2 h = some r → Ev xs N (d + 1) 199 47 [.ref l0, .int l1, .int l2] [] h nx (oI r nx) := by
  intro n
  induction n with
  | zero => intro l2 h r H; unfold b_X12_rule_47 at H; cases H
  | succ n ih =>
    intro l2 h r H
    unfold b_X12_rule_47 at H
    refine ev_go hc_X12_rule (k := 2) (pc' := 49) (L' := [.ref l0, .int l1, .int l2]) (S' := [.int l1, .int l2]) rfl ?_
    by_cases c1 : l1 ≤ l2
    · rw [if_pos c1] at H
      refine ev_bt hc_X12_rule (fe_X12_rule (pc := 49) rfl) rfl c1 ?_
      refine ev_go hc_X12_rule (k := 2) (pc' := 72) (L' := [.ref l0, .int l1, .int l2]) (S' := [.int l1, .ref l0]) rfl ?_
      obtain ⟨h2, eh2, H⟩ := Option.bind_eq_some_iff.mp H
      refine ev_5 hc_X12_rule (fe_X12_rule (pc := 72) rfl) (pF_pf eh2) ?_
      refine ev_go hc_X12_rule (k := 1) (pc' := 76) (L' := [.ref l0, .int l1, .int l2]) (S' := [.int 0]) rfl ?_
      obtain rfl := Option.some.inj H
      exact ev_8 hc_X12_rule (fe_X12_rule (pc := 76) rfl) rfl
    · rw [if_neg c1] at H
      refine ev_bf hc_X12_rule (fe_X12_rule (pc := 49) rfl) rfl c1 ?_
      refine ev_go hc_X12_rule (k := 1) (pc' := 53) (L' := [.ref l0, .int l1, .int l2]) (S' := [.ref l0]) rfl ?_
      obtain ⟨v3, ev3, H⟩ := Option.bind_eq_some_iff.mp H
      refine ev_4 hc_X12_rule (fe_X12_rule (pc := 53) rfl) (gR_gf ev3) ?_
      refine ev_go hc_X12_rule (k := 2) (pc' := 58) (L' := [.ref l0, .int l1, .int l2]) (S' := [.ref l0, .int l2, .ref v3]) rfl ?_
      obtain ⟨v4, ev4, H⟩ := Option.bind_eq_some_iff.mp H
      refine ev_4 hc_X12_rule (fe_X12_rule (pc := 58) rfl) (gR_gf ev4) ?_
      refine ev_go hc_X12_rule (k := 1) (pc' := 62) (L' := [.ref l0, .int l1, .int l2]) (S' := [.int l2, .ref v4, .int l2, .ref v3]) rfl ?_
      obtain ⟨v5, ev5, H⟩ := Option.bind_eq_some_iff.mp H
      refine ev_4 hc_X12_rule (fe_X12_rule (pc := 62) rfl) (rB_al ev5) ?_
      obtain ⟨h6, eh6, H⟩ := Option.bind_eq_some_iff.mp H
      refine ev_5 hc_X12_rule (fe_X12_rule (pc := 63) rfl) (wB_as eh6) ?_
      refine ev_go hc_X12_rule (k := 2) (pc' := 47) (L' := [.ref l0, .int l1, .int (l2 + 1)]) (S' := []) rfl ?_
      exact Ev.weak (ci_le_c (Or.inr rfl) (ci_le_c (Or.inr rfl) (ci_le_c (Or.inr rfl) (ci_le_n)))) (ih _ _ _ H)
def b_X12_rule_31 (l0 : Nat) (l1 : Int32)  (h : ci_H) : Option (Int32 × ci_H) := (F_X12_wasRight l0 h).bind fun q1 => if q1.1 = 0 then ((gI q1.2 l0 12 16).bind fun v3 => some (((-1)) - v3, q1.2)) else (b_X12_rule_47 l0 l1 bigN 0 q1.2)
set_option maxHeartbeats 4000000 in
set_option maxRecDepth 20000 in
theorem eb_X12_rule_31 {xs : Nat → Int32} {N d : Nat} {nx : ci_N} {l0 : Nat} {l1 : Int32} (hd : 104 ≤ d) {h : ci_H} {r : Int32 × ci_H} (H : b_X12_rule_31 l0 l1 h = some r) : Ev xs N (d + 1) 199 31 [.ref l0, .int l1, ci_junk] [] h nx (oI r nx) := by
  unfold b_X12_rule_31 at H
  refine ev_go hc_X12_rule (k := 1) (pc' := 32) (L' := [.ref l0, .int l1, ci_junk]) (S' := [.ref l0]) rfl ?_
  obtain ⟨q1, eq1, H⟩ := Option.bind_eq_some_iff.mp H
  refine ev_call (vs := [.ref l0]) (rest := []) (q := q_X12_wasRight) hc_X12_rule (Or.inr rfl) (fe_X12_rule (pc := 32) rfl) ms_189 rfl rfl (Nat.le_of_ble_eq_true rfl) (kO_recv (K_X12_wasRight eq1)) (E_X12_wasRight eq1 (by omega)) rfl ?_
  show Ev xs N (d + 1) 199 35 [.ref l0, .int l1, ci_junk] [.int q1.1] q1.2 nx _
  by_cases c2 : q1.1 = 0
  · rw [if_pos c2] at H
    refine ev_bt hc_X12_rule (fe_X12_rule (pc := 35) rfl) rfl c2 ?_
    refine ev_go hc_X12_rule (k := 2) (pc' := 40) (L' := [.ref l0, .int l1, ci_junk]) (S' := [.ref l0, .int ((-1))]) rfl ?_
    obtain ⟨v3, ev3, H⟩ := Option.bind_eq_some_iff.mp H
    refine ev_4 hc_X12_rule (fe_X12_rule (pc := 40) rfl) (gI_gf ev3) ?_
    refine ev_go hc_X12_rule (k := 1) (pc' := 44) (L' := [.ref l0, .int l1, ci_junk]) (S' := [.int (((-1)) - v3)]) rfl ?_
    obtain rfl := Option.some.inj H
    exact ev_8 hc_X12_rule (fe_X12_rule (pc := 44) rfl) rfl
  · rw [if_neg c2] at H
    refine ev_bf hc_X12_rule (fe_X12_rule (pc := 35) rfl) rfl c2 ?_
    refine ev_go hc_X12_rule (k := 2) (pc' := 47) (L' := [.ref l0, .int l1, .int 0]) (S' := []) rfl ?_
    exact Ev.weak (ci_le_c (Or.inr rfl) (ci_le_c (Or.inr rfl) (ci_le_c (Or.inr rfl) (ci_le_n)))) (eb_X12_rule_47 hd bigN _ _ _ H)
def F_X12_rule (a0 : Nat) (h : ci_H) : Option (Int32 × ci_H) := if kO h a0 = some 12 then ((pF h a0 12 11 (.int 0)).bind fun h1 => (gI h1 a0 12 8).bind fun v2 => (F_X12_beginText a0 40 h1).bind fun h3 => (pF h3 a0 12 20 (.int 0)).bind fun h4 => if v2 ≤ 0 then (b_X12_rule_31 a0 v2 h4) else ((F_X12_held a0 0 h4).bind fun q6 => b_X12_rule_31 a0 v2 q6.2)) else none
theorem K_X12_rule {a0 : Nat} {h : ci_H} {r : Int32 × ci_H} (H : F_X12_rule a0 h = some r) : kO h a0 = some 12 := by
  unfold F_X12_rule at H
  by_cases c : kO h a0 = some 12
  · exact c
  · rw [if_neg c] at H; cases H
set_option maxHeartbeats 4000000 in
set_option maxRecDepth 20000 in
theorem E_X12_rule {xs : Nat → Int32} {N d : Nat} {nx : ci_N} {a0 : Nat} {h : ci_H} {r : Int32 × ci_H} (H : F_X12_rule a0 h = some r) (hd : 105 ≤ d) : Ev xs N d 199 0 (ci_entry [.ref a0] 3) [] h nx (oI r nx) := by
  obtain ⟨d, rfl⟩ : ∃ d2, d = d2 + 1 := ⟨d - 1, by omega⟩
  have hd : 104 ≤ d := by omega
  unfold F_X12_rule at H
  by_cases ck : kO h a0 = some 12
  · rw [if_pos ck] at H
    show Ev xs N (d + 1) 199 0 [.ref a0, ci_junk, ci_junk] [] h nx _
    refine ev_go hc_X12_rule (k := 2) (pc' := 2) (L' := [.ref a0, ci_junk, ci_junk]) (S' := [.int 0, .ref a0]) rfl ?_
    obtain ⟨h1, eh1, H⟩ := Option.bind_eq_some_iff.mp H
    refine ev_5 hc_X12_rule (fe_X12_rule (pc := 2) rfl) (pF_pf eh1) ?_
    refine ev_go hc_X12_rule (k := 1) (pc' := 6) (L' := [.ref a0, ci_junk, ci_junk]) (S' := [.ref a0]) rfl ?_
    obtain ⟨v2, ev2, H⟩ := Option.bind_eq_some_iff.mp H
    refine ev_4 hc_X12_rule (fe_X12_rule (pc := 6) rfl) (gI_gf ev2) ?_
    refine ev_go hc_X12_rule (k := 3) (pc' := 13) (L' := [.ref a0, .int v2, ci_junk]) (S' := [.int 40, .ref a0]) rfl ?_
    obtain ⟨h3, eh3, H⟩ := Option.bind_eq_some_iff.mp H
    refine ev_call (vs := [.ref a0, .int 40]) (rest := []) (q := q_X12_beginText) hc_X12_rule (Or.inr rfl) (fe_X12_rule (pc := 13) rfl) ms_181 rfl rfl (Nat.le_of_ble_eq_true rfl) (kO_recv (K_X12_beginText eh3)) (E_X12_beginText eh3 (by omega)) rfl ?_
    show Ev xs N (d + 1) 199 16 [.ref a0, .int v2, ci_junk] [] h3 nx _
    refine ev_go hc_X12_rule (k := 2) (pc' := 18) (L' := [.ref a0, .int v2, ci_junk]) (S' := [.int 0, .ref a0]) rfl ?_
    obtain ⟨h4, eh4, H⟩ := Option.bind_eq_some_iff.mp H
    refine ev_5 hc_X12_rule (fe_X12_rule (pc := 18) rfl) (pF_pf eh4) ?_
    refine ev_go hc_X12_rule (k := 1) (pc' := 22) (L' := [.ref a0, .int v2, ci_junk]) (S' := [.int v2]) rfl ?_
    by_cases c5 : v2 ≤ 0
    · rw [if_pos c5] at H
      refine ev_bt hc_X12_rule (fe_X12_rule (pc := 22) rfl) rfl c5 ?_
      exact Ev.weak (ci_le_c (Or.inr rfl) (ci_le_c (Or.inr rfl) (ci_le_c (Or.inl rfl) (ci_le_n)))) (eb_X12_rule_31 hd H)
    · rw [if_neg c5] at H
      refine ev_bf hc_X12_rule (fe_X12_rule (pc := 22) rfl) rfl c5 ?_
      refine ev_go hc_X12_rule (k := 2) (pc' := 27) (L' := [.ref a0, .int v2, ci_junk]) (S' := [.int 0, .ref a0]) rfl ?_
      obtain ⟨q6, eq6, H⟩ := Option.bind_eq_some_iff.mp H
      refine ev_call (vs := [.ref a0, .int 0]) (rest := []) (q := q_X12_held) hc_X12_rule (Or.inr rfl) (fe_X12_rule (pc := 27) rfl) ms_194 rfl rfl (Nat.le_of_ble_eq_true rfl) (kO_recv (K_X12_held eq6)) (E_X12_held eq6 (by omega)) rfl ?_
      show Ev xs N (d + 1) 199 30 [.ref a0, .int v2, ci_junk] [.int q6.1] q6.2 nx _
      refine ev_go hc_X12_rule (k := 1) (pc' := 31) (L' := [.ref a0, .int v2, ci_junk]) (S' := []) rfl ?_
      exact Ev.weak (ci_le_c (Or.inr rfl) (ci_le_c (Or.inr rfl) (ci_le_c (Or.inl rfl) (ci_le_n)))) (eb_X12_rule_31 hd H)
  · rw [if_neg ck] at H; cases H
theorem hc_X12_isOf : ci_code (ci_Ms 200) = k_X12_isOf := rfl
theorem fe_X12_isOf {pc : Nat} {w : Option ci_I} (h : (k_X12_isOf)[pc]? = some w) : (k_X12_isOf)[pc]? = some w := h
def F_X12_isOf (a0 : Nat) (a1 : Int32) (a2 : Int32) (a3 : Int32) (h : ci_H) : Option (Int32 × ci_H) := if kO h a0 = some 12 then (if (a1 &&& a2) = a2 then (if (a1 &&& a3) = 0 then (some (1, h)) else (some (0, h))) else (some (0, h))) else none
theorem K_X12_isOf {a0 : Nat} {a1 : Int32} {a2 : Int32} {a3 : Int32} {h : ci_H} {r : Int32 × ci_H} (H : F_X12_isOf a0 a1 a2 a3 h = some r) : kO h a0 = some 12 := by
  unfold F_X12_isOf at H
  by_cases c : kO h a0 = some 12
  · exact c
  · rw [if_neg c] at H; cases H
set_option maxHeartbeats 4000000 in
set_option maxRecDepth 20000 in
theorem E_X12_isOf {xs : Nat → Int32} {N d : Nat} {nx : ci_N} {a0 : Nat} {a1 : Int32} {a2 : Int32} {a3 : Int32} {h : ci_H} {r : Int32 × ci_H} (H : F_X12_isOf a0 a1 a2 a3 h = some r) (hd : 0 ≤ d) : Ev xs N d 200 0 (ci_entry [.ref a0, .int a1, .int a2, .int a3] 4) [] h nx (oI r nx) := by
  unfold F_X12_isOf at H
  by_cases ck : kO h a0 = some 12
  · rw [if_pos ck] at H
    show Ev xs N d 200 0 [.ref a0, .int a1, .int a2, .int a3] [] h nx _
    refine ev_go hc_X12_isOf (k := 4) (pc' := 4) (L' := [.ref a0, .int a1, .int a2, .int a3]) (S' := [.int a2, .int (a1 &&& a2)]) rfl ?_
    by_cases c1 : (a1 &&& a2) = a2
    · rw [if_pos c1] at H
      refine ev_bt hc_X12_isOf (fe_X12_isOf (pc := 4) rfl) rfl c1 ?_
      refine ev_go hc_X12_isOf (k := 3) (pc' := 10) (L' := [.ref a0, .int a1, .int a2, .int a3]) (S' := [.int (a1 &&& a3)]) rfl ?_
      by_cases c2 : (a1 &&& a3) = 0
      · rw [if_pos c2] at H
        refine ev_bt hc_X12_isOf (fe_X12_isOf (pc := 10) rfl) rfl c2 ?_
        refine ev_go hc_X12_isOf (k := 2) (pc' := 18) (L' := [.ref a0, .int a1, .int a2, .int a3]) (S' := [.int 1]) rfl ?_
        obtain rfl := Option.some.inj H
        exact ev_8z hc_X12_isOf (fe_X12_isOf (pc := 18) rfl) rfl (Or.inr rfl)
      · rw [if_neg c2] at H
        refine ev_bf hc_X12_isOf (fe_X12_isOf (pc := 10) rfl) rfl c2 ?_
        refine ev_go hc_X12_isOf (k := 1) (pc' := 18) (L' := [.ref a0, .int a1, .int a2, .int a3]) (S' := [.int 0]) rfl ?_
        obtain rfl := Option.some.inj H
        exact ev_8z hc_X12_isOf (fe_X12_isOf (pc := 18) rfl) rfl (Or.inl rfl)
    · rw [if_neg c1] at H
      refine ev_bf hc_X12_isOf (fe_X12_isOf (pc := 4) rfl) rfl c1 ?_
      refine ev_go hc_X12_isOf (k := 1) (pc' := 18) (L' := [.ref a0, .int a1, .int a2, .int a3]) (S' := [.int 0]) rfl ?_
      obtain rfl := Option.some.inj H
      exact ev_8z hc_X12_isOf (fe_X12_isOf (pc := 18) rfl) rfl (Or.inl rfl)
  · rw [if_neg ck] at H; cases H
theorem hc_X12_kindsOf : ci_code (ci_Ms 201) = k_X12_kindsOf := rfl
theorem fe_X12_kindsOf {pc : Nat} {w : Option ci_I} (h : (k_X12_kindsOf)[pc]? = some w) : (k_X12_kindsOf)[pc]? = some w := h
def b_X12_kindsOf_40 (r_4 : Int32 → Int32 → ci_H → Option (Int32 × ci_H)) (l0 : Nat) (l1 : Int32) (l3 : Int32) (s0 : Int32) (s1 : Int32)  (h : ci_H) : Option (Int32 × ci_H) := r_4 (s0 ||| s1) (l3 + 1) h
set_option maxHeartbeats 4000000 in
set_option maxRecDepth 20000 in
theorem eb_X12_kindsOf_40 {xs : Nat → Int32} {N d : Nat} {nx : ci_N} {r_4 : Int32 → Int32 → ci_H → Option (Int32 × ci_H)} {l0 : Nat} {l1 : Int32} {l3 : Int32} {s0 : Int32} {s1 : Int32} (hd : 0 ≤ d) (h_4 : ∀ (l2 : Int32) (l3 : Int32) (h : ci_H) (r : Int32 × ci_H), r_4 l2 l3 h = some r → Ev xs N (d + 1) 201 4 [.ref l0, .int l1, .int l2, .int l3] [] h nx (oI r nx)) {h : ci_H} {r : Int32 × ci_H} (H : b_X12_kindsOf_40 r_4 l0 l1 l3 s0 s1 h = some r) : Ev xs N (d + 1) 201 40 [.ref l0, .int l1, ci_junk, .int l3] [.int s1, .int s0] h nx (oI r nx) := by
  unfold b_X12_kindsOf_40 at H
  refine ev_go hc_X12_kindsOf (k := 4) (pc' := 4) (L' := [.ref l0, .int l1, .int (s0 ||| s1), .int (l3 + 1)]) (S' := []) rfl ?_
  exact Ev.weak (ci_le_c (Or.inr rfl) (ci_le_c (Or.inr rfl) (ci_le_c (Or.inr rfl) (ci_le_c (Or.inr rfl) (ci_le_n))))) (h_4 _ _ _ _ H)
def b_X12_kindsOf_4 (l0 : Nat) (l1 : Int32) : Nat → Int32 → Int32 → ci_H → Option (Int32 × ci_H)
  | 0, _, _, _ => none
  | n + 1, l2, l3, h => (gI h l0 12 3).bind fun v1 => if v1 ≤ l3 then (some (l2, h)) else ((gR h l0 12 4).bind fun v3 => (rI h v3 l3).bind fun v4 => (gR h l0 12 5).bind fun v5 => (rI h v5 l3).bind fun v6 => (F_X12_isOf l0 l1 v4 v6 h).bind fun q7 => if q7.1 = 0 then (b_X12_kindsOf_40 (fun x0 x1 x2 => b_X12_kindsOf_4 l0 l1 n x0 x1 x2) l0 l1 l3 l2 0 q7.2) else (b_X12_kindsOf_40 (fun x0 x1 x2 => b_X12_kindsOf_4 l0 l1 n x0 x1 x2) l0 l1 l3 l2 ((1 : Int32) <<< (l3 &&& 31)) q7.2))
set_option maxHeartbeats 4000000 in
set_option maxRecDepth 20000 in
theorem eb_X12_kindsOf_4 {xs : Nat → Int32} {N d : Nat} {nx : ci_N} {l0 : Nat} {l1 : Int32} (hd : 0 ≤ d) : ∀ (n : Nat) (l2 : Int32) (l3 : Int32) (h : ci_H) (r : Int32 × ci_H), b_X12_kindsOf_4 l0 l1 n l2 l3 h = some r → Ev xs N (d + 1) 201 4 [.ref l0, .int l1, .int l2, .int l3] [] h nx (oI r nx) := by
  intro n
  induction n with
  | zero => intro l2 l3 h r H; unfold b_X12_kindsOf_4 at H; cases H
  | succ n ih =>
    intro l2 l3 h r H
    unfold b_X12_kindsOf_4 at H
    refine ev_go hc_X12_kindsOf (k := 2) (pc' := 6) (L' := [.ref l0, .int l1, .int l2, .int l3]) (S' := [.ref l0, .int l3]) rfl ?_
    obtain ⟨v1, ev1, H⟩ := Option.bind_eq_some_iff.mp H
    refine ev_4 hc_X12_kindsOf (fe_X12_kindsOf (pc := 6) rfl) (gI_gf ev1) ?_
    by_cases c2 : v1 ≤ l3
    · rw [if_pos c2] at H
      refine ev_bt hc_X12_kindsOf (fe_X12_kindsOf (pc := 9) rfl) rfl c2 ?_
      refine ev_go hc_X12_kindsOf (k := 1) (pc' := 49) (L' := [.ref l0, .int l1, .int l2, .int l3]) (S' := [.int l2]) rfl ?_
      obtain rfl := Option.some.inj H
      exact ev_8 hc_X12_kindsOf (fe_X12_kindsOf (pc := 49) rfl) rfl
    · rw [if_neg c2] at H
      refine ev_bf hc_X12_kindsOf (fe_X12_kindsOf (pc := 9) rfl) rfl c2 ?_
      refine ev_go hc_X12_kindsOf (k := 4) (pc' := 16) (L' := [.ref l0, .int l1, .int l2, .int l3]) (S' := [.ref l0, .int l1, .ref l0, .int l2]) rfl ?_
      obtain ⟨v3, ev3, H⟩ := Option.bind_eq_some_iff.mp H
      refine ev_4 hc_X12_kindsOf (fe_X12_kindsOf (pc := 16) rfl) (gR_gf ev3) ?_
      refine ev_go hc_X12_kindsOf (k := 1) (pc' := 20) (L' := [.ref l0, .int l1, .int l2, .int l3]) (S' := [.int l3, .ref v3, .int l1, .ref l0, .int l2]) rfl ?_
      obtain ⟨v4, ev4, H⟩ := Option.bind_eq_some_iff.mp H
      refine ev_4 hc_X12_kindsOf (fe_X12_kindsOf (pc := 20) rfl) (rI_al ev4) ?_
      refine ev_go hc_X12_kindsOf (k := 1) (pc' := 22) (L' := [.ref l0, .int l1, .int l2, .int l3]) (S' := [.ref l0, .int v4, .int l1, .ref l0, .int l2]) rfl ?_
      obtain ⟨v5, ev5, H⟩ := Option.bind_eq_some_iff.mp H
      refine ev_4 hc_X12_kindsOf (fe_X12_kindsOf (pc := 22) rfl) (gR_gf ev5) ?_
      refine ev_go hc_X12_kindsOf (k := 1) (pc' := 26) (L' := [.ref l0, .int l1, .int l2, .int l3]) (S' := [.int l3, .ref v5, .int v4, .int l1, .ref l0, .int l2]) rfl ?_
      obtain ⟨v6, ev6, H⟩ := Option.bind_eq_some_iff.mp H
      refine ev_4 hc_X12_kindsOf (fe_X12_kindsOf (pc := 26) rfl) (rI_al ev6) ?_
      obtain ⟨q7, eq7, H⟩ := Option.bind_eq_some_iff.mp H
      refine ev_call (vs := [.ref l0, .int l1, .int v4, .int v6]) (rest := [.int l2]) (q := q_X12_isOf) hc_X12_kindsOf (Or.inr rfl) (fe_X12_kindsOf (pc := 27) rfl) ms_200 rfl rfl (Nat.le_of_ble_eq_true rfl) (kO_recv (K_X12_isOf eq7)) (E_X12_isOf eq7 (by omega)) rfl ?_
      show Ev xs N (d + 1) 201 30 [.ref l0, .int l1, .int l2, .int l3] [.int q7.1, .int l2] q7.2 nx _
      by_cases c8 : q7.1 = 0
      · rw [if_pos c8] at H
        refine ev_bt hc_X12_kindsOf (fe_X12_kindsOf (pc := 30) rfl) rfl c8 ?_
        refine ev_go hc_X12_kindsOf (k := 1) (pc' := 40) (L' := [.ref l0, .int l1, .int l2, .int l3]) (S' := [.int 0, .int l2]) rfl ?_
        exact Ev.weak (ci_le_c (Or.inr rfl) (ci_le_c (Or.inr rfl) (ci_le_c (Or.inl rfl) (ci_le_c (Or.inr rfl) (ci_le_n))))) (eb_X12_kindsOf_40 hd ih H)
      · rw [if_neg c8] at H
        refine ev_bf hc_X12_kindsOf (fe_X12_kindsOf (pc := 30) rfl) rfl c8 ?_
        refine ev_go hc_X12_kindsOf (k := 4) (pc' := 40) (L' := [.ref l0, .int l1, .int l2, .int l3]) (S' := [.int ((1 : Int32) <<< (l3 &&& 31)), .int l2]) rfl ?_
        exact Ev.weak (ci_le_c (Or.inr rfl) (ci_le_c (Or.inr rfl) (ci_le_c (Or.inl rfl) (ci_le_c (Or.inr rfl) (ci_le_n))))) (eb_X12_kindsOf_40 hd ih H)
def F_X12_kindsOf (a0 : Nat) (a1 : Int32) (h : ci_H) : Option (Int32 × ci_H) := if kO h a0 = some 12 then (b_X12_kindsOf_4 a0 a1 bigN 0 0 h) else none
theorem K_X12_kindsOf {a0 : Nat} {a1 : Int32} {h : ci_H} {r : Int32 × ci_H} (H : F_X12_kindsOf a0 a1 h = some r) : kO h a0 = some 12 := by
  unfold F_X12_kindsOf at H
  by_cases c : kO h a0 = some 12
  · exact c
  · rw [if_neg c] at H; cases H
set_option maxHeartbeats 4000000 in
set_option maxRecDepth 20000 in
theorem E_X12_kindsOf {xs : Nat → Int32} {N d : Nat} {nx : ci_N} {a0 : Nat} {a1 : Int32} {h : ci_H} {r : Int32 × ci_H} (H : F_X12_kindsOf a0 a1 h = some r) (hd : 1 ≤ d) : Ev xs N d 201 0 (ci_entry [.ref a0, .int a1] 4) [] h nx (oI r nx) := by
  obtain ⟨d, rfl⟩ : ∃ d2, d = d2 + 1 := ⟨d - 1, by omega⟩
  have hd : 0 ≤ d := by omega
  unfold F_X12_kindsOf at H
  by_cases ck : kO h a0 = some 12
  · rw [if_pos ck] at H
    show Ev xs N (d + 1) 201 0 [.ref a0, .int a1, ci_junk, ci_junk] [] h nx _
    refine ev_go hc_X12_kindsOf (k := 4) (pc' := 4) (L' := [.ref a0, .int a1, .int 0, .int 0]) (S' := []) rfl ?_
    exact Ev.weak (ci_le_c (Or.inr rfl) (ci_le_c (Or.inr rfl) (ci_le_c (Or.inr rfl) (ci_le_c (Or.inr rfl) (ci_le_n))))) (eb_X12_kindsOf_4 hd bigN _ _ _ _ H)
  · rw [if_neg ck] at H; cases H
theorem hc_X12_keptBy : ci_code (ci_Ms 202) = k_X12_keptBy := rfl
theorem fe_X12_keptBy {pc : Nat} {w : Option ci_I} (h : (k_X12_keptBy)[pc]? = some w) : (k_X12_keptBy)[pc]? = some w := h
def b_X12_keptBy_34 (r_5 : Int32 → Int32 → ci_H → Option (Int32 × ci_H)) (l0 : Nat) (l1 : Nat) (l2 : Int32) (l4 : Int32) (s0 : Int32) (s1 : Int32)  (h : ci_H) : Option (Int32 × ci_H) := r_5 (s0 ||| s1) (l4 + 1) h
set_option maxHeartbeats 4000000 in
set_option maxRecDepth 20000 in
theorem eb_X12_keptBy_34 {xs : Nat → Int32} {N d : Nat} {nx : ci_N} {r_5 : Int32 → Int32 → ci_H → Option (Int32 × ci_H)} {l0 : Nat} {l1 : Nat} {l2 : Int32} {l4 : Int32} {s0 : Int32} {s1 : Int32} (h_5 : ∀ (l3 : Int32) (l4 : Int32) (h : ci_H) (r : Int32 × ci_H), r_5 l3 l4 h = some r → Ev xs N d 202 5 [.ref l0, .ref l1, .int l2, .int l3, .int l4] [] h nx (oI r nx)) {h : ci_H} {r : Int32 × ci_H} (H : b_X12_keptBy_34 r_5 l0 l1 l2 l4 s0 s1 h = some r) : Ev xs N d 202 34 [.ref l0, .ref l1, .int l2, ci_junk, .int l4] [.int s1, .int s0] h nx (oI r nx) := by
  unfold b_X12_keptBy_34 at H
  refine ev_go hc_X12_keptBy (k := 4) (pc' := 5) (L' := [.ref l0, .ref l1, .int l2, .int (s0 ||| s1), .int (l4 + 1)]) (S' := []) rfl ?_
  exact Ev.weak (ci_le_c (Or.inr rfl) (ci_le_c (Or.inr rfl) (ci_le_c (Or.inr rfl) (ci_le_c (Or.inr rfl) (ci_le_c (Or.inr rfl) (ci_le_n)))))) (h_5 _ _ _ _ H)
def b_X12_keptBy_5 (l0 : Nat) (l1 : Nat) (l2 : Int32) : Nat → Int32 → Int32 → ci_H → Option (Int32 × ci_H)
  | 0, _, _, _ => none
  | n + 1, l3, l4, h => (gI h l0 12 2).bind fun v1 => if v1 ≤ l4 then (some (l3, h)) else ((rI h l1 (24 + l4)).bind fun v3 => if v3 = l2 then (b_X12_keptBy_34 (fun x0 x1 x2 => b_X12_keptBy_5 l0 l1 l2 n x0 x1 x2) l0 l1 l2 l4 l3 ((1 : Int32) <<< (l4 &&& 31)) h) else (b_X12_keptBy_34 (fun x0 x1 x2 => b_X12_keptBy_5 l0 l1 l2 n x0 x1 x2) l0 l1 l2 l4 l3 0 h))
set_option maxHeartbeats 4000000 in
set_option maxRecDepth 20000 in
theorem eb_X12_keptBy_5 {xs : Nat → Int32} {N d : Nat} {nx : ci_N} {l0 : Nat} {l1 : Nat} {l2 : Int32} : ∀ (n : Nat) (l3 : Int32) (l4 : Int32) (h : ci_H) (r : Int32 × ci_H), b_X12_keptBy_5 l0 l1 l2 n l3 l4 h = some r → Ev xs N d 202 5 [.ref l0, .ref l1, .int l2, .int l3, .int l4] [] h nx (oI r nx) := by
  intro n
  induction n with
  | zero => intro l3 l4 h r H; unfold b_X12_keptBy_5 at H; cases H
  | succ n ih =>
    intro l3 l4 h r H
    unfold b_X12_keptBy_5 at H
    refine ev_go hc_X12_keptBy (k := 2) (pc' := 8) (L' := [.ref l0, .ref l1, .int l2, .int l3, .int l4]) (S' := [.ref l0, .int l4]) rfl ?_
    obtain ⟨v1, ev1, H⟩ := Option.bind_eq_some_iff.mp H
    refine ev_4 hc_X12_keptBy (fe_X12_keptBy (pc := 8) rfl) (gI_gf ev1) ?_
    by_cases c2 : v1 ≤ l4
    · rw [if_pos c2] at H
      refine ev_bt hc_X12_keptBy (fe_X12_keptBy (pc := 11) rfl) rfl c2 ?_
      refine ev_go hc_X12_keptBy (k := 1) (pc' := 43) (L' := [.ref l0, .ref l1, .int l2, .int l3, .int l4]) (S' := [.int l3]) rfl ?_
      obtain rfl := Option.some.inj H
      exact ev_8 hc_X12_keptBy (fe_X12_keptBy (pc := 43) rfl) rfl
    · rw [if_neg c2] at H
      refine ev_bf hc_X12_keptBy (fe_X12_keptBy (pc := 11) rfl) rfl c2 ?_
      refine ev_go hc_X12_keptBy (k := 5) (pc' := 21) (L' := [.ref l0, .ref l1, .int l2, .int l3, .int l4]) (S' := [.int (24 + l4), .ref l1, .int l3]) rfl ?_
      obtain ⟨v3, ev3, H⟩ := Option.bind_eq_some_iff.mp H
      refine ev_4 hc_X12_keptBy (fe_X12_keptBy (pc := 21) rfl) (rI_al ev3) ?_
      refine ev_go hc_X12_keptBy (k := 1) (pc' := 23) (L' := [.ref l0, .ref l1, .int l2, .int l3, .int l4]) (S' := [.int l2, .int v3, .int l3]) rfl ?_
      by_cases c4 : v3 = l2
      · rw [if_pos c4] at H
        refine ev_bt hc_X12_keptBy (fe_X12_keptBy (pc := 23) rfl) rfl c4 ?_
        refine ev_go hc_X12_keptBy (k := 4) (pc' := 34) (L' := [.ref l0, .ref l1, .int l2, .int l3, .int l4]) (S' := [.int ((1 : Int32) <<< (l4 &&& 31)), .int l3]) rfl ?_
        exact Ev.weak (ci_le_c (Or.inr rfl) (ci_le_c (Or.inr rfl) (ci_le_c (Or.inr rfl) (ci_le_c (Or.inl rfl) (ci_le_c (Or.inr rfl) (ci_le_n)))))) (eb_X12_keptBy_34 ih H)
      · rw [if_neg c4] at H
        refine ev_bf hc_X12_keptBy (fe_X12_keptBy (pc := 23) rfl) rfl c4 ?_
        refine ev_go hc_X12_keptBy (k := 1) (pc' := 34) (L' := [.ref l0, .ref l1, .int l2, .int l3, .int l4]) (S' := [.int 0, .int l3]) rfl ?_
        exact Ev.weak (ci_le_c (Or.inr rfl) (ci_le_c (Or.inr rfl) (ci_le_c (Or.inr rfl) (ci_le_c (Or.inl rfl) (ci_le_c (Or.inr rfl) (ci_le_n)))))) (eb_X12_keptBy_34 ih H)
def F_X12_keptBy (a0 : Nat) (a1 : Nat) (a2 : Int32) (h : ci_H) : Option (Int32 × ci_H) := if kO h a0 = some 12 then (b_X12_keptBy_5 a0 a1 a2 bigN 0 0 h) else none
theorem K_X12_keptBy {a0 : Nat} {a1 : Nat} {a2 : Int32} {h : ci_H} {r : Int32 × ci_H} (H : F_X12_keptBy a0 a1 a2 h = some r) : kO h a0 = some 12 := by
  unfold F_X12_keptBy at H
  by_cases c : kO h a0 = some 12
  · exact c
  · rw [if_neg c] at H; cases H
set_option maxHeartbeats 4000000 in
set_option maxRecDepth 20000 in
theorem E_X12_keptBy {xs : Nat → Int32} {N d : Nat} {nx : ci_N} {a0 : Nat} {a1 : Nat} {a2 : Int32} {h : ci_H} {r : Int32 × ci_H} (H : F_X12_keptBy a0 a1 a2 h = some r) (hd : 0 ≤ d) : Ev xs N d 202 0 (ci_entry [.ref a0, .ref a1, .int a2] 5) [] h nx (oI r nx) := by
  unfold F_X12_keptBy at H
  by_cases ck : kO h a0 = some 12
  · rw [if_pos ck] at H
    show Ev xs N d 202 0 [.ref a0, .ref a1, .int a2, ci_junk, ci_junk] [] h nx _
    refine ev_go hc_X12_keptBy (k := 4) (pc' := 5) (L' := [.ref a0, .ref a1, .int a2, .int 0, .int 0]) (S' := []) rfl ?_
    exact Ev.weak (ci_le_c (Or.inr rfl) (ci_le_c (Or.inr rfl) (ci_le_c (Or.inr rfl) (ci_le_c (Or.inr rfl) (ci_le_c (Or.inr rfl) (ci_le_n)))))) (eb_X12_keptBy_5 bigN _ _ _ _ H)
  · rw [if_neg ck] at H; cases H
theorem hc_X12_ownedBy : ci_code (ci_Ms 203) = k_X12_ownedBy := rfl
theorem fe_X12_ownedBy {pc : Nat} {w : Option ci_I} (h : (k_X12_ownedBy)[pc]? = some w) : (k_X12_ownedBy)[pc]? = some w := h
def b_X12_ownedBy_34 (r_5 : Int32 → Int32 → ci_H → Option (Int32 × ci_H)) (l0 : Nat) (l1 : Nat) (l2 : Int32) (l4 : Int32) (s0 : Int32) (s1 : Int32)  (h : ci_H) : Option (Int32 × ci_H) := r_5 (s0 ||| s1) (l4 + 1) h
set_option maxHeartbeats 4000000 in
set_option maxRecDepth 20000 in
theorem eb_X12_ownedBy_34 {xs : Nat → Int32} {N d : Nat} {nx : ci_N} {r_5 : Int32 → Int32 → ci_H → Option (Int32 × ci_H)} {l0 : Nat} {l1 : Nat} {l2 : Int32} {l4 : Int32} {s0 : Int32} {s1 : Int32} (h_5 : ∀ (l3 : Int32) (l4 : Int32) (h : ci_H) (r : Int32 × ci_H), r_5 l3 l4 h = some r → Ev xs N d 203 5 [.ref l0, .ref l1, .int l2, .int l3, .int l4] [] h nx (oI r nx)) {h : ci_H} {r : Int32 × ci_H} (H : b_X12_ownedBy_34 r_5 l0 l1 l2 l4 s0 s1 h = some r) : Ev xs N d 203 34 [.ref l0, .ref l1, .int l2, ci_junk, .int l4] [.int s1, .int s0] h nx (oI r nx) := by
  unfold b_X12_ownedBy_34 at H
  refine ev_go hc_X12_ownedBy (k := 4) (pc' := 5) (L' := [.ref l0, .ref l1, .int l2, .int (s0 ||| s1), .int (l4 + 1)]) (S' := []) rfl ?_
  exact Ev.weak (ci_le_c (Or.inr rfl) (ci_le_c (Or.inr rfl) (ci_le_c (Or.inr rfl) (ci_le_c (Or.inr rfl) (ci_le_c (Or.inr rfl) (ci_le_n)))))) (h_5 _ _ _ _ H)
def b_X12_ownedBy_5 (l0 : Nat) (l1 : Nat) (l2 : Int32) : Nat → Int32 → Int32 → ci_H → Option (Int32 × ci_H)
  | 0, _, _, _ => none
  | n + 1, l3, l4, h => (gI h l0 12 2).bind fun v1 => if v1 ≤ l4 then (some (l3, h)) else ((rI h l1 (12 + l4)).bind fun v3 => if v3 = l2 then (b_X12_ownedBy_34 (fun x0 x1 x2 => b_X12_ownedBy_5 l0 l1 l2 n x0 x1 x2) l0 l1 l2 l4 l3 ((1 : Int32) <<< (l4 &&& 31)) h) else (b_X12_ownedBy_34 (fun x0 x1 x2 => b_X12_ownedBy_5 l0 l1 l2 n x0 x1 x2) l0 l1 l2 l4 l3 0 h))
set_option maxHeartbeats 4000000 in
set_option maxRecDepth 20000 in
theorem eb_X12_ownedBy_5 {xs : Nat → Int32} {N d : Nat} {nx : ci_N} {l0 : Nat} {l1 : Nat} {l2 : Int32} : ∀ (n : Nat) (l3 : Int32) (l4 : Int32) (h : ci_H) (r : Int32 × ci_H), b_X12_ownedBy_5 l0 l1 l2 n l3 l4 h = some r → Ev xs N d 203 5 [.ref l0, .ref l1, .int l2, .int l3, .int l4] [] h nx (oI r nx) := by
  intro n
  induction n with
  | zero => intro l3 l4 h r H; unfold b_X12_ownedBy_5 at H; cases H
  | succ n ih =>
    intro l3 l4 h r H
    unfold b_X12_ownedBy_5 at H
    refine ev_go hc_X12_ownedBy (k := 2) (pc' := 8) (L' := [.ref l0, .ref l1, .int l2, .int l3, .int l4]) (S' := [.ref l0, .int l4]) rfl ?_
    obtain ⟨v1, ev1, H⟩ := Option.bind_eq_some_iff.mp H
    refine ev_4 hc_X12_ownedBy (fe_X12_ownedBy (pc := 8) rfl) (gI_gf ev1) ?_
    by_cases c2 : v1 ≤ l4
    · rw [if_pos c2] at H
      refine ev_bt hc_X12_ownedBy (fe_X12_ownedBy (pc := 11) rfl) rfl c2 ?_
      refine ev_go hc_X12_ownedBy (k := 1) (pc' := 43) (L' := [.ref l0, .ref l1, .int l2, .int l3, .int l4]) (S' := [.int l3]) rfl ?_
      obtain rfl := Option.some.inj H
      exact ev_8 hc_X12_ownedBy (fe_X12_ownedBy (pc := 43) rfl) rfl
    · rw [if_neg c2] at H
      refine ev_bf hc_X12_ownedBy (fe_X12_ownedBy (pc := 11) rfl) rfl c2 ?_
      refine ev_go hc_X12_ownedBy (k := 5) (pc' := 21) (L' := [.ref l0, .ref l1, .int l2, .int l3, .int l4]) (S' := [.int (12 + l4), .ref l1, .int l3]) rfl ?_
      obtain ⟨v3, ev3, H⟩ := Option.bind_eq_some_iff.mp H
      refine ev_4 hc_X12_ownedBy (fe_X12_ownedBy (pc := 21) rfl) (rI_al ev3) ?_
      refine ev_go hc_X12_ownedBy (k := 1) (pc' := 23) (L' := [.ref l0, .ref l1, .int l2, .int l3, .int l4]) (S' := [.int l2, .int v3, .int l3]) rfl ?_
      by_cases c4 : v3 = l2
      · rw [if_pos c4] at H
        refine ev_bt hc_X12_ownedBy (fe_X12_ownedBy (pc := 23) rfl) rfl c4 ?_
        refine ev_go hc_X12_ownedBy (k := 4) (pc' := 34) (L' := [.ref l0, .ref l1, .int l2, .int l3, .int l4]) (S' := [.int ((1 : Int32) <<< (l4 &&& 31)), .int l3]) rfl ?_
        exact Ev.weak (ci_le_c (Or.inr rfl) (ci_le_c (Or.inr rfl) (ci_le_c (Or.inr rfl) (ci_le_c (Or.inl rfl) (ci_le_c (Or.inr rfl) (ci_le_n)))))) (eb_X12_ownedBy_34 ih H)
      · rw [if_neg c4] at H
        refine ev_bf hc_X12_ownedBy (fe_X12_ownedBy (pc := 23) rfl) rfl c4 ?_
        refine ev_go hc_X12_ownedBy (k := 1) (pc' := 34) (L' := [.ref l0, .ref l1, .int l2, .int l3, .int l4]) (S' := [.int 0, .int l3]) rfl ?_
        exact Ev.weak (ci_le_c (Or.inr rfl) (ci_le_c (Or.inr rfl) (ci_le_c (Or.inr rfl) (ci_le_c (Or.inl rfl) (ci_le_c (Or.inr rfl) (ci_le_n)))))) (eb_X12_ownedBy_34 ih H)
def F_X12_ownedBy (a0 : Nat) (a1 : Nat) (a2 : Int32) (h : ci_H) : Option (Int32 × ci_H) := if kO h a0 = some 12 then (b_X12_ownedBy_5 a0 a1 a2 bigN 0 0 h) else none
theorem K_X12_ownedBy {a0 : Nat} {a1 : Nat} {a2 : Int32} {h : ci_H} {r : Int32 × ci_H} (H : F_X12_ownedBy a0 a1 a2 h = some r) : kO h a0 = some 12 := by
  unfold F_X12_ownedBy at H
  by_cases c : kO h a0 = some 12
  · exact c
  · rw [if_neg c] at H; cases H
set_option maxHeartbeats 4000000 in
set_option maxRecDepth 20000 in
theorem E_X12_ownedBy {xs : Nat → Int32} {N d : Nat} {nx : ci_N} {a0 : Nat} {a1 : Nat} {a2 : Int32} {h : ci_H} {r : Int32 × ci_H} (H : F_X12_ownedBy a0 a1 a2 h = some r) (hd : 0 ≤ d) : Ev xs N d 203 0 (ci_entry [.ref a0, .ref a1, .int a2] 5) [] h nx (oI r nx) := by
  unfold F_X12_ownedBy at H
  by_cases ck : kO h a0 = some 12
  · rw [if_pos ck] at H
    show Ev xs N d 203 0 [.ref a0, .ref a1, .int a2, ci_junk, ci_junk] [] h nx _
    refine ev_go hc_X12_ownedBy (k := 4) (pc' := 5) (L' := [.ref a0, .ref a1, .int a2, .int 0, .int 0]) (S' := []) rfl ?_
    exact Ev.weak (ci_le_c (Or.inr rfl) (ci_le_c (Or.inr rfl) (ci_le_c (Or.inr rfl) (ci_le_c (Or.inr rfl) (ci_le_c (Or.inr rfl) (ci_le_n)))))) (eb_X12_ownedBy_5 bigN _ _ _ _ H)
  · rw [if_neg ck] at H; cases H
