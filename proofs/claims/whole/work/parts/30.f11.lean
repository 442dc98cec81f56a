theorem hc_X12_count : ci_code (ci_Ms 280) = k_X12_count := rfl
theorem fe_X12_count {pc : Nat} {w : Option ci_I} (h : (k_X12_count)[pc]? = some w) : (k_X12_count)[pc]? = some w := h
def F_X12_count (a0 : Nat) (a1 : Int32) (h : ci_H) : Option (Int32 × ci_H) := if kO h a0 = some 12 then ((pF h a0 12 11 (.int 0)).bind fun h1 => if a1 = 0 then ((gI h1 a0 12 1).bind fun v3 => some (v3, h1)) else if a1 = 1 then ((gI h1 a0 12 2).bind fun v5 => some (v5, h1)) else if a1 = 2 then ((gI h1 a0 12 3).bind fun v7 => some (v7, h1)) else if a1 = 3 then ((gI h1 a0 12 6).bind fun v9 => some (v9, h1)) else if a1 = 4 then ((gR h1 a0 12 0).bind fun v11 => (rI h1 v11 41).bind fun v12 => some (v12, h1)) else if a1 = 5 then ((gR h1 a0 12 0).bind fun v14 => (F_X12_ownedBy a0 v14 ((-1)) h1).bind fun q15 => some (q15.1, q15.2)) else if a1 = 6 then ((F_X12_lentBits a0 h1).bind fun q17 => some (q17.1, q17.2)) else if a1 = 7 then ((gR h1 a0 12 0).bind fun v19 => (F_X12_brokenHouses a0 v19 h1).bind fun q20 => some (q20.1, q20.2)) else if a1 = 8 then ((gI h1 a0 12 33).bind fun v22 => some (v22, h1)) else if a1 = 9 then ((gI h1 a0 12 23).bind fun v24 => some (v24, h1)) else if a1 = 10 then ((gI h1 a0 12 10).bind fun v26 => some (v26, h1)) else if a1 = 11 then ((gI h1 a0 12 8).bind fun v28 => some (v28, h1)) else (some ((-1), h1))) else none
theorem K_X12_count {a0 : Nat} {a1 : Int32} {h : ci_H} {r : Int32 × ci_H} (H : F_X12_count a0 a1 h = some r) : kO h a0 = some 12 := by
  unfold F_X12_count at H
  by_cases c : kO h a0 = some 12
  · exact c
  · rw [if_neg c] at H; cases H
set_option maxHeartbeats 4000000 in
set_option maxRecDepth 20000 in
theorem E_X12_count {xs : Nat → Int32} {N d : Nat} {nx : ci_N} {a0 : Nat} {a1 : Int32} {h : ci_H} {r : Int32 × ci_H} (H : F_X12_count a0 a1 h = some r) (hd : 5 ≤ d) : Ev xs N d 280 0 (ci_entry [.ref a0, .int a1] 2) [] h nx (oI r nx) := by
  obtain ⟨d, rfl⟩ : ∃ d2, d = d2 + 1 := ⟨d - 1, by omega⟩
  have hd : 4 ≤ d := by omega
  unfold F_X12_count at H
  by_cases ck : kO h a0 = some 12
  · rw [if_pos ck] at H
    show Ev xs N (d + 1) 280 0 [.ref a0, .int a1] [] h nx _
    refine ev_go hc_X12_count (k := 2) (pc' := 2) (L' := [.ref a0, .int a1]) (S' := [.int 0, .ref a0]) rfl ?_
    obtain ⟨h1, eh1, H⟩ := Option.bind_eq_some_iff.mp H
    refine ev_5 hc_X12_count (fe_X12_count (pc := 2) rfl) (pF_pf eh1) ?_
    refine ev_go hc_X12_count (k := 1) (pc' := 6) (L' := [.ref a0, .int a1]) (S' := [.int a1]) rfl ?_
    by_cases c2 : a1 = 0
    · rw [if_pos c2] at H
      refine ev_3 hc_X12_count (fe_X12_count (pc := 6) rfl) (pc' := 68) (S' := []) (by rw [c2]; rfl) ?_
      refine ev_go hc_X12_count (k := 1) (pc' := 69) (L' := [.ref a0, .int a1]) (S' := [.ref a0]) rfl ?_
      obtain ⟨v3, ev3, H⟩ := Option.bind_eq_some_iff.mp H
      refine ev_4 hc_X12_count (fe_X12_count (pc := 69) rfl) (gI_gf ev3) ?_
      obtain rfl := Option.some.inj H
      exact ev_8 hc_X12_count (fe_X12_count (pc := 72) rfl) rfl
    rw [if_neg c2] at H
    by_cases c4 : a1 = 1
    · rw [if_pos c4] at H
      refine ev_3 hc_X12_count (fe_X12_count (pc := 6) rfl) (pc' := 73) (S' := []) (by rw [c4]; rfl) ?_
      refine ev_go hc_X12_count (k := 1) (pc' := 74) (L' := [.ref a0, .int a1]) (S' := [.ref a0]) rfl ?_
      obtain ⟨v5, ev5, H⟩ := Option.bind_eq_some_iff.mp H
      refine ev_4 hc_X12_count (fe_X12_count (pc := 74) rfl) (gI_gf ev5) ?_
      obtain rfl := Option.some.inj H
      exact ev_8 hc_X12_count (fe_X12_count (pc := 77) rfl) rfl
    rw [if_neg c4] at H
    by_cases c6 : a1 = 2
    · rw [if_pos c6] at H
      refine ev_3 hc_X12_count (fe_X12_count (pc := 6) rfl) (pc' := 78) (S' := []) (by rw [c6]; rfl) ?_
      refine ev_go hc_X12_count (k := 1) (pc' := 79) (L' := [.ref a0, .int a1]) (S' := [.ref a0]) rfl ?_
      obtain ⟨v7, ev7, H⟩ := Option.bind_eq_some_iff.mp H
      refine ev_4 hc_X12_count (fe_X12_count (pc := 79) rfl) (gI_gf ev7) ?_
      obtain rfl := Option.some.inj H
      exact ev_8 hc_X12_count (fe_X12_count (pc := 82) rfl) rfl
    rw [if_neg c6] at H
    by_cases c8 : a1 = 3
    · rw [if_pos c8] at H
      refine ev_3 hc_X12_count (fe_X12_count (pc := 6) rfl) (pc' := 83) (S' := []) (by rw [c8]; rfl) ?_
      refine ev_go hc_X12_count (k := 1) (pc' := 84) (L' := [.ref a0, .int a1]) (S' := [.ref a0]) rfl ?_
      obtain ⟨v9, ev9, H⟩ := Option.bind_eq_some_iff.mp H
      refine ev_4 hc_X12_count (fe_X12_count (pc := 84) rfl) (gI_gf ev9) ?_
      obtain rfl := Option.some.inj H
      exact ev_8 hc_X12_count (fe_X12_count (pc := 87) rfl) rfl
    rw [if_neg c8] at H
    by_cases c10 : a1 = 4
    · rw [if_pos c10] at H
      refine ev_3 hc_X12_count (fe_X12_count (pc := 6) rfl) (pc' := 88) (S' := []) (by rw [c10]; rfl) ?_
      refine ev_go hc_X12_count (k := 1) (pc' := 89) (L' := [.ref a0, .int a1]) (S' := [.ref a0]) rfl ?_
      obtain ⟨v11, ev11, H⟩ := Option.bind_eq_some_iff.mp H
      refine ev_4 hc_X12_count (fe_X12_count (pc := 89) rfl) (gR_gf ev11) ?_
      refine ev_go hc_X12_count (k := 1) (pc' := 94) (L' := [.ref a0, .int a1]) (S' := [.int 41, .ref v11]) rfl ?_
      obtain ⟨v12, ev12, H⟩ := Option.bind_eq_some_iff.mp H
      refine ev_4 hc_X12_count (fe_X12_count (pc := 94) rfl) (rI_al ev12) ?_
      obtain rfl := Option.some.inj H
      exact ev_8 hc_X12_count (fe_X12_count (pc := 95) rfl) rfl
    rw [if_neg c10] at H
    by_cases c13 : a1 = 5
    · rw [if_pos c13] at H
      refine ev_3 hc_X12_count (fe_X12_count (pc := 6) rfl) (pc' := 96) (S' := []) (by rw [c13]; rfl) ?_
      refine ev_go hc_X12_count (k := 2) (pc' := 98) (L' := [.ref a0, .int a1]) (S' := [.ref a0, .ref a0]) rfl ?_
      obtain ⟨v14, ev14, H⟩ := Option.bind_eq_some_iff.mp H
      refine ev_4 hc_X12_count (fe_X12_count (pc := 98) rfl) (gR_gf ev14) ?_
      refine ev_go hc_X12_count (k := 1) (pc' := 102) (L' := [.ref a0, .int a1]) (S' := [.int ((-1)), .ref v14, .ref a0]) rfl ?_
      obtain ⟨q15, eq15, H⟩ := Option.bind_eq_some_iff.mp H
      refine ev_call (vs := [.ref a0, .ref v14, .int ((-1))]) (rest := []) (q := q_X12_ownedBy) hc_X12_count (Or.inr rfl) (fe_X12_count (pc := 102) rfl) ms_203 rfl rfl (Nat.le_of_ble_eq_true rfl) (kO_recv (K_X12_ownedBy eq15)) (E_X12_ownedBy eq15 (by omega)) rfl ?_
      show Ev xs N (d + 1) 280 105 [.ref a0, .int a1] [.int q15.1] q15.2 nx _
      obtain rfl := Option.some.inj H
      exact ev_8 hc_X12_count (fe_X12_count (pc := 105) rfl) rfl
    rw [if_neg c13] at H
    by_cases c16 : a1 = 6
    · rw [if_pos c16] at H
      refine ev_3 hc_X12_count (fe_X12_count (pc := 6) rfl) (pc' := 106) (S' := []) (by rw [c16]; rfl) ?_
      refine ev_go hc_X12_count (k := 1) (pc' := 107) (L' := [.ref a0, .int a1]) (S' := [.ref a0]) rfl ?_
      obtain ⟨q17, eq17, H⟩ := Option.bind_eq_some_iff.mp H
      refine ev_call (vs := [.ref a0]) (rest := []) (q := q_X12_lentBits) hc_X12_count (Or.inr rfl) (fe_X12_count (pc := 107) rfl) ms_209 rfl rfl (Nat.le_of_ble_eq_true rfl) (kO_recv (K_X12_lentBits eq17)) (E_X12_lentBits eq17 (by omega)) rfl ?_
      show Ev xs N (d + 1) 280 110 [.ref a0, .int a1] [.int q17.1] q17.2 nx _
      obtain rfl := Option.some.inj H
      exact ev_8 hc_X12_count (fe_X12_count (pc := 110) rfl) rfl
    rw [if_neg c16] at H
    by_cases c18 : a1 = 7
    · rw [if_pos c18] at H
      refine ev_3 hc_X12_count (fe_X12_count (pc := 6) rfl) (pc' := 111) (S' := []) (by rw [c18]; rfl) ?_
      refine ev_go hc_X12_count (k := 2) (pc' := 113) (L' := [.ref a0, .int a1]) (S' := [.ref a0, .ref a0]) rfl ?_
      obtain ⟨v19, ev19, H⟩ := Option.bind_eq_some_iff.mp H
      refine ev_4 hc_X12_count (fe_X12_count (pc := 113) rfl) (gR_gf ev19) ?_
      obtain ⟨q20, eq20, H⟩ := Option.bind_eq_some_iff.mp H
      refine ev_call (vs := [.ref a0, .ref v19]) (rest := []) (q := q_X12_brokenHouses) hc_X12_count (Or.inr rfl) (fe_X12_count (pc := 116) rfl) ms_207 rfl rfl (Nat.le_of_ble_eq_true rfl) (kO_recv (K_X12_brokenHouses eq20)) (E_X12_brokenHouses eq20 (by omega)) rfl ?_
      show Ev xs N (d + 1) 280 119 [.ref a0, .int a1] [.int q20.1] q20.2 nx _
      obtain rfl := Option.some.inj H
      exact ev_8 hc_X12_count (fe_X12_count (pc := 119) rfl) rfl
    rw [if_neg c18] at H
    by_cases c21 : a1 = 8
    · rw [if_pos c21] at H
      refine ev_3 hc_X12_count (fe_X12_count (pc := 6) rfl) (pc' := 120) (S' := []) (by rw [c21]; rfl) ?_
      refine ev_go hc_X12_count (k := 1) (pc' := 121) (L' := [.ref a0, .int a1]) (S' := [.ref a0]) rfl ?_
      obtain ⟨v22, ev22, H⟩ := Option.bind_eq_some_iff.mp H
      refine ev_4 hc_X12_count (fe_X12_count (pc := 121) rfl) (gI_gf ev22) ?_
      obtain rfl := Option.some.inj H
      exact ev_8 hc_X12_count (fe_X12_count (pc := 124) rfl) rfl
    rw [if_neg c21] at H
    by_cases c23 : a1 = 9
    · rw [if_pos c23] at H
      refine ev_3 hc_X12_count (fe_X12_count (pc := 6) rfl) (pc' := 125) (S' := []) (by rw [c23]; rfl) ?_
      refine ev_go hc_X12_count (k := 1) (pc' := 126) (L' := [.ref a0, .int a1]) (S' := [.ref a0]) rfl ?_
      obtain ⟨v24, ev24, H⟩ := Option.bind_eq_some_iff.mp H
      refine ev_4 hc_X12_count (fe_X12_count (pc := 126) rfl) (gI_gf ev24) ?_
      obtain rfl := Option.some.inj H
      exact ev_8 hc_X12_count (fe_X12_count (pc := 129) rfl) rfl
    rw [if_neg c23] at H
    by_cases c25 : a1 = 10
    · rw [if_pos c25] at H
      refine ev_3 hc_X12_count (fe_X12_count (pc := 6) rfl) (pc' := 130) (S' := []) (by rw [c25]; rfl) ?_
      refine ev_go hc_X12_count (k := 1) (pc' := 131) (L' := [.ref a0, .int a1]) (S' := [.ref a0]) rfl ?_
      obtain ⟨v26, ev26, H⟩ := Option.bind_eq_some_iff.mp H
      refine ev_4 hc_X12_count (fe_X12_count (pc := 131) rfl) (gI_gf ev26) ?_
      obtain rfl := Option.some.inj H
      exact ev_8 hc_X12_count (fe_X12_count (pc := 134) rfl) rfl
    rw [if_neg c25] at H
    by_cases c27 : a1 = 11
    · rw [if_pos c27] at H
      refine ev_3 hc_X12_count (fe_X12_count (pc := 6) rfl) (pc' := 135) (S' := []) (by rw [c27]; rfl) ?_
      refine ev_go hc_X12_count (k := 1) (pc' := 136) (L' := [.ref a0, .int a1]) (S' := [.ref a0]) rfl ?_
      obtain ⟨v28, ev28, H⟩ := Option.bind_eq_some_iff.mp H
      refine ev_4 hc_X12_count (fe_X12_count (pc := 136) rfl) (gI_gf ev28) ?_
      obtain rfl := Option.some.inj H
      exact ev_8 hc_X12_count (fe_X12_count (pc := 139) rfl) rfl
    rw [if_neg c27] at H
    refine ev_3 hc_X12_count (fe_X12_count (pc := 6) rfl) (pc' := 140) (S' := []) (sw_out (by have := And.intro True.intro True.intro; have := lv_neT c2 (a := 0) (by decide); have := lv_neT c4 (a := 1) (by decide); have := lv_neT c6 (a := 2) (by decide); have := lv_neT c8 (a := 3) (by decide); have := lv_neT c10 (a := 4) (by decide); have := lv_neT c13 (a := 5) (by decide); have := lv_neT c16 (a := 6) (by decide); have := lv_neT c18 (a := 7) (by decide); have := lv_neT c21 (a := 8) (by decide); have := lv_neT c23 (a := 9) (by decide); have := lv_neT c25 (a := 10) (by decide); have := lv_neT c27 (a := 11) (by decide); omega)) ?_
    refine ev_go hc_X12_count (k := 1) (pc' := 141) (L' := [.ref a0, .int a1]) (S' := [.int ((-1))]) rfl ?_
    obtain rfl := Option.some.inj H
    exact ev_8 hc_X12_count (fe_X12_count (pc := 141) rfl) rfl
  · rw [if_neg ck] at H; cases H
theorem hc_X12_row : ci_code (ci_Ms 281) = k_X12_row := rfl
theorem fe_X12_row {pc : Nat} {w : Option ci_I} (h : (k_X12_row)[pc]? = some w) : (k_X12_row)[pc]? = some w := h
def F_X12_row (a0 : Nat) (a1 : Int32) (h : ci_H) : Option (Int64 × ci_H) := if kO h a0 = some 12 then ((pF h a0 12 11 (.int 0)).bind fun h1 => (gI h1 a0 12 10).bind fun v2 => (F_X12_in a1 0 (v2 - 1) h1).bind fun q3 => if q3.1 = 0 then ((F_X12_lost a0 q3.2).bind fun q5 => some ((q5.1 : Int32).toInt64, q5.2)) else ((gR q3.2 a0 12 9).bind fun v6 => (rL q3.2 v6 a1).bind fun v7 => some (v7, q3.2))) else none
theorem K_X12_row {a0 : Nat} {a1 : Int32} {h : ci_H} {r : Int64 × ci_H} (H : F_X12_row a0 a1 h = some r) : kO h a0 = some 12 := by
  unfold F_X12_row at H
  by_cases c : kO h a0 = some 12
  · exact c
  · rw [if_neg c] at H; cases H
set_option maxHeartbeats 4000000 in
set_option maxRecDepth 20000 in
theorem E_X12_row {xs : Nat → Int32} {N d : Nat} {nx : ci_N} {a0 : Nat} {a1 : Int32} {h : ci_H} {r : Int64 × ci_H} (H : F_X12_row a0 a1 h = some r) (hd : 1 ≤ d) : Ev xs N d 281 0 (ci_entry [.ref a0, .int a1] 2) [] h nx (oL r nx) := by
  obtain ⟨d, rfl⟩ : ∃ d2, d = d2 + 1 := ⟨d - 1, by omega⟩
  have hd : 0 ≤ d := by omega
  unfold F_X12_row at H
  by_cases ck : kO h a0 = some 12
  · rw [if_pos ck] at H
    show Ev xs N (d + 1) 281 0 [.ref a0, .int a1] [] h nx _
    refine ev_go hc_X12_row (k := 2) (pc' := 2) (L' := [.ref a0, .int a1]) (S' := [.int 0, .ref a0]) rfl ?_
    obtain ⟨h1, eh1, H⟩ := Option.bind_eq_some_iff.mp H
    refine ev_5 hc_X12_row (fe_X12_row (pc := 2) rfl) (pF_pf eh1) ?_
    refine ev_go hc_X12_row (k := 3) (pc' := 8) (L' := [.ref a0, .int a1]) (S' := [.ref a0, .int 0, .int a1]) rfl ?_
    obtain ⟨v2, ev2, H⟩ := Option.bind_eq_some_iff.mp H
    refine ev_4 hc_X12_row (fe_X12_row (pc := 8) rfl) (gI_gf ev2) ?_
    refine ev_go hc_X12_row (k := 2) (pc' := 13) (L' := [.ref a0, .int a1]) (S' := [.int (v2 - 1), .int 0, .int a1]) rfl ?_
    obtain ⟨q3, eq3, H⟩ := Option.bind_eq_some_iff.mp H
    refine ev_call (vs := [.int a1, .int 0, .int (v2 - 1)]) (rest := []) (q := q_X12_in) hc_X12_row (Or.inl rfl) (fe_X12_row (pc := 13) rfl) ms_170 rfl rfl (Nat.le_of_ble_eq_true rfl) rfl (E_X12_in eq3 (by omega)) rfl ?_
    show Ev xs N (d + 1) 281 16 [.ref a0, .int a1] [.int q3.1] q3.2 nx _
    by_cases c4 : q3.1 = 0
    · rw [if_pos c4] at H
      refine ev_bt hc_X12_row (fe_X12_row (pc := 16) rfl) rfl c4 ?_
      refine ev_go hc_X12_row (k := 1) (pc' := 29) (L' := [.ref a0, .int a1]) (S' := [.ref a0]) rfl ?_
      obtain ⟨q5, eq5, H⟩ := Option.bind_eq_some_iff.mp H
      refine ev_call (vs := [.ref a0]) (rest := []) (q := q_X12_lost) hc_X12_row (Or.inr rfl) (fe_X12_row (pc := 29) rfl) ms_172 rfl rfl (Nat.le_of_ble_eq_true rfl) (kO_recv (K_X12_lost eq5)) (E_X12_lost eq5 (by omega)) rfl ?_
      show Ev xs N (d + 1) 281 32 [.ref a0, .int a1] [.int q5.1] q5.2 nx _
      refine ev_go hc_X12_row (k := 1) (pc' := 33) (L' := [.ref a0, .int a1]) (S' := [.long ((q5.1 : Int32).toInt64)]) rfl ?_
      obtain rfl := Option.some.inj H
      exact ev_8 hc_X12_row (fe_X12_row (pc := 33) rfl) rfl
    · rw [if_neg c4] at H
      refine ev_bf hc_X12_row (fe_X12_row (pc := 16) rfl) rfl c4 ?_
      refine ev_go hc_X12_row (k := 1) (pc' := 20) (L' := [.ref a0, .int a1]) (S' := [.ref a0]) rfl ?_
      obtain ⟨v6, ev6, H⟩ := Option.bind_eq_some_iff.mp H
      refine ev_4 hc_X12_row (fe_X12_row (pc := 20) rfl) (gR_gf ev6) ?_
      refine ev_go hc_X12_row (k := 1) (pc' := 24) (L' := [.ref a0, .int a1]) (S' := [.int a1, .ref v6]) rfl ?_
      obtain ⟨v7, ev7, H⟩ := Option.bind_eq_some_iff.mp H
      refine ev_4 hc_X12_row (fe_X12_row (pc := 24) rfl) (rL_al ev7) ?_
      refine ev_go hc_X12_row (k := 1) (pc' := 33) (L' := [.ref a0, .int a1]) (S' := [.long v7]) rfl ?_
      obtain rfl := Option.some.inj H
      exact ev_8 hc_X12_row (fe_X12_row (pc := 33) rfl) rfl
  · rw [if_neg ck] at H; cases H
