theorem hc_X8_readsThing : ci_code (ci_Ms 47) = k_X8_readsThing := rfl
theorem fe_X8_readsThing {pc : Nat} {w : Option ci_I} (h : (k_X8_readsThing)[pc]? = some w) : (k_X8_readsThing)[pc]? = some w := h
def F_X8_readsThing (a0 : Nat) (a1 : Int32) (a2 : Int32) (h : ci_H) : Option (Int32 × ci_H) := if kO h a0 = some 8 then ((gR h a0 8 1).bind fun v1 => (gR h a0 8 0).bind fun v2 => (F_X9_letters v2 0 h).bind fun q3 => (wI q3.2 v1 a1 q3.1).bind fun h4 => (gR h4 a0 8 0).bind fun v5 => (F_X9_takes v5 45 h4).bind fun q6 => if q6.1 = 0 then ((gR q6.2 a0 8 2).bind fun v8 => (gR q6.2 a0 8 0).bind fun v9 => (F_X9_oneOf v9 48 a2 q6.2).bind fun q10 => (wI q10.2 v8 a1 q10.1).bind fun h11 => (gR h11 a0 8 2).bind fun v12 => (rI h11 v12 a1).bind fun v13 => if v13 < 0 then (some (0, h11)) else (some (1, h11))) else ((gR q6.2 a0 8 2).bind fun v15 => (wI q6.2 v15 a1 ((-1))).bind fun h16 => some (1, h16))) else none
theorem K_X8_readsThing {a0 : Nat} {a1 : Int32} {a2 : Int32} {h : ci_H} {r : Int32 × ci_H} (H : F_X8_readsThing a0 a1 a2 h = some r) : kO h a0 = some 8 := by
  unfold F_X8_readsThing at H
  by_cases c : kO h a0 = some 8
  · exact c
  · rw [if_neg c] at H; cases H
set_option maxHeartbeats 4000000 in
set_option maxRecDepth 20000 in
theorem E_X8_readsThing {xs : Nat → Int32} {N d : Nat} {nx : ci_N} {a0 : Nat} {a1 : Int32} {a2 : Int32} {h : ci_H} {r : Int32 × ci_H} (H : F_X8_readsThing a0 a1 a2 h = some r) (hd : 2 ≤ d) : Ev xs N d 47 0 (ci_entry [.ref a0, .int a1, .int a2] 3) [] h nx (oI r nx) := by
  obtain ⟨d, rfl⟩ : ∃ d2, d = d2 + 1 := ⟨d - 1, by omega⟩
  have hd : 1 ≤ d := by omega
  unfold F_X8_readsThing at H
  by_cases ck : kO h a0 = some 8
  · rw [if_pos ck] at H
    show Ev xs N (d + 1) 47 0 [.ref a0, .int a1, .int a2] [] h nx _
    refine ev_go hc_X8_readsThing (k := 1) (pc' := 1) (L' := [.ref a0, .int a1, .int a2]) (S' := [.ref a0]) rfl ?_
    obtain ⟨v1, ev1, H⟩ := Option.bind_eq_some_iff.mp H
    refine ev_4 hc_X8_readsThing (fe_X8_readsThing (pc := 1) rfl) (gR_gf ev1) ?_
    refine ev_go hc_X8_readsThing (k := 2) (pc' := 6) (L' := [.ref a0, .int a1, .int a2]) (S' := [.ref a0, .int a1, .ref v1]) rfl ?_
    obtain ⟨v2, ev2, H⟩ := Option.bind_eq_some_iff.mp H
    refine ev_4 hc_X8_readsThing (fe_X8_readsThing (pc := 6) rfl) (gR_gf ev2) ?_
    refine ev_go hc_X8_readsThing (k := 1) (pc' := 10) (L' := [.ref a0, .int a1, .int a2]) (S' := [.int 0, .ref v2, .int a1, .ref v1]) rfl ?_
    obtain ⟨q3, eq3, H⟩ := Option.bind_eq_some_iff.mp H
    refine ev_call (vs := [.ref v2, .int 0]) (rest := [.int a1, .ref v1]) (q := q_X9_letters) hc_X8_readsThing (Or.inr rfl) (fe_X8_readsThing (pc := 10) rfl) ms_59 rfl rfl (Nat.le_of_ble_eq_true rfl) (kO_recv (K_X9_letters eq3)) (E_X9_letters eq3 (by omega)) rfl ?_
    show Ev xs N (d + 1) 47 13 [.ref a0, .int a1, .int a2] [.int q3.1, .int a1, .ref v1] q3.2 nx _
    obtain ⟨h4, eh4, H⟩ := Option.bind_eq_some_iff.mp H
    refine ev_5 hc_X8_readsThing (fe_X8_readsThing (pc := 13) rfl) (wI_as eh4) ?_
    refine ev_go hc_X8_readsThing (k := 1) (pc' := 15) (L' := [.ref a0, .int a1, .int a2]) (S' := [.ref a0]) rfl ?_
    obtain ⟨v5, ev5, H⟩ := Option.bind_eq_some_iff.mp H
    refine ev_4 hc_X8_readsThing (fe_X8_readsThing (pc := 15) rfl) (gR_gf ev5) ?_
    refine ev_go hc_X8_readsThing (k := 1) (pc' := 20) (L' := [.ref a0, .int a1, .int a2]) (S' := [.int 45, .ref v5]) rfl ?_
    obtain ⟨q6, eq6, H⟩ := Option.bind_eq_some_iff.mp H
    refine ev_call (vs := [.ref v5, .int 45]) (rest := []) (q := q_X9_takes) hc_X8_readsThing (Or.inr rfl) (fe_X8_readsThing (pc := 20) rfl) ms_57 rfl rfl (Nat.le_of_ble_eq_true rfl) (kO_recv (K_X9_takes eq6)) (E_X9_takes eq6 (by omega)) rfl ?_
    show Ev xs N (d + 1) 47 23 [.ref a0, .int a1, .int a2] [.int q6.1] q6.2 nx _
    by_cases c7 : q6.1 = 0
    · rw [if_pos c7] at H
      refine ev_bt hc_X8_readsThing (fe_X8_readsThing (pc := 23) rfl) rfl c7 ?_
      refine ev_go hc_X8_readsThing (k := 1) (pc' := 36) (L' := [.ref a0, .int a1, .int a2]) (S' := [.ref a0]) rfl ?_
      obtain ⟨v8, ev8, H⟩ := Option.bind_eq_some_iff.mp H
      refine ev_4 hc_X8_readsThing (fe_X8_readsThing (pc := 36) rfl) (gR_gf ev8) ?_
      refine ev_go hc_X8_readsThing (k := 2) (pc' := 41) (L' := [.ref a0, .int a1, .int a2]) (S' := [.ref a0, .int a1, .ref v8]) rfl ?_
      obtain ⟨v9, ev9, H⟩ := Option.bind_eq_some_iff.mp H
      refine ev_4 hc_X8_readsThing (fe_X8_readsThing (pc := 41) rfl) (gR_gf ev9) ?_
      refine ev_go hc_X8_readsThing (k := 2) (pc' := 47) (L' := [.ref a0, .int a1, .int a2]) (S' := [.int a2, .int 48, .ref v9, .int a1, .ref v8]) rfl ?_
      obtain ⟨q10, eq10, H⟩ := Option.bind_eq_some_iff.mp H
      refine ev_call (vs := [.ref v9, .int 48, .int a2]) (rest := [.int a1, .ref v8]) (q := q_X9_oneOf) hc_X8_readsThing (Or.inr rfl) (fe_X8_readsThing (pc := 47) rfl) ms_58 rfl rfl (Nat.le_of_ble_eq_true rfl) (kO_recv (K_X9_oneOf eq10)) (E_X9_oneOf eq10 (by omega)) rfl ?_
      show Ev xs N (d + 1) 47 50 [.ref a0, .int a1, .int a2] [.int q10.1, .int a1, .ref v8] q10.2 nx _
      obtain ⟨h11, eh11, H⟩ := Option.bind_eq_some_iff.mp H
      refine ev_5 hc_X8_readsThing (fe_X8_readsThing (pc := 50) rfl) (wI_as eh11) ?_
      refine ev_go hc_X8_readsThing (k := 1) (pc' := 52) (L' := [.ref a0, .int a1, .int a2]) (S' := [.ref a0]) rfl ?_
      obtain ⟨v12, ev12, H⟩ := Option.bind_eq_some_iff.mp H
      refine ev_4 hc_X8_readsThing (fe_X8_readsThing (pc := 52) rfl) (gR_gf ev12) ?_
      refine ev_go hc_X8_readsThing (k := 1) (pc' := 56) (L' := [.ref a0, .int a1, .int a2]) (S' := [.int a1, .ref v12]) rfl ?_
      obtain ⟨v13, ev13, H⟩ := Option.bind_eq_some_iff.mp H
      refine ev_4 hc_X8_readsThing (fe_X8_readsThing (pc := 56) rfl) (rI_al ev13) ?_
      by_cases c14 : v13 < 0
      · rw [if_pos c14] at H
        refine ev_bt hc_X8_readsThing (fe_X8_readsThing (pc := 57) rfl) rfl c14 ?_
        refine ev_go hc_X8_readsThing (k := 1) (pc' := 65) (L' := [.ref a0, .int a1, .int a2]) (S' := [.int 0]) rfl ?_
        obtain rfl := Option.some.inj H
        exact ev_8z hc_X8_readsThing (fe_X8_readsThing (pc := 65) rfl) rfl (Or.inl rfl)
      · rw [if_neg c14] at H
        refine ev_bf hc_X8_readsThing (fe_X8_readsThing (pc := 57) rfl) rfl c14 ?_
        refine ev_go hc_X8_readsThing (k := 2) (pc' := 65) (L' := [.ref a0, .int a1, .int a2]) (S' := [.int 1]) rfl ?_
        obtain rfl := Option.some.inj H
        exact ev_8z hc_X8_readsThing (fe_X8_readsThing (pc := 65) rfl) rfl (Or.inr rfl)
    · rw [if_neg c7] at H
      refine ev_bf hc_X8_readsThing (fe_X8_readsThing (pc := 23) rfl) rfl c7 ?_
      refine ev_go hc_X8_readsThing (k := 1) (pc' := 27) (L' := [.ref a0, .int a1, .int a2]) (S' := [.ref a0]) rfl ?_
      obtain ⟨v15, ev15, H⟩ := Option.bind_eq_some_iff.mp H
      refine ev_4 hc_X8_readsThing (fe_X8_readsThing (pc := 27) rfl) (gR_gf ev15) ?_
      refine ev_go hc_X8_readsThing (k := 2) (pc' := 32) (L' := [.ref a0, .int a1, .int a2]) (S' := [.int ((-1)), .int a1, .ref v15]) rfl ?_
      obtain ⟨h16, eh16, H⟩ := Option.bind_eq_some_iff.mp H
      refine ev_5 hc_X8_readsThing (fe_X8_readsThing (pc := 32) rfl) (wI_as eh16) ?_
      refine ev_go hc_X8_readsThing (k := 1) (pc' := 34) (L' := [.ref a0, .int a1, .int a2]) (S' := [.int 1]) rfl ?_
      obtain rfl := Option.some.inj H
      exact ev_8z hc_X8_readsThing (fe_X8_readsThing (pc := 34) rfl) rfl (Or.inr rfl)
  · rw [if_neg ck] at H; cases H
theorem hc_X8_readThings : ci_code (ci_Ms 44) = k_X8_readThings := rfl
theorem fe_X8_readThings {pc : Nat} {w : Option ci_I} (h : (k_X8_readThings)[pc]? = some w) : (k_X8_readThings)[pc]? = some w := h
def b_X8_readThings_76 (l0 : Nat)  (h : ci_H) : Option (Int32 × ci_H) := (gR h l0 8 0).bind fun v1 => (F_X9_fault v1 h).bind fun q2 => some (q2.1, q2.2)
set_option maxHeartbeats 4000000 in
set_option maxRecDepth 20000 in
theorem eb_X8_readThings_76 {xs : Nat → Int32} {N d : Nat} {nx : ci_N} {l0 : Nat} (hd : 2 ≤ d) {h : ci_H} {r : Int32 × ci_H} (H : b_X8_readThings_76 l0 h = some r) : Ev xs N (d + 1) 44 76 [.ref l0, ci_junk, ci_junk, ci_junk] [] h nx (oI r nx) := by
  unfold b_X8_readThings_76 at H
  refine ev_go hc_X8_readThings (k := 1) (pc' := 77) (L' := [.ref l0, ci_junk, ci_junk, ci_junk]) (S' := [.ref l0]) rfl ?_
  obtain ⟨v1, ev1, H⟩ := Option.bind_eq_some_iff.mp H
  refine ev_4 hc_X8_readThings (fe_X8_readThings (pc := 77) rfl) (gR_gf ev1) ?_
  obtain ⟨q2, eq2, H⟩ := Option.bind_eq_some_iff.mp H
  refine ev_call (vs := [.ref v1]) (rest := []) (q := q_X9_fault) hc_X8_readThings (Or.inr rfl) (fe_X8_readThings (pc := 80) rfl) ms_56 rfl rfl (Nat.le_of_ble_eq_true rfl) (kO_recv (K_X9_fault eq2)) (E_X9_fault eq2 (by omega)) rfl ?_
  show Ev xs N (d + 1) 44 83 [.ref l0, ci_junk, ci_junk, ci_junk] [.int q2.1] q2.2 nx _
  obtain rfl := Option.some.inj H
  exact ev_8 hc_X8_readThings (fe_X8_readThings (pc := 83) rfl) rfl
def b_X8_readThings_11 (l0 : Nat) (l1 : Int32) (l2 : Int32) : Nat → Int32 → ci_H → Option (Int32 × ci_H)
  | 0, _, _ => none
  | n + 1, l3, h => if l1 ≤ l3 then (b_X8_readThings_76 l0 h) else (if 20 ≤ l3 then (b_X8_readThings_76 l0 h) else ((F_X8_readsThing l0 l3 l2 h).bind fun q3 => if q3.1 = 0 then (b_X8_readThings_76 l0 q3.2) else ((gR q3.2 l0 8 0).bind fun v5 => (F_X9_takes v5 59 q3.2).bind fun q6 => if q6.1 = 0 then ((gR q6.2 l0 8 0).bind fun v8 => (F_X9_ended v8 q6.2).bind fun q9 => if q9.1 = 0 then ((gR q9.2 l0 8 0).bind fun v11 => (F_X9_fault v11 q9.2).bind fun q12 => some (q12.1, q12.2)) else (some (l3 + 1, q9.2))) else (b_X8_readThings_11 l0 l1 l2 n (l3 + 1) q6.2))))
set_option maxHeartbeats 4000000 in
set_option maxRecDepth 20000 in
theorem eb_X8_readThings_11 {xs : Nat → Int32} {N d : Nat} {nx : ci_N} {l0 : Nat} {l1 : Int32} {l2 : Int32} (hd : 2 ≤ d) : ∀ (n : Nat) (l3 : Int32) (h : ci_H) (r : Int32 × ci_H), b_X8_readThings_11 l0 l1 l2 n l3 h = some r → Ev xs N (d + 1) 44 11 [.ref l0, .int l1, .int l2, .int l3] [] h nx (oI r nx) := by
  intro n
  induction n with
  | zero => intro l3 h r H; unfold b_X8_readThings_11 at H; cases H
  | succ n ih =>
    intro l3 h r H
    unfold b_X8_readThings_11 at H
    refine ev_go hc_X8_readThings (k := 2) (pc' := 13) (L' := [.ref l0, .int l1, .int l2, .int l3]) (S' := [.int l1, .int l3]) rfl ?_
    by_cases c1 : l1 ≤ l3
    · rw [if_pos c1] at H
      refine ev_bt hc_X8_readThings (fe_X8_readThings (pc := 13) rfl) rfl c1 ?_
      exact Ev.weak (ci_le_c (Or.inr rfl) (ci_le_c (Or.inl rfl) (ci_le_c (Or.inl rfl) (ci_le_c (Or.inl rfl) (ci_le_n))))) (eb_X8_readThings_76 hd H)
    · rw [if_neg c1] at H
      refine ev_bf hc_X8_readThings (fe_X8_readThings (pc := 13) rfl) rfl c1 ?_
      refine ev_go hc_X8_readThings (k := 2) (pc' := 19) (L' := [.ref l0, .int l1, .int l2, .int l3]) (S' := [.int 20, .int l3]) rfl ?_
      by_cases c2 : 20 ≤ l3
      · rw [if_pos c2] at H
        refine ev_bt hc_X8_readThings (fe_X8_readThings (pc := 19) rfl) rfl c2 ?_
        exact Ev.weak (ci_le_c (Or.inr rfl) (ci_le_c (Or.inl rfl) (ci_le_c (Or.inl rfl) (ci_le_c (Or.inl rfl) (ci_le_n))))) (eb_X8_readThings_76 hd H)
      · rw [if_neg c2] at H
        refine ev_bf hc_X8_readThings (fe_X8_readThings (pc := 19) rfl) rfl c2 ?_
        refine ev_go hc_X8_readThings (k := 3) (pc' := 25) (L' := [.ref l0, .int l1, .int l2, .int l3]) (S' := [.int l2, .int l3, .ref l0]) rfl ?_
        obtain ⟨q3, eq3, H⟩ := Option.bind_eq_some_iff.mp H
        refine ev_call (vs := [.ref l0, .int l3, .int l2]) (rest := []) (q := q_X8_readsThing) hc_X8_readThings (Or.inr rfl) (fe_X8_readThings (pc := 25) rfl) ms_47 rfl rfl (Nat.le_of_ble_eq_true rfl) (kO_recv (K_X8_readsThing eq3)) (E_X8_readsThing eq3 (by omega)) rfl ?_
        show Ev xs N (d + 1) 44 28 [.ref l0, .int l1, .int l2, .int l3] [.int q3.1] q3.2 nx _
        by_cases c4 : q3.1 = 0
        · rw [if_pos c4] at H
          refine ev_bt hc_X8_readThings (fe_X8_readThings (pc := 28) rfl) rfl c4 ?_
          refine ev_go hc_X8_readThings (k := 1) (pc' := 76) (L' := [.ref l0, .int l1, .int l2, .int l3]) (S' := []) rfl ?_
          exact Ev.weak (ci_le_c (Or.inr rfl) (ci_le_c (Or.inl rfl) (ci_le_c (Or.inl rfl) (ci_le_c (Or.inl rfl) (ci_le_n))))) (eb_X8_readThings_76 hd H)
        · rw [if_neg c4] at H
          refine ev_bf hc_X8_readThings (fe_X8_readThings (pc := 28) rfl) rfl c4 ?_
          refine ev_go hc_X8_readThings (k := 1) (pc' := 35) (L' := [.ref l0, .int l1, .int l2, .int l3]) (S' := [.ref l0]) rfl ?_
          obtain ⟨v5, ev5, H⟩ := Option.bind_eq_some_iff.mp H
          refine ev_4 hc_X8_readThings (fe_X8_readThings (pc := 35) rfl) (gR_gf ev5) ?_
          refine ev_go hc_X8_readThings (k := 1) (pc' := 40) (L' := [.ref l0, .int l1, .int l2, .int l3]) (S' := [.int 59, .ref v5]) rfl ?_
          obtain ⟨q6, eq6, H⟩ := Option.bind_eq_some_iff.mp H
          refine ev_call (vs := [.ref v5, .int 59]) (rest := []) (q := q_X9_takes) hc_X8_readThings (Or.inr rfl) (fe_X8_readThings (pc := 40) rfl) ms_57 rfl rfl (Nat.le_of_ble_eq_true rfl) (kO_recv (K_X9_takes eq6)) (E_X9_takes eq6 (by omega)) rfl ?_
          show Ev xs N (d + 1) 44 43 [.ref l0, .int l1, .int l2, .int l3] [.int q6.1] q6.2 nx _
          by_cases c7 : q6.1 = 0
          · rw [if_pos c7] at H
            refine ev_bt hc_X8_readThings (fe_X8_readThings (pc := 43) rfl) rfl c7 ?_
            refine ev_go hc_X8_readThings (k := 1) (pc' := 47) (L' := [.ref l0, .int l1, .int l2, .int l3]) (S' := [.ref l0]) rfl ?_
            obtain ⟨v8, ev8, H⟩ := Option.bind_eq_some_iff.mp H
            refine ev_4 hc_X8_readThings (fe_X8_readThings (pc := 47) rfl) (gR_gf ev8) ?_
            obtain ⟨q9, eq9, H⟩ := Option.bind_eq_some_iff.mp H
            refine ev_call (vs := [.ref v8]) (rest := []) (q := q_X9_ended) hc_X8_readThings (Or.inr rfl) (fe_X8_readThings (pc := 50) rfl) ms_55 rfl rfl (Nat.le_of_ble_eq_true rfl) (kO_recv (K_X9_ended eq9)) (E_X9_ended eq9 (by omega)) rfl ?_
            show Ev xs N (d + 1) 44 53 [.ref l0, .int l1, .int l2, .int l3] [.int q9.1] q9.2 nx _
            by_cases c10 : q9.1 = 0
            · rw [if_pos c10] at H
              refine ev_bt hc_X8_readThings (fe_X8_readThings (pc := 53) rfl) rfl c10 ?_
              refine ev_go hc_X8_readThings (k := 1) (pc' := 63) (L' := [.ref l0, .int l1, .int l2, .int l3]) (S' := [.ref l0]) rfl ?_
              obtain ⟨v11, ev11, H⟩ := Option.bind_eq_some_iff.mp H
              refine ev_4 hc_X8_readThings (fe_X8_readThings (pc := 63) rfl) (gR_gf ev11) ?_
              obtain ⟨q12, eq12, H⟩ := Option.bind_eq_some_iff.mp H
              refine ev_call (vs := [.ref v11]) (rest := []) (q := q_X9_fault) hc_X8_readThings (Or.inr rfl) (fe_X8_readThings (pc := 66) rfl) ms_56 rfl rfl (Nat.le_of_ble_eq_true rfl) (kO_recv (K_X9_fault eq12)) (E_X9_fault eq12 (by omega)) rfl ?_
              show Ev xs N (d + 1) 44 69 [.ref l0, .int l1, .int l2, .int l3] [.int q12.1] q12.2 nx _
              obtain rfl := Option.some.inj H
              exact ev_8 hc_X8_readThings (fe_X8_readThings (pc := 69) rfl) rfl
            · rw [if_neg c10] at H
              refine ev_bf hc_X8_readThings (fe_X8_readThings (pc := 53) rfl) rfl c10 ?_
              refine ev_go hc_X8_readThings (k := 4) (pc' := 69) (L' := [.ref l0, .int l1, .int l2, .int l3]) (S' := [.int (l3 + 1)]) rfl ?_
              obtain rfl := Option.some.inj H
              exact ev_8 hc_X8_readThings (fe_X8_readThings (pc := 69) rfl) rfl
          · rw [if_neg c7] at H
            refine ev_bf hc_X8_readThings (fe_X8_readThings (pc := 43) rfl) rfl c7 ?_
            refine ev_go hc_X8_readThings (k := 2) (pc' := 11) (L' := [.ref l0, .int l1, .int l2, .int (l3 + 1)]) (S' := []) rfl ?_
            exact Ev.weak (ci_le_c (Or.inr rfl) (ci_le_c (Or.inr rfl) (ci_le_c (Or.inr rfl) (ci_le_c (Or.inr rfl) (ci_le_n))))) (ih _ _ _ H)
def F_X8_readThings (a0 : Nat) (a1 : Int32) (a2 : Int32) (h : ci_H) : Option (Int32 × ci_H) := if kO h a0 = some 8 then ((gR h a0 8 0).bind fun v1 => (F_X9_open v1 76 h).bind fun h2 => b_X8_readThings_11 a0 a1 a2 bigN 0 h2) else none
theorem K_X8_readThings {a0 : Nat} {a1 : Int32} {a2 : Int32} {h : ci_H} {r : Int32 × ci_H} (H : F_X8_readThings a0 a1 a2 h = some r) : kO h a0 = some 8 := by
  unfold F_X8_readThings at H
  by_cases c : kO h a0 = some 8
  · exact c
  · rw [if_neg c] at H; cases H
set_option maxHeartbeats 4000000 in
set_option maxRecDepth 20000 in
theorem E_X8_readThings {xs : Nat → Int32} {N d : Nat} {nx : ci_N} {a0 : Nat} {a1 : Int32} {a2 : Int32} {h : ci_H} {r : Int32 × ci_H} (H : F_X8_readThings a0 a1 a2 h = some r) (hd : 3 ≤ d) : Ev xs N d 44 0 (ci_entry [.ref a0, .int a1, .int a2] 4) [] h nx (oI r nx) := by
  obtain ⟨d, rfl⟩ : ∃ d2, d = d2 + 1 := ⟨d - 1, by omega⟩
  have hd : 2 ≤ d := by omega
  unfold F_X8_readThings at H
  by_cases ck : kO h a0 = some 8
  · rw [if_pos ck] at H
    show Ev xs N (d + 1) 44 0 [.ref a0, .int a1, .int a2, ci_junk] [] h nx _
    refine ev_go hc_X8_readThings (k := 1) (pc' := 1) (L' := [.ref a0, .int a1, .int a2, ci_junk]) (S' := [.ref a0]) rfl ?_
    obtain ⟨v1, ev1, H⟩ := Option.bind_eq_some_iff.mp H
    refine ev_4 hc_X8_readThings (fe_X8_readThings (pc := 1) rfl) (gR_gf ev1) ?_
    refine ev_go hc_X8_readThings (k := 1) (pc' := 6) (L' := [.ref a0, .int a1, .int a2, ci_junk]) (S' := [.int 76, .ref v1]) rfl ?_
    obtain ⟨h2, eh2, H⟩ := Option.bind_eq_some_iff.mp H
    refine ev_call (vs := [.ref v1, .int 76]) (rest := []) (q := q_X9_open) hc_X8_readThings (Or.inr rfl) (fe_X8_readThings (pc := 6) rfl) ms_52 rfl rfl (Nat.le_of_ble_eq_true rfl) (kO_recv (K_X9_open eh2)) (E_X9_open eh2 (by omega)) rfl ?_
    show Ev xs N (d + 1) 44 9 [.ref a0, .int a1, .int a2, ci_junk] [] h2 nx _
    refine ev_go hc_X8_readThings (k := 2) (pc' := 11) (L' := [.ref a0, .int a1, .int a2, .int 0]) (S' := []) rfl ?_
    exact Ev.weak (ci_le_c (Or.inr rfl) (ci_le_c (Or.inr rfl) (ci_le_c (Or.inr rfl) (ci_le_c (Or.inr rfl) (ci_le_n))))) (eb_X8_readThings_11 hd bigN _ _ _ H)
  · rw [if_neg ck] at H; cases H
theorem hc_X8_readsKind : ci_code (ci_Ms 48) = k_X8_readsKind := rfl
theorem fe_X8_readsKind {pc : Nat} {w : Option ci_I} (h : (k_X8_readsKind)[pc]? = some w) : (k_X8_readsKind)[pc]? = some w := h
def F_X8_readsKind (a0 : Nat) (a1 : Int32) (h : ci_H) : Option (Int32 × ci_H) := if kO h a0 = some 8 then ((gR h a0 8 1).bind fun v1 => (gR h a0 8 0).bind fun v2 => (F_X9_letters v2 0 h).bind fun q3 => (wI q3.2 v1 a1 q3.1).bind fun h4 => (gR h4 a0 8 2).bind fun v5 => (wI h4 v5 a1 0).bind fun h6 => (gR h6 a0 8 1).bind fun v7 => (rI h6 v7 a1).bind fun v8 => if v8 = 0 then (some (0, h6)) else ((gR h6 a0 8 0).bind fun v10 => (F_X9_takes v10 33 h6).bind fun q11 => if q11.1 = 0 then (some (1, q11.2)) else ((gR q11.2 a0 8 2).bind fun v13 => (gR q11.2 a0 8 0).bind fun v14 => (gR q11.2 a0 8 1).bind fun v15 => (rI q11.2 v15 a1).bind fun v16 => (F_X9_letters v14 v16 q11.2).bind fun q17 => (wI q17.2 v13 a1 q17.1).bind fun h18 => (gR h18 a0 8 2).bind fun v19 => (rI h18 v19 a1).bind fun v20 => if v20 = 0 then (some (0, h18)) else (some (1, h18))))) else none
theorem K_X8_readsKind {a0 : Nat} {a1 : Int32} {h : ci_H} {r : Int32 × ci_H} (H : F_X8_readsKind a0 a1 h = some r) : kO h a0 = some 8 := by
  unfold F_X8_readsKind at H
  by_cases c : kO h a0 = some 8
  · exact c
  · rw [if_neg c] at H; cases H
set_option maxHeartbeats 4000000 in
set_option maxRecDepth 20000 in
theorem E_X8_readsKind {xs : Nat → Int32} {N d : Nat} {nx : ci_N} {a0 : Nat} {a1 : Int32} {h : ci_H} {r : Int32 × ci_H} (H : F_X8_readsKind a0 a1 h = some r) (hd : 2 ≤ d) : Ev xs N d 48 0 (ci_entry [.ref a0, .int a1] 2) [] h nx (oI r nx) := by
  obtain ⟨d, rfl⟩ : ∃ d2, d = d2 + 1 := ⟨d - 1, by omega⟩
  have hd : 1 ≤ d := by omega
  unfold F_X8_readsKind at H
  by_cases ck : kO h a0 = some 8
  · rw [if_pos ck] at H
    show Ev xs N (d + 1) 48 0 [.ref a0, .int a1] [] h nx _
    refine ev_go hc_X8_readsKind (k := 1) (pc' := 1) (L' := [.ref a0, .int a1]) (S' := [.ref a0]) rfl ?_
    obtain ⟨v1, ev1, H⟩ := Option.bind_eq_some_iff.mp H
    refine ev_4 hc_X8_readsKind (fe_X8_readsKind (pc := 1) rfl) (gR_gf ev1) ?_
    refine ev_go hc_X8_readsKind (k := 2) (pc' := 6) (L' := [.ref a0, .int a1]) (S' := [.ref a0, .int a1, .ref v1]) rfl ?_
    obtain ⟨v2, ev2, H⟩ := Option.bind_eq_some_iff.mp H
    refine ev_4 hc_X8_readsKind (fe_X8_readsKind (pc := 6) rfl) (gR_gf ev2) ?_
    refine ev_go hc_X8_readsKind (k := 1) (pc' := 10) (L' := [.ref a0, .int a1]) (S' := [.int 0, .ref v2, .int a1, .ref v1]) rfl ?_
    obtain ⟨q3, eq3, H⟩ := Option.bind_eq_some_iff.mp H
    refine ev_call (vs := [.ref v2, .int 0]) (rest := [.int a1, .ref v1]) (q := q_X9_letters) hc_X8_readsKind (Or.inr rfl) (fe_X8_readsKind (pc := 10) rfl) ms_59 rfl rfl (Nat.le_of_ble_eq_true rfl) (kO_recv (K_X9_letters eq3)) (E_X9_letters eq3 (by omega)) rfl ?_
    show Ev xs N (d + 1) 48 13 [.ref a0, .int a1] [.int q3.1, .int a1, .ref v1] q3.2 nx _
    obtain ⟨h4, eh4, H⟩ := Option.bind_eq_some_iff.mp H
    refine ev_5 hc_X8_readsKind (fe_X8_readsKind (pc := 13) rfl) (wI_as eh4) ?_
    refine ev_go hc_X8_readsKind (k := 1) (pc' := 15) (L' := [.ref a0, .int a1]) (S' := [.ref a0]) rfl ?_
    obtain ⟨v5, ev5, H⟩ := Option.bind_eq_some_iff.mp H
    refine ev_4 hc_X8_readsKind (fe_X8_readsKind (pc := 15) rfl) (gR_gf ev5) ?_
    refine ev_go hc_X8_readsKind (k := 2) (pc' := 20) (L' := [.ref a0, .int a1]) (S' := [.int 0, .int a1, .ref v5]) rfl ?_
    obtain ⟨h6, eh6, H⟩ := Option.bind_eq_some_iff.mp H
    refine ev_5 hc_X8_readsKind (fe_X8_readsKind (pc := 20) rfl) (wI_as eh6) ?_
    refine ev_go hc_X8_readsKind (k := 1) (pc' := 22) (L' := [.ref a0, .int a1]) (S' := [.ref a0]) rfl ?_
    obtain ⟨v7, ev7, H⟩ := Option.bind_eq_some_iff.mp H
    refine ev_4 hc_X8_readsKind (fe_X8_readsKind (pc := 22) rfl) (gR_gf ev7) ?_
    refine ev_go hc_X8_readsKind (k := 1) (pc' := 26) (L' := [.ref a0, .int a1]) (S' := [.int a1, .ref v7]) rfl ?_
    obtain ⟨v8, ev8, H⟩ := Option.bind_eq_some_iff.mp H
    refine ev_4 hc_X8_readsKind (fe_X8_readsKind (pc := 26) rfl) (rI_al ev8) ?_
    by_cases c9 : v8 = 0
    · rw [if_pos c9] at H
      refine ev_bt hc_X8_readsKind (fe_X8_readsKind (pc := 27) rfl) rfl c9 ?_
      refine ev_go hc_X8_readsKind (k := 1) (pc' := 31) (L' := [.ref a0, .int a1]) (S' := [.int 0]) rfl ?_
      obtain rfl := Option.some.inj H
      exact ev_8z hc_X8_readsKind (fe_X8_readsKind (pc := 31) rfl) rfl (Or.inl rfl)
    · rw [if_neg c9] at H
      refine ev_bf hc_X8_readsKind (fe_X8_readsKind (pc := 27) rfl) rfl c9 ?_
      refine ev_go hc_X8_readsKind (k := 1) (pc' := 33) (L' := [.ref a0, .int a1]) (S' := [.ref a0]) rfl ?_
      obtain ⟨v10, ev10, H⟩ := Option.bind_eq_some_iff.mp H
      refine ev_4 hc_X8_readsKind (fe_X8_readsKind (pc := 33) rfl) (gR_gf ev10) ?_
      refine ev_go hc_X8_readsKind (k := 1) (pc' := 38) (L' := [.ref a0, .int a1]) (S' := [.int 33, .ref v10]) rfl ?_
      obtain ⟨q11, eq11, H⟩ := Option.bind_eq_some_iff.mp H
      refine ev_call (vs := [.ref v10, .int 33]) (rest := []) (q := q_X9_takes) hc_X8_readsKind (Or.inr rfl) (fe_X8_readsKind (pc := 38) rfl) ms_57 rfl rfl (Nat.le_of_ble_eq_true rfl) (kO_recv (K_X9_takes eq11)) (E_X9_takes eq11 (by omega)) rfl ?_
      show Ev xs N (d + 1) 48 41 [.ref a0, .int a1] [.int q11.1] q11.2 nx _
      by_cases c12 : q11.1 = 0
      · rw [if_pos c12] at H
        refine ev_bt hc_X8_readsKind (fe_X8_readsKind (pc := 41) rfl) rfl c12 ?_
        refine ev_go hc_X8_readsKind (k := 1) (pc' := 45) (L' := [.ref a0, .int a1]) (S' := [.int 1]) rfl ?_
        obtain rfl := Option.some.inj H
        exact ev_8z hc_X8_readsKind (fe_X8_readsKind (pc := 45) rfl) rfl (Or.inr rfl)
      · rw [if_neg c12] at H
        refine ev_bf hc_X8_readsKind (fe_X8_readsKind (pc := 41) rfl) rfl c12 ?_
        refine ev_go hc_X8_readsKind (k := 1) (pc' := 47) (L' := [.ref a0, .int a1]) (S' := [.ref a0]) rfl ?_
        obtain ⟨v13, ev13, H⟩ := Option.bind_eq_some_iff.mp H
        refine ev_4 hc_X8_readsKind (fe_X8_readsKind (pc := 47) rfl) (gR_gf ev13) ?_
        refine ev_go hc_X8_readsKind (k := 2) (pc' := 52) (L' := [.ref a0, .int a1]) (S' := [.ref a0, .int a1, .ref v13]) rfl ?_
        obtain ⟨v14, ev14, H⟩ := Option.bind_eq_some_iff.mp H
        refine ev_4 hc_X8_readsKind (fe_X8_readsKind (pc := 52) rfl) (gR_gf ev14) ?_
        refine ev_go hc_X8_readsKind (k := 1) (pc' := 56) (L' := [.ref a0, .int a1]) (S' := [.ref a0, .ref v14, .int a1, .ref v13]) rfl ?_
        obtain ⟨v15, ev15, H⟩ := Option.bind_eq_some_iff.mp H
        refine ev_4 hc_X8_readsKind (fe_X8_readsKind (pc := 56) rfl) (gR_gf ev15) ?_
        refine ev_go hc_X8_readsKind (k := 1) (pc' := 60) (L' := [.ref a0, .int a1]) (S' := [.int a1, .ref v15, .ref v14, .int a1, .ref v13]) rfl ?_
        obtain ⟨v16, ev16, H⟩ := Option.bind_eq_some_iff.mp H
        refine ev_4 hc_X8_readsKind (fe_X8_readsKind (pc := 60) rfl) (rI_al ev16) ?_
        obtain ⟨q17, eq17, H⟩ := Option.bind_eq_some_iff.mp H
        refine ev_call (vs := [.ref v14, .int v16]) (rest := [.int a1, .ref v13]) (q := q_X9_letters) hc_X8_readsKind (Or.inr rfl) (fe_X8_readsKind (pc := 61) rfl) ms_59 rfl rfl (Nat.le_of_ble_eq_true rfl) (kO_recv (K_X9_letters eq17)) (E_X9_letters eq17 (by omega)) rfl ?_
        show Ev xs N (d + 1) 48 64 [.ref a0, .int a1] [.int q17.1, .int a1, .ref v13] q17.2 nx _
        obtain ⟨h18, eh18, H⟩ := Option.bind_eq_some_iff.mp H
        refine ev_5 hc_X8_readsKind (fe_X8_readsKind (pc := 64) rfl) (wI_as eh18) ?_
        refine ev_go hc_X8_readsKind (k := 1) (pc' := 66) (L' := [.ref a0, .int a1]) (S' := [.ref a0]) rfl ?_
        obtain ⟨v19, ev19, H⟩ := Option.bind_eq_some_iff.mp H
        refine ev_4 hc_X8_readsKind (fe_X8_readsKind (pc := 66) rfl) (gR_gf ev19) ?_
        refine ev_go hc_X8_readsKind (k := 1) (pc' := 70) (L' := [.ref a0, .int a1]) (S' := [.int a1, .ref v19]) rfl ?_
        obtain ⟨v20, ev20, H⟩ := Option.bind_eq_some_iff.mp H
        refine ev_4 hc_X8_readsKind (fe_X8_readsKind (pc := 70) rfl) (rI_al ev20) ?_
        by_cases c21 : v20 = 0
        · rw [if_pos c21] at H
          refine ev_bt hc_X8_readsKind (fe_X8_readsKind (pc := 71) rfl) rfl c21 ?_
          refine ev_go hc_X8_readsKind (k := 1) (pc' := 79) (L' := [.ref a0, .int a1]) (S' := [.int 0]) rfl ?_
          obtain rfl := Option.some.inj H
          exact ev_8z hc_X8_readsKind (fe_X8_readsKind (pc := 79) rfl) rfl (Or.inl rfl)
        · rw [if_neg c21] at H
          refine ev_bf hc_X8_readsKind (fe_X8_readsKind (pc := 71) rfl) rfl c21 ?_
          refine ev_go hc_X8_readsKind (k := 2) (pc' := 79) (L' := [.ref a0, .int a1]) (S' := [.int 1]) rfl ?_
          obtain rfl := Option.some.inj H
          exact ev_8z hc_X8_readsKind (fe_X8_readsKind (pc := 79) rfl) rfl (Or.inr rfl)
  · rw [if_neg ck] at H; cases H
theorem hc_X8_readKinds : ci_code (ci_Ms 45) = k_X8_readKinds := rfl
theorem fe_X8_readKinds {pc : Nat} {w : Option ci_I} (h : (k_X8_readKinds)[pc]? = some w) : (k_X8_readKinds)[pc]? = some w := h
def b_X8_readKinds_75 (l0 : Nat)  (h : ci_H) : Option (Int32 × ci_H) := (gR h l0 8 0).bind fun v1 => (F_X9_fault v1 h).bind fun q2 => some (q2.1, q2.2)
set_option maxHeartbeats 4000000 in
set_option maxRecDepth 20000 in
theorem eb_X8_readKinds_75 {xs : Nat → Int32} {N d : Nat} {nx : ci_N} {l0 : Nat} (hd : 2 ≤ d) {h : ci_H} {r : Int32 × ci_H} (H : b_X8_readKinds_75 l0 h = some r) : Ev xs N (d + 1) 45 75 [.ref l0, ci_junk, ci_junk] [] h nx (oI r nx) := by
  unfold b_X8_readKinds_75 at H
  refine ev_go hc_X8_readKinds (k := 1) (pc' := 76) (L' := [.ref l0, ci_junk, ci_junk]) (S' := [.ref l0]) rfl ?_
  obtain ⟨v1, ev1, H⟩ := Option.bind_eq_some_iff.mp H
  refine ev_4 hc_X8_readKinds (fe_X8_readKinds (pc := 76) rfl) (gR_gf ev1) ?_
  obtain ⟨q2, eq2, H⟩ := Option.bind_eq_some_iff.mp H
  refine ev_call (vs := [.ref v1]) (rest := []) (q := q_X9_fault) hc_X8_readKinds (Or.inr rfl) (fe_X8_readKinds (pc := 79) rfl) ms_56 rfl rfl (Nat.le_of_ble_eq_true rfl) (kO_recv (K_X9_fault eq2)) (E_X9_fault eq2 (by omega)) rfl ?_
  show Ev xs N (d + 1) 45 82 [.ref l0, ci_junk, ci_junk] [.int q2.1] q2.2 nx _
  obtain rfl := Option.some.inj H
  exact ev_8 hc_X8_readKinds (fe_X8_readKinds (pc := 82) rfl) rfl
def b_X8_readKinds_11 (l0 : Nat) (l1 : Int32) : Nat → Int32 → ci_H → Option (Int32 × ci_H)
  | 0, _, _ => none
  | n + 1, l2, h => if l1 ≤ l2 then (b_X8_readKinds_75 l0 h) else (if 20 ≤ l2 then (b_X8_readKinds_75 l0 h) else ((F_X8_readsKind l0 l2 h).bind fun q3 => if q3.1 = 0 then (b_X8_readKinds_75 l0 q3.2) else ((gR q3.2 l0 8 0).bind fun v5 => (F_X9_takes v5 59 q3.2).bind fun q6 => if q6.1 = 0 then ((gR q6.2 l0 8 0).bind fun v8 => (F_X9_ended v8 q6.2).bind fun q9 => if q9.1 = 0 then ((gR q9.2 l0 8 0).bind fun v11 => (F_X9_fault v11 q9.2).bind fun q12 => some (q12.1, q12.2)) else (some (l2 + 1, q9.2))) else (b_X8_readKinds_11 l0 l1 n (l2 + 1) q6.2))))
set_option maxHeartbeats 4000000 in
set_option maxRecDepth 20000 in
theorem eb_X8_readKinds_11 {xs : Nat → Int32} {N d : Nat} {nx : ci_N} {l0 : Nat} {l1 : Int32} (hd : 2 ≤ d) : ∀ (n : Nat) (l2 : Int32) (h : ci_H) (r : Int32 × ci_H), b_X8_readKinds_11 l0 l1 n l2 h = some r → Ev xs N (d + 1) 45 11 [.ref l0, .int l1, .int l2] [] h nx (oI r nx) := by
  intro n
  induction n with
  | zero => intro l2 h r H; unfold b_X8_readKinds_11 at H; cases H
  | succ n ih =>
    intro l2 h r H
    unfold b_X8_readKinds_11 at H
    refine ev_go hc_X8_readKinds (k := 2) (pc' := 13) (L' := [.ref l0, .int l1, .int l2]) (S' := [.int l1, .int l2]) rfl ?_
    by_cases c1 : l1 ≤ l2
    · rw [if_pos c1] at H
      refine ev_bt hc_X8_readKinds (fe_X8_readKinds (pc := 13) rfl) rfl c1 ?_
      exact Ev.weak (ci_le_c (Or.inr rfl) (ci_le_c (Or.inl rfl) (ci_le_c (Or.inl rfl) (ci_le_n)))) (eb_X8_readKinds_75 hd H)
    · rw [if_neg c1] at H
      refine ev_bf hc_X8_readKinds (fe_X8_readKinds (pc := 13) rfl) rfl c1 ?_
      refine ev_go hc_X8_readKinds (k := 2) (pc' := 19) (L' := [.ref l0, .int l1, .int l2]) (S' := [.int 20, .int l2]) rfl ?_
      by_cases c2 : 20 ≤ l2
      · rw [if_pos c2] at H
        refine ev_bt hc_X8_readKinds (fe_X8_readKinds (pc := 19) rfl) rfl c2 ?_
        exact Ev.weak (ci_le_c (Or.inr rfl) (ci_le_c (Or.inl rfl) (ci_le_c (Or.inl rfl) (ci_le_n)))) (eb_X8_readKinds_75 hd H)
      · rw [if_neg c2] at H
        refine ev_bf hc_X8_readKinds (fe_X8_readKinds (pc := 19) rfl) rfl c2 ?_
        refine ev_go hc_X8_readKinds (k := 2) (pc' := 24) (L' := [.ref l0, .int l1, .int l2]) (S' := [.int l2, .ref l0]) rfl ?_
        obtain ⟨q3, eq3, H⟩ := Option.bind_eq_some_iff.mp H
        refine ev_call (vs := [.ref l0, .int l2]) (rest := []) (q := q_X8_readsKind) hc_X8_readKinds (Or.inr rfl) (fe_X8_readKinds (pc := 24) rfl) ms_48 rfl rfl (Nat.le_of_ble_eq_true rfl) (kO_recv (K_X8_readsKind eq3)) (E_X8_readsKind eq3 (by omega)) rfl ?_
        show Ev xs N (d + 1) 45 27 [.ref l0, .int l1, .int l2] [.int q3.1] q3.2 nx _
        by_cases c4 : q3.1 = 0
        · rw [if_pos c4] at H
          refine ev_bt hc_X8_readKinds (fe_X8_readKinds (pc := 27) rfl) rfl c4 ?_
          refine ev_go hc_X8_readKinds (k := 1) (pc' := 75) (L' := [.ref l0, .int l1, .int l2]) (S' := []) rfl ?_
          exact Ev.weak (ci_le_c (Or.inr rfl) (ci_le_c (Or.inl rfl) (ci_le_c (Or.inl rfl) (ci_le_n)))) (eb_X8_readKinds_75 hd H)
        · rw [if_neg c4] at H
          refine ev_bf hc_X8_readKinds (fe_X8_readKinds (pc := 27) rfl) rfl c4 ?_
          refine ev_go hc_X8_readKinds (k := 1) (pc' := 34) (L' := [.ref l0, .int l1, .int l2]) (S' := [.ref l0]) rfl ?_
          obtain ⟨v5, ev5, H⟩ := Option.bind_eq_some_iff.mp H
          refine ev_4 hc_X8_readKinds (fe_X8_readKinds (pc := 34) rfl) (gR_gf ev5) ?_
          refine ev_go hc_X8_readKinds (k := 1) (pc' := 39) (L' := [.ref l0, .int l1, .int l2]) (S' := [.int 59, .ref v5]) rfl ?_
          obtain ⟨q6, eq6, H⟩ := Option.bind_eq_some_iff.mp H
          refine ev_call (vs := [.ref v5, .int 59]) (rest := []) (q := q_X9_takes) hc_X8_readKinds (Or.inr rfl) (fe_X8_readKinds (pc := 39) rfl) ms_57 rfl rfl (Nat.le_of_ble_eq_true rfl) (kO_recv (K_X9_takes eq6)) (E_X9_takes eq6 (by omega)) rfl ?_
          show Ev xs N (d + 1) 45 42 [.ref l0, .int l1, .int l2] [.int q6.1] q6.2 nx _
          by_cases c7 : q6.1 = 0
          · rw [if_pos c7] at H
            refine ev_bt hc_X8_readKinds (fe_X8_readKinds (pc := 42) rfl) rfl c7 ?_
            refine ev_go hc_X8_readKinds (k := 1) (pc' := 46) (L' := [.ref l0, .int l1, .int l2]) (S' := [.ref l0]) rfl ?_
            obtain ⟨v8, ev8, H⟩ := Option.bind_eq_some_iff.mp H
            refine ev_4 hc_X8_readKinds (fe_X8_readKinds (pc := 46) rfl) (gR_gf ev8) ?_
            obtain ⟨q9, eq9, H⟩ := Option.bind_eq_some_iff.mp H
            refine ev_call (vs := [.ref v8]) (rest := []) (q := q_X9_ended) hc_X8_readKinds (Or.inr rfl) (fe_X8_readKinds (pc := 49) rfl) ms_55 rfl rfl (Nat.le_of_ble_eq_true rfl) (kO_recv (K_X9_ended eq9)) (E_X9_ended eq9 (by omega)) rfl ?_
            show Ev xs N (d + 1) 45 52 [.ref l0, .int l1, .int l2] [.int q9.1] q9.2 nx _
            by_cases c10 : q9.1 = 0
            · rw [if_pos c10] at H
              refine ev_bt hc_X8_readKinds (fe_X8_readKinds (pc := 52) rfl) rfl c10 ?_
              refine ev_go hc_X8_readKinds (k := 1) (pc' := 62) (L' := [.ref l0, .int l1, .int l2]) (S' := [.ref l0]) rfl ?_
              obtain ⟨v11, ev11, H⟩ := Option.bind_eq_some_iff.mp H
              refine ev_4 hc_X8_readKinds (fe_X8_readKinds (pc := 62) rfl) (gR_gf ev11) ?_
              obtain ⟨q12, eq12, H⟩ := Option.bind_eq_some_iff.mp H
              refine ev_call (vs := [.ref v11]) (rest := []) (q := q_X9_fault) hc_X8_readKinds (Or.inr rfl) (fe_X8_readKinds (pc := 65) rfl) ms_56 rfl rfl (Nat.le_of_ble_eq_true rfl) (kO_recv (K_X9_fault eq12)) (E_X9_fault eq12 (by omega)) rfl ?_
              show Ev xs N (d + 1) 45 68 [.ref l0, .int l1, .int l2] [.int q12.1] q12.2 nx _
              obtain rfl := Option.some.inj H
              exact ev_8 hc_X8_readKinds (fe_X8_readKinds (pc := 68) rfl) rfl
            · rw [if_neg c10] at H
              refine ev_bf hc_X8_readKinds (fe_X8_readKinds (pc := 52) rfl) rfl c10 ?_
              refine ev_go hc_X8_readKinds (k := 4) (pc' := 68) (L' := [.ref l0, .int l1, .int l2]) (S' := [.int (l2 + 1)]) rfl ?_
              obtain rfl := Option.some.inj H
              exact ev_8 hc_X8_readKinds (fe_X8_readKinds (pc := 68) rfl) rfl
          · rw [if_neg c7] at H
            refine ev_bf hc_X8_readKinds (fe_X8_readKinds (pc := 42) rfl) rfl c7 ?_
            refine ev_go hc_X8_readKinds (k := 2) (pc' := 11) (L' := [.ref l0, .int l1, .int (l2 + 1)]) (S' := []) rfl ?_
            exact Ev.weak (ci_le_c (Or.inr rfl) (ci_le_c (Or.inr rfl) (ci_le_c (Or.inr rfl) (ci_le_n)))) (ih _ _ _ H)
def F_X8_readKinds (a0 : Nat) (a1 : Int32) (h : ci_H) : Option (Int32 × ci_H) := if kO h a0 = some 8 then ((gR h a0 8 0).bind fun v1 => (F_X9_open v1 60 h).bind fun h2 => b_X8_readKinds_11 a0 a1 bigN 0 h2) else none
theorem K_X8_readKinds {a0 : Nat} {a1 : Int32} {h : ci_H} {r : Int32 × ci_H} (H : F_X8_readKinds a0 a1 h = some r) : kO h a0 = some 8 := by
  unfold F_X8_readKinds at H
  by_cases c : kO h a0 = some 8
  · exact c
  · rw [if_neg c] at H; cases H
set_option maxHeartbeats 4000000 in
set_option maxRecDepth 20000 in
theorem E_X8_readKinds {xs : Nat → Int32} {N d : Nat} {nx : ci_N} {a0 : Nat} {a1 : Int32} {h : ci_H} {r : Int32 × ci_H} (H : F_X8_readKinds a0 a1 h = some r) (hd : 3 ≤ d) : Ev xs N d 45 0 (ci_entry [.ref a0, .int a1] 3) [] h nx (oI r nx) := by
  obtain ⟨d, rfl⟩ : ∃ d2, d = d2 + 1 := ⟨d - 1, by omega⟩
  have hd : 2 ≤ d := by omega
  unfold F_X8_readKinds at H
  by_cases ck : kO h a0 = some 8
  · rw [if_pos ck] at H
    show Ev xs N (d + 1) 45 0 [.ref a0, .int a1, ci_junk] [] h nx _
    refine ev_go hc_X8_readKinds (k := 1) (pc' := 1) (L' := [.ref a0, .int a1, ci_junk]) (S' := [.ref a0]) rfl ?_
    obtain ⟨v1, ev1, H⟩ := Option.bind_eq_some_iff.mp H
    refine ev_4 hc_X8_readKinds (fe_X8_readKinds (pc := 1) rfl) (gR_gf ev1) ?_
    refine ev_go hc_X8_readKinds (k := 1) (pc' := 6) (L' := [.ref a0, .int a1, ci_junk]) (S' := [.int 60, .ref v1]) rfl ?_
    obtain ⟨h2, eh2, H⟩ := Option.bind_eq_some_iff.mp H
    refine ev_call (vs := [.ref v1, .int 60]) (rest := []) (q := q_X9_open) hc_X8_readKinds (Or.inr rfl) (fe_X8_readKinds (pc := 6) rfl) ms_52 rfl rfl (Nat.le_of_ble_eq_true rfl) (kO_recv (K_X9_open eh2)) (E_X9_open eh2 (by omega)) rfl ?_
    show Ev xs N (d + 1) 45 9 [.ref a0, .int a1, ci_junk] [] h2 nx _
    refine ev_go hc_X8_readKinds (k := 2) (pc' := 11) (L' := [.ref a0, .int a1, .int 0]) (S' := []) rfl ?_
    exact Ev.weak (ci_le_c (Or.inr rfl) (ci_le_c (Or.inr rfl) (ci_le_c (Or.inr rfl) (ci_le_n)))) (eb_X8_readKinds_11 hd bigN _ _ _ H)
  · rw [if_neg ck] at H; cases H
theorem hc_X8_readsAct : ci_code (ci_Ms 49) = k_X8_readsAct := rfl
theorem fe_X8_readsAct {pc : Nat} {w : Option ci_I} (h : (k_X8_readsAct)[pc]? = some w) : (k_X8_readsAct)[pc]? = some w := h
def b_X8_readsAct_166 (l0 : Nat) (l1 : Int32) (s0 : Nat) (s1 : Int32) (s2 : Int32)  (h : ci_H) : Option (Int32 × ci_H) := (wI h s0 s1 s2).bind fun h1 => (gR h1 l0 8 3).bind fun v2 => (rI h1 v2 l1).bind fun v3 => if v3 < 0 then (some (0, h1)) else (some (1, h1))
set_option maxHeartbeats 4000000 in
set_option maxRecDepth 20000 in
theorem eb_X8_readsAct_166 {xs : Nat → Int32} {N d : Nat} {nx : ci_N} {l0 : Nat} {l1 : Int32} {s0 : Nat} {s1 : Int32} {s2 : Int32} (hd : 2 ≤ d) {h : ci_H} {r : Int32 × ci_H} (H : b_X8_readsAct_166 l0 l1 s0 s1 s2 h = some r) : Ev xs N (d + 1) 49 166 [.ref l0, .int l1, ci_junk] [.int s2, .int s1, .ref s0] h nx (oI r nx) := by
  unfold b_X8_readsAct_166 at H
  obtain ⟨h1, eh1, H⟩ := Option.bind_eq_some_iff.mp H
  refine ev_5 hc_X8_readsAct (fe_X8_readsAct (pc := 166) rfl) (wI_as eh1) ?_
  refine ev_go hc_X8_readsAct (k := 1) (pc' := 168) (L' := [.ref l0, .int l1, ci_junk]) (S' := [.ref l0]) rfl ?_
  obtain ⟨v2, ev2, H⟩ := Option.bind_eq_some_iff.mp H
  refine ev_4 hc_X8_readsAct (fe_X8_readsAct (pc := 168) rfl) (gR_gf ev2) ?_
  refine ev_go hc_X8_readsAct (k := 1) (pc' := 172) (L' := [.ref l0, .int l1, ci_junk]) (S' := [.int l1, .ref v2]) rfl ?_
  obtain ⟨v3, ev3, H⟩ := Option.bind_eq_some_iff.mp H
  refine ev_4 hc_X8_readsAct (fe_X8_readsAct (pc := 172) rfl) (rI_al ev3) ?_
  by_cases c4 : v3 < 0
  · rw [if_pos c4] at H
    refine ev_bt hc_X8_readsAct (fe_X8_readsAct (pc := 173) rfl) rfl c4 ?_
    refine ev_go hc_X8_readsAct (k := 1) (pc' := 181) (L' := [.ref l0, .int l1, ci_junk]) (S' := [.int 0]) rfl ?_
    obtain rfl := Option.some.inj H
    exact ev_8z hc_X8_readsAct (fe_X8_readsAct (pc := 181) rfl) rfl (Or.inl rfl)
  · rw [if_neg c4] at H
    refine ev_bf hc_X8_readsAct (fe_X8_readsAct (pc := 173) rfl) rfl c4 ?_
    refine ev_go hc_X8_readsAct (k := 2) (pc' := 181) (L' := [.ref l0, .int l1, ci_junk]) (S' := [.int 1]) rfl ?_
    obtain rfl := Option.some.inj H
    exact ev_8z hc_X8_readsAct (fe_X8_readsAct (pc := 181) rfl) rfl (Or.inr rfl)
def b_X8_readsAct_60 (l0 : Nat) (l1 : Int32) (l2 : Int32)  (h : ci_H) : Option (Int32 × ci_H) := (gR h l0 8 0).bind fun v1 => (F_X9_step v1 h).bind fun h2 => if l2 = 104 then ((gR h2 l0 8 2).bind fun v4 => (gR h2 l0 8 0).bind fun v5 => (F_X9_number v5 2 h2).bind fun q6 => (wI q6.2 v4 l1 q6.1).bind fun h7 => (gR h7 l0 8 2).bind fun v8 => (rI h7 v8 l1).bind fun v9 => if v9 < 0 then (some (0, h7)) else (some (1, h7))) else ((gR h2 l0 8 2).bind fun v11 => (gR h2 l0 8 0).bind fun v12 => (F_X9_oneOf v12 97 12 h2).bind fun q13 => (wI q13.2 v11 l1 q13.1).bind fun h14 => (gR h14 l0 8 2).bind fun v15 => (rI h14 v15 l1).bind fun v16 => if 0 ≤ v16 then ((gR h14 l0 8 3).bind fun v18 => if l2 = 112 then ((gR h14 l0 8 0).bind fun v20 => (F_X9_oneOf v20 97 6 h14).bind fun q21 => b_X8_readsAct_166 l0 l1 v18 l1 q21.1 q21.2) else ((gR h14 l0 8 0).bind fun v22 => (F_X9_oneOf v22 48 10 h14).bind fun q23 => b_X8_readsAct_166 l0 l1 v18 l1 q23.1 q23.2)) else (some (0, h14)))
set_option maxHeartbeats 4000000 in
set_option maxRecDepth 20000 in
theorem eb_X8_readsAct_60 {xs : Nat → Int32} {N d : Nat} {nx : ci_N} {l0 : Nat} {l1 : Int32} {l2 : Int32} (hd : 2 ≤ d) {h : ci_H} {r : Int32 × ci_H} (H : b_X8_readsAct_60 l0 l1 l2 h = some r) : Ev xs N (d + 1) 49 60 [.ref l0, .int l1, .int l2] [] h nx (oI r nx) := by
  unfold b_X8_readsAct_60 at H
  refine ev_go hc_X8_readsAct (k := 1) (pc' := 61) (L' := [.ref l0, .int l1, .int l2]) (S' := [.ref l0]) rfl ?_
  obtain ⟨v1, ev1, H⟩ := Option.bind_eq_some_iff.mp H
  refine ev_4 hc_X8_readsAct (fe_X8_readsAct (pc := 61) rfl) (gR_gf ev1) ?_
  obtain ⟨h2, eh2, H⟩ := Option.bind_eq_some_iff.mp H
  refine ev_call (vs := [.ref v1]) (rest := []) (q := q_X9_step) hc_X8_readsAct (Or.inr rfl) (fe_X8_readsAct (pc := 64) rfl) ms_54 rfl rfl (Nat.le_of_ble_eq_true rfl) (kO_recv (K_X9_step eh2)) (E_X9_step eh2 (by omega)) rfl ?_
  show Ev xs N (d + 1) 49 67 [.ref l0, .int l1, .int l2] [] h2 nx _
  refine ev_go hc_X8_readsAct (k := 2) (pc' := 70) (L' := [.ref l0, .int l1, .int l2]) (S' := [.int 104, .int l2]) rfl ?_
  by_cases c3 : l2 = 104
  · rw [if_pos c3] at H
    refine ev_bt hc_X8_readsAct (fe_X8_readsAct (pc := 70) rfl) rfl c3 ?_
    refine ev_go hc_X8_readsAct (k := 1) (pc' := 74) (L' := [.ref l0, .int l1, .int l2]) (S' := [.ref l0]) rfl ?_
    obtain ⟨v4, ev4, H⟩ := Option.bind_eq_some_iff.mp H
    refine ev_4 hc_X8_readsAct (fe_X8_readsAct (pc := 74) rfl) (gR_gf ev4) ?_
    refine ev_go hc_X8_readsAct (k := 2) (pc' := 79) (L' := [.ref l0, .int l1, .int l2]) (S' := [.ref l0, .int l1, .ref v4]) rfl ?_
    obtain ⟨v5, ev5, H⟩ := Option.bind_eq_some_iff.mp H
    refine ev_4 hc_X8_readsAct (fe_X8_readsAct (pc := 79) rfl) (gR_gf ev5) ?_
    refine ev_go hc_X8_readsAct (k := 1) (pc' := 83) (L' := [.ref l0, .int l1, .int l2]) (S' := [.int 2, .ref v5, .int l1, .ref v4]) rfl ?_
    obtain ⟨q6, eq6, H⟩ := Option.bind_eq_some_iff.mp H
    refine ev_call (vs := [.ref v5, .int 2]) (rest := [.int l1, .ref v4]) (q := q_X9_number) hc_X8_readsAct (Or.inr rfl) (fe_X8_readsAct (pc := 83) rfl) ms_60 rfl rfl (Nat.le_of_ble_eq_true rfl) (kO_recv (K_X9_number eq6)) (E_X9_number eq6 (by omega)) rfl ?_
    show Ev xs N (d + 1) 49 86 [.ref l0, .int l1, .int l2] [.int q6.1, .int l1, .ref v4] q6.2 nx _
    obtain ⟨h7, eh7, H⟩ := Option.bind_eq_some_iff.mp H
    refine ev_5 hc_X8_readsAct (fe_X8_readsAct (pc := 86) rfl) (wI_as eh7) ?_
    refine ev_go hc_X8_readsAct (k := 1) (pc' := 88) (L' := [.ref l0, .int l1, .int l2]) (S' := [.ref l0]) rfl ?_
    obtain ⟨v8, ev8, H⟩ := Option.bind_eq_some_iff.mp H
    refine ev_4 hc_X8_readsAct (fe_X8_readsAct (pc := 88) rfl) (gR_gf ev8) ?_
    refine ev_go hc_X8_readsAct (k := 1) (pc' := 92) (L' := [.ref l0, .int l1, .int l2]) (S' := [.int l1, .ref v8]) rfl ?_
    obtain ⟨v9, ev9, H⟩ := Option.bind_eq_some_iff.mp H
    refine ev_4 hc_X8_readsAct (fe_X8_readsAct (pc := 92) rfl) (rI_al ev9) ?_
    by_cases c10 : v9 < 0
    · rw [if_pos c10] at H
      refine ev_bt hc_X8_readsAct (fe_X8_readsAct (pc := 93) rfl) rfl c10 ?_
      refine ev_go hc_X8_readsAct (k := 1) (pc' := 101) (L' := [.ref l0, .int l1, .int l2]) (S' := [.int 0]) rfl ?_
      obtain rfl := Option.some.inj H
      exact ev_8z hc_X8_readsAct (fe_X8_readsAct (pc := 101) rfl) rfl (Or.inl rfl)
    · rw [if_neg c10] at H
      refine ev_bf hc_X8_readsAct (fe_X8_readsAct (pc := 93) rfl) rfl c10 ?_
      refine ev_go hc_X8_readsAct (k := 2) (pc' := 101) (L' := [.ref l0, .int l1, .int l2]) (S' := [.int 1]) rfl ?_
      obtain rfl := Option.some.inj H
      exact ev_8z hc_X8_readsAct (fe_X8_readsAct (pc := 101) rfl) rfl (Or.inr rfl)
  · rw [if_neg c3] at H
    refine ev_bf hc_X8_readsAct (fe_X8_readsAct (pc := 70) rfl) rfl c3 ?_
    refine ev_go hc_X8_readsAct (k := 1) (pc' := 103) (L' := [.ref l0, .int l1, .int l2]) (S' := [.ref l0]) rfl ?_
    obtain ⟨v11, ev11, H⟩ := Option.bind_eq_some_iff.mp H
    refine ev_4 hc_X8_readsAct (fe_X8_readsAct (pc := 103) rfl) (gR_gf ev11) ?_
    refine ev_go hc_X8_readsAct (k := 2) (pc' := 108) (L' := [.ref l0, .int l1, .int l2]) (S' := [.ref l0, .int l1, .ref v11]) rfl ?_
    obtain ⟨v12, ev12, H⟩ := Option.bind_eq_some_iff.mp H
    refine ev_4 hc_X8_readsAct (fe_X8_readsAct (pc := 108) rfl) (gR_gf ev12) ?_
    refine ev_go hc_X8_readsAct (k := 2) (pc' := 115) (L' := [.ref l0, .int l1, .int l2]) (S' := [.int 12, .int 97, .ref v12, .int l1, .ref v11]) rfl ?_
    obtain ⟨q13, eq13, H⟩ := Option.bind_eq_some_iff.mp H
    refine ev_call (vs := [.ref v12, .int 97, .int 12]) (rest := [.int l1, .ref v11]) (q := q_X9_oneOf) hc_X8_readsAct (Or.inr rfl) (fe_X8_readsAct (pc := 115) rfl) ms_58 rfl rfl (Nat.le_of_ble_eq_true rfl) (kO_recv (K_X9_oneOf eq13)) (E_X9_oneOf eq13 (by omega)) rfl ?_
    show Ev xs N (d + 1) 49 118 [.ref l0, .int l1, .int l2] [.int q13.1, .int l1, .ref v11] q13.2 nx _
    obtain ⟨h14, eh14, H⟩ := Option.bind_eq_some_iff.mp H
    refine ev_5 hc_X8_readsAct (fe_X8_readsAct (pc := 118) rfl) (wI_as eh14) ?_
    refine ev_go hc_X8_readsAct (k := 1) (pc' := 120) (L' := [.ref l0, .int l1, .int l2]) (S' := [.ref l0]) rfl ?_
    obtain ⟨v15, ev15, H⟩ := Option.bind_eq_some_iff.mp H
    refine ev_4 hc_X8_readsAct (fe_X8_readsAct (pc := 120) rfl) (gR_gf ev15) ?_
    refine ev_go hc_X8_readsAct (k := 1) (pc' := 124) (L' := [.ref l0, .int l1, .int l2]) (S' := [.int l1, .ref v15]) rfl ?_
    obtain ⟨v16, ev16, H⟩ := Option.bind_eq_some_iff.mp H
    refine ev_4 hc_X8_readsAct (fe_X8_readsAct (pc := 124) rfl) (rI_al ev16) ?_
    by_cases c17 : 0 ≤ v16
    · rw [if_pos c17] at H
      refine ev_bt hc_X8_readsAct (fe_X8_readsAct (pc := 125) rfl) rfl c17 ?_
      refine ev_go hc_X8_readsAct (k := 1) (pc' := 131) (L' := [.ref l0, .int l1, .int l2]) (S' := [.ref l0]) rfl ?_
      obtain ⟨v18, ev18, H⟩ := Option.bind_eq_some_iff.mp H
      refine ev_4 hc_X8_readsAct (fe_X8_readsAct (pc := 131) rfl) (gR_gf ev18) ?_
      refine ev_go hc_X8_readsAct (k := 3) (pc' := 138) (L' := [.ref l0, .int l1, .int l2]) (S' := [.int 112, .int l2, .int l1, .ref v18]) rfl ?_
      by_cases c19 : l2 = 112
      · rw [if_pos c19] at H
        refine ev_bt hc_X8_readsAct (fe_X8_readsAct (pc := 138) rfl) rfl c19 ?_
        refine ev_go hc_X8_readsAct (k := 1) (pc' := 142) (L' := [.ref l0, .int l1, .int l2]) (S' := [.ref l0, .int l1, .ref v18]) rfl ?_
        obtain ⟨v20, ev20, H⟩ := Option.bind_eq_some_iff.mp H
        refine ev_4 hc_X8_readsAct (fe_X8_readsAct (pc := 142) rfl) (gR_gf ev20) ?_
        refine ev_go hc_X8_readsAct (k := 2) (pc' := 149) (L' := [.ref l0, .int l1, .int l2]) (S' := [.int 6, .int 97, .ref v20, .int l1, .ref v18]) rfl ?_
        obtain ⟨q21, eq21, H⟩ := Option.bind_eq_some_iff.mp H
        refine ev_call (vs := [.ref v20, .int 97, .int 6]) (rest := [.int l1, .ref v18]) (q := q_X9_oneOf) hc_X8_readsAct (Or.inr rfl) (fe_X8_readsAct (pc := 149) rfl) ms_58 rfl rfl (Nat.le_of_ble_eq_true rfl) (kO_recv (K_X9_oneOf eq21)) (E_X9_oneOf eq21 (by omega)) rfl ?_
        show Ev xs N (d + 1) 49 152 [.ref l0, .int l1, .int l2] [.int q21.1, .int l1, .ref v18] q21.2 nx _
        refine ev_go hc_X8_readsAct (k := 1) (pc' := 166) (L' := [.ref l0, .int l1, .int l2]) (S' := [.int q21.1, .int l1, .ref v18]) rfl ?_
        exact Ev.weak (ci_le_c (Or.inr rfl) (ci_le_c (Or.inr rfl) (ci_le_c (Or.inl rfl) (ci_le_n)))) (eb_X8_readsAct_166 hd H)
      · rw [if_neg c19] at H
        refine ev_bf hc_X8_readsAct (fe_X8_readsAct (pc := 138) rfl) rfl c19 ?_
        refine ev_go hc_X8_readsAct (k := 1) (pc' := 156) (L' := [.ref l0, .int l1, .int l2]) (S' := [.ref l0, .int l1, .ref v18]) rfl ?_
        obtain ⟨v22, ev22, H⟩ := Option.bind_eq_some_iff.mp H
        refine ev_4 hc_X8_readsAct (fe_X8_readsAct (pc := 156) rfl) (gR_gf ev22) ?_
        refine ev_go hc_X8_readsAct (k := 2) (pc' := 163) (L' := [.ref l0, .int l1, .int l2]) (S' := [.int 10, .int 48, .ref v22, .int l1, .ref v18]) rfl ?_
        obtain ⟨q23, eq23, H⟩ := Option.bind_eq_some_iff.mp H
        refine ev_call (vs := [.ref v22, .int 48, .int 10]) (rest := [.int l1, .ref v18]) (q := q_X9_oneOf) hc_X8_readsAct (Or.inr rfl) (fe_X8_readsAct (pc := 163) rfl) ms_58 rfl rfl (Nat.le_of_ble_eq_true rfl) (kO_recv (K_X9_oneOf eq23)) (E_X9_oneOf eq23 (by omega)) rfl ?_
        show Ev xs N (d + 1) 49 166 [.ref l0, .int l1, .int l2] [.int q23.1, .int l1, .ref v18] q23.2 nx _
        exact Ev.weak (ci_le_c (Or.inr rfl) (ci_le_c (Or.inr rfl) (ci_le_c (Or.inl rfl) (ci_le_n)))) (eb_X8_readsAct_166 hd H)
    · rw [if_neg c17] at H
      refine ev_bf hc_X8_readsAct (fe_X8_readsAct (pc := 125) rfl) rfl c17 ?_
      refine ev_go hc_X8_readsAct (k := 1) (pc' := 129) (L' := [.ref l0, .int l1, .int l2]) (S' := [.int 0]) rfl ?_
      obtain rfl := Option.some.inj H
      exact ev_8z hc_X8_readsAct (fe_X8_readsAct (pc := 129) rfl) rfl (Or.inl rfl)
def F_X8_readsAct (a0 : Nat) (a1 : Int32) (h : ci_H) : Option (Int32 × ci_H) := if kO h a0 = some 8 then ((gR h a0 8 0).bind fun v1 => (F_X9_peek v1 h).bind fun q2 => (gR q2.2 a0 8 1).bind fun v3 => (wI q2.2 v3 a1 q2.1).bind fun h4 => (gR h4 a0 8 3).bind fun v5 => (wI h4 v5 a1 0).bind fun h6 => if q2.1 = 98 then (b_X8_readsAct_60 a0 a1 q2.1 h6) else (if q2.1 = 103 then (b_X8_readsAct_60 a0 a1 q2.1 h6) else (if q2.1 = 108 then (b_X8_readsAct_60 a0 a1 q2.1 h6) else (if q2.1 = 99 then (b_X8_readsAct_60 a0 a1 q2.1 h6) else (if q2.1 = 112 then (b_X8_readsAct_60 a0 a1 q2.1 h6) else (if q2.1 = 104 then (b_X8_readsAct_60 a0 a1 q2.1 h6) else (some (0, h6)))))))) else none
theorem K_X8_readsAct {a0 : Nat} {a1 : Int32} {h : ci_H} {r : Int32 × ci_H} (H : F_X8_readsAct a0 a1 h = some r) : kO h a0 = some 8 := by
  unfold F_X8_readsAct at H
  by_cases c : kO h a0 = some 8
  · exact c
  · rw [if_neg c] at H; cases H
set_option maxHeartbeats 4000000 in
set_option maxRecDepth 20000 in
theorem E_X8_readsAct {xs : Nat → Int32} {N d : Nat} {nx : ci_N} {a0 : Nat} {a1 : Int32} {h : ci_H} {r : Int32 × ci_H} (H : F_X8_readsAct a0 a1 h = some r) (hd : 3 ≤ d) : Ev xs N d 49 0 (ci_entry [.ref a0, .int a1] 3) [] h nx (oI r nx) := by
  obtain ⟨d, rfl⟩ : ∃ d2, d = d2 + 1 := ⟨d - 1, by omega⟩
  have hd : 2 ≤ d := by omega
  unfold F_X8_readsAct at H
  by_cases ck : kO h a0 = some 8
  · rw [if_pos ck] at H
    show Ev xs N (d + 1) 49 0 [.ref a0, .int a1, ci_junk] [] h nx _
    refine ev_go hc_X8_readsAct (k := 1) (pc' := 1) (L' := [.ref a0, .int a1, ci_junk]) (S' := [.ref a0]) rfl ?_
    obtain ⟨v1, ev1, H⟩ := Option.bind_eq_some_iff.mp H
    refine ev_4 hc_X8_readsAct (fe_X8_readsAct (pc := 1) rfl) (gR_gf ev1) ?_
    obtain ⟨q2, eq2, H⟩ := Option.bind_eq_some_iff.mp H
    refine ev_call (vs := [.ref v1]) (rest := []) (q := q_X9_peek) hc_X8_readsAct (Or.inr rfl) (fe_X8_readsAct (pc := 4) rfl) ms_53 rfl rfl (Nat.le_of_ble_eq_true rfl) (kO_recv (K_X9_peek eq2)) (E_X9_peek eq2 (by omega)) rfl ?_
    show Ev xs N (d + 1) 49 7 [.ref a0, .int a1, ci_junk] [.int q2.1] q2.2 nx _
    refine ev_go hc_X8_readsAct (k := 2) (pc' := 9) (L' := [.ref a0, .int a1, .int q2.1]) (S' := [.ref a0]) rfl ?_
    obtain ⟨v3, ev3, H⟩ := Option.bind_eq_some_iff.mp H
    refine ev_4 hc_X8_readsAct (fe_X8_readsAct (pc := 9) rfl) (gR_gf ev3) ?_
    refine ev_go hc_X8_readsAct (k := 2) (pc' := 14) (L' := [.ref a0, .int a1, .int q2.1]) (S' := [.int q2.1, .int a1, .ref v3]) rfl ?_
    obtain ⟨h4, eh4, H⟩ := Option.bind_eq_some_iff.mp H
    refine ev_5 hc_X8_readsAct (fe_X8_readsAct (pc := 14) rfl) (wI_as eh4) ?_
    refine ev_go hc_X8_readsAct (k := 1) (pc' := 16) (L' := [.ref a0, .int a1, .int q2.1]) (S' := [.ref a0]) rfl ?_
    obtain ⟨v5, ev5, H⟩ := Option.bind_eq_some_iff.mp H
    refine ev_4 hc_X8_readsAct (fe_X8_readsAct (pc := 16) rfl) (gR_gf ev5) ?_
    refine ev_go hc_X8_readsAct (k := 2) (pc' := 21) (L' := [.ref a0, .int a1, .int q2.1]) (S' := [.int 0, .int a1, .ref v5]) rfl ?_
    obtain ⟨h6, eh6, H⟩ := Option.bind_eq_some_iff.mp H
    refine ev_5 hc_X8_readsAct (fe_X8_readsAct (pc := 21) rfl) (wI_as eh6) ?_
    refine ev_go hc_X8_readsAct (k := 2) (pc' := 25) (L' := [.ref a0, .int a1, .int q2.1]) (S' := [.int 98, .int q2.1]) rfl ?_
    by_cases c7 : q2.1 = 98
    · rw [if_pos c7] at H
      refine ev_bt hc_X8_readsAct (fe_X8_readsAct (pc := 25) rfl) rfl c7 ?_
      exact Ev.weak (ci_le_c (Or.inr rfl) (ci_le_c (Or.inr rfl) (ci_le_c (Or.inr rfl) (ci_le_n)))) (eb_X8_readsAct_60 hd H)
    · rw [if_neg c7] at H
      refine ev_bf hc_X8_readsAct (fe_X8_readsAct (pc := 25) rfl) rfl c7 ?_
      refine ev_go hc_X8_readsAct (k := 2) (pc' := 31) (L' := [.ref a0, .int a1, .int q2.1]) (S' := [.int 103, .int q2.1]) rfl ?_
      by_cases c8 : q2.1 = 103
      · rw [if_pos c8] at H
        refine ev_bt hc_X8_readsAct (fe_X8_readsAct (pc := 31) rfl) rfl c8 ?_
        exact Ev.weak (ci_le_c (Or.inr rfl) (ci_le_c (Or.inr rfl) (ci_le_c (Or.inr rfl) (ci_le_n)))) (eb_X8_readsAct_60 hd H)
      · rw [if_neg c8] at H
        refine ev_bf hc_X8_readsAct (fe_X8_readsAct (pc := 31) rfl) rfl c8 ?_
        refine ev_go hc_X8_readsAct (k := 2) (pc' := 37) (L' := [.ref a0, .int a1, .int q2.1]) (S' := [.int 108, .int q2.1]) rfl ?_
        by_cases c9 : q2.1 = 108
        · rw [if_pos c9] at H
          refine ev_bt hc_X8_readsAct (fe_X8_readsAct (pc := 37) rfl) rfl c9 ?_
          exact Ev.weak (ci_le_c (Or.inr rfl) (ci_le_c (Or.inr rfl) (ci_le_c (Or.inr rfl) (ci_le_n)))) (eb_X8_readsAct_60 hd H)
        · rw [if_neg c9] at H
          refine ev_bf hc_X8_readsAct (fe_X8_readsAct (pc := 37) rfl) rfl c9 ?_
          refine ev_go hc_X8_readsAct (k := 2) (pc' := 43) (L' := [.ref a0, .int a1, .int q2.1]) (S' := [.int 99, .int q2.1]) rfl ?_
          by_cases c10 : q2.1 = 99
          · rw [if_pos c10] at H
            refine ev_bt hc_X8_readsAct (fe_X8_readsAct (pc := 43) rfl) rfl c10 ?_
            exact Ev.weak (ci_le_c (Or.inr rfl) (ci_le_c (Or.inr rfl) (ci_le_c (Or.inr rfl) (ci_le_n)))) (eb_X8_readsAct_60 hd H)
          · rw [if_neg c10] at H
            refine ev_bf hc_X8_readsAct (fe_X8_readsAct (pc := 43) rfl) rfl c10 ?_
            refine ev_go hc_X8_readsAct (k := 2) (pc' := 49) (L' := [.ref a0, .int a1, .int q2.1]) (S' := [.int 112, .int q2.1]) rfl ?_
            by_cases c11 : q2.1 = 112
            · rw [if_pos c11] at H
              refine ev_bt hc_X8_readsAct (fe_X8_readsAct (pc := 49) rfl) rfl c11 ?_
              exact Ev.weak (ci_le_c (Or.inr rfl) (ci_le_c (Or.inr rfl) (ci_le_c (Or.inr rfl) (ci_le_n)))) (eb_X8_readsAct_60 hd H)
            · rw [if_neg c11] at H
              refine ev_bf hc_X8_readsAct (fe_X8_readsAct (pc := 49) rfl) rfl c11 ?_
              refine ev_go hc_X8_readsAct (k := 2) (pc' := 55) (L' := [.ref a0, .int a1, .int q2.1]) (S' := [.int 104, .int q2.1]) rfl ?_
              by_cases c12 : q2.1 = 104
              · rw [if_pos c12] at H
                refine ev_bt hc_X8_readsAct (fe_X8_readsAct (pc := 55) rfl) rfl c12 ?_
                exact Ev.weak (ci_le_c (Or.inr rfl) (ci_le_c (Or.inr rfl) (ci_le_c (Or.inr rfl) (ci_le_n)))) (eb_X8_readsAct_60 hd H)
              · rw [if_neg c12] at H
                refine ev_bf hc_X8_readsAct (fe_X8_readsAct (pc := 55) rfl) rfl c12 ?_
                refine ev_go hc_X8_readsAct (k := 1) (pc' := 59) (L' := [.ref a0, .int a1, .int q2.1]) (S' := [.int 0]) rfl ?_
                obtain rfl := Option.some.inj H
                exact ev_8z hc_X8_readsAct (fe_X8_readsAct (pc := 59) rfl) rfl (Or.inl rfl)
  · rw [if_neg ck] at H; cases H
theorem hc_X8_readDay : ci_code (ci_Ms 46) = k_X8_readDay := rfl
theorem fe_X8_readDay {pc : Nat} {w : Option ci_I} (h : (k_X8_readDay)[pc]? = some w) : (k_X8_readDay)[pc]? = some w := h
def b_X8_readDay_70 (l0 : Nat)  (h : ci_H) : Option (Int32 × ci_H) := (gR h l0 8 0).bind fun v1 => (F_X9_fault v1 h).bind fun q2 => some (q2.1, q2.2)
set_option maxHeartbeats 4000000 in
set_option maxRecDepth 20000 in
theorem eb_X8_readDay_70 {xs : Nat → Int32} {N d : Nat} {nx : ci_N} {l0 : Nat} (hd : 3 ≤ d) {h : ci_H} {r : Int32 × ci_H} (H : b_X8_readDay_70 l0 h = some r) : Ev xs N (d + 1) 46 70 [.ref l0, ci_junk] [] h nx (oI r nx) := by
  unfold b_X8_readDay_70 at H
  refine ev_go hc_X8_readDay (k := 1) (pc' := 71) (L' := [.ref l0, ci_junk]) (S' := [.ref l0]) rfl ?_
  obtain ⟨v1, ev1, H⟩ := Option.bind_eq_some_iff.mp H
  refine ev_4 hc_X8_readDay (fe_X8_readDay (pc := 71) rfl) (gR_gf ev1) ?_
  obtain ⟨q2, eq2, H⟩ := Option.bind_eq_some_iff.mp H
  refine ev_call (vs := [.ref v1]) (rest := []) (q := q_X9_fault) hc_X8_readDay (Or.inr rfl) (fe_X8_readDay (pc := 74) rfl) ms_56 rfl rfl (Nat.le_of_ble_eq_true rfl) (kO_recv (K_X9_fault eq2)) (E_X9_fault eq2 (by omega)) rfl ?_
  show Ev xs N (d + 1) 46 77 [.ref l0, ci_junk] [.int q2.1] q2.2 nx _
  obtain rfl := Option.some.inj H
  exact ev_8 hc_X8_readDay (fe_X8_readDay (pc := 77) rfl) rfl
def b_X8_readDay_11 (l0 : Nat) : Nat → Int32 → ci_H → Option (Int32 × ci_H)
  | 0, _, _ => none
  | n + 1, l1, h => if 20 ≤ l1 then (b_X8_readDay_70 l0 h) else ((F_X8_readsAct l0 l1 h).bind fun q2 => if q2.1 = 0 then (b_X8_readDay_70 l0 q2.2) else ((gR q2.2 l0 8 0).bind fun v4 => (F_X9_takes v4 59 q2.2).bind fun q5 => if q5.1 = 0 then ((gR q5.2 l0 8 0).bind fun v7 => (F_X9_ended v7 q5.2).bind fun q8 => if q8.1 = 0 then ((gR q8.2 l0 8 0).bind fun v10 => (F_X9_fault v10 q8.2).bind fun q11 => some (q11.1, q11.2)) else (some (l1 + 1, q8.2))) else (b_X8_readDay_11 l0 n (l1 + 1) q5.2)))
set_option maxHeartbeats 4000000 in
set_option maxRecDepth 20000 in
theorem eb_X8_readDay_11 {xs : Nat → Int32} {N d : Nat} {nx : ci_N} {l0 : Nat} (hd : 3 ≤ d) : ∀ (n : Nat) (l1 : Int32) (h : ci_H) (r : Int32 × ci_H), b_X8_readDay_11 l0 n l1 h = some r → Ev xs N (d + 1) 46 11 [.ref l0, .int l1] [] h nx (oI r nx) := by
  intro n
  induction n with
  | zero => intro l1 h r H; unfold b_X8_readDay_11 at H; cases H
  | succ n ih =>
    intro l1 h r H
    unfold b_X8_readDay_11 at H
    refine ev_go hc_X8_readDay (k := 2) (pc' := 14) (L' := [.ref l0, .int l1]) (S' := [.int 20, .int l1]) rfl ?_
    by_cases c1 : 20 ≤ l1
    · rw [if_pos c1] at H
      refine ev_bt hc_X8_readDay (fe_X8_readDay (pc := 14) rfl) rfl c1 ?_
      exact Ev.weak (ci_le_c (Or.inr rfl) (ci_le_c (Or.inl rfl) (ci_le_n))) (eb_X8_readDay_70 hd H)
    · rw [if_neg c1] at H
      refine ev_bf hc_X8_readDay (fe_X8_readDay (pc := 14) rfl) rfl c1 ?_
      refine ev_go hc_X8_readDay (k := 2) (pc' := 19) (L' := [.ref l0, .int l1]) (S' := [.int l1, .ref l0]) rfl ?_
      obtain ⟨q2, eq2, H⟩ := Option.bind_eq_some_iff.mp H
      refine ev_call (vs := [.ref l0, .int l1]) (rest := []) (q := q_X8_readsAct) hc_X8_readDay (Or.inr rfl) (fe_X8_readDay (pc := 19) rfl) ms_49 rfl rfl (Nat.le_of_ble_eq_true rfl) (kO_recv (K_X8_readsAct eq2)) (E_X8_readsAct eq2 (by omega)) rfl ?_
      show Ev xs N (d + 1) 46 22 [.ref l0, .int l1] [.int q2.1] q2.2 nx _
      by_cases c3 : q2.1 = 0
      · rw [if_pos c3] at H
        refine ev_bt hc_X8_readDay (fe_X8_readDay (pc := 22) rfl) rfl c3 ?_
        refine ev_go hc_X8_readDay (k := 1) (pc' := 70) (L' := [.ref l0, .int l1]) (S' := []) rfl ?_
        exact Ev.weak (ci_le_c (Or.inr rfl) (ci_le_c (Or.inl rfl) (ci_le_n))) (eb_X8_readDay_70 hd H)
      · rw [if_neg c3] at H
        refine ev_bf hc_X8_readDay (fe_X8_readDay (pc := 22) rfl) rfl c3 ?_
        refine ev_go hc_X8_readDay (k := 1) (pc' := 29) (L' := [.ref l0, .int l1]) (S' := [.ref l0]) rfl ?_
        obtain ⟨v4, ev4, H⟩ := Option.bind_eq_some_iff.mp H
        refine ev_4 hc_X8_readDay (fe_X8_readDay (pc := 29) rfl) (gR_gf ev4) ?_
        refine ev_go hc_X8_readDay (k := 1) (pc' := 34) (L' := [.ref l0, .int l1]) (S' := [.int 59, .ref v4]) rfl ?_
        obtain ⟨q5, eq5, H⟩ := Option.bind_eq_some_iff.mp H
        refine ev_call (vs := [.ref v4, .int 59]) (rest := []) (q := q_X9_takes) hc_X8_readDay (Or.inr rfl) (fe_X8_readDay (pc := 34) rfl) ms_57 rfl rfl (Nat.le_of_ble_eq_true rfl) (kO_recv (K_X9_takes eq5)) (E_X9_takes eq5 (by omega)) rfl ?_
        show Ev xs N (d + 1) 46 37 [.ref l0, .int l1] [.int q5.1] q5.2 nx _
        by_cases c6 : q5.1 = 0
        · rw [if_pos c6] at H
          refine ev_bt hc_X8_readDay (fe_X8_readDay (pc := 37) rfl) rfl c6 ?_
          refine ev_go hc_X8_readDay (k := 1) (pc' := 41) (L' := [.ref l0, .int l1]) (S' := [.ref l0]) rfl ?_
          obtain ⟨v7, ev7, H⟩ := Option.bind_eq_some_iff.mp H
          refine ev_4 hc_X8_readDay (fe_X8_readDay (pc := 41) rfl) (gR_gf ev7) ?_
          obtain ⟨q8, eq8, H⟩ := Option.bind_eq_some_iff.mp H
          refine ev_call (vs := [.ref v7]) (rest := []) (q := q_X9_ended) hc_X8_readDay (Or.inr rfl) (fe_X8_readDay (pc := 44) rfl) ms_55 rfl rfl (Nat.le_of_ble_eq_true rfl) (kO_recv (K_X9_ended eq8)) (E_X9_ended eq8 (by omega)) rfl ?_
          show Ev xs N (d + 1) 46 47 [.ref l0, .int l1] [.int q8.1] q8.2 nx _
          by_cases c9 : q8.1 = 0
          · rw [if_pos c9] at H
            refine ev_bt hc_X8_readDay (fe_X8_readDay (pc := 47) rfl) rfl c9 ?_
            refine ev_go hc_X8_readDay (k := 1) (pc' := 57) (L' := [.ref l0, .int l1]) (S' := [.ref l0]) rfl ?_
            obtain ⟨v10, ev10, H⟩ := Option.bind_eq_some_iff.mp H
            refine ev_4 hc_X8_readDay (fe_X8_readDay (pc := 57) rfl) (gR_gf ev10) ?_
            obtain ⟨q11, eq11, H⟩ := Option.bind_eq_some_iff.mp H
            refine ev_call (vs := [.ref v10]) (rest := []) (q := q_X9_fault) hc_X8_readDay (Or.inr rfl) (fe_X8_readDay (pc := 60) rfl) ms_56 rfl rfl (Nat.le_of_ble_eq_true rfl) (kO_recv (K_X9_fault eq11)) (E_X9_fault eq11 (by omega)) rfl ?_
            show Ev xs N (d + 1) 46 63 [.ref l0, .int l1] [.int q11.1] q11.2 nx _
            obtain rfl := Option.some.inj H
            exact ev_8 hc_X8_readDay (fe_X8_readDay (pc := 63) rfl) rfl
          · rw [if_neg c9] at H
            refine ev_bf hc_X8_readDay (fe_X8_readDay (pc := 47) rfl) rfl c9 ?_
            refine ev_go hc_X8_readDay (k := 4) (pc' := 63) (L' := [.ref l0, .int l1]) (S' := [.int (l1 + 1)]) rfl ?_
            obtain rfl := Option.some.inj H
            exact ev_8 hc_X8_readDay (fe_X8_readDay (pc := 63) rfl) rfl
        · rw [if_neg c6] at H
          refine ev_bf hc_X8_readDay (fe_X8_readDay (pc := 37) rfl) rfl c6 ?_
          refine ev_go hc_X8_readDay (k := 2) (pc' := 11) (L' := [.ref l0, .int (l1 + 1)]) (S' := []) rfl ?_
          exact Ev.weak (ci_le_c (Or.inr rfl) (ci_le_c (Or.inr rfl) (ci_le_n))) (ih _ _ _ H)
def F_X8_readDay (a0 : Nat) (h : ci_H) : Option (Int32 × ci_H) := if kO h a0 = some 8 then ((gR h a0 8 0).bind fun v1 => (F_X9_open v1 60 h).bind fun h2 => b_X8_readDay_11 a0 bigN 0 h2) else none
theorem K_X8_readDay {a0 : Nat} {h : ci_H} {r : Int32 × ci_H} (H : F_X8_readDay a0 h = some r) : kO h a0 = some 8 := by
  unfold F_X8_readDay at H
  by_cases c : kO h a0 = some 8
  · exact c
  · rw [if_neg c] at H; cases H
set_option maxHeartbeats 4000000 in
set_option maxRecDepth 20000 in
theorem E_X8_readDay {xs : Nat → Int32} {N d : Nat} {nx : ci_N} {a0 : Nat} {h : ci_H} {r : Int32 × ci_H} (H : F_X8_readDay a0 h = some r) (hd : 4 ≤ d) : Ev xs N d 46 0 (ci_entry [.ref a0] 2) [] h nx (oI r nx) := by
  obtain ⟨d, rfl⟩ : ∃ d2, d = d2 + 1 := ⟨d - 1, by omega⟩
  have hd : 3 ≤ d := by omega
  unfold F_X8_readDay at H
  by_cases ck : kO h a0 = some 8
  · rw [if_pos ck] at H
    show Ev xs N (d + 1) 46 0 [.ref a0, ci_junk] [] h nx _
    refine ev_go hc_X8_readDay (k := 1) (pc' := 1) (L' := [.ref a0, ci_junk]) (S' := [.ref a0]) rfl ?_
    obtain ⟨v1, ev1, H⟩ := Option.bind_eq_some_iff.mp H
    refine ev_4 hc_X8_readDay (fe_X8_readDay (pc := 1) rfl) (gR_gf ev1) ?_
    refine ev_go hc_X8_readDay (k := 1) (pc' := 6) (L' := [.ref a0, ci_junk]) (S' := [.int 60, .ref v1]) rfl ?_
    obtain ⟨h2, eh2, H⟩ := Option.bind_eq_some_iff.mp H
    refine ev_call (vs := [.ref v1, .int 60]) (rest := []) (q := q_X9_open) hc_X8_readDay (Or.inr rfl) (fe_X8_readDay (pc := 6) rfl) ms_52 rfl rfl (Nat.le_of_ble_eq_true rfl) (kO_recv (K_X9_open eh2)) (E_X9_open eh2 (by omega)) rfl ?_
    show Ev xs N (d + 1) 46 9 [.ref a0, ci_junk] [] h2 nx _
    refine ev_go hc_X8_readDay (k := 2) (pc' := 11) (L' := [.ref a0, .int 0]) (S' := []) rfl ?_
    exact Ev.weak (ci_le_c (Or.inr rfl) (ci_le_c (Or.inr rfl) (ci_le_n))) (eb_X8_readDay_11 hd bigN _ _ _ H)
  · rw [if_neg ck] at H; cases H
theorem hc_X9_append : ci_code (ci_Ms 51) = k_X9_append := rfl
theorem fe_X9_append {pc : Nat} {w : Option ci_I} (h : (k_X9_append)[pc]? = some w) : (k_X9_append)[pc]? = some w := h
def F_X9_append (a0 : Nat) (a1 : Int32) (h : ci_H) : Option (ci_H) := if kO h a0 = some 9 then ((gI h a0 9 1).bind fun v1 => if 80 ≤ v1 then (some h) else ((gR h a0 9 0).bind fun v3 => (gI h a0 9 1).bind fun v4 => (wI h v3 v4 a1).bind fun h5 => (gI h5 a0 9 1).bind fun v6 => (pF h5 a0 9 1 (.int (v6 + 1))).bind fun h7 => some h7)) else none
theorem K_X9_append {a0 : Nat} {a1 : Int32} {h : ci_H} {r : ci_H} (H : F_X9_append a0 a1 h = some r) : kO h a0 = some 9 := by
  unfold F_X9_append at H
  by_cases c : kO h a0 = some 9
  · exact c
  · rw [if_neg c] at H; cases H
set_option maxHeartbeats 4000000 in
set_option maxRecDepth 20000 in
theorem E_X9_append {xs : Nat → Int32} {N d : Nat} {nx : ci_N} {a0 : Nat} {a1 : Int32} {h : ci_H} {r : ci_H} (H : F_X9_append a0 a1 h = some r) (hd : 0 ≤ d) : Ev xs N d 51 0 (ci_entry [.ref a0, .int a1] 2) [] h nx (oV r nx) := by
  unfold F_X9_append at H
  by_cases ck : kO h a0 = some 9
  · rw [if_pos ck] at H
    show Ev xs N d 51 0 [.ref a0, .int a1] [] h nx _
    refine ev_go hc_X9_append (k := 1) (pc' := 1) (L' := [.ref a0, .int a1]) (S' := [.ref a0]) rfl ?_
    obtain ⟨v1, ev1, H⟩ := Option.bind_eq_some_iff.mp H
    refine ev_4 hc_X9_append (fe_X9_append (pc := 1) rfl) (gI_gf ev1) ?_
    refine ev_go hc_X9_append (k := 1) (pc' := 6) (L' := [.ref a0, .int a1]) (S' := [.int 80, .int v1]) rfl ?_
    by_cases c2 : 80 ≤ v1
    · rw [if_pos c2] at H
      refine ev_bt hc_X9_append (fe_X9_append (pc := 6) rfl) rfl c2 ?_
      obtain rfl := Option.some.inj H
      exact ev_8 hc_X9_append (fe_X9_append (pc := 29) rfl) rfl
    · rw [if_neg c2] at H
      refine ev_bf hc_X9_append (fe_X9_append (pc := 6) rfl) rfl c2 ?_
      refine ev_go hc_X9_append (k := 1) (pc' := 10) (L' := [.ref a0, .int a1]) (S' := [.ref a0]) rfl ?_
      obtain ⟨v3, ev3, H⟩ := Option.bind_eq_some_iff.mp H
      refine ev_4 hc_X9_append (fe_X9_append (pc := 10) rfl) (gR_gf ev3) ?_
      refine ev_go hc_X9_append (k := 1) (pc' := 14) (L' := [.ref a0, .int a1]) (S' := [.ref a0, .ref v3]) rfl ?_
      obtain ⟨v4, ev4, H⟩ := Option.bind_eq_some_iff.mp H
      refine ev_4 hc_X9_append (fe_X9_append (pc := 14) rfl) (gI_gf ev4) ?_
      refine ev_go hc_X9_append (k := 1) (pc' := 18) (L' := [.ref a0, .int a1]) (S' := [.int a1, .int v4, .ref v3]) rfl ?_
      obtain ⟨h5, eh5, H⟩ := Option.bind_eq_some_iff.mp H
      refine ev_5 hc_X9_append (fe_X9_append (pc := 18) rfl) (wI_as eh5) ?_
      refine ev_go hc_X9_append (k := 2) (pc' := 21) (L' := [.ref a0, .int a1]) (S' := [.ref a0, .ref a0]) rfl ?_
      obtain ⟨v6, ev6, H⟩ := Option.bind_eq_some_iff.mp H
      refine ev_4 hc_X9_append (fe_X9_append (pc := 21) rfl) (gI_gf ev6) ?_
      refine ev_go hc_X9_append (k := 2) (pc' := 26) (L' := [.ref a0, .int a1]) (S' := [.int (v6 + 1), .ref a0]) rfl ?_
      obtain ⟨h7, eh7, H⟩ := Option.bind_eq_some_iff.mp H
      refine ev_5 hc_X9_append (fe_X9_append (pc := 26) rfl) (pF_pf eh7) ?_
      obtain rfl := Option.some.inj H
      exact ev_8 hc_X9_append (fe_X9_append (pc := 29) rfl) rfl
  · rw [if_neg ck] at H; cases H
theorem hc_X10_hasHouse : ci_code (ci_Ms 62) = k_X10_hasHouse := rfl
theorem fe_X10_hasHouse {pc : Nat} {w : Option ci_I} (h : (k_X10_hasHouse)[pc]? = some w) : (k_X10_hasHouse)[pc]? = some w := h
def F_X10_hasHouse (a0 : Nat) (a1 : Int32) (h : ci_H) : Option (Int32 × ci_H) := if kO h a0 = some 10 then (if a1 < 0 then (some (0, h)) else ((gI h a0 10 5).bind fun v2 => if v2 ≤ a1 then (some (0, h)) else (some (1, h)))) else none
theorem K_X10_hasHouse {a0 : Nat} {a1 : Int32} {h : ci_H} {r : Int32 × ci_H} (H : F_X10_hasHouse a0 a1 h = some r) : kO h a0 = some 10 := by
  unfold F_X10_hasHouse at H
  by_cases c : kO h a0 = some 10
  · exact c
  · rw [if_neg c] at H; cases H
set_option maxHeartbeats 4000000 in
set_option maxRecDepth 20000 in
theorem E_X10_hasHouse {xs : Nat → Int32} {N d : Nat} {nx : ci_N} {a0 : Nat} {a1 : Int32} {h : ci_H} {r : Int32 × ci_H} (H : F_X10_hasHouse a0 a1 h = some r) (hd : 0 ≤ d) : Ev xs N d 62 0 (ci_entry [.ref a0, .int a1] 2) [] h nx (oI r nx) := by
  unfold F_X10_hasHouse at H
  by_cases ck : kO h a0 = some 10
  · rw [if_pos ck] at H
    show Ev xs N d 62 0 [.ref a0, .int a1] [] h nx _
    refine ev_go hc_X10_hasHouse (k := 1) (pc' := 1) (L' := [.ref a0, .int a1]) (S' := [.int a1]) rfl ?_
    by_cases c1 : a1 < 0
    · rw [if_pos c1] at H
      refine ev_bt hc_X10_hasHouse (fe_X10_hasHouse (pc := 1) rfl) rfl c1 ?_
      refine ev_go hc_X10_hasHouse (k := 1) (pc' := 17) (L' := [.ref a0, .int a1]) (S' := [.int 0]) rfl ?_
      obtain rfl := Option.some.inj H
      exact ev_8z hc_X10_hasHouse (fe_X10_hasHouse (pc := 17) rfl) rfl (Or.inl rfl)
    · rw [if_neg c1] at H
      refine ev_bf hc_X10_hasHouse (fe_X10_hasHouse (pc := 1) rfl) rfl c1 ?_
      refine ev_go hc_X10_hasHouse (k := 2) (pc' := 6) (L' := [.ref a0, .int a1]) (S' := [.ref a0, .int a1]) rfl ?_
      obtain ⟨v2, ev2, H⟩ := Option.bind_eq_some_iff.mp H
      refine ev_4 hc_X10_hasHouse (fe_X10_hasHouse (pc := 6) rfl) (gI_gf ev2) ?_
      by_cases c3 : v2 ≤ a1
      · rw [if_pos c3] at H
        refine ev_bt hc_X10_hasHouse (fe_X10_hasHouse (pc := 9) rfl) rfl c3 ?_
        refine ev_go hc_X10_hasHouse (k := 1) (pc' := 17) (L' := [.ref a0, .int a1]) (S' := [.int 0]) rfl ?_
        obtain rfl := Option.some.inj H
        exact ev_8z hc_X10_hasHouse (fe_X10_hasHouse (pc := 17) rfl) rfl (Or.inl rfl)
      · rw [if_neg c3] at H
        refine ev_bf hc_X10_hasHouse (fe_X10_hasHouse (pc := 9) rfl) rfl c3 ?_
        refine ev_go hc_X10_hasHouse (k := 2) (pc' := 17) (L' := [.ref a0, .int a1]) (S' := [.int 1]) rfl ?_
        obtain rfl := Option.some.inj H
        exact ev_8z hc_X10_hasHouse (fe_X10_hasHouse (pc := 17) rfl) rfl (Or.inr rfl)
  · rw [if_neg ck] at H; cases H
theorem hc_X10_hasThing : ci_code (ci_Ms 63) = k_X10_hasThing := rfl
theorem fe_X10_hasThing {pc : Nat} {w : Option ci_I} (h : (k_X10_hasThing)[pc]? = some w) : (k_X10_hasThing)[pc]? = some w := h
def F_X10_hasThing (a0 : Nat) (a1 : Int32) (h : ci_H) : Option (Int32 × ci_H) := if kO h a0 = some 10 then (if a1 < 0 then (some (0, h)) else ((gI h a0 10 6).bind fun v2 => if v2 ≤ a1 then (some (0, h)) else (some (1, h)))) else none
theorem K_X10_hasThing {a0 : Nat} {a1 : Int32} {h : ci_H} {r : Int32 × ci_H} (H : F_X10_hasThing a0 a1 h = some r) : kO h a0 = some 10 := by
  unfold F_X10_hasThing at H
  by_cases c : kO h a0 = some 10
  · exact c
  · rw [if_neg c] at H; cases H
set_option maxHeartbeats 4000000 in
set_option maxRecDepth 20000 in
theorem E_X10_hasThing {xs : Nat → Int32} {N d : Nat} {nx : ci_N} {a0 : Nat} {a1 : Int32} {h : ci_H} {r : Int32 × ci_H} (H : F_X10_hasThing a0 a1 h = some r) (hd : 0 ≤ d) : Ev xs N d 63 0 (ci_entry [.ref a0, .int a1] 2) [] h nx (oI r nx) := by
  unfold F_X10_hasThing at H
  by_cases ck : kO h a0 = some 10
  · rw [if_pos ck] at H
    show Ev xs N d 63 0 [.ref a0, .int a1] [] h nx _
    refine ev_go hc_X10_hasThing (k := 1) (pc' := 1) (L' := [.ref a0, .int a1]) (S' := [.int a1]) rfl ?_
    by_cases c1 : a1 < 0
    · rw [if_pos c1] at H
      refine ev_bt hc_X10_hasThing (fe_X10_hasThing (pc := 1) rfl) rfl c1 ?_
      refine ev_go hc_X10_hasThing (k := 1) (pc' := 17) (L' := [.ref a0, .int a1]) (S' := [.int 0]) rfl ?_
      obtain rfl := Option.some.inj H
      exact ev_8z hc_X10_hasThing (fe_X10_hasThing (pc := 17) rfl) rfl (Or.inl rfl)
    · rw [if_neg c1] at H
      refine ev_bf hc_X10_hasThing (fe_X10_hasThing (pc := 1) rfl) rfl c1 ?_
      refine ev_go hc_X10_hasThing (k := 2) (pc' := 6) (L' := [.ref a0, .int a1]) (S' := [.ref a0, .int a1]) rfl ?_
      obtain ⟨v2, ev2, H⟩ := Option.bind_eq_some_iff.mp H
      refine ev_4 hc_X10_hasThing (fe_X10_hasThing (pc := 6) rfl) (gI_gf ev2) ?_
      by_cases c3 : v2 ≤ a1
      · rw [if_pos c3] at H
        refine ev_bt hc_X10_hasThing (fe_X10_hasThing (pc := 9) rfl) rfl c3 ?_
        refine ev_go hc_X10_hasThing (k := 1) (pc' := 17) (L' := [.ref a0, .int a1]) (S' := [.int 0]) rfl ?_
        obtain rfl := Option.some.inj H
        exact ev_8z hc_X10_hasThing (fe_X10_hasThing (pc := 17) rfl) rfl (Or.inl rfl)
      · rw [if_neg c3] at H
        refine ev_bf hc_X10_hasThing (fe_X10_hasThing (pc := 9) rfl) rfl c3 ?_
        refine ev_go hc_X10_hasThing (k := 2) (pc' := 17) (L' := [.ref a0, .int a1]) (S' := [.int 1]) rfl ?_
        obtain rfl := Option.some.inj H
        exact ev_8z hc_X10_hasThing (fe_X10_hasThing (pc := 17) rfl) rfl (Or.inr rfl)
  · rw [if_neg ck] at H; cases H
theorem hc_X10_hasKind : ci_code (ci_Ms 64) = k_X10_hasKind := rfl
theorem fe_X10_hasKind {pc : Nat} {w : Option ci_I} (h : (k_X10_hasKind)[pc]? = some w) : (k_X10_hasKind)[pc]? = some w := h
def F_X10_hasKind (a0 : Nat) (a1 : Int32) (h : ci_H) : Option (Int32 × ci_H) := if kO h a0 = some 10 then (if a1 < 0 then (some (0, h)) else ((gI h a0 10 7).bind fun v2 => if v2 ≤ a1 then (some (0, h)) else (some (1, h)))) else none
theorem K_X10_hasKind {a0 : Nat} {a1 : Int32} {h : ci_H} {r : Int32 × ci_H} (H : F_X10_hasKind a0 a1 h = some r) : kO h a0 = some 10 := by
  unfold F_X10_hasKind at H
  by_cases c : kO h a0 = some 10
  · exact c
  · rw [if_neg c] at H; cases H
set_option maxHeartbeats 4000000 in
set_option maxRecDepth 20000 in
theorem E_X10_hasKind {xs : Nat → Int32} {N d : Nat} {nx : ci_N} {a0 : Nat} {a1 : Int32} {h : ci_H} {r : Int32 × ci_H} (H : F_X10_hasKind a0 a1 h = some r) (hd : 0 ≤ d) : Ev xs N d 64 0 (ci_entry [.ref a0, .int a1] 2) [] h nx (oI r nx) := by
  unfold F_X10_hasKind at H
  by_cases ck : kO h a0 = some 10
  · rw [if_pos ck] at H
    show Ev xs N d 64 0 [.ref a0, .int a1] [] h nx _
    refine ev_go hc_X10_hasKind (k := 1) (pc' := 1) (L' := [.ref a0, .int a1]) (S' := [.int a1]) rfl ?_
    by_cases c1 : a1 < 0
    · rw [if_pos c1] at H
      refine ev_bt hc_X10_hasKind (fe_X10_hasKind (pc := 1) rfl) rfl c1 ?_
      refine ev_go hc_X10_hasKind (k := 1) (pc' := 17) (L' := [.ref a0, .int a1]) (S' := [.int 0]) rfl ?_
      obtain rfl := Option.some.inj H
      exact ev_8z hc_X10_hasKind (fe_X10_hasKind (pc := 17) rfl) rfl (Or.inl rfl)
    · rw [if_neg c1] at H
      refine ev_bf hc_X10_hasKind (fe_X10_hasKind (pc := 1) rfl) rfl c1 ?_
      refine ev_go hc_X10_hasKind (k := 2) (pc' := 6) (L' := [.ref a0, .int a1]) (S' := [.ref a0, .int a1]) rfl ?_
      obtain ⟨v2, ev2, H⟩ := Option.bind_eq_some_iff.mp H
      refine ev_4 hc_X10_hasKind (fe_X10_hasKind (pc := 6) rfl) (gI_gf ev2) ?_
      by_cases c3 : v2 ≤ a1
      · rw [if_pos c3] at H
        refine ev_bt hc_X10_hasKind (fe_X10_hasKind (pc := 9) rfl) rfl c3 ?_
        refine ev_go hc_X10_hasKind (k := 1) (pc' := 17) (L' := [.ref a0, .int a1]) (S' := [.int 0]) rfl ?_
        obtain rfl := Option.some.inj H
        exact ev_8z hc_X10_hasKind (fe_X10_hasKind (pc := 17) rfl) rfl (Or.inl rfl)
      · rw [if_neg c3] at H
        refine ev_bf hc_X10_hasKind (fe_X10_hasKind (pc := 9) rfl) rfl c3 ?_
        refine ev_go hc_X10_hasKind (k := 2) (pc' := 17) (L' := [.ref a0, .int a1]) (S' := [.int 1]) rfl ?_
        obtain rfl := Option.some.inj H
        exact ev_8z hc_X10_hasKind (fe_X10_hasKind (pc := 17) rfl) rfl (Or.inr rfl)
  · rw [if_neg ck] at H; cases H
theorem hc_X10_hasThings : ci_code (ci_Ms 65) = k_X10_hasThings := rfl
theorem fe_X10_hasThings {pc : Nat} {w : Option ci_I} (h : (k_X10_hasThings)[pc]? = some w) : (k_X10_hasThings)[pc]? = some w := h
def F_X10_hasThings (a0 : Nat) (a1 : Int32) (h : ci_H) : Option (Int32 × ci_H) := if kO h a0 = some 10 then (if a1 < 0 then (some (0, h)) else ((gI h a0 10 6).bind fun v2 => if ((1 : Int32) <<< (v2 &&& 31)) ≤ a1 then (some (0, h)) else (some (1, h)))) else none
theorem K_X10_hasThings {a0 : Nat} {a1 : Int32} {h : ci_H} {r : Int32 × ci_H} (H : F_X10_hasThings a0 a1 h = some r) : kO h a0 = some 10 := by
  unfold F_X10_hasThings at H
  by_cases c : kO h a0 = some 10
  · exact c
  · rw [if_neg c] at H; cases H
set_option maxHeartbeats 4000000 in
set_option maxRecDepth 20000 in
theorem E_X10_hasThings {xs : Nat → Int32} {N d : Nat} {nx : ci_N} {a0 : Nat} {a1 : Int32} {h : ci_H} {r : Int32 × ci_H} (H : F_X10_hasThings a0 a1 h = some r) (hd : 0 ≤ d) : Ev xs N d 65 0 (ci_entry [.ref a0, .int a1] 2) [] h nx (oI r nx) := by
  unfold F_X10_hasThings at H
  by_cases ck : kO h a0 = some 10
  · rw [if_pos ck] at H
    show Ev xs N d 65 0 [.ref a0, .int a1] [] h nx _
    refine ev_go hc_X10_hasThings (k := 1) (pc' := 1) (L' := [.ref a0, .int a1]) (S' := [.int a1]) rfl ?_
    by_cases c1 : a1 < 0
    · rw [if_pos c1] at H
      refine ev_bt hc_X10_hasThings (fe_X10_hasThings (pc := 1) rfl) rfl c1 ?_
      refine ev_go hc_X10_hasThings (k := 1) (pc' := 19) (L' := [.ref a0, .int a1]) (S' := [.int 0]) rfl ?_
      obtain rfl := Option.some.inj H
      exact ev_8z hc_X10_hasThings (fe_X10_hasThings (pc := 19) rfl) rfl (Or.inl rfl)
    · rw [if_neg c1] at H
      refine ev_bf hc_X10_hasThings (fe_X10_hasThings (pc := 1) rfl) rfl c1 ?_
      refine ev_go hc_X10_hasThings (k := 3) (pc' := 7) (L' := [.ref a0, .int a1]) (S' := [.ref a0, .int 1, .int a1]) rfl ?_
      obtain ⟨v2, ev2, H⟩ := Option.bind_eq_some_iff.mp H
      refine ev_4 hc_X10_hasThings (fe_X10_hasThings (pc := 7) rfl) (gI_gf ev2) ?_
      refine ev_go hc_X10_hasThings (k := 1) (pc' := 11) (L' := [.ref a0, .int a1]) (S' := [.int ((1 : Int32) <<< (v2 &&& 31)), .int a1]) rfl ?_
      by_cases c3 : ((1 : Int32) <<< (v2 &&& 31)) ≤ a1
      · rw [if_pos c3] at H
        refine ev_bt hc_X10_hasThings (fe_X10_hasThings (pc := 11) rfl) rfl c3 ?_
        refine ev_go hc_X10_hasThings (k := 1) (pc' := 19) (L' := [.ref a0, .int a1]) (S' := [.int 0]) rfl ?_
        obtain rfl := Option.some.inj H
        exact ev_8z hc_X10_hasThings (fe_X10_hasThings (pc := 19) rfl) rfl (Or.inl rfl)
      · rw [if_neg c3] at H
        refine ev_bf hc_X10_hasThings (fe_X10_hasThings (pc := 11) rfl) rfl c3 ?_
        refine ev_go hc_X10_hasThings (k := 2) (pc' := 19) (L' := [.ref a0, .int a1]) (S' := [.int 1]) rfl ?_
        obtain rfl := Option.some.inj H
        exact ev_8z hc_X10_hasThings (fe_X10_hasThings (pc := 19) rfl) rfl (Or.inr rfl)
  · rw [if_neg ck] at H; cases H
theorem hc_X10_isLent : ci_code (ci_Ms 66) = k_X10_isLent := rfl
theorem fe_X10_isLent {pc : Nat} {w : Option ci_I} (h : (k_X10_isLent)[pc]? = some w) : (k_X10_isLent)[pc]? = some w := h
def F_X10_isLent (a0 : Nat) (a1 : Int32) (h : ci_H) : Option (Int32 × ci_H) := if kO h a0 = some 10 then ((gR h a0 10 0).bind fun v1 => (gR h v1 6 0).bind fun v2 => (rI h v2 a1).bind fun v3 => (gR h a0 10 0).bind fun v4 => (gR h v4 6 1).bind fun v5 => (rI h v5 a1).bind fun v6 => if v3 = v6 then (some (0, h)) else (some (1, h))) else none
theorem K_X10_isLent {a0 : Nat} {a1 : Int32} {h : ci_H} {r : Int32 × ci_H} (H : F_X10_isLent a0 a1 h = some r) : kO h a0 = some 10 := by
  unfold F_X10_isLent at H
  by_cases c : kO h a0 = some 10
  · exact c
  · rw [if_neg c] at H; cases H
set_option maxHeartbeats 4000000 in
set_option maxRecDepth 20000 in
theorem E_X10_isLent {xs : Nat → Int32} {N d : Nat} {nx : ci_N} {a0 : Nat} {a1 : Int32} {h : ci_H} {r : Int32 × ci_H} (H : F_X10_isLent a0 a1 h = some r) (hd : 0 ≤ d) : Ev xs N d 66 0 (ci_entry [.ref a0, .int a1] 2) [] h nx (oI r nx) := by
  unfold F_X10_isLent at H
  by_cases ck : kO h a0 = some 10
  · rw [if_pos ck] at H
    show Ev xs N d 66 0 [.ref a0, .int a1] [] h nx _
    refine ev_go hc_X10_isLent (k := 1) (pc' := 1) (L' := [.ref a0, .int a1]) (S' := [.ref a0]) rfl ?_
    obtain ⟨v1, ev1, H⟩ := Option.bind_eq_some_iff.mp H
    refine ev_4 hc_X10_isLent (fe_X10_isLent (pc := 1) rfl) (gR_gf ev1) ?_
    obtain ⟨v2, ev2, H⟩ := Option.bind_eq_some_iff.mp H
    refine ev_4 hc_X10_isLent (fe_X10_isLent (pc := 4) rfl) (gR_gf ev2) ?_
    refine ev_go hc_X10_isLent (k := 1) (pc' := 8) (L' := [.ref a0, .int a1]) (S' := [.int a1, .ref v2]) rfl ?_
    obtain ⟨v3, ev3, H⟩ := Option.bind_eq_some_iff.mp H
    refine ev_4 hc_X10_isLent (fe_X10_isLent (pc := 8) rfl) (rI_al ev3) ?_
    refine ev_go hc_X10_isLent (k := 1) (pc' := 10) (L' := [.ref a0, .int a1]) (S' := [.ref a0, .int v3]) rfl ?_
    obtain ⟨v4, ev4, H⟩ := Option.bind_eq_some_iff.mp H
    refine ev_4 hc_X10_isLent (fe_X10_isLent (pc := 10) rfl) (gR_gf ev4) ?_
    obtain ⟨v5, ev5, H⟩ := Option.bind_eq_some_iff.mp H
    refine ev_4 hc_X10_isLent (fe_X10_isLent (pc := 13) rfl) (gR_gf ev5) ?_
    refine ev_go hc_X10_isLent (k := 1) (pc' := 17) (L' := [.ref a0, .int a1]) (S' := [.int a1, .ref v5, .int v3]) rfl ?_
    obtain ⟨v6, ev6, H⟩ := Option.bind_eq_some_iff.mp H
    refine ev_4 hc_X10_isLent (fe_X10_isLent (pc := 17) rfl) (rI_al ev6) ?_
    by_cases c7 : v3 = v6
    · rw [if_pos c7] at H
      refine ev_bt hc_X10_isLent (fe_X10_isLent (pc := 18) rfl) rfl c7 ?_
      refine ev_go hc_X10_isLent (k := 1) (pc' := 26) (L' := [.ref a0, .int a1]) (S' := [.int 0]) rfl ?_
      obtain rfl := Option.some.inj H
      exact ev_8z hc_X10_isLent (fe_X10_isLent (pc := 26) rfl) rfl (Or.inl rfl)
    · rw [if_neg c7] at H
      refine ev_bf hc_X10_isLent (fe_X10_isLent (pc := 18) rfl) rfl c7 ?_
      refine ev_go hc_X10_isLent (k := 2) (pc' := 26) (L' := [.ref a0, .int a1]) (S' := [.int 1]) rfl ?_
      obtain rfl := Option.some.inj H
      exact ev_8z hc_X10_isLent (fe_X10_isLent (pc := 26) rfl) rfl (Or.inr rfl)
  · rw [if_neg ck] at H; cases H
theorem hc_X10_needsHousesFrom : ci_code (ci_Ms 67) = k_X10_needsHousesFrom := rfl
theorem fe_X10_needsHousesFrom {pc : Nat} {w : Option ci_I} (h : (k_X10_needsHousesFrom)[pc]? = some w) : (k_X10_needsHousesFrom)[pc]? = some w := h
def b_X10_needsHousesFrom_2 (l0 : Nat) (l1 : Int32) : Nat → Int32 → ci_H → Option (Int32 × ci_H)
  | 0, _, _ => none
  | n + 1, l2, h => (gI h l0 10 6).bind fun v1 => if v1 ≤ l2 then (some (0, h)) else ((gR h l0 10 0).bind fun v3 => (gR h v3 6 0).bind fun v4 => (rI h v4 l2).bind fun v5 => if l1 ≤ v5 then (some (1, h)) else ((gR h l0 10 0).bind fun v7 => (gR h v7 6 1).bind fun v8 => (rI h v8 l2).bind fun v9 => if v9 < l1 then (b_X10_needsHousesFrom_2 l0 l1 n (l2 + 1) h) else (some (1, h))))
set_option maxHeartbeats 4000000 in
set_option maxRecDepth 20000 in
theorem eb_X10_needsHousesFrom_2 {xs : Nat → Int32} {N d : Nat} {nx : ci_N} {l0 : Nat} {l1 : Int32} : ∀ (n : Nat) (l2 : Int32) (h : ci_H) (r : Int32 × ci_H), b_X10_needsHousesFrom_2 l0 l1 n l2 h = some r → Ev xs N d 67 2 [.ref l0, .int l1, .int l2] [] h nx (oI r nx) := by
  intro n
  induction n with
  | zero => intro l2 h r H; unfold b_X10_needsHousesFrom_2 at H; cases H
  | succ n ih =>
    intro l2 h r H
    unfold b_X10_needsHousesFrom_2 at H
    refine ev_go hc_X10_needsHousesFrom (k := 2) (pc' := 4) (L' := [.ref l0, .int l1, .int l2]) (S' := [.ref l0, .int l2]) rfl ?_
    obtain ⟨v1, ev1, H⟩ := Option.bind_eq_some_iff.mp H
    refine ev_4 hc_X10_needsHousesFrom (fe_X10_needsHousesFrom (pc := 4) rfl) (gI_gf ev1) ?_
    by_cases c2 : v1 ≤ l2
    · rw [if_pos c2] at H
      refine ev_bt hc_X10_needsHousesFrom (fe_X10_needsHousesFrom (pc := 7) rfl) rfl c2 ?_
      refine ev_go hc_X10_needsHousesFrom (k := 1) (pc' := 45) (L' := [.ref l0, .int l1, .int l2]) (S' := [.int 0]) rfl ?_
      obtain rfl := Option.some.inj H
      exact ev_8z hc_X10_needsHousesFrom (fe_X10_needsHousesFrom (pc := 45) rfl) rfl (Or.inl rfl)
    · rw [if_neg c2] at H
      refine ev_bf hc_X10_needsHousesFrom (fe_X10_needsHousesFrom (pc := 7) rfl) rfl c2 ?_
      refine ev_go hc_X10_needsHousesFrom (k := 1) (pc' := 11) (L' := [.ref l0, .int l1, .int l2]) (S' := [.ref l0]) rfl ?_
      obtain ⟨v3, ev3, H⟩ := Option.bind_eq_some_iff.mp H
      refine ev_4 hc_X10_needsHousesFrom (fe_X10_needsHousesFrom (pc := 11) rfl) (gR_gf ev3) ?_
      obtain ⟨v4, ev4, H⟩ := Option.bind_eq_some_iff.mp H
      refine ev_4 hc_X10_needsHousesFrom (fe_X10_needsHousesFrom (pc := 14) rfl) (gR_gf ev4) ?_
      refine ev_go hc_X10_needsHousesFrom (k := 1) (pc' := 18) (L' := [.ref l0, .int l1, .int l2]) (S' := [.int l2, .ref v4]) rfl ?_
      obtain ⟨v5, ev5, H⟩ := Option.bind_eq_some_iff.mp H
      refine ev_4 hc_X10_needsHousesFrom (fe_X10_needsHousesFrom (pc := 18) rfl) (rI_al ev5) ?_
      refine ev_go hc_X10_needsHousesFrom (k := 1) (pc' := 20) (L' := [.ref l0, .int l1, .int l2]) (S' := [.int l1, .int v5]) rfl ?_
      by_cases c6 : l1 ≤ v5
      · rw [if_pos c6] at H
        refine ev_bt hc_X10_needsHousesFrom (fe_X10_needsHousesFrom (pc := 20) rfl) rfl c6 ?_
        refine ev_go hc_X10_needsHousesFrom (k := 1) (pc' := 37) (L' := [.ref l0, .int l1, .int l2]) (S' := [.int 1]) rfl ?_
        obtain rfl := Option.some.inj H
        exact ev_8z hc_X10_needsHousesFrom (fe_X10_needsHousesFrom (pc := 37) rfl) rfl (Or.inr rfl)
      · rw [if_neg c6] at H
        refine ev_bf hc_X10_needsHousesFrom (fe_X10_needsHousesFrom (pc := 20) rfl) rfl c6 ?_
        refine ev_go hc_X10_needsHousesFrom (k := 1) (pc' := 24) (L' := [.ref l0, .int l1, .int l2]) (S' := [.ref l0]) rfl ?_
        obtain ⟨v7, ev7, H⟩ := Option.bind_eq_some_iff.mp H
        refine ev_4 hc_X10_needsHousesFrom (fe_X10_needsHousesFrom (pc := 24) rfl) (gR_gf ev7) ?_
        obtain ⟨v8, ev8, H⟩ := Option.bind_eq_some_iff.mp H
        refine ev_4 hc_X10_needsHousesFrom (fe_X10_needsHousesFrom (pc := 27) rfl) (gR_gf ev8) ?_
        refine ev_go hc_X10_needsHousesFrom (k := 1) (pc' := 31) (L' := [.ref l0, .int l1, .int l2]) (S' := [.int l2, .ref v8]) rfl ?_
        obtain ⟨v9, ev9, H⟩ := Option.bind_eq_some_iff.mp H
        refine ev_4 hc_X10_needsHousesFrom (fe_X10_needsHousesFrom (pc := 31) rfl) (rI_al ev9) ?_
        refine ev_go hc_X10_needsHousesFrom (k := 1) (pc' := 33) (L' := [.ref l0, .int l1, .int l2]) (S' := [.int l1, .int v9]) rfl ?_
        by_cases c10 : v9 < l1
        · rw [if_pos c10] at H
          refine ev_bt hc_X10_needsHousesFrom (fe_X10_needsHousesFrom (pc := 33) rfl) rfl c10 ?_
          refine ev_go hc_X10_needsHousesFrom (k := 2) (pc' := 2) (L' := [.ref l0, .int l1, .int (l2 + 1)]) (S' := []) rfl ?_
          exact Ev.weak (ci_le_c (Or.inr rfl) (ci_le_c (Or.inr rfl) (ci_le_c (Or.inr rfl) (ci_le_n)))) (ih _ _ _ H)
        · rw [if_neg c10] at H
          refine ev_bf hc_X10_needsHousesFrom (fe_X10_needsHousesFrom (pc := 33) rfl) rfl c10 ?_
          refine ev_go hc_X10_needsHousesFrom (k := 1) (pc' := 37) (L' := [.ref l0, .int l1, .int l2]) (S' := [.int 1]) rfl ?_
          obtain rfl := Option.some.inj H
          exact ev_8z hc_X10_needsHousesFrom (fe_X10_needsHousesFrom (pc := 37) rfl) rfl (Or.inr rfl)
def F_X10_needsHousesFrom (a0 : Nat) (a1 : Int32) (h : ci_H) : Option (Int32 × ci_H) := if kO h a0 = some 10 then (b_X10_needsHousesFrom_2 a0 a1 bigN 0 h) else none
theorem K_X10_needsHousesFrom {a0 : Nat} {a1 : Int32} {h : ci_H} {r : Int32 × ci_H} (H : F_X10_needsHousesFrom a0 a1 h = some r) : kO h a0 = some 10 := by
  unfold F_X10_needsHousesFrom at H
  by_cases c : kO h a0 = some 10
  · exact c
  · rw [if_neg c] at H; cases H
set_option maxHeartbeats 4000000 in
set_option maxRecDepth 20000 in
theorem E_X10_needsHousesFrom {xs : Nat → Int32} {N d : Nat} {nx : ci_N} {a0 : Nat} {a1 : Int32} {h : ci_H} {r : Int32 × ci_H} (H : F_X10_needsHousesFrom a0 a1 h = some r) (hd : 0 ≤ d) : Ev xs N d 67 0 (ci_entry [.ref a0, .int a1] 3) [] h nx (oI r nx) := by
  unfold F_X10_needsHousesFrom at H
  by_cases ck : kO h a0 = some 10
  · rw [if_pos ck] at H
    show Ev xs N d 67 0 [.ref a0, .int a1, ci_junk] [] h nx _
    refine ev_go hc_X10_needsHousesFrom (k := 2) (pc' := 2) (L' := [.ref a0, .int a1, .int 0]) (S' := []) rfl ?_
    exact Ev.weak (ci_le_c (Or.inr rfl) (ci_le_c (Or.inr rfl) (ci_le_c (Or.inr rfl) (ci_le_n)))) (eb_X10_needsHousesFrom_2 bigN _ _ _ H)
  · rw [if_neg ck] at H; cases H
theorem hc_X10_settle : ci_code (ci_Ms 68) = k_X10_settle := rfl
theorem fe_X10_settle {pc : Nat} {w : Option ci_I} (h : (k_X10_settle)[pc]? = some w) : (k_X10_settle)[pc]? = some w := h
def b_X10_settle_5 (l0 : Nat) (l1 : Int32) : Nat → Int32 → ci_H → Option (ci_H)
  | 0, _, _ => none
  | n + 1, l2, h => if l1 ≤ l2 then ((pF h l0 10 5 (.int l1)).bind fun h2 => some h2) else ((gR h l0 10 0).bind fun v3 => (gR h v3 6 3).bind fun v4 => (wI h v4 l2 100).bind fun h5 => b_X10_settle_5 l0 l1 n (l2 + 1) h5)
set_option maxHeartbeats 4000000 in
set_option maxRecDepth 20000 in
theorem eb_X10_settle_5 {xs : Nat → Int32} {N d : Nat} {nx : ci_N} {l0 : Nat} {l1 : Int32} : ∀ (n : Nat) (l2 : Int32) (h : ci_H) (r : ci_H), b_X10_settle_5 l0 l1 n l2 h = some r → Ev xs N d 68 5 [.ref l0, .int l1, .int l2] [] h nx (oV r nx) := by
  intro n
  induction n with
  | zero => intro l2 h r H; unfold b_X10_settle_5 at H; cases H
  | succ n ih =>
    intro l2 h r H
    unfold b_X10_settle_5 at H
    refine ev_go hc_X10_settle (k := 2) (pc' := 7) (L' := [.ref l0, .int l1, .int l2]) (S' := [.int l1, .int l2]) rfl ?_
    by_cases c1 : l1 ≤ l2
    · rw [if_pos c1] at H
      refine ev_bt hc_X10_settle (fe_X10_settle (pc := 7) rfl) rfl c1 ?_
      refine ev_go hc_X10_settle (k := 2) (pc' := 29) (L' := [.ref l0, .int l1, .int l2]) (S' := [.int l1, .ref l0]) rfl ?_
      obtain ⟨h2, eh2, H⟩ := Option.bind_eq_some_iff.mp H
      refine ev_5 hc_X10_settle (fe_X10_settle (pc := 29) rfl) (pF_pf eh2) ?_
      obtain rfl := Option.some.inj H
      exact ev_8 hc_X10_settle (fe_X10_settle (pc := 32) rfl) rfl
    · rw [if_neg c1] at H
      refine ev_bf hc_X10_settle (fe_X10_settle (pc := 7) rfl) rfl c1 ?_
      refine ev_go hc_X10_settle (k := 1) (pc' := 11) (L' := [.ref l0, .int l1, .int l2]) (S' := [.ref l0]) rfl ?_
      obtain ⟨v3, ev3, H⟩ := Option.bind_eq_some_iff.mp H
      refine ev_4 hc_X10_settle (fe_X10_settle (pc := 11) rfl) (gR_gf ev3) ?_
      obtain ⟨v4, ev4, H⟩ := Option.bind_eq_some_iff.mp H
      refine ev_4 hc_X10_settle (fe_X10_settle (pc := 14) rfl) (gR_gf ev4) ?_
      refine ev_go hc_X10_settle (k := 2) (pc' := 20) (L' := [.ref l0, .int l1, .int l2]) (S' := [.int 100, .int l2, .ref v4]) rfl ?_
      obtain ⟨h5, eh5, H⟩ := Option.bind_eq_some_iff.mp H
      refine ev_5 hc_X10_settle (fe_X10_settle (pc := 20) rfl) (wI_as eh5) ?_
      refine ev_go hc_X10_settle (k := 2) (pc' := 5) (L' := [.ref l0, .int l1, .int (l2 + 1)]) (S' := []) rfl ?_
      exact Ev.weak (ci_le_c (Or.inr rfl) (ci_le_c (Or.inr rfl) (ci_le_c (Or.inr rfl) (ci_le_n)))) (ih _ _ _ H)
def F_X10_settle (a0 : Nat) (a1 : Int32) (h : ci_H) : Option (ci_H) := if kO h a0 = some 10 then ((gI h a0 10 5).bind fun v1 => b_X10_settle_5 a0 a1 bigN v1 h) else none
theorem K_X10_settle {a0 : Nat} {a1 : Int32} {h : ci_H} {r : ci_H} (H : F_X10_settle a0 a1 h = some r) : kO h a0 = some 10 := by
  unfold F_X10_settle at H
  by_cases c : kO h a0 = some 10
  · exact c
  · rw [if_neg c] at H; cases H
set_option maxHeartbeats 4000000 in
set_option maxRecDepth 20000 in
theorem E_X10_settle {xs : Nat → Int32} {N d : Nat} {nx : ci_N} {a0 : Nat} {a1 : Int32} {h : ci_H} {r : ci_H} (H : F_X10_settle a0 a1 h = some r) (hd : 0 ≤ d) : Ev xs N d 68 0 (ci_entry [.ref a0, .int a1] 3) [] h nx (oV r nx) := by
  unfold F_X10_settle at H
  by_cases ck : kO h a0 = some 10
  · rw [if_pos ck] at H
    show Ev xs N d 68 0 [.ref a0, .int a1, ci_junk] [] h nx _
    refine ev_go hc_X10_settle (k := 1) (pc' := 1) (L' := [.ref a0, .int a1, ci_junk]) (S' := [.ref a0]) rfl ?_
    obtain ⟨v1, ev1, H⟩ := Option.bind_eq_some_iff.mp H
    refine ev_4 hc_X10_settle (fe_X10_settle (pc := 1) rfl) (gI_gf ev1) ?_
    refine ev_go hc_X10_settle (k := 1) (pc' := 5) (L' := [.ref a0, .int a1, .int v1]) (S' := []) rfl ?_
    exact Ev.weak (ci_le_c (Or.inr rfl) (ci_le_c (Or.inr rfl) (ci_le_c (Or.inr rfl) (ci_le_n)))) (eb_X10_settle_5 bigN _ _ _ H)
  · rw [if_neg ck] at H; cases H
theorem hc_X10_sortThings : ci_code (ci_Ms 71) = k_X10_sortThings := rfl
theorem fe_X10_sortThings {pc : Nat} {w : Option ci_I} (h : (k_X10_sortThings)[pc]? = some w) : (k_X10_sortThings)[pc]? = some w := h
def b_X10_sortThings_104 (r_25 : Int32 → ci_H → Option (ci_H)) (r_52 : Int32 → Int32 → ci_H → Option (ci_H)) (l0 : Nat) (l1 : Int32) (l2 : Int32) (l3 : Int32) (l4 : Int32)  (h : ci_H) : Option (ci_H) := r_52 l3 (l4 + 1) h
set_option maxHeartbeats 4000000 in
set_option maxRecDepth 20000 in
theorem eb_X10_sortThings_104 {xs : Nat → Int32} {N d : Nat} {nx : ci_N} {r_25 : Int32 → ci_H → Option (ci_H)} {r_52 : Int32 → Int32 → ci_H → Option (ci_H)} {l0 : Nat} {l1 : Int32} {l2 : Int32} {l3 : Int32} {l4 : Int32} (h_25 : ∀ (l1 : Int32) (h : ci_H) (r : ci_H), r_25 l1 h = some r → Ev xs N d 71 25 [.ref l0, .int l1, ci_junk, ci_junk, ci_junk] [] h nx (oV r nx)) (h_52 : ∀ (l3 : Int32) (l4 : Int32) (h : ci_H) (r : ci_H), r_52 l3 l4 h = some r → Ev xs N d 71 52 [.ref l0, .int l1, .int l2, .int l3, .int l4] [] h nx (oV r nx)) {h : ci_H} {r : ci_H} (H : b_X10_sortThings_104 r_25 r_52 l0 l1 l2 l3 l4 h = some r) : Ev xs N d 71 104 [.ref l0, .int l1, .int l2, .int l3, .int l4] [] h nx (oV r nx) := by
  unfold b_X10_sortThings_104 at H
  refine ev_go hc_X10_sortThings (k := 2) (pc' := 52) (L' := [.ref l0, .int l1, .int l2, .int l3, .int (l4 + 1)]) (S' := []) rfl ?_
  exact Ev.weak (ci_le_c (Or.inr rfl) (ci_le_c (Or.inr rfl) (ci_le_c (Or.inr rfl) (ci_le_c (Or.inr rfl) (ci_le_c (Or.inr rfl) (ci_le_n)))))) (h_52 _ _ _ _ H)
def b_X10_sortThings_52 (r_25 : Int32 → ci_H → Option (ci_H)) (l0 : Nat) (l1 : Int32) (l2 : Int32) : Nat → Int32 → Int32 → ci_H → Option (ci_H)
  | 0, _, _, _ => none
  | n + 1, l3, l4, h => (gI h l0 10 6).bind fun v1 => if v1 ≤ l4 then ((gR h l0 10 3).bind fun v3 => (wI h v3 l1 l3).bind fun h4 => r_25 (l1 + 1) h4) else ((gR h l0 10 0).bind fun v5 => (gR h v5 6 2).bind fun v6 => (rI h v6 l4).bind fun v7 => (gR h l0 10 1).bind fun v8 => (rI h v8 l1).bind fun v9 => if (v7 &&& l2) = v9 then ((gR h l0 10 4).bind fun v11 => (rI h v11 l4).bind fun v12 => (wI h v11 l4 (v12 ||| ((1 : Int32) <<< ((5 * l1) &&& 31)))).bind fun h13 => b_X10_sortThings_104 r_25 (fun x0 x1 x2 => b_X10_sortThings_52 r_25 l0 l1 l2 n x0 x1 x2) l0 l1 l2 (l3 ||| ((1 : Int32) <<< (l4 &&& 31))) l4 h13) else (b_X10_sortThings_104 r_25 (fun x0 x1 x2 => b_X10_sortThings_52 r_25 l0 l1 l2 n x0 x1 x2) l0 l1 l2 l3 l4 h))
set_option maxHeartbeats 4000000 in
set_option maxRecDepth 20000 in
theorem eb_X10_sortThings_52 {xs : Nat → Int32} {N d : Nat} {nx : ci_N} {r_25 : Int32 → ci_H → Option (ci_H)} {l0 : Nat} {l1 : Int32} {l2 : Int32} (h_25 : ∀ (l1 : Int32) (h : ci_H) (r : ci_H), r_25 l1 h = some r → Ev xs N d 71 25 [.ref l0, .int l1, ci_junk, ci_junk, ci_junk] [] h nx (oV r nx)) : ∀ (n : Nat) (l3 : Int32) (l4 : Int32) (h : ci_H) (r : ci_H), b_X10_sortThings_52 r_25 l0 l1 l2 n l3 l4 h = some r → Ev xs N d 71 52 [.ref l0, .int l1, .int l2, .int l3, .int l4] [] h nx (oV r nx) := by
  intro n
  induction n with
  | zero => intro l3 l4 h r H; unfold b_X10_sortThings_52 at H; cases H
  | succ n ih =>
    intro l3 l4 h r H
    unfold b_X10_sortThings_52 at H
    refine ev_go hc_X10_sortThings (k := 2) (pc' := 55) (L' := [.ref l0, .int l1, .int l2, .int l3, .int l4]) (S' := [.ref l0, .int l4]) rfl ?_
    obtain ⟨v1, ev1, H⟩ := Option.bind_eq_some_iff.mp H
    refine ev_4 hc_X10_sortThings (fe_X10_sortThings (pc := 55) rfl) (gI_gf ev1) ?_
    by_cases c2 : v1 ≤ l4
    · rw [if_pos c2] at H
      refine ev_bt hc_X10_sortThings (fe_X10_sortThings (pc := 58) rfl) rfl c2 ?_
      refine ev_go hc_X10_sortThings (k := 1) (pc' := 111) (L' := [.ref l0, .int l1, .int l2, .int l3, .int l4]) (S' := [.ref l0]) rfl ?_
      obtain ⟨v3, ev3, H⟩ := Option.bind_eq_some_iff.mp H
      refine ev_4 hc_X10_sortThings (fe_X10_sortThings (pc := 111) rfl) (gR_gf ev3) ?_
      refine ev_go hc_X10_sortThings (k := 2) (pc' := 116) (L' := [.ref l0, .int l1, .int l2, .int l3, .int l4]) (S' := [.int l3, .int l1, .ref v3]) rfl ?_
      obtain ⟨h4, eh4, H⟩ := Option.bind_eq_some_iff.mp H
      refine ev_5 hc_X10_sortThings (fe_X10_sortThings (pc := 116) rfl) (wI_as eh4) ?_
      refine ev_go hc_X10_sortThings (k := 2) (pc' := 25) (L' := [.ref l0, .int (l1 + 1), .int l2, .int l3, .int l4]) (S' := []) rfl ?_
      exact Ev.weak (ci_le_c (Or.inr rfl) (ci_le_c (Or.inr rfl) (ci_le_c (Or.inl rfl) (ci_le_c (Or.inl rfl) (ci_le_c (Or.inl rfl) (ci_le_n)))))) (h_25 _ _ _ H)
    · rw [if_neg c2] at H
      refine ev_bf hc_X10_sortThings (fe_X10_sortThings (pc := 58) rfl) rfl c2 ?_
      refine ev_go hc_X10_sortThings (k := 1) (pc' := 62) (L' := [.ref l0, .int l1, .int l2, .int l3, .int l4]) (S' := [.ref l0]) rfl ?_
      obtain ⟨v5, ev5, H⟩ := Option.bind_eq_some_iff.mp H
      refine ev_4 hc_X10_sortThings (fe_X10_sortThings (pc := 62) rfl) (gR_gf ev5) ?_
      obtain ⟨v6, ev6, H⟩ := Option.bind_eq_some_iff.mp H
      refine ev_4 hc_X10_sortThings (fe_X10_sortThings (pc := 65) rfl) (gR_gf ev6) ?_
      refine ev_go hc_X10_sortThings (k := 1) (pc' := 70) (L' := [.ref l0, .int l1, .int l2, .int l3, .int l4]) (S' := [.int l4, .ref v6]) rfl ?_
      obtain ⟨v7, ev7, H⟩ := Option.bind_eq_some_iff.mp H
      refine ev_4 hc_X10_sortThings (fe_X10_sortThings (pc := 70) rfl) (rI_al ev7) ?_
      refine ev_go hc_X10_sortThings (k := 3) (pc' := 74) (L' := [.ref l0, .int l1, .int l2, .int l3, .int l4]) (S' := [.ref l0, .int (v7 &&& l2)]) rfl ?_
      obtain ⟨v8, ev8, H⟩ := Option.bind_eq_some_iff.mp H
      refine ev_4 hc_X10_sortThings (fe_X10_sortThings (pc := 74) rfl) (gR_gf ev8) ?_
      refine ev_go hc_X10_sortThings (k := 1) (pc' := 78) (L' := [.ref l0, .int l1, .int l2, .int l3, .int l4]) (S' := [.int l1, .ref v8, .int (v7 &&& l2)]) rfl ?_
      obtain ⟨v9, ev9, H⟩ := Option.bind_eq_some_iff.mp H
      refine ev_4 hc_X10_sortThings (fe_X10_sortThings (pc := 78) rfl) (rI_al ev9) ?_
      by_cases c10 : (v7 &&& l2) = v9
      · rw [if_pos c10] at H
        refine ev_bt hc_X10_sortThings (fe_X10_sortThings (pc := 79) rfl) rfl c10 ?_
        refine ev_go hc_X10_sortThings (k := 7) (pc' := 90) (L' := [.ref l0, .int l1, .int l2, .int (l3 ||| ((1 : Int32) <<< (l4 &&& 31))), .int l4]) (S' := [.ref l0]) rfl ?_
        obtain ⟨v11, ev11, H⟩ := Option.bind_eq_some_iff.mp H
        refine ev_4 hc_X10_sortThings (fe_X10_sortThings (pc := 90) rfl) (gR_gf ev11) ?_
        refine ev_go hc_X10_sortThings (k := 2) (pc' := 96) (L' := [.ref l0, .int l1, .int l2, .int (l3 ||| ((1 : Int32) <<< (l4 &&& 31))), .int l4]) (S' := [.int l4, .ref v11, .int l4, .ref v11]) rfl ?_
        obtain ⟨v12, ev12, H⟩ := Option.bind_eq_some_iff.mp H
        refine ev_4 hc_X10_sortThings (fe_X10_sortThings (pc := 96) rfl) (rI_al ev12) ?_
        refine ev_go hc_X10_sortThings (k := 6) (pc' := 103) (L' := [.ref l0, .int l1, .int l2, .int (l3 ||| ((1 : Int32) <<< (l4 &&& 31))), .int l4]) (S' := [.int (v12 ||| ((1 : Int32) <<< ((5 * l1) &&& 31))), .int l4, .ref v11]) rfl ?_
        obtain ⟨h13, eh13, H⟩ := Option.bind_eq_some_iff.mp H
        refine ev_5 hc_X10_sortThings (fe_X10_sortThings (pc := 103) rfl) (wI_as eh13) ?_
        exact Ev.weak (ci_le_c (Or.inr rfl) (ci_le_c (Or.inr rfl) (ci_le_c (Or.inr rfl) (ci_le_c (Or.inr rfl) (ci_le_c (Or.inr rfl) (ci_le_n)))))) (eb_X10_sortThings_104 h_25 ih H)
      · rw [if_neg c10] at H
        refine ev_bf hc_X10_sortThings (fe_X10_sortThings (pc := 79) rfl) rfl c10 ?_
        exact Ev.weak (ci_le_c (Or.inr rfl) (ci_le_c (Or.inr rfl) (ci_le_c (Or.inr rfl) (ci_le_c (Or.inr rfl) (ci_le_c (Or.inr rfl) (ci_le_n)))))) (eb_X10_sortThings_104 h_25 ih H)
def b_X10_sortThings_25 (l0 : Nat) : Nat → Int32 → ci_H → Option (ci_H)
  | 0, _, _ => none
  | n + 1, l1, h => (gI h l0 10 7).bind fun v1 => if v1 ≤ l1 then (some h) else ((gR h l0 10 1).bind fun v3 => (rI h v3 l1).bind fun v4 => (gR h l0 10 2).bind fun v5 => (rI h v5 l1).bind fun v6 => b_X10_sortThings_52 (fun x0 x1 => b_X10_sortThings_25 l0 n x0 x1) l0 l1 (v4 ||| v6) bigN 0 0 h)
set_option maxHeartbeats 4000000 in
set_option maxRecDepth 20000 in
theorem eb_X10_sortThings_25 {xs : Nat → Int32} {N d : Nat} {nx : ci_N} {l0 : Nat} : ∀ (n : Nat) (l1 : Int32) (h : ci_H) (r : ci_H), b_X10_sortThings_25 l0 n l1 h = some r → Ev xs N d 71 25 [.ref l0, .int l1, ci_junk, ci_junk, ci_junk] [] h nx (oV r nx) := by
  intro n
  induction n with
  | zero => intro l1 h r H; unfold b_X10_sortThings_25 at H; cases H
  | succ n ih =>
    intro l1 h r H
    unfold b_X10_sortThings_25 at H
    refine ev_go hc_X10_sortThings (k := 2) (pc' := 27) (L' := [.ref l0, .int l1, ci_junk, ci_junk, ci_junk]) (S' := [.ref l0, .int l1]) rfl ?_
    obtain ⟨v1, ev1, H⟩ := Option.bind_eq_some_iff.mp H
    refine ev_4 hc_X10_sortThings (fe_X10_sortThings (pc := 27) rfl) (gI_gf ev1) ?_
    by_cases c2 : v1 ≤ l1
    · rw [if_pos c2] at H
      refine ev_bt hc_X10_sortThings (fe_X10_sortThings (pc := 30) rfl) rfl c2 ?_
      obtain rfl := Option.some.inj H
      exact ev_8 hc_X10_sortThings (fe_X10_sortThings (pc := 123) rfl) rfl
    · rw [if_neg c2] at H
      refine ev_bf hc_X10_sortThings (fe_X10_sortThings (pc := 30) rfl) rfl c2 ?_
      refine ev_go hc_X10_sortThings (k := 1) (pc' := 34) (L' := [.ref l0, .int l1, ci_junk, ci_junk, ci_junk]) (S' := [.ref l0]) rfl ?_
      obtain ⟨v3, ev3, H⟩ := Option.bind_eq_some_iff.mp H
      refine ev_4 hc_X10_sortThings (fe_X10_sortThings (pc := 34) rfl) (gR_gf ev3) ?_
      refine ev_go hc_X10_sortThings (k := 1) (pc' := 38) (L' := [.ref l0, .int l1, ci_junk, ci_junk, ci_junk]) (S' := [.int l1, .ref v3]) rfl ?_
      obtain ⟨v4, ev4, H⟩ := Option.bind_eq_some_iff.mp H
      refine ev_4 hc_X10_sortThings (fe_X10_sortThings (pc := 38) rfl) (rI_al ev4) ?_
      refine ev_go hc_X10_sortThings (k := 1) (pc' := 40) (L' := [.ref l0, .int l1, ci_junk, ci_junk, ci_junk]) (S' := [.ref l0, .int v4]) rfl ?_
      obtain ⟨v5, ev5, H⟩ := Option.bind_eq_some_iff.mp H
      refine ev_4 hc_X10_sortThings (fe_X10_sortThings (pc := 40) rfl) (gR_gf ev5) ?_
      refine ev_go hc_X10_sortThings (k := 1) (pc' := 44) (L' := [.ref l0, .int l1, ci_junk, ci_junk, ci_junk]) (S' := [.int l1, .ref v5, .int v4]) rfl ?_
      obtain ⟨v6, ev6, H⟩ := Option.bind_eq_some_iff.mp H
      refine ev_4 hc_X10_sortThings (fe_X10_sortThings (pc := 44) rfl) (rI_al ev6) ?_
      refine ev_go hc_X10_sortThings (k := 6) (pc' := 52) (L' := [.ref l0, .int l1, .int (v4 ||| v6), .int 0, .int 0]) (S' := []) rfl ?_
      exact Ev.weak (ci_le_c (Or.inr rfl) (ci_le_c (Or.inr rfl) (ci_le_c (Or.inr rfl) (ci_le_c (Or.inr rfl) (ci_le_c (Or.inr rfl) (ci_le_n)))))) (eb_X10_sortThings_52 ih bigN _ _ _ _ H)
def b_X10_sortThings_2 (l0 : Nat) : Nat → Int32 → ci_H → Option (ci_H)
  | 0, _, _ => none
  | n + 1, l1, h => (gI h l0 10 6).bind fun v1 => if v1 ≤ l1 then (b_X10_sortThings_25 l0 bigN 0 h) else ((gR h l0 10 4).bind fun v3 => (wI h v3 l1 0).bind fun h4 => b_X10_sortThings_2 l0 n (l1 + 1) h4)
set_option maxHeartbeats 4000000 in
set_option maxRecDepth 20000 in
theorem eb_X10_sortThings_2 {xs : Nat → Int32} {N d : Nat} {nx : ci_N} {l0 : Nat} : ∀ (n : Nat) (l1 : Int32) (h : ci_H) (r : ci_H), b_X10_sortThings_2 l0 n l1 h = some r → Ev xs N d 71 2 [.ref l0, .int l1, ci_junk, ci_junk, ci_junk] [] h nx (oV r nx) := by
  intro n
  induction n with
  | zero => intro l1 h r H; unfold b_X10_sortThings_2 at H; cases H
  | succ n ih =>
    intro l1 h r H
    unfold b_X10_sortThings_2 at H
    refine ev_go hc_X10_sortThings (k := 2) (pc' := 4) (L' := [.ref l0, .int l1, ci_junk, ci_junk, ci_junk]) (S' := [.ref l0, .int l1]) rfl ?_
    obtain ⟨v1, ev1, H⟩ := Option.bind_eq_some_iff.mp H
    refine ev_4 hc_X10_sortThings (fe_X10_sortThings (pc := 4) rfl) (gI_gf ev1) ?_
    by_cases c2 : v1 ≤ l1
    · rw [if_pos c2] at H
      refine ev_bt hc_X10_sortThings (fe_X10_sortThings (pc := 7) rfl) rfl c2 ?_
      refine ev_go hc_X10_sortThings (k := 2) (pc' := 25) (L' := [.ref l0, .int 0, ci_junk, ci_junk, ci_junk]) (S' := []) rfl ?_
      exact Ev.weak (ci_le_c (Or.inr rfl) (ci_le_c (Or.inr rfl) (ci_le_c (Or.inl rfl) (ci_le_c (Or.inl rfl) (ci_le_c (Or.inl rfl) (ci_le_n)))))) (eb_X10_sortThings_25 bigN _ _ _ H)
    · rw [if_neg c2] at H
      refine ev_bf hc_X10_sortThings (fe_X10_sortThings (pc := 7) rfl) rfl c2 ?_
      refine ev_go hc_X10_sortThings (k := 1) (pc' := 11) (L' := [.ref l0, .int l1, ci_junk, ci_junk, ci_junk]) (S' := [.ref l0]) rfl ?_
      obtain ⟨v3, ev3, H⟩ := Option.bind_eq_some_iff.mp H
      refine ev_4 hc_X10_sortThings (fe_X10_sortThings (pc := 11) rfl) (gR_gf ev3) ?_
      refine ev_go hc_X10_sortThings (k := 2) (pc' := 16) (L' := [.ref l0, .int l1, ci_junk, ci_junk, ci_junk]) (S' := [.int 0, .int l1, .ref v3]) rfl ?_
      obtain ⟨h4, eh4, H⟩ := Option.bind_eq_some_iff.mp H
      refine ev_5 hc_X10_sortThings (fe_X10_sortThings (pc := 16) rfl) (wI_as eh4) ?_
      refine ev_go hc_X10_sortThings (k := 2) (pc' := 2) (L' := [.ref l0, .int (l1 + 1), ci_junk, ci_junk, ci_junk]) (S' := []) rfl ?_
      exact Ev.weak (ci_le_c (Or.inr rfl) (ci_le_c (Or.inr rfl) (ci_le_c (Or.inl rfl) (ci_le_c (Or.inl rfl) (ci_le_c (Or.inl rfl) (ci_le_n)))))) (ih _ _ _ H)
def F_X10_sortThings (a0 : Nat) (h : ci_H) : Option (ci_H) := if kO h a0 = some 10 then (b_X10_sortThings_2 a0 bigN 0 h) else none
theorem K_X10_sortThings {a0 : Nat} {h : ci_H} {r : ci_H} (H : F_X10_sortThings a0 h = some r) : kO h a0 = some 10 := by
  unfold F_X10_sortThings at H
  by_cases c : kO h a0 = some 10
  · exact c
  · rw [if_neg c] at H; cases H
set_option maxHeartbeats 4000000 in
set_option maxRecDepth 20000 in
theorem E_X10_sortThings {xs : Nat → Int32} {N d : Nat} {nx : ci_N} {a0 : Nat} {h : ci_H} {r : ci_H} (H : F_X10_sortThings a0 h = some r) (hd : 0 ≤ d) : Ev xs N d 71 0 (ci_entry [.ref a0] 5) [] h nx (oV r nx) := by
  unfold F_X10_sortThings at H
  by_cases ck : kO h a0 = some 10
  · rw [if_pos ck] at H
    show Ev xs N d 71 0 [.ref a0, ci_junk, ci_junk, ci_junk, ci_junk] [] h nx _
    refine ev_go hc_X10_sortThings (k := 2) (pc' := 2) (L' := [.ref a0, .int 0, ci_junk, ci_junk, ci_junk]) (S' := []) rfl ?_
    exact Ev.weak (ci_le_c (Or.inr rfl) (ci_le_c (Or.inr rfl) (ci_le_c (Or.inl rfl) (ci_le_c (Or.inl rfl) (ci_le_c (Or.inl rfl) (ci_le_n)))))) (eb_X10_sortThings_2 bigN _ _ _ H)
  · rw [if_neg ck] at H; cases H
theorem hc_X10_addThings : ci_code (ci_Ms 69) = k_X10_addThings := rfl
theorem fe_X10_addThings {pc : Nat} {w : Option ci_I} (h : (k_X10_addThings)[pc]? = some w) : (k_X10_addThings)[pc]? = some w := h
def b_X10_addThings_86 (l0 : Nat)  (h : ci_H) : Option (ci_H) := (F_X10_sortThings l0 h).bind fun h1 => some h1
set_option maxHeartbeats 4000000 in
set_option maxRecDepth 20000 in
theorem eb_X10_addThings_86 {xs : Nat → Int32} {N d : Nat} {nx : ci_N} {l0 : Nat} (hd : 0 ≤ d) {h : ci_H} {r : ci_H} (H : b_X10_addThings_86 l0 h = some r) : Ev xs N (d + 1) 69 86 [.ref l0, ci_junk, ci_junk, ci_junk] [] h nx (oV r nx) := by
  unfold b_X10_addThings_86 at H
  refine ev_go hc_X10_addThings (k := 1) (pc' := 87) (L' := [.ref l0, ci_junk, ci_junk, ci_junk]) (S' := [.ref l0]) rfl ?_
  obtain ⟨h1, eh1, H⟩ := Option.bind_eq_some_iff.mp H
  refine ev_call (vs := [.ref l0]) (rest := []) (q := q_X10_sortThings) hc_X10_addThings (Or.inr rfl) (fe_X10_addThings (pc := 87) rfl) ms_71 rfl rfl (Nat.le_of_ble_eq_true rfl) (kO_recv (K_X10_sortThings eh1)) (E_X10_sortThings eh1 (by omega)) rfl ?_
  show Ev xs N (d + 1) 69 90 [.ref l0, ci_junk, ci_junk, ci_junk] [] h1 nx _
  obtain rfl := Option.some.inj H
  exact ev_8 hc_X10_addThings (fe_X10_addThings (pc := 90) rfl) rfl
def b_X10_addThings_2 (l0 : Nat) (l1 : Nat) (l2 : Int32) : Nat → Int32 → ci_H → Option (ci_H)
  | 0, _, _ => none
  | n + 1, l3, h => if l2 ≤ l3 then (b_X10_addThings_86 l0 h) else ((gI h l0 10 6).bind fun v2 => if 12 ≤ v2 then (b_X10_addThings_86 l0 h) else ((gR h l0 10 0).bind fun v4 => (gR h v4 6 2).bind fun v5 => (gI h l0 10 6).bind fun v6 => (gR h l1 8 1).bind fun v7 => (rI h v7 l3).bind fun v8 => (wI h v5 v6 v8).bind fun h9 => (gR h9 l0 10 0).bind fun v10 => (gR h9 v10 6 0).bind fun v11 => (gI h9 l0 10 6).bind fun v12 => (gR h9 l1 8 2).bind fun v13 => (rI h9 v13 l3).bind fun v14 => (wI h9 v11 v12 v14).bind fun h15 => (gR h15 l0 10 0).bind fun v16 => (gR h15 v16 6 1).bind fun v17 => (gI h15 l0 10 6).bind fun v18 => (gR h15 l1 8 2).bind fun v19 => (rI h15 v19 l3).bind fun v20 => (wI h15 v17 v18 v20).bind fun h21 => (gI h21 l0 10 6).bind fun v22 => (pF h21 l0 10 6 (.int (v22 + 1))).bind fun h23 => b_X10_addThings_2 l0 l1 l2 n (l3 + 1) h23))
set_option maxHeartbeats 4000000 in
set_option maxRecDepth 20000 in
theorem eb_X10_addThings_2 {xs : Nat → Int32} {N d : Nat} {nx : ci_N} {l0 : Nat} {l1 : Nat} {l2 : Int32} (hd : 0 ≤ d) : ∀ (n : Nat) (l3 : Int32) (h : ci_H) (r : ci_H), b_X10_addThings_2 l0 l1 l2 n l3 h = some r → Ev xs N (d + 1) 69 2 [.ref l0, .ref l1, .int l2, .int l3] [] h nx (oV r nx) := by
  intro n
  induction n with
  | zero => intro l3 h r H; unfold b_X10_addThings_2 at H; cases H
  | succ n ih =>
    intro l3 h r H
    unfold b_X10_addThings_2 at H
    refine ev_go hc_X10_addThings (k := 2) (pc' := 4) (L' := [.ref l0, .ref l1, .int l2, .int l3]) (S' := [.int l2, .int l3]) rfl ?_
    by_cases c1 : l2 ≤ l3
    · rw [if_pos c1] at H
      refine ev_bt hc_X10_addThings (fe_X10_addThings (pc := 4) rfl) rfl c1 ?_
      exact Ev.weak (ci_le_c (Or.inr rfl) (ci_le_c (Or.inl rfl) (ci_le_c (Or.inl rfl) (ci_le_c (Or.inl rfl) (ci_le_n))))) (eb_X10_addThings_86 hd H)
    · rw [if_neg c1] at H
      refine ev_bf hc_X10_addThings (fe_X10_addThings (pc := 4) rfl) rfl c1 ?_
      refine ev_go hc_X10_addThings (k := 1) (pc' := 8) (L' := [.ref l0, .ref l1, .int l2, .int l3]) (S' := [.ref l0]) rfl ?_
      obtain ⟨v2, ev2, H⟩ := Option.bind_eq_some_iff.mp H
      refine ev_4 hc_X10_addThings (fe_X10_addThings (pc := 8) rfl) (gI_gf ev2) ?_
      refine ev_go hc_X10_addThings (k := 1) (pc' := 13) (L' := [.ref l0, .ref l1, .int l2, .int l3]) (S' := [.int 12, .int v2]) rfl ?_
      by_cases c3 : 12 ≤ v2
      · rw [if_pos c3] at H
        refine ev_bt hc_X10_addThings (fe_X10_addThings (pc := 13) rfl) rfl c3 ?_
        exact Ev.weak (ci_le_c (Or.inr rfl) (ci_le_c (Or.inl rfl) (ci_le_c (Or.inl rfl) (ci_le_c (Or.inl rfl) (ci_le_n))))) (eb_X10_addThings_86 hd H)
      · rw [if_neg c3] at H
        refine ev_bf hc_X10_addThings (fe_X10_addThings (pc := 13) rfl) rfl c3 ?_
        refine ev_go hc_X10_addThings (k := 1) (pc' := 17) (L' := [.ref l0, .ref l1, .int l2, .int l3]) (S' := [.ref l0]) rfl ?_
        obtain ⟨v4, ev4, H⟩ := Option.bind_eq_some_iff.mp H
        refine ev_4 hc_X10_addThings (fe_X10_addThings (pc := 17) rfl) (gR_gf ev4) ?_
        obtain ⟨v5, ev5, H⟩ := Option.bind_eq_some_iff.mp H
        refine ev_4 hc_X10_addThings (fe_X10_addThings (pc := 20) rfl) (gR_gf ev5) ?_
        refine ev_go hc_X10_addThings (k := 1) (pc' := 24) (L' := [.ref l0, .ref l1, .int l2, .int l3]) (S' := [.ref l0, .ref v5]) rfl ?_
        obtain ⟨v6, ev6, H⟩ := Option.bind_eq_some_iff.mp H
        refine ev_4 hc_X10_addThings (fe_X10_addThings (pc := 24) rfl) (gI_gf ev6) ?_
        refine ev_go hc_X10_addThings (k := 1) (pc' := 28) (L' := [.ref l0, .ref l1, .int l2, .int l3]) (S' := [.ref l1, .int v6, .ref v5]) rfl ?_
        obtain ⟨v7, ev7, H⟩ := Option.bind_eq_some_iff.mp H
        refine ev_4 hc_X10_addThings (fe_X10_addThings (pc := 28) rfl) (gR_gf ev7) ?_
        refine ev_go hc_X10_addThings (k := 1) (pc' := 32) (L' := [.ref l0, .ref l1, .int l2, .int l3]) (S' := [.int l3, .ref v7, .int v6, .ref v5]) rfl ?_
        obtain ⟨v8, ev8, H⟩ := Option.bind_eq_some_iff.mp H
        refine ev_4 hc_X10_addThings (fe_X10_addThings (pc := 32) rfl) (rI_al ev8) ?_
        obtain ⟨h9, eh9, H⟩ := Option.bind_eq_some_iff.mp H
        refine ev_5 hc_X10_addThings (fe_X10_addThings (pc := 33) rfl) (wI_as eh9) ?_
        refine ev_go hc_X10_addThings (k := 1) (pc' := 35) (L' := [.ref l0, .ref l1, .int l2, .int l3]) (S' := [.ref l0]) rfl ?_
        obtain ⟨v10, ev10, H⟩ := Option.bind_eq_some_iff.mp H
        refine ev_4 hc_X10_addThings (fe_X10_addThings (pc := 35) rfl) (gR_gf ev10) ?_
        obtain ⟨v11, ev11, H⟩ := Option.bind_eq_some_iff.mp H
        refine ev_4 hc_X10_addThings (fe_X10_addThings (pc := 38) rfl) (gR_gf ev11) ?_
        refine ev_go hc_X10_addThings (k := 1) (pc' := 42) (L' := [.ref l0, .ref l1, .int l2, .int l3]) (S' := [.ref l0, .ref v11]) rfl ?_
        obtain ⟨v12, ev12, H⟩ := Option.bind_eq_some_iff.mp H
        refine ev_4 hc_X10_addThings (fe_X10_addThings (pc := 42) rfl) (gI_gf ev12) ?_
        refine ev_go hc_X10_addThings (k := 1) (pc' := 46) (L' := [.ref l0, .ref l1, .int l2, .int l3]) (S' := [.ref l1, .int v12, .ref v11]) rfl ?_
        obtain ⟨v13, ev13, H⟩ := Option.bind_eq_some_iff.mp H
        refine ev_4 hc_X10_addThings (fe_X10_addThings (pc := 46) rfl) (gR_gf ev13) ?_
        refine ev_go hc_X10_addThings (k := 1) (pc' := 50) (L' := [.ref l0, .ref l1, .int l2, .int l3]) (S' := [.int l3, .ref v13, .int v12, .ref v11]) rfl ?_
        obtain ⟨v14, ev14, H⟩ := Option.bind_eq_some_iff.mp H
        refine ev_4 hc_X10_addThings (fe_X10_addThings (pc := 50) rfl) (rI_al ev14) ?_
        obtain ⟨h15, eh15, H⟩ := Option.bind_eq_some_iff.mp H
        refine ev_5 hc_X10_addThings (fe_X10_addThings (pc := 51) rfl) (wI_as eh15) ?_
        refine ev_go hc_X10_addThings (k := 1) (pc' := 53) (L' := [.ref l0, .ref l1, .int l2, .int l3]) (S' := [.ref l0]) rfl ?_
        obtain ⟨v16, ev16, H⟩ := Option.bind_eq_some_iff.mp H
        refine ev_4 hc_X10_addThings (fe_X10_addThings (pc := 53) rfl) (gR_gf ev16) ?_
        obtain ⟨v17, ev17, H⟩ := Option.bind_eq_some_iff.mp H
        refine ev_4 hc_X10_addThings (fe_X10_addThings (pc := 56) rfl) (gR_gf ev17) ?_
        refine ev_go hc_X10_addThings (k := 1) (pc' := 60) (L' := [.ref l0, .ref l1, .int l2, .int l3]) (S' := [.ref l0, .ref v17]) rfl ?_
        obtain ⟨v18, ev18, H⟩ := Option.bind_eq_some_iff.mp H
        refine ev_4 hc_X10_addThings (fe_X10_addThings (pc := 60) rfl) (gI_gf ev18) ?_
        refine ev_go hc_X10_addThings (k := 1) (pc' := 64) (L' := [.ref l0, .ref l1, .int l2, .int l3]) (S' := [.ref l1, .int v18, .ref v17]) rfl ?_
        obtain ⟨v19, ev19, H⟩ := Option.bind_eq_some_iff.mp H
        refine ev_4 hc_X10_addThings (fe_X10_addThings (pc := 64) rfl) (gR_gf ev19) ?_
        refine ev_go hc_X10_addThings (k := 1) (pc' := 68) (L' := [.ref l0, .ref l1, .int l2, .int l3]) (S' := [.int l3, .ref v19, .int v18, .ref v17]) rfl ?_
        obtain ⟨v20, ev20, H⟩ := Option.bind_eq_some_iff.mp H
        refine ev_4 hc_X10_addThings (fe_X10_addThings (pc := 68) rfl) (rI_al ev20) ?_
        obtain ⟨h21, eh21, H⟩ := Option.bind_eq_some_iff.mp H
        refine ev_5 hc_X10_addThings (fe_X10_addThings (pc := 69) rfl) (wI_as eh21) ?_
        refine ev_go hc_X10_addThings (k := 2) (pc' := 72) (L' := [.ref l0, .ref l1, .int l2, .int l3]) (S' := [.ref l0, .ref l0]) rfl ?_
        obtain ⟨v22, ev22, H⟩ := Option.bind_eq_some_iff.mp H
        refine ev_4 hc_X10_addThings (fe_X10_addThings (pc := 72) rfl) (gI_gf ev22) ?_
        refine ev_go hc_X10_addThings (k := 2) (pc' := 77) (L' := [.ref l0, .ref l1, .int l2, .int l3]) (S' := [.int (v22 + 1), .ref l0]) rfl ?_
        obtain ⟨h23, eh23, H⟩ := Option.bind_eq_some_iff.mp H
        refine ev_5 hc_X10_addThings (fe_X10_addThings (pc := 77) rfl) (pF_pf eh23) ?_
        refine ev_go hc_X10_addThings (k := 2) (pc' := 2) (L' := [.ref l0, .ref l1, .int l2, .int (l3 + 1)]) (S' := []) rfl ?_
        exact Ev.weak (ci_le_c (Or.inr rfl) (ci_le_c (Or.inr rfl) (ci_le_c (Or.inr rfl) (ci_le_c (Or.inr rfl) (ci_le_n))))) (ih _ _ _ H)
def F_X10_addThings (a0 : Nat) (a1 : Nat) (a2 : Int32) (h : ci_H) : Option (ci_H) := if kO h a0 = some 10 then (b_X10_addThings_2 a0 a1 a2 bigN 0 h) else none
theorem K_X10_addThings {a0 : Nat} {a1 : Nat} {a2 : Int32} {h : ci_H} {r : ci_H} (H : F_X10_addThings a0 a1 a2 h = some r) : kO h a0 = some 10 := by
  unfold F_X10_addThings at H
  by_cases c : kO h a0 = some 10
  · exact c
  · rw [if_neg c] at H; cases H
set_option maxHeartbeats 4000000 in
set_option maxRecDepth 20000 in
theorem E_X10_addThings {xs : Nat → Int32} {N d : Nat} {nx : ci_N} {a0 : Nat} {a1 : Nat} {a2 : Int32} {h : ci_H} {r : ci_H} (H : F_X10_addThings a0 a1 a2 h = some r) (hd : 1 ≤ d) : Ev xs N d 69 0 (ci_entry [.ref a0, .ref a1, .int a2] 4) [] h nx (oV r nx) := by
  obtain ⟨d, rfl⟩ : ∃ d2, d = d2 + 1 := ⟨d - 1, by omega⟩
  have hd : 0 ≤ d := by omega
  unfold F_X10_addThings at H
  by_cases ck : kO h a0 = some 10
  · rw [if_pos ck] at H
    show Ev xs N (d + 1) 69 0 [.ref a0, .ref a1, .int a2, ci_junk] [] h nx _
    refine ev_go hc_X10_addThings (k := 2) (pc' := 2) (L' := [.ref a0, .ref a1, .int a2, .int 0]) (S' := []) rfl ?_
    exact Ev.weak (ci_le_c (Or.inr rfl) (ci_le_c (Or.inr rfl) (ci_le_c (Or.inr rfl) (ci_le_c (Or.inr rfl) (ci_le_n))))) (eb_X10_addThings_2 hd bigN _ _ _ H)
  · rw [if_neg ck] at H; cases H
theorem hc_X10_addKinds : ci_code (ci_Ms 70) = k_X10_addKinds := rfl
theorem fe_X10_addKinds {pc : Nat} {w : Option ci_I} (h : (k_X10_addKinds)[pc]? = some w) : (k_X10_addKinds)[pc]? = some w := h
def b_X10_addKinds_62 (l0 : Nat)  (h : ci_H) : Option (ci_H) := (F_X10_sortThings l0 h).bind fun h1 => some h1
set_option maxHeartbeats 4000000 in
set_option maxRecDepth 20000 in
theorem eb_X10_addKinds_62 {xs : Nat → Int32} {N d : Nat} {nx : ci_N} {l0 : Nat} (hd : 0 ≤ d) {h : ci_H} {r : ci_H} (H : b_X10_addKinds_62 l0 h = some r) : Ev xs N (d + 1) 70 62 [.ref l0, ci_junk, ci_junk, ci_junk] [] h nx (oV r nx) := by
  unfold b_X10_addKinds_62 at H
  refine ev_go hc_X10_addKinds (k := 1) (pc' := 63) (L' := [.ref l0, ci_junk, ci_junk, ci_junk]) (S' := [.ref l0]) rfl ?_
  obtain ⟨h1, eh1, H⟩ := Option.bind_eq_some_iff.mp H
  refine ev_call (vs := [.ref l0]) (rest := []) (q := q_X10_sortThings) hc_X10_addKinds (Or.inr rfl) (fe_X10_addKinds (pc := 63) rfl) ms_71 rfl rfl (Nat.le_of_ble_eq_true rfl) (kO_recv (K_X10_sortThings eh1)) (E_X10_sortThings eh1 (by omega)) rfl ?_
  show Ev xs N (d + 1) 70 66 [.ref l0, ci_junk, ci_junk, ci_junk] [] h1 nx _
  obtain rfl := Option.some.inj H
  exact ev_8 hc_X10_addKinds (fe_X10_addKinds (pc := 66) rfl) rfl
def b_X10_addKinds_2 (l0 : Nat) (l1 : Nat) (l2 : Int32) : Nat → Int32 → ci_H → Option (ci_H)
  | 0, _, _ => none
  | n + 1, l3, h => if l2 ≤ l3 then (b_X10_addKinds_62 l0 h) else ((gI h l0 10 7).bind fun v2 => if 6 ≤ v2 then (b_X10_addKinds_62 l0 h) else ((gR h l0 10 1).bind fun v4 => (gI h l0 10 7).bind fun v5 => (gR h l1 8 1).bind fun v6 => (rI h v6 l3).bind fun v7 => (wI h v4 v5 v7).bind fun h8 => (gR h8 l0 10 2).bind fun v9 => (gI h8 l0 10 7).bind fun v10 => (gR h8 l1 8 2).bind fun v11 => (rI h8 v11 l3).bind fun v12 => (wI h8 v9 v10 v12).bind fun h13 => (gI h13 l0 10 7).bind fun v14 => (pF h13 l0 10 7 (.int (v14 + 1))).bind fun h15 => b_X10_addKinds_2 l0 l1 l2 n (l3 + 1) h15))
set_option maxHeartbeats 4000000 in
set_option maxRecDepth 20000 in
theorem eb_X10_addKinds_2 {xs : Nat → Int32} {N d : Nat} {nx : ci_N} {l0 : Nat} {l1 : Nat} {l2 : Int32} (hd : 0 ≤ d) : ∀ (n : Nat) (l3 : Int32) (h : ci_H) (r : ci_H), b_X10_addKinds_2 l0 l1 l2 n l3 h = some r → Ev xs N (d + 1) 70 2 [.ref l0, .ref l1, .int l2, .int l3] [] h nx (oV r nx) := by
  intro n
  induction n with
  | zero => intro l3 h r H; unfold b_X10_addKinds_2 at H; cases H
  | succ n ih =>
    intro l3 h r H
    unfold b_X10_addKinds_2 at H
    refine ev_go hc_X10_addKinds (k := 2) (pc' := 4) (L' := [.ref l0, .ref l1, .int l2, .int l3]) (S' := [.int l2, .int l3]) rfl ?_
    by_cases c1 : l2 ≤ l3
    · rw [if_pos c1] at H
      refine ev_bt hc_X10_addKinds (fe_X10_addKinds (pc := 4) rfl) rfl c1 ?_
      exact Ev.weak (ci_le_c (Or.inr rfl) (ci_le_c (Or.inl rfl) (ci_le_c (Or.inl rfl) (ci_le_c (Or.inl rfl) (ci_le_n))))) (eb_X10_addKinds_62 hd H)
    · rw [if_neg c1] at H
      refine ev_bf hc_X10_addKinds (fe_X10_addKinds (pc := 4) rfl) rfl c1 ?_
      refine ev_go hc_X10_addKinds (k := 1) (pc' := 8) (L' := [.ref l0, .ref l1, .int l2, .int l3]) (S' := [.ref l0]) rfl ?_
      obtain ⟨v2, ev2, H⟩ := Option.bind_eq_some_iff.mp H
      refine ev_4 hc_X10_addKinds (fe_X10_addKinds (pc := 8) rfl) (gI_gf ev2) ?_
      refine ev_go hc_X10_addKinds (k := 1) (pc' := 13) (L' := [.ref l0, .ref l1, .int l2, .int l3]) (S' := [.int 6, .int v2]) rfl ?_
      by_cases c3 : 6 ≤ v2
      · rw [if_pos c3] at H
        refine ev_bt hc_X10_addKinds (fe_X10_addKinds (pc := 13) rfl) rfl c3 ?_
        exact Ev.weak (ci_le_c (Or.inr rfl) (ci_le_c (Or.inl rfl) (ci_le_c (Or.inl rfl) (ci_le_c (Or.inl rfl) (ci_le_n))))) (eb_X10_addKinds_62 hd H)
      · rw [if_neg c3] at H
        refine ev_bf hc_X10_addKinds (fe_X10_addKinds (pc := 13) rfl) rfl c3 ?_
        refine ev_go hc_X10_addKinds (k := 1) (pc' := 17) (L' := [.ref l0, .ref l1, .int l2, .int l3]) (S' := [.ref l0]) rfl ?_
        obtain ⟨v4, ev4, H⟩ := Option.bind_eq_some_iff.mp H
        refine ev_4 hc_X10_addKinds (fe_X10_addKinds (pc := 17) rfl) (gR_gf ev4) ?_
        refine ev_go hc_X10_addKinds (k := 1) (pc' := 21) (L' := [.ref l0, .ref l1, .int l2, .int l3]) (S' := [.ref l0, .ref v4]) rfl ?_
        obtain ⟨v5, ev5, H⟩ := Option.bind_eq_some_iff.mp H
        refine ev_4 hc_X10_addKinds (fe_X10_addKinds (pc := 21) rfl) (gI_gf ev5) ?_
        refine ev_go hc_X10_addKinds (k := 1) (pc' := 25) (L' := [.ref l0, .ref l1, .int l2, .int l3]) (S' := [.ref l1, .int v5, .ref v4]) rfl ?_
        obtain ⟨v6, ev6, H⟩ := Option.bind_eq_some_iff.mp H
        refine ev_4 hc_X10_addKinds (fe_X10_addKinds (pc := 25) rfl) (gR_gf ev6) ?_
        refine ev_go hc_X10_addKinds (k := 1) (pc' := 29) (L' := [.ref l0, .ref l1, .int l2, .int l3]) (S' := [.int l3, .ref v6, .int v5, .ref v4]) rfl ?_
        obtain ⟨v7, ev7, H⟩ := Option.bind_eq_some_iff.mp H
        refine ev_4 hc_X10_addKinds (fe_X10_addKinds (pc := 29) rfl) (rI_al ev7) ?_
        obtain ⟨h8, eh8, H⟩ := Option.bind_eq_some_iff.mp H
        refine ev_5 hc_X10_addKinds (fe_X10_addKinds (pc := 30) rfl) (wI_as eh8) ?_
        refine ev_go hc_X10_addKinds (k := 1) (pc' := 32) (L' := [.ref l0, .ref l1, .int l2, .int l3]) (S' := [.ref l0]) rfl ?_
        obtain ⟨v9, ev9, H⟩ := Option.bind_eq_some_iff.mp H
        refine ev_4 hc_X10_addKinds (fe_X10_addKinds (pc := 32) rfl) (gR_gf ev9) ?_
        refine ev_go hc_X10_addKinds (k := 1) (pc' := 36) (L' := [.ref l0, .ref l1, .int l2, .int l3]) (S' := [.ref l0, .ref v9]) rfl ?_
        obtain ⟨v10, ev10, H⟩ := Option.bind_eq_some_iff.mp H
        refine ev_4 hc_X10_addKinds (fe_X10_addKinds (pc := 36) rfl) (gI_gf ev10) ?_
        refine ev_go hc_X10_addKinds (k := 1) (pc' := 40) (L' := [.ref l0, .ref l1, .int l2, .int l3]) (S' := [.ref l1, .int v10, .ref v9]) rfl ?_
        obtain ⟨v11, ev11, H⟩ := Option.bind_eq_some_iff.mp H
        refine ev_4 hc_X10_addKinds (fe_X10_addKinds (pc := 40) rfl) (gR_gf ev11) ?_
        refine ev_go hc_X10_addKinds (k := 1) (pc' := 44) (L' := [.ref l0, .ref l1, .int l2, .int l3]) (S' := [.int l3, .ref v11, .int v10, .ref v9]) rfl ?_
        obtain ⟨v12, ev12, H⟩ := Option.bind_eq_some_iff.mp H
        refine ev_4 hc_X10_addKinds (fe_X10_addKinds (pc := 44) rfl) (rI_al ev12) ?_
        obtain ⟨h13, eh13, H⟩ := Option.bind_eq_some_iff.mp H
        refine ev_5 hc_X10_addKinds (fe_X10_addKinds (pc := 45) rfl) (wI_as eh13) ?_
        refine ev_go hc_X10_addKinds (k := 2) (pc' := 48) (L' := [.ref l0, .ref l1, .int l2, .int l3]) (S' := [.ref l0, .ref l0]) rfl ?_
        obtain ⟨v14, ev14, H⟩ := Option.bind_eq_some_iff.mp H
        refine ev_4 hc_X10_addKinds (fe_X10_addKinds (pc := 48) rfl) (gI_gf ev14) ?_
        refine ev_go hc_X10_addKinds (k := 2) (pc' := 53) (L' := [.ref l0, .ref l1, .int l2, .int l3]) (S' := [.int (v14 + 1), .ref l0]) rfl ?_
        obtain ⟨h15, eh15, H⟩ := Option.bind_eq_some_iff.mp H
        refine ev_5 hc_X10_addKinds (fe_X10_addKinds (pc := 53) rfl) (pF_pf eh15) ?_
        refine ev_go hc_X10_addKinds (k := 2) (pc' := 2) (L' := [.ref l0, .ref l1, .int l2, .int (l3 + 1)]) (S' := []) rfl ?_
        exact Ev.weak (ci_le_c (Or.inr rfl) (ci_le_c (Or.inr rfl) (ci_le_c (Or.inr rfl) (ci_le_c (Or.inr rfl) (ci_le_n))))) (ih _ _ _ H)
def F_X10_addKinds (a0 : Nat) (a1 : Nat) (a2 : Int32) (h : ci_H) : Option (ci_H) := if kO h a0 = some 10 then (b_X10_addKinds_2 a0 a1 a2 bigN 0 h) else none
theorem K_X10_addKinds {a0 : Nat} {a1 : Nat} {a2 : Int32} {h : ci_H} {r : ci_H} (H : F_X10_addKinds a0 a1 a2 h = some r) : kO h a0 = some 10 := by
  unfold F_X10_addKinds at H
  by_cases c : kO h a0 = some 10
  · exact c
  · rw [if_neg c] at H; cases H
set_option maxHeartbeats 4000000 in
set_option maxRecDepth 20000 in
theorem E_X10_addKinds {xs : Nat → Int32} {N d : Nat} {nx : ci_N} {a0 : Nat} {a1 : Nat} {a2 : Int32} {h : ci_H} {r : ci_H} (H : F_X10_addKinds a0 a1 a2 h = some r) (hd : 1 ≤ d) : Ev xs N d 70 0 (ci_entry [.ref a0, .ref a1, .int a2] 4) [] h nx (oV r nx) := by
  obtain ⟨d, rfl⟩ : ∃ d2, d = d2 + 1 := ⟨d - 1, by omega⟩
  have hd : 0 ≤ d := by omega
  unfold F_X10_addKinds at H
  by_cases ck : kO h a0 = some 10
  · rw [if_pos ck] at H
    show Ev xs N (d + 1) 70 0 [.ref a0, .ref a1, .int a2, ci_junk] [] h nx _
    refine ev_go hc_X10_addKinds (k := 2) (pc' := 2) (L' := [.ref a0, .ref a1, .int a2, .int 0]) (S' := []) rfl ?_
    exact Ev.weak (ci_le_c (Or.inr rfl) (ci_le_c (Or.inr rfl) (ci_le_c (Or.inr rfl) (ci_le_c (Or.inr rfl) (ci_le_n))))) (eb_X10_addKinds_2 hd bigN _ _ _ H)
  · rw [if_neg ck] at H; cases H
theorem hc_X10_namedBy : ci_code (ci_Ms 72) = k_X10_namedBy := rfl
theorem fe_X10_namedBy {pc : Nat} {w : Option ci_I} (h : (k_X10_namedBy)[pc]? = some w) : (k_X10_namedBy)[pc]? = some w := h
def F_X10_namedBy (a0 : Nat) (a1 : Int32) (h : ci_H) : Option (Int32 × ci_H) := if kO h a0 = some 10 then ((gR h a0 10 1).bind fun v1 => (rI h v1 a1).bind fun v2 => (gR h a0 10 2).bind fun v3 => (rI h v3 a1).bind fun v4 => (F_J6_bitCount_0f7a4 (v2 ||| v4) h).bind fun q5 => some (q5.1, q5.2)) else none
theorem K_X10_namedBy {a0 : Nat} {a1 : Int32} {h : ci_H} {r : Int32 × ci_H} (H : F_X10_namedBy a0 a1 h = some r) : kO h a0 = some 10 := by
  unfold F_X10_namedBy at H
  by_cases c : kO h a0 = some 10
  · exact c
  · rw [if_neg c] at H; cases H
set_option maxHeartbeats 4000000 in
set_option maxRecDepth 20000 in
theorem E_X10_namedBy {xs : Nat → Int32} {N d : Nat} {nx : ci_N} {a0 : Nat} {a1 : Int32} {h : ci_H} {r : Int32 × ci_H} (H : F_X10_namedBy a0 a1 h = some r) (hd : 1 ≤ d) : Ev xs N d 72 0 (ci_entry [.ref a0, .int a1] 2) [] h nx (oI r nx) := by
  obtain ⟨d, rfl⟩ : ∃ d2, d = d2 + 1 := ⟨d - 1, by omega⟩
  have hd : 0 ≤ d := by omega
  unfold F_X10_namedBy at H
  by_cases ck : kO h a0 = some 10
  · rw [if_pos ck] at H
    show Ev xs N (d + 1) 72 0 [.ref a0, .int a1] [] h nx _
    refine ev_go hc_X10_namedBy (k := 1) (pc' := 1) (L' := [.ref a0, .int a1]) (S' := [.ref a0]) rfl ?_
    obtain ⟨v1, ev1, H⟩ := Option.bind_eq_some_iff.mp H
    refine ev_4 hc_X10_namedBy (fe_X10_namedBy (pc := 1) rfl) (gR_gf ev1) ?_
    refine ev_go hc_X10_namedBy (k := 1) (pc' := 5) (L' := [.ref a0, .int a1]) (S' := [.int a1, .ref v1]) rfl ?_
    obtain ⟨v2, ev2, H⟩ := Option.bind_eq_some_iff.mp H
    refine ev_4 hc_X10_namedBy (fe_X10_namedBy (pc := 5) rfl) (rI_al ev2) ?_
    refine ev_go hc_X10_namedBy (k := 1) (pc' := 7) (L' := [.ref a0, .int a1]) (S' := [.ref a0, .int v2]) rfl ?_
    obtain ⟨v3, ev3, H⟩ := Option.bind_eq_some_iff.mp H
    refine ev_4 hc_X10_namedBy (fe_X10_namedBy (pc := 7) rfl) (gR_gf ev3) ?_
    refine ev_go hc_X10_namedBy (k := 1) (pc' := 11) (L' := [.ref a0, .int a1]) (S' := [.int a1, .ref v3, .int v2]) rfl ?_
    obtain ⟨v4, ev4, H⟩ := Option.bind_eq_some_iff.mp H
    refine ev_4 hc_X10_namedBy (fe_X10_namedBy (pc := 11) rfl) (rI_al ev4) ?_
    refine ev_go hc_X10_namedBy (k := 1) (pc' := 13) (L' := [.ref a0, .int a1]) (S' := [.int (v2 ||| v4)]) rfl ?_
    obtain ⟨q5, eq5, H⟩ := Option.bind_eq_some_iff.mp H
    refine ev_call (vs := [.int (v2 ||| v4)]) (rest := []) (q := q_J6_bitCount_0f7a4) hc_X10_namedBy (Or.inl rfl) (fe_X10_namedBy (pc := 13) rfl) ms_285 rfl rfl (Nat.le_of_ble_eq_true rfl) rfl (E_J6_bitCount_0f7a4 eq5 (by omega)) rfl ?_
    show Ev xs N (d + 1) 72 16 [.ref a0, .int a1] [.int q5.1] q5.2 nx _
    obtain rfl := Option.some.inj H
    exact ev_8 hc_X10_namedBy (fe_X10_namedBy (pc := 16) rfl) rfl
  · rw [if_neg ck] at H; cases H
theorem hc_X10_havingAll : ci_code (ci_Ms 74) = k_X10_havingAll := rfl
theorem fe_X10_havingAll {pc : Nat} {w : Option ci_I} (h : (k_X10_havingAll)[pc]? = some w) : (k_X10_havingAll)[pc]? = some w := h
def b_X10_havingAll_33 (r_4 : Int32 → Int32 → ci_H → Option (Int32 × ci_H)) (l0 : Nat) (l1 : Int32) (l2 : Int32) (l3 : Int32)  (h : ci_H) : Option (Int32 × ci_H) := r_4 l2 (l3 + 1) h
set_option maxHeartbeats 4000000 in
set_option maxRecDepth 20000 in
theorem eb_X10_havingAll_33 {xs : Nat → Int32} {N d : Nat} {nx : ci_N} {r_4 : Int32 → Int32 → ci_H → Option (Int32 × ci_H)} {l0 : Nat} {l1 : Int32} {l2 : Int32} {l3 : Int32} (h_4 : ∀ (l2 : Int32) (l3 : Int32) (h : ci_H) (r : Int32 × ci_H), r_4 l2 l3 h = some r → Ev xs N d 74 4 [.ref l0, .int l1, .int l2, .int l3] [] h nx (oI r nx)) {h : ci_H} {r : Int32 × ci_H} (H : b_X10_havingAll_33 r_4 l0 l1 l2 l3 h = some r) : Ev xs N d 74 33 [.ref l0, .int l1, .int l2, .int l3] [] h nx (oI r nx) := by
  unfold b_X10_havingAll_33 at H
  refine ev_go hc_X10_havingAll (k := 2) (pc' := 4) (L' := [.ref l0, .int l1, .int l2, .int (l3 + 1)]) (S' := []) rfl ?_
  exact Ev.weak (ci_le_c (Or.inr rfl) (ci_le_c (Or.inr rfl) (ci_le_c (Or.inr rfl) (ci_le_c (Or.inr rfl) (ci_le_n))))) (h_4 _ _ _ _ H)
def b_X10_havingAll_4 (l0 : Nat) (l1 : Int32) : Nat → Int32 → Int32 → ci_H → Option (Int32 × ci_H)
  | 0, _, _, _ => none
  | n + 1, l2, l3, h => (gI h l0 10 6).bind fun v1 => if v1 ≤ l3 then (some (l2, h)) else ((gR h l0 10 0).bind fun v3 => (gR h v3 6 2).bind fun v4 => (rI h v4 l3).bind fun v5 => if (v5 &&& l1) = l1 then (b_X10_havingAll_33 (fun x0 x1 x2 => b_X10_havingAll_4 l0 l1 n x0 x1 x2) l0 l1 (l2 ||| ((1 : Int32) <<< (l3 &&& 31))) l3 h) else (b_X10_havingAll_33 (fun x0 x1 x2 => b_X10_havingAll_4 l0 l1 n x0 x1 x2) l0 l1 l2 l3 h))
set_option maxHeartbeats 4000000 in
set_option maxRecDepth 20000 in
theorem eb_X10_havingAll_4 {xs : Nat → Int32} {N d : Nat} {nx : ci_N} {l0 : Nat} {l1 : Int32} : ∀ (n : Nat) (l2 : Int32) (l3 : Int32) (h : ci_H) (r : Int32 × ci_H), b_X10_havingAll_4 l0 l1 n l2 l3 h = some r → Ev xs N d 74 4 [.ref l0, .int l1, .int l2, .int l3] [] h nx (oI r nx) := by
  intro n
  induction n with
  | zero => intro l2 l3 h r H; unfold b_X10_havingAll_4 at H; cases H
  | succ n ih =>
    intro l2 l3 h r H
    unfold b_X10_havingAll_4 at H
    refine ev_go hc_X10_havingAll (k := 2) (pc' := 6) (L' := [.ref l0, .int l1, .int l2, .int l3]) (S' := [.ref l0, .int l3]) rfl ?_
    obtain ⟨v1, ev1, H⟩ := Option.bind_eq_some_iff.mp H
    refine ev_4 hc_X10_havingAll (fe_X10_havingAll (pc := 6) rfl) (gI_gf ev1) ?_
    by_cases c2 : v1 ≤ l3
    · rw [if_pos c2] at H
      refine ev_bt hc_X10_havingAll (fe_X10_havingAll (pc := 9) rfl) rfl c2 ?_
      refine ev_go hc_X10_havingAll (k := 1) (pc' := 40) (L' := [.ref l0, .int l1, .int l2, .int l3]) (S' := [.int l2]) rfl ?_
      obtain rfl := Option.some.inj H
      exact ev_8 hc_X10_havingAll (fe_X10_havingAll (pc := 40) rfl) rfl
    · rw [if_neg c2] at H
      refine ev_bf hc_X10_havingAll (fe_X10_havingAll (pc := 9) rfl) rfl c2 ?_
      refine ev_go hc_X10_havingAll (k := 1) (pc' := 13) (L' := [.ref l0, .int l1, .int l2, .int l3]) (S' := [.ref l0]) rfl ?_
      obtain ⟨v3, ev3, H⟩ := Option.bind_eq_some_iff.mp H
      refine ev_4 hc_X10_havingAll (fe_X10_havingAll (pc := 13) rfl) (gR_gf ev3) ?_
      obtain ⟨v4, ev4, H⟩ := Option.bind_eq_some_iff.mp H
      refine ev_4 hc_X10_havingAll (fe_X10_havingAll (pc := 16) rfl) (gR_gf ev4) ?_
      refine ev_go hc_X10_havingAll (k := 1) (pc' := 20) (L' := [.ref l0, .int l1, .int l2, .int l3]) (S' := [.int l3, .ref v4]) rfl ?_
      obtain ⟨v5, ev5, H⟩ := Option.bind_eq_some_iff.mp H
      refine ev_4 hc_X10_havingAll (fe_X10_havingAll (pc := 20) rfl) (rI_al ev5) ?_
      refine ev_go hc_X10_havingAll (k := 3) (pc' := 24) (L' := [.ref l0, .int l1, .int l2, .int l3]) (S' := [.int l1, .int (v5 &&& l1)]) rfl ?_
      by_cases c6 : (v5 &&& l1) = l1
      · rw [if_pos c6] at H
        refine ev_bt hc_X10_havingAll (fe_X10_havingAll (pc := 24) rfl) rfl c6 ?_
        refine ev_go hc_X10_havingAll (k := 6) (pc' := 33) (L' := [.ref l0, .int l1, .int (l2 ||| ((1 : Int32) <<< (l3 &&& 31))), .int l3]) (S' := []) rfl ?_
        exact Ev.weak (ci_le_c (Or.inr rfl) (ci_le_c (Or.inr rfl) (ci_le_c (Or.inr rfl) (ci_le_c (Or.inr rfl) (ci_le_n))))) (eb_X10_havingAll_33 ih H)
      · rw [if_neg c6] at H
        refine ev_bf hc_X10_havingAll (fe_X10_havingAll (pc := 24) rfl) rfl c6 ?_
        exact Ev.weak (ci_le_c (Or.inr rfl) (ci_le_c (Or.inr rfl) (ci_le_c (Or.inr rfl) (ci_le_c (Or.inr rfl) (ci_le_n))))) (eb_X10_havingAll_33 ih H)
def F_X10_havingAll (a0 : Nat) (a1 : Int32) (h : ci_H) : Option (Int32 × ci_H) := if kO h a0 = some 10 then (b_X10_havingAll_4 a0 a1 bigN 0 0 h) else none
theorem K_X10_havingAll {a0 : Nat} {a1 : Int32} {h : ci_H} {r : Int32 × ci_H} (H : F_X10_havingAll a0 a1 h = some r) : kO h a0 = some 10 := by
  unfold F_X10_havingAll at H
  by_cases c : kO h a0 = some 10
  · exact c
  · rw [if_neg c] at H; cases H
set_option maxHeartbeats 4000000 in
set_option maxRecDepth 20000 in
theorem E_X10_havingAll {xs : Nat → Int32} {N d : Nat} {nx : ci_N} {a0 : Nat} {a1 : Int32} {h : ci_H} {r : Int32 × ci_H} (H : F_X10_havingAll a0 a1 h = some r) (hd : 0 ≤ d) : Ev xs N d 74 0 (ci_entry [.ref a0, .int a1] 4) [] h nx (oI r nx) := by
  unfold F_X10_havingAll at H
  by_cases ck : kO h a0 = some 10
  · rw [if_pos ck] at H
    show Ev xs N d 74 0 [.ref a0, .int a1, ci_junk, ci_junk] [] h nx _
    refine ev_go hc_X10_havingAll (k := 4) (pc' := 4) (L' := [.ref a0, .int a1, .int 0, .int 0]) (S' := []) rfl ?_
    exact Ev.weak (ci_le_c (Or.inr rfl) (ci_le_c (Or.inr rfl) (ci_le_c (Or.inr rfl) (ci_le_c (Or.inr rfl) (ci_le_n))))) (eb_X10_havingAll_4 bigN _ _ _ _ H)
  · rw [if_neg ck] at H; cases H
theorem hc_X10_lentOnes : ci_code (ci_Ms 78) = k_X10_lentOnes := rfl
theorem fe_X10_lentOnes {pc : Nat} {w : Option ci_I} (h : (k_X10_lentOnes)[pc]? = some w) : (k_X10_lentOnes)[pc]? = some w := h
def b_X10_lentOnes_26 (r_4 : Int32 → Int32 → ci_H → Option (Int32 × ci_H)) (l0 : Nat) (l1 : Int32) (l2 : Int32)  (h : ci_H) : Option (Int32 × ci_H) := r_4 l1 (l2 + 1) h
set_option maxHeartbeats 4000000 in
set_option maxRecDepth 20000 in
theorem eb_X10_lentOnes_26 {xs : Nat → Int32} {N d : Nat} {nx : ci_N} {r_4 : Int32 → Int32 → ci_H → Option (Int32 × ci_H)} {l0 : Nat} {l1 : Int32} {l2 : Int32} (hd : 0 ≤ d) (h_4 : ∀ (l1 : Int32) (l2 : Int32) (h : ci_H) (r : Int32 × ci_H), r_4 l1 l2 h = some r → Ev xs N (d + 1) 78 4 [.ref l0, .int l1, .int l2] [] h nx (oI r nx)) {h : ci_H} {r : Int32 × ci_H} (H : b_X10_lentOnes_26 r_4 l0 l1 l2 h = some r) : Ev xs N (d + 1) 78 26 [.ref l0, .int l1, .int l2] [] h nx (oI r nx) := by
  unfold b_X10_lentOnes_26 at H
  refine ev_go hc_X10_lentOnes (k := 2) (pc' := 4) (L' := [.ref l0, .int l1, .int (l2 + 1)]) (S' := []) rfl ?_
  exact Ev.weak (ci_le_c (Or.inr rfl) (ci_le_c (Or.inr rfl) (ci_le_c (Or.inr rfl) (ci_le_n)))) (h_4 _ _ _ _ H)
def b_X10_lentOnes_4 (l0 : Nat) : Nat → Int32 → Int32 → ci_H → Option (Int32 × ci_H)
  | 0, _, _, _ => none
  | n + 1, l1, l2, h => (gI h l0 10 6).bind fun v1 => if v1 ≤ l2 then (some (l1, h)) else ((F_X10_isLent l0 l2 h).bind fun q3 => if q3.1 = 0 then (b_X10_lentOnes_26 (fun x0 x1 x2 => b_X10_lentOnes_4 l0 n x0 x1 x2) l0 l1 l2 q3.2) else (b_X10_lentOnes_26 (fun x0 x1 x2 => b_X10_lentOnes_4 l0 n x0 x1 x2) l0 (l1 ||| ((1 : Int32) <<< (l2 &&& 31))) l2 q3.2))
set_option maxHeartbeats 4000000 in
set_option maxRecDepth 20000 in
theorem eb_X10_lentOnes_4 {xs : Nat → Int32} {N d : Nat} {nx : ci_N} {l0 : Nat} (hd : 0 ≤ d) : ∀ (n : Nat) (l1 : Int32) (l2 : Int32) (h : ci_H) (r : Int32 × ci_H), b_X10_lentOnes_4 l0 n l1 l2 h = some r → Ev xs N (d + 1) 78 4 [.ref l0, .int l1, .int l2] [] h nx (oI r nx) := by
  intro n
  induction n with
  | zero => intro l1 l2 h r H; unfold b_X10_lentOnes_4 at H; cases H
  | succ n ih =>
    intro l1 l2 h r H
    unfold b_X10_lentOnes_4 at H
    refine ev_go hc_X10_lentOnes (k := 2) (pc' := 6) (L' := [.ref l0, .int l1, .int l2]) (S' := [.ref l0, .int l2]) rfl ?_
    obtain ⟨v1, ev1, H⟩ := Option.bind_eq_some_iff.mp H
    refine ev_4 hc_X10_lentOnes (fe_X10_lentOnes (pc := 6) rfl) (gI_gf ev1) ?_
    by_cases c2 : v1 ≤ l2
    · rw [if_pos c2] at H
      refine ev_bt hc_X10_lentOnes (fe_X10_lentOnes (pc := 9) rfl) rfl c2 ?_
      refine ev_go hc_X10_lentOnes (k := 1) (pc' := 33) (L' := [.ref l0, .int l1, .int l2]) (S' := [.int l1]) rfl ?_
      obtain rfl := Option.some.inj H
      exact ev_8 hc_X10_lentOnes (fe_X10_lentOnes (pc := 33) rfl) rfl
    · rw [if_neg c2] at H
      refine ev_bf hc_X10_lentOnes (fe_X10_lentOnes (pc := 9) rfl) rfl c2 ?_
      refine ev_go hc_X10_lentOnes (k := 2) (pc' := 14) (L' := [.ref l0, .int l1, .int l2]) (S' := [.int l2, .ref l0]) rfl ?_
      obtain ⟨q3, eq3, H⟩ := Option.bind_eq_some_iff.mp H
      refine ev_call (vs := [.ref l0, .int l2]) (rest := []) (q := q_X10_isLent) hc_X10_lentOnes (Or.inr rfl) (fe_X10_lentOnes (pc := 14) rfl) ms_66 rfl rfl (Nat.le_of_ble_eq_true rfl) (kO_recv (K_X10_isLent eq3)) (E_X10_isLent eq3 (by omega)) rfl ?_
      show Ev xs N (d + 1) 78 17 [.ref l0, .int l1, .int l2] [.int q3.1] q3.2 nx _
      by_cases c4 : q3.1 = 0
      · rw [if_pos c4] at H
        refine ev_bt hc_X10_lentOnes (fe_X10_lentOnes (pc := 17) rfl) rfl c4 ?_
        exact Ev.weak (ci_le_c (Or.inr rfl) (ci_le_c (Or.inr rfl) (ci_le_c (Or.inr rfl) (ci_le_n)))) (eb_X10_lentOnes_26 hd ih H)
      · rw [if_neg c4] at H
        refine ev_bf hc_X10_lentOnes (fe_X10_lentOnes (pc := 17) rfl) rfl c4 ?_
        refine ev_go hc_X10_lentOnes (k := 6) (pc' := 26) (L' := [.ref l0, .int (l1 ||| ((1 : Int32) <<< (l2 &&& 31))), .int l2]) (S' := []) rfl ?_
        exact Ev.weak (ci_le_c (Or.inr rfl) (ci_le_c (Or.inr rfl) (ci_le_c (Or.inr rfl) (ci_le_n)))) (eb_X10_lentOnes_26 hd ih H)
def F_X10_lentOnes (a0 : Nat) (h : ci_H) : Option (Int32 × ci_H) := if kO h a0 = some 10 then (b_X10_lentOnes_4 a0 bigN 0 0 h) else none
theorem K_X10_lentOnes {a0 : Nat} {h : ci_H} {r : Int32 × ci_H} (H : F_X10_lentOnes a0 h = some r) : kO h a0 = some 10 := by
  unfold F_X10_lentOnes at H
  by_cases c : kO h a0 = some 10
  · exact c
  · rw [if_neg c] at H; cases H
set_option maxHeartbeats 4000000 in
set_option maxRecDepth 20000 in
theorem E_X10_lentOnes {xs : Nat → Int32} {N d : Nat} {nx : ci_N} {a0 : Nat} {h : ci_H} {r : Int32 × ci_H} (H : F_X10_lentOnes a0 h = some r) (hd : 1 ≤ d) : Ev xs N d 78 0 (ci_entry [.ref a0] 3) [] h nx (oI r nx) := by
  obtain ⟨d, rfl⟩ : ∃ d2, d = d2 + 1 := ⟨d - 1, by omega⟩
  have hd : 0 ≤ d := by omega
  unfold F_X10_lentOnes at H
  by_cases ck : kO h a0 = some 10
  · rw [if_pos ck] at H
    show Ev xs N (d + 1) 78 0 [.ref a0, ci_junk, ci_junk] [] h nx _
    refine ev_go hc_X10_lentOnes (k := 4) (pc' := 4) (L' := [.ref a0, .int 0, .int 0]) (S' := []) rfl ?_
    exact Ev.weak (ci_le_c (Or.inr rfl) (ci_le_c (Or.inr rfl) (ci_le_c (Or.inr rfl) (ci_le_n)))) (eb_X10_lentOnes_4 hd bigN _ _ _ _ H)
  · rw [if_neg ck] at H; cases H
theorem hc_X10_keepersOf : ci_code (ci_Ms 79) = k_X10_keepersOf := rfl
theorem fe_X10_keepersOf {pc : Nat} {w : Option ci_I} (h : (k_X10_keepersOf)[pc]? = some w) : (k_X10_keepersOf)[pc]? = some w := h
def b_X10_keepersOf_47 (r_4 : Int32 → Int32 → ci_H → Option (Int32 × ci_H)) (l0 : Nat) (l1 : Int32) (l2 : Int32) (l3 : Int32)  (h : ci_H) : Option (Int32 × ci_H) := r_4 l2 (l3 + 1) h
set_option maxHeartbeats 4000000 in
set_option maxRecDepth 20000 in
theorem eb_X10_keepersOf_47 {xs : Nat → Int32} {N d : Nat} {nx : ci_N} {r_4 : Int32 → Int32 → ci_H → Option (Int32 × ci_H)} {l0 : Nat} {l1 : Int32} {l2 : Int32} {l3 : Int32} (h_4 : ∀ (l2 : Int32) (l3 : Int32) (h : ci_H) (r : Int32 × ci_H), r_4 l2 l3 h = some r → Ev xs N d 79 4 [.ref l0, .int l1, .int l2, .int l3] [] h nx (oI r nx)) {h : ci_H} {r : Int32 × ci_H} (H : b_X10_keepersOf_47 r_4 l0 l1 l2 l3 h = some r) : Ev xs N d 79 47 [.ref l0, .int l1, .int l2, .int l3] [] h nx (oI r nx) := by
  unfold b_X10_keepersOf_47 at H
  refine ev_go hc_X10_keepersOf (k := 2) (pc' := 4) (L' := [.ref l0, .int l1, .int l2, .int (l3 + 1)]) (S' := []) rfl ?_
  exact Ev.weak (ci_le_c (Or.inr rfl) (ci_le_c (Or.inr rfl) (ci_le_c (Or.inr rfl) (ci_le_c (Or.inr rfl) (ci_le_n))))) (h_4 _ _ _ _ H)
def b_X10_keepersOf_4 (l0 : Nat) (l1 : Int32) : Nat → Int32 → Int32 → ci_H → Option (Int32 × ci_H)
  | 0, _, _, _ => none
  | n + 1, l2, l3, h => (gI h l0 10 6).bind fun v1 => if v1 ≤ l3 then (some (l2, h)) else (if ((l1 >>> (l3 &&& 31)) &&& 1) = 0 then (b_X10_keepersOf_47 (fun x0 x1 x2 => b_X10_keepersOf_4 l0 l1 n x0 x1 x2) l0 l1 l2 l3 h) else ((gR h l0 10 0).bind fun v4 => (gR h v4 6 1).bind fun v5 => (rI h v5 l3).bind fun v6 => if v6 = ((-1)) then (b_X10_keepersOf_47 (fun x0 x1 x2 => b_X10_keepersOf_4 l0 l1 n x0 x1 x2) l0 l1 l2 l3 h) else ((gR h l0 10 0).bind fun v8 => (gR h v8 6 1).bind fun v9 => (rI h v9 l3).bind fun v10 => b_X10_keepersOf_47 (fun x0 x1 x2 => b_X10_keepersOf_4 l0 l1 n x0 x1 x2) l0 l1 (l2 ||| ((1 : Int32) <<< (v10 &&& 31))) l3 h)))
set_option maxHeartbeats 4000000 in
set_option maxRecDepth 20000 in
theorem eb_X10_keepersOf_4 {xs : Nat → Int32} {N d : Nat} {nx : ci_N} {l0 : Nat} {l1 : Int32} : ∀ (n : Nat) (l2 : Int32) (l3 : Int32) (h : ci_H) (r : Int32 × ci_H), b_X10_keepersOf_4 l0 l1 n l2 l3 h = some r → Ev xs N d 79 4 [.ref l0, .int l1, .int l2, .int l3] [] h nx (oI r nx) := by
  intro n
  induction n with
  | zero => intro l2 l3 h r H; unfold b_X10_keepersOf_4 at H; cases H
  | succ n ih =>
    intro l2 l3 h r H
    unfold b_X10_keepersOf_4 at H
    refine ev_go hc_X10_keepersOf (k := 2) (pc' := 6) (L' := [.ref l0, .int l1, .int l2, .int l3]) (S' := [.ref l0, .int l3]) rfl ?_
    obtain ⟨v1, ev1, H⟩ := Option.bind_eq_some_iff.mp H
    refine ev_4 hc_X10_keepersOf (fe_X10_keepersOf (pc := 6) rfl) (gI_gf ev1) ?_
    by_cases c2 : v1 ≤ l3
    · rw [if_pos c2] at H
      refine ev_bt hc_X10_keepersOf (fe_X10_keepersOf (pc := 9) rfl) rfl c2 ?_
      refine ev_go hc_X10_keepersOf (k := 1) (pc' := 54) (L' := [.ref l0, .int l1, .int l2, .int l3]) (S' := [.int l2]) rfl ?_
      obtain rfl := Option.some.inj H
      exact ev_8 hc_X10_keepersOf (fe_X10_keepersOf (pc := 54) rfl) rfl
    · rw [if_neg c2] at H
      refine ev_bf hc_X10_keepersOf (fe_X10_keepersOf (pc := 9) rfl) rfl c2 ?_
      refine ev_go hc_X10_keepersOf (k := 5) (pc' := 17) (L' := [.ref l0, .int l1, .int l2, .int l3]) (S' := [.int ((l1 >>> (l3 &&& 31)) &&& 1)]) rfl ?_
      by_cases c3 : ((l1 >>> (l3 &&& 31)) &&& 1) = 0
      · rw [if_pos c3] at H
        refine ev_bt hc_X10_keepersOf (fe_X10_keepersOf (pc := 17) rfl) rfl c3 ?_
        exact Ev.weak (ci_le_c (Or.inr rfl) (ci_le_c (Or.inr rfl) (ci_le_c (Or.inr rfl) (ci_le_c (Or.inr rfl) (ci_le_n))))) (eb_X10_keepersOf_47 ih H)
      · rw [if_neg c3] at H
        refine ev_bf hc_X10_keepersOf (fe_X10_keepersOf (pc := 17) rfl) rfl c3 ?_
        refine ev_go hc_X10_keepersOf (k := 1) (pc' := 21) (L' := [.ref l0, .int l1, .int l2, .int l3]) (S' := [.ref l0]) rfl ?_
        obtain ⟨v4, ev4, H⟩ := Option.bind_eq_some_iff.mp H
        refine ev_4 hc_X10_keepersOf (fe_X10_keepersOf (pc := 21) rfl) (gR_gf ev4) ?_
        obtain ⟨v5, ev5, H⟩ := Option.bind_eq_some_iff.mp H
        refine ev_4 hc_X10_keepersOf (fe_X10_keepersOf (pc := 24) rfl) (gR_gf ev5) ?_
        refine ev_go hc_X10_keepersOf (k := 1) (pc' := 28) (L' := [.ref l0, .int l1, .int l2, .int l3]) (S' := [.int l3, .ref v5]) rfl ?_
        obtain ⟨v6, ev6, H⟩ := Option.bind_eq_some_iff.mp H
        refine ev_4 hc_X10_keepersOf (fe_X10_keepersOf (pc := 28) rfl) (rI_al ev6) ?_
        refine ev_go hc_X10_keepersOf (k := 1) (pc' := 30) (L' := [.ref l0, .int l1, .int l2, .int l3]) (S' := [.int ((-1)), .int v6]) rfl ?_
        by_cases c7 : v6 = ((-1))
        · rw [if_pos c7] at H
          refine ev_bt hc_X10_keepersOf (fe_X10_keepersOf (pc := 30) rfl) rfl c7 ?_
          exact Ev.weak (ci_le_c (Or.inr rfl) (ci_le_c (Or.inr rfl) (ci_le_c (Or.inr rfl) (ci_le_c (Or.inr rfl) (ci_le_n))))) (eb_X10_keepersOf_47 ih H)
        · rw [if_neg c7] at H
          refine ev_bf hc_X10_keepersOf (fe_X10_keepersOf (pc := 30) rfl) rfl c7 ?_
          refine ev_go hc_X10_keepersOf (k := 3) (pc' := 36) (L' := [.ref l0, .int l1, .int l2, .int l3]) (S' := [.ref l0, .int 1, .int l2]) rfl ?_
          obtain ⟨v8, ev8, H⟩ := Option.bind_eq_some_iff.mp H
          refine ev_4 hc_X10_keepersOf (fe_X10_keepersOf (pc := 36) rfl) (gR_gf ev8) ?_
          obtain ⟨v9, ev9, H⟩ := Option.bind_eq_some_iff.mp H
          refine ev_4 hc_X10_keepersOf (fe_X10_keepersOf (pc := 39) rfl) (gR_gf ev9) ?_
          refine ev_go hc_X10_keepersOf (k := 1) (pc' := 43) (L' := [.ref l0, .int l1, .int l2, .int l3]) (S' := [.int l3, .ref v9, .int 1, .int l2]) rfl ?_
          obtain ⟨v10, ev10, H⟩ := Option.bind_eq_some_iff.mp H
          refine ev_4 hc_X10_keepersOf (fe_X10_keepersOf (pc := 43) rfl) (rI_al ev10) ?_
          refine ev_go hc_X10_keepersOf (k := 3) (pc' := 47) (L' := [.ref l0, .int l1, .int (l2 ||| ((1 : Int32) <<< (v10 &&& 31))), .int l3]) (S' := []) rfl ?_
          exact Ev.weak (ci_le_c (Or.inr rfl) (ci_le_c (Or.inr rfl) (ci_le_c (Or.inr rfl) (ci_le_c (Or.inr rfl) (ci_le_n))))) (eb_X10_keepersOf_47 ih H)
def F_X10_keepersOf (a0 : Nat) (a1 : Int32) (h : ci_H) : Option (Int32 × ci_H) := if kO h a0 = some 10 then (b_X10_keepersOf_4 a0 a1 bigN 0 0 h) else none
theorem K_X10_keepersOf {a0 : Nat} {a1 : Int32} {h : ci_H} {r : Int32 × ci_H} (H : F_X10_keepersOf a0 a1 h = some r) : kO h a0 = some 10 := by
  unfold F_X10_keepersOf at H
  by_cases c : kO h a0 = some 10
  · exact c
  · rw [if_neg c] at H; cases H
set_option maxHeartbeats 4000000 in
set_option maxRecDepth 20000 in
theorem E_X10_keepersOf {xs : Nat → Int32} {N d : Nat} {nx : ci_N} {a0 : Nat} {a1 : Int32} {h : ci_H} {r : Int32 × ci_H} (H : F_X10_keepersOf a0 a1 h = some r) (hd : 0 ≤ d) : Ev xs N d 79 0 (ci_entry [.ref a0, .int a1] 4) [] h nx (oI r nx) := by
  unfold F_X10_keepersOf at H
  by_cases ck : kO h a0 = some 10
  · rw [if_pos ck] at H
    show Ev xs N d 79 0 [.ref a0, .int a1, ci_junk, ci_junk] [] h nx _
    refine ev_go hc_X10_keepersOf (k := 4) (pc' := 4) (L' := [.ref a0, .int a1, .int 0, .int 0]) (S' := []) rfl ?_
    exact Ev.weak (ci_le_c (Or.inr rfl) (ci_le_c (Or.inr rfl) (ci_le_c (Or.inr rfl) (ci_le_c (Or.inr rfl) (ci_le_n))))) (eb_X10_keepersOf_4 bigN _ _ _ _ H)
  · rw [if_neg ck] at H; cases H
theorem hc_X10_tooManyIn : ci_code (ci_Ms 81) = k_X10_tooManyIn := rfl
theorem fe_X10_tooManyIn {pc : Nat} {w : Option ci_I} (h : (k_X10_tooManyIn)[pc]? = some w) : (k_X10_tooManyIn)[pc]? = some w := h
def b_X10_tooManyIn_4 (l0 : Nat) (l1 : Int32) : Nat → Int32 → Int32 → ci_H → Option (Int32 × ci_H)
  | 0, _, _, _ => none
  | n + 1, l2, l3, h => (gI h l0 10 7).bind fun v1 => if v1 ≤ l3 then (some (l2, h)) else ((gR h l0 10 3).bind fun v3 => (rI h v3 l3).bind fun v4 => (F_J6_bitCount_0f7a4 (l1 &&& v4) h).bind fun q5 => (gI q5.2 l0 10 8).bind fun v6 => b_X10_tooManyIn_4 l0 l1 n (l2 + (if 0 < (q5.1 - v6) then q5.1 - v6 else 0)) (l3 + 1) q5.2)
set_option maxHeartbeats 4000000 in
set_option maxRecDepth 20000 in
theorem eb_X10_tooManyIn_4 {xs : Nat → Int32} {N d : Nat} {nx : ci_N} {l0 : Nat} {l1 : Int32} (hd : 0 ≤ d) : ∀ (n : Nat) (l2 : Int32) (l3 : Int32) (h : ci_H) (r : Int32 × ci_H), b_X10_tooManyIn_4 l0 l1 n l2 l3 h = some r → Ev xs N (d + 1) 81 4 [.ref l0, .int l1, .int l2, .int l3] [] h nx (oI r nx) := by
  intro n
  induction n with
  | zero => intro l2 l3 h r H; unfold b_X10_tooManyIn_4 at H; cases H
  | succ n ih =>
    intro l2 l3 h r H
    unfold b_X10_tooManyIn_4 at H
    refine ev_go hc_X10_tooManyIn (k := 2) (pc' := 6) (L' := [.ref l0, .int l1, .int l2, .int l3]) (S' := [.ref l0, .int l3]) rfl ?_
    obtain ⟨v1, ev1, H⟩ := Option.bind_eq_some_iff.mp H
    refine ev_4 hc_X10_tooManyIn (fe_X10_tooManyIn (pc := 6) rfl) (gI_gf ev1) ?_
    by_cases c2 : v1 ≤ l3
    · rw [if_pos c2] at H
      refine ev_bt hc_X10_tooManyIn (fe_X10_tooManyIn (pc := 9) rfl) rfl c2 ?_
      refine ev_go hc_X10_tooManyIn (k := 1) (pc' := 42) (L' := [.ref l0, .int l1, .int l2, .int l3]) (S' := [.int l2]) rfl ?_
      obtain rfl := Option.some.inj H
      exact ev_8 hc_X10_tooManyIn (fe_X10_tooManyIn (pc := 42) rfl) rfl
    · rw [if_neg c2] at H
      refine ev_bf hc_X10_tooManyIn (fe_X10_tooManyIn (pc := 9) rfl) rfl c2 ?_
      refine ev_go hc_X10_tooManyIn (k := 4) (pc' := 16) (L' := [.ref l0, .int l1, .int l2, .int l3]) (S' := [.ref l0, .int l1, .int 0, .int l2]) rfl ?_
      obtain ⟨v3, ev3, H⟩ := Option.bind_eq_some_iff.mp H
      refine ev_4 hc_X10_tooManyIn (fe_X10_tooManyIn (pc := 16) rfl) (gR_gf ev3) ?_
      refine ev_go hc_X10_tooManyIn (k := 1) (pc' := 20) (L' := [.ref l0, .int l1, .int l2, .int l3]) (S' := [.int l3, .ref v3, .int l1, .int 0, .int l2]) rfl ?_
      obtain ⟨v4, ev4, H⟩ := Option.bind_eq_some_iff.mp H
      refine ev_4 hc_X10_tooManyIn (fe_X10_tooManyIn (pc := 20) rfl) (rI_al ev4) ?_
      refine ev_go hc_X10_tooManyIn (k := 1) (pc' := 22) (L' := [.ref l0, .int l1, .int l2, .int l3]) (S' := [.int (l1 &&& v4), .int 0, .int l2]) rfl ?_
      obtain ⟨q5, eq5, H⟩ := Option.bind_eq_some_iff.mp H
      refine ev_call (vs := [.int (l1 &&& v4)]) (rest := [.int 0, .int l2]) (q := q_J6_bitCount_0f7a4) hc_X10_tooManyIn (Or.inl rfl) (fe_X10_tooManyIn (pc := 22) rfl) ms_285 rfl rfl (Nat.le_of_ble_eq_true rfl) rfl (E_J6_bitCount_0f7a4 eq5 (by omega)) rfl ?_
      show Ev xs N (d + 1) 81 25 [.ref l0, .int l1, .int l2, .int l3] [.int q5.1, .int 0, .int l2] q5.2 nx _
      refine ev_go hc_X10_tooManyIn (k := 1) (pc' := 26) (L' := [.ref l0, .int l1, .int l2, .int l3]) (S' := [.ref l0, .int q5.1, .int 0, .int l2]) rfl ?_
      obtain ⟨v6, ev6, H⟩ := Option.bind_eq_some_iff.mp H
      refine ev_4 hc_X10_tooManyIn (fe_X10_tooManyIn (pc := 26) rfl) (gI_gf ev6) ?_
      refine ev_go hc_X10_tooManyIn (k := 1) (pc' := 30) (L' := [.ref l0, .int l1, .int l2, .int l3]) (S' := [.int (q5.1 - v6), .int 0, .int l2]) rfl ?_
      refine ev_15 hc_X10_tooManyIn (fe_X10_tooManyIn (pc := 30) rfl) (S' := [.int (if 0 < (q5.1 - v6) then q5.1 - v6 else 0), .int l2]) rfl ?_
      refine ev_go hc_X10_tooManyIn (k := 4) (pc' := 4) (L' := [.ref l0, .int l1, .int (l2 + (if 0 < (q5.1 - v6) then q5.1 - v6 else 0)), .int (l3 + 1)]) (S' := []) rfl ?_
      exact Ev.weak (ci_le_c (Or.inr rfl) (ci_le_c (Or.inr rfl) (ci_le_c (Or.inr rfl) (ci_le_c (Or.inr rfl) (ci_le_n))))) (ih _ _ _ _ H)
def F_X10_tooManyIn (a0 : Nat) (a1 : Int32) (h : ci_H) : Option (Int32 × ci_H) := if kO h a0 = some 10 then (b_X10_tooManyIn_4 a0 a1 bigN 0 0 h) else none
theorem K_X10_tooManyIn {a0 : Nat} {a1 : Int32} {h : ci_H} {r : Int32 × ci_H} (H : F_X10_tooManyIn a0 a1 h = some r) : kO h a0 = some 10 := by
  unfold F_X10_tooManyIn at H
  by_cases c : kO h a0 = some 10
  · exact c
  · rw [if_neg c] at H; cases H
set_option maxHeartbeats 4000000 in
set_option maxRecDepth 20000 in
theorem E_X10_tooManyIn {xs : Nat → Int32} {N d : Nat} {nx : ci_N} {a0 : Nat} {a1 : Int32} {h : ci_H} {r : Int32 × ci_H} (H : F_X10_tooManyIn a0 a1 h = some r) (hd : 1 ≤ d) : Ev xs N d 81 0 (ci_entry [.ref a0, .int a1] 4) [] h nx (oI r nx) := by
  obtain ⟨d, rfl⟩ : ∃ d2, d = d2 + 1 := ⟨d - 1, by omega⟩
  have hd : 0 ≤ d := by omega
  unfold F_X10_tooManyIn at H
  by_cases ck : kO h a0 = some 10
  · rw [if_pos ck] at H
    show Ev xs N (d + 1) 81 0 [.ref a0, .int a1, ci_junk, ci_junk] [] h nx _
    refine ev_go hc_X10_tooManyIn (k := 4) (pc' := 4) (L' := [.ref a0, .int a1, .int 0, .int 0]) (S' := []) rfl ?_
    exact Ev.weak (ci_le_c (Or.inr rfl) (ci_le_c (Or.inr rfl) (ci_le_c (Or.inr rfl) (ci_le_c (Or.inr rfl) (ci_le_n))))) (eb_X10_tooManyIn_4 hd bigN _ _ _ _ H)
  · rw [if_neg ck] at H; cases H
theorem hc_X10_breakers : ci_code (ci_Ms 84) = k_X10_breakers := rfl
theorem fe_X10_breakers {pc : Nat} {w : Option ci_I} (h : (k_X10_breakers)[pc]? = some w) : (k_X10_breakers)[pc]? = some w := h
def b_X10_breakers_30 (r_4 : Int32 → Int32 → ci_H → Option (Int32 × ci_H)) (l0 : Nat) (l1 : Int32) (l2 : Int32)  (h : ci_H) : Option (Int32 × ci_H) := r_4 l1 (l2 + 1) h
set_option maxHeartbeats 4000000 in
set_option maxRecDepth 20000 in
theorem eb_X10_breakers_30 {xs : Nat → Int32} {N d : Nat} {nx : ci_N} {r_4 : Int32 → Int32 → ci_H → Option (Int32 × ci_H)} {l0 : Nat} {l1 : Int32} {l2 : Int32} (hd : 1 ≤ d) (h_4 : ∀ (l1 : Int32) (l2 : Int32) (h : ci_H) (r : Int32 × ci_H), r_4 l1 l2 h = some r → Ev xs N (d + 1) 84 4 [.ref l0, .int l1, .int l2] [] h nx (oI r nx)) {h : ci_H} {r : Int32 × ci_H} (H : b_X10_breakers_30 r_4 l0 l1 l2 h = some r) : Ev xs N (d + 1) 84 30 [.ref l0, .int l1, .int l2] [] h nx (oI r nx) := by
  unfold b_X10_breakers_30 at H
  refine ev_go hc_X10_breakers (k := 2) (pc' := 4) (L' := [.ref l0, .int l1, .int (l2 + 1)]) (S' := []) rfl ?_
  exact Ev.weak (ci_le_c (Or.inr rfl) (ci_le_c (Or.inr rfl) (ci_le_c (Or.inr rfl) (ci_le_n)))) (h_4 _ _ _ _ H)
def b_X10_breakers_4 (l0 : Nat) : Nat → Int32 → Int32 → ci_H → Option (Int32 × ci_H)
  | 0, _, _, _ => none
  | n + 1, l1, l2, h => (gI h l0 10 5).bind fun v1 => if v1 ≤ l2 then (some (l1, h)) else ((F_X10_keptBy l0 l2 h).bind fun q3 => (F_X10_brokenIn l0 q3.1 q3.2).bind fun q4 => if q4.1 = 0 then (b_X10_breakers_30 (fun x0 x1 x2 => b_X10_breakers_4 l0 n x0 x1 x2) l0 l1 l2 q4.2) else (b_X10_breakers_30 (fun x0 x1 x2 => b_X10_breakers_4 l0 n x0 x1 x2) l0 (l1 ||| ((1 : Int32) <<< (l2 &&& 31))) l2 q4.2))
set_option maxHeartbeats 4000000 in
set_option maxRecDepth 20000 in
theorem eb_X10_breakers_4 {xs : Nat → Int32} {N d : Nat} {nx : ci_N} {l0 : Nat} (hd : 1 ≤ d) : ∀ (n : Nat) (l1 : Int32) (l2 : Int32) (h : ci_H) (r : Int32 × ci_H), b_X10_breakers_4 l0 n l1 l2 h = some r → Ev xs N (d + 1) 84 4 [.ref l0, .int l1, .int l2] [] h nx (oI r nx) := by
  intro n
  induction n with
  | zero => intro l1 l2 h r H; unfold b_X10_breakers_4 at H; cases H
  | succ n ih =>
    intro l1 l2 h r H
    unfold b_X10_breakers_4 at H
    refine ev_go hc_X10_breakers (k := 2) (pc' := 6) (L' := [.ref l0, .int l1, .int l2]) (S' := [.ref l0, .int l2]) rfl ?_
    obtain ⟨v1, ev1, H⟩ := Option.bind_eq_some_iff.mp H
    refine ev_4 hc_X10_breakers (fe_X10_breakers (pc := 6) rfl) (gI_gf ev1) ?_
    by_cases c2 : v1 ≤ l2
    · rw [if_pos c2] at H
      refine ev_bt hc_X10_breakers (fe_X10_breakers (pc := 9) rfl) rfl c2 ?_
      refine ev_go hc_X10_breakers (k := 1) (pc' := 37) (L' := [.ref l0, .int l1, .int l2]) (S' := [.int l1]) rfl ?_
      obtain rfl := Option.some.inj H
      exact ev_8 hc_X10_breakers (fe_X10_breakers (pc := 37) rfl) rfl
    · rw [if_neg c2] at H
      refine ev_bf hc_X10_breakers (fe_X10_breakers (pc := 9) rfl) rfl c2 ?_
      refine ev_go hc_X10_breakers (k := 3) (pc' := 15) (L' := [.ref l0, .int l1, .int l2]) (S' := [.int l2, .ref l0, .ref l0]) rfl ?_
      obtain ⟨q3, eq3, H⟩ := Option.bind_eq_some_iff.mp H
      refine ev_call (vs := [.ref l0, .int l2]) (rest := [.ref l0]) (q := q_X10_keptBy) hc_X10_breakers (Or.inr rfl) (fe_X10_breakers (pc := 15) rfl) ms_75 rfl rfl (Nat.le_of_ble_eq_true rfl) (kO_recv (K_X10_keptBy eq3)) (E_X10_keptBy eq3 (by omega)) rfl ?_
      show Ev xs N (d + 1) 84 18 [.ref l0, .int l1, .int l2] [.int q3.1, .ref l0] q3.2 nx _
      obtain ⟨q4, eq4, H⟩ := Option.bind_eq_some_iff.mp H
      refine ev_call (vs := [.ref l0, .int q3.1]) (rest := []) (q := q_X10_brokenIn) hc_X10_breakers (Or.inr rfl) (fe_X10_breakers (pc := 18) rfl) ms_80 rfl rfl (Nat.le_of_ble_eq_true rfl) (kO_recv (K_X10_brokenIn eq4)) (E_X10_brokenIn eq4 (by omega)) rfl ?_
      show Ev xs N (d + 1) 84 21 [.ref l0, .int l1, .int l2] [.int q4.1] q4.2 nx _
      by_cases c5 : q4.1 = 0
      · rw [if_pos c5] at H
        refine ev_bt hc_X10_breakers (fe_X10_breakers (pc := 21) rfl) rfl c5 ?_
        exact Ev.weak (ci_le_c (Or.inr rfl) (ci_le_c (Or.inr rfl) (ci_le_c (Or.inr rfl) (ci_le_n)))) (eb_X10_breakers_30 hd ih H)
      · rw [if_neg c5] at H
        refine ev_bf hc_X10_breakers (fe_X10_breakers (pc := 21) rfl) rfl c5 ?_
        refine ev_go hc_X10_breakers (k := 6) (pc' := 30) (L' := [.ref l0, .int (l1 ||| ((1 : Int32) <<< (l2 &&& 31))), .int l2]) (S' := []) rfl ?_
        exact Ev.weak (ci_le_c (Or.inr rfl) (ci_le_c (Or.inr rfl) (ci_le_c (Or.inr rfl) (ci_le_n)))) (eb_X10_breakers_30 hd ih H)
def F_X10_breakers (a0 : Nat) (h : ci_H) : Option (Int32 × ci_H) := if kO h a0 = some 10 then (b_X10_breakers_4 a0 bigN 0 0 h) else none
theorem K_X10_breakers {a0 : Nat} {h : ci_H} {r : Int32 × ci_H} (H : F_X10_breakers a0 h = some r) : kO h a0 = some 10 := by
  unfold F_X10_breakers at H
  by_cases c : kO h a0 = some 10
  · exact c
  · rw [if_neg c] at H; cases H
set_option maxHeartbeats 4000000 in
set_option maxRecDepth 20000 in
theorem E_X10_breakers {xs : Nat → Int32} {N d : Nat} {nx : ci_N} {a0 : Nat} {h : ci_H} {r : Int32 × ci_H} (H : F_X10_breakers a0 h = some r) (hd : 2 ≤ d) : Ev xs N d 84 0 (ci_entry [.ref a0] 3) [] h nx (oI r nx) := by
  obtain ⟨d, rfl⟩ : ∃ d2, d = d2 + 1 := ⟨d - 1, by omega⟩
  have hd : 1 ≤ d := by omega
  unfold F_X10_breakers at H
  by_cases ck : kO h a0 = some 10
  · rw [if_pos ck] at H
    show Ev xs N (d + 1) 84 0 [.ref a0, ci_junk, ci_junk] [] h nx _
    refine ev_go hc_X10_breakers (k := 4) (pc' := 4) (L' := [.ref a0, .int 0, .int 0]) (S' := []) rfl ?_
    exact Ev.weak (ci_le_c (Or.inr rfl) (ci_le_c (Or.inr rfl) (ci_le_c (Or.inr rfl) (ci_le_n)))) (eb_X10_breakers_4 hd bigN _ _ _ _ H)
  · rw [if_neg ck] at H; cases H
theorem hc_X10_hand : ci_code (ci_Ms 85) = k_X10_hand := rfl
theorem fe_X10_hand {pc : Nat} {w : Option ci_I} (h : (k_X10_hand)[pc]? = some w) : (k_X10_hand)[pc]? = some w := h
def F_X10_hand (a0 : Nat) (a1 : Int32) (a2 : Int32) (h : ci_H) : Option (ci_H) := if kO h a0 = some 10 then ((gR h a0 10 0).bind fun v1 => (gR h v1 6 0).bind fun v2 => (wI h v2 a1 a2).bind fun h3 => (gR h3 a0 10 0).bind fun v4 => (gR h3 v4 6 1).bind fun v5 => (wI h3 v5 a1 a2).bind fun h6 => some h6) else none
theorem K_X10_hand {a0 : Nat} {a1 : Int32} {a2 : Int32} {h : ci_H} {r : ci_H} (H : F_X10_hand a0 a1 a2 h = some r) : kO h a0 = some 10 := by
  unfold F_X10_hand at H
  by_cases c : kO h a0 = some 10
  · exact c
  · rw [if_neg c] at H; cases H
set_option maxHeartbeats 4000000 in
set_option maxRecDepth 20000 in
theorem E_X10_hand {xs : Nat → Int32} {N d : Nat} {nx : ci_N} {a0 : Nat} {a1 : Int32} {a2 : Int32} {h : ci_H} {r : ci_H} (H : F_X10_hand a0 a1 a2 h = some r) (hd : 0 ≤ d) : Ev xs N d 85 0 (ci_entry [.ref a0, .int a1, .int a2] 3) [] h nx (oV r nx) := by
  unfold F_X10_hand at H
  by_cases ck : kO h a0 = some 10
  · rw [if_pos ck] at H
    show Ev xs N d 85 0 [.ref a0, .int a1, .int a2] [] h nx _
    refine ev_go hc_X10_hand (k := 1) (pc' := 1) (L' := [.ref a0, .int a1, .int a2]) (S' := [.ref a0]) rfl ?_
    obtain ⟨v1, ev1, H⟩ := Option.bind_eq_some_iff.mp H
    refine ev_4 hc_X10_hand (fe_X10_hand (pc := 1) rfl) (gR_gf ev1) ?_
    obtain ⟨v2, ev2, H⟩ := Option.bind_eq_some_iff.mp H
    refine ev_4 hc_X10_hand (fe_X10_hand (pc := 4) rfl) (gR_gf ev2) ?_
    refine ev_go hc_X10_hand (k := 2) (pc' := 9) (L' := [.ref a0, .int a1, .int a2]) (S' := [.int a2, .int a1, .ref v2]) rfl ?_
    obtain ⟨h3, eh3, H⟩ := Option.bind_eq_some_iff.mp H
    refine ev_5 hc_X10_hand (fe_X10_hand (pc := 9) rfl) (wI_as eh3) ?_
    refine ev_go hc_X10_hand (k := 1) (pc' := 11) (L' := [.ref a0, .int a1, .int a2]) (S' := [.ref a0]) rfl ?_
    obtain ⟨v4, ev4, H⟩ := Option.bind_eq_some_iff.mp H
    refine ev_4 hc_X10_hand (fe_X10_hand (pc := 11) rfl) (gR_gf ev4) ?_
    obtain ⟨v5, ev5, H⟩ := Option.bind_eq_some_iff.mp H
    refine ev_4 hc_X10_hand (fe_X10_hand (pc := 14) rfl) (gR_gf ev5) ?_
    refine ev_go hc_X10_hand (k := 2) (pc' := 19) (L' := [.ref a0, .int a1, .int a2]) (S' := [.int a2, .int a1, .ref v5]) rfl ?_
    obtain ⟨h6, eh6, H⟩ := Option.bind_eq_some_iff.mp H
    refine ev_5 hc_X10_hand (fe_X10_hand (pc := 19) rfl) (wI_as eh6) ?_
    obtain rfl := Option.some.inj H
    exact ev_8 hc_X10_hand (fe_X10_hand (pc := 20) rfl) rfl
  · rw [if_neg ck] at H; cases H
theorem hc_X10_given : ci_code (ci_Ms 86) = k_X10_given := rfl
theorem fe_X10_given {pc : Nat} {w : Option ci_I} (h : (k_X10_given)[pc]? = some w) : (k_X10_given)[pc]? = some w := h
def F_X10_given (a0 : Nat) (a1 : Int32) (a2 : Int32) (h : ci_H) : Option (Int32 × ci_H) := if kO h a0 = some 10 then ((F_X10_hasThing a0 a1 h).bind fun q1 => if q1.1 = 0 then (some ((-1), q1.2)) else ((F_X10_hasHouse a0 a2 q1.2).bind fun q3 => if q3.1 = 0 then (some ((-1), q3.2)) else ((gR q3.2 a0 10 0).bind fun v5 => (gR q3.2 v5 6 0).bind fun v6 => (rI q3.2 v6 a1).bind fun v7 => if v7 = ((-1)) then (some ((-2), q3.2)) else ((F_X10_isLent a0 a1 q3.2).bind fun q9 => if q9.1 = 0 then (if v7 = a2 then (some ((-3), q9.2)) else ((F_X10_hand a0 a1 a2 q9.2).bind fun h12 => some (v7, h12))) else (some ((-2), q9.2)))))) else none
theorem K_X10_given {a0 : Nat} {a1 : Int32} {a2 : Int32} {h : ci_H} {r : Int32 × ci_H} (H : F_X10_given a0 a1 a2 h = some r) : kO h a0 = some 10 := by
  unfold F_X10_given at H
  by_cases c : kO h a0 = some 10
  · exact c
  · rw [if_neg c] at H; cases H
set_option maxHeartbeats 4000000 in
set_option maxRecDepth 20000 in
theorem E_X10_given {xs : Nat → Int32} {N d : Nat} {nx : ci_N} {a0 : Nat} {a1 : Int32} {a2 : Int32} {h : ci_H} {r : Int32 × ci_H} (H : F_X10_given a0 a1 a2 h = some r) (hd : 1 ≤ d) : Ev xs N d 86 0 (ci_entry [.ref a0, .int a1, .int a2] 4) [] h nx (oI r nx) := by
  obtain ⟨d, rfl⟩ : ∃ d2, d = d2 + 1 := ⟨d - 1, by omega⟩
  have hd : 0 ≤ d := by omega
  unfold F_X10_given at H
  by_cases ck : kO h a0 = some 10
  · rw [if_pos ck] at H
    show Ev xs N (d + 1) 86 0 [.ref a0, .int a1, .int a2, ci_junk] [] h nx _
    refine ev_go hc_X10_given (k := 2) (pc' := 2) (L' := [.ref a0, .int a1, .int a2, ci_junk]) (S' := [.int a1, .ref a0]) rfl ?_
    obtain ⟨q1, eq1, H⟩ := Option.bind_eq_some_iff.mp H
    refine ev_call (vs := [.ref a0, .int a1]) (rest := []) (q := q_X10_hasThing) hc_X10_given (Or.inr rfl) (fe_X10_given (pc := 2) rfl) ms_63 rfl rfl (Nat.le_of_ble_eq_true rfl) (kO_recv (K_X10_hasThing eq1)) (E_X10_hasThing eq1 (by omega)) rfl ?_
    show Ev xs N (d + 1) 86 5 [.ref a0, .int a1, .int a2, ci_junk] [.int q1.1] q1.2 nx _
    by_cases c2 : q1.1 = 0
    · rw [if_pos c2] at H
      refine ev_bt hc_X10_given (fe_X10_given (pc := 5) rfl) rfl c2 ?_
      refine ev_go hc_X10_given (k := 1) (pc' := 17) (L' := [.ref a0, .int a1, .int a2, ci_junk]) (S' := [.int ((-1))]) rfl ?_
      obtain rfl := Option.some.inj H
      exact ev_8 hc_X10_given (fe_X10_given (pc := 17) rfl) rfl
    · rw [if_neg c2] at H
      refine ev_bf hc_X10_given (fe_X10_given (pc := 5) rfl) rfl c2 ?_
      refine ev_go hc_X10_given (k := 2) (pc' := 10) (L' := [.ref a0, .int a1, .int a2, ci_junk]) (S' := [.int a2, .ref a0]) rfl ?_
      obtain ⟨q3, eq3, H⟩ := Option.bind_eq_some_iff.mp H
      refine ev_call (vs := [.ref a0, .int a2]) (rest := []) (q := q_X10_hasHouse) hc_X10_given (Or.inr rfl) (fe_X10_given (pc := 10) rfl) ms_62 rfl rfl (Nat.le_of_ble_eq_true rfl) (kO_recv (K_X10_hasHouse eq3)) (E_X10_hasHouse eq3 (by omega)) rfl ?_
      show Ev xs N (d + 1) 86 13 [.ref a0, .int a1, .int a2, ci_junk] [.int q3.1] q3.2 nx _
      by_cases c4 : q3.1 = 0
      · rw [if_pos c4] at H
        refine ev_bt hc_X10_given (fe_X10_given (pc := 13) rfl) rfl c4 ?_
        refine ev_go hc_X10_given (k := 1) (pc' := 17) (L' := [.ref a0, .int a1, .int a2, ci_junk]) (S' := [.int ((-1))]) rfl ?_
        obtain rfl := Option.some.inj H
        exact ev_8 hc_X10_given (fe_X10_given (pc := 17) rfl) rfl
      · rw [if_neg c4] at H
        refine ev_bf hc_X10_given (fe_X10_given (pc := 13) rfl) rfl c4 ?_
        refine ev_go hc_X10_given (k := 1) (pc' := 19) (L' := [.ref a0, .int a1, .int a2, ci_junk]) (S' := [.ref a0]) rfl ?_
        obtain ⟨v5, ev5, H⟩ := Option.bind_eq_some_iff.mp H
        refine ev_4 hc_X10_given (fe_X10_given (pc := 19) rfl) (gR_gf ev5) ?_
        obtain ⟨v6, ev6, H⟩ := Option.bind_eq_some_iff.mp H
        refine ev_4 hc_X10_given (fe_X10_given (pc := 22) rfl) (gR_gf ev6) ?_
        refine ev_go hc_X10_given (k := 1) (pc' := 26) (L' := [.ref a0, .int a1, .int a2, ci_junk]) (S' := [.int a1, .ref v6]) rfl ?_
        obtain ⟨v7, ev7, H⟩ := Option.bind_eq_some_iff.mp H
        refine ev_4 hc_X10_given (fe_X10_given (pc := 26) rfl) (rI_al ev7) ?_
        refine ev_go hc_X10_given (k := 3) (pc' := 30) (L' := [.ref a0, .int a1, .int a2, .int v7]) (S' := [.int ((-1)), .int v7]) rfl ?_
        by_cases c8 : v7 = ((-1))
        · rw [if_pos c8] at H
          refine ev_bt hc_X10_given (fe_X10_given (pc := 30) rfl) rfl c8 ?_
          refine ev_go hc_X10_given (k := 1) (pc' := 43) (L' := [.ref a0, .int a1, .int a2, .int v7]) (S' := [.int ((-2))]) rfl ?_
          obtain rfl := Option.some.inj H
          exact ev_8 hc_X10_given (fe_X10_given (pc := 43) rfl) rfl
        · rw [if_neg c8] at H
          refine ev_bf hc_X10_given (fe_X10_given (pc := 30) rfl) rfl c8 ?_
          refine ev_go hc_X10_given (k := 2) (pc' := 35) (L' := [.ref a0, .int a1, .int a2, .int v7]) (S' := [.int a1, .ref a0]) rfl ?_
          obtain ⟨q9, eq9, H⟩ := Option.bind_eq_some_iff.mp H
          refine ev_call (vs := [.ref a0, .int a1]) (rest := []) (q := q_X10_isLent) hc_X10_given (Or.inr rfl) (fe_X10_given (pc := 35) rfl) ms_66 rfl rfl (Nat.le_of_ble_eq_true rfl) (kO_recv (K_X10_isLent eq9)) (E_X10_isLent eq9 (by omega)) rfl ?_
          show Ev xs N (d + 1) 86 38 [.ref a0, .int a1, .int a2, .int v7] [.int q9.1] q9.2 nx _
          by_cases c10 : q9.1 = 0
          · rw [if_pos c10] at H
            refine ev_bt hc_X10_given (fe_X10_given (pc := 38) rfl) rfl c10 ?_
            refine ev_go hc_X10_given (k := 2) (pc' := 46) (L' := [.ref a0, .int a1, .int a2, .int v7]) (S' := [.int a2, .int v7]) rfl ?_
            by_cases c11 : v7 = a2
            · rw [if_pos c11] at H
              refine ev_bt hc_X10_given (fe_X10_given (pc := 46) rfl) rfl c11 ?_
              refine ev_go hc_X10_given (k := 1) (pc' := 51) (L' := [.ref a0, .int a1, .int a2, .int v7]) (S' := [.int ((-3))]) rfl ?_
              obtain rfl := Option.some.inj H
              exact ev_8 hc_X10_given (fe_X10_given (pc := 51) rfl) rfl
            · rw [if_neg c11] at H
              refine ev_bf hc_X10_given (fe_X10_given (pc := 46) rfl) rfl c11 ?_
              refine ev_go hc_X10_given (k := 3) (pc' := 55) (L' := [.ref a0, .int a1, .int a2, .int v7]) (S' := [.int a2, .int a1, .ref a0]) rfl ?_
              obtain ⟨h12, eh12, H⟩ := Option.bind_eq_some_iff.mp H
              refine ev_call (vs := [.ref a0, .int a1, .int a2]) (rest := []) (q := q_X10_hand) hc_X10_given (Or.inr rfl) (fe_X10_given (pc := 55) rfl) ms_85 rfl rfl (Nat.le_of_ble_eq_true rfl) (kO_recv (K_X10_hand eh12)) (E_X10_hand eh12 (by omega)) rfl ?_
              show Ev xs N (d + 1) 86 58 [.ref a0, .int a1, .int a2, .int v7] [] h12 nx _
              refine ev_go hc_X10_given (k := 1) (pc' := 59) (L' := [.ref a0, .int a1, .int a2, .int v7]) (S' := [.int v7]) rfl ?_
              obtain rfl := Option.some.inj H
              exact ev_8 hc_X10_given (fe_X10_given (pc := 59) rfl) rfl
          · rw [if_neg c10] at H
            refine ev_bf hc_X10_given (fe_X10_given (pc := 38) rfl) rfl c10 ?_
            refine ev_go hc_X10_given (k := 1) (pc' := 43) (L' := [.ref a0, .int a1, .int a2, .int v7]) (S' := [.int ((-2))]) rfl ?_
            obtain rfl := Option.some.inj H
            exact ev_8 hc_X10_given (fe_X10_given (pc := 43) rfl) rfl
  · rw [if_neg ck] at H; cases H
theorem hc_X10_lent : ci_code (ci_Ms 87) = k_X10_lent := rfl
theorem fe_X10_lent {pc : Nat} {w : Option ci_I} (h : (k_X10_lent)[pc]? = some w) : (k_X10_lent)[pc]? = some w := h
def F_X10_lent (a0 : Nat) (a1 : Int32) (a2 : Int32) (h : ci_H) : Option (Int32 × ci_H) := if kO h a0 = some 10 then ((F_X10_hasThing a0 a1 h).bind fun q1 => if q1.1 = 0 then (some ((-1), q1.2)) else ((F_X10_hasHouse a0 a2 q1.2).bind fun q3 => if q3.1 = 0 then (some ((-1), q3.2)) else ((gR q3.2 a0 10 0).bind fun v5 => (gR q3.2 v5 6 1).bind fun v6 => (rI q3.2 v6 a1).bind fun v7 => if v7 = ((-1)) then (some ((-2), q3.2)) else (if v7 = a2 then (some ((-3), q3.2)) else ((gR q3.2 a0 10 0).bind fun v10 => (gR q3.2 v10 6 1).bind fun v11 => (wI q3.2 v11 a1 a2).bind fun h12 => some (v7, h12)))))) else none
theorem K_X10_lent {a0 : Nat} {a1 : Int32} {a2 : Int32} {h : ci_H} {r : Int32 × ci_H} (H : F_X10_lent a0 a1 a2 h = some r) : kO h a0 = some 10 := by
  unfold F_X10_lent at H
  by_cases c : kO h a0 = some 10
  · exact c
  · rw [if_neg c] at H; cases H
set_option maxHeartbeats 4000000 in
set_option maxRecDepth 20000 in
theorem E_X10_lent {xs : Nat → Int32} {N d : Nat} {nx : ci_N} {a0 : Nat} {a1 : Int32} {a2 : Int32} {h : ci_H} {r : Int32 × ci_H} (H : F_X10_lent a0 a1 a2 h = some r) (hd : 1 ≤ d) : Ev xs N d 87 0 (ci_entry [.ref a0, .int a1, .int a2] 4) [] h nx (oI r nx) := by
  obtain ⟨d, rfl⟩ : ∃ d2, d = d2 + 1 := ⟨d - 1, by omega⟩
  have hd : 0 ≤ d := by omega
  unfold F_X10_lent at H
  by_cases ck : kO h a0 = some 10
  · rw [if_pos ck] at H
    show Ev xs N (d + 1) 87 0 [.ref a0, .int a1, .int a2, ci_junk] [] h nx _
    refine ev_go hc_X10_lent (k := 2) (pc' := 2) (L' := [.ref a0, .int a1, .int a2, ci_junk]) (S' := [.int a1, .ref a0]) rfl ?_
    obtain ⟨q1, eq1, H⟩ := Option.bind_eq_some_iff.mp H
    refine ev_call (vs := [.ref a0, .int a1]) (rest := []) (q := q_X10_hasThing) hc_X10_lent (Or.inr rfl) (fe_X10_lent (pc := 2) rfl) ms_63 rfl rfl (Nat.le_of_ble_eq_true rfl) (kO_recv (K_X10_hasThing eq1)) (E_X10_hasThing eq1 (by omega)) rfl ?_
    show Ev xs N (d + 1) 87 5 [.ref a0, .int a1, .int a2, ci_junk] [.int q1.1] q1.2 nx _
    by_cases c2 : q1.1 = 0
    · rw [if_pos c2] at H
      refine ev_bt hc_X10_lent (fe_X10_lent (pc := 5) rfl) rfl c2 ?_
      refine ev_go hc_X10_lent (k := 1) (pc' := 17) (L' := [.ref a0, .int a1, .int a2, ci_junk]) (S' := [.int ((-1))]) rfl ?_
      obtain rfl := Option.some.inj H
      exact ev_8 hc_X10_lent (fe_X10_lent (pc := 17) rfl) rfl
    · rw [if_neg c2] at H
      refine ev_bf hc_X10_lent (fe_X10_lent (pc := 5) rfl) rfl c2 ?_
      refine ev_go hc_X10_lent (k := 2) (pc' := 10) (L' := [.ref a0, .int a1, .int a2, ci_junk]) (S' := [.int a2, .ref a0]) rfl ?_
      obtain ⟨q3, eq3, H⟩ := Option.bind_eq_some_iff.mp H
      refine ev_call (vs := [.ref a0, .int a2]) (rest := []) (q := q_X10_hasHouse) hc_X10_lent (Or.inr rfl) (fe_X10_lent (pc := 10) rfl) ms_62 rfl rfl (Nat.le_of_ble_eq_true rfl) (kO_recv (K_X10_hasHouse eq3)) (E_X10_hasHouse eq3 (by omega)) rfl ?_
      show Ev xs N (d + 1) 87 13 [.ref a0, .int a1, .int a2, ci_junk] [.int q3.1] q3.2 nx _
      by_cases c4 : q3.1 = 0
      · rw [if_pos c4] at H
        refine ev_bt hc_X10_lent (fe_X10_lent (pc := 13) rfl) rfl c4 ?_
        refine ev_go hc_X10_lent (k := 1) (pc' := 17) (L' := [.ref a0, .int a1, .int a2, ci_junk]) (S' := [.int ((-1))]) rfl ?_
        obtain rfl := Option.some.inj H
        exact ev_8 hc_X10_lent (fe_X10_lent (pc := 17) rfl) rfl
      · rw [if_neg c4] at H
        refine ev_bf hc_X10_lent (fe_X10_lent (pc := 13) rfl) rfl c4 ?_
        refine ev_go hc_X10_lent (k := 1) (pc' := 19) (L' := [.ref a0, .int a1, .int a2, ci_junk]) (S' := [.ref a0]) rfl ?_
        obtain ⟨v5, ev5, H⟩ := Option.bind_eq_some_iff.mp H
        refine ev_4 hc_X10_lent (fe_X10_lent (pc := 19) rfl) (gR_gf ev5) ?_
        obtain ⟨v6, ev6, H⟩ := Option.bind_eq_some_iff.mp H
        refine ev_4 hc_X10_lent (fe_X10_lent (pc := 22) rfl) (gR_gf ev6) ?_
        refine ev_go hc_X10_lent (k := 1) (pc' := 26) (L' := [.ref a0, .int a1, .int a2, ci_junk]) (S' := [.int a1, .ref v6]) rfl ?_
        obtain ⟨v7, ev7, H⟩ := Option.bind_eq_some_iff.mp H
        refine ev_4 hc_X10_lent (fe_X10_lent (pc := 26) rfl) (rI_al ev7) ?_
        refine ev_go hc_X10_lent (k := 3) (pc' := 30) (L' := [.ref a0, .int a1, .int a2, .int v7]) (S' := [.int ((-1)), .int v7]) rfl ?_
        by_cases c8 : v7 = ((-1))
        · rw [if_pos c8] at H
          refine ev_bt hc_X10_lent (fe_X10_lent (pc := 30) rfl) rfl c8 ?_
          refine ev_go hc_X10_lent (k := 1) (pc' := 35) (L' := [.ref a0, .int a1, .int a2, .int v7]) (S' := [.int ((-2))]) rfl ?_
          obtain rfl := Option.some.inj H
          exact ev_8 hc_X10_lent (fe_X10_lent (pc := 35) rfl) rfl
        · rw [if_neg c8] at H
          refine ev_bf hc_X10_lent (fe_X10_lent (pc := 30) rfl) rfl c8 ?_
          refine ev_go hc_X10_lent (k := 2) (pc' := 38) (L' := [.ref a0, .int a1, .int a2, .int v7]) (S' := [.int a2, .int v7]) rfl ?_
          by_cases c9 : v7 = a2
          · rw [if_pos c9] at H
            refine ev_bt hc_X10_lent (fe_X10_lent (pc := 38) rfl) rfl c9 ?_
            refine ev_go hc_X10_lent (k := 1) (pc' := 43) (L' := [.ref a0, .int a1, .int a2, .int v7]) (S' := [.int ((-3))]) rfl ?_
            obtain rfl := Option.some.inj H
            exact ev_8 hc_X10_lent (fe_X10_lent (pc := 43) rfl) rfl
          · rw [if_neg c9] at H
            refine ev_bf hc_X10_lent (fe_X10_lent (pc := 38) rfl) rfl c9 ?_
            refine ev_go hc_X10_lent (k := 1) (pc' := 45) (L' := [.ref a0, .int a1, .int a2, .int v7]) (S' := [.ref a0]) rfl ?_
            obtain ⟨v10, ev10, H⟩ := Option.bind_eq_some_iff.mp H
            refine ev_4 hc_X10_lent (fe_X10_lent (pc := 45) rfl) (gR_gf ev10) ?_
            obtain ⟨v11, ev11, H⟩ := Option.bind_eq_some_iff.mp H
            refine ev_4 hc_X10_lent (fe_X10_lent (pc := 48) rfl) (gR_gf ev11) ?_
            refine ev_go hc_X10_lent (k := 2) (pc' := 53) (L' := [.ref a0, .int a1, .int a2, .int v7]) (S' := [.int a2, .int a1, .ref v11]) rfl ?_
            obtain ⟨h12, eh12, H⟩ := Option.bind_eq_some_iff.mp H
            refine ev_5 hc_X10_lent (fe_X10_lent (pc := 53) rfl) (wI_as eh12) ?_
            refine ev_go hc_X10_lent (k := 1) (pc' := 55) (L' := [.ref a0, .int a1, .int a2, .int v7]) (S' := [.int v7]) rfl ?_
            obtain rfl := Option.some.inj H
            exact ev_8 hc_X10_lent (fe_X10_lent (pc := 55) rfl) rfl
  · rw [if_neg ck] at H; cases H
theorem hc_X10_claimed : ci_code (ci_Ms 88) = k_X10_claimed := rfl
theorem fe_X10_claimed {pc : Nat} {w : Option ci_I} (h : (k_X10_claimed)[pc]? = some w) : (k_X10_claimed)[pc]? = some w := h
def F_X10_claimed (a0 : Nat) (a1 : Int32) (a2 : Int32) (h : ci_H) : Option (Int32 × ci_H) := if kO h a0 = some 10 then ((F_X10_hasThing a0 a1 h).bind fun q1 => if q1.1 = 0 then (some ((-1), q1.2)) else ((F_X10_hasHouse a0 a2 q1.2).bind fun q3 => if q3.1 = 0 then (some ((-1), q3.2)) else ((gR q3.2 a0 10 0).bind fun v5 => (gR q3.2 v5 6 0).bind fun v6 => (rI q3.2 v6 a1).bind fun v7 => if v7 = ((-1)) then (some ((-2), q3.2)) else (if v7 = a2 then (some ((-3), q3.2)) else ((gR q3.2 a0 10 0).bind fun v10 => (gR q3.2 v10 6 1).bind fun v11 => (rI q3.2 v11 a1).bind fun v12 => if v12 = a2 then (some ((-3), q3.2)) else ((gR q3.2 a0 10 0).bind fun v14 => (gR q3.2 v14 6 1).bind fun v15 => (rI q3.2 v15 a1).bind fun v16 => (F_X10_keptBy a0 v16 q3.2).bind fun q17 => (F_X10_brokenIn a0 q17.1 q17.2).bind fun q18 => (F_X10_kindsOf a0 a1 q18.2).bind fun q19 => if (q18.1 &&& q19.1) = 0 then (some ((-4), q19.2)) else ((F_X10_hand a0 a1 a2 q19.2).bind fun h21 => some (v7, h21)))))))) else none
theorem K_X10_claimed {a0 : Nat} {a1 : Int32} {a2 : Int32} {h : ci_H} {r : Int32 × ci_H} (H : F_X10_claimed a0 a1 a2 h = some r) : kO h a0 = some 10 := by
  unfold F_X10_claimed at H
  by_cases c : kO h a0 = some 10
  · exact c
  · rw [if_neg c] at H; cases H
set_option maxHeartbeats 4000000 in
set_option maxRecDepth 20000 in
theorem E_X10_claimed {xs : Nat → Int32} {N d : Nat} {nx : ci_N} {a0 : Nat} {a1 : Int32} {a2 : Int32} {h : ci_H} {r : Int32 × ci_H} (H : F_X10_claimed a0 a1 a2 h = some r) (hd : 2 ≤ d) : Ev xs N d 88 0 (ci_entry [.ref a0, .int a1, .int a2] 4) [] h nx (oI r nx) := by
  obtain ⟨d, rfl⟩ : ∃ d2, d = d2 + 1 := ⟨d - 1, by omega⟩
  have hd : 1 ≤ d := by omega
  unfold F_X10_claimed at H
  by_cases ck : kO h a0 = some 10
  · rw [if_pos ck] at H
    show Ev xs N (d + 1) 88 0 [.ref a0, .int a1, .int a2, ci_junk] [] h nx _
    refine ev_go hc_X10_claimed (k := 2) (pc' := 2) (L' := [.ref a0, .int a1, .int a2, ci_junk]) (S' := [.int a1, .ref a0]) rfl ?_
    obtain ⟨q1, eq1, H⟩ := Option.bind_eq_some_iff.mp H
    refine ev_call (vs := [.ref a0, .int a1]) (rest := []) (q := q_X10_hasThing) hc_X10_claimed (Or.inr rfl) (fe_X10_claimed (pc := 2) rfl) ms_63 rfl rfl (Nat.le_of_ble_eq_true rfl) (kO_recv (K_X10_hasThing eq1)) (E_X10_hasThing eq1 (by omega)) rfl ?_
    show Ev xs N (d + 1) 88 5 [.ref a0, .int a1, .int a2, ci_junk] [.int q1.1] q1.2 nx _
    by_cases c2 : q1.1 = 0
    · rw [if_pos c2] at H
      refine ev_bt hc_X10_claimed (fe_X10_claimed (pc := 5) rfl) rfl c2 ?_
      refine ev_go hc_X10_claimed (k := 1) (pc' := 17) (L' := [.ref a0, .int a1, .int a2, ci_junk]) (S' := [.int ((-1))]) rfl ?_
      obtain rfl := Option.some.inj H
      exact ev_8 hc_X10_claimed (fe_X10_claimed (pc := 17) rfl) rfl
    · rw [if_neg c2] at H
      refine ev_bf hc_X10_claimed (fe_X10_claimed (pc := 5) rfl) rfl c2 ?_
      refine ev_go hc_X10_claimed (k := 2) (pc' := 10) (L' := [.ref a0, .int a1, .int a2, ci_junk]) (S' := [.int a2, .ref a0]) rfl ?_
      obtain ⟨q3, eq3, H⟩ := Option.bind_eq_some_iff.mp H
      refine ev_call (vs := [.ref a0, .int a2]) (rest := []) (q := q_X10_hasHouse) hc_X10_claimed (Or.inr rfl) (fe_X10_claimed (pc := 10) rfl) ms_62 rfl rfl (Nat.le_of_ble_eq_true rfl) (kO_recv (K_X10_hasHouse eq3)) (E_X10_hasHouse eq3 (by omega)) rfl ?_
      show Ev xs N (d + 1) 88 13 [.ref a0, .int a1, .int a2, ci_junk] [.int q3.1] q3.2 nx _
      by_cases c4 : q3.1 = 0
      · rw [if_pos c4] at H
        refine ev_bt hc_X10_claimed (fe_X10_claimed (pc := 13) rfl) rfl c4 ?_
        refine ev_go hc_X10_claimed (k := 1) (pc' := 17) (L' := [.ref a0, .int a1, .int a2, ci_junk]) (S' := [.int ((-1))]) rfl ?_
        obtain rfl := Option.some.inj H
        exact ev_8 hc_X10_claimed (fe_X10_claimed (pc := 17) rfl) rfl
      · rw [if_neg c4] at H
        refine ev_bf hc_X10_claimed (fe_X10_claimed (pc := 13) rfl) rfl c4 ?_
        refine ev_go hc_X10_claimed (k := 1) (pc' := 19) (L' := [.ref a0, .int a1, .int a2, ci_junk]) (S' := [.ref a0]) rfl ?_
        obtain ⟨v5, ev5, H⟩ := Option.bind_eq_some_iff.mp H
        refine ev_4 hc_X10_claimed (fe_X10_claimed (pc := 19) rfl) (gR_gf ev5) ?_
        obtain ⟨v6, ev6, H⟩ := Option.bind_eq_some_iff.mp H
        refine ev_4 hc_X10_claimed (fe_X10_claimed (pc := 22) rfl) (gR_gf ev6) ?_
        refine ev_go hc_X10_claimed (k := 1) (pc' := 26) (L' := [.ref a0, .int a1, .int a2, ci_junk]) (S' := [.int a1, .ref v6]) rfl ?_
        obtain ⟨v7, ev7, H⟩ := Option.bind_eq_some_iff.mp H
        refine ev_4 hc_X10_claimed (fe_X10_claimed (pc := 26) rfl) (rI_al ev7) ?_
        refine ev_go hc_X10_claimed (k := 3) (pc' := 30) (L' := [.ref a0, .int a1, .int a2, .int v7]) (S' := [.int ((-1)), .int v7]) rfl ?_
        by_cases c8 : v7 = ((-1))
        · rw [if_pos c8] at H
          refine ev_bt hc_X10_claimed (fe_X10_claimed (pc := 30) rfl) rfl c8 ?_
          refine ev_go hc_X10_claimed (k := 1) (pc' := 35) (L' := [.ref a0, .int a1, .int a2, .int v7]) (S' := [.int ((-2))]) rfl ?_
          obtain rfl := Option.some.inj H
          exact ev_8 hc_X10_claimed (fe_X10_claimed (pc := 35) rfl) rfl
        · rw [if_neg c8] at H
          refine ev_bf hc_X10_claimed (fe_X10_claimed (pc := 30) rfl) rfl c8 ?_
          refine ev_go hc_X10_claimed (k := 2) (pc' := 38) (L' := [.ref a0, .int a1, .int a2, .int v7]) (S' := [.int a2, .int v7]) rfl ?_
          by_cases c9 : v7 = a2
          · rw [if_pos c9] at H
            refine ev_bt hc_X10_claimed (fe_X10_claimed (pc := 38) rfl) rfl c9 ?_
            refine ev_go hc_X10_claimed (k := 1) (pc' := 56) (L' := [.ref a0, .int a1, .int a2, .int v7]) (S' := [.int ((-3))]) rfl ?_
            obtain rfl := Option.some.inj H
            exact ev_8 hc_X10_claimed (fe_X10_claimed (pc := 56) rfl) rfl
          · rw [if_neg c9] at H
            refine ev_bf hc_X10_claimed (fe_X10_claimed (pc := 38) rfl) rfl c9 ?_
            refine ev_go hc_X10_claimed (k := 1) (pc' := 42) (L' := [.ref a0, .int a1, .int a2, .int v7]) (S' := [.ref a0]) rfl ?_
            obtain ⟨v10, ev10, H⟩ := Option.bind_eq_some_iff.mp H
            refine ev_4 hc_X10_claimed (fe_X10_claimed (pc := 42) rfl) (gR_gf ev10) ?_
            obtain ⟨v11, ev11, H⟩ := Option.bind_eq_some_iff.mp H
            refine ev_4 hc_X10_claimed (fe_X10_claimed (pc := 45) rfl) (gR_gf ev11) ?_
            refine ev_go hc_X10_claimed (k := 1) (pc' := 49) (L' := [.ref a0, .int a1, .int a2, .int v7]) (S' := [.int a1, .ref v11]) rfl ?_
            obtain ⟨v12, ev12, H⟩ := Option.bind_eq_some_iff.mp H
            refine ev_4 hc_X10_claimed (fe_X10_claimed (pc := 49) rfl) (rI_al ev12) ?_
            refine ev_go hc_X10_claimed (k := 1) (pc' := 51) (L' := [.ref a0, .int a1, .int a2, .int v7]) (S' := [.int a2, .int v12]) rfl ?_
            by_cases c13 : v12 = a2
            · rw [if_pos c13] at H
              refine ev_bt hc_X10_claimed (fe_X10_claimed (pc := 51) rfl) rfl c13 ?_
              refine ev_go hc_X10_claimed (k := 1) (pc' := 56) (L' := [.ref a0, .int a1, .int a2, .int v7]) (S' := [.int ((-3))]) rfl ?_
              obtain rfl := Option.some.inj H
              exact ev_8 hc_X10_claimed (fe_X10_claimed (pc := 56) rfl) rfl
            · rw [if_neg c13] at H
              refine ev_bf hc_X10_claimed (fe_X10_claimed (pc := 51) rfl) rfl c13 ?_
              refine ev_go hc_X10_claimed (k := 3) (pc' := 60) (L' := [.ref a0, .int a1, .int a2, .int v7]) (S' := [.ref a0, .ref a0, .ref a0]) rfl ?_
              obtain ⟨v14, ev14, H⟩ := Option.bind_eq_some_iff.mp H
              refine ev_4 hc_X10_claimed (fe_X10_claimed (pc := 60) rfl) (gR_gf ev14) ?_
              obtain ⟨v15, ev15, H⟩ := Option.bind_eq_some_iff.mp H
              refine ev_4 hc_X10_claimed (fe_X10_claimed (pc := 63) rfl) (gR_gf ev15) ?_
              refine ev_go hc_X10_claimed (k := 1) (pc' := 67) (L' := [.ref a0, .int a1, .int a2, .int v7]) (S' := [.int a1, .ref v15, .ref a0, .ref a0]) rfl ?_
              obtain ⟨v16, ev16, H⟩ := Option.bind_eq_some_iff.mp H
              refine ev_4 hc_X10_claimed (fe_X10_claimed (pc := 67) rfl) (rI_al ev16) ?_
              obtain ⟨q17, eq17, H⟩ := Option.bind_eq_some_iff.mp H
              refine ev_call (vs := [.ref a0, .int v16]) (rest := [.ref a0]) (q := q_X10_keptBy) hc_X10_claimed (Or.inr rfl) (fe_X10_claimed (pc := 68) rfl) ms_75 rfl rfl (Nat.le_of_ble_eq_true rfl) (kO_recv (K_X10_keptBy eq17)) (E_X10_keptBy eq17 (by omega)) rfl ?_
              show Ev xs N (d + 1) 88 71 [.ref a0, .int a1, .int a2, .int v7] [.int q17.1, .ref a0] q17.2 nx _
              obtain ⟨q18, eq18, H⟩ := Option.bind_eq_some_iff.mp H
              refine ev_call (vs := [.ref a0, .int q17.1]) (rest := []) (q := q_X10_brokenIn) hc_X10_claimed (Or.inr rfl) (fe_X10_claimed (pc := 71) rfl) ms_80 rfl rfl (Nat.le_of_ble_eq_true rfl) (kO_recv (K_X10_brokenIn eq18)) (E_X10_brokenIn eq18 (by omega)) rfl ?_
              show Ev xs N (d + 1) 88 74 [.ref a0, .int a1, .int a2, .int v7] [.int q18.1] q18.2 nx _
              refine ev_go hc_X10_claimed (k := 2) (pc' := 76) (L' := [.ref a0, .int a1, .int a2, .int v7]) (S' := [.int a1, .ref a0, .int q18.1]) rfl ?_
              obtain ⟨q19, eq19, H⟩ := Option.bind_eq_some_iff.mp H
              refine ev_call (vs := [.ref a0, .int a1]) (rest := [.int q18.1]) (q := q_X10_kindsOf) hc_X10_claimed (Or.inr rfl) (fe_X10_claimed (pc := 76) rfl) ms_73 rfl rfl (Nat.le_of_ble_eq_true rfl) (kO_recv (K_X10_kindsOf eq19)) (E_X10_kindsOf eq19 (by omega)) rfl ?_
              show Ev xs N (d + 1) 88 79 [.ref a0, .int a1, .int a2, .int v7] [.int q19.1, .int q18.1] q19.2 nx _
              refine ev_go hc_X10_claimed (k := 1) (pc' := 80) (L' := [.ref a0, .int a1, .int a2, .int v7]) (S' := [.int (q18.1 &&& q19.1)]) rfl ?_
              by_cases c20 : (q18.1 &&& q19.1) = 0
              · rw [if_pos c20] at H
                refine ev_bt hc_X10_claimed (fe_X10_claimed (pc := 80) rfl) rfl c20 ?_
                refine ev_go hc_X10_claimed (k := 1) (pc' := 85) (L' := [.ref a0, .int a1, .int a2, .int v7]) (S' := [.int ((-4))]) rfl ?_
                obtain rfl := Option.some.inj H
                exact ev_8 hc_X10_claimed (fe_X10_claimed (pc := 85) rfl) rfl
              · rw [if_neg c20] at H
                refine ev_bf hc_X10_claimed (fe_X10_claimed (pc := 80) rfl) rfl c20 ?_
                refine ev_go hc_X10_claimed (k := 3) (pc' := 89) (L' := [.ref a0, .int a1, .int a2, .int v7]) (S' := [.int a2, .int a1, .ref a0]) rfl ?_
                obtain ⟨h21, eh21, H⟩ := Option.bind_eq_some_iff.mp H
                refine ev_call (vs := [.ref a0, .int a1, .int a2]) (rest := []) (q := q_X10_hand) hc_X10_claimed (Or.inr rfl) (fe_X10_claimed (pc := 89) rfl) ms_85 rfl rfl (Nat.le_of_ble_eq_true rfl) (kO_recv (K_X10_hand eh21)) (E_X10_hand eh21 (by omega)) rfl ?_
                show Ev xs N (d + 1) 88 92 [.ref a0, .int a1, .int a2, .int v7] [] h21 nx _
                refine ev_go hc_X10_claimed (k := 1) (pc' := 93) (L' := [.ref a0, .int a1, .int a2, .int v7]) (S' := [.int v7]) rfl ?_
                obtain rfl := Option.some.inj H
                exact ev_8 hc_X10_claimed (fe_X10_claimed (pc := 93) rfl) rfl
  · rw [if_neg ck] at H; cases H
theorem hc_X10_painted : ci_code (ci_Ms 89) = k_X10_painted := rfl
theorem fe_X10_painted {pc : Nat} {w : Option ci_I} (h : (k_X10_painted)[pc]? = some w) : (k_X10_painted)[pc]? = some w := h
def F_X10_painted (a0 : Nat) (a1 : Int32) (a2 : Int32) (h : ci_H) : Option (Int32 × ci_H) := if kO h a0 = some 10 then ((F_X10_hasThing a0 a1 h).bind fun q1 => if q1.1 = 0 then (some ((-1), q1.2)) else (if a2 < 0 then (some ((-1), q1.2)) else (if a2 < 6 then ((gR q1.2 a0 10 0).bind fun v5 => (gR q1.2 v5 6 2).bind fun v6 => (rI q1.2 v6 a1).bind fun v7 => (wI q1.2 v6 a1 (v7 ^^^ ((1 : Int32) <<< (a2 &&& 31)))).bind fun h8 => (F_X10_sortThings a0 h8).bind fun h9 => (gR h9 a0 10 0).bind fun v10 => (gR h9 v10 6 2).bind fun v11 => (rI h9 v11 a1).bind fun v12 => some (v12, h9)) else (some ((-1), q1.2))))) else none
theorem K_X10_painted {a0 : Nat} {a1 : Int32} {a2 : Int32} {h : ci_H} {r : Int32 × ci_H} (H : F_X10_painted a0 a1 a2 h = some r) : kO h a0 = some 10 := by
  unfold F_X10_painted at H
  by_cases c : kO h a0 = some 10
  · exact c
  · rw [if_neg c] at H; cases H
set_option maxHeartbeats 4000000 in
set_option maxRecDepth 20000 in
theorem E_X10_painted {xs : Nat → Int32} {N d : Nat} {nx : ci_N} {a0 : Nat} {a1 : Int32} {a2 : Int32} {h : ci_H} {r : Int32 × ci_H} (H : F_X10_painted a0 a1 a2 h = some r) (hd : 1 ≤ d) : Ev xs N d 89 0 (ci_entry [.ref a0, .int a1, .int a2] 3) [] h nx (oI r nx) := by
  obtain ⟨d, rfl⟩ : ∃ d2, d = d2 + 1 := ⟨d - 1, by omega⟩
  have hd : 0 ≤ d := by omega
  unfold F_X10_painted at H
  by_cases ck : kO h a0 = some 10
  · rw [if_pos ck] at H
    show Ev xs N (d + 1) 89 0 [.ref a0, .int a1, .int a2] [] h nx _
    refine ev_go hc_X10_painted (k := 2) (pc' := 2) (L' := [.ref a0, .int a1, .int a2]) (S' := [.int a1, .ref a0]) rfl ?_
    obtain ⟨q1, eq1, H⟩ := Option.bind_eq_some_iff.mp H
    refine ev_call (vs := [.ref a0, .int a1]) (rest := []) (q := q_X10_hasThing) hc_X10_painted (Or.inr rfl) (fe_X10_painted (pc := 2) rfl) ms_63 rfl rfl (Nat.le_of_ble_eq_true rfl) (kO_recv (K_X10_hasThing eq1)) (E_X10_hasThing eq1 (by omega)) rfl ?_
    show Ev xs N (d + 1) 89 5 [.ref a0, .int a1, .int a2] [.int q1.1] q1.2 nx _
    by_cases c2 : q1.1 = 0
    · rw [if_pos c2] at H
      refine ev_bt hc_X10_painted (fe_X10_painted (pc := 5) rfl) rfl c2 ?_
      refine ev_go hc_X10_painted (k := 1) (pc' := 19) (L' := [.ref a0, .int a1, .int a2]) (S' := [.int ((-1))]) rfl ?_
      obtain rfl := Option.some.inj H
      exact ev_8 hc_X10_painted (fe_X10_painted (pc := 19) rfl) rfl
    · rw [if_neg c2] at H
      refine ev_bf hc_X10_painted (fe_X10_painted (pc := 5) rfl) rfl c2 ?_
      refine ev_go hc_X10_painted (k := 1) (pc' := 9) (L' := [.ref a0, .int a1, .int a2]) (S' := [.int a2]) rfl ?_
      by_cases c3 : a2 < 0
      · rw [if_pos c3] at H
        refine ev_bt hc_X10_painted (fe_X10_painted (pc := 9) rfl) rfl c3 ?_
        refine ev_go hc_X10_painted (k := 1) (pc' := 19) (L' := [.ref a0, .int a1, .int a2]) (S' := [.int ((-1))]) rfl ?_
        obtain rfl := Option.some.inj H
        exact ev_8 hc_X10_painted (fe_X10_painted (pc := 19) rfl) rfl
      · rw [if_neg c3] at H
        refine ev_bf hc_X10_painted (fe_X10_painted (pc := 9) rfl) rfl c3 ?_
        refine ev_go hc_X10_painted (k := 2) (pc' := 15) (L' := [.ref a0, .int a1, .int a2]) (S' := [.int 6, .int a2]) rfl ?_
        by_cases c4 : a2 < 6
        · rw [if_pos c4] at H
          refine ev_bt hc_X10_painted (fe_X10_painted (pc := 15) rfl) rfl c4 ?_
          refine ev_go hc_X10_painted (k := 1) (pc' := 21) (L' := [.ref a0, .int a1, .int a2]) (S' := [.ref a0]) rfl ?_
          obtain ⟨v5, ev5, H⟩ := Option.bind_eq_some_iff.mp H
          refine ev_4 hc_X10_painted (fe_X10_painted (pc := 21) rfl) (gR_gf ev5) ?_
          obtain ⟨v6, ev6, H⟩ := Option.bind_eq_some_iff.mp H
          refine ev_4 hc_X10_painted (fe_X10_painted (pc := 24) rfl) (gR_gf ev6) ?_
          refine ev_go hc_X10_painted (k := 2) (pc' := 29) (L' := [.ref a0, .int a1, .int a2]) (S' := [.int a1, .ref v6, .int a1, .ref v6]) rfl ?_
          obtain ⟨v7, ev7, H⟩ := Option.bind_eq_some_iff.mp H
          refine ev_4 hc_X10_painted (fe_X10_painted (pc := 29) rfl) (rI_al ev7) ?_
          refine ev_go hc_X10_painted (k := 4) (pc' := 34) (L' := [.ref a0, .int a1, .int a2]) (S' := [.int (v7 ^^^ ((1 : Int32) <<< (a2 &&& 31))), .int a1, .ref v6]) rfl ?_
          obtain ⟨h8, eh8, H⟩ := Option.bind_eq_some_iff.mp H
          refine ev_5 hc_X10_painted (fe_X10_painted (pc := 34) rfl) (wI_as eh8) ?_
          refine ev_go hc_X10_painted (k := 1) (pc' := 36) (L' := [.ref a0, .int a1, .int a2]) (S' := [.ref a0]) rfl ?_
          obtain ⟨h9, eh9, H⟩ := Option.bind_eq_some_iff.mp H
          refine ev_call (vs := [.ref a0]) (rest := []) (q := q_X10_sortThings) hc_X10_painted (Or.inr rfl) (fe_X10_painted (pc := 36) rfl) ms_71 rfl rfl (Nat.le_of_ble_eq_true rfl) (kO_recv (K_X10_sortThings eh9)) (E_X10_sortThings eh9 (by omega)) rfl ?_
          show Ev xs N (d + 1) 89 39 [.ref a0, .int a1, .int a2] [] h9 nx _
          refine ev_go hc_X10_painted (k := 1) (pc' := 40) (L' := [.ref a0, .int a1, .int a2]) (S' := [.ref a0]) rfl ?_
          obtain ⟨v10, ev10, H⟩ := Option.bind_eq_some_iff.mp H
          refine ev_4 hc_X10_painted (fe_X10_painted (pc := 40) rfl) (gR_gf ev10) ?_
          obtain ⟨v11, ev11, H⟩ := Option.bind_eq_some_iff.mp H
          refine ev_4 hc_X10_painted (fe_X10_painted (pc := 43) rfl) (gR_gf ev11) ?_
          refine ev_go hc_X10_painted (k := 1) (pc' := 47) (L' := [.ref a0, .int a1, .int a2]) (S' := [.int a1, .ref v11]) rfl ?_
          obtain ⟨v12, ev12, H⟩ := Option.bind_eq_some_iff.mp H
          refine ev_4 hc_X10_painted (fe_X10_painted (pc := 47) rfl) (rI_al ev12) ?_
          obtain rfl := Option.some.inj H
          exact ev_8 hc_X10_painted (fe_X10_painted (pc := 48) rfl) rfl
        · rw [if_neg c4] at H
          refine ev_bf hc_X10_painted (fe_X10_painted (pc := 15) rfl) rfl c4 ?_
          refine ev_go hc_X10_painted (k := 1) (pc' := 19) (L' := [.ref a0, .int a1, .int a2]) (S' := [.int ((-1))]) rfl ?_
          obtain rfl := Option.some.inj H
          exact ev_8 hc_X10_painted (fe_X10_painted (pc := 19) rfl) rfl
  · rw [if_neg ck] at H; cases H
