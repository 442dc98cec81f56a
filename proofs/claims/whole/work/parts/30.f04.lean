theorem hc_X11_would : ci_code (ci_Ms 116) = k_X11_would := rfl
theorem fe_X11_would {pc : Nat} {w : Option ci_I} (h : (k_X11_would)[pc]? = some w) : (k_X11_would)[pc]? = some w := h
def F_X11_would (a0 : Nat) (a1 : Int32) (a2 : Int32) (h : ci_H) : Option (Int32 × ci_H) := if kO h a0 = some 11 then ((gR h a0 11 0).bind fun v1 => (F_X10_hasHouse v1 a1 h).bind fun q2 => if q2.1 = 0 then (some ((-1), q2.2)) else ((gR q2.2 a0 11 0).bind fun v4 => (F_X10_hasThing v4 a2 q2.2).bind fun q5 => if q5.1 = 0 then (some ((-1), q5.2)) else ((gR q5.2 a0 11 0).bind fun v7 => (F_X10_keptBy v7 a1 q5.2).bind fun q8 => if (q8.1 ||| ((1 : Int32) <<< (a2 &&& 31))) = q8.1 then (some (0, q8.2)) else ((gR q8.2 a0 11 0).bind fun v10 => (F_X10_brokenIn v10 (q8.1 ||| ((1 : Int32) <<< (a2 &&& 31))) q8.2).bind fun q11 => some (q11.1, q11.2))))) else none
theorem K_X11_would {a0 : Nat} {a1 : Int32} {a2 : Int32} {h : ci_H} {r : Int32 × ci_H} (H : F_X11_would a0 a1 a2 h = some r) : kO h a0 = some 11 := by
  unfold F_X11_would at H
  by_cases c : kO h a0 = some 11
  · exact c
  · rw [if_neg c] at H; cases H
set_option maxHeartbeats 4000000 in
set_option maxRecDepth 20000 in
theorem E_X11_would {xs : Nat → Int32} {N d : Nat} {nx : ci_N} {a0 : Nat} {a1 : Int32} {a2 : Int32} {h : ci_H} {r : Int32 × ci_H} (H : F_X11_would a0 a1 a2 h = some r) (hd : 2 ≤ d) : Ev xs N d 116 0 (ci_entry [.ref a0, .int a1, .int a2] 5) [] h nx (oI r nx) := by
  obtain ⟨d, rfl⟩ : ∃ d2, d = d2 + 1 := ⟨d - 1, by omega⟩
  have hd : 1 ≤ d := by omega
  unfold F_X11_would at H
  by_cases ck : kO h a0 = some 11
  · rw [if_pos ck] at H
    show Ev xs N (d + 1) 116 0 [.ref a0, .int a1, .int a2, ci_junk, ci_junk] [] h nx _
    refine ev_go hc_X11_would (k := 1) (pc' := 1) (L' := [.ref a0, .int a1, .int a2, ci_junk, ci_junk]) (S' := [.ref a0]) rfl ?_
    obtain ⟨v1, ev1, H⟩ := Option.bind_eq_some_iff.mp H
    refine ev_4 hc_X11_would (fe_X11_would (pc := 1) rfl) (gR_gf ev1) ?_
    refine ev_go hc_X11_would (k := 1) (pc' := 5) (L' := [.ref a0, .int a1, .int a2, ci_junk, ci_junk]) (S' := [.int a1, .ref v1]) rfl ?_
    obtain ⟨q2, eq2, H⟩ := Option.bind_eq_some_iff.mp H
    refine ev_call (vs := [.ref v1, .int a1]) (rest := []) (q := q_X10_hasHouse) hc_X11_would (Or.inr rfl) (fe_X11_would (pc := 5) rfl) ms_62 rfl rfl (Nat.le_of_ble_eq_true rfl) (kO_recv (K_X10_hasHouse eq2)) (E_X10_hasHouse eq2 (by omega)) rfl ?_
    show Ev xs N (d + 1) 116 8 [.ref a0, .int a1, .int a2, ci_junk, ci_junk] [.int q2.1] q2.2 nx _
    by_cases c3 : q2.1 = 0
    · rw [if_pos c3] at H
      refine ev_bt hc_X11_would (fe_X11_would (pc := 8) rfl) rfl c3 ?_
      refine ev_go hc_X11_would (k := 1) (pc' := 23) (L' := [.ref a0, .int a1, .int a2, ci_junk, ci_junk]) (S' := [.int ((-1))]) rfl ?_
      obtain rfl := Option.some.inj H
      exact ev_8 hc_X11_would (fe_X11_would (pc := 23) rfl) rfl
    · rw [if_neg c3] at H
      refine ev_bf hc_X11_would (fe_X11_would (pc := 8) rfl) rfl c3 ?_
      refine ev_go hc_X11_would (k := 1) (pc' := 12) (L' := [.ref a0, .int a1, .int a2, ci_junk, ci_junk]) (S' := [.ref a0]) rfl ?_
      obtain ⟨v4, ev4, H⟩ := Option.bind_eq_some_iff.mp H
      refine ev_4 hc_X11_would (fe_X11_would (pc := 12) rfl) (gR_gf ev4) ?_
      refine ev_go hc_X11_would (k := 1) (pc' := 16) (L' := [.ref a0, .int a1, .int a2, ci_junk, ci_junk]) (S' := [.int a2, .ref v4]) rfl ?_
      obtain ⟨q5, eq5, H⟩ := Option.bind_eq_some_iff.mp H
      refine ev_call (vs := [.ref v4, .int a2]) (rest := []) (q := q_X10_hasThing) hc_X11_would (Or.inr rfl) (fe_X11_would (pc := 16) rfl) ms_63 rfl rfl (Nat.le_of_ble_eq_true rfl) (kO_recv (K_X10_hasThing eq5)) (E_X10_hasThing eq5 (by omega)) rfl ?_
      show Ev xs N (d + 1) 116 19 [.ref a0, .int a1, .int a2, ci_junk, ci_junk] [.int q5.1] q5.2 nx _
      by_cases c6 : q5.1 = 0
      · rw [if_pos c6] at H
        refine ev_bt hc_X11_would (fe_X11_would (pc := 19) rfl) rfl c6 ?_
        refine ev_go hc_X11_would (k := 1) (pc' := 23) (L' := [.ref a0, .int a1, .int a2, ci_junk, ci_junk]) (S' := [.int ((-1))]) rfl ?_
        obtain rfl := Option.some.inj H
        exact ev_8 hc_X11_would (fe_X11_would (pc := 23) rfl) rfl
      · rw [if_neg c6] at H
        refine ev_bf hc_X11_would (fe_X11_would (pc := 19) rfl) rfl c6 ?_
        refine ev_go hc_X11_would (k := 1) (pc' := 25) (L' := [.ref a0, .int a1, .int a2, ci_junk, ci_junk]) (S' := [.ref a0]) rfl ?_
        obtain ⟨v7, ev7, H⟩ := Option.bind_eq_some_iff.mp H
        refine ev_4 hc_X11_would (fe_X11_would (pc := 25) rfl) (gR_gf ev7) ?_
        refine ev_go hc_X11_would (k := 1) (pc' := 29) (L' := [.ref a0, .int a1, .int a2, ci_junk, ci_junk]) (S' := [.int a1, .ref v7]) rfl ?_
        obtain ⟨q8, eq8, H⟩ := Option.bind_eq_some_iff.mp H
        refine ev_call (vs := [.ref v7, .int a1]) (rest := []) (q := q_X10_keptBy) hc_X11_would (Or.inr rfl) (fe_X11_would (pc := 29) rfl) ms_75 rfl rfl (Nat.le_of_ble_eq_true rfl) (kO_recv (K_X10_keptBy eq8)) (E_X10_keptBy eq8 (by omega)) rfl ?_
        show Ev xs N (d + 1) 116 32 [.ref a0, .int a1, .int a2, ci_junk, ci_junk] [.int q8.1] q8.2 nx _
        refine ev_go hc_X11_would (k := 9) (pc' := 43) (L' := [.ref a0, .int a1, .int a2, .int q8.1, .int (q8.1 ||| ((1 : Int32) <<< (a2 &&& 31)))]) (S' := [.int q8.1, .int (q8.1 ||| ((1 : Int32) <<< (a2 &&& 31)))]) rfl ?_
        by_cases c9 : (q8.1 ||| ((1 : Int32) <<< (a2 &&& 31))) = q8.1
        · rw [if_pos c9] at H
          refine ev_bt hc_X11_would (fe_X11_would (pc := 43) rfl) rfl c9 ?_
          refine ev_go hc_X11_would (k := 2) (pc' := 59) (L' := [.ref a0, .int a1, .int a2, .int q8.1, .int (q8.1 ||| ((1 : Int32) <<< (a2 &&& 31)))]) (S' := [.int 0]) rfl ?_
          obtain rfl := Option.some.inj H
          exact ev_8 hc_X11_would (fe_X11_would (pc := 59) rfl) rfl
        · rw [if_neg c9] at H
          refine ev_bf hc_X11_would (fe_X11_would (pc := 43) rfl) rfl c9 ?_
          refine ev_go hc_X11_would (k := 1) (pc' := 51) (L' := [.ref a0, .int a1, .int a2, .int q8.1, .int (q8.1 ||| ((1 : Int32) <<< (a2 &&& 31)))]) (S' := [.ref a0]) rfl ?_
          obtain ⟨v10, ev10, H⟩ := Option.bind_eq_some_iff.mp H
          refine ev_4 hc_X11_would (fe_X11_would (pc := 51) rfl) (gR_gf ev10) ?_
          refine ev_go hc_X11_would (k := 1) (pc' := 56) (L' := [.ref a0, .int a1, .int a2, .int q8.1, .int (q8.1 ||| ((1 : Int32) <<< (a2 &&& 31)))]) (S' := [.int (q8.1 ||| ((1 : Int32) <<< (a2 &&& 31))), .ref v10]) rfl ?_
          obtain ⟨q11, eq11, H⟩ := Option.bind_eq_some_iff.mp H
          refine ev_call (vs := [.ref v10, .int (q8.1 ||| ((1 : Int32) <<< (a2 &&& 31)))]) (rest := []) (q := q_X10_brokenIn) hc_X11_would (Or.inr rfl) (fe_X11_would (pc := 56) rfl) ms_80 rfl rfl (Nat.le_of_ble_eq_true rfl) (kO_recv (K_X10_brokenIn eq11)) (E_X10_brokenIn eq11 (by omega)) rfl ?_
          show Ev xs N (d + 1) 116 59 [.ref a0, .int a1, .int a2, .int q8.1, .int (q8.1 ||| ((1 : Int32) <<< (a2 &&& 31)))] [.int q11.1] q11.2 nx _
          obtain rfl := Option.some.inj H
          exact ev_8 hc_X11_would (fe_X11_would (pc := 59) rfl) rfl
  · rw [if_neg ck] at H; cases H
theorem hc_X11_fewestToGiveAway : ci_code (ci_Ms 154) = k_X11_fewestToGiveAway := rfl
theorem fe_X11_fewestToGiveAway {pc : Nat} {w : Option ci_I} (h : (k_X11_fewestToGiveAway)[pc]? = some w) : (k_X11_fewestToGiveAway)[pc]? = some w := h
def b_X11_fewestToGiveAway_50 (r_14 : Int32 → Int32 → ci_H → Option (Int32 × ci_H)) (l0 : Nat) (l1 : Int32) (l2 : Int32) (l3 : Int32) (l4 : Int32)  (h : ci_H) : Option (Int32 × ci_H) := r_14 l2 (l4 + 1) h
set_option maxHeartbeats 4000000 in
set_option maxRecDepth 20000 in
theorem eb_X11_fewestToGiveAway_50 {xs : Nat → Int32} {N d : Nat} {nx : ci_N} {r_14 : Int32 → Int32 → ci_H → Option (Int32 × ci_H)} {l0 : Nat} {l1 : Int32} {l2 : Int32} {l3 : Int32} {l4 : Int32} (hd : 103 ≤ d) (h_14 : ∀ (l2 : Int32) (l4 : Int32) (h : ci_H) (r : Int32 × ci_H), r_14 l2 l4 h = some r → Ev xs N (d + 1) 154 14 [.ref l0, .int l1, .int l2, .int l3, .int l4] [] h nx (oI r nx)) {h : ci_H} {r : Int32 × ci_H} (H : b_X11_fewestToGiveAway_50 r_14 l0 l1 l2 l3 l4 h = some r) : Ev xs N (d + 1) 154 50 [.ref l0, .int l1, .int l2, .int l3, .int l4] [] h nx (oI r nx) := by
  unfold b_X11_fewestToGiveAway_50 at H
  refine ev_go hc_X11_fewestToGiveAway (k := 2) (pc' := 14) (L' := [.ref l0, .int l1, .int l2, .int l3, .int (l4 + 1)]) (S' := []) rfl ?_
  exact Ev.weak (ci_le_c (Or.inr rfl) (ci_le_c (Or.inr rfl) (ci_le_c (Or.inr rfl) (ci_le_c (Or.inr rfl) (ci_le_c (Or.inr rfl) (ci_le_n)))))) (h_14 _ _ _ _ H)
def b_X11_fewestToGiveAway_14 (l0 : Nat) (l1 : Int32) (l3 : Int32) : Nat → Int32 → Int32 → ci_H → Option (Int32 × ci_H)
  | 0, _, _, _ => none
  | n + 1, l2, l4, h => (gR h l0 11 0).bind fun v1 => (gI h v1 10 7).bind fun v2 => if v2 ≤ l4 then ((gR h l0 11 14).bind fun v4 => (gR h l0 11 0).bind fun v5 => (F_X10_loadOf v5 (l1 &&& (l2 ^^^ ((-1)))) h).bind fun q6 => (F_X0_greatestOfMost v4 q6.1 l2 q6.2).bind fun q7 => some (l2 &&& (q7.1 ^^^ ((-1))), q7.2)) else (if ((l3 >>> (l4 &&& 31)) &&& 1) = 0 then (b_X11_fewestToGiveAway_50 (fun x0 x1 x2 => b_X11_fewestToGiveAway_14 l0 l1 l3 n x0 x1 x2) l0 l1 l2 l3 l4 h) else ((gR h l0 11 0).bind fun v9 => (gR h v9 10 3).bind fun v10 => (rI h v10 l4).bind fun v11 => b_X11_fewestToGiveAway_50 (fun x0 x1 x2 => b_X11_fewestToGiveAway_14 l0 l1 l3 n x0 x1 x2) l0 l1 (l2 ||| (l1 &&& v11)) l3 l4 h))
set_option maxHeartbeats 4000000 in
set_option maxRecDepth 20000 in
theorem eb_X11_fewestToGiveAway_14 {xs : Nat → Int32} {N d : Nat} {nx : ci_N} {l0 : Nat} {l1 : Int32} {l3 : Int32} (hd : 103 ≤ d) : ∀ (n : Nat) (l2 : Int32) (l4 : Int32) (h : ci_H) (r : Int32 × ci_H), b_X11_fewestToGiveAway_14 l0 l1 l3 n l2 l4 h = some r → Ev xs N (d + 1) 154 14 [.ref l0, .int l1, .int l2, .int l3, .int l4] [] h nx (oI r nx) := by
  intro n
  induction n with
  | zero => intro l2 l4 h r H; unfold b_X11_fewestToGiveAway_14 at H; cases H
  | succ n ih =>
    intro l2 l4 h r H
    unfold b_X11_fewestToGiveAway_14 at H
    refine ev_go hc_X11_fewestToGiveAway (k := 2) (pc' := 17) (L' := [.ref l0, .int l1, .int l2, .int l3, .int l4]) (S' := [.ref l0, .int l4]) rfl ?_
    obtain ⟨v1, ev1, H⟩ := Option.bind_eq_some_iff.mp H
    refine ev_4 hc_X11_fewestToGiveAway (fe_X11_fewestToGiveAway (pc := 17) rfl) (gR_gf ev1) ?_
    obtain ⟨v2, ev2, H⟩ := Option.bind_eq_some_iff.mp H
    refine ev_4 hc_X11_fewestToGiveAway (fe_X11_fewestToGiveAway (pc := 20) rfl) (gI_gf ev2) ?_
    by_cases c3 : v2 ≤ l4
    · rw [if_pos c3] at H
      refine ev_bt hc_X11_fewestToGiveAway (fe_X11_fewestToGiveAway (pc := 23) rfl) rfl c3 ?_
      refine ev_go hc_X11_fewestToGiveAway (k := 2) (pc' := 58) (L' := [.ref l0, .int l1, .int l2, .int l3, .int l4]) (S' := [.ref l0, .int l2]) rfl ?_
      obtain ⟨v4, ev4, H⟩ := Option.bind_eq_some_iff.mp H
      refine ev_4 hc_X11_fewestToGiveAway (fe_X11_fewestToGiveAway (pc := 58) rfl) (gR_gf ev4) ?_
      refine ev_go hc_X11_fewestToGiveAway (k := 1) (pc' := 62) (L' := [.ref l0, .int l1, .int l2, .int l3, .int l4]) (S' := [.ref l0, .ref v4, .int l2]) rfl ?_
      obtain ⟨v5, ev5, H⟩ := Option.bind_eq_some_iff.mp H
      refine ev_4 hc_X11_fewestToGiveAway (fe_X11_fewestToGiveAway (pc := 62) rfl) (gR_gf ev5) ?_
      refine ev_go hc_X11_fewestToGiveAway (k := 5) (pc' := 70) (L' := [.ref l0, .int l1, .int l2, .int l3, .int l4]) (S' := [.int (l1 &&& (l2 ^^^ ((-1)))), .ref v5, .ref v4, .int l2]) rfl ?_
      obtain ⟨q6, eq6, H⟩ := Option.bind_eq_some_iff.mp H
      refine ev_call (vs := [.ref v5, .int (l1 &&& (l2 ^^^ ((-1))))]) (rest := [.ref v4, .int l2]) (q := q_X10_loadOf) hc_X11_fewestToGiveAway (Or.inr rfl) (fe_X11_fewestToGiveAway (pc := 70) rfl) ms_82 rfl rfl (Nat.le_of_ble_eq_true rfl) (kO_recv (K_X10_loadOf eq6)) (E_X10_loadOf eq6 (by omega)) rfl ?_
      show Ev xs N (d + 1) 154 73 [.ref l0, .int l1, .int l2, .int l3, .int l4] [.int q6.1, .ref v4, .int l2] q6.2 nx _
      refine ev_go hc_X11_fewestToGiveAway (k := 1) (pc' := 74) (L' := [.ref l0, .int l1, .int l2, .int l3, .int l4]) (S' := [.int l2, .int q6.1, .ref v4, .int l2]) rfl ?_
      obtain ⟨q7, eq7, H⟩ := Option.bind_eq_some_iff.mp H
      refine ev_call (vs := [.ref v4, .int q6.1, .int l2]) (rest := [.int l2]) (q := q_X0_greatestOfMost) hc_X11_fewestToGiveAway (Or.inr rfl) (fe_X11_fewestToGiveAway (pc := 74) rfl) ms_2 rfl rfl (Nat.le_of_ble_eq_true rfl) (kO_recv (K_X0_greatestOfMost eq7)) (E_X0_greatestOfMost eq7 (by omega)) rfl ?_
      show Ev xs N (d + 1) 154 77 [.ref l0, .int l1, .int l2, .int l3, .int l4] [.int q7.1, .int l2] q7.2 nx _
      refine ev_go hc_X11_fewestToGiveAway (k := 3) (pc' := 80) (L' := [.ref l0, .int l1, .int l2, .int l3, .int l4]) (S' := [.int (l2 &&& (q7.1 ^^^ ((-1))))]) rfl ?_
      obtain rfl := Option.some.inj H
      exact ev_8 hc_X11_fewestToGiveAway (fe_X11_fewestToGiveAway (pc := 80) rfl) rfl
    · rw [if_neg c3] at H
      refine ev_bf hc_X11_fewestToGiveAway (fe_X11_fewestToGiveAway (pc := 23) rfl) rfl c3 ?_
      refine ev_go hc_X11_fewestToGiveAway (k := 5) (pc' := 32) (L' := [.ref l0, .int l1, .int l2, .int l3, .int l4]) (S' := [.int ((l3 >>> (l4 &&& 31)) &&& 1)]) rfl ?_
      by_cases c8 : ((l3 >>> (l4 &&& 31)) &&& 1) = 0
      · rw [if_pos c8] at H
        refine ev_bt hc_X11_fewestToGiveAway (fe_X11_fewestToGiveAway (pc := 32) rfl) rfl c8 ?_
        exact Ev.weak (ci_le_c (Or.inr rfl) (ci_le_c (Or.inr rfl) (ci_le_c (Or.inr rfl) (ci_le_c (Or.inr rfl) (ci_le_c (Or.inr rfl) (ci_le_n)))))) (eb_X11_fewestToGiveAway_50 hd ih H)
      · rw [if_neg c8] at H
        refine ev_bf hc_X11_fewestToGiveAway (fe_X11_fewestToGiveAway (pc := 32) rfl) rfl c8 ?_
        refine ev_go hc_X11_fewestToGiveAway (k := 3) (pc' := 38) (L' := [.ref l0, .int l1, .int l2, .int l3, .int l4]) (S' := [.ref l0, .int l1, .int l2]) rfl ?_
        obtain ⟨v9, ev9, H⟩ := Option.bind_eq_some_iff.mp H
        refine ev_4 hc_X11_fewestToGiveAway (fe_X11_fewestToGiveAway (pc := 38) rfl) (gR_gf ev9) ?_
        obtain ⟨v10, ev10, H⟩ := Option.bind_eq_some_iff.mp H
        refine ev_4 hc_X11_fewestToGiveAway (fe_X11_fewestToGiveAway (pc := 41) rfl) (gR_gf ev10) ?_
        refine ev_go hc_X11_fewestToGiveAway (k := 1) (pc' := 46) (L' := [.ref l0, .int l1, .int l2, .int l3, .int l4]) (S' := [.int l4, .ref v10, .int l1, .int l2]) rfl ?_
        obtain ⟨v11, ev11, H⟩ := Option.bind_eq_some_iff.mp H
        refine ev_4 hc_X11_fewestToGiveAway (fe_X11_fewestToGiveAway (pc := 46) rfl) (rI_al ev11) ?_
        refine ev_go hc_X11_fewestToGiveAway (k := 3) (pc' := 50) (L' := [.ref l0, .int l1, .int (l2 ||| (l1 &&& v11)), .int l3, .int l4]) (S' := []) rfl ?_
        exact Ev.weak (ci_le_c (Or.inr rfl) (ci_le_c (Or.inr rfl) (ci_le_c (Or.inr rfl) (ci_le_c (Or.inr rfl) (ci_le_c (Or.inr rfl) (ci_le_n)))))) (eb_X11_fewestToGiveAway_50 hd ih H)
def F_X11_fewestToGiveAway (a0 : Nat) (a1 : Int32) (h : ci_H) : Option (Int32 × ci_H) := if kO h a0 = some 11 then ((gR h a0 11 0).bind fun v1 => (F_X10_brokenIn v1 a1 h).bind fun q2 => b_X11_fewestToGiveAway_14 a0 a1 q2.1 bigN 0 0 q2.2) else none
theorem K_X11_fewestToGiveAway {a0 : Nat} {a1 : Int32} {h : ci_H} {r : Int32 × ci_H} (H : F_X11_fewestToGiveAway a0 a1 h = some r) : kO h a0 = some 11 := by
  unfold F_X11_fewestToGiveAway at H
  by_cases c : kO h a0 = some 11
  · exact c
  · rw [if_neg c] at H; cases H
set_option maxHeartbeats 4000000 in
set_option maxRecDepth 20000 in
theorem E_X11_fewestToGiveAway {xs : Nat → Int32} {N d : Nat} {nx : ci_N} {a0 : Nat} {a1 : Int32} {h : ci_H} {r : Int32 × ci_H} (H : F_X11_fewestToGiveAway a0 a1 h = some r) (hd : 104 ≤ d) : Ev xs N d 154 0 (ci_entry [.ref a0, .int a1] 5) [] h nx (oI r nx) := by
  obtain ⟨d, rfl⟩ : ∃ d2, d = d2 + 1 := ⟨d - 1, by omega⟩
  have hd : 103 ≤ d := by omega
  unfold F_X11_fewestToGiveAway at H
  by_cases ck : kO h a0 = some 11
  · rw [if_pos ck] at H
    show Ev xs N (d + 1) 154 0 [.ref a0, .int a1, ci_junk, ci_junk, ci_junk] [] h nx _
    refine ev_go hc_X11_fewestToGiveAway (k := 3) (pc' := 3) (L' := [.ref a0, .int a1, .int 0, ci_junk, ci_junk]) (S' := [.ref a0]) rfl ?_
    obtain ⟨v1, ev1, H⟩ := Option.bind_eq_some_iff.mp H
    refine ev_4 hc_X11_fewestToGiveAway (fe_X11_fewestToGiveAway (pc := 3) rfl) (gR_gf ev1) ?_
    refine ev_go hc_X11_fewestToGiveAway (k := 1) (pc' := 7) (L' := [.ref a0, .int a1, .int 0, ci_junk, ci_junk]) (S' := [.int a1, .ref v1]) rfl ?_
    obtain ⟨q2, eq2, H⟩ := Option.bind_eq_some_iff.mp H
    refine ev_call (vs := [.ref v1, .int a1]) (rest := []) (q := q_X10_brokenIn) hc_X11_fewestToGiveAway (Or.inr rfl) (fe_X11_fewestToGiveAway (pc := 7) rfl) ms_80 rfl rfl (Nat.le_of_ble_eq_true rfl) (kO_recv (K_X10_brokenIn eq2)) (E_X10_brokenIn eq2 (by omega)) rfl ?_
    show Ev xs N (d + 1) 154 10 [.ref a0, .int a1, .int 0, ci_junk, ci_junk] [.int q2.1] q2.2 nx _
    refine ev_go hc_X11_fewestToGiveAway (k := 3) (pc' := 14) (L' := [.ref a0, .int a1, .int 0, .int q2.1, .int 0]) (S' := []) rfl ?_
    exact Ev.weak (ci_le_c (Or.inr rfl) (ci_le_c (Or.inr rfl) (ci_le_c (Or.inr rfl) (ci_le_c (Or.inr rfl) (ci_le_c (Or.inr rfl) (ci_le_n)))))) (eb_X11_fewestToGiveAway_14 hd bigN _ _ _ _ H)
  · rw [if_neg ck] at H; cases H
theorem hc_X11_tellOne : ci_code (ci_Ms 147) = k_X11_tellOne := rfl
theorem fe_X11_tellOne {pc : Nat} {w : Option ci_I} (h : (k_X11_tellOne)[pc]? = some w) : (k_X11_tellOne)[pc]? = some w := h
def F_X11_tellOne (a0 : Nat) (a1 : Int64) (h : ci_H) : Option (ci_H) := if kO h a0 = some 11 then ((F_X11_tellNothing a0 h).bind fun h1 => (F_X11_tellBesides a0 a1 h1).bind fun h2 => some h2) else none
theorem K_X11_tellOne {a0 : Nat} {a1 : Int64} {h : ci_H} {r : ci_H} (H : F_X11_tellOne a0 a1 h = some r) : kO h a0 = some 11 := by
  unfold F_X11_tellOne at H
  by_cases c : kO h a0 = some 11
  · exact c
  · rw [if_neg c] at H; cases H
set_option maxHeartbeats 4000000 in
set_option maxRecDepth 20000 in
theorem E_X11_tellOne {xs : Nat → Int32} {N d : Nat} {nx : ci_N} {a0 : Nat} {a1 : Int64} {h : ci_H} {r : ci_H} (H : F_X11_tellOne a0 a1 h = some r) (hd : 1 ≤ d) : Ev xs N d 147 0 (ci_entry [.ref a0, .long a1] 3) [] h nx (oV r nx) := by
  obtain ⟨d, rfl⟩ : ∃ d2, d = d2 + 1 := ⟨d - 1, by omega⟩
  have hd : 0 ≤ d := by omega
  unfold F_X11_tellOne at H
  by_cases ck : kO h a0 = some 11
  · rw [if_pos ck] at H
    show Ev xs N (d + 1) 147 0 [.ref a0, .long a1, ci_junk] [] h nx _
    refine ev_go hc_X11_tellOne (k := 1) (pc' := 1) (L' := [.ref a0, .long a1, ci_junk]) (S' := [.ref a0]) rfl ?_
    obtain ⟨h1, eh1, H⟩ := Option.bind_eq_some_iff.mp H
    refine ev_call (vs := [.ref a0]) (rest := []) (q := q_X11_tellNothing) hc_X11_tellOne (Or.inr rfl) (fe_X11_tellOne (pc := 1) rfl) ms_145 rfl rfl (Nat.le_of_ble_eq_true rfl) (kO_recv (K_X11_tellNothing eh1)) (E_X11_tellNothing eh1 (by omega)) rfl ?_
    show Ev xs N (d + 1) 147 4 [.ref a0, .long a1, ci_junk] [] h1 nx _
    refine ev_go hc_X11_tellOne (k := 2) (pc' := 6) (L' := [.ref a0, .long a1, ci_junk]) (S' := [.long a1, .ref a0]) rfl ?_
    obtain ⟨h2, eh2, H⟩ := Option.bind_eq_some_iff.mp H
    refine ev_call (vs := [.ref a0, .long a1]) (rest := []) (q := q_X11_tellBesides) hc_X11_tellOne (Or.inr rfl) (fe_X11_tellOne (pc := 6) rfl) ms_146 rfl rfl (Nat.le_of_ble_eq_true rfl) (kO_recv (K_X11_tellBesides eh2)) (E_X11_tellBesides eh2 (by omega)) rfl ?_
    show Ev xs N (d + 1) 147 9 [.ref a0, .long a1, ci_junk] [] h2 nx _
    obtain rfl := Option.some.inj H
    exact ev_8 hc_X11_tellOne (fe_X11_tellOne (pc := 9) rfl) rfl
  · rw [if_neg ck] at H; cases H
theorem hc_X11_rid : ci_code (ci_Ms 117) = k_X11_rid := rfl
theorem fe_X11_rid {pc : Nat} {w : Option ci_I} (h : (k_X11_rid)[pc]? = some w) : (k_X11_rid)[pc]? = some w := h
def F_X11_rid (a0 : Nat) (a1 : Int32) (h : ci_H) : Option (Int32 × ci_H) := if kO h a0 = some 11 then ((gR h a0 11 0).bind fun v1 => (F_X10_hasHouse v1 a1 h).bind fun q2 => if q2.1 = 0 then (some ((-1), q2.2)) else ((gR q2.2 a0 11 0).bind fun v4 => (F_X10_keptBy v4 a1 q2.2).bind fun q5 => (F_X11_fewestToGiveAway a0 q5.1 q5.2).bind fun q6 => (F_X11_tellOne a0 ((q6.1 : Int32).toInt64) q6.2).bind fun h7 => (F_J6_bitCount_0f7a4 q6.1 h7).bind fun q8 => some (q8.1, q8.2))) else none
theorem K_X11_rid {a0 : Nat} {a1 : Int32} {h : ci_H} {r : Int32 × ci_H} (H : F_X11_rid a0 a1 h = some r) : kO h a0 = some 11 := by
  unfold F_X11_rid at H
  by_cases c : kO h a0 = some 11
  · exact c
  · rw [if_neg c] at H; cases H
set_option maxHeartbeats 4000000 in
set_option maxRecDepth 20000 in
theorem E_X11_rid {xs : Nat → Int32} {N d : Nat} {nx : ci_N} {a0 : Nat} {a1 : Int32} {h : ci_H} {r : Int32 × ci_H} (H : F_X11_rid a0 a1 h = some r) (hd : 105 ≤ d) : Ev xs N d 117 0 (ci_entry [.ref a0, .int a1] 3) [] h nx (oI r nx) := by
  obtain ⟨d, rfl⟩ : ∃ d2, d = d2 + 1 := ⟨d - 1, by omega⟩
  have hd : 104 ≤ d := by omega
  unfold F_X11_rid at H
  by_cases ck : kO h a0 = some 11
  · rw [if_pos ck] at H
    show Ev xs N (d + 1) 117 0 [.ref a0, .int a1, ci_junk] [] h nx _
    refine ev_go hc_X11_rid (k := 1) (pc' := 1) (L' := [.ref a0, .int a1, ci_junk]) (S' := [.ref a0]) rfl ?_
    obtain ⟨v1, ev1, H⟩ := Option.bind_eq_some_iff.mp H
    refine ev_4 hc_X11_rid (fe_X11_rid (pc := 1) rfl) (gR_gf ev1) ?_
    refine ev_go hc_X11_rid (k := 1) (pc' := 5) (L' := [.ref a0, .int a1, ci_junk]) (S' := [.int a1, .ref v1]) rfl ?_
    obtain ⟨q2, eq2, H⟩ := Option.bind_eq_some_iff.mp H
    refine ev_call (vs := [.ref v1, .int a1]) (rest := []) (q := q_X10_hasHouse) hc_X11_rid (Or.inr rfl) (fe_X11_rid (pc := 5) rfl) ms_62 rfl rfl (Nat.le_of_ble_eq_true rfl) (kO_recv (K_X10_hasHouse eq2)) (E_X10_hasHouse eq2 (by omega)) rfl ?_
    show Ev xs N (d + 1) 117 8 [.ref a0, .int a1, ci_junk] [.int q2.1] q2.2 nx _
    by_cases c3 : q2.1 = 0
    · rw [if_pos c3] at H
      refine ev_bt hc_X11_rid (fe_X11_rid (pc := 8) rfl) rfl c3 ?_
      refine ev_go hc_X11_rid (k := 1) (pc' := 12) (L' := [.ref a0, .int a1, ci_junk]) (S' := [.int ((-1))]) rfl ?_
      obtain rfl := Option.some.inj H
      exact ev_8 hc_X11_rid (fe_X11_rid (pc := 12) rfl) rfl
    · rw [if_neg c3] at H
      refine ev_bf hc_X11_rid (fe_X11_rid (pc := 8) rfl) rfl c3 ?_
      refine ev_go hc_X11_rid (k := 2) (pc' := 15) (L' := [.ref a0, .int a1, ci_junk]) (S' := [.ref a0, .ref a0]) rfl ?_
      obtain ⟨v4, ev4, H⟩ := Option.bind_eq_some_iff.mp H
      refine ev_4 hc_X11_rid (fe_X11_rid (pc := 15) rfl) (gR_gf ev4) ?_
      refine ev_go hc_X11_rid (k := 1) (pc' := 19) (L' := [.ref a0, .int a1, ci_junk]) (S' := [.int a1, .ref v4, .ref a0]) rfl ?_
      obtain ⟨q5, eq5, H⟩ := Option.bind_eq_some_iff.mp H
      refine ev_call (vs := [.ref v4, .int a1]) (rest := [.ref a0]) (q := q_X10_keptBy) hc_X11_rid (Or.inr rfl) (fe_X11_rid (pc := 19) rfl) ms_75 rfl rfl (Nat.le_of_ble_eq_true rfl) (kO_recv (K_X10_keptBy eq5)) (E_X10_keptBy eq5 (by omega)) rfl ?_
      show Ev xs N (d + 1) 117 22 [.ref a0, .int a1, ci_junk] [.int q5.1, .ref a0] q5.2 nx _
      obtain ⟨q6, eq6, H⟩ := Option.bind_eq_some_iff.mp H
      refine ev_call (vs := [.ref a0, .int q5.1]) (rest := []) (q := q_X11_fewestToGiveAway) hc_X11_rid (Or.inr rfl) (fe_X11_rid (pc := 22) rfl) ms_154 rfl rfl (Nat.le_of_ble_eq_true rfl) (kO_recv (K_X11_fewestToGiveAway eq6)) (E_X11_fewestToGiveAway eq6 (by omega)) rfl ?_
      show Ev xs N (d + 1) 117 25 [.ref a0, .int a1, ci_junk] [.int q6.1] q6.2 nx _
      refine ev_go hc_X11_rid (k := 4) (pc' := 29) (L' := [.ref a0, .int a1, .int q6.1]) (S' := [.long ((q6.1 : Int32).toInt64), .ref a0]) rfl ?_
      obtain ⟨h7, eh7, H⟩ := Option.bind_eq_some_iff.mp H
      refine ev_call (vs := [.ref a0, .long ((q6.1 : Int32).toInt64)]) (rest := []) (q := q_X11_tellOne) hc_X11_rid (Or.inr rfl) (fe_X11_rid (pc := 29) rfl) ms_147 rfl rfl (Nat.le_of_ble_eq_true rfl) (kO_recv (K_X11_tellOne eh7)) (E_X11_tellOne eh7 (by omega)) rfl ?_
      show Ev xs N (d + 1) 117 32 [.ref a0, .int a1, .int q6.1] [] h7 nx _
      refine ev_go hc_X11_rid (k := 1) (pc' := 33) (L' := [.ref a0, .int a1, .int q6.1]) (S' := [.int q6.1]) rfl ?_
      obtain ⟨q8, eq8, H⟩ := Option.bind_eq_some_iff.mp H
      refine ev_call (vs := [.int q6.1]) (rest := []) (q := q_J6_bitCount_0f7a4) hc_X11_rid (Or.inl rfl) (fe_X11_rid (pc := 33) rfl) ms_285 rfl rfl (Nat.le_of_ble_eq_true rfl) rfl (E_J6_bitCount_0f7a4 eq8 (by omega)) rfl ?_
      show Ev xs N (d + 1) 117 36 [.ref a0, .int a1, .int q6.1] [.int q8.1] q8.2 nx _
      obtain rfl := Option.some.inj H
      exact ev_8 hc_X11_rid (fe_X11_rid (pc := 36) rfl) rfl
  · rw [if_neg ck] at H; cases H
theorem hc_X11_worthOfAll : ci_code (ci_Ms 153) = k_X11_worthOfAll := rfl
theorem fe_X11_worthOfAll {pc : Nat} {w : Option ci_I} (h : (k_X11_worthOfAll)[pc]? = some w) : (k_X11_worthOfAll)[pc]? = some w := h
def b_X11_worthOfAll_43 (r_5 : Int32 → Int32 → ci_H → Option (Int32 × ci_H)) (l0 : Nat) (l1 : Int32) (l2 : Int32) (l3 : Int32) (l4 : Int32)  (h : ci_H) : Option (Int32 × ci_H) := r_5 l3 (l4 + 1) h
set_option maxHeartbeats 4000000 in
set_option maxRecDepth 20000 in
theorem eb_X11_worthOfAll_43 {xs : Nat → Int32} {N d : Nat} {nx : ci_N} {r_5 : Int32 → Int32 → ci_H → Option (Int32 × ci_H)} {l0 : Nat} {l1 : Int32} {l2 : Int32} {l3 : Int32} {l4 : Int32} (hd : 3 ≤ d) (h_5 : ∀ (l3 : Int32) (l4 : Int32) (h : ci_H) (r : Int32 × ci_H), r_5 l3 l4 h = some r → Ev xs N (d + 1) 153 5 [.ref l0, .int l1, .int l2, .int l3, .int l4] [] h nx (oI r nx)) {h : ci_H} {r : Int32 × ci_H} (H : b_X11_worthOfAll_43 r_5 l0 l1 l2 l3 l4 h = some r) : Ev xs N (d + 1) 153 43 [.ref l0, .int l1, .int l2, .int l3, .int l4] [] h nx (oI r nx) := by
  unfold b_X11_worthOfAll_43 at H
  refine ev_go hc_X11_worthOfAll (k := 2) (pc' := 5) (L' := [.ref l0, .int l1, .int l2, .int l3, .int (l4 + 1)]) (S' := []) rfl ?_
  exact Ev.weak (ci_le_c (Or.inr rfl) (ci_le_c (Or.inr rfl) (ci_le_c (Or.inr rfl) (ci_le_c (Or.inr rfl) (ci_le_c (Or.inr rfl) (ci_le_n)))))) (h_5 _ _ _ _ H)
def b_X11_worthOfAll_5 (l0 : Nat) (l1 : Int32) (l2 : Int32) : Nat → Int32 → Int32 → ci_H → Option (Int32 × ci_H)
  | 0, _, _, _ => none
  | n + 1, l3, l4, h => (gR h l0 11 0).bind fun v1 => (gI h v1 10 6).bind fun v2 => if v2 ≤ l4 then (some (l3, h)) else (if ((l1 >>> (l4 &&& 31)) &&& 1) = 0 then (b_X11_worthOfAll_43 (fun x0 x1 x2 => b_X11_worthOfAll_5 l0 l1 l2 n x0 x1 x2) l0 l1 l2 l3 l4 h) else ((gR h l0 11 3).bind fun v5 => (gR h l0 11 0).bind fun v6 => (F_X4_value v5 v6 l4 l2 h).bind fun q7 => b_X11_worthOfAll_43 (fun x0 x1 x2 => b_X11_worthOfAll_5 l0 l1 l2 n x0 x1 x2) l0 l1 l2 (l3 + q7.1) l4 q7.2))
set_option maxHeartbeats 4000000 in
set_option maxRecDepth 20000 in
theorem eb_X11_worthOfAll_5 {xs : Nat → Int32} {N d : Nat} {nx : ci_N} {l0 : Nat} {l1 : Int32} {l2 : Int32} (hd : 3 ≤ d) : ∀ (n : Nat) (l3 : Int32) (l4 : Int32) (h : ci_H) (r : Int32 × ci_H), b_X11_worthOfAll_5 l0 l1 l2 n l3 l4 h = some r → Ev xs N (d + 1) 153 5 [.ref l0, .int l1, .int l2, .int l3, .int l4] [] h nx (oI r nx) := by
  intro n
  induction n with
  | zero => intro l3 l4 h r H; unfold b_X11_worthOfAll_5 at H; cases H
  | succ n ih =>
    intro l3 l4 h r H
    unfold b_X11_worthOfAll_5 at H
    refine ev_go hc_X11_worthOfAll (k := 2) (pc' := 8) (L' := [.ref l0, .int l1, .int l2, .int l3, .int l4]) (S' := [.ref l0, .int l4]) rfl ?_
    obtain ⟨v1, ev1, H⟩ := Option.bind_eq_some_iff.mp H
    refine ev_4 hc_X11_worthOfAll (fe_X11_worthOfAll (pc := 8) rfl) (gR_gf ev1) ?_
    obtain ⟨v2, ev2, H⟩ := Option.bind_eq_some_iff.mp H
    refine ev_4 hc_X11_worthOfAll (fe_X11_worthOfAll (pc := 11) rfl) (gI_gf ev2) ?_
    by_cases c3 : v2 ≤ l4
    · rw [if_pos c3] at H
      refine ev_bt hc_X11_worthOfAll (fe_X11_worthOfAll (pc := 14) rfl) rfl c3 ?_
      refine ev_go hc_X11_worthOfAll (k := 1) (pc' := 50) (L' := [.ref l0, .int l1, .int l2, .int l3, .int l4]) (S' := [.int l3]) rfl ?_
      obtain rfl := Option.some.inj H
      exact ev_8 hc_X11_worthOfAll (fe_X11_worthOfAll (pc := 50) rfl) rfl
    · rw [if_neg c3] at H
      refine ev_bf hc_X11_worthOfAll (fe_X11_worthOfAll (pc := 14) rfl) rfl c3 ?_
      refine ev_go hc_X11_worthOfAll (k := 5) (pc' := 23) (L' := [.ref l0, .int l1, .int l2, .int l3, .int l4]) (S' := [.int ((l1 >>> (l4 &&& 31)) &&& 1)]) rfl ?_
      by_cases c4 : ((l1 >>> (l4 &&& 31)) &&& 1) = 0
      · rw [if_pos c4] at H
        refine ev_bt hc_X11_worthOfAll (fe_X11_worthOfAll (pc := 23) rfl) rfl c4 ?_
        exact Ev.weak (ci_le_c (Or.inr rfl) (ci_le_c (Or.inr rfl) (ci_le_c (Or.inr rfl) (ci_le_c (Or.inr rfl) (ci_le_c (Or.inr rfl) (ci_le_n)))))) (eb_X11_worthOfAll_43 hd ih H)
      · rw [if_neg c4] at H
        refine ev_bf hc_X11_worthOfAll (fe_X11_worthOfAll (pc := 23) rfl) rfl c4 ?_
        refine ev_go hc_X11_worthOfAll (k := 2) (pc' := 28) (L' := [.ref l0, .int l1, .int l2, .int l3, .int l4]) (S' := [.ref l0, .int l3]) rfl ?_
        obtain ⟨v5, ev5, H⟩ := Option.bind_eq_some_iff.mp H
        refine ev_4 hc_X11_worthOfAll (fe_X11_worthOfAll (pc := 28) rfl) (gR_gf ev5) ?_
        refine ev_go hc_X11_worthOfAll (k := 1) (pc' := 32) (L' := [.ref l0, .int l1, .int l2, .int l3, .int l4]) (S' := [.ref l0, .ref v5, .int l3]) rfl ?_
        obtain ⟨v6, ev6, H⟩ := Option.bind_eq_some_iff.mp H
        refine ev_4 hc_X11_worthOfAll (fe_X11_worthOfAll (pc := 32) rfl) (gR_gf ev6) ?_
        refine ev_go hc_X11_worthOfAll (k := 2) (pc' := 38) (L' := [.ref l0, .int l1, .int l2, .int l3, .int l4]) (S' := [.int l2, .int l4, .ref v6, .ref v5, .int l3]) rfl ?_
        obtain ⟨q7, eq7, H⟩ := Option.bind_eq_some_iff.mp H
        refine ev_call (vs := [.ref v5, .ref v6, .int l4, .int l2]) (rest := [.int l3]) (q := q_X4_value) hc_X11_worthOfAll (Or.inr rfl) (fe_X11_worthOfAll (pc := 38) rfl) ms_25 rfl rfl (Nat.le_of_ble_eq_true rfl) (kO_recv (K_X4_value eq7)) (E_X4_value eq7 (by omega)) rfl ?_
        show Ev xs N (d + 1) 153 41 [.ref l0, .int l1, .int l2, .int l3, .int l4] [.int q7.1, .int l3] q7.2 nx _
        refine ev_go hc_X11_worthOfAll (k := 2) (pc' := 43) (L' := [.ref l0, .int l1, .int l2, .int (l3 + q7.1), .int l4]) (S' := []) rfl ?_
        exact Ev.weak (ci_le_c (Or.inr rfl) (ci_le_c (Or.inr rfl) (ci_le_c (Or.inr rfl) (ci_le_c (Or.inr rfl) (ci_le_c (Or.inr rfl) (ci_le_n)))))) (eb_X11_worthOfAll_43 hd ih H)
def F_X11_worthOfAll (a0 : Nat) (a1 : Int32) (a2 : Int32) (h : ci_H) : Option (Int32 × ci_H) := if kO h a0 = some 11 then (b_X11_worthOfAll_5 a0 a1 a2 bigN 0 0 h) else none
theorem K_X11_worthOfAll {a0 : Nat} {a1 : Int32} {a2 : Int32} {h : ci_H} {r : Int32 × ci_H} (H : F_X11_worthOfAll a0 a1 a2 h = some r) : kO h a0 = some 11 := by
  unfold F_X11_worthOfAll at H
  by_cases c : kO h a0 = some 11
  · exact c
  · rw [if_neg c] at H; cases H
set_option maxHeartbeats 4000000 in
set_option maxRecDepth 20000 in
theorem E_X11_worthOfAll {xs : Nat → Int32} {N d : Nat} {nx : ci_N} {a0 : Nat} {a1 : Int32} {a2 : Int32} {h : ci_H} {r : Int32 × ci_H} (H : F_X11_worthOfAll a0 a1 a2 h = some r) (hd : 4 ≤ d) : Ev xs N d 153 0 (ci_entry [.ref a0, .int a1, .int a2] 5) [] h nx (oI r nx) := by
  obtain ⟨d, rfl⟩ : ∃ d2, d = d2 + 1 := ⟨d - 1, by omega⟩
  have hd : 3 ≤ d := by omega
  unfold F_X11_worthOfAll at H
  by_cases ck : kO h a0 = some 11
  · rw [if_pos ck] at H
    show Ev xs N (d + 1) 153 0 [.ref a0, .int a1, .int a2, ci_junk, ci_junk] [] h nx _
    refine ev_go hc_X11_worthOfAll (k := 4) (pc' := 5) (L' := [.ref a0, .int a1, .int a2, .int 0, .int 0]) (S' := []) rfl ?_
    exact Ev.weak (ci_le_c (Or.inr rfl) (ci_le_c (Or.inr rfl) (ci_le_c (Or.inr rfl) (ci_le_c (Or.inr rfl) (ci_le_c (Or.inr rfl) (ci_le_n)))))) (eb_X11_worthOfAll_5 hd bigN _ _ _ _ H)
  · rw [if_neg ck] at H; cases H
theorem hc_X11_most : ci_code (ci_Ms 118) = k_X11_most := rfl
theorem fe_X11_most {pc : Nat} {w : Option ci_I} (h : (k_X11_most)[pc]? = some w) : (k_X11_most)[pc]? = some w := h
def F_X11_most (a0 : Nat) (a1 : Int32) (h : ci_H) : Option (Int32 × ci_H) := if kO h a0 = some 11 then ((gR h a0 11 0).bind fun v1 => (F_X10_hasHouse v1 a1 h).bind fun q2 => if q2.1 = 0 then (some ((-1), q2.2)) else ((gR q2.2 a0 11 14).bind fun v4 => (gR q2.2 a0 11 0).bind fun v5 => (gR q2.2 a0 11 0).bind fun v6 => (F_X10_keptBy v6 a1 q2.2).bind fun q7 => (F_X10_loadOf v5 q7.1 q7.2).bind fun q8 => (gR q8.2 a0 11 0).bind fun v9 => (F_X10_nobodys v9 q8.2).bind fun q10 => (F_X0_leastOfMost v4 q8.1 q10.1 q10.2).bind fun q11 => (F_X11_worthOfAll a0 q11.1 a1 q11.2).bind fun q12 => (F_X11_tellTwo a0 ((q11.1 : Int32).toInt64) ((q12.1 : Int32).toInt64) q12.2).bind fun h13 => (F_J6_bitCount_0f7a4 q11.1 h13).bind fun q14 => some (q14.1, q14.2))) else none
theorem K_X11_most {a0 : Nat} {a1 : Int32} {h : ci_H} {r : Int32 × ci_H} (H : F_X11_most a0 a1 h = some r) : kO h a0 = some 11 := by
  unfold F_X11_most at H
  by_cases c : kO h a0 = some 11
  · exact c
  · rw [if_neg c] at H; cases H
set_option maxHeartbeats 4000000 in
set_option maxRecDepth 20000 in
theorem E_X11_most {xs : Nat → Int32} {N d : Nat} {nx : ci_N} {a0 : Nat} {a1 : Int32} {h : ci_H} {r : Int32 × ci_H} (H : F_X11_most a0 a1 h = some r) (hd : 104 ≤ d) : Ev xs N d 118 0 (ci_entry [.ref a0, .int a1] 3) [] h nx (oI r nx) := by
  obtain ⟨d, rfl⟩ : ∃ d2, d = d2 + 1 := ⟨d - 1, by omega⟩
  have hd : 103 ≤ d := by omega
  unfold F_X11_most at H
  by_cases ck : kO h a0 = some 11
  · rw [if_pos ck] at H
    show Ev xs N (d + 1) 118 0 [.ref a0, .int a1, ci_junk] [] h nx _
    refine ev_go hc_X11_most (k := 1) (pc' := 1) (L' := [.ref a0, .int a1, ci_junk]) (S' := [.ref a0]) rfl ?_
    obtain ⟨v1, ev1, H⟩ := Option.bind_eq_some_iff.mp H
    refine ev_4 hc_X11_most (fe_X11_most (pc := 1) rfl) (gR_gf ev1) ?_
    refine ev_go hc_X11_most (k := 1) (pc' := 5) (L' := [.ref a0, .int a1, ci_junk]) (S' := [.int a1, .ref v1]) rfl ?_
    obtain ⟨q2, eq2, H⟩ := Option.bind_eq_some_iff.mp H
    refine ev_call (vs := [.ref v1, .int a1]) (rest := []) (q := q_X10_hasHouse) hc_X11_most (Or.inr rfl) (fe_X11_most (pc := 5) rfl) ms_62 rfl rfl (Nat.le_of_ble_eq_true rfl) (kO_recv (K_X10_hasHouse eq2)) (E_X10_hasHouse eq2 (by omega)) rfl ?_
    show Ev xs N (d + 1) 118 8 [.ref a0, .int a1, ci_junk] [.int q2.1] q2.2 nx _
    by_cases c3 : q2.1 = 0
    · rw [if_pos c3] at H
      refine ev_bt hc_X11_most (fe_X11_most (pc := 8) rfl) rfl c3 ?_
      refine ev_go hc_X11_most (k := 1) (pc' := 12) (L' := [.ref a0, .int a1, ci_junk]) (S' := [.int ((-1))]) rfl ?_
      obtain rfl := Option.some.inj H
      exact ev_8 hc_X11_most (fe_X11_most (pc := 12) rfl) rfl
    · rw [if_neg c3] at H
      refine ev_bf hc_X11_most (fe_X11_most (pc := 8) rfl) rfl c3 ?_
      refine ev_go hc_X11_most (k := 1) (pc' := 14) (L' := [.ref a0, .int a1, ci_junk]) (S' := [.ref a0]) rfl ?_
      obtain ⟨v4, ev4, H⟩ := Option.bind_eq_some_iff.mp H
      refine ev_4 hc_X11_most (fe_X11_most (pc := 14) rfl) (gR_gf ev4) ?_
      refine ev_go hc_X11_most (k := 1) (pc' := 18) (L' := [.ref a0, .int a1, ci_junk]) (S' := [.ref a0, .ref v4]) rfl ?_
      obtain ⟨v5, ev5, H⟩ := Option.bind_eq_some_iff.mp H
      refine ev_4 hc_X11_most (fe_X11_most (pc := 18) rfl) (gR_gf ev5) ?_
      refine ev_go hc_X11_most (k := 1) (pc' := 22) (L' := [.ref a0, .int a1, ci_junk]) (S' := [.ref a0, .ref v5, .ref v4]) rfl ?_
      obtain ⟨v6, ev6, H⟩ := Option.bind_eq_some_iff.mp H
      refine ev_4 hc_X11_most (fe_X11_most (pc := 22) rfl) (gR_gf ev6) ?_
      refine ev_go hc_X11_most (k := 1) (pc' := 26) (L' := [.ref a0, .int a1, ci_junk]) (S' := [.int a1, .ref v6, .ref v5, .ref v4]) rfl ?_
      obtain ⟨q7, eq7, H⟩ := Option.bind_eq_some_iff.mp H
      refine ev_call (vs := [.ref v6, .int a1]) (rest := [.ref v5, .ref v4]) (q := q_X10_keptBy) hc_X11_most (Or.inr rfl) (fe_X11_most (pc := 26) rfl) ms_75 rfl rfl (Nat.le_of_ble_eq_true rfl) (kO_recv (K_X10_keptBy eq7)) (E_X10_keptBy eq7 (by omega)) rfl ?_
      show Ev xs N (d + 1) 118 29 [.ref a0, .int a1, ci_junk] [.int q7.1, .ref v5, .ref v4] q7.2 nx _
      obtain ⟨q8, eq8, H⟩ := Option.bind_eq_some_iff.mp H
      refine ev_call (vs := [.ref v5, .int q7.1]) (rest := [.ref v4]) (q := q_X10_loadOf) hc_X11_most (Or.inr rfl) (fe_X11_most (pc := 29) rfl) ms_82 rfl rfl (Nat.le_of_ble_eq_true rfl) (kO_recv (K_X10_loadOf eq8)) (E_X10_loadOf eq8 (by omega)) rfl ?_
      show Ev xs N (d + 1) 118 32 [.ref a0, .int a1, ci_junk] [.int q8.1, .ref v4] q8.2 nx _
      refine ev_go hc_X11_most (k := 1) (pc' := 33) (L' := [.ref a0, .int a1, ci_junk]) (S' := [.ref a0, .int q8.1, .ref v4]) rfl ?_
      obtain ⟨v9, ev9, H⟩ := Option.bind_eq_some_iff.mp H
      refine ev_4 hc_X11_most (fe_X11_most (pc := 33) rfl) (gR_gf ev9) ?_
      obtain ⟨q10, eq10, H⟩ := Option.bind_eq_some_iff.mp H
      refine ev_call (vs := [.ref v9]) (rest := [.int q8.1, .ref v4]) (q := q_X10_nobodys) hc_X11_most (Or.inr rfl) (fe_X11_most (pc := 36) rfl) ms_77 rfl rfl (Nat.le_of_ble_eq_true rfl) (kO_recv (K_X10_nobodys eq10)) (E_X10_nobodys eq10 (by omega)) rfl ?_
      show Ev xs N (d + 1) 118 39 [.ref a0, .int a1, ci_junk] [.int q10.1, .int q8.1, .ref v4] q10.2 nx _
      obtain ⟨q11, eq11, H⟩ := Option.bind_eq_some_iff.mp H
      refine ev_call (vs := [.ref v4, .int q8.1, .int q10.1]) (rest := []) (q := q_X0_leastOfMost) hc_X11_most (Or.inr rfl) (fe_X11_most (pc := 39) rfl) ms_1 rfl rfl (Nat.le_of_ble_eq_true rfl) (kO_recv (K_X0_leastOfMost eq11)) (E_X0_leastOfMost eq11 (by omega)) rfl ?_
      show Ev xs N (d + 1) 118 42 [.ref a0, .int a1, ci_junk] [.int q11.1] q11.2 nx _
      refine ev_go hc_X11_most (k := 7) (pc' := 49) (L' := [.ref a0, .int a1, .int q11.1]) (S' := [.int a1, .int q11.1, .ref a0, .long ((q11.1 : Int32).toInt64), .ref a0]) rfl ?_
      obtain ⟨q12, eq12, H⟩ := Option.bind_eq_some_iff.mp H
      refine ev_call (vs := [.ref a0, .int q11.1, .int a1]) (rest := [.long ((q11.1 : Int32).toInt64), .ref a0]) (q := q_X11_worthOfAll) hc_X11_most (Or.inr rfl) (fe_X11_most (pc := 49) rfl) ms_153 rfl rfl (Nat.le_of_ble_eq_true rfl) (kO_recv (K_X11_worthOfAll eq12)) (E_X11_worthOfAll eq12 (by omega)) rfl ?_
      show Ev xs N (d + 1) 118 52 [.ref a0, .int a1, .int q11.1] [.int q12.1, .long ((q11.1 : Int32).toInt64), .ref a0] q12.2 nx _
      refine ev_go hc_X11_most (k := 1) (pc' := 53) (L' := [.ref a0, .int a1, .int q11.1]) (S' := [.long ((q12.1 : Int32).toInt64), .long ((q11.1 : Int32).toInt64), .ref a0]) rfl ?_
      obtain ⟨h13, eh13, H⟩ := Option.bind_eq_some_iff.mp H
      refine ev_call (vs := [.ref a0, .long ((q11.1 : Int32).toInt64), .long ((q12.1 : Int32).toInt64)]) (rest := []) (q := q_X11_tellTwo) hc_X11_most (Or.inr rfl) (fe_X11_most (pc := 53) rfl) ms_148 rfl rfl (Nat.le_of_ble_eq_true rfl) (kO_recv (K_X11_tellTwo eh13)) (E_X11_tellTwo eh13 (by omega)) rfl ?_
      show Ev xs N (d + 1) 118 56 [.ref a0, .int a1, .int q11.1] [] h13 nx _
      refine ev_go hc_X11_most (k := 1) (pc' := 57) (L' := [.ref a0, .int a1, .int q11.1]) (S' := [.int q11.1]) rfl ?_
      obtain ⟨q14, eq14, H⟩ := Option.bind_eq_some_iff.mp H
      refine ev_call (vs := [.int q11.1]) (rest := []) (q := q_J6_bitCount_0f7a4) hc_X11_most (Or.inl rfl) (fe_X11_most (pc := 57) rfl) ms_285 rfl rfl (Nat.le_of_ble_eq_true rfl) rfl (E_J6_bitCount_0f7a4 eq14 (by omega)) rfl ?_
      show Ev xs N (d + 1) 118 60 [.ref a0, .int a1, .int q11.1] [.int q14.1] q14.2 nx _
      obtain rfl := Option.some.inj H
      exact ev_8 hc_X11_most (fe_X11_most (pc := 60) rfl) rfl
  · rw [if_neg ck] at H; cases H
theorem hc_X11_alike : ci_code (ci_Ms 119) = k_X11_alike := rfl
theorem fe_X11_alike {pc : Nat} {w : Option ci_I} (h : (k_X11_alike)[pc]? = some w) : (k_X11_alike)[pc]? = some w := h
def F_X11_alike (a0 : Nat) (a1 : Int32) (a2 : Int32) (h : ci_H) : Option (Int32 × ci_H) := if kO h a0 = some 11 then ((gR h a0 11 0).bind fun v1 => (F_X10_hasThing v1 a1 h).bind fun q2 => if q2.1 = 0 then (some ((-1), q2.2)) else ((gR q2.2 a0 11 0).bind fun v4 => (F_X10_hasThing v4 a2 q2.2).bind fun q5 => if q5.1 = 0 then (some ((-1), q5.2)) else ((gR q5.2 a0 11 0).bind fun v7 => (gR q5.2 v7 10 0).bind fun v8 => (gR q5.2 v8 6 2).bind fun v9 => (rI q5.2 v9 a1).bind fun v10 => (gR q5.2 a0 11 0).bind fun v11 => (gR q5.2 v11 10 0).bind fun v12 => (gR q5.2 v12 6 2).bind fun v13 => (rI q5.2 v13 a2).bind fun v14 => (gR q5.2 a0 11 0).bind fun v15 => (F_X10_kindsOf v15 a1 q5.2).bind fun q16 => (gR q16.2 a0 11 0).bind fun v17 => (F_X10_kindsOf v17 a2 q16.2).bind fun q18 => (F_X11_tellTwo a0 ((v10 &&& v14 : Int32).toInt64) ((q16.1 &&& q18.1 : Int32).toInt64) q18.2).bind fun h19 => (F_J6_bitCount_0f7a4 (v10 ^^^ v14) h19).bind fun q20 => some (6 - q20.1, q20.2)))) else none
theorem K_X11_alike {a0 : Nat} {a1 : Int32} {a2 : Int32} {h : ci_H} {r : Int32 × ci_H} (H : F_X11_alike a0 a1 a2 h = some r) : kO h a0 = some 11 := by
  unfold F_X11_alike at H
  by_cases c : kO h a0 = some 11
  · exact c
  · rw [if_neg c] at H; cases H
set_option maxHeartbeats 4000000 in
set_option maxRecDepth 20000 in
theorem E_X11_alike {xs : Nat → Int32} {N d : Nat} {nx : ci_N} {a0 : Nat} {a1 : Int32} {a2 : Int32} {h : ci_H} {r : Int32 × ci_H} (H : F_X11_alike a0 a1 a2 h = some r) (hd : 2 ≤ d) : Ev xs N d 119 0 (ci_entry [.ref a0, .int a1, .int a2] 5) [] h nx (oI r nx) := by
  obtain ⟨d, rfl⟩ : ∃ d2, d = d2 + 1 := ⟨d - 1, by omega⟩
  have hd : 1 ≤ d := by omega
  unfold F_X11_alike at H
  by_cases ck : kO h a0 = some 11
  · rw [if_pos ck] at H
    show Ev xs N (d + 1) 119 0 [.ref a0, .int a1, .int a2, ci_junk, ci_junk] [] h nx _
    refine ev_go hc_X11_alike (k := 1) (pc' := 1) (L' := [.ref a0, .int a1, .int a2, ci_junk, ci_junk]) (S' := [.ref a0]) rfl ?_
    obtain ⟨v1, ev1, H⟩ := Option.bind_eq_some_iff.mp H
    refine ev_4 hc_X11_alike (fe_X11_alike (pc := 1) rfl) (gR_gf ev1) ?_
    refine ev_go hc_X11_alike (k := 1) (pc' := 5) (L' := [.ref a0, .int a1, .int a2, ci_junk, ci_junk]) (S' := [.int a1, .ref v1]) rfl ?_
    obtain ⟨q2, eq2, H⟩ := Option.bind_eq_some_iff.mp H
    refine ev_call (vs := [.ref v1, .int a1]) (rest := []) (q := q_X10_hasThing) hc_X11_alike (Or.inr rfl) (fe_X11_alike (pc := 5) rfl) ms_63 rfl rfl (Nat.le_of_ble_eq_true rfl) (kO_recv (K_X10_hasThing eq2)) (E_X10_hasThing eq2 (by omega)) rfl ?_
    show Ev xs N (d + 1) 119 8 [.ref a0, .int a1, .int a2, ci_junk, ci_junk] [.int q2.1] q2.2 nx _
    by_cases c3 : q2.1 = 0
    · rw [if_pos c3] at H
      refine ev_bt hc_X11_alike (fe_X11_alike (pc := 8) rfl) rfl c3 ?_
      refine ev_go hc_X11_alike (k := 1) (pc' := 23) (L' := [.ref a0, .int a1, .int a2, ci_junk, ci_junk]) (S' := [.int ((-1))]) rfl ?_
      obtain rfl := Option.some.inj H
      exact ev_8 hc_X11_alike (fe_X11_alike (pc := 23) rfl) rfl
    · rw [if_neg c3] at H
      refine ev_bf hc_X11_alike (fe_X11_alike (pc := 8) rfl) rfl c3 ?_
      refine ev_go hc_X11_alike (k := 1) (pc' := 12) (L' := [.ref a0, .int a1, .int a2, ci_junk, ci_junk]) (S' := [.ref a0]) rfl ?_
      obtain ⟨v4, ev4, H⟩ := Option.bind_eq_some_iff.mp H
      refine ev_4 hc_X11_alike (fe_X11_alike (pc := 12) rfl) (gR_gf ev4) ?_
      refine ev_go hc_X11_alike (k := 1) (pc' := 16) (L' := [.ref a0, .int a1, .int a2, ci_junk, ci_junk]) (S' := [.int a2, .ref v4]) rfl ?_
      obtain ⟨q5, eq5, H⟩ := Option.bind_eq_some_iff.mp H
      refine ev_call (vs := [.ref v4, .int a2]) (rest := []) (q := q_X10_hasThing) hc_X11_alike (Or.inr rfl) (fe_X11_alike (pc := 16) rfl) ms_63 rfl rfl (Nat.le_of_ble_eq_true rfl) (kO_recv (K_X10_hasThing eq5)) (E_X10_hasThing eq5 (by omega)) rfl ?_
      show Ev xs N (d + 1) 119 19 [.ref a0, .int a1, .int a2, ci_junk, ci_junk] [.int q5.1] q5.2 nx _
      by_cases c6 : q5.1 = 0
      · rw [if_pos c6] at H
        refine ev_bt hc_X11_alike (fe_X11_alike (pc := 19) rfl) rfl c6 ?_
        refine ev_go hc_X11_alike (k := 1) (pc' := 23) (L' := [.ref a0, .int a1, .int a2, ci_junk, ci_junk]) (S' := [.int ((-1))]) rfl ?_
        obtain rfl := Option.some.inj H
        exact ev_8 hc_X11_alike (fe_X11_alike (pc := 23) rfl) rfl
      · rw [if_neg c6] at H
        refine ev_bf hc_X11_alike (fe_X11_alike (pc := 19) rfl) rfl c6 ?_
        refine ev_go hc_X11_alike (k := 1) (pc' := 25) (L' := [.ref a0, .int a1, .int a2, ci_junk, ci_junk]) (S' := [.ref a0]) rfl ?_
        obtain ⟨v7, ev7, H⟩ := Option.bind_eq_some_iff.mp H
        refine ev_4 hc_X11_alike (fe_X11_alike (pc := 25) rfl) (gR_gf ev7) ?_
        obtain ⟨v8, ev8, H⟩ := Option.bind_eq_some_iff.mp H
        refine ev_4 hc_X11_alike (fe_X11_alike (pc := 28) rfl) (gR_gf ev8) ?_
        obtain ⟨v9, ev9, H⟩ := Option.bind_eq_some_iff.mp H
        refine ev_4 hc_X11_alike (fe_X11_alike (pc := 31) rfl) (gR_gf ev9) ?_
        refine ev_go hc_X11_alike (k := 1) (pc' := 35) (L' := [.ref a0, .int a1, .int a2, ci_junk, ci_junk]) (S' := [.int a1, .ref v9]) rfl ?_
        obtain ⟨v10, ev10, H⟩ := Option.bind_eq_some_iff.mp H
        refine ev_4 hc_X11_alike (fe_X11_alike (pc := 35) rfl) (rI_al ev10) ?_
        refine ev_go hc_X11_alike (k := 2) (pc' := 38) (L' := [.ref a0, .int a1, .int a2, .int v10, ci_junk]) (S' := [.ref a0]) rfl ?_
        obtain ⟨v11, ev11, H⟩ := Option.bind_eq_some_iff.mp H
        refine ev_4 hc_X11_alike (fe_X11_alike (pc := 38) rfl) (gR_gf ev11) ?_
        obtain ⟨v12, ev12, H⟩ := Option.bind_eq_some_iff.mp H
        refine ev_4 hc_X11_alike (fe_X11_alike (pc := 41) rfl) (gR_gf ev12) ?_
        obtain ⟨v13, ev13, H⟩ := Option.bind_eq_some_iff.mp H
        refine ev_4 hc_X11_alike (fe_X11_alike (pc := 44) rfl) (gR_gf ev13) ?_
        refine ev_go hc_X11_alike (k := 1) (pc' := 48) (L' := [.ref a0, .int a1, .int a2, .int v10, ci_junk]) (S' := [.int a2, .ref v13]) rfl ?_
        obtain ⟨v14, ev14, H⟩ := Option.bind_eq_some_iff.mp H
        refine ev_4 hc_X11_alike (fe_X11_alike (pc := 48) rfl) (rI_al ev14) ?_
        refine ev_go hc_X11_alike (k := 7) (pc' := 58) (L' := [.ref a0, .int a1, .int a2, .int v10, .int v14]) (S' := [.ref a0, .long ((v10 &&& v14 : Int32).toInt64), .ref a0]) rfl ?_
        obtain ⟨v15, ev15, H⟩ := Option.bind_eq_some_iff.mp H
        refine ev_4 hc_X11_alike (fe_X11_alike (pc := 58) rfl) (gR_gf ev15) ?_
        refine ev_go hc_X11_alike (k := 1) (pc' := 62) (L' := [.ref a0, .int a1, .int a2, .int v10, .int v14]) (S' := [.int a1, .ref v15, .long ((v10 &&& v14 : Int32).toInt64), .ref a0]) rfl ?_
        obtain ⟨q16, eq16, H⟩ := Option.bind_eq_some_iff.mp H
        refine ev_call (vs := [.ref v15, .int a1]) (rest := [.long ((v10 &&& v14 : Int32).toInt64), .ref a0]) (q := q_X10_kindsOf) hc_X11_alike (Or.inr rfl) (fe_X11_alike (pc := 62) rfl) ms_73 rfl rfl (Nat.le_of_ble_eq_true rfl) (kO_recv (K_X10_kindsOf eq16)) (E_X10_kindsOf eq16 (by omega)) rfl ?_
        show Ev xs N (d + 1) 119 65 [.ref a0, .int a1, .int a2, .int v10, .int v14] [.int q16.1, .long ((v10 &&& v14 : Int32).toInt64), .ref a0] q16.2 nx _
        refine ev_go hc_X11_alike (k := 1) (pc' := 66) (L' := [.ref a0, .int a1, .int a2, .int v10, .int v14]) (S' := [.ref a0, .int q16.1, .long ((v10 &&& v14 : Int32).toInt64), .ref a0]) rfl ?_
        obtain ⟨v17, ev17, H⟩ := Option.bind_eq_some_iff.mp H
        refine ev_4 hc_X11_alike (fe_X11_alike (pc := 66) rfl) (gR_gf ev17) ?_
        refine ev_go hc_X11_alike (k := 1) (pc' := 70) (L' := [.ref a0, .int a1, .int a2, .int v10, .int v14]) (S' := [.int a2, .ref v17, .int q16.1, .long ((v10 &&& v14 : Int32).toInt64), .ref a0]) rfl ?_
        obtain ⟨q18, eq18, H⟩ := Option.bind_eq_some_iff.mp H
        refine ev_call (vs := [.ref v17, .int a2]) (rest := [.int q16.1, .long ((v10 &&& v14 : Int32).toInt64), .ref a0]) (q := q_X10_kindsOf) hc_X11_alike (Or.inr rfl) (fe_X11_alike (pc := 70) rfl) ms_73 rfl rfl (Nat.le_of_ble_eq_true rfl) (kO_recv (K_X10_kindsOf eq18)) (E_X10_kindsOf eq18 (by omega)) rfl ?_
        show Ev xs N (d + 1) 119 73 [.ref a0, .int a1, .int a2, .int v10, .int v14] [.int q18.1, .int q16.1, .long ((v10 &&& v14 : Int32).toInt64), .ref a0] q18.2 nx _
        refine ev_go hc_X11_alike (k := 2) (pc' := 75) (L' := [.ref a0, .int a1, .int a2, .int v10, .int v14]) (S' := [.long ((q16.1 &&& q18.1 : Int32).toInt64), .long ((v10 &&& v14 : Int32).toInt64), .ref a0]) rfl ?_
        obtain ⟨h19, eh19, H⟩ := Option.bind_eq_some_iff.mp H
        refine ev_call (vs := [.ref a0, .long ((v10 &&& v14 : Int32).toInt64), .long ((q16.1 &&& q18.1 : Int32).toInt64)]) (rest := []) (q := q_X11_tellTwo) hc_X11_alike (Or.inr rfl) (fe_X11_alike (pc := 75) rfl) ms_148 rfl rfl (Nat.le_of_ble_eq_true rfl) (kO_recv (K_X11_tellTwo eh19)) (E_X11_tellTwo eh19 (by omega)) rfl ?_
        show Ev xs N (d + 1) 119 78 [.ref a0, .int a1, .int a2, .int v10, .int v14] [] h19 nx _
        refine ev_go hc_X11_alike (k := 4) (pc' := 84) (L' := [.ref a0, .int a1, .int a2, .int v10, .int v14]) (S' := [.int (v10 ^^^ v14), .int 6]) rfl ?_
        obtain ⟨q20, eq20, H⟩ := Option.bind_eq_some_iff.mp H
        refine ev_call (vs := [.int (v10 ^^^ v14)]) (rest := [.int 6]) (q := q_J6_bitCount_0f7a4) hc_X11_alike (Or.inl rfl) (fe_X11_alike (pc := 84) rfl) ms_285 rfl rfl (Nat.le_of_ble_eq_true rfl) rfl (E_J6_bitCount_0f7a4 eq20 (by omega)) rfl ?_
        show Ev xs N (d + 1) 119 87 [.ref a0, .int a1, .int a2, .int v10, .int v14] [.int q20.1, .int 6] q20.2 nx _
        refine ev_go hc_X11_alike (k := 1) (pc' := 88) (L' := [.ref a0, .int a1, .int a2, .int v10, .int v14]) (S' := [.int (6 - q20.1)]) rfl ?_
        obtain rfl := Option.some.inj H
        exact ev_8 hc_X11_alike (fe_X11_alike (pc := 88) rfl) rfl
  · rw [if_neg ck] at H; cases H
theorem hc_X11_trust : ci_code (ci_Ms 120) = k_X11_trust := rfl
theorem fe_X11_trust {pc : Nat} {w : Option ci_I} (h : (k_X11_trust)[pc]? = some w) : (k_X11_trust)[pc]? = some w := h
def F_X11_trust (a0 : Nat) (a1 : Int32) (h : ci_H) : Option (Int32 × ci_H) := if kO h a0 = some 11 then ((gR h a0 11 0).bind fun v1 => (F_X10_hasHouse v1 a1 h).bind fun q2 => if q2.1 = 0 then (some ((-1), q2.2)) else ((gR q2.2 a0 11 0).bind fun v4 => (F_X10_ownedBy v4 a1 q2.2).bind fun q5 => (gR q5.2 a0 11 0).bind fun v6 => (F_X10_lentOnes v6 q5.2).bind fun q7 => (F_X11_worthOfAll a0 (q5.1 &&& q7.1) a1 q7.2).bind fun q8 => (F_X11_tellTwo a0 ((q5.1 &&& q7.1 : Int32).toInt64) ((q8.1 : Int32).toInt64) q8.2).bind fun h9 => (gR h9 a0 11 0).bind fun v10 => (F_X10_keepersOf v10 (q5.1 &&& q7.1) h9).bind fun q11 => some (q11.1, q11.2))) else none
theorem K_X11_trust {a0 : Nat} {a1 : Int32} {h : ci_H} {r : Int32 × ci_H} (H : F_X11_trust a0 a1 h = some r) : kO h a0 = some 11 := by
  unfold F_X11_trust at H
  by_cases c : kO h a0 = some 11
  · exact c
  · rw [if_neg c] at H; cases H
set_option maxHeartbeats 4000000 in
set_option maxRecDepth 20000 in
theorem E_X11_trust {xs : Nat → Int32} {N d : Nat} {nx : ci_N} {a0 : Nat} {a1 : Int32} {h : ci_H} {r : Int32 × ci_H} (H : F_X11_trust a0 a1 h = some r) (hd : 5 ≤ d) : Ev xs N d 120 0 (ci_entry [.ref a0, .int a1] 3) [] h nx (oI r nx) := by
  obtain ⟨d, rfl⟩ : ∃ d2, d = d2 + 1 := ⟨d - 1, by omega⟩
  have hd : 4 ≤ d := by omega
  unfold F_X11_trust at H
  by_cases ck : kO h a0 = some 11
  · rw [if_pos ck] at H
    show Ev xs N (d + 1) 120 0 [.ref a0, .int a1, ci_junk] [] h nx _
    refine ev_go hc_X11_trust (k := 1) (pc' := 1) (L' := [.ref a0, .int a1, ci_junk]) (S' := [.ref a0]) rfl ?_
    obtain ⟨v1, ev1, H⟩ := Option.bind_eq_some_iff.mp H
    refine ev_4 hc_X11_trust (fe_X11_trust (pc := 1) rfl) (gR_gf ev1) ?_
    refine ev_go hc_X11_trust (k := 1) (pc' := 5) (L' := [.ref a0, .int a1, ci_junk]) (S' := [.int a1, .ref v1]) rfl ?_
    obtain ⟨q2, eq2, H⟩ := Option.bind_eq_some_iff.mp H
    refine ev_call (vs := [.ref v1, .int a1]) (rest := []) (q := q_X10_hasHouse) hc_X11_trust (Or.inr rfl) (fe_X11_trust (pc := 5) rfl) ms_62 rfl rfl (Nat.le_of_ble_eq_true rfl) (kO_recv (K_X10_hasHouse eq2)) (E_X10_hasHouse eq2 (by omega)) rfl ?_
    show Ev xs N (d + 1) 120 8 [.ref a0, .int a1, ci_junk] [.int q2.1] q2.2 nx _
    by_cases c3 : q2.1 = 0
    · rw [if_pos c3] at H
      refine ev_bt hc_X11_trust (fe_X11_trust (pc := 8) rfl) rfl c3 ?_
      refine ev_go hc_X11_trust (k := 1) (pc' := 12) (L' := [.ref a0, .int a1, ci_junk]) (S' := [.int ((-1))]) rfl ?_
      obtain rfl := Option.some.inj H
      exact ev_8 hc_X11_trust (fe_X11_trust (pc := 12) rfl) rfl
    · rw [if_neg c3] at H
      refine ev_bf hc_X11_trust (fe_X11_trust (pc := 8) rfl) rfl c3 ?_
      refine ev_go hc_X11_trust (k := 1) (pc' := 14) (L' := [.ref a0, .int a1, ci_junk]) (S' := [.ref a0]) rfl ?_
      obtain ⟨v4, ev4, H⟩ := Option.bind_eq_some_iff.mp H
      refine ev_4 hc_X11_trust (fe_X11_trust (pc := 14) rfl) (gR_gf ev4) ?_
      refine ev_go hc_X11_trust (k := 1) (pc' := 18) (L' := [.ref a0, .int a1, ci_junk]) (S' := [.int a1, .ref v4]) rfl ?_
      obtain ⟨q5, eq5, H⟩ := Option.bind_eq_some_iff.mp H
      refine ev_call (vs := [.ref v4, .int a1]) (rest := []) (q := q_X10_ownedBy) hc_X11_trust (Or.inr rfl) (fe_X11_trust (pc := 18) rfl) ms_76 rfl rfl (Nat.le_of_ble_eq_true rfl) (kO_recv (K_X10_ownedBy eq5)) (E_X10_ownedBy eq5 (by omega)) rfl ?_
      show Ev xs N (d + 1) 120 21 [.ref a0, .int a1, ci_junk] [.int q5.1] q5.2 nx _
      refine ev_go hc_X11_trust (k := 1) (pc' := 22) (L' := [.ref a0, .int a1, ci_junk]) (S' := [.ref a0, .int q5.1]) rfl ?_
      obtain ⟨v6, ev6, H⟩ := Option.bind_eq_some_iff.mp H
      refine ev_4 hc_X11_trust (fe_X11_trust (pc := 22) rfl) (gR_gf ev6) ?_
      obtain ⟨q7, eq7, H⟩ := Option.bind_eq_some_iff.mp H
      refine ev_call (vs := [.ref v6]) (rest := [.int q5.1]) (q := q_X10_lentOnes) hc_X11_trust (Or.inr rfl) (fe_X11_trust (pc := 25) rfl) ms_78 rfl rfl (Nat.le_of_ble_eq_true rfl) (kO_recv (K_X10_lentOnes eq7)) (E_X10_lentOnes eq7 (by omega)) rfl ?_
      show Ev xs N (d + 1) 120 28 [.ref a0, .int a1, ci_junk] [.int q7.1, .int q5.1] q7.2 nx _
      refine ev_go hc_X11_trust (k := 8) (pc' := 36) (L' := [.ref a0, .int a1, .int (q5.1 &&& q7.1)]) (S' := [.int a1, .int (q5.1 &&& q7.1), .ref a0, .long ((q5.1 &&& q7.1 : Int32).toInt64), .ref a0]) rfl ?_
      obtain ⟨q8, eq8, H⟩ := Option.bind_eq_some_iff.mp H
      refine ev_call (vs := [.ref a0, .int (q5.1 &&& q7.1), .int a1]) (rest := [.long ((q5.1 &&& q7.1 : Int32).toInt64), .ref a0]) (q := q_X11_worthOfAll) hc_X11_trust (Or.inr rfl) (fe_X11_trust (pc := 36) rfl) ms_153 rfl rfl (Nat.le_of_ble_eq_true rfl) (kO_recv (K_X11_worthOfAll eq8)) (E_X11_worthOfAll eq8 (by omega)) rfl ?_
      show Ev xs N (d + 1) 120 39 [.ref a0, .int a1, .int (q5.1 &&& q7.1)] [.int q8.1, .long ((q5.1 &&& q7.1 : Int32).toInt64), .ref a0] q8.2 nx _
      refine ev_go hc_X11_trust (k := 1) (pc' := 40) (L' := [.ref a0, .int a1, .int (q5.1 &&& q7.1)]) (S' := [.long ((q8.1 : Int32).toInt64), .long ((q5.1 &&& q7.1 : Int32).toInt64), .ref a0]) rfl ?_
      obtain ⟨h9, eh9, H⟩ := Option.bind_eq_some_iff.mp H
      refine ev_call (vs := [.ref a0, .long ((q5.1 &&& q7.1 : Int32).toInt64), .long ((q8.1 : Int32).toInt64)]) (rest := []) (q := q_X11_tellTwo) hc_X11_trust (Or.inr rfl) (fe_X11_trust (pc := 40) rfl) ms_148 rfl rfl (Nat.le_of_ble_eq_true rfl) (kO_recv (K_X11_tellTwo eh9)) (E_X11_tellTwo eh9 (by omega)) rfl ?_
      show Ev xs N (d + 1) 120 43 [.ref a0, .int a1, .int (q5.1 &&& q7.1)] [] h9 nx _
      refine ev_go hc_X11_trust (k := 1) (pc' := 44) (L' := [.ref a0, .int a1, .int (q5.1 &&& q7.1)]) (S' := [.ref a0]) rfl ?_
      obtain ⟨v10, ev10, H⟩ := Option.bind_eq_some_iff.mp H
      refine ev_4 hc_X11_trust (fe_X11_trust (pc := 44) rfl) (gR_gf ev10) ?_
      refine ev_go hc_X11_trust (k := 1) (pc' := 48) (L' := [.ref a0, .int a1, .int (q5.1 &&& q7.1)]) (S' := [.int (q5.1 &&& q7.1), .ref v10]) rfl ?_
      obtain ⟨q11, eq11, H⟩ := Option.bind_eq_some_iff.mp H
      refine ev_call (vs := [.ref v10, .int (q5.1 &&& q7.1)]) (rest := []) (q := q_X10_keepersOf) hc_X11_trust (Or.inr rfl) (fe_X11_trust (pc := 48) rfl) ms_79 rfl rfl (Nat.le_of_ble_eq_true rfl) (kO_recv (K_X10_keepersOf eq11)) (E_X10_keepersOf eq11 (by omega)) rfl ?_
      show Ev xs N (d + 1) 120 51 [.ref a0, .int a1, .int (q5.1 &&& q7.1)] [.int q11.1] q11.2 nx _
      obtain rfl := Option.some.inj H
      exact ev_8 hc_X11_trust (fe_X11_trust (pc := 51) rfl) rfl
  · rw [if_neg ck] at H; cases H
theorem hc_X11_visit : ci_code (ci_Ms 121) = k_X11_visit := rfl
theorem fe_X11_visit {pc : Nat} {w : Option ci_I} (h : (k_X11_visit)[pc]? = some w) : (k_X11_visit)[pc]? = some w := h
def F_X11_visit (a0 : Nat) (a1 : Int32) (h : ci_H) : Option (Int32 × ci_H) := if kO h a0 = some 11 then ((gR h a0 11 0).bind fun v1 => (F_X10_hasHouse v1 a1 h).bind fun q2 => if q2.1 = 0 then (some ((-1), q2.2)) else ((gR q2.2 a0 11 0).bind fun v4 => (F_X10_seizedFrom v4 a1 q2.2).bind fun q5 => (F_X11_tellOne a0 ((q5.1 : Int32).toInt64) q5.2).bind fun h6 => (gR h6 a0 11 0).bind fun v7 => (F_X10_visited v7 h6).bind fun q8 => if 0 ≤ (a1 - q8.1) then (some (a1 - q8.1, q8.2)) else ((gR q8.2 a0 11 0).bind fun v10 => (gI q8.2 v10 10 5).bind fun v11 => some ((a1 - q8.1) + v11, q8.2)))) else none
theorem K_X11_visit {a0 : Nat} {a1 : Int32} {h : ci_H} {r : Int32 × ci_H} (H : F_X11_visit a0 a1 h = some r) : kO h a0 = some 11 := by
  unfold F_X11_visit at H
  by_cases c : kO h a0 = some 11
  · exact c
  · rw [if_neg c] at H; cases H
set_option maxHeartbeats 4000000 in
set_option maxRecDepth 20000 in
theorem E_X11_visit {xs : Nat → Int32} {N d : Nat} {nx : ci_N} {a0 : Nat} {a1 : Int32} {h : ci_H} {r : Int32 × ci_H} (H : F_X11_visit a0 a1 h = some r) (hd : 3 ≤ d) : Ev xs N d 121 0 (ci_entry [.ref a0, .int a1] 3) [] h nx (oI r nx) := by
  obtain ⟨d, rfl⟩ : ∃ d2, d = d2 + 1 := ⟨d - 1, by omega⟩
  have hd : 2 ≤ d := by omega
  unfold F_X11_visit at H
  by_cases ck : kO h a0 = some 11
  · rw [if_pos ck] at H
    show Ev xs N (d + 1) 121 0 [.ref a0, .int a1, ci_junk] [] h nx _
    refine ev_go hc_X11_visit (k := 1) (pc' := 1) (L' := [.ref a0, .int a1, ci_junk]) (S' := [.ref a0]) rfl ?_
    obtain ⟨v1, ev1, H⟩ := Option.bind_eq_some_iff.mp H
    refine ev_4 hc_X11_visit (fe_X11_visit (pc := 1) rfl) (gR_gf ev1) ?_
    refine ev_go hc_X11_visit (k := 1) (pc' := 5) (L' := [.ref a0, .int a1, ci_junk]) (S' := [.int a1, .ref v1]) rfl ?_
    obtain ⟨q2, eq2, H⟩ := Option.bind_eq_some_iff.mp H
    refine ev_call (vs := [.ref v1, .int a1]) (rest := []) (q := q_X10_hasHouse) hc_X11_visit (Or.inr rfl) (fe_X11_visit (pc := 5) rfl) ms_62 rfl rfl (Nat.le_of_ble_eq_true rfl) (kO_recv (K_X10_hasHouse eq2)) (E_X10_hasHouse eq2 (by omega)) rfl ?_
    show Ev xs N (d + 1) 121 8 [.ref a0, .int a1, ci_junk] [.int q2.1] q2.2 nx _
    by_cases c3 : q2.1 = 0
    · rw [if_pos c3] at H
      refine ev_bt hc_X11_visit (fe_X11_visit (pc := 8) rfl) rfl c3 ?_
      refine ev_go hc_X11_visit (k := 1) (pc' := 12) (L' := [.ref a0, .int a1, ci_junk]) (S' := [.int ((-1))]) rfl ?_
      obtain rfl := Option.some.inj H
      exact ev_8 hc_X11_visit (fe_X11_visit (pc := 12) rfl) rfl
    · rw [if_neg c3] at H
      refine ev_bf hc_X11_visit (fe_X11_visit (pc := 8) rfl) rfl c3 ?_
      refine ev_go hc_X11_visit (k := 2) (pc' := 15) (L' := [.ref a0, .int a1, ci_junk]) (S' := [.ref a0, .ref a0]) rfl ?_
      obtain ⟨v4, ev4, H⟩ := Option.bind_eq_some_iff.mp H
      refine ev_4 hc_X11_visit (fe_X11_visit (pc := 15) rfl) (gR_gf ev4) ?_
      refine ev_go hc_X11_visit (k := 1) (pc' := 19) (L' := [.ref a0, .int a1, ci_junk]) (S' := [.int a1, .ref v4, .ref a0]) rfl ?_
      obtain ⟨q5, eq5, H⟩ := Option.bind_eq_some_iff.mp H
      refine ev_call (vs := [.ref v4, .int a1]) (rest := [.ref a0]) (q := q_X10_seizedFrom) hc_X11_visit (Or.inr rfl) (fe_X11_visit (pc := 19) rfl) ms_91 rfl rfl (Nat.le_of_ble_eq_true rfl) (kO_recv (K_X10_seizedFrom eq5)) (E_X10_seizedFrom eq5 (by omega)) rfl ?_
      show Ev xs N (d + 1) 121 22 [.ref a0, .int a1, ci_junk] [.int q5.1, .ref a0] q5.2 nx _
      refine ev_go hc_X11_visit (k := 1) (pc' := 23) (L' := [.ref a0, .int a1, ci_junk]) (S' := [.long ((q5.1 : Int32).toInt64), .ref a0]) rfl ?_
      obtain ⟨h6, eh6, H⟩ := Option.bind_eq_some_iff.mp H
      refine ev_call (vs := [.ref a0, .long ((q5.1 : Int32).toInt64)]) (rest := []) (q := q_X11_tellOne) hc_X11_visit (Or.inr rfl) (fe_X11_visit (pc := 23) rfl) ms_147 rfl rfl (Nat.le_of_ble_eq_true rfl) (kO_recv (K_X11_tellOne eh6)) (E_X11_tellOne eh6 (by omega)) rfl ?_
      show Ev xs N (d + 1) 121 26 [.ref a0, .int a1, ci_junk] [] h6 nx _
      refine ev_go hc_X11_visit (k := 2) (pc' := 28) (L' := [.ref a0, .int a1, ci_junk]) (S' := [.ref a0, .int a1]) rfl ?_
      obtain ⟨v7, ev7, H⟩ := Option.bind_eq_some_iff.mp H
      refine ev_4 hc_X11_visit (fe_X11_visit (pc := 28) rfl) (gR_gf ev7) ?_
      obtain ⟨q8, eq8, H⟩ := Option.bind_eq_some_iff.mp H
      refine ev_call (vs := [.ref v7]) (rest := [.int a1]) (q := q_X10_visited) hc_X11_visit (Or.inr rfl) (fe_X11_visit (pc := 31) rfl) ms_90 rfl rfl (Nat.le_of_ble_eq_true rfl) (kO_recv (K_X10_visited eq8)) (E_X10_visited eq8 (by omega)) rfl ?_
      show Ev xs N (d + 1) 121 34 [.ref a0, .int a1, ci_junk] [.int q8.1, .int a1] q8.2 nx _
      refine ev_go hc_X11_visit (k := 3) (pc' := 37) (L' := [.ref a0, .int a1, .int (a1 - q8.1)]) (S' := [.int (a1 - q8.1)]) rfl ?_
      by_cases c9 : 0 ≤ (a1 - q8.1)
      · rw [if_pos c9] at H
        refine ev_bt hc_X11_visit (fe_X11_visit (pc := 37) rfl) rfl c9 ?_
        refine ev_go hc_X11_visit (k := 1) (pc' := 53) (L' := [.ref a0, .int a1, .int (a1 - q8.1)]) (S' := [.int (a1 - q8.1)]) rfl ?_
        obtain rfl := Option.some.inj H
        exact ev_8 hc_X11_visit (fe_X11_visit (pc := 53) rfl) rfl
      · rw [if_neg c9] at H
        refine ev_bf hc_X11_visit (fe_X11_visit (pc := 37) rfl) rfl c9 ?_
        refine ev_go hc_X11_visit (k := 2) (pc' := 42) (L' := [.ref a0, .int a1, .int (a1 - q8.1)]) (S' := [.ref a0, .int (a1 - q8.1)]) rfl ?_
        obtain ⟨v10, ev10, H⟩ := Option.bind_eq_some_iff.mp H
        refine ev_4 hc_X11_visit (fe_X11_visit (pc := 42) rfl) (gR_gf ev10) ?_
        obtain ⟨v11, ev11, H⟩ := Option.bind_eq_some_iff.mp H
        refine ev_4 hc_X11_visit (fe_X11_visit (pc := 45) rfl) (gI_gf ev11) ?_
        refine ev_go hc_X11_visit (k := 2) (pc' := 53) (L' := [.ref a0, .int a1, .int (a1 - q8.1)]) (S' := [.int ((a1 - q8.1) + v11)]) rfl ?_
        obtain rfl := Option.some.inj H
        exact ev_8 hc_X11_visit (fe_X11_visit (pc := 53) rfl) rfl
  · rw [if_neg ck] at H; cases H
theorem hc_X11_store : ci_code (ci_Ms 122) = k_X11_store := rfl
theorem fe_X11_store {pc : Nat} {w : Option ci_I} (h : (k_X11_store)[pc]? = some w) : (k_X11_store)[pc]? = some w := h
def b_X11_store_56 (l0 : Nat) (l2 : Int32) : Nat → Int32 → ci_H → Option (Int32 × ci_H)
  | 0, _, _ => none
  | n + 1, l3, h => (gR h l0 11 15).bind fun v1 => (gI h v1 7 4).bind fun v2 => if v2 ≤ l3 then (some (l2, h)) else ((gR h l0 11 15).bind fun v4 => (gR h v4 7 3).bind fun v5 => (rI h v5 l3).bind fun v6 => (F_X11_tellBesides l0 ((v6 : Int32).toInt64) h).bind fun h7 => b_X11_store_56 l0 l2 n (l3 + 1) h7)
set_option maxHeartbeats 4000000 in
set_option maxRecDepth 20000 in
theorem eb_X11_store_56 {xs : Nat → Int32} {N d : Nat} {nx : ci_N} {l0 : Nat} {l2 : Int32} (hd : 102 ≤ d) : ∀ (n : Nat) (l3 : Int32) (h : ci_H) (r : Int32 × ci_H), b_X11_store_56 l0 l2 n l3 h = some r → Ev xs N (d + 1) 122 56 [.ref l0, ci_junk, .int l2, .int l3] [] h nx (oI r nx) := by
  intro n
  induction n with
  | zero => intro l3 h r H; unfold b_X11_store_56 at H; cases H
  | succ n ih =>
    intro l3 h r H
    unfold b_X11_store_56 at H
    refine ev_go hc_X11_store (k := 2) (pc' := 58) (L' := [.ref l0, ci_junk, .int l2, .int l3]) (S' := [.ref l0, .int l3]) rfl ?_
    obtain ⟨v1, ev1, H⟩ := Option.bind_eq_some_iff.mp H
    refine ev_4 hc_X11_store (fe_X11_store (pc := 58) rfl) (gR_gf ev1) ?_
    obtain ⟨v2, ev2, H⟩ := Option.bind_eq_some_iff.mp H
    refine ev_4 hc_X11_store (fe_X11_store (pc := 61) rfl) (gI_gf ev2) ?_
    by_cases c3 : v2 ≤ l3
    · rw [if_pos c3] at H
      refine ev_bt hc_X11_store (fe_X11_store (pc := 64) rfl) rfl c3 ?_
      refine ev_go hc_X11_store (k := 1) (pc' := 88) (L' := [.ref l0, ci_junk, .int l2, .int l3]) (S' := [.int l2]) rfl ?_
      obtain rfl := Option.some.inj H
      exact ev_8 hc_X11_store (fe_X11_store (pc := 88) rfl) rfl
    · rw [if_neg c3] at H
      refine ev_bf hc_X11_store (fe_X11_store (pc := 64) rfl) rfl c3 ?_
      refine ev_go hc_X11_store (k := 2) (pc' := 69) (L' := [.ref l0, ci_junk, .int l2, .int l3]) (S' := [.ref l0, .ref l0]) rfl ?_
      obtain ⟨v4, ev4, H⟩ := Option.bind_eq_some_iff.mp H
      refine ev_4 hc_X11_store (fe_X11_store (pc := 69) rfl) (gR_gf ev4) ?_
      obtain ⟨v5, ev5, H⟩ := Option.bind_eq_some_iff.mp H
      refine ev_4 hc_X11_store (fe_X11_store (pc := 72) rfl) (gR_gf ev5) ?_
      refine ev_go hc_X11_store (k := 1) (pc' := 76) (L' := [.ref l0, ci_junk, .int l2, .int l3]) (S' := [.int l3, .ref v5, .ref l0]) rfl ?_
      obtain ⟨v6, ev6, H⟩ := Option.bind_eq_some_iff.mp H
      refine ev_4 hc_X11_store (fe_X11_store (pc := 76) rfl) (rI_al ev6) ?_
      refine ev_go hc_X11_store (k := 1) (pc' := 78) (L' := [.ref l0, ci_junk, .int l2, .int l3]) (S' := [.long ((v6 : Int32).toInt64), .ref l0]) rfl ?_
      obtain ⟨h7, eh7, H⟩ := Option.bind_eq_some_iff.mp H
      refine ev_call (vs := [.ref l0, .long ((v6 : Int32).toInt64)]) (rest := []) (q := q_X11_tellBesides) hc_X11_store (Or.inr rfl) (fe_X11_store (pc := 78) rfl) ms_146 rfl rfl (Nat.le_of_ble_eq_true rfl) (kO_recv (K_X11_tellBesides eh7)) (E_X11_tellBesides eh7 (by omega)) rfl ?_
      show Ev xs N (d + 1) 122 81 [.ref l0, ci_junk, .int l2, .int l3] [] h7 nx _
      refine ev_go hc_X11_store (k := 2) (pc' := 56) (L' := [.ref l0, ci_junk, .int l2, .int (l3 + 1)]) (S' := []) rfl ?_
      exact Ev.weak (ci_le_c (Or.inr rfl) (ci_le_c (Or.inl rfl) (ci_le_c (Or.inr rfl) (ci_le_c (Or.inr rfl) (ci_le_n))))) (ih _ _ _ H)
def F_X11_store (a0 : Nat) (a1 : Int32) (h : ci_H) : Option (Int32 × ci_H) := if kO h a0 = some 11 then ((gR h a0 11 0).bind fun v1 => (F_X10_hasThings v1 a1 h).bind fun q2 => if q2.1 = 0 then (some ((-1), q2.2)) else ((F_J6_bitCount_0f7a4 a1 q2.2).bind fun q4 => if 6 < q4.1 then (some ((-3), q4.2)) else ((gR q4.2 a0 11 0).bind fun v6 => (F_X10_nobodys v6 q4.2).bind fun q7 => if (a1 &&& q7.1) = 0 then ((gR q7.2 a0 11 15).bind fun v9 => (F_X7_fewestMoves v9 a1 q7.2).bind fun q10 => if q10.1 < 0 then (some (q10.1, q10.2)) else ((F_X11_tellNothing a0 q10.2).bind fun h12 => b_X11_store_56 a0 q10.1 bigN 0 h12)) else (some ((-3), q7.2))))) else none
theorem K_X11_store {a0 : Nat} {a1 : Int32} {h : ci_H} {r : Int32 × ci_H} (H : F_X11_store a0 a1 h = some r) : kO h a0 = some 11 := by
  unfold F_X11_store at H
  by_cases c : kO h a0 = some 11
  · exact c
  · rw [if_neg c] at H; cases H
set_option maxHeartbeats 4000000 in
set_option maxRecDepth 20000 in
theorem E_X11_store {xs : Nat → Int32} {N d : Nat} {nx : ci_N} {a0 : Nat} {a1 : Int32} {h : ci_H} {r : Int32 × ci_H} (H : F_X11_store a0 a1 h = some r) (hd : 103 ≤ d) : Ev xs N d 122 0 (ci_entry [.ref a0, .int a1] 4) [] h nx (oI r nx) := by
  obtain ⟨d, rfl⟩ : ∃ d2, d = d2 + 1 := ⟨d - 1, by omega⟩
  have hd : 102 ≤ d := by omega
  unfold F_X11_store at H
  by_cases ck : kO h a0 = some 11
  · rw [if_pos ck] at H
    show Ev xs N (d + 1) 122 0 [.ref a0, .int a1, ci_junk, ci_junk] [] h nx _
    refine ev_go hc_X11_store (k := 1) (pc' := 1) (L' := [.ref a0, .int a1, ci_junk, ci_junk]) (S' := [.ref a0]) rfl ?_
    obtain ⟨v1, ev1, H⟩ := Option.bind_eq_some_iff.mp H
    refine ev_4 hc_X11_store (fe_X11_store (pc := 1) rfl) (gR_gf ev1) ?_
    refine ev_go hc_X11_store (k := 1) (pc' := 5) (L' := [.ref a0, .int a1, ci_junk, ci_junk]) (S' := [.int a1, .ref v1]) rfl ?_
    obtain ⟨q2, eq2, H⟩ := Option.bind_eq_some_iff.mp H
    refine ev_call (vs := [.ref v1, .int a1]) (rest := []) (q := q_X10_hasThings) hc_X11_store (Or.inr rfl) (fe_X11_store (pc := 5) rfl) ms_65 rfl rfl (Nat.le_of_ble_eq_true rfl) (kO_recv (K_X10_hasThings eq2)) (E_X10_hasThings eq2 (by omega)) rfl ?_
    show Ev xs N (d + 1) 122 8 [.ref a0, .int a1, ci_junk, ci_junk] [.int q2.1] q2.2 nx _
    by_cases c3 : q2.1 = 0
    · rw [if_pos c3] at H
      refine ev_bt hc_X11_store (fe_X11_store (pc := 8) rfl) rfl c3 ?_
      refine ev_go hc_X11_store (k := 1) (pc' := 12) (L' := [.ref a0, .int a1, ci_junk, ci_junk]) (S' := [.int ((-1))]) rfl ?_
      obtain rfl := Option.some.inj H
      exact ev_8 hc_X11_store (fe_X11_store (pc := 12) rfl) rfl
    · rw [if_neg c3] at H
      refine ev_bf hc_X11_store (fe_X11_store (pc := 8) rfl) rfl c3 ?_
      refine ev_go hc_X11_store (k := 1) (pc' := 14) (L' := [.ref a0, .int a1, ci_junk, ci_junk]) (S' := [.int a1]) rfl ?_
      obtain ⟨q4, eq4, H⟩ := Option.bind_eq_some_iff.mp H
      refine ev_call (vs := [.int a1]) (rest := []) (q := q_J6_bitCount_0f7a4) hc_X11_store (Or.inl rfl) (fe_X11_store (pc := 14) rfl) ms_285 rfl rfl (Nat.le_of_ble_eq_true rfl) rfl (E_J6_bitCount_0f7a4 eq4 (by omega)) rfl ?_
      show Ev xs N (d + 1) 122 17 [.ref a0, .int a1, ci_junk, ci_junk] [.int q4.1] q4.2 nx _
      refine ev_go hc_X11_store (k := 1) (pc' := 19) (L' := [.ref a0, .int a1, ci_junk, ci_junk]) (S' := [.int 6, .int q4.1]) rfl ?_
      by_cases c5 : 6 < q4.1
      · rw [if_pos c5] at H
        refine ev_bt hc_X11_store (fe_X11_store (pc := 19) rfl) rfl c5 ?_
        refine ev_go hc_X11_store (k := 1) (pc' := 36) (L' := [.ref a0, .int a1, ci_junk, ci_junk]) (S' := [.int ((-3))]) rfl ?_
        obtain rfl := Option.some.inj H
        exact ev_8 hc_X11_store (fe_X11_store (pc := 36) rfl) rfl
      · rw [if_neg c5] at H
        refine ev_bf hc_X11_store (fe_X11_store (pc := 19) rfl) rfl c5 ?_
        refine ev_go hc_X11_store (k := 2) (pc' := 24) (L' := [.ref a0, .int a1, ci_junk, ci_junk]) (S' := [.ref a0, .int a1]) rfl ?_
        obtain ⟨v6, ev6, H⟩ := Option.bind_eq_some_iff.mp H
        refine ev_4 hc_X11_store (fe_X11_store (pc := 24) rfl) (gR_gf ev6) ?_
        obtain ⟨q7, eq7, H⟩ := Option.bind_eq_some_iff.mp H
        refine ev_call (vs := [.ref v6]) (rest := [.int a1]) (q := q_X10_nobodys) hc_X11_store (Or.inr rfl) (fe_X11_store (pc := 27) rfl) ms_77 rfl rfl (Nat.le_of_ble_eq_true rfl) (kO_recv (K_X10_nobodys eq7)) (E_X10_nobodys eq7 (by omega)) rfl ?_
        show Ev xs N (d + 1) 122 30 [.ref a0, .int a1, ci_junk, ci_junk] [.int q7.1, .int a1] q7.2 nx _
        refine ev_go hc_X11_store (k := 1) (pc' := 31) (L' := [.ref a0, .int a1, ci_junk, ci_junk]) (S' := [.int (a1 &&& q7.1)]) rfl ?_
        by_cases c8 : (a1 &&& q7.1) = 0
        · rw [if_pos c8] at H
          refine ev_bt hc_X11_store (fe_X11_store (pc := 31) rfl) rfl c8 ?_
          refine ev_go hc_X11_store (k := 1) (pc' := 38) (L' := [.ref a0, .int a1, ci_junk, ci_junk]) (S' := [.ref a0]) rfl ?_
          obtain ⟨v9, ev9, H⟩ := Option.bind_eq_some_iff.mp H
          refine ev_4 hc_X11_store (fe_X11_store (pc := 38) rfl) (gR_gf ev9) ?_
          refine ev_go hc_X11_store (k := 1) (pc' := 42) (L' := [.ref a0, .int a1, ci_junk, ci_junk]) (S' := [.int a1, .ref v9]) rfl ?_
          obtain ⟨q10, eq10, H⟩ := Option.bind_eq_some_iff.mp H
          refine ev_call (vs := [.ref v9, .int a1]) (rest := []) (q := q_X7_fewestMoves) hc_X11_store (Or.inr rfl) (fe_X11_store (pc := 42) rfl) ms_40 rfl rfl (Nat.le_of_ble_eq_true rfl) (kO_recv (K_X7_fewestMoves eq10)) (E_X7_fewestMoves eq10 (by omega)) rfl ?_
          show Ev xs N (d + 1) 122 45 [.ref a0, .int a1, ci_junk, ci_junk] [.int q10.1] q10.2 nx _
          refine ev_go hc_X11_store (k := 2) (pc' := 47) (L' := [.ref a0, .int a1, .int q10.1, ci_junk]) (S' := [.int q10.1]) rfl ?_
          by_cases c11 : q10.1 < 0
          · rw [if_pos c11] at H
            refine ev_bt hc_X11_store (fe_X11_store (pc := 47) rfl) rfl c11 ?_
            refine ev_go hc_X11_store (k := 1) (pc' := 88) (L' := [.ref a0, .int a1, .int q10.1, ci_junk]) (S' := [.int q10.1]) rfl ?_
            obtain rfl := Option.some.inj H
            exact ev_8 hc_X11_store (fe_X11_store (pc := 88) rfl) rfl
          · rw [if_neg c11] at H
            refine ev_bf hc_X11_store (fe_X11_store (pc := 47) rfl) rfl c11 ?_
            refine ev_go hc_X11_store (k := 1) (pc' := 51) (L' := [.ref a0, .int a1, .int q10.1, ci_junk]) (S' := [.ref a0]) rfl ?_
            obtain ⟨h12, eh12, H⟩ := Option.bind_eq_some_iff.mp H
            refine ev_call (vs := [.ref a0]) (rest := []) (q := q_X11_tellNothing) hc_X11_store (Or.inr rfl) (fe_X11_store (pc := 51) rfl) ms_145 rfl rfl (Nat.le_of_ble_eq_true rfl) (kO_recv (K_X11_tellNothing eh12)) (E_X11_tellNothing eh12 (by omega)) rfl ?_
            show Ev xs N (d + 1) 122 54 [.ref a0, .int a1, .int q10.1, ci_junk] [] h12 nx _
            refine ev_go hc_X11_store (k := 2) (pc' := 56) (L' := [.ref a0, .int a1, .int q10.1, .int 0]) (S' := []) rfl ?_
            exact Ev.weak (ci_le_c (Or.inr rfl) (ci_le_c (Or.inl rfl) (ci_le_c (Or.inr rfl) (ci_le_c (Or.inr rfl) (ci_le_n))))) (eb_X11_store_56 hd bigN _ _ _ H)
        · rw [if_neg c8] at H
          refine ev_bf hc_X11_store (fe_X11_store (pc := 31) rfl) rfl c8 ?_
          refine ev_go hc_X11_store (k := 1) (pc' := 36) (L' := [.ref a0, .int a1, ci_junk, ci_junk]) (S' := [.int ((-3))]) rfl ?_
          obtain rfl := Option.some.inj H
          exact ev_8 hc_X11_store (fe_X11_store (pc := 36) rfl) rfl
  · rw [if_neg ck] at H; cases H
theorem hc_X11_strike : ci_code (ci_Ms 123) = k_X11_strike := rfl
theorem fe_X11_strike {pc : Nat} {w : Option ci_I} (h : (k_X11_strike)[pc]? = some w) : (k_X11_strike)[pc]? = some w := h
def F_X11_strike (a0 : Nat) (a1 : Int32) (h : ci_H) : Option (Int32 × ci_H) := if kO h a0 = some 11 then ((gR h a0 11 0).bind fun v1 => (F_X10_hasHouse v1 a1 h).bind fun q2 => if q2.1 = 0 then (some ((-1), q2.2)) else ((gR q2.2 a0 11 0).bind fun v4 => (gR q2.2 a0 11 0).bind fun v5 => (F_X10_keptBy v5 a1 q2.2).bind fun q6 => (F_X10_brokenIn v4 q6.1 q6.2).bind fun q7 => (F_X11_tellOne a0 ((q7.1 : Int32).toInt64) q7.2).bind fun h8 => (F_J6_bitCount_0f7a4 q7.1 h8).bind fun q9 => some (q9.1, q9.2))) else none
theorem K_X11_strike {a0 : Nat} {a1 : Int32} {h : ci_H} {r : Int32 × ci_H} (H : F_X11_strike a0 a1 h = some r) : kO h a0 = some 11 := by
  unfold F_X11_strike at H
  by_cases c : kO h a0 = some 11
  · exact c
  · rw [if_neg c] at H; cases H
set_option maxHeartbeats 4000000 in
set_option maxRecDepth 20000 in
theorem E_X11_strike {xs : Nat → Int32} {N d : Nat} {nx : ci_N} {a0 : Nat} {a1 : Int32} {h : ci_H} {r : Int32 × ci_H} (H : F_X11_strike a0 a1 h = some r) (hd : 2 ≤ d) : Ev xs N d 123 0 (ci_entry [.ref a0, .int a1] 3) [] h nx (oI r nx) := by
  obtain ⟨d, rfl⟩ : ∃ d2, d = d2 + 1 := ⟨d - 1, by omega⟩
  have hd : 1 ≤ d := by omega
  unfold F_X11_strike at H
  by_cases ck : kO h a0 = some 11
  · rw [if_pos ck] at H
    show Ev xs N (d + 1) 123 0 [.ref a0, .int a1, ci_junk] [] h nx _
    refine ev_go hc_X11_strike (k := 1) (pc' := 1) (L' := [.ref a0, .int a1, ci_junk]) (S' := [.ref a0]) rfl ?_
    obtain ⟨v1, ev1, H⟩ := Option.bind_eq_some_iff.mp H
    refine ev_4 hc_X11_strike (fe_X11_strike (pc := 1) rfl) (gR_gf ev1) ?_
    refine ev_go hc_X11_strike (k := 1) (pc' := 5) (L' := [.ref a0, .int a1, ci_junk]) (S' := [.int a1, .ref v1]) rfl ?_
    obtain ⟨q2, eq2, H⟩ := Option.bind_eq_some_iff.mp H
    refine ev_call (vs := [.ref v1, .int a1]) (rest := []) (q := q_X10_hasHouse) hc_X11_strike (Or.inr rfl) (fe_X11_strike (pc := 5) rfl) ms_62 rfl rfl (Nat.le_of_ble_eq_true rfl) (kO_recv (K_X10_hasHouse eq2)) (E_X10_hasHouse eq2 (by omega)) rfl ?_
    show Ev xs N (d + 1) 123 8 [.ref a0, .int a1, ci_junk] [.int q2.1] q2.2 nx _
    by_cases c3 : q2.1 = 0
    · rw [if_pos c3] at H
      refine ev_bt hc_X11_strike (fe_X11_strike (pc := 8) rfl) rfl c3 ?_
      refine ev_go hc_X11_strike (k := 1) (pc' := 12) (L' := [.ref a0, .int a1, ci_junk]) (S' := [.int ((-1))]) rfl ?_
      obtain rfl := Option.some.inj H
      exact ev_8 hc_X11_strike (fe_X11_strike (pc := 12) rfl) rfl
    · rw [if_neg c3] at H
      refine ev_bf hc_X11_strike (fe_X11_strike (pc := 8) rfl) rfl c3 ?_
      refine ev_go hc_X11_strike (k := 1) (pc' := 14) (L' := [.ref a0, .int a1, ci_junk]) (S' := [.ref a0]) rfl ?_
      obtain ⟨v4, ev4, H⟩ := Option.bind_eq_some_iff.mp H
      refine ev_4 hc_X11_strike (fe_X11_strike (pc := 14) rfl) (gR_gf ev4) ?_
      refine ev_go hc_X11_strike (k := 1) (pc' := 18) (L' := [.ref a0, .int a1, ci_junk]) (S' := [.ref a0, .ref v4]) rfl ?_
      obtain ⟨v5, ev5, H⟩ := Option.bind_eq_some_iff.mp H
      refine ev_4 hc_X11_strike (fe_X11_strike (pc := 18) rfl) (gR_gf ev5) ?_
      refine ev_go hc_X11_strike (k := 1) (pc' := 22) (L' := [.ref a0, .int a1, ci_junk]) (S' := [.int a1, .ref v5, .ref v4]) rfl ?_
      obtain ⟨q6, eq6, H⟩ := Option.bind_eq_some_iff.mp H
      refine ev_call (vs := [.ref v5, .int a1]) (rest := [.ref v4]) (q := q_X10_keptBy) hc_X11_strike (Or.inr rfl) (fe_X11_strike (pc := 22) rfl) ms_75 rfl rfl (Nat.le_of_ble_eq_true rfl) (kO_recv (K_X10_keptBy eq6)) (E_X10_keptBy eq6 (by omega)) rfl ?_
      show Ev xs N (d + 1) 123 25 [.ref a0, .int a1, ci_junk] [.int q6.1, .ref v4] q6.2 nx _
      obtain ⟨q7, eq7, H⟩ := Option.bind_eq_some_iff.mp H
      refine ev_call (vs := [.ref v4, .int q6.1]) (rest := []) (q := q_X10_brokenIn) hc_X11_strike (Or.inr rfl) (fe_X11_strike (pc := 25) rfl) ms_80 rfl rfl (Nat.le_of_ble_eq_true rfl) (kO_recv (K_X10_brokenIn eq7)) (E_X10_brokenIn eq7 (by omega)) rfl ?_
      show Ev xs N (d + 1) 123 28 [.ref a0, .int a1, ci_junk] [.int q7.1] q7.2 nx _
      refine ev_go hc_X11_strike (k := 4) (pc' := 32) (L' := [.ref a0, .int a1, .int q7.1]) (S' := [.long ((q7.1 : Int32).toInt64), .ref a0]) rfl ?_
      obtain ⟨h8, eh8, H⟩ := Option.bind_eq_some_iff.mp H
      refine ev_call (vs := [.ref a0, .long ((q7.1 : Int32).toInt64)]) (rest := []) (q := q_X11_tellOne) hc_X11_strike (Or.inr rfl) (fe_X11_strike (pc := 32) rfl) ms_147 rfl rfl (Nat.le_of_ble_eq_true rfl) (kO_recv (K_X11_tellOne eh8)) (E_X11_tellOne eh8 (by omega)) rfl ?_
      show Ev xs N (d + 1) 123 35 [.ref a0, .int a1, .int q7.1] [] h8 nx _
      refine ev_go hc_X11_strike (k := 1) (pc' := 36) (L' := [.ref a0, .int a1, .int q7.1]) (S' := [.int q7.1]) rfl ?_
      obtain ⟨q9, eq9, H⟩ := Option.bind_eq_some_iff.mp H
      refine ev_call (vs := [.int q7.1]) (rest := []) (q := q_J6_bitCount_0f7a4) hc_X11_strike (Or.inl rfl) (fe_X11_strike (pc := 36) rfl) ms_285 rfl rfl (Nat.le_of_ble_eq_true rfl) rfl (E_J6_bitCount_0f7a4 eq9 (by omega)) rfl ?_
      show Ev xs N (d + 1) 123 39 [.ref a0, .int a1, .int q7.1] [.int q9.1] q9.2 nx _
      obtain rfl := Option.some.inj H
      exact ev_8 hc_X11_strike (fe_X11_strike (pc := 39) rfl) rfl
  · rw [if_neg ck] at H; cases H
theorem hc_X11_breakingIfNarrowed : ci_code (ci_Ms 155) = k_X11_breakingIfNarrowed := rfl
theorem fe_X11_breakingIfNarrowed {pc : Nat} {w : Option ci_I} (h : (k_X11_breakingIfNarrowed)[pc]? = some w) : (k_X11_breakingIfNarrowed)[pc]? = some w := h
def F_X11_breakingIfNarrowed (a0 : Nat) (a1 : Int32) (a2 : Int32) (h : ci_H) : Option (Int32 × ci_H) := if kO h a0 = some 11 then ((gR h a0 11 0).bind fun v1 => (gR h v1 10 3).bind fun v2 => (rI h v2 a1).bind fun v3 => (gR h a0 11 0).bind fun v4 => (gR h v4 10 3).bind fun v5 => (gR h a0 11 0).bind fun v6 => (F_X10_havingAll v6 ((1 : Int32) <<< (a2 &&& 31)) h).bind fun q7 => (wI q7.2 v5 a1 (v3 &&& q7.1)).bind fun h8 => (gR h8 a0 11 0).bind fun v9 => (F_X10_breakers v9 h8).bind fun q10 => (F_J6_bitCount_0f7a4 q10.1 q10.2).bind fun q11 => (gR q11.2 a0 11 0).bind fun v12 => (gR q11.2 v12 10 3).bind fun v13 => (wI q11.2 v13 a1 v3).bind fun h14 => some (q11.1, h14)) else none
theorem K_X11_breakingIfNarrowed {a0 : Nat} {a1 : Int32} {a2 : Int32} {h : ci_H} {r : Int32 × ci_H} (H : F_X11_breakingIfNarrowed a0 a1 a2 h = some r) : kO h a0 = some 11 := by
  unfold F_X11_breakingIfNarrowed at H
  by_cases c : kO h a0 = some 11
  · exact c
  · rw [if_neg c] at H; cases H
set_option maxHeartbeats 4000000 in
set_option maxRecDepth 20000 in
theorem E_X11_breakingIfNarrowed {xs : Nat → Int32} {N d : Nat} {nx : ci_N} {a0 : Nat} {a1 : Int32} {a2 : Int32} {h : ci_H} {r : Int32 × ci_H} (H : F_X11_breakingIfNarrowed a0 a1 a2 h = some r) (hd : 3 ≤ d) : Ev xs N d 155 0 (ci_entry [.ref a0, .int a1, .int a2] 5) [] h nx (oI r nx) := by
  obtain ⟨d, rfl⟩ : ∃ d2, d = d2 + 1 := ⟨d - 1, by omega⟩
  have hd : 2 ≤ d := by omega
  unfold F_X11_breakingIfNarrowed at H
  by_cases ck : kO h a0 = some 11
  · rw [if_pos ck] at H
    show Ev xs N (d + 1) 155 0 [.ref a0, .int a1, .int a2, ci_junk, ci_junk] [] h nx _
    refine ev_go hc_X11_breakingIfNarrowed (k := 1) (pc' := 1) (L' := [.ref a0, .int a1, .int a2, ci_junk, ci_junk]) (S' := [.ref a0]) rfl ?_
    obtain ⟨v1, ev1, H⟩ := Option.bind_eq_some_iff.mp H
    refine ev_4 hc_X11_breakingIfNarrowed (fe_X11_breakingIfNarrowed (pc := 1) rfl) (gR_gf ev1) ?_
    obtain ⟨v2, ev2, H⟩ := Option.bind_eq_some_iff.mp H
    refine ev_4 hc_X11_breakingIfNarrowed (fe_X11_breakingIfNarrowed (pc := 4) rfl) (gR_gf ev2) ?_
    refine ev_go hc_X11_breakingIfNarrowed (k := 1) (pc' := 8) (L' := [.ref a0, .int a1, .int a2, ci_junk, ci_junk]) (S' := [.int a1, .ref v2]) rfl ?_
    obtain ⟨v3, ev3, H⟩ := Option.bind_eq_some_iff.mp H
    refine ev_4 hc_X11_breakingIfNarrowed (fe_X11_breakingIfNarrowed (pc := 8) rfl) (rI_al ev3) ?_
    refine ev_go hc_X11_breakingIfNarrowed (k := 2) (pc' := 11) (L' := [.ref a0, .int a1, .int a2, .int v3, ci_junk]) (S' := [.ref a0]) rfl ?_
    obtain ⟨v4, ev4, H⟩ := Option.bind_eq_some_iff.mp H
    refine ev_4 hc_X11_breakingIfNarrowed (fe_X11_breakingIfNarrowed (pc := 11) rfl) (gR_gf ev4) ?_
    obtain ⟨v5, ev5, H⟩ := Option.bind_eq_some_iff.mp H
    refine ev_4 hc_X11_breakingIfNarrowed (fe_X11_breakingIfNarrowed (pc := 14) rfl) (gR_gf ev5) ?_
    refine ev_go hc_X11_breakingIfNarrowed (k := 3) (pc' := 20) (L' := [.ref a0, .int a1, .int a2, .int v3, ci_junk]) (S' := [.ref a0, .int v3, .int a1, .ref v5]) rfl ?_
    obtain ⟨v6, ev6, H⟩ := Option.bind_eq_some_iff.mp H
    refine ev_4 hc_X11_breakingIfNarrowed (fe_X11_breakingIfNarrowed (pc := 20) rfl) (gR_gf ev6) ?_
    refine ev_go hc_X11_breakingIfNarrowed (k := 3) (pc' := 26) (L' := [.ref a0, .int a1, .int a2, .int v3, ci_junk]) (S' := [.int ((1 : Int32) <<< (a2 &&& 31)), .ref v6, .int v3, .int a1, .ref v5]) rfl ?_
    obtain ⟨q7, eq7, H⟩ := Option.bind_eq_some_iff.mp H
    refine ev_call (vs := [.ref v6, .int ((1 : Int32) <<< (a2 &&& 31))]) (rest := [.int v3, .int a1, .ref v5]) (q := q_X10_havingAll) hc_X11_breakingIfNarrowed (Or.inr rfl) (fe_X11_breakingIfNarrowed (pc := 26) rfl) ms_74 rfl rfl (Nat.le_of_ble_eq_true rfl) (kO_recv (K_X10_havingAll eq7)) (E_X10_havingAll eq7 (by omega)) rfl ?_
    show Ev xs N (d + 1) 155 29 [.ref a0, .int a1, .int a2, .int v3, ci_junk] [.int q7.1, .int v3, .int a1, .ref v5] q7.2 nx _
    refine ev_go hc_X11_breakingIfNarrowed (k := 1) (pc' := 30) (L' := [.ref a0, .int a1, .int a2, .int v3, ci_junk]) (S' := [.int (v3 &&& q7.1), .int a1, .ref v5]) rfl ?_
    obtain ⟨h8, eh8, H⟩ := Option.bind_eq_some_iff.mp H
    refine ev_5 hc_X11_breakingIfNarrowed (fe_X11_breakingIfNarrowed (pc := 30) rfl) (wI_as eh8) ?_
    refine ev_go hc_X11_breakingIfNarrowed (k := 1) (pc' := 32) (L' := [.ref a0, .int a1, .int a2, .int v3, ci_junk]) (S' := [.ref a0]) rfl ?_
    obtain ⟨v9, ev9, H⟩ := Option.bind_eq_some_iff.mp H
    refine ev_4 hc_X11_breakingIfNarrowed (fe_X11_breakingIfNarrowed (pc := 32) rfl) (gR_gf ev9) ?_
    obtain ⟨q10, eq10, H⟩ := Option.bind_eq_some_iff.mp H
    refine ev_call (vs := [.ref v9]) (rest := []) (q := q_X10_breakers) hc_X11_breakingIfNarrowed (Or.inr rfl) (fe_X11_breakingIfNarrowed (pc := 35) rfl) ms_84 rfl rfl (Nat.le_of_ble_eq_true rfl) (kO_recv (K_X10_breakers eq10)) (E_X10_breakers eq10 (by omega)) rfl ?_
    show Ev xs N (d + 1) 155 38 [.ref a0, .int a1, .int a2, .int v3, ci_junk] [.int q10.1] q10.2 nx _
    obtain ⟨q11, eq11, H⟩ := Option.bind_eq_some_iff.mp H
    refine ev_call (vs := [.int q10.1]) (rest := []) (q := q_J6_bitCount_0f7a4) hc_X11_breakingIfNarrowed (Or.inl rfl) (fe_X11_breakingIfNarrowed (pc := 38) rfl) ms_285 rfl rfl (Nat.le_of_ble_eq_true rfl) rfl (E_J6_bitCount_0f7a4 eq11 (by omega)) rfl ?_
    show Ev xs N (d + 1) 155 41 [.ref a0, .int a1, .int a2, .int v3, ci_junk] [.int q11.1] q11.2 nx _
    refine ev_go hc_X11_breakingIfNarrowed (k := 2) (pc' := 44) (L' := [.ref a0, .int a1, .int a2, .int v3, .int q11.1]) (S' := [.ref a0]) rfl ?_
    obtain ⟨v12, ev12, H⟩ := Option.bind_eq_some_iff.mp H
    refine ev_4 hc_X11_breakingIfNarrowed (fe_X11_breakingIfNarrowed (pc := 44) rfl) (gR_gf ev12) ?_
    obtain ⟨v13, ev13, H⟩ := Option.bind_eq_some_iff.mp H
    refine ev_4 hc_X11_breakingIfNarrowed (fe_X11_breakingIfNarrowed (pc := 47) rfl) (gR_gf ev13) ?_
    refine ev_go hc_X11_breakingIfNarrowed (k := 2) (pc' := 52) (L' := [.ref a0, .int a1, .int a2, .int v3, .int q11.1]) (S' := [.int v3, .int a1, .ref v13]) rfl ?_
    obtain ⟨h14, eh14, H⟩ := Option.bind_eq_some_iff.mp H
    refine ev_5 hc_X11_breakingIfNarrowed (fe_X11_breakingIfNarrowed (pc := 52) rfl) (wI_as eh14) ?_
    refine ev_go hc_X11_breakingIfNarrowed (k := 1) (pc' := 55) (L' := [.ref a0, .int a1, .int a2, .int v3, .int q11.1]) (S' := [.int q11.1]) rfl ?_
    obtain rfl := Option.some.inj H
    exact ev_8 hc_X11_breakingIfNarrowed (fe_X11_breakingIfNarrowed (pc := 55) rfl) rfl
  · rw [if_neg ck] at H; cases H
theorem hc_X11_border : ci_code (ci_Ms 124) = k_X11_border := rfl
theorem fe_X11_border {pc : Nat} {w : Option ci_I} (h : (k_X11_border)[pc]? = some w) : (k_X11_border)[pc]? = some w := h
def b_X11_border_91 (r_8 : Int32 → Int32 → Int32 → ci_H → Option (Int32 × ci_H)) (r_43 : Int32 → Int32 → Int32 → ci_H → Option (Int32 × ci_H)) (l0 : Nat) (l1 : Int32) (l2 : Int32) (l3 : Int32) (l4 : Int32) (l5 : Int32)  (h : ci_H) : Option (Int32 × ci_H) := r_43 l1 l2 (l5 + 1) h
set_option maxHeartbeats 4000000 in
set_option maxRecDepth 20000 in
theorem eb_X11_border_91 {xs : Nat → Int32} {N d : Nat} {nx : ci_N} {r_8 : Int32 → Int32 → Int32 → ci_H → Option (Int32 × ci_H)} {r_43 : Int32 → Int32 → Int32 → ci_H → Option (Int32 × ci_H)} {l0 : Nat} {l1 : Int32} {l2 : Int32} {l3 : Int32} {l4 : Int32} {l5 : Int32} (hd : 3 ≤ d) (h_8 : ∀ (l1 : Int32) (l2 : Int32) (l3 : Int32) (h : ci_H) (r : Int32 × ci_H), r_8 l1 l2 l3 h = some r → Ev xs N (d + 1) 124 8 [.ref l0, .int l1, .int l2, .int l3, ci_junk, ci_junk, ci_junk] [] h nx (oI r nx)) (h_43 : ∀ (l1 : Int32) (l2 : Int32) (l5 : Int32) (h : ci_H) (r : Int32 × ci_H), r_43 l1 l2 l5 h = some r → Ev xs N (d + 1) 124 43 [.ref l0, .int l1, .int l2, .int l3, .int l4, .int l5, ci_junk] [] h nx (oI r nx)) {h : ci_H} {r : Int32 × ci_H} (H : b_X11_border_91 r_8 r_43 l0 l1 l2 l3 l4 l5 h = some r) : Ev xs N (d + 1) 124 91 [.ref l0, .int l1, .int l2, .int l3, .int l4, .int l5, ci_junk] [] h nx (oI r nx) := by
  unfold b_X11_border_91 at H
  refine ev_go hc_X11_border (k := 2) (pc' := 43) (L' := [.ref l0, .int l1, .int l2, .int l3, .int l4, .int (l5 + 1), ci_junk]) (S' := []) rfl ?_
  exact Ev.weak (ci_le_c (Or.inr rfl) (ci_le_c (Or.inr rfl) (ci_le_c (Or.inr rfl) (ci_le_c (Or.inr rfl) (ci_le_c (Or.inr rfl) (ci_le_c (Or.inr rfl) (ci_le_c (Or.inl rfl) (ci_le_n)))))))) (h_43 _ _ _ _ _ H)
def b_X11_border_72 (r_8 : Int32 → Int32 → Int32 → ci_H → Option (Int32 × ci_H)) (r_43 : Int32 → Int32 → Int32 → ci_H → Option (Int32 × ci_H)) (l0 : Nat) (l1 : Int32) (l2 : Int32) (l3 : Int32) (l4 : Int32) (l5 : Int32) (s0 : Int32)  (h : ci_H) : Option (Int32 × ci_H) := if l2 ≤ s0 then (b_X11_border_91 r_8 r_43 l0 l1 l2 l3 l4 l5 h) else (b_X11_border_91 r_8 r_43 l0 ((6 * l3) + l5) s0 l3 l4 l5 h)
set_option maxHeartbeats 4000000 in
set_option maxRecDepth 20000 in
theorem eb_X11_border_72 {xs : Nat → Int32} {N d : Nat} {nx : ci_N} {r_8 : Int32 → Int32 → Int32 → ci_H → Option (Int32 × ci_H)} {r_43 : Int32 → Int32 → Int32 → ci_H → Option (Int32 × ci_H)} {l0 : Nat} {l1 : Int32} {l2 : Int32} {l3 : Int32} {l4 : Int32} {l5 : Int32} {s0 : Int32} (hd : 3 ≤ d) (h_8 : ∀ (l1 : Int32) (l2 : Int32) (l3 : Int32) (h : ci_H) (r : Int32 × ci_H), r_8 l1 l2 l3 h = some r → Ev xs N (d + 1) 124 8 [.ref l0, .int l1, .int l2, .int l3, ci_junk, ci_junk, ci_junk] [] h nx (oI r nx)) (h_43 : ∀ (l1 : Int32) (l2 : Int32) (l5 : Int32) (h : ci_H) (r : Int32 × ci_H), r_43 l1 l2 l5 h = some r → Ev xs N (d + 1) 124 43 [.ref l0, .int l1, .int l2, .int l3, .int l4, .int l5, ci_junk] [] h nx (oI r nx)) {h : ci_H} {r : Int32 × ci_H} (H : b_X11_border_72 r_8 r_43 l0 l1 l2 l3 l4 l5 s0 h = some r) : Ev xs N (d + 1) 124 72 [.ref l0, .int l1, .int l2, .int l3, .int l4, .int l5, ci_junk] [.int s0] h nx (oI r nx) := by
  unfold b_X11_border_72 at H
  refine ev_go hc_X11_border (k := 3) (pc' := 77) (L' := [.ref l0, .int l1, .int l2, .int l3, .int l4, .int l5, .int s0]) (S' := [.int l2, .int s0]) rfl ?_
  by_cases c1 : l2 ≤ s0
  · rw [if_pos c1] at H
    refine ev_bt hc_X11_border (fe_X11_border (pc := 77) rfl) rfl c1 ?_
    exact Ev.weak (ci_le_c (Or.inr rfl) (ci_le_c (Or.inr rfl) (ci_le_c (Or.inr rfl) (ci_le_c (Or.inr rfl) (ci_le_c (Or.inr rfl) (ci_le_c (Or.inr rfl) (ci_le_c (Or.inl rfl) (ci_le_n)))))))) (eb_X11_border_91 hd h_8 h_43 H)
  · rw [if_neg c1] at H
    refine ev_bf hc_X11_border (fe_X11_border (pc := 77) rfl) rfl c1 ?_
    refine ev_go hc_X11_border (k := 8) (pc' := 91) (L' := [.ref l0, .int ((6 * l3) + l5), .int s0, .int l3, .int l4, .int l5, .int s0]) (S' := []) rfl ?_
    exact Ev.weak (ci_le_c (Or.inr rfl) (ci_le_c (Or.inr rfl) (ci_le_c (Or.inr rfl) (ci_le_c (Or.inr rfl) (ci_le_c (Or.inr rfl) (ci_le_c (Or.inr rfl) (ci_le_c (Or.inl rfl) (ci_le_n)))))))) (eb_X11_border_91 hd h_8 h_43 H)
def b_X11_border_43 (r_8 : Int32 → Int32 → Int32 → ci_H → Option (Int32 × ci_H)) (l0 : Nat) (l3 : Int32) (l4 : Int32) : Nat → Int32 → Int32 → Int32 → ci_H → Option (Int32 × ci_H)
  | 0, _, _, _, _ => none
  | n + 1, l1, l2, l5, h => if 6 ≤ l5 then (r_8 l1 l2 (l3 + 1) h) else (if ((l4 >>> (l5 &&& 31)) &&& 1) = 0 then ((F_X11_breakingIfNarrowed l0 l3 l5 h).bind fun q3 => b_X11_border_72 r_8 (fun x0 x1 x2 x3 => b_X11_border_43 r_8 l0 l3 l4 n x0 x1 x2 x3) l0 l1 l2 l3 l4 l5 q3.1 q3.2) else (b_X11_border_72 r_8 (fun x0 x1 x2 x3 => b_X11_border_43 r_8 l0 l3 l4 n x0 x1 x2 x3) l0 l1 l2 l3 l4 l5 6 h))
set_option maxHeartbeats 4000000 in
set_option maxRecDepth 20000 in
theorem eb_X11_border_43 {xs : Nat → Int32} {N d : Nat} {nx : ci_N} {r_8 : Int32 → Int32 → Int32 → ci_H → Option (Int32 × ci_H)} {l0 : Nat} {l3 : Int32} {l4 : Int32} (hd : 3 ≤ d) (h_8 : ∀ (l1 : Int32) (l2 : Int32) (l3 : Int32) (h : ci_H) (r : Int32 × ci_H), r_8 l1 l2 l3 h = some r → Ev xs N (d + 1) 124 8 [.ref l0, .int l1, .int l2, .int l3, ci_junk, ci_junk, ci_junk] [] h nx (oI r nx)) : ∀ (n : Nat) (l1 : Int32) (l2 : Int32) (l5 : Int32) (h : ci_H) (r : Int32 × ci_H), b_X11_border_43 r_8 l0 l3 l4 n l1 l2 l5 h = some r → Ev xs N (d + 1) 124 43 [.ref l0, .int l1, .int l2, .int l3, .int l4, .int l5, ci_junk] [] h nx (oI r nx) := by
  intro n
  induction n with
  | zero => intro l1 l2 l5 h r H; unfold b_X11_border_43 at H; cases H
  | succ n ih =>
    intro l1 l2 l5 h r H
    unfold b_X11_border_43 at H
    refine ev_go hc_X11_border (k := 2) (pc' := 47) (L' := [.ref l0, .int l1, .int l2, .int l3, .int l4, .int l5, ci_junk]) (S' := [.int 6, .int l5]) rfl ?_
    by_cases c1 : 6 ≤ l5
    · rw [if_pos c1] at H
      refine ev_bt hc_X11_border (fe_X11_border (pc := 47) rfl) rfl c1 ?_
      refine ev_go hc_X11_border (k := 2) (pc' := 8) (L' := [.ref l0, .int l1, .int l2, .int (l3 + 1), .int l4, .int l5, ci_junk]) (S' := []) rfl ?_
      exact Ev.weak (ci_le_c (Or.inr rfl) (ci_le_c (Or.inr rfl) (ci_le_c (Or.inr rfl) (ci_le_c (Or.inr rfl) (ci_le_c (Or.inl rfl) (ci_le_c (Or.inl rfl) (ci_le_c (Or.inl rfl) (ci_le_n)))))))) (h_8 _ _ _ _ _ H)
    · rw [if_neg c1] at H
      refine ev_bf hc_X11_border (fe_X11_border (pc := 47) rfl) rfl c1 ?_
      refine ev_go hc_X11_border (k := 5) (pc' := 57) (L' := [.ref l0, .int l1, .int l2, .int l3, .int l4, .int l5, ci_junk]) (S' := [.int ((l4 >>> (l5 &&& 31)) &&& 1)]) rfl ?_
      by_cases c2 : ((l4 >>> (l5 &&& 31)) &&& 1) = 0
      · rw [if_pos c2] at H
        refine ev_bt hc_X11_border (fe_X11_border (pc := 57) rfl) rfl c2 ?_
        refine ev_go hc_X11_border (k := 3) (pc' := 69) (L' := [.ref l0, .int l1, .int l2, .int l3, .int l4, .int l5, ci_junk]) (S' := [.int l5, .int l3, .ref l0]) rfl ?_
        obtain ⟨q3, eq3, H⟩ := Option.bind_eq_some_iff.mp H
        refine ev_call (vs := [.ref l0, .int l3, .int l5]) (rest := []) (q := q_X11_breakingIfNarrowed) hc_X11_border (Or.inr rfl) (fe_X11_border (pc := 69) rfl) ms_155 rfl rfl (Nat.le_of_ble_eq_true rfl) (kO_recv (K_X11_breakingIfNarrowed eq3)) (E_X11_breakingIfNarrowed eq3 (by omega)) rfl ?_
        show Ev xs N (d + 1) 124 72 [.ref l0, .int l1, .int l2, .int l3, .int l4, .int l5, ci_junk] [.int q3.1] q3.2 nx _
        exact Ev.weak (ci_le_c (Or.inr rfl) (ci_le_c (Or.inr rfl) (ci_le_c (Or.inr rfl) (ci_le_c (Or.inr rfl) (ci_le_c (Or.inr rfl) (ci_le_c (Or.inr rfl) (ci_le_c (Or.inl rfl) (ci_le_n)))))))) (eb_X11_border_72 hd h_8 ih H)
      · rw [if_neg c2] at H
        refine ev_bf hc_X11_border (fe_X11_border (pc := 57) rfl) rfl c2 ?_
        refine ev_go hc_X11_border (k := 2) (pc' := 72) (L' := [.ref l0, .int l1, .int l2, .int l3, .int l4, .int l5, ci_junk]) (S' := [.int 6]) rfl ?_
        exact Ev.weak (ci_le_c (Or.inr rfl) (ci_le_c (Or.inr rfl) (ci_le_c (Or.inr rfl) (ci_le_c (Or.inr rfl) (ci_le_c (Or.inr rfl) (ci_le_c (Or.inr rfl) (ci_le_c (Or.inl rfl) (ci_le_n)))))))) (eb_X11_border_72 hd h_8 ih H)
def b_X11_border_8 (l0 : Nat) : Nat → Int32 → Int32 → Int32 → ci_H → Option (Int32 × ci_H)
  | 0, _, _, _, _ => none
  | n + 1, l1, l2, l3, h => (gR h l0 11 0).bind fun v1 => (gI h v1 10 7).bind fun v2 => if v2 ≤ l3 then (if l1 < 0 then (some (l1, h)) else ((F_X11_tellOne l0 ((l2 : Int32).toInt64) h).bind fun h5 => some (l1, h5))) else ((gR h l0 11 0).bind fun v6 => (gR h v6 10 1).bind fun v7 => (rI h v7 l3).bind fun v8 => (gR h l0 11 0).bind fun v9 => (gR h v9 10 2).bind fun v10 => (rI h v10 l3).bind fun v11 => b_X11_border_43 (fun x0 x1 x2 x3 => b_X11_border_8 l0 n x0 x1 x2 x3) l0 l3 (v8 ||| v11) bigN l1 l2 0 h)
set_option maxHeartbeats 4000000 in
set_option maxRecDepth 20000 in
theorem eb_X11_border_8 {xs : Nat → Int32} {N d : Nat} {nx : ci_N} {l0 : Nat} (hd : 3 ≤ d) : ∀ (n : Nat) (l1 : Int32) (l2 : Int32) (l3 : Int32) (h : ci_H) (r : Int32 × ci_H), b_X11_border_8 l0 n l1 l2 l3 h = some r → Ev xs N (d + 1) 124 8 [.ref l0, .int l1, .int l2, .int l3, ci_junk, ci_junk, ci_junk] [] h nx (oI r nx) := by
  intro n
  induction n with
  | zero => intro l1 l2 l3 h r H; unfold b_X11_border_8 at H; cases H
  | succ n ih =>
    intro l1 l2 l3 h r H
    unfold b_X11_border_8 at H
    refine ev_go hc_X11_border (k := 2) (pc' := 10) (L' := [.ref l0, .int l1, .int l2, .int l3, ci_junk, ci_junk, ci_junk]) (S' := [.ref l0, .int l3]) rfl ?_
    obtain ⟨v1, ev1, H⟩ := Option.bind_eq_some_iff.mp H
    refine ev_4 hc_X11_border (fe_X11_border (pc := 10) rfl) (gR_gf ev1) ?_
    obtain ⟨v2, ev2, H⟩ := Option.bind_eq_some_iff.mp H
    refine ev_4 hc_X11_border (fe_X11_border (pc := 13) rfl) (gI_gf ev2) ?_
    by_cases c3 : v2 ≤ l3
    · rw [if_pos c3] at H
      refine ev_bt hc_X11_border (fe_X11_border (pc := 16) rfl) rfl c3 ?_
      refine ev_go hc_X11_border (k := 1) (pc' := 104) (L' := [.ref l0, .int l1, .int l2, .int l3, ci_junk, ci_junk, ci_junk]) (S' := [.int l1]) rfl ?_
      by_cases c4 : l1 < 0
      · rw [if_pos c4] at H
        refine ev_bt hc_X11_border (fe_X11_border (pc := 104) rfl) rfl c4 ?_
        refine ev_go hc_X11_border (k := 1) (pc' := 114) (L' := [.ref l0, .int l1, .int l2, .int l3, ci_junk, ci_junk, ci_junk]) (S' := [.int l1]) rfl ?_
        obtain rfl := Option.some.inj H
        exact ev_8 hc_X11_border (fe_X11_border (pc := 114) rfl) rfl
      · rw [if_neg c4] at H
        refine ev_bf hc_X11_border (fe_X11_border (pc := 104) rfl) rfl c4 ?_
        refine ev_go hc_X11_border (k := 3) (pc' := 110) (L' := [.ref l0, .int l1, .int l2, .int l3, ci_junk, ci_junk, ci_junk]) (S' := [.long ((l2 : Int32).toInt64), .ref l0]) rfl ?_
        obtain ⟨h5, eh5, H⟩ := Option.bind_eq_some_iff.mp H
        refine ev_call (vs := [.ref l0, .long ((l2 : Int32).toInt64)]) (rest := []) (q := q_X11_tellOne) hc_X11_border (Or.inr rfl) (fe_X11_border (pc := 110) rfl) ms_147 rfl rfl (Nat.le_of_ble_eq_true rfl) (kO_recv (K_X11_tellOne eh5)) (E_X11_tellOne eh5 (by omega)) rfl ?_
        show Ev xs N (d + 1) 124 113 [.ref l0, .int l1, .int l2, .int l3, ci_junk, ci_junk, ci_junk] [] h5 nx _
        refine ev_go hc_X11_border (k := 1) (pc' := 114) (L' := [.ref l0, .int l1, .int l2, .int l3, ci_junk, ci_junk, ci_junk]) (S' := [.int l1]) rfl ?_
        obtain rfl := Option.some.inj H
        exact ev_8 hc_X11_border (fe_X11_border (pc := 114) rfl) rfl
    · rw [if_neg c3] at H
      refine ev_bf hc_X11_border (fe_X11_border (pc := 16) rfl) rfl c3 ?_
      refine ev_go hc_X11_border (k := 1) (pc' := 20) (L' := [.ref l0, .int l1, .int l2, .int l3, ci_junk, ci_junk, ci_junk]) (S' := [.ref l0]) rfl ?_
      obtain ⟨v6, ev6, H⟩ := Option.bind_eq_some_iff.mp H
      refine ev_4 hc_X11_border (fe_X11_border (pc := 20) rfl) (gR_gf ev6) ?_
      obtain ⟨v7, ev7, H⟩ := Option.bind_eq_some_iff.mp H
      refine ev_4 hc_X11_border (fe_X11_border (pc := 23) rfl) (gR_gf ev7) ?_
      refine ev_go hc_X11_border (k := 1) (pc' := 27) (L' := [.ref l0, .int l1, .int l2, .int l3, ci_junk, ci_junk, ci_junk]) (S' := [.int l3, .ref v7]) rfl ?_
      obtain ⟨v8, ev8, H⟩ := Option.bind_eq_some_iff.mp H
      refine ev_4 hc_X11_border (fe_X11_border (pc := 27) rfl) (rI_al ev8) ?_
      refine ev_go hc_X11_border (k := 1) (pc' := 29) (L' := [.ref l0, .int l1, .int l2, .int l3, ci_junk, ci_junk, ci_junk]) (S' := [.ref l0, .int v8]) rfl ?_
      obtain ⟨v9, ev9, H⟩ := Option.bind_eq_some_iff.mp H
      refine ev_4 hc_X11_border (fe_X11_border (pc := 29) rfl) (gR_gf ev9) ?_
      obtain ⟨v10, ev10, H⟩ := Option.bind_eq_some_iff.mp H
      refine ev_4 hc_X11_border (fe_X11_border (pc := 32) rfl) (gR_gf ev10) ?_
      refine ev_go hc_X11_border (k := 1) (pc' := 36) (L' := [.ref l0, .int l1, .int l2, .int l3, ci_junk, ci_junk, ci_junk]) (S' := [.int l3, .ref v10, .int v8]) rfl ?_
      obtain ⟨v11, ev11, H⟩ := Option.bind_eq_some_iff.mp H
      refine ev_4 hc_X11_border (fe_X11_border (pc := 36) rfl) (rI_al ev11) ?_
      refine ev_go hc_X11_border (k := 4) (pc' := 43) (L' := [.ref l0, .int l1, .int l2, .int l3, .int (v8 ||| v11), .int 0, ci_junk]) (S' := []) rfl ?_
      exact Ev.weak (ci_le_c (Or.inr rfl) (ci_le_c (Or.inr rfl) (ci_le_c (Or.inr rfl) (ci_le_c (Or.inr rfl) (ci_le_c (Or.inr rfl) (ci_le_c (Or.inr rfl) (ci_le_c (Or.inl rfl) (ci_le_n)))))))) (eb_X11_border_43 hd ih bigN _ _ _ _ _ H)
def F_X11_border (a0 : Nat) (h : ci_H) : Option (Int32 × ci_H) := if kO h a0 = some 11 then (b_X11_border_8 a0 bigN ((-2)) 6 0 h) else none
theorem K_X11_border {a0 : Nat} {h : ci_H} {r : Int32 × ci_H} (H : F_X11_border a0 h = some r) : kO h a0 = some 11 := by
  unfold F_X11_border at H
  by_cases c : kO h a0 = some 11
  · exact c
  · rw [if_neg c] at H; cases H
set_option maxHeartbeats 4000000 in
set_option maxRecDepth 20000 in
theorem E_X11_border {xs : Nat → Int32} {N d : Nat} {nx : ci_N} {a0 : Nat} {h : ci_H} {r : Int32 × ci_H} (H : F_X11_border a0 h = some r) (hd : 4 ≤ d) : Ev xs N d 124 0 (ci_entry [.ref a0] 7) [] h nx (oI r nx) := by
  obtain ⟨d, rfl⟩ : ∃ d2, d = d2 + 1 := ⟨d - 1, by omega⟩
  have hd : 3 ≤ d := by omega
  unfold F_X11_border at H
  by_cases ck : kO h a0 = some 11
  · rw [if_pos ck] at H
    show Ev xs N (d + 1) 124 0 [.ref a0, ci_junk, ci_junk, ci_junk, ci_junk, ci_junk, ci_junk] [] h nx _
    refine ev_go hc_X11_border (k := 6) (pc' := 8) (L' := [.ref a0, .int ((-2)), .int 6, .int 0, ci_junk, ci_junk, ci_junk]) (S' := []) rfl ?_
    exact Ev.weak (ci_le_c (Or.inr rfl) (ci_le_c (Or.inr rfl) (ci_le_c (Or.inr rfl) (ci_le_c (Or.inr rfl) (ci_le_c (Or.inl rfl) (ci_le_c (Or.inl rfl) (ci_le_c (Or.inl rfl) (ci_le_n)))))))) (eb_X11_border_8 hd bigN _ _ _ _ _ H)
  · rw [if_neg ck] at H; cases H
theorem hc_X11_exchange : ci_code (ci_Ms 125) = k_X11_exchange := rfl
theorem fe_X11_exchange {pc : Nat} {w : Option ci_I} (h : (k_X11_exchange)[pc]? = some w) : (k_X11_exchange)[pc]? = some w := h
def b_X11_exchange_174 (r_58 : Int32 → Int32 → ci_H → Option (Int32 × ci_H)) (r_73 : Int32 → Int32 → ci_H → Option (Int32 × ci_H)) (l0 : Nat) (l3 : Int32) (l4 : Int32) (l5 : Int32) (l6 : Int32) (l7 : Int32)  (h : ci_H) : Option (Int32 × ci_H) := r_73 l5 (l7 + 1) h
set_option maxHeartbeats 4000000 in
set_option maxRecDepth 20000 in
theorem eb_X11_exchange_174 {xs : Nat → Int32} {N d : Nat} {nx : ci_N} {r_58 : Int32 → Int32 → ci_H → Option (Int32 × ci_H)} {r_73 : Int32 → Int32 → ci_H → Option (Int32 × ci_H)} {l0 : Nat} {l3 : Int32} {l4 : Int32} {l5 : Int32} {l6 : Int32} {l7 : Int32} (hd : 1 ≤ d) (h_58 : ∀ (l5 : Int32) (l6 : Int32) (h : ci_H) (r : Int32 × ci_H), r_58 l5 l6 h = some r → Ev xs N (d + 1) 125 58 [.ref l0, ci_junk, ci_junk, .int l3, .int l4, .int l5, .int l6, ci_junk, ci_junk, ci_junk] [] h nx (oI r nx)) (h_73 : ∀ (l5 : Int32) (l7 : Int32) (h : ci_H) (r : Int32 × ci_H), r_73 l5 l7 h = some r → Ev xs N (d + 1) 125 73 [.ref l0, ci_junk, ci_junk, .int l3, .int l4, .int l5, .int l6, .int l7, ci_junk, ci_junk] [] h nx (oI r nx)) {h : ci_H} {r : Int32 × ci_H} (H : b_X11_exchange_174 r_58 r_73 l0 l3 l4 l5 l6 l7 h = some r) : Ev xs N (d + 1) 125 174 [.ref l0, ci_junk, ci_junk, .int l3, .int l4, .int l5, .int l6, .int l7, ci_junk, ci_junk] [] h nx (oI r nx) := by
  unfold b_X11_exchange_174 at H
  refine ev_go hc_X11_exchange (k := 2) (pc' := 73) (L' := [.ref l0, ci_junk, ci_junk, .int l3, .int l4, .int l5, .int l6, .int (l7 + 1), ci_junk, ci_junk]) (S' := []) rfl ?_
  exact Ev.weak (ci_le_c (Or.inr rfl) (ci_le_c (Or.inl rfl) (ci_le_c (Or.inl rfl) (ci_le_c (Or.inr rfl) (ci_le_c (Or.inr rfl) (ci_le_c (Or.inr rfl) (ci_le_c (Or.inr rfl) (ci_le_c (Or.inr rfl) (ci_le_c (Or.inl rfl) (ci_le_c (Or.inl rfl) (ci_le_n))))))))))) (h_73 _ _ _ _ H)
def b_X11_exchange_171 (r_58 : Int32 → Int32 → ci_H → Option (Int32 × ci_H)) (r_73 : Int32 → Int32 → ci_H → Option (Int32 × ci_H)) (l0 : Nat) (l3 : Int32) (l4 : Int32) (l5 : Int32) (l6 : Int32) (l7 : Int32)  (h : ci_H) : Option (Int32 × ci_H) := b_X11_exchange_174 r_58 r_73 l0 l3 l4 (l5 + 1) l6 l7 h
set_option maxHeartbeats 4000000 in
set_option maxRecDepth 20000 in
theorem eb_X11_exchange_171 {xs : Nat → Int32} {N d : Nat} {nx : ci_N} {r_58 : Int32 → Int32 → ci_H → Option (Int32 × ci_H)} {r_73 : Int32 → Int32 → ci_H → Option (Int32 × ci_H)} {l0 : Nat} {l3 : Int32} {l4 : Int32} {l5 : Int32} {l6 : Int32} {l7 : Int32} (hd : 1 ≤ d) (h_58 : ∀ (l5 : Int32) (l6 : Int32) (h : ci_H) (r : Int32 × ci_H), r_58 l5 l6 h = some r → Ev xs N (d + 1) 125 58 [.ref l0, ci_junk, ci_junk, .int l3, .int l4, .int l5, .int l6, ci_junk, ci_junk, ci_junk] [] h nx (oI r nx)) (h_73 : ∀ (l5 : Int32) (l7 : Int32) (h : ci_H) (r : Int32 × ci_H), r_73 l5 l7 h = some r → Ev xs N (d + 1) 125 73 [.ref l0, ci_junk, ci_junk, .int l3, .int l4, .int l5, .int l6, .int l7, ci_junk, ci_junk] [] h nx (oI r nx)) {h : ci_H} {r : Int32 × ci_H} (H : b_X11_exchange_171 r_58 r_73 l0 l3 l4 l5 l6 l7 h = some r) : Ev xs N (d + 1) 125 171 [.ref l0, ci_junk, ci_junk, .int l3, .int l4, .int l5, .int l6, .int l7, ci_junk, ci_junk] [] h nx (oI r nx) := by
  unfold b_X11_exchange_171 at H
  refine ev_go hc_X11_exchange (k := 1) (pc' := 174) (L' := [.ref l0, ci_junk, ci_junk, .int l3, .int l4, .int (l5 + 1), .int l6, .int l7, ci_junk, ci_junk]) (S' := []) rfl ?_
  exact Ev.weak (ci_le_c (Or.inr rfl) (ci_le_c (Or.inl rfl) (ci_le_c (Or.inl rfl) (ci_le_c (Or.inr rfl) (ci_le_c (Or.inr rfl) (ci_le_c (Or.inr rfl) (ci_le_c (Or.inr rfl) (ci_le_c (Or.inr rfl) (ci_le_c (Or.inl rfl) (ci_le_c (Or.inl rfl) (ci_le_n))))))))))) (eb_X11_exchange_174 hd h_58 h_73 H)
def b_X11_exchange_109 (r_58 : Int32 → Int32 → ci_H → Option (Int32 × ci_H)) (r_73 : Int32 → Int32 → ci_H → Option (Int32 × ci_H)) (l0 : Nat) (l3 : Int32) (l4 : Int32) (l5 : Int32) (l6 : Int32) (l7 : Int32) (s0 : Int32)  (h : ci_H) : Option (Int32 × ci_H) := if s0 = 0 then (b_X11_exchange_174 r_58 r_73 l0 l3 l4 l5 l6 l7 h) else ((gR h l0 11 0).bind fun v2 => (F_X10_brokenIn v2 (l3 ^^^ (((1 : Int32) <<< (l6 &&& 31)) ||| ((1 : Int32) <<< (l7 &&& 31)))) h).bind fun q3 => if q3.1 = 0 then ((gR q3.2 l0 11 0).bind fun v5 => (F_X10_brokenIn v5 (l4 ^^^ (((1 : Int32) <<< (l6 &&& 31)) ||| ((1 : Int32) <<< (l7 &&& 31)))) q3.2).bind fun q6 => if q6.1 = 0 then (if l5 = 0 then ((F_X11_tellTwo l0 ((l6 : Int32).toInt64) ((l7 : Int32).toInt64) q6.2).bind fun h9 => b_X11_exchange_171 r_58 r_73 l0 l3 l4 l5 l6 l7 h9) else (b_X11_exchange_171 r_58 r_73 l0 l3 l4 l5 l6 l7 q6.2)) else (b_X11_exchange_174 r_58 r_73 l0 l3 l4 l5 l6 l7 q6.2)) else (b_X11_exchange_174 r_58 r_73 l0 l3 l4 l5 l6 l7 q3.2))
set_option maxHeartbeats 4000000 in
set_option maxRecDepth 20000 in
theorem eb_X11_exchange_109 {xs : Nat → Int32} {N d : Nat} {nx : ci_N} {r_58 : Int32 → Int32 → ci_H → Option (Int32 × ci_H)} {r_73 : Int32 → Int32 → ci_H → Option (Int32 × ci_H)} {l0 : Nat} {l3 : Int32} {l4 : Int32} {l5 : Int32} {l6 : Int32} {l7 : Int32} {s0 : Int32} (hd : 1 ≤ d) (h_58 : ∀ (l5 : Int32) (l6 : Int32) (h : ci_H) (r : Int32 × ci_H), r_58 l5 l6 h = some r → Ev xs N (d + 1) 125 58 [.ref l0, ci_junk, ci_junk, .int l3, .int l4, .int l5, .int l6, ci_junk, ci_junk, ci_junk] [] h nx (oI r nx)) (h_73 : ∀ (l5 : Int32) (l7 : Int32) (h : ci_H) (r : Int32 × ci_H), r_73 l5 l7 h = some r → Ev xs N (d + 1) 125 73 [.ref l0, ci_junk, ci_junk, .int l3, .int l4, .int l5, .int l6, .int l7, ci_junk, ci_junk] [] h nx (oI r nx)) {h : ci_H} {r : Int32 × ci_H} (H : b_X11_exchange_109 r_58 r_73 l0 l3 l4 l5 l6 l7 s0 h = some r) : Ev xs N (d + 1) 125 109 [.ref l0, ci_junk, ci_junk, .int l3, .int l4, .int l5, .int l6, .int l7, ci_junk, ci_junk] [.int s0] h nx (oI r nx) := by
  unfold b_X11_exchange_109 at H
  refine ev_go hc_X11_exchange (k := 10) (pc' := 124) (L' := [.ref l0, ci_junk, ci_junk, .int l3, .int l4, .int l5, .int l6, .int l7, .int s0, .int (((1 : Int32) <<< (l6 &&& 31)) ||| ((1 : Int32) <<< (l7 &&& 31)))]) (S' := [.int s0]) rfl ?_
  by_cases c1 : s0 = 0
  · rw [if_pos c1] at H
    refine ev_bt hc_X11_exchange (fe_X11_exchange (pc := 124) rfl) rfl c1 ?_
    exact Ev.weak (ci_le_c (Or.inr rfl) (ci_le_c (Or.inl rfl) (ci_le_c (Or.inl rfl) (ci_le_c (Or.inr rfl) (ci_le_c (Or.inr rfl) (ci_le_c (Or.inr rfl) (ci_le_c (Or.inr rfl) (ci_le_c (Or.inr rfl) (ci_le_c (Or.inl rfl) (ci_le_c (Or.inl rfl) (ci_le_n))))))))))) (eb_X11_exchange_174 hd h_58 h_73 H)
  · rw [if_neg c1] at H
    refine ev_bf hc_X11_exchange (fe_X11_exchange (pc := 124) rfl) rfl c1 ?_
    refine ev_go hc_X11_exchange (k := 1) (pc' := 128) (L' := [.ref l0, ci_junk, ci_junk, .int l3, .int l4, .int l5, .int l6, .int l7, .int s0, .int (((1 : Int32) <<< (l6 &&& 31)) ||| ((1 : Int32) <<< (l7 &&& 31)))]) (S' := [.ref l0]) rfl ?_
    obtain ⟨v2, ev2, H⟩ := Option.bind_eq_some_iff.mp H
    refine ev_4 hc_X11_exchange (fe_X11_exchange (pc := 128) rfl) (gR_gf ev2) ?_
    refine ev_go hc_X11_exchange (k := 3) (pc' := 135) (L' := [.ref l0, ci_junk, ci_junk, .int l3, .int l4, .int l5, .int l6, .int l7, .int s0, .int (((1 : Int32) <<< (l6 &&& 31)) ||| ((1 : Int32) <<< (l7 &&& 31)))]) (S' := [.int (l3 ^^^ (((1 : Int32) <<< (l6 &&& 31)) ||| ((1 : Int32) <<< (l7 &&& 31)))), .ref v2]) rfl ?_
    obtain ⟨q3, eq3, H⟩ := Option.bind_eq_some_iff.mp H
    refine ev_call (vs := [.ref v2, .int (l3 ^^^ (((1 : Int32) <<< (l6 &&& 31)) ||| ((1 : Int32) <<< (l7 &&& 31))))]) (rest := []) (q := q_X10_brokenIn) hc_X11_exchange (Or.inr rfl) (fe_X11_exchange (pc := 135) rfl) ms_80 rfl rfl (Nat.le_of_ble_eq_true rfl) (kO_recv (K_X10_brokenIn eq3)) (E_X10_brokenIn eq3 (by omega)) rfl ?_
    show Ev xs N (d + 1) 125 138 [.ref l0, ci_junk, ci_junk, .int l3, .int l4, .int l5, .int l6, .int l7, .int s0, .int (((1 : Int32) <<< (l6 &&& 31)) ||| ((1 : Int32) <<< (l7 &&& 31)))] [.int q3.1] q3.2 nx _
    by_cases c4 : q3.1 = 0
    · rw [if_pos c4] at H
      refine ev_bt hc_X11_exchange (fe_X11_exchange (pc := 138) rfl) rfl c4 ?_
      refine ev_go hc_X11_exchange (k := 1) (pc' := 142) (L' := [.ref l0, ci_junk, ci_junk, .int l3, .int l4, .int l5, .int l6, .int l7, .int s0, .int (((1 : Int32) <<< (l6 &&& 31)) ||| ((1 : Int32) <<< (l7 &&& 31)))]) (S' := [.ref l0]) rfl ?_
      obtain ⟨v5, ev5, H⟩ := Option.bind_eq_some_iff.mp H
      refine ev_4 hc_X11_exchange (fe_X11_exchange (pc := 142) rfl) (gR_gf ev5) ?_
      refine ev_go hc_X11_exchange (k := 3) (pc' := 150) (L' := [.ref l0, ci_junk, ci_junk, .int l3, .int l4, .int l5, .int l6, .int l7, .int s0, .int (((1 : Int32) <<< (l6 &&& 31)) ||| ((1 : Int32) <<< (l7 &&& 31)))]) (S' := [.int (l4 ^^^ (((1 : Int32) <<< (l6 &&& 31)) ||| ((1 : Int32) <<< (l7 &&& 31)))), .ref v5]) rfl ?_
      obtain ⟨q6, eq6, H⟩ := Option.bind_eq_some_iff.mp H
      refine ev_call (vs := [.ref v5, .int (l4 ^^^ (((1 : Int32) <<< (l6 &&& 31)) ||| ((1 : Int32) <<< (l7 &&& 31))))]) (rest := []) (q := q_X10_brokenIn) hc_X11_exchange (Or.inr rfl) (fe_X11_exchange (pc := 150) rfl) ms_80 rfl rfl (Nat.le_of_ble_eq_true rfl) (kO_recv (K_X10_brokenIn eq6)) (E_X10_brokenIn eq6 (by omega)) rfl ?_
      show Ev xs N (d + 1) 125 153 [.ref l0, ci_junk, ci_junk, .int l3, .int l4, .int l5, .int l6, .int l7, .int s0, .int (((1 : Int32) <<< (l6 &&& 31)) ||| ((1 : Int32) <<< (l7 &&& 31)))] [.int q6.1] q6.2 nx _
      by_cases c7 : q6.1 = 0
      · rw [if_pos c7] at H
        refine ev_bt hc_X11_exchange (fe_X11_exchange (pc := 153) rfl) rfl c7 ?_
        refine ev_go hc_X11_exchange (k := 1) (pc' := 158) (L' := [.ref l0, ci_junk, ci_junk, .int l3, .int l4, .int l5, .int l6, .int l7, .int s0, .int (((1 : Int32) <<< (l6 &&& 31)) ||| ((1 : Int32) <<< (l7 &&& 31)))]) (S' := [.int l5]) rfl ?_
        by_cases c8 : l5 = 0
        · rw [if_pos c8] at H
          refine ev_bt hc_X11_exchange (fe_X11_exchange (pc := 158) rfl) rfl c8 ?_
          refine ev_go hc_X11_exchange (k := 5) (pc' := 168) (L' := [.ref l0, ci_junk, ci_junk, .int l3, .int l4, .int l5, .int l6, .int l7, .int s0, .int (((1 : Int32) <<< (l6 &&& 31)) ||| ((1 : Int32) <<< (l7 &&& 31)))]) (S' := [.long ((l7 : Int32).toInt64), .long ((l6 : Int32).toInt64), .ref l0]) rfl ?_
          obtain ⟨h9, eh9, H⟩ := Option.bind_eq_some_iff.mp H
          refine ev_call (vs := [.ref l0, .long ((l6 : Int32).toInt64), .long ((l7 : Int32).toInt64)]) (rest := []) (q := q_X11_tellTwo) hc_X11_exchange (Or.inr rfl) (fe_X11_exchange (pc := 168) rfl) ms_148 rfl rfl (Nat.le_of_ble_eq_true rfl) (kO_recv (K_X11_tellTwo eh9)) (E_X11_tellTwo eh9 (by omega)) rfl ?_
          show Ev xs N (d + 1) 125 171 [.ref l0, ci_junk, ci_junk, .int l3, .int l4, .int l5, .int l6, .int l7, .int s0, .int (((1 : Int32) <<< (l6 &&& 31)) ||| ((1 : Int32) <<< (l7 &&& 31)))] [] h9 nx _
          exact Ev.weak (ci_le_c (Or.inr rfl) (ci_le_c (Or.inl rfl) (ci_le_c (Or.inl rfl) (ci_le_c (Or.inr rfl) (ci_le_c (Or.inr rfl) (ci_le_c (Or.inr rfl) (ci_le_c (Or.inr rfl) (ci_le_c (Or.inr rfl) (ci_le_c (Or.inl rfl) (ci_le_c (Or.inl rfl) (ci_le_n))))))))))) (eb_X11_exchange_171 hd h_58 h_73 H)
        · rw [if_neg c8] at H
          refine ev_bf hc_X11_exchange (fe_X11_exchange (pc := 158) rfl) rfl c8 ?_
          exact Ev.weak (ci_le_c (Or.inr rfl) (ci_le_c (Or.inl rfl) (ci_le_c (Or.inl rfl) (ci_le_c (Or.inr rfl) (ci_le_c (Or.inr rfl) (ci_le_c (Or.inr rfl) (ci_le_c (Or.inr rfl) (ci_le_c (Or.inr rfl) (ci_le_c (Or.inl rfl) (ci_le_c (Or.inl rfl) (ci_le_n))))))))))) (eb_X11_exchange_171 hd h_58 h_73 H)
      · rw [if_neg c7] at H
        refine ev_bf hc_X11_exchange (fe_X11_exchange (pc := 153) rfl) rfl c7 ?_
        exact Ev.weak (ci_le_c (Or.inr rfl) (ci_le_c (Or.inl rfl) (ci_le_c (Or.inl rfl) (ci_le_c (Or.inr rfl) (ci_le_c (Or.inr rfl) (ci_le_c (Or.inr rfl) (ci_le_c (Or.inr rfl) (ci_le_c (Or.inr rfl) (ci_le_c (Or.inl rfl) (ci_le_c (Or.inl rfl) (ci_le_n))))))))))) (eb_X11_exchange_174 hd h_58 h_73 H)
    · rw [if_neg c4] at H
      refine ev_bf hc_X11_exchange (fe_X11_exchange (pc := 138) rfl) rfl c4 ?_
      exact Ev.weak (ci_le_c (Or.inr rfl) (ci_le_c (Or.inl rfl) (ci_le_c (Or.inl rfl) (ci_le_c (Or.inr rfl) (ci_le_c (Or.inr rfl) (ci_le_c (Or.inr rfl) (ci_le_c (Or.inr rfl) (ci_le_c (Or.inr rfl) (ci_le_c (Or.inl rfl) (ci_le_c (Or.inl rfl) (ci_le_n))))))))))) (eb_X11_exchange_174 hd h_58 h_73 H)
def b_X11_exchange_108 (r_58 : Int32 → Int32 → ci_H → Option (Int32 × ci_H)) (r_73 : Int32 → Int32 → ci_H → Option (Int32 × ci_H)) (l0 : Nat) (l3 : Int32) (l4 : Int32) (l5 : Int32) (l6 : Int32) (l7 : Int32)  (h : ci_H) : Option (Int32 × ci_H) := b_X11_exchange_109 r_58 r_73 l0 l3 l4 l5 l6 l7 0 h
set_option maxHeartbeats 4000000 in
set_option maxRecDepth 20000 in
theorem eb_X11_exchange_108 {xs : Nat → Int32} {N d : Nat} {nx : ci_N} {r_58 : Int32 → Int32 → ci_H → Option (Int32 × ci_H)} {r_73 : Int32 → Int32 → ci_H → Option (Int32 × ci_H)} {l0 : Nat} {l3 : Int32} {l4 : Int32} {l5 : Int32} {l6 : Int32} {l7 : Int32} (hd : 1 ≤ d) (h_58 : ∀ (l5 : Int32) (l6 : Int32) (h : ci_H) (r : Int32 × ci_H), r_58 l5 l6 h = some r → Ev xs N (d + 1) 125 58 [.ref l0, ci_junk, ci_junk, .int l3, .int l4, .int l5, .int l6, ci_junk, ci_junk, ci_junk] [] h nx (oI r nx)) (h_73 : ∀ (l5 : Int32) (l7 : Int32) (h : ci_H) (r : Int32 × ci_H), r_73 l5 l7 h = some r → Ev xs N (d + 1) 125 73 [.ref l0, ci_junk, ci_junk, .int l3, .int l4, .int l5, .int l6, .int l7, ci_junk, ci_junk] [] h nx (oI r nx)) {h : ci_H} {r : Int32 × ci_H} (H : b_X11_exchange_108 r_58 r_73 l0 l3 l4 l5 l6 l7 h = some r) : Ev xs N (d + 1) 125 108 [.ref l0, ci_junk, ci_junk, .int l3, .int l4, .int l5, .int l6, .int l7, ci_junk, ci_junk] [] h nx (oI r nx) := by
  unfold b_X11_exchange_108 at H
  refine ev_go hc_X11_exchange (k := 1) (pc' := 109) (L' := [.ref l0, ci_junk, ci_junk, .int l3, .int l4, .int l5, .int l6, .int l7, ci_junk, ci_junk]) (S' := [.int 0]) rfl ?_
  exact Ev.weak (ci_le_c (Or.inr rfl) (ci_le_c (Or.inl rfl) (ci_le_c (Or.inl rfl) (ci_le_c (Or.inr rfl) (ci_le_c (Or.inr rfl) (ci_le_c (Or.inr rfl) (ci_le_c (Or.inr rfl) (ci_le_c (Or.inr rfl) (ci_le_c (Or.inl rfl) (ci_le_c (Or.inl rfl) (ci_le_n))))))))))) (eb_X11_exchange_109 hd h_58 h_73 H)
def b_X11_exchange_73 (r_58 : Int32 → Int32 → ci_H → Option (Int32 × ci_H)) (l0 : Nat) (l3 : Int32) (l4 : Int32) (l6 : Int32) : Nat → Int32 → Int32 → ci_H → Option (Int32 × ci_H)
  | 0, _, _, _ => none
  | n + 1, l5, l7, h => (gR h l0 11 0).bind fun v1 => (gI h v1 10 6).bind fun v2 => if v2 ≤ l7 then (r_58 l5 (l6 + 1) h) else (if ((l3 >>> (l6 &&& 31)) &&& 1) = 0 then (b_X11_exchange_108 r_58 (fun x0 x1 x2 => b_X11_exchange_73 r_58 l0 l3 l4 l6 n x0 x1 x2) l0 l3 l4 l5 l6 l7 h) else (if ((l4 >>> (l7 &&& 31)) &&& 1) = 0 then (b_X11_exchange_108 r_58 (fun x0 x1 x2 => b_X11_exchange_73 r_58 l0 l3 l4 l6 n x0 x1 x2) l0 l3 l4 l5 l6 l7 h) else (b_X11_exchange_109 r_58 (fun x0 x1 x2 => b_X11_exchange_73 r_58 l0 l3 l4 l6 n x0 x1 x2) l0 l3 l4 l5 l6 l7 1 h)))
set_option maxHeartbeats 4000000 in
set_option maxRecDepth 20000 in
theorem eb_X11_exchange_73 {xs : Nat → Int32} {N d : Nat} {nx : ci_N} {r_58 : Int32 → Int32 → ci_H → Option (Int32 × ci_H)} {l0 : Nat} {l3 : Int32} {l4 : Int32} {l6 : Int32} (hd : 1 ≤ d) (h_58 : ∀ (l5 : Int32) (l6 : Int32) (h : ci_H) (r : Int32 × ci_H), r_58 l5 l6 h = some r → Ev xs N (d + 1) 125 58 [.ref l0, ci_junk, ci_junk, .int l3, .int l4, .int l5, .int l6, ci_junk, ci_junk, ci_junk] [] h nx (oI r nx)) : ∀ (n : Nat) (l5 : Int32) (l7 : Int32) (h : ci_H) (r : Int32 × ci_H), b_X11_exchange_73 r_58 l0 l3 l4 l6 n l5 l7 h = some r → Ev xs N (d + 1) 125 73 [.ref l0, ci_junk, ci_junk, .int l3, .int l4, .int l5, .int l6, .int l7, ci_junk, ci_junk] [] h nx (oI r nx) := by
  intro n
  induction n with
  | zero => intro l5 l7 h r H; unfold b_X11_exchange_73 at H; cases H
  | succ n ih =>
    intro l5 l7 h r H
    unfold b_X11_exchange_73 at H
    refine ev_go hc_X11_exchange (k := 2) (pc' := 76) (L' := [.ref l0, ci_junk, ci_junk, .int l3, .int l4, .int l5, .int l6, .int l7, ci_junk, ci_junk]) (S' := [.ref l0, .int l7]) rfl ?_
    obtain ⟨v1, ev1, H⟩ := Option.bind_eq_some_iff.mp H
    refine ev_4 hc_X11_exchange (fe_X11_exchange (pc := 76) rfl) (gR_gf ev1) ?_
    obtain ⟨v2, ev2, H⟩ := Option.bind_eq_some_iff.mp H
    refine ev_4 hc_X11_exchange (fe_X11_exchange (pc := 79) rfl) (gI_gf ev2) ?_
    by_cases c3 : v2 ≤ l7
    · rw [if_pos c3] at H
      refine ev_bt hc_X11_exchange (fe_X11_exchange (pc := 82) rfl) rfl c3 ?_
      refine ev_go hc_X11_exchange (k := 2) (pc' := 58) (L' := [.ref l0, ci_junk, ci_junk, .int l3, .int l4, .int l5, .int (l6 + 1), .int l7, ci_junk, ci_junk]) (S' := []) rfl ?_
      exact Ev.weak (ci_le_c (Or.inr rfl) (ci_le_c (Or.inl rfl) (ci_le_c (Or.inl rfl) (ci_le_c (Or.inr rfl) (ci_le_c (Or.inr rfl) (ci_le_c (Or.inr rfl) (ci_le_c (Or.inr rfl) (ci_le_c (Or.inl rfl) (ci_le_c (Or.inl rfl) (ci_le_c (Or.inl rfl) (ci_le_n))))))))))) (h_58 _ _ _ _ H)
    · rw [if_neg c3] at H
      refine ev_bf hc_X11_exchange (fe_X11_exchange (pc := 82) rfl) rfl c3 ?_
      refine ev_go hc_X11_exchange (k := 5) (pc' := 91) (L' := [.ref l0, ci_junk, ci_junk, .int l3, .int l4, .int l5, .int l6, .int l7, ci_junk, ci_junk]) (S' := [.int ((l3 >>> (l6 &&& 31)) &&& 1)]) rfl ?_
      by_cases c4 : ((l3 >>> (l6 &&& 31)) &&& 1) = 0
      · rw [if_pos c4] at H
        refine ev_bt hc_X11_exchange (fe_X11_exchange (pc := 91) rfl) rfl c4 ?_
        exact Ev.weak (ci_le_c (Or.inr rfl) (ci_le_c (Or.inl rfl) (ci_le_c (Or.inl rfl) (ci_le_c (Or.inr rfl) (ci_le_c (Or.inr rfl) (ci_le_c (Or.inr rfl) (ci_le_c (Or.inr rfl) (ci_le_c (Or.inr rfl) (ci_le_c (Or.inl rfl) (ci_le_c (Or.inl rfl) (ci_le_n))))))))))) (eb_X11_exchange_108 hd h_58 ih H)
      · rw [if_neg c4] at H
        refine ev_bf hc_X11_exchange (fe_X11_exchange (pc := 91) rfl) rfl c4 ?_
        refine ev_go hc_X11_exchange (k := 5) (pc' := 101) (L' := [.ref l0, ci_junk, ci_junk, .int l3, .int l4, .int l5, .int l6, .int l7, ci_junk, ci_junk]) (S' := [.int ((l4 >>> (l7 &&& 31)) &&& 1)]) rfl ?_
        by_cases c5 : ((l4 >>> (l7 &&& 31)) &&& 1) = 0
        · rw [if_pos c5] at H
          refine ev_bt hc_X11_exchange (fe_X11_exchange (pc := 101) rfl) rfl c5 ?_
          exact Ev.weak (ci_le_c (Or.inr rfl) (ci_le_c (Or.inl rfl) (ci_le_c (Or.inl rfl) (ci_le_c (Or.inr rfl) (ci_le_c (Or.inr rfl) (ci_le_c (Or.inr rfl) (ci_le_c (Or.inr rfl) (ci_le_c (Or.inr rfl) (ci_le_c (Or.inl rfl) (ci_le_c (Or.inl rfl) (ci_le_n))))))))))) (eb_X11_exchange_108 hd h_58 ih H)
        · rw [if_neg c5] at H
          refine ev_bf hc_X11_exchange (fe_X11_exchange (pc := 101) rfl) rfl c5 ?_
          refine ev_go hc_X11_exchange (k := 2) (pc' := 109) (L' := [.ref l0, ci_junk, ci_junk, .int l3, .int l4, .int l5, .int l6, .int l7, ci_junk, ci_junk]) (S' := [.int 1]) rfl ?_
          exact Ev.weak (ci_le_c (Or.inr rfl) (ci_le_c (Or.inl rfl) (ci_le_c (Or.inl rfl) (ci_le_c (Or.inr rfl) (ci_le_c (Or.inr rfl) (ci_le_c (Or.inr rfl) (ci_le_c (Or.inr rfl) (ci_le_c (Or.inr rfl) (ci_le_c (Or.inl rfl) (ci_le_c (Or.inl rfl) (ci_le_n))))))))))) (eb_X11_exchange_109 hd h_58 ih H)
def b_X11_exchange_58 (l0 : Nat) (l3 : Int32) (l4 : Int32) : Nat → Int32 → Int32 → ci_H → Option (Int32 × ci_H)
  | 0, _, _, _ => none
  | n + 1, l5, l6, h => (gR h l0 11 0).bind fun v1 => (gI h v1 10 6).bind fun v2 => if v2 ≤ l6 then (some (l5, h)) else (b_X11_exchange_73 (fun x0 x1 x2 => b_X11_exchange_58 l0 l3 l4 n x0 x1 x2) l0 l3 l4 l6 bigN l5 0 h)
set_option maxHeartbeats 4000000 in
set_option maxRecDepth 20000 in
theorem eb_X11_exchange_58 {xs : Nat → Int32} {N d : Nat} {nx : ci_N} {l0 : Nat} {l3 : Int32} {l4 : Int32} (hd : 1 ≤ d) : ∀ (n : Nat) (l5 : Int32) (l6 : Int32) (h : ci_H) (r : Int32 × ci_H), b_X11_exchange_58 l0 l3 l4 n l5 l6 h = some r → Ev xs N (d + 1) 125 58 [.ref l0, ci_junk, ci_junk, .int l3, .int l4, .int l5, .int l6, ci_junk, ci_junk, ci_junk] [] h nx (oI r nx) := by
  intro n
  induction n with
  | zero => intro l5 l6 h r H; unfold b_X11_exchange_58 at H; cases H
  | succ n ih =>
    intro l5 l6 h r H
    unfold b_X11_exchange_58 at H
    refine ev_go hc_X11_exchange (k := 2) (pc' := 61) (L' := [.ref l0, ci_junk, ci_junk, .int l3, .int l4, .int l5, .int l6, ci_junk, ci_junk, ci_junk]) (S' := [.ref l0, .int l6]) rfl ?_
    obtain ⟨v1, ev1, H⟩ := Option.bind_eq_some_iff.mp H
    refine ev_4 hc_X11_exchange (fe_X11_exchange (pc := 61) rfl) (gR_gf ev1) ?_
    obtain ⟨v2, ev2, H⟩ := Option.bind_eq_some_iff.mp H
    refine ev_4 hc_X11_exchange (fe_X11_exchange (pc := 64) rfl) (gI_gf ev2) ?_
    by_cases c3 : v2 ≤ l6
    · rw [if_pos c3] at H
      refine ev_bt hc_X11_exchange (fe_X11_exchange (pc := 67) rfl) rfl c3 ?_
      refine ev_go hc_X11_exchange (k := 1) (pc' := 188) (L' := [.ref l0, ci_junk, ci_junk, .int l3, .int l4, .int l5, .int l6, ci_junk, ci_junk, ci_junk]) (S' := [.int l5]) rfl ?_
      obtain rfl := Option.some.inj H
      exact ev_8 hc_X11_exchange (fe_X11_exchange (pc := 188) rfl) rfl
    · rw [if_neg c3] at H
      refine ev_bf hc_X11_exchange (fe_X11_exchange (pc := 67) rfl) rfl c3 ?_
      refine ev_go hc_X11_exchange (k := 2) (pc' := 73) (L' := [.ref l0, ci_junk, ci_junk, .int l3, .int l4, .int l5, .int l6, .int 0, ci_junk, ci_junk]) (S' := []) rfl ?_
      exact Ev.weak (ci_le_c (Or.inr rfl) (ci_le_c (Or.inl rfl) (ci_le_c (Or.inl rfl) (ci_le_c (Or.inr rfl) (ci_le_c (Or.inr rfl) (ci_le_c (Or.inr rfl) (ci_le_c (Or.inr rfl) (ci_le_c (Or.inr rfl) (ci_le_c (Or.inl rfl) (ci_le_c (Or.inl rfl) (ci_le_n))))))))))) (eb_X11_exchange_73 hd ih bigN _ _ _ _ H)
def F_X11_exchange (a0 : Nat) (a1 : Int32) (a2 : Int32) (h : ci_H) : Option (Int32 × ci_H) := if kO h a0 = some 11 then ((gR h a0 11 0).bind fun v1 => (F_X10_hasHouse v1 a1 h).bind fun q2 => if q2.1 = 0 then (some ((-1), q2.2)) else ((gR q2.2 a0 11 0).bind fun v4 => (F_X10_hasHouse v4 a2 q2.2).bind fun q5 => if q5.1 = 0 then (some ((-1), q5.2)) else (if a1 = a2 then (some ((-1), q5.2)) else ((gR q5.2 a0 11 0).bind fun v8 => (F_X10_keptBy v8 a1 q5.2).bind fun q9 => (gR q9.2 a0 11 0).bind fun v10 => (F_X10_keptBy v10 a2 q9.2).bind fun q11 => (F_X11_tellNothing a0 q11.2).bind fun h12 => b_X11_exchange_58 a0 q9.1 q11.1 bigN 0 0 h12)))) else none
theorem K_X11_exchange {a0 : Nat} {a1 : Int32} {a2 : Int32} {h : ci_H} {r : Int32 × ci_H} (H : F_X11_exchange a0 a1 a2 h = some r) : kO h a0 = some 11 := by
  unfold F_X11_exchange at H
  by_cases c : kO h a0 = some 11
  · exact c
  · rw [if_neg c] at H; cases H
set_option maxHeartbeats 4000000 in
set_option maxRecDepth 20000 in
theorem E_X11_exchange {xs : Nat → Int32} {N d : Nat} {nx : ci_N} {a0 : Nat} {a1 : Int32} {a2 : Int32} {h : ci_H} {r : Int32 × ci_H} (H : F_X11_exchange a0 a1 a2 h = some r) (hd : 2 ≤ d) : Ev xs N d 125 0 (ci_entry [.ref a0, .int a1, .int a2] 10) [] h nx (oI r nx) := by
  obtain ⟨d, rfl⟩ : ∃ d2, d = d2 + 1 := ⟨d - 1, by omega⟩
  have hd : 1 ≤ d := by omega
  unfold F_X11_exchange at H
  by_cases ck : kO h a0 = some 11
  · rw [if_pos ck] at H
    show Ev xs N (d + 1) 125 0 [.ref a0, .int a1, .int a2, ci_junk, ci_junk, ci_junk, ci_junk, ci_junk, ci_junk, ci_junk] [] h nx _
    refine ev_go hc_X11_exchange (k := 1) (pc' := 1) (L' := [.ref a0, .int a1, .int a2, ci_junk, ci_junk, ci_junk, ci_junk, ci_junk, ci_junk, ci_junk]) (S' := [.ref a0]) rfl ?_
    obtain ⟨v1, ev1, H⟩ := Option.bind_eq_some_iff.mp H
    refine ev_4 hc_X11_exchange (fe_X11_exchange (pc := 1) rfl) (gR_gf ev1) ?_
    refine ev_go hc_X11_exchange (k := 1) (pc' := 5) (L' := [.ref a0, .int a1, .int a2, ci_junk, ci_junk, ci_junk, ci_junk, ci_junk, ci_junk, ci_junk]) (S' := [.int a1, .ref v1]) rfl ?_
    obtain ⟨q2, eq2, H⟩ := Option.bind_eq_some_iff.mp H
    refine ev_call (vs := [.ref v1, .int a1]) (rest := []) (q := q_X10_hasHouse) hc_X11_exchange (Or.inr rfl) (fe_X11_exchange (pc := 5) rfl) ms_62 rfl rfl (Nat.le_of_ble_eq_true rfl) (kO_recv (K_X10_hasHouse eq2)) (E_X10_hasHouse eq2 (by omega)) rfl ?_
    show Ev xs N (d + 1) 125 8 [.ref a0, .int a1, .int a2, ci_junk, ci_junk, ci_junk, ci_junk, ci_junk, ci_junk, ci_junk] [.int q2.1] q2.2 nx _
    by_cases c3 : q2.1 = 0
    · rw [if_pos c3] at H
      refine ev_bt hc_X11_exchange (fe_X11_exchange (pc := 8) rfl) rfl c3 ?_
      refine ev_go hc_X11_exchange (k := 1) (pc' := 28) (L' := [.ref a0, .int a1, .int a2, ci_junk, ci_junk, ci_junk, ci_junk, ci_junk, ci_junk, ci_junk]) (S' := [.int ((-1))]) rfl ?_
      obtain rfl := Option.some.inj H
      exact ev_8 hc_X11_exchange (fe_X11_exchange (pc := 28) rfl) rfl
    · rw [if_neg c3] at H
      refine ev_bf hc_X11_exchange (fe_X11_exchange (pc := 8) rfl) rfl c3 ?_
      refine ev_go hc_X11_exchange (k := 1) (pc' := 12) (L' := [.ref a0, .int a1, .int a2, ci_junk, ci_junk, ci_junk, ci_junk, ci_junk, ci_junk, ci_junk]) (S' := [.ref a0]) rfl ?_
      obtain ⟨v4, ev4, H⟩ := Option.bind_eq_some_iff.mp H
      refine ev_4 hc_X11_exchange (fe_X11_exchange (pc := 12) rfl) (gR_gf ev4) ?_
      refine ev_go hc_X11_exchange (k := 1) (pc' := 16) (L' := [.ref a0, .int a1, .int a2, ci_junk, ci_junk, ci_junk, ci_junk, ci_junk, ci_junk, ci_junk]) (S' := [.int a2, .ref v4]) rfl ?_
      obtain ⟨q5, eq5, H⟩ := Option.bind_eq_some_iff.mp H
      refine ev_call (vs := [.ref v4, .int a2]) (rest := []) (q := q_X10_hasHouse) hc_X11_exchange (Or.inr rfl) (fe_X11_exchange (pc := 16) rfl) ms_62 rfl rfl (Nat.le_of_ble_eq_true rfl) (kO_recv (K_X10_hasHouse eq5)) (E_X10_hasHouse eq5 (by omega)) rfl ?_
      show Ev xs N (d + 1) 125 19 [.ref a0, .int a1, .int a2, ci_junk, ci_junk, ci_junk, ci_junk, ci_junk, ci_junk, ci_junk] [.int q5.1] q5.2 nx _
      by_cases c6 : q5.1 = 0
      · rw [if_pos c6] at H
        refine ev_bt hc_X11_exchange (fe_X11_exchange (pc := 19) rfl) rfl c6 ?_
        refine ev_go hc_X11_exchange (k := 1) (pc' := 28) (L' := [.ref a0, .int a1, .int a2, ci_junk, ci_junk, ci_junk, ci_junk, ci_junk, ci_junk, ci_junk]) (S' := [.int ((-1))]) rfl ?_
        obtain rfl := Option.some.inj H
        exact ev_8 hc_X11_exchange (fe_X11_exchange (pc := 28) rfl) rfl
      · rw [if_neg c6] at H
        refine ev_bf hc_X11_exchange (fe_X11_exchange (pc := 19) rfl) rfl c6 ?_
        refine ev_go hc_X11_exchange (k := 2) (pc' := 24) (L' := [.ref a0, .int a1, .int a2, ci_junk, ci_junk, ci_junk, ci_junk, ci_junk, ci_junk, ci_junk]) (S' := [.int a2, .int a1]) rfl ?_
        by_cases c7 : a1 = a2
        · rw [if_pos c7] at H
          refine ev_bt hc_X11_exchange (fe_X11_exchange (pc := 24) rfl) rfl c7 ?_
          refine ev_go hc_X11_exchange (k := 1) (pc' := 28) (L' := [.ref a0, .int a1, .int a2, ci_junk, ci_junk, ci_junk, ci_junk, ci_junk, ci_junk, ci_junk]) (S' := [.int ((-1))]) rfl ?_
          obtain rfl := Option.some.inj H
          exact ev_8 hc_X11_exchange (fe_X11_exchange (pc := 28) rfl) rfl
        · rw [if_neg c7] at H
          refine ev_bf hc_X11_exchange (fe_X11_exchange (pc := 24) rfl) rfl c7 ?_
          refine ev_go hc_X11_exchange (k := 1) (pc' := 30) (L' := [.ref a0, .int a1, .int a2, ci_junk, ci_junk, ci_junk, ci_junk, ci_junk, ci_junk, ci_junk]) (S' := [.ref a0]) rfl ?_
          obtain ⟨v8, ev8, H⟩ := Option.bind_eq_some_iff.mp H
          refine ev_4 hc_X11_exchange (fe_X11_exchange (pc := 30) rfl) (gR_gf ev8) ?_
          refine ev_go hc_X11_exchange (k := 1) (pc' := 34) (L' := [.ref a0, .int a1, .int a2, ci_junk, ci_junk, ci_junk, ci_junk, ci_junk, ci_junk, ci_junk]) (S' := [.int a1, .ref v8]) rfl ?_
          obtain ⟨q9, eq9, H⟩ := Option.bind_eq_some_iff.mp H
          refine ev_call (vs := [.ref v8, .int a1]) (rest := []) (q := q_X10_keptBy) hc_X11_exchange (Or.inr rfl) (fe_X11_exchange (pc := 34) rfl) ms_75 rfl rfl (Nat.le_of_ble_eq_true rfl) (kO_recv (K_X10_keptBy eq9)) (E_X10_keptBy eq9 (by omega)) rfl ?_
          show Ev xs N (d + 1) 125 37 [.ref a0, .int a1, .int a2, ci_junk, ci_junk, ci_junk, ci_junk, ci_junk, ci_junk, ci_junk] [.int q9.1] q9.2 nx _
          refine ev_go hc_X11_exchange (k := 2) (pc' := 39) (L' := [.ref a0, .int a1, .int a2, .int q9.1, ci_junk, ci_junk, ci_junk, ci_junk, ci_junk, ci_junk]) (S' := [.ref a0]) rfl ?_
          obtain ⟨v10, ev10, H⟩ := Option.bind_eq_some_iff.mp H
          refine ev_4 hc_X11_exchange (fe_X11_exchange (pc := 39) rfl) (gR_gf ev10) ?_
          refine ev_go hc_X11_exchange (k := 1) (pc' := 43) (L' := [.ref a0, .int a1, .int a2, .int q9.1, ci_junk, ci_junk, ci_junk, ci_junk, ci_junk, ci_junk]) (S' := [.int a2, .ref v10]) rfl ?_
          obtain ⟨q11, eq11, H⟩ := Option.bind_eq_some_iff.mp H
          refine ev_call (vs := [.ref v10, .int a2]) (rest := []) (q := q_X10_keptBy) hc_X11_exchange (Or.inr rfl) (fe_X11_exchange (pc := 43) rfl) ms_75 rfl rfl (Nat.le_of_ble_eq_true rfl) (kO_recv (K_X10_keptBy eq11)) (E_X10_keptBy eq11 (by omega)) rfl ?_
          show Ev xs N (d + 1) 125 46 [.ref a0, .int a1, .int a2, .int q9.1, ci_junk, ci_junk, ci_junk, ci_junk, ci_junk, ci_junk] [.int q11.1] q11.2 nx _
          refine ev_go hc_X11_exchange (k := 2) (pc' := 49) (L' := [.ref a0, .int a1, .int a2, .int q9.1, .int q11.1, ci_junk, ci_junk, ci_junk, ci_junk, ci_junk]) (S' := [.ref a0]) rfl ?_
          obtain ⟨h12, eh12, H⟩ := Option.bind_eq_some_iff.mp H
          refine ev_call (vs := [.ref a0]) (rest := []) (q := q_X11_tellNothing) hc_X11_exchange (Or.inr rfl) (fe_X11_exchange (pc := 49) rfl) ms_145 rfl rfl (Nat.le_of_ble_eq_true rfl) (kO_recv (K_X11_tellNothing eh12)) (E_X11_tellNothing eh12 (by omega)) rfl ?_
          show Ev xs N (d + 1) 125 52 [.ref a0, .int a1, .int a2, .int q9.1, .int q11.1, ci_junk, ci_junk, ci_junk, ci_junk, ci_junk] [] h12 nx _
          refine ev_go hc_X11_exchange (k := 4) (pc' := 58) (L' := [.ref a0, .int a1, .int a2, .int q9.1, .int q11.1, .int 0, .int 0, ci_junk, ci_junk, ci_junk]) (S' := []) rfl ?_
          exact Ev.weak (ci_le_c (Or.inr rfl) (ci_le_c (Or.inl rfl) (ci_le_c (Or.inl rfl) (ci_le_c (Or.inr rfl) (ci_le_c (Or.inr rfl) (ci_le_c (Or.inr rfl) (ci_le_c (Or.inr rfl) (ci_le_c (Or.inl rfl) (ci_le_c (Or.inl rfl) (ci_le_c (Or.inl rfl) (ci_le_n))))))))))) (eb_X11_exchange_58 hd bigN _ _ _ _ H)
  · rw [if_neg ck] at H; cases H
theorem hc_X11_fewerTraits : ci_code (ci_Ms 157) = k_X11_fewerTraits := rfl
theorem fe_X11_fewerTraits {pc : Nat} {w : Option ci_I} (h : (k_X11_fewerTraits)[pc]? = some w) : (k_X11_fewerTraits)[pc]? = some w := h
def b_X11_fewerTraits_16 (l1 : Int32)  (h : ci_H) : Option (Int32 × ci_H) := some (l1, h)
set_option maxHeartbeats 4000000 in
set_option maxRecDepth 20000 in
theorem eb_X11_fewerTraits_16 {xs : Nat → Int32} {N d : Nat} {nx : ci_N} {l1 : Int32} (hd : 0 ≤ d) {h : ci_H} {r : Int32 × ci_H} (H : b_X11_fewerTraits_16 l1 h = some r) : Ev xs N (d + 1) 157 16 [ci_junk, .int l1] [] h nx (oI r nx) := by
  unfold b_X11_fewerTraits_16 at H
  refine ev_go hc_X11_fewerTraits (k := 2) (pc' := 21) (L' := [ci_junk, .int l1]) (S' := [.int l1]) rfl ?_
  obtain rfl := Option.some.inj H
  exact ev_8 hc_X11_fewerTraits (fe_X11_fewerTraits (pc := 21) rfl) rfl
def F_X11_fewerTraits (a0 : Int32) (a1 : Int32) (h : ci_H) : Option (Int32 × ci_H) := if a0 = ((-1)) then (b_X11_fewerTraits_16 a1 h) else ((F_J6_bitCount_0f7a4 a1 h).bind fun q2 => (F_J6_bitCount_0f7a4 a0 q2.2).bind fun q3 => if q3.1 ≤ q2.1 then (some (a0, q3.2)) else (b_X11_fewerTraits_16 a1 q3.2))
set_option maxHeartbeats 4000000 in
set_option maxRecDepth 20000 in
theorem E_X11_fewerTraits {xs : Nat → Int32} {N d : Nat} {nx : ci_N} {a0 : Int32} {a1 : Int32} {h : ci_H} {r : Int32 × ci_H} (H : F_X11_fewerTraits a0 a1 h = some r) (hd : 1 ≤ d) : Ev xs N d 157 0 (ci_entry [.int a0, .int a1] 2) [] h nx (oI r nx) := by
  obtain ⟨d, rfl⟩ : ∃ d2, d = d2 + 1 := ⟨d - 1, by omega⟩
  have hd : 0 ≤ d := by omega
  unfold F_X11_fewerTraits at H
  show Ev xs N (d + 1) 157 0 [.int a0, .int a1] [] h nx _
  refine ev_go hc_X11_fewerTraits (k := 2) (pc' := 2) (L' := [.int a0, .int a1]) (S' := [.int ((-1)), .int a0]) rfl ?_
  by_cases c1 : a0 = ((-1))
  · rw [if_pos c1] at H
    refine ev_bt hc_X11_fewerTraits (fe_X11_fewerTraits (pc := 2) rfl) rfl c1 ?_
    exact Ev.weak (ci_le_c (Or.inl rfl) (ci_le_c (Or.inr rfl) (ci_le_n))) (eb_X11_fewerTraits_16 hd H)
  · rw [if_neg c1] at H
    refine ev_bf hc_X11_fewerTraits (fe_X11_fewerTraits (pc := 2) rfl) rfl c1 ?_
    refine ev_go hc_X11_fewerTraits (k := 1) (pc' := 6) (L' := [.int a0, .int a1]) (S' := [.int a1]) rfl ?_
    obtain ⟨q2, eq2, H⟩ := Option.bind_eq_some_iff.mp H
    refine ev_call (vs := [.int a1]) (rest := []) (q := q_J6_bitCount_0f7a4) hc_X11_fewerTraits (Or.inl rfl) (fe_X11_fewerTraits (pc := 6) rfl) ms_285 rfl rfl (Nat.le_of_ble_eq_true rfl) rfl (E_J6_bitCount_0f7a4 eq2 (by omega)) rfl ?_
    show Ev xs N (d + 1) 157 9 [.int a0, .int a1] [.int q2.1] q2.2 nx _
    refine ev_go hc_X11_fewerTraits (k := 1) (pc' := 10) (L' := [.int a0, .int a1]) (S' := [.int a0, .int q2.1]) rfl ?_
    obtain ⟨q3, eq3, H⟩ := Option.bind_eq_some_iff.mp H
    refine ev_call (vs := [.int a0]) (rest := [.int q2.1]) (q := q_J6_bitCount_0f7a4) hc_X11_fewerTraits (Or.inl rfl) (fe_X11_fewerTraits (pc := 10) rfl) ms_285 rfl rfl (Nat.le_of_ble_eq_true rfl) rfl (E_J6_bitCount_0f7a4 eq3 (by omega)) rfl ?_
    show Ev xs N (d + 1) 157 13 [.int a0, .int a1] [.int q3.1, .int q2.1] q3.2 nx _
    by_cases c4 : q3.1 ≤ q2.1
    · rw [if_pos c4] at H
      refine ev_bt hc_X11_fewerTraits (fe_X11_fewerTraits (pc := 13) rfl) rfl c4 ?_
      refine ev_go hc_X11_fewerTraits (k := 1) (pc' := 21) (L' := [.int a0, .int a1]) (S' := [.int a0]) rfl ?_
      obtain rfl := Option.some.inj H
      exact ev_8 hc_X11_fewerTraits (fe_X11_fewerTraits (pc := 21) rfl) rfl
    · rw [if_neg c4] at H
      refine ev_bf hc_X11_fewerTraits (fe_X11_fewerTraits (pc := 13) rfl) rfl c4 ?_
      exact Ev.weak (ci_le_c (Or.inl rfl) (ci_le_c (Or.inr rfl) (ci_le_n))) (eb_X11_fewerTraits_16 hd H)
theorem hc_X11_name : ci_code (ci_Ms 126) = k_X11_name := rfl
theorem fe_X11_name {pc : Nat} {w : Option ci_I} (h : (k_X11_name)[pc]? = some w) : (k_X11_name)[pc]? = some w := h
def b_X11_name_50 (r_20 : Int32 → Int32 → Int32 → ci_H → Option (Int32 × ci_H)) (l0 : Nat) (l1 : Int32) (l2 : Int32) (l3 : Int32) (l4 : Int32)  (h : ci_H) : Option (Int32 × ci_H) := r_20 l2 l3 (l4 + 1) h
set_option maxHeartbeats 4000000 in
set_option maxRecDepth 20000 in
theorem eb_X11_name_50 {xs : Nat → Int32} {N d : Nat} {nx : ci_N} {r_20 : Int32 → Int32 → Int32 → ci_H → Option (Int32 × ci_H)} {l0 : Nat} {l1 : Int32} {l2 : Int32} {l3 : Int32} {l4 : Int32} (hd : 1 ≤ d) (h_20 : ∀ (l2 : Int32) (l3 : Int32) (l4 : Int32) (h : ci_H) (r : Int32 × ci_H), r_20 l2 l3 l4 h = some r → Ev xs N (d + 1) 126 20 [.ref l0, .int l1, .int l2, .int l3, .int l4] [] h nx (oI r nx)) {h : ci_H} {r : Int32 × ci_H} (H : b_X11_name_50 r_20 l0 l1 l2 l3 l4 h = some r) : Ev xs N (d + 1) 126 50 [.ref l0, .int l1, .int l2, .int l3, .int l4] [] h nx (oI r nx) := by
  unfold b_X11_name_50 at H
  refine ev_go hc_X11_name (k := 2) (pc' := 20) (L' := [.ref l0, .int l1, .int l2, .int l3, .int (l4 + 1)]) (S' := []) rfl ?_
  exact Ev.weak (ci_le_c (Or.inr rfl) (ci_le_c (Or.inr rfl) (ci_le_c (Or.inr rfl) (ci_le_c (Or.inr rfl) (ci_le_c (Or.inr rfl) (ci_le_n)))))) (h_20 _ _ _ _ _ H)
def b_X11_name_20 (l0 : Nat) (l1 : Int32) : Nat → Int32 → Int32 → Int32 → ci_H → Option (Int32 × ci_H)
  | 0, _, _, _, _ => none
  | n + 1, l2, l3, l4, h => if 64 ≤ l4 then ((F_X11_tellOne l0 ((l3 : Int32).toInt64) h).bind fun h2 => some (l2, h2)) else ((gR h l0 11 0).bind fun v3 => (F_X10_havingAll v3 l4 h).bind fun q4 => if q4.1 = l1 then ((F_X11_fewerTraits l3 l4 q4.2).bind fun q6 => b_X11_name_50 (fun x0 x1 x2 x3 => b_X11_name_20 l0 l1 n x0 x1 x2 x3) l0 l1 (l2 + 1) q6.1 l4 q6.2) else (b_X11_name_50 (fun x0 x1 x2 x3 => b_X11_name_20 l0 l1 n x0 x1 x2 x3) l0 l1 l2 l3 l4 q4.2))
set_option maxHeartbeats 4000000 in
set_option maxRecDepth 20000 in
theorem eb_X11_name_20 {xs : Nat → Int32} {N d : Nat} {nx : ci_N} {l0 : Nat} {l1 : Int32} (hd : 1 ≤ d) : ∀ (n : Nat) (l2 : Int32) (l3 : Int32) (l4 : Int32) (h : ci_H) (r : Int32 × ci_H), b_X11_name_20 l0 l1 n l2 l3 l4 h = some r → Ev xs N (d + 1) 126 20 [.ref l0, .int l1, .int l2, .int l3, .int l4] [] h nx (oI r nx) := by
  intro n
  induction n with
  | zero => intro l2 l3 l4 h r H; unfold b_X11_name_20 at H; cases H
  | succ n ih =>
    intro l2 l3 l4 h r H
    unfold b_X11_name_20 at H
    refine ev_go hc_X11_name (k := 2) (pc' := 24) (L' := [.ref l0, .int l1, .int l2, .int l3, .int l4]) (S' := [.int 64, .int l4]) rfl ?_
    by_cases c1 : 64 ≤ l4
    · rw [if_pos c1] at H
      refine ev_bt hc_X11_name (fe_X11_name (pc := 24) rfl) rfl c1 ?_
      refine ev_go hc_X11_name (k := 3) (pc' := 59) (L' := [.ref l0, .int l1, .int l2, .int l3, .int l4]) (S' := [.long ((l3 : Int32).toInt64), .ref l0]) rfl ?_
      obtain ⟨h2, eh2, H⟩ := Option.bind_eq_some_iff.mp H
      refine ev_call (vs := [.ref l0, .long ((l3 : Int32).toInt64)]) (rest := []) (q := q_X11_tellOne) hc_X11_name (Or.inr rfl) (fe_X11_name (pc := 59) rfl) ms_147 rfl rfl (Nat.le_of_ble_eq_true rfl) (kO_recv (K_X11_tellOne eh2)) (E_X11_tellOne eh2 (by omega)) rfl ?_
      show Ev xs N (d + 1) 126 62 [.ref l0, .int l1, .int l2, .int l3, .int l4] [] h2 nx _
      refine ev_go hc_X11_name (k := 1) (pc' := 63) (L' := [.ref l0, .int l1, .int l2, .int l3, .int l4]) (S' := [.int l2]) rfl ?_
      obtain rfl := Option.some.inj H
      exact ev_8 hc_X11_name (fe_X11_name (pc := 63) rfl) rfl
    · rw [if_neg c1] at H
      refine ev_bf hc_X11_name (fe_X11_name (pc := 24) rfl) rfl c1 ?_
      refine ev_go hc_X11_name (k := 1) (pc' := 28) (L' := [.ref l0, .int l1, .int l2, .int l3, .int l4]) (S' := [.ref l0]) rfl ?_
      obtain ⟨v3, ev3, H⟩ := Option.bind_eq_some_iff.mp H
      refine ev_4 hc_X11_name (fe_X11_name (pc := 28) rfl) (gR_gf ev3) ?_
      refine ev_go hc_X11_name (k := 1) (pc' := 33) (L' := [.ref l0, .int l1, .int l2, .int l3, .int l4]) (S' := [.int l4, .ref v3]) rfl ?_
      obtain ⟨q4, eq4, H⟩ := Option.bind_eq_some_iff.mp H
      refine ev_call (vs := [.ref v3, .int l4]) (rest := []) (q := q_X10_havingAll) hc_X11_name (Or.inr rfl) (fe_X11_name (pc := 33) rfl) ms_74 rfl rfl (Nat.le_of_ble_eq_true rfl) (kO_recv (K_X10_havingAll eq4)) (E_X10_havingAll eq4 (by omega)) rfl ?_
      show Ev xs N (d + 1) 126 36 [.ref l0, .int l1, .int l2, .int l3, .int l4] [.int q4.1] q4.2 nx _
      refine ev_go hc_X11_name (k := 1) (pc' := 37) (L' := [.ref l0, .int l1, .int l2, .int l3, .int l4]) (S' := [.int l1, .int q4.1]) rfl ?_
      by_cases c5 : q4.1 = l1
      · rw [if_pos c5] at H
        refine ev_bt hc_X11_name (fe_X11_name (pc := 37) rfl) rfl c5 ?_
        refine ev_go hc_X11_name (k := 3) (pc' := 46) (L' := [.ref l0, .int l1, .int (l2 + 1), .int l3, .int l4]) (S' := [.int l4, .int l3]) rfl ?_
        obtain ⟨q6, eq6, H⟩ := Option.bind_eq_some_iff.mp H
        refine ev_call (vs := [.int l3, .int l4]) (rest := []) (q := q_X11_fewerTraits) hc_X11_name (Or.inl rfl) (fe_X11_name (pc := 46) rfl) ms_157 rfl rfl (Nat.le_of_ble_eq_true rfl) rfl (E_X11_fewerTraits eq6 (by omega)) rfl ?_
        show Ev xs N (d + 1) 126 49 [.ref l0, .int l1, .int (l2 + 1), .int l3, .int l4] [.int q6.1] q6.2 nx _
        refine ev_go hc_X11_name (k := 1) (pc' := 50) (L' := [.ref l0, .int l1, .int (l2 + 1), .int q6.1, .int l4]) (S' := []) rfl ?_
        exact Ev.weak (ci_le_c (Or.inr rfl) (ci_le_c (Or.inr rfl) (ci_le_c (Or.inr rfl) (ci_le_c (Or.inr rfl) (ci_le_c (Or.inr rfl) (ci_le_n)))))) (eb_X11_name_50 hd ih H)
      · rw [if_neg c5] at H
        refine ev_bf hc_X11_name (fe_X11_name (pc := 37) rfl) rfl c5 ?_
        exact Ev.weak (ci_le_c (Or.inr rfl) (ci_le_c (Or.inr rfl) (ci_le_c (Or.inr rfl) (ci_le_c (Or.inr rfl) (ci_le_c (Or.inr rfl) (ci_le_n)))))) (eb_X11_name_50 hd ih H)
def F_X11_name (a0 : Nat) (a1 : Int32) (h : ci_H) : Option (Int32 × ci_H) := if kO h a0 = some 11 then ((gR h a0 11 0).bind fun v1 => (F_X10_hasThings v1 a1 h).bind fun q2 => if q2.1 = 0 then (some ((-1), q2.2)) else (b_X11_name_20 a0 a1 bigN 0 ((-1)) 0 q2.2)) else none
theorem K_X11_name {a0 : Nat} {a1 : Int32} {h : ci_H} {r : Int32 × ci_H} (H : F_X11_name a0 a1 h = some r) : kO h a0 = some 11 := by
  unfold F_X11_name at H
  by_cases c : kO h a0 = some 11
  · exact c
  · rw [if_neg c] at H; cases H
set_option maxHeartbeats 4000000 in
set_option maxRecDepth 20000 in
theorem E_X11_name {xs : Nat → Int32} {N d : Nat} {nx : ci_N} {a0 : Nat} {a1 : Int32} {h : ci_H} {r : Int32 × ci_H} (H : F_X11_name a0 a1 h = some r) (hd : 2 ≤ d) : Ev xs N d 126 0 (ci_entry [.ref a0, .int a1] 5) [] h nx (oI r nx) := by
  obtain ⟨d, rfl⟩ : ∃ d2, d = d2 + 1 := ⟨d - 1, by omega⟩
  have hd : 1 ≤ d := by omega
  unfold F_X11_name at H
  by_cases ck : kO h a0 = some 11
  · rw [if_pos ck] at H
    show Ev xs N (d + 1) 126 0 [.ref a0, .int a1, ci_junk, ci_junk, ci_junk] [] h nx _
    refine ev_go hc_X11_name (k := 1) (pc' := 1) (L' := [.ref a0, .int a1, ci_junk, ci_junk, ci_junk]) (S' := [.ref a0]) rfl ?_
    obtain ⟨v1, ev1, H⟩ := Option.bind_eq_some_iff.mp H
    refine ev_4 hc_X11_name (fe_X11_name (pc := 1) rfl) (gR_gf ev1) ?_
    refine ev_go hc_X11_name (k := 1) (pc' := 5) (L' := [.ref a0, .int a1, ci_junk, ci_junk, ci_junk]) (S' := [.int a1, .ref v1]) rfl ?_
    obtain ⟨q2, eq2, H⟩ := Option.bind_eq_some_iff.mp H
    refine ev_call (vs := [.ref v1, .int a1]) (rest := []) (q := q_X10_hasThings) hc_X11_name (Or.inr rfl) (fe_X11_name (pc := 5) rfl) ms_65 rfl rfl (Nat.le_of_ble_eq_true rfl) (kO_recv (K_X10_hasThings eq2)) (E_X10_hasThings eq2 (by omega)) rfl ?_
    show Ev xs N (d + 1) 126 8 [.ref a0, .int a1, ci_junk, ci_junk, ci_junk] [.int q2.1] q2.2 nx _
    by_cases c3 : q2.1 = 0
    · rw [if_pos c3] at H
      refine ev_bt hc_X11_name (fe_X11_name (pc := 8) rfl) rfl c3 ?_
      refine ev_go hc_X11_name (k := 1) (pc' := 12) (L' := [.ref a0, .int a1, ci_junk, ci_junk, ci_junk]) (S' := [.int ((-1))]) rfl ?_
      obtain rfl := Option.some.inj H
      exact ev_8 hc_X11_name (fe_X11_name (pc := 12) rfl) rfl
    · rw [if_neg c3] at H
      refine ev_bf hc_X11_name (fe_X11_name (pc := 8) rfl) rfl c3 ?_
      refine ev_go hc_X11_name (k := 6) (pc' := 20) (L' := [.ref a0, .int a1, .int 0, .int ((-1)), .int 0]) (S' := []) rfl ?_
      exact Ev.weak (ci_le_c (Or.inr rfl) (ci_le_c (Or.inr rfl) (ci_le_c (Or.inr rfl) (ci_le_c (Or.inr rfl) (ci_le_c (Or.inr rfl) (ci_le_n)))))) (eb_X11_name_20 hd bigN _ _ _ _ _ H)
  · rw [if_neg ck] at H; cases H
theorem hc_X11_deal : ci_code (ci_Ms 127) = k_X11_deal := rfl
theorem fe_X11_deal {pc : Nat} {w : Option ci_I} (h : (k_X11_deal)[pc]? = some w) : (k_X11_deal)[pc]? = some w := h
def b_X11_deal_14 (l0 : Nat) (l1 : Int32) : Nat → Int32 → ci_H → Option (Int32 × ci_H)
  | 0, _, _ => none
  | n + 1, l2, h => (gR h l0 11 0).bind fun v1 => (gI h v1 10 5).bind fun v2 => if v2 ≤ l2 then (some (l1, h)) else ((gR h l0 11 16).bind fun v4 => (gR h v4 1 4).bind fun v5 => (rI h v5 l2).bind fun v6 => (F_X11_tellBesides l0 ((v6 : Int32).toInt64) h).bind fun h7 => b_X11_deal_14 l0 l1 n (l2 + 1) h7)
set_option maxHeartbeats 4000000 in
set_option maxRecDepth 20000 in
theorem eb_X11_deal_14 {xs : Nat → Int32} {N d : Nat} {nx : ci_N} {l0 : Nat} {l1 : Int32} (hd : 5 ≤ d) : ∀ (n : Nat) (l2 : Int32) (h : ci_H) (r : Int32 × ci_H), b_X11_deal_14 l0 l1 n l2 h = some r → Ev xs N (d + 1) 127 14 [.ref l0, .int l1, .int l2] [] h nx (oI r nx) := by
  intro n
  induction n with
  | zero => intro l2 h r H; unfold b_X11_deal_14 at H; cases H
  | succ n ih =>
    intro l2 h r H
    unfold b_X11_deal_14 at H
    refine ev_go hc_X11_deal (k := 2) (pc' := 16) (L' := [.ref l0, .int l1, .int l2]) (S' := [.ref l0, .int l2]) rfl ?_
    obtain ⟨v1, ev1, H⟩ := Option.bind_eq_some_iff.mp H
    refine ev_4 hc_X11_deal (fe_X11_deal (pc := 16) rfl) (gR_gf ev1) ?_
    obtain ⟨v2, ev2, H⟩ := Option.bind_eq_some_iff.mp H
    refine ev_4 hc_X11_deal (fe_X11_deal (pc := 19) rfl) (gI_gf ev2) ?_
    by_cases c3 : v2 ≤ l2
    · rw [if_pos c3] at H
      refine ev_bt hc_X11_deal (fe_X11_deal (pc := 22) rfl) rfl c3 ?_
      refine ev_go hc_X11_deal (k := 1) (pc' := 46) (L' := [.ref l0, .int l1, .int l2]) (S' := [.int l1]) rfl ?_
      obtain rfl := Option.some.inj H
      exact ev_8 hc_X11_deal (fe_X11_deal (pc := 46) rfl) rfl
    · rw [if_neg c3] at H
      refine ev_bf hc_X11_deal (fe_X11_deal (pc := 22) rfl) rfl c3 ?_
      refine ev_go hc_X11_deal (k := 2) (pc' := 27) (L' := [.ref l0, .int l1, .int l2]) (S' := [.ref l0, .ref l0]) rfl ?_
      obtain ⟨v4, ev4, H⟩ := Option.bind_eq_some_iff.mp H
      refine ev_4 hc_X11_deal (fe_X11_deal (pc := 27) rfl) (gR_gf ev4) ?_
      obtain ⟨v5, ev5, H⟩ := Option.bind_eq_some_iff.mp H
      refine ev_4 hc_X11_deal (fe_X11_deal (pc := 30) rfl) (gR_gf ev5) ?_
      refine ev_go hc_X11_deal (k := 1) (pc' := 34) (L' := [.ref l0, .int l1, .int l2]) (S' := [.int l2, .ref v5, .ref l0]) rfl ?_
      obtain ⟨v6, ev6, H⟩ := Option.bind_eq_some_iff.mp H
      refine ev_4 hc_X11_deal (fe_X11_deal (pc := 34) rfl) (rI_al ev6) ?_
      refine ev_go hc_X11_deal (k := 1) (pc' := 36) (L' := [.ref l0, .int l1, .int l2]) (S' := [.long ((v6 : Int32).toInt64), .ref l0]) rfl ?_
      obtain ⟨h7, eh7, H⟩ := Option.bind_eq_some_iff.mp H
      refine ev_call (vs := [.ref l0, .long ((v6 : Int32).toInt64)]) (rest := []) (q := q_X11_tellBesides) hc_X11_deal (Or.inr rfl) (fe_X11_deal (pc := 36) rfl) ms_146 rfl rfl (Nat.le_of_ble_eq_true rfl) (kO_recv (K_X11_tellBesides eh7)) (E_X11_tellBesides eh7 (by omega)) rfl ?_
      show Ev xs N (d + 1) 127 39 [.ref l0, .int l1, .int l2] [] h7 nx _
      refine ev_go hc_X11_deal (k := 2) (pc' := 14) (L' := [.ref l0, .int l1, .int (l2 + 1)]) (S' := []) rfl ?_
      exact Ev.weak (ci_le_c (Or.inr rfl) (ci_le_c (Or.inr rfl) (ci_le_c (Or.inr rfl) (ci_le_n)))) (ih _ _ _ H)
def F_X11_deal (a0 : Nat) (h : ci_H) : Option (Int32 × ci_H) := if kO h a0 = some 11 then ((gR h a0 11 16).bind fun v1 => (F_X1_mostWorth v1 h).bind fun q2 => (F_X11_tellNothing a0 q2.2).bind fun h3 => b_X11_deal_14 a0 q2.1 bigN 0 h3) else none
theorem K_X11_deal {a0 : Nat} {h : ci_H} {r : Int32 × ci_H} (H : F_X11_deal a0 h = some r) : kO h a0 = some 11 := by
  unfold F_X11_deal at H
  by_cases c : kO h a0 = some 11
  · exact c
  · rw [if_neg c] at H; cases H
set_option maxHeartbeats 4000000 in
set_option maxRecDepth 20000 in
theorem E_X11_deal {xs : Nat → Int32} {N d : Nat} {nx : ci_N} {a0 : Nat} {h : ci_H} {r : Int32 × ci_H} (H : F_X11_deal a0 h = some r) (hd : 6 ≤ d) : Ev xs N d 127 0 (ci_entry [.ref a0] 3) [] h nx (oI r nx) := by
  obtain ⟨d, rfl⟩ : ∃ d2, d = d2 + 1 := ⟨d - 1, by omega⟩
  have hd : 5 ≤ d := by omega
  unfold F_X11_deal at H
  by_cases ck : kO h a0 = some 11
  · rw [if_pos ck] at H
    show Ev xs N (d + 1) 127 0 [.ref a0, ci_junk, ci_junk] [] h nx _
    refine ev_go hc_X11_deal (k := 1) (pc' := 1) (L' := [.ref a0, ci_junk, ci_junk]) (S' := [.ref a0]) rfl ?_
    obtain ⟨v1, ev1, H⟩ := Option.bind_eq_some_iff.mp H
    refine ev_4 hc_X11_deal (fe_X11_deal (pc := 1) rfl) (gR_gf ev1) ?_
    obtain ⟨q2, eq2, H⟩ := Option.bind_eq_some_iff.mp H
    refine ev_call (vs := [.ref v1]) (rest := []) (q := q_X1_mostWorth) hc_X11_deal (Or.inr rfl) (fe_X11_deal (pc := 4) rfl) ms_5 rfl rfl (Nat.le_of_ble_eq_true rfl) (kO_recv (K_X1_mostWorth eq2)) (E_X1_mostWorth eq2 (by omega)) rfl ?_
    show Ev xs N (d + 1) 127 7 [.ref a0, ci_junk, ci_junk] [.int q2.1] q2.2 nx _
    refine ev_go hc_X11_deal (k := 2) (pc' := 9) (L' := [.ref a0, .int q2.1, ci_junk]) (S' := [.ref a0]) rfl ?_
    obtain ⟨h3, eh3, H⟩ := Option.bind_eq_some_iff.mp H
    refine ev_call (vs := [.ref a0]) (rest := []) (q := q_X11_tellNothing) hc_X11_deal (Or.inr rfl) (fe_X11_deal (pc := 9) rfl) ms_145 rfl rfl (Nat.le_of_ble_eq_true rfl) (kO_recv (K_X11_tellNothing eh3)) (E_X11_tellNothing eh3 (by omega)) rfl ?_
    show Ev xs N (d + 1) 127 12 [.ref a0, .int q2.1, ci_junk] [] h3 nx _
    refine ev_go hc_X11_deal (k := 2) (pc' := 14) (L' := [.ref a0, .int q2.1, .int 0]) (S' := []) rfl ?_
    exact Ev.weak (ci_le_c (Or.inr rfl) (ci_le_c (Or.inr rfl) (ci_le_c (Or.inr rfl) (ci_le_n)))) (eb_X11_deal_14 hd bigN _ _ _ H)
  · rw [if_neg ck] at H; cases H
theorem hc_X11_freedByStriking : ci_code (ci_Ms 156) = k_X11_freedByStriking := rfl
theorem fe_X11_freedByStriking {pc : Nat} {w : Option ci_I} (h : (k_X11_freedByStriking)[pc]? = some w) : (k_X11_freedByStriking)[pc]? = some w := h
def b_X11_freedByStriking_39 (r_4 : Int32 → Int32 → ci_H → Option (Int32 × ci_H)) (l0 : Nat) (l1 : Int32) (l2 : Int32) (l3 : Int32)  (h : ci_H) : Option (Int32 × ci_H) := r_4 l2 (l3 + 1) h
set_option maxHeartbeats 4000000 in
set_option maxRecDepth 20000 in
theorem eb_X11_freedByStriking_39 {xs : Nat → Int32} {N d : Nat} {nx : ci_N} {r_4 : Int32 → Int32 → ci_H → Option (Int32 × ci_H)} {l0 : Nat} {l1 : Int32} {l2 : Int32} {l3 : Int32} (hd : 1 ≤ d) (h_4 : ∀ (l2 : Int32) (l3 : Int32) (h : ci_H) (r : Int32 × ci_H), r_4 l2 l3 h = some r → Ev xs N (d + 1) 156 4 [.ref l0, .int l1, .int l2, .int l3] [] h nx (oI r nx)) {h : ci_H} {r : Int32 × ci_H} (H : b_X11_freedByStriking_39 r_4 l0 l1 l2 l3 h = some r) : Ev xs N (d + 1) 156 39 [.ref l0, .int l1, .int l2, .int l3] [] h nx (oI r nx) := by
  unfold b_X11_freedByStriking_39 at H
  refine ev_go hc_X11_freedByStriking (k := 2) (pc' := 4) (L' := [.ref l0, .int l1, .int l2, .int (l3 + 1)]) (S' := []) rfl ?_
  exact Ev.weak (ci_le_c (Or.inr rfl) (ci_le_c (Or.inr rfl) (ci_le_c (Or.inr rfl) (ci_le_c (Or.inr rfl) (ci_le_n))))) (h_4 _ _ _ _ H)
def b_X11_freedByStriking_4 (l0 : Nat) (l1 : Int32) : Nat → Int32 → Int32 → ci_H → Option (Int32 × ci_H)
  | 0, _, _, _ => none
  | n + 1, l2, l3, h => (gR h l0 11 0).bind fun v1 => (gI h v1 10 5).bind fun v2 => if v2 ≤ l3 then (some (l2, h)) else ((gR h l0 11 0).bind fun v4 => (gR h l0 11 0).bind fun v5 => (F_X10_keptBy v5 l3 h).bind fun q6 => (F_X10_brokenIn v4 q6.1 q6.2).bind fun q7 => if q7.1 = ((1 : Int32) <<< (l1 &&& 31)) then (b_X11_freedByStriking_39 (fun x0 x1 x2 => b_X11_freedByStriking_4 l0 l1 n x0 x1 x2) l0 l1 (l2 + 1) l3 q7.2) else (b_X11_freedByStriking_39 (fun x0 x1 x2 => b_X11_freedByStriking_4 l0 l1 n x0 x1 x2) l0 l1 l2 l3 q7.2))
set_option maxHeartbeats 4000000 in
set_option maxRecDepth 20000 in
theorem eb_X11_freedByStriking_4 {xs : Nat → Int32} {N d : Nat} {nx : ci_N} {l0 : Nat} {l1 : Int32} (hd : 1 ≤ d) : ∀ (n : Nat) (l2 : Int32) (l3 : Int32) (h : ci_H) (r : Int32 × ci_H), b_X11_freedByStriking_4 l0 l1 n l2 l3 h = some r → Ev xs N (d + 1) 156 4 [.ref l0, .int l1, .int l2, .int l3] [] h nx (oI r nx) := by
  intro n
  induction n with
  | zero => intro l2 l3 h r H; unfold b_X11_freedByStriking_4 at H; cases H
  | succ n ih =>
    intro l2 l3 h r H
    unfold b_X11_freedByStriking_4 at H
    refine ev_go hc_X11_freedByStriking (k := 2) (pc' := 6) (L' := [.ref l0, .int l1, .int l2, .int l3]) (S' := [.ref l0, .int l3]) rfl ?_
    obtain ⟨v1, ev1, H⟩ := Option.bind_eq_some_iff.mp H
    refine ev_4 hc_X11_freedByStriking (fe_X11_freedByStriking (pc := 6) rfl) (gR_gf ev1) ?_
    obtain ⟨v2, ev2, H⟩ := Option.bind_eq_some_iff.mp H
    refine ev_4 hc_X11_freedByStriking (fe_X11_freedByStriking (pc := 9) rfl) (gI_gf ev2) ?_
    by_cases c3 : v2 ≤ l3
    · rw [if_pos c3] at H
      refine ev_bt hc_X11_freedByStriking (fe_X11_freedByStriking (pc := 12) rfl) rfl c3 ?_
      refine ev_go hc_X11_freedByStriking (k := 1) (pc' := 46) (L' := [.ref l0, .int l1, .int l2, .int l3]) (S' := [.int l2]) rfl ?_
      obtain rfl := Option.some.inj H
      exact ev_8 hc_X11_freedByStriking (fe_X11_freedByStriking (pc := 46) rfl) rfl
    · rw [if_neg c3] at H
      refine ev_bf hc_X11_freedByStriking (fe_X11_freedByStriking (pc := 12) rfl) rfl c3 ?_
      refine ev_go hc_X11_freedByStriking (k := 1) (pc' := 16) (L' := [.ref l0, .int l1, .int l2, .int l3]) (S' := [.ref l0]) rfl ?_
      obtain ⟨v4, ev4, H⟩ := Option.bind_eq_some_iff.mp H
      refine ev_4 hc_X11_freedByStriking (fe_X11_freedByStriking (pc := 16) rfl) (gR_gf ev4) ?_
      refine ev_go hc_X11_freedByStriking (k := 1) (pc' := 20) (L' := [.ref l0, .int l1, .int l2, .int l3]) (S' := [.ref l0, .ref v4]) rfl ?_
      obtain ⟨v5, ev5, H⟩ := Option.bind_eq_some_iff.mp H
      refine ev_4 hc_X11_freedByStriking (fe_X11_freedByStriking (pc := 20) rfl) (gR_gf ev5) ?_
      refine ev_go hc_X11_freedByStriking (k := 1) (pc' := 24) (L' := [.ref l0, .int l1, .int l2, .int l3]) (S' := [.int l3, .ref v5, .ref v4]) rfl ?_
      obtain ⟨q6, eq6, H⟩ := Option.bind_eq_some_iff.mp H
      refine ev_call (vs := [.ref v5, .int l3]) (rest := [.ref v4]) (q := q_X10_keptBy) hc_X11_freedByStriking (Or.inr rfl) (fe_X11_freedByStriking (pc := 24) rfl) ms_75 rfl rfl (Nat.le_of_ble_eq_true rfl) (kO_recv (K_X10_keptBy eq6)) (E_X10_keptBy eq6 (by omega)) rfl ?_
      show Ev xs N (d + 1) 156 27 [.ref l0, .int l1, .int l2, .int l3] [.int q6.1, .ref v4] q6.2 nx _
      obtain ⟨q7, eq7, H⟩ := Option.bind_eq_some_iff.mp H
      refine ev_call (vs := [.ref v4, .int q6.1]) (rest := []) (q := q_X10_brokenIn) hc_X11_freedByStriking (Or.inr rfl) (fe_X11_freedByStriking (pc := 27) rfl) ms_80 rfl rfl (Nat.le_of_ble_eq_true rfl) (kO_recv (K_X10_brokenIn eq7)) (E_X10_brokenIn eq7 (by omega)) rfl ?_
      show Ev xs N (d + 1) 156 30 [.ref l0, .int l1, .int l2, .int l3] [.int q7.1] q7.2 nx _
      refine ev_go hc_X11_freedByStriking (k := 3) (pc' := 33) (L' := [.ref l0, .int l1, .int l2, .int l3]) (S' := [.int ((1 : Int32) <<< (l1 &&& 31)), .int q7.1]) rfl ?_
      by_cases c8 : q7.1 = ((1 : Int32) <<< (l1 &&& 31))
      · rw [if_pos c8] at H
        refine ev_bt hc_X11_freedByStriking (fe_X11_freedByStriking (pc := 33) rfl) rfl c8 ?_
        refine ev_go hc_X11_freedByStriking (k := 1) (pc' := 39) (L' := [.ref l0, .int l1, .int (l2 + 1), .int l3]) (S' := []) rfl ?_
        exact Ev.weak (ci_le_c (Or.inr rfl) (ci_le_c (Or.inr rfl) (ci_le_c (Or.inr rfl) (ci_le_c (Or.inr rfl) (ci_le_n))))) (eb_X11_freedByStriking_39 hd ih H)
      · rw [if_neg c8] at H
        refine ev_bf hc_X11_freedByStriking (fe_X11_freedByStriking (pc := 33) rfl) rfl c8 ?_
        exact Ev.weak (ci_le_c (Or.inr rfl) (ci_le_c (Or.inr rfl) (ci_le_c (Or.inr rfl) (ci_le_c (Or.inr rfl) (ci_le_n))))) (eb_X11_freedByStriking_39 hd ih H)
def F_X11_freedByStriking (a0 : Nat) (a1 : Int32) (h : ci_H) : Option (Int32 × ci_H) := if kO h a0 = some 11 then (b_X11_freedByStriking_4 a0 a1 bigN 0 0 h) else none
theorem K_X11_freedByStriking {a0 : Nat} {a1 : Int32} {h : ci_H} {r : Int32 × ci_H} (H : F_X11_freedByStriking a0 a1 h = some r) : kO h a0 = some 11 := by
  unfold F_X11_freedByStriking at H
  by_cases c : kO h a0 = some 11
  · exact c
  · rw [if_neg c] at H; cases H
set_option maxHeartbeats 4000000 in
set_option maxRecDepth 20000 in
theorem E_X11_freedByStriking {xs : Nat → Int32} {N d : Nat} {nx : ci_N} {a0 : Nat} {a1 : Int32} {h : ci_H} {r : Int32 × ci_H} (H : F_X11_freedByStriking a0 a1 h = some r) (hd : 2 ≤ d) : Ev xs N d 156 0 (ci_entry [.ref a0, .int a1] 4) [] h nx (oI r nx) := by
  obtain ⟨d, rfl⟩ : ∃ d2, d = d2 + 1 := ⟨d - 1, by omega⟩
  have hd : 1 ≤ d := by omega
  unfold F_X11_freedByStriking at H
  by_cases ck : kO h a0 = some 11
  · rw [if_pos ck] at H
    show Ev xs N (d + 1) 156 0 [.ref a0, .int a1, ci_junk, ci_junk] [] h nx _
    refine ev_go hc_X11_freedByStriking (k := 4) (pc' := 4) (L' := [.ref a0, .int a1, .int 0, .int 0]) (S' := []) rfl ?_
    exact Ev.weak (ci_le_c (Or.inr rfl) (ci_le_c (Or.inr rfl) (ci_le_c (Or.inr rfl) (ci_le_c (Or.inr rfl) (ci_le_n))))) (eb_X11_freedByStriking_4 hd bigN _ _ _ _ H)
  · rw [if_neg ck] at H; cases H
theorem hc_X11_vote : ci_code (ci_Ms 128) = k_X11_vote := rfl
theorem fe_X11_vote {pc : Nat} {w : Option ci_I} (h : (k_X11_vote)[pc]? = some w) : (k_X11_vote)[pc]? = some w := h
def b_X11_vote_48 (r_19 : Int32 → Int32 → Int32 → ci_H → Option (Int32 × ci_H)) (l0 : Nat) (l1 : Int32) (l2 : Int32) (l3 : Int32)  (h : ci_H) : Option (Int32 × ci_H) := r_19 l1 l2 (l3 + 1) h
set_option maxHeartbeats 4000000 in
set_option maxRecDepth 20000 in
theorem eb_X11_vote_48 {xs : Nat → Int32} {N d : Nat} {nx : ci_N} {r_19 : Int32 → Int32 → Int32 → ci_H → Option (Int32 × ci_H)} {l0 : Nat} {l1 : Int32} {l2 : Int32} {l3 : Int32} (hd : 2 ≤ d) (h_19 : ∀ (l1 : Int32) (l2 : Int32) (l3 : Int32) (h : ci_H) (r : Int32 × ci_H), r_19 l1 l2 l3 h = some r → Ev xs N (d + 1) 128 19 [.ref l0, .int l1, .int l2, .int l3, ci_junk] [] h nx (oI r nx)) {h : ci_H} {r : Int32 × ci_H} (H : b_X11_vote_48 r_19 l0 l1 l2 l3 h = some r) : Ev xs N (d + 1) 128 48 [.ref l0, .int l1, .int l2, .int l3, ci_junk] [] h nx (oI r nx) := by
  unfold b_X11_vote_48 at H
  refine ev_go hc_X11_vote (k := 2) (pc' := 19) (L' := [.ref l0, .int l1, .int l2, .int (l3 + 1), ci_junk]) (S' := []) rfl ?_
  exact Ev.weak (ci_le_c (Or.inr rfl) (ci_le_c (Or.inr rfl) (ci_le_c (Or.inr rfl) (ci_le_c (Or.inr rfl) (ci_le_c (Or.inl rfl) (ci_le_n)))))) (h_19 _ _ _ _ _ H)
def b_X11_vote_19 (l0 : Nat) : Nat → Int32 → Int32 → Int32 → ci_H → Option (Int32 × ci_H)
  | 0, _, _, _, _ => none
  | n + 1, l1, l2, l3, h => (gR h l0 11 0).bind fun v1 => (gI h v1 10 7).bind fun v2 => if v2 ≤ l3 then ((F_X11_tellOne l0 ((l2 : Int32).toInt64) h).bind fun h4 => some (l1, h4)) else ((F_X11_freedByStriking l0 l3 h).bind fun q5 => if q5.1 ≤ l2 then (b_X11_vote_48 (fun x0 x1 x2 x3 => b_X11_vote_19 l0 n x0 x1 x2 x3) l0 l1 l2 l3 q5.2) else (b_X11_vote_48 (fun x0 x1 x2 x3 => b_X11_vote_19 l0 n x0 x1 x2 x3) l0 l3 q5.1 l3 q5.2))
set_option maxHeartbeats 4000000 in
set_option maxRecDepth 20000 in
theorem eb_X11_vote_19 {xs : Nat → Int32} {N d : Nat} {nx : ci_N} {l0 : Nat} (hd : 2 ≤ d) : ∀ (n : Nat) (l1 : Int32) (l2 : Int32) (l3 : Int32) (h : ci_H) (r : Int32 × ci_H), b_X11_vote_19 l0 n l1 l2 l3 h = some r → Ev xs N (d + 1) 128 19 [.ref l0, .int l1, .int l2, .int l3, ci_junk] [] h nx (oI r nx) := by
  intro n
  induction n with
  | zero => intro l1 l2 l3 h r H; unfold b_X11_vote_19 at H; cases H
  | succ n ih =>
    intro l1 l2 l3 h r H
    unfold b_X11_vote_19 at H
    refine ev_go hc_X11_vote (k := 2) (pc' := 21) (L' := [.ref l0, .int l1, .int l2, .int l3, ci_junk]) (S' := [.ref l0, .int l3]) rfl ?_
    obtain ⟨v1, ev1, H⟩ := Option.bind_eq_some_iff.mp H
    refine ev_4 hc_X11_vote (fe_X11_vote (pc := 21) rfl) (gR_gf ev1) ?_
    obtain ⟨v2, ev2, H⟩ := Option.bind_eq_some_iff.mp H
    refine ev_4 hc_X11_vote (fe_X11_vote (pc := 24) rfl) (gI_gf ev2) ?_
    by_cases c3 : v2 ≤ l3
    · rw [if_pos c3] at H
      refine ev_bt hc_X11_vote (fe_X11_vote (pc := 27) rfl) rfl c3 ?_
      refine ev_go hc_X11_vote (k := 3) (pc' := 57) (L' := [.ref l0, .int l1, .int l2, .int l3, ci_junk]) (S' := [.long ((l2 : Int32).toInt64), .ref l0]) rfl ?_
      obtain ⟨h4, eh4, H⟩ := Option.bind_eq_some_iff.mp H
      refine ev_call (vs := [.ref l0, .long ((l2 : Int32).toInt64)]) (rest := []) (q := q_X11_tellOne) hc_X11_vote (Or.inr rfl) (fe_X11_vote (pc := 57) rfl) ms_147 rfl rfl (Nat.le_of_ble_eq_true rfl) (kO_recv (K_X11_tellOne eh4)) (E_X11_tellOne eh4 (by omega)) rfl ?_
      show Ev xs N (d + 1) 128 60 [.ref l0, .int l1, .int l2, .int l3, ci_junk] [] h4 nx _
      refine ev_go hc_X11_vote (k := 1) (pc' := 61) (L' := [.ref l0, .int l1, .int l2, .int l3, ci_junk]) (S' := [.int l1]) rfl ?_
      obtain rfl := Option.some.inj H
      exact ev_8 hc_X11_vote (fe_X11_vote (pc := 61) rfl) rfl
    · rw [if_neg c3] at H
      refine ev_bf hc_X11_vote (fe_X11_vote (pc := 27) rfl) rfl c3 ?_
      refine ev_go hc_X11_vote (k := 2) (pc' := 32) (L' := [.ref l0, .int l1, .int l2, .int l3, ci_junk]) (S' := [.int l3, .ref l0]) rfl ?_
      obtain ⟨q5, eq5, H⟩ := Option.bind_eq_some_iff.mp H
      refine ev_call (vs := [.ref l0, .int l3]) (rest := []) (q := q_X11_freedByStriking) hc_X11_vote (Or.inr rfl) (fe_X11_vote (pc := 32) rfl) ms_156 rfl rfl (Nat.le_of_ble_eq_true rfl) (kO_recv (K_X11_freedByStriking eq5)) (E_X11_freedByStriking eq5 (by omega)) rfl ?_
      show Ev xs N (d + 1) 128 35 [.ref l0, .int l1, .int l2, .int l3, ci_junk] [.int q5.1] q5.2 nx _
      refine ev_go hc_X11_vote (k := 3) (pc' := 40) (L' := [.ref l0, .int l1, .int l2, .int l3, .int q5.1]) (S' := [.int l2, .int q5.1]) rfl ?_
      by_cases c6 : q5.1 ≤ l2
      · rw [if_pos c6] at H
        refine ev_bt hc_X11_vote (fe_X11_vote (pc := 40) rfl) rfl c6 ?_
        exact Ev.weak (ci_le_c (Or.inr rfl) (ci_le_c (Or.inr rfl) (ci_le_c (Or.inr rfl) (ci_le_c (Or.inr rfl) (ci_le_c (Or.inl rfl) (ci_le_n)))))) (eb_X11_vote_48 hd ih H)
      · rw [if_neg c6] at H
        refine ev_bf hc_X11_vote (fe_X11_vote (pc := 40) rfl) rfl c6 ?_
        refine ev_go hc_X11_vote (k := 4) (pc' := 48) (L' := [.ref l0, .int l3, .int q5.1, .int l3, .int q5.1]) (S' := []) rfl ?_
        exact Ev.weak (ci_le_c (Or.inr rfl) (ci_le_c (Or.inr rfl) (ci_le_c (Or.inr rfl) (ci_le_c (Or.inr rfl) (ci_le_c (Or.inl rfl) (ci_le_n)))))) (eb_X11_vote_48 hd ih H)
def F_X11_vote (a0 : Nat) (h : ci_H) : Option (Int32 × ci_H) := if kO h a0 = some 11 then ((gR h a0 11 0).bind fun v1 => (gI h v1 10 7).bind fun v2 => if v2 = 0 then (some ((-2), h)) else (b_X11_vote_19 a0 bigN 0 ((-1)) 0 h)) else none
theorem K_X11_vote {a0 : Nat} {h : ci_H} {r : Int32 × ci_H} (H : F_X11_vote a0 h = some r) : kO h a0 = some 11 := by
  unfold F_X11_vote at H
  by_cases c : kO h a0 = some 11
  · exact c
  · rw [if_neg c] at H; cases H
set_option maxHeartbeats 4000000 in
set_option maxRecDepth 20000 in
theorem E_X11_vote {xs : Nat → Int32} {N d : Nat} {nx : ci_N} {a0 : Nat} {h : ci_H} {r : Int32 × ci_H} (H : F_X11_vote a0 h = some r) (hd : 3 ≤ d) : Ev xs N d 128 0 (ci_entry [.ref a0] 5) [] h nx (oI r nx) := by
  obtain ⟨d, rfl⟩ : ∃ d2, d = d2 + 1 := ⟨d - 1, by omega⟩
  have hd : 2 ≤ d := by omega
  unfold F_X11_vote at H
  by_cases ck : kO h a0 = some 11
  · rw [if_pos ck] at H
    show Ev xs N (d + 1) 128 0 [.ref a0, ci_junk, ci_junk, ci_junk, ci_junk] [] h nx _
    refine ev_go hc_X11_vote (k := 1) (pc' := 1) (L' := [.ref a0, ci_junk, ci_junk, ci_junk, ci_junk]) (S' := [.ref a0]) rfl ?_
    obtain ⟨v1, ev1, H⟩ := Option.bind_eq_some_iff.mp H
    refine ev_4 hc_X11_vote (fe_X11_vote (pc := 1) rfl) (gR_gf ev1) ?_
    obtain ⟨v2, ev2, H⟩ := Option.bind_eq_some_iff.mp H
    refine ev_4 hc_X11_vote (fe_X11_vote (pc := 4) rfl) (gI_gf ev2) ?_
    by_cases c3 : v2 = 0
    · rw [if_pos c3] at H
      refine ev_bt hc_X11_vote (fe_X11_vote (pc := 7) rfl) rfl c3 ?_
      refine ev_go hc_X11_vote (k := 1) (pc' := 12) (L' := [.ref a0, ci_junk, ci_junk, ci_junk, ci_junk]) (S' := [.int ((-2))]) rfl ?_
      obtain rfl := Option.some.inj H
      exact ev_8 hc_X11_vote (fe_X11_vote (pc := 12) rfl) rfl
    · rw [if_neg c3] at H
      refine ev_bf hc_X11_vote (fe_X11_vote (pc := 7) rfl) rfl c3 ?_
      refine ev_go hc_X11_vote (k := 6) (pc' := 19) (L' := [.ref a0, .int 0, .int ((-1)), .int 0, ci_junk]) (S' := []) rfl ?_
      exact Ev.weak (ci_le_c (Or.inr rfl) (ci_le_c (Or.inr rfl) (ci_le_c (Or.inr rfl) (ci_le_c (Or.inr rfl) (ci_le_c (Or.inl rfl) (ci_le_n)))))) (eb_X11_vote_19 hd bigN _ _ _ _ _ H)
  · rw [if_neg ck] at H; cases H
theorem hc_X11_pays : ci_code (ci_Ms 129) = k_X11_pays := rfl
theorem fe_X11_pays {pc : Nat} {w : Option ci_I} (h : (k_X11_pays)[pc]? = some w) : (k_X11_pays)[pc]? = some w := h
def F_X11_pays (a0 : Nat) (a1 : Int32) (a2 : Int32) (a3 : Int32) (h : ci_H) : Option (Int32 × ci_H) := if kO h a0 = some 11 then (if a1 < 1 then (some ((-1), h)) else (if 50 < a1 then (some ((-1), h)) else (if a2 < 1 then (some ((-1), h)) else (if 50 < a2 then (some ((-1), h)) else (if a3 < 1 then (some ((-1), h)) else (if a3 ≤ 99 then ((gR h a0 11 17).bind fun v7 => (F_X3_payable v7 a1 a2 a3 h).bind fun q8 => (gR q8.2 a0 11 17).bind fun v9 => (F_X3_leastMissing v9 a3 q8.2).bind fun q10 => (F_X11_tellOne a0 ((q10.1 : Int32).toInt64) q10.2).bind fun h11 => some (q8.1, h11)) else (some ((-1), h)))))))) else none
theorem K_X11_pays {a0 : Nat} {a1 : Int32} {a2 : Int32} {a3 : Int32} {h : ci_H} {r : Int32 × ci_H} (H : F_X11_pays a0 a1 a2 a3 h = some r) : kO h a0 = some 11 := by
  unfold F_X11_pays at H
  by_cases c : kO h a0 = some 11
  · exact c
  · rw [if_neg c] at H; cases H
set_option maxHeartbeats 4000000 in
set_option maxRecDepth 20000 in
theorem E_X11_pays {xs : Nat → Int32} {N d : Nat} {nx : ci_N} {a0 : Nat} {a1 : Int32} {a2 : Int32} {a3 : Int32} {h : ci_H} {r : Int32 × ci_H} (H : F_X11_pays a0 a1 a2 a3 h = some r) (hd : 2 ≤ d) : Ev xs N d 129 0 (ci_entry [.ref a0, .int a1, .int a2, .int a3] 5) [] h nx (oI r nx) := by
  obtain ⟨d, rfl⟩ : ∃ d2, d = d2 + 1 := ⟨d - 1, by omega⟩
  have hd : 1 ≤ d := by omega
  unfold F_X11_pays at H
  by_cases ck : kO h a0 = some 11
  · rw [if_pos ck] at H
    show Ev xs N (d + 1) 129 0 [.ref a0, .int a1, .int a2, .int a3, ci_junk] [] h nx _
    refine ev_go hc_X11_pays (k := 2) (pc' := 2) (L' := [.ref a0, .int a1, .int a2, .int a3, ci_junk]) (S' := [.int 1, .int a1]) rfl ?_
    by_cases c1 : a1 < 1
    · rw [if_pos c1] at H
      refine ev_bt hc_X11_pays (fe_X11_pays (pc := 2) rfl) rfl c1 ?_
      refine ev_go hc_X11_pays (k := 1) (pc' := 34) (L' := [.ref a0, .int a1, .int a2, .int a3, ci_junk]) (S' := [.int ((-1))]) rfl ?_
      obtain rfl := Option.some.inj H
      exact ev_8 hc_X11_pays (fe_X11_pays (pc := 34) rfl) rfl
    · rw [if_neg c1] at H
      refine ev_bf hc_X11_pays (fe_X11_pays (pc := 2) rfl) rfl c1 ?_
      refine ev_go hc_X11_pays (k := 2) (pc' := 8) (L' := [.ref a0, .int a1, .int a2, .int a3, ci_junk]) (S' := [.int 50, .int a1]) rfl ?_
      by_cases c2 : 50 < a1
      · rw [if_pos c2] at H
        refine ev_bt hc_X11_pays (fe_X11_pays (pc := 8) rfl) rfl c2 ?_
        refine ev_go hc_X11_pays (k := 1) (pc' := 34) (L' := [.ref a0, .int a1, .int a2, .int a3, ci_junk]) (S' := [.int ((-1))]) rfl ?_
        obtain rfl := Option.some.inj H
        exact ev_8 hc_X11_pays (fe_X11_pays (pc := 34) rfl) rfl
      · rw [if_neg c2] at H
        refine ev_bf hc_X11_pays (fe_X11_pays (pc := 8) rfl) rfl c2 ?_
        refine ev_go hc_X11_pays (k := 2) (pc' := 13) (L' := [.ref a0, .int a1, .int a2, .int a3, ci_junk]) (S' := [.int 1, .int a2]) rfl ?_
        by_cases c3 : a2 < 1
        · rw [if_pos c3] at H
          refine ev_bt hc_X11_pays (fe_X11_pays (pc := 13) rfl) rfl c3 ?_
          refine ev_go hc_X11_pays (k := 1) (pc' := 34) (L' := [.ref a0, .int a1, .int a2, .int a3, ci_junk]) (S' := [.int ((-1))]) rfl ?_
          obtain rfl := Option.some.inj H
          exact ev_8 hc_X11_pays (fe_X11_pays (pc := 34) rfl) rfl
        · rw [if_neg c3] at H
          refine ev_bf hc_X11_pays (fe_X11_pays (pc := 13) rfl) rfl c3 ?_
          refine ev_go hc_X11_pays (k := 2) (pc' := 19) (L' := [.ref a0, .int a1, .int a2, .int a3, ci_junk]) (S' := [.int 50, .int a2]) rfl ?_
          by_cases c4 : 50 < a2
          · rw [if_pos c4] at H
            refine ev_bt hc_X11_pays (fe_X11_pays (pc := 19) rfl) rfl c4 ?_
            refine ev_go hc_X11_pays (k := 1) (pc' := 34) (L' := [.ref a0, .int a1, .int a2, .int a3, ci_junk]) (S' := [.int ((-1))]) rfl ?_
            obtain rfl := Option.some.inj H
            exact ev_8 hc_X11_pays (fe_X11_pays (pc := 34) rfl) rfl
          · rw [if_neg c4] at H
            refine ev_bf hc_X11_pays (fe_X11_pays (pc := 19) rfl) rfl c4 ?_
            refine ev_go hc_X11_pays (k := 2) (pc' := 24) (L' := [.ref a0, .int a1, .int a2, .int a3, ci_junk]) (S' := [.int 1, .int a3]) rfl ?_
            by_cases c5 : a3 < 1
            · rw [if_pos c5] at H
              refine ev_bt hc_X11_pays (fe_X11_pays (pc := 24) rfl) rfl c5 ?_
              refine ev_go hc_X11_pays (k := 1) (pc' := 34) (L' := [.ref a0, .int a1, .int a2, .int a3, ci_junk]) (S' := [.int ((-1))]) rfl ?_
              obtain rfl := Option.some.inj H
              exact ev_8 hc_X11_pays (fe_X11_pays (pc := 34) rfl) rfl
            · rw [if_neg c5] at H
              refine ev_bf hc_X11_pays (fe_X11_pays (pc := 24) rfl) rfl c5 ?_
              refine ev_go hc_X11_pays (k := 2) (pc' := 30) (L' := [.ref a0, .int a1, .int a2, .int a3, ci_junk]) (S' := [.int 99, .int a3]) rfl ?_
              by_cases c6 : a3 ≤ 99
              · rw [if_pos c6] at H
                refine ev_bt hc_X11_pays (fe_X11_pays (pc := 30) rfl) rfl c6 ?_
                refine ev_go hc_X11_pays (k := 1) (pc' := 36) (L' := [.ref a0, .int a1, .int a2, .int a3, ci_junk]) (S' := [.ref a0]) rfl ?_
                obtain ⟨v7, ev7, H⟩ := Option.bind_eq_some_iff.mp H
                refine ev_4 hc_X11_pays (fe_X11_pays (pc := 36) rfl) (gR_gf ev7) ?_
                refine ev_go hc_X11_pays (k := 3) (pc' := 42) (L' := [.ref a0, .int a1, .int a2, .int a3, ci_junk]) (S' := [.int a3, .int a2, .int a1, .ref v7]) rfl ?_
                obtain ⟨q8, eq8, H⟩ := Option.bind_eq_some_iff.mp H
                refine ev_call (vs := [.ref v7, .int a1, .int a2, .int a3]) (rest := []) (q := q_X3_payable) hc_X11_pays (Or.inr rfl) (fe_X11_pays (pc := 42) rfl) ms_16 rfl rfl (Nat.le_of_ble_eq_true rfl) (kO_recv (K_X3_payable eq8)) (E_X3_payable eq8 (by omega)) rfl ?_
                show Ev xs N (d + 1) 129 45 [.ref a0, .int a1, .int a2, .int a3, ci_junk] [.int q8.1] q8.2 nx _
                refine ev_go hc_X11_pays (k := 3) (pc' := 49) (L' := [.ref a0, .int a1, .int a2, .int a3, .int q8.1]) (S' := [.ref a0, .ref a0]) rfl ?_
                obtain ⟨v9, ev9, H⟩ := Option.bind_eq_some_iff.mp H
                refine ev_4 hc_X11_pays (fe_X11_pays (pc := 49) rfl) (gR_gf ev9) ?_
                refine ev_go hc_X11_pays (k := 1) (pc' := 53) (L' := [.ref a0, .int a1, .int a2, .int a3, .int q8.1]) (S' := [.int a3, .ref v9, .ref a0]) rfl ?_
                obtain ⟨q10, eq10, H⟩ := Option.bind_eq_some_iff.mp H
                refine ev_call (vs := [.ref v9, .int a3]) (rest := [.ref a0]) (q := q_X3_leastMissing) hc_X11_pays (Or.inr rfl) (fe_X11_pays (pc := 53) rfl) ms_17 rfl rfl (Nat.le_of_ble_eq_true rfl) (kO_recv (K_X3_leastMissing eq10)) (E_X3_leastMissing eq10 (by omega)) rfl ?_
                show Ev xs N (d + 1) 129 56 [.ref a0, .int a1, .int a2, .int a3, .int q8.1] [.int q10.1, .ref a0] q10.2 nx _
                refine ev_go hc_X11_pays (k := 1) (pc' := 57) (L' := [.ref a0, .int a1, .int a2, .int a3, .int q8.1]) (S' := [.long ((q10.1 : Int32).toInt64), .ref a0]) rfl ?_
                obtain ⟨h11, eh11, H⟩ := Option.bind_eq_some_iff.mp H
                refine ev_call (vs := [.ref a0, .long ((q10.1 : Int32).toInt64)]) (rest := []) (q := q_X11_tellOne) hc_X11_pays (Or.inr rfl) (fe_X11_pays (pc := 57) rfl) ms_147 rfl rfl (Nat.le_of_ble_eq_true rfl) (kO_recv (K_X11_tellOne eh11)) (E_X11_tellOne eh11 (by omega)) rfl ?_
                show Ev xs N (d + 1) 129 60 [.ref a0, .int a1, .int a2, .int a3, .int q8.1] [] h11 nx _
                refine ev_go hc_X11_pays (k := 1) (pc' := 62) (L' := [.ref a0, .int a1, .int a2, .int a3, .int q8.1]) (S' := [.int q8.1]) rfl ?_
                obtain rfl := Option.some.inj H
                exact ev_8 hc_X11_pays (fe_X11_pays (pc := 62) rfl) rfl
              · rw [if_neg c6] at H
                refine ev_bf hc_X11_pays (fe_X11_pays (pc := 30) rfl) rfl c6 ?_
                refine ev_go hc_X11_pays (k := 1) (pc' := 34) (L' := [.ref a0, .int a1, .int a2, .int a3, ci_junk]) (S' := [.int ((-1))]) rfl ?_
                obtain rfl := Option.some.inj H
                exact ev_8 hc_X11_pays (fe_X11_pays (pc := 34) rfl) rfl
  · rw [if_neg ck] at H; cases H
theorem hc_X11_coins : ci_code (ci_Ms 130) = k_X11_coins := rfl
theorem fe_X11_coins {pc : Nat} {w : Option ci_I} (h : (k_X11_coins)[pc]? = some w) : (k_X11_coins)[pc]? = some w := h
def b_X11_coins_66 (r_17 : Int32 → Int32 → ci_H → Option (Int32 × ci_H)) (r_28 : Int32 → Int32 → ci_H → Option (Int32 × ci_H)) (l0 : Nat) (l1 : Int32) (l2 : Int32) (l3 : Int32) (l4 : Int32)  (h : ci_H) : Option (Int32 × ci_H) := r_28 l2 (l4 + 1) h
set_option maxHeartbeats 4000000 in
set_option maxRecDepth 20000 in
theorem eb_X11_coins_66 {xs : Nat → Int32} {N d : Nat} {nx : ci_N} {r_17 : Int32 → Int32 → ci_H → Option (Int32 × ci_H)} {r_28 : Int32 → Int32 → ci_H → Option (Int32 × ci_H)} {l0 : Nat} {l1 : Int32} {l2 : Int32} {l3 : Int32} {l4 : Int32} (hd : 1 ≤ d) (h_17 : ∀ (l2 : Int32) (l3 : Int32) (h : ci_H) (r : Int32 × ci_H), r_17 l2 l3 h = some r → Ev xs N (d + 1) 130 17 [.ref l0, .int l1, .int l2, .int l3, ci_junk, ci_junk] [] h nx (oI r nx)) (h_28 : ∀ (l2 : Int32) (l4 : Int32) (h : ci_H) (r : Int32 × ci_H), r_28 l2 l4 h = some r → Ev xs N (d + 1) 130 28 [.ref l0, .int l1, .int l2, .int l3, .int l4, ci_junk] [] h nx (oI r nx)) {h : ci_H} {r : Int32 × ci_H} (H : b_X11_coins_66 r_17 r_28 l0 l1 l2 l3 l4 h = some r) : Ev xs N (d + 1) 130 66 [.ref l0, .int l1, .int l2, .int l3, .int l4, ci_junk] [] h nx (oI r nx) := by
  unfold b_X11_coins_66 at H
  refine ev_go hc_X11_coins (k := 2) (pc' := 28) (L' := [.ref l0, .int l1, .int l2, .int l3, .int (l4 + 1), ci_junk]) (S' := []) rfl ?_
  exact Ev.weak (ci_le_c (Or.inr rfl) (ci_le_c (Or.inr rfl) (ci_le_c (Or.inr rfl) (ci_le_c (Or.inr rfl) (ci_le_c (Or.inr rfl) (ci_le_c (Or.inl rfl) (ci_le_n))))))) (h_28 _ _ _ _ H)
def b_X11_coins_28 (r_17 : Int32 → Int32 → ci_H → Option (Int32 × ci_H)) (l0 : Nat) (l1 : Int32) (l3 : Int32) : Nat → Int32 → Int32 → ci_H → Option (Int32 × ci_H)
  | 0, _, _, _ => none
  | n + 1, l2, l4, h => if 30 < l4 then (if l2 < (if 12 < l1 then 12 else l1) then (r_17 l2 (l3 + 1) h) else (some (l2, h))) else ((gR h l0 11 17).bind fun v3 => (F_X3_payable v3 l3 l4 l1 h).bind fun q4 => if q4.1 ≤ l2 then (b_X11_coins_66 r_17 (fun x0 x1 x2 => b_X11_coins_28 r_17 l0 l1 l3 n x0 x1 x2) l0 l1 l2 l3 l4 q4.2) else ((F_X11_tellTwo l0 ((l3 : Int32).toInt64) ((l4 : Int32).toInt64) q4.2).bind fun h6 => b_X11_coins_66 r_17 (fun x0 x1 x2 => b_X11_coins_28 r_17 l0 l1 l3 n x0 x1 x2) l0 l1 q4.1 l3 l4 h6))
set_option maxHeartbeats 4000000 in
set_option maxRecDepth 20000 in
theorem eb_X11_coins_28 {xs : Nat → Int32} {N d : Nat} {nx : ci_N} {r_17 : Int32 → Int32 → ci_H → Option (Int32 × ci_H)} {l0 : Nat} {l1 : Int32} {l3 : Int32} (hd : 1 ≤ d) (h_17 : ∀ (l2 : Int32) (l3 : Int32) (h : ci_H) (r : Int32 × ci_H), r_17 l2 l3 h = some r → Ev xs N (d + 1) 130 17 [.ref l0, .int l1, .int l2, .int l3, ci_junk, ci_junk] [] h nx (oI r nx)) : ∀ (n : Nat) (l2 : Int32) (l4 : Int32) (h : ci_H) (r : Int32 × ci_H), b_X11_coins_28 r_17 l0 l1 l3 n l2 l4 h = some r → Ev xs N (d + 1) 130 28 [.ref l0, .int l1, .int l2, .int l3, .int l4, ci_junk] [] h nx (oI r nx) := by
  intro n
  induction n with
  | zero => intro l2 l4 h r H; unfold b_X11_coins_28 at H; cases H
  | succ n ih =>
    intro l2 l4 h r H
    unfold b_X11_coins_28 at H
    refine ev_go hc_X11_coins (k := 2) (pc' := 32) (L' := [.ref l0, .int l1, .int l2, .int l3, .int l4, ci_junk]) (S' := [.int 30, .int l4]) rfl ?_
    by_cases c1 : 30 < l4
    · rw [if_pos c1] at H
      refine ev_bt hc_X11_coins (fe_X11_coins (pc := 32) rfl) rfl c1 ?_
      refine ev_go hc_X11_coins (k := 3) (pc' := 76) (L' := [.ref l0, .int l1, .int l2, .int l3, .int l4, ci_junk]) (S' := [.int 12, .int l1, .int l2]) rfl ?_
      refine ev_15 hc_X11_coins (fe_X11_coins (pc := 76) rfl) (S' := [.int (if 12 < l1 then 12 else l1), .int l2]) rfl ?_
      by_cases c2 : l2 < (if 12 < l1 then 12 else l1)
      · rw [if_pos c2] at H
        refine ev_bt hc_X11_coins (fe_X11_coins (pc := 79) rfl) rfl c2 ?_
        refine ev_go hc_X11_coins (k := 2) (pc' := 17) (L' := [.ref l0, .int l1, .int l2, .int (l3 + 1), .int l4, ci_junk]) (S' := []) rfl ?_
        exact Ev.weak (ci_le_c (Or.inr rfl) (ci_le_c (Or.inr rfl) (ci_le_c (Or.inr rfl) (ci_le_c (Or.inr rfl) (ci_le_c (Or.inl rfl) (ci_le_c (Or.inl rfl) (ci_le_n))))))) (h_17 _ _ _ _ H)
      · rw [if_neg c2] at H
        refine ev_bf hc_X11_coins (fe_X11_coins (pc := 79) rfl) rfl c2 ?_
        refine ev_go hc_X11_coins (k := 2) (pc' := 92) (L' := [.ref l0, .int l1, .int l2, .int l3, .int l4, ci_junk]) (S' := [.int l2]) rfl ?_
        obtain rfl := Option.some.inj H
        exact ev_8 hc_X11_coins (fe_X11_coins (pc := 92) rfl) rfl
    · rw [if_neg c1] at H
      refine ev_bf hc_X11_coins (fe_X11_coins (pc := 32) rfl) rfl c1 ?_
      refine ev_go hc_X11_coins (k := 1) (pc' := 36) (L' := [.ref l0, .int l1, .int l2, .int l3, .int l4, ci_junk]) (S' := [.ref l0]) rfl ?_
      obtain ⟨v3, ev3, H⟩ := Option.bind_eq_some_iff.mp H
      refine ev_4 hc_X11_coins (fe_X11_coins (pc := 36) rfl) (gR_gf ev3) ?_
      refine ev_go hc_X11_coins (k := 3) (pc' := 43) (L' := [.ref l0, .int l1, .int l2, .int l3, .int l4, ci_junk]) (S' := [.int l1, .int l4, .int l3, .ref v3]) rfl ?_
      obtain ⟨q4, eq4, H⟩ := Option.bind_eq_some_iff.mp H
      refine ev_call (vs := [.ref v3, .int l3, .int l4, .int l1]) (rest := []) (q := q_X3_payable) hc_X11_coins (Or.inr rfl) (fe_X11_coins (pc := 43) rfl) ms_16 rfl rfl (Nat.le_of_ble_eq_true rfl) (kO_recv (K_X3_payable eq4)) (E_X3_payable eq4 (by omega)) rfl ?_
      show Ev xs N (d + 1) 130 46 [.ref l0, .int l1, .int l2, .int l3, .int l4, ci_junk] [.int q4.1] q4.2 nx _
      refine ev_go hc_X11_coins (k := 3) (pc' := 51) (L' := [.ref l0, .int l1, .int l2, .int l3, .int l4, .int q4.1]) (S' := [.int l2, .int q4.1]) rfl ?_
      by_cases c5 : q4.1 ≤ l2
      · rw [if_pos c5] at H
        refine ev_bt hc_X11_coins (fe_X11_coins (pc := 51) rfl) rfl c5 ?_
        exact Ev.weak (ci_le_c (Or.inr rfl) (ci_le_c (Or.inr rfl) (ci_le_c (Or.inr rfl) (ci_le_c (Or.inr rfl) (ci_le_c (Or.inr rfl) (ci_le_c (Or.inl rfl) (ci_le_n))))))) (eb_X11_coins_66 hd h_17 ih H)
      · rw [if_neg c5] at H
        refine ev_bf hc_X11_coins (fe_X11_coins (pc := 51) rfl) rfl c5 ?_
        refine ev_go hc_X11_coins (k := 7) (pc' := 63) (L' := [.ref l0, .int l1, .int q4.1, .int l3, .int l4, .int q4.1]) (S' := [.long ((l4 : Int32).toInt64), .long ((l3 : Int32).toInt64), .ref l0]) rfl ?_
        obtain ⟨h6, eh6, H⟩ := Option.bind_eq_some_iff.mp H
        refine ev_call (vs := [.ref l0, .long ((l3 : Int32).toInt64), .long ((l4 : Int32).toInt64)]) (rest := []) (q := q_X11_tellTwo) hc_X11_coins (Or.inr rfl) (fe_X11_coins (pc := 63) rfl) ms_148 rfl rfl (Nat.le_of_ble_eq_true rfl) (kO_recv (K_X11_tellTwo eh6)) (E_X11_tellTwo eh6 (by omega)) rfl ?_
        show Ev xs N (d + 1) 130 66 [.ref l0, .int l1, .int q4.1, .int l3, .int l4, .int q4.1] [] h6 nx _
        exact Ev.weak (ci_le_c (Or.inr rfl) (ci_le_c (Or.inr rfl) (ci_le_c (Or.inr rfl) (ci_le_c (Or.inr rfl) (ci_le_c (Or.inr rfl) (ci_le_c (Or.inl rfl) (ci_le_n))))))) (eb_X11_coins_66 hd h_17 ih H)
def b_X11_coins_17 (l0 : Nat) (l1 : Int32) : Nat → Int32 → Int32 → ci_H → Option (Int32 × ci_H)
  | 0, _, _, _ => none
  | n + 1, l2, l3, h => if 30 ≤ l3 then (some (l2, h)) else (b_X11_coins_28 (fun x0 x1 x2 => b_X11_coins_17 l0 l1 n x0 x1 x2) l0 l1 l3 bigN l2 (l3 + 1) h)
set_option maxHeartbeats 4000000 in
set_option maxRecDepth 20000 in
theorem eb_X11_coins_17 {xs : Nat → Int32} {N d : Nat} {nx : ci_N} {l0 : Nat} {l1 : Int32} (hd : 1 ≤ d) : ∀ (n : Nat) (l2 : Int32) (l3 : Int32) (h : ci_H) (r : Int32 × ci_H), b_X11_coins_17 l0 l1 n l2 l3 h = some r → Ev xs N (d + 1) 130 17 [.ref l0, .int l1, .int l2, .int l3, ci_junk, ci_junk] [] h nx (oI r nx) := by
  intro n
  induction n with
  | zero => intro l2 l3 h r H; unfold b_X11_coins_17 at H; cases H
  | succ n ih =>
    intro l2 l3 h r H
    unfold b_X11_coins_17 at H
    refine ev_go hc_X11_coins (k := 2) (pc' := 20) (L' := [.ref l0, .int l1, .int l2, .int l3, ci_junk, ci_junk]) (S' := [.int 30, .int l3]) rfl ?_
    by_cases c1 : 30 ≤ l3
    · rw [if_pos c1] at H
      refine ev_bt hc_X11_coins (fe_X11_coins (pc := 20) rfl) rfl c1 ?_
      refine ev_go hc_X11_coins (k := 1) (pc' := 92) (L' := [.ref l0, .int l1, .int l2, .int l3, ci_junk, ci_junk]) (S' := [.int l2]) rfl ?_
      obtain rfl := Option.some.inj H
      exact ev_8 hc_X11_coins (fe_X11_coins (pc := 92) rfl) rfl
    · rw [if_neg c1] at H
      refine ev_bf hc_X11_coins (fe_X11_coins (pc := 20) rfl) rfl c1 ?_
      refine ev_go hc_X11_coins (k := 4) (pc' := 28) (L' := [.ref l0, .int l1, .int l2, .int l3, .int (l3 + 1), ci_junk]) (S' := []) rfl ?_
      exact Ev.weak (ci_le_c (Or.inr rfl) (ci_le_c (Or.inr rfl) (ci_le_c (Or.inr rfl) (ci_le_c (Or.inr rfl) (ci_le_c (Or.inr rfl) (ci_le_c (Or.inl rfl) (ci_le_n))))))) (eb_X11_coins_28 hd ih bigN _ _ _ _ H)
def F_X11_coins (a0 : Nat) (a1 : Int32) (h : ci_H) : Option (Int32 × ci_H) := if kO h a0 = some 11 then (if a1 < 1 then (some ((-1), h)) else (if a1 ≤ 99 then (b_X11_coins_17 a0 a1 bigN ((-1)) 1 h) else (some ((-1), h)))) else none
theorem K_X11_coins {a0 : Nat} {a1 : Int32} {h : ci_H} {r : Int32 × ci_H} (H : F_X11_coins a0 a1 h = some r) : kO h a0 = some 11 := by
  unfold F_X11_coins at H
  by_cases c : kO h a0 = some 11
  · exact c
  · rw [if_neg c] at H; cases H
set_option maxHeartbeats 4000000 in
set_option maxRecDepth 20000 in
theorem E_X11_coins {xs : Nat → Int32} {N d : Nat} {nx : ci_N} {a0 : Nat} {a1 : Int32} {h : ci_H} {r : Int32 × ci_H} (H : F_X11_coins a0 a1 h = some r) (hd : 2 ≤ d) : Ev xs N d 130 0 (ci_entry [.ref a0, .int a1] 6) [] h nx (oI r nx) := by
  obtain ⟨d, rfl⟩ : ∃ d2, d = d2 + 1 := ⟨d - 1, by omega⟩
  have hd : 1 ≤ d := by omega
  unfold F_X11_coins at H
  by_cases ck : kO h a0 = some 11
  · rw [if_pos ck] at H
    show Ev xs N (d + 1) 130 0 [.ref a0, .int a1, ci_junk, ci_junk, ci_junk, ci_junk] [] h nx _
    refine ev_go hc_X11_coins (k := 2) (pc' := 2) (L' := [.ref a0, .int a1, ci_junk, ci_junk, ci_junk, ci_junk]) (S' := [.int 1, .int a1]) rfl ?_
    by_cases c1 : a1 < 1
    · rw [if_pos c1] at H
      refine ev_bt hc_X11_coins (fe_X11_coins (pc := 2) rfl) rfl c1 ?_
      refine ev_go hc_X11_coins (k := 1) (pc' := 12) (L' := [.ref a0, .int a1, ci_junk, ci_junk, ci_junk, ci_junk]) (S' := [.int ((-1))]) rfl ?_
      obtain rfl := Option.some.inj H
      exact ev_8 hc_X11_coins (fe_X11_coins (pc := 12) rfl) rfl
    · rw [if_neg c1] at H
      refine ev_bf hc_X11_coins (fe_X11_coins (pc := 2) rfl) rfl c1 ?_
      refine ev_go hc_X11_coins (k := 2) (pc' := 8) (L' := [.ref a0, .int a1, ci_junk, ci_junk, ci_junk, ci_junk]) (S' := [.int 99, .int a1]) rfl ?_
      by_cases c2 : a1 ≤ 99
      · rw [if_pos c2] at H
        refine ev_bt hc_X11_coins (fe_X11_coins (pc := 8) rfl) rfl c2 ?_
        refine ev_go hc_X11_coins (k := 4) (pc' := 17) (L' := [.ref a0, .int a1, .int ((-1)), .int 1, ci_junk, ci_junk]) (S' := []) rfl ?_
        exact Ev.weak (ci_le_c (Or.inr rfl) (ci_le_c (Or.inr rfl) (ci_le_c (Or.inr rfl) (ci_le_c (Or.inr rfl) (ci_le_c (Or.inl rfl) (ci_le_c (Or.inl rfl) (ci_le_n))))))) (eb_X11_coins_17 hd bigN _ _ _ _ H)
      · rw [if_neg c2] at H
        refine ev_bf hc_X11_coins (fe_X11_coins (pc := 8) rfl) rfl c2 ?_
        refine ev_go hc_X11_coins (k := 1) (pc' := 12) (L' := [.ref a0, .int a1, ci_junk, ci_junk, ci_junk, ci_junk]) (S' := [.int ((-1))]) rfl ?_
        obtain rfl := Option.some.inj H
        exact ev_8 hc_X11_coins (fe_X11_coins (pc := 12) rfl) rfl
  · rw [if_neg ck] at H; cases H
theorem hc_X11_had : ci_code (ci_Ms 131) = k_X11_had := rfl
theorem fe_X11_had {pc : Nat} {w : Option ci_I} (h : (k_X11_had)[pc]? = some w) : (k_X11_had)[pc]? = some w := h
def b_X11_had_100 (r_44 : Int32 → Int32 → Int32 → Int32 → ci_H → Option (Int32 × ci_H)) (l0 : Nat) (l2 : Int32) (l3 : Int32) (l4 : Int32) (l5 : Int32) (l6 : Int32) (l7 : Int32)  (h : ci_H) : Option (Int32 × ci_H) := r_44 l4 l5 l6 (l7 + 1) h
set_option maxHeartbeats 4000000 in
set_option maxRecDepth 20000 in
theorem eb_X11_had_100 {xs : Nat → Int32} {N d : Nat} {nx : ci_N} {r_44 : Int32 → Int32 → Int32 → Int32 → ci_H → Option (Int32 × ci_H)} {l0 : Nat} {l2 : Int32} {l3 : Int32} {l4 : Int32} {l5 : Int32} {l6 : Int32} {l7 : Int32} (hd : 1 ≤ d) (h_44 : ∀ (l4 : Int32) (l5 : Int32) (l6 : Int32) (l7 : Int32) (h : ci_H) (r : Int32 × ci_H), r_44 l4 l5 l6 l7 h = some r → Ev xs N (d + 1) 131 44 [.ref l0, ci_junk, .int l2, .int l3, .int l4, .int l5, .int l6, .int l7] [] h nx (oI r nx)) {h : ci_H} {r : Int32 × ci_H} (H : b_X11_had_100 r_44 l0 l2 l3 l4 l5 l6 l7 h = some r) : Ev xs N (d + 1) 131 100 [.ref l0, ci_junk, .int l2, .int l3, .int l4, .int l5, .int l6, .int l7] [] h nx (oI r nx) := by
  unfold b_X11_had_100 at H
  refine ev_go hc_X11_had (k := 2) (pc' := 44) (L' := [.ref l0, ci_junk, .int l2, .int l3, .int l4, .int l5, .int l6, .int (l7 + 1)]) (S' := []) rfl ?_
  exact Ev.weak (ci_le_c (Or.inr rfl) (ci_le_c (Or.inl rfl) (ci_le_c (Or.inr rfl) (ci_le_c (Or.inr rfl) (ci_le_c (Or.inr rfl) (ci_le_c (Or.inr rfl) (ci_le_c (Or.inr rfl) (ci_le_c (Or.inr rfl) (ci_le_n))))))))) (h_44 _ _ _ _ _ _ H)
def b_X11_had_97 (r_44 : Int32 → Int32 → Int32 → Int32 → ci_H → Option (Int32 × ci_H)) (l0 : Nat) (l2 : Int32) (l3 : Int32) (l4 : Int32) (l5 : Int32) (l7 : Int32) (s0 : Int32) (s1 : Int32)  (h : ci_H) : Option (Int32 × ci_H) := b_X11_had_100 r_44 l0 l2 l3 l4 l5 (s0 + s1) l7 h
set_option maxHeartbeats 4000000 in
set_option maxRecDepth 20000 in
theorem eb_X11_had_97 {xs : Nat → Int32} {N d : Nat} {nx : ci_N} {r_44 : Int32 → Int32 → Int32 → Int32 → ci_H → Option (Int32 × ci_H)} {l0 : Nat} {l2 : Int32} {l3 : Int32} {l4 : Int32} {l5 : Int32} {l7 : Int32} {s0 : Int32} {s1 : Int32} (hd : 1 ≤ d) (h_44 : ∀ (l4 : Int32) (l5 : Int32) (l6 : Int32) (l7 : Int32) (h : ci_H) (r : Int32 × ci_H), r_44 l4 l5 l6 l7 h = some r → Ev xs N (d + 1) 131 44 [.ref l0, ci_junk, .int l2, .int l3, .int l4, .int l5, .int l6, .int l7] [] h nx (oI r nx)) {h : ci_H} {r : Int32 × ci_H} (H : b_X11_had_97 r_44 l0 l2 l3 l4 l5 l7 s0 s1 h = some r) : Ev xs N (d + 1) 131 97 [.ref l0, ci_junk, .int l2, .int l3, .int l4, .int l5, ci_junk, .int l7] [.int s1, .int s0] h nx (oI r nx) := by
  unfold b_X11_had_97 at H
  refine ev_go hc_X11_had (k := 2) (pc' := 100) (L' := [.ref l0, ci_junk, .int l2, .int l3, .int l4, .int l5, .int (s0 + s1), .int l7]) (S' := []) rfl ?_
  exact Ev.weak (ci_le_c (Or.inr rfl) (ci_le_c (Or.inl rfl) (ci_le_c (Or.inr rfl) (ci_le_c (Or.inr rfl) (ci_le_c (Or.inr rfl) (ci_le_c (Or.inr rfl) (ci_le_c (Or.inr rfl) (ci_le_c (Or.inr rfl) (ci_le_n))))))))) (eb_X11_had_100 hd h_44 H)
def b_X11_had_44 (l0 : Nat) (l2 : Int32) (l3 : Int32) : Nat → Int32 → Int32 → Int32 → Int32 → ci_H → Option (Int32 × ci_H)
  | 0, _, _, _, _, _ => none
  | n + 1, l4, l5, l6, l7, h => if 64 ≤ l7 then ((F_X11_tellTwo l0 ((l5 : Int32).toInt64) ((l6 : Int32).toInt64) h).bind fun h2 => some (l4, h2)) else ((gR h l0 11 0).bind fun v3 => (F_X10_havingAll v3 l7 h).bind fun q4 => (F_J6_bitCount_0f7a4 (q4.1 &&& l3) q4.2).bind fun q5 => if q5.1 = l2 then ((F_X11_fewerTraits l5 l7 q5.2).bind fun q7 => (F_J6_bitCount_0f7a4 l7 q7.2).bind fun q8 => if q8.1 = 1 then (b_X11_had_97 (fun x0 x1 x2 x3 x4 => b_X11_had_44 l0 l2 l3 n x0 x1 x2 x3 x4) l0 l2 l3 (l4 + 1) q7.1 l7 l6 1 q8.2) else (b_X11_had_97 (fun x0 x1 x2 x3 x4 => b_X11_had_44 l0 l2 l3 n x0 x1 x2 x3 x4) l0 l2 l3 (l4 + 1) q7.1 l7 l6 0 q8.2)) else (b_X11_had_100 (fun x0 x1 x2 x3 x4 => b_X11_had_44 l0 l2 l3 n x0 x1 x2 x3 x4) l0 l2 l3 l4 l5 l6 l7 q5.2))
set_option maxHeartbeats 4000000 in
set_option maxRecDepth 20000 in
theorem eb_X11_had_44 {xs : Nat → Int32} {N d : Nat} {nx : ci_N} {l0 : Nat} {l2 : Int32} {l3 : Int32} (hd : 1 ≤ d) : ∀ (n : Nat) (l4 : Int32) (l5 : Int32) (l6 : Int32) (l7 : Int32) (h : ci_H) (r : Int32 × ci_H), b_X11_had_44 l0 l2 l3 n l4 l5 l6 l7 h = some r → Ev xs N (d + 1) 131 44 [.ref l0, ci_junk, .int l2, .int l3, .int l4, .int l5, .int l6, .int l7] [] h nx (oI r nx) := by
  intro n
  induction n with
  | zero => intro l4 l5 l6 l7 h r H; unfold b_X11_had_44 at H; cases H
  | succ n ih =>
    intro l4 l5 l6 l7 h r H
    unfold b_X11_had_44 at H
    refine ev_go hc_X11_had (k := 2) (pc' := 48) (L' := [.ref l0, ci_junk, .int l2, .int l3, .int l4, .int l5, .int l6, .int l7]) (S' := [.int 64, .int l7]) rfl ?_
    by_cases c1 : 64 ≤ l7
    · rw [if_pos c1] at H
      refine ev_bt hc_X11_had (fe_X11_had (pc := 48) rfl) rfl c1 ?_
      refine ev_go hc_X11_had (k := 5) (pc' := 113) (L' := [.ref l0, ci_junk, .int l2, .int l3, .int l4, .int l5, .int l6, .int l7]) (S' := [.long ((l6 : Int32).toInt64), .long ((l5 : Int32).toInt64), .ref l0]) rfl ?_
      obtain ⟨h2, eh2, H⟩ := Option.bind_eq_some_iff.mp H
      refine ev_call (vs := [.ref l0, .long ((l5 : Int32).toInt64), .long ((l6 : Int32).toInt64)]) (rest := []) (q := q_X11_tellTwo) hc_X11_had (Or.inr rfl) (fe_X11_had (pc := 113) rfl) ms_148 rfl rfl (Nat.le_of_ble_eq_true rfl) (kO_recv (K_X11_tellTwo eh2)) (E_X11_tellTwo eh2 (by omega)) rfl ?_
      show Ev xs N (d + 1) 131 116 [.ref l0, ci_junk, .int l2, .int l3, .int l4, .int l5, .int l6, .int l7] [] h2 nx _
      refine ev_go hc_X11_had (k := 1) (pc' := 118) (L' := [.ref l0, ci_junk, .int l2, .int l3, .int l4, .int l5, .int l6, .int l7]) (S' := [.int l4]) rfl ?_
      obtain rfl := Option.some.inj H
      exact ev_8 hc_X11_had (fe_X11_had (pc := 118) rfl) rfl
    · rw [if_neg c1] at H
      refine ev_bf hc_X11_had (fe_X11_had (pc := 48) rfl) rfl c1 ?_
      refine ev_go hc_X11_had (k := 1) (pc' := 52) (L' := [.ref l0, ci_junk, .int l2, .int l3, .int l4, .int l5, .int l6, .int l7]) (S' := [.ref l0]) rfl ?_
      obtain ⟨v3, ev3, H⟩ := Option.bind_eq_some_iff.mp H
      refine ev_4 hc_X11_had (fe_X11_had (pc := 52) rfl) (gR_gf ev3) ?_
      refine ev_go hc_X11_had (k := 1) (pc' := 57) (L' := [.ref l0, ci_junk, .int l2, .int l3, .int l4, .int l5, .int l6, .int l7]) (S' := [.int l7, .ref v3]) rfl ?_
      obtain ⟨q4, eq4, H⟩ := Option.bind_eq_some_iff.mp H
      refine ev_call (vs := [.ref v3, .int l7]) (rest := []) (q := q_X10_havingAll) hc_X11_had (Or.inr rfl) (fe_X11_had (pc := 57) rfl) ms_74 rfl rfl (Nat.le_of_ble_eq_true rfl) (kO_recv (K_X10_havingAll eq4)) (E_X10_havingAll eq4 (by omega)) rfl ?_
      show Ev xs N (d + 1) 131 60 [.ref l0, ci_junk, .int l2, .int l3, .int l4, .int l5, .int l6, .int l7] [.int q4.1] q4.2 nx _
      refine ev_go hc_X11_had (k := 2) (pc' := 62) (L' := [.ref l0, ci_junk, .int l2, .int l3, .int l4, .int l5, .int l6, .int l7]) (S' := [.int (q4.1 &&& l3)]) rfl ?_
      obtain ⟨q5, eq5, H⟩ := Option.bind_eq_some_iff.mp H
      refine ev_call (vs := [.int (q4.1 &&& l3)]) (rest := []) (q := q_J6_bitCount_0f7a4) hc_X11_had (Or.inl rfl) (fe_X11_had (pc := 62) rfl) ms_285 rfl rfl (Nat.le_of_ble_eq_true rfl) rfl (E_J6_bitCount_0f7a4 eq5 (by omega)) rfl ?_
      show Ev xs N (d + 1) 131 65 [.ref l0, ci_junk, .int l2, .int l3, .int l4, .int l5, .int l6, .int l7] [.int q5.1] q5.2 nx _
      refine ev_go hc_X11_had (k := 1) (pc' := 66) (L' := [.ref l0, ci_junk, .int l2, .int l3, .int l4, .int l5, .int l6, .int l7]) (S' := [.int l2, .int q5.1]) rfl ?_
      by_cases c6 : q5.1 = l2
      · rw [if_pos c6] at H
        refine ev_bt hc_X11_had (fe_X11_had (pc := 66) rfl) rfl c6 ?_
        refine ev_go hc_X11_had (k := 3) (pc' := 76) (L' := [.ref l0, ci_junk, .int l2, .int l3, .int (l4 + 1), .int l5, .int l6, .int l7]) (S' := [.int l7, .int l5]) rfl ?_
        obtain ⟨q7, eq7, H⟩ := Option.bind_eq_some_iff.mp H
        refine ev_call (vs := [.int l5, .int l7]) (rest := []) (q := q_X11_fewerTraits) hc_X11_had (Or.inl rfl) (fe_X11_had (pc := 76) rfl) ms_157 rfl rfl (Nat.le_of_ble_eq_true rfl) rfl (E_X11_fewerTraits eq7 (by omega)) rfl ?_
        show Ev xs N (d + 1) 131 79 [.ref l0, ci_junk, .int l2, .int l3, .int (l4 + 1), .int l5, .int l6, .int l7] [.int q7.1] q7.2 nx _
        refine ev_go hc_X11_had (k := 3) (pc' := 85) (L' := [.ref l0, ci_junk, .int l2, .int l3, .int (l4 + 1), .int q7.1, .int l6, .int l7]) (S' := [.int l7, .int l6]) rfl ?_
        obtain ⟨q8, eq8, H⟩ := Option.bind_eq_some_iff.mp H
        refine ev_call (vs := [.int l7]) (rest := [.int l6]) (q := q_J6_bitCount_0f7a4) hc_X11_had (Or.inl rfl) (fe_X11_had (pc := 85) rfl) ms_285 rfl rfl (Nat.le_of_ble_eq_true rfl) rfl (E_J6_bitCount_0f7a4 eq8 (by omega)) rfl ?_
        show Ev xs N (d + 1) 131 88 [.ref l0, ci_junk, .int l2, .int l3, .int (l4 + 1), .int q7.1, .int l6, .int l7] [.int q8.1, .int l6] q8.2 nx _
        refine ev_go hc_X11_had (k := 1) (pc' := 89) (L' := [.ref l0, ci_junk, .int l2, .int l3, .int (l4 + 1), .int q7.1, .int l6, .int l7]) (S' := [.int 1, .int q8.1, .int l6]) rfl ?_
        by_cases c9 : q8.1 = 1
        · rw [if_pos c9] at H
          refine ev_bt hc_X11_had (fe_X11_had (pc := 89) rfl) rfl c9 ?_
          refine ev_go hc_X11_had (k := 2) (pc' := 97) (L' := [.ref l0, ci_junk, .int l2, .int l3, .int (l4 + 1), .int q7.1, .int l6, .int l7]) (S' := [.int 1, .int l6]) rfl ?_
          exact Ev.weak (ci_le_c (Or.inr rfl) (ci_le_c (Or.inl rfl) (ci_le_c (Or.inr rfl) (ci_le_c (Or.inr rfl) (ci_le_c (Or.inr rfl) (ci_le_c (Or.inr rfl) (ci_le_c (Or.inl rfl) (ci_le_c (Or.inr rfl) (ci_le_n))))))))) (eb_X11_had_97 hd ih H)
        · rw [if_neg c9] at H
          refine ev_bf hc_X11_had (fe_X11_had (pc := 89) rfl) rfl c9 ?_
          refine ev_go hc_X11_had (k := 1) (pc' := 97) (L' := [.ref l0, ci_junk, .int l2, .int l3, .int (l4 + 1), .int q7.1, .int l6, .int l7]) (S' := [.int 0, .int l6]) rfl ?_
          exact Ev.weak (ci_le_c (Or.inr rfl) (ci_le_c (Or.inl rfl) (ci_le_c (Or.inr rfl) (ci_le_c (Or.inr rfl) (ci_le_c (Or.inr rfl) (ci_le_c (Or.inr rfl) (ci_le_c (Or.inl rfl) (ci_le_c (Or.inr rfl) (ci_le_n))))))))) (eb_X11_had_97 hd ih H)
      · rw [if_neg c6] at H
        refine ev_bf hc_X11_had (fe_X11_had (pc := 66) rfl) rfl c6 ?_
        exact Ev.weak (ci_le_c (Or.inr rfl) (ci_le_c (Or.inl rfl) (ci_le_c (Or.inr rfl) (ci_le_c (Or.inr rfl) (ci_le_c (Or.inr rfl) (ci_le_c (Or.inr rfl) (ci_le_c (Or.inr rfl) (ci_le_c (Or.inr rfl) (ci_le_n))))))))) (eb_X11_had_100 hd ih H)
def F_X11_had (a0 : Nat) (a1 : Int32) (a2 : Int32) (h : ci_H) : Option (Int32 × ci_H) := if kO h a0 = some 11 then ((gR h a0 11 0).bind fun v1 => (F_X10_hasHouse v1 a1 h).bind fun q2 => if q2.1 = 0 then (some ((-1), q2.2)) else (if a2 < 0 then (some ((-1), q2.2)) else (if a2 ≤ 12 then ((gR q2.2 a0 11 0).bind fun v6 => (F_X10_keptBy v6 a1 q2.2).bind fun q7 => b_X11_had_44 a0 a2 q7.1 bigN 0 ((-1)) 0 0 q7.2) else (some ((-1), q2.2))))) else none
theorem K_X11_had {a0 : Nat} {a1 : Int32} {a2 : Int32} {h : ci_H} {r : Int32 × ci_H} (H : F_X11_had a0 a1 a2 h = some r) : kO h a0 = some 11 := by
  unfold F_X11_had at H
  by_cases c : kO h a0 = some 11
  · exact c
  · rw [if_neg c] at H; cases H
set_option maxHeartbeats 4000000 in
set_option maxRecDepth 20000 in
theorem E_X11_had {xs : Nat → Int32} {N d : Nat} {nx : ci_N} {a0 : Nat} {a1 : Int32} {a2 : Int32} {h : ci_H} {r : Int32 × ci_H} (H : F_X11_had a0 a1 a2 h = some r) (hd : 2 ≤ d) : Ev xs N d 131 0 (ci_entry [.ref a0, .int a1, .int a2] 8) [] h nx (oI r nx) := by
  obtain ⟨d, rfl⟩ : ∃ d2, d = d2 + 1 := ⟨d - 1, by omega⟩
  have hd : 1 ≤ d := by omega
  unfold F_X11_had at H
  by_cases ck : kO h a0 = some 11
  · rw [if_pos ck] at H
    show Ev xs N (d + 1) 131 0 [.ref a0, .int a1, .int a2, ci_junk, ci_junk, ci_junk, ci_junk, ci_junk] [] h nx _
    refine ev_go hc_X11_had (k := 1) (pc' := 1) (L' := [.ref a0, .int a1, .int a2, ci_junk, ci_junk, ci_junk, ci_junk, ci_junk]) (S' := [.ref a0]) rfl ?_
    obtain ⟨v1, ev1, H⟩ := Option.bind_eq_some_iff.mp H
    refine ev_4 hc_X11_had (fe_X11_had (pc := 1) rfl) (gR_gf ev1) ?_
    refine ev_go hc_X11_had (k := 1) (pc' := 5) (L' := [.ref a0, .int a1, .int a2, ci_junk, ci_junk, ci_junk, ci_junk, ci_junk]) (S' := [.int a1, .ref v1]) rfl ?_
    obtain ⟨q2, eq2, H⟩ := Option.bind_eq_some_iff.mp H
    refine ev_call (vs := [.ref v1, .int a1]) (rest := []) (q := q_X10_hasHouse) hc_X11_had (Or.inr rfl) (fe_X11_had (pc := 5) rfl) ms_62 rfl rfl (Nat.le_of_ble_eq_true rfl) (kO_recv (K_X10_hasHouse eq2)) (E_X10_hasHouse eq2 (by omega)) rfl ?_
    show Ev xs N (d + 1) 131 8 [.ref a0, .int a1, .int a2, ci_junk, ci_junk, ci_junk, ci_junk, ci_junk] [.int q2.1] q2.2 nx _
    by_cases c3 : q2.1 = 0
    · rw [if_pos c3] at H
      refine ev_bt hc_X11_had (fe_X11_had (pc := 8) rfl) rfl c3 ?_
      refine ev_go hc_X11_had (k := 1) (pc' := 22) (L' := [.ref a0, .int a1, .int a2, ci_junk, ci_junk, ci_junk, ci_junk, ci_junk]) (S' := [.int ((-1))]) rfl ?_
      obtain rfl := Option.some.inj H
      exact ev_8 hc_X11_had (fe_X11_had (pc := 22) rfl) rfl
    · rw [if_neg c3] at H
      refine ev_bf hc_X11_had (fe_X11_had (pc := 8) rfl) rfl c3 ?_
      refine ev_go hc_X11_had (k := 1) (pc' := 12) (L' := [.ref a0, .int a1, .int a2, ci_junk, ci_junk, ci_junk, ci_junk, ci_junk]) (S' := [.int a2]) rfl ?_
      by_cases c4 : a2 < 0
      · rw [if_pos c4] at H
        refine ev_bt hc_X11_had (fe_X11_had (pc := 12) rfl) rfl c4 ?_
        refine ev_go hc_X11_had (k := 1) (pc' := 22) (L' := [.ref a0, .int a1, .int a2, ci_junk, ci_junk, ci_junk, ci_junk, ci_junk]) (S' := [.int ((-1))]) rfl ?_
        obtain rfl := Option.some.inj H
        exact ev_8 hc_X11_had (fe_X11_had (pc := 22) rfl) rfl
      · rw [if_neg c4] at H
        refine ev_bf hc_X11_had (fe_X11_had (pc := 12) rfl) rfl c4 ?_
        refine ev_go hc_X11_had (k := 2) (pc' := 18) (L' := [.ref a0, .int a1, .int a2, ci_junk, ci_junk, ci_junk, ci_junk, ci_junk]) (S' := [.int 12, .int a2]) rfl ?_
        by_cases c5 : a2 ≤ 12
        · rw [if_pos c5] at H
          refine ev_bt hc_X11_had (fe_X11_had (pc := 18) rfl) rfl c5 ?_
          refine ev_go hc_X11_had (k := 1) (pc' := 24) (L' := [.ref a0, .int a1, .int a2, ci_junk, ci_junk, ci_junk, ci_junk, ci_junk]) (S' := [.ref a0]) rfl ?_
          obtain ⟨v6, ev6, H⟩ := Option.bind_eq_some_iff.mp H
          refine ev_4 hc_X11_had (fe_X11_had (pc := 24) rfl) (gR_gf ev6) ?_
          refine ev_go hc_X11_had (k := 1) (pc' := 28) (L' := [.ref a0, .int a1, .int a2, ci_junk, ci_junk, ci_junk, ci_junk, ci_junk]) (S' := [.int a1, .ref v6]) rfl ?_
          obtain ⟨q7, eq7, H⟩ := Option.bind_eq_some_iff.mp H
          refine ev_call (vs := [.ref v6, .int a1]) (rest := []) (q := q_X10_keptBy) hc_X11_had (Or.inr rfl) (fe_X11_had (pc := 28) rfl) ms_75 rfl rfl (Nat.le_of_ble_eq_true rfl) (kO_recv (K_X10_keptBy eq7)) (E_X10_keptBy eq7 (by omega)) rfl ?_
          show Ev xs N (d + 1) 131 31 [.ref a0, .int a1, .int a2, ci_junk, ci_junk, ci_junk, ci_junk, ci_junk] [.int q7.1] q7.2 nx _
          refine ev_go hc_X11_had (k := 9) (pc' := 44) (L' := [.ref a0, .int a1, .int a2, .int q7.1, .int 0, .int ((-1)), .int 0, .int 0]) (S' := []) rfl ?_
          exact Ev.weak (ci_le_c (Or.inr rfl) (ci_le_c (Or.inl rfl) (ci_le_c (Or.inr rfl) (ci_le_c (Or.inr rfl) (ci_le_c (Or.inr rfl) (ci_le_c (Or.inr rfl) (ci_le_c (Or.inr rfl) (ci_le_c (Or.inr rfl) (ci_le_n))))))))) (eb_X11_had_44 hd bigN _ _ _ _ _ _ H)
        · rw [if_neg c5] at H
          refine ev_bf hc_X11_had (fe_X11_had (pc := 18) rfl) rfl c5 ?_
          refine ev_go hc_X11_had (k := 1) (pc' := 22) (L' := [.ref a0, .int a1, .int a2, ci_junk, ci_junk, ci_junk, ci_junk, ci_junk]) (S' := [.int ((-1))]) rfl ?_
          obtain rfl := Option.some.inj H
          exact ev_8 hc_X11_had (fe_X11_had (pc := 22) rfl) rfl
  · rw [if_neg ck] at H; cases H
theorem hc_X11_heard : ci_code (ci_Ms 132) = k_X11_heard := rfl
theorem fe_X11_heard {pc : Nat} {w : Option ci_I} (h : (k_X11_heard)[pc]? = some w) : (k_X11_heard)[pc]? = some w := h
def F_X11_heard (a0 : Nat) (a1 : Int32) (a2 : Int32) (h : ci_H) : Option (Int32 × ci_H) := if kO h a0 = some 11 then ((gR h a0 11 0).bind fun v1 => (F_X10_hasThing v1 a1 h).bind fun q2 => if q2.1 = 0 then (some ((-1), q2.2)) else (if a2 < 0 then (some ((-1), q2.2)) else (if 1 < a2 then (some ((-1), q2.2)) else ((gI q2.2 a0 11 13).bind fun v6 => if v6 < 12 then ((gR q2.2 a0 11 11).bind fun v8 => (gI q2.2 a0 11 13).bind fun v9 => (wI q2.2 v8 v9 a1).bind fun h10 => (gR h10 a0 11 12).bind fun v11 => (gI h10 a0 11 13).bind fun v12 => (wI h10 v11 v12 a2).bind fun h13 => (gI h13 a0 11 13).bind fun v14 => (pF h13 a0 11 13 (.int (v14 + 1))).bind fun h15 => (gI h15 a0 11 13).bind fun v16 => some (v16, h15)) else (some ((-1), q2.2)))))) else none
theorem K_X11_heard {a0 : Nat} {a1 : Int32} {a2 : Int32} {h : ci_H} {r : Int32 × ci_H} (H : F_X11_heard a0 a1 a2 h = some r) : kO h a0 = some 11 := by
  unfold F_X11_heard at H
  by_cases c : kO h a0 = some 11
  · exact c
  · rw [if_neg c] at H; cases H
set_option maxHeartbeats 4000000 in
set_option maxRecDepth 20000 in
theorem E_X11_heard {xs : Nat → Int32} {N d : Nat} {nx : ci_N} {a0 : Nat} {a1 : Int32} {a2 : Int32} {h : ci_H} {r : Int32 × ci_H} (H : F_X11_heard a0 a1 a2 h = some r) (hd : 1 ≤ d) : Ev xs N d 132 0 (ci_entry [.ref a0, .int a1, .int a2] 3) [] h nx (oI r nx) := by
  obtain ⟨d, rfl⟩ : ∃ d2, d = d2 + 1 := ⟨d - 1, by omega⟩
  have hd : 0 ≤ d := by omega
  unfold F_X11_heard at H
  by_cases ck : kO h a0 = some 11
  · rw [if_pos ck] at H
    show Ev xs N (d + 1) 132 0 [.ref a0, .int a1, .int a2] [] h nx _
    refine ev_go hc_X11_heard (k := 1) (pc' := 1) (L' := [.ref a0, .int a1, .int a2]) (S' := [.ref a0]) rfl ?_
    obtain ⟨v1, ev1, H⟩ := Option.bind_eq_some_iff.mp H
    refine ev_4 hc_X11_heard (fe_X11_heard (pc := 1) rfl) (gR_gf ev1) ?_
    refine ev_go hc_X11_heard (k := 1) (pc' := 5) (L' := [.ref a0, .int a1, .int a2]) (S' := [.int a1, .ref v1]) rfl ?_
    obtain ⟨q2, eq2, H⟩ := Option.bind_eq_some_iff.mp H
    refine ev_call (vs := [.ref v1, .int a1]) (rest := []) (q := q_X10_hasThing) hc_X11_heard (Or.inr rfl) (fe_X11_heard (pc := 5) rfl) ms_63 rfl rfl (Nat.le_of_ble_eq_true rfl) (kO_recv (K_X10_hasThing eq2)) (E_X10_hasThing eq2 (by omega)) rfl ?_
    show Ev xs N (d + 1) 132 8 [.ref a0, .int a1, .int a2] [.int q2.1] q2.2 nx _
    by_cases c3 : q2.1 = 0
    · rw [if_pos c3] at H
      refine ev_bt hc_X11_heard (fe_X11_heard (pc := 8) rfl) rfl c3 ?_
      refine ev_go hc_X11_heard (k := 1) (pc' := 30) (L' := [.ref a0, .int a1, .int a2]) (S' := [.int ((-1))]) rfl ?_
      obtain rfl := Option.some.inj H
      exact ev_8 hc_X11_heard (fe_X11_heard (pc := 30) rfl) rfl
    · rw [if_neg c3] at H
      refine ev_bf hc_X11_heard (fe_X11_heard (pc := 8) rfl) rfl c3 ?_
      refine ev_go hc_X11_heard (k := 1) (pc' := 12) (L' := [.ref a0, .int a1, .int a2]) (S' := [.int a2]) rfl ?_
      by_cases c4 : a2 < 0
      · rw [if_pos c4] at H
        refine ev_bt hc_X11_heard (fe_X11_heard (pc := 12) rfl) rfl c4 ?_
        refine ev_go hc_X11_heard (k := 1) (pc' := 30) (L' := [.ref a0, .int a1, .int a2]) (S' := [.int ((-1))]) rfl ?_
        obtain rfl := Option.some.inj H
        exact ev_8 hc_X11_heard (fe_X11_heard (pc := 30) rfl) rfl
      · rw [if_neg c4] at H
        refine ev_bf hc_X11_heard (fe_X11_heard (pc := 12) rfl) rfl c4 ?_
        refine ev_go hc_X11_heard (k := 2) (pc' := 17) (L' := [.ref a0, .int a1, .int a2]) (S' := [.int 1, .int a2]) rfl ?_
        by_cases c5 : 1 < a2
        · rw [if_pos c5] at H
          refine ev_bt hc_X11_heard (fe_X11_heard (pc := 17) rfl) rfl c5 ?_
          refine ev_go hc_X11_heard (k := 1) (pc' := 30) (L' := [.ref a0, .int a1, .int a2]) (S' := [.int ((-1))]) rfl ?_
          obtain rfl := Option.some.inj H
          exact ev_8 hc_X11_heard (fe_X11_heard (pc := 30) rfl) rfl
        · rw [if_neg c5] at H
          refine ev_bf hc_X11_heard (fe_X11_heard (pc := 17) rfl) rfl c5 ?_
          refine ev_go hc_X11_heard (k := 1) (pc' := 21) (L' := [.ref a0, .int a1, .int a2]) (S' := [.ref a0]) rfl ?_
          obtain ⟨v6, ev6, H⟩ := Option.bind_eq_some_iff.mp H
          refine ev_4 hc_X11_heard (fe_X11_heard (pc := 21) rfl) (gI_gf ev6) ?_
          refine ev_go hc_X11_heard (k := 1) (pc' := 26) (L' := [.ref a0, .int a1, .int a2]) (S' := [.int 12, .int v6]) rfl ?_
          by_cases c7 : v6 < 12
          · rw [if_pos c7] at H
            refine ev_bt hc_X11_heard (fe_X11_heard (pc := 26) rfl) rfl c7 ?_
            refine ev_go hc_X11_heard (k := 1) (pc' := 32) (L' := [.ref a0, .int a1, .int a2]) (S' := [.ref a0]) rfl ?_
            obtain ⟨v8, ev8, H⟩ := Option.bind_eq_some_iff.mp H
            refine ev_4 hc_X11_heard (fe_X11_heard (pc := 32) rfl) (gR_gf ev8) ?_
            refine ev_go hc_X11_heard (k := 1) (pc' := 36) (L' := [.ref a0, .int a1, .int a2]) (S' := [.ref a0, .ref v8]) rfl ?_
            obtain ⟨v9, ev9, H⟩ := Option.bind_eq_some_iff.mp H
            refine ev_4 hc_X11_heard (fe_X11_heard (pc := 36) rfl) (gI_gf ev9) ?_
            refine ev_go hc_X11_heard (k := 1) (pc' := 40) (L' := [.ref a0, .int a1, .int a2]) (S' := [.int a1, .int v9, .ref v8]) rfl ?_
            obtain ⟨h10, eh10, H⟩ := Option.bind_eq_some_iff.mp H
            refine ev_5 hc_X11_heard (fe_X11_heard (pc := 40) rfl) (wI_as eh10) ?_
            refine ev_go hc_X11_heard (k := 1) (pc' := 42) (L' := [.ref a0, .int a1, .int a2]) (S' := [.ref a0]) rfl ?_
            obtain ⟨v11, ev11, H⟩ := Option.bind_eq_some_iff.mp H
            refine ev_4 hc_X11_heard (fe_X11_heard (pc := 42) rfl) (gR_gf ev11) ?_
            refine ev_go hc_X11_heard (k := 1) (pc' := 46) (L' := [.ref a0, .int a1, .int a2]) (S' := [.ref a0, .ref v11]) rfl ?_
            obtain ⟨v12, ev12, H⟩ := Option.bind_eq_some_iff.mp H
            refine ev_4 hc_X11_heard (fe_X11_heard (pc := 46) rfl) (gI_gf ev12) ?_
            refine ev_go hc_X11_heard (k := 1) (pc' := 50) (L' := [.ref a0, .int a1, .int a2]) (S' := [.int a2, .int v12, .ref v11]) rfl ?_
            obtain ⟨h13, eh13, H⟩ := Option.bind_eq_some_iff.mp H
            refine ev_5 hc_X11_heard (fe_X11_heard (pc := 50) rfl) (wI_as eh13) ?_
            refine ev_go hc_X11_heard (k := 2) (pc' := 53) (L' := [.ref a0, .int a1, .int a2]) (S' := [.ref a0, .ref a0]) rfl ?_
            obtain ⟨v14, ev14, H⟩ := Option.bind_eq_some_iff.mp H
            refine ev_4 hc_X11_heard (fe_X11_heard (pc := 53) rfl) (gI_gf ev14) ?_
            refine ev_go hc_X11_heard (k := 2) (pc' := 58) (L' := [.ref a0, .int a1, .int a2]) (S' := [.int (v14 + 1), .ref a0]) rfl ?_
            obtain ⟨h15, eh15, H⟩ := Option.bind_eq_some_iff.mp H
            refine ev_5 hc_X11_heard (fe_X11_heard (pc := 58) rfl) (pF_pf eh15) ?_
            refine ev_go hc_X11_heard (k := 1) (pc' := 62) (L' := [.ref a0, .int a1, .int a2]) (S' := [.ref a0]) rfl ?_
            obtain ⟨v16, ev16, H⟩ := Option.bind_eq_some_iff.mp H
            refine ev_4 hc_X11_heard (fe_X11_heard (pc := 62) rfl) (gI_gf ev16) ?_
            obtain rfl := Option.some.inj H
            exact ev_8 hc_X11_heard (fe_X11_heard (pc := 65) rfl) rfl
          · rw [if_neg c7] at H
            refine ev_bf hc_X11_heard (fe_X11_heard (pc := 26) rfl) rfl c7 ?_
            refine ev_go hc_X11_heard (k := 1) (pc' := 30) (L' := [.ref a0, .int a1, .int a2]) (S' := [.int ((-1))]) rfl ?_
            obtain rfl := Option.some.inj H
            exact ev_8 hc_X11_heard (fe_X11_heard (pc := 30) rfl) rfl
  · rw [if_neg ck] at H; cases H
theorem hc_X11_forget : ci_code (ci_Ms 133) = k_X11_forget := rfl
theorem fe_X11_forget {pc : Nat} {w : Option ci_I} (h : (k_X11_forget)[pc]? = some w) : (k_X11_forget)[pc]? = some w := h
def F_X11_forget (a0 : Nat) (h : ci_H) : Option (Int32 × ci_H) := if kO h a0 = some 11 then ((gI h a0 11 13).bind fun v1 => (pF h a0 11 13 (.int 0)).bind fun h2 => some (v1, h2)) else none
theorem K_X11_forget {a0 : Nat} {h : ci_H} {r : Int32 × ci_H} (H : F_X11_forget a0 h = some r) : kO h a0 = some 11 := by
  unfold F_X11_forget at H
  by_cases c : kO h a0 = some 11
  · exact c
  · rw [if_neg c] at H; cases H
set_option maxHeartbeats 4000000 in
set_option maxRecDepth 20000 in
theorem E_X11_forget {xs : Nat → Int32} {N d : Nat} {nx : ci_N} {a0 : Nat} {h : ci_H} {r : Int32 × ci_H} (H : F_X11_forget a0 h = some r) (hd : 0 ≤ d) : Ev xs N d 133 0 (ci_entry [.ref a0] 2) [] h nx (oI r nx) := by
  unfold F_X11_forget at H
  by_cases ck : kO h a0 = some 11
  · rw [if_pos ck] at H
    show Ev xs N d 133 0 [.ref a0, ci_junk] [] h nx _
    refine ev_go hc_X11_forget (k := 1) (pc' := 1) (L' := [.ref a0, ci_junk]) (S' := [.ref a0]) rfl ?_
    obtain ⟨v1, ev1, H⟩ := Option.bind_eq_some_iff.mp H
    refine ev_4 hc_X11_forget (fe_X11_forget (pc := 1) rfl) (gI_gf ev1) ?_
    refine ev_go hc_X11_forget (k := 3) (pc' := 7) (L' := [.ref a0, .int v1]) (S' := [.int 0, .ref a0]) rfl ?_
    obtain ⟨h2, eh2, H⟩ := Option.bind_eq_some_iff.mp H
    refine ev_5 hc_X11_forget (fe_X11_forget (pc := 7) rfl) (pF_pf eh2) ?_
    refine ev_go hc_X11_forget (k := 1) (pc' := 11) (L' := [.ref a0, .int v1]) (S' := [.int v1]) rfl ?_
    obtain rfl := Option.some.inj H
    exact ev_8 hc_X11_forget (fe_X11_forget (pc := 11) rfl) rfl
  · rw [if_neg ck] at H; cases H
