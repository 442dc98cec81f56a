theorem hc_X10_visited : ci_code (ci_Ms 90) = k_X10_visited := rfl
theorem fe_X10_visited {pc : Nat} {w : Option ci_I} (h : (k_X10_visited)[pc]? = some w) : (k_X10_visited)[pc]? = some w := h
def F_X10_visited (a0 : Nat) (h : ci_H) : Option (Int32 × ci_H) := if kO h a0 = some 10 then ((gI h a0 10 5).bind fun v1 => if 1 ≤ v1 then ((gR h a0 10 0).bind fun v3 => (gI h v3 6 4).bind fun v4 => (gI h a0 10 5).bind fun v5 => (rmI v4 v5).bind fun v6 => some (v6, h)) else (some (0, h))) else none
theorem K_X10_visited {a0 : Nat} {h : ci_H} {r : Int32 × ci_H} (H : F_X10_visited a0 h = some r) : kO h a0 = some 10 := by
  unfold F_X10_visited at H
  by_cases c : kO h a0 = some 10
  · exact c
  · rw [if_neg c] at H; cases H
set_option maxHeartbeats 4000000 in
set_option maxRecDepth 20000 in
theorem E_X10_visited {xs : Nat → Int32} {N d : Nat} {nx : ci_N} {a0 : Nat} {h : ci_H} {r : Int32 × ci_H} (H : F_X10_visited a0 h = some r) (hd : 0 ≤ d) : Ev xs N d 90 0 (ci_entry [.ref a0] 1) [] h nx (oI r nx) := by
  unfold F_X10_visited at H
  by_cases ck : kO h a0 = some 10
  · rw [if_pos ck] at H
    show Ev xs N d 90 0 [.ref a0] [] h nx _
    refine ev_go hc_X10_visited (k := 1) (pc' := 1) (L' := [.ref a0]) (S' := [.ref a0]) rfl ?_
    obtain ⟨v1, ev1, H⟩ := Option.bind_eq_some_iff.mp H
    refine ev_4 hc_X10_visited (fe_X10_visited (pc := 1) rfl) (gI_gf ev1) ?_
    refine ev_go hc_X10_visited (k := 1) (pc' := 5) (L' := [.ref a0]) (S' := [.int 1, .int v1]) rfl ?_
    by_cases c2 : 1 ≤ v1
    · rw [if_pos c2] at H
      refine ev_bt hc_X10_visited (fe_X10_visited (pc := 5) rfl) rfl c2 ?_
      refine ev_go hc_X10_visited (k := 1) (pc' := 13) (L' := [.ref a0]) (S' := [.ref a0]) rfl ?_
      obtain ⟨v3, ev3, H⟩ := Option.bind_eq_some_iff.mp H
      refine ev_4 hc_X10_visited (fe_X10_visited (pc := 13) rfl) (gR_gf ev3) ?_
      obtain ⟨v4, ev4, H⟩ := Option.bind_eq_some_iff.mp H
      refine ev_4 hc_X10_visited (fe_X10_visited (pc := 16) rfl) (gI_gf ev4) ?_
      refine ev_go hc_X10_visited (k := 1) (pc' := 20) (L' := [.ref a0]) (S' := [.ref a0, .int v4]) rfl ?_
      obtain ⟨v5, ev5, H⟩ := Option.bind_eq_some_iff.mp H
      refine ev_4 hc_X10_visited (fe_X10_visited (pc := 20) rfl) (gI_gf ev5) ?_
      obtain ⟨v6, ev6, H⟩ := Option.bind_eq_some_iff.mp H
      refine ev_1 hc_X10_visited (fe_X10_visited (pc := 23) rfl) (rmI_st ev6) ?_
      obtain rfl := Option.some.inj H
      exact ev_8 hc_X10_visited (fe_X10_visited (pc := 24) rfl) rfl
    · rw [if_neg c2] at H
      refine ev_bf hc_X10_visited (fe_X10_visited (pc := 5) rfl) rfl c2 ?_
      refine ev_go hc_X10_visited (k := 2) (pc' := 24) (L' := [.ref a0]) (S' := [.int 0]) rfl ?_
      obtain rfl := Option.some.inj H
      exact ev_8 hc_X10_visited (fe_X10_visited (pc := 24) rfl) rfl
  · rw [if_neg ck] at H; cases H
theorem hc_X10_seizedFrom : ci_code (ci_Ms 91) = k_X10_seizedFrom := rfl
theorem fe_X10_seizedFrom {pc : Nat} {w : Option ci_I} (h : (k_X10_seizedFrom)[pc]? = some w) : (k_X10_seizedFrom)[pc]? = some w := h
def b_X10_seizedFrom_50 (r_11 : Int32 → Int32 → ci_H → Option (Int32 × ci_H)) (l0 : Nat) (l2 : Int32) (l4 : Int32) (l6 : Int32) : Nat → Int32 → Int32 → Int32 → ci_H → Option (Int32 × ci_H)
  | 0, _, _, _, _ => none
  | n + 1, l3, l5, l7, h => if l6 ≤ l7 then (r_11 l3 (l4 + 1) h) else ((F_J6_highestOneBit_0f7a4 l5 h).bind fun q2 => b_X10_seizedFrom_50 r_11 l0 l2 l4 l6 n (l3 ||| q2.1) (l5 &&& (q2.1 ^^^ ((-1)))) (l7 + 1) q2.2)
set_option maxHeartbeats 4000000 in
set_option maxRecDepth 20000 in
theorem eb_X10_seizedFrom_50 {xs : Nat → Int32} {N d : Nat} {nx : ci_N} {r_11 : Int32 → Int32 → ci_H → Option (Int32 × ci_H)} {l0 : Nat} {l2 : Int32} {l4 : Int32} {l6 : Int32} (hd : 1 ≤ d) (h_11 : ∀ (l3 : Int32) (l4 : Int32) (h : ci_H) (r : Int32 × ci_H), r_11 l3 l4 h = some r → Ev xs N (d + 1) 91 11 [.ref l0, ci_junk, .int l2, .int l3, .int l4, ci_junk, ci_junk, ci_junk, ci_junk] [] h nx (oI r nx)) : ∀ (n : Nat) (l3 : Int32) (l5 : Int32) (l7 : Int32) (h : ci_H) (r : Int32 × ci_H), b_X10_seizedFrom_50 r_11 l0 l2 l4 l6 n l3 l5 l7 h = some r → Ev xs N (d + 1) 91 50 [.ref l0, ci_junk, .int l2, .int l3, .int l4, .int l5, .int l6, .int l7, ci_junk] [] h nx (oI r nx) := by
  intro n
  induction n with
  | zero => intro l3 l5 l7 h r H; unfold b_X10_seizedFrom_50 at H; cases H
  | succ n ih =>
    intro l3 l5 l7 h r H
    unfold b_X10_seizedFrom_50 at H
    refine ev_go hc_X10_seizedFrom (k := 2) (pc' := 54) (L' := [.ref l0, ci_junk, .int l2, .int l3, .int l4, .int l5, .int l6, .int l7, ci_junk]) (S' := [.int l6, .int l7]) rfl ?_
    by_cases c1 : l6 ≤ l7
    · rw [if_pos c1] at H
      refine ev_bt hc_X10_seizedFrom (fe_X10_seizedFrom (pc := 54) rfl) rfl c1 ?_
      refine ev_go hc_X10_seizedFrom (k := 2) (pc' := 11) (L' := [.ref l0, ci_junk, .int l2, .int l3, .int (l4 + 1), .int l5, .int l6, .int l7, ci_junk]) (S' := []) rfl ?_
      exact Ev.weak (ci_le_c (Or.inr rfl) (ci_le_c (Or.inl rfl) (ci_le_c (Or.inr rfl) (ci_le_c (Or.inr rfl) (ci_le_c (Or.inr rfl) (ci_le_c (Or.inl rfl) (ci_le_c (Or.inl rfl) (ci_le_c (Or.inl rfl) (ci_le_c (Or.inl rfl) (ci_le_n)))))))))) (h_11 _ _ _ _ H)
    · rw [if_neg c1] at H
      refine ev_bf hc_X10_seizedFrom (fe_X10_seizedFrom (pc := 54) rfl) rfl c1 ?_
      refine ev_go hc_X10_seizedFrom (k := 1) (pc' := 59) (L' := [.ref l0, ci_junk, .int l2, .int l3, .int l4, .int l5, .int l6, .int l7, ci_junk]) (S' := [.int l5]) rfl ?_
      obtain ⟨q2, eq2, H⟩ := Option.bind_eq_some_iff.mp H
      refine ev_call (vs := [.int l5]) (rest := []) (q := q_J6_highestOneBit_0f7a4) hc_X10_seizedFrom (Or.inl rfl) (fe_X10_seizedFrom (pc := 59) rfl) ms_282 rfl rfl (Nat.le_of_ble_eq_true rfl) rfl (E_J6_highestOneBit_0f7a4 eq2 (by omega)) rfl ?_
      show Ev xs N (d + 1) 91 62 [.ref l0, ci_junk, .int l2, .int l3, .int l4, .int l5, .int l6, .int l7, ci_junk] [.int q2.1] q2.2 nx _
      refine ev_go hc_X10_seizedFrom (k := 13) (pc' := 50) (L' := [.ref l0, ci_junk, .int l2, .int (l3 ||| q2.1), .int l4, .int (l5 &&& (q2.1 ^^^ ((-1)))), .int l6, .int (l7 + 1), .int q2.1]) (S' := []) rfl ?_
      exact Ev.weak (ci_le_c (Or.inr rfl) (ci_le_c (Or.inl rfl) (ci_le_c (Or.inr rfl) (ci_le_c (Or.inr rfl) (ci_le_c (Or.inr rfl) (ci_le_c (Or.inr rfl) (ci_le_c (Or.inr rfl) (ci_le_c (Or.inr rfl) (ci_le_c (Or.inl rfl) (ci_le_n)))))))))) (ih _ _ _ _ _ H)
def b_X10_seizedFrom_11 (l0 : Nat) (l2 : Int32) : Nat → Int32 → Int32 → ci_H → Option (Int32 × ci_H)
  | 0, _, _, _ => none
  | n + 1, l3, l4, h => (gI h l0 10 7).bind fun v1 => if v1 ≤ l4 then (some (l3, h)) else ((gR h l0 10 3).bind fun v3 => (rI h v3 l4).bind fun v4 => (F_J6_bitCount_0f7a4 ((l2 &&& (l3 ^^^ ((-1)))) &&& v4) h).bind fun q5 => (gI q5.2 l0 10 8).bind fun v6 => b_X10_seizedFrom_50 (fun x0 x1 x2 => b_X10_seizedFrom_11 l0 l2 n x0 x1 x2) l0 l2 l4 (q5.1 - v6) bigN l3 ((l2 &&& (l3 ^^^ ((-1)))) &&& v4) 0 q5.2)
set_option maxHeartbeats 4000000 in
set_option maxRecDepth 20000 in
theorem eb_X10_seizedFrom_11 {xs : Nat → Int32} {N d : Nat} {nx : ci_N} {l0 : Nat} {l2 : Int32} (hd : 1 ≤ d) : ∀ (n : Nat) (l3 : Int32) (l4 : Int32) (h : ci_H) (r : Int32 × ci_H), b_X10_seizedFrom_11 l0 l2 n l3 l4 h = some r → Ev xs N (d + 1) 91 11 [.ref l0, ci_junk, .int l2, .int l3, .int l4, ci_junk, ci_junk, ci_junk, ci_junk] [] h nx (oI r nx) := by
  intro n
  induction n with
  | zero => intro l3 l4 h r H; unfold b_X10_seizedFrom_11 at H; cases H
  | succ n ih =>
    intro l3 l4 h r H
    unfold b_X10_seizedFrom_11 at H
    refine ev_go hc_X10_seizedFrom (k := 2) (pc' := 14) (L' := [.ref l0, ci_junk, .int l2, .int l3, .int l4, ci_junk, ci_junk, ci_junk, ci_junk]) (S' := [.ref l0, .int l4]) rfl ?_
    obtain ⟨v1, ev1, H⟩ := Option.bind_eq_some_iff.mp H
    refine ev_4 hc_X10_seizedFrom (fe_X10_seizedFrom (pc := 14) rfl) (gI_gf ev1) ?_
    by_cases c2 : v1 ≤ l4
    · rw [if_pos c2] at H
      refine ev_bt hc_X10_seizedFrom (fe_X10_seizedFrom (pc := 17) rfl) rfl c2 ?_
      refine ev_go hc_X10_seizedFrom (k := 1) (pc' := 91) (L' := [.ref l0, ci_junk, .int l2, .int l3, .int l4, ci_junk, ci_junk, ci_junk, ci_junk]) (S' := [.int l3]) rfl ?_
      obtain rfl := Option.some.inj H
      exact ev_8 hc_X10_seizedFrom (fe_X10_seizedFrom (pc := 91) rfl) rfl
    · rw [if_neg c2] at H
      refine ev_bf hc_X10_seizedFrom (fe_X10_seizedFrom (pc := 17) rfl) rfl c2 ?_
      refine ev_go hc_X10_seizedFrom (k := 6) (pc' := 26) (L' := [.ref l0, ci_junk, .int l2, .int l3, .int l4, ci_junk, ci_junk, ci_junk, ci_junk]) (S' := [.ref l0, .int (l2 &&& (l3 ^^^ ((-1))))]) rfl ?_
      obtain ⟨v3, ev3, H⟩ := Option.bind_eq_some_iff.mp H
      refine ev_4 hc_X10_seizedFrom (fe_X10_seizedFrom (pc := 26) rfl) (gR_gf ev3) ?_
      refine ev_go hc_X10_seizedFrom (k := 1) (pc' := 31) (L' := [.ref l0, ci_junk, .int l2, .int l3, .int l4, ci_junk, ci_junk, ci_junk, ci_junk]) (S' := [.int l4, .ref v3, .int (l2 &&& (l3 ^^^ ((-1))))]) rfl ?_
      obtain ⟨v4, ev4, H⟩ := Option.bind_eq_some_iff.mp H
      refine ev_4 hc_X10_seizedFrom (fe_X10_seizedFrom (pc := 31) rfl) (rI_al ev4) ?_
      refine ev_go hc_X10_seizedFrom (k := 3) (pc' := 37) (L' := [.ref l0, ci_junk, .int l2, .int l3, .int l4, .int ((l2 &&& (l3 ^^^ ((-1)))) &&& v4), ci_junk, ci_junk, ci_junk]) (S' := [.int ((l2 &&& (l3 ^^^ ((-1)))) &&& v4)]) rfl ?_
      obtain ⟨q5, eq5, H⟩ := Option.bind_eq_some_iff.mp H
      refine ev_call (vs := [.int ((l2 &&& (l3 ^^^ ((-1)))) &&& v4)]) (rest := []) (q := q_J6_bitCount_0f7a4) hc_X10_seizedFrom (Or.inl rfl) (fe_X10_seizedFrom (pc := 37) rfl) ms_285 rfl rfl (Nat.le_of_ble_eq_true rfl) rfl (E_J6_bitCount_0f7a4 eq5 (by omega)) rfl ?_
      show Ev xs N (d + 1) 91 40 [.ref l0, ci_junk, .int l2, .int l3, .int l4, .int ((l2 &&& (l3 ^^^ ((-1)))) &&& v4), ci_junk, ci_junk, ci_junk] [.int q5.1] q5.2 nx _
      refine ev_go hc_X10_seizedFrom (k := 1) (pc' := 41) (L' := [.ref l0, ci_junk, .int l2, .int l3, .int l4, .int ((l2 &&& (l3 ^^^ ((-1)))) &&& v4), ci_junk, ci_junk, ci_junk]) (S' := [.ref l0, .int q5.1]) rfl ?_
      obtain ⟨v6, ev6, H⟩ := Option.bind_eq_some_iff.mp H
      refine ev_4 hc_X10_seizedFrom (fe_X10_seizedFrom (pc := 41) rfl) (gI_gf ev6) ?_
      refine ev_go hc_X10_seizedFrom (k := 4) (pc' := 50) (L' := [.ref l0, ci_junk, .int l2, .int l3, .int l4, .int ((l2 &&& (l3 ^^^ ((-1)))) &&& v4), .int (q5.1 - v6), .int 0, ci_junk]) (S' := []) rfl ?_
      exact Ev.weak (ci_le_c (Or.inr rfl) (ci_le_c (Or.inl rfl) (ci_le_c (Or.inr rfl) (ci_le_c (Or.inr rfl) (ci_le_c (Or.inr rfl) (ci_le_c (Or.inr rfl) (ci_le_c (Or.inr rfl) (ci_le_c (Or.inr rfl) (ci_le_c (Or.inl rfl) (ci_le_n)))))))))) (eb_X10_seizedFrom_50 hd ih bigN _ _ _ _ _ H)
def F_X10_seizedFrom (a0 : Nat) (a1 : Int32) (h : ci_H) : Option (Int32 × ci_H) := if kO h a0 = some 10 then ((F_X10_keptBy a0 a1 h).bind fun q1 => b_X10_seizedFrom_11 a0 q1.1 bigN 0 0 q1.2) else none
theorem K_X10_seizedFrom {a0 : Nat} {a1 : Int32} {h : ci_H} {r : Int32 × ci_H} (H : F_X10_seizedFrom a0 a1 h = some r) : kO h a0 = some 10 := by
  unfold F_X10_seizedFrom at H
  by_cases c : kO h a0 = some 10
  · exact c
  · rw [if_neg c] at H; cases H
set_option maxHeartbeats 4000000 in
set_option maxRecDepth 20000 in
theorem E_X10_seizedFrom {xs : Nat → Int32} {N d : Nat} {nx : ci_N} {a0 : Nat} {a1 : Int32} {h : ci_H} {r : Int32 × ci_H} (H : F_X10_seizedFrom a0 a1 h = some r) (hd : 2 ≤ d) : Ev xs N d 91 0 (ci_entry [.ref a0, .int a1] 9) [] h nx (oI r nx) := by
  obtain ⟨d, rfl⟩ : ∃ d2, d = d2 + 1 := ⟨d - 1, by omega⟩
  have hd : 1 ≤ d := by omega
  unfold F_X10_seizedFrom at H
  by_cases ck : kO h a0 = some 10
  · rw [if_pos ck] at H
    show Ev xs N (d + 1) 91 0 [.ref a0, .int a1, ci_junk, ci_junk, ci_junk, ci_junk, ci_junk, ci_junk, ci_junk] [] h nx _
    refine ev_go hc_X10_seizedFrom (k := 2) (pc' := 2) (L' := [.ref a0, .int a1, ci_junk, ci_junk, ci_junk, ci_junk, ci_junk, ci_junk, ci_junk]) (S' := [.int a1, .ref a0]) rfl ?_
    obtain ⟨q1, eq1, H⟩ := Option.bind_eq_some_iff.mp H
    refine ev_call (vs := [.ref a0, .int a1]) (rest := []) (q := q_X10_keptBy) hc_X10_seizedFrom (Or.inr rfl) (fe_X10_seizedFrom (pc := 2) rfl) ms_75 rfl rfl (Nat.le_of_ble_eq_true rfl) (kO_recv (K_X10_keptBy eq1)) (E_X10_keptBy eq1 (by omega)) rfl ?_
    show Ev xs N (d + 1) 91 5 [.ref a0, .int a1, ci_junk, ci_junk, ci_junk, ci_junk, ci_junk, ci_junk, ci_junk] [.int q1.1] q1.2 nx _
    refine ev_go hc_X10_seizedFrom (k := 5) (pc' := 11) (L' := [.ref a0, .int a1, .int q1.1, .int 0, .int 0, ci_junk, ci_junk, ci_junk, ci_junk]) (S' := []) rfl ?_
    exact Ev.weak (ci_le_c (Or.inr rfl) (ci_le_c (Or.inl rfl) (ci_le_c (Or.inr rfl) (ci_le_c (Or.inr rfl) (ci_le_c (Or.inr rfl) (ci_le_c (Or.inl rfl) (ci_le_c (Or.inl rfl) (ci_le_c (Or.inl rfl) (ci_le_c (Or.inl rfl) (ci_le_n)))))))))) (eb_X10_seizedFrom_11 hd bigN _ _ _ _ H)
  · rw [if_neg ck] at H; cases H
theorem hc_X10_passHour : ci_code (ci_Ms 92) = k_X10_passHour := rfl
theorem fe_X10_passHour {pc : Nat} {w : Option ci_I} (h : (k_X10_passHour)[pc]? = some w) : (k_X10_passHour)[pc]? = some w := h
def b_X10_passHour_33 (r_11 : Int32 → ci_H → Option (Int32 × ci_H)) (l0 : Nat) (l1 : Int32) (l2 : Int32)  (h : ci_H) : Option (Int32 × ci_H) := r_11 (l2 + 1) h
set_option maxHeartbeats 4000000 in
set_option maxRecDepth 20000 in
theorem eb_X10_passHour_33 {xs : Nat → Int32} {N d : Nat} {nx : ci_N} {r_11 : Int32 → ci_H → Option (Int32 × ci_H)} {l0 : Nat} {l1 : Int32} {l2 : Int32} (hd : 2 ≤ d) (h_11 : ∀ (l2 : Int32) (h : ci_H) (r : Int32 × ci_H), r_11 l2 h = some r → Ev xs N (d + 1) 92 11 [.ref l0, .int l1, .int l2] [] h nx (oI r nx)) {h : ci_H} {r : Int32 × ci_H} (H : b_X10_passHour_33 r_11 l0 l1 l2 h = some r) : Ev xs N (d + 1) 92 33 [.ref l0, .int l1, .int l2] [] h nx (oI r nx) := by
  unfold b_X10_passHour_33 at H
  refine ev_go hc_X10_passHour (k := 2) (pc' := 11) (L' := [.ref l0, .int l1, .int (l2 + 1)]) (S' := []) rfl ?_
  exact Ev.weak (ci_le_c (Or.inr rfl) (ci_le_c (Or.inr rfl) (ci_le_c (Or.inr rfl) (ci_le_n)))) (h_11 _ _ _ H)
def b_X10_passHour_11 (l0 : Nat) (l1 : Int32) : Nat → Int32 → ci_H → Option (Int32 × ci_H)
  | 0, _, _ => none
  | n + 1, l2, h => (gI h l0 10 6).bind fun v1 => if v1 ≤ l2 then ((gR h l0 10 0).bind fun v3 => (gI h v3 6 4).bind fun v4 => (pF h v3 6 4 (.int (v4 + 1))).bind fun h5 => some (l1, h5)) else (if ((l1 >>> (l2 &&& 31)) &&& 1) = 0 then (b_X10_passHour_33 (fun x0 x1 => b_X10_passHour_11 l0 l1 n x0 x1) l0 l1 l2 h) else ((F_X10_hand l0 l2 ((-1)) h).bind fun h7 => b_X10_passHour_33 (fun x0 x1 => b_X10_passHour_11 l0 l1 n x0 x1) l0 l1 l2 h7))
set_option maxHeartbeats 4000000 in
set_option maxRecDepth 20000 in
theorem eb_X10_passHour_11 {xs : Nat → Int32} {N d : Nat} {nx : ci_N} {l0 : Nat} {l1 : Int32} (hd : 2 ≤ d) : ∀ (n : Nat) (l2 : Int32) (h : ci_H) (r : Int32 × ci_H), b_X10_passHour_11 l0 l1 n l2 h = some r → Ev xs N (d + 1) 92 11 [.ref l0, .int l1, .int l2] [] h nx (oI r nx) := by
  intro n
  induction n with
  | zero => intro l2 h r H; unfold b_X10_passHour_11 at H; cases H
  | succ n ih =>
    intro l2 h r H
    unfold b_X10_passHour_11 at H
    refine ev_go hc_X10_passHour (k := 2) (pc' := 13) (L' := [.ref l0, .int l1, .int l2]) (S' := [.ref l0, .int l2]) rfl ?_
    obtain ⟨v1, ev1, H⟩ := Option.bind_eq_some_iff.mp H
    refine ev_4 hc_X10_passHour (fe_X10_passHour (pc := 13) rfl) (gI_gf ev1) ?_
    by_cases c2 : v1 ≤ l2
    · rw [if_pos c2] at H
      refine ev_bt hc_X10_passHour (fe_X10_passHour (pc := 16) rfl) rfl c2 ?_
      refine ev_go hc_X10_passHour (k := 1) (pc' := 40) (L' := [.ref l0, .int l1, .int l2]) (S' := [.ref l0]) rfl ?_
      obtain ⟨v3, ev3, H⟩ := Option.bind_eq_some_iff.mp H
      refine ev_4 hc_X10_passHour (fe_X10_passHour (pc := 40) rfl) (gR_gf ev3) ?_
      refine ev_go hc_X10_passHour (k := 1) (pc' := 44) (L' := [.ref l0, .int l1, .int l2]) (S' := [.ref v3, .ref v3]) rfl ?_
      obtain ⟨v4, ev4, H⟩ := Option.bind_eq_some_iff.mp H
      refine ev_4 hc_X10_passHour (fe_X10_passHour (pc := 44) rfl) (gI_gf ev4) ?_
      refine ev_go hc_X10_passHour (k := 2) (pc' := 49) (L' := [.ref l0, .int l1, .int l2]) (S' := [.int (v4 + 1), .ref v3]) rfl ?_
      obtain ⟨h5, eh5, H⟩ := Option.bind_eq_some_iff.mp H
      refine ev_5 hc_X10_passHour (fe_X10_passHour (pc := 49) rfl) (pF_pf eh5) ?_
      refine ev_go hc_X10_passHour (k := 1) (pc' := 53) (L' := [.ref l0, .int l1, .int l2]) (S' := [.int l1]) rfl ?_
      obtain rfl := Option.some.inj H
      exact ev_8 hc_X10_passHour (fe_X10_passHour (pc := 53) rfl) rfl
    · rw [if_neg c2] at H
      refine ev_bf hc_X10_passHour (fe_X10_passHour (pc := 16) rfl) rfl c2 ?_
      refine ev_go hc_X10_passHour (k := 5) (pc' := 24) (L' := [.ref l0, .int l1, .int l2]) (S' := [.int ((l1 >>> (l2 &&& 31)) &&& 1)]) rfl ?_
      by_cases c6 : ((l1 >>> (l2 &&& 31)) &&& 1) = 0
      · rw [if_pos c6] at H
        refine ev_bt hc_X10_passHour (fe_X10_passHour (pc := 24) rfl) rfl c6 ?_
        exact Ev.weak (ci_le_c (Or.inr rfl) (ci_le_c (Or.inr rfl) (ci_le_c (Or.inr rfl) (ci_le_n)))) (eb_X10_passHour_33 hd ih H)
      · rw [if_neg c6] at H
        refine ev_bf hc_X10_passHour (fe_X10_passHour (pc := 24) rfl) rfl c6 ?_
        refine ev_go hc_X10_passHour (k := 3) (pc' := 30) (L' := [.ref l0, .int l1, .int l2]) (S' := [.int ((-1)), .int l2, .ref l0]) rfl ?_
        obtain ⟨h7, eh7, H⟩ := Option.bind_eq_some_iff.mp H
        refine ev_call (vs := [.ref l0, .int l2, .int ((-1))]) (rest := []) (q := q_X10_hand) hc_X10_passHour (Or.inr rfl) (fe_X10_passHour (pc := 30) rfl) ms_85 rfl rfl (Nat.le_of_ble_eq_true rfl) (kO_recv (K_X10_hand eh7)) (E_X10_hand eh7 (by omega)) rfl ?_
        show Ev xs N (d + 1) 92 33 [.ref l0, .int l1, .int l2] [] h7 nx _
        exact Ev.weak (ci_le_c (Or.inr rfl) (ci_le_c (Or.inr rfl) (ci_le_c (Or.inr rfl) (ci_le_n)))) (eb_X10_passHour_33 hd ih H)
def F_X10_passHour (a0 : Nat) (h : ci_H) : Option (Int32 × ci_H) := if kO h a0 = some 10 then ((F_X10_visited a0 h).bind fun q1 => (F_X10_seizedFrom a0 q1.1 q1.2).bind fun q2 => b_X10_passHour_11 a0 q2.1 bigN 0 q2.2) else none
theorem K_X10_passHour {a0 : Nat} {h : ci_H} {r : Int32 × ci_H} (H : F_X10_passHour a0 h = some r) : kO h a0 = some 10 := by
  unfold F_X10_passHour at H
  by_cases c : kO h a0 = some 10
  · exact c
  · rw [if_neg c] at H; cases H
set_option maxHeartbeats 4000000 in
set_option maxRecDepth 20000 in
theorem E_X10_passHour {xs : Nat → Int32} {N d : Nat} {nx : ci_N} {a0 : Nat} {h : ci_H} {r : Int32 × ci_H} (H : F_X10_passHour a0 h = some r) (hd : 3 ≤ d) : Ev xs N d 92 0 (ci_entry [.ref a0] 3) [] h nx (oI r nx) := by
  obtain ⟨d, rfl⟩ : ∃ d2, d = d2 + 1 := ⟨d - 1, by omega⟩
  have hd : 2 ≤ d := by omega
  unfold F_X10_passHour at H
  by_cases ck : kO h a0 = some 10
  · rw [if_pos ck] at H
    show Ev xs N (d + 1) 92 0 [.ref a0, ci_junk, ci_junk] [] h nx _
    refine ev_go hc_X10_passHour (k := 2) (pc' := 2) (L' := [.ref a0, ci_junk, ci_junk]) (S' := [.ref a0, .ref a0]) rfl ?_
    obtain ⟨q1, eq1, H⟩ := Option.bind_eq_some_iff.mp H
    refine ev_call (vs := [.ref a0]) (rest := [.ref a0]) (q := q_X10_visited) hc_X10_passHour (Or.inr rfl) (fe_X10_passHour (pc := 2) rfl) ms_90 rfl rfl (Nat.le_of_ble_eq_true rfl) (kO_recv (K_X10_visited eq1)) (E_X10_visited eq1 (by omega)) rfl ?_
    show Ev xs N (d + 1) 92 5 [.ref a0, ci_junk, ci_junk] [.int q1.1, .ref a0] q1.2 nx _
    obtain ⟨q2, eq2, H⟩ := Option.bind_eq_some_iff.mp H
    refine ev_call (vs := [.ref a0, .int q1.1]) (rest := []) (q := q_X10_seizedFrom) hc_X10_passHour (Or.inr rfl) (fe_X10_passHour (pc := 5) rfl) ms_91 rfl rfl (Nat.le_of_ble_eq_true rfl) (kO_recv (K_X10_seizedFrom eq2)) (E_X10_seizedFrom eq2 (by omega)) rfl ?_
    show Ev xs N (d + 1) 92 8 [.ref a0, ci_junk, ci_junk] [.int q2.1] q2.2 nx _
    refine ev_go hc_X10_passHour (k := 3) (pc' := 11) (L' := [.ref a0, .int q2.1, .int 0]) (S' := []) rfl ?_
    exact Ev.weak (ci_le_c (Or.inr rfl) (ci_le_c (Or.inr rfl) (ci_le_c (Or.inr rfl) (ci_le_n)))) (eb_X10_passHour_11 hd bigN _ _ _ H)
  · rw [if_neg ck] at H; cases H
theorem hc_X10_passHours : ci_code (ci_Ms 93) = k_X10_passHours := rfl
theorem fe_X10_passHours {pc : Nat} {w : Option ci_I} (h : (k_X10_passHours)[pc]? = some w) : (k_X10_passHours)[pc]? = some w := h
def b_X10_passHours_26 (l0 : Nat) (l1 : Int32) (l2 : Int32) : Nat → Int32 → Int32 → ci_H → Option (Int32 × ci_H)
  | 0, _, _, _ => none
  | n + 1, l3, l4, h => if l2 ≤ l4 then ((gR h l0 10 0).bind fun v2 => (gI h v2 6 4).bind fun v3 => (pF h v2 6 4 (.int (v3 + (l1 - l2)))).bind fun h4 => some (l3, h4)) else ((F_X10_passHour l0 h).bind fun q5 => b_X10_passHours_26 l0 l1 l2 n (l3 ||| q5.1) (l4 + 1) q5.2)
set_option maxHeartbeats 4000000 in
set_option maxRecDepth 20000 in
theorem eb_X10_passHours_26 {xs : Nat → Int32} {N d : Nat} {nx : ci_N} {l0 : Nat} {l1 : Int32} {l2 : Int32} (hd : 3 ≤ d) : ∀ (n : Nat) (l3 : Int32) (l4 : Int32) (h : ci_H) (r : Int32 × ci_H), b_X10_passHours_26 l0 l1 l2 n l3 l4 h = some r → Ev xs N (d + 1) 93 26 [.ref l0, .int l1, .int l2, .int l3, .int l4] [] h nx (oI r nx) := by
  intro n
  induction n with
  | zero => intro l3 l4 h r H; unfold b_X10_passHours_26 at H; cases H
  | succ n ih =>
    intro l3 l4 h r H
    unfold b_X10_passHours_26 at H
    refine ev_go hc_X10_passHours (k := 2) (pc' := 29) (L' := [.ref l0, .int l1, .int l2, .int l3, .int l4]) (S' := [.int l2, .int l4]) rfl ?_
    by_cases c1 : l2 ≤ l4
    · rw [if_pos c1] at H
      refine ev_bt hc_X10_passHours (fe_X10_passHours (pc := 29) rfl) rfl c1 ?_
      refine ev_go hc_X10_passHours (k := 1) (pc' := 46) (L' := [.ref l0, .int l1, .int l2, .int l3, .int l4]) (S' := [.ref l0]) rfl ?_
      obtain ⟨v2, ev2, H⟩ := Option.bind_eq_some_iff.mp H
      refine ev_4 hc_X10_passHours (fe_X10_passHours (pc := 46) rfl) (gR_gf ev2) ?_
      refine ev_go hc_X10_passHours (k := 1) (pc' := 50) (L' := [.ref l0, .int l1, .int l2, .int l3, .int l4]) (S' := [.ref v2, .ref v2]) rfl ?_
      obtain ⟨v3, ev3, H⟩ := Option.bind_eq_some_iff.mp H
      refine ev_4 hc_X10_passHours (fe_X10_passHours (pc := 50) rfl) (gI_gf ev3) ?_
      refine ev_go hc_X10_passHours (k := 4) (pc' := 57) (L' := [.ref l0, .int l1, .int l2, .int l3, .int l4]) (S' := [.int (v3 + (l1 - l2)), .ref v2]) rfl ?_
      obtain ⟨h4, eh4, H⟩ := Option.bind_eq_some_iff.mp H
      refine ev_5 hc_X10_passHours (fe_X10_passHours (pc := 57) rfl) (pF_pf eh4) ?_
      refine ev_go hc_X10_passHours (k := 1) (pc' := 61) (L' := [.ref l0, .int l1, .int l2, .int l3, .int l4]) (S' := [.int l3]) rfl ?_
      obtain rfl := Option.some.inj H
      exact ev_8 hc_X10_passHours (fe_X10_passHours (pc := 61) rfl) rfl
    · rw [if_neg c1] at H
      refine ev_bf hc_X10_passHours (fe_X10_passHours (pc := 29) rfl) rfl c1 ?_
      refine ev_go hc_X10_passHours (k := 2) (pc' := 34) (L' := [.ref l0, .int l1, .int l2, .int l3, .int l4]) (S' := [.ref l0, .int l3]) rfl ?_
      obtain ⟨q5, eq5, H⟩ := Option.bind_eq_some_iff.mp H
      refine ev_call (vs := [.ref l0]) (rest := [.int l3]) (q := q_X10_passHour) hc_X10_passHours (Or.inr rfl) (fe_X10_passHours (pc := 34) rfl) ms_92 rfl rfl (Nat.le_of_ble_eq_true rfl) (kO_recv (K_X10_passHour eq5)) (E_X10_passHour eq5 (by omega)) rfl ?_
      show Ev xs N (d + 1) 93 37 [.ref l0, .int l1, .int l2, .int l3, .int l4] [.int q5.1, .int l3] q5.2 nx _
      refine ev_go hc_X10_passHours (k := 4) (pc' := 26) (L' := [.ref l0, .int l1, .int l2, .int (l3 ||| q5.1), .int (l4 + 1)]) (S' := []) rfl ?_
      exact Ev.weak (ci_le_c (Or.inr rfl) (ci_le_c (Or.inr rfl) (ci_le_c (Or.inr rfl) (ci_le_c (Or.inr rfl) (ci_le_c (Or.inr rfl) (ci_le_n)))))) (ih _ _ _ _ H)
def F_X10_passHours (a0 : Nat) (a1 : Int32) (h : ci_H) : Option (Int32 × ci_H) := if kO h a0 = some 10 then (if a1 < 0 then (some ((-1), h)) else (if a1 ≤ 60 then ((gI h a0 10 5).bind fun v3 => b_X10_passHours_26 a0 a1 (if v3 < a1 then v3 else a1) bigN 0 0 h) else (some ((-1), h)))) else none
theorem K_X10_passHours {a0 : Nat} {a1 : Int32} {h : ci_H} {r : Int32 × ci_H} (H : F_X10_passHours a0 a1 h = some r) : kO h a0 = some 10 := by
  unfold F_X10_passHours at H
  by_cases c : kO h a0 = some 10
  · exact c
  · rw [if_neg c] at H; cases H
set_option maxHeartbeats 4000000 in
set_option maxRecDepth 20000 in
theorem E_X10_passHours {xs : Nat → Int32} {N d : Nat} {nx : ci_N} {a0 : Nat} {a1 : Int32} {h : ci_H} {r : Int32 × ci_H} (H : F_X10_passHours a0 a1 h = some r) (hd : 4 ≤ d) : Ev xs N d 93 0 (ci_entry [.ref a0, .int a1] 5) [] h nx (oI r nx) := by
  obtain ⟨d, rfl⟩ : ∃ d2, d = d2 + 1 := ⟨d - 1, by omega⟩
  have hd : 3 ≤ d := by omega
  unfold F_X10_passHours at H
  by_cases ck : kO h a0 = some 10
  · rw [if_pos ck] at H
    show Ev xs N (d + 1) 93 0 [.ref a0, .int a1, ci_junk, ci_junk, ci_junk] [] h nx _
    refine ev_go hc_X10_passHours (k := 1) (pc' := 1) (L' := [.ref a0, .int a1, ci_junk, ci_junk, ci_junk]) (S' := [.int a1]) rfl ?_
    by_cases c1 : a1 < 0
    · rw [if_pos c1] at H
      refine ev_bt hc_X10_passHours (fe_X10_passHours (pc := 1) rfl) rfl c1 ?_
      refine ev_go hc_X10_passHours (k := 1) (pc' := 11) (L' := [.ref a0, .int a1, ci_junk, ci_junk, ci_junk]) (S' := [.int ((-1))]) rfl ?_
      obtain rfl := Option.some.inj H
      exact ev_8 hc_X10_passHours (fe_X10_passHours (pc := 11) rfl) rfl
    · rw [if_neg c1] at H
      refine ev_bf hc_X10_passHours (fe_X10_passHours (pc := 1) rfl) rfl c1 ?_
      refine ev_go hc_X10_passHours (k := 2) (pc' := 7) (L' := [.ref a0, .int a1, ci_junk, ci_junk, ci_junk]) (S' := [.int 60, .int a1]) rfl ?_
      by_cases c2 : a1 ≤ 60
      · rw [if_pos c2] at H
        refine ev_bt hc_X10_passHours (fe_X10_passHours (pc := 7) rfl) rfl c2 ?_
        refine ev_go hc_X10_passHours (k := 2) (pc' := 14) (L' := [.ref a0, .int a1, ci_junk, ci_junk, ci_junk]) (S' := [.ref a0, .int a1]) rfl ?_
        obtain ⟨v3, ev3, H⟩ := Option.bind_eq_some_iff.mp H
        refine ev_4 hc_X10_passHours (fe_X10_passHours (pc := 14) rfl) (gI_gf ev3) ?_
        refine ev_15 hc_X10_passHours (fe_X10_passHours (pc := 17) rfl) (S' := [.int (if v3 < a1 then v3 else a1)]) rfl ?_
        refine ev_go hc_X10_passHours (k := 5) (pc' := 26) (L' := [.ref a0, .int a1, .int (if v3 < a1 then v3 else a1), .int 0, .int 0]) (S' := []) rfl ?_
        exact Ev.weak (ci_le_c (Or.inr rfl) (ci_le_c (Or.inr rfl) (ci_le_c (Or.inr rfl) (ci_le_c (Or.inr rfl) (ci_le_c (Or.inr rfl) (ci_le_n)))))) (eb_X10_passHours_26 hd bigN _ _ _ _ H)
      · rw [if_neg c2] at H
        refine ev_bf hc_X10_passHours (fe_X10_passHours (pc := 7) rfl) rfl c2 ?_
        refine ev_go hc_X10_passHours (k := 1) (pc' := 11) (L' := [.ref a0, .int a1, ci_junk, ci_junk, ci_junk]) (S' := [.int ((-1))]) rfl ?_
        obtain rfl := Option.some.inj H
        exact ev_8 hc_X10_passHours (fe_X10_passHours (pc := 11) rfl) rfl
  · rw [if_neg ck] at H; cases H
theorem hc_X11_sign : ci_code (ci_Ms 95) = k_X11_sign := rfl
theorem fe_X11_sign {pc : Nat} {w : Option ci_I} (h : (k_X11_sign)[pc]? = some w) : (k_X11_sign)[pc]? = some w := h
def b_X11_sign_19 (l0 : Nat) (l1 : Int32) : Nat → Int32 → ci_H → Option (Int32 × ci_H)
  | 0, _, _ => none
  | n + 1, l2, h => if l2 < 0 then ((gR h l0 11 1).bind fun v2 => (gI h v2 9 1).bind fun v3 => some (v3, h)) else ((gR h l0 11 1).bind fun v4 => (F_X9_append v4 ((((l1 : Int32).toUInt32 >>> ((l2 : Int32).toUInt32 &&& Int32.toUInt32 31)).toInt32) &&& 255) h).bind fun h5 => b_X11_sign_19 l0 l1 n (l2 + (-8)) h5)
set_option maxHeartbeats 4000000 in
set_option maxRecDepth 20000 in
theorem eb_X11_sign_19 {xs : Nat → Int32} {N d : Nat} {nx : ci_N} {l0 : Nat} {l1 : Int32} (hd : 0 ≤ d) : ∀ (n : Nat) (l2 : Int32) (h : ci_H) (r : Int32 × ci_H), b_X11_sign_19 l0 l1 n l2 h = some r → Ev xs N (d + 1) 95 19 [.ref l0, .int l1, .int l2] [] h nx (oI r nx) := by
  intro n
  induction n with
  | zero => intro l2 h r H; unfold b_X11_sign_19 at H; cases H
  | succ n ih =>
    intro l2 h r H
    unfold b_X11_sign_19 at H
    refine ev_go hc_X11_sign (k := 1) (pc' := 20) (L' := [.ref l0, .int l1, .int l2]) (S' := [.int l2]) rfl ?_
    by_cases c1 : l2 < 0
    · rw [if_pos c1] at H
      refine ev_bt hc_X11_sign (fe_X11_sign (pc := 20) rfl) rfl c1 ?_
      refine ev_go hc_X11_sign (k := 1) (pc' := 44) (L' := [.ref l0, .int l1, .int l2]) (S' := [.ref l0]) rfl ?_
      obtain ⟨v2, ev2, H⟩ := Option.bind_eq_some_iff.mp H
      refine ev_4 hc_X11_sign (fe_X11_sign (pc := 44) rfl) (gR_gf ev2) ?_
      obtain ⟨v3, ev3, H⟩ := Option.bind_eq_some_iff.mp H
      refine ev_4 hc_X11_sign (fe_X11_sign (pc := 47) rfl) (gI_gf ev3) ?_
      obtain rfl := Option.some.inj H
      exact ev_8 hc_X11_sign (fe_X11_sign (pc := 50) rfl) rfl
    · rw [if_neg c1] at H
      refine ev_bf hc_X11_sign (fe_X11_sign (pc := 20) rfl) rfl c1 ?_
      refine ev_go hc_X11_sign (k := 1) (pc' := 24) (L' := [.ref l0, .int l1, .int l2]) (S' := [.ref l0]) rfl ?_
      obtain ⟨v4, ev4, H⟩ := Option.bind_eq_some_iff.mp H
      refine ev_4 hc_X11_sign (fe_X11_sign (pc := 24) rfl) (gR_gf ev4) ?_
      refine ev_go hc_X11_sign (k := 5) (pc' := 34) (L' := [.ref l0, .int l1, .int l2]) (S' := [.int ((((l1 : Int32).toUInt32 >>> ((l2 : Int32).toUInt32 &&& Int32.toUInt32 31)).toInt32) &&& 255), .ref v4]) rfl ?_
      obtain ⟨h5, eh5, H⟩ := Option.bind_eq_some_iff.mp H
      refine ev_call (vs := [.ref v4, .int ((((l1 : Int32).toUInt32 >>> ((l2 : Int32).toUInt32 &&& Int32.toUInt32 31)).toInt32) &&& 255)]) (rest := []) (q := q_X9_append) hc_X11_sign (Or.inr rfl) (fe_X11_sign (pc := 34) rfl) ms_51 rfl rfl (Nat.le_of_ble_eq_true rfl) (kO_recv (K_X9_append eh5)) (E_X9_append eh5 (by omega)) rfl ?_
      show Ev xs N (d + 1) 95 37 [.ref l0, .int l1, .int l2] [] h5 nx _
      refine ev_go hc_X11_sign (k := 2) (pc' := 19) (L' := [.ref l0, .int l1, .int (l2 + (-8))]) (S' := []) rfl ?_
      exact Ev.weak (ci_le_c (Or.inr rfl) (ci_le_c (Or.inr rfl) (ci_le_c (Or.inr rfl) (ci_le_n)))) (ih _ _ _ H)
def F_X11_sign (a0 : Nat) (a1 : Int32) (h : ci_H) : Option (Int32 × ci_H) := if kO h a0 = some 11 then ((gR h a0 11 1).bind fun v1 => (gI h v1 9 1).bind fun v2 => if (v2 + 4) ≤ 80 then (b_X11_sign_19 a0 a1 bigN 24 h) else (some ((-1), h))) else none
theorem K_X11_sign {a0 : Nat} {a1 : Int32} {h : ci_H} {r : Int32 × ci_H} (H : F_X11_sign a0 a1 h = some r) : kO h a0 = some 11 := by
  unfold F_X11_sign at H
  by_cases c : kO h a0 = some 11
  · exact c
  · rw [if_neg c] at H; cases H
set_option maxHeartbeats 4000000 in
set_option maxRecDepth 20000 in
theorem E_X11_sign {xs : Nat → Int32} {N d : Nat} {nx : ci_N} {a0 : Nat} {a1 : Int32} {h : ci_H} {r : Int32 × ci_H} (H : F_X11_sign a0 a1 h = some r) (hd : 1 ≤ d) : Ev xs N d 95 0 (ci_entry [.ref a0, .int a1] 3) [] h nx (oI r nx) := by
  obtain ⟨d, rfl⟩ : ∃ d2, d = d2 + 1 := ⟨d - 1, by omega⟩
  have hd : 0 ≤ d := by omega
  unfold F_X11_sign at H
  by_cases ck : kO h a0 = some 11
  · rw [if_pos ck] at H
    show Ev xs N (d + 1) 95 0 [.ref a0, .int a1, ci_junk] [] h nx _
    refine ev_go hc_X11_sign (k := 1) (pc' := 1) (L' := [.ref a0, .int a1, ci_junk]) (S' := [.ref a0]) rfl ?_
    obtain ⟨v1, ev1, H⟩ := Option.bind_eq_some_iff.mp H
    refine ev_4 hc_X11_sign (fe_X11_sign (pc := 1) rfl) (gR_gf ev1) ?_
    obtain ⟨v2, ev2, H⟩ := Option.bind_eq_some_iff.mp H
    refine ev_4 hc_X11_sign (fe_X11_sign (pc := 4) rfl) (gI_gf ev2) ?_
    refine ev_go hc_X11_sign (k := 3) (pc' := 11) (L' := [.ref a0, .int a1, ci_junk]) (S' := [.int 80, .int (v2 + 4)]) rfl ?_
    by_cases c3 : (v2 + 4) ≤ 80
    · rw [if_pos c3] at H
      refine ev_bt hc_X11_sign (fe_X11_sign (pc := 11) rfl) rfl c3 ?_
      refine ev_go hc_X11_sign (k := 2) (pc' := 19) (L' := [.ref a0, .int a1, .int 24]) (S' := []) rfl ?_
      exact Ev.weak (ci_le_c (Or.inr rfl) (ci_le_c (Or.inr rfl) (ci_le_c (Or.inr rfl) (ci_le_n)))) (eb_X11_sign_19 hd bigN _ _ _ H)
    · rw [if_neg c3] at H
      refine ev_bf hc_X11_sign (fe_X11_sign (pc := 11) rfl) rfl c3 ?_
      refine ev_go hc_X11_sign (k := 1) (pc' := 15) (L' := [.ref a0, .int a1, ci_junk]) (S' := [.int ((-1))]) rfl ?_
      obtain rfl := Option.some.inj H
      exact ev_8 hc_X11_sign (fe_X11_sign (pc := 15) rfl) rfl
  · rw [if_neg ck] at H; cases H
theorem hc_X11_end : ci_code (ci_Ms 96) = k_X11_end := rfl
theorem fe_X11_end {pc : Nat} {w : Option ci_I} (h : (k_X11_end)[pc]? = some w) : (k_X11_end)[pc]? = some w := h
def F_X11_end (a0 : Nat) (a1 : Int32) (h : ci_H) : Option (Int32 × ci_H) := if kO h a0 = some 11 then (if a1 < 0 then (some (0, h)) else ((gR h a0 11 1).bind fun v2 => (gI h v2 9 1).bind fun v3 => if a1 ≤ v3 then ((gR h a0 11 1).bind fun v5 => (pF h v5 9 1 (.int a1)).bind fun h6 => some (1, h6)) else (some (0, h)))) else none
theorem K_X11_end {a0 : Nat} {a1 : Int32} {h : ci_H} {r : Int32 × ci_H} (H : F_X11_end a0 a1 h = some r) : kO h a0 = some 11 := by
  unfold F_X11_end at H
  by_cases c : kO h a0 = some 11
  · exact c
  · rw [if_neg c] at H; cases H
set_option maxHeartbeats 4000000 in
set_option maxRecDepth 20000 in
theorem E_X11_end {xs : Nat → Int32} {N d : Nat} {nx : ci_N} {a0 : Nat} {a1 : Int32} {h : ci_H} {r : Int32 × ci_H} (H : F_X11_end a0 a1 h = some r) (hd : 0 ≤ d) : Ev xs N d 96 0 (ci_entry [.ref a0, .int a1] 2) [] h nx (oI r nx) := by
  unfold F_X11_end at H
  by_cases ck : kO h a0 = some 11
  · rw [if_pos ck] at H
    show Ev xs N d 96 0 [.ref a0, .int a1] [] h nx _
    refine ev_go hc_X11_end (k := 1) (pc' := 1) (L' := [.ref a0, .int a1]) (S' := [.int a1]) rfl ?_
    by_cases c1 : a1 < 0
    · rw [if_pos c1] at H
      refine ev_bt hc_X11_end (fe_X11_end (pc := 1) rfl) rfl c1 ?_
      refine ev_go hc_X11_end (k := 1) (pc' := 16) (L' := [.ref a0, .int a1]) (S' := [.int 0]) rfl ?_
      obtain rfl := Option.some.inj H
      exact ev_8z hc_X11_end (fe_X11_end (pc := 16) rfl) rfl (Or.inl rfl)
    · rw [if_neg c1] at H
      refine ev_bf hc_X11_end (fe_X11_end (pc := 1) rfl) rfl c1 ?_
      refine ev_go hc_X11_end (k := 2) (pc' := 6) (L' := [.ref a0, .int a1]) (S' := [.ref a0, .int a1]) rfl ?_
      obtain ⟨v2, ev2, H⟩ := Option.bind_eq_some_iff.mp H
      refine ev_4 hc_X11_end (fe_X11_end (pc := 6) rfl) (gR_gf ev2) ?_
      obtain ⟨v3, ev3, H⟩ := Option.bind_eq_some_iff.mp H
      refine ev_4 hc_X11_end (fe_X11_end (pc := 9) rfl) (gI_gf ev3) ?_
      by_cases c4 : a1 ≤ v3
      · rw [if_pos c4] at H
        refine ev_bt hc_X11_end (fe_X11_end (pc := 12) rfl) rfl c4 ?_
        refine ev_go hc_X11_end (k := 1) (pc' := 18) (L' := [.ref a0, .int a1]) (S' := [.ref a0]) rfl ?_
        obtain ⟨v5, ev5, H⟩ := Option.bind_eq_some_iff.mp H
        refine ev_4 hc_X11_end (fe_X11_end (pc := 18) rfl) (gR_gf ev5) ?_
        refine ev_go hc_X11_end (k := 1) (pc' := 22) (L' := [.ref a0, .int a1]) (S' := [.int a1, .ref v5]) rfl ?_
        obtain ⟨h6, eh6, H⟩ := Option.bind_eq_some_iff.mp H
        refine ev_5 hc_X11_end (fe_X11_end (pc := 22) rfl) (pF_pf eh6) ?_
        refine ev_go hc_X11_end (k := 1) (pc' := 26) (L' := [.ref a0, .int a1]) (S' := [.int 1]) rfl ?_
        obtain rfl := Option.some.inj H
        exact ev_8z hc_X11_end (fe_X11_end (pc := 26) rfl) rfl (Or.inr rfl)
      · rw [if_neg c4] at H
        refine ev_bf hc_X11_end (fe_X11_end (pc := 12) rfl) rfl c4 ?_
        refine ev_go hc_X11_end (k := 1) (pc' := 16) (L' := [.ref a0, .int a1]) (S' := [.int 0]) rfl ?_
        obtain rfl := Option.some.inj H
        exact ev_8z hc_X11_end (fe_X11_end (pc := 16) rfl) rfl (Or.inl rfl)
  · rw [if_neg ck] at H; cases H
theorem hc_X11_forgetStates : ci_code (ci_Ms 144) = k_X11_forgetStates := rfl
theorem fe_X11_forgetStates {pc : Nat} {w : Option ci_I} (h : (k_X11_forgetStates)[pc]? = some w) : (k_X11_forgetStates)[pc]? = some w := h
def b_X11_forgetStates_10 (l0 : Nat) : Nat → Int32 → ci_H → Option (ci_H)
  | 0, _, _ => none
  | n + 1, l1, h => if 2 ≤ l1 then (some h) else ((gR h l0 11 9).bind fun v2 => (wB h v2 l1 0).bind fun h3 => b_X11_forgetStates_10 l0 n (l1 + 1) h3)
set_option maxHeartbeats 4000000 in
set_option maxRecDepth 20000 in
theorem eb_X11_forgetStates_10 {xs : Nat → Int32} {N d : Nat} {nx : ci_N} {l0 : Nat} : ∀ (n : Nat) (l1 : Int32) (h : ci_H) (r : ci_H), b_X11_forgetStates_10 l0 n l1 h = some r → Ev xs N d 144 10 [.ref l0, .int l1] [] h nx (oV r nx) := by
  intro n
  induction n with
  | zero => intro l1 h r H; unfold b_X11_forgetStates_10 at H; cases H
  | succ n ih =>
    intro l1 h r H
    unfold b_X11_forgetStates_10 at H
    refine ev_go hc_X11_forgetStates (k := 2) (pc' := 12) (L' := [.ref l0, .int l1]) (S' := [.int 2, .int l1]) rfl ?_
    by_cases c1 : 2 ≤ l1
    · rw [if_pos c1] at H
      refine ev_bt hc_X11_forgetStates (fe_X11_forgetStates (pc := 12) rfl) rfl c1 ?_
      obtain rfl := Option.some.inj H
      exact ev_8 hc_X11_forgetStates (fe_X11_forgetStates (pc := 28) rfl) rfl
    · rw [if_neg c1] at H
      refine ev_bf hc_X11_forgetStates (fe_X11_forgetStates (pc := 12) rfl) rfl c1 ?_
      refine ev_go hc_X11_forgetStates (k := 1) (pc' := 16) (L' := [.ref l0, .int l1]) (S' := [.ref l0]) rfl ?_
      obtain ⟨v2, ev2, H⟩ := Option.bind_eq_some_iff.mp H
      refine ev_4 hc_X11_forgetStates (fe_X11_forgetStates (pc := 16) rfl) (gR_gf ev2) ?_
      refine ev_go hc_X11_forgetStates (k := 2) (pc' := 21) (L' := [.ref l0, .int l1]) (S' := [.int 0, .int l1, .ref v2]) rfl ?_
      obtain ⟨h3, eh3, H⟩ := Option.bind_eq_some_iff.mp H
      refine ev_5 hc_X11_forgetStates (fe_X11_forgetStates (pc := 21) rfl) (wB_as eh3) ?_
      refine ev_go hc_X11_forgetStates (k := 2) (pc' := 10) (L' := [.ref l0, .int (l1 + 1)]) (S' := []) rfl ?_
      exact Ev.weak (ci_le_c (Or.inr rfl) (ci_le_c (Or.inr rfl) (ci_le_n))) (ih _ _ _ H)
def F_X11_forgetStates (a0 : Nat) (h : ci_H) : Option (ci_H) := if kO h a0 = some 11 then ((gR h a0 11 5).bind fun v1 => (pF h v1 2 2 (.int 0)).bind fun h2 => b_X11_forgetStates_10 a0 bigN 0 h2) else none
theorem K_X11_forgetStates {a0 : Nat} {h : ci_H} {r : ci_H} (H : F_X11_forgetStates a0 h = some r) : kO h a0 = some 11 := by
  unfold F_X11_forgetStates at H
  by_cases c : kO h a0 = some 11
  · exact c
  · rw [if_neg c] at H; cases H
set_option maxHeartbeats 4000000 in
set_option maxRecDepth 20000 in
theorem E_X11_forgetStates {xs : Nat → Int32} {N d : Nat} {nx : ci_N} {a0 : Nat} {h : ci_H} {r : ci_H} (H : F_X11_forgetStates a0 h = some r) (hd : 0 ≤ d) : Ev xs N d 144 0 (ci_entry [.ref a0] 2) [] h nx (oV r nx) := by
  unfold F_X11_forgetStates at H
  by_cases ck : kO h a0 = some 11
  · rw [if_pos ck] at H
    show Ev xs N d 144 0 [.ref a0, ci_junk] [] h nx _
    refine ev_go hc_X11_forgetStates (k := 1) (pc' := 1) (L' := [.ref a0, ci_junk]) (S' := [.ref a0]) rfl ?_
    obtain ⟨v1, ev1, H⟩ := Option.bind_eq_some_iff.mp H
    refine ev_4 hc_X11_forgetStates (fe_X11_forgetStates (pc := 1) rfl) (gR_gf ev1) ?_
    refine ev_go hc_X11_forgetStates (k := 1) (pc' := 5) (L' := [.ref a0, ci_junk]) (S' := [.int 0, .ref v1]) rfl ?_
    obtain ⟨h2, eh2, H⟩ := Option.bind_eq_some_iff.mp H
    refine ev_5 hc_X11_forgetStates (fe_X11_forgetStates (pc := 5) rfl) (pF_pf eh2) ?_
    refine ev_go hc_X11_forgetStates (k := 2) (pc' := 10) (L' := [.ref a0, .int 0]) (S' := []) rfl ?_
    exact Ev.weak (ci_le_c (Or.inr rfl) (ci_le_c (Or.inr rfl) (ci_le_n))) (eb_X11_forgetStates_10 bigN _ _ _ H)
  · rw [if_neg ck] at H; cases H
theorem hc_X11_houses : ci_code (ci_Ms 97) = k_X11_houses := rfl
theorem fe_X11_houses {pc : Nat} {w : Option ci_I} (h : (k_X11_houses)[pc]? = some w) : (k_X11_houses)[pc]? = some w := h
def F_X11_houses (a0 : Nat) (a1 : Int32) (h : ci_H) : Option (Int32 × ci_H) := if kO h a0 = some 11 then (if a1 < 1 then (some ((-1), h)) else (if 5 < a1 then (some ((-1), h)) else ((gR h a0 11 0).bind fun v3 => (F_X10_needsHousesFrom v3 a1 h).bind fun q4 => if q4.1 = 0 then ((gR q4.2 a0 11 0).bind fun v6 => (gI q4.2 v6 10 5).bind fun v7 => (gR q4.2 a0 11 0).bind fun v8 => (F_X10_settle v8 a1 q4.2).bind fun h9 => (F_X11_forgetStates a0 h9).bind fun h10 => some (v7, h10)) else (some ((-1), q4.2))))) else none
theorem K_X11_houses {a0 : Nat} {a1 : Int32} {h : ci_H} {r : Int32 × ci_H} (H : F_X11_houses a0 a1 h = some r) : kO h a0 = some 11 := by
  unfold F_X11_houses at H
  by_cases c : kO h a0 = some 11
  · exact c
  · rw [if_neg c] at H; cases H
set_option maxHeartbeats 4000000 in
set_option maxRecDepth 20000 in
theorem E_X11_houses {xs : Nat → Int32} {N d : Nat} {nx : ci_N} {a0 : Nat} {a1 : Int32} {h : ci_H} {r : Int32 × ci_H} (H : F_X11_houses a0 a1 h = some r) (hd : 1 ≤ d) : Ev xs N d 97 0 (ci_entry [.ref a0, .int a1] 3) [] h nx (oI r nx) := by
  obtain ⟨d, rfl⟩ : ∃ d2, d = d2 + 1 := ⟨d - 1, by omega⟩
  have hd : 0 ≤ d := by omega
  unfold F_X11_houses at H
  by_cases ck : kO h a0 = some 11
  · rw [if_pos ck] at H
    show Ev xs N (d + 1) 97 0 [.ref a0, .int a1, ci_junk] [] h nx _
    refine ev_go hc_X11_houses (k := 2) (pc' := 2) (L' := [.ref a0, .int a1, ci_junk]) (S' := [.int 1, .int a1]) rfl ?_
    by_cases c1 : a1 < 1
    · rw [if_pos c1] at H
      refine ev_bt hc_X11_houses (fe_X11_houses (pc := 2) rfl) rfl c1 ?_
      refine ev_go hc_X11_houses (k := 1) (pc' := 22) (L' := [.ref a0, .int a1, ci_junk]) (S' := [.int ((-1))]) rfl ?_
      obtain rfl := Option.some.inj H
      exact ev_8 hc_X11_houses (fe_X11_houses (pc := 22) rfl) rfl
    · rw [if_neg c1] at H
      refine ev_bf hc_X11_houses (fe_X11_houses (pc := 2) rfl) rfl c1 ?_
      refine ev_go hc_X11_houses (k := 2) (pc' := 7) (L' := [.ref a0, .int a1, ci_junk]) (S' := [.int 5, .int a1]) rfl ?_
      by_cases c2 : 5 < a1
      · rw [if_pos c2] at H
        refine ev_bt hc_X11_houses (fe_X11_houses (pc := 7) rfl) rfl c2 ?_
        refine ev_go hc_X11_houses (k := 1) (pc' := 22) (L' := [.ref a0, .int a1, ci_junk]) (S' := [.int ((-1))]) rfl ?_
        obtain rfl := Option.some.inj H
        exact ev_8 hc_X11_houses (fe_X11_houses (pc := 22) rfl) rfl
      · rw [if_neg c2] at H
        refine ev_bf hc_X11_houses (fe_X11_houses (pc := 7) rfl) rfl c2 ?_
        refine ev_go hc_X11_houses (k := 1) (pc' := 11) (L' := [.ref a0, .int a1, ci_junk]) (S' := [.ref a0]) rfl ?_
        obtain ⟨v3, ev3, H⟩ := Option.bind_eq_some_iff.mp H
        refine ev_4 hc_X11_houses (fe_X11_houses (pc := 11) rfl) (gR_gf ev3) ?_
        refine ev_go hc_X11_houses (k := 1) (pc' := 15) (L' := [.ref a0, .int a1, ci_junk]) (S' := [.int a1, .ref v3]) rfl ?_
        obtain ⟨q4, eq4, H⟩ := Option.bind_eq_some_iff.mp H
        refine ev_call (vs := [.ref v3, .int a1]) (rest := []) (q := q_X10_needsHousesFrom) hc_X11_houses (Or.inr rfl) (fe_X11_houses (pc := 15) rfl) ms_67 rfl rfl (Nat.le_of_ble_eq_true rfl) (kO_recv (K_X10_needsHousesFrom eq4)) (E_X10_needsHousesFrom eq4 (by omega)) rfl ?_
        show Ev xs N (d + 1) 97 18 [.ref a0, .int a1, ci_junk] [.int q4.1] q4.2 nx _
        by_cases c5 : q4.1 = 0
        · rw [if_pos c5] at H
          refine ev_bt hc_X11_houses (fe_X11_houses (pc := 18) rfl) rfl c5 ?_
          refine ev_go hc_X11_houses (k := 1) (pc' := 24) (L' := [.ref a0, .int a1, ci_junk]) (S' := [.ref a0]) rfl ?_
          obtain ⟨v6, ev6, H⟩ := Option.bind_eq_some_iff.mp H
          refine ev_4 hc_X11_houses (fe_X11_houses (pc := 24) rfl) (gR_gf ev6) ?_
          obtain ⟨v7, ev7, H⟩ := Option.bind_eq_some_iff.mp H
          refine ev_4 hc_X11_houses (fe_X11_houses (pc := 27) rfl) (gI_gf ev7) ?_
          refine ev_go hc_X11_houses (k := 2) (pc' := 32) (L' := [.ref a0, .int a1, .int v7]) (S' := [.ref a0]) rfl ?_
          obtain ⟨v8, ev8, H⟩ := Option.bind_eq_some_iff.mp H
          refine ev_4 hc_X11_houses (fe_X11_houses (pc := 32) rfl) (gR_gf ev8) ?_
          refine ev_go hc_X11_houses (k := 1) (pc' := 36) (L' := [.ref a0, .int a1, .int v7]) (S' := [.int a1, .ref v8]) rfl ?_
          obtain ⟨h9, eh9, H⟩ := Option.bind_eq_some_iff.mp H
          refine ev_call (vs := [.ref v8, .int a1]) (rest := []) (q := q_X10_settle) hc_X11_houses (Or.inr rfl) (fe_X11_houses (pc := 36) rfl) ms_68 rfl rfl (Nat.le_of_ble_eq_true rfl) (kO_recv (K_X10_settle eh9)) (E_X10_settle eh9 (by omega)) rfl ?_
          show Ev xs N (d + 1) 97 39 [.ref a0, .int a1, .int v7] [] h9 nx _
          refine ev_go hc_X11_houses (k := 1) (pc' := 40) (L' := [.ref a0, .int a1, .int v7]) (S' := [.ref a0]) rfl ?_
          obtain ⟨h10, eh10, H⟩ := Option.bind_eq_some_iff.mp H
          refine ev_call (vs := [.ref a0]) (rest := []) (q := q_X11_forgetStates) hc_X11_houses (Or.inr rfl) (fe_X11_houses (pc := 40) rfl) ms_144 rfl rfl (Nat.le_of_ble_eq_true rfl) (kO_recv (K_X11_forgetStates eh10)) (E_X11_forgetStates eh10 (by omega)) rfl ?_
          show Ev xs N (d + 1) 97 43 [.ref a0, .int a1, .int v7] [] h10 nx _
          refine ev_go hc_X11_houses (k := 1) (pc' := 44) (L' := [.ref a0, .int a1, .int v7]) (S' := [.int v7]) rfl ?_
          obtain rfl := Option.some.inj H
          exact ev_8 hc_X11_houses (fe_X11_houses (pc := 44) rfl) rfl
        · rw [if_neg c5] at H
          refine ev_bf hc_X11_houses (fe_X11_houses (pc := 18) rfl) rfl c5 ?_
          refine ev_go hc_X11_houses (k := 1) (pc' := 22) (L' := [.ref a0, .int a1, ci_junk]) (S' := [.int ((-1))]) rfl ?_
          obtain rfl := Option.some.inj H
          exact ev_8 hc_X11_houses (fe_X11_houses (pc := 22) rfl) rfl
  · rw [if_neg ck] at H; cases H
theorem hc_X11_things : ci_code (ci_Ms 98) = k_X11_things := rfl
theorem fe_X11_things {pc : Nat} {w : Option ci_I} (h : (k_X11_things)[pc]? = some w) : (k_X11_things)[pc]? = some w := h
def F_X11_things (a0 : Nat) (h : ci_H) : Option (Int32 × ci_H) := if kO h a0 = some 11 then ((gR h a0 11 1).bind fun v1 => (gI h v1 9 1).bind fun v2 => if v2 = 0 then (some (0, h)) else ((gR h a0 11 2).bind fun v4 => (gR h a0 11 0).bind fun v5 => (gI h v5 10 6).bind fun v6 => (gR h a0 11 0).bind fun v7 => (gI h v7 10 5).bind fun v8 => (F_X8_readThings v4 (12 - v6) v8 h).bind fun q9 => (gR q9.2 a0 11 1).bind fun v10 => (pF q9.2 v10 9 1 (.int 0)).bind fun h11 => if q9.1 ≤ 0 then (some (q9.1, h11)) else ((gR h11 a0 11 0).bind fun v13 => (gR h11 a0 11 2).bind fun v14 => (F_X10_addThings v13 v14 q9.1 h11).bind fun h15 => (F_X11_forgetStates a0 h15).bind fun h16 => some (q9.1, h16)))) else none
theorem K_X11_things {a0 : Nat} {h : ci_H} {r : Int32 × ci_H} (H : F_X11_things a0 h = some r) : kO h a0 = some 11 := by
  unfold F_X11_things at H
  by_cases c : kO h a0 = some 11
  · exact c
  · rw [if_neg c] at H; cases H
set_option maxHeartbeats 4000000 in
set_option maxRecDepth 20000 in
theorem E_X11_things {xs : Nat → Int32} {N d : Nat} {nx : ci_N} {a0 : Nat} {h : ci_H} {r : Int32 × ci_H} (H : F_X11_things a0 h = some r) (hd : 4 ≤ d) : Ev xs N d 98 0 (ci_entry [.ref a0] 2) [] h nx (oI r nx) := by
  obtain ⟨d, rfl⟩ : ∃ d2, d = d2 + 1 := ⟨d - 1, by omega⟩
  have hd : 3 ≤ d := by omega
  unfold F_X11_things at H
  by_cases ck : kO h a0 = some 11
  · rw [if_pos ck] at H
    show Ev xs N (d + 1) 98 0 [.ref a0, ci_junk] [] h nx _
    refine ev_go hc_X11_things (k := 1) (pc' := 1) (L' := [.ref a0, ci_junk]) (S' := [.ref a0]) rfl ?_
    obtain ⟨v1, ev1, H⟩ := Option.bind_eq_some_iff.mp H
    refine ev_4 hc_X11_things (fe_X11_things (pc := 1) rfl) (gR_gf ev1) ?_
    obtain ⟨v2, ev2, H⟩ := Option.bind_eq_some_iff.mp H
    refine ev_4 hc_X11_things (fe_X11_things (pc := 4) rfl) (gI_gf ev2) ?_
    by_cases c3 : v2 = 0
    · rw [if_pos c3] at H
      refine ev_bt hc_X11_things (fe_X11_things (pc := 7) rfl) rfl c3 ?_
      refine ev_go hc_X11_things (k := 1) (pc' := 11) (L' := [.ref a0, ci_junk]) (S' := [.int 0]) rfl ?_
      obtain rfl := Option.some.inj H
      exact ev_8 hc_X11_things (fe_X11_things (pc := 11) rfl) rfl
    · rw [if_neg c3] at H
      refine ev_bf hc_X11_things (fe_X11_things (pc := 7) rfl) rfl c3 ?_
      refine ev_go hc_X11_things (k := 1) (pc' := 13) (L' := [.ref a0, ci_junk]) (S' := [.ref a0]) rfl ?_
      obtain ⟨v4, ev4, H⟩ := Option.bind_eq_some_iff.mp H
      refine ev_4 hc_X11_things (fe_X11_things (pc := 13) rfl) (gR_gf ev4) ?_
      refine ev_go hc_X11_things (k := 2) (pc' := 19) (L' := [.ref a0, ci_junk]) (S' := [.ref a0, .int 12, .ref v4]) rfl ?_
      obtain ⟨v5, ev5, H⟩ := Option.bind_eq_some_iff.mp H
      refine ev_4 hc_X11_things (fe_X11_things (pc := 19) rfl) (gR_gf ev5) ?_
      obtain ⟨v6, ev6, H⟩ := Option.bind_eq_some_iff.mp H
      refine ev_4 hc_X11_things (fe_X11_things (pc := 22) rfl) (gI_gf ev6) ?_
      refine ev_go hc_X11_things (k := 2) (pc' := 27) (L' := [.ref a0, ci_junk]) (S' := [.ref a0, .int (12 - v6), .ref v4]) rfl ?_
      obtain ⟨v7, ev7, H⟩ := Option.bind_eq_some_iff.mp H
      refine ev_4 hc_X11_things (fe_X11_things (pc := 27) rfl) (gR_gf ev7) ?_
      obtain ⟨v8, ev8, H⟩ := Option.bind_eq_some_iff.mp H
      refine ev_4 hc_X11_things (fe_X11_things (pc := 30) rfl) (gI_gf ev8) ?_
      obtain ⟨q9, eq9, H⟩ := Option.bind_eq_some_iff.mp H
      refine ev_call (vs := [.ref v4, .int (12 - v6), .int v8]) (rest := []) (q := q_X8_readThings) hc_X11_things (Or.inr rfl) (fe_X11_things (pc := 33) rfl) ms_44 rfl rfl (Nat.le_of_ble_eq_true rfl) (kO_recv (K_X8_readThings eq9)) (E_X8_readThings eq9 (by omega)) rfl ?_
      show Ev xs N (d + 1) 98 36 [.ref a0, ci_junk] [.int q9.1] q9.2 nx _
      refine ev_go hc_X11_things (k := 2) (pc' := 38) (L' := [.ref a0, .int q9.1]) (S' := [.ref a0]) rfl ?_
      obtain ⟨v10, ev10, H⟩ := Option.bind_eq_some_iff.mp H
      refine ev_4 hc_X11_things (fe_X11_things (pc := 38) rfl) (gR_gf ev10) ?_
      refine ev_go hc_X11_things (k := 1) (pc' := 42) (L' := [.ref a0, .int q9.1]) (S' := [.int 0, .ref v10]) rfl ?_
      obtain ⟨h11, eh11, H⟩ := Option.bind_eq_some_iff.mp H
      refine ev_5 hc_X11_things (fe_X11_things (pc := 42) rfl) (pF_pf eh11) ?_
      refine ev_go hc_X11_things (k := 1) (pc' := 46) (L' := [.ref a0, .int q9.1]) (S' := [.int q9.1]) rfl ?_
      by_cases c12 : q9.1 ≤ 0
      · rw [if_pos c12] at H
        refine ev_bt hc_X11_things (fe_X11_things (pc := 46) rfl) rfl c12 ?_
        refine ev_go hc_X11_things (k := 1) (pc' := 66) (L' := [.ref a0, .int q9.1]) (S' := [.int q9.1]) rfl ?_
        obtain rfl := Option.some.inj H
        exact ev_8 hc_X11_things (fe_X11_things (pc := 66) rfl) rfl
      · rw [if_neg c12] at H
        refine ev_bf hc_X11_things (fe_X11_things (pc := 46) rfl) rfl c12 ?_
        refine ev_go hc_X11_things (k := 1) (pc' := 50) (L' := [.ref a0, .int q9.1]) (S' := [.ref a0]) rfl ?_
        obtain ⟨v13, ev13, H⟩ := Option.bind_eq_some_iff.mp H
        refine ev_4 hc_X11_things (fe_X11_things (pc := 50) rfl) (gR_gf ev13) ?_
        refine ev_go hc_X11_things (k := 1) (pc' := 54) (L' := [.ref a0, .int q9.1]) (S' := [.ref a0, .ref v13]) rfl ?_
        obtain ⟨v14, ev14, H⟩ := Option.bind_eq_some_iff.mp H
        refine ev_4 hc_X11_things (fe_X11_things (pc := 54) rfl) (gR_gf ev14) ?_
        refine ev_go hc_X11_things (k := 1) (pc' := 58) (L' := [.ref a0, .int q9.1]) (S' := [.int q9.1, .ref v14, .ref v13]) rfl ?_
        obtain ⟨h15, eh15, H⟩ := Option.bind_eq_some_iff.mp H
        refine ev_call (vs := [.ref v13, .ref v14, .int q9.1]) (rest := []) (q := q_X10_addThings) hc_X11_things (Or.inr rfl) (fe_X11_things (pc := 58) rfl) ms_69 rfl rfl (Nat.le_of_ble_eq_true rfl) (kO_recv (K_X10_addThings eh15)) (E_X10_addThings eh15 (by omega)) rfl ?_
        show Ev xs N (d + 1) 98 61 [.ref a0, .int q9.1] [] h15 nx _
        refine ev_go hc_X11_things (k := 1) (pc' := 62) (L' := [.ref a0, .int q9.1]) (S' := [.ref a0]) rfl ?_
        obtain ⟨h16, eh16, H⟩ := Option.bind_eq_some_iff.mp H
        refine ev_call (vs := [.ref a0]) (rest := []) (q := q_X11_forgetStates) hc_X11_things (Or.inr rfl) (fe_X11_things (pc := 62) rfl) ms_144 rfl rfl (Nat.le_of_ble_eq_true rfl) (kO_recv (K_X11_forgetStates eh16)) (E_X11_forgetStates eh16 (by omega)) rfl ?_
        show Ev xs N (d + 1) 98 65 [.ref a0, .int q9.1] [] h16 nx _
        refine ev_go hc_X11_things (k := 1) (pc' := 66) (L' := [.ref a0, .int q9.1]) (S' := [.int q9.1]) rfl ?_
        obtain rfl := Option.some.inj H
        exact ev_8 hc_X11_things (fe_X11_things (pc := 66) rfl) rfl
  · rw [if_neg ck] at H; cases H
theorem hc_X11_kinds : ci_code (ci_Ms 99) = k_X11_kinds := rfl
theorem fe_X11_kinds {pc : Nat} {w : Option ci_I} (h : (k_X11_kinds)[pc]? = some w) : (k_X11_kinds)[pc]? = some w := h
def F_X11_kinds (a0 : Nat) (h : ci_H) : Option (Int32 × ci_H) := if kO h a0 = some 11 then ((gR h a0 11 1).bind fun v1 => (gI h v1 9 1).bind fun v2 => if v2 = 0 then (some (0, h)) else ((gR h a0 11 2).bind fun v4 => (gR h a0 11 0).bind fun v5 => (gI h v5 10 7).bind fun v6 => (F_X8_readKinds v4 (6 - v6) h).bind fun q7 => (gR q7.2 a0 11 1).bind fun v8 => (pF q7.2 v8 9 1 (.int 0)).bind fun h9 => if q7.1 ≤ 0 then (some (q7.1, h9)) else ((gR h9 a0 11 0).bind fun v11 => (gR h9 a0 11 2).bind fun v12 => (F_X10_addKinds v11 v12 q7.1 h9).bind fun h13 => (F_X11_forgetStates a0 h13).bind fun h14 => some (q7.1, h14)))) else none
theorem K_X11_kinds {a0 : Nat} {h : ci_H} {r : Int32 × ci_H} (H : F_X11_kinds a0 h = some r) : kO h a0 = some 11 := by
  unfold F_X11_kinds at H
  by_cases c : kO h a0 = some 11
  · exact c
  · rw [if_neg c] at H; cases H
set_option maxHeartbeats 4000000 in
set_option maxRecDepth 20000 in
theorem E_X11_kinds {xs : Nat → Int32} {N d : Nat} {nx : ci_N} {a0 : Nat} {h : ci_H} {r : Int32 × ci_H} (H : F_X11_kinds a0 h = some r) (hd : 4 ≤ d) : Ev xs N d 99 0 (ci_entry [.ref a0] 2) [] h nx (oI r nx) := by
  obtain ⟨d, rfl⟩ : ∃ d2, d = d2 + 1 := ⟨d - 1, by omega⟩
  have hd : 3 ≤ d := by omega
  unfold F_X11_kinds at H
  by_cases ck : kO h a0 = some 11
  · rw [if_pos ck] at H
    show Ev xs N (d + 1) 99 0 [.ref a0, ci_junk] [] h nx _
    refine ev_go hc_X11_kinds (k := 1) (pc' := 1) (L' := [.ref a0, ci_junk]) (S' := [.ref a0]) rfl ?_
    obtain ⟨v1, ev1, H⟩ := Option.bind_eq_some_iff.mp H
    refine ev_4 hc_X11_kinds (fe_X11_kinds (pc := 1) rfl) (gR_gf ev1) ?_
    obtain ⟨v2, ev2, H⟩ := Option.bind_eq_some_iff.mp H
    refine ev_4 hc_X11_kinds (fe_X11_kinds (pc := 4) rfl) (gI_gf ev2) ?_
    by_cases c3 : v2 = 0
    · rw [if_pos c3] at H
      refine ev_bt hc_X11_kinds (fe_X11_kinds (pc := 7) rfl) rfl c3 ?_
      refine ev_go hc_X11_kinds (k := 1) (pc' := 11) (L' := [.ref a0, ci_junk]) (S' := [.int 0]) rfl ?_
      obtain rfl := Option.some.inj H
      exact ev_8 hc_X11_kinds (fe_X11_kinds (pc := 11) rfl) rfl
    · rw [if_neg c3] at H
      refine ev_bf hc_X11_kinds (fe_X11_kinds (pc := 7) rfl) rfl c3 ?_
      refine ev_go hc_X11_kinds (k := 1) (pc' := 13) (L' := [.ref a0, ci_junk]) (S' := [.ref a0]) rfl ?_
      obtain ⟨v4, ev4, H⟩ := Option.bind_eq_some_iff.mp H
      refine ev_4 hc_X11_kinds (fe_X11_kinds (pc := 13) rfl) (gR_gf ev4) ?_
      refine ev_go hc_X11_kinds (k := 2) (pc' := 19) (L' := [.ref a0, ci_junk]) (S' := [.ref a0, .int 6, .ref v4]) rfl ?_
      obtain ⟨v5, ev5, H⟩ := Option.bind_eq_some_iff.mp H
      refine ev_4 hc_X11_kinds (fe_X11_kinds (pc := 19) rfl) (gR_gf ev5) ?_
      obtain ⟨v6, ev6, H⟩ := Option.bind_eq_some_iff.mp H
      refine ev_4 hc_X11_kinds (fe_X11_kinds (pc := 22) rfl) (gI_gf ev6) ?_
      refine ev_go hc_X11_kinds (k := 1) (pc' := 26) (L' := [.ref a0, ci_junk]) (S' := [.int (6 - v6), .ref v4]) rfl ?_
      obtain ⟨q7, eq7, H⟩ := Option.bind_eq_some_iff.mp H
      refine ev_call (vs := [.ref v4, .int (6 - v6)]) (rest := []) (q := q_X8_readKinds) hc_X11_kinds (Or.inr rfl) (fe_X11_kinds (pc := 26) rfl) ms_45 rfl rfl (Nat.le_of_ble_eq_true rfl) (kO_recv (K_X8_readKinds eq7)) (E_X8_readKinds eq7 (by omega)) rfl ?_
      show Ev xs N (d + 1) 99 29 [.ref a0, ci_junk] [.int q7.1] q7.2 nx _
      refine ev_go hc_X11_kinds (k := 2) (pc' := 31) (L' := [.ref a0, .int q7.1]) (S' := [.ref a0]) rfl ?_
      obtain ⟨v8, ev8, H⟩ := Option.bind_eq_some_iff.mp H
      refine ev_4 hc_X11_kinds (fe_X11_kinds (pc := 31) rfl) (gR_gf ev8) ?_
      refine ev_go hc_X11_kinds (k := 1) (pc' := 35) (L' := [.ref a0, .int q7.1]) (S' := [.int 0, .ref v8]) rfl ?_
      obtain ⟨h9, eh9, H⟩ := Option.bind_eq_some_iff.mp H
      refine ev_5 hc_X11_kinds (fe_X11_kinds (pc := 35) rfl) (pF_pf eh9) ?_
      refine ev_go hc_X11_kinds (k := 1) (pc' := 39) (L' := [.ref a0, .int q7.1]) (S' := [.int q7.1]) rfl ?_
      by_cases c10 : q7.1 ≤ 0
      · rw [if_pos c10] at H
        refine ev_bt hc_X11_kinds (fe_X11_kinds (pc := 39) rfl) rfl c10 ?_
        refine ev_go hc_X11_kinds (k := 1) (pc' := 59) (L' := [.ref a0, .int q7.1]) (S' := [.int q7.1]) rfl ?_
        obtain rfl := Option.some.inj H
        exact ev_8 hc_X11_kinds (fe_X11_kinds (pc := 59) rfl) rfl
      · rw [if_neg c10] at H
        refine ev_bf hc_X11_kinds (fe_X11_kinds (pc := 39) rfl) rfl c10 ?_
        refine ev_go hc_X11_kinds (k := 1) (pc' := 43) (L' := [.ref a0, .int q7.1]) (S' := [.ref a0]) rfl ?_
        obtain ⟨v11, ev11, H⟩ := Option.bind_eq_some_iff.mp H
        refine ev_4 hc_X11_kinds (fe_X11_kinds (pc := 43) rfl) (gR_gf ev11) ?_
        refine ev_go hc_X11_kinds (k := 1) (pc' := 47) (L' := [.ref a0, .int q7.1]) (S' := [.ref a0, .ref v11]) rfl ?_
        obtain ⟨v12, ev12, H⟩ := Option.bind_eq_some_iff.mp H
        refine ev_4 hc_X11_kinds (fe_X11_kinds (pc := 47) rfl) (gR_gf ev12) ?_
        refine ev_go hc_X11_kinds (k := 1) (pc' := 51) (L' := [.ref a0, .int q7.1]) (S' := [.int q7.1, .ref v12, .ref v11]) rfl ?_
        obtain ⟨h13, eh13, H⟩ := Option.bind_eq_some_iff.mp H
        refine ev_call (vs := [.ref v11, .ref v12, .int q7.1]) (rest := []) (q := q_X10_addKinds) hc_X11_kinds (Or.inr rfl) (fe_X11_kinds (pc := 51) rfl) ms_70 rfl rfl (Nat.le_of_ble_eq_true rfl) (kO_recv (K_X10_addKinds eh13)) (E_X10_addKinds eh13 (by omega)) rfl ?_
        show Ev xs N (d + 1) 99 54 [.ref a0, .int q7.1] [] h13 nx _
        refine ev_go hc_X11_kinds (k := 1) (pc' := 55) (L' := [.ref a0, .int q7.1]) (S' := [.ref a0]) rfl ?_
        obtain ⟨h14, eh14, H⟩ := Option.bind_eq_some_iff.mp H
        refine ev_call (vs := [.ref a0]) (rest := []) (q := q_X11_forgetStates) hc_X11_kinds (Or.inr rfl) (fe_X11_kinds (pc := 55) rfl) ms_144 rfl rfl (Nat.le_of_ble_eq_true rfl) (kO_recv (K_X11_forgetStates eh14)) (E_X11_forgetStates eh14 (by omega)) rfl ?_
        show Ev xs N (d + 1) 99 58 [.ref a0, .int q7.1] [] h14 nx _
        refine ev_go hc_X11_kinds (k := 1) (pc' := 59) (L' := [.ref a0, .int q7.1]) (S' := [.int q7.1]) rfl ?_
        obtain rfl := Option.some.inj H
        exact ev_8 hc_X11_kinds (fe_X11_kinds (pc := 59) rfl) rfl
  · rw [if_neg ck] at H; cases H
theorem hc_X11_rule : ci_code (ci_Ms 100) = k_X11_rule := rfl
theorem fe_X11_rule {pc : Nat} {w : Option ci_I} (h : (k_X11_rule)[pc]? = some w) : (k_X11_rule)[pc]? = some w := h
def F_X11_rule (a0 : Nat) (h : ci_H) : Option (Int32 × ci_H) := if kO h a0 = some 11 then ((gR h a0 11 1).bind fun v1 => (gI h v1 9 1).bind fun v2 => if v2 = 0 then ((gR h a0 11 3).bind fun v4 => (pF h v4 4 2 (.int 0)).bind fun h5 => some (0, h5)) else ((gR h a0 11 4).bind fun v6 => (F_X5_read v6 h).bind fun q7 => (gR q7.2 a0 11 1).bind fun v8 => (pF q7.2 v8 9 1 (.int 0)).bind fun h9 => if q7.1 = 0 then ((gR h9 a0 11 3).bind fun v11 => (gR h9 a0 11 4).bind fun v12 => (gR h9 v12 5 1).bind fun v13 => (F_X4_copy v11 v13 h9).bind fun h14 => some (q7.1, h14)) else (some (q7.1, h9)))) else none
theorem K_X11_rule {a0 : Nat} {h : ci_H} {r : Int32 × ci_H} (H : F_X11_rule a0 h = some r) : kO h a0 = some 11 := by
  unfold F_X11_rule at H
  by_cases c : kO h a0 = some 11
  · exact c
  · rw [if_neg c] at H; cases H
set_option maxHeartbeats 4000000 in
set_option maxRecDepth 20000 in
theorem E_X11_rule {xs : Nat → Int32} {N d : Nat} {nx : ci_N} {a0 : Nat} {h : ci_H} {r : Int32 × ci_H} (H : F_X11_rule a0 h = some r) (hd : 105 ≤ d) : Ev xs N d 100 0 (ci_entry [.ref a0] 2) [] h nx (oI r nx) := by
  obtain ⟨d, rfl⟩ : ∃ d2, d = d2 + 1 := ⟨d - 1, by omega⟩
  have hd : 104 ≤ d := by omega
  unfold F_X11_rule at H
  by_cases ck : kO h a0 = some 11
  · rw [if_pos ck] at H
    show Ev xs N (d + 1) 100 0 [.ref a0, ci_junk] [] h nx _
    refine ev_go hc_X11_rule (k := 1) (pc' := 1) (L' := [.ref a0, ci_junk]) (S' := [.ref a0]) rfl ?_
    obtain ⟨v1, ev1, H⟩ := Option.bind_eq_some_iff.mp H
    refine ev_4 hc_X11_rule (fe_X11_rule (pc := 1) rfl) (gR_gf ev1) ?_
    obtain ⟨v2, ev2, H⟩ := Option.bind_eq_some_iff.mp H
    refine ev_4 hc_X11_rule (fe_X11_rule (pc := 4) rfl) (gI_gf ev2) ?_
    by_cases c3 : v2 = 0
    · rw [if_pos c3] at H
      refine ev_bt hc_X11_rule (fe_X11_rule (pc := 7) rfl) rfl c3 ?_
      refine ev_go hc_X11_rule (k := 1) (pc' := 11) (L' := [.ref a0, ci_junk]) (S' := [.ref a0]) rfl ?_
      obtain ⟨v4, ev4, H⟩ := Option.bind_eq_some_iff.mp H
      refine ev_4 hc_X11_rule (fe_X11_rule (pc := 11) rfl) (gR_gf ev4) ?_
      refine ev_go hc_X11_rule (k := 1) (pc' := 15) (L' := [.ref a0, ci_junk]) (S' := [.int 0, .ref v4]) rfl ?_
      obtain ⟨h5, eh5, H⟩ := Option.bind_eq_some_iff.mp H
      refine ev_5 hc_X11_rule (fe_X11_rule (pc := 15) rfl) (pF_pf eh5) ?_
      refine ev_go hc_X11_rule (k := 1) (pc' := 19) (L' := [.ref a0, ci_junk]) (S' := [.int 0]) rfl ?_
      obtain rfl := Option.some.inj H
      exact ev_8 hc_X11_rule (fe_X11_rule (pc := 19) rfl) rfl
    · rw [if_neg c3] at H
      refine ev_bf hc_X11_rule (fe_X11_rule (pc := 7) rfl) rfl c3 ?_
      refine ev_go hc_X11_rule (k := 1) (pc' := 21) (L' := [.ref a0, ci_junk]) (S' := [.ref a0]) rfl ?_
      obtain ⟨v6, ev6, H⟩ := Option.bind_eq_some_iff.mp H
      refine ev_4 hc_X11_rule (fe_X11_rule (pc := 21) rfl) (gR_gf ev6) ?_
      obtain ⟨q7, eq7, H⟩ := Option.bind_eq_some_iff.mp H
      refine ev_call (vs := [.ref v6]) (rest := []) (q := q_X5_read) hc_X11_rule (Or.inr rfl) (fe_X11_rule (pc := 24) rfl) ms_31 rfl rfl (Nat.le_of_ble_eq_true rfl) (kO_recv (K_X5_read eq7)) (E_X5_read eq7 (by omega)) rfl ?_
      show Ev xs N (d + 1) 100 27 [.ref a0, ci_junk] [.int q7.1] q7.2 nx _
      refine ev_go hc_X11_rule (k := 2) (pc' := 29) (L' := [.ref a0, .int q7.1]) (S' := [.ref a0]) rfl ?_
      obtain ⟨v8, ev8, H⟩ := Option.bind_eq_some_iff.mp H
      refine ev_4 hc_X11_rule (fe_X11_rule (pc := 29) rfl) (gR_gf ev8) ?_
      refine ev_go hc_X11_rule (k := 1) (pc' := 33) (L' := [.ref a0, .int q7.1]) (S' := [.int 0, .ref v8]) rfl ?_
      obtain ⟨h9, eh9, H⟩ := Option.bind_eq_some_iff.mp H
      refine ev_5 hc_X11_rule (fe_X11_rule (pc := 33) rfl) (pF_pf eh9) ?_
      refine ev_go hc_X11_rule (k := 1) (pc' := 37) (L' := [.ref a0, .int q7.1]) (S' := [.int q7.1]) rfl ?_
      by_cases c10 : q7.1 = 0
      · rw [if_pos c10] at H
        refine ev_bt hc_X11_rule (fe_X11_rule (pc := 37) rfl) rfl c10 ?_
        refine ev_go hc_X11_rule (k := 1) (pc' := 41) (L' := [.ref a0, .int q7.1]) (S' := [.ref a0]) rfl ?_
        obtain ⟨v11, ev11, H⟩ := Option.bind_eq_some_iff.mp H
        refine ev_4 hc_X11_rule (fe_X11_rule (pc := 41) rfl) (gR_gf ev11) ?_
        refine ev_go hc_X11_rule (k := 1) (pc' := 45) (L' := [.ref a0, .int q7.1]) (S' := [.ref a0, .ref v11]) rfl ?_
        obtain ⟨v12, ev12, H⟩ := Option.bind_eq_some_iff.mp H
        refine ev_4 hc_X11_rule (fe_X11_rule (pc := 45) rfl) (gR_gf ev12) ?_
        obtain ⟨v13, ev13, H⟩ := Option.bind_eq_some_iff.mp H
        refine ev_4 hc_X11_rule (fe_X11_rule (pc := 48) rfl) (gR_gf ev13) ?_
        obtain ⟨h14, eh14, H⟩ := Option.bind_eq_some_iff.mp H
        refine ev_call (vs := [.ref v11, .ref v13]) (rest := []) (q := q_X4_copy) hc_X11_rule (Or.inr rfl) (fe_X11_rule (pc := 51) rfl) ms_21 rfl rfl (Nat.le_of_ble_eq_true rfl) (kO_recv (K_X4_copy eh14)) (E_X4_copy eh14 (by omega)) rfl ?_
        show Ev xs N (d + 1) 100 54 [.ref a0, .int q7.1] [] h14 nx _
        refine ev_go hc_X11_rule (k := 1) (pc' := 55) (L' := [.ref a0, .int q7.1]) (S' := [.int q7.1]) rfl ?_
        obtain rfl := Option.some.inj H
        exact ev_8 hc_X11_rule (fe_X11_rule (pc := 55) rfl) rfl
      · rw [if_neg c10] at H
        refine ev_bf hc_X11_rule (fe_X11_rule (pc := 37) rfl) rfl c10 ?_
        refine ev_go hc_X11_rule (k := 1) (pc' := 55) (L' := [.ref a0, .int q7.1]) (S' := [.int q7.1]) rfl ?_
        obtain rfl := Option.some.inj H
        exact ev_8 hc_X11_rule (fe_X11_rule (pc := 55) rfl) rfl
  · rw [if_neg ck] at H; cases H
theorem hc_X11_thing : ci_code (ci_Ms 101) = k_X11_thing := rfl
theorem fe_X11_thing {pc : Nat} {w : Option ci_I} (h : (k_X11_thing)[pc]? = some w) : (k_X11_thing)[pc]? = some w := h
def F_X11_thing (a0 : Nat) (a1 : Int32) (a2 : Int32) (h : ci_H) : Option (Option Int32 × ci_H) := if kO h a0 = some 11 then ((gR h a0 11 0).bind fun v1 => (F_X10_hasThing v1 a1 h).bind fun q2 => if q2.1 = 0 then (some (none, q2.2)) else (if a2 = 0 then ((gR q2.2 a0 11 0).bind fun v5 => (gR q2.2 v5 10 0).bind fun v6 => (gR q2.2 v6 6 2).bind fun v7 => (rI q2.2 v7 a1).bind fun v8 => some (some v8, q2.2)) else if a2 = 1 then ((gR q2.2 a0 11 0).bind fun v10 => (gR q2.2 v10 10 0).bind fun v11 => (gR q2.2 v11 6 0).bind fun v12 => (rI q2.2 v12 a1).bind fun v13 => some (some v13, q2.2)) else if a2 = 2 then ((gR q2.2 a0 11 0).bind fun v15 => (gR q2.2 v15 10 0).bind fun v16 => (gR q2.2 v16 6 1).bind fun v17 => (rI q2.2 v17 a1).bind fun v18 => some (some v18, q2.2)) else if a2 = 3 then ((gR q2.2 a0 11 0).bind fun v20 => (F_X10_kindsOf v20 a1 q2.2).bind fun q21 => some (some q21.1, q21.2)) else if a2 = 4 then ((gR q2.2 a0 11 0).bind fun v23 => (F_X10_isLent v23 a1 q2.2).bind fun q24 => if q24.1 = 0 then (some (some 0, q24.2)) else (some (some 1, q24.2))) else (some (none, q2.2)))) else none
theorem K_X11_thing {a0 : Nat} {a1 : Int32} {a2 : Int32} {h : ci_H} {r : Option Int32 × ci_H} (H : F_X11_thing a0 a1 a2 h = some r) : kO h a0 = some 11 := by
  unfold F_X11_thing at H
  by_cases c : kO h a0 = some 11
  · exact c
  · rw [if_neg c] at H; cases H
set_option maxHeartbeats 4000000 in
set_option maxRecDepth 20000 in
theorem E_X11_thing {xs : Nat → Int32} {N d : Nat} {nx : ci_N} {a0 : Nat} {a1 : Int32} {a2 : Int32} {h : ci_H} {r : Option Int32 × ci_H} (H : F_X11_thing a0 a1 a2 h = some r) (hd : 1 ≤ d) : Ev xs N d 101 0 (ci_entry [.ref a0, .int a1, .int a2] 3) [] h nx (oT r nx) := by
  obtain ⟨d, rfl⟩ : ∃ d2, d = d2 + 1 := ⟨d - 1, by omega⟩
  have hd : 0 ≤ d := by omega
  unfold F_X11_thing at H
  by_cases ck : kO h a0 = some 11
  · rw [if_pos ck] at H
    show Ev xs N (d + 1) 101 0 [.ref a0, .int a1, .int a2] [] h nx _
    refine ev_go hc_X11_thing (k := 1) (pc' := 1) (L' := [.ref a0, .int a1, .int a2]) (S' := [.ref a0]) rfl ?_
    obtain ⟨v1, ev1, H⟩ := Option.bind_eq_some_iff.mp H
    refine ev_4 hc_X11_thing (fe_X11_thing (pc := 1) rfl) (gR_gf ev1) ?_
    refine ev_go hc_X11_thing (k := 1) (pc' := 5) (L' := [.ref a0, .int a1, .int a2]) (S' := [.int a1, .ref v1]) rfl ?_
    obtain ⟨q2, eq2, H⟩ := Option.bind_eq_some_iff.mp H
    refine ev_call (vs := [.ref v1, .int a1]) (rest := []) (q := q_X10_hasThing) hc_X11_thing (Or.inr rfl) (fe_X11_thing (pc := 5) rfl) ms_63 rfl rfl (Nat.le_of_ble_eq_true rfl) (kO_recv (K_X10_hasThing eq2)) (E_X10_hasThing eq2 (by omega)) rfl ?_
    show Ev xs N (d + 1) 101 8 [.ref a0, .int a1, .int a2] [.int q2.1] q2.2 nx _
    by_cases c3 : q2.1 = 0
    · rw [if_pos c3] at H
      refine ev_bt hc_X11_thing (fe_X11_thing (pc := 8) rfl) rfl c3 ?_
      obtain rfl := Option.some.inj H
      exact ev_9 hc_X11_thing (fe_X11_thing (pc := 11) rfl) rfl
    · rw [if_neg c3] at H
      refine ev_bf hc_X11_thing (fe_X11_thing (pc := 8) rfl) rfl c3 ?_
      refine ev_go hc_X11_thing (k := 1) (pc' := 20) (L' := [.ref a0, .int a1, .int a2]) (S' := [.int a2]) rfl ?_
      by_cases c4 : a2 = 0
      · rw [if_pos c4] at H
        refine ev_3 hc_X11_thing (fe_X11_thing (pc := 20) rfl) (pc' := 56) (S' := []) (by rw [c4]; rfl) ?_
        refine ev_go hc_X11_thing (k := 1) (pc' := 57) (L' := [.ref a0, .int a1, .int a2]) (S' := [.ref a0]) rfl ?_
        obtain ⟨v5, ev5, H⟩ := Option.bind_eq_some_iff.mp H
        refine ev_4 hc_X11_thing (fe_X11_thing (pc := 57) rfl) (gR_gf ev5) ?_
        obtain ⟨v6, ev6, H⟩ := Option.bind_eq_some_iff.mp H
        refine ev_4 hc_X11_thing (fe_X11_thing (pc := 60) rfl) (gR_gf ev6) ?_
        obtain ⟨v7, ev7, H⟩ := Option.bind_eq_some_iff.mp H
        refine ev_4 hc_X11_thing (fe_X11_thing (pc := 63) rfl) (gR_gf ev7) ?_
        refine ev_go hc_X11_thing (k := 1) (pc' := 67) (L' := [.ref a0, .int a1, .int a2]) (S' := [.int a1, .ref v7]) rfl ?_
        obtain ⟨v8, ev8, H⟩ := Option.bind_eq_some_iff.mp H
        refine ev_4 hc_X11_thing (fe_X11_thing (pc := 67) rfl) (rI_al ev8) ?_
        obtain rfl := Option.some.inj H
        exact ev_8 hc_X11_thing (fe_X11_thing (pc := 68) rfl) rfl
      rw [if_neg c4] at H
      by_cases c9 : a2 = 1
      · rw [if_pos c9] at H
        refine ev_3 hc_X11_thing (fe_X11_thing (pc := 20) rfl) (pc' := 69) (S' := []) (by rw [c9]; rfl) ?_
        refine ev_go hc_X11_thing (k := 1) (pc' := 70) (L' := [.ref a0, .int a1, .int a2]) (S' := [.ref a0]) rfl ?_
        obtain ⟨v10, ev10, H⟩ := Option.bind_eq_some_iff.mp H
        refine ev_4 hc_X11_thing (fe_X11_thing (pc := 70) rfl) (gR_gf ev10) ?_
        obtain ⟨v11, ev11, H⟩ := Option.bind_eq_some_iff.mp H
        refine ev_4 hc_X11_thing (fe_X11_thing (pc := 73) rfl) (gR_gf ev11) ?_
        obtain ⟨v12, ev12, H⟩ := Option.bind_eq_some_iff.mp H
        refine ev_4 hc_X11_thing (fe_X11_thing (pc := 76) rfl) (gR_gf ev12) ?_
        refine ev_go hc_X11_thing (k := 1) (pc' := 80) (L' := [.ref a0, .int a1, .int a2]) (S' := [.int a1, .ref v12]) rfl ?_
        obtain ⟨v13, ev13, H⟩ := Option.bind_eq_some_iff.mp H
        refine ev_4 hc_X11_thing (fe_X11_thing (pc := 80) rfl) (rI_al ev13) ?_
        obtain rfl := Option.some.inj H
        exact ev_8 hc_X11_thing (fe_X11_thing (pc := 81) rfl) rfl
      rw [if_neg c9] at H
      by_cases c14 : a2 = 2
      · rw [if_pos c14] at H
        refine ev_3 hc_X11_thing (fe_X11_thing (pc := 20) rfl) (pc' := 82) (S' := []) (by rw [c14]; rfl) ?_
        refine ev_go hc_X11_thing (k := 1) (pc' := 83) (L' := [.ref a0, .int a1, .int a2]) (S' := [.ref a0]) rfl ?_
        obtain ⟨v15, ev15, H⟩ := Option.bind_eq_some_iff.mp H
        refine ev_4 hc_X11_thing (fe_X11_thing (pc := 83) rfl) (gR_gf ev15) ?_
        obtain ⟨v16, ev16, H⟩ := Option.bind_eq_some_iff.mp H
        refine ev_4 hc_X11_thing (fe_X11_thing (pc := 86) rfl) (gR_gf ev16) ?_
        obtain ⟨v17, ev17, H⟩ := Option.bind_eq_some_iff.mp H
        refine ev_4 hc_X11_thing (fe_X11_thing (pc := 89) rfl) (gR_gf ev17) ?_
        refine ev_go hc_X11_thing (k := 1) (pc' := 93) (L' := [.ref a0, .int a1, .int a2]) (S' := [.int a1, .ref v17]) rfl ?_
        obtain ⟨v18, ev18, H⟩ := Option.bind_eq_some_iff.mp H
        refine ev_4 hc_X11_thing (fe_X11_thing (pc := 93) rfl) (rI_al ev18) ?_
        obtain rfl := Option.some.inj H
        exact ev_8 hc_X11_thing (fe_X11_thing (pc := 94) rfl) rfl
      rw [if_neg c14] at H
      by_cases c19 : a2 = 3
      · rw [if_pos c19] at H
        refine ev_3 hc_X11_thing (fe_X11_thing (pc := 20) rfl) (pc' := 95) (S' := []) (by rw [c19]; rfl) ?_
        refine ev_go hc_X11_thing (k := 1) (pc' := 96) (L' := [.ref a0, .int a1, .int a2]) (S' := [.ref a0]) rfl ?_
        obtain ⟨v20, ev20, H⟩ := Option.bind_eq_some_iff.mp H
        refine ev_4 hc_X11_thing (fe_X11_thing (pc := 96) rfl) (gR_gf ev20) ?_
        refine ev_go hc_X11_thing (k := 1) (pc' := 100) (L' := [.ref a0, .int a1, .int a2]) (S' := [.int a1, .ref v20]) rfl ?_
        obtain ⟨q21, eq21, H⟩ := Option.bind_eq_some_iff.mp H
        refine ev_call (vs := [.ref v20, .int a1]) (rest := []) (q := q_X10_kindsOf) hc_X11_thing (Or.inr rfl) (fe_X11_thing (pc := 100) rfl) ms_73 rfl rfl (Nat.le_of_ble_eq_true rfl) (kO_recv (K_X10_kindsOf eq21)) (E_X10_kindsOf eq21 (by omega)) rfl ?_
        show Ev xs N (d + 1) 101 103 [.ref a0, .int a1, .int a2] [.int q21.1] q21.2 nx _
        obtain rfl := Option.some.inj H
        exact ev_8 hc_X11_thing (fe_X11_thing (pc := 103) rfl) rfl
      rw [if_neg c19] at H
      by_cases c22 : a2 = 4
      · rw [if_pos c22] at H
        refine ev_3 hc_X11_thing (fe_X11_thing (pc := 20) rfl) (pc' := 104) (S' := []) (by rw [c22]; rfl) ?_
        refine ev_go hc_X11_thing (k := 1) (pc' := 105) (L' := [.ref a0, .int a1, .int a2]) (S' := [.ref a0]) rfl ?_
        obtain ⟨v23, ev23, H⟩ := Option.bind_eq_some_iff.mp H
        refine ev_4 hc_X11_thing (fe_X11_thing (pc := 105) rfl) (gR_gf ev23) ?_
        refine ev_go hc_X11_thing (k := 1) (pc' := 109) (L' := [.ref a0, .int a1, .int a2]) (S' := [.int a1, .ref v23]) rfl ?_
        obtain ⟨q24, eq24, H⟩ := Option.bind_eq_some_iff.mp H
        refine ev_call (vs := [.ref v23, .int a1]) (rest := []) (q := q_X10_isLent) hc_X11_thing (Or.inr rfl) (fe_X11_thing (pc := 109) rfl) ms_66 rfl rfl (Nat.le_of_ble_eq_true rfl) (kO_recv (K_X10_isLent eq24)) (E_X10_isLent eq24 (by omega)) rfl ?_
        show Ev xs N (d + 1) 101 112 [.ref a0, .int a1, .int a2] [.int q24.1] q24.2 nx _
        by_cases c25 : q24.1 = 0
        · rw [if_pos c25] at H
          refine ev_bt hc_X11_thing (fe_X11_thing (pc := 112) rfl) rfl c25 ?_
          refine ev_go hc_X11_thing (k := 1) (pc' := 120) (L' := [.ref a0, .int a1, .int a2]) (S' := [.int 0]) rfl ?_
          obtain rfl := Option.some.inj H
          exact ev_8 hc_X11_thing (fe_X11_thing (pc := 120) rfl) rfl
        · rw [if_neg c25] at H
          refine ev_bf hc_X11_thing (fe_X11_thing (pc := 112) rfl) rfl c25 ?_
          refine ev_go hc_X11_thing (k := 2) (pc' := 120) (L' := [.ref a0, .int a1, .int a2]) (S' := [.int 1]) rfl ?_
          obtain rfl := Option.some.inj H
          exact ev_8 hc_X11_thing (fe_X11_thing (pc := 120) rfl) rfl
      rw [if_neg c22] at H
      refine ev_3 hc_X11_thing (fe_X11_thing (pc := 20) rfl) (pc' := 121) (S' := []) (sw_out (by have := And.intro True.intro True.intro; have := lv_neT c4 (a := 0) (by decide); have := lv_neT c9 (a := 1) (by decide); have := lv_neT c14 (a := 2) (by decide); have := lv_neT c19 (a := 3) (by decide); have := lv_neT c22 (a := 4) (by decide); omega)) ?_
      obtain rfl := Option.some.inj H
      exact ev_9 hc_X11_thing (fe_X11_thing (pc := 121) rfl) rfl
  · rw [if_neg ck] at H; cases H
theorem hc_X11_kind : ci_code (ci_Ms 102) = k_X11_kind := rfl
theorem fe_X11_kind {pc : Nat} {w : Option ci_I} (h : (k_X11_kind)[pc]? = some w) : (k_X11_kind)[pc]? = some w := h
def F_X11_kind (a0 : Nat) (a1 : Int32) (a2 : Int32) (h : ci_H) : Option (Option Int32 × ci_H) := if kO h a0 = some 11 then ((gR h a0 11 0).bind fun v1 => (F_X10_hasKind v1 a1 h).bind fun q2 => if q2.1 = 0 then (some (none, q2.2)) else (if a2 = 0 then ((gR q2.2 a0 11 0).bind fun v5 => (gR q2.2 v5 10 1).bind fun v6 => (rI q2.2 v6 a1).bind fun v7 => some (some v7, q2.2)) else if a2 = 1 then ((gR q2.2 a0 11 0).bind fun v9 => (gR q2.2 v9 10 2).bind fun v10 => (rI q2.2 v10 a1).bind fun v11 => some (some v11, q2.2)) else if a2 = 2 then ((gR q2.2 a0 11 0).bind fun v13 => (gR q2.2 v13 10 3).bind fun v14 => (rI q2.2 v14 a1).bind fun v15 => some (some v15, q2.2)) else (some (none, q2.2)))) else none
theorem K_X11_kind {a0 : Nat} {a1 : Int32} {a2 : Int32} {h : ci_H} {r : Option Int32 × ci_H} (H : F_X11_kind a0 a1 a2 h = some r) : kO h a0 = some 11 := by
  unfold F_X11_kind at H
  by_cases c : kO h a0 = some 11
  · exact c
  · rw [if_neg c] at H; cases H
set_option maxHeartbeats 4000000 in
set_option maxRecDepth 20000 in
theorem E_X11_kind {xs : Nat → Int32} {N d : Nat} {nx : ci_N} {a0 : Nat} {a1 : Int32} {a2 : Int32} {h : ci_H} {r : Option Int32 × ci_H} (H : F_X11_kind a0 a1 a2 h = some r) (hd : 1 ≤ d) : Ev xs N d 102 0 (ci_entry [.ref a0, .int a1, .int a2] 3) [] h nx (oT r nx) := by
  obtain ⟨d, rfl⟩ : ∃ d2, d = d2 + 1 := ⟨d - 1, by omega⟩
  have hd : 0 ≤ d := by omega
  unfold F_X11_kind at H
  by_cases ck : kO h a0 = some 11
  · rw [if_pos ck] at H
    show Ev xs N (d + 1) 102 0 [.ref a0, .int a1, .int a2] [] h nx _
    refine ev_go hc_X11_kind (k := 1) (pc' := 1) (L' := [.ref a0, .int a1, .int a2]) (S' := [.ref a0]) rfl ?_
    obtain ⟨v1, ev1, H⟩ := Option.bind_eq_some_iff.mp H
    refine ev_4 hc_X11_kind (fe_X11_kind (pc := 1) rfl) (gR_gf ev1) ?_
    refine ev_go hc_X11_kind (k := 1) (pc' := 5) (L' := [.ref a0, .int a1, .int a2]) (S' := [.int a1, .ref v1]) rfl ?_
    obtain ⟨q2, eq2, H⟩ := Option.bind_eq_some_iff.mp H
    refine ev_call (vs := [.ref v1, .int a1]) (rest := []) (q := q_X10_hasKind) hc_X11_kind (Or.inr rfl) (fe_X11_kind (pc := 5) rfl) ms_64 rfl rfl (Nat.le_of_ble_eq_true rfl) (kO_recv (K_X10_hasKind eq2)) (E_X10_hasKind eq2 (by omega)) rfl ?_
    show Ev xs N (d + 1) 102 8 [.ref a0, .int a1, .int a2] [.int q2.1] q2.2 nx _
    by_cases c3 : q2.1 = 0
    · rw [if_pos c3] at H
      refine ev_bt hc_X11_kind (fe_X11_kind (pc := 8) rfl) rfl c3 ?_
      obtain rfl := Option.some.inj H
      exact ev_9 hc_X11_kind (fe_X11_kind (pc := 11) rfl) rfl
    · rw [if_neg c3] at H
      refine ev_bf hc_X11_kind (fe_X11_kind (pc := 8) rfl) rfl c3 ?_
      refine ev_go hc_X11_kind (k := 1) (pc' := 20) (L' := [.ref a0, .int a1, .int a2]) (S' := [.int a2]) rfl ?_
      by_cases c4 : a2 = 0
      · rw [if_pos c4] at H
        refine ev_3 hc_X11_kind (fe_X11_kind (pc := 20) rfl) (pc' := 48) (S' := []) (by rw [c4]; rfl) ?_
        refine ev_go hc_X11_kind (k := 1) (pc' := 49) (L' := [.ref a0, .int a1, .int a2]) (S' := [.ref a0]) rfl ?_
        obtain ⟨v5, ev5, H⟩ := Option.bind_eq_some_iff.mp H
        refine ev_4 hc_X11_kind (fe_X11_kind (pc := 49) rfl) (gR_gf ev5) ?_
        obtain ⟨v6, ev6, H⟩ := Option.bind_eq_some_iff.mp H
        refine ev_4 hc_X11_kind (fe_X11_kind (pc := 52) rfl) (gR_gf ev6) ?_
        refine ev_go hc_X11_kind (k := 1) (pc' := 56) (L' := [.ref a0, .int a1, .int a2]) (S' := [.int a1, .ref v6]) rfl ?_
        obtain ⟨v7, ev7, H⟩ := Option.bind_eq_some_iff.mp H
        refine ev_4 hc_X11_kind (fe_X11_kind (pc := 56) rfl) (rI_al ev7) ?_
        obtain rfl := Option.some.inj H
        exact ev_8 hc_X11_kind (fe_X11_kind (pc := 57) rfl) rfl
      rw [if_neg c4] at H
      by_cases c8 : a2 = 1
      · rw [if_pos c8] at H
        refine ev_3 hc_X11_kind (fe_X11_kind (pc := 20) rfl) (pc' := 58) (S' := []) (by rw [c8]; rfl) ?_
        refine ev_go hc_X11_kind (k := 1) (pc' := 59) (L' := [.ref a0, .int a1, .int a2]) (S' := [.ref a0]) rfl ?_
        obtain ⟨v9, ev9, H⟩ := Option.bind_eq_some_iff.mp H
        refine ev_4 hc_X11_kind (fe_X11_kind (pc := 59) rfl) (gR_gf ev9) ?_
        obtain ⟨v10, ev10, H⟩ := Option.bind_eq_some_iff.mp H
        refine ev_4 hc_X11_kind (fe_X11_kind (pc := 62) rfl) (gR_gf ev10) ?_
        refine ev_go hc_X11_kind (k := 1) (pc' := 66) (L' := [.ref a0, .int a1, .int a2]) (S' := [.int a1, .ref v10]) rfl ?_
        obtain ⟨v11, ev11, H⟩ := Option.bind_eq_some_iff.mp H
        refine ev_4 hc_X11_kind (fe_X11_kind (pc := 66) rfl) (rI_al ev11) ?_
        obtain rfl := Option.some.inj H
        exact ev_8 hc_X11_kind (fe_X11_kind (pc := 67) rfl) rfl
      rw [if_neg c8] at H
      by_cases c12 : a2 = 2
      · rw [if_pos c12] at H
        refine ev_3 hc_X11_kind (fe_X11_kind (pc := 20) rfl) (pc' := 68) (S' := []) (by rw [c12]; rfl) ?_
        refine ev_go hc_X11_kind (k := 1) (pc' := 69) (L' := [.ref a0, .int a1, .int a2]) (S' := [.ref a0]) rfl ?_
        obtain ⟨v13, ev13, H⟩ := Option.bind_eq_some_iff.mp H
        refine ev_4 hc_X11_kind (fe_X11_kind (pc := 69) rfl) (gR_gf ev13) ?_
        obtain ⟨v14, ev14, H⟩ := Option.bind_eq_some_iff.mp H
        refine ev_4 hc_X11_kind (fe_X11_kind (pc := 72) rfl) (gR_gf ev14) ?_
        refine ev_go hc_X11_kind (k := 1) (pc' := 76) (L' := [.ref a0, .int a1, .int a2]) (S' := [.int a1, .ref v14]) rfl ?_
        obtain ⟨v15, ev15, H⟩ := Option.bind_eq_some_iff.mp H
        refine ev_4 hc_X11_kind (fe_X11_kind (pc := 76) rfl) (rI_al ev15) ?_
        obtain rfl := Option.some.inj H
        exact ev_8 hc_X11_kind (fe_X11_kind (pc := 77) rfl) rfl
      rw [if_neg c12] at H
      refine ev_3 hc_X11_kind (fe_X11_kind (pc := 20) rfl) (pc' := 78) (S' := []) (sw_out (by have := And.intro True.intro True.intro; have := lv_neT c4 (a := 0) (by decide); have := lv_neT c8 (a := 1) (by decide); have := lv_neT c12 (a := 2) (by decide); omega)) ?_
      obtain rfl := Option.some.inj H
      exact ev_9 hc_X11_kind (fe_X11_kind (pc := 78) rfl) rfl
  · rw [if_neg ck] at H; cases H
theorem hc_X11_house : ci_code (ci_Ms 103) = k_X11_house := rfl
theorem fe_X11_house {pc : Nat} {w : Option ci_I} (h : (k_X11_house)[pc]? = some w) : (k_X11_house)[pc]? = some w := h
def F_X11_house (a0 : Nat) (a1 : Int32) (a2 : Int32) (h : ci_H) : Option (Option Int32 × ci_H) := if kO h a0 = some 11 then ((gR h a0 11 0).bind fun v1 => (F_X10_hasHouse v1 a1 h).bind fun q2 => if q2.1 = 0 then (some (none, q2.2)) else (if a2 = 0 then ((gR q2.2 a0 11 0).bind fun v5 => (F_X10_ownedBy v5 a1 q2.2).bind fun q6 => some (some q6.1, q6.2)) else if a2 = 1 then ((gR q2.2 a0 11 0).bind fun v8 => (F_X10_keptBy v8 a1 q2.2).bind fun q9 => some (some q9.1, q9.2)) else if a2 = 2 then ((gR q2.2 a0 11 0).bind fun v11 => (gR q2.2 v11 10 0).bind fun v12 => (gR q2.2 v12 6 3).bind fun v13 => (rI q2.2 v13 a1).bind fun v14 => some (some v14, q2.2)) else if a2 = 3 then ((gR q2.2 a0 11 0).bind fun v16 => (gR q2.2 a0 11 0).bind fun v17 => (F_X10_keptBy v17 a1 q2.2).bind fun q18 => (F_X10_brokenIn v16 q18.1 q18.2).bind fun q19 => some (some q19.1, q19.2)) else (some (none, q2.2)))) else none
theorem K_X11_house {a0 : Nat} {a1 : Int32} {a2 : Int32} {h : ci_H} {r : Option Int32 × ci_H} (H : F_X11_house a0 a1 a2 h = some r) : kO h a0 = some 11 := by
  unfold F_X11_house at H
  by_cases c : kO h a0 = some 11
  · exact c
  · rw [if_neg c] at H; cases H
set_option maxHeartbeats 4000000 in
set_option maxRecDepth 20000 in
theorem E_X11_house {xs : Nat → Int32} {N d : Nat} {nx : ci_N} {a0 : Nat} {a1 : Int32} {a2 : Int32} {h : ci_H} {r : Option Int32 × ci_H} (H : F_X11_house a0 a1 a2 h = some r) (hd : 2 ≤ d) : Ev xs N d 103 0 (ci_entry [.ref a0, .int a1, .int a2] 3) [] h nx (oT r nx) := by
  obtain ⟨d, rfl⟩ : ∃ d2, d = d2 + 1 := ⟨d - 1, by omega⟩
  have hd : 1 ≤ d := by omega
  unfold F_X11_house at H
  by_cases ck : kO h a0 = some 11
  · rw [if_pos ck] at H
    show Ev xs N (d + 1) 103 0 [.ref a0, .int a1, .int a2] [] h nx _
    refine ev_go hc_X11_house (k := 1) (pc' := 1) (L' := [.ref a0, .int a1, .int a2]) (S' := [.ref a0]) rfl ?_
    obtain ⟨v1, ev1, H⟩ := Option.bind_eq_some_iff.mp H
    refine ev_4 hc_X11_house (fe_X11_house (pc := 1) rfl) (gR_gf ev1) ?_
    refine ev_go hc_X11_house (k := 1) (pc' := 5) (L' := [.ref a0, .int a1, .int a2]) (S' := [.int a1, .ref v1]) rfl ?_
    obtain ⟨q2, eq2, H⟩ := Option.bind_eq_some_iff.mp H
    refine ev_call (vs := [.ref v1, .int a1]) (rest := []) (q := q_X10_hasHouse) hc_X11_house (Or.inr rfl) (fe_X11_house (pc := 5) rfl) ms_62 rfl rfl (Nat.le_of_ble_eq_true rfl) (kO_recv (K_X10_hasHouse eq2)) (E_X10_hasHouse eq2 (by omega)) rfl ?_
    show Ev xs N (d + 1) 103 8 [.ref a0, .int a1, .int a2] [.int q2.1] q2.2 nx _
    by_cases c3 : q2.1 = 0
    · rw [if_pos c3] at H
      refine ev_bt hc_X11_house (fe_X11_house (pc := 8) rfl) rfl c3 ?_
      obtain rfl := Option.some.inj H
      exact ev_9 hc_X11_house (fe_X11_house (pc := 11) rfl) rfl
    · rw [if_neg c3] at H
      refine ev_bf hc_X11_house (fe_X11_house (pc := 8) rfl) rfl c3 ?_
      refine ev_go hc_X11_house (k := 1) (pc' := 20) (L' := [.ref a0, .int a1, .int a2]) (S' := [.int a2]) rfl ?_
      by_cases c4 : a2 = 0
      · rw [if_pos c4] at H
        refine ev_3 hc_X11_house (fe_X11_house (pc := 20) rfl) (pc' := 52) (S' := []) (by rw [c4]; rfl) ?_
        refine ev_go hc_X11_house (k := 1) (pc' := 53) (L' := [.ref a0, .int a1, .int a2]) (S' := [.ref a0]) rfl ?_
        obtain ⟨v5, ev5, H⟩ := Option.bind_eq_some_iff.mp H
        refine ev_4 hc_X11_house (fe_X11_house (pc := 53) rfl) (gR_gf ev5) ?_
        refine ev_go hc_X11_house (k := 1) (pc' := 57) (L' := [.ref a0, .int a1, .int a2]) (S' := [.int a1, .ref v5]) rfl ?_
        obtain ⟨q6, eq6, H⟩ := Option.bind_eq_some_iff.mp H
        refine ev_call (vs := [.ref v5, .int a1]) (rest := []) (q := q_X10_ownedBy) hc_X11_house (Or.inr rfl) (fe_X11_house (pc := 57) rfl) ms_76 rfl rfl (Nat.le_of_ble_eq_true rfl) (kO_recv (K_X10_ownedBy eq6)) (E_X10_ownedBy eq6 (by omega)) rfl ?_
        show Ev xs N (d + 1) 103 60 [.ref a0, .int a1, .int a2] [.int q6.1] q6.2 nx _
        obtain rfl := Option.some.inj H
        exact ev_8 hc_X11_house (fe_X11_house (pc := 60) rfl) rfl
      rw [if_neg c4] at H
      by_cases c7 : a2 = 1
      · rw [if_pos c7] at H
        refine ev_3 hc_X11_house (fe_X11_house (pc := 20) rfl) (pc' := 61) (S' := []) (by rw [c7]; rfl) ?_
        refine ev_go hc_X11_house (k := 1) (pc' := 62) (L' := [.ref a0, .int a1, .int a2]) (S' := [.ref a0]) rfl ?_
        obtain ⟨v8, ev8, H⟩ := Option.bind_eq_some_iff.mp H
        refine ev_4 hc_X11_house (fe_X11_house (pc := 62) rfl) (gR_gf ev8) ?_
        refine ev_go hc_X11_house (k := 1) (pc' := 66) (L' := [.ref a0, .int a1, .int a2]) (S' := [.int a1, .ref v8]) rfl ?_
        obtain ⟨q9, eq9, H⟩ := Option.bind_eq_some_iff.mp H
        refine ev_call (vs := [.ref v8, .int a1]) (rest := []) (q := q_X10_keptBy) hc_X11_house (Or.inr rfl) (fe_X11_house (pc := 66) rfl) ms_75 rfl rfl (Nat.le_of_ble_eq_true rfl) (kO_recv (K_X10_keptBy eq9)) (E_X10_keptBy eq9 (by omega)) rfl ?_
        show Ev xs N (d + 1) 103 69 [.ref a0, .int a1, .int a2] [.int q9.1] q9.2 nx _
        obtain rfl := Option.some.inj H
        exact ev_8 hc_X11_house (fe_X11_house (pc := 69) rfl) rfl
      rw [if_neg c7] at H
      by_cases c10 : a2 = 2
      · rw [if_pos c10] at H
        refine ev_3 hc_X11_house (fe_X11_house (pc := 20) rfl) (pc' := 70) (S' := []) (by rw [c10]; rfl) ?_
        refine ev_go hc_X11_house (k := 1) (pc' := 71) (L' := [.ref a0, .int a1, .int a2]) (S' := [.ref a0]) rfl ?_
        obtain ⟨v11, ev11, H⟩ := Option.bind_eq_some_iff.mp H
        refine ev_4 hc_X11_house (fe_X11_house (pc := 71) rfl) (gR_gf ev11) ?_
        obtain ⟨v12, ev12, H⟩ := Option.bind_eq_some_iff.mp H
        refine ev_4 hc_X11_house (fe_X11_house (pc := 74) rfl) (gR_gf ev12) ?_
        obtain ⟨v13, ev13, H⟩ := Option.bind_eq_some_iff.mp H
        refine ev_4 hc_X11_house (fe_X11_house (pc := 77) rfl) (gR_gf ev13) ?_
        refine ev_go hc_X11_house (k := 1) (pc' := 81) (L' := [.ref a0, .int a1, .int a2]) (S' := [.int a1, .ref v13]) rfl ?_
        obtain ⟨v14, ev14, H⟩ := Option.bind_eq_some_iff.mp H
        refine ev_4 hc_X11_house (fe_X11_house (pc := 81) rfl) (rI_al ev14) ?_
        obtain rfl := Option.some.inj H
        exact ev_8 hc_X11_house (fe_X11_house (pc := 82) rfl) rfl
      rw [if_neg c10] at H
      by_cases c15 : a2 = 3
      · rw [if_pos c15] at H
        refine ev_3 hc_X11_house (fe_X11_house (pc := 20) rfl) (pc' := 83) (S' := []) (by rw [c15]; rfl) ?_
        refine ev_go hc_X11_house (k := 1) (pc' := 84) (L' := [.ref a0, .int a1, .int a2]) (S' := [.ref a0]) rfl ?_
        obtain ⟨v16, ev16, H⟩ := Option.bind_eq_some_iff.mp H
        refine ev_4 hc_X11_house (fe_X11_house (pc := 84) rfl) (gR_gf ev16) ?_
        refine ev_go hc_X11_house (k := 1) (pc' := 88) (L' := [.ref a0, .int a1, .int a2]) (S' := [.ref a0, .ref v16]) rfl ?_
        obtain ⟨v17, ev17, H⟩ := Option.bind_eq_some_iff.mp H
        refine ev_4 hc_X11_house (fe_X11_house (pc := 88) rfl) (gR_gf ev17) ?_
        refine ev_go hc_X11_house (k := 1) (pc' := 92) (L' := [.ref a0, .int a1, .int a2]) (S' := [.int a1, .ref v17, .ref v16]) rfl ?_
        obtain ⟨q18, eq18, H⟩ := Option.bind_eq_some_iff.mp H
        refine ev_call (vs := [.ref v17, .int a1]) (rest := [.ref v16]) (q := q_X10_keptBy) hc_X11_house (Or.inr rfl) (fe_X11_house (pc := 92) rfl) ms_75 rfl rfl (Nat.le_of_ble_eq_true rfl) (kO_recv (K_X10_keptBy eq18)) (E_X10_keptBy eq18 (by omega)) rfl ?_
        show Ev xs N (d + 1) 103 95 [.ref a0, .int a1, .int a2] [.int q18.1, .ref v16] q18.2 nx _
        obtain ⟨q19, eq19, H⟩ := Option.bind_eq_some_iff.mp H
        refine ev_call (vs := [.ref v16, .int q18.1]) (rest := []) (q := q_X10_brokenIn) hc_X11_house (Or.inr rfl) (fe_X11_house (pc := 95) rfl) ms_80 rfl rfl (Nat.le_of_ble_eq_true rfl) (kO_recv (K_X10_brokenIn eq19)) (E_X10_brokenIn eq19 (by omega)) rfl ?_
        show Ev xs N (d + 1) 103 98 [.ref a0, .int a1, .int a2] [.int q19.1] q19.2 nx _
        obtain rfl := Option.some.inj H
        exact ev_8 hc_X11_house (fe_X11_house (pc := 98) rfl) rfl
      rw [if_neg c15] at H
      refine ev_3 hc_X11_house (fe_X11_house (pc := 20) rfl) (pc' := 99) (S' := []) (sw_out (by have := And.intro True.intro True.intro; have := lv_neT c4 (a := 0) (by decide); have := lv_neT c7 (a := 1) (by decide); have := lv_neT c10 (a := 2) (by decide); have := lv_neT c15 (a := 3) (by decide); omega)) ?_
      obtain rfl := Option.some.inj H
      exact ev_9 hc_X11_house (fe_X11_house (pc := 99) rfl) rfl
  · rw [if_neg ck] at H; cases H
theorem hc_X11_worth : ci_code (ci_Ms 104) = k_X11_worth := rfl
theorem fe_X11_worth {pc : Nat} {w : Option ci_I} (h : (k_X11_worth)[pc]? = some w) : (k_X11_worth)[pc]? = some w := h
def F_X11_worth (a0 : Nat) (a1 : Int32) (a2 : Int32) (h : ci_H) : Option (Int32 × ci_H) := if kO h a0 = some 11 then ((gR h a0 11 0).bind fun v1 => (F_X10_hasThing v1 a1 h).bind fun q2 => if q2.1 = 0 then (some ((-1), q2.2)) else ((gR q2.2 a0 11 0).bind fun v4 => (F_X10_hasHouse v4 a2 q2.2).bind fun q5 => if q5.1 = 0 then (some ((-1), q5.2)) else ((gR q5.2 a0 11 3).bind fun v7 => (gR q5.2 a0 11 0).bind fun v8 => (F_X4_value v7 v8 a1 a2 q5.2).bind fun q9 => some (q9.1, q9.2)))) else none
theorem K_X11_worth {a0 : Nat} {a1 : Int32} {a2 : Int32} {h : ci_H} {r : Int32 × ci_H} (H : F_X11_worth a0 a1 a2 h = some r) : kO h a0 = some 11 := by
  unfold F_X11_worth at H
  by_cases c : kO h a0 = some 11
  · exact c
  · rw [if_neg c] at H; cases H
set_option maxHeartbeats 4000000 in
set_option maxRecDepth 20000 in
theorem E_X11_worth {xs : Nat → Int32} {N d : Nat} {nx : ci_N} {a0 : Nat} {a1 : Int32} {a2 : Int32} {h : ci_H} {r : Int32 × ci_H} (H : F_X11_worth a0 a1 a2 h = some r) (hd : 4 ≤ d) : Ev xs N d 104 0 (ci_entry [.ref a0, .int a1, .int a2] 3) [] h nx (oI r nx) := by
  obtain ⟨d, rfl⟩ : ∃ d2, d = d2 + 1 := ⟨d - 1, by omega⟩
  have hd : 3 ≤ d := by omega
  unfold F_X11_worth at H
  by_cases ck : kO h a0 = some 11
  · rw [if_pos ck] at H
    show Ev xs N (d + 1) 104 0 [.ref a0, .int a1, .int a2] [] h nx _
    refine ev_go hc_X11_worth (k := 1) (pc' := 1) (L' := [.ref a0, .int a1, .int a2]) (S' := [.ref a0]) rfl ?_
    obtain ⟨v1, ev1, H⟩ := Option.bind_eq_some_iff.mp H
    refine ev_4 hc_X11_worth (fe_X11_worth (pc := 1) rfl) (gR_gf ev1) ?_
    refine ev_go hc_X11_worth (k := 1) (pc' := 5) (L' := [.ref a0, .int a1, .int a2]) (S' := [.int a1, .ref v1]) rfl ?_
    obtain ⟨q2, eq2, H⟩ := Option.bind_eq_some_iff.mp H
    refine ev_call (vs := [.ref v1, .int a1]) (rest := []) (q := q_X10_hasThing) hc_X11_worth (Or.inr rfl) (fe_X11_worth (pc := 5) rfl) ms_63 rfl rfl (Nat.le_of_ble_eq_true rfl) (kO_recv (K_X10_hasThing eq2)) (E_X10_hasThing eq2 (by omega)) rfl ?_
    show Ev xs N (d + 1) 104 8 [.ref a0, .int a1, .int a2] [.int q2.1] q2.2 nx _
    by_cases c3 : q2.1 = 0
    · rw [if_pos c3] at H
      refine ev_bt hc_X11_worth (fe_X11_worth (pc := 8) rfl) rfl c3 ?_
      refine ev_go hc_X11_worth (k := 1) (pc' := 23) (L' := [.ref a0, .int a1, .int a2]) (S' := [.int ((-1))]) rfl ?_
      obtain rfl := Option.some.inj H
      exact ev_8 hc_X11_worth (fe_X11_worth (pc := 23) rfl) rfl
    · rw [if_neg c3] at H
      refine ev_bf hc_X11_worth (fe_X11_worth (pc := 8) rfl) rfl c3 ?_
      refine ev_go hc_X11_worth (k := 1) (pc' := 12) (L' := [.ref a0, .int a1, .int a2]) (S' := [.ref a0]) rfl ?_
      obtain ⟨v4, ev4, H⟩ := Option.bind_eq_some_iff.mp H
      refine ev_4 hc_X11_worth (fe_X11_worth (pc := 12) rfl) (gR_gf ev4) ?_
      refine ev_go hc_X11_worth (k := 1) (pc' := 16) (L' := [.ref a0, .int a1, .int a2]) (S' := [.int a2, .ref v4]) rfl ?_
      obtain ⟨q5, eq5, H⟩ := Option.bind_eq_some_iff.mp H
      refine ev_call (vs := [.ref v4, .int a2]) (rest := []) (q := q_X10_hasHouse) hc_X11_worth (Or.inr rfl) (fe_X11_worth (pc := 16) rfl) ms_62 rfl rfl (Nat.le_of_ble_eq_true rfl) (kO_recv (K_X10_hasHouse eq5)) (E_X10_hasHouse eq5 (by omega)) rfl ?_
      show Ev xs N (d + 1) 104 19 [.ref a0, .int a1, .int a2] [.int q5.1] q5.2 nx _
      by_cases c6 : q5.1 = 0
      · rw [if_pos c6] at H
        refine ev_bt hc_X11_worth (fe_X11_worth (pc := 19) rfl) rfl c6 ?_
        refine ev_go hc_X11_worth (k := 1) (pc' := 23) (L' := [.ref a0, .int a1, .int a2]) (S' := [.int ((-1))]) rfl ?_
        obtain rfl := Option.some.inj H
        exact ev_8 hc_X11_worth (fe_X11_worth (pc := 23) rfl) rfl
      · rw [if_neg c6] at H
        refine ev_bf hc_X11_worth (fe_X11_worth (pc := 19) rfl) rfl c6 ?_
        refine ev_go hc_X11_worth (k := 1) (pc' := 25) (L' := [.ref a0, .int a1, .int a2]) (S' := [.ref a0]) rfl ?_
        obtain ⟨v7, ev7, H⟩ := Option.bind_eq_some_iff.mp H
        refine ev_4 hc_X11_worth (fe_X11_worth (pc := 25) rfl) (gR_gf ev7) ?_
        refine ev_go hc_X11_worth (k := 1) (pc' := 29) (L' := [.ref a0, .int a1, .int a2]) (S' := [.ref a0, .ref v7]) rfl ?_
        obtain ⟨v8, ev8, H⟩ := Option.bind_eq_some_iff.mp H
        refine ev_4 hc_X11_worth (fe_X11_worth (pc := 29) rfl) (gR_gf ev8) ?_
        refine ev_go hc_X11_worth (k := 2) (pc' := 34) (L' := [.ref a0, .int a1, .int a2]) (S' := [.int a2, .int a1, .ref v8, .ref v7]) rfl ?_
        obtain ⟨q9, eq9, H⟩ := Option.bind_eq_some_iff.mp H
        refine ev_call (vs := [.ref v7, .ref v8, .int a1, .int a2]) (rest := []) (q := q_X4_value) hc_X11_worth (Or.inr rfl) (fe_X11_worth (pc := 34) rfl) ms_25 rfl rfl (Nat.le_of_ble_eq_true rfl) (kO_recv (K_X4_value eq9)) (E_X4_value eq9 (by omega)) rfl ?_
        show Ev xs N (d + 1) 104 37 [.ref a0, .int a1, .int a2] [.int q9.1] q9.2 nx _
        obtain rfl := Option.some.inj H
        exact ev_8 hc_X11_worth (fe_X11_worth (pc := 37) rfl) rfl
  · rw [if_neg ck] at H; cases H
theorem hc_X11_set : ci_code (ci_Ms 105) = k_X11_set := rfl
theorem fe_X11_set {pc : Nat} {w : Option ci_I} (h : (k_X11_set)[pc]? = some w) : (k_X11_set)[pc]? = some w := h
def F_X11_set (a0 : Nat) (a1 : Int32) (h : ci_H) : Option (Int32 × ci_H) := if kO h a0 = some 11 then (if a1 < 1 then (some ((-1), h)) else (if a1 ≤ 4 then ((gR h a0 11 0).bind fun v3 => (gI h v3 10 8).bind fun v4 => (gR h a0 11 0).bind fun v5 => (pF h v5 10 8 (.int a1)).bind fun h6 => some (v4, h6)) else (some ((-1), h)))) else none
theorem K_X11_set {a0 : Nat} {a1 : Int32} {h : ci_H} {r : Int32 × ci_H} (H : F_X11_set a0 a1 h = some r) : kO h a0 = some 11 := by
  unfold F_X11_set at H
  by_cases c : kO h a0 = some 11
  · exact c
  · rw [if_neg c] at H; cases H
set_option maxHeartbeats 4000000 in
set_option maxRecDepth 20000 in
theorem E_X11_set {xs : Nat → Int32} {N d : Nat} {nx : ci_N} {a0 : Nat} {a1 : Int32} {h : ci_H} {r : Int32 × ci_H} (H : F_X11_set a0 a1 h = some r) (hd : 0 ≤ d) : Ev xs N d 105 0 (ci_entry [.ref a0, .int a1] 3) [] h nx (oI r nx) := by
  unfold F_X11_set at H
  by_cases ck : kO h a0 = some 11
  · rw [if_pos ck] at H
    show Ev xs N d 105 0 [.ref a0, .int a1, ci_junk] [] h nx _
    refine ev_go hc_X11_set (k := 2) (pc' := 2) (L' := [.ref a0, .int a1, ci_junk]) (S' := [.int 1, .int a1]) rfl ?_
    by_cases c1 : a1 < 1
    · rw [if_pos c1] at H
      refine ev_bt hc_X11_set (fe_X11_set (pc := 2) rfl) rfl c1 ?_
      refine ev_go hc_X11_set (k := 1) (pc' := 11) (L' := [.ref a0, .int a1, ci_junk]) (S' := [.int ((-1))]) rfl ?_
      obtain rfl := Option.some.inj H
      exact ev_8 hc_X11_set (fe_X11_set (pc := 11) rfl) rfl
    · rw [if_neg c1] at H
      refine ev_bf hc_X11_set (fe_X11_set (pc := 2) rfl) rfl c1 ?_
      refine ev_go hc_X11_set (k := 2) (pc' := 7) (L' := [.ref a0, .int a1, ci_junk]) (S' := [.int 4, .int a1]) rfl ?_
      by_cases c2 : a1 ≤ 4
      · rw [if_pos c2] at H
        refine ev_bt hc_X11_set (fe_X11_set (pc := 7) rfl) rfl c2 ?_
        refine ev_go hc_X11_set (k := 1) (pc' := 13) (L' := [.ref a0, .int a1, ci_junk]) (S' := [.ref a0]) rfl ?_
        obtain ⟨v3, ev3, H⟩ := Option.bind_eq_some_iff.mp H
        refine ev_4 hc_X11_set (fe_X11_set (pc := 13) rfl) (gR_gf ev3) ?_
        obtain ⟨v4, ev4, H⟩ := Option.bind_eq_some_iff.mp H
        refine ev_4 hc_X11_set (fe_X11_set (pc := 16) rfl) (gI_gf ev4) ?_
        refine ev_go hc_X11_set (k := 2) (pc' := 21) (L' := [.ref a0, .int a1, .int v4]) (S' := [.ref a0]) rfl ?_
        obtain ⟨v5, ev5, H⟩ := Option.bind_eq_some_iff.mp H
        refine ev_4 hc_X11_set (fe_X11_set (pc := 21) rfl) (gR_gf ev5) ?_
        refine ev_go hc_X11_set (k := 1) (pc' := 25) (L' := [.ref a0, .int a1, .int v4]) (S' := [.int a1, .ref v5]) rfl ?_
        obtain ⟨h6, eh6, H⟩ := Option.bind_eq_some_iff.mp H
        refine ev_5 hc_X11_set (fe_X11_set (pc := 25) rfl) (pF_pf eh6) ?_
        refine ev_go hc_X11_set (k := 1) (pc' := 29) (L' := [.ref a0, .int a1, .int v4]) (S' := [.int v4]) rfl ?_
        obtain rfl := Option.some.inj H
        exact ev_8 hc_X11_set (fe_X11_set (pc := 29) rfl) rfl
      · rw [if_neg c2] at H
        refine ev_bf hc_X11_set (fe_X11_set (pc := 7) rfl) rfl c2 ?_
        refine ev_go hc_X11_set (k := 1) (pc' := 11) (L' := [.ref a0, .int a1, ci_junk]) (S' := [.int ((-1))]) rfl ?_
        obtain rfl := Option.some.inj H
        exact ev_8 hc_X11_set (fe_X11_set (pc := 11) rfl) rfl
  · rw [if_neg ck] at H; cases H
theorem hc_X11_sheetEntry : ci_code (ci_Ms 149) = k_X11_sheetEntry := rfl
theorem fe_X11_sheetEntry {pc : Nat} {w : Option ci_I} (h : (k_X11_sheetEntry)[pc]? = some w) : (k_X11_sheetEntry)[pc]? = some w := h
def b_X11_sheetEntry_20 (l2 : Int32)  (h : ci_H) : Option (Int32 × ci_H) := some (if 0 < (if l2 < 9999 then l2 else 9999) then if l2 < 9999 then l2 else 9999 else 0, h)
set_option maxHeartbeats 4000000 in
set_option maxRecDepth 20000 in
theorem eb_X11_sheetEntry_20 {xs : Nat → Int32} {N d : Nat} {nx : ci_N} {l2 : Int32} {h : ci_H} {r : Int32 × ci_H} (H : b_X11_sheetEntry_20 l2 h = some r) : Ev xs N d 149 20 [ci_junk, ci_junk, .int l2] [] h nx (oI r nx) := by
  unfold b_X11_sheetEntry_20 at H
  refine ev_go hc_X11_sheetEntry (k := 3) (pc' := 25) (L' := [ci_junk, ci_junk, .int l2]) (S' := [.int l2, .int 9999, .int 0]) rfl ?_
  refine ev_15 hc_X11_sheetEntry (fe_X11_sheetEntry (pc := 25) rfl) (S' := [.int (if l2 < 9999 then l2 else 9999), .int 0]) rfl ?_
  refine ev_15 hc_X11_sheetEntry (fe_X11_sheetEntry (pc := 28) rfl) (S' := [.int (if 0 < (if l2 < 9999 then l2 else 9999) then if l2 < 9999 then l2 else 9999 else 0)]) rfl ?_
  obtain rfl := Option.some.inj H
  exact ev_8 hc_X11_sheetEntry (fe_X11_sheetEntry (pc := 31) rfl) rfl
def F_X11_sheetEntry (a0 : Int32) (a1 : Int32) (h : ci_H) : Option (Int32 × ci_H) := if a0 = 0 then (b_X11_sheetEntry_20 ((a1 : Int32).toInt8.toInt32) h) else (if a0 = 1 then (b_X11_sheetEntry_20 ((a1 : Int32).toInt16.toInt32) h) else (b_X11_sheetEntry_20 a1 h))
set_option maxHeartbeats 4000000 in
set_option maxRecDepth 20000 in
theorem E_X11_sheetEntry {xs : Nat → Int32} {N d : Nat} {nx : ci_N} {a0 : Int32} {a1 : Int32} {h : ci_H} {r : Int32 × ci_H} (H : F_X11_sheetEntry a0 a1 h = some r) (hd : 0 ≤ d) : Ev xs N d 149 0 (ci_entry [.int a0, .int a1] 3) [] h nx (oI r nx) := by
  unfold F_X11_sheetEntry at H
  show Ev xs N d 149 0 [.int a0, .int a1, ci_junk] [] h nx _
  refine ev_go hc_X11_sheetEntry (k := 3) (pc' := 3) (L' := [.int a0, .int a1, .int a1]) (S' := [.int a0]) rfl ?_
  by_cases c1 : a0 = 0
  · rw [if_pos c1] at H
    refine ev_bt hc_X11_sheetEntry (fe_X11_sheetEntry (pc := 3) rfl) rfl c1 ?_
    refine ev_go hc_X11_sheetEntry (k := 4) (pc' := 20) (L' := [.int a0, .int a1, .int ((a1 : Int32).toInt8.toInt32)]) (S' := []) rfl ?_
    exact Ev.weak (ci_le_c (Or.inl rfl) (ci_le_c (Or.inl rfl) (ci_le_c (Or.inr rfl) (ci_le_n)))) (eb_X11_sheetEntry_20 H)
  · rw [if_neg c1] at H
    refine ev_bf hc_X11_sheetEntry (fe_X11_sheetEntry (pc := 3) rfl) rfl c1 ?_
    refine ev_go hc_X11_sheetEntry (k := 2) (pc' := 14) (L' := [.int a0, .int a1, .int a1]) (S' := [.int 1, .int a0]) rfl ?_
    by_cases c2 : a0 = 1
    · rw [if_pos c2] at H
      refine ev_bt hc_X11_sheetEntry (fe_X11_sheetEntry (pc := 14) rfl) rfl c2 ?_
      refine ev_go hc_X11_sheetEntry (k := 3) (pc' := 20) (L' := [.int a0, .int a1, .int ((a1 : Int32).toInt16.toInt32)]) (S' := []) rfl ?_
      exact Ev.weak (ci_le_c (Or.inl rfl) (ci_le_c (Or.inl rfl) (ci_le_c (Or.inr rfl) (ci_le_n)))) (eb_X11_sheetEntry_20 H)
    · rw [if_neg c2] at H
      refine ev_bf hc_X11_sheetEntry (fe_X11_sheetEntry (pc := 14) rfl) rfl c2 ?_
      exact Ev.weak (ci_le_c (Or.inl rfl) (ci_le_c (Or.inl rfl) (ci_le_c (Or.inr rfl) (ci_le_n)))) (eb_X11_sheetEntry_20 H)
theorem hc_X11_sheet : ci_code (ci_Ms 106) = k_X11_sheet := rfl
theorem fe_X11_sheet {pc : Nat} {w : Option ci_I} (h : (k_X11_sheet)[pc]? = some w) : (k_X11_sheet)[pc]? = some w := h
def b_X11_sheet_80 (r_46 : Int32 → Int32 → ci_H → Option (Int32 × ci_H)) (l0 : Nat) (l1 : Int32) (l3 : Int32) (l4 : Int32) (l5 : Int32) (l6 : Int32) (l7 : Int32) (s0 : Int32)  (h : ci_H) : Option (Int32 × ci_H) := (gR h l0 11 0).bind fun v1 => (gR h v1 10 0).bind fun v2 => (gR h v2 6 3).bind fun v3 => (wI h v3 l7 s0).bind fun h4 => r_46 (l6 + s0) (l7 + 1) h4
set_option maxHeartbeats 4000000 in
set_option maxRecDepth 20000 in
theorem eb_X11_sheet_80 {xs : Nat → Int32} {N d : Nat} {nx : ci_N} {r_46 : Int32 → Int32 → ci_H → Option (Int32 × ci_H)} {l0 : Nat} {l1 : Int32} {l3 : Int32} {l4 : Int32} {l5 : Int32} {l6 : Int32} {l7 : Int32} {s0 : Int32} (hd : 0 ≤ d) (h_46 : ∀ (l6 : Int32) (l7 : Int32) (h : ci_H) (r : Int32 × ci_H), r_46 l6 l7 h = some r → Ev xs N (d + 1) 106 46 [.ref l0, .int l1, ci_junk, .int l3, .int l4, .int l5, .int l6, .int l7, ci_junk] [] h nx (oI r nx)) {h : ci_H} {r : Int32 × ci_H} (H : b_X11_sheet_80 r_46 l0 l1 l3 l4 l5 l6 l7 s0 h = some r) : Ev xs N (d + 1) 106 80 [.ref l0, .int l1, ci_junk, .int l3, .int l4, .int l5, .int l6, .int l7, ci_junk] [.int s0] h nx (oI r nx) := by
  unfold b_X11_sheet_80 at H
  refine ev_go hc_X11_sheet (k := 2) (pc' := 83) (L' := [.ref l0, .int l1, ci_junk, .int l3, .int l4, .int l5, .int l6, .int l7, .int s0]) (S' := [.ref l0]) rfl ?_
  obtain ⟨v1, ev1, H⟩ := Option.bind_eq_some_iff.mp H
  refine ev_4 hc_X11_sheet (fe_X11_sheet (pc := 83) rfl) (gR_gf ev1) ?_
  obtain ⟨v2, ev2, H⟩ := Option.bind_eq_some_iff.mp H
  refine ev_4 hc_X11_sheet (fe_X11_sheet (pc := 86) rfl) (gR_gf ev2) ?_
  obtain ⟨v3, ev3, H⟩ := Option.bind_eq_some_iff.mp H
  refine ev_4 hc_X11_sheet (fe_X11_sheet (pc := 89) rfl) (gR_gf ev3) ?_
  refine ev_go hc_X11_sheet (k := 2) (pc' := 96) (L' := [.ref l0, .int l1, ci_junk, .int l3, .int l4, .int l5, .int l6, .int l7, .int s0]) (S' := [.int s0, .int l7, .ref v3]) rfl ?_
  obtain ⟨h4, eh4, H⟩ := Option.bind_eq_some_iff.mp H
  refine ev_5 hc_X11_sheet (fe_X11_sheet (pc := 96) rfl) (wI_as eh4) ?_
  refine ev_go hc_X11_sheet (k := 6) (pc' := 46) (L' := [.ref l0, .int l1, ci_junk, .int l3, .int l4, .int l5, .int (l6 + s0), .int (l7 + 1), .int s0]) (S' := []) rfl ?_
  exact Ev.weak (ci_le_c (Or.inr rfl) (ci_le_c (Or.inr rfl) (ci_le_c (Or.inl rfl) (ci_le_c (Or.inr rfl) (ci_le_c (Or.inr rfl) (ci_le_c (Or.inr rfl) (ci_le_c (Or.inr rfl) (ci_le_c (Or.inr rfl) (ci_le_c (Or.inl rfl) (ci_le_n)))))))))) (h_46 _ _ _ _ H)
def b_X11_sheet_46 (l0 : Nat) (l1 : Int32) (l3 : Int32) (l4 : Int32) (l5 : Int32) : Nat → Int32 → Int32 → ci_H → Option (Int32 × ci_H)
  | 0, _, _, _ => none
  | n + 1, l6, l7, h => (gR h l0 11 0).bind fun v1 => (gI h v1 10 5).bind fun v2 => if v2 ≤ l7 then (if l1 = 3 then (some ((-3), h)) else (some (l6, h))) else (if l5 ≤ l7 then (b_X11_sheet_80 (fun x0 x1 x2 => b_X11_sheet_46 l0 l1 l3 l4 l5 n x0 x1 x2) l0 l1 l3 l4 l5 l6 l7 0 h) else ((F_X11_sheetEntry l1 (l3 + (l7 * l4)) h).bind fun q6 => b_X11_sheet_80 (fun x0 x1 x2 => b_X11_sheet_46 l0 l1 l3 l4 l5 n x0 x1 x2) l0 l1 l3 l4 l5 l6 l7 q6.1 q6.2))
set_option maxHeartbeats 4000000 in
set_option maxRecDepth 20000 in
theorem eb_X11_sheet_46 {xs : Nat → Int32} {N d : Nat} {nx : ci_N} {l0 : Nat} {l1 : Int32} {l3 : Int32} {l4 : Int32} {l5 : Int32} (hd : 0 ≤ d) : ∀ (n : Nat) (l6 : Int32) (l7 : Int32) (h : ci_H) (r : Int32 × ci_H), b_X11_sheet_46 l0 l1 l3 l4 l5 n l6 l7 h = some r → Ev xs N (d + 1) 106 46 [.ref l0, .int l1, ci_junk, .int l3, .int l4, .int l5, .int l6, .int l7, ci_junk] [] h nx (oI r nx) := by
  intro n
  induction n with
  | zero => intro l6 l7 h r H; unfold b_X11_sheet_46 at H; cases H
  | succ n ih =>
    intro l6 l7 h r H
    unfold b_X11_sheet_46 at H
    refine ev_go hc_X11_sheet (k := 2) (pc' := 49) (L' := [.ref l0, .int l1, ci_junk, .int l3, .int l4, .int l5, .int l6, .int l7, ci_junk]) (S' := [.ref l0, .int l7]) rfl ?_
    obtain ⟨v1, ev1, H⟩ := Option.bind_eq_some_iff.mp H
    refine ev_4 hc_X11_sheet (fe_X11_sheet (pc := 49) rfl) (gR_gf ev1) ?_
    obtain ⟨v2, ev2, H⟩ := Option.bind_eq_some_iff.mp H
    refine ev_4 hc_X11_sheet (fe_X11_sheet (pc := 52) rfl) (gI_gf ev2) ?_
    by_cases c3 : v2 ≤ l7
    · rw [if_pos c3] at H
      refine ev_bt hc_X11_sheet (fe_X11_sheet (pc := 55) rfl) rfl c3 ?_
      refine ev_go hc_X11_sheet (k := 2) (pc' := 112) (L' := [.ref l0, .int l1, ci_junk, .int l3, .int l4, .int l5, .int l6, .int l7, ci_junk]) (S' := [.int 3, .int l1]) rfl ?_
      by_cases c4 : l1 = 3
      · rw [if_pos c4] at H
        refine ev_bt hc_X11_sheet (fe_X11_sheet (pc := 112) rfl) rfl c4 ?_
        refine ev_go hc_X11_sheet (k := 2) (pc' := 122) (L' := [.ref l0, .int l1, ci_junk, .int l3, .int l4, .int l5, .int l6, .int l7, ci_junk]) (S' := [.int ((-3))]) rfl ?_
        obtain rfl := Option.some.inj H
        exact ev_8 hc_X11_sheet (fe_X11_sheet (pc := 122) rfl) rfl
      · rw [if_neg c4] at H
        refine ev_bf hc_X11_sheet (fe_X11_sheet (pc := 112) rfl) rfl c4 ?_
        refine ev_go hc_X11_sheet (k := 1) (pc' := 122) (L' := [.ref l0, .int l1, ci_junk, .int l3, .int l4, .int l5, .int l6, .int l7, ci_junk]) (S' := [.int l6]) rfl ?_
        obtain rfl := Option.some.inj H
        exact ev_8 hc_X11_sheet (fe_X11_sheet (pc := 122) rfl) rfl
    · rw [if_neg c3] at H
      refine ev_bf hc_X11_sheet (fe_X11_sheet (pc := 55) rfl) rfl c3 ?_
      refine ev_go hc_X11_sheet (k := 2) (pc' := 62) (L' := [.ref l0, .int l1, ci_junk, .int l3, .int l4, .int l5, .int l6, .int l7, ci_junk]) (S' := [.int l5, .int l7]) rfl ?_
      by_cases c5 : l5 ≤ l7
      · rw [if_pos c5] at H
        refine ev_bt hc_X11_sheet (fe_X11_sheet (pc := 62) rfl) rfl c5 ?_
        refine ev_go hc_X11_sheet (k := 1) (pc' := 80) (L' := [.ref l0, .int l1, ci_junk, .int l3, .int l4, .int l5, .int l6, .int l7, ci_junk]) (S' := [.int 0]) rfl ?_
        exact Ev.weak (ci_le_c (Or.inr rfl) (ci_le_c (Or.inr rfl) (ci_le_c (Or.inl rfl) (ci_le_c (Or.inr rfl) (ci_le_c (Or.inr rfl) (ci_le_c (Or.inr rfl) (ci_le_c (Or.inr rfl) (ci_le_c (Or.inr rfl) (ci_le_c (Or.inl rfl) (ci_le_n)))))))))) (eb_X11_sheet_80 hd ih H)
      · rw [if_neg c5] at H
        refine ev_bf hc_X11_sheet (fe_X11_sheet (pc := 62) rfl) rfl c5 ?_
        refine ev_go hc_X11_sheet (k := 6) (pc' := 73) (L' := [.ref l0, .int l1, ci_junk, .int l3, .int l4, .int l5, .int l6, .int l7, ci_junk]) (S' := [.int (l3 + (l7 * l4)), .int l1]) rfl ?_
        obtain ⟨q6, eq6, H⟩ := Option.bind_eq_some_iff.mp H
        refine ev_call (vs := [.int l1, .int (l3 + (l7 * l4))]) (rest := []) (q := q_X11_sheetEntry) hc_X11_sheet (Or.inl rfl) (fe_X11_sheet (pc := 73) rfl) ms_149 rfl rfl (Nat.le_of_ble_eq_true rfl) rfl (E_X11_sheetEntry eq6 (by omega)) rfl ?_
        show Ev xs N (d + 1) 106 76 [.ref l0, .int l1, ci_junk, .int l3, .int l4, .int l5, .int l6, .int l7, ci_junk] [.int q6.1] q6.2 nx _
        refine ev_go hc_X11_sheet (k := 1) (pc' := 80) (L' := [.ref l0, .int l1, ci_junk, .int l3, .int l4, .int l5, .int l6, .int l7, ci_junk]) (S' := [.int q6.1]) rfl ?_
        exact Ev.weak (ci_le_c (Or.inr rfl) (ci_le_c (Or.inr rfl) (ci_le_c (Or.inl rfl) (ci_le_c (Or.inr rfl) (ci_le_c (Or.inr rfl) (ci_le_c (Or.inr rfl) (ci_le_c (Or.inr rfl) (ci_le_c (Or.inr rfl) (ci_le_c (Or.inl rfl) (ci_le_n)))))))))) (eb_X11_sheet_80 hd ih H)
def b_X11_sheet_38 (l0 : Nat) (l1 : Int32) (l3 : Int32) (l4 : Int32) (s0 : Int32)  (h : ci_H) : Option (Int32 × ci_H) := b_X11_sheet_46 l0 l1 l3 l4 s0 bigN 0 0 h
set_option maxHeartbeats 4000000 in
set_option maxRecDepth 20000 in
theorem eb_X11_sheet_38 {xs : Nat → Int32} {N d : Nat} {nx : ci_N} {l0 : Nat} {l1 : Int32} {l3 : Int32} {l4 : Int32} {s0 : Int32} (hd : 0 ≤ d) {h : ci_H} {r : Int32 × ci_H} (H : b_X11_sheet_38 l0 l1 l3 l4 s0 h = some r) : Ev xs N (d + 1) 106 38 [.ref l0, .int l1, ci_junk, .int l3, .int l4, ci_junk, ci_junk, ci_junk, ci_junk] [.int s0] h nx (oI r nx) := by
  unfold b_X11_sheet_38 at H
  refine ev_go hc_X11_sheet (k := 5) (pc' := 46) (L' := [.ref l0, .int l1, ci_junk, .int l3, .int l4, .int s0, .int 0, .int 0, ci_junk]) (S' := []) rfl ?_
  exact Ev.weak (ci_le_c (Or.inr rfl) (ci_le_c (Or.inr rfl) (ci_le_c (Or.inl rfl) (ci_le_c (Or.inr rfl) (ci_le_c (Or.inr rfl) (ci_le_c (Or.inr rfl) (ci_le_c (Or.inr rfl) (ci_le_c (Or.inr rfl) (ci_le_c (Or.inl rfl) (ci_le_n)))))))))) (eb_X11_sheet_46 hd bigN _ _ _ _ H)
def b_X11_sheet_28 (l0 : Nat) (l1 : Int32) (l2 : Int32) (l3 : Int32) (l4 : Int32)  (h : ci_H) : Option (Int32 × ci_H) := if l1 = 3 then (b_X11_sheet_38 l0 l1 l3 l4 0 h) else (b_X11_sheet_38 l0 l1 l3 l4 l2 h)
set_option maxHeartbeats 4000000 in
set_option maxRecDepth 20000 in
theorem eb_X11_sheet_28 {xs : Nat → Int32} {N d : Nat} {nx : ci_N} {l0 : Nat} {l1 : Int32} {l2 : Int32} {l3 : Int32} {l4 : Int32} (hd : 0 ≤ d) {h : ci_H} {r : Int32 × ci_H} (H : b_X11_sheet_28 l0 l1 l2 l3 l4 h = some r) : Ev xs N (d + 1) 106 28 [.ref l0, .int l1, .int l2, .int l3, .int l4, ci_junk, ci_junk, ci_junk, ci_junk] [] h nx (oI r nx) := by
  unfold b_X11_sheet_28 at H
  refine ev_go hc_X11_sheet (k := 2) (pc' := 30) (L' := [.ref l0, .int l1, .int l2, .int l3, .int l4, ci_junk, ci_junk, ci_junk, ci_junk]) (S' := [.int 3, .int l1]) rfl ?_
  by_cases c1 : l1 = 3
  · rw [if_pos c1] at H
    refine ev_bt hc_X11_sheet (fe_X11_sheet (pc := 30) rfl) rfl c1 ?_
    refine ev_go hc_X11_sheet (k := 2) (pc' := 38) (L' := [.ref l0, .int l1, .int l2, .int l3, .int l4, ci_junk, ci_junk, ci_junk, ci_junk]) (S' := [.int 0]) rfl ?_
    exact Ev.weak (ci_le_c (Or.inr rfl) (ci_le_c (Or.inr rfl) (ci_le_c (Or.inl rfl) (ci_le_c (Or.inr rfl) (ci_le_c (Or.inr rfl) (ci_le_c (Or.inl rfl) (ci_le_c (Or.inl rfl) (ci_le_c (Or.inl rfl) (ci_le_c (Or.inl rfl) (ci_le_n)))))))))) (eb_X11_sheet_38 hd H)
  · rw [if_neg c1] at H
    refine ev_bf hc_X11_sheet (fe_X11_sheet (pc := 30) rfl) rfl c1 ?_
    refine ev_go hc_X11_sheet (k := 1) (pc' := 38) (L' := [.ref l0, .int l1, .int l2, .int l3, .int l4, ci_junk, ci_junk, ci_junk, ci_junk]) (S' := [.int l2]) rfl ?_
    exact Ev.weak (ci_le_c (Or.inr rfl) (ci_le_c (Or.inr rfl) (ci_le_c (Or.inl rfl) (ci_le_c (Or.inr rfl) (ci_le_c (Or.inr rfl) (ci_le_c (Or.inl rfl) (ci_le_c (Or.inl rfl) (ci_le_c (Or.inl rfl) (ci_le_c (Or.inl rfl) (ci_le_n)))))))))) (eb_X11_sheet_38 hd H)
def F_X11_sheet (a0 : Nat) (a1 : Int32) (a2 : Int32) (a3 : Int32) (a4 : Int32) (h : ci_H) : Option (Int32 × ci_H) := if kO h a0 = some 11 then (if a1 < 0 then (some ((-1), h)) else (if 3 < a1 then (some ((-1), h)) else (if a2 ≤ 5 then (if a1 = 3 then (b_X11_sheet_28 a0 a1 a2 a3 a4 h) else (if 0 ≤ a2 then (b_X11_sheet_28 a0 a1 a2 a3 a4 h) else (some ((-2), h)))) else (some ((-1), h))))) else none
theorem K_X11_sheet {a0 : Nat} {a1 : Int32} {a2 : Int32} {a3 : Int32} {a4 : Int32} {h : ci_H} {r : Int32 × ci_H} (H : F_X11_sheet a0 a1 a2 a3 a4 h = some r) : kO h a0 = some 11 := by
  unfold F_X11_sheet at H
  by_cases c : kO h a0 = some 11
  · exact c
  · rw [if_neg c] at H; cases H
set_option maxHeartbeats 4000000 in
set_option maxRecDepth 20000 in
theorem E_X11_sheet {xs : Nat → Int32} {N d : Nat} {nx : ci_N} {a0 : Nat} {a1 : Int32} {a2 : Int32} {a3 : Int32} {a4 : Int32} {h : ci_H} {r : Int32 × ci_H} (H : F_X11_sheet a0 a1 a2 a3 a4 h = some r) (hd : 1 ≤ d) : Ev xs N d 106 0 (ci_entry [.ref a0, .int a1, .int a2, .int a3, .int a4] 9) [] h nx (oI r nx) := by
  obtain ⟨d, rfl⟩ : ∃ d2, d = d2 + 1 := ⟨d - 1, by omega⟩
  have hd : 0 ≤ d := by omega
  unfold F_X11_sheet at H
  by_cases ck : kO h a0 = some 11
  · rw [if_pos ck] at H
    show Ev xs N (d + 1) 106 0 [.ref a0, .int a1, .int a2, .int a3, .int a4, ci_junk, ci_junk, ci_junk, ci_junk] [] h nx _
    refine ev_go hc_X11_sheet (k := 1) (pc' := 1) (L' := [.ref a0, .int a1, .int a2, .int a3, .int a4, ci_junk, ci_junk, ci_junk, ci_junk]) (S' := [.int a1]) rfl ?_
    by_cases c1 : a1 < 0
    · rw [if_pos c1] at H
      refine ev_bt hc_X11_sheet (fe_X11_sheet (pc := 1) rfl) rfl c1 ?_
      refine ev_go hc_X11_sheet (k := 1) (pc' := 15) (L' := [.ref a0, .int a1, .int a2, .int a3, .int a4, ci_junk, ci_junk, ci_junk, ci_junk]) (S' := [.int ((-1))]) rfl ?_
      obtain rfl := Option.some.inj H
      exact ev_8 hc_X11_sheet (fe_X11_sheet (pc := 15) rfl) rfl
    · rw [if_neg c1] at H
      refine ev_bf hc_X11_sheet (fe_X11_sheet (pc := 1) rfl) rfl c1 ?_
      refine ev_go hc_X11_sheet (k := 2) (pc' := 6) (L' := [.ref a0, .int a1, .int a2, .int a3, .int a4, ci_junk, ci_junk, ci_junk, ci_junk]) (S' := [.int 3, .int a1]) rfl ?_
      by_cases c2 : 3 < a1
      · rw [if_pos c2] at H
        refine ev_bt hc_X11_sheet (fe_X11_sheet (pc := 6) rfl) rfl c2 ?_
        refine ev_go hc_X11_sheet (k := 1) (pc' := 15) (L' := [.ref a0, .int a1, .int a2, .int a3, .int a4, ci_junk, ci_junk, ci_junk, ci_junk]) (S' := [.int ((-1))]) rfl ?_
        obtain rfl := Option.some.inj H
        exact ev_8 hc_X11_sheet (fe_X11_sheet (pc := 15) rfl) rfl
      · rw [if_neg c2] at H
        refine ev_bf hc_X11_sheet (fe_X11_sheet (pc := 6) rfl) rfl c2 ?_
        refine ev_go hc_X11_sheet (k := 2) (pc' := 11) (L' := [.ref a0, .int a1, .int a2, .int a3, .int a4, ci_junk, ci_junk, ci_junk, ci_junk]) (S' := [.int 5, .int a2]) rfl ?_
        by_cases c3 : a2 ≤ 5
        · rw [if_pos c3] at H
          refine ev_bt hc_X11_sheet (fe_X11_sheet (pc := 11) rfl) rfl c3 ?_
          refine ev_go hc_X11_sheet (k := 2) (pc' := 18) (L' := [.ref a0, .int a1, .int a2, .int a3, .int a4, ci_junk, ci_junk, ci_junk, ci_junk]) (S' := [.int 3, .int a1]) rfl ?_
          by_cases c4 : a1 = 3
          · rw [if_pos c4] at H
            refine ev_bt hc_X11_sheet (fe_X11_sheet (pc := 18) rfl) rfl c4 ?_
            exact Ev.weak (ci_le_c (Or.inr rfl) (ci_le_c (Or.inr rfl) (ci_le_c (Or.inr rfl) (ci_le_c (Or.inr rfl) (ci_le_c (Or.inr rfl) (ci_le_c (Or.inl rfl) (ci_le_c (Or.inl rfl) (ci_le_c (Or.inl rfl) (ci_le_c (Or.inl rfl) (ci_le_n)))))))))) (eb_X11_sheet_28 hd H)
          · rw [if_neg c4] at H
            refine ev_bf hc_X11_sheet (fe_X11_sheet (pc := 18) rfl) rfl c4 ?_
            refine ev_go hc_X11_sheet (k := 1) (pc' := 22) (L' := [.ref a0, .int a1, .int a2, .int a3, .int a4, ci_junk, ci_junk, ci_junk, ci_junk]) (S' := [.int a2]) rfl ?_
            by_cases c5 : 0 ≤ a2
            · rw [if_pos c5] at H
              refine ev_bt hc_X11_sheet (fe_X11_sheet (pc := 22) rfl) rfl c5 ?_
              exact Ev.weak (ci_le_c (Or.inr rfl) (ci_le_c (Or.inr rfl) (ci_le_c (Or.inr rfl) (ci_le_c (Or.inr rfl) (ci_le_c (Or.inr rfl) (ci_le_c (Or.inl rfl) (ci_le_c (Or.inl rfl) (ci_le_c (Or.inl rfl) (ci_le_c (Or.inl rfl) (ci_le_n)))))))))) (eb_X11_sheet_28 hd H)
            · rw [if_neg c5] at H
              refine ev_bf hc_X11_sheet (fe_X11_sheet (pc := 22) rfl) rfl c5 ?_
              refine ev_go hc_X11_sheet (k := 1) (pc' := 27) (L' := [.ref a0, .int a1, .int a2, .int a3, .int a4, ci_junk, ci_junk, ci_junk, ci_junk]) (S' := [.int ((-2))]) rfl ?_
              obtain rfl := Option.some.inj H
              exact ev_8 hc_X11_sheet (fe_X11_sheet (pc := 27) rfl) rfl
        · rw [if_neg c3] at H
          refine ev_bf hc_X11_sheet (fe_X11_sheet (pc := 11) rfl) rfl c3 ?_
          refine ev_go hc_X11_sheet (k := 1) (pc' := 15) (L' := [.ref a0, .int a1, .int a2, .int a3, .int a4, ci_junk, ci_junk, ci_junk, ci_junk]) (S' := [.int ((-1))]) rfl ?_
          obtain rfl := Option.some.inj H
          exact ev_8 hc_X11_sheet (fe_X11_sheet (pc := 15) rfl) rfl
  · rw [if_neg ck] at H; cases H
theorem hc_X11_bought : ci_code (ci_Ms 152) = k_X11_bought := rfl
theorem fe_X11_bought {pc : Nat} {w : Option ci_I} (h : (k_X11_bought)[pc]? = some w) : (k_X11_bought)[pc]? = some w := h
def F_X11_bought (a0 : Nat) (a1 : Int32) (a2 : Int32) (h : ci_H) : Option (Int32 × ci_H) := if kO h a0 = some 11 then ((gR h a0 11 0).bind fun v1 => (F_X10_hasThing v1 a1 h).bind fun q2 => if q2.1 = 0 then (some ((-1), q2.2)) else ((gR q2.2 a0 11 0).bind fun v4 => (F_X10_hasHouse v4 a2 q2.2).bind fun q5 => if q5.1 = 0 then (some ((-1), q5.2)) else ((gR q5.2 a0 11 0).bind fun v7 => (gR q5.2 v7 10 0).bind fun v8 => (gR q5.2 v8 6 0).bind fun v9 => (rI q5.2 v9 a1).bind fun v10 => if v10 = ((-1)) then ((gR q5.2 a0 11 0).bind fun v12 => (gR q5.2 v12 10 0).bind fun v13 => (gR q5.2 v13 6 3).bind fun v14 => (rI q5.2 v14 a2).bind fun v15 => (gR q5.2 a0 11 3).bind fun v16 => (gR q5.2 a0 11 0).bind fun v17 => (F_X4_value v16 v17 a1 a2 q5.2).bind fun q18 => if 0 ≤ (v15 - q18.1) then ((gR q18.2 a0 11 0).bind fun v20 => (gR q18.2 a0 11 0).bind fun v21 => (gR q18.2 a0 11 0).bind fun v22 => (F_X10_keptBy v22 a2 q18.2).bind fun q23 => (F_X10_loadOf v21 q23.1 q23.2).bind fun q24 => (F_X10_fits v20 q24.1 a1 q24.2).bind fun q25 => if q25.1 = 0 then (some ((-4), q25.2)) else ((gR q25.2 a0 11 0).bind fun v27 => (gR q25.2 v27 10 0).bind fun v28 => (gR q25.2 v28 6 3).bind fun v29 => (wI q25.2 v29 a2 (v15 - q18.1)).bind fun h30 => (gR h30 a0 11 0).bind fun v31 => (F_X10_hand v31 a1 a2 h30).bind fun h32 => some (v15 - q18.1, h32))) else (some ((-3), q18.2))) else (some ((-2), q5.2))))) else none
theorem K_X11_bought {a0 : Nat} {a1 : Int32} {a2 : Int32} {h : ci_H} {r : Int32 × ci_H} (H : F_X11_bought a0 a1 a2 h = some r) : kO h a0 = some 11 := by
  unfold F_X11_bought at H
  by_cases c : kO h a0 = some 11
  · exact c
  · rw [if_neg c] at H; cases H
set_option maxHeartbeats 4000000 in
set_option maxRecDepth 20000 in
theorem E_X11_bought {xs : Nat → Int32} {N d : Nat} {nx : ci_N} {a0 : Nat} {a1 : Int32} {a2 : Int32} {h : ci_H} {r : Int32 × ci_H} (H : F_X11_bought a0 a1 a2 h = some r) (hd : 4 ≤ d) : Ev xs N d 152 0 (ci_entry [.ref a0, .int a1, .int a2] 4) [] h nx (oI r nx) := by
  obtain ⟨d, rfl⟩ : ∃ d2, d = d2 + 1 := ⟨d - 1, by omega⟩
  have hd : 3 ≤ d := by omega
  unfold F_X11_bought at H
  by_cases ck : kO h a0 = some 11
  · rw [if_pos ck] at H
    show Ev xs N (d + 1) 152 0 [.ref a0, .int a1, .int a2, ci_junk] [] h nx _
    refine ev_go hc_X11_bought (k := 1) (pc' := 1) (L' := [.ref a0, .int a1, .int a2, ci_junk]) (S' := [.ref a0]) rfl ?_
    obtain ⟨v1, ev1, H⟩ := Option.bind_eq_some_iff.mp H
    refine ev_4 hc_X11_bought (fe_X11_bought (pc := 1) rfl) (gR_gf ev1) ?_
    refine ev_go hc_X11_bought (k := 1) (pc' := 5) (L' := [.ref a0, .int a1, .int a2, ci_junk]) (S' := [.int a1, .ref v1]) rfl ?_
    obtain ⟨q2, eq2, H⟩ := Option.bind_eq_some_iff.mp H
    refine ev_call (vs := [.ref v1, .int a1]) (rest := []) (q := q_X10_hasThing) hc_X11_bought (Or.inr rfl) (fe_X11_bought (pc := 5) rfl) ms_63 rfl rfl (Nat.le_of_ble_eq_true rfl) (kO_recv (K_X10_hasThing eq2)) (E_X10_hasThing eq2 (by omega)) rfl ?_
    show Ev xs N (d + 1) 152 8 [.ref a0, .int a1, .int a2, ci_junk] [.int q2.1] q2.2 nx _
    by_cases c3 : q2.1 = 0
    · rw [if_pos c3] at H
      refine ev_bt hc_X11_bought (fe_X11_bought (pc := 8) rfl) rfl c3 ?_
      refine ev_go hc_X11_bought (k := 1) (pc' := 23) (L' := [.ref a0, .int a1, .int a2, ci_junk]) (S' := [.int ((-1))]) rfl ?_
      obtain rfl := Option.some.inj H
      exact ev_8 hc_X11_bought (fe_X11_bought (pc := 23) rfl) rfl
    · rw [if_neg c3] at H
      refine ev_bf hc_X11_bought (fe_X11_bought (pc := 8) rfl) rfl c3 ?_
      refine ev_go hc_X11_bought (k := 1) (pc' := 12) (L' := [.ref a0, .int a1, .int a2, ci_junk]) (S' := [.ref a0]) rfl ?_
      obtain ⟨v4, ev4, H⟩ := Option.bind_eq_some_iff.mp H
      refine ev_4 hc_X11_bought (fe_X11_bought (pc := 12) rfl) (gR_gf ev4) ?_
      refine ev_go hc_X11_bought (k := 1) (pc' := 16) (L' := [.ref a0, .int a1, .int a2, ci_junk]) (S' := [.int a2, .ref v4]) rfl ?_
      obtain ⟨q5, eq5, H⟩ := Option.bind_eq_some_iff.mp H
      refine ev_call (vs := [.ref v4, .int a2]) (rest := []) (q := q_X10_hasHouse) hc_X11_bought (Or.inr rfl) (fe_X11_bought (pc := 16) rfl) ms_62 rfl rfl (Nat.le_of_ble_eq_true rfl) (kO_recv (K_X10_hasHouse eq5)) (E_X10_hasHouse eq5 (by omega)) rfl ?_
      show Ev xs N (d + 1) 152 19 [.ref a0, .int a1, .int a2, ci_junk] [.int q5.1] q5.2 nx _
      by_cases c6 : q5.1 = 0
      · rw [if_pos c6] at H
        refine ev_bt hc_X11_bought (fe_X11_bought (pc := 19) rfl) rfl c6 ?_
        refine ev_go hc_X11_bought (k := 1) (pc' := 23) (L' := [.ref a0, .int a1, .int a2, ci_junk]) (S' := [.int ((-1))]) rfl ?_
        obtain rfl := Option.some.inj H
        exact ev_8 hc_X11_bought (fe_X11_bought (pc := 23) rfl) rfl
      · rw [if_neg c6] at H
        refine ev_bf hc_X11_bought (fe_X11_bought (pc := 19) rfl) rfl c6 ?_
        refine ev_go hc_X11_bought (k := 1) (pc' := 25) (L' := [.ref a0, .int a1, .int a2, ci_junk]) (S' := [.ref a0]) rfl ?_
        obtain ⟨v7, ev7, H⟩ := Option.bind_eq_some_iff.mp H
        refine ev_4 hc_X11_bought (fe_X11_bought (pc := 25) rfl) (gR_gf ev7) ?_
        obtain ⟨v8, ev8, H⟩ := Option.bind_eq_some_iff.mp H
        refine ev_4 hc_X11_bought (fe_X11_bought (pc := 28) rfl) (gR_gf ev8) ?_
        obtain ⟨v9, ev9, H⟩ := Option.bind_eq_some_iff.mp H
        refine ev_4 hc_X11_bought (fe_X11_bought (pc := 31) rfl) (gR_gf ev9) ?_
        refine ev_go hc_X11_bought (k := 1) (pc' := 35) (L' := [.ref a0, .int a1, .int a2, ci_junk]) (S' := [.int a1, .ref v9]) rfl ?_
        obtain ⟨v10, ev10, H⟩ := Option.bind_eq_some_iff.mp H
        refine ev_4 hc_X11_bought (fe_X11_bought (pc := 35) rfl) (rI_al ev10) ?_
        refine ev_go hc_X11_bought (k := 1) (pc' := 37) (L' := [.ref a0, .int a1, .int a2, ci_junk]) (S' := [.int ((-1)), .int v10]) rfl ?_
        by_cases c11 : v10 = ((-1))
        · rw [if_pos c11] at H
          refine ev_bt hc_X11_bought (fe_X11_bought (pc := 37) rfl) rfl c11 ?_
          refine ev_go hc_X11_bought (k := 1) (pc' := 44) (L' := [.ref a0, .int a1, .int a2, ci_junk]) (S' := [.ref a0]) rfl ?_
          obtain ⟨v12, ev12, H⟩ := Option.bind_eq_some_iff.mp H
          refine ev_4 hc_X11_bought (fe_X11_bought (pc := 44) rfl) (gR_gf ev12) ?_
          obtain ⟨v13, ev13, H⟩ := Option.bind_eq_some_iff.mp H
          refine ev_4 hc_X11_bought (fe_X11_bought (pc := 47) rfl) (gR_gf ev13) ?_
          obtain ⟨v14, ev14, H⟩ := Option.bind_eq_some_iff.mp H
          refine ev_4 hc_X11_bought (fe_X11_bought (pc := 50) rfl) (gR_gf ev14) ?_
          refine ev_go hc_X11_bought (k := 1) (pc' := 54) (L' := [.ref a0, .int a1, .int a2, ci_junk]) (S' := [.int a2, .ref v14]) rfl ?_
          obtain ⟨v15, ev15, H⟩ := Option.bind_eq_some_iff.mp H
          refine ev_4 hc_X11_bought (fe_X11_bought (pc := 54) rfl) (rI_al ev15) ?_
          refine ev_go hc_X11_bought (k := 1) (pc' := 56) (L' := [.ref a0, .int a1, .int a2, ci_junk]) (S' := [.ref a0, .int v15]) rfl ?_
          obtain ⟨v16, ev16, H⟩ := Option.bind_eq_some_iff.mp H
          refine ev_4 hc_X11_bought (fe_X11_bought (pc := 56) rfl) (gR_gf ev16) ?_
          refine ev_go hc_X11_bought (k := 1) (pc' := 60) (L' := [.ref a0, .int a1, .int a2, ci_junk]) (S' := [.ref a0, .ref v16, .int v15]) rfl ?_
          obtain ⟨v17, ev17, H⟩ := Option.bind_eq_some_iff.mp H
          refine ev_4 hc_X11_bought (fe_X11_bought (pc := 60) rfl) (gR_gf ev17) ?_
          refine ev_go hc_X11_bought (k := 2) (pc' := 65) (L' := [.ref a0, .int a1, .int a2, ci_junk]) (S' := [.int a2, .int a1, .ref v17, .ref v16, .int v15]) rfl ?_
          obtain ⟨q18, eq18, H⟩ := Option.bind_eq_some_iff.mp H
          refine ev_call (vs := [.ref v16, .ref v17, .int a1, .int a2]) (rest := [.int v15]) (q := q_X4_value) hc_X11_bought (Or.inr rfl) (fe_X11_bought (pc := 65) rfl) ms_25 rfl rfl (Nat.le_of_ble_eq_true rfl) (kO_recv (K_X4_value eq18)) (E_X4_value eq18 (by omega)) rfl ?_
          show Ev xs N (d + 1) 152 68 [.ref a0, .int a1, .int a2, ci_junk] [.int q18.1, .int v15] q18.2 nx _
          refine ev_go hc_X11_bought (k := 3) (pc' := 71) (L' := [.ref a0, .int a1, .int a2, .int (v15 - q18.1)]) (S' := [.int (v15 - q18.1)]) rfl ?_
          by_cases c19 : 0 ≤ (v15 - q18.1)
          · rw [if_pos c19] at H
            refine ev_bt hc_X11_bought (fe_X11_bought (pc := 71) rfl) rfl c19 ?_
            refine ev_go hc_X11_bought (k := 1) (pc' := 78) (L' := [.ref a0, .int a1, .int a2, .int (v15 - q18.1)]) (S' := [.ref a0]) rfl ?_
            obtain ⟨v20, ev20, H⟩ := Option.bind_eq_some_iff.mp H
            refine ev_4 hc_X11_bought (fe_X11_bought (pc := 78) rfl) (gR_gf ev20) ?_
            refine ev_go hc_X11_bought (k := 1) (pc' := 82) (L' := [.ref a0, .int a1, .int a2, .int (v15 - q18.1)]) (S' := [.ref a0, .ref v20]) rfl ?_
            obtain ⟨v21, ev21, H⟩ := Option.bind_eq_some_iff.mp H
            refine ev_4 hc_X11_bought (fe_X11_bought (pc := 82) rfl) (gR_gf ev21) ?_
            refine ev_go hc_X11_bought (k := 1) (pc' := 86) (L' := [.ref a0, .int a1, .int a2, .int (v15 - q18.1)]) (S' := [.ref a0, .ref v21, .ref v20]) rfl ?_
            obtain ⟨v22, ev22, H⟩ := Option.bind_eq_some_iff.mp H
            refine ev_4 hc_X11_bought (fe_X11_bought (pc := 86) rfl) (gR_gf ev22) ?_
            refine ev_go hc_X11_bought (k := 1) (pc' := 90) (L' := [.ref a0, .int a1, .int a2, .int (v15 - q18.1)]) (S' := [.int a2, .ref v22, .ref v21, .ref v20]) rfl ?_
            obtain ⟨q23, eq23, H⟩ := Option.bind_eq_some_iff.mp H
            refine ev_call (vs := [.ref v22, .int a2]) (rest := [.ref v21, .ref v20]) (q := q_X10_keptBy) hc_X11_bought (Or.inr rfl) (fe_X11_bought (pc := 90) rfl) ms_75 rfl rfl (Nat.le_of_ble_eq_true rfl) (kO_recv (K_X10_keptBy eq23)) (E_X10_keptBy eq23 (by omega)) rfl ?_
            show Ev xs N (d + 1) 152 93 [.ref a0, .int a1, .int a2, .int (v15 - q18.1)] [.int q23.1, .ref v21, .ref v20] q23.2 nx _
            obtain ⟨q24, eq24, H⟩ := Option.bind_eq_some_iff.mp H
            refine ev_call (vs := [.ref v21, .int q23.1]) (rest := [.ref v20]) (q := q_X10_loadOf) hc_X11_bought (Or.inr rfl) (fe_X11_bought (pc := 93) rfl) ms_82 rfl rfl (Nat.le_of_ble_eq_true rfl) (kO_recv (K_X10_loadOf eq24)) (E_X10_loadOf eq24 (by omega)) rfl ?_
            show Ev xs N (d + 1) 152 96 [.ref a0, .int a1, .int a2, .int (v15 - q18.1)] [.int q24.1, .ref v20] q24.2 nx _
            refine ev_go hc_X11_bought (k := 1) (pc' := 97) (L' := [.ref a0, .int a1, .int a2, .int (v15 - q18.1)]) (S' := [.int a1, .int q24.1, .ref v20]) rfl ?_
            obtain ⟨q25, eq25, H⟩ := Option.bind_eq_some_iff.mp H
            refine ev_call (vs := [.ref v20, .int q24.1, .int a1]) (rest := []) (q := q_X10_fits) hc_X11_bought (Or.inr rfl) (fe_X11_bought (pc := 97) rfl) ms_83 rfl rfl (Nat.le_of_ble_eq_true rfl) (kO_recv (K_X10_fits eq25)) (E_X10_fits eq25 (by omega)) rfl ?_
            show Ev xs N (d + 1) 152 100 [.ref a0, .int a1, .int a2, .int (v15 - q18.1)] [.int q25.1] q25.2 nx _
            by_cases c26 : q25.1 = 0
            · rw [if_pos c26] at H
              refine ev_bt hc_X11_bought (fe_X11_bought (pc := 100) rfl) rfl c26 ?_
              refine ev_go hc_X11_bought (k := 1) (pc' := 105) (L' := [.ref a0, .int a1, .int a2, .int (v15 - q18.1)]) (S' := [.int ((-4))]) rfl ?_
              obtain rfl := Option.some.inj H
              exact ev_8 hc_X11_bought (fe_X11_bought (pc := 105) rfl) rfl
            · rw [if_neg c26] at H
              refine ev_bf hc_X11_bought (fe_X11_bought (pc := 100) rfl) rfl c26 ?_
              refine ev_go hc_X11_bought (k := 1) (pc' := 107) (L' := [.ref a0, .int a1, .int a2, .int (v15 - q18.1)]) (S' := [.ref a0]) rfl ?_
              obtain ⟨v27, ev27, H⟩ := Option.bind_eq_some_iff.mp H
              refine ev_4 hc_X11_bought (fe_X11_bought (pc := 107) rfl) (gR_gf ev27) ?_
              obtain ⟨v28, ev28, H⟩ := Option.bind_eq_some_iff.mp H
              refine ev_4 hc_X11_bought (fe_X11_bought (pc := 110) rfl) (gR_gf ev28) ?_
              obtain ⟨v29, ev29, H⟩ := Option.bind_eq_some_iff.mp H
              refine ev_4 hc_X11_bought (fe_X11_bought (pc := 113) rfl) (gR_gf ev29) ?_
              refine ev_go hc_X11_bought (k := 2) (pc' := 118) (L' := [.ref a0, .int a1, .int a2, .int (v15 - q18.1)]) (S' := [.int (v15 - q18.1), .int a2, .ref v29]) rfl ?_
              obtain ⟨h30, eh30, H⟩ := Option.bind_eq_some_iff.mp H
              refine ev_5 hc_X11_bought (fe_X11_bought (pc := 118) rfl) (wI_as eh30) ?_
              refine ev_go hc_X11_bought (k := 1) (pc' := 120) (L' := [.ref a0, .int a1, .int a2, .int (v15 - q18.1)]) (S' := [.ref a0]) rfl ?_
              obtain ⟨v31, ev31, H⟩ := Option.bind_eq_some_iff.mp H
              refine ev_4 hc_X11_bought (fe_X11_bought (pc := 120) rfl) (gR_gf ev31) ?_
              refine ev_go hc_X11_bought (k := 2) (pc' := 125) (L' := [.ref a0, .int a1, .int a2, .int (v15 - q18.1)]) (S' := [.int a2, .int a1, .ref v31]) rfl ?_
              obtain ⟨h32, eh32, H⟩ := Option.bind_eq_some_iff.mp H
              refine ev_call (vs := [.ref v31, .int a1, .int a2]) (rest := []) (q := q_X10_hand) hc_X11_bought (Or.inr rfl) (fe_X11_bought (pc := 125) rfl) ms_85 rfl rfl (Nat.le_of_ble_eq_true rfl) (kO_recv (K_X10_hand eh32)) (E_X10_hand eh32 (by omega)) rfl ?_
              show Ev xs N (d + 1) 152 128 [.ref a0, .int a1, .int a2, .int (v15 - q18.1)] [] h32 nx _
              refine ev_go hc_X11_bought (k := 1) (pc' := 129) (L' := [.ref a0, .int a1, .int a2, .int (v15 - q18.1)]) (S' := [.int (v15 - q18.1)]) rfl ?_
              obtain rfl := Option.some.inj H
              exact ev_8 hc_X11_bought (fe_X11_bought (pc := 129) rfl) rfl
          · rw [if_neg c19] at H
            refine ev_bf hc_X11_bought (fe_X11_bought (pc := 71) rfl) rfl c19 ?_
            refine ev_go hc_X11_bought (k := 1) (pc' := 76) (L' := [.ref a0, .int a1, .int a2, .int (v15 - q18.1)]) (S' := [.int ((-3))]) rfl ?_
            obtain rfl := Option.some.inj H
            exact ev_8 hc_X11_bought (fe_X11_bought (pc := 76) rfl) rfl
        · rw [if_neg c11] at H
          refine ev_bf hc_X11_bought (fe_X11_bought (pc := 37) rfl) rfl c11 ?_
          refine ev_go hc_X11_bought (k := 1) (pc' := 42) (L' := [.ref a0, .int a1, .int a2, ci_junk]) (S' := [.int ((-2))]) rfl ?_
          obtain rfl := Option.some.inj H
          exact ev_8 hc_X11_bought (fe_X11_bought (pc := 42) rfl) rfl
  · rw [if_neg ck] at H; cases H
theorem hc_X11_acted : ci_code (ci_Ms 151) = k_X11_acted := rfl
theorem fe_X11_acted {pc : Nat} {w : Option ci_I} (h : (k_X11_acted)[pc]? = some w) : (k_X11_acted)[pc]? = some w := h
def F_X11_acted (a0 : Nat) (a1 : Int32) (a2 : Int32) (a3 : Int32) (h : ci_H) : Option (Int32 × ci_H) := if kO h a0 = some 11 then (if a1 = 98 then ((F_X11_bought a0 a2 a3 h).bind fun q2 => some (q2.1, q2.2)) else if a1 = 99 then ((gR h a0 11 0).bind fun v4 => (F_X10_claimed v4 a2 a3 h).bind fun q5 => some (q5.1, q5.2)) else if a1 = 100 then (some ((-1), h)) else if a1 = 101 then (some ((-1), h)) else if a1 = 102 then (some ((-1), h)) else if a1 = 103 then ((gR h a0 11 0).bind fun v10 => (F_X10_given v10 a2 a3 h).bind fun q11 => some (q11.1, q11.2)) else if a1 = 104 then ((gR h a0 11 0).bind fun v13 => (F_X10_passHours v13 a2 h).bind fun q14 => some (q14.1, q14.2)) else if a1 = 105 then (some ((-1), h)) else if a1 = 106 then (some ((-1), h)) else if a1 = 107 then (some ((-1), h)) else if a1 = 108 then ((gR h a0 11 0).bind fun v19 => (F_X10_lent v19 a2 a3 h).bind fun q20 => some (q20.1, q20.2)) else if a1 = 109 then (some ((-1), h)) else if a1 = 110 then (some ((-1), h)) else if a1 = 111 then (some ((-1), h)) else if a1 = 112 then ((gR h a0 11 0).bind fun v25 => (F_X10_painted v25 a2 a3 h).bind fun q26 => some (q26.1, q26.2)) else (some ((-1), h))) else none
theorem K_X11_acted {a0 : Nat} {a1 : Int32} {a2 : Int32} {a3 : Int32} {h : ci_H} {r : Int32 × ci_H} (H : F_X11_acted a0 a1 a2 a3 h = some r) : kO h a0 = some 11 := by
  unfold F_X11_acted at H
  by_cases c : kO h a0 = some 11
  · exact c
  · rw [if_neg c] at H; cases H
set_option maxHeartbeats 4000000 in
set_option maxRecDepth 20000 in
theorem E_X11_acted {xs : Nat → Int32} {N d : Nat} {nx : ci_N} {a0 : Nat} {a1 : Int32} {a2 : Int32} {a3 : Int32} {h : ci_H} {r : Int32 × ci_H} (H : F_X11_acted a0 a1 a2 a3 h = some r) (hd : 5 ≤ d) : Ev xs N d 151 0 (ci_entry [.ref a0, .int a1, .int a2, .int a3] 4) [] h nx (oI r nx) := by
  obtain ⟨d, rfl⟩ : ∃ d2, d = d2 + 1 := ⟨d - 1, by omega⟩
  have hd : 4 ≤ d := by omega
  unfold F_X11_acted at H
  by_cases ck : kO h a0 = some 11
  · rw [if_pos ck] at H
    show Ev xs N (d + 1) 151 0 [.ref a0, .int a1, .int a2, .int a3] [] h nx _
    refine ev_go hc_X11_acted (k := 1) (pc' := 1) (L' := [.ref a0, .int a1, .int a2, .int a3]) (S' := [.int a1]) rfl ?_
    by_cases c1 : a1 = 98
    · rw [if_pos c1] at H
      refine ev_3 hc_X11_acted (fe_X11_acted (pc := 1) rfl) (pc' := 76) (S' := []) (by rw [c1]; rfl) ?_
      refine ev_go hc_X11_acted (k := 3) (pc' := 79) (L' := [.ref a0, .int a1, .int a2, .int a3]) (S' := [.int a3, .int a2, .ref a0]) rfl ?_
      obtain ⟨q2, eq2, H⟩ := Option.bind_eq_some_iff.mp H
      refine ev_call (vs := [.ref a0, .int a2, .int a3]) (rest := []) (q := q_X11_bought) hc_X11_acted (Or.inr rfl) (fe_X11_acted (pc := 79) rfl) ms_152 rfl rfl (Nat.le_of_ble_eq_true rfl) (kO_recv (K_X11_bought eq2)) (E_X11_bought eq2 (by omega)) rfl ?_
      show Ev xs N (d + 1) 151 82 [.ref a0, .int a1, .int a2, .int a3] [.int q2.1] q2.2 nx _
      obtain rfl := Option.some.inj H
      exact ev_8 hc_X11_acted (fe_X11_acted (pc := 82) rfl) rfl
    rw [if_neg c1] at H
    by_cases c3 : a1 = 99
    · rw [if_pos c3] at H
      refine ev_3 hc_X11_acted (fe_X11_acted (pc := 1) rfl) (pc' := 103) (S' := []) (by rw [c3]; rfl) ?_
      refine ev_go hc_X11_acted (k := 1) (pc' := 104) (L' := [.ref a0, .int a1, .int a2, .int a3]) (S' := [.ref a0]) rfl ?_
      obtain ⟨v4, ev4, H⟩ := Option.bind_eq_some_iff.mp H
      refine ev_4 hc_X11_acted (fe_X11_acted (pc := 104) rfl) (gR_gf ev4) ?_
      refine ev_go hc_X11_acted (k := 2) (pc' := 109) (L' := [.ref a0, .int a1, .int a2, .int a3]) (S' := [.int a3, .int a2, .ref v4]) rfl ?_
      obtain ⟨q5, eq5, H⟩ := Option.bind_eq_some_iff.mp H
      refine ev_call (vs := [.ref v4, .int a2, .int a3]) (rest := []) (q := q_X10_claimed) hc_X11_acted (Or.inr rfl) (fe_X11_acted (pc := 109) rfl) ms_88 rfl rfl (Nat.le_of_ble_eq_true rfl) (kO_recv (K_X10_claimed eq5)) (E_X10_claimed eq5 (by omega)) rfl ?_
      show Ev xs N (d + 1) 151 112 [.ref a0, .int a1, .int a2, .int a3] [.int q5.1] q5.2 nx _
      obtain rfl := Option.some.inj H
      exact ev_8 hc_X11_acted (fe_X11_acted (pc := 112) rfl) rfl
    rw [if_neg c3] at H
    by_cases c6 : a1 = 100
    · rw [if_pos c6] at H
      refine ev_3 hc_X11_acted (fe_X11_acted (pc := 1) rfl) (pc' := 132) (S' := []) (by rw [c6]; rfl) ?_
      refine ev_go hc_X11_acted (k := 1) (pc' := 133) (L' := [.ref a0, .int a1, .int a2, .int a3]) (S' := [.int ((-1))]) rfl ?_
      obtain rfl := Option.some.inj H
      exact ev_8 hc_X11_acted (fe_X11_acted (pc := 133) rfl) rfl
    rw [if_neg c6] at H
    by_cases c7 : a1 = 101
    · rw [if_pos c7] at H
      refine ev_3 hc_X11_acted (fe_X11_acted (pc := 1) rfl) (pc' := 132) (S' := []) (by rw [c7]; rfl) ?_
      refine ev_go hc_X11_acted (k := 1) (pc' := 133) (L' := [.ref a0, .int a1, .int a2, .int a3]) (S' := [.int ((-1))]) rfl ?_
      obtain rfl := Option.some.inj H
      exact ev_8 hc_X11_acted (fe_X11_acted (pc := 133) rfl) rfl
    rw [if_neg c7] at H
    by_cases c8 : a1 = 102
    · rw [if_pos c8] at H
      refine ev_3 hc_X11_acted (fe_X11_acted (pc := 1) rfl) (pc' := 132) (S' := []) (by rw [c8]; rfl) ?_
      refine ev_go hc_X11_acted (k := 1) (pc' := 133) (L' := [.ref a0, .int a1, .int a2, .int a3]) (S' := [.int ((-1))]) rfl ?_
      obtain rfl := Option.some.inj H
      exact ev_8 hc_X11_acted (fe_X11_acted (pc := 133) rfl) rfl
    rw [if_neg c8] at H
    by_cases c9 : a1 = 103
    · rw [if_pos c9] at H
      refine ev_3 hc_X11_acted (fe_X11_acted (pc := 1) rfl) (pc' := 83) (S' := []) (by rw [c9]; rfl) ?_
      refine ev_go hc_X11_acted (k := 1) (pc' := 84) (L' := [.ref a0, .int a1, .int a2, .int a3]) (S' := [.ref a0]) rfl ?_
      obtain ⟨v10, ev10, H⟩ := Option.bind_eq_some_iff.mp H
      refine ev_4 hc_X11_acted (fe_X11_acted (pc := 84) rfl) (gR_gf ev10) ?_
      refine ev_go hc_X11_acted (k := 2) (pc' := 89) (L' := [.ref a0, .int a1, .int a2, .int a3]) (S' := [.int a3, .int a2, .ref v10]) rfl ?_
      obtain ⟨q11, eq11, H⟩ := Option.bind_eq_some_iff.mp H
      refine ev_call (vs := [.ref v10, .int a2, .int a3]) (rest := []) (q := q_X10_given) hc_X11_acted (Or.inr rfl) (fe_X11_acted (pc := 89) rfl) ms_86 rfl rfl (Nat.le_of_ble_eq_true rfl) (kO_recv (K_X10_given eq11)) (E_X10_given eq11 (by omega)) rfl ?_
      show Ev xs N (d + 1) 151 92 [.ref a0, .int a1, .int a2, .int a3] [.int q11.1] q11.2 nx _
      obtain rfl := Option.some.inj H
      exact ev_8 hc_X11_acted (fe_X11_acted (pc := 92) rfl) rfl
    rw [if_neg c9] at H
    by_cases c12 : a1 = 104
    · rw [if_pos c12] at H
      refine ev_3 hc_X11_acted (fe_X11_acted (pc := 1) rfl) (pc' := 123) (S' := []) (by rw [c12]; rfl) ?_
      refine ev_go hc_X11_acted (k := 1) (pc' := 124) (L' := [.ref a0, .int a1, .int a2, .int a3]) (S' := [.ref a0]) rfl ?_
      obtain ⟨v13, ev13, H⟩ := Option.bind_eq_some_iff.mp H
      refine ev_4 hc_X11_acted (fe_X11_acted (pc := 124) rfl) (gR_gf ev13) ?_
      refine ev_go hc_X11_acted (k := 1) (pc' := 128) (L' := [.ref a0, .int a1, .int a2, .int a3]) (S' := [.int a2, .ref v13]) rfl ?_
      obtain ⟨q14, eq14, H⟩ := Option.bind_eq_some_iff.mp H
      refine ev_call (vs := [.ref v13, .int a2]) (rest := []) (q := q_X10_passHours) hc_X11_acted (Or.inr rfl) (fe_X11_acted (pc := 128) rfl) ms_93 rfl rfl (Nat.le_of_ble_eq_true rfl) (kO_recv (K_X10_passHours eq14)) (E_X10_passHours eq14 (by omega)) rfl ?_
      show Ev xs N (d + 1) 151 131 [.ref a0, .int a1, .int a2, .int a3] [.int q14.1] q14.2 nx _
      obtain rfl := Option.some.inj H
      exact ev_8 hc_X11_acted (fe_X11_acted (pc := 131) rfl) rfl
    rw [if_neg c12] at H
    by_cases c15 : a1 = 105
    · rw [if_pos c15] at H
      refine ev_3 hc_X11_acted (fe_X11_acted (pc := 1) rfl) (pc' := 132) (S' := []) (by rw [c15]; rfl) ?_
      refine ev_go hc_X11_acted (k := 1) (pc' := 133) (L' := [.ref a0, .int a1, .int a2, .int a3]) (S' := [.int ((-1))]) rfl ?_
      obtain rfl := Option.some.inj H
      exact ev_8 hc_X11_acted (fe_X11_acted (pc := 133) rfl) rfl
    rw [if_neg c15] at H
    by_cases c16 : a1 = 106
    · rw [if_pos c16] at H
      refine ev_3 hc_X11_acted (fe_X11_acted (pc := 1) rfl) (pc' := 132) (S' := []) (by rw [c16]; rfl) ?_
      refine ev_go hc_X11_acted (k := 1) (pc' := 133) (L' := [.ref a0, .int a1, .int a2, .int a3]) (S' := [.int ((-1))]) rfl ?_
      obtain rfl := Option.some.inj H
      exact ev_8 hc_X11_acted (fe_X11_acted (pc := 133) rfl) rfl
    rw [if_neg c16] at H
    by_cases c17 : a1 = 107
    · rw [if_pos c17] at H
      refine ev_3 hc_X11_acted (fe_X11_acted (pc := 1) rfl) (pc' := 132) (S' := []) (by rw [c17]; rfl) ?_
      refine ev_go hc_X11_acted (k := 1) (pc' := 133) (L' := [.ref a0, .int a1, .int a2, .int a3]) (S' := [.int ((-1))]) rfl ?_
      obtain rfl := Option.some.inj H
      exact ev_8 hc_X11_acted (fe_X11_acted (pc := 133) rfl) rfl
    rw [if_neg c17] at H
    by_cases c18 : a1 = 108
    · rw [if_pos c18] at H
      refine ev_3 hc_X11_acted (fe_X11_acted (pc := 1) rfl) (pc' := 93) (S' := []) (by rw [c18]; rfl) ?_
      refine ev_go hc_X11_acted (k := 1) (pc' := 94) (L' := [.ref a0, .int a1, .int a2, .int a3]) (S' := [.ref a0]) rfl ?_
      obtain ⟨v19, ev19, H⟩ := Option.bind_eq_some_iff.mp H
      refine ev_4 hc_X11_acted (fe_X11_acted (pc := 94) rfl) (gR_gf ev19) ?_
      refine ev_go hc_X11_acted (k := 2) (pc' := 99) (L' := [.ref a0, .int a1, .int a2, .int a3]) (S' := [.int a3, .int a2, .ref v19]) rfl ?_
      obtain ⟨q20, eq20, H⟩ := Option.bind_eq_some_iff.mp H
      refine ev_call (vs := [.ref v19, .int a2, .int a3]) (rest := []) (q := q_X10_lent) hc_X11_acted (Or.inr rfl) (fe_X11_acted (pc := 99) rfl) ms_87 rfl rfl (Nat.le_of_ble_eq_true rfl) (kO_recv (K_X10_lent eq20)) (E_X10_lent eq20 (by omega)) rfl ?_
      show Ev xs N (d + 1) 151 102 [.ref a0, .int a1, .int a2, .int a3] [.int q20.1] q20.2 nx _
      obtain rfl := Option.some.inj H
      exact ev_8 hc_X11_acted (fe_X11_acted (pc := 102) rfl) rfl
    rw [if_neg c18] at H
    by_cases c21 : a1 = 109
    · rw [if_pos c21] at H
      refine ev_3 hc_X11_acted (fe_X11_acted (pc := 1) rfl) (pc' := 132) (S' := []) (by rw [c21]; rfl) ?_
      refine ev_go hc_X11_acted (k := 1) (pc' := 133) (L' := [.ref a0, .int a1, .int a2, .int a3]) (S' := [.int ((-1))]) rfl ?_
      obtain rfl := Option.some.inj H
      exact ev_8 hc_X11_acted (fe_X11_acted (pc := 133) rfl) rfl
    rw [if_neg c21] at H
    by_cases c22 : a1 = 110
    · rw [if_pos c22] at H
      refine ev_3 hc_X11_acted (fe_X11_acted (pc := 1) rfl) (pc' := 132) (S' := []) (by rw [c22]; rfl) ?_
      refine ev_go hc_X11_acted (k := 1) (pc' := 133) (L' := [.ref a0, .int a1, .int a2, .int a3]) (S' := [.int ((-1))]) rfl ?_
      obtain rfl := Option.some.inj H
      exact ev_8 hc_X11_acted (fe_X11_acted (pc := 133) rfl) rfl
    rw [if_neg c22] at H
    by_cases c23 : a1 = 111
    · rw [if_pos c23] at H
      refine ev_3 hc_X11_acted (fe_X11_acted (pc := 1) rfl) (pc' := 132) (S' := []) (by rw [c23]; rfl) ?_
      refine ev_go hc_X11_acted (k := 1) (pc' := 133) (L' := [.ref a0, .int a1, .int a2, .int a3]) (S' := [.int ((-1))]) rfl ?_
      obtain rfl := Option.some.inj H
      exact ev_8 hc_X11_acted (fe_X11_acted (pc := 133) rfl) rfl
    rw [if_neg c23] at H
    by_cases c24 : a1 = 112
    · rw [if_pos c24] at H
      refine ev_3 hc_X11_acted (fe_X11_acted (pc := 1) rfl) (pc' := 113) (S' := []) (by rw [c24]; rfl) ?_
      refine ev_go hc_X11_acted (k := 1) (pc' := 114) (L' := [.ref a0, .int a1, .int a2, .int a3]) (S' := [.ref a0]) rfl ?_
      obtain ⟨v25, ev25, H⟩ := Option.bind_eq_some_iff.mp H
      refine ev_4 hc_X11_acted (fe_X11_acted (pc := 114) rfl) (gR_gf ev25) ?_
      refine ev_go hc_X11_acted (k := 2) (pc' := 119) (L' := [.ref a0, .int a1, .int a2, .int a3]) (S' := [.int a3, .int a2, .ref v25]) rfl ?_
      obtain ⟨q26, eq26, H⟩ := Option.bind_eq_some_iff.mp H
      refine ev_call (vs := [.ref v25, .int a2, .int a3]) (rest := []) (q := q_X10_painted) hc_X11_acted (Or.inr rfl) (fe_X11_acted (pc := 119) rfl) ms_89 rfl rfl (Nat.le_of_ble_eq_true rfl) (kO_recv (K_X10_painted eq26)) (E_X10_painted eq26 (by omega)) rfl ?_
      show Ev xs N (d + 1) 151 122 [.ref a0, .int a1, .int a2, .int a3] [.int q26.1] q26.2 nx _
      obtain rfl := Option.some.inj H
      exact ev_8 hc_X11_acted (fe_X11_acted (pc := 122) rfl) rfl
    rw [if_neg c24] at H
    refine ev_3 hc_X11_acted (fe_X11_acted (pc := 1) rfl) (pc' := 132) (S' := []) (sw_out (by have := And.intro True.intro True.intro; have := lv_neT c1 (a := 98) (by decide); have := lv_neT c3 (a := 99) (by decide); have := lv_neT c6 (a := 100) (by decide); have := lv_neT c7 (a := 101) (by decide); have := lv_neT c8 (a := 102) (by decide); have := lv_neT c9 (a := 103) (by decide); have := lv_neT c12 (a := 104) (by decide); have := lv_neT c15 (a := 105) (by decide); have := lv_neT c16 (a := 106) (by decide); have := lv_neT c17 (a := 107) (by decide); have := lv_neT c18 (a := 108) (by decide); have := lv_neT c21 (a := 109) (by decide); have := lv_neT c22 (a := 110) (by decide); have := lv_neT c23 (a := 111) (by decide); have := lv_neT c24 (a := 112) (by decide); omega)) ?_
    refine ev_go hc_X11_acted (k := 1) (pc' := 133) (L' := [.ref a0, .int a1, .int a2, .int a3]) (S' := [.int ((-1))]) rfl ?_
    obtain rfl := Option.some.inj H
    exact ev_8 hc_X11_acted (fe_X11_acted (pc := 133) rfl) rfl
  · rw [if_neg ck] at H; cases H
theorem hc_X11_doneAlone : ci_code (ci_Ms 150) = k_X11_doneAlone := rfl
theorem fe_X11_doneAlone {pc : Nat} {w : Option ci_I} (h : (k_X11_doneAlone)[pc]? = some w) : (k_X11_doneAlone)[pc]? = some w := h
def F_X11_doneAlone (a0 : Nat) (a1 : Int32) (a2 : Int32) (a3 : Int32) (h : ci_H) : Option (Int32 × ci_H) := if kO h a0 = some 11 then ((gR h a0 11 5).bind fun v1 => (gR h a0 11 0).bind fun v2 => (gR h v2 10 0).bind fun v3 => (F_X2_mark v1 v3 h).bind fun h4 => (F_X11_acted a0 a1 a2 a3 h4).bind fun q5 => if q5.1 < 0 then (some (q5.1, q5.2)) else ((gR q5.2 a0 11 5).bind fun v7 => (F_X2_hold v7 q5.2).bind fun h8 => some (q5.1, h8))) else none
theorem K_X11_doneAlone {a0 : Nat} {a1 : Int32} {a2 : Int32} {a3 : Int32} {h : ci_H} {r : Int32 × ci_H} (H : F_X11_doneAlone a0 a1 a2 a3 h = some r) : kO h a0 = some 11 := by
  unfold F_X11_doneAlone at H
  by_cases c : kO h a0 = some 11
  · exact c
  · rw [if_neg c] at H; cases H
set_option maxHeartbeats 4000000 in
set_option maxRecDepth 20000 in
theorem E_X11_doneAlone {xs : Nat → Int32} {N d : Nat} {nx : ci_N} {a0 : Nat} {a1 : Int32} {a2 : Int32} {a3 : Int32} {h : ci_H} {r : Int32 × ci_H} (H : F_X11_doneAlone a0 a1 a2 a3 h = some r) (hd : 6 ≤ d) : Ev xs N d 150 0 (ci_entry [.ref a0, .int a1, .int a2, .int a3] 5) [] h nx (oI r nx) := by
  obtain ⟨d, rfl⟩ : ∃ d2, d = d2 + 1 := ⟨d - 1, by omega⟩
  have hd : 5 ≤ d := by omega
  unfold F_X11_doneAlone at H
  by_cases ck : kO h a0 = some 11
  · rw [if_pos ck] at H
    show Ev xs N (d + 1) 150 0 [.ref a0, .int a1, .int a2, .int a3, ci_junk] [] h nx _
    refine ev_go hc_X11_doneAlone (k := 1) (pc' := 1) (L' := [.ref a0, .int a1, .int a2, .int a3, ci_junk]) (S' := [.ref a0]) rfl ?_
    obtain ⟨v1, ev1, H⟩ := Option.bind_eq_some_iff.mp H
    refine ev_4 hc_X11_doneAlone (fe_X11_doneAlone (pc := 1) rfl) (gR_gf ev1) ?_
    refine ev_go hc_X11_doneAlone (k := 1) (pc' := 5) (L' := [.ref a0, .int a1, .int a2, .int a3, ci_junk]) (S' := [.ref a0, .ref v1]) rfl ?_
    obtain ⟨v2, ev2, H⟩ := Option.bind_eq_some_iff.mp H
    refine ev_4 hc_X11_doneAlone (fe_X11_doneAlone (pc := 5) rfl) (gR_gf ev2) ?_
    obtain ⟨v3, ev3, H⟩ := Option.bind_eq_some_iff.mp H
    refine ev_4 hc_X11_doneAlone (fe_X11_doneAlone (pc := 8) rfl) (gR_gf ev3) ?_
    obtain ⟨h4, eh4, H⟩ := Option.bind_eq_some_iff.mp H
    refine ev_call (vs := [.ref v1, .ref v3]) (rest := []) (q := q_X2_mark) hc_X11_doneAlone (Or.inr rfl) (fe_X11_doneAlone (pc := 11) rfl) ms_11 rfl rfl (Nat.le_of_ble_eq_true rfl) (kO_recv (K_X2_mark eh4)) (E_X2_mark eh4 (by omega)) rfl ?_
    show Ev xs N (d + 1) 150 14 [.ref a0, .int a1, .int a2, .int a3, ci_junk] [] h4 nx _
    refine ev_go hc_X11_doneAlone (k := 4) (pc' := 18) (L' := [.ref a0, .int a1, .int a2, .int a3, ci_junk]) (S' := [.int a3, .int a2, .int a1, .ref a0]) rfl ?_
    obtain ⟨q5, eq5, H⟩ := Option.bind_eq_some_iff.mp H
    refine ev_call (vs := [.ref a0, .int a1, .int a2, .int a3]) (rest := []) (q := q_X11_acted) hc_X11_doneAlone (Or.inr rfl) (fe_X11_doneAlone (pc := 18) rfl) ms_151 rfl rfl (Nat.le_of_ble_eq_true rfl) (kO_recv (K_X11_acted eq5)) (E_X11_acted eq5 (by omega)) rfl ?_
    show Ev xs N (d + 1) 150 21 [.ref a0, .int a1, .int a2, .int a3, ci_junk] [.int q5.1] q5.2 nx _
    refine ev_go hc_X11_doneAlone (k := 2) (pc' := 25) (L' := [.ref a0, .int a1, .int a2, .int a3, .int q5.1]) (S' := [.int q5.1]) rfl ?_
    by_cases c6 : q5.1 < 0
    · rw [if_pos c6] at H
      refine ev_bt hc_X11_doneAlone (fe_X11_doneAlone (pc := 25) rfl) rfl c6 ?_
      refine ev_go hc_X11_doneAlone (k := 1) (pc' := 37) (L' := [.ref a0, .int a1, .int a2, .int a3, .int q5.1]) (S' := [.int q5.1]) rfl ?_
      obtain rfl := Option.some.inj H
      exact ev_8 hc_X11_doneAlone (fe_X11_doneAlone (pc := 37) rfl) rfl
    · rw [if_neg c6] at H
      refine ev_bf hc_X11_doneAlone (fe_X11_doneAlone (pc := 25) rfl) rfl c6 ?_
      refine ev_go hc_X11_doneAlone (k := 1) (pc' := 29) (L' := [.ref a0, .int a1, .int a2, .int a3, .int q5.1]) (S' := [.ref a0]) rfl ?_
      obtain ⟨v7, ev7, H⟩ := Option.bind_eq_some_iff.mp H
      refine ev_4 hc_X11_doneAlone (fe_X11_doneAlone (pc := 29) rfl) (gR_gf ev7) ?_
      obtain ⟨h8, eh8, H⟩ := Option.bind_eq_some_iff.mp H
      refine ev_call (vs := [.ref v7]) (rest := []) (q := q_X2_hold) hc_X11_doneAlone (Or.inr rfl) (fe_X11_doneAlone (pc := 32) rfl) ms_12 rfl rfl (Nat.le_of_ble_eq_true rfl) (kO_recv (K_X2_hold eh8)) (E_X2_hold eh8 (by omega)) rfl ?_
      show Ev xs N (d + 1) 150 35 [.ref a0, .int a1, .int a2, .int a3, .int q5.1] [] h8 nx _
      refine ev_go hc_X11_doneAlone (k := 1) (pc' := 37) (L' := [.ref a0, .int a1, .int a2, .int a3, .int q5.1]) (S' := [.int q5.1]) rfl ?_
      obtain rfl := Option.some.inj H
      exact ev_8 hc_X11_doneAlone (fe_X11_doneAlone (pc := 37) rfl) rfl
  · rw [if_neg ck] at H; cases H
theorem hc_X11_buy : ci_code (ci_Ms 107) = k_X11_buy := rfl
theorem fe_X11_buy {pc : Nat} {w : Option ci_I} (h : (k_X11_buy)[pc]? = some w) : (k_X11_buy)[pc]? = some w := h
def F_X11_buy (a0 : Nat) (a1 : Int32) (a2 : Int32) (h : ci_H) : Option (Int32 × ci_H) := if kO h a0 = some 11 then ((F_X11_doneAlone a0 98 a1 a2 h).bind fun q1 => some (q1.1, q1.2)) else none
theorem K_X11_buy {a0 : Nat} {a1 : Int32} {a2 : Int32} {h : ci_H} {r : Int32 × ci_H} (H : F_X11_buy a0 a1 a2 h = some r) : kO h a0 = some 11 := by
  unfold F_X11_buy at H
  by_cases c : kO h a0 = some 11
  · exact c
  · rw [if_neg c] at H; cases H
set_option maxHeartbeats 4000000 in
set_option maxRecDepth 20000 in
theorem E_X11_buy {xs : Nat → Int32} {N d : Nat} {nx : ci_N} {a0 : Nat} {a1 : Int32} {a2 : Int32} {h : ci_H} {r : Int32 × ci_H} (H : F_X11_buy a0 a1 a2 h = some r) (hd : 7 ≤ d) : Ev xs N d 107 0 (ci_entry [.ref a0, .int a1, .int a2] 3) [] h nx (oI r nx) := by
  obtain ⟨d, rfl⟩ : ∃ d2, d = d2 + 1 := ⟨d - 1, by omega⟩
  have hd : 6 ≤ d := by omega
  unfold F_X11_buy at H
  by_cases ck : kO h a0 = some 11
  · rw [if_pos ck] at H
    show Ev xs N (d + 1) 107 0 [.ref a0, .int a1, .int a2] [] h nx _
    refine ev_go hc_X11_buy (k := 4) (pc' := 5) (L' := [.ref a0, .int a1, .int a2]) (S' := [.int a2, .int a1, .int 98, .ref a0]) rfl ?_
    obtain ⟨q1, eq1, H⟩ := Option.bind_eq_some_iff.mp H
    refine ev_call (vs := [.ref a0, .int 98, .int a1, .int a2]) (rest := []) (q := q_X11_doneAlone) hc_X11_buy (Or.inr rfl) (fe_X11_buy (pc := 5) rfl) ms_150 rfl rfl (Nat.le_of_ble_eq_true rfl) (kO_recv (K_X11_doneAlone eq1)) (E_X11_doneAlone eq1 (by omega)) rfl ?_
    show Ev xs N (d + 1) 107 8 [.ref a0, .int a1, .int a2] [.int q1.1] q1.2 nx _
    obtain rfl := Option.some.inj H
    exact ev_8 hc_X11_buy (fe_X11_buy (pc := 8) rfl) rfl
  · rw [if_neg ck] at H; cases H
theorem hc_X11_give : ci_code (ci_Ms 108) = k_X11_give := rfl
theorem fe_X11_give {pc : Nat} {w : Option ci_I} (h : (k_X11_give)[pc]? = some w) : (k_X11_give)[pc]? = some w := h
def F_X11_give (a0 : Nat) (a1 : Int32) (a2 : Int32) (h : ci_H) : Option (Int32 × ci_H) := if kO h a0 = some 11 then ((F_X11_doneAlone a0 103 a1 a2 h).bind fun q1 => some (q1.1, q1.2)) else none
theorem K_X11_give {a0 : Nat} {a1 : Int32} {a2 : Int32} {h : ci_H} {r : Int32 × ci_H} (H : F_X11_give a0 a1 a2 h = some r) : kO h a0 = some 11 := by
  unfold F_X11_give at H
  by_cases c : kO h a0 = some 11
  · exact c
  · rw [if_neg c] at H; cases H
set_option maxHeartbeats 4000000 in
set_option maxRecDepth 20000 in
theorem E_X11_give {xs : Nat → Int32} {N d : Nat} {nx : ci_N} {a0 : Nat} {a1 : Int32} {a2 : Int32} {h : ci_H} {r : Int32 × ci_H} (H : F_X11_give a0 a1 a2 h = some r) (hd : 7 ≤ d) : Ev xs N d 108 0 (ci_entry [.ref a0, .int a1, .int a2] 3) [] h nx (oI r nx) := by
  obtain ⟨d, rfl⟩ : ∃ d2, d = d2 + 1 := ⟨d - 1, by omega⟩
  have hd : 6 ≤ d := by omega
  unfold F_X11_give at H
  by_cases ck : kO h a0 = some 11
  · rw [if_pos ck] at H
    show Ev xs N (d + 1) 108 0 [.ref a0, .int a1, .int a2] [] h nx _
    refine ev_go hc_X11_give (k := 4) (pc' := 5) (L' := [.ref a0, .int a1, .int a2]) (S' := [.int a2, .int a1, .int 103, .ref a0]) rfl ?_
    obtain ⟨q1, eq1, H⟩ := Option.bind_eq_some_iff.mp H
    refine ev_call (vs := [.ref a0, .int 103, .int a1, .int a2]) (rest := []) (q := q_X11_doneAlone) hc_X11_give (Or.inr rfl) (fe_X11_give (pc := 5) rfl) ms_150 rfl rfl (Nat.le_of_ble_eq_true rfl) (kO_recv (K_X11_doneAlone eq1)) (E_X11_doneAlone eq1 (by omega)) rfl ?_
    show Ev xs N (d + 1) 108 8 [.ref a0, .int a1, .int a2] [.int q1.1] q1.2 nx _
    obtain rfl := Option.some.inj H
    exact ev_8 hc_X11_give (fe_X11_give (pc := 8) rfl) rfl
  · rw [if_neg ck] at H; cases H
theorem hc_X11_lend : ci_code (ci_Ms 109) = k_X11_lend := rfl
theorem fe_X11_lend {pc : Nat} {w : Option ci_I} (h : (k_X11_lend)[pc]? = some w) : (k_X11_lend)[pc]? = some w := h
def F_X11_lend (a0 : Nat) (a1 : Int32) (a2 : Int32) (h : ci_H) : Option (Int32 × ci_H) := if kO h a0 = some 11 then ((F_X11_doneAlone a0 108 a1 a2 h).bind fun q1 => some (q1.1, q1.2)) else none
theorem K_X11_lend {a0 : Nat} {a1 : Int32} {a2 : Int32} {h : ci_H} {r : Int32 × ci_H} (H : F_X11_lend a0 a1 a2 h = some r) : kO h a0 = some 11 := by
  unfold F_X11_lend at H
  by_cases c : kO h a0 = some 11
  · exact c
  · rw [if_neg c] at H; cases H
set_option maxHeartbeats 4000000 in
set_option maxRecDepth 20000 in
theorem E_X11_lend {xs : Nat → Int32} {N d : Nat} {nx : ci_N} {a0 : Nat} {a1 : Int32} {a2 : Int32} {h : ci_H} {r : Int32 × ci_H} (H : F_X11_lend a0 a1 a2 h = some r) (hd : 7 ≤ d) : Ev xs N d 109 0 (ci_entry [.ref a0, .int a1, .int a2] 3) [] h nx (oI r nx) := by
  obtain ⟨d, rfl⟩ : ∃ d2, d = d2 + 1 := ⟨d - 1, by omega⟩
  have hd : 6 ≤ d := by omega
  unfold F_X11_lend at H
  by_cases ck : kO h a0 = some 11
  · rw [if_pos ck] at H
    show Ev xs N (d + 1) 109 0 [.ref a0, .int a1, .int a2] [] h nx _
    refine ev_go hc_X11_lend (k := 4) (pc' := 5) (L' := [.ref a0, .int a1, .int a2]) (S' := [.int a2, .int a1, .int 108, .ref a0]) rfl ?_
    obtain ⟨q1, eq1, H⟩ := Option.bind_eq_some_iff.mp H
    refine ev_call (vs := [.ref a0, .int 108, .int a1, .int a2]) (rest := []) (q := q_X11_doneAlone) hc_X11_lend (Or.inr rfl) (fe_X11_lend (pc := 5) rfl) ms_150 rfl rfl (Nat.le_of_ble_eq_true rfl) (kO_recv (K_X11_doneAlone eq1)) (E_X11_doneAlone eq1 (by omega)) rfl ?_
    show Ev xs N (d + 1) 109 8 [.ref a0, .int a1, .int a2] [.int q1.1] q1.2 nx _
    obtain rfl := Option.some.inj H
    exact ev_8 hc_X11_lend (fe_X11_lend (pc := 8) rfl) rfl
  · rw [if_neg ck] at H; cases H
theorem hc_X11_claim : ci_code (ci_Ms 110) = k_X11_claim := rfl
theorem fe_X11_claim {pc : Nat} {w : Option ci_I} (h : (k_X11_claim)[pc]? = some w) : (k_X11_claim)[pc]? = some w := h
def F_X11_claim (a0 : Nat) (a1 : Int32) (a2 : Int32) (h : ci_H) : Option (Int32 × ci_H) := if kO h a0 = some 11 then ((F_X11_doneAlone a0 99 a1 a2 h).bind fun q1 => some (q1.1, q1.2)) else none
theorem K_X11_claim {a0 : Nat} {a1 : Int32} {a2 : Int32} {h : ci_H} {r : Int32 × ci_H} (H : F_X11_claim a0 a1 a2 h = some r) : kO h a0 = some 11 := by
  unfold F_X11_claim at H
  by_cases c : kO h a0 = some 11
  · exact c
  · rw [if_neg c] at H; cases H
set_option maxHeartbeats 4000000 in
set_option maxRecDepth 20000 in
theorem E_X11_claim {xs : Nat → Int32} {N d : Nat} {nx : ci_N} {a0 : Nat} {a1 : Int32} {a2 : Int32} {h : ci_H} {r : Int32 × ci_H} (H : F_X11_claim a0 a1 a2 h = some r) (hd : 7 ≤ d) : Ev xs N d 110 0 (ci_entry [.ref a0, .int a1, .int a2] 3) [] h nx (oI r nx) := by
  obtain ⟨d, rfl⟩ : ∃ d2, d = d2 + 1 := ⟨d - 1, by omega⟩
  have hd : 6 ≤ d := by omega
  unfold F_X11_claim at H
  by_cases ck : kO h a0 = some 11
  · rw [if_pos ck] at H
    show Ev xs N (d + 1) 110 0 [.ref a0, .int a1, .int a2] [] h nx _
    refine ev_go hc_X11_claim (k := 4) (pc' := 5) (L' := [.ref a0, .int a1, .int a2]) (S' := [.int a2, .int a1, .int 99, .ref a0]) rfl ?_
    obtain ⟨q1, eq1, H⟩ := Option.bind_eq_some_iff.mp H
    refine ev_call (vs := [.ref a0, .int 99, .int a1, .int a2]) (rest := []) (q := q_X11_doneAlone) hc_X11_claim (Or.inr rfl) (fe_X11_claim (pc := 5) rfl) ms_150 rfl rfl (Nat.le_of_ble_eq_true rfl) (kO_recv (K_X11_doneAlone eq1)) (E_X11_doneAlone eq1 (by omega)) rfl ?_
    show Ev xs N (d + 1) 110 8 [.ref a0, .int a1, .int a2] [.int q1.1] q1.2 nx _
    obtain rfl := Option.some.inj H
    exact ev_8 hc_X11_claim (fe_X11_claim (pc := 8) rfl) rfl
  · rw [if_neg ck] at H; cases H
theorem hc_X11_paint : ci_code (ci_Ms 111) = k_X11_paint := rfl
theorem fe_X11_paint {pc : Nat} {w : Option ci_I} (h : (k_X11_paint)[pc]? = some w) : (k_X11_paint)[pc]? = some w := h
def F_X11_paint (a0 : Nat) (a1 : Int32) (a2 : Int32) (h : ci_H) : Option (Int32 × ci_H) := if kO h a0 = some 11 then ((F_X11_doneAlone a0 112 a1 a2 h).bind fun q1 => some (q1.1, q1.2)) else none
theorem K_X11_paint {a0 : Nat} {a1 : Int32} {a2 : Int32} {h : ci_H} {r : Int32 × ci_H} (H : F_X11_paint a0 a1 a2 h = some r) : kO h a0 = some 11 := by
  unfold F_X11_paint at H
  by_cases c : kO h a0 = some 11
  · exact c
  · rw [if_neg c] at H; cases H
set_option maxHeartbeats 4000000 in
set_option maxRecDepth 20000 in
theorem E_X11_paint {xs : Nat → Int32} {N d : Nat} {nx : ci_N} {a0 : Nat} {a1 : Int32} {a2 : Int32} {h : ci_H} {r : Int32 × ci_H} (H : F_X11_paint a0 a1 a2 h = some r) (hd : 7 ≤ d) : Ev xs N d 111 0 (ci_entry [.ref a0, .int a1, .int a2] 3) [] h nx (oI r nx) := by
  obtain ⟨d, rfl⟩ : ∃ d2, d = d2 + 1 := ⟨d - 1, by omega⟩
  have hd : 6 ≤ d := by omega
  unfold F_X11_paint at H
  by_cases ck : kO h a0 = some 11
  · rw [if_pos ck] at H
    show Ev xs N (d + 1) 111 0 [.ref a0, .int a1, .int a2] [] h nx _
    refine ev_go hc_X11_paint (k := 4) (pc' := 5) (L' := [.ref a0, .int a1, .int a2]) (S' := [.int a2, .int a1, .int 112, .ref a0]) rfl ?_
    obtain ⟨q1, eq1, H⟩ := Option.bind_eq_some_iff.mp H
    refine ev_call (vs := [.ref a0, .int 112, .int a1, .int a2]) (rest := []) (q := q_X11_doneAlone) hc_X11_paint (Or.inr rfl) (fe_X11_paint (pc := 5) rfl) ms_150 rfl rfl (Nat.le_of_ble_eq_true rfl) (kO_recv (K_X11_doneAlone eq1)) (E_X11_doneAlone eq1 (by omega)) rfl ?_
    show Ev xs N (d + 1) 111 8 [.ref a0, .int a1, .int a2] [.int q1.1] q1.2 nx _
    obtain rfl := Option.some.inj H
    exact ev_8 hc_X11_paint (fe_X11_paint (pc := 8) rfl) rfl
  · rw [if_neg ck] at H; cases H
theorem hc_X11_tellNothing : ci_code (ci_Ms 145) = k_X11_tellNothing := rfl
theorem fe_X11_tellNothing {pc : Nat} {w : Option ci_I} (h : (k_X11_tellNothing)[pc]? = some w) : (k_X11_tellNothing)[pc]? = some w := h
def F_X11_tellNothing (a0 : Nat) (h : ci_H) : Option (ci_H) := if kO h a0 = some 11 then ((pF h a0 11 7 (.int 0)).bind fun h1 => some h1) else none
theorem K_X11_tellNothing {a0 : Nat} {h : ci_H} {r : ci_H} (H : F_X11_tellNothing a0 h = some r) : kO h a0 = some 11 := by
  unfold F_X11_tellNothing at H
  by_cases c : kO h a0 = some 11
  · exact c
  · rw [if_neg c] at H; cases H
set_option maxHeartbeats 4000000 in
set_option maxRecDepth 20000 in
theorem E_X11_tellNothing {xs : Nat → Int32} {N d : Nat} {nx : ci_N} {a0 : Nat} {h : ci_H} {r : ci_H} (H : F_X11_tellNothing a0 h = some r) (hd : 0 ≤ d) : Ev xs N d 145 0 (ci_entry [.ref a0] 1) [] h nx (oV r nx) := by
  unfold F_X11_tellNothing at H
  by_cases ck : kO h a0 = some 11
  · rw [if_pos ck] at H
    show Ev xs N d 145 0 [.ref a0] [] h nx _
    refine ev_go hc_X11_tellNothing (k := 2) (pc' := 2) (L' := [.ref a0]) (S' := [.int 0, .ref a0]) rfl ?_
    obtain ⟨h1, eh1, H⟩ := Option.bind_eq_some_iff.mp H
    refine ev_5 hc_X11_tellNothing (fe_X11_tellNothing (pc := 2) rfl) (pF_pf eh1) ?_
    obtain rfl := Option.some.inj H
    exact ev_8 hc_X11_tellNothing (fe_X11_tellNothing (pc := 5) rfl) rfl
  · rw [if_neg ck] at H; cases H
theorem hc_X11_tellBesides : ci_code (ci_Ms 146) = k_X11_tellBesides := rfl
theorem fe_X11_tellBesides {pc : Nat} {w : Option ci_I} (h : (k_X11_tellBesides)[pc]? = some w) : (k_X11_tellBesides)[pc]? = some w := h
def F_X11_tellBesides (a0 : Nat) (a1 : Int64) (h : ci_H) : Option (ci_H) := if kO h a0 = some 11 then ((gI h a0 11 7).bind fun v1 => if 6 ≤ v1 then (some h) else ((gR h a0 11 6).bind fun v3 => (gI h a0 11 7).bind fun v4 => (wL h v3 v4 a1).bind fun h5 => (gI h5 a0 11 7).bind fun v6 => (pF h5 a0 11 7 (.int (v6 + 1))).bind fun h7 => some h7)) else none
theorem K_X11_tellBesides {a0 : Nat} {a1 : Int64} {h : ci_H} {r : ci_H} (H : F_X11_tellBesides a0 a1 h = some r) : kO h a0 = some 11 := by
  unfold F_X11_tellBesides at H
  by_cases c : kO h a0 = some 11
  · exact c
  · rw [if_neg c] at H; cases H
set_option maxHeartbeats 4000000 in
set_option maxRecDepth 20000 in
theorem E_X11_tellBesides {xs : Nat → Int32} {N d : Nat} {nx : ci_N} {a0 : Nat} {a1 : Int64} {h : ci_H} {r : ci_H} (H : F_X11_tellBesides a0 a1 h = some r) (hd : 0 ≤ d) : Ev xs N d 146 0 (ci_entry [.ref a0, .long a1] 3) [] h nx (oV r nx) := by
  unfold F_X11_tellBesides at H
  by_cases ck : kO h a0 = some 11
  · rw [if_pos ck] at H
    show Ev xs N d 146 0 [.ref a0, .long a1, ci_junk] [] h nx _
    refine ev_go hc_X11_tellBesides (k := 1) (pc' := 1) (L' := [.ref a0, .long a1, ci_junk]) (S' := [.ref a0]) rfl ?_
    obtain ⟨v1, ev1, H⟩ := Option.bind_eq_some_iff.mp H
    refine ev_4 hc_X11_tellBesides (fe_X11_tellBesides (pc := 1) rfl) (gI_gf ev1) ?_
    refine ev_go hc_X11_tellBesides (k := 1) (pc' := 6) (L' := [.ref a0, .long a1, ci_junk]) (S' := [.int 6, .int v1]) rfl ?_
    by_cases c2 : 6 ≤ v1
    · rw [if_pos c2] at H
      refine ev_bt hc_X11_tellBesides (fe_X11_tellBesides (pc := 6) rfl) rfl c2 ?_
      obtain rfl := Option.some.inj H
      exact ev_8 hc_X11_tellBesides (fe_X11_tellBesides (pc := 29) rfl) rfl
    · rw [if_neg c2] at H
      refine ev_bf hc_X11_tellBesides (fe_X11_tellBesides (pc := 6) rfl) rfl c2 ?_
      refine ev_go hc_X11_tellBesides (k := 1) (pc' := 10) (L' := [.ref a0, .long a1, ci_junk]) (S' := [.ref a0]) rfl ?_
      obtain ⟨v3, ev3, H⟩ := Option.bind_eq_some_iff.mp H
      refine ev_4 hc_X11_tellBesides (fe_X11_tellBesides (pc := 10) rfl) (gR_gf ev3) ?_
      refine ev_go hc_X11_tellBesides (k := 1) (pc' := 14) (L' := [.ref a0, .long a1, ci_junk]) (S' := [.ref a0, .ref v3]) rfl ?_
      obtain ⟨v4, ev4, H⟩ := Option.bind_eq_some_iff.mp H
      refine ev_4 hc_X11_tellBesides (fe_X11_tellBesides (pc := 14) rfl) (gI_gf ev4) ?_
      refine ev_go hc_X11_tellBesides (k := 1) (pc' := 18) (L' := [.ref a0, .long a1, ci_junk]) (S' := [.long a1, .int v4, .ref v3]) rfl ?_
      obtain ⟨h5, eh5, H⟩ := Option.bind_eq_some_iff.mp H
      refine ev_5 hc_X11_tellBesides (fe_X11_tellBesides (pc := 18) rfl) (wL_as eh5) ?_
      refine ev_go hc_X11_tellBesides (k := 2) (pc' := 21) (L' := [.ref a0, .long a1, ci_junk]) (S' := [.ref a0, .ref a0]) rfl ?_
      obtain ⟨v6, ev6, H⟩ := Option.bind_eq_some_iff.mp H
      refine ev_4 hc_X11_tellBesides (fe_X11_tellBesides (pc := 21) rfl) (gI_gf ev6) ?_
      refine ev_go hc_X11_tellBesides (k := 2) (pc' := 26) (L' := [.ref a0, .long a1, ci_junk]) (S' := [.int (v6 + 1), .ref a0]) rfl ?_
      obtain ⟨h7, eh7, H⟩ := Option.bind_eq_some_iff.mp H
      refine ev_5 hc_X11_tellBesides (fe_X11_tellBesides (pc := 26) rfl) (pF_pf eh7) ?_
      obtain rfl := Option.some.inj H
      exact ev_8 hc_X11_tellBesides (fe_X11_tellBesides (pc := 29) rfl) rfl
  · rw [if_neg ck] at H; cases H
theorem hc_X11_tellTwo : ci_code (ci_Ms 148) = k_X11_tellTwo := rfl
theorem fe_X11_tellTwo {pc : Nat} {w : Option ci_I} (h : (k_X11_tellTwo)[pc]? = some w) : (k_X11_tellTwo)[pc]? = some w := h
def F_X11_tellTwo (a0 : Nat) (a1 : Int64) (a2 : Int64) (h : ci_H) : Option (ci_H) := if kO h a0 = some 11 then ((F_X11_tellNothing a0 h).bind fun h1 => (F_X11_tellBesides a0 a1 h1).bind fun h2 => (F_X11_tellBesides a0 a2 h2).bind fun h3 => some h3) else none
theorem K_X11_tellTwo {a0 : Nat} {a1 : Int64} {a2 : Int64} {h : ci_H} {r : ci_H} (H : F_X11_tellTwo a0 a1 a2 h = some r) : kO h a0 = some 11 := by
  unfold F_X11_tellTwo at H
  by_cases c : kO h a0 = some 11
  · exact c
  · rw [if_neg c] at H; cases H
set_option maxHeartbeats 4000000 in
set_option maxRecDepth 20000 in
theorem E_X11_tellTwo {xs : Nat → Int32} {N d : Nat} {nx : ci_N} {a0 : Nat} {a1 : Int64} {a2 : Int64} {h : ci_H} {r : ci_H} (H : F_X11_tellTwo a0 a1 a2 h = some r) (hd : 1 ≤ d) : Ev xs N d 148 0 (ci_entry [.ref a0, .long a1, .long a2] 5) [] h nx (oV r nx) := by
  obtain ⟨d, rfl⟩ : ∃ d2, d = d2 + 1 := ⟨d - 1, by omega⟩
  have hd : 0 ≤ d := by omega
  unfold F_X11_tellTwo at H
  by_cases ck : kO h a0 = some 11
  · rw [if_pos ck] at H
    show Ev xs N (d + 1) 148 0 [.ref a0, .long a1, ci_junk, .long a2, ci_junk] [] h nx _
    refine ev_go hc_X11_tellTwo (k := 1) (pc' := 1) (L' := [.ref a0, .long a1, ci_junk, .long a2, ci_junk]) (S' := [.ref a0]) rfl ?_
    obtain ⟨h1, eh1, H⟩ := Option.bind_eq_some_iff.mp H
    refine ev_call (vs := [.ref a0]) (rest := []) (q := q_X11_tellNothing) hc_X11_tellTwo (Or.inr rfl) (fe_X11_tellTwo (pc := 1) rfl) ms_145 rfl rfl (Nat.le_of_ble_eq_true rfl) (kO_recv (K_X11_tellNothing eh1)) (E_X11_tellNothing eh1 (by omega)) rfl ?_
    show Ev xs N (d + 1) 148 4 [.ref a0, .long a1, ci_junk, .long a2, ci_junk] [] h1 nx _
    refine ev_go hc_X11_tellTwo (k := 2) (pc' := 6) (L' := [.ref a0, .long a1, ci_junk, .long a2, ci_junk]) (S' := [.long a1, .ref a0]) rfl ?_
    obtain ⟨h2, eh2, H⟩ := Option.bind_eq_some_iff.mp H
    refine ev_call (vs := [.ref a0, .long a1]) (rest := []) (q := q_X11_tellBesides) hc_X11_tellTwo (Or.inr rfl) (fe_X11_tellTwo (pc := 6) rfl) ms_146 rfl rfl (Nat.le_of_ble_eq_true rfl) (kO_recv (K_X11_tellBesides eh2)) (E_X11_tellBesides eh2 (by omega)) rfl ?_
    show Ev xs N (d + 1) 148 9 [.ref a0, .long a1, ci_junk, .long a2, ci_junk] [] h2 nx _
    refine ev_go hc_X11_tellTwo (k := 2) (pc' := 11) (L' := [.ref a0, .long a1, ci_junk, .long a2, ci_junk]) (S' := [.long a2, .ref a0]) rfl ?_
    obtain ⟨h3, eh3, H⟩ := Option.bind_eq_some_iff.mp H
    refine ev_call (vs := [.ref a0, .long a2]) (rest := []) (q := q_X11_tellBesides) hc_X11_tellTwo (Or.inr rfl) (fe_X11_tellTwo (pc := 11) rfl) ms_146 rfl rfl (Nat.le_of_ble_eq_true rfl) (kO_recv (K_X11_tellBesides eh3)) (E_X11_tellBesides eh3 (by omega)) rfl ?_
    show Ev xs N (d + 1) 148 14 [.ref a0, .long a1, ci_junk, .long a2, ci_junk] [] h3 nx _
    obtain rfl := Option.some.inj H
    exact ev_8 hc_X11_tellTwo (fe_X11_tellTwo (pc := 14) rfl) rfl
  · rw [if_neg ck] at H; cases H
theorem hc_X11_hours : ci_code (ci_Ms 112) = k_X11_hours := rfl
theorem fe_X11_hours {pc : Nat} {w : Option ci_I} (h : (k_X11_hours)[pc]? = some w) : (k_X11_hours)[pc]? = some w := h
def b_X11_hours_40 (l0 : Nat) (l2 : Int32)  (h : ci_H) : Option (Int32 × ci_H) := (gR h l0 11 0).bind fun v1 => (gR h v1 10 0).bind fun v2 => (gI h v2 6 4).bind fun v3 => (F_X11_tellTwo l0 ((l2 : Int32).toInt64) ((v3 : Int32).toInt64) h).bind fun h4 => (F_J6_bitCount_0f7a4 l2 h4).bind fun q5 => some (q5.1, q5.2)
set_option maxHeartbeats 4000000 in
set_option maxRecDepth 20000 in
theorem eb_X11_hours_40 {xs : Nat → Int32} {N d : Nat} {nx : ci_N} {l0 : Nat} {l2 : Int32} (hd : 4 ≤ d) {h : ci_H} {r : Int32 × ci_H} (H : b_X11_hours_40 l0 l2 h = some r) : Ev xs N (d + 1) 112 40 [.ref l0, ci_junk, .int l2] [] h nx (oI r nx) := by
  unfold b_X11_hours_40 at H
  refine ev_go hc_X11_hours (k := 4) (pc' := 44) (L' := [.ref l0, ci_junk, .int l2]) (S' := [.ref l0, .long ((l2 : Int32).toInt64), .ref l0]) rfl ?_
  obtain ⟨v1, ev1, H⟩ := Option.bind_eq_some_iff.mp H
  refine ev_4 hc_X11_hours (fe_X11_hours (pc := 44) rfl) (gR_gf ev1) ?_
  obtain ⟨v2, ev2, H⟩ := Option.bind_eq_some_iff.mp H
  refine ev_4 hc_X11_hours (fe_X11_hours (pc := 47) rfl) (gR_gf ev2) ?_
  obtain ⟨v3, ev3, H⟩ := Option.bind_eq_some_iff.mp H
  refine ev_4 hc_X11_hours (fe_X11_hours (pc := 50) rfl) (gI_gf ev3) ?_
  refine ev_go hc_X11_hours (k := 1) (pc' := 54) (L' := [.ref l0, ci_junk, .int l2]) (S' := [.long ((v3 : Int32).toInt64), .long ((l2 : Int32).toInt64), .ref l0]) rfl ?_
  obtain ⟨h4, eh4, H⟩ := Option.bind_eq_some_iff.mp H
  refine ev_call (vs := [.ref l0, .long ((l2 : Int32).toInt64), .long ((v3 : Int32).toInt64)]) (rest := []) (q := q_X11_tellTwo) hc_X11_hours (Or.inr rfl) (fe_X11_hours (pc := 54) rfl) ms_148 rfl rfl (Nat.le_of_ble_eq_true rfl) (kO_recv (K_X11_tellTwo eh4)) (E_X11_tellTwo eh4 (by omega)) rfl ?_
  show Ev xs N (d + 1) 112 57 [.ref l0, ci_junk, .int l2] [] h4 nx _
  refine ev_go hc_X11_hours (k := 1) (pc' := 58) (L' := [.ref l0, ci_junk, .int l2]) (S' := [.int l2]) rfl ?_
  obtain ⟨q5, eq5, H⟩ := Option.bind_eq_some_iff.mp H
  refine ev_call (vs := [.int l2]) (rest := []) (q := q_J6_bitCount_0f7a4) hc_X11_hours (Or.inl rfl) (fe_X11_hours (pc := 58) rfl) ms_285 rfl rfl (Nat.le_of_ble_eq_true rfl) rfl (E_J6_bitCount_0f7a4 eq5 (by omega)) rfl ?_
  show Ev xs N (d + 1) 112 61 [.ref l0, ci_junk, .int l2] [.int q5.1] q5.2 nx _
  obtain rfl := Option.some.inj H
  exact ev_8 hc_X11_hours (fe_X11_hours (pc := 61) rfl) rfl
def F_X11_hours (a0 : Nat) (a1 : Int32) (h : ci_H) : Option (Int32 × ci_H) := if kO h a0 = some 11 then ((gR h a0 11 5).bind fun v1 => (gR h a0 11 0).bind fun v2 => (gR h v2 10 0).bind fun v3 => (F_X2_mark v1 v3 h).bind fun h4 => (gR h4 a0 11 0).bind fun v5 => (F_X10_passHours v5 a1 h4).bind fun q6 => if 0 ≤ q6.1 then (if a1 ≤ 0 then (b_X11_hours_40 a0 q6.1 q6.2) else ((gR q6.2 a0 11 5).bind fun v9 => (F_X2_hold v9 q6.2).bind fun h10 => b_X11_hours_40 a0 q6.1 h10)) else (some ((-1), q6.2))) else none
theorem K_X11_hours {a0 : Nat} {a1 : Int32} {h : ci_H} {r : Int32 × ci_H} (H : F_X11_hours a0 a1 h = some r) : kO h a0 = some 11 := by
  unfold F_X11_hours at H
  by_cases c : kO h a0 = some 11
  · exact c
  · rw [if_neg c] at H; cases H
set_option maxHeartbeats 4000000 in
set_option maxRecDepth 20000 in
theorem E_X11_hours {xs : Nat → Int32} {N d : Nat} {nx : ci_N} {a0 : Nat} {a1 : Int32} {h : ci_H} {r : Int32 × ci_H} (H : F_X11_hours a0 a1 h = some r) (hd : 5 ≤ d) : Ev xs N d 112 0 (ci_entry [.ref a0, .int a1] 3) [] h nx (oI r nx) := by
  obtain ⟨d, rfl⟩ : ∃ d2, d = d2 + 1 := ⟨d - 1, by omega⟩
  have hd : 4 ≤ d := by omega
  unfold F_X11_hours at H
  by_cases ck : kO h a0 = some 11
  · rw [if_pos ck] at H
    show Ev xs N (d + 1) 112 0 [.ref a0, .int a1, ci_junk] [] h nx _
    refine ev_go hc_X11_hours (k := 1) (pc' := 1) (L' := [.ref a0, .int a1, ci_junk]) (S' := [.ref a0]) rfl ?_
    obtain ⟨v1, ev1, H⟩ := Option.bind_eq_some_iff.mp H
    refine ev_4 hc_X11_hours (fe_X11_hours (pc := 1) rfl) (gR_gf ev1) ?_
    refine ev_go hc_X11_hours (k := 1) (pc' := 5) (L' := [.ref a0, .int a1, ci_junk]) (S' := [.ref a0, .ref v1]) rfl ?_
    obtain ⟨v2, ev2, H⟩ := Option.bind_eq_some_iff.mp H
    refine ev_4 hc_X11_hours (fe_X11_hours (pc := 5) rfl) (gR_gf ev2) ?_
    obtain ⟨v3, ev3, H⟩ := Option.bind_eq_some_iff.mp H
    refine ev_4 hc_X11_hours (fe_X11_hours (pc := 8) rfl) (gR_gf ev3) ?_
    obtain ⟨h4, eh4, H⟩ := Option.bind_eq_some_iff.mp H
    refine ev_call (vs := [.ref v1, .ref v3]) (rest := []) (q := q_X2_mark) hc_X11_hours (Or.inr rfl) (fe_X11_hours (pc := 11) rfl) ms_11 rfl rfl (Nat.le_of_ble_eq_true rfl) (kO_recv (K_X2_mark eh4)) (E_X2_mark eh4 (by omega)) rfl ?_
    show Ev xs N (d + 1) 112 14 [.ref a0, .int a1, ci_junk] [] h4 nx _
    refine ev_go hc_X11_hours (k := 1) (pc' := 15) (L' := [.ref a0, .int a1, ci_junk]) (S' := [.ref a0]) rfl ?_
    obtain ⟨v5, ev5, H⟩ := Option.bind_eq_some_iff.mp H
    refine ev_4 hc_X11_hours (fe_X11_hours (pc := 15) rfl) (gR_gf ev5) ?_
    refine ev_go hc_X11_hours (k := 1) (pc' := 19) (L' := [.ref a0, .int a1, ci_junk]) (S' := [.int a1, .ref v5]) rfl ?_
    obtain ⟨q6, eq6, H⟩ := Option.bind_eq_some_iff.mp H
    refine ev_call (vs := [.ref v5, .int a1]) (rest := []) (q := q_X10_passHours) hc_X11_hours (Or.inr rfl) (fe_X11_hours (pc := 19) rfl) ms_93 rfl rfl (Nat.le_of_ble_eq_true rfl) (kO_recv (K_X10_passHours eq6)) (E_X10_passHours eq6 (by omega)) rfl ?_
    show Ev xs N (d + 1) 112 22 [.ref a0, .int a1, ci_junk] [.int q6.1] q6.2 nx _
    refine ev_go hc_X11_hours (k := 2) (pc' := 24) (L' := [.ref a0, .int a1, .int q6.1]) (S' := [.int q6.1]) rfl ?_
    by_cases c7 : 0 ≤ q6.1
    · rw [if_pos c7] at H
      refine ev_bt hc_X11_hours (fe_X11_hours (pc := 24) rfl) rfl c7 ?_
      refine ev_go hc_X11_hours (k := 1) (pc' := 30) (L' := [.ref a0, .int a1, .int q6.1]) (S' := [.int a1]) rfl ?_
      by_cases c8 : a1 ≤ 0
      · rw [if_pos c8] at H
        refine ev_bt hc_X11_hours (fe_X11_hours (pc := 30) rfl) rfl c8 ?_
        exact Ev.weak (ci_le_c (Or.inr rfl) (ci_le_c (Or.inl rfl) (ci_le_c (Or.inr rfl) (ci_le_n)))) (eb_X11_hours_40 hd H)
      · rw [if_neg c8] at H
        refine ev_bf hc_X11_hours (fe_X11_hours (pc := 30) rfl) rfl c8 ?_
        refine ev_go hc_X11_hours (k := 1) (pc' := 34) (L' := [.ref a0, .int a1, .int q6.1]) (S' := [.ref a0]) rfl ?_
        obtain ⟨v9, ev9, H⟩ := Option.bind_eq_some_iff.mp H
        refine ev_4 hc_X11_hours (fe_X11_hours (pc := 34) rfl) (gR_gf ev9) ?_
        obtain ⟨h10, eh10, H⟩ := Option.bind_eq_some_iff.mp H
        refine ev_call (vs := [.ref v9]) (rest := []) (q := q_X2_hold) hc_X11_hours (Or.inr rfl) (fe_X11_hours (pc := 37) rfl) ms_12 rfl rfl (Nat.le_of_ble_eq_true rfl) (kO_recv (K_X2_hold eh10)) (E_X2_hold eh10 (by omega)) rfl ?_
        show Ev xs N (d + 1) 112 40 [.ref a0, .int a1, .int q6.1] [] h10 nx _
        exact Ev.weak (ci_le_c (Or.inr rfl) (ci_le_c (Or.inl rfl) (ci_le_c (Or.inr rfl) (ci_le_n)))) (eb_X11_hours_40 hd H)
    · rw [if_neg c7] at H
      refine ev_bf hc_X11_hours (fe_X11_hours (pc := 24) rfl) rfl c7 ?_
      refine ev_go hc_X11_hours (k := 1) (pc' := 28) (L' := [.ref a0, .int a1, .int q6.1]) (S' := [.int ((-1))]) rfl ?_
      obtain rfl := Option.some.inj H
      exact ev_8 hc_X11_hours (fe_X11_hours (pc := 28) rfl) rfl
  · rw [if_neg ck] at H; cases H
theorem hc_X11_day : ci_code (ci_Ms 113) = k_X11_day := rfl
theorem fe_X11_day {pc : Nat} {w : Option ci_I} (h : (k_X11_day)[pc]? = some w) : (k_X11_day)[pc]? = some w := h
def b_X11_day_125 (l0 : Nat) (l2 : Int32) (s0 : Nat) (s1 : Int64)  (h : ci_H) : Option (Int32 × ci_H) := (gR h l0 11 0).bind fun v1 => (F_X10_breakers v1 h).bind fun q2 => (F_J6_bitCount_0f7a4 q2.1 q2.2).bind fun q3 => (F_X11_tellTwo s0 s1 ((q3.1 : Int32).toInt64) q3.2).bind fun h4 => some (l2, h4)
set_option maxHeartbeats 4000000 in
set_option maxRecDepth 20000 in
theorem eb_X11_day_125 {xs : Nat → Int32} {N d : Nat} {nx : ci_N} {l0 : Nat} {l2 : Int32} {s0 : Nat} {s1 : Int64} (hd : 5 ≤ d) {h : ci_H} {r : Int32 × ci_H} (H : b_X11_day_125 l0 l2 s0 s1 h = some r) : Ev xs N (d + 1) 113 125 [.ref l0, ci_junk, .int l2] [.long s1, .ref s0] h nx (oI r nx) := by
  unfold b_X11_day_125 at H
  refine ev_go hc_X11_day (k := 1) (pc' := 126) (L' := [.ref l0, ci_junk, .int l2]) (S' := [.ref l0, .long s1, .ref s0]) rfl ?_
  obtain ⟨v1, ev1, H⟩ := Option.bind_eq_some_iff.mp H
  refine ev_4 hc_X11_day (fe_X11_day (pc := 126) rfl) (gR_gf ev1) ?_
  obtain ⟨q2, eq2, H⟩ := Option.bind_eq_some_iff.mp H
  refine ev_call (vs := [.ref v1]) (rest := [.long s1, .ref s0]) (q := q_X10_breakers) hc_X11_day (Or.inr rfl) (fe_X11_day (pc := 129) rfl) ms_84 rfl rfl (Nat.le_of_ble_eq_true rfl) (kO_recv (K_X10_breakers eq2)) (E_X10_breakers eq2 (by omega)) rfl ?_
  show Ev xs N (d + 1) 113 132 [.ref l0, ci_junk, .int l2] [.int q2.1, .long s1, .ref s0] q2.2 nx _
  obtain ⟨q3, eq3, H⟩ := Option.bind_eq_some_iff.mp H
  refine ev_call (vs := [.int q2.1]) (rest := [.long s1, .ref s0]) (q := q_J6_bitCount_0f7a4) hc_X11_day (Or.inl rfl) (fe_X11_day (pc := 132) rfl) ms_285 rfl rfl (Nat.le_of_ble_eq_true rfl) rfl (E_J6_bitCount_0f7a4 eq3 (by omega)) rfl ?_
  show Ev xs N (d + 1) 113 135 [.ref l0, ci_junk, .int l2] [.int q3.1, .long s1, .ref s0] q3.2 nx _
  refine ev_go hc_X11_day (k := 1) (pc' := 136) (L' := [.ref l0, ci_junk, .int l2]) (S' := [.long ((q3.1 : Int32).toInt64), .long s1, .ref s0]) rfl ?_
  obtain ⟨h4, eh4, H⟩ := Option.bind_eq_some_iff.mp H
  refine ev_call (vs := [.ref s0, .long s1, .long ((q3.1 : Int32).toInt64)]) (rest := []) (q := q_X11_tellTwo) hc_X11_day (Or.inr rfl) (fe_X11_day (pc := 136) rfl) ms_148 rfl rfl (Nat.le_of_ble_eq_true rfl) (kO_recv (K_X11_tellTwo eh4)) (E_X11_tellTwo eh4 (by omega)) rfl ?_
  show Ev xs N (d + 1) 113 139 [.ref l0, ci_junk, .int l2] [] h4 nx _
  refine ev_go hc_X11_day (k := 1) (pc' := 140) (L' := [.ref l0, ci_junk, .int l2]) (S' := [.int l2]) rfl ?_
  obtain rfl := Option.some.inj H
  exact ev_8 hc_X11_day (fe_X11_day (pc := 140) rfl) rfl
def b_X11_day_114 (l0 : Nat) (l1 : Int32) (l2 : Int32)  (h : ci_H) : Option (Int32 × ci_H) := if l1 ≤ l2 then (b_X11_day_125 l0 l2 l0 (Int64.ofNat 0) h) else (b_X11_day_125 l0 l2 l0 (Int64.ofNat 1) h)
set_option maxHeartbeats 4000000 in
set_option maxRecDepth 20000 in
theorem eb_X11_day_114 {xs : Nat → Int32} {N d : Nat} {nx : ci_N} {l0 : Nat} {l1 : Int32} {l2 : Int32} (hd : 5 ≤ d) {h : ci_H} {r : Int32 × ci_H} (H : b_X11_day_114 l0 l1 l2 h = some r) : Ev xs N (d + 1) 113 114 [.ref l0, .int l1, .int l2] [] h nx (oI r nx) := by
  unfold b_X11_day_114 at H
  refine ev_go hc_X11_day (k := 3) (pc' := 117) (L' := [.ref l0, .int l1, .int l2]) (S' := [.int l1, .int l2, .ref l0]) rfl ?_
  by_cases c1 : l1 ≤ l2
  · rw [if_pos c1] at H
    refine ev_bt hc_X11_day (fe_X11_day (pc := 117) rfl) rfl c1 ?_
    refine ev_go hc_X11_day (k := 1) (pc' := 125) (L' := [.ref l0, .int l1, .int l2]) (S' := [.long (Int64.ofNat 0), .ref l0]) rfl ?_
    exact Ev.weak (ci_le_c (Or.inr rfl) (ci_le_c (Or.inl rfl) (ci_le_c (Or.inr rfl) (ci_le_n)))) (eb_X11_day_125 hd H)
  · rw [if_neg c1] at H
    refine ev_bf hc_X11_day (fe_X11_day (pc := 117) rfl) rfl c1 ?_
    refine ev_go hc_X11_day (k := 2) (pc' := 125) (L' := [.ref l0, .int l1, .int l2]) (S' := [.long (Int64.ofNat 1), .ref l0]) rfl ?_
    exact Ev.weak (ci_le_c (Or.inr rfl) (ci_le_c (Or.inl rfl) (ci_le_c (Or.inr rfl) (ci_le_n)))) (eb_X11_day_125 hd H)
def b_X11_day_103 (l0 : Nat) (l1 : Int32) (l2 : Int32)  (h : ci_H) : Option (Int32 × ci_H) := if l2 ≤ 0 then (b_X11_day_114 l0 l1 l2 h) else ((gR h l0 11 5).bind fun v2 => (F_X2_hold v2 h).bind fun h3 => b_X11_day_114 l0 l1 l2 h3)
set_option maxHeartbeats 4000000 in
set_option maxRecDepth 20000 in
theorem eb_X11_day_103 {xs : Nat → Int32} {N d : Nat} {nx : ci_N} {l0 : Nat} {l1 : Int32} {l2 : Int32} (hd : 5 ≤ d) {h : ci_H} {r : Int32 × ci_H} (H : b_X11_day_103 l0 l1 l2 h = some r) : Ev xs N (d + 1) 113 103 [.ref l0, .int l1, .int l2] [] h nx (oI r nx) := by
  unfold b_X11_day_103 at H
  refine ev_go hc_X11_day (k := 1) (pc' := 104) (L' := [.ref l0, .int l1, .int l2]) (S' := [.int l2]) rfl ?_
  by_cases c1 : l2 ≤ 0
  · rw [if_pos c1] at H
    refine ev_bt hc_X11_day (fe_X11_day (pc := 104) rfl) rfl c1 ?_
    exact Ev.weak (ci_le_c (Or.inr rfl) (ci_le_c (Or.inr rfl) (ci_le_c (Or.inr rfl) (ci_le_n)))) (eb_X11_day_114 hd H)
  · rw [if_neg c1] at H
    refine ev_bf hc_X11_day (fe_X11_day (pc := 104) rfl) rfl c1 ?_
    refine ev_go hc_X11_day (k := 1) (pc' := 108) (L' := [.ref l0, .int l1, .int l2]) (S' := [.ref l0]) rfl ?_
    obtain ⟨v2, ev2, H⟩ := Option.bind_eq_some_iff.mp H
    refine ev_4 hc_X11_day (fe_X11_day (pc := 108) rfl) (gR_gf ev2) ?_
    obtain ⟨h3, eh3, H⟩ := Option.bind_eq_some_iff.mp H
    refine ev_call (vs := [.ref v2]) (rest := []) (q := q_X2_hold) hc_X11_day (Or.inr rfl) (fe_X11_day (pc := 111) rfl) ms_12 rfl rfl (Nat.le_of_ble_eq_true rfl) (kO_recv (K_X2_hold eh3)) (E_X2_hold eh3 (by omega)) rfl ?_
    show Ev xs N (d + 1) 113 114 [.ref l0, .int l1, .int l2] [] h3 nx _
    exact Ev.weak (ci_le_c (Or.inr rfl) (ci_le_c (Or.inr rfl) (ci_le_c (Or.inr rfl) (ci_le_n)))) (eb_X11_day_114 hd H)
def b_X11_day_52 (l0 : Nat) (l1 : Int32) : Nat → Int32 → ci_H → Option (Int32 × ci_H)
  | 0, _, _ => none
  | n + 1, l2, h => if l1 ≤ l2 then (b_X11_day_103 l0 l1 l2 h) else (if 20 ≤ l2 then (b_X11_day_103 l0 l1 l2 h) else ((gR h l0 11 2).bind fun v3 => (gR h v3 8 1).bind fun v4 => (rI h v4 l2).bind fun v5 => (gR h l0 11 2).bind fun v6 => (gR h v6 8 2).bind fun v7 => (rI h v7 l2).bind fun v8 => (gR h l0 11 2).bind fun v9 => (gR h v9 8 3).bind fun v10 => (rI h v10 l2).bind fun v11 => (F_X11_acted l0 v5 v8 v11 h).bind fun q12 => if q12.1 < 0 then (b_X11_day_103 l0 l1 l2 q12.2) else (b_X11_day_52 l0 l1 n (l2 + 1) q12.2)))
set_option maxHeartbeats 4000000 in
set_option maxRecDepth 20000 in
theorem eb_X11_day_52 {xs : Nat → Int32} {N d : Nat} {nx : ci_N} {l0 : Nat} {l1 : Int32} (hd : 5 ≤ d) : ∀ (n : Nat) (l2 : Int32) (h : ci_H) (r : Int32 × ci_H), b_X11_day_52 l0 l1 n l2 h = some r → Ev xs N (d + 1) 113 52 [.ref l0, .int l1, .int l2] [] h nx (oI r nx) := by
  intro n
  induction n with
  | zero => intro l2 h r H; unfold b_X11_day_52 at H; cases H
  | succ n ih =>
    intro l2 h r H
    unfold b_X11_day_52 at H
    refine ev_go hc_X11_day (k := 2) (pc' := 54) (L' := [.ref l0, .int l1, .int l2]) (S' := [.int l1, .int l2]) rfl ?_
    by_cases c1 : l1 ≤ l2
    · rw [if_pos c1] at H
      refine ev_bt hc_X11_day (fe_X11_day (pc := 54) rfl) rfl c1 ?_
      exact Ev.weak (ci_le_c (Or.inr rfl) (ci_le_c (Or.inr rfl) (ci_le_c (Or.inr rfl) (ci_le_n)))) (eb_X11_day_103 hd H)
    · rw [if_neg c1] at H
      refine ev_bf hc_X11_day (fe_X11_day (pc := 54) rfl) rfl c1 ?_
      refine ev_go hc_X11_day (k := 2) (pc' := 60) (L' := [.ref l0, .int l1, .int l2]) (S' := [.int 20, .int l2]) rfl ?_
      by_cases c2 : 20 ≤ l2
      · rw [if_pos c2] at H
        refine ev_bt hc_X11_day (fe_X11_day (pc := 60) rfl) rfl c2 ?_
        exact Ev.weak (ci_le_c (Or.inr rfl) (ci_le_c (Or.inr rfl) (ci_le_c (Or.inr rfl) (ci_le_n)))) (eb_X11_day_103 hd H)
      · rw [if_neg c2] at H
        refine ev_bf hc_X11_day (fe_X11_day (pc := 60) rfl) rfl c2 ?_
        refine ev_go hc_X11_day (k := 2) (pc' := 65) (L' := [.ref l0, .int l1, .int l2]) (S' := [.ref l0, .ref l0]) rfl ?_
        obtain ⟨v3, ev3, H⟩ := Option.bind_eq_some_iff.mp H
        refine ev_4 hc_X11_day (fe_X11_day (pc := 65) rfl) (gR_gf ev3) ?_
        obtain ⟨v4, ev4, H⟩ := Option.bind_eq_some_iff.mp H
        refine ev_4 hc_X11_day (fe_X11_day (pc := 68) rfl) (gR_gf ev4) ?_
        refine ev_go hc_X11_day (k := 1) (pc' := 72) (L' := [.ref l0, .int l1, .int l2]) (S' := [.int l2, .ref v4, .ref l0]) rfl ?_
        obtain ⟨v5, ev5, H⟩ := Option.bind_eq_some_iff.mp H
        refine ev_4 hc_X11_day (fe_X11_day (pc := 72) rfl) (rI_al ev5) ?_
        refine ev_go hc_X11_day (k := 1) (pc' := 74) (L' := [.ref l0, .int l1, .int l2]) (S' := [.ref l0, .int v5, .ref l0]) rfl ?_
        obtain ⟨v6, ev6, H⟩ := Option.bind_eq_some_iff.mp H
        refine ev_4 hc_X11_day (fe_X11_day (pc := 74) rfl) (gR_gf ev6) ?_
        obtain ⟨v7, ev7, H⟩ := Option.bind_eq_some_iff.mp H
        refine ev_4 hc_X11_day (fe_X11_day (pc := 77) rfl) (gR_gf ev7) ?_
        refine ev_go hc_X11_day (k := 1) (pc' := 81) (L' := [.ref l0, .int l1, .int l2]) (S' := [.int l2, .ref v7, .int v5, .ref l0]) rfl ?_
        obtain ⟨v8, ev8, H⟩ := Option.bind_eq_some_iff.mp H
        refine ev_4 hc_X11_day (fe_X11_day (pc := 81) rfl) (rI_al ev8) ?_
        refine ev_go hc_X11_day (k := 1) (pc' := 83) (L' := [.ref l0, .int l1, .int l2]) (S' := [.ref l0, .int v8, .int v5, .ref l0]) rfl ?_
        obtain ⟨v9, ev9, H⟩ := Option.bind_eq_some_iff.mp H
        refine ev_4 hc_X11_day (fe_X11_day (pc := 83) rfl) (gR_gf ev9) ?_
        obtain ⟨v10, ev10, H⟩ := Option.bind_eq_some_iff.mp H
        refine ev_4 hc_X11_day (fe_X11_day (pc := 86) rfl) (gR_gf ev10) ?_
        refine ev_go hc_X11_day (k := 1) (pc' := 90) (L' := [.ref l0, .int l1, .int l2]) (S' := [.int l2, .ref v10, .int v8, .int v5, .ref l0]) rfl ?_
        obtain ⟨v11, ev11, H⟩ := Option.bind_eq_some_iff.mp H
        refine ev_4 hc_X11_day (fe_X11_day (pc := 90) rfl) (rI_al ev11) ?_
        obtain ⟨q12, eq12, H⟩ := Option.bind_eq_some_iff.mp H
        refine ev_call (vs := [.ref l0, .int v5, .int v8, .int v11]) (rest := []) (q := q_X11_acted) hc_X11_day (Or.inr rfl) (fe_X11_day (pc := 91) rfl) ms_151 rfl rfl (Nat.le_of_ble_eq_true rfl) (kO_recv (K_X11_acted eq12)) (E_X11_acted eq12 (by omega)) rfl ?_
        show Ev xs N (d + 1) 113 94 [.ref l0, .int l1, .int l2] [.int q12.1] q12.2 nx _
        by_cases c13 : q12.1 < 0
        · rw [if_pos c13] at H
          refine ev_bt hc_X11_day (fe_X11_day (pc := 94) rfl) rfl c13 ?_
          exact Ev.weak (ci_le_c (Or.inr rfl) (ci_le_c (Or.inr rfl) (ci_le_c (Or.inr rfl) (ci_le_n)))) (eb_X11_day_103 hd H)
        · rw [if_neg c13] at H
          refine ev_bf hc_X11_day (fe_X11_day (pc := 94) rfl) rfl c13 ?_
          refine ev_go hc_X11_day (k := 2) (pc' := 52) (L' := [.ref l0, .int l1, .int (l2 + 1)]) (S' := []) rfl ?_
          exact Ev.weak (ci_le_c (Or.inr rfl) (ci_le_c (Or.inr rfl) (ci_le_c (Or.inr rfl) (ci_le_n)))) (ih _ _ _ H)
def b_X11_day_21 (l0 : Nat) (s0 : Int32)  (h : ci_H) : Option (Int32 × ci_H) := (gR h l0 11 1).bind fun v1 => (pF h v1 9 1 (.int 0)).bind fun h2 => if 0 ≤ s0 then ((gR h2 l0 11 5).bind fun v4 => (gR h2 l0 11 0).bind fun v5 => (gR h2 v5 10 0).bind fun v6 => (F_X2_mark v4 v6 h2).bind fun h7 => b_X11_day_52 l0 s0 bigN 0 h7) else (some (s0, h2))
set_option maxHeartbeats 4000000 in
set_option maxRecDepth 20000 in
theorem eb_X11_day_21 {xs : Nat → Int32} {N d : Nat} {nx : ci_N} {l0 : Nat} {s0 : Int32} (hd : 5 ≤ d) {h : ci_H} {r : Int32 × ci_H} (H : b_X11_day_21 l0 s0 h = some r) : Ev xs N (d + 1) 113 21 [.ref l0, ci_junk, ci_junk] [.int s0] h nx (oI r nx) := by
  unfold b_X11_day_21 at H
  refine ev_go hc_X11_day (k := 2) (pc' := 23) (L' := [.ref l0, .int s0, ci_junk]) (S' := [.ref l0]) rfl ?_
  obtain ⟨v1, ev1, H⟩ := Option.bind_eq_some_iff.mp H
  refine ev_4 hc_X11_day (fe_X11_day (pc := 23) rfl) (gR_gf ev1) ?_
  refine ev_go hc_X11_day (k := 1) (pc' := 27) (L' := [.ref l0, .int s0, ci_junk]) (S' := [.int 0, .ref v1]) rfl ?_
  obtain ⟨h2, eh2, H⟩ := Option.bind_eq_some_iff.mp H
  refine ev_5 hc_X11_day (fe_X11_day (pc := 27) rfl) (pF_pf eh2) ?_
  refine ev_go hc_X11_day (k := 1) (pc' := 31) (L' := [.ref l0, .int s0, ci_junk]) (S' := [.int s0]) rfl ?_
  by_cases c3 : 0 ≤ s0
  · rw [if_pos c3] at H
    refine ev_bt hc_X11_day (fe_X11_day (pc := 31) rfl) rfl c3 ?_
    refine ev_go hc_X11_day (k := 1) (pc' := 37) (L' := [.ref l0, .int s0, ci_junk]) (S' := [.ref l0]) rfl ?_
    obtain ⟨v4, ev4, H⟩ := Option.bind_eq_some_iff.mp H
    refine ev_4 hc_X11_day (fe_X11_day (pc := 37) rfl) (gR_gf ev4) ?_
    refine ev_go hc_X11_day (k := 1) (pc' := 41) (L' := [.ref l0, .int s0, ci_junk]) (S' := [.ref l0, .ref v4]) rfl ?_
    obtain ⟨v5, ev5, H⟩ := Option.bind_eq_some_iff.mp H
    refine ev_4 hc_X11_day (fe_X11_day (pc := 41) rfl) (gR_gf ev5) ?_
    obtain ⟨v6, ev6, H⟩ := Option.bind_eq_some_iff.mp H
    refine ev_4 hc_X11_day (fe_X11_day (pc := 44) rfl) (gR_gf ev6) ?_
    obtain ⟨h7, eh7, H⟩ := Option.bind_eq_some_iff.mp H
    refine ev_call (vs := [.ref v4, .ref v6]) (rest := []) (q := q_X2_mark) hc_X11_day (Or.inr rfl) (fe_X11_day (pc := 47) rfl) ms_11 rfl rfl (Nat.le_of_ble_eq_true rfl) (kO_recv (K_X2_mark eh7)) (E_X2_mark eh7 (by omega)) rfl ?_
    show Ev xs N (d + 1) 113 50 [.ref l0, .int s0, ci_junk] [] h7 nx _
    refine ev_go hc_X11_day (k := 2) (pc' := 52) (L' := [.ref l0, .int s0, .int 0]) (S' := []) rfl ?_
    exact Ev.weak (ci_le_c (Or.inr rfl) (ci_le_c (Or.inr rfl) (ci_le_c (Or.inr rfl) (ci_le_n)))) (eb_X11_day_52 hd bigN _ _ _ H)
  · rw [if_neg c3] at H
    refine ev_bf hc_X11_day (fe_X11_day (pc := 31) rfl) rfl c3 ?_
    refine ev_go hc_X11_day (k := 1) (pc' := 35) (L' := [.ref l0, .int s0, ci_junk]) (S' := [.int s0]) rfl ?_
    obtain rfl := Option.some.inj H
    exact ev_8 hc_X11_day (fe_X11_day (pc := 35) rfl) rfl
def F_X11_day (a0 : Nat) (h : ci_H) : Option (Int32 × ci_H) := if kO h a0 = some 11 then ((gR h a0 11 1).bind fun v1 => (gI h v1 9 1).bind fun v2 => if v2 = 0 then (b_X11_day_21 a0 0 h) else ((gR h a0 11 2).bind fun v4 => (F_X8_readDay v4 h).bind fun q5 => b_X11_day_21 a0 q5.1 q5.2)) else none
theorem K_X11_day {a0 : Nat} {h : ci_H} {r : Int32 × ci_H} (H : F_X11_day a0 h = some r) : kO h a0 = some 11 := by
  unfold F_X11_day at H
  by_cases c : kO h a0 = some 11
  · exact c
  · rw [if_neg c] at H; cases H
set_option maxHeartbeats 4000000 in
set_option maxRecDepth 20000 in
theorem E_X11_day {xs : Nat → Int32} {N d : Nat} {nx : ci_N} {a0 : Nat} {h : ci_H} {r : Int32 × ci_H} (H : F_X11_day a0 h = some r) (hd : 6 ≤ d) : Ev xs N d 113 0 (ci_entry [.ref a0] 3) [] h nx (oI r nx) := by
  obtain ⟨d, rfl⟩ : ∃ d2, d = d2 + 1 := ⟨d - 1, by omega⟩
  have hd : 5 ≤ d := by omega
  unfold F_X11_day at H
  by_cases ck : kO h a0 = some 11
  · rw [if_pos ck] at H
    show Ev xs N (d + 1) 113 0 [.ref a0, ci_junk, ci_junk] [] h nx _
    refine ev_go hc_X11_day (k := 1) (pc' := 1) (L' := [.ref a0, ci_junk, ci_junk]) (S' := [.ref a0]) rfl ?_
    obtain ⟨v1, ev1, H⟩ := Option.bind_eq_some_iff.mp H
    refine ev_4 hc_X11_day (fe_X11_day (pc := 1) rfl) (gR_gf ev1) ?_
    obtain ⟨v2, ev2, H⟩ := Option.bind_eq_some_iff.mp H
    refine ev_4 hc_X11_day (fe_X11_day (pc := 4) rfl) (gI_gf ev2) ?_
    by_cases c3 : v2 = 0
    · rw [if_pos c3] at H
      refine ev_bt hc_X11_day (fe_X11_day (pc := 7) rfl) rfl c3 ?_
      refine ev_go hc_X11_day (k := 2) (pc' := 21) (L' := [.ref a0, ci_junk, ci_junk]) (S' := [.int 0]) rfl ?_
      exact Ev.weak (ci_le_c (Or.inr rfl) (ci_le_c (Or.inl rfl) (ci_le_c (Or.inl rfl) (ci_le_n)))) (eb_X11_day_21 hd H)
    · rw [if_neg c3] at H
      refine ev_bf hc_X11_day (fe_X11_day (pc := 7) rfl) rfl c3 ?_
      refine ev_go hc_X11_day (k := 1) (pc' := 15) (L' := [.ref a0, ci_junk, ci_junk]) (S' := [.ref a0]) rfl ?_
      obtain ⟨v4, ev4, H⟩ := Option.bind_eq_some_iff.mp H
      refine ev_4 hc_X11_day (fe_X11_day (pc := 15) rfl) (gR_gf ev4) ?_
      obtain ⟨q5, eq5, H⟩ := Option.bind_eq_some_iff.mp H
      refine ev_call (vs := [.ref v4]) (rest := []) (q := q_X8_readDay) hc_X11_day (Or.inr rfl) (fe_X11_day (pc := 18) rfl) ms_46 rfl rfl (Nat.le_of_ble_eq_true rfl) (kO_recv (K_X8_readDay eq5)) (E_X8_readDay eq5 (by omega)) rfl ?_
      show Ev xs N (d + 1) 113 21 [.ref a0, ci_junk, ci_junk] [.int q5.1] q5.2 nx _
      exact Ev.weak (ci_le_c (Or.inr rfl) (ci_le_c (Or.inl rfl) (ci_le_c (Or.inl rfl) (ci_le_n)))) (eb_X11_day_21 hd H)
  · rw [if_neg ck] at H; cases H
theorem hc_X11_undo : ci_code (ci_Ms 114) = k_X11_undo := rfl
theorem fe_X11_undo {pc : Nat} {w : Option ci_I} (h : (k_X11_undo)[pc]? = some w) : (k_X11_undo)[pc]? = some w := h
def F_X11_undo (a0 : Nat) (h : ci_H) : Option (Int32 × ci_H) := if kO h a0 = some 11 then ((gR h a0 11 5).bind fun v1 => (gI h v1 2 2).bind fun v2 => if v2 = 0 then (some ((-1), h)) else ((gR h a0 11 5).bind fun v4 => (gR h a0 11 0).bind fun v5 => (gR h v5 10 0).bind fun v6 => (F_X2_stepBack v4 v6 h).bind fun h7 => (gR h7 a0 11 0).bind fun v8 => (F_X10_sortThings v8 h7).bind fun h9 => (gR h9 a0 11 5).bind fun v10 => (gI h9 v10 2 2).bind fun v11 => some (v11, h9))) else none
theorem K_X11_undo {a0 : Nat} {h : ci_H} {r : Int32 × ci_H} (H : F_X11_undo a0 h = some r) : kO h a0 = some 11 := by
  unfold F_X11_undo at H
  by_cases c : kO h a0 = some 11
  · exact c
  · rw [if_neg c] at H; cases H
set_option maxHeartbeats 4000000 in
set_option maxRecDepth 20000 in
theorem E_X11_undo {xs : Nat → Int32} {N d : Nat} {nx : ci_N} {a0 : Nat} {h : ci_H} {r : Int32 × ci_H} (H : F_X11_undo a0 h = some r) (hd : 2 ≤ d) : Ev xs N d 114 0 (ci_entry [.ref a0] 1) [] h nx (oI r nx) := by
  obtain ⟨d, rfl⟩ : ∃ d2, d = d2 + 1 := ⟨d - 1, by omega⟩
  have hd : 1 ≤ d := by omega
  unfold F_X11_undo at H
  by_cases ck : kO h a0 = some 11
  · rw [if_pos ck] at H
    show Ev xs N (d + 1) 114 0 [.ref a0] [] h nx _
    refine ev_go hc_X11_undo (k := 1) (pc' := 1) (L' := [.ref a0]) (S' := [.ref a0]) rfl ?_
    obtain ⟨v1, ev1, H⟩ := Option.bind_eq_some_iff.mp H
    refine ev_4 hc_X11_undo (fe_X11_undo (pc := 1) rfl) (gR_gf ev1) ?_
    obtain ⟨v2, ev2, H⟩ := Option.bind_eq_some_iff.mp H
    refine ev_4 hc_X11_undo (fe_X11_undo (pc := 4) rfl) (gI_gf ev2) ?_
    by_cases c3 : v2 = 0
    · rw [if_pos c3] at H
      refine ev_bt hc_X11_undo (fe_X11_undo (pc := 7) rfl) rfl c3 ?_
      refine ev_go hc_X11_undo (k := 1) (pc' := 11) (L' := [.ref a0]) (S' := [.int ((-1))]) rfl ?_
      obtain rfl := Option.some.inj H
      exact ev_8 hc_X11_undo (fe_X11_undo (pc := 11) rfl) rfl
    · rw [if_neg c3] at H
      refine ev_bf hc_X11_undo (fe_X11_undo (pc := 7) rfl) rfl c3 ?_
      refine ev_go hc_X11_undo (k := 1) (pc' := 13) (L' := [.ref a0]) (S' := [.ref a0]) rfl ?_
      obtain ⟨v4, ev4, H⟩ := Option.bind_eq_some_iff.mp H
      refine ev_4 hc_X11_undo (fe_X11_undo (pc := 13) rfl) (gR_gf ev4) ?_
      refine ev_go hc_X11_undo (k := 1) (pc' := 17) (L' := [.ref a0]) (S' := [.ref a0, .ref v4]) rfl ?_
      obtain ⟨v5, ev5, H⟩ := Option.bind_eq_some_iff.mp H
      refine ev_4 hc_X11_undo (fe_X11_undo (pc := 17) rfl) (gR_gf ev5) ?_
      obtain ⟨v6, ev6, H⟩ := Option.bind_eq_some_iff.mp H
      refine ev_4 hc_X11_undo (fe_X11_undo (pc := 20) rfl) (gR_gf ev6) ?_
      obtain ⟨h7, eh7, H⟩ := Option.bind_eq_some_iff.mp H
      refine ev_call (vs := [.ref v4, .ref v6]) (rest := []) (q := q_X2_stepBack) hc_X11_undo (Or.inr rfl) (fe_X11_undo (pc := 23) rfl) ms_13 rfl rfl (Nat.le_of_ble_eq_true rfl) (kO_recv (K_X2_stepBack eh7)) (E_X2_stepBack eh7 (by omega)) rfl ?_
      show Ev xs N (d + 1) 114 26 [.ref a0] [] h7 nx _
      refine ev_go hc_X11_undo (k := 1) (pc' := 27) (L' := [.ref a0]) (S' := [.ref a0]) rfl ?_
      obtain ⟨v8, ev8, H⟩ := Option.bind_eq_some_iff.mp H
      refine ev_4 hc_X11_undo (fe_X11_undo (pc := 27) rfl) (gR_gf ev8) ?_
      obtain ⟨h9, eh9, H⟩ := Option.bind_eq_some_iff.mp H
      refine ev_call (vs := [.ref v8]) (rest := []) (q := q_X10_sortThings) hc_X11_undo (Or.inr rfl) (fe_X11_undo (pc := 30) rfl) ms_71 rfl rfl (Nat.le_of_ble_eq_true rfl) (kO_recv (K_X10_sortThings eh9)) (E_X10_sortThings eh9 (by omega)) rfl ?_
      show Ev xs N (d + 1) 114 33 [.ref a0] [] h9 nx _
      refine ev_go hc_X11_undo (k := 1) (pc' := 34) (L' := [.ref a0]) (S' := [.ref a0]) rfl ?_
      obtain ⟨v10, ev10, H⟩ := Option.bind_eq_some_iff.mp H
      refine ev_4 hc_X11_undo (fe_X11_undo (pc := 34) rfl) (gR_gf ev10) ?_
      obtain ⟨v11, ev11, H⟩ := Option.bind_eq_some_iff.mp H
      refine ev_4 hc_X11_undo (fe_X11_undo (pc := 37) rfl) (gI_gf ev11) ?_
      obtain rfl := Option.some.inj H
      exact ev_8 hc_X11_undo (fe_X11_undo (pc := 40) rfl) rfl
  · rw [if_neg ck] at H; cases H
theorem hc_X11_broken : ci_code (ci_Ms 115) = k_X11_broken := rfl
theorem fe_X11_broken {pc : Nat} {w : Option ci_I} (h : (k_X11_broken)[pc]? = some w) : (k_X11_broken)[pc]? = some w := h
def b_X11_broken_6 (l0 : Nat) : Nat → Int32 → Int32 → Int32 → ci_H → Option (Int32 × ci_H)
  | 0, _, _, _, _ => none
  | n + 1, l1, l2, l3, h => (gR h l0 11 0).bind fun v1 => (gI h v1 10 5).bind fun v2 => if v2 ≤ l3 then ((F_X11_tellTwo l0 ((l1 : Int32).toInt64) ((l2 : Int32).toInt64) h).bind fun h4 => (gR h4 l0 11 0).bind fun v5 => (F_X10_breakers v5 h4).bind fun q6 => some (q6.1, q6.2)) else ((gR h l0 11 0).bind fun v7 => (F_X10_keptBy v7 l3 h).bind fun q8 => (gR q8.2 l0 11 0).bind fun v9 => (F_X10_brokenIn v9 q8.1 q8.2).bind fun q10 => (F_J6_bitCount_0f7a4 q10.1 q10.2).bind fun q11 => (gR q11.2 l0 11 0).bind fun v12 => (F_X10_tooManyIn v12 q8.1 q11.2).bind fun q13 => b_X11_broken_6 l0 n (l1 + q11.1) (l2 + q13.1) (l3 + 1) q13.2)
set_option maxHeartbeats 4000000 in
set_option maxRecDepth 20000 in
theorem eb_X11_broken_6 {xs : Nat → Int32} {N d : Nat} {nx : ci_N} {l0 : Nat} (hd : 2 ≤ d) : ∀ (n : Nat) (l1 : Int32) (l2 : Int32) (l3 : Int32) (h : ci_H) (r : Int32 × ci_H), b_X11_broken_6 l0 n l1 l2 l3 h = some r → Ev xs N (d + 1) 115 6 [.ref l0, .int l1, .int l2, .int l3, ci_junk] [] h nx (oI r nx) := by
  intro n
  induction n with
  | zero => intro l1 l2 l3 h r H; unfold b_X11_broken_6 at H; cases H
  | succ n ih =>
    intro l1 l2 l3 h r H
    unfold b_X11_broken_6 at H
    refine ev_go hc_X11_broken (k := 2) (pc' := 8) (L' := [.ref l0, .int l1, .int l2, .int l3, ci_junk]) (S' := [.ref l0, .int l3]) rfl ?_
    obtain ⟨v1, ev1, H⟩ := Option.bind_eq_some_iff.mp H
    refine ev_4 hc_X11_broken (fe_X11_broken (pc := 8) rfl) (gR_gf ev1) ?_
    obtain ⟨v2, ev2, H⟩ := Option.bind_eq_some_iff.mp H
    refine ev_4 hc_X11_broken (fe_X11_broken (pc := 11) rfl) (gI_gf ev2) ?_
    by_cases c3 : v2 ≤ l3
    · rw [if_pos c3] at H
      refine ev_bt hc_X11_broken (fe_X11_broken (pc := 14) rfl) rfl c3 ?_
      refine ev_go hc_X11_broken (k := 5) (pc' := 65) (L' := [.ref l0, .int l1, .int l2, .int l3, ci_junk]) (S' := [.long ((l2 : Int32).toInt64), .long ((l1 : Int32).toInt64), .ref l0]) rfl ?_
      obtain ⟨h4, eh4, H⟩ := Option.bind_eq_some_iff.mp H
      refine ev_call (vs := [.ref l0, .long ((l1 : Int32).toInt64), .long ((l2 : Int32).toInt64)]) (rest := []) (q := q_X11_tellTwo) hc_X11_broken (Or.inr rfl) (fe_X11_broken (pc := 65) rfl) ms_148 rfl rfl (Nat.le_of_ble_eq_true rfl) (kO_recv (K_X11_tellTwo eh4)) (E_X11_tellTwo eh4 (by omega)) rfl ?_
      show Ev xs N (d + 1) 115 68 [.ref l0, .int l1, .int l2, .int l3, ci_junk] [] h4 nx _
      refine ev_go hc_X11_broken (k := 1) (pc' := 69) (L' := [.ref l0, .int l1, .int l2, .int l3, ci_junk]) (S' := [.ref l0]) rfl ?_
      obtain ⟨v5, ev5, H⟩ := Option.bind_eq_some_iff.mp H
      refine ev_4 hc_X11_broken (fe_X11_broken (pc := 69) rfl) (gR_gf ev5) ?_
      obtain ⟨q6, eq6, H⟩ := Option.bind_eq_some_iff.mp H
      refine ev_call (vs := [.ref v5]) (rest := []) (q := q_X10_breakers) hc_X11_broken (Or.inr rfl) (fe_X11_broken (pc := 72) rfl) ms_84 rfl rfl (Nat.le_of_ble_eq_true rfl) (kO_recv (K_X10_breakers eq6)) (E_X10_breakers eq6 (by omega)) rfl ?_
      show Ev xs N (d + 1) 115 75 [.ref l0, .int l1, .int l2, .int l3, ci_junk] [.int q6.1] q6.2 nx _
      obtain rfl := Option.some.inj H
      exact ev_8 hc_X11_broken (fe_X11_broken (pc := 75) rfl) rfl
    · rw [if_neg c3] at H
      refine ev_bf hc_X11_broken (fe_X11_broken (pc := 14) rfl) rfl c3 ?_
      refine ev_go hc_X11_broken (k := 1) (pc' := 18) (L' := [.ref l0, .int l1, .int l2, .int l3, ci_junk]) (S' := [.ref l0]) rfl ?_
      obtain ⟨v7, ev7, H⟩ := Option.bind_eq_some_iff.mp H
      refine ev_4 hc_X11_broken (fe_X11_broken (pc := 18) rfl) (gR_gf ev7) ?_
      refine ev_go hc_X11_broken (k := 1) (pc' := 22) (L' := [.ref l0, .int l1, .int l2, .int l3, ci_junk]) (S' := [.int l3, .ref v7]) rfl ?_
      obtain ⟨q8, eq8, H⟩ := Option.bind_eq_some_iff.mp H
      refine ev_call (vs := [.ref v7, .int l3]) (rest := []) (q := q_X10_keptBy) hc_X11_broken (Or.inr rfl) (fe_X11_broken (pc := 22) rfl) ms_75 rfl rfl (Nat.le_of_ble_eq_true rfl) (kO_recv (K_X10_keptBy eq8)) (E_X10_keptBy eq8 (by omega)) rfl ?_
      show Ev xs N (d + 1) 115 25 [.ref l0, .int l1, .int l2, .int l3, ci_junk] [.int q8.1] q8.2 nx _
      refine ev_go hc_X11_broken (k := 3) (pc' := 29) (L' := [.ref l0, .int l1, .int l2, .int l3, .int q8.1]) (S' := [.ref l0, .int l1]) rfl ?_
      obtain ⟨v9, ev9, H⟩ := Option.bind_eq_some_iff.mp H
      refine ev_4 hc_X11_broken (fe_X11_broken (pc := 29) rfl) (gR_gf ev9) ?_
      refine ev_go hc_X11_broken (k := 1) (pc' := 34) (L' := [.ref l0, .int l1, .int l2, .int l3, .int q8.1]) (S' := [.int q8.1, .ref v9, .int l1]) rfl ?_
      obtain ⟨q10, eq10, H⟩ := Option.bind_eq_some_iff.mp H
      refine ev_call (vs := [.ref v9, .int q8.1]) (rest := [.int l1]) (q := q_X10_brokenIn) hc_X11_broken (Or.inr rfl) (fe_X11_broken (pc := 34) rfl) ms_80 rfl rfl (Nat.le_of_ble_eq_true rfl) (kO_recv (K_X10_brokenIn eq10)) (E_X10_brokenIn eq10 (by omega)) rfl ?_
      show Ev xs N (d + 1) 115 37 [.ref l0, .int l1, .int l2, .int l3, .int q8.1] [.int q10.1, .int l1] q10.2 nx _
      obtain ⟨q11, eq11, H⟩ := Option.bind_eq_some_iff.mp H
      refine ev_call (vs := [.int q10.1]) (rest := [.int l1]) (q := q_J6_bitCount_0f7a4) hc_X11_broken (Or.inl rfl) (fe_X11_broken (pc := 37) rfl) ms_285 rfl rfl (Nat.le_of_ble_eq_true rfl) rfl (E_J6_bitCount_0f7a4 eq11 (by omega)) rfl ?_
      show Ev xs N (d + 1) 115 40 [.ref l0, .int l1, .int l2, .int l3, .int q8.1] [.int q11.1, .int l1] q11.2 nx _
      refine ev_go hc_X11_broken (k := 4) (pc' := 44) (L' := [.ref l0, .int (l1 + q11.1), .int l2, .int l3, .int q8.1]) (S' := [.ref l0, .int l2]) rfl ?_
      obtain ⟨v12, ev12, H⟩ := Option.bind_eq_some_iff.mp H
      refine ev_4 hc_X11_broken (fe_X11_broken (pc := 44) rfl) (gR_gf ev12) ?_
      refine ev_go hc_X11_broken (k := 1) (pc' := 49) (L' := [.ref l0, .int (l1 + q11.1), .int l2, .int l3, .int q8.1]) (S' := [.int q8.1, .ref v12, .int l2]) rfl ?_
      obtain ⟨q13, eq13, H⟩ := Option.bind_eq_some_iff.mp H
      refine ev_call (vs := [.ref v12, .int q8.1]) (rest := [.int l2]) (q := q_X10_tooManyIn) hc_X11_broken (Or.inr rfl) (fe_X11_broken (pc := 49) rfl) ms_81 rfl rfl (Nat.le_of_ble_eq_true rfl) (kO_recv (K_X10_tooManyIn eq13)) (E_X10_tooManyIn eq13 (by omega)) rfl ?_
      show Ev xs N (d + 1) 115 52 [.ref l0, .int (l1 + q11.1), .int l2, .int l3, .int q8.1] [.int q13.1, .int l2] q13.2 nx _
      refine ev_go hc_X11_broken (k := 4) (pc' := 6) (L' := [.ref l0, .int (l1 + q11.1), .int (l2 + q13.1), .int (l3 + 1), .int q8.1]) (S' := []) rfl ?_
      exact Ev.weak (ci_le_c (Or.inr rfl) (ci_le_c (Or.inr rfl) (ci_le_c (Or.inr rfl) (ci_le_c (Or.inr rfl) (ci_le_c (Or.inl rfl) (ci_le_n)))))) (ih _ _ _ _ _ H)
def F_X11_broken (a0 : Nat) (h : ci_H) : Option (Int32 × ci_H) := if kO h a0 = some 11 then (b_X11_broken_6 a0 bigN 0 0 0 h) else none
theorem K_X11_broken {a0 : Nat} {h : ci_H} {r : Int32 × ci_H} (H : F_X11_broken a0 h = some r) : kO h a0 = some 11 := by
  unfold F_X11_broken at H
  by_cases c : kO h a0 = some 11
  · exact c
  · rw [if_neg c] at H; cases H
set_option maxHeartbeats 4000000 in
set_option maxRecDepth 20000 in
theorem E_X11_broken {xs : Nat → Int32} {N d : Nat} {nx : ci_N} {a0 : Nat} {h : ci_H} {r : Int32 × ci_H} (H : F_X11_broken a0 h = some r) (hd : 3 ≤ d) : Ev xs N d 115 0 (ci_entry [.ref a0] 5) [] h nx (oI r nx) := by
  obtain ⟨d, rfl⟩ : ∃ d2, d = d2 + 1 := ⟨d - 1, by omega⟩
  have hd : 2 ≤ d := by omega
  unfold F_X11_broken at H
  by_cases ck : kO h a0 = some 11
  · rw [if_pos ck] at H
    show Ev xs N (d + 1) 115 0 [.ref a0, ci_junk, ci_junk, ci_junk, ci_junk] [] h nx _
    refine ev_go hc_X11_broken (k := 6) (pc' := 6) (L' := [.ref a0, .int 0, .int 0, .int 0, ci_junk]) (S' := []) rfl ?_
    exact Ev.weak (ci_le_c (Or.inr rfl) (ci_le_c (Or.inr rfl) (ci_le_c (Or.inr rfl) (ci_le_c (Or.inr rfl) (ci_le_c (Or.inl rfl) (ci_le_n)))))) (eb_X11_broken_6 hd bigN _ _ _ _ _ H)
  · rw [if_neg ck] at H; cases H
